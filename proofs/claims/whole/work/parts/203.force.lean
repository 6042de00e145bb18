def z_rc (S : tg_S) (t : Nat) (C : Nat → Nat → Nat) (mi : Int32) : Prop := (∀ k, k < 16 → S (t + 1) k = nI (C 0 k)) ∧ (∀ k, k < 16 → C 0 k = 1 → S (t + 2) k = nI (C 1 k) ∧ S (t + 3) k = nI (C 2 k) ∧ S (t + 4) k = nI (C 3 k) ∧ (S (t + 6) (k / 8) = nI k ↔ C 4 k = 1)) ∧ (∀ j, j < 48 → S (t + 7) j = nI (C 5 j)) ∧ z_ev S (t + 8) C mi ∧ S t 8 = nI (C 10 1)
theorem q_f177 (c t : Nat) (S : tg_S) (k w la m : Nat) (hk : k < 16) (hw : S (t + 3) k = nI w) (hl : la ≤ 1) : f_X2_forceOf_177 c t S (nI k) (nI la) (nI m) = some (S, nI (m * w + (if la = 0 then 0 else 2))) := by
  unfold f_X2_forceOf_177
  simp (disch := omega) only [q_rd, hw, q_lit, q_eq, q_mul, q_add]
  unfold tg_if
  split <;> rfl
theorem q_f145 (c t : Nat) (ht : t + 11 < c) (S : tg_S) (k w la co h br : Nat) (hk : k < 16) (hw : S (t + 3) k = nI w) (hl : la ≤ 1) (hh : h ≤ 1) (hS : S (c + 6) k = nI br) (hb : br ≤ 9) (h1 : 1 ≤ br) (h2 : h = 1 → co ≤ br) : f_X2_forceOf_145 c t S (nI k) (nI la) (nI co) (nI h) = some (q_st S (c + 6) k (nI (br - (if h = 0 then 1 else co))), nI ((if h = 0 then 1 else 2) * w + (if la = 0 then 0 else 2))) := by
  unfold f_X2_forceOf_145 f_X2_forceOf_165
  rcases (show h = 0 ∨ h = 1 by omega) with rfl | rfl
  · simp (disch := omega) only [q_rd, hS, q_lit, q_eq, ↓reduceIte, q_wr, q_sub]
    rw [q_f177 c t _ k w la 1 hk (by rw [q_stN _ _ _ (by omega)]; exact hw) hl]
  · have := h2 rfl
    simp (disch := omega) only [q_rd, hS, q_lit, q_eq, if_neg, q_wr, q_sub]
    rw [q_f177 c t _ k w la 2 hk (by rw [q_stN _ _ _ (by omega)]; exact hw) hl]
theorem q_f62 (c t : Nat) (ht : t + 11 < c) (S : tg_S) (C : Nat → Nat → Nat) (k la call br : Nat) (hk : k < 16) (hw : S (t + 3) k = nI (C 2 k)) (hd : S (t + 4) k = nI (C 3 k)) (hl : la ≤ 1) (hla : la = 1 ↔ z_la C k) (hS : S (c + 6) k = nI br) (hb : br ≤ 9) (hc : call ≤ 2) (hs : C 1 k ≤ 2) (hw9 : C 3 k ≤ 9) (hno : ¬ (call = 0 ∧ la = 1)) : q_tr (f_X2_forceOf_62 c t S (nI k) (nI call) (nI (C 1 k)) (nI la)) (fun r => r.2 = nI (z_fo C k call br) ∧ ∀ k2 j, r.1 k2 j = if k2 = c + 6 ∧ j = k then nI (z_br C k call br) else S k2 j) := by
  unfold f_X2_forceOf_62 f_X2_forceOf_94 f_X2_forceOf_122 f_X2_forceOf_144
  simp (disch := omega) only [q_rd, hS, hd, q_lit, q_eq, q_lt]
  refine q_if (fun a1 => ?_) (fun a1 => ?_)
  · subst a1
    have e : (if C 1 k = 1 then nI 2 else nI 1) = nI (if C 1 k = 1 then 2 else 1) := by split <;> rfl
    rw [e]
    have e2 : (if C 1 k = 1 then 2 else 1) ≤ 2 := by split <;> omega
    simp (disch := omega) only [q_add, q_min, q_wr]
    refine q_ret ⟨?_, fun k2 j => ?_⟩
    · simp only [z_fo]; grind
    · simp only [q_stA, z_br]; grind
  · refine q_if (fun a2 => ?_) (fun a2 => ?_)
    · refine q_ret ⟨?_, fun k2 j => ?_⟩
      · simp only [z_fo]; grind
      · simp only [z_br]; grind
    · have e : (if C 1 k = 0 then nI 1 else nI 2) = nI (z_co C k) := by unfold z_co; split <;> rfl
      have e2 : z_co C k ≤ 2 := by unfold z_co; split <;> omega
      rw [e]
      simp (disch := omega) only [q_lt]
      refine q_if (fun a3 => ?_) (fun a3 => ?_)
      · refine q_if (fun a4 => ?_) (fun a4 => ?_)
        · rw [q_f145 c t ht S k _ la _ 0 br hk hw hl (by omega) hS hb (by omega) (by omega)]
          refine q_ret ⟨?_, fun k2 j => ?_⟩
          · simp only [z_fo]; grind
          · simp only [q_stA, z_br]; grind
        · rw [q_f145 c t ht S k _ la _ 1 br hk hw hl (by omega) hS hb (by omega) (by omega)]
          refine q_ret ⟨?_, fun k2 j => ?_⟩
          · simp only [z_fo]; grind
          · simp only [q_stA, z_br]; grind
      · rw [q_f145 c t ht S k _ la _ 0 br hk hw hl (by omega) hS hb (by omega) (by omega)]
        refine q_ret ⟨?_, fun k2 j => ?_⟩
        · simp only [z_fo]; grind
        · simp only [q_stA, z_br]; grind
theorem q_f44 (c t : Nat) (ht : t + 11 < c) (S : tg_S) (C : Nat → Nat → Nat) (k la call br : Nat) (hk : k < 16) (hw : S (t + 3) k = nI (C 2 k)) (hd : S (t + 4) k = nI (C 3 k)) (hl : la ≤ 1) (hla : la = 1 ↔ z_la C k) (hS : S (c + 6) k = nI br) (hb : br ≤ 9) (hc : call ≤ 2) (hs : C 1 k ≤ 2) (hw9 : C 3 k ≤ 9) : q_tr (f_X2_forceOf_44 c t S (nI k) (nI call) (nI (C 1 k)) (nI la)) (fun r => r.2 = nI (z_fo C k call br) ∧ ∀ k2 j, r.1 k2 j = if k2 = c + 6 ∧ j = k then nI (z_br C k call br) else S k2 j) := by
  unfold f_X2_forceOf_44
  simp (disch := omega) only [q_rd, hw, q_lit, q_eq]
  refine q_if (fun a1 => ?_) (fun a1 => ?_)
  · refine q_if (fun a2 => ?_) (fun a2 => ?_)
    · exact q_f62 c t ht S C k la call br hk hw hd hl hla hS hb hc hs hw9 (by omega)
    · refine q_ret ⟨?_, fun k2 j => ?_⟩
      · simp only [z_fo]; grind
      · simp only [z_br]; grind
  · exact q_f62 c t ht S C k la call br hk hw hd hl hla hS hb hc hs hw9 (by omega)
theorem q_force (c t : Nat) (ht : t + 11 < c) (S : tg_S) (C : Nat → Nat → Nat) (mi : Int32) (hC : z_ok C) (hr : z_rc S t C mi) (k call br : Nat) (hk : k < 16) (h0 : C 0 k = 1) (hc : call ≤ 2) (hb : br ≤ 9) (hS : S (c + 6) k = nI br) : q_tr (f_X2_forceOf c t S (nI k) (nI call)) (fun r => r.2 = nI (z_fo C k call br) ∧ ∀ k2 j, r.1 k2 j = if k2 = c + 6 ∧ j = k then nI (z_br C k call br) else S k2 j) := by
  obtain ⟨h1, h2, h3, h4⟩ := hr.2.1 k hk h0
  obtain ⟨b1, b2, b3⟩ := (hC.1 k hk).2 h0
  unfold f_X2_forceOf f_X2_forceOf_43 f_X2_forceOf_36 f_X2_forceOf_43
  simp (disch := omega) only [q_rd, h1, q_lit, q_eq, q_le]
  have g : ∀ la, la ≤ 1 → (la = 1 ↔ z_la C k) → q_tr (f_X2_forceOf_44 c t S (nI k) (nI call) (nI (C 1 k)) (nI la)) (fun r => r.2 = nI (z_fo C k call br) ∧ ∀ k2 j, r.1 k2 j = if k2 = c + 6 ∧ j = k then nI (z_br C k call br) else S k2 j) := fun la hl hla => q_f44 c t ht S C k la call br hk h2 h3 hl hla hS hb hc b1 b3
  refine q_if (fun a1 => ?_) (fun a1 => ?_)
  · refine q_if (fun a2 => ?_) (fun a2 => ?_)
    · rw [show k / 8 = 1 by omega] at h4
      refine q_if (fun a3 => ?_) (fun a3 => ?_)
      · exact g 1 (by omega) (by simp [z_la, a1, h4.mp a3.symm])
      · exact g 0 (by omega) (by simp [z_la, a1]; exact fun h => a3 (h4.mpr h).symm)
    · rw [show k / 8 = 0 by omega] at h4
      refine q_if (fun a3 => ?_) (fun a3 => ?_)
      · exact g 1 (by omega) (by simp [z_la, a1, h4.mp a3.symm])
      · exact g 0 (by omega) (by simp [z_la, a1]; exact fun h => a3 (h4.mpr h).symm)
  · exact g 0 (by omega) (by simp [z_la, a1])
