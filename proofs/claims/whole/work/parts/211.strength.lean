theorem q_s177 (S : tg_S) (k w la br : Nat) (hk : k < 16) (hw : S 5 k = nI w) (hl : la ≤ 1) (hS : S 15 k = nI br) (hb : br ≤ 9) : q_tr (f_X8_strength_177 S (nI k) (nI la)) (fun r => r.2 = nI (if br = 0 then 0 else w + (if la = 0 then 0 else 2)) ∧ ∀ k2 j, r.1 k2 j = if k2 = 15 ∧ j = k then nI (br - 1) else S k2 j) := by
  unfold f_X8_strength_177
  simp (disch := omega) only [q_lit, q_rd, hS, q_eq]
  refine q_if (fun a => ?_) (fun a => ?_)
  · refine q_ret ⟨?_, fun k2 j => ?_⟩
    · simp [a]
    · subst a; grind
  · simp (disch := omega) only [q_sub, q_wr, q_rd, q_stN, hw, q_add]
    refine q_if (fun a2 => ?_) (fun a2 => ?_)
    · refine q_ret ⟨?_, fun k2 j => ?_⟩
      · simp [a, a2]
      · simp only [q_stA]
    · refine q_ret ⟨?_, fun k2 j => ?_⟩
      · simp [a, a2]
      · simp only [q_stA]
theorem q_s129 (S : tg_S) (C : Nat → Nat → Nat) (k la call br : Nat) (hk : k < 16) (hw : S 5 k = nI (C 2 k)) (hl : la ≤ 1) (hla : la = 1 ↔ z_la C k) (hS : S 15 k = nI br) (hb : br ≤ 9) (hc : call ≤ 2) (hc0 : call ≠ 0) : q_tr (f_X8_strength_129 S (nI k) (nI call) (nI la) (nI (z_co C k))) (fun r => r.2 = nI (z_fo C k call br) ∧ ∀ k2 j, r.1 k2 j = if k2 = 15 ∧ j = k then nI (z_br C k call br) else S k2 j) := by
  have e2 : z_co C k ≤ 2 ∧ 1 ≤ z_co C k := by unfold z_co; split <;> omega
  unfold f_X8_strength_129
  simp (disch := omega) only [q_lit, q_rd, hS, q_eq, q_lt]
  have low : ¬ (call = 2 ∧ z_co C k ≤ br) → q_tr (f_X8_strength_177 S (nI k) (nI la)) (fun r => r.2 = nI (z_fo C k call br) ∧ ∀ k2 j, r.1 k2 j = if k2 = 15 ∧ j = k then nI (z_br C k call br) else S k2 j) := by
    intro hn
    refine q_mono (q_s177 S k (C 2 k) la br hk hw hl hS hb) (fun r hr => ⟨?_, fun k2 j => ?_⟩)
    · rw [hr.1]
      simp only [z_fo]
      grind
    · rw [hr.2]
      simp only [z_br]
      grind
  refine q_if (fun a => ?_) (fun a => ?_)
  · refine q_if (fun a2 => ?_) (fun a2 => ?_)
    · exact low (by omega)
    · simp (disch := omega) only [q_sub, q_wr, q_rd, q_stN, hw, q_mul, q_add]
      refine q_if (fun a3 => ?_) (fun a3 => ?_)
      · refine q_ret ⟨?_, fun k2 j => ?_⟩
        · simp only [z_fo]; grind
        · simp only [q_stA, z_br]; grind
      · refine q_ret ⟨?_, fun k2 j => ?_⟩
        · simp only [z_fo]; grind
        · simp only [q_stA, z_br]; grind
  · exact low (by omega)
theorem q_s56 (S : tg_S) (k w wi la mo br : Nat) (hk : k < 16) (hw : S 5 k = nI w) (hd : S 6 k = nI wi) (hl : la ≤ 1) (hS : S 15 k = nI br) (hb : br ≤ 9) (hm : mo ≤ 2) (hwi : wi ≤ 9) : q_tr (f_X8_strength_56 S (nI k) (nI la) (nI mo)) (fun r => r.2 = nI (if la = 0 then 0 else w) ∧ ∀ k2 j, r.1 k2 j = if k2 = 15 ∧ j = k then nI (if br + mo ≤ wi then br + mo else wi) else S k2 j) := by
  unfold f_X8_strength_56 f_X8_strength_99
  simp (disch := omega) only [q_lit, q_rd, hS, hd, q_add, q_le, q_eq, q_wr, q_stN, hw]
  refine q_if (fun a => ?_) (fun a => ?_)
  · refine q_if (fun a2 => ?_) (fun a2 => ?_)
    · exact q_ret ⟨by simp [a2], fun k2 j => by simp only [q_stA]; grind⟩
    · exact q_ret ⟨by simp [a2], fun k2 j => by simp only [q_stA]; grind⟩
  · refine q_if (fun a2 => ?_) (fun a2 => ?_)
    · exact q_ret ⟨by simp [a2], fun k2 j => by simp only [q_stA]; grind⟩
    · exact q_ret ⟨by simp [a2], fun k2 j => by simp only [q_stA]; grind⟩
theorem q_s28 (S : tg_S) (C : Nat → Nat → Nat) (k la call br : Nat) (hk : k < 16) (hso : S 4 k = nI (C 1 k)) (hw : S 5 k = nI (C 2 k)) (hd : S 6 k = nI (C 3 k)) (hl : la ≤ 1) (hla : la = 1 ↔ z_la C k) (hS : S 15 k = nI br) (hb : br ≤ C 3 k) (hc : call ≤ 2) (hs : C 1 k ≤ 2) (hw9 : C 3 k ≤ 9) : q_tr (f_X8_strength_28 S (nI k) (nI call) (nI la)) (fun r => r.2 = nI (z_fo C k call br) ∧ ∀ k2 j, r.1 k2 j = if k2 = 15 ∧ j = k then nI (z_br C k call br) else S k2 j) := by
  unfold f_X8_strength_28
  simp (disch := omega) only [q_lit, q_rd, hso, q_eq]
  refine q_if (fun a => ?_) (fun a => ?_)
  · refine q_if (fun a2 => ?_) (fun a2 => ?_)
    · rw [show (if C 1 k = 1 then nI 2 else nI 1) = nI (if C 1 k = 1 then 2 else 1) by split <;> rfl]
      refine q_mono (q_s56 S k (C 2 k) (C 3 k) la _ br hk hw hd hl hS (by omega) (by split <;> omega) hw9) (fun r hr => ⟨?_, fun k2 j => ?_⟩)
      · rw [hr.1]
        simp only [z_fo]
        grind
      · rw [hr.2]
        simp only [z_br]
        grind
    · refine q_mono (q_s56 S k (C 2 k) (C 3 k) la 0 br hk hw hd hl hS (by omega) (by omega) hw9) (fun r hr => ⟨?_, fun k2 j => ?_⟩)
      · rw [hr.1]
        simp only [z_fo]
        grind
      · rw [hr.2]
        simp only [z_br]
        grind
  · rw [show (if C 1 k = 0 then nI 1 else nI 2) = nI (z_co C k) by unfold z_co; split <;> rfl]
    exact q_s129 S C k la call br hk hw hl hla hS (by omega) hc a
/-- the contest in the reference's cells, as its runs need it -/
def z_r1 (T : tg_S) (C : Nat → Nat → Nat) : Prop := ∀ k, k < 16 → C 0 k = 1 → T 4 k = nI (C 1 k) ∧ T 5 k = nI (C 2 k) ∧ T 6 k = nI (C 3 k) ∧ (T 14 (k / 8) = nI k ↔ C 4 k = 1)
theorem q_strength (S : tg_S) (C : Nat → Nat → Nat) (hC : z_ok C) (hr : z_r1 S C) (k call br : Nat) (hk : k < 16) (h0 : C 0 k = 1) (hc : call ≤ 2) (hb : br ≤ C 3 k) (hS : S 15 k = nI br) : q_tr (f_X8_strength S (nI k) (nI call)) (fun r => r.2 = nI (z_fo C k call br) ∧ ∀ k2 j, r.1 k2 j = if k2 = 15 ∧ j = k then nI (z_br C k call br) else S k2 j) := by
  obtain ⟨h1, h2, h3, h4⟩ := hr k hk h0
  obtain ⟨b1, b2, b3⟩ := (hC.1 k hk).2 h0
  unfold f_X8_strength f_X8_strength_27
  simp (disch := omega) only [q_lit, q_rd, h1, q_eq, q_div]
  have g : ∀ la, la ≤ 1 → (la = 1 ↔ z_la C k) → q_tr (f_X8_strength_28 S (nI k) (nI call) (nI la)) (fun r => r.2 = nI (z_fo C k call br) ∧ ∀ k2 j, r.1 k2 j = if k2 = 15 ∧ j = k then nI (z_br C k call br) else S k2 j) := fun la hl hla => q_s28 S C k la call br hk h1 h2 h3 hl hla hS hb hc b1 b3
  refine q_if (fun a1 => ?_) (fun a1 => ?_)
  · refine q_if (fun a3 => ?_) (fun a3 => ?_)
    · exact g 1 (by omega) (by simp [z_la, a1, h4.mp a3])
    · exact g 0 (by omega) (by simp [z_la, a1]; exact fun h => a3 (h4.mpr h))
  · exact g 0 (by omega) (by simp [z_la, a1])
theorem q_pullsOne (S : tg_S) (C : Nat → Nat → Nat) (mi : Int32) (hC : z_ok C) (hr : z_r1 S C) (h5 : ∀ j, j < 48 → S 12 j = nI (C 5 j)) (b k br d su : Nat) (hb : b < 24) (hk : k < 16) (h0 : C 0 k = 1) (hbr : br ≤ C 3 k) (hS : S 15 k = nI br) (hd : S 16 k = nI d) (hsu : S 18 (k / 8) = nI su) (h18 : S 0 18 = nI (z_m C mi (b + 1))) (h20 : S 0 20 = z_sx C mi b (C 10 0)) (h19 : S 0 19 = nI (z_dg C mi b (C 10 0))) : q_tr (f_X8_pullsOne S (nI k) (nI b)) (fun S2 => ∀ k2 j, S2 k2 j = if k2 = 15 ∧ j = k then nI (z_bn C mi b k br) else if k2 = 17 ∧ j = k then nI (z_pu C mi b k br) else if k2 = 16 ∧ j = k then nI (d + z_pu C mi b k br) else if k2 = 18 ∧ j = k / 8 then nI (su + z_pu C mi b k br) else S k2 j) := by
  obtain ⟨e1, e2, e3, e4⟩ := hr k hk h0
  obtain ⟨b1, b2, b3⟩ := (hC.1 k hk).2 h0
  have hmd := z_m_le (mi := mi) hC (b + 1)
  have hca := z_ca_le (mi := mi) hC hb hk
  have hdg := z_dg_le (C := C) (mi := mi) (b := b) (C 10 0)
  -- behind the strength
  have fin : ∀ (S2 : tg_S) (fo br2 : Nat), fo ≤ 20 → z_pu C mi b k br = fo - (if C 1 k = 2 then 0 else z_m C mi (b + 1)) → z_bn C mi b k br = br2 → (∀ k2 j, S2 k2 j = if k2 = 15 ∧ j = k then nI br2 else S k2 j) → q_tr (f_X8_pullsOne_48 S2 (nI k) (nI fo)) (fun S2 => ∀ k2 j, S2 k2 j = if k2 = 15 ∧ j = k then nI (z_bn C mi b k br) else if k2 = 17 ∧ j = k then nI (z_pu C mi b k br) else if k2 = 16 ∧ j = k then nI (d + z_pu C mi b k br) else if k2 = 18 ∧ j = k / 8 then nI (su + z_pu C mi b k br) else S k2 j) := by
    intro S2 fo br2 hfo hpu hbn hS2
    have f : ∀ k2 j, k2 ≠ 15 → S2 k2 j = S k2 j := fun k2 j h => by rw [hS2]; simp [h]
    unfold f_X8_pullsOne_48 f_X8_pullsOne_68 f_X8_pullsOne_91
    simp (disch := omega) only [q_lit, q_rd, f, e1, q_eq, h18, q_div]
    rw [show (if C 1 k = 2 then nI 0 else nI (z_m C mi (b + 1))) = nI (if C 1 k = 2 then 0 else z_m C mi (b + 1)) by split <;> rfl]
    have hg9 : (if C 1 k = 2 then 0 else z_m C mi (b + 1)) ≤ 9 := by split <;> omega
    have e5 : (if nI fo ≤ nI (if C 1 k = 2 then 0 else z_m C mi (b + 1)) then nI 0 else nI fo - nI (if C 1 k = 2 then 0 else z_m C mi (b + 1))) = nI (z_pu C mi b k br) := by
      rw [hpu]
      generalize (if C 1 k = 2 then 0 else z_m C mi (b + 1)) = g at *
      simp (disch := omega) only [q_le]
      split
      · congr 1; omega
      · rw [q_sub (by omega)]
    rw [e5]
    simp (disch := omega) only [q_wr, q_rd, q_stN, q_stS, pk_us, f, hd, hsu, q_add]
    refine q_ret (fun k2 j => ?_)
    simp only [q_stA, hS2]
    rw [hbn]
    grind
  unfold f_X8_pullsOne f_X8_pullsOne_26
  have all : ∀ cl, z_ca C mi b k = cl → q_tr (tg_bd (f_X8_isIn S (S 0 20) (nI k)) fun S1 r2 => tg_if (r2 = 0) (tg_bd (f_X8_strength S1 (nI k) (nI cl)) fun S4 r5 => f_X8_pullsOne_48 S4 (nI k) r5) (f_X8_pullsOne_48 S1 (nI k) 0)) (fun S2 => ∀ k2 j, S2 k2 j = if k2 = 15 ∧ j = k then nI (z_bn C mi b k br) else if k2 = 17 ∧ j = k then nI (z_pu C mi b k br) else if k2 = 16 ∧ j = k then nI (d + z_pu C mi b k br) else if k2 = 18 ∧ j = k / 8 then nI (su + z_pu C mi b k br) else S k2 j) := by
    intro cl hcl
    rw [h20, q_isIn]
    by_cases hz : z_bit (z_sx C mi b (C 10 0)) k
    · rw [if_pos hz, q_bdS, q_ifT nI_0]
      refine q_bd (q_strength S C hC hr k cl br hk h0 (by omega) hbr hS) (fun S2 r hq => ?_)
      obtain ⟨hq1, hq2⟩ := hq
      dsimp only at hq1 hq2
      rw [hq1]
      refine fin S2 _ (z_br C k cl br) (z_fo_le b2) ?_ ?_ hq2
      · unfold z_pu
        rw [if_pos hz, hcl]
      · unfold z_bn
        rw [if_pos hz, hcl]
    · rw [if_neg hz, q_bdS, q_ifF (by decide)]
      refine fin S 0 br (by omega) ?_ ?_ ?_
      · unfold z_pu
        rw [if_neg hz]
      · unfold z_bn
        rw [if_neg hz]
      · intro k2 j
        split
        · rename_i hh
          rw [hh.1, hh.2, hS]
        · rfl
  rw [h19]
  have e6 := h5 (24 * (k / 8) + b) (by omega)
  refine q_if (fun a => ?_) (fun a => ?_)
  · refine all 0 ?_
    unfold z_ca
    rw [if_neg]
    intro h
    rw [h] at a
    exact absurd a (by decide)
  · simp (disch := omega) only [q_lit, q_div, q_mul, q_add, q_rd, e6]
    refine all (C 5 (24 * (k / 8) + b)) ?_
    unfold z_ca
    rw [if_pos]
    rcases (show z_dg C mi b (C 10 0) = 0 ∨ z_dg C mi b (C 10 0) = 1 by omega) with h | h
    · exact h
    · rw [h] at a
      exact absurd rfl a
