theorem q_g127 (T0 : tg_S) (b : Nat) (hb : b < 24) : ∀ (n i : Nat) (S : tg_S), 16 < n + i → i ≤ 16 → (∀ k j, S k j = if k = 22 ∧ 16 * b ≤ j ∧ j < 16 * b + i then T0 17 (j - 16 * b) else if k = 23 ∧ 16 * b ≤ j ∧ j < 16 * b + i then T0 15 (j - 16 * b) else T0 k j) → q_tr (L_X8_goesBy_127 n S (nI b) (nI i)) (fun S2 => ∀ k j, S2 k j = if k = 22 ∧ 16 * b ≤ j ∧ j < 16 * b + 16 then T0 17 (j - 16 * b) else if k = 23 ∧ 16 * b ≤ j ∧ j < 16 * b + 16 then T0 15 (j - 16 * b) else T0 k j) := by
  intro n
  induction n with
  | zero => intro i S h; omega
  | succ n ih =>
    intro i S h hi hI
    show q_tr (f_X8_goesBy_127 (L_X8_goesBy_127 n) S (nI b) (nI i)) _
    unfold f_X8_goesBy_127
    simp (disch := omega) only [q_lit, q_le]
    refine q_if (fun h => ?_) (fun h => ?_)
    · have : i = 16 := by omega
      subst this
      exact q_ret hI
    · simp (disch := omega) only [q_rd, q_mul, q_add, q_wr, q_nm, q_stN]
      refine ih (i + 1) _ (by omega) (by omega) (fun k j => ?_)
      simp only [q_stA]
      simp only [hI]
      clear ih hI
      grind (splits := 20)
theorem q_g127b (S : tg_S) (b : Nat) (hb : b < 24) : q_tr (L_X8_goesBy_127 tg_F S (nI b) (nI 0)) (fun S2 => ∀ k j, S2 k j = if k = 22 ∧ 16 * b ≤ j ∧ j < 16 * b + 16 then S 17 (j - 16 * b) else if k = 23 ∧ 16 * b ≤ j ∧ j < 16 * b + 16 then S 15 (j - 16 * b) else S k j) := q_g127 S b hb tg_F 0 S (by decide) (by decide) (fun k j => by grind)
/-- the reference's run behind B beats -/
def z_rs (T : tg_S) (C : Nat → Nat → Nat) (mi : Int32) (B : Nat) : Prop :=
  (T 0 18 = nI (z_m C mi B) ∧ T 0 21 = nI (z_sim C mi B 0) ∧ T 0 22 = z_wi (z_sim C mi B 1) ∧ T 0 23 = z_wb (z_sim C mi B 1) (z_sim C mi B 2) ∧ T 0 24 = nI (z_lv C mi B)) ∧
  (∀ k, k < 16 → C 0 k = 1 → T 15 k = nI (z_sim C mi B (3 + k)) ∧ T 16 k = nI (z_dn C mi k B)) ∧ (∀ k, k < 16 → ¬ C 0 k = 1 → T 16 k = nI 0) ∧
  (∀ b, b < B → T 19 b = nI (z_sim C mi (b + 1) 0) ∧ T 20 b = nI (z_m C mi (b + 1)) ∧ T 21 (2 * b) = nI (z_sum C mi b 0) ∧ T 21 (2 * b + 1) = nI (z_sum C mi b 8)) ∧
  ∀ b k, b < B → k < 16 → C 0 k = 1 → T 22 (16 * b + k) = nI (z_pk C mi b k) ∧ T 23 (16 * b + k) = nI (z_sim C mi (b + 1) (3 + k))
theorem q_goesBy_75 (S T0 : tg_S) (C : Nat → Nat → Nat) (mi : Int32) (b : Nat) (hb : b < 24) (h0 : z_rs T0 C mi b) (h18 : S 0 18 = nI (z_m C mi (b + 1))) (h21 : S 0 21 = nI (z_sim C mi (b + 1) 0)) (h22 : S 0 22 = z_wi (z_sim C mi (b + 1) 1)) (h23 : S 0 23 = z_wb (z_sim C mi (b + 1) 1) (z_sim C mi (b + 1) 2)) (h24 : S 0 24 = nI (z_lv C mi (b + 1)))
    (s0 : S 18 0 = nI (z_sum C mi b 0)) (s1 : S 18 1 = nI (z_sum C mi b 8)) (hk : ∀ k, k < 16 → C 0 k = 1 → S 15 k = nI (z_sim C mi (b + 1) (3 + k)) ∧ S 16 k = nI (z_dn C mi k (b + 1)) ∧ S 17 k = nI (z_pk C mi b k)) (hk2 : ∀ k, k < 16 → ¬ C 0 k = 1 → S 16 k = nI 0) (hf : ∀ k j, 18 < k → S k j = T0 k j) : q_tr (f_X8_goesBy_75 S (nI b)) (fun S2 => z_rs S2 C mi (b + 1) ∧ ∀ k j, (k < 19 ∨ 23 < k) → S2 k j = S k j) := by
  unfold f_X8_goesBy_75
  simp (disch := omega) only [q_lit, q_wr, q_rd, q_stN, s0, s1, q_mul, q_add]
  obtain ⟨-, -, -, i4, i5⟩ := h0
  refine q_mono (q_g127b _ b hb) (fun S2 hS2 => ⟨⟨⟨?_, ?_, ?_, ?_, ?_⟩, fun k hk3 h0 => ?_, fun k hk3 h0 => ?_, fun b2 hb2 => ?_, fun b2 k hb2 hk3 h0 => ?_⟩, fun k j hkj => ?_⟩)
  · rw [hS2]; simp [q_stA, h18]
  · rw [hS2]; simp [q_stA, h21]
  · rw [hS2]; simp [q_stA, h22]
  · rw [hS2]; simp [q_stA, h23]
  · rw [hS2]; simp [q_stA, h24]
  · rw [hS2, hS2]; simp [q_stA, (hk k hk3 h0).1, (hk k hk3 h0).2.1]
  · rw [hS2]; simp [q_stA, hk2 k hk3 h0]
  · rw [hS2, hS2, hS2, hS2]
    simp only [q_stA]
    rw [hf 19 b2 (by omega), hf 20 b2 (by omega), hf 21 (2 * b2) (by omega), hf 21 (2 * b2 + 1) (by omega), h21, h18]
    by_cases q : b2 = b
    · subst q
      grind
    · have := i4 b2 (by omega)
      grind
  · rw [hS2, hS2]
    simp only [q_stA]
    by_cases q : b2 = b
    · subst q
      have := hk k hk3 h0
      rw [show 16 * b2 + k - 16 * b2 = k by omega]
      grind
    · have := i5 b2 k (by omega) hk3 h0
      rw [hf 22 (16 * b2 + k) (by omega), hf 23 (16 * b2 + k) (by omega)]
      grind
  · rw [hS2]
    simp only [q_stA]
    grind
theorem q_goesBy (T0 : tg_S) (C : Nat → Nat → Nat) (mi : Int32) (hC : z_ok C) (hr : z_rk T0 C mi) (b : Nat) (hb : b < 24) (h0 : z_rs T0 C mi b) : q_tr (f_X8_goesBy T0 (nI b)) (fun S2 => z_rs S2 C mi (b + 1) ∧ ∀ k j, (k < 15 ∨ 23 < k) → (k ≠ 0 ∨ j < 18 ∨ 24 < j) → S2 k j = T0 k j) := by
  obtain ⟨⟨g18, g21, g22, g23, g24⟩, gk, gk2, g4, g5⟩ := id h0
  obtain ⟨p1, p2, p3, p4, p5⟩ := z_sim_ok (mi := mi) hC b
  unfold f_X8_goesBy
  refine q_bv (q_befalls T0 C mi hC hr.2.2.2 b (z_m C mi b) hb (z_m_le hC b) g18) (fun S1 hS1 => ?_)
  simp (disch := omega) only [q_lit, q_wr]
  generalize hT2 : q_st (q_st S1 18 0 (nI 0)) 18 1 (nI 0) = T2
  have f2 : ∀ k j, k ≠ 18 → T2 k j = S1 k j := fun k j h => by rw [← hT2, q_stN _ _ _ h, q_stN _ _ _ h]
  have f1 : ∀ k j, k ≠ 0 → S1 k j = T0 k j := fun k j h => by rw [hS1]; simp [h]
  have fa : ∀ k j, k ≠ 0 → k ≠ 18 → T2 k j = T0 k j := fun k j h h2 => by rw [f2 _ _ h2, f1 _ _ h]
  have fb : ∀ j, j < 18 ∨ 20 < j → T2 0 j = T0 0 j := fun j h => by
    rw [f2 _ _ (by omega), hS1]
    simp [show j ≠ 18 by omega, show j ≠ 19 by omega, show j ≠ 20 by omega]
  have hr2 : z_rk T2 C mi := z_rk_congr (fun k j h h2 => fa k j h (by omega)) (fb _ (by omega)) (fb _ (by omega)) (fb _ (by omega)) hr
  have e18 : T2 0 18 = nI (z_m C mi (b + 1)) := by rw [f2 _ _ (by omega), hS1]; simp [z_m]
  refine q_goesBy_L T2 C mi hC hr2 b hb (fun k hk h => by rw [fa _ _ (by omega) (by omega), fa _ _ (by omega) (by omega)]; exact gk k hk h) e18 (by rw [f2 _ _ (by omega), hS1]; simp) (by rw [f2 _ _ (by omega), hS1]; simp) (by rw [fb _ (by omega)]; exact g22) _ ?_ tg_F 0 T2 (by decide) (by decide) (fun k j => ?_)
  · intro rec S hI
    have fS : ∀ k j, k < 15 ∨ 18 < k → S k j = T2 k j := fun k j h => by rw [hI]; exact z_H_out h
    have hs0 : S 18 0 = nI (z_sum C mi b 0) := by rw [hI]; simp [z_H, z_sum]; split <;> rfl
    have hs1 : S 18 1 = nI (z_sum C mi b 8) := by rw [hI]; simp [z_H, z_sum]; split <;> rfl
    have hkS : ∀ k, k < 16 → C 0 k = 1 → S 15 k = nI (z_sim C mi (b + 1) (3 + k)) ∧ S 16 k = nI (z_dn C mi k (b + 1)) ∧ S 17 k = nI (z_pk C mi b k) := fun k hk h => by
      rw [hI, hI, hI]
      simp [z_H, hk, h]
    have hkS2 : ∀ k, k < 16 → ¬ C 0 k = 1 → S 16 k = nI 0 := fun k hk h => by
      rw [hI]
      simp [z_H, h]
      rw [fa _ _ (by omega) (by omega)]
      exact gk2 k hk h
    unfold f_X8_goesBy_21
    simp (disch := omega) only [q_lit, q_le, q_ifT]
    rw [fS 0 22 (by omega), fb _ (by omega), g22]
    by_cases hw : z_sim C mi b 1 = 2
    · obtain ⟨hp1, hp2⟩ := p2 hw
      have hu := z_su_le (mi := mi) (b := b) (lo := 0) (s := z_sim C mi b) hC 8 (by omega)
      have hd := z_su_le (mi := mi) (b := b) (lo := 8) (s := z_sim C mi b) hC 8 (by omega)
      rw [show z_wi (z_sim C mi b 1) = -nI 1 by unfold z_wi; rw [if_pos hw], q_ifT rfl]
      have ez : ∀ lo, z_sum C mi b lo = z_su C mi b (z_sim C mi b) lo 8 := fun lo => by simp [z_sum, hw]
      refine q_bv (q_goes S (z_sim C mi b 0) (z_su C mi b (z_sim C mi b) 0 8) (z_su C mi b (z_sim C mi b) 8 8) b (z_lv C mi b) hp1 hp2 (by omega) (by omega) (by rw [hs0, ez]) (by rw [hs1, ez]) (by rw [fS _ _ (by omega), fb _ (by omega)]; exact g21) (by rw [fS _ _ (by omega), fb _ (by omega)]; exact g24)) (fun S4 hS4 => ?_)
      have f4 : ∀ k j, k ≠ 0 → S4 k j = S k j := fun k j h => by rw [hS4]; simp [h]
      have e : ∀ i, z_sim C mi (b + 1) i = z_stp C mi b (z_sim C mi b) i := fun i => rfl
      refine q_mono (q_goesBy_75 S4 T0 C mi b hb h0 ?_ ?_ ?_ ?_ ?_ ?_ ?_ (fun k hk h => ?_) (fun k hk h => ?_) (fun k j h => ?_)) (fun S5 hS5 => ⟨hS5.1, fun k j hk hj => ?_⟩)
      · rw [hS4]; simp; rw [fS _ _ (by omega)]; exact e18
      · rw [hS4, e]; simp [z_stp, hw]
      · rw [hS4, e]; simp [z_stp, hw]
      · rw [hS4, e, e]; simp [z_stp, hw]
      · rw [hS4]; simp [z_lv, hw]
      · rw [f4 _ _ (by omega)]; exact hs0
      · rw [f4 _ _ (by omega)]; exact hs1
      · rw [f4 _ _ (by omega), f4 _ _ (by omega), f4 _ _ (by omega)]; exact hkS k hk h
      · rw [f4 _ _ (by omega)]; exact hkS2 k hk h
      · rw [f4 _ _ (by omega), fS _ _ (by omega), fa _ _ (by omega) (by omega)]
      · rw [hS5.2 k j (by omega)]
        by_cases hk0 : k = 0
        · subst hk0
          rw [hS4, fS _ _ (by omega), fb _ (by omega)]
          simp [show j ≠ 21 by omega, show j ≠ 22 by omega, show j ≠ 23 by omega, show j ≠ 24 by omega]
        · rw [f4 _ _ hk0, fS _ _ (by omega), fa _ _ hk0 (by omega)]
    · have ew : ¬ z_wi (z_sim C mi b 1) = -nI 1 := by
        unfold z_wi
        rw [if_neg hw, q_eqm (by omega)]
        exact id
      rw [q_ifF ew]
      have e : ∀ i, z_sim C mi (b + 1) i = z_sim C mi b i := fun i => by simp [z_sim, z_stp, hw]
      refine q_mono (q_goesBy_75 S T0 C mi b hb h0 ?_ ?_ ?_ ?_ ?_ hs0 hs1 hkS hkS2 (fun k j h => ?_)) (fun S5 hS5 => ⟨hS5.1, fun k j hk hj => ?_⟩)
      · rw [fS _ _ (by omega)]; exact e18
      · rw [fS _ _ (by omega), fb _ (by omega), e]; exact g21
      · rw [fS _ _ (by omega), fb _ (by omega), e]; exact g22
      · rw [fS _ _ (by omega), fb _ (by omega), e, e]; exact g23
      · rw [fS _ _ (by omega), fb _ (by omega), g24]; simp [z_lv, hw]
      · rw [fS _ _ (by omega), fa _ _ (by omega) (by omega)]
      · rw [hS5.2 k j (by omega), fS _ _ (by omega)]
        by_cases hk0 : k = 0
        · subst hk0
          exact fb j (by omega)
        · exact fa _ _ hk0 (by omega)
  · simp only [z_H]
    have q0 : T2 18 0 = nI 0 := by rw [← hT2]; simp [q_stA]
    have q1 : T2 18 1 = nI 0 := by rw [← hT2]; simp [q_stA]
    have r0 : z_su C mi b (z_sim C mi b) 0 0 = 0 := rfl
    have r8 : z_su C mi b (z_sim C mi b) 8 0 = 0 := rfl
    clear hr2 fa fb f1 f2 hS1 hT2 hr h0 gk gk2 g4 g5 hC p5
    grind
