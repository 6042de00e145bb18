theorem q_swapR_31 (T0 : tg_S) (A : Nat → Nat → Nat) (hA : z_aok A) (m i w : Nat) (hm : m < 2) (hi : i < z_sz A m) (s : Nat × Nat × Nat) (rec : tg_S → Int32 → Int32 → Int32 → Int32 → Option (tg_S × Int32)) (Q : tg_S × Int32 → Prop) (hrec : ∀ T, z_ro2 A T → T 0 16 = -nI 1 → z_tri T (z_si A m (8 * m + i) s (z_sz A m - (i + 1))) → z_rf T0 T → q_tr (rec T (nI m) (nI w) (nI (8 * m)) (nI (8 * m + i + 1))) Q) : ∀ (n d : Nat) (T : tg_S), z_sz A m < n + (i + 1 + d) → i + 1 + d ≤ z_sz A m → z_ro2 A T → T 0 16 = -nI 1 → z_tri T (z_si A m (8 * m + i) s d) → z_rf T0 T → q_tr (L_X8_swapOf_31 rec n T (nI m) (nI w) (nI (8 * m)) (nI (8 * m + i)) (nI (8 * m + i + 1 + d))) Q := by
  intro n
  have hsz := z_szle hA.1 m hm
  induction n with
  | zero => intro d T h; omega
  | succ n ih =>
    intro d T h hd hr h16 ht hf
    show q_tr (f_X8_swapOf_31 rec (L_X8_swapOf_31 rec n) T (nI m) (nI w) (nI (8 * m)) (nI (8 * m + i)) (nI (8 * m + i + 1 + d))) Q
    unfold f_X8_swapOf_31
    have e3 : T 3 m = nI (z_sz A m) := (hr.1.1 m hm).1
    simp (disch := omega) only [q_lit, q_rd, e3, q_add, q_le, q_nm, q_rem, q_mul]
    refine q_if (fun h1 => ?_) (fun h1 => ?_)
    · have : d = z_sz A m - (i + 1) := by omega
      rw [this] at ht
      exact hrec T hr h16 ht hf
    · simp (disch := omega) only [q_wr]
      have hrr := z_rr_swap T A hA hr h16 m (8 * m + i) (8 * m + i + 1 + d) hm (by omega) (by omega) (by omega) (q_st (q_st T 13 (8 * m + i) (nI ((8 * m + i + 1 + d) % 8))) 13 (8 * m + i + 1 + d) (nI ((8 * m + i) % 8))) (fun k j => by simp only [q_stA])
      have ht1 : z_tri (q_st (q_st T 13 (8 * m + i) (nI ((8 * m + i + 1 + d) % 8))) 13 (8 * m + i + 1 + d) (nI ((8 * m + i) % 8))) (z_si A m (8 * m + i) s d) := by
        unfold z_tri at ht ⊢
        rw [q_stN _ _ _ (by omega), q_stN _ _ _ (by omega)]
        exact ht
      refine q_bv (q_tries _ (z_CS A m (8 * m + i) (8 * m + i + 1 + d)) (nI 0) (z_CS_ok A hA m _ _) hrr m hm _ ht1 (16 * (8 * m + i) + (8 * m + i + 1 + d)) (by omega)) (fun T2 h2 => ?_)
      have a13 := hr.2.2.1
      have g : ∀ k j, k ≠ 13 → (k < 14 ∨ 23 < k) → (k ≠ 0 ∨ j < 18 ∨ 24 < j ∧ j ≠ 34 ∧ j ≠ 35) → q_st (q_st T2 13 (8 * m + i) (nI ((8 * m + i) % 8))) 13 (8 * m + i + 1 + d) (nI ((8 * m + i + 1 + d) % 8)) k j = T k j := fun k j hk hk2 hj => by
        rw [q_stN _ _ _ hk, q_stN _ _ _ hk, h2.2 k j hk2 hj, q_stN _ _ _ hk, q_stN _ _ _ hk]
      rw [show 8 * m + i + 1 + d + 1 = 8 * m + i + 1 + (d + 1) by omega]
      refine ih (d + 1) _ (by omega) (by omega) (z_ro2_congr (fun k j hk hk2 => ?_) (fun j hj => g 0 j (by omega) (by omega) (by omega)) hr) (by rw [g _ _ (by omega) (by omega) (by omega)]; exact h16) ?_ (z_rf_trans hf ⟨fun k j hk => g k j (by omega) (by omega) (by omega), fun j hj => g 0 j (by omega) (by omega) (by omega)⟩)
      · by_cases h13 : k = 13
        · subst h13
          simp only [q_stA]
          by_cases hj1 : j = 8 * m + i + 1 + d
          · rw [if_pos ⟨trivial, hj1⟩, hj1, a13 _ (by omega)]
          · rw [if_neg (fun hh => hj1 hh.2)]
            by_cases hj2 : j = 8 * m + i
            · rw [if_pos ⟨trivial, hj2⟩, hj2, a13 _ (by omega)]
            · rw [if_neg (fun hh => hj2 hh.2), h2.2 13 j (by omega) (by omega)]
              simp only [q_stA]
              rw [if_neg (fun hh => hj1 hh.2), if_neg (fun hh => hj2 hh.2)]
        · exact g k j h13 (by omega) (by omega)
      · have := h2.1
        unfold z_tri at this ⊢
        rw [q_stN _ _ _ (by omega), q_stN _ _ _ (by omega)]
        exact this
theorem q_swapR_12 (T0 : tg_S) (A : Nat → Nat → Nat) (hA : z_aok A) (m w : Nat) (hm : m < 2) (hw : w < 3) : ∀ (n i : Nat) (T : tg_S), z_sz A m < n + i → i ≤ z_sz A m → z_ro2 A T → T 0 16 = -nI 1 → z_tri T (z_sv A m i) → z_rf T0 T → q_tr (L_X8_swapOf_12 n T (nI m) (nI w) (nI (8 * m)) (nI (8 * m + i))) (fun r => r.2 = z_vs (z_sv A m (z_sz A m)) w ∧ z_ro A T0 r.1) := by
  intro n
  have hsz := z_szle hA.1 m hm
  induction n with
  | zero => intro i T h; omega
  | succ n ih =>
    intro i T h hi hr h16 ht hf
    show q_tr (f_X8_swapOf_12 (L_X8_swapOf_12 n) T (nI m) (nI w) (nI (8 * m)) (nI (8 * m + i))) _
    unfold f_X8_swapOf_12
    have e3 : T 3 m = nI (z_sz A m) := (hr.1.1 m hm).1
    simp (disch := omega) only [q_lit, q_rd, e3, q_add, q_le, q_nm, q_eq]
    refine q_if (fun h1 => ?_) (fun h1 => ?_)
    · have : i = z_sz A m := by omega
      rw [this] at ht
      rcases ht with ⟨s0, g0, g1⟩ | ⟨s1, g0, g1, g2, g3⟩
      · rw [g0, q_ifT rfl]
        exact q_ret ⟨by rw [z_vs, if_pos s0], hf, hr.1⟩
      · rw [g0, q_ifF (by rw [q_eqm g2]; exact id)]
        rcases (show w = 0 ∨ w = 1 ∨ w = 2 by omega) with rfl | rfl | rfl
        · rw [q_ifT rfl, q_div (by omega) (by omega) (by omega)]
          exact q_ret ⟨by rw [z_vs, if_neg (by omega), if_pos rfl], hf, hr.1⟩
        · rw [q_ifF (by decide), q_ifT rfl, q_rem (by omega) (by omega) (by omega)]
          exact q_ret ⟨by rw [z_vs, if_neg (by omega), if_neg (by decide), if_pos rfl], hf, hr.1⟩
        · rw [q_ifF (by decide), q_ifF (by decide), g1]
          exact q_ret ⟨by rw [z_vs, if_neg (by omega), if_neg (by decide), if_neg (by decide)], hf, hr.1⟩
    · exact q_swapR_31 T0 A hA m i w hm (by omega) (z_sv A m i) (L_X8_swapOf_12 n) _ (fun T2 g1 g2 g3 g4 => by
        have := ih (i + 1) T2 (by omega) (by omega) g1 g2 g3 g4
        rw [show 8 * m + (i + 1) = 8 * m + i + 1 by omega] at this
        exact this) tg_F 0 T (by unfold tg_F; omega) (by omega) hr h16 ht hf
theorem q_starts16 (T : tg_S) (A : Nat → Nat → Nat) (hA : z_aok A) (h : z_ri T A) : q_tr (f_X8_starts T) (fun T2 => z_rr T2 (z_C A) (nI 0) ∧ z_ro A T T2 ∧ z_tri T2 (0, 0, 0) ∧ (∀ k, k < 16 → T2 13 k = nI (k % 8)) ∧ T2 0 16 = -nI 1) := by
  unfold f_X8_starts
  refine q_bv (q_asToldA T A hA h) (fun T1 h1 => ?_)
  obtain ⟨⟨f, d⟩, at1⟩ := h1
  simp only [q_lit, q_pf]
  have rr := z_AT_rr A T T1 hA.2.1 h.2.1 hA.1 at1
  have g : ∀ k j, (k ≠ 0 ∨ j ≠ 34 ∧ j ≠ 35) → q_st (q_st T1 0 34 (-nI 1)) 0 35 (-nI 1) k j = T1 k j := fun k j hk => by simp only [q_stA]; grind
  refine q_ret ⟨z_rr_congr (fun k j h1 _ => g k j (by omega)) (fun j hj => g 0 j (by omega)) rr, ⟨z_rf_trans f ⟨fun k j hk => g k j (by omega), fun j hj => g 0 j (by omega)⟩, ?_⟩, Or.inl ⟨rfl, by simp [q_stA], by simp [q_stA]⟩, fun k hk => by rw [g _ _ (by omega)]; exact at1.2.2.1 k hk, by rw [g _ _ (by omega)]; exact at1.2.2.2.2.1⟩
  obtain ⟨d1, d2, d3⟩ := d
  exact ⟨fun m hm => by rw [g _ _ (by omega), g _ _ (by omega)]; exact d1 m hm, fun k hk h0 => by rw [g _ _ (by omega), g _ _ (by omega), g _ _ (by omega)]; exact d2 k hk h0, fun j hj => by rw [g _ _ (by omega)]; exact d3 j hj⟩
theorem q_swapR (T : tg_S) (A : Nat → Nat → Nat) (hA : z_aok A) (h : z_ri T A) {m w : Nat} (hm : m < 2) (hw : w < 3) : q_tr (f_X8_swapOf T (nI m) (nI w)) (fun r => r.2 = z_vs (z_sv A m (z_sz A m)) w ∧ z_ro A T r.1) := by
  have hsz := z_szle hA.1 m hm
  unfold f_X8_swapOf
  refine q_bv (q_starts16 T A hA h) (fun T1 h1 => ?_)
  simp only [q_lit, q_nm, q_mul]
  have := q_swapR_12 T A hA m w hm hw tg_F 0 T1 (by unfold tg_F; omega) (Nat.zero_le _) (z_rr_ro2 h1.1 h1.2.1.2 h1.2.2.2.1) h1.2.2.2.2 h1.2.2.1 h1.2.1.1
  rw [show 8 * m + 0 = 8 * m by omega] at this
  exact this
theorem e_swap (S T : tg_S) (A : Nat → Nat → Nat) (hI : z_I S T A) (a b : Int32) : z_eq (f_X7_swap S a b) (f_X8_swap T a b) := by
  rcases z_dec a 2 (by omega) with ⟨m, hm, rfl⟩ | ha
  · rcases z_dec b 3 (by omega) with ⟨w, hw, rfl⟩ | hb
    · refine z_eq_q _ hI (q_swapC S A hI.1 hI.2.1 hm hw) ?_
      unfold f_X8_swap
      simp only [q_lit]
      rw [q_isTwo T hm, q_bdS, q_ifF (by decide), q_isThree T hw, q_bdS, q_ifF (by decide)]
      exact q_bd (q_swapR T A hI.1 hI.2.2.1 hm hw) (fun T2 r h => q_ret ⟨h.1, h.2.1⟩)
    · unfold f_X7_swap f_X8_swap
      simp only [q_lit]
      rw [q_belowI S hm (by omega), q_bdS, q_ifF (by decide), q_belowO S hb, q_bdS, q_ifT rfl, q_isTwo T hm, q_bdS, q_ifF (by decide), q_isThreeO T hb, q_bdS, q_ifT rfl]
      exact z_eq_ret _ hI
  · unfold f_X7_swap f_X8_swap
    simp only [q_lit]
    rw [q_belowO S ha, q_bdS, q_ifT rfl, q_isTwoO T ha, q_bdS, q_ifT rfl]
    exact z_eq_ret _ hI
