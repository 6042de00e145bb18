theorem q_copy157 (T0 : tg_S) (s3 q c : Nat) (hs : s3 < 4) (hq : q + c ≤ 60) : ∀ (m i : Nat) (T : tg_S), c < m + i → i ≤ c → (∀ k j, T k j = if k = 31 ∧ 60 * s3 + q ≤ j ∧ j < 60 * s3 + q + i then T0 32 (j - (60 * s3 + q)) else T0 k j) → q_tr (L_X8_copy_157 m T (nI s3) (nI q) (nI c) (nI i)) (fun r => r.2 = nI 1 ∧ ∀ k j, r.1 k j = if k = 31 ∧ 60 * s3 + q ≤ j ∧ j < 60 * s3 + q + c then T0 32 (j - (60 * s3 + q)) else T0 k j) := by
  intro m
  induction m with
  | zero => intro i S h; omega
  | succ m ih =>
    intro i T h hi hT
    show q_tr (f_X8_copy_157 (L_X8_copy_157 m) T (nI s3) (nI q) (nI c) (nI i)) _
    unfold f_X8_copy_157
    simp (disch := omega) only [q_lit, q_le, q_nm, q_add, q_mul]
    refine q_if (fun hh => ?_) (fun hh => ?_)
    · have : i = c := by omega
      subst this
      exact q_ret ⟨rfl, hT⟩
    · simp (disch := omega) only [q_rd, q_wr]
      refine ih (i + 1) _ (by omega) (by omega) (fun k j => ?_)
      have e32 : T 32 i = T0 32 i := by rw [hT, if_neg (by omega)]
      rw [q_stA, e32, hT k j]
      by_cases h1 : k = 31 ∧ j = 60 * s3 + q + i
      · rw [if_pos h1, if_pos (by omega), show j - (60 * s3 + q) = i by omega]
      · rw [if_neg h1]
        by_cases h2 : k = 31 ∧ 60 * s3 + q ≤ j ∧ j < 60 * s3 + q + i
        · rw [if_pos h2, if_pos (by omega)]
        · rw [if_neg h2, if_neg (by omega)]
theorem q_copy120 (T0 : tg_S) (s1 p s3 q c : Nat) (hs1 : s1 < 4) (hs : s3 < 4) (hp : p + c ≤ 60) (hq : q + c ≤ 60) : ∀ (m i : Nat) (T : tg_S), c < m + i → i ≤ c → (∀ k j, T k j = if k = 32 ∧ j < i then T0 31 (60 * s1 + p + j) else T0 k j) → q_tr (L_X8_copy_120 m T (nI s1) (nI p) (nI s3) (nI q) (nI c) (nI i)) (fun r => r.2 = nI 1 ∧ ∀ k j, k ≠ 32 → r.1 k j = if k = 31 ∧ 60 * s3 + q ≤ j ∧ j < 60 * s3 + q + c then T0 31 (60 * s1 + p + (j - (60 * s3 + q))) else T0 k j) := by
  intro m
  induction m with
  | zero => intro i S h; omega
  | succ m ih =>
    intro i T h hi hT
    show q_tr (f_X8_copy_120 (L_X8_copy_120 m) T (nI s1) (nI p) (nI s3) (nI q) (nI c) (nI i)) _
    unfold f_X8_copy_120
    simp (disch := omega) only [q_lit, q_le, q_add, q_mul]
    refine q_if (fun hh => ?_) (fun hh => ?_)
    · have : i = c := by omega
      subst this
      refine q_mono (q_copy157 T s3 q i hs hq tg_F 0 T (by unfold tg_F; omega) (by omega) (fun k j => by rw [if_neg (by omega)])) (fun r hr => ⟨hr.1, fun k j hk => ?_⟩)
      rw [hr.2 k j]
      by_cases h2 : k = 31 ∧ 60 * s3 + q ≤ j ∧ j < 60 * s3 + q + i
      · rw [if_pos h2, if_pos h2, hT, if_pos ⟨rfl, by omega⟩]
      · rw [if_neg h2, if_neg h2, hT, if_neg (by omega)]
    · simp (disch := omega) only [q_rd, q_wr, q_nm]
      refine ih (i + 1) _ (by omega) (by omega) (fun k j => ?_)
      have e31 : T 31 (60 * s1 + p + i) = T0 31 (60 * s1 + p + i) := by rw [hT, if_neg (by omega)]
      rw [q_stA, e31, hT k j]
      by_cases h1 : k = 32 ∧ j = i
      · rw [if_pos h1, if_pos (by omega), h1.2]
      · rw [if_neg h1]
        by_cases h2 : k = 32 ∧ j < i
        · rw [if_pos h2, if_pos (by omega)]
        · rw [if_neg h2, if_neg (by omega)]
theorem e_copy (S T : tg_S) (A : Nat → Nat → Nat) (hI : z_I S T A) (a v2 b v4 v5 : Int32) : z_eq (f_X7_copy S a v2 b v4 v5) (f_X8_copy T a v2 b v4 v5) := by
  have fo : ∀ v, z_eq (some (q_st S 0 3 v, -nI 10 - v)) (some (q_st T 0 46 v, -nI 10 - v)) := fun v => z_eq_ret _ (z_found hI v)
  unfold f_X7_copy f_X8_copy f_X7_copy_99 f_X7_copy_41 f_X8_copy_111 f_X8_copy_35 f_X5_isLost f_X5_areAlike f_X7_found f_X8_meets f_X5_move
  simp only [q_lit, q_pf, q_bdS]
  rcases z_dec a 4 (by omega) with ⟨s1, hs1, rfl⟩ | ha
  · rw [q_belowI S hs1 (by omega), q_isSheet T hs1, q_bdS, q_bdS]
    simp only [q_ifF (show ¬ nI 1 = nI 0 by decide)]
    rcases z_dec b 4 (by omega) with ⟨s3, hs3, rfl⟩ | hb
    · rw [q_belowI S hs3 (by omega), q_isSheet T hs3, q_bdS, q_bdS]
      simp only [q_ifF (show ¬ nI 1 = nI 0 by decide)]
      simp (disch := omega) only [q_rd]
      rcases hI.2.2.2.2 s1 hs1 with ⟨h1, h2⟩ | ⟨n1, f1, hn1, hf1, h1, h2, h3, h4, h5, h6⟩
      · rw [h1, h2, q_ifT rfl, q_bdS, q_ifF (by decide), q_ifT rfl]
        exact fo _
      · rw [h1, h3, q_ifF (by rw [q_eqm (by omega)]; exact id), q_bdS, q_ifT rfl, q_ifF (show ¬ nI 1 = nI 0 by decide)]
        rcases hI.2.2.2.2 s3 hs3 with ⟨g1, g2⟩ | ⟨n3, f3, hn3, hf3, g1, g2, g3, g4, g5, g6⟩
        · rw [g1, g2, q_ifT rfl, q_bdS, q_ifF (by decide), q_ifT rfl]
          exact fo _
        · rw [g1, g3, q_ifF (by rw [q_eqm (by omega)]; exact id), q_bdS, q_ifT rfl, q_ifF (show ¬ nI 1 = nI 0 by decide), h4, g4, h5, g5, h2, g2]
          by_cases hff : nI f1 = nI f3
          · rw [q_ifT hff, q_bdS, q_ifF (by decide), q_ifT hff]
            by_cases hw : v5 < nI 0
            · rw [q_ifT hw]
              by_cases c2 : v2 < nI 0
              · rw [q_ifT c2]; exact fo _
              · rw [q_ifF c2]
                by_cases c4 : v4 < nI 0
                · rw [q_ifT c4]; exact fo _
                · rw [q_ifF c4, q_ifT hw]; exact fo _
            · rw [q_ifF hw, q_holds S hs1 hn1 h1 v2 v5 hw, q_bdS]
              sorry
          · rw [q_ifF hff, q_bdS, q_ifT rfl, q_ifF hff]
            exact fo _
    · rw [q_belowO S hb, q_isSheetO T hb, q_bdS, q_bdS, q_ifT rfl, q_ifT rfl]
      exact z_eq_ret _ hI
  · rw [q_belowO S ha, q_isSheetO T ha, q_bdS, q_bdS, q_ifT rfl, q_ifT rfl]
    exact z_eq_ret _ hI
