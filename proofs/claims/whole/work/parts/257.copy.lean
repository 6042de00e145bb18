theorem q_copy157 (T0 : tg_S) (s3 q c : Nat) (hs : s3 < 4) (hq : q + c ≤ 60) : ∀ (m i : Nat) (T : tg_S), c < m + i → i ≤ c → (∀ k j, T k j = if k = 31 ∧ 60 * s3 + q ≤ j ∧ j < 60 * s3 + q + i then T0 32 (j - (60 * s3 + q)) else T0 k j) → q_tr (L_X8_copy_157 m T (nI s3) (nI q) (nI c) (nI i)) (fun r => r.2 = nI 1 ∧ ∀ k j, r.1 k j = if k = 31 ∧ 60 * s3 + q ≤ j ∧ j < 60 * s3 + q + c then T0 32 (j - (60 * s3 + q)) else T0 k j) := by
  intro m
  induction m with
  | zero => intro i S h; omega
  | succ m ih =>
    intro i T h hi hT
    show q_tr (f_X8_copy_157 (L_X8_copy_157 m) T (nI s3) (nI q) (nI c) (nI i)) _
    unfold f_X8_copy_157
    simp (disch := omega) only [q_lit, q_le, q_nm, q_add, q_mul]
    refine q_if (fun hh => ?_) (fun hh => ?_)
    · have : i = c := by omega
      subst this
      exact q_ret ⟨rfl, hT⟩
    · simp (disch := omega) only [q_rd, q_wr]
      refine ih (i + 1) _ (by omega) (by omega) (fun k j => ?_)
      have e32 : T 32 i = T0 32 i := by rw [hT, if_neg (by omega)]
      rw [q_stA, e32, hT k j]
      by_cases h1 : k = 31 ∧ j = 60 * s3 + q + i
      · rw [if_pos h1, if_pos (by omega), show j - (60 * s3 + q) = i by omega]
      · rw [if_neg h1]
        by_cases h2 : k = 31 ∧ 60 * s3 + q ≤ j ∧ j < 60 * s3 + q + i
        · rw [if_pos h2, if_pos (by omega)]
        · rw [if_neg h2, if_neg (by omega)]
theorem q_copy120 (T0 : tg_S) (s1 p s3 q c : Nat) (hs1 : s1 < 4) (hs : s3 < 4) (hp : p + c ≤ 60) (hq : q + c ≤ 60) : ∀ (m i : Nat) (T : tg_S), c < m + i → i ≤ c → (∀ k j, T k j = if k = 32 ∧ j < i then T0 31 (60 * s1 + p + j) else T0 k j) → q_tr (L_X8_copy_120 m T (nI s1) (nI p) (nI s3) (nI q) (nI c) (nI i)) (fun r => r.2 = nI 1 ∧ ∀ k j, k ≠ 32 → r.1 k j = if k = 31 ∧ 60 * s3 + q ≤ j ∧ j < 60 * s3 + q + c then T0 31 (60 * s1 + p + (j - (60 * s3 + q))) else T0 k j) := by
  intro m
  induction m with
  | zero => intro i S h; omega
  | succ m ih =>
    intro i T h hi hT
    show q_tr (f_X8_copy_120 (L_X8_copy_120 m) T (nI s1) (nI p) (nI s3) (nI q) (nI c) (nI i)) _
    unfold f_X8_copy_120
    simp (disch := omega) only [q_lit, q_le, q_add, q_mul]
    refine q_if (fun hh => ?_) (fun hh => ?_)
    · have : i = c := by omega
      subst this
      refine q_mono (q_copy157 T s3 q i hs hq tg_F 0 T (by unfold tg_F; omega) (by omega) (fun k j => by rw [if_neg (by omega)])) (fun r hr => ⟨hr.1, fun k j hk => ?_⟩)
      rw [hr.2 k j]
      by_cases h2 : k = 31 ∧ 60 * s3 + q ≤ j ∧ j < 60 * s3 + q + i
      · rw [if_pos h2, if_pos h2, hT, if_pos ⟨rfl, by omega⟩]
      · rw [if_neg h2, if_neg h2, hT, if_neg (by omega)]
    · simp (disch := omega) only [q_rd, q_wr, q_nm]
      refine ih (i + 1) _ (by omega) (by omega) (fun k j => ?_)
      have e31 : T 31 (60 * s1 + p + i) = T0 31 (60 * s1 + p + i) := by rw [hT, if_neg (by omega)]
      rw [q_stA, e31, hT k j]
      by_cases h1 : k = 32 ∧ j = i
      · rw [if_pos h1, if_pos (by omega), h1.2]
      · rw [if_neg h1]
        by_cases h2 : k = 32 ∧ j < i
        · rw [if_pos h2, if_pos (by omega)]
        · rw [if_neg h2, if_neg (by omega)]
theorem z_dec61 (v : Int32) (h : 0 ≤ v.toInt) (h2 : v.toInt ≤ 60) : ∃ i, i ≤ 60 ∧ v = nI i := by
  rcases z_dec v 61 (by omega) with ⟨i, hi, rfl⟩ | hv
  · exact ⟨i, by omega, rfl⟩
  · rcases hv with hv | hv
    · rw [← nI_0, q_ltZ] at hv; omega
    · rw [Int32.le_iff_toInt_le, q_ti (by omega)] at hv; omega
theorem e_copy_ok (S T : tg_S) (A : Nat → Nat → Nat) (hI : z_I S T A) (s1 p s3 q c n1 f1 n3 f3 : Nat) (hs1 : s1 < 4) (hs3 : s3 < 4) (hp : p + c ≤ n1) (hq : q + c ≤ n3) (hn1 : n1 ≤ 60) (hn3 : n3 ≤ 60) (h6 : ∀ i, i < n1 → S 8 (60 * s1 + i) = T 31 (60 * s1 + i)) (g1 : S 10 s3 = nI n3) (g2 : T 30 s3 = nI n3) (g6 : ∀ i, i < n3 → S 8 (60 * s3 + i) = T 31 (60 * s3 + i)) : z_eq (tg_bv (tg_cp S 8 8 240 240 (nI s1 * nI 60 + nI p) (nI s3 * nI 60 + nI q) (nI c) fun S1 => some S1) fun S23 => some (S23, nI 1)) (L_X8_copy_120 tg_F T (nI s1) (nI p) (nI s3) (nI q) (nI c) (nI 0)) := by
  simp (disch := omega) only [q_mul, q_add, q_cp]
  rw [q_bvS]
  obtain ⟨⟨T2, r⟩, e2, e3, h2⟩ := q_copy120 T s1 p s3 q c hs1 hs3 (by omega) (by omega) tg_F 0 T (by unfold tg_F; omega) (by omega) (fun k j => by rw [if_neg (by omega)])
  dsimp only at e3 h2
  rw [e2, e3]
  have w8 : ∀ j, tg_sw S 8 (va_cpy (S 8) (S 8) (s1 * 60 + p) (s3 * 60 + q) c) 8 j = if 60 * s3 + q ≤ j ∧ j < 60 * s3 + q + c then S 8 (60 * s1 + (p + (j - (60 * s3 + q)))) else S 8 j := fun j => by
    rw [q_swA, if_pos rfl]
    by_cases h : 60 * s3 + q ≤ j ∧ j < 60 * s3 + q + c
    · rw [if_pos h, pk_cpy_in (by omega) (by omega), show s1 * 60 + p + (j - (s3 * 60 + q)) = 60 * s1 + (p + (j - (60 * s3 + q))) by omega]
    · rw [if_neg h, pk_cpy_out (by omega)]
  have wn : ∀ k j, k ≠ 8 → tg_sw S 8 (va_cpy (S 8) (S 8) (s1 * 60 + p) (s3 * 60 + q) c) k j = S k j := fun k j hk => by rw [q_swA, if_neg hk]
  generalize tg_sw S 8 (va_cpy (S 8) (S 8) (s1 * 60 + p) (s3 * 60 + q) c) = S2 at *
  have tn : ∀ k j, k ≠ 31 → k ≠ 32 → T2 k j = T k j := fun k j h h' => by rw [h2 k j h', if_neg (by omega)]
  refine z_eq_ret (A := A) _ (z_resh hI (fun k j hk _ => wn k j (by omega)) (fun k j hk _ => tn k j (by omega) (by omega)) ⟨by rw [wn _ _ (by omega), tn _ _ (by omega) (by omega)]; exact hI.2.2.2.1, fun s2 hs2 => ?_⟩)
  rcases hI.2.2.2.2 s2 hs2 with ⟨k1, k2⟩ | ⟨n, f, hn, hf, k1, k2, k3, k4, k5, k6⟩
  · exact Or.inl ⟨by rw [wn _ _ (by omega)]; exact k1, by rw [tn _ _ (by omega) (by omega)]; exact k2⟩
  · refine Or.inr ⟨n, f, hn, hf, by rw [wn _ _ (by omega)]; exact k1, by rw [tn _ _ (by omega) (by omega)]; exact k2, by rw [tn _ _ (by omega) (by omega)]; exact k3, by rw [wn _ _ (by omega)]; exact k4, by rw [tn _ _ (by omega) (by omega)]; exact k5, fun i hi => ?_⟩
    rw [w8, h2 _ _ (by omega)]
    by_cases h : 60 * s3 + q ≤ 60 * s2 + i ∧ 60 * s2 + i < 60 * s3 + q + c
    · rw [if_pos h, if_pos ⟨rfl, h⟩, h6 _ (by omega), Nat.add_assoc (60 * s1) p]
    · rw [if_neg h, if_neg (fun hh => h hh.2)]
      exact k6 i hi
theorem e_copy (S T : tg_S) (A : Nat → Nat → Nat) (hI : z_I S T A) (a v2 b v4 v5 : Int32) : z_eq (f_X7_copy S a v2 b v4 v5) (f_X8_copy T a v2 b v4 v5) := by
  have fo : ∀ v, z_eq (some (q_st S 0 3 v, -nI 10 - v)) (some (q_st T 0 46 v, -nI 10 - v)) := fun v => z_eq_ret _ (z_found hI v)
  unfold f_X7_copy f_X8_copy f_X7_copy_99 f_X7_copy_41 f_X8_copy_111 f_X8_copy_35 f_X5_isLost f_X5_areAlike f_X7_found f_X8_meets f_X5_move
  simp only [q_lit, q_pf, q_bdS]
  rcases z_dec a 4 (by omega) with ⟨s1, hs1, rfl⟩ | ha
  · rw [q_belowI S hs1 (by omega), q_isSheet T hs1, q_bdS, q_bdS]
    simp only [q_ifF (show ¬ nI 1 = nI 0 by decide)]
    rcases z_dec b 4 (by omega) with ⟨s3, hs3, rfl⟩ | hb
    · rw [q_belowI S hs3 (by omega), q_isSheet T hs3, q_bdS, q_bdS]
      simp only [q_ifF (show ¬ nI 1 = nI 0 by decide)]
      simp (disch := omega) only [q_rd]
      rcases hI.2.2.2.2 s1 hs1 with ⟨h1, h2⟩ | ⟨n1, f1, hn1, hf1, h1, h2, h3, h4, h5, h6⟩
      · rw [h1, h2, q_ifT rfl, q_bdS, q_ifF (by decide), q_ifT rfl]
        exact fo _
      · rw [h1, h3, q_ifF (by rw [q_eqm (by omega)]; exact id), q_bdS, q_ifT rfl, q_ifF (show ¬ nI 1 = nI 0 by decide)]
        rcases hI.2.2.2.2 s3 hs3 with ⟨g1, g2⟩ | ⟨n3, f3, hn3, hf3, g1, g2, g3, g4, g5, g6⟩
        · rw [g1, g2, q_ifT rfl, q_bdS, q_ifF (by decide), q_ifT rfl]
          exact fo _
        · rw [g1, g3, q_ifF (by rw [q_eqm (by omega)]; exact id), q_bdS, q_ifT rfl, q_ifF (show ¬ nI 1 = nI 0 by decide), h4, g4, h5, g5, h2, g2]
          by_cases hff : nI f1 = nI f3
          · rw [q_ifT hff, q_bdS, q_ifF (by decide), q_ifT hff]
            by_cases hw : v5 < nI 0
            · rw [q_ifT hw]
              by_cases c2 : v2 < nI 0
              · rw [q_ifT c2]; exact fo _
              · rw [q_ifF c2]
                by_cases c4 : v4 < nI 0
                · rw [q_ifT c4]; exact fo _
                · rw [q_ifF c4, q_ifT hw]; exact fo _
            · rw [q_ifF hw, q_holds S hs1 hn1 h1 v2 v5 hw, q_bdS]
              have zw := hw
              rw [q_ltZ] at zw
              by_cases A1 : 0 ≤ v2.toInt ∧ v2.toInt + v5.toInt ≤ n1
              · have k2 : ¬ v2 < nI 0 := by rw [q_ltZ]; omega
                rw [if_pos A1, q_ifF (by decide), q_holds S hs3 hn3 g1 v4 v5 hw, q_bdS, q_ifF k2]
                by_cases A2 : 0 ≤ v4.toInt ∧ v4.toInt + v5.toInt ≤ n3
                · have k4 : ¬ v4 < nI 0 := by rw [q_ltZ]; omega
                  rw [if_pos A2, q_ifF (by decide), q_ifF k4, q_ifF hw, q_ifF (by rw [q_lcG v2 v5 hn1]; omega), q_ifT (by rw [q_lcL v4 v5 hn3]; omega)]
                  obtain ⟨p, hp, rfl⟩ := z_dec61 v2 (by omega) (by omega)
                  obtain ⟨q, hq, rfl⟩ := z_dec61 v4 (by omega) (by omega)
                  obtain ⟨c, hc, rfl⟩ := z_dec61 v5 (by omega) (by omega)
                  rw [q_ti (by omega), q_ti (by omega)] at A1 A2
                  exact e_copy_ok S T A hI s1 p s3 q c n1 f1 n3 f3 hs1 hs3 (by omega) (by omega) hn1 hn3 h6 g1 g2 g6
                · rw [if_neg A2, q_ifT rfl]
                  by_cases c4 : v4 < nI 0
                  · rw [q_ifT c4]; exact fo _
                  · have z4 := c4
                    rw [q_ltZ] at z4
                    rw [q_ifF c4, q_ifF hw, q_ifF (by rw [q_lcG v2 v5 hn1]; omega), q_ifF (by rw [q_lcL v4 v5 hn3]; omega)]; exact fo _
              · rw [if_neg A1, q_ifT rfl]
                by_cases c2 : v2 < nI 0
                · rw [q_ifT c2]; exact fo _
                · have z2 := c2
                  rw [q_ltZ] at z2
                  rw [q_ifF c2]
                  by_cases c4 : v4 < nI 0
                  · rw [q_ifT c4]; exact fo _
                  · rw [q_ifF c4, q_ifF hw, q_ifT (by rw [q_lcG v2 v5 hn1]; omega)]; exact fo _
          · rw [q_ifF hff, q_bdS, q_ifT rfl, q_ifF hff]
            exact fo _
    · rw [q_belowO S hb, q_isSheetO T hb, q_bdS, q_bdS, q_ifT rfl, q_ifT rfl]
      exact z_eq_ret _ hI
  · rw [q_belowO S ha, q_isSheetO T ha, q_bdS, q_bdS, q_ifT rfl, q_ifT rfl]
    exact z_eq_ret _ hI
