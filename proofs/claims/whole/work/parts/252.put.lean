theorem q_inN (T : tg_S) (n : Nat) (hn : n ≤ 60) (v : Int32) : f_X8_in T v (nI 0) (nI n - nI 1) = some (T, if v < nI 0 ∨ nI n ≤ v then nI 0 else nI 1) := by
  rcases z_dec v n (by omega) with ⟨i, hi, rfl⟩ | hv
  · rw [q_sub (by omega), q_inI T (n := n - 1) (by omega) (by omega)]
    simp (disch := omega) only [q_lt, q_le]
    rw [if_neg (by omega)]
  · have hv2 : v < nI 0 ∨ nI n ≤ v := by rw [nI_0]; exact hv
    rw [if_pos hv2]
    by_cases h0 : n = 0
    · subst h0
      rw [q_in]
      by_cases h1 : v < nI 0
      · rw [if_pos h1]
      · rw [if_neg h1]
        have h2 : nI 0 ≤ v := by rcases hv2 with h | h; exact absurd h h1; exact h
        rw [if_pos]
        exact Int32.lt_of_lt_of_le (by decide) h2
    · rw [q_sub (by omega), q_inO T (n := n - 1) (by rw [show n - 1 + 1 = n by omega]; exact hv) (by omega)]
theorem q_belowN (S : tg_S) (n : Nat) (hn : n ≤ 60) (v : Int32) : f_X7_isBelow S v (nI n) = some (S, if v < nI 0 ∨ nI n ≤ v then nI 0 else nI 1) := by
  rcases z_dec v n (by omega) with ⟨i, hi, rfl⟩ | hv
  · rw [q_belowI S hi (by omega)]
    simp (disch := omega) only [q_lt, q_le]
    rw [if_neg (by omega)]
  · rw [q_belowO S hv, if_pos (by rw [nI_0]; exact hv)]
/-- what both say of an item that is asked for -/
theorem q_wrong (S T : tg_S) (s f : Nat) (hs : s < 4) (hf : f < 3) (v : Int32) (h : z_sh1 S T s) : ∃ r, r ≤ 3 ∧ f_X5_whatIsWrong S (nI s) (nI f) v = some (S, nI r) ∧ f_X8_lacks T (nI s) (nI f) v = some (T, nI r) ∧ (r = 0 → ∃ n i, n ≤ 60 ∧ i < n ∧ v = nI i ∧ S 10 s = nI n ∧ T 30 s = nI n ∧ T 28 s = nI 1 ∧ S 9 s = nI f ∧ T 29 s = nI f ∧ ∀ i, i < n → S 8 (60 * s + i) = T 31 (60 * s + i)) := by
  unfold f_X5_whatIsWrong f_X8_lacks f_X5_isLost
  simp (disch := omega) only [q_lit, q_rd]
  rcases h with ⟨h1, h2⟩ | ⟨n, g, hn, hg, h1, h2, h3, h4, h5, h6⟩
  · refine ⟨1, by omega, ?_, ?_, fun h => by omega⟩
    · rw [h1, q_ifT rfl, q_bdS, q_ifF (by decide)]
    · rw [h2, q_ifT rfl]
  · rw [h1, h3, q_ifF (by rw [q_eqm (by omega)]; exact id), q_bdS, q_ifT rfl, q_ifF (show ¬ nI 1 = nI 0 by decide), h4, h5, h2]
    by_cases hgf : g = f
    · subst hgf
      rw [q_ifT rfl, q_ifT rfl, h1, q_belowN S n hn v, q_inN T n hn v, q_bdS, q_bdS]
      by_cases hv : v < nI 0 ∨ nI n ≤ v
      · refine ⟨2, by omega, ?_, ?_, fun h => by omega⟩
        · rw [if_pos hv, q_ifT rfl]
        · rw [if_pos hv, q_ifT rfl]
      · refine ⟨0, by omega, ?_, ?_, fun _ => ?_⟩
        · rw [if_neg hv, q_ifF (by decide)]
        · rw [if_neg hv, q_ifF (by decide)]
        · rcases z_dec v n (by omega) with ⟨i, hi, rfl⟩ | hv2
          · exact ⟨n, i, hn, hi, rfl, rfl, rfl, rfl, rfl, rfl, h6⟩
          · exact absurd (by rw [nI_0]; exact hv2) hv
    · refine ⟨3, by omega, ?_, ?_, fun h => by omega⟩
      · rw [q_ifF (by rw [q_eq (by omega) (by omega)]; exact hgf)]
      · rw [q_ifF (by rw [q_eq (by omega) (by omega)]; exact hgf)]
theorem e_get (S T : tg_S) (A : Nat → Nat → Nat) (hI : z_I S T A) (a b v : Int32) : z_eq (f_X7_get S a b v) (f_X8_get T a b v) := by
  unfold f_X7_get f_X8_get f_X7_found f_X5_item
  simp only [q_lit]
  rcases z_dec a 4 (by omega) with ⟨s, hs, rfl⟩ | ha
  · rw [q_belowI S hs (by omega), q_isSheet T hs, q_bdS, q_bdS]
    simp only [q_ifF (show ¬ nI 1 = nI 0 by decide)]
    rcases z_dec b 3 (by omega) with ⟨f, hf, rfl⟩ | hb
    · rw [q_belowI S hf (by omega), q_inI T (n := 2) hf (by omega), q_bdS, q_bdS]
      simp only [q_ifF (show ¬ nI 1 = nI 0 by decide)]
      obtain ⟨r, hr, e1, e2, e3⟩ := q_wrong S T s f hs hf v (hI.2.2.2.2 s hs)
      rw [e1, e2, q_bdS, q_bdS]
      simp (disch := omega) only [q_eq, q_le]
      by_cases h0 : r = 0
      · obtain ⟨n, i, hn, hi, rfl, -, -, -, -, -, h6⟩ := e3 h0
        rw [q_ifT h0, q_ifT (by omega)]
        simp (disch := omega) only [q_mul, q_add, q_rd, q_bdS]
        rw [show s * 60 + i = 60 * s + i by omega, h6 i hi]
        exact z_eq_ret _ hI
      · rw [q_ifF h0, q_ifF (by omega)]
        simp only [q_pf, q_bdS]
        exact z_eq_ret _ (z_found hI _)
    · rw [q_belowO S hb, q_inO T (n := 2) hb (by omega), q_bdS, q_bdS, q_ifT rfl, q_ifT rfl]
      exact z_eq_ret _ hI
  · rw [q_belowO S ha, q_isSheetO T ha, q_bdS, q_bdS, q_ifT rfl, q_ifT rfl]
    exact z_eq_ret _ hI
/-- an item is written on both sides -/
theorem z_item {A : Nat → Nat → Nat} {S T : tg_S} (hI : z_I S T A) (s i : Nat) (hs : s < 4) (hi : i < 60) (v : Int32) : z_I (q_st S 8 (60 * s + i) v) (q_st T 31 (60 * s + i) v) A := by
  refine z_resh hI (fun k j hk _ => by rw [q_stN _ _ _ (by omega)]) (fun k j hk _ => by rw [q_stN _ _ _ (by omega)]) ⟨by rw [q_stN _ _ _ (by omega), q_stN _ _ _ (by omega)]; exact hI.2.2.2.1, fun s2 hs2 => ?_⟩
  rcases hI.2.2.2.2 s2 hs2 with ⟨h1, h2⟩ | ⟨n, f, hn, hf, h1, h2, h3, h4, h5, h6⟩
  · exact Or.inl ⟨by rw [q_stN _ _ _ (by omega)]; exact h1, by rw [q_stN _ _ _ (by omega)]; exact h2⟩
  · refine Or.inr ⟨n, f, hn, hf, by rw [q_stN _ _ _ (by omega)]; exact h1, by rw [q_stN _ _ _ (by omega)]; exact h2, by rw [q_stN _ _ _ (by omega)]; exact h3, by rw [q_stN _ _ _ (by omega)]; exact h4, by rw [q_stN _ _ _ (by omega)]; exact h5, fun l hl => ?_⟩
    have := h6 l hl
    simp only [q_stA]
    grind
theorem e_put (S T : tg_S) (A : Nat → Nat → Nat) (hI : z_I S T A) (a b v x : Int32) : z_eq (f_X7_put S a b v x) (f_X8_put T a b v x) := by
  unfold f_X7_put f_X8_put f_X7_found f_X8_meets f_X5_store f_X8_keep f_X5_store_33
  simp only [q_lit]
  rcases z_dec a 4 (by omega) with ⟨s, hs, rfl⟩ | ha
  · rw [q_belowI S hs (by omega), q_isSheet T hs, q_bdS, q_bdS]
    simp only [q_ifF (show ¬ nI 1 = nI 0 by decide)]
    rcases z_dec b 3 (by omega) with ⟨f, hf, rfl⟩ | hb
    · rw [q_belowI S hf (by omega), q_inI T (n := 2) hf (by omega), q_bdS, q_bdS]
      simp only [q_ifF (show ¬ nI 1 = nI 0 by decide)]
      obtain ⟨r, hr, e1, e2, e3⟩ := q_wrong S T s f hs hf v (hI.2.2.2.2 s hs)
      rw [e1, e2, q_bdS, q_bdS]
      simp (disch := omega) only [q_eq, q_le]
      by_cases h0 : r = 0
      · obtain ⟨n, i, hn, hi, rfl, -, -, -, h4, h5, h6⟩ := e3 h0
        rw [q_ifT h0, q_ifT (by omega)]
        simp (disch := omega) only [q_mul, q_add, q_rd, q_wr, h4, h5, q_nm, q_eq]
        rw [show s * 60 + i = 60 * s + i by omega]
        by_cases f0 : f = 0
        · rw [q_ifT f0, q_ifT f0, q_bvS, q_bvS]
          exact z_eq_ret _ (z_item hI s i hs (by omega) _)
        · rw [q_ifF f0, q_ifF f0]
          by_cases f1 : f = 1
          · rw [q_ifT f1, q_ifT f1, q_bvS, q_bvS]
            exact z_eq_ret _ (z_item hI s i hs (by omega) _)
          · rw [q_ifF f1, q_ifF f1, q_bvS, q_bvS]
            exact z_eq_ret _ (z_item hI s i hs (by omega) _)
      · rw [q_ifF h0, q_ifF (by omega)]
        simp only [q_pf, q_bdS]
        exact z_eq_ret _ (z_found hI _)
    · rw [q_belowO S hb, q_inO T (n := 2) hb (by omega), q_bdS, q_bdS, q_ifT rfl, q_ifT rfl]
      exact z_eq_ret _ hI
  · rw [q_belowO S ha, q_isSheetO T ha, q_bdS, q_bdS, q_ifT rfl, q_ifT rfl]
    exact z_eq_ret _ hI
