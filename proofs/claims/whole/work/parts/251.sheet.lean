-- ===== sheets =====
theorem z_resh {A : Nat → Nat → Nat} {S0 S T0 T : tg_S} (hI : z_I S0 T0 A) (f : ∀ k j, (k < 8 ∨ 10 < k) → (k ≠ 0 ∨ j ≠ 3) → S k j = S0 k j) (g : ∀ k j, k < 28 → (k ≠ 0 ∨ j ≠ 46) → T k j = T0 k j) (hs : z_sh S T) : z_I S T A := by
  obtain ⟨hA, ⟨⟨a1, a2⟩, ⟨b1, b2, b3, b4⟩, c, d, ⟨e1, e2⟩, w⟩, ⟨⟨p1, p2⟩, ⟨r1, r2, r3⟩, s1, s2⟩, -⟩ := hI
  refine ⟨hA, ⟨⟨fun t ht => by rw [f _ _ (by omega) (by omega)]; exact a1 t ht, fun i hi => by rw [f _ _ (by omega) (by omega)]; exact a2 i hi⟩, ⟨by rw [f _ _ (by omega) (by omega)]; exact b1, by rw [f _ _ (by omega) (by omega)]; exact b2, by rw [f _ _ (by omega) (by omega)]; exact b3, fun e he => by rw [f _ _ (by omega) (by omega), f _ _ (by omega) (by omega), f _ _ (by omega) (by omega)]; exact b4 e he⟩, z_told_congr (fun k j _ _ => f k j (by omega) (by omega)) c, z_cs_congr (fun k j _ _ => f k j (by omega) (by omega)) d, ⟨by rw [f _ _ (by omega) (by omega)]; exact e1, fun i hi => by rw [f _ _ (by omega) (by omega), f _ _ (by omega) (by omega)]; exact e2 i hi⟩, ?_⟩, ⟨⟨fun t ht => by rw [g _ _ (by omega) (by omega)]; exact p1 t ht, fun i hi => by rw [g _ _ (by omega) (by omega)]; exact p2 i hi⟩, ⟨by rw [g _ _ (by omega) (by omega)]; exact r1, by rw [g _ _ (by omega) (by omega)]; exact r2, fun e he => by rw [g _ _ (by omega) (by omega), g _ _ (by omega) (by omega), g _ _ (by omega) (by omega)]; exact r3 e he⟩, by rw [g _ _ (by omega) (by omega)]; exact s1, fun i hi => by rw [g _ _ (by omega) (by omega), g _ _ (by omega) (by omega)]; exact s2 i hi⟩, hs⟩
  rcases w with w | ⟨w1, w2⟩
  · exact Or.inl (by rw [f _ _ (by omega) (by omega)]; exact w)
  · exact Or.inr ⟨by rw [f _ _ (by omega) (by omega)]; exact w1, fun v hv => by rw [f _ _ (by omega) (by omega)]; exact w2 v hv⟩
theorem z_found {A : Nat → Nat → Nat} {S T : tg_S} (hI : z_I S T A) (v : Int32) : z_I (q_st S 0 3 v) (q_st T 0 46 v) A := by
  refine z_resh hI (fun k j _ h => by rw [q_stA, if_neg (by omega)]) (fun k j _ h => by rw [q_stA, if_neg (by omega)]) ⟨by rw [q_stS, q_stS, pk_us, pk_us], fun s hs => ?_⟩
  have := hI.2.2.2.2 s hs
  unfold z_sh1 at this ⊢
  simp (disch := omega) only [q_stN]
  exact this
theorem q_isSheet (T : tg_S) {i : Nat} (h : i < 4) : f_X8_isSheet T (nI i) = some (T, nI 1) := by
  unfold f_X8_isSheet
  simp only [q_lit]
  rw [q_inI T (n := 3) h (by omega), q_bdS, q_bz1]
theorem q_isSheetO (T : tg_S) {a : Int32} (h : z_out a 4) : f_X8_isSheet T a = some (T, nI 0) := by
  unfold f_X8_isSheet
  simp only [q_lit]
  rw [q_inO T (n := 3) h (by omega), q_bdS, q_bz0]
theorem e_lose (S T : tg_S) (A : Nat → Nat → Nat) (hI : z_I S T A) (a : Int32) : z_eq (f_X7_lose S a) (f_X8_lose T a) := by
  unfold f_X7_lose f_X8_lose f_X5_isLost f_X5_drop f_X7_found f_X8_meets
  simp only [q_lit]
  rcases z_dec a 4 (by omega) with ⟨s, hs, rfl⟩ | ha
  · rw [q_belowI S hs (by omega), q_isSheet T hs, q_bdS, q_bdS]
    simp only [q_ifF (show ¬ nI 1 = nI 0 by decide)]
    rcases hI.2.2.2.2 s hs with ⟨h1, h2⟩ | ⟨n, f, hn, hf, h1, h2, h3, h4, h5, h6⟩
    · simp (disch := omega) only [q_rd, h1, h2]
      rw [q_ifT trivial, q_bdS, q_ifF (by decide), q_ifT trivial]
      simp only [q_pf, q_bdS]
      exact z_eq_ret _ (z_found hI _)
    · simp (disch := omega) only [q_rd, h1, h3]
      rw [q_ifF (by rw [q_eqm (by omega)]; exact id), q_bdS, q_ifT rfl, q_ifF (by decide)]
      simp (disch := omega) only [q_wr, q_wz, q_rd, q_stN, h1, h2, q_bdS]
      refine z_eq_ret (A := A) (nI n) (z_resh hI (fun k j hk _ => by rw [q_stN _ _ _ (by omega)]) (fun k j hk _ => by rw [q_stN _ _ _ (by omega)]) ⟨by rw [q_stN _ _ _ (by omega), q_stN _ _ _ (by omega)]; exact hI.2.2.2.1, fun s2 hs2 => ?_⟩)
      have h7 := hI.2.2.2.2 s2 hs2
      by_cases h8 : s2 = s
      · subst h8
        exact Or.inl ⟨by rw [q_stS, pk_us], by rw [q_stS, pk_us]; rfl⟩
      · unfold z_sh1 at h7 ⊢
        simp (disch := omega) only [q_stN]
        simp only [q_stA, h8, and_false, if_false]
        exact h7
  · rw [q_belowO S ha, q_isSheetO T ha, q_bdS, q_bdS, q_ifT rfl, q_ifT rfl]
    exact z_eq_ret _ hI
