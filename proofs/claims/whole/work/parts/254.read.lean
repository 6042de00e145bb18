theorem q_readEv (S T : tg_S) (A : Nat → Nat → Nat) (hI : z_I S T A) (a b c : Int32) : ∃ (S2 T2 : tg_S) (r : Int32) (A2 : Nat → Nat → Nat), f_X7_event S a b c = some (S2, r) ∧ f_X8_event T a b c = some (T2, r) ∧ z_I S2 T2 A2 ∧ (∀ k j, 8 ≤ k → k ≤ 10 → S2 k j = S k j) ∧ (∀ k j, 28 ≤ k → k ≤ 31 → T2 k j = T k j) := e_event' S T A hI a b c
theorem e_read_L (s n : Nat) (hs : s < 4) (hn : n ≤ 60) : ∀ (m c : Nat) (S T : tg_S) (A : Nat → Nat → Nat), 22 < m + c → 3 * c ≤ n → z_I S T A → S 10 s = nI n → T 30 s = nI n → (∀ i, i < n → S 8 (60 * s + i) = T 31 (60 * s + i)) → z_eq (L_X7_read_35 m S (nI s) (nI c) (nI 1) (nI (3 * c))) (L_X8_read_32 m T (nI s) (nI c) (nI (60 * s))) := by
  intro m
  induction m with
  | zero => intro c S T A h; omega
  | succ m ih =>
    intro c S T A h hc hI h1 h2 h3
    show z_eq (f_X7_read_35 (L_X7_read_35 m) S (nI s) (nI c) (nI 1) (nI (3 * c))) (f_X8_read_32 (L_X8_read_32 m) T (nI s) (nI c) (nI (60 * s)))
    unfold f_X7_read_35 f_X8_read_32 f_X7_read_100 f_X7_read_111 f_X5_size f_X5_item
    simp (disch := omega) only [q_lit, q_rd, h1, h2, q_bdS, q_add, q_mul, q_lt, q_le, q_nm]
    rw [q_ifF (by decide)]
    by_cases hh : n < 3 * c + 3
    · rw [q_ifT hh, q_ifT (by omega)]
      exact z_eq_ret _ hI
    · rw [q_ifF hh, q_ifF (by omega)]
      simp (disch := omega) only [q_rd, q_bdS]
      rw [show s * 60 + 3 * c = 60 * s + 3 * c by omega, show s * 60 + (3 * c + 1) = 60 * s + 3 * c + 1 by omega, show s * 60 + (3 * c + 2) = 60 * s + 3 * c + 2 by omega, h3 (3 * c) (by omega), show S 8 (60 * s + 3 * c + 1) = T 31 (60 * s + 3 * c + 1) from h3 (3 * c + 1) (by omega), show S 8 (60 * s + 3 * c + 2) = T 31 (60 * s + 3 * c + 2) from h3 (3 * c + 2) (by omega)]
      obtain ⟨S2, T2, r, A2, e1, e2, hI2, f1, f2⟩ := q_readEv S T A hI (T 31 (60 * s + 3 * c)) (T 31 (60 * s + 3 * c + 1)) (T 31 (60 * s + 3 * c + 2))
      rw [e1, e2, q_bdS, q_bdS]
      by_cases hr : r ≤ nI 0
      · rw [q_ifT hr]
        simp only [if_pos hr]
        obtain ⟨m, rfl⟩ : ∃ x, m = x + 1 := ⟨m - 1, by omega⟩
        show z_eq (f_X7_read_35 (L_X7_read_35 m) S2 (nI s) (nI c + nI 0) (nI 0) (nI (3 * c + 3))) _
        unfold f_X7_read_35
        simp only [q_lit]
        rw [q_ifT trivial, q_add, Nat.add_zero]
        exact z_eq_ret _ hI2
      · rw [q_ifF hr]
        simp only [if_neg hr]
        have := ih (c + 1) S2 T2 A2 (by omega) (by omega) hI2 (by rw [f1 _ _ (by omega) (by omega)]; exact h1) (by rw [f2 _ _ (by omega) (by omega)]; exact h2) (fun i hi => by rw [f1 _ _ (by omega) (by omega), f2 _ _ (by omega) (by omega)]; exact h3 i hi)
        rw [if_neg (show ¬ nI 1 = nI 0 by decide), q_add]
        rw [show 3 * (c + 1) = 3 * c + 3 by omega] at this
        exact this
theorem e_read (S T : tg_S) (A : Nat → Nat → Nat) (hI : z_I S T A) (a : Int32) : z_eq (f_X7_read S a) (f_X8_read T a) := by
  unfold f_X7_read f_X8_read f_X5_isLost f_X7_found f_X8_meets
  simp only [q_lit]
  rcases z_dec a 4 (by omega) with ⟨s, hs, rfl⟩ | ha
  · rw [q_belowI S hs (by omega), q_isSheet T hs, q_bdS, q_bdS]
    simp only [q_ifF (show ¬ nI 1 = nI 0 by decide)]
    rcases hI.2.2.2.2 s hs with ⟨h1, h2⟩ | ⟨n, f, hn, hf, h1, h2, h3, h4, h5, h6⟩
    · simp (disch := omega) only [q_rd, h1, h2]
      rw [q_ifT trivial, q_bdS, q_ifF (by decide), q_ifT trivial]
      simp only [q_pf, q_bdS]
      exact z_eq_ret _ (z_found hI _)
    · simp (disch := omega) only [q_rd, h1, h3]
      rw [q_ifF (by rw [q_eqm (by omega)]; exact id), q_bdS, q_ifT rfl, q_ifF (by decide), q_nm, q_mul]
      exact e_read_L s n hs hn tg_F 0 S T A (by unfold tg_F; omega) (by omega) hI h1 h2 h6
  · rw [q_belowO S ha, q_isSheetO T ha, q_bdS, q_bdS, q_ifT rfl, q_ifT rfl]
    exact z_eq_ret _ hI
theorem e_write_L (A : Nat → Nat → Nat) (s n f N : Nat) (hs : s < 4) (hn : n ≤ 60) (hf : f ≤ 2) (hN : N = if n < 24 then n else 24) : ∀ (m i : Nat) (S T : tg_S), 25 < m + i → i ≤ N → z_I S T A → S 9 s = nI f → T 29 s = nI f → T 30 s = nI n → (∀ b, b < 24 → T 19 b = nI (z_sim (z_C A) (nI 0) (b + 1) 0)) → z_eq (L_X7_write_44 m S (nI s) (nI N) (nI i)) (L_X8_write_31 m T (nI s) (nI i)) := by
  intro m
  have hN2 : N ≤ 24 ∧ N ≤ n ∧ (n ≤ N ∨ 24 ≤ N) := by rw [hN]; split <;> omega
  clear hN
  induction m with
  | zero => intro i S T h; omega
  | succ m ih =>
    intro i S T h hi hI h1 h2 h3 h4
    show z_eq (f_X7_write_44 (L_X7_write_44 m) S (nI s) (nI N) (nI i)) (f_X8_write_31 (L_X8_write_31 m) T (nI s) (nI i))
    unfold f_X7_write_44 f_X8_write_31 f_X5_store f_X8_keep f_X5_store_33
    simp (disch := omega) only [q_lit, q_rd, h3, q_add, q_mul, q_le, q_nm]
    by_cases hh : N ≤ i
    · have e : N = i := by omega
      rw [q_ifT hh, e]
      by_cases h5 : n ≤ i
      · rw [q_ifT h5]
        exact z_eq_ret _ hI
      · rw [q_ifF h5, q_ifT (by omega)]
        exact z_eq_ret _ hI
    · rw [q_ifF hh, q_ifF (by omega), q_ifF (by omega)]
      have e36 : S 36 i = nI (z_sim (z_C A) (nI 0) (i + 1) 0) := (hI.2.1.2.2.2.1.2.2.1 i (by omega)).1
      simp (disch := omega) only [q_rd, q_wr, h1, h2, h4, e36, q_eq]
      generalize nI (z_sim (z_C A) (nI 0) (i + 1) 0) = x
      rw [show s * 60 + i = 60 * s + i by omega]
      have go : ∀ v, z_eq (L_X7_write_44 m (q_st S 8 (60 * s + i) v) (nI s) (nI N) (nI (i + 1))) (L_X8_write_31 m (q_st T 31 (60 * s + i) v) (nI s) (nI (i + 1))) := fun v => ih (i + 1) _ _ (by omega) (by omega) (z_item hI s i hs (by omega) v) (by rw [q_stN _ _ _ (by omega)]; exact h1) (by rw [q_stN _ _ _ (by omega)]; exact h2) (by rw [q_stN _ _ _ (by omega)]; exact h3) (fun b hb => by rw [q_stN _ _ _ (by omega)]; exact h4 b hb)
      by_cases f0 : f = 0
      · rw [q_ifT f0, q_ifT f0, q_bvS, q_bvS]
        exact go _
      · rw [q_ifF f0, q_ifF f0]
        by_cases f1 : f = 1
        · rw [q_ifT f1, q_ifT f1, q_bvS, q_bvS]
          exact go _
        · rw [q_ifF f1, q_ifF f1, q_bvS, q_bvS]
          exact go _
theorem e_write (S T : tg_S) (A : Nat → Nat → Nat) (hI : z_I S T A) (a : Int32) : z_eq (f_X7_write S a) (f_X8_write T a) := by
  unfold f_X7_write f_X8_write f_X5_isLost f_X7_found f_X8_meets f_X5_size
  simp only [q_lit]
  rcases z_dec a 4 (by omega) with ⟨s, hs, rfl⟩ | ha
  · rw [q_belowI S hs (by omega), q_isSheet T hs, q_bdS, q_bdS]
    simp only [q_ifF (show ¬ nI 1 = nI 0 by decide)]
    rcases hI.2.2.2.2 s hs with ⟨h1, h2⟩ | ⟨n, f, hn, hf, h1, h2, h3, h4, h5, h6⟩
    · simp (disch := omega) only [q_rd, h1, h2]
      rw [q_ifT trivial, q_bdS, q_ifF (by decide), q_ifT trivial]
      simp only [q_pf, q_bdS]
      exact z_eq_ret _ (z_found hI _)
    · simp (disch := omega) only [q_rd, h1, h3]
      rw [q_ifF (by rw [q_eqm (by omega)]; exact id), q_bdS, q_ifT rfl, q_ifF (by decide), q_bdS, h1, q_nm, q_min (by omega) (by omega)]
      obtain ⟨T2, e2, g1, g2⟩ := q_runsToldA T A hI.1 hI.2.2.1
      rw [e2, q_bvS]
      exact e_write_L A s n f _ hs hn hf rfl tg_F 0 S T2 (by unfold tg_F; omega) (by omega) (z_I_rf hI g1.1) h4 (by rw [g1.1.1 _ _ (by omega)]; exact h5) (by rw [g1.1.1 _ _ (by omega)]; exact h2) (fun b hb => (g2.2.2.2.1 b hb).1)
  · rw [q_belowO S ha, q_isSheetO T ha, q_bdS, q_bdS, q_ifT rfl, q_ifT rfl]
    exact z_eq_ret _ hI
