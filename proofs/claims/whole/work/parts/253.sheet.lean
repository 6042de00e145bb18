theorem q_renew_L (S0 : tg_S) (s n : Nat) (hs : s < 4) (hn : n ≤ 60) : ∀ (m i : Nat) (S : tg_S), n < m + i → i ≤ n → (∀ k j, S k j = if k = 8 ∧ 60 * s ≤ j ∧ j < 60 * s + i then nI 0 else S0 k j) → q_tr (L_X5_renew_17 m S (nI s) (nI n) (nI i)) (fun S2 => ∀ k j, S2 k j = if k = 8 ∧ 60 * s ≤ j ∧ j < 60 * s + n then nI 0 else S0 k j) := by
  intro m
  induction m with
  | zero => intro i S h; omega
  | succ m ih =>
    intro i S h hi hS
    show q_tr (f_X5_renew_17 (L_X5_renew_17 m) S (nI s) (nI n) (nI i)) _
    unfold f_X5_renew_17
    simp (disch := omega) only [q_lit, q_le, q_nm, q_add, q_mul]
    refine q_if (fun hh => ?_) (fun hh => ?_)
    · have : i = n := by omega
      subst this
      exact q_ret hS
    · simp (disch := omega) only [q_wr]
      refine ih (i + 1) _ (by omega) (by omega) (fun k j => ?_)
      rw [q_stA, hS k j]
      clear ih hS
      grind
theorem q_sheet_L (T0 : tg_S) (s n : Nat) (hs : s < 4) : ∀ (m i : Nat) (T : tg_S), 60 < m + i → i ≤ 60 → (∀ k j, T k j = if k = 31 ∧ 60 * s ≤ j ∧ j < 60 * s + i then nI 0 else T0 k j) → q_tr (L_X8_sheet_59 m T (nI s) (nI n) (nI i)) (fun r => r.2 = nI n ∧ ∀ k j, r.1 k j = if k = 31 ∧ 60 * s ≤ j ∧ j < 60 * s + 60 then nI 0 else T0 k j) := by
  intro m
  induction m with
  | zero => intro i S h; omega
  | succ m ih =>
    intro i T h hi hT
    show q_tr (f_X8_sheet_59 (L_X8_sheet_59 m) T (nI s) (nI n) (nI i)) _
    unfold f_X8_sheet_59
    simp (disch := omega) only [q_lit, q_le, q_nm, q_add, q_mul]
    refine q_if (fun hh => ?_) (fun hh => ?_)
    · have : i = 60 := by omega
      subst this
      exact q_ret ⟨rfl, hT⟩
    · simp (disch := omega) only [q_wr]
      refine ih (i + 1) _ (by omega) (by omega) (fun k j => ?_)
      rw [q_stA, hT k j]
      clear ih hT
      grind
theorem e_sheet (S T : tg_S) (A : Nat → Nat → Nat) (hI : z_I S T A) (a b v : Int32) : z_eq (f_X7_sheet S a b v) (f_X8_sheet T a b v) := by
  unfold f_X7_sheet f_X8_sheet f_X7_found f_X8_meets f_X5_renew
  simp only [q_lit]
  rcases z_dec a 4 (by omega) with ⟨s, hs, rfl⟩ | ha
  · rw [q_belowI S hs (by omega), q_isSheet T hs, q_bdS, q_bdS]
    simp only [q_ifF (show ¬ nI 1 = nI 0 by decide)]
    rcases z_dec b 3 (by omega) with ⟨f, hf, rfl⟩ | hb
    · rw [q_belowI S hf (by omega), q_inI T (n := 2) hf (by omega), q_bdS, q_bdS]
      simp only [q_ifF (show ¬ nI 1 = nI 0 by decide)]
      rcases z_dec v 61 (by omega) with ⟨n, hn, rfl⟩ | hv
      · simp (disch := omega) only [q_le]
        rw [q_ifT (by omega), q_ifT (by omega), q_ifT (by omega), q_ifT (by omega)]
        simp (disch := omega) only [q_wr, q_wz]
        obtain ⟨S2, e1, h1⟩ := q_renew_L (q_st (q_st S 9 s (nI f)) 10 s (nI n)) s n hs (by omega) tg_F 0 _ (by unfold tg_F; omega) (by omega) (fun k j => by rw [if_neg (by omega)])
        obtain ⟨⟨T2, r⟩, e2, e3, h2⟩ := q_sheet_L (q_st (q_st (q_st T 28 s (vp_nar .boolean (nI 1))) 29 s (nI f)) 30 s (nI n)) s n hs tg_F 0 _ (by unfold tg_F; omega) (by omega) (fun k j => by rw [if_neg (by omega)])
        dsimp only at e3 h2
        rw [e1, e2, q_bvS, e3]
        refine z_eq_ret (A := A) _ (z_resh hI (fun k j hk _ => ?_) (fun k j hk _ => ?_) ⟨?_, fun s2 hs2 => ?_⟩)
        · rw [h1, if_neg (by omega), q_stN _ _ _ (by omega), q_stN _ _ _ (by omega)]
        · rw [h2, if_neg (by omega), q_stN _ _ _ (by omega), q_stN _ _ _ (by omega), q_stN _ _ _ (by omega)]
        · rw [h1, h2, if_neg (by omega), if_neg (by omega), q_stN _ _ _ (by omega), q_stN _ _ _ (by omega), q_stN _ _ _ (by omega), q_stN _ _ _ (by omega), q_stN _ _ _ (by omega)]
          exact hI.2.2.2.1
        · have h7 := hI.2.2.2.2 s2 hs2
          have c8 : ∀ j, S2 8 j = if 60 * s ≤ j ∧ j < 60 * s + n then nI 0 else S 8 j := fun j => by rw [h1]; simp only [q_stA]; grind
          have c9 : S2 9 s2 = if s2 = s then nI f else S 9 s2 := by rw [h1]; simp only [q_stA]; grind
          have c10 : S2 10 s2 = if s2 = s then nI n else S 10 s2 := by rw [h1]; simp only [q_stA]; grind
          have t28 : T2 28 s2 = if s2 = s then nI 1 else T 28 s2 := by rw [h2]; simp only [q_stA, show vp_nar .boolean (nI 1) = nI 1 from rfl]; grind
          have t29 : T2 29 s2 = if s2 = s then nI f else T 29 s2 := by rw [h2]; simp only [q_stA]; grind
          have t30 : T2 30 s2 = if s2 = s then nI n else T 30 s2 := by rw [h2]; simp only [q_stA]; grind
          have t31 : ∀ j, T2 31 j = if 60 * s ≤ j ∧ j < 60 * s + 60 then nI 0 else T 31 j := fun j => by rw [h2]; simp only [q_stA]; grind
          unfold z_sh1 at h7 ⊢
          rw [c9, c10, t28, t29, t30]
          by_cases h8 : s2 = s
          · simp only [if_pos h8]
            refine Or.inr ⟨n, f, by omega, by omega, rfl, rfl, trivial, rfl, rfl, fun i hi => ?_⟩
            rw [c8, t31, if_pos (by omega), if_pos (by omega)]
          · simp only [if_neg h8]
            rcases h7 with h7 | ⟨n2, f2, g1, g2, g3, g4, g5, g6, g7, g8⟩
            · exact Or.inl h7
            · refine Or.inr ⟨n2, f2, g1, g2, g3, g4, g5, g6, g7, fun i hi => ?_⟩
              rw [c8, t31, if_neg (by omega), if_neg (by omega)]
              exact g8 i hi
      · rcases hv with hv | hv
        · have h60 : v ≤ nI 60 := Int32.le_trans (Int32.le_of_lt hv) (by decide)
          have h0 : ¬ nI 0 ≤ v := by rw [nI_0]; exact Int32.not_le.mpr hv
          rw [q_ifT h60, q_ifT h60, q_ifF h0, q_ifF h0]
          simp only [q_pf, q_bdS]
          exact z_eq_ret _ (z_found hI _)
        · have h60 : ¬ v ≤ nI 60 := Int32.not_le.mpr (Int32.lt_of_lt_of_le (by decide) hv)
          rw [q_ifF h60, q_ifF h60]
          exact z_eq_ret _ hI
    · rw [q_belowO S hb, q_inO T (n := 2) hb (by omega), q_bdS, q_bdS, q_ifT rfl, q_ifT rfl]
      exact z_eq_ret _ hI
  · rw [q_belowO S ha, q_isSheetO T ha, q_bdS, q_bdS, q_ifT rfl, q_ifT rfl]
    exact z_eq_ret _ hI
