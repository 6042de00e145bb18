theorem q_lenAll (S : tg_S) (A : Nat → Nat → Nat) (h : z_tc S A) : f_X6_lengthOfAll S = some (S, nI (A 0 0 + A 0 1 + A 0 2 + A 0 3)) := by
  have st : ∀ n x i, i < 4 → L_X6_lengthOfAll_4 (n + 1) S (nI x) (nI i) = L_X6_lengthOfAll_4 n S (nI (x + A 0 i)) (nI (i + 1)) := by
    intro n x i hi
    show f_X6_lengthOfAll_4 (L_X6_lengthOfAll_4 n) S (nI x) (nI i) = _
    unfold f_X6_lengthOfAll_4
    simp (disch := omega) only [q_lit, q_le, q_rd, h.1, q_nm, q_add]
    rw [q_ifF (by omega)]
  have en : ∀ n x, L_X6_lengthOfAll_4 (n + 1) S (nI x) (nI 4) = some (S, nI x) := by
    intro n x
    show f_X6_lengthOfAll_4 (L_X6_lengthOfAll_4 n) S (nI x) (nI 4) = _
    unfold f_X6_lengthOfAll_4
    simp (disch := omega) only [q_lit, q_le]
    rw [q_ifT (Nat.le_refl 4)]
  unfold f_X6_lengthOfAll
  simp only [q_lit]
  have e : ∀ n, L_X6_lengthOfAll_4 (n + 1 + 1 + 1 + 1 + 1) S (nI 0) (nI 0) = some (S, nI (A 0 0 + A 0 1 + A 0 2 + A 0 3)) := fun n => by
    rw [st _ _ _ (by omega), st _ _ _ (by omega), st _ _ _ (by omega), st _ _ _ (by omega), en, Nat.zero_add]
  rw [show tg_F = 995 + 1 + 1 + 1 + 1 + 1 from rfl]
  exact e 995
theorem q_tellOf (T : tg_S) (A : Nat → Nat → Nat) (hA : z_aok A) (h : z_ri T A) (a : Nat) (x v : Nat) (hx : z_sim (z_C A) (nI 0) 24 0 = x) (hv : a < 2 ∧ v = z_sz A a ∨ 2 ≤ a ∧ a < 4 ∧ v = z_sl A a ∨ a = 6 ∧ v = x) : q_tr (f_X8_tellOf T (nI a)) (fun r => r.2 = nI v ∧ z_rf T r.1) := by
  unfold f_X8_tellOf
  refine q_bv (q_runsToldA T A hA h) (fun T2 h2 => ?_)
  obtain ⟨g1, g2⟩ := h2
  have g3 : T2 0 21 = nI x := by rw [← hx]; exact g2.1.2.1
  clear g2 hx
  simp only [q_lit]
  rcases hv with ⟨h1, rfl⟩ | ⟨h1, h3, rfl⟩ | ⟨rfl, rfl⟩
  · simp (disch := omega) only [q_le, q_rd]
    rw [q_ifF (by omega)]
    exact q_ret ⟨(g1.2.1 a h1).1, g1.1⟩
  · simp (disch := omega) only [q_le, q_sub, q_rd]
    rw [q_ifT h1, q_ifF (by omega)]
    refine q_ret ⟨?_, g1.1⟩
    have := (g1.2.1 (a - 2) (by omega)).2
    rw [show 2 + (a - 2) = a by omega] at this
    exact this
  · rw [q_ifT (by decide), q_ifT (by decide)]
    exact q_ret ⟨g3, g1.1⟩
theorem e_count (S T : tg_S) (A : Nat → Nat → Nat) (hI : z_I S T A) (a : Int32) : z_eq (f_X7_count S a) (f_X8_count T a) := by
  have hc := hI.2.1
  have e36 : S 36 23 = nI (z_sim (z_C A) (nI 0) 24 0) := (hc.2.2.2.1.2.2.1 23 (by omega)).1
  obtain ⟨x, hx⟩ : ∃ x, z_sim (z_C A) (nI 0) 24 0 = x := ⟨_, rfl⟩
  rw [hx] at e36
  have tl := fun a v => q_tellOf T A hI.1 hI.2.2.1 a x v hx
  unfold f_X7_count f_X8_count
  simp only [q_lit]
  by_cases h0 : a = nI 0
  · subst h0
    rw [q_ifT rfl, q_ifT rfl]
    simp (disch := omega) only [q_rd, (hc.2.2.1.2 0 (by omega)).1]
    exact z_eq_q _ hI (q_retc _) (q_bd (tl 0 _ (Or.inl ⟨by omega, rfl⟩)) (fun T2 r h => q_ret h))
  rw [q_ifF h0, q_ifF h0]
  by_cases h1 : a = nI 1
  · subst h1
    rw [q_ifT rfl, q_ifT rfl]
    simp (disch := omega) only [q_rd, (hc.2.2.1.2 1 (by omega)).1]
    exact z_eq_q _ hI (q_retc _) (q_bd (tl 1 _ (Or.inl ⟨by omega, rfl⟩)) (fun T2 r h => q_ret h))
  rw [q_ifF h1, q_ifF h1]
  by_cases h2 : a = nI 2
  · subst h2
    rw [q_ifT rfl, q_ifT rfl, q_soundLength S A hI.1.1 hc.1 2 (by omega), q_bdS]
    exact z_eq_q _ hI (q_retc _) (q_bd (tl 2 _ (Or.inr (Or.inl ⟨by omega, by omega, rfl⟩))) (fun T2 r h => q_ret h))
  rw [q_ifF h2, q_ifF h2]
  by_cases h3 : a = nI 3
  · subst h3
    rw [q_ifT rfl, q_ifT rfl, q_soundLength S A hI.1.1 hc.1 3 (by omega), q_bdS]
    exact z_eq_q _ hI (q_retc _) (q_bd (tl 3 _ (Or.inr (Or.inl ⟨by omega, by omega, rfl⟩))) (fun T2 r h => q_ret h))
  rw [q_ifF h3, q_ifF h3]
  by_cases h4 : a = nI 4
  · subst h4
    rw [q_ifT rfl, q_ifT rfl, q_lenAll S A hc.1, q_bdS]
    simp (disch := omega) only [q_rd, hI.2.2.1.1.1, q_add]
    exact z_eq_ret _ hI
  rw [q_ifF h4, q_ifF h4]
  by_cases h5 : a = nI 5
  · subst h5
    rw [q_ifT rfl, q_ifT rfl, hc.2.1.1, hI.2.2.1.2.1.1]
    exact z_eq_ret _ hI
  rw [q_ifF h5, q_ifF h5]
  by_cases h6 : a = nI 6
  · subst h6
    rw [q_ifT rfl, q_ifT rfl]
    simp (disch := omega) only [q_rd, e36]
    exact z_eq_q _ hI (q_retc _) (q_bd (tl 6 _ (Or.inr (Or.inr ⟨rfl, rfl⟩))) (fun T2 r h => q_ret h))
  rw [q_ifF h6, q_ifF h6]
  by_cases h7 : a = nI 7
  · subst h7
    rw [q_ifT rfl, q_ifT rfl, hc.2.2.2.2.1.1, hI.2.2.1.2.2.1]
    exact z_eq_ret _ hI
  rw [q_ifF h7, q_ifF h7]
  by_cases h8 : a = nI 8
  · subst h8
    rw [q_ifT rfl, q_ifT rfl, hI.2.2.2.1]
    exact z_eq_ret _ hI
  rw [q_ifF h8, q_ifF h8]
  exact z_eq_ret _ hI
