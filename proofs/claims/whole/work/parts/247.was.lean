-- ===== what fits what was seen =====
def z_ft (A C : Nat → Nat → Nat) (mi : Int32) : Nat → Nat → Nat
  | _, 0 => 1
  | i, n + 1 => if z_sim C mi (A 6 i + 1) 0 = A 7 i then z_ft A C mi (i + 1) n else 0
theorem z_ft_le (A C : Nat → Nat → Nat) (mi : Int32) : ∀ n i, z_ft A C mi i n ≤ 1 := by
  intro n
  induction n with
  | zero => intro i; exact Nat.le_refl _
  | succ n ih => intro i; unfold z_ft; split <;> first | exact ih _ | omega
theorem q_fit (S : tg_S) (A C : Nat → Nat → Nat) (mi : Int32) (hC : z_ok C) (hA : z_sok A) (h : z_snc S A) (hs : ∀ b, b < 24 → S 43 b = nI (z_sim C mi (b + 1) 0)) : f_X4_fit S = some (S, nI (z_ft A C mi 0 (A 5 2))) := by
  obtain ⟨x1, x2⟩ := h
  obtain ⟨s1, s2⟩ := hA
  have L : ∀ (n i : Nat), A 5 2 < n + i → i ≤ A 5 2 → L_X4_fit_2 n S (nI i) = some (S, nI (z_ft A C mi i (A 5 2 - i))) := by
    intro n
    induction n with
    | zero => intro i h; omega
    | succ n ih =>
      intro i h hi
      show f_X4_fit_2 (L_X4_fit_2 n) S (nI i) = _
      unfold f_X4_fit_2
      simp only [q_lit]
      rw [x1]
      simp (disch := omega) only [q_le]
      by_cases hh : A 5 2 ≤ i
      · rw [q_ifT hh, show A 5 2 - i = 0 by omega]
        rfl
      · have hb := s2 i (by omega)
        have hk := (z_sim_ok (mi := mi) hC (A 6 i + 1)).1
        rw [q_ifF hh, show A 5 2 - i = (A 5 2 - (i + 1)) + 1 by omega, z_ft]
        simp (disch := omega) only [q_rd, (x2 i (by omega)).1, (x2 i (by omega)).2, hs, q_nm, q_add]
        simp (disch := omega) only [q_eq]
        generalize z_sim C mi (A 6 i + 1) 0 = x at *
        by_cases he : x = A 7 i
        · rw [q_ifT he, if_pos he]
          exact ih (i + 1) (by omega) (by omega)
        · rw [q_ifF he, if_neg he]
  unfold f_X4_fit
  simp only [q_lit]
  rw [L tg_F 0 (by unfold tg_F; omega) (by omega), Nat.sub_zero]
theorem q_isSeen (T0 : tg_S) (A C : Nat → Nat → Nat) (mi : Int32) (hC : z_ok C) (hA : z_sok A) (h : z_snr T0 A) (hr : z_rr T0 C mi) : q_tr (f_X8_isSeen T0) (fun r => r.2 = nI (z_ft A C mi 0 (A 5 2)) ∧ (∀ b, b < 24 → r.1 19 b = nI (z_sim C mi (b + 1) 0)) ∧ z_rr r.1 C mi ∧ ∀ k j, (k < 14 ∨ 23 < k) → (k ≠ 0 ∨ j < 18 ∨ 24 < j) → r.1 k j = T0 k j) := by
  unfold f_X8_isSeen
  refine q_bv (q_runs T0 C mi hC hr) (fun T h2 => ?_)
  obtain ⟨hs, hf⟩ := h2
  obtain ⟨x1, x2⟩ := h
  obtain ⟨s1, s2⟩ := hA
  have hT : ∀ b, b < 24 → T 19 b = nI (z_sim C mi (b + 1) 0) := fun b hb => (hs.2.2.2.1 b hb).1
  have y1 : T 0 37 = nI (A 5 2) := by rw [hf _ _ (by omega) (by omega)]; exact x1
  have y2 : ∀ i, i < 8 → T 25 i = nI (A 6 i) ∧ T 26 i = nI (A 7 i) := fun i hi => by rw [hf _ _ (by omega) (by omega), hf _ _ (by omega) (by omega)]; exact x2 i hi
  have L0 : ∀ (n i : Nat), 1 ≤ n → i ≤ A 5 2 → L_X8_isSeen_8 n T (nI 0) (nI i) = some (T, nI 0) := by
    intro n i hn hi
    obtain ⟨n, rfl⟩ : ∃ m, n = m + 1 := ⟨n - 1, by omega⟩
    show f_X8_isSeen_8 (L_X8_isSeen_8 n) T (nI 0) (nI i) = _
    unfold f_X8_isSeen_8
    simp only [q_lit]
    rw [y1]
    simp (disch := omega) only [q_le]
    by_cases hh : A 5 2 ≤ i
    · rw [q_ifT hh, q_bz0]
    · rw [q_ifF hh, q_ifT trivial, q_bz0]
  have L : ∀ (n i : Nat), A 5 2 + 1 < n + i → i ≤ A 5 2 → L_X8_isSeen_8 n T (nI 1) (nI i) = some (T, nI (z_ft A C mi i (A 5 2 - i))) := by
    intro n
    induction n with
    | zero => intro i h; omega
    | succ n ih =>
      intro i h hi
      show f_X8_isSeen_8 (L_X8_isSeen_8 n) T (nI 1) (nI i) = _
      unfold f_X8_isSeen_8 f_X8_isSeen_45
      simp only [q_lit]
      rw [y1]
      simp (disch := omega) only [q_le]
      by_cases hh : A 5 2 ≤ i
      · rw [q_ifT hh, q_bz1, show A 5 2 - i = 0 by omega]
        rfl
      · have hb := s2 i (by omega)
        have hk := (z_sim_ok (mi := mi) hC (A 6 i + 1)).1
        rw [q_ifF hh, q_ifF (by decide), show A 5 2 - i = (A 5 2 - (i + 1)) + 1 by omega, z_ft]
        simp (disch := omega) only [q_rd, (y2 i (by omega)).1, (y2 i (by omega)).2, hT, q_nm, q_add]
        simp (disch := omega) only [q_eq]
        generalize z_sim C mi (A 6 i + 1) 0 = x at *
        by_cases he : x = A 7 i
        · rw [if_pos he, if_pos he]
          exact ih (i + 1) (by omega) (by omega)
        · rw [if_neg he, if_neg he]
          exact L0 n (i + 1) (by omega) (by omega)
  simp only [q_lit]
  rw [L tg_F 0 (by unfold tg_F; omega) (by omega), Nat.sub_zero]
  exact q_ret ⟨rfl, hT, z_rr_congr (fun k j _ hk => hf k j (by omega) (by omega)) (fun j hj => hf 0 j (by omega) (by omega)) hr, hf⟩
/-- the set of those from lo on that fit -/
def z_ws (f : Nat → Nat) (lo : Nat) : Nat → Int32
  | 0 => nI 0
  | i + 1 => if f (lo + i) = 0 then z_ws f lo i else z_ws f lo i ||| z_b1 (lo + i)
abbrev z_nf (A : Nat → Nat → Nat) (e : Nat) : Nat := z_ft A (z_C A) (z_b1 e) 0 (A 5 2)
theorem z_ci_sn {S0 S : tg_S} {A : Nat → Nat → Nat} (h : z_ci S0 A) (f : z_cf S0 S) : z_snc S A := (z_ci_cf h f).2.2.2.2.1
theorem q_neverC (S : tg_S) (A : Nat → Nat → Nat) (hA : z_aok A) (hc : z_ci S A) : q_tr (f_X7_never S) (fun r => r.2 = z_ws (z_nf A) 0 (A 5 0) ∧ z_cf S r.1) := by
  have h8 := hA.2.1.1
  have hC := z_C_ok A hA.1 hA.2.1
  have L : ∀ (n e : Nat) (S2 : tg_S), A 5 0 < n + e → e ≤ A 5 0 → (∃ m0, z_rc S2 23 (z_C A) m0) → z_cf S S2 → q_tr (L_X7_never_15 n S2 (z_ws (z_nf A) 0 e) (nI e)) (fun r => r.2 = z_ws (z_nf A) 0 (A 5 0) ∧ z_cf S r.1) := by
    intro n
    induction n with
    | zero => intro e S2 h; omega
    | succ n ih =>
      intro e S2 h he hr hf
      obtain ⟨m0, hr⟩ := hr
      show q_tr (f_X7_never_15 (L_X7_never_15 n) S2 _ (nI e)) _
      unfold f_X7_never_15 f_X7_never_74
      have e31 : S2 31 3 = nI (A 5 0) := hr.2.2.2.1.1
      simp (disch := omega) only [q_lit, e31, q_le, q_pf, q_nm, q_add]
      refine q_if (fun hh => ?_) (fun hh => ?_)
      · have : e = A 5 0 := by omega
        rw [this]
        exact q_ret ⟨rfl, hf⟩
      · have hr1 := z_rc_mi (z_b1 e) hr
        refine q_bd (q_play 42 23 (by omega) _ (z_C A) (z_b1 e) hC hr1) (fun S3 r3 h3 => ?_)
        obtain ⟨-, c3, f3⟩ := h3
        dsimp only at c3 f3
        have hf3 : z_cf S S3 := z_cf_trans hf (fun k j hk => by rw [f3 k j (by omega), q_stN _ _ _ (by omega)])
        have hr3 : z_rc S3 23 (z_C A) (z_b1 e) := z_rc_congr2 (fun k j _ _ => f3 k j (by omega)) hr1
        rw [q_fit S3 A (z_C A) (z_b1 e) hC hA.2.2 (z_ci_sn hc hf3) (fun b hb => (c3.2.2.1 b hb).1), q_bdS]
        have hn := ih (e + 1) S3 (by omega) (by omega) ⟨_, hr3⟩ hf3
        have hle := z_ft_le A (z_C A) (z_b1 e) (A 5 2) 0
        rw [z_ws, Nat.zero_add] at hn
        simp (disch := omega) only [q_eq]
        by_cases h0 : z_nf A e = 0
        · rw [if_pos h0] at hn
          rw [q_ifT h0]
          exact hn
        · rw [if_neg h0] at hn
          rw [q_ifF h0]
          exact hn
  unfold f_X7_never
  refine q_bv (q_becomeLike S A hA.2.1 hc.2.2.1 hc.2.1) (fun S1 h1 => ?_)
  simp only [q_lit]
  exact L tg_F 0 S1 (by unfold tg_F; omega) (by omega) ⟨_, h1.1⟩ (fun k j hk => h1.2.2 k j (by omega))
theorem z_rdk_congr {A : Nat → Nat → Nat} {T T0 : tg_S} (h : ∀ k j, 3 ≤ k → k ≤ 8 → T k j = T0 k j) (hr : z_rdk A T0) : z_rdk A T := by
  obtain ⟨d1, d2, d3⟩ := hr
  exact ⟨fun m hm => by rw [h _ _ (by omega) (by omega), h _ _ (by omega) (by omega)]; exact d1 m hm, fun k hk hk0 => by rw [h _ _ (by omega) (by omega), h _ _ (by omega) (by omega), h _ _ (by omega) (by omega)]; exact d2 k hk hk0, fun j hj => by rw [h _ _ (by omega) (by omega)]; exact d3 j hj⟩
theorem q_neverR (T : tg_S) (A : Nat → Nat → Nat) (hA : z_aok A) (h : z_ri T A) : q_tr (f_X8_neverNow T) (fun r => r.2 = z_ws (z_nf A) 0 (A 5 0) ∧ z_ro A T r.1) := by
  have h8 := hA.2.1.1
  have hC := z_C_ok A hA.1 hA.2.1
  have L : ∀ (n e : Nat) (T2 : tg_S), A 5 0 < n + e → e ≤ A 5 0 → (∃ m0, z_rr T2 (z_C A) m0) → z_ro A T T2 → q_tr (L_X8_neverNow_8 n T2 (z_ws (z_nf A) 0 e) (nI e)) (fun r => r.2 = z_ws (z_nf A) 0 (A 5 0) ∧ z_ro A T r.1) := by
    intro n
    induction n with
    | zero => intro e T2 h; omega
    | succ n ih =>
      intro e T2 hne he hr hf
      obtain ⟨m0, hr⟩ := hr
      show q_tr (f_X8_neverNow_8 (L_X8_neverNow_8 n) T2 _ (nI e)) _
      unfold f_X8_neverNow_8 f_X8_neverNow_38
      have e9 : T2 0 9 = nI (A 5 0) := hr.2.2.2.2.1.1
      simp (disch := omega) only [q_lit, e9, q_le, q_pf, q_nm, q_add]
      refine q_if (fun hh => ?_) (fun hh => ?_)
      · have : e = A 5 0 := by omega
        rw [this]
        exact q_ret ⟨rfl, hf⟩
      · have hr1 := z_rr_mi (z_b1 e) hr
        have q14 : ∀ k j, (k ≠ 0 ∨ j ≠ 14) → q_st T2 0 14 (z_b1 e) k j = T2 k j := fun k j hk => by rw [q_stA, if_neg (by omega)]
        have hsn : z_snr (q_st T2 0 14 (z_b1 e)) A := by
          have := (z_ri_rf h hf.1).2.2
          exact ⟨by rw [q14 _ _ (by omega)]; exact this.1, fun i hi => by rw [q14 _ _ (by omega), q14 _ _ (by omega)]; exact this.2 i hi⟩
        refine q_bd (q_isSeen _ A (z_C A) (z_b1 e) hC hA.2.2 hsn hr1) (fun T3 r3 h3 => ?_)
        obtain ⟨e3, -, r3', f3⟩ := h3
        dsimp only at e3 r3' f3
        have hf3 : z_ro A T T3 := ⟨z_rf_trans hf.1 ⟨fun k j hk => by rw [f3 k j (by omega) (by omega), q14 _ _ (by omega)], fun j hj => by rw [f3 0 j (by omega) (by omega), q14 _ _ (by omega)]⟩, z_rdk_congr (fun k j _ _ => by rw [f3 k j (by omega) (by omega), q14 _ _ (by omega)]) hf.2⟩
        have hn := ih (e + 1) T3 (by omega) (by omega) ⟨_, r3'⟩ hf3
        have hle := z_ft_le A (z_C A) (z_b1 e) (A 5 2) 0
        rw [z_ws, Nat.zero_add] at hn
        rw [e3]
        simp (disch := omega) only [q_eq]
        by_cases h0 : z_nf A e = 0
        · rw [if_pos h0] at hn
          rw [if_pos h0, q_or0]
          exact hn
        · rw [if_neg h0] at hn
          rw [if_neg h0]
          exact hn
  unfold f_X8_neverNow
  refine q_bv (q_asToldA T A hA h) (fun T1 h1 => ?_)
  simp only [q_lit]
  exact L tg_F 0 T1 (by unfold tg_F; omega) (by omega) ⟨_, z_AT_rr A T T1 hA.2.1 h.2.1 hA.1 h1.2⟩ h1.1
theorem e_never (S T : tg_S) (A : Nat → Nat → Nat) (hI : z_I S T A) : z_eq (f_X7_never S) (f_X8_never T) := by
  refine z_eq_q _ hI (q_neverC S A hI.1 hI.2.1) ?_
  unfold f_X8_never
  exact q_bd (q_neverR T A hI.1 hI.2.2.1) (fun T2 r h => q_ret ⟨h.1, h.2.1⟩)
