-- ===== trials =====
theorem q_swA (S : tg_S) (k : Nat) (row : Nat → Int32) (k2 j : Nat) : tg_sw S k row k2 j = if k2 = k then row j else S k2 j := by
  unfold tg_sw
  split <;> rfl
theorem q_cpy0 (f g : Nat → Int32) (n j : Nat) : va_cpy f g 0 0 n j = if j < n then f j else g j := by
  by_cases h : j < n
  · rw [pk_cpy_in (Nat.zero_le _) (by omega), if_pos h]
    congr 1
    omega
  · rw [pk_cpy_out (by omega), if_neg h]
/-- behind becomeLike -/
def z_BL (S0 S : tg_S) : Prop := (∀ k j, (k < 23 ∨ 34 < k) → S k j = S0 k j) ∧ (∀ j, j < 16 → S 24 j = vp_nar .boolean (S0 12 j) ∧ S 25 j = S0 13 j ∧ S 26 j = S0 14 j ∧ S 27 j = S0 15 j) ∧ (∀ j, j < 2 → S 28 j = S0 16 j ∧ S 29 j = S0 17 j) ∧ (∀ j, j < 48 → S 30 j = S0 18 j) ∧ S 31 3 = S0 19 3 ∧ S 31 4 = S0 19 4 ∧ (∀ j, j < 8 → S 32 j = S0 20 j ∧ S 33 j = S0 21 j ∧ S 34 j = S0 22 j) ∧ S 23 8 = S0 11 8
theorem q_becomeLike_L (S0 : tg_S) : ∀ (n i : Nat) (S : tg_S), 16 < n + i → i ≤ 16 → (∀ k j, S k j = if k = 24 ∧ j < i then vp_nar .boolean (S0 12 j) else if k = 25 ∧ j < i then S0 13 j else if k = 26 ∧ j < i then S0 14 j else if k = 27 ∧ j < i then S0 15 j else S0 k j) → q_tr (L_X1_becomeLike_2 n S (nI i)) (fun S2 => z_BL S0 S2) := by
  intro n
  induction n with
  | zero => intro i S h; omega
  | succ n ih =>
    intro i S h hi hI
    show q_tr (f_X1_becomeLike_2 (L_X1_becomeLike_2 n) S (nI i)) _
    unfold f_X1_becomeLike_2 f_X3_takeFrom
    simp (disch := omega) only [q_lit, q_le]
    refine q_if (fun h1 => ?_) (fun h1 => ?_)
    · have : i = 16 := by omega
      subst this
      simp (disch := omega) only [q_cp, q_pf, q_bvS]
      refine q_ret ⟨fun k j hk => ?_, fun j hj => ?_, fun j hj => ?_, fun j hj => ?_, ?_, ?_, fun j hj => ?_, ?_⟩
      · simp only [q_stA, q_swA, q_cpy0, hI]
        clear ih hI
        grind (splits := 24)
      all_goals simp only [q_stA, q_swA, q_cpy0, hI]
      all_goals grind
    · simp (disch := omega) only [q_rd, q_wz, q_wr, q_stN, q_nm, q_add]
      refine ih (i + 1) _ (by omega) (by omega) (fun k j => ?_)
      simp only [q_stA]
      rw [hI 12 i, hI 13 i, hI 14 i, hI 15 i, hI k j]
      clear ih hI
      grind (splits := 20)
theorem q_becomeLike (S0 : tg_S) (A : Nat → Nat → Nat) (hE : z_eok A) (h : z_told S0 A) (hx : z_xc S0 A) : q_tr (f_X1_becomeLike S0) (fun S => z_rc S 23 (z_C A) (nI 0) ∧ (∀ m, m < 2 → S 29 m = nI (8 * m + z_sz A m) - nI 1) ∧ ∀ k j, (k < 23 ∨ 34 < k) → S k j = S0 k j) := by
  unfold f_X1_becomeLike
  simp only [q_lit]
  refine q_mono (q_becomeLike_L S0 tg_F 0 S0 (by decide) (by decide) (fun k j => by grind)) (fun S hS => ?_)
  obtain ⟨b1, b2, b3, b4, b5, b6, b7, b8⟩ := hS
  obtain ⟨⟨a1, a2, a3, a4, a5⟩, c⟩ := h
  refine ⟨⟨fun k hk => ?_, fun k hk h0 => ?_, fun j hj => ?_, ⟨?_, ?_, fun e he => ?_⟩, ?_⟩, fun m hm => by rw [(b3 m hm).2]; exact (c m hm).2, b1⟩
  · show S 24 k = _
    rw [(b2 k hk).1, show S0 12 k = _ from a1 k hk, q_bool _ (z_C0le A k)]
  · obtain ⟨p1, p2, p3, p4⟩ := a2 k hk h0
    refine ⟨?_, ?_, ?_, ?_⟩
    · show S 25 k = _
      rw [(b2 k hk).2.1]; exact p1
    · show S 26 k = _
      rw [(b2 k hk).2.2.1]; exact p2
    · show S 27 k = _
      rw [(b2 k hk).2.2.2]; exact p3
    · show S 29 (k / 8) = _ ↔ _
      rw [(b3 (k / 8) (by omega)).2]; exact p4
  · show S 30 j = _
    rw [b4 j hj]; exact a3 j hj
  · show S 31 3 = _
    rw [b5]; exact hx.1
  · show S 31 4 = _
    rw [b6]; exact hx.2.1
  · show S 32 e = _ ∧ S 33 e = _ ∧ S 34 e = _
    have he8 : e < 8 := Nat.lt_of_lt_of_le he hE.1
    rw [(b7 e he8).1, (b7 e he8).2.1, (b7 e he8).2.2]
    exact hx.2.2.2 e he8
  · show S 23 8 = _
    rw [b8]; exact hx.2.2.1
-- choosing: s.1 whether there is one, s.2.1 its code, s.2.2 the place
def z_of (m : Nat) (s : Nat × Nat × Nat) (code pl : Nat) : Nat × Nat × Nat := if s.1 = 0 ∨ (if m = 0 then s.2.2 < pl else pl < s.2.2) then (1, code, pl) else s
def z_cho (S : tg_S) (m : Nat) (f g : Nat → Int32) (s : Nat × Nat × Nat) : Prop := S 49 3 = nI m ∧ ((s.1 = 0 ∧ S 49 0 = -nI 1 ∧ S 49 1 = -nI 1 ∧ S 49 2 = -nI 1) ∨ (s.1 = 1 ∧ S 49 0 = f s.2.1 ∧ S 49 1 = g s.2.1 ∧ S 49 2 = nI s.2.2 ∧ ¬ f s.2.1 = -nI 1 ∧ s.2.2 < 2147483648))
def z_tri (T : tg_S) (s : Nat × Nat × Nat) : Prop := (s.1 = 0 ∧ T 0 34 = -nI 1 ∧ T 0 35 = -nI 1) ∨ (s.1 = 1 ∧ T 0 34 = nI s.2.1 ∧ T 0 35 = nI s.2.2 ∧ s.2.1 < 2147483648 ∧ s.2.2 < 2147483648)
theorem q_startFor (S : tg_S) (m : Nat) (f g : Nat → Int32) : q_tr (f_X0_startFor S (nI m)) (fun S2 => z_cho S2 m f g (0, 0, 0) ∧ ∀ k j, k ≠ 49 → S2 k j = S k j) := by
  unfold f_X0_startFor
  simp only [q_lit, q_pf]
  refine q_ret ⟨⟨by simp [q_stA], Or.inl ⟨rfl, by simp [q_stA], by simp [q_stA], by simp [q_stA]⟩⟩, fun k j hk => by simp only [q_stA]; grind⟩
theorem q_offer (S : tg_S) (m : Nat) (hm : m < 2) (f g : Nat → Int32) (s : Nat × Nat × Nat) (h : z_cho S m f g s) (code pl : Nat) (hf : ¬ f code = -nI 1) (hp : pl < 2147483648) (a b : Int32) (ha : a = f code) (hb : b = g code) : q_tr (f_X0_offer S a b (nI pl)) (fun S2 => z_cho S2 m f g (z_of m s code pl) ∧ ∀ k j, k ≠ 49 → S2 k j = S k j) := by
  subst ha
  subst hb
  obtain ⟨h3, h⟩ := h
  unfold f_X0_offer f_X0_offer_36 f_X0_offer_51
  simp only [q_lit, q_pf]
  have take : ∀ s2, s2 = (1, code, pl) → q_tr (some (q_st (q_st (q_st S 49 0 (f code)) 49 1 (g code)) 49 2 (nI pl))) (fun S2 => z_cho S2 m f g s2 ∧ ∀ k j, k ≠ 49 → S2 k j = S k j) := by
    intro s2 hs2
    subst hs2
    refine q_ret ⟨⟨by simp only [q_stA]; simp; exact h3, Or.inr ⟨rfl, by simp [q_stA], by simp [q_stA], by simp [q_stA], hf, hp⟩⟩, fun k j hk => by simp only [q_stA]; grind⟩
  rcases h with ⟨s0, h0, h1, h2⟩ | ⟨s1, h0, h1, h2, h4, h5⟩
  · rw [h0, q_ifT rfl]
    exact take _ (by unfold z_of; rw [if_pos (Or.inl s0)])
  · rw [h0, q_ifF h4, h3, h2]
    simp (disch := omega) only [q_eq, q_le]
    by_cases hb : (if m = 0 then s.2.2 < pl else pl < s.2.2)
    · rw [q_ifF]
      · exact take _ (by unfold z_of; rw [if_pos (Or.inr hb)])
      · by_cases hm0 : m = 0
        · rw [if_pos hm0] at hb ⊢
          rw [if_neg (by omega)]
          decide
        · rw [if_neg hm0] at hb ⊢
          rw [if_neg (by omega)]
          decide
    · rw [q_ifT]
      · refine q_ret ⟨⟨h3, ?_⟩, fun _ _ _ => rfl⟩
        unfold z_of
        rw [if_neg (fun hh => hh.elim (fun q => by omega) hb)]
        exact Or.inr ⟨s1, h0, h1, h2, h4, h5⟩
      · by_cases hm0 : m = 0
        · rw [if_pos hm0] at hb ⊢
          rw [if_pos (by omega)]
        · rw [if_neg hm0] at hb ⊢
          rw [if_pos (by omega)]
theorem z_rr_congr {T T0 : tg_S} {C : Nat → Nat → Nat} {mi : Int32} (h : ∀ k j, k ≠ 0 → k < 14 → T k j = T0 k j) (h0 : ∀ j, (j = 8 ∨ j = 9 ∨ j = 14 ∨ j = 16) → T 0 j = T0 0 j) (hr : z_rr T0 C mi) : z_rr T C mi := by
  obtain ⟨⟨n, a1, a2⟩, b, ⟨pl, c1, c2, c3⟩, d, ⟨e1, e2, e3⟩, g⟩ := hr
  refine ⟨⟨n, fun m hm => by rw [h _ _ (by omega) (by omega)]; exact a1 m hm, fun k hk => by rw [h0 _ (by omega)]; exact a2 k hk⟩, fun k hk hk0 => by rw [h _ _ (by omega) (by omega), h _ _ (by omega) (by omega), h _ _ (by omega) (by omega)]; exact b k hk hk0, ⟨pl, fun k hk => by rw [h _ _ (by omega) (by omega)]; exact c1 k hk, c2, c3⟩, fun j hj => by rw [h _ _ (by omega) (by omega)]; exact d j hj, ⟨by rw [h0 _ (by omega)]; exact e1, by rw [h0 _ (by omega)]; exact e2, fun e he => by rw [h _ _ (by omega) (by omega), h _ _ (by omega) (by omega), h _ _ (by omega) (by omega)]; exact e3 e he⟩, by rw [h0 _ (by omega)]; exact g⟩
theorem q_tries (T : tg_S) (C : Nat → Nat → Nat) (mi : Int32) (hC : z_ok C) (hr : z_rr T C mi) (m : Nat) (hm : m < 2) (s : Nat × Nat × Nat) (h : z_tri T s) (code : Nat) (hc : code < 2147483648) : q_tr (f_X8_tries T (nI code) (nI m)) (fun T2 => z_tri T2 (z_of m s code (z_sim C mi 24 0)) ∧ ∀ k j, (k < 14 ∨ 23 < k) → (k ≠ 0 ∨ j < 18 ∨ 24 < j ∧ j ≠ 34 ∧ j ≠ 35) → T2 k j = T k j) := by
  have hok := (z_sim_ok (mi := mi) hC 24).1
  unfold f_X8_tries f_X8_tries_41 f_X8_tries_45 f_X8_tries_46 f_X8_tries_60
  refine q_bv (q_runs T C mi hC hr) (fun T1 h1 => ?_)
  obtain ⟨hs, hf⟩ := h1
  have e21 : T1 0 21 = nI (z_sim C mi 24 0) := hs.1.2.1
  have e34 : T1 0 34 = T 0 34 := hf _ _ (by omega) (by omega)
  have e35 : T1 0 35 = T 0 35 := hf _ _ (by omega) (by omega)
  generalize z_sim C mi 24 0 = pl at *
  have d1 : ∀ v, q_st T1 0 34 v 0 35 = T1 0 35 := fun v => by rw [q_stA]; simp
  have d2 : ∀ v, q_st T1 0 34 v 0 21 = nI pl := fun v => by rw [q_stA]; simp; exact e21
  simp only [q_lit, q_pf, d1, d2]
  simp (disch := omega) only [q_eq, q_ifT, q_ifF, ↓reduceIte]
  have yes : ∀ s2, s2 = (1, code, pl) → q_tr (some (q_st (q_st T1 0 34 (nI code)) 0 35 (nI pl))) (fun T2 => z_tri T2 s2 ∧ ∀ k j, (k < 14 ∨ 23 < k) → (k ≠ 0 ∨ j < 18 ∨ 24 < j ∧ j ≠ 34 ∧ j ≠ 35) → T2 k j = T k j) := by
    intro s2 hs2
    subst hs2
    refine q_ret ⟨Or.inr ⟨rfl, by simp [q_stA], by simp [q_stA], hc, by show pl < _; omega⟩, fun k j hk hj => ?_⟩
    rw [← hf k j hk (by omega)]
    simp only [q_stA]
    grind
  have no : z_tri T s → q_tr (some (q_st (q_st T1 0 34 (T1 0 34)) 0 35 (T1 0 35))) (fun T2 => z_tri T2 s ∧ ∀ k j, (k < 14 ∨ 23 < k) → (k ≠ 0 ∨ j < 18 ∨ 24 < j ∧ j ≠ 34 ∧ j ≠ 35) → T2 k j = T k j) := by
    intro h
    refine q_ret ⟨?_, fun k j hk hj => ?_⟩
    · have q1 : q_st (q_st T1 0 34 (T1 0 34)) 0 35 (T1 0 35) 0 34 = T 0 34 := by simp [q_stA, e34]
      have q2 : q_st (q_st T1 0 34 (T1 0 34)) 0 35 (T1 0 35) 0 35 = T 0 35 := by simp [q_stA, e35]
      unfold z_tri
      rw [q1, q2]
      exact h
    · rw [← hf k j hk (by omega)]
      simp only [q_stA]
      grind
  have h' := h
  rcases h with ⟨s0, h0, h2⟩ | ⟨s1, h0, h2, h4, h5⟩
  · rw [e34, h0, q_ifT rfl]
    exact yes _ (by unfold z_of; rw [if_pos (Or.inl s0)])
  · rw [e34, h0, q_ifF (by rw [q_eqm h4]; exact id), e21, e35, h2]
    rw [e34, h0, e35, h2] at no
    simp (disch := omega) only [q_le]
    by_cases hm0 : m = 0
    · rw [q_ifT hm0]
      refine q_if (fun hb => ?_) (fun hb => ?_)
      · have e : z_of m s code pl = s := by unfold z_of; rw [if_neg]; rw [if_pos hm0]; omega
        rw [e]
        exact no h'
      · exact yes _ (by unfold z_of; rw [if_pos]; rw [if_pos hm0]; omega)
    · rw [q_ifF hm0]
      refine q_if (fun hb => ?_) (fun hb => ?_)
      · have e : z_of m s code pl = s := by unfold z_of; rw [if_neg]; rw [if_neg hm0]; omega
        rw [e]
        exact no h'
      · exact yes _ (by unfold z_of; rw [if_pos]; rw [if_neg hm0]; omega)
theorem q_starts (T : tg_S) (A : Nat → Nat → Nat) (hA : z_aok A) (h : z_ri T A) : q_tr (f_X8_starts T) (fun T2 => z_rr T2 (z_C A) (nI 0) ∧ z_ro A T T2 ∧ z_tri T2 (0, 0, 0) ∧ ∀ k, k < 16 → T2 13 k = nI (k % 8)) := by
  unfold f_X8_starts
  refine q_bv (q_asToldA T A hA h) (fun T1 h1 => ?_)
  obtain ⟨⟨f, d⟩, at1⟩ := h1
  simp only [q_lit, q_pf]
  have rr := z_AT_rr A T T1 hA.2.1 h.2.1 hA.1 at1
  have g : ∀ k j, (k ≠ 0 ∨ j ≠ 34 ∧ j ≠ 35) → q_st (q_st T1 0 34 (-nI 1)) 0 35 (-nI 1) k j = T1 k j := fun k j hk => by simp only [q_stA]; grind
  refine q_ret ⟨z_rr_congr (fun k j h1 _ => g k j (by omega)) (fun j hj => g 0 j (by omega)) rr, ⟨z_rf_trans f ⟨fun k j hk => g k j (by omega), fun j hj => g 0 j (by omega)⟩, ?_⟩, Or.inl ⟨rfl, by simp [q_stA], by simp [q_stA]⟩, fun k hk => by rw [g _ _ (by omega)]; exact at1.2.2.1 k hk⟩
  obtain ⟨d1, d2, d3⟩ := d
  exact ⟨fun m hm => by rw [g _ _ (by omega), g _ _ (by omega)]; exact d1 m hm, fun k hk h0 => by rw [g _ _ (by omega), g _ _ (by omega), g _ _ (by omega)]; exact d2 k hk h0, fun j hj => by rw [g _ _ (by omega)]; exact d3 j hj⟩
