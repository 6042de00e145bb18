theorem z_up_self (C : Nat → Nat → Nat) (c j : Nat) : z_up C c j (C c j) = C := by
  funext c2 j2
  rw [z_upA]
  grind
theorem z_ok_call {C : Nat → Nat → Nat} (h : z_ok C) (j c : Nat) (hc : c ≤ 2) : z_ok (z_up C 5 j c) := by
  obtain ⟨h1, h2, h3, h4, h5⟩ := h
  refine ⟨fun k hk => by simpa [z_upA] using h1 k hk, fun i hi => ?_, by simpa [z_upA] using h3, fun e he => ?_, by simpa [z_upA] using h5⟩
  · have := h2 i hi
    rw [z_upA]
    grind
  · have := h4 e (by simpa [z_upA] using he)
    simpa [z_upA] using this
theorem z_rc_call {S : tg_S} {C : Nat → Nat → Nat} {mi : Int32} {j c0 : Nat} (c : Nat) (h : z_rc S 23 (z_up C 5 j c0) mi) : z_rc (q_st S 30 j (nI c)) 23 (z_up C 5 j c) mi := by
  obtain ⟨h1, h2, h3, h4, h5⟩ := h
  refine ⟨fun k hk => ?_, fun k hk h0 => ?_, fun i hi => ?_, ⟨?_, ?_, fun e he => ?_⟩, ?_⟩
  · rw [q_stN _ _ _ (by omega)]; simpa [z_upA] using h1 k hk
  · have := h2 k hk (by simpa [z_upA] using h0)
    rw [q_stN _ _ _ (by omega), q_stN _ _ _ (by omega), q_stN _ _ _ (by omega), q_stN _ _ _ (by omega)]
    simpa [z_upA] using this
  · have := h3 i hi
    rw [q_stA]
    rw [z_upA] at this ⊢
    grind
  · rw [q_stN _ _ _ (by omega)]; simpa [z_upA] using h4.1
  · rw [q_stN _ _ _ (by omega)]; exact h4.2.1
  · have := h4.2.2 e (by simpa [z_upA] using he)
    rw [q_stN _ _ _ (by omega), q_stN _ _ _ (by omega), q_stN _ _ _ (by omega)]
    simpa [z_upA] using this
  · rw [q_stN _ _ _ (by omega)]; simpa [z_upA] using h5
theorem z_rr_call {T : tg_S} {C : Nat → Nat → Nat} {mi : Int32} {j c0 : Nat} (c : Nat) (h : z_rr T (z_up C 5 j c0) mi) : z_rr (q_st T 12 j (nI c)) (z_up C 5 j c) mi := by
  obtain ⟨⟨n, a1, a2⟩, b, ⟨pl, c1, c2, c3⟩, d, ⟨e1, e2, e3⟩, g⟩ := h
  refine ⟨⟨n, fun m hm => by rw [q_stN _ _ _ (by omega)]; exact a1 m hm, fun k hk => ?_⟩, fun k hk h0 => ?_, ⟨pl, fun k hk => by rw [q_stN _ _ _ (by omega)]; exact c1 k hk, fun k l hk hl hk0 hl0 => c2 k l hk hl (by simpa [z_upA] using hk0) (by simpa [z_upA] using hl0), fun k hk h0 => ?_⟩, fun i hi => ?_, ⟨?_, ?_, fun e he => ?_⟩, ?_⟩
  · have := a2 k hk
    rw [q_stN _ _ _ (by omega)]
    simpa [z_upA] using this
  · have := b k hk (by simpa [z_upA] using h0)
    rw [q_stN _ _ _ (by omega), q_stN _ _ _ (by omega), q_stN _ _ _ (by omega)]
    simpa [z_upA] using this
  · have := c3 k hk (by simpa [z_upA] using h0)
    simpa [z_upA] using this
  · have := d i hi
    rw [q_stA]
    rw [z_upA] at this ⊢
    grind
  · rw [q_stN _ _ _ (by omega)]; simpa [z_upA] using e1
  · rw [q_stN _ _ _ (by omega)]; exact e2
  · have := e3 e (by simpa [z_upA] using he)
    rw [q_stN _ _ _ (by omega), q_stN _ _ _ (by omega), q_stN _ _ _ (by omega)]
    simpa [z_upA] using this
  · rw [q_stN _ _ _ (by omega)]; simpa [z_upA] using g
abbrev z_CB (A : Nat → Nat → Nat) (m b c : Nat) : Nat → Nat → Nat := z_up (z_C A) 5 (24 * m + b) c
def z_bt (A : Nat → Nat → Nat) (m b : Nat) : Nat → Nat × Nat × Nat
  | 0 => (0, 0, 0)
  | c + 1 => z_of m (z_bt A m b c) c (z_sim (z_CB A m b c) (nI 0) 24 0)
theorem z_of_1 (m : Nat) (s : Nat × Nat × Nat) (code pl : Nat) (h : s.1 = 0 ∨ s.1 = 1) : (z_of m s code pl).1 = 1 := by
  unfold z_of
  grind
def z_vc (s : Nat × Nat × Nat) (w : Nat) : Int32 := if s.1 = 0 then -nI 1 else if w = 0 then nI s.2.1 else nI s.2.2
theorem q_betterC_L (S0 : tg_S) (A : Nat → Nat → Nat) (hA : z_aok A) (m b w : Nat) (hm : m < 2) (hb : b < 24) (hw : w < 2) : ∀ (n c : Nat) (S : tg_S), 3 < n + c → c ≤ 3 → (∃ c0, z_rc S 23 (z_CB A m b c0) (nI 0)) → z_cho S m nI (fun _ => -nI 1) (z_bt A m b c) → z_cf S0 S → q_tr (L_X7_better_50 n S (nI m) (nI b) (nI w) (nI c)) (fun r => r.2 = z_vc (z_bt A m b 3) w ∧ z_cf S0 r.1) := by
  intro n
  have hCA := z_C_ok A hA.1 hA.2.1
  induction n with
  | zero => intro c S h; omega
  | succ n ih =>
    intro c S h hc hr hch hf
    show q_tr (f_X7_better_50 (L_X7_better_50 n) S (nI m) (nI b) (nI w) (nI c)) _
    unfold f_X7_better_50
    simp (disch := omega) only [q_lit, q_le, q_eq]
    refine q_if (fun h1 => ?_) (fun h1 => ?_)
    · have : c = 3 := by omega
      subst this
      rcases (show w = 0 ∨ w = 1 by omega) with rfl | rfl
      · rw [q_ifT rfl]
        refine q_ret ⟨?_, hf⟩
        rcases hch.2 with ⟨s0, g0, g1, g2⟩ | ⟨s1, g0, g1, g2, -, -⟩
        · rw [z_vc, if_pos s0]; exact g0
        · rw [z_vc, if_neg (by omega), if_pos rfl]; exact g0
      · rw [q_ifF (by decide)]
        refine q_ret ⟨?_, hf⟩
        rcases hch.2 with ⟨s0, g0, g1, g2⟩ | ⟨s1, g0, g1, g2, -, -⟩
        · rw [z_vc, if_pos s0]; exact g2
        · rw [z_vc, if_neg (by omega), if_neg (by decide)]; exact g2
    · obtain ⟨c0, hr⟩ := hr
      simp (disch := omega) only [q_mul, q_add, q_wr]
      rw [show m * 24 + b = 24 * m + b by omega]
      have hr1 := z_rc_call c hr
      have hok : z_sim (z_CB A m b c) (nI 0) 24 0 ≤ 24 := (z_sim_ok (mi := nI 0) (z_ok_call hCA (24 * m + b) c (by omega)) 24).1
      refine q_bd (q_play 42 23 (by omega) _ (z_CB A m b c) (nI 0) (z_ok_call hCA _ c (by omega)) hr1) (fun S2 r2 h2 => ?_)
      obtain ⟨e2, -, f2⟩ := h2
      dsimp only at e2 f2
      rw [e2]
      have hch2 : z_cho S2 m nI (fun _ => -nI 1) (z_bt A m b c) := by
        unfold z_cho at hch ⊢
        rw [f2 49 3 (by omega), f2 49 0 (by omega), f2 49 1 (by omega), f2 49 2 (by omega), q_stN _ _ _ (by omega)]
        exact hch
      refine q_bv (q_offer S2 m hm nI (fun _ => -nI 1) _ hch2 c _ (by rw [q_eqm (by omega)]; exact id) (by omega) _ _ rfl rfl) (fun S3 h3 => ?_)
      simp only [q_nm, q_add]
      refine ih (c + 1) S3 (by omega) (by omega) ⟨c, ?_⟩ h3.1 (z_cf_trans hf (fun k j hk => ?_))
      · refine z_rc_congr2 (fun k j hk hk2 => ?_) hr1
        rw [h3.2 k j (by omega), f2 k j (by omega)]
      · rw [h3.2 k j (by omega), f2 k j (by omega), q_stN _ _ _ (by omega)]
theorem q_betterC (S : tg_S) (A : Nat → Nat → Nat) (hA : z_aok A) (hc : z_ci S A) {m b w : Nat} (hm : m < 2) (hb : b < 24) (hw : w < 2) : q_tr (f_X7_better S (nI m) (nI b) (nI w)) (fun r => r.2 = z_vc (z_bt A m b 3) w ∧ z_cf S r.1) := by
  unfold f_X7_better
  simp only [q_lit]
  rw [q_belowI S hm (by omega), q_bdS, q_ifF (by decide), q_belowI S hb (by omega), q_bdS, q_ifF (by decide), q_belowI S hw (by omega), q_bdS, q_ifF (by decide)]
  refine q_bv (q_becomeLike S A hA.2.1 hc.2.2.1 hc.2.1) (fun S1 h1 => ?_)
  refine q_bv (q_startFor S1 m nI (fun _ => -nI 1)) (fun S2 h2 => ?_)
  refine q_betterC_L S A hA m b w hm hb hw tg_F 0 S2 (by decide) (by decide) ⟨z_C A 5 (24 * m + b), ?_⟩ h2.1 (fun k j hk => ?_)
  · rw [z_CB, z_up_self]
    exact z_rc_congr2 (fun k j _ _ => h2.2 k j (by omega)) h1.1
  · rw [h2.2 k j (by omega), h1.2.2 k j (by omega)]
theorem q_betterR_L (T0 : tg_S) (A : Nat → Nat → Nat) (hA : z_aok A) (m b w : Nat) (hm : m < 2) (hb : b < 24) (hw : w < 2) : ∀ (n c : Nat) (T : tg_S), 3 < n + c → c ≤ 3 → (∃ c0, z_rr T (z_CB A m b c0) (nI 0)) → z_tri T (z_bt A m b c) → z_ro A T0 T → q_tr (L_X8_betterOf_7 n T (nI m) (nI b) (nI w) (nI c)) (fun r => r.2 = z_vc (z_bt A m b 3) w ∧ z_ro A T0 r.1) := by
  intro n
  have hCA := z_C_ok A hA.1 hA.2.1
  induction n with
  | zero => intro c T h; omega
  | succ n ih =>
    intro c T h hc hr ht hf
    show q_tr (f_X8_betterOf_7 (L_X8_betterOf_7 n) T (nI m) (nI b) (nI w) (nI c)) _
    unfold f_X8_betterOf_7
    simp (disch := omega) only [q_lit, q_le, q_eq]
    refine q_if (fun h1 => ?_) (fun h1 => ?_)
    · have : c = 3 := by omega
      subst this
      rcases (show w = 0 ∨ w = 1 by omega) with rfl | rfl
      · rw [q_ifT rfl]
        refine q_ret ⟨?_, hf⟩
        rcases ht with ⟨s0, g0, g1⟩ | ⟨s1, g0, g1, -, -⟩
        · rw [z_vc, if_pos s0]; exact g0
        · rw [z_vc, if_neg (by omega), if_pos rfl]; exact g0
      · rw [q_ifF (by decide)]
        refine q_ret ⟨?_, hf⟩
        rcases ht with ⟨s0, g0, g1⟩ | ⟨s1, g0, g1, -, -⟩
        · rw [z_vc, if_pos s0]; exact g1
        · rw [z_vc, if_neg (by omega), if_neg (by decide)]; exact g1
    · obtain ⟨c0, hr⟩ := hr
      simp (disch := omega) only [q_mul, q_add, q_wr]
      have hr1 := z_rr_call c hr
      have ht1 : z_tri (q_st T 12 (24 * m + b) (nI c)) (z_bt A m b c) := by
        unfold z_tri at ht ⊢
        rw [q_stN _ _ _ (by omega)]
        exact ht
      refine q_bv (q_tries _ (z_CB A m b c) (nI 0) (z_ok_call hCA _ c (by omega)) hr1 m hm _ ht1 c (by omega)) (fun T2 h2 => ?_)
      simp only [q_nm, q_add]
      refine ih (c + 1) T2 (by omega) (by omega) ⟨c, z_rr_congr (fun k j _ hk => h2.2 k j (by omega) (by omega)) (fun j hj => h2.2 0 j (by omega) (by omega)) hr1⟩ h2.1 ⟨z_rf_trans hf.1 ⟨fun k j hk => ?_, fun j hj => ?_⟩, ?_⟩
      · rw [h2.2 k j (by omega) (by omega), q_stN _ _ _ (by omega)]
      · rw [h2.2 0 j (by omega) (by omega), q_stN _ _ _ (by omega)]
      · obtain ⟨d1, d2, d3⟩ := hf.2
        have g : ∀ k j, 3 ≤ k → k ≤ 8 → T2 k j = T k j := fun k j h3 h8 => by rw [h2.2 k j (by omega) (by omega), q_stN _ _ _ (by omega)]
        exact ⟨fun m hm => by rw [g _ _ (by omega) (by omega), g _ _ (by omega) (by omega)]; exact d1 m hm, fun k hk h0 => by rw [g _ _ (by omega) (by omega), g _ _ (by omega) (by omega), g _ _ (by omega) (by omega)]; exact d2 k hk h0, fun j hj => by rw [g _ _ (by omega) (by omega)]; exact d3 j hj⟩
theorem q_betterR (T : tg_S) (A : Nat → Nat → Nat) (hA : z_aok A) (h : z_ri T A) {m b w : Nat} (hm : m < 2) (hb : b < 24) (hw : w < 2) : q_tr (f_X8_betterOf T (nI m) (nI b) (nI w)) (fun r => r.2 = z_vc (z_bt A m b 3) w ∧ z_ro A T r.1) := by
  unfold f_X8_betterOf
  refine q_bv (q_starts T A hA h) (fun T1 h1 => ?_)
  simp only [q_lit]
  exact q_betterR_L T A hA m b w hm hb hw tg_F 0 T1 (by decide) (by decide) ⟨z_C A 5 (24 * m + b), by rw [z_CB, z_up_self]; exact h1.1⟩ h1.2.2.1 h1.2.1
theorem e_better (S T : tg_S) (A : Nat → Nat → Nat) (hI : z_I S T A) (a b c : Int32) : z_eq (f_X7_better S a b c) (f_X8_better T a b c) := by
  rcases z_dec a 2 (by omega) with ⟨m, hm, rfl⟩ | ha
  · rcases z_dec b 24 (by omega) with ⟨b, hb, rfl⟩ | hb
    · rcases z_dec c 2 (by omega) with ⟨w, hw, rfl⟩ | hc
      · refine z_eq_q _ hI (q_betterC S A hI.1 hI.2.1 hm hb hw) ?_
        unfold f_X8_better
        simp only [q_lit]
        rw [q_isTwo T hm, q_bdS, q_ifF (by decide), q_isBeat T hb, q_bdS, q_ifF (by decide), q_isTwo T hw, q_bdS, q_ifF (by decide)]
        exact q_bd (q_betterR T A hI.1 hI.2.2.1 hm hb hw) (fun T2 r h => q_ret ⟨h.1, h.2.1⟩)
      · unfold f_X7_better f_X8_better
        simp only [q_lit]
        rw [q_belowI S hm (by omega), q_bdS, q_ifF (by decide), q_belowI S hb (by omega), q_bdS, q_ifF (by decide), q_belowO S hc, q_bdS, q_ifT rfl, q_isTwo T hm, q_bdS, q_ifF (by decide), q_isBeat T hb, q_bdS, q_ifF (by decide), q_isTwoO T hc, q_bdS, q_ifT rfl]
        exact z_eq_ret _ hI
    · unfold f_X7_better f_X8_better
      simp only [q_lit]
      rw [q_belowI S hm (by omega), q_bdS, q_ifF (by decide), q_belowO S hb, q_bdS, q_ifT rfl, q_isTwo T hm, q_bdS, q_ifF (by decide), q_isBeatO T hb, q_bdS, q_ifT rfl]
      exact z_eq_ret _ hI
  · unfold f_X7_better f_X8_better
    simp only [q_lit]
    rw [q_belowO S ha, q_bdS, q_ifT rfl, q_isTwoO T ha, q_bdS, q_ifT rfl]
    exact z_eq_ret _ hI
