-- ===== chance =====
/-- who wins without the events of w -/
abbrev z_W (A : Nat → Nat → Nat) (w : Nat) : Nat := z_sim (z_C A) (nI w) 24 1
def z_vh (A : Nat → Nat → Nat) (p m w : Nat) : Int64 := z_lw (z_ww (z_W A) p (A 5 0) m (2 ^ A 5 0)) (4 * A 5 0) w
theorem q_chanceC (S : tg_S) (A : Nat → Nat → Nat) (hA : z_aok A) (hc : z_ci S A) {p m w : Nat} (hp : p ≤ 16) (hm : m < 2) (hw : w < 2) : q_tr (f_X7_chance S (nI p) (nI m) (nI w)) (fun r => r.2 = z_vh A p m w ∧ r.1 0 11 = nI 1 ∧ (∀ w, w < 2 ^ A 5 0 → r.1 51 w = z_wi (z_sim (z_C A) (nI w) 24 1)) ∧ ∀ k j, (k < 23 ∨ 35 ≤ k ∧ k ≤ 41) → (k ≠ 0 ∨ j ≠ 11) → r.1 k j = S k j) := by
  unfold f_X7_chance
  simp only [q_lit]
  rw [q_belowI S (show p < 17 by omega) (by omega), q_bdS, q_ifF (by decide), q_belowI S hm (by omega), q_bdS, q_ifF (by decide), q_belowI S hw (by omega), q_bdS, q_ifF (by decide)]
  refine q_bv (q_refresh S A hA hc) (fun S2 h => ?_)
  obtain ⟨f1, f2, f3⟩ := h
  have hE : A 5 0 ≤ 8 := hA.2.1.1
  have h3 : S2 19 3 = nI (A 5 0) := by rw [f3 _ _ (by omega) (by omega)]; exact hc.2.1.1
  have h256 := z_2le hE
  rw [h3, q_mul]
  rw [q_nm]
  have W2 : ∀ w, z_W A w ≤ 2 := fun w => (z_sim_ok (mi := nI w) (z_C_ok A hA.1 hA.2.1) 24).2.2.1
  have hr := z_ww_lt (z_W A) p (A 5 0) m hp hE h256
  rw [q_winC S2 (z_W A) p (A 5 0) m hp hE hm h3 W2 f2, q_bdS]
  rw [q_nm, q_sh4 _ (by omega)]
  have := q_halve S2 (z_ww (z_W A) p (A 5 0) m (2 ^ A 5 0)) (4 * A 5 0) w hr (by omega) hw tg_F 0 (by unfold tg_F; omega) (by omega) (by rw [Nat.pow_zero]; exact Nat.one_dvd _)
  rw [Nat.pow_zero, Nat.div_one, Nat.sub_zero] at this
  rw [this]
  exact q_ret ⟨rfl, f1, f2, f3⟩
theorem z_wi_m2 {w m : Nat} (h : w ≤ 2) (hm : m < 2) : (if z_wi w = nI m then (1:Nat) else 0) = if w = m then 1 else 0 := by simp only [z_wi_m h hm]
theorem q_chanceR_L (T0 : tg_S) (A : Nat → Nat → Nat) (hA : z_aok A) {p m w : Nat} (hp : p ≤ 16) (hm : m < 2) (hw : w < 2) : ∀ (n x : Nat) (T : tg_S), 2 ^ A 5 0 < n + x → x ≤ 2 ^ A 5 0 → (∃ m0, z_rr T (z_C A) m0) → z_ro A T0 T → q_tr (L_X8_chanceOf_10 n T (nI p) (nI m) (nI w) (nL (z_ww (z_W A) p (A 5 0) m x)) (nI x)) (fun r => r.2 = z_vh A p m w ∧ z_ro A T0 r.1) := by
  have hE : A 5 0 ≤ 8 := hA.2.1.1
  have h256 := z_2le hE
  have W2 : ∀ w, z_W A w ≤ 2 := fun w => (z_sim_ok (mi := nI w) (z_C_ok A hA.1 hA.2.1) 24).2.2.1
  intro n
  induction n with
  | zero => intro x T h; omega
  | succ n ih =>
    intro x T hn hx ⟨m0, hrr⟩ hro
    have h9 : T 0 9 = nI (A 5 0) := hrr.2.2.2.2.1.1
    show q_tr (f_X8_chanceOf_10 (L_X8_chanceOf_10 n) T (nI p) (nI m) (nI w) (nL (z_ww (z_W A) p (A 5 0) m x)) (nI x)) _
    unfold f_X8_chanceOf_10
    simp only [q_lit]
    rw [h9, q_shl _ (by omega), q_mul, q_sh4 _ (by omega)]
    refine q_if (fun hh => ?_) (fun hh => ?_)
    · rw [q_le (by omega) (by omega)] at hh
      have : x = 2 ^ A 5 0 := by omega
      subst this
      rw [q_lowest T _ (4 * A 5 0) w (z_ww_lt (z_W A) p (A 5 0) m hp hE h256) (by omega) hw, q_bdS]
      exact q_ret ⟨rfl, hro⟩
    · rw [q_le (by omega) (by omega)] at hh
      have L : ∀ (n2 e : Nat), A 5 0 < n2 + e → e ≤ A 5 0 → q_tr (L_X8_chanceOf_27 (L_X8_chanceOf_10 n) n2 T (nI p) (nI m) (nI w) (nL (z_ww (z_W A) p (A 5 0) m x)) (nI x) (nL (z_wm p (nI x) e)) (nI e)) (fun r => r.2 = z_vh A p m w ∧ z_ro A T0 r.1) := by
        intro n2
        induction n2 with
        | zero => intro e h; omega
        | succ n2 ih2 =>
          intro e hn2 he
          show q_tr (f_X8_chanceOf_27 (L_X8_chanceOf_10 n) (L_X8_chanceOf_27 (L_X8_chanceOf_10 n) n2) T (nI p) (nI m) (nI w) (nL (z_ww (z_W A) p (A 5 0) m x)) (nI x) (nL (z_wm p (nI x) e)) (nI e)) _
          unfold f_X8_chanceOf_27 f_X8_chanceOf_58 f_X8_chanceOf_100 f_X8_chanceOf_103
          simp only [q_lit]
          rw [h9]
          have hwl : z_wm p (nI x) e < 4611686018427387904 := by
            have h1 := z_wm_le p (nI x) hp e
            have h2 := z_16 (ne := e) (by omega)
            omega
          refine q_if (fun h2 => ?_) (fun h2 => ?_)
          · rw [q_le (by omega) (by omega)] at h2
            have : e = A 5 0 := by omega
            subst this
            refine q_if (fun h3 => ?_) (fun h3 => ?_)
            · rw [q_cmple hwl] at h3
              rw [q_nm, q_add]
              have := ih (x + 1) T (by omega) (by omega) ⟨m0, hrr⟩ hro
              rw [z_ww, h3, Nat.add_zero, ite_self] at this
              exact this
            · rw [q_pf]
              have hr := z_rr_mi (nI x) hrr
              refine q_bv (q_runs _ (z_C A) (nI x) (z_C_ok A hA.1 hA.2.1) hr) (fun T2 g => ?_)
              obtain ⟨s2, fr⟩ := g
              have e22 : T2 0 22 = z_wi (z_W A x) := s2.1.2.2.1
              have rr : z_rr T2 (z_C A) (nI x) := z_rr_congr (fun k j _ hk => fr k j (by omega) (by omega)) (fun j hj => fr 0 j (by omega) (by omega)) hr
              have fr2 : ∀ k j, (k < 14 ∨ 23 < k) → (k ≠ 0 ∨ j < 18 ∧ j ≠ 14 ∨ 24 < j) → T2 k j = T k j := fun k j hk hj => by rw [fr k j (by omega) (by omega), q_stA, if_neg (by omega)]
              have ro2 : z_ro A T0 T2 := ⟨z_rf_trans hro.1 ⟨fun k j hk => fr2 k j (by omega) (by omega), fun j hj => fr2 0 j (by omega) (by omega)⟩, z_rdk_congr (fun k j h1 h2 => fr2 k j (by omega) (by omega)) hro.2⟩
              have nx := ih (x + 1) T2 (by omega) (by omega) ⟨_, rr⟩ ro2
              rw [z_ww] at nx
              rw [e22]
              have wm := z_wi_m (W2 x) hm
              generalize z_W A x = wx at wm nx
              simp only [wm]
              rw [q_nm, q_nm, q_add]
              by_cases hb : wx = m
              · rw [if_pos hb, q_addL]
                rw [if_pos hb] at nx
                exact nx
              · rw [if_neg hb, show (0 : Int64) = nL 0 from rfl, q_addL, Nat.add_zero]
                rw [if_neg hb] at nx
                exact nx
          · rw [q_le (by omega) (by omega)] at h2
            rw [q_isIn]
            have nx := ih2 (e + 1) (by omega) (by omega)
            rw [z_wm] at nx
            by_cases hb : z_bit (nI x) e
            · rw [if_pos hb, q_bdS, if_pos rfl, q_nm, q_nm, q_add, q_l64 (by omega), q_mulL]
              rw [if_pos hb] at nx
              exact nx
            · rw [if_neg hb, q_bdS, if_neg (by decide), q_nm, q_nm, q_add, q_sub hp, q_l64 (by omega), q_mulL]
              rw [if_neg hb] at nx
              exact nx
      exact L tg_F 0 (by unfold tg_F; omega) (by omega)
theorem q_chanceR (T : tg_S) (A : Nat → Nat → Nat) (hA : z_aok A) (h : z_ri T A) {p m w : Nat} (hp : p ≤ 16) (hm : m < 2) (hw : w < 2) : q_tr (f_X8_chanceOf T (nI p) (nI m) (nI w)) (fun r => r.2 = z_vh A p m w ∧ z_ro A T r.1) := by
  unfold f_X8_chanceOf
  refine q_bv (q_asToldA T A hA h) (fun T2 g => ?_)
  simp only [q_lit]
  exact q_chanceR_L T A hA hp hm hw tg_F 0 T2 (by have := z_2le hA.2.1.1; unfold tg_F; omega) (Nat.zero_le _) ⟨_, z_AT_rr A T T2 hA.2.1 h.2.1 hA.1 g.2⟩ g.1
theorem z_I_ch {A : Nat → Nat → Nat} {S0 S T : tg_S} (h : z_I S0 T A) (f1 : S 0 11 = nI 1) (f2 : ∀ w, w < 2 ^ A 5 0 → S 51 w = z_wi (z_sim (z_C A) (nI w) 24 1)) (f : ∀ k j, (k < 23 ∨ 35 ≤ k ∧ k ≤ 41) → (k ≠ 0 ∨ j ≠ 11) → S k j = S0 k j) : z_I S T A := by
  obtain ⟨hA, hc, hr, hs⟩ := h
  obtain ⟨⟨a1, a2⟩, ⟨b1, b2, b3, b4⟩, c, d, ⟨e1, e2⟩, g⟩ := hc
  refine ⟨hA, ⟨⟨fun t ht => by rw [f _ _ (by omega) (by omega)]; exact a1 t ht, fun i hi => by rw [f _ _ (by omega) (by omega)]; exact a2 i hi⟩, ⟨by rw [f _ _ (by omega) (by omega)]; exact b1, by rw [f _ _ (by omega) (by omega)]; exact b2, by rw [f _ _ (by omega) (by omega)]; exact b3, fun e he => by rw [f _ _ (by omega) (by omega), f _ _ (by omega) (by omega), f _ _ (by omega) (by omega)]; exact b4 e he⟩, z_told_congr (fun k j _ _ => f k j (by omega) (by omega)) c, z_cs_congr (fun k j _ _ => f k j (by omega) (by omega)) d, ⟨by rw [f _ _ (by omega) (by omega)]; exact e1, fun i hi => by rw [f _ _ (by omega) (by omega), f _ _ (by omega) (by omega)]; exact e2 i hi⟩, Or.inr ⟨f1, f2⟩⟩, hr, z_sh_congr hs (fun k j _ _ => f k j (by omega) (by omega)) (f _ _ (by omega) (by omega)) (fun _ _ _ _ => rfl) rfl⟩
/-- both sides' chance, when the numbers are right -/
theorem e_chanceO (S T : tg_S) (A : Nat → Nat → Nat) (hI : z_I S T A) {p m w : Nat} (hp : p ≤ 16) (hm : m < 2) (hw : w < 2) : z_eq (f_X7_chance S (nI p) (nI m) (nI w)) (f_X8_chanceOf T (nI p) (nI m) (nI w)) := by
  obtain ⟨⟨S1, r⟩, e1, e2, e3, e4, e5⟩ := q_chanceC S A hI.1 hI.2.1 hp hm hw
  obtain ⟨⟨T1, r2⟩, g1, g2, g3⟩ := q_chanceR T A hI.1 hI.2.2.1 hp hm hw
  dsimp only at e2 e3 e4 e5 g2 g3
  rw [e2] at e1
  rw [g2] at g1
  exact ⟨S1, T1, _, A, e1, g1, z_I_rf (z_I_ch hI e3 e4 e5) g3.1⟩
theorem q_no2 (T : tg_S) : f_X8_no T (-nI 2) = some (T, -9223372036854775806) := by
  unfold f_X8_no
  have : (-9223372036854775808 : Int64) - (-nI 2).toInt64 = -9223372036854775806 := by decide
  rw [this]
theorem e_chance (S T : tg_S) (A : Nat → Nat → Nat) (hI : z_I S T A) (a b c : Int32) : z_eq (f_X7_chance S a b c) (f_X8_chance T a b c) := by
  unfold f_X8_chance
  simp only [q_lit]
  have bad : ∀ v : Int64, z_eq (some (S, v)) (some (T, v)) := fun v => ⟨S, T, v, A, rfl, rfl, hI⟩
  rcases z_dec a 17 (by omega) with ⟨p, hp, rfl⟩ | ha
  · rcases z_dec b 2 (by omega) with ⟨m, hm, rfl⟩ | hb
    · rcases z_dec c 2 (by omega) with ⟨w, hw, rfl⟩ | hc
      · rw [q_inI T (show p < 16 + 1 by omega) (by omega), q_bdS, q_ifF (by decide), q_isTwo T hm, q_bdS, q_ifF (by decide), q_isTwo T hw, q_bdS, q_ifF (by decide)]
        obtain ⟨S1, T1, r, A1, h1, h2, h3⟩ := e_chanceO S T A hI (show p ≤ 16 by omega) hm hw
        exact ⟨S1, T1, r, A1, h1, by rw [h2, q_bdS], h3⟩
      · unfold f_X7_chance
        simp only [q_lit]
        rw [q_belowI S hp (by omega), q_bdS, q_ifF (by decide), q_belowI S hm (by omega), q_bdS, q_ifF (by decide), q_belowO S hc, q_bdS, q_ifT rfl, q_inI T (show p < 16 + 1 by omega) (by omega), q_bdS, q_ifF (by decide), q_isTwo T hm, q_bdS, q_ifF (by decide), q_isTwoO T hc, q_bdS, q_ifT rfl, q_no2, q_bdS]
        exact bad _
    · unfold f_X7_chance
      simp only [q_lit]
      rw [q_belowI S hp (by omega), q_bdS, q_ifF (by decide), q_belowO S hb, q_bdS, q_ifT rfl, q_inI T (show p < 16 + 1 by omega) (by omega), q_bdS, q_ifF (by decide), q_isTwoO T hb, q_bdS, q_ifT rfl, q_no2, q_bdS]
      exact bad _
  · unfold f_X7_chance
    simp only [q_lit]
    rw [q_belowO S ha, q_bdS, q_ifT rfl, q_inO T (show z_out a (16 + 1) from ha) (by omega), q_bdS, q_ifT rfl, q_no2, q_bdS]
    exact bad _
