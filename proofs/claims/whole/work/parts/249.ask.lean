-- ===== ask =====
def z_l1 (w : Int32) (R : Nat → Nat → Nat) (b a : Nat) : Nat → Nat
  | 0 => 0
  | i + 1 => if ¬ z_bit w a ∧ ¬ z_bit w (i + 1) ∧ R a b = R (i + 1) b then z_l1 w R b a i + 1 else z_l1 w R b a i
def z_lk (w : Int32) (R : Nat → Nat → Nat) (b : Nat) : Nat → Nat
  | 0 => 0
  | i + 1 => if z_lk w R b i < z_l1 w R b (i + 1) 9 then z_l1 w R b (i + 1) 9 else z_lk w R b i
def z_as (f : Nat → Nat) : Nat → Nat × Nat
  | 0 => (0, f 0)
  | i + 1 => if (z_as f i).2 ≤ f (i + 1) then z_as f i else (i + 1, f (i + 1))
theorem z_l1_le (w : Int32) (R : Nat → Nat → Nat) (b a : Nat) : ∀ i, z_l1 w R b a i ≤ i := by
  intro i
  induction i with
  | zero => exact Nat.le_refl _
  | succ i ih => unfold z_l1; split <;> omega
theorem z_lk_le (w : Int32) (R : Nat → Nat → Nat) (b : Nat) : ∀ i, z_lk w R b i ≤ 9 := by
  intro i
  induction i with
  | zero => exact Nat.zero_le _
  | succ i ih =>
    unfold z_lk
    have := z_l1_le w R b (i + 1) 9
    split <;> omega
theorem z_as_le (f : Nat → Nat) (hf : ∀ b, f b ≤ 9) : ∀ i, (z_as f i).1 ≤ i ∧ (z_as f i).2 ≤ 9 := by
  intro i
  induction i with
  | zero => exact ⟨Nat.le_refl _, hf 0⟩
  | succ i ih =>
    unfold z_as
    split
    · exact ⟨by omega, ih.2⟩
    · exact ⟨Nat.le_refl _, hf _⟩
theorem q_bit2 (y z : Int32) : ((y &&& z) &&& nI 1 = nI 0) = (y &&& nI 1 = nI 0 ∨ z &&& nI 1 = nI 0) := by
  have e : (y &&& z) &&& nI 1 = (y &&& nI 1) &&& (z &&& nI 1) := by
    rw [Int32.and_assoc, Int32.and_assoc, ← Int32.and_assoc (nI 1) z (nI 1), Int32.and_comm (nI 1) z, Int32.and_assoc z (nI 1) (nI 1), Int32.and_self]
  rw [e]
  have hy : y &&& nI 1 = nI 0 ∨ y &&& nI 1 = nI 1 := by
    by_cases h : y &&& nI 1 = nI 0
    · exact Or.inl h
    · exact Or.inr ((q_bit1 y).mpr h)
  have hz : z &&& nI 1 = nI 0 ∨ z &&& nI 1 = nI 1 := by
    by_cases h : z &&& nI 1 = nI 0
    · exact Or.inl h
    · exact Or.inr ((q_bit1 z).mpr h)
  rcases hy with hy | hy <;> rcases hz with hz | hz <;> rw [hy, hz] <;> decide
/-- the table of ropes by weight -/
def z_rt (S : tg_S) (x : Nat) (R : Nat → Nat → Nat) : Prop := ∀ u b, 1 ≤ u → u < 10 → b < 24 → S x (24 * u + b) = nI (R u b) ∧ R u b ≤ 24
theorem q_likeC (S : tg_S) (R : Nat → Nat → Nat) (w : Int32) (h : z_rt S 50 R) (b : Nat) (hb : b < 24) : f_X7_greatestLikeness S w (nI b) = some (S, nI (z_lk w R b 9)) := by
  have L : ∀ (n a : Nat), 9 < n + a → a ≤ 9 → L_X7_greatestLikeness_5 n S w (nI b) (nI (z_lk w R b a)) (nI (a + 1)) = some (S, nI (z_lk w R b 9)) := by
    intro n
    induction n with
    | zero => intro a h; omega
    | succ n ih =>
      intro a hn ha
      show f_X7_greatestLikeness_5 (L_X7_greatestLikeness_5 n) S w (nI b) _ (nI (a + 1)) = _
      unfold f_X7_greatestLikeness_5
      simp (disch := omega) only [q_lit, q_lt]
      by_cases hh : 9 < a + 1
      · have : a = 9 := by omega
        subst this
        rw [q_ifT hh]
      · rw [q_ifF hh]
        have L2 : ∀ (n2 c : Nat), 9 < n2 + c → c ≤ 9 → L_X7_greatestLikeness_18 (L_X7_greatestLikeness_5 n) n2 S w (nI b) (nI (z_lk w R b a)) (nI (a + 1)) (nI (z_l1 w R b (a + 1) c)) (nI (c + 1)) = some (S, nI (z_lk w R b 9)) := by
          intro n2
          induction n2 with
          | zero => intro c h; omega
          | succ n2 ih2 =>
            intro c hn2 hc
            have l1 := z_l1_le w R b (a + 1) c
            have l2 := z_lk_le w R b a
            show f_X7_greatestLikeness_18 (L_X7_greatestLikeness_5 n) (L_X7_greatestLikeness_18 (L_X7_greatestLikeness_5 n) n2) S w (nI b) _ (nI (a + 1)) _ (nI (c + 1)) = _
            unfold f_X7_greatestLikeness_18 f_X7_greatestLikeness_44 f_X7_greatestLikeness_81
            simp (disch := omega) only [q_lit, q_lt, q_nm, q_add, q_mul, q_max]
            by_cases hh2 : 9 < c + 1
            · have : c = 9 := by omega
              subst this
              rw [q_ifT hh2]
              have := ih (a + 1) (by omega) (by omega)
              rw [z_lk] at this
              exact this
            · rw [q_ifF hh2]
              have hn := ih2 (c + 1) (by omega) (by omega)
              rw [z_l1] at hn
              simp only [q_bit2]
              by_cases h0 : z_bit w (a + 1) ∨ z_bit w (c + 1)
              · rw [if_pos h0, q_ifT rfl]
                rw [if_neg (fun hq => h0.elim hq.1 hq.2.1)] at hn
                exact hn
              · rw [if_neg h0, q_ifF (by decide)]
                rw [show (a + 1) * 24 + b = 24 * (a + 1) + b by omega, show (c + 1) * 24 + b = 24 * (c + 1) + b by omega]
                have g1 := h (a + 1) b (by omega) (by omega) hb
                have g2 := h (c + 1) b (by omega) (by omega) hb
                simp (disch := omega) only [q_rd, g1.1, g2.1, q_eq]
                by_cases he : R (a + 1) b = R (c + 1) b
                · rw [q_ifT he]
                  rw [if_pos ⟨fun q => h0 (Or.inl q), fun q => h0 (Or.inr q), he⟩] at hn
                  exact hn
                · rw [q_ifF he]
                  rw [if_neg (fun hq => he hq.2.2)] at hn
                  exact hn
        exact L2 tg_F 0 (by unfold tg_F; omega) (by omega)
  unfold f_X7_greatestLikeness
  simp only [q_lit]
  exact L tg_F 0 (by unfold tg_F; omega) (by omega)
theorem q_askC_L (S : tg_S) (R : Nat → Nat → Nat) (w : Int32) (h : z_rt S 50 R) : ∀ (n b : Nat), 23 < n + b → b ≤ 23 → L_X7_ask_30 n S w (nI (z_as (fun b => z_lk w R b 9) b).1) (nI (z_as (fun b => z_lk w R b 9) b).2) (nI (b + 1)) = some (S, nI (z_as (fun b => z_lk w R b 9) 23).1) := by
  intro n
  induction n with
  | zero => intro b h; omega
  | succ n ih =>
    intro b hn hb
    show f_X7_ask_30 (L_X7_ask_30 n) S w _ _ (nI (b + 1)) = _
    unfold f_X7_ask_30 f_X7_ask_60
    simp (disch := omega) only [q_lit, q_le, q_nm, q_add]
    by_cases hh : 24 ≤ b + 1
    · have : b = 23 := by omega
      subst this
      rw [q_ifT hh]
    · rw [q_ifF hh, q_likeC S R w h (b + 1) (by omega), q_bdS]
      have hn := ih (b + 1) (by omega) (by omega)
      have l1 := z_as_le (fun b => z_lk w R b 9) (fun b => z_lk_le w R b 9) b
      have l2 := z_lk_le w R (b + 1) 9
      rw [z_as] at hn
      simp (disch := omega) only [q_le]
      by_cases he : (z_as (fun b => z_lk w R b 9) b).2 ≤ z_lk w R (b + 1) 9
      · rw [if_pos he, if_pos he]
        rw [if_pos he] at hn
        exact hn
      · rw [if_neg he, if_neg he]
        rw [if_neg he] at hn
        exact hn
theorem q_askR_L (T : tg_S) (R : Nat → Nat → Nat) (w : Int32) (h : z_rt T 27 R) : ∀ (n b : Nat), 24 < n + b → b ≤ 24 → ∀ v3 v4, (b = 0 ∧ v3 = -nI 1 ∨ 0 < b ∧ v3 = nI (z_as (fun b => z_lk w R b 9) (b - 1)).1 ∧ v4 = nI (z_as (fun b => z_lk w R b 9) (b - 1)).2) → L_X8_askOf_14 n T w v3 v4 (nI b) = some (T, nI (z_as (fun b => z_lk w R b 9) 23).1) := by
  intro n
  induction n with
  | zero => intro b h; omega
  | succ n ih =>
    intro b hn hb v3 v4 hv
    show f_X8_askOf_14 (L_X8_askOf_14 n) T w v3 v4 (nI b) = _
    unfold f_X8_askOf_14
    simp (disch := omega) only [q_lit, q_le]
    by_cases hh : 24 ≤ b
    · have : b = 24 := by omega
      subst this
      rw [q_ifT hh]
      rcases hv with hv | hv
      · omega
      · rw [hv.2.1]
    · rw [q_ifF hh]
      have L : ∀ (n1 a : Nat), 9 < n1 + a → a ≤ 9 → L_X8_askOf_27 (L_X8_askOf_14 n) n1 T w v3 v4 (nI b) (nI (z_lk w R b a)) (nI (a + 1)) = some (T, nI (z_as (fun b => z_lk w R b 9) 23).1) := by
        intro n1
        induction n1 with
        | zero => intro a h; omega
        | succ n1 ih1 =>
          intro a hn1 ha
          have l2 := z_lk_le w R b a
          show f_X8_askOf_27 (L_X8_askOf_14 n) (L_X8_askOf_27 (L_X8_askOf_14 n) n1) T w v3 v4 (nI b) _ (nI (a + 1)) = _
          unfold f_X8_askOf_27 f_X8_askOf_144 f_X8_askOf_149 f_X8_askOf_162 f_X8_askOf_175
          simp (disch := omega) only [q_lit, q_le, q_nm, q_add]
          by_cases hh1 : 10 ≤ a + 1
          · have : a = 9 := by omega
            subst this
            rw [q_ifT hh1]
            rcases hv with ⟨hb0, hv⟩ | ⟨hb0, hv1, hv2⟩
            · subst hb0
              rw [hv, q_ifT rfl, if_neg (by decide), if_neg (by decide)]
              exact ih 1 (by omega) (by omega) _ _ (Or.inr ⟨by omega, rfl, rfl⟩)
            · have l1 := z_as_le (fun b => z_lk w R b 9) (fun b => z_lk_le w R b 9) (b - 1)
              obtain ⟨b, rfl⟩ : ∃ x, b = x + 1 := ⟨b - 1, by omega⟩
              rw [Nat.add_sub_cancel] at hv1 hv2 l1
              have hn := ih (b + 1 + 1) (by omega) (by omega)
              rw [Nat.add_sub_cancel, z_as] at hn
              rw [hv1, hv2]
              simp (disch := omega) only [q_eqm, q_le]
              rw [q_ifF not_false]
              by_cases he : (z_as (fun b => z_lk w R b 9) b).2 ≤ z_lk w R (b + 1) 9
              · rw [q_ifT he, if_pos trivial, if_pos trivial]
                rw [if_pos he] at hn
                exact hn _ _ (Or.inr ⟨by omega, rfl, rfl⟩)
              · rw [q_ifF he, if_neg (by decide), if_neg (by decide)]
                rw [if_neg he] at hn
                exact hn _ _ (Or.inr ⟨by omega, rfl, rfl⟩)
          · rw [q_ifF hh1]
            have L2 : ∀ (n2 c : Nat), 9 < n2 + c → c ≤ 9 → L_X8_askOf_40 (L_X8_askOf_14 n) (L_X8_askOf_27 (L_X8_askOf_14 n) n1) n2 T w v3 v4 (nI b) (nI (z_lk w R b a)) (nI (a + 1)) (nI (z_l1 w R b (a + 1) c)) (nI (c + 1)) = some (T, nI (z_as (fun b => z_lk w R b 9) 23).1) := by
              intro n2
              induction n2 with
              | zero => intro c h; omega
              | succ n2 ih2 =>
                intro c hn2 hc
                have l1 := z_l1_le w R b (a + 1) c
                show f_X8_askOf_40 (L_X8_askOf_14 n) (L_X8_askOf_27 (L_X8_askOf_14 n) n1) (L_X8_askOf_40 (L_X8_askOf_14 n) (L_X8_askOf_27 (L_X8_askOf_14 n) n1) n2) T w v3 v4 (nI b) _ (nI (a + 1)) _ (nI (c + 1)) = _
                unfold f_X8_askOf_40 f_X8_askOf_124 f_X8_askOf_100 f_X8_askOf_101
                simp (disch := omega) only [q_lit, q_le, q_nm, q_add, q_mul]
                by_cases hh2 : 10 ≤ c + 1
                · have : c = 9 := by omega
                  subst this
                  rw [q_ifT hh2]
                  have hn := ih1 (a + 1) (by omega) (by omega)
                  rw [z_lk] at hn
                  by_cases hm : z_l1 w R b (a + 1) 9 ≤ z_lk w R b a
                  · rw [if_pos hm]
                    rw [if_neg (by omega)] at hn
                    exact hn
                  · rw [if_neg hm]
                    rw [if_pos (by omega)] at hn
                    exact hn
                · rw [q_ifF hh2]
                  have hn := ih2 (c + 1) (by omega) (by omega)
                  rw [z_l1] at hn
                  rw [q_isIn]
                  by_cases h0 : z_bit w (a + 1)
                  · rw [if_pos h0, q_bdS, q_ifT rfl]
                    rw [if_neg (fun hq => hq.1 h0)] at hn
                    exact hn
                  · rw [if_neg h0, q_bdS, q_ifF (by decide), q_isIn]
                    by_cases h1 : z_bit w (c + 1)
                    · rw [if_pos h1, q_bdS, q_ifT rfl]
                      rw [if_neg (fun hq => hq.2.1 h1)] at hn
                      exact hn
                    · rw [if_neg h1, q_bdS, q_ifF (by decide)]
                      have g1 := h (a + 1) b (by omega) (by omega) (by omega)
                      have g2 := h (c + 1) b (by omega) (by omega) (by omega)
                      simp (disch := omega) only [q_rd, g1.1, g2.1, q_eq]
                      by_cases he : R (a + 1) b = R (c + 1) b
                      · rw [q_ifT he]
                        rw [if_pos ⟨h0, h1, he⟩] at hn
                        exact hn
                      · rw [q_ifF he]
                        rw [if_neg (fun hq => he hq.2.2)] at hn
                        exact hn
            exact L2 tg_F 0 (by unfold tg_F; omega) (by omega)
      exact L tg_F 0 (by unfold tg_F; omega) (by omega)
/-- the rope behind the beat if the puller's weight were u -/
def z_rw (A : Nat → Nat → Nat) (k u b : Nat) : Nat := z_sim (z_up (z_C A) 2 k u) (nI 0) (b + 1) 0
theorem z_tb_rt {S : tg_S} {x : Nat} {A : Nat → Nat → Nat} {k : Nat} (hA : z_aok A) (h : z_tb S x A k 10) : z_rt S x (z_rw A k) := fun u b h1 h2 h3 => ⟨h u b h1 h2 h3, (z_sim_ok (mi := nI 0) (z_up_ok (z_C_ok A hA.1 hA.2.1) (c := 2) (k := k) (w := u) (Or.inr ⟨rfl, by omega⟩)) (b + 1)).1⟩
/-- which beat to ask for -/
def z_va (A : Nat → Nat → Nat) (k : Nat) : Int32 := nI (z_as (fun b => z_lk (z_ws (z_wf A 2 k) 1 9) (z_rw A k) b 9) 23).1
theorem q_askC (S : tg_S) (A : Nat → Nat → Nat) (hA : z_aok A) (hc : z_ci S A) {k : Nat} (hk : k < 16) (h0 : z_C A 0 k = 1) : q_tr (f_X7_ask S (nI k)) (fun r => r.2 = z_va A k ∧ z_cf S r.1) := by
  unfold f_X7_ask
  simp only [q_lit]
  rw [q_isPullerC S A hc.2.2.1 hk, h0, q_bdS, q_ifF (by decide)]
  refine q_bd (q_weightsC S A hA hc hk) (fun S2 r h => ?_)
  obtain ⟨e, f, t⟩ := h
  dsimp only at e f t
  have rt := z_tb_rt hA t
  rw [e, q_likeC S2 _ _ rt 0 (by omega), q_bdS]
  have := q_askC_L S2 (z_rw A k) (z_ws (z_wf A 2 k) 1 9) rt tg_F 0 (by unfold tg_F; omega) (by omega)
  rw [z_as] at this
  exact ⟨_, this, rfl, f⟩
theorem q_askR (T : tg_S) (A : Nat → Nat → Nat) (hA : z_aok A) (h : z_ri T A) {k : Nat} (hk : k < 16) (h0 : z_C A 0 k = 1) : q_tr (f_X8_askOf T (nI k)) (fun r => r.2 = z_va A k ∧ z_ro A T r.1) := by
  unfold f_X8_askOf
  refine q_bd (q_weightsR T A hA h hk h0) (fun T2 r h => ?_)
  obtain ⟨e, f, t⟩ := h
  dsimp only at e f t
  have rt := z_tb_rt hA t
  simp only [q_lit, q_nm]
  rw [e]
  have := q_askR_L T2 (z_rw A k) (z_ws (z_wf A 2 k) 1 9) rt tg_F 0 (by unfold tg_F; omega) (by omega) (-nI 1) (nI 0) (Or.inl ⟨rfl, rfl⟩)
  exact ⟨_, this, rfl, f⟩
theorem e_ask (S T : tg_S) (A : Nat → Nat → Nat) (hI : z_I S T A) (a : Int32) : z_eq (f_X7_ask S a) (f_X8_ask T a) := by
  have hle := z_C0le A
  rcases z_dec a 16 (by omega) with ⟨k, hk, rfl⟩ | ha
  · by_cases h0 : z_C A 0 k = 1
    · refine z_eq_q _ hI (q_askC S A hI.1 hI.2.1 hk h0) ?_
      unfold f_X8_ask
      refine q_bd (q_isPullerR T A hI.1 hI.2.2.1 hk) (fun T2 r h => ?_)
      obtain ⟨e, h⟩ := h
      dsimp only at e h
      simp only [q_lit]
      rw [e, h0, q_ifF (by decide)]
      exact q_bd (q_askR T2 A hI.1 (z_ri_rf hI.2.2.1 h.1) hk h0) (fun T3 r h3 => q_ret ⟨h3.1, z_rf_trans h.1 h3.2.1⟩)
    · have hz : z_C A 0 k = 0 := by have := hle k; omega
      unfold f_X7_ask f_X8_ask
      simp only [q_lit]
      rw [q_isPullerC S A hI.2.1.2.2.1 hk, q_bdS, hz, q_ifT rfl]
      refine z_eq_q _ hI (q_retc _) (q_bd (q_isPullerR T A hI.1 hI.2.2.1 hk) (fun T2 r h => ?_))
      obtain ⟨e, h⟩ := h
      dsimp only at e h
      rw [e, hz, q_ifT rfl]
      exact q_ret ⟨rfl, h.1⟩
  · unfold f_X7_ask f_X8_ask
    simp only [q_lit]
    rw [q_isPullerCO S ha, q_bdS, q_ifT rfl]
    refine z_eq_q _ hI (q_retc _) (q_bd (q_isPullerRO T A hI.1 hI.2.2.1 ha) (fun T2 r h => ?_))
    obtain ⟨e, h⟩ := h
    dsimp only at e h
    rw [e, q_ifT rfl]
    exact q_ret ⟨rfl, h.1⟩
