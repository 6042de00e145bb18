-- ===== years =====
theorem z_rc_up5 {S : tg_S} {C : Nat → Nat → Nat} {mi : Int32} (h : z_rc S 23 C mi) (j w : Nat) : z_rc (q_st S 30 j (nI w)) 23 (z_up C 5 j w) mi := by
  obtain ⟨h1, h2, h3, ⟨h4, h5, h6⟩, h7⟩ := h
  have f : ∀ c2 j2, c2 ≠ 5 → z_up C 5 j w c2 j2 = C c2 j2 := fun c2 j2 _ => by rw [z_upA, if_neg (by omega)]
  refine ⟨fun l hl => by rw [f _ _ (by omega), q_stN _ _ _ (by omega)]; exact h1 l hl, fun l hl h0 => ?_, fun i hi => ?_, ⟨by rw [f _ _ (by omega), q_stN _ _ _ (by omega)]; exact h4, by rw [q_stN _ _ _ (by omega)]; exact h5, fun e he => ?_⟩, by rw [f _ _ (by omega), q_stN _ _ _ (by omega)]; exact h7⟩
  · rw [f _ _ (by omega)] at h0
    rw [f _ _ (by omega), f _ _ (by omega), f _ _ (by omega), f _ _ (by omega), q_stN _ _ _ (by omega), q_stN _ _ _ (by omega), q_stN _ _ _ (by omega), q_stN _ _ _ (by omega)]
    exact h2 l hl h0
  · show q_st S 30 j (nI w) 30 i = _
    rw [q_stA, z_upA]
    by_cases hh : i = j
    · rw [if_pos ⟨rfl, hh⟩, if_pos ⟨rfl, hh⟩]
    · rw [if_neg (by omega), if_neg (by omega)]; exact h3 i hi
  · rw [f _ _ (by omega)] at he
    rw [f _ _ (by omega), f _ _ (by omega), f _ _ (by omega), q_stN _ _ _ (by omega), q_stN _ _ _ (by omega), q_stN _ _ _ (by omega)]
    exact h6 e he
theorem z_rr_up5 {T : tg_S} {C : Nat → Nat → Nat} {mi : Int32} (h : z_rr T C mi) (j w : Nat) : z_rr (q_st T 12 j (nI w)) (z_up C 5 j w) mi := by
  obtain ⟨⟨n, a1, a2⟩, b, ⟨pl, c1, c2, c3⟩, d, ⟨e1, e2, e3⟩, g⟩ := h
  have f : ∀ c2 j2, c2 ≠ 5 → z_up C 5 j w c2 j2 = C c2 j2 := fun c2 j2 _ => by rw [z_upA, if_neg (by omega)]
  have f0 : ∀ i, z_up C 5 j w 0 i = C 0 i := fun i => f 0 i (by omega)
  have f4 : ∀ i, z_up C 5 j w 4 i = C 4 i := fun i => f 4 i (by omega)
  refine ⟨⟨n, fun m hm => by rw [q_stN _ _ _ (by omega)]; exact a1 m hm, fun l hl => by rw [f0, q_stN _ _ _ (by omega)]; exact a2 l hl⟩, fun l hl h0 => ?_, ⟨pl, fun l hl => by rw [q_stN _ _ _ (by omega)]; exact c1 l hl, by simp only [f0]; exact c2, by simp only [f0, f4]; exact c3⟩, fun i hi => ?_, ⟨by rw [f _ _ (by omega), q_stN _ _ _ (by omega)]; exact e1, by rw [q_stN _ _ _ (by omega)]; exact e2, fun e he => ?_⟩, by rw [f _ _ (by omega), q_stN _ _ _ (by omega)]; exact g⟩
  · rw [f0] at h0
    rw [f _ _ (by omega), f _ _ (by omega), f _ _ (by omega), q_stN _ _ _ (by omega), q_stN _ _ _ (by omega), q_stN _ _ _ (by omega)]
    exact b l hl h0
  · rw [q_stA, z_upA]
    by_cases hh : i = j
    · rw [if_pos ⟨rfl, hh⟩, if_pos ⟨rfl, hh⟩]
    · rw [if_neg (by omega), if_neg (by omega)]; exact d i hi
  · rw [f _ _ (by omega)] at he
    rw [f _ _ (by omega), f _ _ (by omega), f _ _ (by omega), q_stN _ _ _ (by omega), q_stN _ _ _ (by omega), q_stN _ _ _ (by omega)]
    exact e3 e he
theorem z_up5_ok {C : Nat → Nat → Nat} (h : z_ok C) {j w : Nat} (hw : w ≤ 2) : z_ok (z_up C 5 j w) := by
  obtain ⟨h1, h2, h3, h4, h5⟩ := h
  have f : ∀ c2 j2, c2 ≠ 5 → z_up C 5 j w c2 j2 = C c2 j2 := fun c2 j2 _ => by rw [z_upA, if_neg (by omega)]
  refine ⟨fun l hl => ?_, fun i hi => ?_, by rw [f _ _ (by omega)]; exact h3, fun e he => ?_, by rw [f _ _ (by omega)]; exact h5⟩
  · rw [f _ _ (by omega), f _ _ (by omega), f _ _ (by omega), f _ _ (by omega)]; exact h1 l hl
  · rw [z_upA]
    by_cases hh : 5 = 5 ∧ i = j
    · rw [if_pos hh]; exact hw
    · rw [if_neg hh]; exact h2 i hi
  · rw [f _ _ (by omega)] at he
    rw [f _ _ (by omega), f _ _ (by omega), f _ _ (by omega)]
    exact h4 e he
def z_y (x : Int32) : Nat → Int32
  | 0 => x
  | b + 1 => nI 1103515245 * z_y x b + nI 12345
def z_yf (x : Int32) (n b : Nat) : Nat := if n ≤ b then 1 else ((z_y x (b + 1)).toUInt32.toNat / 65536) % 3
def z_yC (A : Nat → Nat → Nat) (x : Int32) (n : Nat) : Nat → Nat → Nat → Nat
  | 0 => z_C A
  | b + 1 => z_up (z_yC A x n b) 5 (24 + b) (z_yf x n b)
theorem z_yf_le (x : Int32) (n b : Nat) : z_yf x n b ≤ 2 := by unfold z_yf; split <;> omega
theorem z_yC_ok (A : Nat → Nat → Nat) (hA : z_aok A) (x : Int32) (n : Nat) : ∀ b, z_ok (z_yC A x n b) := by
  intro b
  induction b with
  | zero => exact z_C_ok A hA.1 hA.2.1
  | succ b ih => exact z_up5_ok ih (z_yf_le x n b)
theorem q_rnd (y : Int32) : (y.toUInt32 >>> ((nI 16).toUInt32 &&& (nI 31).toUInt32)).toInt32 = nI (y.toUInt32.toNat / 65536) := by
  have e : (nI 16).toUInt32 &&& (nI 31).toUInt32 = 16 := by decide
  rw [e]
  have h1 : (y.toUInt32 >>> 16).toNat = y.toUInt32.toNat / 65536 := by
    rw [UInt32.toNat_shiftRight]
    rw [show (UInt32.toNat 16 % 32) = 16 by decide, Nat.shiftRight_eq_div_pow]
  rw [← h1]
  generalize y.toUInt32 >>> 16 = u
  apply Int32.toBitVec_inj.mp
  show u.toBitVec = BitVec.ofNat 32 u.toNat
  apply BitVec.eq_of_toNat_eq
  rw [BitVec.toNat_ofNat]
  exact (Nat.mod_eq_of_lt u.toBitVec.isLt).symm
theorem z_yv (x : Int32) (n b : Nat) (hn : ¬ n ≤ b) : ((z_y x (b + 1)).toUInt32 >>> ((nI 16).toUInt32 &&& (nI 31).toUInt32)).toInt32 - ((z_y x (b + 1)).toUInt32 >>> ((nI 16).toUInt32 &&& (nI 31).toUInt32)).toInt32 / nI 3 * nI 3 = nI (z_yf x n b) := by
  have h : (z_y x (b + 1)).toUInt32.toNat < 4294967296 := UInt32.toNat_lt _
  rw [q_rnd, q_rem (by omega) (by omega) (by omega)]
  unfold z_yf
  rw [if_neg hn]
/-- years(w): 0 where the rope ends, 1 who wins -/
def z_vy (A : Nat → Nat → Nat) (x : Int32) (n w : Nat) : Int32 := if w = 0 then nI (z_sim (z_yC A x n 24) (nI 0) 24 0) else z_wi (z_sim (z_yC A x n 24) (nI 0) 24 1)
theorem q_yearsC (S : tg_S) (A : Nat → Nat → Nat) (hA : z_aok A) (hc : z_ci S A) (x : Int32) {n w : Nat} (hn : n < 25) (hw : w < 2) : q_tr (f_X7_years S x (nI n) (nI w)) (fun r => r.2 = z_vy A x n w ∧ z_cf S r.1) := by
  have L : ∀ (m b : Nat) (S2 : tg_S), 24 < m + b → b ≤ 24 → z_rc S2 23 (z_yC A x n b) (nI 0) → z_cf S S2 → q_tr (L_X7_years_37 m S2 (nI n) (nI w) (z_y x b) (nI b)) (fun r => r.2 = z_vy A x n w ∧ z_cf S r.1) := by
    intro m
    induction m with
    | zero => intro b S2 h; omega
    | succ m ih =>
      intro b S2 h hb hr hf
      show q_tr (f_X7_years_37 (L_X7_years_37 m) S2 (nI n) (nI w) (z_y x b) (nI b)) _
      unfold f_X7_years_37 f_X7_years_84
      simp (disch := omega) only [q_lit, q_le, q_nm, q_add]
      refine q_if (fun hh => ?_) (fun hh => ?_)
      · have : b = 24 := by omega
        rw [this] at hr
        refine q_bd (q_play 42 23 (by omega) S2 _ (nI 0) (z_yC_ok A hA x n 24) hr) (fun S3 r3 h3 => ?_)
        obtain ⟨e3, c3, f3⟩ := h3
        dsimp only at e3 c3 f3
        have hf3 : z_cf S S3 := z_cf_trans hf (fun k j hk => f3 k j (by omega))
        rcases (show w = 0 ∨ w = 1 by omega) with rfl | rfl
        · rw [q_ifT rfl]
          exact q_ret ⟨by rw [z_vy, if_pos rfl]; exact e3, hf3⟩
        · rw [q_ifF (by decide)]
          exact q_ret ⟨by rw [z_vy, if_neg (by decide)]; exact c3.1.1, hf3⟩
      · have hy : nI 1103515245 * z_y x b + nI 12345 = z_y x (b + 1) := rfl
        rw [hy]
        have go : ∀ v, v = nI (z_yf x n b) → q_tr (tg_wr S2 30 48 (nI (24 + b)) v fun S1 => L_X7_years_37 m S1 (nI n) (nI w) (z_y x (b + 1)) (nI (b + 1))) (fun r => r.2 = z_vy A x n w ∧ z_cf S r.1) := by
          intro v hv
          subst hv
          simp (disch := omega) only [q_wr]
          exact ih (b + 1) _ (by omega) (by omega) (z_rc_up5 hr _ _) (z_cf_trans hf (fun k j hk => by rw [q_stN _ _ _ (by omega)]))
        by_cases hnb : n ≤ b
        · rw [if_pos hnb]
          exact go _ (by rw [z_yf, if_pos hnb])
        · rw [if_neg hnb]
          exact go _ (z_yv x n b hnb)
  unfold f_X7_years
  simp only [q_lit]
  rw [q_belowI S hn (by omega), q_bdS, q_ifF (by decide), q_belowI S hw (by omega), q_bdS, q_ifF (by decide)]
  refine q_bv (q_becomeLike S A hA.2.1 hc.2.2.1 hc.2.1) (fun S1 h1 => ?_)
  exact L tg_F 0 S1 (by unfold tg_F; omega) (by omega) h1.1 (fun k j hk => h1.2.2 k j (by omega))
theorem q_yearsR (T : tg_S) (A : Nat → Nat → Nat) (hA : z_aok A) (h : z_ri T A) (x : Int32) {n w : Nat} (hn : n < 25) (hw : w < 2) : q_tr (f_X8_yearsOf T x (nI n) (nI w)) (fun r => r.2 = z_vy A x n w ∧ z_ro A T r.1) := by
  have L : ∀ (m b : Nat) (T2 : tg_S), 24 < m + b → b ≤ 24 → z_rr T2 (z_yC A x n b) (nI 0) → z_ro A T T2 → q_tr (L_X8_yearsOf_10 m T2 (nI n) (nI w) (z_y x (if n ≤ b then n else b)) (nI b)) (fun r => r.2 = z_vy A x n w ∧ z_ro A T r.1) := by
    intro m
    induction m with
    | zero => intro b T2 h; omega
    | succ m ih =>
      intro b T2 hm hb hr hf
      show q_tr (f_X8_yearsOf_10 (L_X8_yearsOf_10 m) T2 (nI n) (nI w) _ (nI b)) _
      unfold f_X8_yearsOf_10 f_X8_yearsOf_38 f_X8_yearsOf_66
      simp (disch := omega) only [q_lit, q_le, q_nm, q_add]
      refine q_if (fun hh => ?_) (fun hh => ?_)
      · have : b = 24 := by omega
        rw [this] at hr
        refine q_bv (q_runs T2 _ (nI 0) (z_yC_ok A hA x n 24) hr) (fun T3 h3 => ?_)
        obtain ⟨s3, f3⟩ := h3
        have hf3 : z_ro A T T3 := ⟨z_rf_trans hf.1 ⟨fun k j hk => f3 k j (by omega) (by omega), fun j hj => f3 0 j (by omega) (by omega)⟩, z_rdk_congr (fun k j _ _ => f3 k j (by omega) (by omega)) hf.2⟩
        rcases (show w = 0 ∨ w = 1 by omega) with rfl | rfl
        · rw [q_ifT rfl]
          exact q_ret ⟨by rw [z_vy, if_pos rfl]; exact s3.1.2.1, hf3⟩
        · rw [q_ifF (by decide)]
          exact q_ret ⟨by rw [z_vy, if_neg (by decide)]; exact s3.1.2.2.1, hf3⟩
      · have go : ∀ v y, v = nI (z_yf x n b) → y = z_y x (if n ≤ b + 1 then n else b + 1) → q_tr (tg_wr T2 12 48 (nI (24 + b)) v fun S1 => L_X8_yearsOf_10 m S1 (nI n) (nI w) y (nI (b + 1))) (fun r => r.2 = z_vy A x n w ∧ z_ro A T r.1) := by
          intro v y hv hy
          subst hv
          subst hy
          simp (disch := omega) only [q_wr]
          exact ih (b + 1) _ (by omega) (by omega) (z_rr_up5 hr _ _) ⟨z_rf_trans hf.1 ⟨fun k j hk => by rw [q_stN _ _ _ (by omega)], fun j hj => by rw [q_stN _ _ _ (by omega)]⟩, z_rdk_congr (fun k j _ _ => by rw [q_stN _ _ _ (by omega)]) hf.2⟩
        by_cases hnb : n ≤ b
        · simp only [if_pos hnb]
          exact go _ _ (by rw [z_yf, if_pos hnb]) (by rw [if_pos (by omega)])
        · simp only [if_neg hnb]
          have hy : nI 1103515245 * z_y x b + nI 12345 = z_y x (b + 1) := rfl
          rw [hy]
          exact go _ _ (z_yv x n b hnb) (by
            by_cases h2 : n ≤ b + 1
            · rw [if_pos h2, show n = b + 1 by omega]
            · rw [if_neg h2])
  unfold f_X8_yearsOf
  refine q_bv (q_asToldA T A hA h) (fun T1 h1 => ?_)
  simp only [q_lit]
  have := L tg_F 0 T1 (by unfold tg_F; omega) (by omega) (z_AT_rr A T T1 hA.2.1 h.2.1 hA.1 h1.2) h1.1
  rw [show (if n ≤ 0 then n else 0) = 0 by split <;> omega] at this
  exact this
theorem e_years (S T : tg_S) (A : Nat → Nat → Nat) (hI : z_I S T A) (x a b : Int32) : z_eq (f_X7_years S x a b) (f_X8_years T x a b) := by
  rcases z_dec a 25 (by omega) with ⟨n, hn, rfl⟩ | ha
  · rcases z_dec b 2 (by omega) with ⟨w, hw, rfl⟩ | hb
    · refine z_eq_q _ hI (q_yearsC S A hI.1 hI.2.1 x hn hw) ?_
      unfold f_X8_years
      simp only [q_lit]
      rw [q_inI T (n := 24) hn (by omega), q_bdS, q_ifF (by decide), q_isTwo T hw, q_bdS, q_ifF (by decide)]
      exact q_bd (q_yearsR T A hI.1 hI.2.2.1 x hn hw) (fun T2 r h => q_ret ⟨h.1, h.2.1⟩)
    · unfold f_X7_years f_X8_years
      simp only [q_lit]
      rw [q_belowI S hn (by omega), q_bdS, q_ifF (by decide), q_belowO S hb, q_bdS, q_ifT rfl, q_inI T (n := 24) hn (by omega), q_bdS, q_ifF (by decide), q_isTwoO T hb, q_bdS, q_ifT rfl]
      exact z_eq_ret _ hI
  · unfold f_X7_years f_X8_years
    simp only [q_lit]
    rw [q_belowO S ha, q_bdS, q_ifT rfl, q_inO T (n := 24) ha (by omega), q_bdS, q_ifT rfl]
    exact z_eq_ret _ hI
