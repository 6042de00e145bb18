abbrev z_s (A : Nat → Nat → Nat) (b : Nat) : Nat → Nat := z_sim (z_C A) (nI 0) b
def z_vr (A : Nat → Nat → Nat) (b w : Nat) : Int32 := nI (if w = 0 then z_s A (b + 1) 0 else if w = 1 then z_sum (z_C A) (nI 0) b 0 else if w = 2 then z_sum (z_C A) (nI 0) b 8 else z_m (z_C A) (nI 0) (b + 1))
theorem q_ropeC (S : tg_S) (A : Nat → Nat → Nat) (h : z_cs S 35 (z_C A) (nI 0) 24) {b w : Nat} (hb : b < 24) (hw : w < 4) : f_X7_rope S (nI b) (nI w) = some (S, z_vr A b w) := by
  obtain ⟨h1, h2, h3, h4⟩ := h.2.2.1 b hb
  have h1 : S 36 b = _ := h1
  have h2 : S 37 b = _ := h2
  have h3 : S 38 b = _ := h3
  have h4 : S 38 (24 + b) = _ := h4
  unfold f_X7_rope
  simp only [q_lit]
  rw [q_belowI S hb (by omega), q_bdS, q_ifF (by decide), q_belowI S hw (by omega), q_bdS, q_ifF (by decide)]
  rcases (show w = 0 ∨ w = 1 ∨ w = 2 ∨ w = 3 by omega) with rfl | rfl | rfl | rfl
  · simp (disch := omega) only [q_rd, h1, q_eq, q_ifT]; rfl
  · simp (disch := omega) only [q_rd, h3, q_eq, q_ifT, q_ifF]; rfl
  · simp (disch := omega) only [q_add, q_rd, h4, q_eq, q_ifT, q_ifF]; rfl
  · simp (disch := omega) only [q_rd, h2, q_eq, q_ifF]; rfl
theorem q_ropeR (T : tg_S) (A : Nat → Nat → Nat) (hA : z_aok A) (h : z_ri T A) {b w : Nat} (hb : b < 24) (hw : w < 4) : q_tr (f_X8_ropeOf T (nI b) (nI w)) (fun r => r.2 = z_vr A b w ∧ z_ro A T r.1) := by
  unfold f_X8_ropeOf
  refine q_bv (q_runsToldA T A hA h) (fun T2 h2 => ?_)
  obtain ⟨h2, hs⟩ := h2
  obtain ⟨g1, g2, g3, g4⟩ := hs.2.2.2.1 b hb
  simp only [q_lit]
  rcases (show w = 0 ∨ w = 1 ∨ w = 2 ∨ w = 3 by omega) with rfl | rfl | rfl | rfl
  · simp (disch := omega) only [q_rd, g1, q_eq, q_ifT]; exact q_ret ⟨rfl, h2⟩
  · simp (disch := omega) only [q_mul, q_add, q_sub, q_eq, q_ifF]
    rw [show 2 * b + 1 - 1 = 2 * b by omega]
    simp (disch := omega) only [q_rd, g3]; exact q_ret ⟨rfl, h2⟩
  · simp (disch := omega) only [q_mul, q_add, q_sub, q_eq, q_ifF]
    rw [show 2 * b + 2 - 1 = 2 * b + 1 by omega]
    simp (disch := omega) only [q_rd, g4]; exact q_ret ⟨rfl, h2⟩
  · simp (disch := omega) only [q_rd, g2, q_eq, q_ifT, q_ifF]; exact q_ret ⟨rfl, h2⟩
theorem e_rope (S T : tg_S) (A : Nat → Nat → Nat) (hI : z_I S T A) (a b : Int32) : z_eq (f_X7_rope S a b) (f_X8_rope T a b) := by
  rcases z_dec a 24 (by omega) with ⟨m, hm, rfl⟩ | ha
  · rcases z_dec b 4 (by omega) with ⟨b, hb, rfl⟩ | hb
    · rw [q_ropeC S A hI.2.1.2.2.2.1 hm hb]
      unfold f_X8_rope
      simp only [q_lit]
      rw [q_isBeat T hm, q_bdS, q_ifF (by decide), q_inI T (n := 3) hb (by omega), q_bdS, q_ifF (by decide)]
      exact z_eq_q _ hI (q_retc _) (q_bd (q_ropeR T A hI.1 hI.2.2.1 hm hb) (fun T2 r h => q_ret ⟨h.1, h.2.1⟩))
    · unfold f_X7_rope f_X8_rope
      simp only [q_lit]
      rw [q_belowI S hm (by omega), q_bdS, q_ifF (by decide), q_belowO S hb, q_bdS, q_ifT rfl, q_isBeat T hm, q_bdS, q_ifF (by decide), q_inO T (n := 3) hb (by omega), q_bdS, q_ifT rfl]
      exact z_eq_ret _ hI
  · unfold f_X7_rope f_X8_rope
    simp only [q_lit]
    rw [q_belowO S ha, q_bdS, q_ifT rfl, q_isBeatO T ha, q_bdS, q_ifT rfl]
    exact z_eq_ret _ hI
def z_vat (A : Nat → Nat → Nat) (b k w : Nat) : Int32 := nI (if w = 0 then z_pk (z_C A) (nI 0) b k else z_s A (b + 1) (3 + k))
theorem q_atC (S : tg_S) (A : Nat → Nat → Nat) (ht : z_told S A) (h : z_cs S 35 (z_C A) (nI 0) 24) {b k w : Nat} (hb : b < 24) (hk : k < 16) (h0 : z_C A 0 k = 1) (hw : w < 2) : f_X7_at S (nI b) (nI k) (nI w) = some (S, z_vat A b k w) := by
  obtain ⟨h1, h2⟩ := h.2.2.2 b k hb hk h0
  have h1 : S 39 (k * 24 + b) = _ := h1
  have h2 : S 40 (k * 24 + b) = _ := h2
  unfold f_X7_at
  simp only [q_lit]
  rw [q_belowI S hb (by omega), q_bdS, q_ifF (by decide), q_isPullerC S A ht hk, h0, q_bdS, q_ifF (by decide), q_belowI S hw (by omega), q_bdS, q_ifF (by decide)]
  simp (disch := omega) only [q_nm, q_mul, q_add, q_rd, h1, h2]
  rcases (show w = 0 ∨ w = 1 by omega) with rfl | rfl
  · rw [q_ifT rfl]; rfl
  · rw [q_ifF (by decide)]; rfl
theorem q_atR (T : tg_S) (A : Nat → Nat → Nat) (hA : z_aok A) (h : z_ri T A) {b k w : Nat} (hb : b < 24) (hk : k < 16) (h0 : z_C A 0 k = 1) (hw : w < 2) : q_tr (f_X8_atOf T (nI b) (nI k) (nI w)) (fun r => r.2 = z_vat A b k w ∧ z_ro A T r.1) := by
  unfold f_X8_atOf
  refine q_bv (q_runsToldA T A hA h) (fun T2 h2 => ?_)
  obtain ⟨h2, hs⟩ := h2
  obtain ⟨g1, g2⟩ := hs.2.2.2.2 b k hb hk h0
  simp (disch := omega) only [q_lit, q_mul, q_add, q_rd, g1, g2]
  rcases (show w = 0 ∨ w = 1 by omega) with rfl | rfl
  · rw [q_ifT rfl]; exact q_ret ⟨rfl, h2⟩
  · rw [q_ifF (by decide)]; exact q_ret ⟨rfl, h2⟩
theorem e_at (S T : tg_S) (A : Nat → Nat → Nat) (hI : z_I S T A) (a b c : Int32) : z_eq (f_X7_at S a b c) (f_X8_at T a b c) := by
  have hle := z_C0le A
  rcases z_dec a 24 (by omega) with ⟨m, hm, rfl⟩ | ha
  · rcases z_dec b 16 (by omega) with ⟨k, hk, rfl⟩ | hb
    · by_cases h0 : z_C A 0 k = 1
      · rcases z_dec c 2 (by omega) with ⟨w, hw, rfl⟩ | hc
        · rw [q_atC S A hI.2.1.2.2.1 hI.2.1.2.2.2.1 hm hk h0 hw]
          unfold f_X8_at
          simp only [q_lit]
          rw [q_isBeat T hm, q_bdS, q_ifF (by decide)]
          refine z_eq_q _ hI (q_retc _) (q_bd (q_isPullerR T A hI.1 hI.2.2.1 hk) (fun T2 r h => ?_))
          obtain ⟨e, h⟩ := h
          dsimp only at e h
          rw [e, h0, q_ifF (by decide), q_isTwo T2 hw, q_bdS, q_ifF (by decide)]
          exact q_bd (q_atR T2 A hI.1 (z_ri_rf hI.2.2.1 h.1) hm hk h0 hw) (fun T3 r h3 => q_ret ⟨h3.1, z_rf_trans h.1 h3.2.1⟩)
        · unfold f_X7_at f_X8_at
          simp only [q_lit]
          rw [q_belowI S hm (by omega), q_bdS, q_ifF (by decide), q_isPullerC S A hI.2.1.2.2.1 hk, h0, q_bdS, q_ifF (by decide), q_belowO S hc, q_bdS, q_ifT rfl, q_isBeat T hm, q_bdS, q_ifF (by decide)]
          refine z_eq_q _ hI (q_retc _) (q_bd (q_isPullerR T A hI.1 hI.2.2.1 hk) (fun T2 r h => ?_))
          obtain ⟨e, h⟩ := h
          dsimp only at e h
          rw [e, h0, q_ifF (by decide), q_isTwoO T2 hc, q_bdS, q_ifT rfl]
          exact q_ret ⟨rfl, h.1⟩
      · have hz : z_C A 0 k = 0 := by have := hle k; omega
        unfold f_X7_at f_X8_at
        simp only [q_lit]
        rw [q_belowI S hm (by omega), q_bdS, q_ifF (by decide), q_isPullerC S A hI.2.1.2.2.1 hk, hz, q_bdS, q_ifT rfl, q_isBeat T hm, q_bdS, q_ifF (by decide)]
        refine z_eq_q _ hI (q_retc _) (q_bd (q_isPullerR T A hI.1 hI.2.2.1 hk) (fun T2 r h => ?_))
        obtain ⟨e, h⟩ := h
        dsimp only at e h
        rw [e, hz, q_ifT rfl]
        exact q_ret ⟨rfl, h.1⟩
    · unfold f_X7_at f_X8_at
      simp only [q_lit]
      rw [q_belowI S hm (by omega), q_bdS, q_ifF (by decide), q_isPullerCO S hb, q_bdS, q_ifT rfl, q_isBeat T hm, q_bdS, q_ifF (by decide)]
      refine z_eq_q _ hI (q_retc _) (q_bd (q_isPullerRO T A hI.1 hI.2.2.1 hb) (fun T2 r h => ?_))
      obtain ⟨e, h⟩ := h
      dsimp only at e h
      rw [e, q_ifT rfl]
      exact q_ret ⟨rfl, h.1⟩
  · unfold f_X7_at f_X8_at
    simp only [q_lit]
    rw [q_belowO S ha, q_bdS, q_ifT rfl, q_isBeatO T ha, q_bdS, q_ifT rfl]
    exact z_eq_ret _ hI
def z_vw (A : Nat → Nat → Nat) (w : Nat) : Int32 := if w = 0 then z_wi (z_s A 24 1) else z_wb (z_s A 24 1) (z_s A 24 2)
theorem q_wonC (S : tg_S) (A : Nat → Nat → Nat) (h : z_cs S 35 (z_C A) (nI 0) 24) {w : Nat} (hw : w < 2) : f_X7_won S (nI w) = some (S, z_vw A w) := by
  obtain ⟨h1, h2, -, -⟩ := h.1
  unfold f_X7_won
  simp only [q_lit]
  rw [q_belowI S hw (by omega), q_bdS, q_ifF (by decide), h1, h2]
  rcases (show w = 0 ∨ w = 1 by omega) with rfl | rfl
  · rw [q_ifT rfl, z_vw, if_pos rfl]
  · rw [q_ifF (by decide), z_vw, if_neg (by decide)]
theorem q_wonR (T : tg_S) (A : Nat → Nat → Nat) (hA : z_aok A) (h : z_ri T A) {w : Nat} (hw : w < 2) : q_tr (f_X8_wonOf T (nI w)) (fun r => r.2 = z_vw A w ∧ z_ro A T r.1) := by
  unfold f_X8_wonOf
  refine q_bv (q_runsToldA T A hA h) (fun T2 h2 => ?_)
  obtain ⟨h2, hs⟩ := h2
  obtain ⟨-, -, g1, g2, -⟩ := hs.1
  simp only [q_lit]
  rw [g1, g2]
  rcases (show w = 0 ∨ w = 1 by omega) with rfl | rfl
  · rw [q_ifT rfl]; exact q_ret ⟨by rw [z_vw, if_pos rfl], h2⟩
  · rw [q_ifF (by decide)]; exact q_ret ⟨by rw [z_vw, if_neg (by decide)], h2⟩
theorem e_won (S T : tg_S) (A : Nat → Nat → Nat) (hI : z_I S T A) (a : Int32) : z_eq (f_X7_won S a) (f_X8_won T a) := by
  rcases z_dec a 2 (by omega) with ⟨m, hm, rfl⟩ | ha
  · rw [q_wonC S A hI.2.1.2.2.2.1 hm]
    unfold f_X8_won
    simp only [q_lit]
    rw [q_isTwo T hm, q_bdS, q_ifF (by decide)]
    exact z_eq_q _ hI (q_retc _) (q_bd (q_wonR T A hI.1 hI.2.2.1 hm) (fun T2 r h => q_ret ⟨h.1, h.2.1⟩))
  · unfold f_X7_won f_X8_won
    simp only [q_lit]
    rw [q_belowO S ha, q_bdS, q_ifT rfl, q_isTwoO T ha, q_bdS, q_ifT rfl]
    exact z_eq_ret _ hI
-- furthest
def z_fu (A : Nat → Nat → Nat) (w : Nat) : Nat → Nat
  | 0 => 12
  | b + 1 => if w = 0 then (if z_fu A w b < z_s A (b + 1) 0 then z_s A (b + 1) 0 else z_fu A w b) else (if z_s A (b + 1) 0 < z_fu A w b then z_s A (b + 1) 0 else z_fu A w b)
theorem z_fu_le {A : Nat → Nat → Nat} (hA : z_aok A) (w : Nat) : ∀ b, z_fu A w b ≤ 24 := by
  intro b
  induction b with
  | zero => simp [z_fu]
  | succ b ih =>
    have := (z_sim_ok (mi := nI 0) (z_C_ok A hA.1 hA.2.1) (b + 1)).1
    simp only [z_fu]
    grind
theorem q_furthestC_L (S : tg_S) (A : Nat → Nat → Nat) (hA : z_aok A) (h : z_cs S 35 (z_C A) (nI 0) 24) {w : Nat} (hw : w < 2) : ∀ n b, 24 < n + b → b ≤ 24 → q_tr (L_X7_furthest_16 n S (nI w) (nI (z_fu A w b)) (nI b)) (fun r => r = (S, nI (z_fu A w 24))) := by
  intro n
  induction n with
  | zero => intro b h; omega
  | succ n ih =>
    intro b h2 hb
    show q_tr (f_X7_furthest_16 (L_X7_furthest_16 n) S (nI w) (nI (z_fu A w b)) (nI b)) _
    unfold f_X7_furthest_16 f_X7_furthest_52
    simp (disch := omega) only [q_lit, q_le, q_nm, q_add]
    refine q_if (fun h1 => ?_) (fun h1 => ?_)
    · have : b = 24 := by omega
      subst this
      exact q_ret rfl
    · have h3 : S 36 b = _ := (h.2.2.1 b (by omega)).1
      have l1 := z_fu_le hA w b
      have l2 := (z_sim_ok (mi := nI 0) (z_C_ok A hA.1 hA.2.1) (b + 1)).1
      simp (disch := omega) only [q_rd, h3, q_eq, q_max, q_min]
      have e : (if w = 0 then nI (if z_fu A w b < z_sim (z_C A) (nI 0) (b + 1) 0 then z_sim (z_C A) (nI 0) (b + 1) 0 else z_fu A w b) else nI (if z_sim (z_C A) (nI 0) (b + 1) 0 < z_fu A w b then z_sim (z_C A) (nI 0) (b + 1) 0 else z_fu A w b)) = nI (z_fu A w (b + 1)) := by
        simp only [z_fu]
        split <;> rfl
      rw [e]
      exact ih (b + 1) (by omega) (by omega)
theorem q_furthestC (S : tg_S) (A : Nat → Nat → Nat) (hA : z_aok A) (h : z_cs S 35 (z_C A) (nI 0) 24) {w : Nat} (hw : w < 2) : f_X7_furthest S (nI w) = some (S, nI (z_fu A w 24)) := by
  unfold f_X7_furthest
  simp only [q_lit]
  rw [q_belowI S hw (by omega), q_bdS, q_ifF (by decide)]
  exact q_eqS (q_furthestC_L S A hA h hw tg_F 0 (by decide) (by decide))
theorem q_furthestR_L (T : tg_S) (A : Nat → Nat → Nat) (hA : z_aok A) (h : z_rs T (z_C A) (nI 0) 24) {w : Nat} (hw : w < 2) : ∀ n b, 24 < n + b → b ≤ 24 → q_tr (L_X8_furthestOf_9 n T (nI w) (nI (z_fu A w b)) (nI b)) (fun r => r = (T, nI (z_fu A w 24))) := by
  intro n
  induction n with
  | zero => intro b h; omega
  | succ n ih =>
    intro b h2 hb
    show q_tr (f_X8_furthestOf_9 (L_X8_furthestOf_9 n) T (nI w) (nI (z_fu A w b)) (nI b)) _
    unfold f_X8_furthestOf_9 f_X8_furthestOf_52 f_X8_furthestOf_69
    simp (disch := omega) only [q_lit, q_le, q_nm, q_add]
    refine q_if (fun h1 => ?_) (fun h1 => ?_)
    · have : b = 24 := by omega
      subst this
      exact q_ret rfl
    · have h3 : T 19 b = _ := (h.2.2.2.1 b (by omega)).1
      have l1 := z_fu_le hA w b
      have l2 := (z_sim_ok (mi := nI 0) (z_C_ok A hA.1 hA.2.1) (b + 1)).1
      have go := ih (b + 1) (by omega) (by omega)
      clear ih
      simp (disch := omega) only [q_rd, h3, q_eq, q_le]
      rcases (show w = 0 ∨ w = 1 by omega) with rfl | rfl
      · rw [q_ifT rfl]
        by_cases hc : z_sim (z_C A) (nI 0) (b + 1) 0 ≤ z_fu A 0 b
        · rw [if_pos hc, q_ifT rfl]
          have e : z_fu A 0 (b + 1) = z_fu A 0 b := by simp only [z_fu]; grind
          rw [e] at go
          exact go
        · rw [if_neg hc, q_ifF (by decide)]
          have e : z_fu A 0 (b + 1) = z_sim (z_C A) (nI 0) (b + 1) 0 := by simp only [z_fu]; grind
          rw [e] at go
          exact go
      · rw [q_ifF (by decide)]
        by_cases hc : z_fu A 1 b ≤ z_sim (z_C A) (nI 0) (b + 1) 0
        · rw [if_pos hc, q_ifT rfl]
          have e : z_fu A 1 (b + 1) = z_fu A 1 b := by simp only [z_fu]; grind
          rw [e] at go
          exact go
        · rw [if_neg hc, q_ifF (by decide)]
          have e : z_fu A 1 (b + 1) = z_sim (z_C A) (nI 0) (b + 1) 0 := by simp only [z_fu]; grind
          rw [e] at go
          exact go
theorem q_furthestR (T : tg_S) (A : Nat → Nat → Nat) (hA : z_aok A) (h : z_ri T A) {w : Nat} (hw : w < 2) : q_tr (f_X8_furthestOf T (nI w)) (fun r => r.2 = nI (z_fu A w 24) ∧ z_ro A T r.1) := by
  unfold f_X8_furthestOf
  refine q_bv (q_runsToldA T A hA h) (fun T2 h2 => ?_)
  have := q_eqS (q_furthestR_L T2 A hA h2.2 hw tg_F 0 (by decide) (by decide))
  simp only [q_lit]
  rw [show L_X8_furthestOf_9 tg_F T2 (nI w) (nI 12) (nI 0) = _ from this]
  exact q_ret ⟨rfl, h2.1⟩
theorem e_furthest (S T : tg_S) (A : Nat → Nat → Nat) (hI : z_I S T A) (a : Int32) : z_eq (f_X7_furthest S a) (f_X8_furthest T a) := by
  rcases z_dec a 2 (by omega) with ⟨m, hm, rfl⟩ | ha
  · rw [q_furthestC S A hI.1 hI.2.1.2.2.2.1 hm]
    unfold f_X8_furthest
    simp only [q_lit]
    rw [q_isTwo T hm, q_bdS, q_ifF (by decide)]
    exact z_eq_q _ hI (q_retc _) (q_bd (q_furthestR T A hI.1 hI.2.2.1 hm) (fun T2 r h => q_ret ⟨h.1, h.2.1⟩))
  · unfold f_X7_furthest f_X8_furthest
    simp only [q_lit]
    rw [q_belowO S ha, q_bdS, q_ifT rfl, q_isTwoO T ha, q_bdS, q_ifT rfl]
    exact z_eq_ret _ hI
