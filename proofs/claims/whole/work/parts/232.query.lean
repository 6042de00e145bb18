-- ===== frames of queries =====
def z_rf (T0 T : tg_S) : Prop := (∀ k j, (k = 1 ∨ k = 2 ∨ k = 9 ∨ k = 10 ∨ k = 11 ∨ k = 25 ∨ k = 26 ∨ 28 ≤ k) → T k j = T0 k j) ∧ ∀ j, (j = 8 ∨ j = 9 ∨ j = 37 ∨ j = 46) → T 0 j = T0 0 j
def z_rdk (A : Nat → Nat → Nat) (T : tg_S) : Prop := (∀ m, m < 2 → T 3 m = nI (z_sz A m) ∧ T 7 m = nI (z_sl A (2 + m))) ∧ (∀ k, k < 16 → z_C A 0 k = 1 → T 4 k = nI (z_C A 1 k) ∧ T 5 k = nI (z_C A 2 k) ∧ T 6 k = nI (z_C A 3 k)) ∧ (∀ j, j < 48 → T 8 j = nI (z_C A 5 j))
def z_ro (A : Nat → Nat → Nat) (T0 T : tg_S) : Prop := z_rf T0 T ∧ z_rdk A T
theorem z_rf_refl (T : tg_S) : z_rf T T := ⟨fun _ _ _ => rfl, fun _ _ => rfl⟩
theorem z_rf_trans {T0 T1 T2 : tg_S} (h1 : z_rf T0 T1) (h2 : z_rf T1 T2) : z_rf T0 T2 := ⟨fun k j h => by rw [h2.1 k j h]; exact h1.1 k j h, fun j h => by rw [h2.2 j h]; exact h1.2 j h⟩
theorem z_ri_rf {A : Nat → Nat → Nat} {T0 T : tg_S} (h : z_ri T0 A) (hf : z_rf T0 T) : z_ri T A := by
  obtain ⟨⟨a1, a2⟩, ⟨b1, b2, b3⟩, c1, c2⟩ := h
  obtain ⟨f1, f2⟩ := hf
  exact ⟨⟨fun t ht => by rw [f1 _ _ (by omega)]; exact a1 t ht, fun i hi => by rw [f1 _ _ (by omega)]; exact a2 i hi⟩, ⟨by rw [f2 _ (by omega)]; exact b1, by rw [f2 _ (by omega)]; exact b2, fun e he => by rw [f1 _ _ (by omega), f1 _ _ (by omega), f1 _ _ (by omega)]; exact b3 e he⟩, by rw [f2 _ (by omega)]; exact c1, fun i hi => by rw [f1 _ _ (by omega), f1 _ _ (by omega)]; exact c2 i hi⟩
theorem z_I_rf {A : Nat → Nat → Nat} {S T0 T : tg_S} (h : z_I S T0 A) (hf : z_rf T0 T) : z_I S T A := ⟨h.1, h.2.1, z_ri_rf h.2.2.1 hf, z_sh_congr h.2.2.2 (fun _ _ _ _ => rfl) rfl (fun k j h1 h2 => hf.1 k j (by omega)) (hf.2 _ (by omega))⟩
/-- what TugOfWar's queries leave as it was -/
def z_cf (S0 S : tg_S) : Prop := ∀ k j, (k < 23 ∨ 35 ≤ k ∧ k ≤ 41 ∨ k = 51) → S k j = S0 k j
theorem z_cf_refl (S : tg_S) : z_cf S S := fun _ _ _ => rfl
theorem z_cf_trans {S0 S1 S2 : tg_S} (h1 : z_cf S0 S1) (h2 : z_cf S1 S2) : z_cf S0 S2 := fun k j h => by rw [h2 k j h]; exact h1 k j h
theorem z_cs_congr {S S0 : tg_S} {c : Nat} {C : Nat → Nat → Nat} {mi : Int32} {B : Nat} (h : ∀ k j, c ≤ k → k ≤ c + 6 → S k j = S0 k j) (hr : z_cs S0 c C mi B) : z_cs S c C mi B := by
  obtain ⟨⟨a1, a2, a3, a4⟩, b1, b2, b3⟩ := hr
  refine ⟨⟨by rw [h _ _ (by omega) (by omega)]; exact a1, by rw [h _ _ (by omega) (by omega)]; exact a2, by rw [h _ _ (by omega) (by omega)]; exact a3, by rw [h _ _ (by omega) (by omega)]; exact a4⟩, fun k hk h0 => by rw [h _ _ (by omega) (by omega)]; exact b1 k hk h0, fun b hb => ?_, fun b k hb hk h0 => ?_⟩
  · rw [h _ _ (by omega) (by omega), h _ _ (by omega) (by omega), h _ _ (by omega) (by omega), h _ _ (by omega) (by omega)]; exact b2 b hb
  · rw [h _ _ (by omega) (by omega), h _ _ (by omega) (by omega)]; exact b3 b k hb hk h0
theorem z_told_congr {A : Nat → Nat → Nat} {S S0 : tg_S} (h : ∀ k j, 11 ≤ k → k ≤ 22 → S k j = S0 k j) (hr : z_told S0 A) : z_told S A := ⟨z_rc_congr2 (fun k j h1 h2 => h k j h1 (by omega)) hr.1, fun m hm => by rw [h _ _ (by omega) (by omega), h _ _ (by omega) (by omega)]; exact hr.2 m hm⟩
theorem z_ci_cf {A : Nat → Nat → Nat} {S0 S : tg_S} (h : z_ci S0 A) (f : z_cf S0 S) : z_ci S A := by
  obtain ⟨⟨a1, a2⟩, ⟨b1, b2, b3, b4⟩, c, d, ⟨e1, e2⟩, g⟩ := h
  refine ⟨⟨fun t ht => by rw [f _ _ (by omega)]; exact a1 t ht, fun i hi => by rw [f _ _ (by omega)]; exact a2 i hi⟩, ⟨by rw [f _ _ (by omega)]; exact b1, by rw [f _ _ (by omega)]; exact b2, by rw [f _ _ (by omega)]; exact b3, fun e he => by rw [f _ _ (by omega), f _ _ (by omega), f _ _ (by omega)]; exact b4 e he⟩, z_told_congr (fun k j _ _ => f k j (by omega)) c, z_cs_congr (fun k j _ _ => f k j (by omega)) d, ⟨by rw [f _ _ (by omega)]; exact e1, fun i hi => by rw [f _ _ (by omega), f _ _ (by omega)]; exact e2 i hi⟩, ?_⟩
  rcases g with g | ⟨g1, g2⟩
  · exact Or.inl (by rw [f _ _ (by omega)]; exact g)
  · exact Or.inr ⟨by rw [f _ _ (by omega)]; exact g1, fun w hw => by rw [f _ _ (by omega)]; exact g2 w hw⟩
theorem z_I_cf {A : Nat → Nat → Nat} {S0 S T : tg_S} (h : z_I S0 T A) (f : z_cf S0 S) : z_I S T A := ⟨h.1, z_ci_cf h.2.1 f, h.2.2.1, z_sh_congr h.2.2.2 (fun k j _ _ => f k j (by omega)) (f _ _ (by omega)) (fun _ _ _ _ => rfl) rfl⟩
/-- a query: both answer v -/
theorem z_eq_q {a : Type} {o1 o2 : Option (tg_S × a)} {S T : tg_S} {A : Nat → Nat → Nat} (v : a) (hI : z_I S T A) (h1 : q_tr o1 (fun r => r.2 = v ∧ z_cf S r.1)) (h2 : q_tr o2 (fun r => r.2 = v ∧ z_rf T r.1)) : z_eq o1 o2 := by
  obtain ⟨⟨S1, r⟩, e1, e2, e3⟩ := h1
  obtain ⟨⟨T1, r2⟩, g1, g2, g3⟩ := h2
  dsimp only at e2 e3 g2 g3
  rw [e2] at e1
  rw [g2] at g1
  exact ⟨S1, T1, v, A, e1, g1, z_I_rf (z_I_cf hI e3) g3⟩
theorem q_retc {a : Type} {S : tg_S} (v : a) : q_tr (some (S, v)) (fun r => r.2 = v ∧ z_cf S r.1) := q_ret ⟨rfl, z_cf_refl S⟩
theorem q_retr {a : Type} {T : tg_S} (v : a) : q_tr (some (T, v)) (fun r => r.2 = v ∧ z_rf T r.1) := q_ret ⟨rfl, z_rf_refl T⟩
-- reads, runsTold
theorem q_readsA (T : tg_S) (A : Nat → Nat → Nat) (hA : z_aok A) (h : z_ri T A) : q_tr (f_X8_reads T) (fun T2 => z_ro A T T2) := by
  refine q_mono (q_reads T A hA.1 h.1) (fun T2 h2 => ⟨⟨fun k j hk => h2.2.2.2 k j (by omega), fun j hj => h2.2.2.2 _ _ (by omega)⟩, h2.1, h2.2.1, h2.2.2.1⟩)
theorem q_asToldA (T : tg_S) (A : Nat → Nat → Nat) (hA : z_aok A) (h : z_ri T A) : q_tr (f_X8_asTold T) (fun T2 => z_ro A T T2 ∧ z_AT A T T2) := by
  refine q_mono (q_asTold T A hA.1 h.1) (fun T2 h2 => ?_)
  obtain ⟨a, a4, a5, a6, a7, a8⟩ := id h2
  exact ⟨⟨⟨fun k j hk => a8 k j (by omega) (by omega) (by omega) (by omega), fun j hj => a8 _ _ (by omega) (by omega) (by omega) (by omega)⟩, a⟩, h2⟩
theorem q_runsToldA (T : tg_S) (A : Nat → Nat → Nat) (hA : z_aok A) (h : z_ri T A) : q_tr (f_X8_runsTold T) (fun T2 => z_ro A T T2 ∧ z_rs T2 (z_C A) (nI 0) 24) := by
  unfold f_X8_runsTold
  refine q_bv (q_asToldA T A hA h) (fun T1 h1 => ?_)
  refine q_bv (q_runs T1 (z_C A) (nI 0) (z_C_ok A hA.1 hA.2.1) (z_AT_rr A T T1 hA.2.1 h.2.1 hA.1 h1.2)) (fun T2 h2 => q_ret ⟨⟨z_rf_trans h1.1.1 ⟨fun k j hk => h2.2 k j (by omega) (by omega), fun j hj => h2.2 _ _ (by omega) (by omega)⟩, ?_⟩, h2.1⟩)
  obtain ⟨d1, d2, d3⟩ := h1.1.2
  exact ⟨fun m hm => by rw [h2.2 _ _ (by omega) (by omega), h2.2 _ _ (by omega) (by omega)]; exact d1 m hm, fun k hk h0 => by rw [h2.2 _ _ (by omega) (by omega), h2.2 _ _ (by omega) (by omega), h2.2 _ _ (by omega) (by omega)]; exact d2 k hk h0, fun j hj => by rw [h2.2 _ _ (by omega) (by omega)]; exact d3 j hj⟩
theorem z_szle {A : Nat → Nat → Nat} (hA : z_tok A) (m : Nat) (hm : m < 2) : z_sz A m ≤ 8 := by
  have hL : A 0 m ≤ 31 := by have := hA.1 m (by omega); split at this <;> omega
  unfold z_sz z_sl
  split <;> omega
-- small tests
theorem q_isBeat (T : tg_S) {i : Nat} (h : i < 24) : f_X8_isBeat T (nI i) = some (T, nI 1) := by
  unfold f_X8_isBeat
  simp only [q_lit]
  rw [q_inI T (n := 23) h (by omega), q_bdS, q_bz1]
theorem q_isBeatO (T : tg_S) {a : Int32} (h : z_out a 24) : f_X8_isBeat T a = some (T, nI 0) := by
  unfold f_X8_isBeat
  simp only [q_lit]
  rw [q_inO T (n := 23) h (by omega), q_bdS, q_bz0]
theorem q_isTwo (T : tg_S) {i : Nat} (h : i < 2) : f_X8_isTwo T (nI i) = some (T, nI 1) := by
  unfold f_X8_isTwo
  simp only [q_lit]
  rw [q_inI T (n := 1) h (by omega), q_bdS, q_bz1]
theorem q_isTwoO (T : tg_S) {a : Int32} (h : z_out a 2) : f_X8_isTwo T a = some (T, nI 0) := by
  unfold f_X8_isTwo
  simp only [q_lit]
  rw [q_inO T (n := 1) h (by omega), q_bdS, q_bz0]
theorem q_isThree (T : tg_S) {i : Nat} (h : i < 3) : f_X8_isThree T (nI i) = some (T, nI 1) := by
  unfold f_X8_isThree
  simp only [q_lit]
  rw [q_inI T (n := 2) h (by omega), q_bdS, q_bz1]
theorem q_isThreeO (T : tg_S) {a : Int32} (h : z_out a 3) : f_X8_isThree T a = some (T, nI 0) := by
  unfold f_X8_isThree
  simp only [q_lit]
  rw [q_inO T (n := 2) h (by omega), q_bdS, q_bz0]
theorem z_C0le (A : Nat → Nat → Nat) (k : Nat) : z_C A 0 k ≤ 1 := by simp only [z_C]; grind
theorem q_isPullerC (S : tg_S) (A : Nat → Nat → Nat) (h : z_told S A) {k : Nat} (hk : k < 16) : f_X7_isPuller S (nI k) = some (S, nI (z_C A 0 k)) := by
  have hle := z_C0le A k
  have h1 : S 12 k = nI (z_C A 0 k) := h.1.1 k hk
  unfold f_X7_isPuller
  simp only [q_lit]
  rw [q_belowI S hk (by omega), q_bdS, q_ifF (by decide)]
  simp (disch := omega) only [q_rd, h1, q_eq]
  rcases (show z_C A 0 k = 0 ∨ z_C A 0 k = 1 by omega) with h | h
  · rw [q_ifT h, h]
  · rw [q_ifF (by omega), h]
theorem q_isPullerCO (S : tg_S) {a : Int32} (h : z_out a 16) : f_X7_isPuller S a = some (S, nI 0) := by
  unfold f_X7_isPuller
  simp only [q_lit]
  rw [q_belowO S h, q_bdS, q_ifT rfl]
theorem q_thereOne (T : tg_S) (A : Nat → Nat → Nat) (hA : z_aok A) (h : z_rdk A T) {k : Nat} (hk : k < 16) : f_X8_isThereOne T (nI k) = some (T, nI (z_C A 0 k)) := by
  rw [q_isThereOne T (z_sz A) (fun m hm => ⟨(h.1 m hm).1, z_szle hA.1 m hm⟩) k hk]
  simp only [z_C]
  simp
theorem q_thereOneO (T : tg_S) {a : Int32} (h : z_out a 16) : f_X8_isThereOne T a = some (T, nI 0) := by
  unfold f_X8_isThereOne
  simp only [q_lit]
  rw [q_inO T (n := 15) h (by omega), q_bdS, q_ifT rfl]
theorem q_isPullerR (T : tg_S) (A : Nat → Nat → Nat) (hA : z_aok A) (h : z_ri T A) {k : Nat} (hk : k < 16) : q_tr (f_X8_isPuller T (nI k)) (fun r => r.2 = nI (z_C A 0 k) ∧ z_ro A T r.1) := by
  have hle := z_C0le A k
  unfold f_X8_isPuller
  refine q_bv (q_readsA T A hA h) (fun T2 h2 => ?_)
  rw [q_thereOne T2 A hA h2.2 hk, q_bdS]
  rcases (show z_C A 0 k = 0 ∨ z_C A 0 k = 1 by omega) with h | h
  · rw [h, q_bz0]
    exact q_ret ⟨rfl, h2⟩
  · rw [h, q_bz1]
    exact q_ret ⟨rfl, h2⟩
theorem q_isPullerRO (T : tg_S) (A : Nat → Nat → Nat) (hA : z_aok A) (h : z_ri T A) {a : Int32} (ha : z_out a 16) : q_tr (f_X8_isPuller T a) (fun r => r.2 = nI 0 ∧ z_ro A T r.1) := by
  unfold f_X8_isPuller
  refine q_bv (q_readsA T A hA h) (fun T2 h2 => ?_)
  rw [q_thereOneO T2 ha, q_bdS, q_bz0]
  exact q_ret ⟨rfl, h2⟩
theorem e_fault (S T : tg_S) (A : Nat → Nat → Nat) (hI : z_I S T A) (a : Int32) : z_eq (f_X7_fault S a) (f_X8_fault T a) := by
  unfold f_X7_fault f_X8_fault
  simp only [q_lit]
  rcases z_dec a 4 (by omega) with ⟨t, ht, rfl⟩ | ha
  · rw [q_belowI S ht (by omega), q_isText T ht, q_bdS, q_bdS, q_ifF (by decide), q_ifF (by decide), q_firstFault S A hI.1.1 hI.2.1.1 t ht, q_bdS]
    refine z_eq_q (z_fi (z_fa A t)) hI (q_retc _) (q_bd (q_faultOf T A hI.1.1 hI.2.2.1.1 t ht) (fun T2 r h => q_ret ⟨h.1, fun k j hk => h.2.2.2.2 k j (by omega), fun j hj => h.2.2.2.2 _ _ (by omega)⟩))
  · rw [q_belowO S ha, q_isTextO T ha, q_bdS, q_bdS, q_ifT rfl, q_ifT rfl]
    exact z_eq_ret _ hI
/-- the three numbers of a puller -/
def z_vp (A : Nat → Nat → Nat) (k w : Nat) : Int32 := nI (z_C A (w + 1) k)
theorem q_pullerC (S : tg_S) (A : Nat → Nat → Nat) (h : z_told S A) {k w : Nat} (hk : k < 16) (h0 : z_C A 0 k = 1) (hw : w < 3) : f_X7_puller S (nI k) (nI w) = some (S, z_vp A k w) := by
  obtain ⟨h1, h2, h3, -⟩ := h.1.2.1 k hk h0
  have h1 : S 13 k = nI (z_C A 1 k) := h1
  have h2 : S 14 k = nI (z_C A 2 k) := h2
  have h3 : S 15 k = nI (z_C A 3 k) := h3
  unfold f_X7_puller
  simp only [q_lit]
  rw [q_isPullerC S A h hk, h0, q_bdS, q_ifF (by decide), q_belowI S hw (by omega), q_bdS, q_ifF (by decide)]
  rcases (show w = 0 ∨ w = 1 ∨ w = 2 by omega) with rfl | rfl | rfl
  · simp (disch := omega) only [q_rd, h1, q_eq, q_ifT]; rfl
  · simp (disch := omega) only [q_rd, h2, q_eq, q_ifT, q_ifF]; rfl
  · simp (disch := omega) only [q_rd, h3, q_eq, q_ifF]; rfl
theorem q_pullerOf (T : tg_S) (A : Nat → Nat → Nat) (h : z_rdk A T) {k w : Nat} (hk : k < 16) (h0 : z_C A 0 k = 1) (hw : w < 3) : f_X8_pullerOf T (nI k) (nI w) = some (T, z_vp A k w) := by
  obtain ⟨h1, h2, h3⟩ := h.2.1 k hk h0
  unfold f_X8_pullerOf
  simp only [q_lit]
  rcases (show w = 0 ∨ w = 1 ∨ w = 2 by omega) with rfl | rfl | rfl
  · simp (disch := omega) only [q_rd, h1, q_eq, q_ifT]; rfl
  · simp (disch := omega) only [q_rd, h2, q_eq, q_ifT, q_ifF]; rfl
  · simp (disch := omega) only [q_rd, h3, q_eq, q_ifF]; rfl
theorem e_puller (S T : tg_S) (A : Nat → Nat → Nat) (hI : z_I S T A) (a b : Int32) : z_eq (f_X7_puller S a b) (f_X8_puller T a b) := by
  have hle := z_C0le A
  rcases z_dec a 16 (by omega) with ⟨k, hk, rfl⟩ | ha
  · by_cases h0 : z_C A 0 k = 1
    · rcases z_dec b 3 (by omega) with ⟨w, hw, rfl⟩ | hb
      · rw [q_pullerC S A hI.2.1.2.2.1 hk h0 hw]
        refine z_eq_q (z_vp A k w) hI (q_retc _) ?_
        unfold f_X8_puller
        simp only [q_lit]
        refine q_bd (q_isPullerR T A hI.1 hI.2.2.1 hk) (fun T2 r h => ?_)
        obtain ⟨e, h⟩ := h
        dsimp only at e h
        rw [e, h0, q_ifF (by decide), q_isThree T2 hw, q_bdS, q_ifF (by decide), q_pullerOf T2 A h.2 hk h0 hw, q_bdS]
        exact q_ret ⟨rfl, h.1⟩
      · unfold f_X7_puller f_X8_puller
        simp only [q_lit]
        rw [q_isPullerC S A hI.2.1.2.2.1 hk, h0, q_bdS, q_ifF (by decide), q_belowO S hb, q_bdS, q_ifT rfl]
        refine z_eq_q _ hI (q_retc _) (q_bd (q_isPullerR T A hI.1 hI.2.2.1 hk) (fun T2 r h => ?_))
        obtain ⟨e, h⟩ := h
        dsimp only at e h
        rw [e, h0, q_ifF (by decide), q_isThreeO T2 hb, q_bdS, q_ifT rfl]
        exact q_ret ⟨rfl, h.1⟩
    · have hz : z_C A 0 k = 0 := by have := hle k; omega
      unfold f_X7_puller f_X8_puller
      simp only [q_lit]
      rw [q_isPullerC S A hI.2.1.2.2.1 hk, hz, q_bdS, q_ifT rfl]
      refine z_eq_q _ hI (q_retc _) (q_bd (q_isPullerR T A hI.1 hI.2.2.1 hk) (fun T2 r h => ?_))
      obtain ⟨e, h⟩ := h
      dsimp only at e h
      rw [e, hz, q_ifT rfl]
      exact q_ret ⟨rfl, h.1⟩
  · unfold f_X7_puller f_X8_puller
    simp only [q_lit]
    rw [q_isPullerCO S ha, q_bdS, q_ifT rfl]
    refine z_eq_q _ hI (q_retc _) (q_bd (q_isPullerRO T A hI.1 hI.2.2.1 ha) (fun T2 r h => ?_))
    obtain ⟨e, h⟩ := h
    dsimp only at e h
    rw [e, q_ifT rfl]
    exact q_ret ⟨rfl, h.1⟩
theorem q_callC (S : tg_S) (A : Nat → Nat → Nat) (h : z_told S A) {m b : Nat} (hm : m < 2) (hb : b < 24) : f_X7_call S (nI m) (nI b) = some (S, nI (z_C A 5 (24 * m + b))) := by
  have h1 : ∀ j, j < 48 → S 18 j = nI (z_C A 5 j) := h.1.2.2.1
  unfold f_X7_call
  simp only [q_lit]
  rw [q_belowI S hm (by omega), q_bdS, q_ifF (by decide), q_belowI S hb (by omega), q_bdS, q_ifF (by decide)]
  simp (disch := omega) only [q_mul, q_add, q_rd, h1]
  rw [show m * 24 + b = 24 * m + b by omega]
theorem q_callOfR (T : tg_S) (A : Nat → Nat → Nat) (hA : z_aok A) (h : z_ri T A) {m b : Nat} (hm : m < 2) (hb : b < 24) : q_tr (f_X8_callOf T (nI m) (nI b)) (fun r => r.2 = nI (z_C A 5 (24 * m + b)) ∧ z_ro A T r.1) := by
  unfold f_X8_callOf
  refine q_bv (q_readsA T A hA h) (fun T2 h2 => ?_)
  simp (disch := omega) only [q_lit, q_mul, q_add, q_rd, h2.2.2.2]
  exact q_ret ⟨rfl, h2⟩
theorem e_call (S T : tg_S) (A : Nat → Nat → Nat) (hI : z_I S T A) (a b : Int32) : z_eq (f_X7_call S a b) (f_X8_call T a b) := by
  rcases z_dec a 2 (by omega) with ⟨m, hm, rfl⟩ | ha
  · rcases z_dec b 24 (by omega) with ⟨b, hb, rfl⟩ | hb
    · rw [q_callC S A hI.2.1.2.2.1 hm hb]
      unfold f_X8_call
      simp only [q_lit]
      rw [q_isTwo T hm, q_bdS, q_ifF (by decide), q_isBeat T hb, q_bdS, q_ifF (by decide)]
      exact z_eq_q _ hI (q_retc _) (q_bd (q_callOfR T A hI.1 hI.2.2.1 hm hb) (fun T2 r h => q_ret ⟨h.1, h.2.1⟩))
    · unfold f_X7_call f_X8_call
      simp only [q_lit]
      rw [q_belowI S hm (by omega), q_bdS, q_ifF (by decide), q_belowO S hb, q_bdS, q_ifT rfl, q_isTwo T hm, q_bdS, q_ifF (by decide), q_isBeatO T hb, q_bdS, q_ifT rfl]
      exact z_eq_ret _ hI
  · unfold f_X7_call f_X8_call
    simp only [q_lit]
    rw [q_belowO S ha, q_bdS, q_ifT rfl, q_isTwoO T ha, q_bdS, q_ifT rfl]
    exact z_eq_ret _ hI
