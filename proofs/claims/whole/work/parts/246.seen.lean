-- ===== what is seen =====
def z_sm (C D : Nat → Nat → Nat) : Prop := ∀ c j, (c < 9 ∨ c = 10 ∧ j < 2) → C c j = D c j
theorem z_sm_mu {C D : Nat → Nat → Nat} (h : z_sm C D) (mi : Int32) (b m : Nat) : ∀ e, z_mu C mi b e m = z_mu D mi b e m := by
  intro e
  induction e with
  | zero => rfl
  | succ e ih => simp only [z_mu, ih, h 7 e (by omega), h 6 e (by omega)]
theorem z_sm_sx {C D : Nat → Nat → Nat} (h : z_sm C D) (mi : Int32) (b : Nat) : ∀ e, z_sx C mi b e = z_sx D mi b e := by
  intro e
  induction e with
  | zero => rfl
  | succ e ih => simp only [z_sx, ih, h 7 e (by omega), h 6 e (by omega), h 8 e (by omega)]
theorem z_sm_dg {C D : Nat → Nat → Nat} (h : z_sm C D) (mi : Int32) (b : Nat) : ∀ e, z_dg C mi b e = z_dg D mi b e := by
  intro e
  induction e with
  | zero => rfl
  | succ e ih => simp only [z_dg, ih, h 7 e (by omega), h 6 e (by omega)]
theorem z_sm_m {C D : Nat → Nat → Nat} (h : z_sm C D) (mi : Int32) : ∀ b, z_m C mi b = z_m D mi b := by
  intro b
  induction b with
  | zero => exact h 10 1 (by omega)
  | succ b ih => simp only [z_m, ih, h 10 0 (by omega), z_sm_mu h]
theorem z_sm_fo {C D : Nat → Nat → Nat} (h : z_sm C D) (k call br : Nat) : z_fo C k call br = z_fo D k call br := by
  unfold z_fo z_la z_co
  rw [h 1 k (by omega), h 2 k (by omega), h 4 k (by omega)]
theorem z_sm_br {C D : Nat → Nat → Nat} (h : z_sm C D) (k call br : Nat) : z_br C k call br = z_br D k call br := by
  unfold z_br z_la z_co
  rw [h 1 k (by omega), h 3 k (by omega), h 4 k (by omega)]
theorem z_sm_ca {C D : Nat → Nat → Nat} (h : z_sm C D) (mi : Int32) (b k : Nat) : z_ca C mi b k = z_ca D mi b k := by
  simp only [z_ca, h 10 0 (by omega), z_sm_dg h, h 5 (24 * (k / 8) + b) (by omega)]
theorem z_sm_pu {C D : Nat → Nat → Nat} (h : z_sm C D) (mi : Int32) (b k br : Nat) : z_pu C mi b k br = z_pu D mi b k br := by
  simp only [z_pu, h 10 0 (by omega), z_sm_sx h, z_sm_fo h, z_sm_ca h, z_sm_m h, h 1 k (by omega)]
theorem z_sm_bn {C D : Nat → Nat → Nat} (h : z_sm C D) (mi : Int32) (b k br : Nat) : z_bn C mi b k br = z_bn D mi b k br := by
  simp only [z_bn, h 10 0 (by omega), z_sm_sx h, z_sm_br h, z_sm_ca h]
theorem z_sm_su {C D : Nat → Nat → Nat} (h : z_sm C D) (mi : Int32) (b : Nat) (s : Nat → Nat) (lo : Nat) : ∀ i, z_su C mi b s lo i = z_su D mi b s lo i := by
  intro i
  induction i with
  | zero => rfl
  | succ i ih => simp only [z_su, ih, h 0 (lo + i) (by omega), z_sm_pu h]
theorem z_sm_sim {C D : Nat → Nat → Nat} (h : z_sm C D) (mi : Int32) : ∀ b i, z_sim C mi b i = z_sim D mi b i := by
  intro b
  induction b with
  | zero => intro i; simp only [z_sim, h 3 (i - 3) (by omega)]
  | succ b ih =>
    have e : z_sim C mi b = z_sim D mi b := funext ih
    intro i
    simp only [z_sim, z_stp, e, z_sm_su h, z_sm_bn h]
theorem z_sm_pk {C D : Nat → Nat → Nat} (h : z_sm C D) (mi : Int32) (b k : Nat) : z_pk C mi b k = z_pk D mi b k := by
  simp only [z_pk, z_sm_sim h, z_sm_pu h]
theorem z_sm_sum {C D : Nat → Nat → Nat} (h : z_sm C D) (mi : Int32) (b lo : Nat) : z_sum C mi b lo = z_sum D mi b lo := by
  have e : z_sim C mi b = z_sim D mi b := funext (z_sm_sim h mi b)
  simp only [z_sum, e, z_sm_su h]
theorem z_sm_cs {S : tg_S} {c : Nat} {C D : Nat → Nat → Nat} {mi : Int32} {B : Nat} (h : z_sm C D) (hs : z_cs S c D mi B) : z_cs S c C mi B := by
  unfold z_cs at hs ⊢
  simp only [z_sm_sim h, z_sm_m h, z_sm_sum h, z_sm_pk h]
  refine ⟨hs.1, fun k hk h0 => hs.2.1 k hk (by rw [← h 0 k (by omega)]; exact h0), hs.2.2.1, fun b k hb hk h0 => hs.2.2.2 b k hb hk (by rw [← h 0 k (by omega)]; exact h0)⟩
theorem z_sm_rc {S : tg_S} {t : Nat} {C D : Nat → Nat → Nat} {mi : Int32} (h : z_sm C D) (hs : z_rc S t D mi) : z_rc S t C mi := by
  obtain ⟨h1, h2, h3, ⟨h4, h5, h6⟩, h7⟩ := hs
  refine ⟨fun k hk => by rw [h 0 k (by omega)]; exact h1 k hk, fun k hk h0 => ?_, fun j hj => by rw [h 5 j (by omega)]; exact h3 j hj, ⟨by rw [h 10 0 (by omega)]; exact h4, h5, fun e he => ?_⟩, by rw [h 10 1 (by omega)]; exact h7⟩
  · rw [h 0 k (by omega)] at h0
    rw [h 1 k (by omega), h 2 k (by omega), h 3 k (by omega), h 4 k (by omega)]
    exact h2 k hk h0
  · rw [h 10 0 (by omega)] at he
    rw [h 6 e (by omega), h 7 e (by omega), h 8 e (by omega)]
    exact h6 e he
theorem z_sm_C {A A0 : Nat → Nat → Nat} (h : ∀ c j, (c < 5 ∨ c = 5 ∧ j < 2) → A c j = A0 c j) : z_sm (z_C A) (z_C A0) := by
  intro c j hc
  by_cases h5 : c ≤ 5
  · exact z_C_congr (fun j => h 0 j (by omega)) (fun j => h 1 j (by omega)) c j h5
  · rcases (show c = 6 ∨ c = 7 ∨ c = 8 ∨ (c = 10 ∧ j < 2) by omega) with rfl | rfl | rfl | ⟨rfl, hj⟩
    · exact h 2 j (by omega)
    · exact h 3 j (by omega)
    · exact h 4 j (by omega)
    · exact h 5 j (by omega)
/-- what was seen has changed -/
theorem z_resee (S1 T1 S T : tg_S) (A0 A : Nat → Nat → Nat) (hI : z_I S T A0) (hA : ∀ c j, (c < 5 ∨ c = 5 ∧ j < 2) → A c j = A0 c j) (hs : z_sok A) (h1 : z_snc S1 A) (h2 : z_snr T1 A) (hS : ∀ k j, (k < 4 ∨ 6 < k) → S1 k j = S k j) (hT : ∀ k j, k ≠ 25 → k ≠ 26 → (k ≠ 0 ∨ j ≠ 37) → T1 k j = T k j) : z_I S1 T1 A := by
  obtain ⟨⟨o1, o2, o3⟩, ⟨c1, c2, c3, c4, c5, c6⟩, ⟨r1, r2, r3⟩, sh⟩ := hI
  have sm := z_sm_C hA
  have tok : z_tok A := ⟨fun t ht => by rw [hA _ _ (by omega)]; exact o1.1 t ht, fun i => by rw [hA _ _ (by omega)]; exact o1.2 i⟩
  have eok : z_eok A := ⟨by rw [hA _ _ (by omega)]; exact o2.1, fun e he => by rw [hA _ _ (by omega), hA _ _ (by omega), hA _ _ (by omega)]; rw [hA _ _ (by omega)] at he; exact o2.2.1 e he, by rw [hA _ _ (by omega)]; exact o2.2.2⟩
  have eS : ∀ m, z_sz A m = z_sz A0 m := fun m => by simp only [z_sz, z_sl_congr (fun j => hA 0 j (by omega)) (fun j => hA 1 j (by omega))]
  have told : z_told S1 A := z_told_congr (fun k j _ _ => hS k j (by omega)) ⟨z_sm_rc sm c3.1, fun m hm => by rw [eS]; exact c3.2 m hm⟩
  refine ⟨⟨tok, eok, hs⟩, ⟨⟨fun t ht => by rw [hS _ _ (by omega), hA _ _ (by omega)]; exact c1.1 t ht, fun i hi => by rw [hS _ _ (by omega), hA _ _ (by omega)]; exact c1.2 i hi⟩, ⟨by rw [hS _ _ (by omega), hA _ _ (by omega)]; exact c2.1, by rw [hS _ _ (by omega)]; exact c2.2.1, by rw [hS _ _ (by omega), hA _ _ (by omega)]; exact c2.2.2.1, fun e he => by rw [hS _ _ (by omega), hS _ _ (by omega), hS _ _ (by omega), hA _ _ (by omega), hA _ _ (by omega), hA _ _ (by omega)]; exact c2.2.2.2 e he⟩, told, z_cs_congr (fun k j _ _ => hS k j (by omega)) (z_sm_cs sm c4), h1, ?_⟩, ⟨⟨fun t ht => by rw [hT _ _ (by omega) (by omega) (by omega), hA _ _ (by omega)]; exact r1.1 t ht, fun i hi => by rw [hT _ _ (by omega) (by omega) (by omega), hA _ _ (by omega)]; exact r1.2 i hi⟩, ⟨by rw [hT _ _ (by omega) (by omega) (by omega), hA _ _ (by omega)]; exact r2.1, by rw [hT _ _ (by omega) (by omega) (by omega), hA _ _ (by omega)]; exact r2.2.1, fun e he => by rw [hT _ _ (by omega) (by omega) (by omega), hT _ _ (by omega) (by omega) (by omega), hT _ _ (by omega) (by omega) (by omega), hA _ _ (by omega), hA _ _ (by omega), hA _ _ (by omega)]; exact r2.2.2 e he⟩, h2⟩, z_sh_congr sh (fun k j _ _ => hS k j (by omega)) (hS _ _ (by omega)) (fun k j _ _ => hT k j (by omega) (by omega) (by omega)) (hT _ _ (by omega) (by omega) (by omega))⟩
  unfold z_fr at c6 ⊢
  rw [hS 0 11 (by omega), hA 5 0 (by omega)]
  rcases c6 with g | ⟨g1, g2⟩
  · exact Or.inl g
  · exact Or.inr ⟨g1, fun w hw => by rw [hS 51 w (by omega), z_sm_sim sm]; exact g2 w hw⟩
theorem e_seen (S T : tg_S) (A : Nat → Nat → Nat) (hI : z_I S T A) (a b : Int32) : z_eq (f_X7_seen S a b) (f_X8_seen T a b) := by
  obtain ⟨x1, x2⟩ := hI.2.1.2.2.2.2.1
  obtain ⟨y1, y2⟩ := hI.2.2.1.2.2
  obtain ⟨s1, s2⟩ := hI.1.2.2
  unfold f_X7_seen f_X8_seen
  simp only [q_lit]
  rcases z_dec a 24 (by omega) with ⟨a, ha, rfl⟩ | ha
  · rw [q_belowI S ha (by omega), q_isBeat T ha, q_bdS, q_bdS, q_ifF (by decide), q_ifF (by decide)]
    rcases z_dec b 25 (by omega) with ⟨b, hb, rfl⟩ | hb
    · rw [q_belowI S hb (by omega), q_inI T (n := 24) hb (by omega), q_bdS, q_bdS]
      simp only [q_ifF (show ¬ nI 1 = nI 0 by decide)]
      rw [x1, y1]
      simp (disch := omega) only [q_eq]
      by_cases hf : A 5 2 = 8
      · rw [q_ifT hf, q_ifT hf]
        exact z_eq_ret _ hI
      · rw [q_ifF hf, q_ifF hf]
        unfold f_X4_append
        rw [x1]
        have g1 : ∀ v, q_st S 5 (A 5 2) v 4 2 = nI (A 5 2) := fun v => by rw [q_stN _ _ _ (by omega)]; exact x1
        have g2 : ∀ v w, q_st (q_st S 5 (A 5 2) v) 6 (A 5 2) w 4 2 = nI (A 5 2) := fun v w => by rw [q_stN _ _ _ (by omega)]; exact g1 v
        have k1 : ∀ v, q_st T 25 (A 5 2) v 0 37 = nI (A 5 2) := fun v => by rw [q_stN _ _ _ (by omega)]; exact y1
        have k2 : ∀ v w, q_st (q_st T 25 (A 5 2) v) 26 (A 5 2) w 0 37 = nI (A 5 2) := fun v w => by rw [q_stN _ _ _ (by omega)]; exact k1 v
        simp (disch := omega) only [q_lit, q_wr, g1, g2, k1, k2, q_pf, q_add, q_bdS, q_stS, pk_us]
        refine z_eq_ret (A := z_up (z_up (z_up A 6 (A 5 2) a) 7 (A 5 2) b) 5 2 (A 5 2 + 1)) _ (z_resee _ _ S T A _ hI (fun c j hc => by simp only [z_upA]; grind) ⟨by simp only [z_upA]; simp; omega, fun i hi => ?_⟩ ⟨by rw [q_stS, pk_us]; simp [z_upA], fun i hi => ?_⟩ ⟨by rw [q_stS, pk_us]; simp [z_upA], fun i hi => ?_⟩ (fun k j hk => by simp only [q_stA]; grind) (fun k j h1 h2 h3 => by simp only [q_stA]; grind))
        · have := s2 i
          simp only [z_upA] at hi ⊢
          grind
        · have := x2 i hi
          simp only [q_stA, z_upA]
          grind
        · have := y2 i hi
          simp only [q_stA, z_upA]
          grind
    · rw [q_belowO S hb, q_inO T (n := 24) hb (by omega), q_bdS, q_bdS, q_ifT rfl, q_ifT rfl]
      exact z_eq_ret _ hI
  · rw [q_belowO S ha, q_isBeatO T ha, q_bdS, q_bdS, q_ifT rfl, q_ifT rfl]
    exact z_eq_ret _ hI
theorem e_forget (S T : tg_S) (A : Nat → Nat → Nat) (hI : z_I S T A) : z_eq (f_X7_forget S) (f_X8_forget T) := by
  obtain ⟨x1, x2⟩ := hI.2.1.2.2.2.2.1
  obtain ⟨y1, y2⟩ := hI.2.2.1.2.2
  unfold f_X7_forget f_X8_forget
  simp only [q_lit, q_nm, q_pf]
  rw [x1, y1]
  refine z_eq_ret (A := z_up A 5 2 0) _ (z_resee _ _ S T A _ hI (fun c j hc => by simp only [z_upA]; grind) ⟨by simp [z_upA], fun i hi => absurd hi (by simp [z_upA])⟩ ⟨by rw [q_stS, pk_us]; simp [z_upA], fun i hi => ?_⟩ ⟨by rw [q_stS, pk_us]; simp [z_upA], fun i hi => ?_⟩ (fun k j hk => by simp only [q_stA]; grind) (fun k j h1 h2 h3 => by simp only [q_stA]; grind))
  · rw [q_stN _ _ _ (by omega), q_stN _ _ _ (by omega)]; exact x2 i hi
  · rw [q_stN _ _ _ (by omega), q_stN _ _ _ (by omega)]; exact y2 i hi
