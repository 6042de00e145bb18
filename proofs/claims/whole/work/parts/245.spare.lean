theorem z_rc_mi {S : tg_S} {C : Nat → Nat → Nat} {m0 : Int32} (mi : Int32) (h : z_rc S 23 C m0) : z_rc (q_st S 31 4 mi) 23 C mi := by
  obtain ⟨h1, h2, h3, h4, h5⟩ := h
  refine ⟨fun k hk => by rw [q_stN _ _ _ (by omega)]; exact h1 k hk, fun k hk h0 => ?_, fun i hi => by rw [q_stN _ _ _ (by omega)]; exact h3 i hi, ⟨?_, ?_, fun e he => ?_⟩, by rw [q_stN _ _ _ (by omega)]; exact h5⟩
  · rw [q_stN _ _ _ (by omega), q_stN _ _ _ (by omega), q_stN _ _ _ (by omega), q_stN _ _ _ (by omega)]; exact h2 k hk h0
  · rw [q_stA]; simp; exact h4.1
  · rw [q_stA]; simp
  · rw [q_stN _ _ _ (by omega), q_stN _ _ _ (by omega), q_stN _ _ _ (by omega)]; exact h4.2.2 e he
theorem z_rr_mi {T : tg_S} {C : Nat → Nat → Nat} {m0 : Int32} (mi : Int32) (h : z_rr T C m0) : z_rr (q_st T 0 14 mi) C mi := by
  obtain ⟨⟨n, a1, a2⟩, b, ⟨pl, c1, c2, c3⟩, d, ⟨e1, e2, e3⟩, g⟩ := h
  have q : ∀ j, j ≠ 14 → q_st T 0 14 mi 0 j = T 0 j := fun j hj => by rw [q_stA]; simp [hj]
  refine ⟨⟨n, fun m hm => by rw [q_stN _ _ _ (by omega)]; exact a1 m hm, fun k hk => by rw [q _ (by omega)]; exact a2 k hk⟩, fun k hk h0 => by rw [q_stN _ _ _ (by omega), q_stN _ _ _ (by omega), q_stN _ _ _ (by omega)]; exact b k hk h0, ⟨pl, fun k hk => by rw [q_stN _ _ _ (by omega)]; exact c1 k hk, c2, c3⟩, fun j hj => by rw [q_stN _ _ _ (by omega)]; exact d j hj, ⟨by rw [q _ (by omega)]; exact e1, by rw [q_stS, pk_us], fun e he => by rw [q_stN _ _ _ (by omega), q_stN _ _ _ (by omega), q_stN _ _ _ (by omega)]; exact e3 e he⟩, by rw [q _ (by omega)]; exact g⟩
/-- team 1 has won when the events mi are not -/
abbrev z_P (A : Nat → Nat → Nat) (mi : Int32) : Prop := z_sim (z_C A) mi 24 1 = 1
theorem z_wi_1 {w : Nat} (h : w ≤ 2) : (z_wi w = nI 1) = (w = 1) := by
  unfold z_wi
  rcases (show w = 0 ∨ w = 1 ∨ w = 2 by omega) with rfl | rfl | rfl
  · apply propext; constructor
    · intro h; exact absurd h (by decide)
    · intro h; omega
  · simp
  · apply propext; constructor
    · intro h; exact absurd h (by decide)
    · intro h; omega
theorem q_winnerWithout (S : tg_S) (A : Nat → Nat → Nat) (hA : z_aok A) (m0 mi : Int32) (h : z_rc S 23 (z_C A) m0) : q_tr (f_X7_winnerWithout S mi) (fun r => r.2 = z_wi (z_sim (z_C A) mi 24 1) ∧ z_rc r.1 23 (z_C A) mi ∧ ∀ k j, (k < 42 ∨ 48 < k) → (k ≠ 31 ∨ j ≠ 4) → r.1 k j = S k j) := by
  have hr := z_rc_mi mi h
  unfold f_X7_winnerWithout
  simp only [q_pf]
  refine q_bd (q_play 42 23 (by omega) _ (z_C A) mi (z_C_ok A hA.1 hA.2.1) hr) (fun S2 r2 h2 => ?_)
  obtain ⟨-, c2, f2⟩ := h2
  dsimp only at c2 f2
  refine q_ret ⟨c2.1.1, z_rc_congr2 (fun k j _ _ => f2 k j (by omega)) hr, fun k j hk hj => ?_⟩
  dsimp only
  rw [f2 k j (by omega), q_stA, if_neg (by omega)]
theorem q_isSpared (T : tg_S) (A : Nat → Nat → Nat) (hA : z_aok A) (m0 mi : Int32) (h : z_rr T (z_C A) m0) : q_tr (f_X8_isSpared T mi) (fun r => r.2 = (if z_P A mi then nI 0 else nI 1) ∧ z_rr r.1 (z_C A) mi ∧ ∀ k j, (k < 14 ∨ 23 < k) → (k ≠ 0 ∨ j < 18 ∧ j ≠ 14 ∨ 24 < j) → r.1 k j = T k j) := by
  have hr := z_rr_mi mi h
  have hok := z_sim_ok (mi := mi) (z_C_ok A hA.1 hA.2.1) 24
  unfold f_X8_isSpared
  simp only [q_pf]
  refine q_bv (q_runs _ (z_C A) mi (z_C_ok A hA.1 hA.2.1) hr) (fun T2 h2 => ?_)
  obtain ⟨s2, f2⟩ := h2
  simp only [q_lit]
  rw [s2.1.2.2.1]
  have fr : ∀ k j, (k < 14 ∨ 23 < k) → (k ≠ 0 ∨ j < 18 ∧ j ≠ 14 ∨ 24 < j) → T2 k j = T k j := fun k j hk hj => by rw [f2 k j (by omega) (by omega), q_stA, if_neg (by omega)]
  have rr : z_rr T2 (z_C A) mi := z_rr_congr (fun k j _ hk => f2 k j (by omega) (by omega)) (fun j hj => f2 0 j (by omega) (by omega)) hr
  refine q_if (fun hw => ?_) (fun hw => ?_)
  · rw [z_wi_1 hok.2.2.1] at hw
    exact q_ret ⟨by rw [if_pos hw], rr, fr⟩
  · rw [z_wi_1 hok.2.2.1] at hw
    exact q_ret ⟨by rw [if_neg hw], rr, fr⟩
abbrev z_b1 (e : Nat) : Int32 := nI 1 <<< (nI e &&& nI 31)
def z_e1 (A : Nat → Nat → Nat) : Nat → Nat → Nat
  | _, 0 => 99
  | e, n + 1 => if z_P A (z_b1 e) then z_e1 A (e + 1) n else e
def z_e2 (A : Nat → Nat → Nat) (e : Nat) : Nat → Nat → Nat
  | _, 0 => 99
  | f, n + 1 => if z_P A (z_b1 e ||| z_b1 f) then z_e2 A e (f + 1) n else f
def z_e3 (A : Nat → Nat → Nat) : Nat → Nat → Nat × Nat
  | _, 0 => (99, 99)
  | e, n + 1 => if z_e2 A e (e + 1) (A 5 0 - (e + 1)) = 99 then z_e3 A (e + 1) n else (e, z_e2 A e (e + 1) (A 5 0 - (e + 1)))
def z_RP (p : Nat × Nat) : Nat × Nat × Nat := if p.1 = 99 then (3, 99, 99) else (2, p.1, p.2)
def z_R1 (A : Nat → Nat → Nat) (e : Nat) : Nat × Nat × Nat := if e = 99 then z_RP (z_e3 A 0 (A 5 0)) else (1, e, 99)
def z_R (A : Nat → Nat → Nat) : Nat × Nat × Nat := if z_P A (nI 0) then z_R1 A (z_e1 A 0 (A 5 0)) else (0, 99, 99)
def z_99 (x : Nat) : Int32 := if x = 99 then -nI 1 else nI x
def z_n3 (x : Nat) : Int32 := if x = 3 then -nI 1 else nI x
def z_PC (S0 : tg_S) (s : Nat × Nat × Nat) (r : tg_S × Int32) : Prop := r.2 = z_n3 s.1 ∧ r.1 49 0 = z_99 s.2.1 ∧ r.1 49 1 = z_99 s.2.2 ∧ z_cf S0 r.1
def z_PR (A : Nat → Nat → Nat) (T0 : tg_S) (s : Nat × Nat × Nat) (r : tg_S × Int32) : Prop := r.2 = z_n3 s.1 ∧ (s.1 = 1 ∨ s.1 = 2 → r.1 24 0 = nI s.2.1) ∧ (s.1 = 2 → r.1 24 1 = nI s.2.2) ∧ z_ro A T0 r.1
-- TugOfWar's loops
theorem q_spC88 (S0 : tg_S) (A : Nat → Nat → Nat) (hA : z_aok A) (e : Nat) (he : e < A 5 0) (rec : tg_S → Int32 → Int32 → Option (tg_S × Int32)) (Q : tg_S × Int32 → Prop) (hrec : z_e2 A e (e + 1) (A 5 0 - (e + 1)) = 99 → ∀ S, (∃ m0, z_rc S 23 (z_C A) m0) → S 49 0 = -nI 1 → S 49 1 = -nI 1 → z_cf S0 S → q_tr (rec S (nI (A 5 0)) (nI (e + 1))) Q) (hfin : ∀ f r, z_e2 A e (e + 1) (A 5 0 - (e + 1)) = f → f ≠ 99 → z_PC S0 (2, e, f) r → Q r) : ∀ (n f : Nat) (S : tg_S), A 5 0 < n + f → f ≤ A 5 0 → z_e2 A e (e + 1) (A 5 0 - (e + 1)) = z_e2 A e f (A 5 0 - f) → (∃ m0, z_rc S 23 (z_C A) m0) → S 49 0 = -nI 1 → S 49 1 = -nI 1 → z_cf S0 S → q_tr (L_X7_chooseSpare_88 rec n S (nI (A 5 0)) (nI e) (nI f)) Q := by
  intro n
  have h8 := hA.2.1.1
  induction n with
  | zero => intro f S h; omega
  | succ n ih =>
    intro f S h hf heq hr h0 h1 hcf
    obtain ⟨m0, hr⟩ := hr
    show q_tr (f_X7_chooseSpare_88 rec (L_X7_chooseSpare_88 rec n) S (nI (A 5 0)) (nI e) (nI f)) Q
    unfold f_X7_chooseSpare_88
    simp (disch := omega) only [q_lit, q_le, q_nm, q_add]
    refine q_if (fun hh => ?_) (fun hh => ?_)
    · have : f = A 5 0 := by omega
      rw [this, Nat.sub_self] at heq
      exact hrec (heq.trans rfl) S ⟨m0, hr⟩ h0 h1 hcf
    · have hok := z_sim_ok (mi := z_b1 e ||| z_b1 f) (z_C_ok A hA.1 hA.2.1) 24
      refine q_bd (q_winnerWithout S A hA m0 (z_b1 e ||| z_b1 f) hr) (fun S2 r2 h2 => ?_)
      obtain ⟨e2, r2', f2⟩ := h2
      dsimp only at e2 r2' f2
      have en : A 5 0 - f = (A 5 0 - (f + 1)) + 1 := by omega
      rw [en, z_e2] at heq
      have cf2 : z_cf S0 S2 := z_cf_trans hcf (fun k j hk => f2 k j (by omega) (by omega))
      rw [e2]
      refine q_if (fun hw => ?_) (fun hw => ?_)
      · rw [z_wi_1 hok.2.2.1] at hw
        rw [if_pos hw] at heq
        exact ih (f + 1) S2 (by omega) (by omega) heq ⟨_, r2'⟩ (by rw [f2 _ _ (by omega) (by omega)]; exact h0) (by rw [f2 _ _ (by omega) (by omega)]; exact h1) cf2
      · rw [z_wi_1 hok.2.2.1] at hw
        rw [if_neg hw] at heq
        simp only [q_pf]
        refine q_ret (hfin f _ heq (by omega) ⟨rfl, ?_, ?_, ?_⟩)
        · simp [q_stA, z_99, show e ≠ 99 by omega]
        · simp [q_stA, z_99, show f ≠ 99 by omega]
        · exact z_cf_trans cf2 (fun k j hk => by simp only [q_stA]; rw [if_neg (by omega), if_neg (by omega)])
theorem q_spC79 (S0 : tg_S) (A : Nat → Nat → Nat) (hA : z_aok A) : ∀ (n e : Nat) (S : tg_S), A 5 0 < n + e → e ≤ A 5 0 → (∃ m0, z_rc S 23 (z_C A) m0) → S 49 0 = -nI 1 → S 49 1 = -nI 1 → z_cf S0 S → q_tr (L_X7_chooseSpare_79 n S (nI (A 5 0)) (nI e)) (z_PC S0 (z_RP (z_e3 A e (A 5 0 - e)))) := by
  intro n
  have h8 := hA.2.1.1
  induction n with
  | zero => intro e S h; omega
  | succ n ih =>
    intro e S h he hr h0 h1 hcf
    show q_tr (f_X7_chooseSpare_79 (L_X7_chooseSpare_79 n) S (nI (A 5 0)) (nI e)) _
    unfold f_X7_chooseSpare_79
    simp (disch := omega) only [q_lit, q_le, q_nm, q_add]
    refine q_if (fun hh => ?_) (fun hh => ?_)
    · have : e = A 5 0 := by omega
      rw [this, Nat.sub_self]
      exact q_ret ⟨rfl, h0, h1, hcf⟩
    · have en : A 5 0 - e = (A 5 0 - (e + 1)) + 1 := by omega
      rw [en, z_e3]
      refine q_spC88 S0 A hA e (by omega) (L_X7_chooseSpare_79 n) _ (fun h99 S2 g1 g2 g3 g4 => ?_) (fun f r hf hf2 hp => ?_) tg_F (e + 1) S (by unfold tg_F; omega) (by omega) rfl hr h0 h1 hcf
      · rw [if_pos h99]
        exact ih (e + 1) S2 (by omega) (by omega) g1 g2 g3 g4
      · rw [if_neg (by omega), hf]
        unfold z_RP
        rw [if_neg (by show e ≠ 99; omega)]
        exact hp
theorem q_spC45 (S0 : tg_S) (A : Nat → Nat → Nat) (hA : z_aok A) : ∀ (n e : Nat) (S : tg_S), A 5 0 < n + e → e ≤ A 5 0 → (∃ m0, z_rc S 23 (z_C A) m0) → S 49 0 = -nI 1 → S 49 1 = -nI 1 → z_cf S0 S → q_tr (L_X7_chooseSpare_45 n S (nI (A 5 0)) (nI e)) (z_PC S0 (z_R1 A (z_e1 A e (A 5 0 - e)))) := by
  intro n
  have h8 := hA.2.1.1
  induction n with
  | zero => intro e S h; omega
  | succ n ih =>
    intro e S h he hr h0 h1 hcf
    show q_tr (f_X7_chooseSpare_45 (L_X7_chooseSpare_45 n) S (nI (A 5 0)) (nI e)) _
    unfold f_X7_chooseSpare_45
    simp (disch := omega) only [q_lit, q_le, q_nm, q_add]
    refine q_if (fun hh => ?_) (fun hh => ?_)
    · have : e = A 5 0 := by omega
      rw [this, Nat.sub_self]
      have := q_spC79 S0 A hA tg_F 0 S (by unfold tg_F; omega) (Nat.zero_le _) hr h0 h1 hcf
      rw [Nat.sub_zero] at this
      exact this
    · obtain ⟨m0, hr⟩ := hr
      have hok := z_sim_ok (mi := z_b1 e) (z_C_ok A hA.1 hA.2.1) 24
      refine q_bd (q_winnerWithout S A hA m0 (z_b1 e) hr) (fun S2 r2 h2 => ?_)
      obtain ⟨e2, r2', f2⟩ := h2
      dsimp only at e2 r2' f2
      have en : A 5 0 - e = (A 5 0 - (e + 1)) + 1 := by omega
      rw [en, z_e1]
      have cf2 : z_cf S0 S2 := z_cf_trans hcf (fun k j hk => f2 k j (by omega) (by omega))
      rw [e2]
      refine q_if (fun hw => ?_) (fun hw => ?_)
      · rw [z_wi_1 hok.2.2.1] at hw
        rw [if_pos hw]
        exact ih (e + 1) S2 (by omega) (by omega) ⟨_, r2'⟩ (by rw [f2 _ _ (by omega) (by omega)]; exact h0) (by rw [f2 _ _ (by omega) (by omega)]; exact h1) cf2
      · rw [z_wi_1 hok.2.2.1] at hw
        rw [if_neg hw, z_R1, if_neg (by omega)]
        simp only [q_pf]
        refine q_ret ⟨rfl, ?_, ?_, ?_⟩
        · simp [q_stA, z_99, show e ≠ 99 by omega]
        · show q_st S2 49 0 (nI e) 49 1 = z_99 99
          rw [q_stA, if_neg (by omega), f2 _ _ (by omega) (by omega), h1]
          rfl
        · exact z_cf_trans cf2 (fun k j hk => by dsimp only; rw [q_stA, if_neg (by omega)])
theorem q_chooseSpare (S : tg_S) (A : Nat → Nat → Nat) (hA : z_aok A) (hc : z_ci S A) : q_tr (f_X7_chooseSpare S) (z_PC S (z_R A)) := by
  have h8 := hA.2.1.1
  have hok := z_sim_ok (mi := nI 0) (z_C_ok A hA.1 hA.2.1) 24
  unfold f_X7_chooseSpare
  simp only [q_lit]
  refine q_bv (q_startFor S 0 nI nI) (fun S1 h1 => ?_)
  obtain ⟨⟨-, c⟩, f1⟩ := h1
  obtain ⟨-, g0, g1, g2⟩ : ((0, 0, 0) : Nat × Nat × Nat).1 = 0 ∧ S1 49 0 = -nI 1 ∧ S1 49 1 = -nI 1 ∧ S1 49 2 = -nI 1 := by
    rcases c with h | h
    · exact h
    · exact absurd h.1 (by decide)
  have cf1 : z_cf S S1 := fun k j hk => f1 k j (by omega)
  rw [f1 35 5 (by omega), hc.2.2.2.1.1.1]
  refine q_if (fun hw => ?_) (fun hw => ?_)
  · rw [z_wi_1 hok.2.2.1] at hw
    have hc1 := z_ci_cf hc cf1
    refine q_bv (q_becomeLike S1 A hA.2.1 hc1.2.2.1 hc1.2.1) (fun S2 h2 => ?_)
    have e31 : S2 31 3 = nI (A 5 0) := h2.1.2.2.2.1.1
    simp only [q_nm]
    rw [e31]
    have := q_spC45 S A hA tg_F 0 S2 (by unfold tg_F; omega) (Nat.zero_le _) ⟨_, h2.1⟩ (by rw [h2.2.2 _ _ (by omega)]; exact g0) (by rw [h2.2.2 _ _ (by omega)]; exact g1) (z_cf_trans cf1 (fun k j hk => h2.2.2 k j (by omega)))
    rw [Nat.sub_zero] at this
    rw [z_R, if_pos hw]
    exact this
  · rw [z_wi_1 hok.2.2.1] at hw
    rw [z_R, if_neg hw]
    exact q_ret ⟨rfl, g0, g1, cf1⟩
-- the reference's loops
theorem z_spf {A : Nat → Nat → Nat} {T T2 : tg_S} (h : z_rdk A T) (f : ∀ k j, 3 ≤ k → k ≤ 8 → T2 k j = T k j) : z_rdk A T2 := by
  obtain ⟨d1, d2, d3⟩ := h
  exact ⟨fun m hm => by rw [f _ _ (by omega) (by omega), f _ _ (by omega) (by omega)]; exact d1 m hm, fun k hk h0 => by rw [f _ _ (by omega) (by omega), f _ _ (by omega) (by omega), f _ _ (by omega) (by omega)]; exact d2 k hk h0, fun j hj => by rw [f _ _ (by omega) (by omega)]; exact d3 j hj⟩
theorem q_spR63 (T0 : tg_S) (A : Nat → Nat → Nat) (hA : z_aok A) (e : Nat) (he : e < A 5 0) (rec : tg_S → Int32 → Option (tg_S × Int32)) (Q : tg_S × Int32 → Prop) (hrec : z_e2 A e (e + 1) (A 5 0 - (e + 1)) = 99 → ∀ T, (∃ m0, z_rr T (z_C A) m0) → z_ro A T0 T → q_tr (rec T (nI (e + 1))) Q) (hfin : ∀ f r, z_e2 A e (e + 1) (A 5 0 - (e + 1)) = f → f ≠ 99 → z_PR A T0 (2, e, f) r → Q r) : ∀ (n f : Nat) (T : tg_S), A 5 0 < n + f → f ≤ A 5 0 → z_e2 A e (e + 1) (A 5 0 - (e + 1)) = z_e2 A e f (A 5 0 - f) → (∃ m0, z_rr T (z_C A) m0) → z_ro A T0 T → q_tr (L_X8_spareBy_63 rec n T (nI e) (nI f)) Q := by
  intro n
  have h8 := hA.2.1.1
  induction n with
  | zero => intro f T h; omega
  | succ n ih =>
    intro f T h hf heq hr hro
    obtain ⟨m0, hr⟩ := hr
    have e9 : T 0 9 = nI (A 5 0) := hr.2.2.2.2.1.1
    show q_tr (f_X8_spareBy_63 rec (L_X8_spareBy_63 rec n) T (nI e) (nI f)) Q
    unfold f_X8_spareBy_63
    rw [e9]
    simp (disch := omega) only [q_lit, q_le, q_nm, q_add, q_wr]
    refine q_if (fun hh => ?_) (fun hh => ?_)
    · have : f = A 5 0 := by omega
      rw [this, Nat.sub_self] at heq
      exact hrec (heq.trans rfl) T ⟨m0, hr⟩ hro
    · have hr1 : z_rr (q_st (q_st T 24 0 (nI e)) 24 1 (nI f)) (z_C A) m0 := z_rr_congr (fun k j _ hk => by rw [q_stN _ _ _ (by omega), q_stN _ _ _ (by omega)]) (fun j hj => by rw [q_stN _ _ _ (by omega), q_stN _ _ _ (by omega)]) hr
      refine q_bd (q_isSpared _ A hA m0 (z_b1 e ||| z_b1 f) hr1) (fun T2 r2 h2 => ?_)
      obtain ⟨e2, r2', f2⟩ := h2
      dsimp only at e2 r2' f2
      have en : A 5 0 - f = (A 5 0 - (f + 1)) + 1 := by omega
      rw [en, z_e2] at heq
      have ro2 : z_ro A T0 T2 := ⟨z_rf_trans hro.1 ⟨fun k j hk => by rw [f2 k j (by omega) (by omega), q_stN _ _ _ (by omega), q_stN _ _ _ (by omega)], fun j hj => by rw [f2 0 j (by omega) (by omega), q_stN _ _ _ (by omega), q_stN _ _ _ (by omega)]⟩, z_spf hro.2 (fun k j h3 hk8 => by rw [f2 k j (by omega) (by omega), q_stN _ _ _ (by omega), q_stN _ _ _ (by omega)])⟩
      by_cases hw : z_P A (z_b1 e ||| z_b1 f)
      · rw [if_pos hw] at e2 heq
        rw [e2, q_ifT rfl]
        exact ih (f + 1) T2 (by omega) (by omega) heq ⟨_, r2'⟩ ro2
      · rw [if_neg hw] at e2 heq
        rw [e2, q_ifF (by decide)]
        refine q_ret (hfin f _ heq (by omega) ⟨rfl, fun _ => ?_, fun _ => ?_, ro2⟩)
        · dsimp only
          rw [f2 _ _ (by omega) (by omega)]
          simp [q_stA]
        · dsimp only
          rw [f2 _ _ (by omega) (by omega)]
          simp [q_stA]
theorem q_spR51 (T0 : tg_S) (A : Nat → Nat → Nat) (hA : z_aok A) : ∀ (n e : Nat) (T : tg_S), A 5 0 < n + e → e ≤ A 5 0 → (∃ m0, z_rr T (z_C A) m0) → z_ro A T0 T → q_tr (L_X8_spareBy_51 n T (nI e)) (z_PR A T0 (z_RP (z_e3 A e (A 5 0 - e)))) := by
  intro n
  have h8 := hA.2.1.1
  induction n with
  | zero => intro e T h; omega
  | succ n ih =>
    intro e T h he hr hro
    have e9 : T 0 9 = nI (A 5 0) := by obtain ⟨m0, hr⟩ := hr; exact hr.2.2.2.2.1.1
    show q_tr (f_X8_spareBy_51 (L_X8_spareBy_51 n) T (nI e)) _
    unfold f_X8_spareBy_51
    rw [e9]
    simp (disch := omega) only [q_lit, q_le, q_nm, q_add]
    refine q_if (fun hh => ?_) (fun hh => ?_)
    · have : e = A 5 0 := by omega
      rw [this, Nat.sub_self, show z_RP (z_e3 A (A 5 0) 0) = (3, 99, 99) from rfl]
      exact q_ret ⟨rfl, fun h => by rcases h with h | h <;> exact absurd h (by decide), fun h => absurd h (by decide), hro⟩
    · have en : A 5 0 - e = (A 5 0 - (e + 1)) + 1 := by omega
      rw [en, z_e3]
      refine q_spR63 T0 A hA e (by omega) (L_X8_spareBy_51 n) _ (fun h99 T2 g1 g2 => ?_) (fun f r hf hf2 hp => ?_) tg_F (e + 1) T (by unfold tg_F; omega) (by omega) rfl hr hro
      · rw [if_pos h99]
        exact ih (e + 1) T2 (by omega) (by omega) g1 g2
      · rw [if_neg (by omega), hf]
        unfold z_RP
        rw [if_neg (by show e ≠ 99; omega)]
        exact hp
theorem q_spR16 (T0 : tg_S) (A : Nat → Nat → Nat) (hA : z_aok A) : ∀ (n e : Nat) (T : tg_S), A 5 0 < n + e → e ≤ A 5 0 → (∃ m0, z_rr T (z_C A) m0) → z_ro A T0 T → q_tr (L_X8_spareBy_16 n T (nI e)) (z_PR A T0 (z_R1 A (z_e1 A e (A 5 0 - e)))) := by
  intro n
  have h8 := hA.2.1.1
  induction n with
  | zero => intro e T h; omega
  | succ n ih =>
    intro e T h he hr hro
    have e9 : T 0 9 = nI (A 5 0) := by obtain ⟨m0, hr⟩ := hr; exact hr.2.2.2.2.1.1
    show q_tr (f_X8_spareBy_16 (L_X8_spareBy_16 n) T (nI e)) _
    unfold f_X8_spareBy_16
    rw [e9]
    simp (disch := omega) only [q_lit, q_le, q_nm, q_add, q_wr]
    refine q_if (fun hh => ?_) (fun hh => ?_)
    · have : e = A 5 0 := by omega
      rw [this, Nat.sub_self]
      have := q_spR51 T0 A hA tg_F 0 T (by unfold tg_F; omega) (Nat.zero_le _) hr hro
      rw [Nat.sub_zero] at this
      exact this
    · obtain ⟨m0, hr⟩ := hr
      have hr1 : z_rr (q_st T 24 0 (nI e)) (z_C A) m0 := z_rr_congr (fun k j _ hk => by rw [q_stN _ _ _ (by omega)]) (fun j hj => by rw [q_stN _ _ _ (by omega)]) hr
      refine q_bd (q_isSpared _ A hA m0 (z_b1 e) hr1) (fun T2 r2 h2 => ?_)
      obtain ⟨e2, r2', f2⟩ := h2
      dsimp only at e2 r2' f2
      have en : A 5 0 - e = (A 5 0 - (e + 1)) + 1 := by omega
      rw [en, z_e1]
      have ro2 : z_ro A T0 T2 := ⟨z_rf_trans hro.1 ⟨fun k j hk => by rw [f2 k j (by omega) (by omega), q_stN _ _ _ (by omega)], fun j hj => by rw [f2 0 j (by omega) (by omega), q_stN _ _ _ (by omega)]⟩, z_spf hro.2 (fun k j h3 hk8 => by rw [f2 k j (by omega) (by omega), q_stN _ _ _ (by omega)])⟩
      by_cases hw : z_P A (z_b1 e)
      · rw [if_pos hw] at e2 ⊢
        rw [e2, q_ifT rfl]
        exact ih (e + 1) T2 (by omega) (by omega) ⟨_, r2'⟩ ro2
      · rw [if_neg hw] at e2 ⊢
        rw [e2, q_ifF (by decide), z_R1, if_neg (by omega)]
        refine q_ret ⟨rfl, fun _ => ?_, fun h => absurd (show (1 : Nat) = 2 from h) (by decide), ro2⟩
        dsimp only
        rw [f2 _ _ (by omega) (by omega)]
        simp [q_stA]
theorem q_spareBy (T : tg_S) (A : Nat → Nat → Nat) (hA : z_aok A) (h : z_ri T A) : q_tr (f_X8_spareBy T) (z_PR A T (z_R A)) := by
  have h8 := hA.2.1.1
  unfold f_X8_spareBy
  refine q_bv (q_asToldA T A hA h) (fun T1 h1 => ?_)
  have rr := z_AT_rr A T T1 hA.2.1 h.2.1 hA.1 h1.2
  simp only [q_lit]
  refine q_bd (q_isSpared T1 A hA _ (nI 0) rr) (fun T2 r2 h2 => ?_)
  obtain ⟨e2, r2', f2⟩ := h2
  dsimp only at e2 r2' f2
  have ro2 : z_ro A T T2 := ⟨z_rf_trans h1.1.1 ⟨fun k j hk => f2 k j (by omega) (by omega), fun j hj => f2 0 j (by omega) (by omega)⟩, z_spf h1.1.2 (fun k j h3 hk8 => f2 k j (by omega) (by omega))⟩
  by_cases hw : z_P A (nI 0)
  · rw [if_pos hw] at e2
    rw [e2, q_ifT rfl, z_R, if_pos hw]
    have := q_spR16 T A hA tg_F 0 T2 (by unfold tg_F; omega) (Nat.zero_le _) ⟨_, r2'⟩ ro2
    rw [Nat.sub_zero] at this
    exact this
  · rw [if_neg hw] at e2
    rw [e2, q_ifF (by decide), z_R, if_neg hw]
    exact q_ret ⟨rfl, fun h => by rcases h with h | h <;> exact absurd h (by decide), fun h => absurd h (by decide), ro2⟩
/-- what the plan is: how many, and which -/
def z_Rok (s : Nat × Nat × Nat) : Prop := (s.1 = 0 ∧ s.2.1 = 99 ∧ s.2.2 = 99) ∨ (s.1 = 1 ∧ s.2.1 < 99 ∧ s.2.2 = 99) ∨ (s.1 = 2 ∧ s.2.1 < 99 ∧ s.2.2 < 99) ∨ (s.1 = 3 ∧ s.2.1 = 99 ∧ s.2.2 = 99)
theorem z_e1_le (A : Nat → Nat → Nat) : ∀ n e, e + n ≤ 8 → z_e1 A e n = 99 ∨ z_e1 A e n < 8 := by
  intro n
  induction n with
  | zero => intro e h; exact Or.inl rfl
  | succ n ih =>
    intro e h
    rw [z_e1]
    split
    · exact ih (e + 1) (by omega)
    · right; omega
theorem z_e2_le (A : Nat → Nat → Nat) (e : Nat) : ∀ n f, f + n ≤ 8 → z_e2 A e f n = 99 ∨ z_e2 A e f n < 8 := by
  intro n
  induction n with
  | zero => intro f h; exact Or.inl rfl
  | succ n ih =>
    intro f h
    rw [z_e2]
    split
    · exact ih (f + 1) (by omega)
    · right; omega
theorem z_e3_le (A : Nat → Nat → Nat) (h8 : A 5 0 ≤ 8) : ∀ n e, e + n = A 5 0 → (z_e3 A e n).1 = 99 ∧ (z_e3 A e n).2 = 99 ∨ (z_e3 A e n).1 < 8 ∧ (z_e3 A e n).2 < 8 := by
  intro n
  induction n with
  | zero => intro e h; exact Or.inl ⟨rfl, rfl⟩
  | succ n ih =>
    intro e h
    rw [z_e3]
    split
    · exact ih (e + 1) (by omega)
    · rename_i hne
      right
      refine ⟨by show e < 8; omega, ?_⟩
      rcases z_e2_le A e (A 5 0 - (e + 1)) (e + 1) (by omega) with h | h
      · exact absurd h hne
      · exact h
theorem z_R_ok (A : Nat → Nat → Nat) (hA : z_aok A) : z_Rok (z_R A) := by
  have h8 := hA.2.1.1
  unfold z_R
  split
  · unfold z_R1
    split
    · unfold z_RP
      rcases z_e3_le A h8 (A 5 0) 0 (by omega) with ⟨h1, h2⟩ | ⟨h1, h2⟩
      · rw [if_pos h1]; exact Or.inr (Or.inr (Or.inr ⟨rfl, rfl, rfl⟩))
      · rw [if_neg (by omega)]; exact Or.inr (Or.inr (Or.inl ⟨rfl, by show (z_e3 A 0 (A 5 0)).1 < 99; omega, by show (z_e3 A 0 (A 5 0)).2 < 99; omega⟩))
    · rename_i hne
      rcases z_e1_le A (A 5 0) 0 (by omega) with h | h
      · exact absurd h hne
      · exact Or.inr (Or.inl ⟨rfl, by show z_e1 A 0 (A 5 0) < 99; omega, rfl⟩)
  · exact Or.inl ⟨rfl, rfl, rfl⟩
/-- spare(i): i = 0 how many, 1 the first, 2 the other -/
def z_v3 (s : Nat × Nat × Nat) (i : Nat) : Int32 := if i = 0 then z_n3 s.1 else if i = 1 then z_99 s.2.1 else z_99 s.2.2
theorem q_ofRow (T0 T : tg_S) (A : Nat → Nat → Nat) (s : Nat × Nat × Nat) (hok : z_Rok s) (h : z_PR A T0 s (T, z_n3 s.1)) : f_X8_ofRow T (z_n3 s.1) (-nI 1) = some (T, z_v3 s 0) ∧ f_X8_ofRow T (z_n3 s.1) (nI 0) = some (T, z_v3 s 1) ∧ f_X8_ofRow T (z_n3 s.1) (nI 1) = some (T, z_v3 s 2) := by
  obtain ⟨-, p1, p2, -⟩ := h
  dsimp only at p1 p2
  obtain ⟨n, a, b⟩ := s
  dsimp only at p1 p2 hok ⊢
  have m1 : ¬ nI 0 = -nI 1 := by decide
  have m2 : ¬ nI 1 = -nI 1 := by decide
  refine ⟨?_, ?_, ?_⟩
  · unfold f_X8_ofRow
    simp only [q_lit]
    rw [q_ifT trivial]
    rfl
  · unfold f_X8_ofRow
    simp only [q_lit]
    rw [q_ifF m1]
    rcases hok with ⟨h1, h2, h3⟩ | ⟨h1, h2, h3⟩ | ⟨h1, h2, h3⟩ | ⟨h1, h2, h3⟩
    · dsimp only at h1 h2 h3; subst h1; subst h2; rw [q_ifT (by decide)]; rfl
    · dsimp only at h1 h2 h3; subst h1; rw [q_ifF (by decide)]
      simp (disch := omega) only [q_rd]
      rw [p1 (Or.inl rfl)]
      simp [z_v3, z_99, show a ≠ 99 by omega]
    · dsimp only at h1 h2 h3; subst h1; rw [q_ifF (by decide)]
      simp (disch := omega) only [q_rd]
      rw [p1 (Or.inr rfl)]
      simp [z_v3, z_99, show a ≠ 99 by omega]
    · dsimp only at h1 h2 h3; subst h1; subst h2; rw [q_ifT (by decide)]; rfl
  · unfold f_X8_ofRow
    simp only [q_lit]
    rw [q_ifF m2]
    rcases hok with ⟨h1, h2, h3⟩ | ⟨h1, h2, h3⟩ | ⟨h1, h2, h3⟩ | ⟨h1, h2, h3⟩
    · dsimp only at h1 h2 h3; subst h1; subst h3; rw [q_ifT (by decide)]; rfl
    · dsimp only at h1 h2 h3; subst h1; subst h3; rw [q_ifT (by decide)]; rfl
    · dsimp only at h1 h2 h3; subst h1; rw [q_ifF (by decide)]
      simp (disch := omega) only [q_rd]
      rw [p2 rfl]
      simp [z_v3, z_99, show b ≠ 99 by omega]
    · dsimp only at h1 h2 h3; subst h1; subst h3; rw [q_ifT (by decide)]; rfl
theorem q_spareC (S : tg_S) (A : Nat → Nat → Nat) (hA : z_aok A) (hc : z_ci S A) : q_tr (f_X7_spare S (-nI 1)) (fun r => r.2 = z_v3 (z_R A) 0 ∧ z_cf S r.1) ∧ q_tr (f_X7_spare S (nI 0)) (fun r => r.2 = z_v3 (z_R A) 1 ∧ z_cf S r.1) ∧ q_tr (f_X7_spare S (nI 1)) (fun r => r.2 = z_v3 (z_R A) 2 ∧ z_cf S r.1) := by
  have hq := q_chooseSpare S A hA hc
  generalize z_R A = s at *
  refine ⟨?_, ?_, ?_⟩
  · unfold f_X7_spare
    simp only [q_lit]
    rw [q_ifF (by decide), q_ifT (by decide)]
    refine q_bd hq (fun S2 r h => ?_)
    rw [q_ifT trivial]
    exact q_ret ⟨h.1, h.2.2.2⟩
  · unfold f_X7_spare
    simp only [q_lit]
    rw [q_ifF (by decide), q_ifT (by decide)]
    refine q_bd hq (fun S2 r h => ?_)
    rw [q_ifF (by decide), q_ifT trivial]
    exact q_ret ⟨h.2.1, h.2.2.2⟩
  · unfold f_X7_spare
    simp only [q_lit]
    rw [q_ifF (by decide), q_ifT (by decide)]
    refine q_bd hq (fun S2 r h => ?_)
    rw [q_ifF (by decide), q_ifF (by decide)]
    exact q_ret ⟨h.2.2.1, h.2.2.2⟩
theorem z_spin (a : Int32) : a = -nI 1 ∨ a = nI 0 ∨ a = nI 1 ∨ (a < -nI 1 ∨ ¬ a ≤ nI 1) := by
  by_cases h1 : a < -nI 1
  · exact Or.inr (Or.inr (Or.inr (Or.inl h1)))
  · by_cases h2 : a ≤ nI 1
    · have e1 : (-nI 1 : Int32).toInt = -1 := by decide
      have e2 : (nI 1 : Int32).toInt = 1 := by decide
      have e3 : (nI 0 : Int32).toInt = 0 := by decide
      rw [Int32.lt_iff_toInt_lt] at h1
      rw [Int32.le_iff_toInt_le] at h2
      rcases (show a.toInt = -1 ∨ a.toInt = 0 ∨ a.toInt = 1 by omega) with h | h | h
      · exact Or.inl (Int32.toInt_inj.mp (h.trans e1.symm))
      · exact Or.inr (Or.inl (Int32.toInt_inj.mp (h.trans e3.symm)))
      · exact Or.inr (Or.inr (Or.inl (Int32.toInt_inj.mp (h.trans e2.symm))))
    · exact Or.inr (Or.inr (Or.inr (Or.inr h2)))
theorem e_spare (S T : tg_S) (A : Nat → Nat → Nat) (hI : z_I S T A) (a : Int32) : z_eq (f_X7_spare S a) (f_X8_spare T a) := by
  obtain ⟨c0, c1, c2⟩ := q_spareC S A hI.1 hI.2.1
  have hok := z_R_ok A hI.1
  have hq := q_spareBy T A hI.1 hI.2.2.1
  generalize z_R A = s at *
  have hR : ∀ (x : Int32) (i : Nat), f_X8_in T x (-nI 1) (nI 1) = some (T, nI 1) → (∀ T2, z_PR A T s (T2, z_n3 s.1) → f_X8_ofRow T2 (z_n3 s.1) x = some (T2, z_v3 s i)) → q_tr (f_X8_spare T x) (fun r => r.2 = z_v3 s i ∧ z_rf T r.1) := by
    intro x i h1 h2
    unfold f_X8_spare
    simp only [q_lit]
    rw [h1, q_bdS, q_ifF (by decide)]
    refine q_bd hq (fun T2 r h => ?_)
    have hr : r = z_n3 s.1 := h.1
    subst hr
    rw [h2 T2 h, q_bdS]
    exact q_ret ⟨rfl, h.2.2.2.1⟩
  rcases z_spin a with rfl | rfl | rfl | ha
  · exact z_eq_q _ hI c0 (hR _ 0 (by rw [q_in]; rfl) (fun T2 h => (q_ofRow T T2 A s hok h).1))
  · exact z_eq_q _ hI c1 (hR _ 1 (by rw [q_in]; rfl) (fun T2 h => (q_ofRow T T2 A s hok h).2.1))
  · exact z_eq_q _ hI c2 (hR _ 2 (by rw [q_in]; rfl) (fun T2 h => (q_ofRow T T2 A s hok h).2.2))
  · unfold f_X7_spare f_X8_spare
    simp only [q_lit]
    rw [q_in]
    by_cases h1 : a < -nI 1
    · rw [q_ifT h1, if_pos h1, q_bdS, q_ifT rfl]
      exact z_eq_ret _ hI
    · have h2 : ¬ a ≤ nI 1 := ha.resolve_left h1
      rw [q_ifF h1, q_ifF h2, if_neg h1, if_pos (Int32.not_le.mp h2), q_bdS, q_ifT rfl]
      exact z_eq_ret _ hI
