def z_wi (w : Nat) : Int32 := if w = 2 then -nI 1 else nI w
def z_wb (w b : Nat) : Int32 := if w = 2 then -nI 1 else nI b
theorem q_moveRope (c : Nat) (S : tg_S) (p up dn b : Nat) (hp : 2 < p) (hp2 : p < 22) (hu : up < 200) (hd : dn < 200) (h8 : S c 8 = nI p) (h5 : S c 5 = -nI 1) (h6 : S c 6 = -nI 1) : q_tr (f_X2_moveRope c S (nI up - nI dn) (nI b)) (fun S2 => ∀ k j, S2 k j = if k = c ∧ j = 8 then nI (z_pl p up dn) else if k = c ∧ j = 5 then z_wi (z_won (z_pl p up dn)) else if k = c ∧ j = 6 then z_wb (z_won (z_pl p up dn)) b else S k j) := by
  have hl := z_pl_le (up := up) (dn := dn) hp hp2
  unfold f_X2_moveRope
  rw [h8, z_place hu hd hp]
  simp only [q_pf]
  have e8 : q_st S c 8 (nI (z_pl p up dn)) c 8 = nI (z_pl p up dn) := by rw [q_stA]; simp
  rw [e8]
  simp (disch := omega) only [q_lit, q_lt]
  refine q_if (fun a => ?_) (fun a => ?_)
  · refine q_if (fun a2 => ?_) (fun a2 => ?_)
    · refine q_ret (fun k j => ?_)
      simp only [q_stA, z_wi, z_wb, z_won]
      grind
    · refine q_ret (fun k j => ?_)
      simp only [q_stA, z_wi, z_wb, z_won]
      grind
  · refine q_ret (fun k j => ?_)
    simp only [q_stA, z_wi, z_wb, z_won]
    grind
/-- the course behind B beats -/
def z_cs (S : tg_S) (c : Nat) (C : Nat → Nat → Nat) (mi : Int32) (B : Nat) : Prop :=
  (S c 5 = z_wi (z_sim C mi B 1) ∧ S c 6 = z_wb (z_sim C mi B 1) (z_sim C mi B 2) ∧ S c 8 = nI (z_sim C mi B 0) ∧ S c 9 = nI (z_m C mi B)) ∧
  (∀ k, k < 16 → C 0 k = 1 → S (c + 6) k = nI (z_sim C mi B (3 + k))) ∧
  (∀ b, b < B → S (c + 1) b = nI (z_sim C mi (b + 1) 0) ∧ S (c + 2) b = nI (z_m C mi (b + 1)) ∧ S (c + 3) b = nI (z_sum C mi b 0) ∧ S (c + 3) (24 + b) = nI (z_sum C mi b 8)) ∧
  ∀ b k, b < B → k < 16 → C 0 k = 1 → S (c + 4) (k * 24 + b) = nI (z_pk C mi b k) ∧ S (c + 5) (k * 24 + b) = nI (z_sim C mi (b + 1) (3 + k))
theorem q_play_126 (c t : Nat) (rec : tg_S → Int32 → Option (tg_S × Int32)) (S : tg_S) (b up dn : Nat) (hb : b < 24) : f_X2_play_126 c t rec S (nI b) (nI up) (nI dn) = rec (q_st (q_st (q_st (q_st S (c + 1) b (S c 8)) (c + 2) b (S c 9)) (c + 3) b (nI up)) (c + 3) (24 + b) (nI dn)) (nI (b + 1)) := by
  unfold f_X2_play_126
  simp (disch := omega) only [q_lit, q_wr, q_add, q_nm, q_stN]
theorem q_play_L (c t : Nat) (ht : t + 11 < c) (S0 : tg_S) (C : Nat → Nat → Nat) (mi : Int32) (hC : z_ok C) (hr : z_rc S0 t C mi) : ∀ (n b : Nat) (S : tg_S), 24 < n + b → b ≤ 24 → (∀ k j, (k < c ∨ c + 6 < k) → S k j = S0 k j) → z_cs S c C mi b → q_tr (L_X2_play_41 c t n S (nI b)) (fun r => r.2 = nI (z_sim C mi 24 0) ∧ z_cs r.1 c C mi 24 ∧ ∀ k j, (k < c ∨ c + 6 < k) → r.1 k j = S0 k j) := by
  intro n
  induction n with
  | zero => intro i S h; omega
  | succ n ih =>
    intro b S h hb hI hcs
    show q_tr (f_X2_play_41 c t (L_X2_play_41 c t n) S (nI b)) _
    unfold f_X2_play_41
    simp (disch := omega) only [q_lit, q_le]
    refine q_if (fun h => ?_) (fun h => ?_)
    · have : b = 24 := by omega
      subst this
      exact q_ret ⟨hcs.1.2.2.1, hcs, hI⟩
    · have hb2 : b < 24 := by omega
      obtain ⟨⟨i5, i6, i8, i9⟩, i3, i4, i45⟩ := id hcs
      obtain ⟨p1, p2, p3, p4, p5⟩ := z_sim_ok (mi := mi) hC b
      have hm := z_m_le (mi := mi) hC b
      have hm2 := z_m_le (mi := mi) hC (b + 1)
      have hrS : z_rc S t C mi := z_rc_congr ht (fun k j h => hI k j (Or.inl h)) hr
      refine q_bv (q_meet c (t + 8) (by omega) S C mi hC hrS.2.2.2.1 b (z_m C mi b) hb2 hm i9) (fun S1 hS1 => ?_)
      have f1 : ∀ k j, k ≠ c → S1 k j = S k j := fun k j h => by rw [hS1]; simp [h]
      have g5 : S1 c 5 = z_wi (z_sim C mi b 1) := by rw [hS1]; simp [i5]
      have g6 : S1 c 6 = z_wb (z_sim C mi b 1) (z_sim C mi b 2) := by rw [hS1]; simp [i6]
      have g8 : S1 c 8 = nI (z_sim C mi b 0) := by rw [hS1]; simp [i8]
      have g9 : S1 c 9 = nI (z_m C mi (b + 1)) := by rw [hS1]; simp [z_m]
      have g10 : S1 c 10 = z_sx C mi b (C 10 0) := by rw [hS1]; simp
      have g11 : S1 c 11 = nI (z_dg C mi b (C 10 0)) := by rw [hS1]; simp
      -- the way on
      have fin : ∀ (S4 : tg_S) (up dn : Nat), (∀ k j, (k < c ∨ c + 6 < k) → S4 k j = S0 k j) → up = z_sum C mi b 0 → dn = z_sum C mi b 8 → S4 c 5 = z_wi (z_sim C mi (b + 1) 1) → S4 c 6 = z_wb (z_sim C mi (b + 1) 1) (z_sim C mi (b + 1) 2) → S4 c 8 = nI (z_sim C mi (b + 1) 0) → S4 c 9 = nI (z_m C mi (b + 1)) →
          (∀ k, k < 16 → C 0 k = 1 → S4 (c + 6) k = nI (z_sim C mi (b + 1) (3 + k)) ∧ S4 (c + 4) (k * 24 + b) = nI (z_pk C mi b k) ∧ S4 (c + 5) (k * 24 + b) = nI (z_sim C mi (b + 1) (3 + k))) → (∀ k j, k = c + 1 ∨ k = c + 2 ∨ k = c + 3 → S4 k j = S k j) → (∀ k j, k = c + 4 ∨ k = c + 5 → j % 24 ≠ b → S4 k j = S k j) →
          q_tr (f_X2_play_126 c t (L_X2_play_41 c t n) S4 (nI b) (nI up) (nI dn)) (fun r => r.2 = nI (z_sim C mi 24 0) ∧ z_cs r.1 c C mi 24 ∧ ∀ k j, (k < c ∨ c + 6 < k) → r.1 k j = S0 k j) := by
        intro S4 up dn e0 eu ed e5 e6 e8 e9 ek e13 e45
        rw [q_play_126 c t _ S4 b up dn hb2]
        refine ih (b + 1) _ (by omega) (by omega) (fun k j hk => ?_) ⟨⟨?_, ?_, ?_, ?_⟩, fun k hk h0 => ?_, fun b2 h2 => ?_, fun b2 k h2 hk h0 => ?_⟩
        · simp only [q_stA]
          rw [e0 k j hk]
          grind
        · simp only [q_stA]; rw [e5]; grind
        · simp only [q_stA]; rw [e6]; grind
        · simp only [q_stA]; rw [e8]; grind
        · simp only [q_stA]; rw [e9]; grind
        · simp only [q_stA]; rw [(ek k hk h0).1]; grind
        · simp only [q_stA]
          rw [e13 _ _ (Or.inl rfl), e13 _ _ (Or.inr (Or.inl rfl)), e13 _ _ (Or.inr (Or.inr rfl)), e13 _ _ (Or.inr (Or.inr rfl)), e8, e9]
          have := i4 b2
          grind
        · simp only [q_stA]
          by_cases hb3 : b2 = b
          · subst hb3
            rw [(ek k hk h0).2.1, (ek k hk h0).2.2]
            grind
          · rw [e45 _ _ (Or.inl rfl) (by omega), e45 _ _ (Or.inr rfl) (by omega)]
            have := i45 b2 k (by omega) hk h0
            grind
      clear ih
      unfold f_X2_play_69 f_X2_play_85 f_X2_play_102
      by_cases hw : z_sim C mi b 1 = 2
      · obtain ⟨hp1, hp2⟩ := p2 hw
        rw [g5, z_wi, if_pos hw, if_pos rfl]
        simp (disch := omega) only [q_lit, q_eq, q_ifF]
        have hs0 : ∀ k, k < 16 → C 0 k = 1 → S1 (c + 6) k = nI (z_sim C mi b (3 + k)) ∧ z_sim C mi b (3 + k) ≤ 9 := fun k hk h0 => ⟨by rw [f1 _ _ (by omega)]; exact i3 k hk h0, p5 k hk h0⟩
        have hr1 : z_rc S1 t C mi := z_rc_congr ht (fun k j h => by rw [f1 _ _ (by omega)]) hrS
        refine q_bd (q_pull c t ht S1 C mi hC hr1 b 0 hb2 (by omega) (z_sim C mi b) (fun k _ h2 h0 => hs0 k (by omega) h0) g9 g10 g11) (fun S2 r hq => ?_)
        obtain ⟨hq1, hq2⟩ := hq
        dsimp only at hq1 hq2
        have f2 : ∀ k j, k < c + 4 → S2 k j = S1 k j := fun k j h => by rw [hq2]; exact z_F_out h
        have hr2 : z_rc S2 t C mi := z_rc_congr ht (fun k j h => f2 k j (by omega)) hr1
        refine q_bd (q_pull c t ht S2 C mi hC hr2 b 1 hb2 (by omega) (z_sim C mi b) (fun k h1 h2 h0 => ?_) (by rw [f2 _ _ (by omega)]; exact g9) (by rw [f2 _ _ (by omega)]; exact g10) (by rw [f2 _ _ (by omega)]; exact g11)) (fun S3 r2 hq3 => ?_)
        · obtain ⟨a1, a2⟩ := hs0 k (by omega) h0
          refine ⟨?_, a2⟩
          rw [hq2, ← a1]
          unfold z_F
          clear hs0 hq2 f2 fin f1 hS1 hI i3 i4 i45 hcs
          grind
        · obtain ⟨hq3, hq4⟩ := hq3
          dsimp only at hq3 hq4
          rw [hq1, hq3]
          have hu := z_su_le (mi := mi) (b := b) (lo := 0) (s := z_sim C mi b) hC 8 (by omega)
          have hd := z_su_le (mi := mi) (b := b) (lo := 8) (s := z_sim C mi b) hC 8 (by omega)
          have f3 : ∀ k j, k < c + 4 → S3 k j = S1 k j := fun k j h => by rw [hq4, z_F_out h]; exact f2 k j h
          refine q_bv (q_moveRope c S3 (z_sim C mi b 0) (z_su C mi b (z_sim C mi b) 0 8) (z_su C mi b (z_sim C mi b) 8 8) b hp1 hp2 (by omega) (by omega) (by rw [f3 _ _ (by omega)]; exact g8) (by rw [f3 _ _ (by omega), g5, z_wi, if_pos hw]) (by rw [f3 _ _ (by omega), g6, z_wb, if_pos hw])) (fun S4 hS4 => ?_)
          have e : ∀ i, z_sim C mi (b + 1) i = z_stp C mi b (z_sim C mi b) i := fun i => rfl
          refine fin S4 _ _ (fun k j hk => ?_) (by simp [z_sum, hw]) (by simp [z_sum, hw]) ?_ ?_ ?_ ?_ (fun k hk h0 => ?_) (fun k j hk => ?_) (fun k j hk hj => ?_)
          · rw [hS4, ← hI k j hk, ← f1 k j (by omega)]
            rw [hq4, z_F, hq2, z_F]
            clear hq4 hq2 f3 f2 fin f1 hS1 hI i3 i4 i45 hcs hS4 hs0
            grind
          · rw [hS4, e]; simp [z_stp, hw]
          · rw [hS4, e, e]; simp [z_stp, hw]
          · rw [hS4, e]; simp [z_stp, hw]
          · rw [hS4, f3 _ _ (by omega)]; simp [g9]
          · rw [e]
            have e9 : z_stp C mi b (z_sim C mi b) (3 + k) = z_bn C mi b k (z_sim C mi b (3 + k)) := by
              simp [z_stp, hw, show 3 + k ≠ 0 by omega, show 3 + k ≠ 1 by omega, show 3 + k ≠ 2 by omega]
            have e10 : z_pk C mi b k = z_pu C mi b k (z_sim C mi b (3 + k)) := by simp [z_pk, hw]
            rw [e9, e10, hS4, hS4, hS4, hq4, hq4, hq4]
            simp only [z_F]
            rw [hq2, hq2, hq2]
            simp only [z_F]
            rw [show (k * 24 + b) / 24 = k by omega, show (k * 24 + b) % 24 = b by omega]
            clear hq4 hq2 f3 f2 fin f1 hS1 hI i3 i4 i45 hcs hS4 hs0 e hC hr hr1 hr2 hrS
            grind (splits := 24)
          · rw [hS4, f3 _ _ (by omega), f1 _ _ (by omega)]
            simp [show k ≠ c by omega]
          · rw [hS4, ← f1 _ _ (by omega), hq4, z_F, hq2, z_F]
            clear hq4 hq2 f3 f2 fin f1 hS1 hI i3 i4 i45 hcs hS4 hs0 e hC hr hr1 hr2 hrS
            grind
      · have hne : ¬ (z_wi (z_sim C mi b 1) = -nI 1) := by
          unfold z_wi
          rw [if_neg hw]
          have := q_eqm (a := z_sim C mi b 1) (by omega)
          rw [this]
          exact id
        rw [g5, if_neg hne]
        simp (disch := omega) only [q_lit, q_eq, q_ifT]
        refine q_bv (q_standStill_L c S1 b hb2 tg_F 0 S1 (by decide) (by decide) (fun k j => by simp)) (fun S2 hS2 => ?_)
        have e : ∀ i, z_sim C mi (b + 1) i = z_sim C mi b i := fun i => by simp [z_sim, z_stp, hw]
        refine fin S2 0 0 (fun k j hk => ?_) (by simp [z_sum, hw]) (by simp [z_sum, hw]) ?_ ?_ ?_ ?_ (fun k hk h0 => ?_) (fun k j hk => ?_) (fun k j hk hj => ?_)
        · rw [hS2, ← hI k j hk, ← f1 k j (by omega)]
          simp [show k ≠ c + 4 by omega, show k ≠ c + 5 by omega]
        · rw [hS2, e, ← g5]; simp
        · rw [hS2, e, e, ← g6]; simp
        · rw [hS2, e, ← g8]; simp
        · rw [hS2, ← g9]; simp
        · have e10 : z_pk C mi b k = 0 := by simp [z_pk, hw]
          rw [e, e10, hS2, hS2, hS2, ← i3 k hk h0, show (k * 24 + b) / 24 = k by omega, show (k * 24 + b) % 24 = b by omega]
          simp [nI_0, hk]
          exact f1 _ _ (by omega)
        · rw [hS2]
          simp [show k ≠ c + 4 by omega, show k ≠ c + 5 by omega]
          exact f1 _ _ (by omega)
        · rw [hS2]
          simp [hj]
          exact f1 _ _ (by omega)
theorem q_play (c t : Nat) (ht : t + 11 < c) (S0 : tg_S) (C : Nat → Nat → Nat) (mi : Int32) (hC : z_ok C) (hr : z_rc S0 t C mi) : q_tr (f_X2_play c t S0) (fun r => r.2 = nI (z_sim C mi 24 0) ∧ z_cs r.1 c C mi 24 ∧ ∀ k j, (k < c ∨ c + 6 < k) → r.1 k j = S0 k j) := by
  unfold f_X2_play
  simp (disch := omega) only [q_lit, q_pf, q_cp, q_stN]
  refine q_play_L c t ht S0 C mi hC hr tg_F 0 _ (by decide) (by decide) (fun k j hk => ?_) ⟨⟨?_, ?_, ?_, ?_⟩, fun k hk h0 => ?_, fun b hb => absurd hb (Nat.not_lt_zero b), fun b k hb => absurd hb (Nat.not_lt_zero b)⟩
  · simp only [tg_sw, show k ≠ c + 6 by omega, if_false]
    simp only [q_stA]
    simp [show k ≠ c by omega]
  · simp only [tg_sw, show c ≠ c + 6 by omega, if_false]
    simp [q_stA, z_wi, z_sim]
  · simp only [tg_sw, show c ≠ c + 6 by omega, if_false]
    simp [q_stA, z_wb, z_sim]
  · simp only [tg_sw, show c ≠ c + 6 by omega, if_false]
    simp [q_stA, z_sim]
  · simp only [tg_sw, show c ≠ c + 6 by omega, if_false]
    simp [q_stA, z_m, hr.2.2.2.2]
  · simp only [tg_sw, if_true]
    rw [pk_cpy_in (by omega) (by omega)]
    simp [z_sim, show 3 + k ≠ 0 by omega, show 3 + k ≠ 1 by omega, show 3 + k ≠ 2 by omega]
    exact (hr.2.1 k hk h0).2.2.1
