theorem q_runs_L2 (T0 : tg_S) (C : Nat → Nat → Nat) (mi : Int32) (hC : z_ok C) (hr : z_rk T0 C mi) : ∀ (n b : Nat) (S : tg_S), 24 < n + b → b ≤ 24 → z_rs S C mi b → (∀ k j, (k < 15 ∨ 23 < k) → (k ≠ 0 ∨ j < 18 ∨ 24 < j) → S k j = T0 k j) → q_tr (L_X8_runs_159 n S (nI b)) (fun S2 => z_rs S2 C mi 24 ∧ ∀ k j, (k < 15 ∨ 23 < k) → (k ≠ 0 ∨ j < 18 ∨ 24 < j) → S2 k j = T0 k j) := by
  intro n
  induction n with
  | zero => intro i S h; omega
  | succ n ih =>
    intro b S h hb hs hf
    show q_tr (f_X8_runs_159 (L_X8_runs_159 n) S (nI b)) _
    unfold f_X8_runs_159
    simp (disch := omega) only [q_lit, q_le]
    refine q_if (fun h => ?_) (fun h => ?_)
    · have : b = 24 := by omega
      subst this
      exact q_ret ⟨hs, hf⟩
    · have hrS : z_rk S C mi := z_rk_congr (fun k j h h2 => hf k j (by omega) (by omega)) (hf _ _ (by omega) (by omega)) (hf _ _ (by omega) (by omega)) (hf _ _ (by omega) (by omega)) hr
      refine q_bv (q_goesBy S C mi hC hrS b (by omega) hs) (fun S2 hS2 => ?_)
      simp only [q_nm, q_add]
      exact ih (b + 1) S2 (by omega) (by omega) hS2.1 (fun k j hk hj => by rw [hS2.2 k j hk hj]; exact hf k j hk hj)
/-- the contest in the reference's cells, ahead of runs -/
def z_rr (T : tg_S) (C : Nat → Nat → Nat) (mi : Int32) : Prop := z_hr T C ∧ (∀ k, k < 16 → C 0 k = 1 → T 4 k = nI (C 1 k) ∧ T 5 k = nI (C 2 k) ∧ T 6 k = nI (C 3 k)) ∧ (∃ pl : Nat → Nat, (∀ k, k < 16 → T 13 k = nI (pl k) ∧ pl k < 8) ∧ (∀ k l, k < 16 → l < 16 → C 0 k = 1 → C 0 l = 1 → k / 8 = l / 8 → pl k = pl l → k = l) ∧ ∀ k, k < 16 → C 0 k = 1 → (C 4 k = 1 ↔ ∀ l, l < 16 → C 0 l = 1 → l / 8 = k / 8 → pl l ≤ pl k)) ∧ (∀ j, j < 48 → T 12 j = nI (C 5 j)) ∧ z_er T C mi ∧ T 0 8 = nI (C 10 1)
/-- who is furthest out so far -/
def z_ls (T : tg_S) (C : Nat → Nat → Nat) (pl : Nat → Nat) (i : Nat) : Prop := ∀ m, m < 2 → (T 14 m = -nI 1 ∧ ∀ k, k < i → k / 8 = m → ¬ C 0 k = 1) ∨ ∃ l, l < i ∧ l / 8 = m ∧ C 0 l = 1 ∧ T 14 m = nI l ∧ ∀ k, k < i → k / 8 = m → C 0 k = 1 → pl k ≤ pl l
theorem q_runs_L1 (T0 : tg_S) (C : Nat → Nat → Nat) (hC : z_ok C) (nn : Nat → Nat) (hn1 : ∀ m, m < 2 → T0 3 m = nI (nn m) ∧ nn m ≤ 8) (hn2 : ∀ k, k < 16 → (C 0 k = 1 ↔ k % 8 < nn (k / 8) ∧ ¬ nI k = T0 0 16)) (pl : Nat → Nat) (hpl : ∀ k, k < 16 → T0 13 k = nI (pl k) ∧ pl k < 8) (hv : ∀ k, k < 16 → C 0 k = 1 → T0 6 k = nI (C 3 k)) (Q : tg_S → Prop)
    (fin : ∀ S : tg_S, z_ls S C pl 16 → (∀ k, k < 16 → S 16 k = nI 0 ∧ (C 0 k = 1 → S 15 k = nI (C 3 k))) → (∀ k j, (k < 14 ∨ 16 < k) → S k j = T0 k j) → q_tr (L_X8_runs_159 tg_F S (nI 0)) Q) : ∀ (n i : Nat) (S : tg_S), 16 < n + i → i ≤ 16 → z_ls S C pl i → (∀ k, k < i → S 16 k = nI 0 ∧ (C 0 k = 1 → S 15 k = nI (C 3 k))) → (∀ k j, (k < 14 ∨ 16 < k) → S k j = T0 k j) → q_tr (L_X8_runs_45 n S (nI i)) Q := by
  intro n
  induction n with
  | zero => intro i S h; omega
  | succ n ih =>
    intro i S h hi hls hk hf
    show q_tr (f_X8_runs_45 (L_X8_runs_45 n) S (nI i)) _
    unfold f_X8_runs_45
    have hn1S : ∀ m, m < 2 → S 3 m = nI (nn m) ∧ nn m ≤ 8 := fun m hm => by rw [hf _ _ (by omega)]; exact hn1 m hm
    simp (disch := omega) only [q_lit, q_le, q_div, q_nm]
    refine q_if (fun h => ?_) (fun h => ?_)
    · have : i = 16 := by omega
      subst this
      exact fin S hls hk hf
    · have hi2 : i < 16 := by omega
      obtain ⟨b0, b1⟩ := hC.1 i hi2
      rw [q_isThereOne S nn hn1S i hi2, q_bdS]
      -- behind lastOf
      have go : ∀ (S2 : tg_S) (v : Int32), (∀ k j, (k < 14 ∨ 16 < k) → S2 k j = T0 k j) → (∀ k, k < i + 1 → S2 16 k = nI 0 ∧ (C 0 k = 1 → S2 15 k = nI (C 3 k))) → z_ls (q_st S2 14 (i / 8) v) C pl (i + 1) → q_tr (f_X8_runs_150 (L_X8_runs_45 n) S2 (nI i) v (nI (i / 8))) Q := by
        intro S2 v h1 h2 h3
        unfold f_X8_runs_150
        simp (disch := omega) only [q_lit, q_wr, q_nm, q_add]
        exact ih (i + 1) _ (by omega) (by omega) h3 (fun k hk => by rw [q_stN _ _ _ (by omega), q_stN _ _ _ (by omega)]; exact h2 k hk) (fun k j hk => by rw [q_stN _ _ _ (by omega)]; exact h1 k j hk)
      clear ih
      have all : ∀ w : Int32, (C 0 i = 1 → w = nI (C 3 i)) → q_tr (f_X8_runs_79 (L_X8_runs_45 n) S (nI i) (nI (i / 8)) w (nI i)) Q := by
        intro w hw
        unfold f_X8_runs_79 f_X8_runs_129 f_X8_runs_125 f_X8_runs_130
        simp (disch := omega) only [q_lit, q_wr]
        generalize hS3 : q_st (q_st S 15 i w) 16 i (nI 0) = S3
        have f3 : ∀ k j, k ≠ 15 → k ≠ 16 → S3 k j = S k j := fun k j h1 h2 => by rw [← hS3, q_stN _ _ _ h2, q_stN _ _ _ h1]
        have f3b : ∀ k j, (k < 14 ∨ 16 < k) → S3 k j = T0 k j := fun k j hk => by rw [f3 _ _ (by omega) (by omega)]; exact hf k j hk
        have hk3 : ∀ k, k < i + 1 → S3 16 k = nI 0 ∧ (C 0 k = 1 → S3 15 k = nI (C 3 k)) := fun k hk9 => by
          rw [← hS3]
          simp only [q_stA]
          have := hk k
          grind
        have hhr : z_hr S3 C := ⟨nn, fun m hm => by rw [f3b _ _ (by omega)]; exact hn1 m hm, fun k hk9 => by rw [f3b _ _ (by omega)]; exact hn2 k hk9⟩
        rw [q_isHere S3 C hC hhr i hi2, q_bdS]
        have hlm := hls (i / 8) (by omega)
        have other : ∀ (v : Int32) (m : Nat), m < 2 → m ≠ i / 8 → (q_st S3 14 (i / 8) v 14 m = -nI 1 ∧ ∀ k, k < i + 1 → k / 8 = m → ¬ C 0 k = 1) ∨ ∃ l, l < i + 1 ∧ l / 8 = m ∧ C 0 l = 1 ∧ q_st S3 14 (i / 8) v 14 m = nI l ∧ ∀ k, k < i + 1 → k / 8 = m → C 0 k = 1 → pl k ≤ pl l := by
          intro v m hm hne
          have e : q_st S3 14 (i / 8) v 14 m = S 14 m := by rw [q_stA, f3 _ _ (by omega) (by omega)]; simp [hne]
          rw [e]
          rcases hls m hm with ⟨h1, h2⟩ | ⟨l, h1, h2, h3, h4, h5⟩
          · exact Or.inl ⟨h1, fun k hk9 hk10 => h2 k (by omega) hk10⟩
          · exact Or.inr ⟨l, by omega, h2, h3, h4, fun k hk9 hk10 => h5 k (by omega) hk10⟩
        have self : ∀ v, q_st S3 14 (i / 8) v 14 (i / 8) = v := fun v => by rw [q_stA]; simp
        -- it stays as it is
        have stay : (∀ l, S 14 (i / 8) = nI l → l < i → l / 8 = i / 8 → C 0 l = 1 → C 0 i = 1 → pl i ≤ pl l) → (S 14 (i / 8) = -nI 1 → ¬ C 0 i = 1) → z_ls (q_st S3 14 (i / 8) (S 14 (i / 8))) C pl (i + 1) := by
          intro h1 h2 m hm
          by_cases hne : m = i / 8
          · subst hne
            rw [self]
            rcases hlm with ⟨g1, g2⟩ | ⟨l, g1, g2, g3, g4, g5⟩
            · refine Or.inl ⟨g1, fun k hk9 hk10 => ?_⟩
              by_cases hki : k = i
              · subst hki; exact h2 g1
              · exact g2 k (by omega) hk10
            · refine Or.inr ⟨l, by omega, g2, g3, g4, fun k hk9 hk10 hk11 => ?_⟩
              by_cases hki : k = i
              · subst hki; exact h1 l g4 g1 g2 g3 hk11
              · exact g5 k (by omega) hk10 hk11
          · exact other _ m hm hne
        -- it is i now
        have move : C 0 i = 1 → (∀ l, S 14 (i / 8) = nI l → l < i → C 0 l = 1 → pl l ≤ pl i) → z_ls (q_st S3 14 (i / 8) (nI i)) C pl (i + 1) := by
          intro h0 h1 m hm
          by_cases hne : m = i / 8
          · subst hne
            rw [self]
            refine Or.inr ⟨i, by omega, rfl, h0, rfl, fun k hk9 hk10 hk11 => ?_⟩
            by_cases hki : k = i
            · subst hki; exact Nat.le_refl _
            · rcases hlm with ⟨g1, g2⟩ | ⟨l, g1, g2, g3, g4, g5⟩
              · exact absurd hk11 (g2 k (by omega) hk10)
              · exact Nat.le_trans (g5 k (by omega) hk10 hk11) (h1 l g4 g1 g3)
          · exact other _ m hm hne
        simp (disch := omega) only [q_lit, q_eq, q_rd, f3, q_ifT, q_ifF]
        refine q_if (fun a0 => ?_) (fun a0 => ?_)
        · exact go S3 _ f3b hk3 (stay (fun l _ _ _ _ h0 => by omega) (fun _ => by omega))
        · have h0 : C 0 i = 1 := by omega
          refine q_if (fun a1 => ?_) (fun a1 => ?_)
          · refine go S3 _ f3b hk3 (move h0 (fun l g1 g2 _ => ?_))
            rw [g1, q_eqm (by omega)] at a1
            exact a1.elim
          · rcases hlm with ⟨g1, g2⟩ | ⟨l, g1, g2, g3, g4, g5⟩
            · exact absurd g1 a1
            · have e1 : S 13 i = nI (pl i) := by rw [hf _ _ (by omega)]; exact (hpl i hi2).1
              have e2 : S 13 l = nI (pl l) := by rw [hf _ _ (by omega)]; exact (hpl l (by omega)).1
              have l1 := (hpl i hi2).2
              have l2 := (hpl l (by omega)).2
              rw [g4]
              simp (disch := omega) only [q_rd, f3, e1, e2, q_le]
              refine q_if (fun a2 => ?_) (fun a2 => ?_)
              · have hst := stay (fun l2 k1 k2 k3 k4 k5 => ?_) (fun hh => absurd hh a1)
                · rw [g4] at hst
                  exact go S3 _ f3b hk3 hst
                · rw [g4, q_eq (by omega) (by omega)] at k1
                  rw [← k1]
                  exact a2
              · refine go S3 _ f3b hk3 (move h0 (fun l2 k1 k2 _ => ?_))
                rw [g4, q_eq (by omega) (by omega)] at k1
                rw [← k1]
                omega
      by_cases a : i % 8 < nn (i / 8)
      · rw [if_pos a, q_ifF (by decide)]
        simp (disch := omega) only [q_rd]
        refine all _ (fun h0 => ?_)
        rw [hf _ _ (by omega)]
        exact hv i hi2 h0
      · rw [if_neg a, q_ifT rfl]
        exact all _ (fun h0 => absurd ((hn2 i hi2).mp h0).1 a)
theorem q_runs (T0 : tg_S) (C : Nat → Nat → Nat) (mi : Int32) (hC : z_ok C) (hr : z_rr T0 C mi) : q_tr (f_X8_runs T0) (fun S2 => z_rs S2 C mi 24 ∧ ∀ k j, (k < 14 ∨ 23 < k) → (k ≠ 0 ∨ j < 18 ∨ 24 < j) → S2 k j = T0 k j) := by
  obtain ⟨⟨nn, hn1, hn2⟩, h1, ⟨pl, hp1, hp2, hp3⟩, h5, hev, h8⟩ := hr
  unfold f_X8_runs
  simp (disch := omega) only [q_lit, q_pf, q_wr]
  generalize hT : q_st (q_st (q_st (q_st (q_st (q_st (q_st T0 0 18 (T0 0 8)) 0 21 (nI 12)) 0 22 (-nI 1)) 0 23 (-nI 1)) 0 24 (nI 0)) 14 0 (-nI 1)) 14 1 (-nI 1) = T1
  have f1 : ∀ k j, k ≠ 14 → (k ≠ 0 ∨ j < 18 ∨ 24 < j) → T1 k j = T0 k j := fun k j h h2 => by
    rw [← hT]
    simp only [q_stA]
    grind
  have e18 : T1 0 18 = nI (C 10 1) := by rw [← hT, ← h8]; simp [q_stA]
  have e21 : T1 0 21 = nI 12 := by rw [← hT]; simp [q_stA]
  have e22 : T1 0 22 = -nI 1 := by rw [← hT]; simp [q_stA]
  have e23 : T1 0 23 = -nI 1 := by rw [← hT]; simp [q_stA]
  have e24 : T1 0 24 = nI 0 := by rw [← hT]; simp [q_stA]
  refine q_runs_L1 T1 C hC nn (fun m hm => by rw [f1 _ _ (by omega) (by omega)]; exact hn1 m hm) (fun k hk => by rw [f1 _ _ (by omega) (by omega)]; exact hn2 k hk) pl (fun k hk => by rw [f1 _ _ (by omega) (by omega)]; exact hp1 k hk) (fun k hk h0 => by rw [f1 _ _ (by omega) (by omega)]; exact (h1 k hk h0).2.2) _ (fun S hls hk hf => ?_) tg_F 0 T1 (by decide) (by decide) (fun m hm => Or.inl ⟨?_, fun k hk => absurd hk (Nat.not_lt_zero k)⟩) (fun k hk => absurd hk (Nat.not_lt_zero k)) (fun k j hk => rfl)
  · have fS : ∀ k j, (k < 14 ∨ 16 < k) → (k ≠ 0 ∨ j < 18 ∨ 24 < j) → S k j = T0 k j := fun k j hk hj => by rw [hf k j hk]; exact f1 k j (by omega) hj
    have hrk : z_rk S C mi := by
      refine ⟨⟨nn, fun m hm => by rw [fS _ _ (by omega) (by omega)]; exact hn1 m hm, fun k hk9 => by rw [fS _ _ (by omega) (by omega)]; exact hn2 k hk9⟩, fun k hk9 h0 => ⟨by rw [fS _ _ (by omega) (by omega)]; exact (h1 k hk9 h0).1, by rw [fS _ _ (by omega) (by omega)]; exact (h1 k hk9 h0).2.1, by rw [fS _ _ (by omega) (by omega)]; exact (h1 k hk9 h0).2.2, ?_⟩, fun j hj => by rw [fS _ _ (by omega) (by omega)]; exact h5 j hj, by rw [fS _ _ (by omega) (by omega)]; exact hev.1, by rw [fS _ _ (by omega) (by omega)]; exact hev.2.1, fun e he => ?_⟩
      · rw [hp3 k hk9 h0]
        rcases hls (k / 8) (by omega) with ⟨g1, g2⟩ | ⟨l, g1, g2, g3, g4, g5⟩
        · exact absurd h0 (g2 k hk9 rfl)
        · rw [g4, q_eq (by omega) (by omega)]
          constructor
          · intro hlk l2 hl2 h02 hd
            rw [← hlk]
            exact g5 l2 hl2 (by omega) h02
          · intro hall
            have a1 := g5 k hk9 rfl h0
            have a2 := hall l g1 g3 g2
            exact hp2 l k g1 hk9 g3 h0 (by omega) (by omega)
      · rw [fS _ _ (by omega) (by omega), fS _ _ (by omega) (by omega), fS _ _ (by omega) (by omega)]
        exact hev.2.2 e he
    refine q_mono (q_runs_L2 S C mi hC hrk tg_F 0 S (by decide) (by decide) ⟨⟨?_, ?_, ?_, ?_, ?_⟩, fun k hk9 h0 => ⟨?_, ?_⟩, fun k hk9 h0 => (hk k hk9).1, fun b hb => absurd hb (Nat.not_lt_zero b), fun b k hb => absurd hb (Nat.not_lt_zero b)⟩ (fun k j _ _ => rfl)) (fun S2 hS2 => ⟨hS2.1, fun k j hk9 hj => ?_⟩)
    · rw [hf _ _ (by omega)]; exact e18
    · rw [hf _ _ (by omega), e21]; simp [z_sim]
    · rw [hf _ _ (by omega), e22]; simp [z_sim, z_wi]
    · rw [hf _ _ (by omega), e23]; simp [z_sim, z_wb]
    · rw [hf _ _ (by omega), e24]; rfl
    · rw [(hk k hk9).2 h0]; simp [z_sim, show 3 + k ≠ 0 by omega, show 3 + k ≠ 1 by omega, show 3 + k ≠ 2 by omega]
    · rw [(hk k hk9).1]; rfl
    · rw [hS2.2 k j (by omega) hj, fS k j (by omega) hj]
  · rcases (show m = 0 ∨ m = 1 by omega) with rfl | rfl
    · rw [← hT]; simp [q_stA]
    · rw [← hT]; simp [q_stA]
