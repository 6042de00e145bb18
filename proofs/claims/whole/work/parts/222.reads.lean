-- ===== the reference reads the texts =====
def z_tr (T : tg_S) (A : Nat → Nat → Nat) : Prop := (∀ t, t < 4 → T 1 t = nI (A 0 t)) ∧ ∀ i, i < 124 → T 2 i = nI (A 1 i)
theorem z_ff_uniq (A : Nat → Nat → Nat) (t p : Nat) (h1 : ∀ j, j < p → z_gt t j (A 1 (31 * t + j))) (h2 : p ≤ A 0 t) (h3 : p < A 0 t → ¬ z_gt t p (A 1 (31 * t + p))) : z_ff A t 0 (A 0 t) = p := by
  obtain ⟨g1, g2, g3, g4⟩ := z_ff_spec A t (A 0 t) 0
  rcases Nat.lt_trichotomy (z_ff A t 0 (A 0 t)) p with h | h | h
  · exact absurd (h1 _ h) (g4 (by omega))
  · exact h
  · exact absurd (g3 p (Nat.zero_le _) h) (h3 (by omega))
theorem q_rbyte (T : tg_S) (A : Nat → Nat → Nat) (hA : z_tok A) (hT : z_tr T A) (t i : Nat) (ht : t < 4) (hi : i < 40) : f_X8_byteAt T (nI t) (nI i) = some (T, if i < A 0 t then nI (A 1 (31 * t + i)) else -nI 1) := by
  have hL : A 0 t ≤ 31 := by have := hA.1 t ht; split at this <;> omega
  unfold f_X8_byteAt
  simp (disch := omega) only [q_lit, q_rd, hT.1 t ht, q_le, q_mul, q_add]
  by_cases h : i < A 0 t
  · rw [if_pos h, q_ifF (by omega)]
    simp (disch := omega) only [q_rd, hT.2]
  · rw [if_neg h, q_ifT (by omega)]
theorem z_dig : ∀ b, b < 256 → (if nI b - nI 48 < nI 1 then nI 0 else if nI 9 < nI b - nI 48 then nI 0 else nI 1) = if 49 ≤ b ∧ b ≤ 57 then nI 1 else nI 0 := by decide +kernel
theorem z_dign : (if -nI 1 - nI 48 < nI 1 then nI 0 else if nI 9 < -nI 1 - nI 48 then nI 0 else nI 1) = nI 0 := by decide +kernel
theorem q_readsPuller (T : tg_S) (A : Nat → Nat → Nat) (hA : z_tok A) (hT : z_tr T A) (m n : Nat) (hm : m < 2) (hn : n < 8) : q_tr (f_X8_readsPuller T (nI m) (nI n) (nI (4 * n))) (fun r => (∃ g, g < 3 ∧ r.2 = nI g ∧ r.1 = T ∧ (∀ j, j < g → 4 * n + j < A 0 m ∧ z_go j (A 1 (31 * m + (4 * n + j)))) ∧ ¬ (4 * n + g < A 0 m ∧ z_go g (A 1 (31 * m + (4 * n + g))))) ∨ (r.2 = nI 3 ∧ (∀ j, j < 3 → 4 * n + j < A 0 m ∧ z_go j (A 1 (31 * m + (4 * n + j)))) ∧ ∀ k j, r.1 k j = if (k = 4 ∨ k = 5 ∨ k = 6) ∧ j = 8 * m + n then nI (z_C A (k - 3) j) else T k j)) := by
  have hL : A 0 m ≤ 31 := by have := hA.1 m (by omega); split at this <;> omega
  have w0 := hA.2 (31 * m + 4 * n)
  have w1 := hA.2 (31 * m + (4 * n + 1))
  have w2 := hA.2 (31 * m + (4 * n + 2))
  unfold f_X8_readsPuller f_X8_readsPuller_42
  rw [q_rbyte T A hA hT m (4 * n) (by omega) (by omega), q_bdS]
  simp only [q_lit, q_add]
  rw [q_rbyte T A hA hT m (4 * n + 1) (by omega) (by omega), q_bdS]
  simp only [q_nm]
  rw [q_rbyte T A hA hT m (4 * n + 2) (by omega) (by omega), q_bdS]
  simp (disch := omega) only [q_eq, q_ifF, q_in, q_bdS, q_mul, q_add]
  by_cases a0 : 4 * n < A 0 m ∧ z_go 0 (A 1 (31 * m + 4 * n))
  · have eS : (if (if 4 * n < A 0 m then nI (A 1 (31 * m + 4 * n)) else -nI 1) = nI 104 then nI 0 else if (if 4 * n < A 0 m then nI (A 1 (31 * m + 4 * n)) else -nI 1) = nI 108 then nI 1 else if (if 4 * n < A 0 m then nI (A 1 (31 * m + 4 * n)) else -nI 1) = nI 97 then nI 2 else -nI 1) = nI (z_sr (A 1 (31 * m + 4 * n))) := by
      rw [if_pos a0.1]
      simp (disch := omega) only [q_eq]
      have := a0.2
      simp only [z_go] at this
      unfold z_sr
      grind
    have hsr : z_sr (A 1 (31 * m + 4 * n)) ≤ 3 := by unfold z_sr; grind
    rw [eS, q_ifF (by rw [q_eqm (by omega)]; exact id)]
    by_cases a1 : 4 * n + 1 < A 0 m ∧ z_go 1 (A 1 (31 * m + (4 * n + 1)))
    · have b1 : 49 ≤ A 1 (31 * m + (4 * n + 1)) ∧ A 1 (31 * m + (4 * n + 1)) ≤ 57 := by have := a1.2; simp only [z_go] at this; grind
      rw [if_pos a1.1, z_dig _ w1, if_pos b1, q_ifF (by decide)]
      by_cases a2 : 4 * n + 2 < A 0 m ∧ z_go 2 (A 1 (31 * m + (4 * n + 2)))
      · have b2 : 49 ≤ A 1 (31 * m + (4 * n + 2)) ∧ A 1 (31 * m + (4 * n + 2)) ≤ 57 := by have := a2.2; simp only [z_go] at this; grind
        rw [if_pos a2.1, z_dig _ w2, if_pos b2, q_ifF (by decide)]
        simp (disch := omega) only [q_wr, q_sub]
        refine q_ret (Or.inr ⟨rfl, fun j hj => ?_, fun k j => ?_⟩)
        · rcases (show j = 0 ∨ j = 1 ∨ j = 2 by omega) with rfl | rfl | rfl
          · exact a0
          · exact a1
          · exact a2
        · have v1 : z_C A 1 (8 * m + n) = z_sr (A 1 (31 * m + 4 * n)) := by simp only [z_C, show (8 * m + n) % 8 = n by omega, show (8 * m + n) / 8 = m by omega]; simp
          have v2 : z_C A 2 (8 * m + n) = A 1 (31 * m + (4 * n + 1)) - 48 := by simp only [z_C, show (8 * m + n) % 8 = n by omega, show (8 * m + n) / 8 = m by omega]; simp
          have v3 : z_C A 3 (8 * m + n) = A 1 (31 * m + (4 * n + 2)) - 48 := by simp only [z_C, show (8 * m + n) % 8 = n by omega, show (8 * m + n) / 8 = m by omega]; simp
          rw [← v1, ← v2, ← v3]
          simp only [q_stA]
          clear v1 v2 v3 a0 a1 a2 eS hA hT
          grind
      · have ez : (if (if 4 * n + 2 < A 0 m then nI (A 1 (31 * m + (4 * n + 2))) else -nI 1) - nI 48 < nI 1 then nI 0 else if nI 9 < (if 4 * n + 2 < A 0 m then nI (A 1 (31 * m + (4 * n + 2))) else -nI 1) - nI 48 then nI 0 else nI 1) = nI 0 := by
          by_cases hl : 4 * n + 2 < A 0 m
          · rw [if_pos hl, z_dig _ w2, if_neg]
            intro hh
            exact a2 ⟨hl, by simp only [z_go]; grind⟩
          · rw [if_neg hl]
            exact z_dign
        rw [ez, q_ifT rfl]
        refine q_ret (Or.inl ⟨2, by omega, rfl, rfl, fun j hj => ?_, a2⟩)
        rcases (show j = 0 ∨ j = 1 by omega) with rfl | rfl
        · exact a0
        · exact a1
    · have ez : (if (if 4 * n + 1 < A 0 m then nI (A 1 (31 * m + (4 * n + 1))) else -nI 1) - nI 48 < nI 1 then nI 0 else if nI 9 < (if 4 * n + 1 < A 0 m then nI (A 1 (31 * m + (4 * n + 1))) else -nI 1) - nI 48 then nI 0 else nI 1) = nI 0 := by
        by_cases hl : 4 * n + 1 < A 0 m
        · rw [if_pos hl, z_dig _ w1, if_neg]
          intro hh
          exact a1 ⟨hl, by simp only [z_go]; grind⟩
        · rw [if_neg hl]
          exact z_dign
      rw [ez, q_ifT rfl]
      refine q_ret (Or.inl ⟨1, by omega, rfl, rfl, fun j hj => ?_, a1⟩)
      rcases (show j = 0 by omega) with rfl
      exact a0
  · have eS : (if (if 4 * n < A 0 m then nI (A 1 (31 * m + 4 * n)) else -nI 1) = nI 104 then nI 0 else if (if 4 * n < A 0 m then nI (A 1 (31 * m + 4 * n)) else -nI 1) = nI 108 then nI 1 else if (if 4 * n < A 0 m then nI (A 1 (31 * m + 4 * n)) else -nI 1) = nI 97 then nI 2 else -nI 1) = -nI 1 := by
      by_cases hl : 4 * n < A 0 m
      · rw [if_pos hl]
        simp (disch := omega) only [q_eq]
        have : ¬ z_go 0 (A 1 (31 * m + 4 * n)) := fun h => a0 ⟨hl, h⟩
        simp only [z_go] at this
        grind
      · rw [if_neg hl]
        decide
    rw [eS, q_ifT rfl]
    exact q_ret (Or.inl ⟨0, by omega, rfl, rfl, fun j hj => absurd hj (Nat.not_lt_zero j), a0⟩)
/-- what readsTeam makes -/
def z_RT (A : Nat → Nat → Nat) (m : Nat) (T0 T : tg_S) : Prop := T 3 m = nI (z_sz A m) ∧ (∀ i, i < z_sz A m → T 4 (8 * m + i) = nI (z_C A 1 (8 * m + i)) ∧ T 5 (8 * m + i) = nI (z_C A 2 (8 * m + i)) ∧ T 6 (8 * m + i) = nI (z_C A 3 (8 * m + i))) ∧ ∀ k j, (k = 3 → j ≠ m) → (k = 4 ∨ k = 5 ∨ k = 6 → j < 8 * m ∨ 8 * m + 8 ≤ j) → T k j = T0 k j
theorem q_readsTeam_L (T0 : tg_S) (A : Nat → Nat → Nat) (hA : z_tok A) (hT : z_tr T0 A) (m : Nat) (hm : m < 2) (h3 : T0 3 m = nI 0) : ∀ (f n : Nat) (T : tg_S), 8 < f + n → 4 * n ≤ A 0 m → (∀ j, j < 4 * n → z_gt m j (A 1 (31 * m + j))) → (∀ k j, T k j = if (k = 4 ∨ k = 5 ∨ k = 6) ∧ 8 * m ≤ j ∧ j < 8 * m + n then nI (z_C A (k - 3) j) else T0 k j) → q_tr (L_X8_readsTeam_11 f T (nI m) (nI n) (nI (4 * n))) (fun r => r.2 = z_fi (z_fa A m) ∧ z_RT A m T0 r.1) := by
  intro f
  have hL : A 0 m ≤ 31 := by have := hA.1 m (by omega); split at this <;> omega
  induction f with
  | zero => intro n T h; omega
  | succ f ih =>
    intro n T h hn hok hI
    have hn8 : n < 8 := by omega
    have hTT : z_tr T A := ⟨fun t ht => by rw [hI]; simp; exact hT.1 t ht, fun i hi => by rw [hI]; simp; exact hT.2 i hi⟩
    show q_tr (f_X8_readsTeam_11 (L_X8_readsTeam_11 f) T (nI m) (nI n) (nI (4 * n))) _
    unfold f_X8_readsTeam_11
    simp (disch := omega) only [q_lit, q_rd, hTT.1, q_lt, q_le]
    -- at a fault
    have bad : ∀ p, p ≤ A 0 m → (∀ j, j < p → z_gt m j (A 1 (31 * m + j))) → (p < A 0 m → ¬ z_gt m p (A 1 (31 * m + p))) → (p = A 0 m → A 0 m ≠ 0 ∧ A 0 m % 4 ≠ 3) → (nI p = z_fi (z_fa A m)) ∧ z_RT A m T0 T := by
      intro p p1 p2 p3 p4
      have e := z_ff_uniq A m p p2 p1 p3
      have hfa : z_fa A m = p := by
        unfold z_fa
        rw [e]
        by_cases hp : p < A 0 m
        · rw [if_pos hp]
        · have hp2 : p = A 0 m := by omega
          have := p4 hp2
          rw [if_neg hp, if_neg (by omega)]
          omega
      have hz : z_sz A m = 0 := by
        unfold z_sz z_sl
        rw [hfa, if_neg (by omega)]
      refine ⟨by rw [hfa, z_fi, if_neg (by omega)], ?_, fun i hi => by omega, fun k j hk hj => ?_⟩
      · rw [hI, hz]; simp [h3]
      · rw [hI]; grind
    have body : (4 * n < A 0 m ∨ 0 < n) → q_tr (f_X8_readsTeam_25 (L_X8_readsTeam_11 f) T (nI m) (nI n) (nI (4 * n))) (fun r => r.2 = z_fi (z_fa A m) ∧ z_RT A m T0 r.1) := by
      intro hpos
      unfold f_X8_readsTeam_25
      refine q_bd (q_readsPuller T A hA hTT m n hm hn8) (fun S1 r hr => ?_)
      rcases hr with ⟨g, hg, hr1, hr2, hr3, hr4⟩ | ⟨hr1, hr2, hr3⟩
      · dsimp only at hr1 hr2
        subst hr2
        rw [hr1]
        simp (disch := omega) only [q_lit, q_le, q_ifF, q_add]
        have gb : ∀ j, j < 4 * n + g → z_gt m j (A 1 (31 * m + j)) := fun j hj => by
          by_cases hj2 : j < 4 * n
          · exact hok j hj2
          · have q1 := (hr3 (j - 4 * n) (by omega)).2
            rw [show 4 * n + (j - 4 * n) = j by omega] at q1
            rw [z_gt, if_pos hm, show j % 4 = j - 4 * n by omega]
            exact q1
        have hle : 4 * n + g ≤ A 0 m := by
          rcases Nat.eq_zero_or_pos g with h0 | h0
          · omega
          · have := (hr3 (g - 1) (by omega)).1
            omega
        have := bad (4 * n + g) hle gb (fun hlt => by
          rw [z_gt, if_pos hm, show (4 * n + g) % 4 = g by omega]
          exact fun hh => hr4 ⟨hlt, hh⟩) (fun he => by omega)
        exact q_ret this
      · dsimp only at hr1 hr3
        rw [hr1]
        have gb : ∀ j, j < 4 * n + 3 → z_gt m j (A 1 (31 * m + j)) := fun j hj => by
          by_cases hj2 : j < 4 * n
          · exact hok j hj2
          · have q1 := (hr2 (j - 4 * n) (by omega)).2
            rw [show 4 * n + (j - 4 * n) = j by omega] at q1
            rw [z_gt, if_pos hm, show j % 4 = j - 4 * n by omega]
            exact q1
        have hle := (hr2 2 (by omega)).1
        have hT1 : z_tr S1 A := ⟨fun t ht => by rw [hr3]; simp; exact hTT.1 t ht, fun i hi => by rw [hr3]; simp; exact hTT.2 i hi⟩
        have hI1 : ∀ k j, S1 k j = if (k = 4 ∨ k = 5 ∨ k = 6) ∧ 8 * m ≤ j ∧ j < 8 * m + (n + 1) then nI (z_C A (k - 3) j) else T0 k j := fun k j => by
          rw [hr3, hI]
          clear hr3 hI bad gb hr2 hok ih
          grind
        simp (disch := omega) only [q_lit, q_le, q_ifT, q_nm, q_add, q_rd, hT1.1, q_eq]
        refine q_if (fun he => ?_) (fun he => ?_)
        · simp (disch := omega) only [q_wr]
          have e := z_ff_uniq A m (A 0 m) (fun j hj => gb j (by omega)) (Nat.le_refl _) (fun hlt => absurd hlt (Nat.lt_irrefl _))
          have hfa : z_fa A m = 100 := by
            unfold z_fa
            rw [e, if_neg (Nat.lt_irrefl _), if_pos (by omega)]
          have hsz : z_sz A m = n + 1 := by
            unfold z_sz z_sl
            rw [if_pos hfa]
            omega
          refine q_ret ⟨by rw [hfa]; rfl, by dsimp only; rw [q_stS, pk_us, hsz], fun i hi => ?_, fun k j hk hj => ?_⟩
          · dsimp only
            rw [q_stN _ _ _ (by omega), q_stN _ _ _ (by omega), q_stN _ _ _ (by omega), hI1, hI1, hI1]
            clear hI1 hr3 hI bad gb hr2 hok ih
            grind
          · dsimp only
            rw [q_stA, hI1]
            clear hI1 hr3 hI bad gb hr2 hok ih
            grind
        · rw [q_rbyte S1 A hA hT1 m (4 * n + 3) (by omega) (by omega), q_bdS, if_pos (by omega)]
          have w3 := hA.2 (31 * m + (4 * n + 3))
          simp (disch := omega) only [q_eq]
          refine q_if (fun h59 => ?_) (fun h59 => ?_)
          · have := ih (n + 1) S1 (by omega) (by omega) (fun j hj => ?_) hI1
            · rw [show 4 * (n + 1) = 4 * n + 3 + 1 by omega] at this
              exact this
            · by_cases hj2 : j < 4 * n + 3
              · exact gb j hj2
              · have : j = 4 * n + 3 := by omega
                subst this
                rw [z_gt, if_pos hm, show (4 * n + 3) % 4 = 3 by omega]
                exact h59
          · obtain ⟨b1, b2, b3, b4⟩ := bad (4 * n + 3) (by omega) gb (fun hlt => by
              rw [z_gt, if_pos hm, show (4 * n + 3) % 4 = 3 by omega]
              exact h59) (fun he2 => absurd he2 he)
            have hz : z_sz A m = 0 := by
              unfold z_sz z_sl
              rw [if_neg]
              intro hf
              rw [hf, z_fi, if_pos rfl, q_eqm (by omega)] at b1
              exact b1
            refine q_ret ⟨b1, ?_, fun i hi => by omega, fun k j hk hj => ?_⟩
            · dsimp only; rw [hI1, hz]; simp [h3]
            · dsimp only
              rw [hI1]
              clear hI1 hr3 hI bad gb hr2 hok ih b3 b4
              grind
    refine q_if (fun h1 => ?_) (fun h1 => ?_)
    · exact body (Or.inl h1)
    · refine q_if (fun h2 => ?_) (fun h2 => ?_)
      · have h0 : A 0 m = 0 := by omega
        have hfa : z_fa A m = 100 := by
          unfold z_fa
          rw [if_neg (by omega), if_pos (by omega)]
        have hsz : z_sz A m = 0 := by
          unfold z_sz z_sl
          rw [if_pos hfa, h0]
        refine q_ret ⟨by rw [hfa]; rfl, by dsimp only; rw [hI, hsz]; simp [h3], fun i hi => by omega, fun k j hk hj => ?_⟩
        dsimp only
        rw [hI]
        clear hI bad body ih hok
        grind
      · exact body (Or.inr (by omega))
theorem q_readsTeam (T0 : tg_S) (A : Nat → Nat → Nat) (hA : z_tok A) (hT : z_tr T0 A) (m : Nat) (hm : m < 2) : q_tr (f_X8_readsTeam T0 (nI m)) (fun r => r.2 = z_fi (z_fa A m) ∧ z_RT A m T0 r.1) := by
  unfold f_X8_readsTeam
  simp (disch := omega) only [q_lit, q_wr]
  refine q_mono (q_readsTeam_L (q_st T0 3 m (nI 0)) A hA ⟨fun t ht => by rw [q_stN _ _ _ (by omega)]; exact hT.1 t ht, fun i hi => by rw [q_stN _ _ _ (by omega)]; exact hT.2 i hi⟩ m hm (by rw [q_stS, pk_us]) tg_F 0 _ (by decide) (Nat.zero_le _) (fun j hj => absurd hj (Nat.not_lt_zero j)) (fun k j => by grind)) (fun r hr => ⟨hr.1, hr.2.1, hr.2.2.1, fun k j hk hj => ?_⟩)
  rw [hr.2.2.2 k j hk hj, q_stA]
  grind
