theorem q_callBy (T : tg_S) (b : Nat) (hb : b < 256) : f_X8_callBy T (nI b) = some (T, if z_cl b = 3 then -nI 1 else nI (z_cl b)) := by
  unfold f_X8_callBy tg_if z_cl
  simp (disch := omega) only [q_lit, q_eq]
  grind
/-- what readsCalls makes -/
def z_RL (A : Nat → Nat → Nat) (m : Nat) (T0 T : tg_S) : Prop := T 7 m = nI (z_sl A (2 + m)) ∧ (∀ j, 24 * m ≤ j → j < 24 * m + 24 → T 8 j = nI (z_C A 5 j)) ∧ ∀ k j, (k = 7 → j ≠ m) → (k = 8 → j < 24 * m ∨ 24 * m + 24 ≤ j) → T k j = T0 k j
theorem z_C5 (A : Nat → Nat → Nat) (m i : Nat) (hi : i < 24) : z_C A 5 (24 * m + i) = if i < z_sl A (2 + m) then z_cl (A 1 (31 * (2 + m) + i)) else 1 := by
  simp only [z_C, show (24 * m + i) % 24 = i by omega, show (24 * m + i) / 24 = m by omega]
  simp
theorem q_readsCalls_72 (T0 : tg_S) (A : Nat → Nat → Nat) (hA : z_tok A) (hT : z_tr T0 A) (m : Nat) (hm : m < 2) (hf : z_fa A (2 + m) = 100) : ∀ (n i : Nat) (T : tg_S), A 0 (2 + m) < n + i → i ≤ A 0 (2 + m) → (∀ k j, T k j = if k = 8 ∧ 24 * m ≤ j ∧ j < 24 * m + i then nI (z_C A 5 j) else T0 k j) → q_tr (L_X8_readsCalls_72 n T (nI m) (nI (2 + m)) (nI i)) (fun r => r.2 = -nI 1 ∧ ∀ k j, r.1 k j = if k = 8 ∧ 24 * m ≤ j ∧ j < 24 * m + A 0 (2 + m) then nI (z_C A 5 j) else if k = 7 ∧ j = m then nI (A 0 (2 + m)) else T0 k j) := by
  intro n
  have hL : A 0 (2 + m) ≤ 24 := by have := hA.1 (2 + m) (by omega); split at this <;> omega
  have hsl : z_sl A (2 + m) = A 0 (2 + m) := by unfold z_sl; rw [if_pos hf]
  induction n with
  | zero => intro i T h; omega
  | succ n ih =>
    intro i T h hi hI
    have hTT : z_tr T A := ⟨fun t ht => by rw [hI]; simp; exact hT.1 t ht, fun i hi => by rw [hI]; simp; exact hT.2 i hi⟩
    show q_tr (f_X8_readsCalls_72 (L_X8_readsCalls_72 n) T (nI m) (nI (2 + m)) (nI i)) _
    unfold f_X8_readsCalls_72
    simp (disch := omega) only [q_lit, q_rd, hTT.1, q_le, q_wr]
    refine q_if (fun h1 => ?_) (fun h1 => ?_)
    · have : i = A 0 (2 + m) := by omega
      subst this
      refine q_ret ⟨rfl, fun k j => ?_⟩
      dsimp only
      rw [q_stA, hI]
      clear ih hI hT hTT
      grind
    · obtain ⟨q1, q2⟩ := z_calls A hA (2 + m) i (by omega) (by omega) (by omega)
      rw [q_rbyte T A hA hTT (2 + m) i (by omega) (by omega), q_bdS, if_pos (by omega), q_callBy T _ (hA.2 _), q_bdS, if_neg (by omega)]
      simp (disch := omega) only [q_mul, q_add, q_wr, q_nm]
      refine ih (i + 1) _ (by omega) (by omega) (fun k j => ?_)
      have e5 := z_C5 A m i (by omega)
      rw [if_pos (by omega)] at e5
      rw [q_stA, hI, ← e5]
      clear ih hI hT hTT e5
      grind
theorem q_readsCalls_39 (T0 : tg_S) (A : Nat → Nat → Nat) (hA : z_tok A) (hT : z_tr T0 A) (m : Nat) (hm : m < 2) (h7 : T0 7 m = nI 0) (h8 : ∀ j, 24 * m ≤ j → j < 24 * m + 24 → T0 8 j = nI 1) : ∀ (n i : Nat), A 0 (2 + m) < n + i → i ≤ A 0 (2 + m) → (∀ j, j < i → z_gt (2 + m) j (A 1 (31 * (2 + m) + j))) → q_tr (L_X8_readsCalls_39 n T0 (nI m) (nI (2 + m)) (nI i)) (fun r => r.2 = z_fi (z_fa A (2 + m)) ∧ z_RL A m T0 r.1) := by
  intro n
  have hL : A 0 (2 + m) ≤ 24 := by have := hA.1 (2 + m) (by omega); split at this <;> omega
  induction n with
  | zero => intro i h; omega
  | succ n ih =>
    intro i h hi hok
    show q_tr (f_X8_readsCalls_39 (L_X8_readsCalls_39 n) T0 (nI m) (nI (2 + m)) (nI i)) _
    unfold f_X8_readsCalls_39
    simp (disch := omega) only [q_lit, q_rd, hT.1, q_le]
    refine q_if (fun h1 => ?_) (fun h1 => ?_)
    · have : i = A 0 (2 + m) := by omega
      subst this
      have e := z_ff_uniq A (2 + m) (A 0 (2 + m)) hok (Nat.le_refl _) (fun hlt => absurd hlt (Nat.lt_irrefl _))
      have hfa : z_fa A (2 + m) = 100 := by
        unfold z_fa
        rw [e, if_neg (Nat.lt_irrefl _), if_pos (Or.inl (by omega))]
      have hsl : z_sl A (2 + m) = A 0 (2 + m) := by unfold z_sl; rw [if_pos hfa]
      refine q_mono (q_readsCalls_72 T0 A hA hT m hm hfa tg_F 0 T0 (by unfold tg_F; omega) (Nat.zero_le _) (fun k j => by grind)) (fun r hr => ⟨by rw [hr.1, hfa]; rfl, by rw [hr.2]; simp [hsl], fun j hj1 hj2 => ?_, fun k j hk hj => ?_⟩)
      · rw [hr.2]
        have e5 := z_C5 A m (j - 24 * m) (by omega)
        rw [show 24 * m + (j - 24 * m) = j by omega] at e5
        by_cases hlt : j < 24 * m + A 0 (2 + m)
        · simp [hj1, hlt]
        · rw [if_neg (by omega)] at e5
          simp [hlt, e5]
          exact h8 j hj1 hj2
      · rw [hr.2]
        grind
    · rw [q_rbyte T0 A hA hT (2 + m) i (by omega) (by omega), q_bdS, if_pos (by omega), q_callBy T0 _ (hA.2 _), q_bdS]
      have hcl : z_cl (A 1 (31 * (2 + m) + i)) ≤ 3 := by unfold z_cl; grind
      by_cases hc : z_cl (A 1 (31 * (2 + m) + i)) = 3
      · rw [if_pos hc, q_ifT rfl]
        have e := z_ff_uniq A (2 + m) i hok (by omega) (fun hlt => by rw [z_gt, if_neg (by omega)]; exact fun h => h hc)
        have hfa : z_fa A (2 + m) = i := by
          unfold z_fa
          rw [e, if_pos (by omega)]
        have hsl : z_sl A (2 + m) = 0 := by unfold z_sl; rw [if_neg (by omega)]
        refine q_ret ⟨by rw [hfa, z_fi, if_neg (by omega)], by dsimp only; rw [hsl, h7], fun j hj1 hj2 => ?_, fun k j hk hj => rfl⟩
        dsimp only
        have e5 := z_C5 A m (j - 24 * m) (by omega)
        rw [show 24 * m + (j - 24 * m) = j by omega, if_neg (by omega)] at e5
        rw [e5]
        exact h8 j hj1 hj2
      · rw [if_neg hc, q_ifF (by rw [q_eqm (by omega)]; exact id)]
        simp only [q_nm, q_add]
        refine ih (i + 1) (by omega) (by omega) (fun j hj => ?_)
        by_cases hji : j = i
        · subst hji
          rw [z_gt, if_neg (by omega)]
          exact hc
        · exact hok j (by omega)
theorem q_readsCalls_13 (T0 : tg_S) (A : Nat → Nat → Nat) (hA : z_tok A) (hT : z_tr T0 A) (m : Nat) (hm : m < 2) (h7 : T0 7 m = nI 0) : ∀ (n i : Nat) (T : tg_S), 24 < n + i → i ≤ 24 → (∀ k j, T k j = if k = 8 ∧ 24 * m ≤ j ∧ j < 24 * m + i then nI 1 else T0 k j) → q_tr (L_X8_readsCalls_13 n T (nI m) (nI (2 + m)) (nI i)) (fun r => r.2 = z_fi (z_fa A (2 + m)) ∧ z_RL A m T0 r.1) := by
  intro n
  induction n with
  | zero => intro i T h; omega
  | succ n ih =>
    intro i T h hi hI
    show q_tr (f_X8_readsCalls_13 (L_X8_readsCalls_13 n) T (nI m) (nI (2 + m)) (nI i)) _
    unfold f_X8_readsCalls_13
    simp (disch := omega) only [q_lit, q_le]
    refine q_if (fun h1 => ?_) (fun h1 => ?_)
    · have : i = 24 := by omega
      subst this
      have hL : A 0 (2 + m) ≤ 24 := by have := hA.1 (2 + m) (by omega); split at this <;> omega
      refine q_mono (q_readsCalls_39 T A hA ⟨fun t ht => by rw [hI]; simp; exact hT.1 t ht, fun i hi => by rw [hI]; simp; exact hT.2 i hi⟩ m hm (by rw [hI]; simp [h7]) (fun j hj1 hj2 => by rw [hI]; simp [hj1, hj2]) tg_F 0 (by unfold tg_F; omega) (Nat.zero_le _) (fun j hj => absurd hj (Nat.not_lt_zero j))) (fun r hr => ⟨hr.1, hr.2.1, hr.2.2.1, fun k j hk hj => ?_⟩)
      rw [hr.2.2.2 k j hk hj, hI]
      grind
    · simp (disch := omega) only [q_mul, q_add, q_wr, q_nm]
      refine ih (i + 1) _ (by omega) (by omega) (fun k j => ?_)
      rw [q_stA, hI]
      clear ih hI hT
      grind
theorem q_readsCalls (T0 : tg_S) (A : Nat → Nat → Nat) (hA : z_tok A) (hT : z_tr T0 A) (m : Nat) (hm : m < 2) : q_tr (f_X8_readsCalls T0 (nI m)) (fun r => r.2 = z_fi (z_fa A (2 + m)) ∧ z_RL A m T0 r.1) := by
  unfold f_X8_readsCalls
  simp (disch := omega) only [q_lit, q_nm, q_add, q_wr]
  rw [show m + 2 = 2 + m by omega]
  refine q_mono (q_readsCalls_13 (q_st T0 7 m (nI 0)) A hA ⟨fun t ht => by rw [q_stN _ _ _ (by omega)]; exact hT.1 t ht, fun i hi => by rw [q_stN _ _ _ (by omega)]; exact hT.2 i hi⟩ m hm (by rw [q_stS, pk_us]) tg_F 0 _ (by decide) (by decide) (fun k j => by grind)) (fun r hr => ⟨hr.1, hr.2.1, hr.2.2.1, fun k j hk hj => ?_⟩)
  rw [hr.2.2.2 k j hk hj, q_stA]
  grind
/-- the reference's cells behind reads -/
def z_RD (A : Nat → Nat → Nat) (T0 T : tg_S) : Prop := (∀ m, m < 2 → T 3 m = nI (z_sz A m) ∧ T 7 m = nI (z_sl A (2 + m))) ∧ (∀ k, k < 16 → z_C A 0 k = 1 → T 4 k = nI (z_C A 1 k) ∧ T 5 k = nI (z_C A 2 k) ∧ T 6 k = nI (z_C A 3 k)) ∧ (∀ j, j < 48 → T 8 j = nI (z_C A 5 j)) ∧ ∀ k j, k < 3 ∨ 8 < k → T k j = T0 k j
theorem q_faultOf (T0 : tg_S) (A : Nat → Nat → Nat) (hA : z_tok A) (hT : z_tr T0 A) (t : Nat) (ht : t < 4) : q_tr (f_X8_faultOf T0 (nI t)) (fun r => r.2 = z_fi (z_fa A t) ∧ z_RD A T0 r.1) := by
  have keep : ∀ (T : tg_S), (∀ k j, k < 3 ∨ 8 < k → T k j = T0 k j) → z_tr T A := fun T h => ⟨fun t ht => by rw [h _ _ (by omega)]; exact hT.1 t ht, fun i hi => by rw [h _ _ (by omega)]; exact hT.2 i hi⟩
  unfold f_X8_faultOf
  refine q_bd (q_readsTeam T0 A hA hT 0 (by omega)) (fun S1 r1 h1 => ?_)
  obtain ⟨e1, a1, a2, a3⟩ := h1
  dsimp only at e1 a1 a2 a3
  have k1 : ∀ k j, k < 3 ∨ 8 < k → S1 k j = T0 k j := fun k j h => a3 k j (by omega) (by omega)
  refine q_bd (q_readsTeam S1 A hA (keep S1 k1) 1 (by omega)) (fun S2 r2 h2 => ?_)
  obtain ⟨e2, b1, b2, b3⟩ := h2
  dsimp only at e2 b1 b2 b3
  have k2 : ∀ k j, k < 3 ∨ 8 < k → S2 k j = T0 k j := fun k j h => by rw [b3 k j (by omega) (by omega)]; exact k1 k j h
  refine q_bd (q_readsCalls S2 A hA (keep S2 k2) 0 (by omega)) (fun S3 r3 h3 => ?_)
  obtain ⟨e3, c1, c2, c3⟩ := h3
  dsimp only at e3 c1 c2 c3
  have k3 : ∀ k j, k < 3 ∨ 8 < k → S3 k j = T0 k j := fun k j h => by rw [c3 k j (by omega) (by omega)]; exact k2 k j h
  refine q_bd (q_readsCalls S3 A hA (keep S3 k3) 1 (by omega)) (fun S4 r4 h4 => ?_)
  obtain ⟨e4, d1, d2, d3⟩ := h4
  dsimp only at e4 d1 d2 d3
  have k4 : ∀ k j, k < 3 ∨ 8 < k → S4 k j = T0 k j := fun k j h => by rw [d3 k j (by omega) (by omega)]; exact k3 k j h
  have RD : z_RD A T0 S4 := by
    refine ⟨fun m hm => ?_, fun k hk h0 => ?_, fun j hj => ?_, k4⟩
    · rcases (show m = 0 ∨ m = 1 by omega) with rfl | rfl
      · rw [d3 3 0 (by omega) (by omega), c3 3 0 (by omega) (by omega), b3 3 0 (by omega) (by omega), d3 7 0 (by omega) (by omega)]
        exact ⟨a1, c1⟩
      · rw [d3 3 1 (by omega) (by omega), c3 3 1 (by omega) (by omega)]
        exact ⟨b1, d1⟩
    · have hlt : k % 8 < z_sz A (k / 8) := by simp only [z_C] at h0; grind
      rcases (show k / 8 = 0 ∨ k / 8 = 1 by omega) with q | q
      · rw [q] at hlt
        have := a2 (k % 8) hlt
        rw [show 8 * 0 + k % 8 = k by omega] at this
        rw [d3 _ _ (by omega) (by omega), c3 _ _ (by omega) (by omega), b3 4 k (by omega) (by omega), d3 _ _ (by omega) (by omega), c3 _ _ (by omega) (by omega), b3 5 k (by omega) (by omega), d3 _ _ (by omega) (by omega), c3 _ _ (by omega) (by omega), b3 6 k (by omega) (by omega)]
        exact this
      · rw [q] at hlt
        have := b2 (k % 8) hlt
        rw [show 8 * 1 + k % 8 = k by omega] at this
        rw [d3 4 k (by omega) (by omega), c3 4 k (by omega) (by omega), d3 5 k (by omega) (by omega), c3 5 k (by omega) (by omega), d3 6 k (by omega) (by omega), c3 6 k (by omega) (by omega)]
        exact this
    · by_cases hlt : j < 24
      · rw [d3 8 j (by omega) (by omega)]
        exact c2 j (by omega) (by omega)
      · exact d2 j (by omega) (by omega)
  simp (disch := omega) only [q_lit, q_eq]
  refine q_if (fun h => ?_) (fun h => ?_)
  · subst h; exact q_ret ⟨e1, RD⟩
  · refine q_if (fun h1 => ?_) (fun h1 => ?_)
    · subst h1; exact q_ret ⟨e2, RD⟩
    · refine q_if (fun h2 => ?_) (fun h2 => ?_)
      · subst h2; exact q_ret ⟨e3, RD⟩
      · have : t = 3 := by omega
        subst this; exact q_ret ⟨e4, RD⟩
theorem q_reads (T0 : tg_S) (A : Nat → Nat → Nat) (hA : z_tok A) (hT : z_tr T0 A) : q_tr (f_X8_reads T0) (fun T => z_RD A T0 T) := by
  unfold f_X8_reads
  exact q_bd (q_faultOf T0 A hA hT 0 (by omega)) (fun S r h => q_ret h.2)
/-- behind asTold -/
def z_AT (A : Nat → Nat → Nat) (T0 T : tg_S) : Prop := ((∀ m, m < 2 → T 3 m = nI (z_sz A m) ∧ T 7 m = nI (z_sl A (2 + m))) ∧ (∀ k, k < 16 → z_C A 0 k = 1 → T 4 k = nI (z_C A 1 k) ∧ T 5 k = nI (z_C A 2 k) ∧ T 6 k = nI (z_C A 3 k)) ∧ (∀ j, j < 48 → T 8 j = nI (z_C A 5 j))) ∧ (∀ j, j < 48 → T 12 j = nI (z_C A 5 j)) ∧ (∀ k, k < 16 → T 13 k = nI (k % 8)) ∧ T 0 14 = nI 0 ∧ T 0 16 = -nI 1 ∧ ∀ k j, k < 3 ∨ 8 < k → k ≠ 12 → k ≠ 13 → (k ≠ 0 ∨ j ≠ 14 ∧ j ≠ 16) → T k j = T0 k j
theorem q_asTold_37 (T0 : tg_S) : ∀ (n i : Nat) (T : tg_S), 16 < n + i → i ≤ 16 → (∀ k j, T k j = if k = 13 ∧ j < i then nI (j % 8) else T0 k j) → q_tr (L_X8_asTold_37 n T (nI i)) (fun T2 => ∀ k j, T2 k j = if k = 13 ∧ j < 16 then nI (j % 8) else if k = 0 ∧ j = 16 then -nI 1 else T0 k j) := by
  intro n
  induction n with
  | zero => intro i T h; omega
  | succ n ih =>
    intro i T h hi hI
    show q_tr (f_X8_asTold_37 (L_X8_asTold_37 n) T (nI i)) _
    unfold f_X8_asTold_37
    simp (disch := omega) only [q_lit, q_le, q_rem, q_pf, q_nm, q_add]
    refine q_if (fun h1 => ?_) (fun h1 => ?_)
    · have : i = 16 := by omega
      subst this
      refine q_ret (fun k j => ?_)
      rw [q_stA, hI]
      grind
    · simp (disch := omega) only [q_wr]
      refine ih (i + 1) _ (by omega) (by omega) (fun k j => ?_)
      rw [q_stA, hI]
      clear ih hI
      grind
theorem q_asTold_6 (T0 : tg_S) (Q : tg_S → Prop) (fin : ∀ T : tg_S, (∀ k j, T k j = if k = 12 ∧ j < 48 then T0 8 j else T0 k j) → q_tr (L_X8_asTold_37 tg_F (q_st T 0 14 (nI 0)) (nI 0)) Q) : ∀ (n i : Nat) (T : tg_S), 48 < n + i → i ≤ 48 → (∀ k j, T k j = if k = 12 ∧ j < i then T0 8 j else T0 k j) → q_tr (L_X8_asTold_6 n T (nI i)) Q := by
  intro n
  induction n with
  | zero => intro i T h; omega
  | succ n ih =>
    intro i T h hi hI
    show q_tr (f_X8_asTold_6 (L_X8_asTold_6 n) T (nI i)) _
    unfold f_X8_asTold_6
    simp (disch := omega) only [q_lit, q_le, q_pf, q_nm, q_add]
    refine q_if (fun h1 => ?_) (fun h1 => ?_)
    · have : i = 48 := by omega
      subst this
      exact fin T hI
    · simp (disch := omega) only [q_rd, q_wr]
      refine ih (i + 1) _ (by omega) (by omega) (fun k j => ?_)
      rw [q_stA, hI, hI]
      clear ih hI fin
      grind
theorem q_asTold (T0 : tg_S) (A : Nat → Nat → Nat) (hA : z_tok A) (hT : z_tr T0 A) : q_tr (f_X8_asTold T0) (fun T => z_AT A T0 T) := by
  unfold f_X8_asTold
  refine q_bv (q_reads T0 A hA hT) (fun S1 h1 => ?_)
  obtain ⟨r1, r2, r3, r4⟩ := h1
  refine q_asTold_6 S1 _ (fun T hI => ?_) tg_F 0 S1 (by decide) (by decide) (fun k j => by grind)
  refine q_mono (q_asTold_37 (q_st T 0 14 (nI 0)) tg_F 0 _ (by decide) (by decide) (fun k j => by grind)) (fun T2 h2 => ?_)
  have g : ∀ k j, k < 3 ∨ 3 ≤ k → k ≠ 12 → k ≠ 13 → (k ≠ 0 ∨ j ≠ 14 ∧ j ≠ 16) → T2 k j = S1 k j := fun k j _ h12 h13 h0 => by
    rw [h2, q_stA, hI]
    grind
  refine ⟨⟨fun m hm => ?_, fun k hk h0 => ?_, fun j hj => ?_⟩, fun j hj => ?_, fun k hk => ?_, ?_, ?_, fun k j hk h12 h13 h0 => ?_⟩
  · rw [g _ _ (by omega) (by omega) (by omega) (by omega), g _ _ (by omega) (by omega) (by omega) (by omega)]
    exact r1 m hm
  · rw [g _ _ (by omega) (by omega) (by omega) (by omega), g _ _ (by omega) (by omega) (by omega) (by omega), g _ _ (by omega) (by omega) (by omega) (by omega)]
    exact r2 k hk h0
  · rw [g _ _ (by omega) (by omega) (by omega) (by omega)]
    exact r3 j hj
  · rw [h2, q_stA, hI]
    simp [hj]
    exact r3 j hj
  · rw [h2]
    simp [hk]
  · rw [h2, q_stA]
    simp
  · rw [h2]
    simp
  · rw [g k j (by omega) h12 h13 h0]
    exact r4 k j hk
/-- the events and the mud in the reference's cells -/
def z_xr (T : tg_S) (A : Nat → Nat → Nat) : Prop := T 0 9 = nI (A 5 0) ∧ T 0 8 = nI (A 5 1) ∧ ∀ e, e < 8 → T 9 e = nI (A 2 e) ∧ T 10 e = nI (A 3 e) ∧ T 11 e = nI (A 4 e)
theorem z_AT_rr (A : Nat → Nat → Nat) (T0 T : tg_S) (hE : z_eok A) (hx : z_xr T0 A) (hA : z_tok A) (h : z_AT A T0 T) : z_rr T (z_C A) (nI 0) := by
  obtain ⟨⟨a1, a2, a3⟩, a4, a5, a6, a7, a8⟩ := h
  have hsz : ∀ m, m < 2 → z_sz A m ≤ 8 := fun m hm => by
    have hL : A 0 m ≤ 31 := by have := hA.1 m (by omega); split at this <;> omega
    unfold z_sz z_sl
    split <;> omega
  refine ⟨⟨z_sz A, fun m hm => ⟨(a1 m hm).1, hsz m hm⟩, fun k hk => ?_⟩, a2, ⟨fun k => k % 8, fun k hk => ⟨a5 k hk, by show k % 8 < 8; omega⟩, fun k l _ _ _ _ h1 h2 => by dsimp only at h2; omega, fun k hk h0 => ?_⟩, a4, ⟨?_, a6, fun e he => ?_⟩, ?_⟩
  · rw [a7, q_eqm (by omega)]
    simp only [z_C]
    grind
  · have hk8 : k % 8 < z_sz A (k / 8) := by simp only [z_C] at h0; grind
    have e4 : (z_C A 4 k = 1) = (k % 8 + 1 = z_sz A (k / 8)) := by simp only [z_C]; grind
    rw [e4]
    constructor
    · intro h l hl h0l hd
      have : l % 8 < z_sz A (l / 8) := by simp only [z_C] at h0l; grind
      rw [hd] at this
      show l % 8 ≤ k % 8
      omega
    · intro hall
      have hs8 := hsz (k / 8) (by omega)
      have := hall (8 * (k / 8) + (z_sz A (k / 8) - 1)) (by omega) (by
        simp only [z_C]
        rw [show (8 * (k / 8) + (z_sz A (k / 8) - 1)) % 8 = z_sz A (k / 8) - 1 by omega, show (8 * (k / 8) + (z_sz A (k / 8) - 1)) / 8 = k / 8 by omega]
        grind) (by omega)
      have h2 : (8 * (k / 8) + (z_sz A (k / 8) - 1)) % 8 ≤ k % 8 := this
      rw [show (8 * (k / 8) + (z_sz A (k / 8) - 1)) % 8 = z_sz A (k / 8) - 1 by omega] at h2
      omega
  · rw [a8 _ _ (by omega) (by omega) (by omega) (by omega)]
    exact hx.1
  · have he8 : e < 8 := Nat.lt_of_lt_of_le he hE.1
    rw [a8 _ _ (by omega) (by omega) (by omega) (by omega), a8 _ _ (by omega) (by omega) (by omega) (by omega), a8 _ _ (by omega) (by omega) (by omega) (by omega)]
    exact hx.2.2 e he8
  · rw [a8 _ _ (by omega) (by omega) (by omega) (by omega)]
    exact hx.2.1
