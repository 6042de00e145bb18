-- ===== the contest out of the texts: A 2 3 4 events, A 5: 0 how many, 1 mud =====
def z_sz (A : Nat → Nat → Nat) (m : Nat) : Nat := (z_sl A m + 1) / 4
def z_C (A : Nat → Nat → Nat) (c j : Nat) : Nat :=
  if c = 0 then (if j % 8 < z_sz A (j / 8) then 1 else 0)
  else if c = 1 then z_sr (A 1 (31 * (j / 8) + 4 * (j % 8)))
  else if c = 2 then A 1 (31 * (j / 8) + (4 * (j % 8) + 1)) - 48
  else if c = 3 then A 1 (31 * (j / 8) + (4 * (j % 8) + 2)) - 48
  else if c = 4 then (if j % 8 + 1 = z_sz A (j / 8) then 1 else 0)
  else if c = 5 then (if j % 24 < z_sl A (2 + j / 24) then z_cl (A 1 (31 * (2 + j / 24) + j % 24)) else 1)
  else if c = 6 then A 2 j else if c = 7 then A 3 j else if c = 8 then A 4 j else A 5 j
def z_eok (A : Nat → Nat → Nat) : Prop := A 5 0 ≤ 8 ∧ (∀ e, e < A 5 0 → A 2 e ≤ 2 ∧ A 3 e < 24 ∧ A 4 e < 16) ∧ A 5 1 ≤ 9
theorem z_C_ok (A : Nat → Nat → Nat) (hA : z_tok A) (hE : z_eok A) : z_ok (z_C A) := by
  refine ⟨fun k hk => ⟨by simp only [z_C]; grind, fun h0 => ?_⟩, fun j hj => ?_, hE.1, fun e he => hE.2.1 e he, hE.2.2⟩
  · have hlt : k % 8 < z_sz A (k / 8) := by simp only [z_C] at h0; grind
    obtain ⟨-, -, -, g0, g1, g2⟩ := z_team A hA (k / 8) (k % 8) (by omega) hlt
    simp only [z_C, z_sr]
    simp only [z_go] at g0 g1 g2
    grind
  · simp only [z_C]
    by_cases h : j % 24 < z_sl A (2 + j / 24)
    · have := (z_calls A hA (2 + j / 24) (j % 24) (by omega) (by omega) h).2
      simp [h]
      exact this
    · simp [h]
theorem q_sortOf (S : tg_S) (b : Nat) (hb : b < 256) (h : z_go 0 b) : f_X6_sortOf S (nI b) = some (S, nI (z_sr b)) := by
  unfold f_X6_sortOf tg_if z_sr
  simp (disch := omega) only [q_lit, q_eq]
  simp only [z_go] at h
  grind
theorem q_bool (n : Nat) (h : n ≤ 1) : vp_nar .boolean (nI n) = nI n := by
  rcases (show n = 0 ∨ n = 1 by omega) with rfl | rfl <;> rfl
theorem q_takeTeam_L (S0 : tg_S) (A : Nat → Nat → Nat) (hA : z_tok A) (hS : z_tc S0 A) (m : Nat) (hm : m < 2) (h16 : S0 16 m = nI (z_sz A m)) : ∀ (n i : Nat) (S : tg_S), 8 < n + i → i ≤ 8 → (∀ k j, S k j = if (k = 12 ∧ 8 * m ≤ j ∧ j < 8 * m + i) ∨ ((k = 13 ∨ k = 14 ∨ k = 15) ∧ 8 * m ≤ j ∧ j < 8 * m + i ∧ z_C A 0 j = 1) then nI (z_C A (k - 12) j) else S0 k j) → q_tr (L_X1_takeTeam_36 n S (nI m) (nI i)) (fun S2 => ∀ k j, S2 k j = if (k = 12 ∧ 8 * m ≤ j ∧ j < 8 * m + 8) ∨ ((k = 13 ∨ k = 14 ∨ k = 15) ∧ 8 * m ≤ j ∧ j < 8 * m + 8 ∧ z_C A 0 j = 1) then nI (z_C A (k - 12) j) else S0 k j) := by
  intro n
  induction n with
  | zero => intro i S h; omega
  | succ n ih =>
    intro i S h hi hI
    have f : ∀ k j, k < 12 ∨ 15 < k → S k j = S0 k j := fun k j h => by rw [hI]; grind
    show q_tr (f_X1_takeTeam_36 (L_X1_takeTeam_36 n) S (nI m) (nI i)) _
    unfold f_X1_takeTeam_36
    have e16 : S 16 m = nI (z_sz A m) := by rw [f _ _ (by omega)]; exact h16
    have hL : A 0 m ≤ 31 := by have := hA.1 m (by omega); split at this <;> omega
    have hsl : z_sl A m ≤ 31 := by unfold z_sl; split <;> omega
    have hsz : z_sz A m ≤ 8 := by unfold z_sz; omega
    simp (disch := omega) only [q_lit, q_le, q_nm, q_mul, q_add, q_rd, e16]
    refine q_if (fun h1 => ?_) (fun h1 => ?_)
    · have : i = 8 := by omega
      subst this
      exact q_ret hI
    · have hS2 : ∀ (S2 : tg_S), (∀ k j, k < 12 → S2 k j = S0 k j) → z_tc S2 A := fun S2 h2 => ⟨fun t ht => by rw [h2 _ _ (by omega)]; exact hS.1 t ht, fun i hi => by rw [h2 _ _ (by omega)]; exact hS.2 i hi⟩
      have e1 : (if z_sz A m ≤ i then nI 0 else nI 1) = nI (z_C A 0 (8 * m + i)) := by
        simp only [z_C, show (8 * m + i) % 8 = i by omega, show (8 * m + i) / 8 = m by omega]
        grind
      have hle : z_C A 0 (8 * m + i) ≤ 1 := by simp only [z_C]; grind
      rw [e1, show m * 8 + i = 8 * m + i by omega]
      unfold f_X1_takeTeam_71 f_X1_takeTeam_140
      simp (disch := omega) only [q_lit, q_wz, q_bool, q_rd, q_stS, pk_us, q_eq, q_nm, q_add]
      have go : ∀ S2 : tg_S, (∀ k j, S2 k j = if (k = 12 ∧ 8 * m ≤ j ∧ j < 8 * m + (i + 1)) ∨ ((k = 13 ∨ k = 14 ∨ k = 15) ∧ 8 * m ≤ j ∧ j < 8 * m + (i + 1) ∧ z_C A 0 j = 1) then nI (z_C A (k - 12) j) else S0 k j) → q_tr (L_X1_takeTeam_36 n S2 (nI m) (nI (i + 1))) (fun S2 => ∀ k j, S2 k j = if (k = 12 ∧ 8 * m ≤ j ∧ j < 8 * m + 8) ∨ ((k = 13 ∨ k = 14 ∨ k = 15) ∧ 8 * m ≤ j ∧ j < 8 * m + 8 ∧ z_C A 0 j = 1) then nI (z_C A (k - 12) j) else S0 k j) := fun S2 h2 => ih (i + 1) S2 (by omega) (by omega) h2
      clear ih
      refine q_if (fun a => ?_) (fun a => ?_)
      · refine go _ (fun k j => ?_)
        simp only [q_stA]
        rw [hI]
        clear go hI f hS2
        grind (splits := 20)
      · have h0 : z_C A 0 (8 * m + i) = 1 := by omega
        have hlt : i < z_sz A m := by
          simp only [z_C, show (8 * m + i) % 8 = i by omega, show (8 * m + i) / 8 = m by omega] at h0
          grind
        obtain ⟨hb3, hi8, -, g0, g1, g2⟩ := z_team A hA m i hm hlt
        have w0 := hA.2 (31 * m + 4 * i)
        have w1 := hA.2 (31 * m + (4 * i + 1))
        have w2 := hA.2 (31 * m + (4 * i + 2))
        have c1 : 48 ≤ A 1 (31 * m + (4 * i + 1)) := by simp only [z_go] at g1; grind
        have c2 : 48 ≤ A 1 (31 * m + (4 * i + 2)) := by simp only [z_go] at g2; grind
        have v1 : z_C A 1 (8 * m + i) = z_sr (A 1 (31 * m + 4 * i)) := by simp only [z_C, show (8 * m + i) % 8 = i by omega, show (8 * m + i) / 8 = m by omega]; simp
        have v2 : z_C A 2 (8 * m + i) = A 1 (31 * m + (4 * i + 1)) - 48 := by simp only [z_C, show (8 * m + i) % 8 = i by omega, show (8 * m + i) / 8 = m by omega]; simp
        have v3 : z_C A 3 (8 * m + i) = A 1 (31 * m + (4 * i + 2)) - 48 := by simp only [z_C, show (8 * m + i) % 8 = i by omega, show (8 * m + i) / 8 = m by omega]; simp
        simp only [q_mul, q_add]
        rw [q_byteAt _ A hA (hS2 _ (fun k j hk => by rw [q_stN _ _ _ (by omega), f _ _ (by omega)])) m (4 * i) (by omega) (by omega), q_bdS, q_sortOf _ _ w0 g0, q_bdS]
        simp (disch := omega) only [q_wr]
        rw [q_byteAt _ A hA (hS2 _ (fun k j hk => by rw [q_stN _ _ _ (by omega), q_stN _ _ _ (by omega), f _ _ (by omega)])) m (4 * i + 1) (by omega) (by omega), q_bdS]
        simp (disch := omega) only [q_wr, q_sub]
        rw [q_byteAt _ A hA (hS2 _ (fun k j hk => by rw [q_stN _ _ _ (by omega), q_stN _ _ _ (by omega), q_stN _ _ _ (by omega), f _ _ (by omega)])) m (4 * i + 2) (by omega) (by omega), q_bdS]
        simp (disch := omega) only [q_wr, q_sub]
        refine go _ (fun k j => ?_)
        rw [← v1, ← v2, ← v3]
        simp only [q_stA]
        rw [hI]
        clear go hI f hS2 g0 g1 g2 v1 v2 v3
        grind (splits := 24)
/-- what takeTeam makes of a team -/
def z_TT (A : Nat → Nat → Nat) (m : Nat) (S0 : tg_S) (k j : Nat) : Int32 :=
  if (k = 12 ∧ 8 * m ≤ j ∧ j < 8 * m + 8) ∨ ((k = 13 ∨ k = 14 ∨ k = 15) ∧ 8 * m ≤ j ∧ j < 8 * m + 8 ∧ z_C A 0 j = 1) then nI (z_C A (k - 12) j)
  else if k = 16 ∧ j = m then nI (z_sz A m) else if k = 17 ∧ j = m then nI (8 * m + z_sz A m) - nI 1 else S0 k j
theorem q_takeTeam (S0 : tg_S) (A : Nat → Nat → Nat) (hA : z_tok A) (hS : z_tc S0 A) (m : Nat) (hm : m < 2) : q_tr (f_X1_takeTeam S0 (nI m)) (fun S2 => ∀ k j, S2 k j = z_TT A m S0 k j) := by
  have hL : A 0 m ≤ 31 := by have := hA.1 m (by omega); split at this <;> omega
  have hsl : z_sl A m ≤ 31 := by unfold z_sl; split <;> omega
  unfold f_X1_takeTeam
  rw [q_soundLength S0 A hA hS m (by omega), q_bdS]
  simp (disch := omega) only [q_lit, q_add, q_div, q_wr, q_rd, q_stS, pk_us, q_mul]
  rw [show (z_sl A m + 1) / 4 = z_sz A m from rfl, show m * 8 + z_sz A m = 8 * m + z_sz A m by omega]
  refine q_mono (q_takeTeam_L (q_st (q_st S0 16 m (nI (z_sz A m))) 17 m (nI (8 * m + z_sz A m) - nI 1)) A hA ⟨fun t ht => by rw [q_stN _ _ _ (by omega), q_stN _ _ _ (by omega)]; exact hS.1 t ht, fun i hi => by rw [q_stN _ _ _ (by omega), q_stN _ _ _ (by omega)]; exact hS.2 i hi⟩ m hm (by rw [q_stN _ _ _ (by omega), q_stS, pk_us]) tg_F 0 _ (by decide) (by decide) (fun k j => by grind)) (fun S2 h2 k j => ?_)
  rw [h2]
  simp only [q_stA, z_TT]
  clear h2 hS
  grind
/-- what takeCalls makes -/
def z_TK (A : Nat → Nat → Nat) (m : Nat) (S0 : tg_S) (k j : Nat) : Int32 := if k = 18 ∧ 24 * m ≤ j ∧ j < 24 * m + 24 then nI (z_C A 5 j) else S0 k j
theorem q_takeCalls_L (S0 : tg_S) (A : Nat → Nat → Nat) (hA : z_tok A) (hS : z_tc S0 A) (m : Nat) (hm : m < 2) : ∀ (n i : Nat) (S : tg_S), 24 < n + i → i ≤ 24 → (∀ k j, S k j = if k = 18 ∧ 24 * m ≤ j ∧ j < 24 * m + i then nI (z_C A 5 j) else S0 k j) → q_tr (L_X1_takeCalls_14 n S (nI m) (nI (2 + m)) (nI (z_sl A (2 + m))) (nI i)) (fun S2 => ∀ k j, S2 k j = z_TK A m S0 k j) := by
  intro n
  induction n with
  | zero => intro i S h; omega
  | succ n ih =>
    intro i S h hi hI
    have hL : A 0 (2 + m) ≤ 24 := by have := hA.1 (2 + m) (by omega); split at this <;> omega
    have hsl : z_sl A (2 + m) ≤ 24 := by unfold z_sl; split <;> omega
    show q_tr (f_X1_takeCalls_14 (L_X1_takeCalls_14 n) S (nI m) (nI (2 + m)) (nI (z_sl A (2 + m))) (nI i)) _
    unfold f_X1_takeCalls_14 f_X1_takeCalls_53
    simp (disch := omega) only [q_lit, q_le, q_mul, q_add, q_wr, q_nm]
    refine q_if (fun h1 => ?_) (fun h1 => ?_)
    · have : i = 24 := by omega
      subst this
      exact q_ret (fun k j => by rw [hI]; rfl)
    · have e5 : z_C A 5 (24 * m + i) = if i < z_sl A (2 + m) then z_cl (A 1 (31 * (2 + m) + i)) else 1 := by
        simp only [z_C, show (24 * m + i) % 24 = i by omega, show (24 * m + i) / 24 = m by omega]
        simp
      refine q_if (fun h2 => ?_) (fun h2 => ?_)
      · simp (disch := omega) only [q_wr]
        refine ih (i + 1) _ (by omega) (by omega) (fun k j => ?_)
        simp only [q_stA]
        rw [hI]
        rw [if_neg (by omega)] at e5
        clear ih hI hS
        grind
      · have hSS : z_tc S A := ⟨fun t ht => by rw [hI]; simp; exact hS.1 t ht, fun i hi => by rw [hI]; simp; exact hS.2 i hi⟩
        obtain ⟨q1, q2⟩ := z_calls A hA (2 + m) i (by omega) (by omega) (by omega)
        rw [q_byteAt S A hA hSS (2 + m) i (by omega) (by omega), q_bdS, q_callOf S _ (hA.2 _), q_bdS, if_neg (by omega)]
        simp (disch := omega) only [q_wr]
        refine ih (i + 1) _ (by omega) (by omega) (fun k j => ?_)
        simp only [q_stA]
        rw [hI]
        rw [if_pos (by omega)] at e5
        clear ih hI hS hSS
        grind
theorem q_takeCalls (S0 : tg_S) (A : Nat → Nat → Nat) (hA : z_tok A) (hS : z_tc S0 A) (m : Nat) (hm : m < 2) : q_tr (f_X1_takeCalls S0 (nI m)) (fun S2 => ∀ k j, S2 k j = z_TK A m S0 k j) := by
  unfold f_X1_takeCalls
  simp only [q_lit, q_nm, q_add]
  rw [q_soundLength S0 A hA hS (2 + m) (by omega), q_bdS]
  exact q_takeCalls_L S0 A hA hS m hm tg_F 0 S0 (by decide) (by decide) (fun k j => by grind)
/-- the told contest, behind takeTexts -/
def z_TX (A : Nat → Nat → Nat) (S0 S : tg_S) : Prop := (∀ k, k < 16 → S 12 k = nI (z_C A 0 k) ∧ (z_C A 0 k = 1 → S 13 k = nI (z_C A 1 k) ∧ S 14 k = nI (z_C A 2 k) ∧ S 15 k = nI (z_C A 3 k))) ∧ (∀ m, m < 2 → S 16 m = nI (z_sz A m) ∧ S 17 m = nI (8 * m + z_sz A m) - nI 1) ∧ (∀ j, j < 48 → S 18 j = nI (z_C A 5 j)) ∧ ∀ k j, k < 12 ∨ 18 < k → S k j = S0 k j
theorem q_takeTexts (S0 : tg_S) (A : Nat → Nat → Nat) (hA : z_tok A) (hS : z_tc S0 A) : q_tr (f_X1_takeTexts S0) (fun S2 => z_TX A S0 S2) := by
  unfold f_X1_takeTexts
  have keep : ∀ (S : tg_S), (∀ k j, k < 12 ∨ 18 < k → S k j = S0 k j) → z_tc S A := fun S h => ⟨fun t ht => by rw [h _ _ (by omega)]; exact hS.1 t ht, fun i hi => by rw [h _ _ (by omega)]; exact hS.2 i hi⟩
  show q_tr (L_X1_takeTexts_2 (997 + 1 + 1 + 1) S0 (nI 0)) _
  show q_tr (f_X1_takeTexts_2 (L_X1_takeTexts_2 (997 + 1 + 1)) S0 (nI 0)) _
  unfold f_X1_takeTexts_2
  simp (disch := omega) only [q_lit, q_le, q_ifF]
  refine q_bv (q_takeTeam S0 A hA hS 0 (by omega)) (fun S1 h1 => ?_)
  have k1 : ∀ k j, k < 12 ∨ 18 < k → S1 k j = S0 k j := fun k j h => by rw [h1]; unfold z_TT; grind
  refine q_bv (q_takeCalls S1 A hA (keep S1 k1) 0 (by omega)) (fun S2 h2 => ?_)
  have k2 : ∀ k j, k < 12 ∨ 18 < k → S2 k j = S0 k j := fun k j h => by rw [h2, ← k1 k j h]; unfold z_TK; grind
  simp only [q_nm, q_add]
  show q_tr (f_X1_takeTexts_2 (L_X1_takeTexts_2 (997 + 1)) S2 (nI 1)) _
  unfold f_X1_takeTexts_2
  simp (disch := omega) only [q_lit, q_le, q_ifF]
  refine q_bv (q_takeTeam S2 A hA (keep S2 k2) 1 (by omega)) (fun S3 h3 => ?_)
  have k3 : ∀ k j, k < 12 ∨ 18 < k → S3 k j = S0 k j := fun k j h => by rw [h3, ← k2 k j h]; unfold z_TT; grind
  refine q_bv (q_takeCalls S3 A hA (keep S3 k3) 1 (by omega)) (fun S4 h4 => ?_)
  have k4 : ∀ k j, k < 12 ∨ 18 < k → S4 k j = S0 k j := fun k j h => by rw [h4, ← k3 k j h]; unfold z_TK; grind
  simp only [q_nm, q_add]
  show q_tr (f_X1_takeTexts_2 (L_X1_takeTexts_2 997) S4 (nI 2)) _
  unfold f_X1_takeTexts_2
  simp (disch := omega) only [q_lit, q_le, q_ifT]
  refine q_ret ⟨fun k hk => ?_, fun m hm => ?_, fun j hj => ?_, k4⟩
  · rw [h4, h4, h4, h4]
    simp only [z_TK]
    rw [h3, h3, h3, h3]
    simp only [z_TT]
    rw [h2, h2, h2, h2]
    simp only [z_TK]
    rw [h1, h1, h1, h1]
    simp only [z_TT]
    clear h1 h2 h3 h4 k1 k2 k3 k4 keep hS
    grind (splits := 20)
  · rw [h4, h4]
    simp only [z_TK]
    rw [h3, h3]
    simp only [z_TT]
    rw [h2, h2]
    simp only [z_TK]
    rw [h1, h1]
    simp only [z_TT]
    clear h1 h2 h3 h4 k1 k2 k3 k4 keep hS
    rcases (show m = 0 ∨ m = 1 by omega) with rfl | rfl <;> grind
  · rw [h4]
    simp only [z_TK]
    rw [h3]
    simp only [z_TT]
    rw [h2]
    simp only [z_TK]
    clear h1 h2 h3 h4 k1 k2 k3 k4 keep hS
    grind
