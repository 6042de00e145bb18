-- ===== what ties both states: A 0 lengths, 1 bytes, 2 3 4 events, 5: 0 events, 1 mud, 2 seen; 6 7 what was seen =====
def z_xc (S : tg_S) (A : Nat → Nat → Nat) : Prop := S 19 3 = nI (A 5 0) ∧ S 19 4 = nI 0 ∧ S 11 8 = nI (A 5 1) ∧ ∀ e, e < 8 → S 20 e = nI (A 2 e) ∧ S 21 e = nI (A 3 e) ∧ S 22 e = nI (A 4 e)
def z_told (S : tg_S) (A : Nat → Nat → Nat) : Prop := z_rc S 11 (z_C A) (nI 0) ∧ ∀ m, m < 2 → S 16 m = nI (z_sz A m) ∧ S 17 m = nI (8 * m + z_sz A m) - nI 1
def z_fr (S : tg_S) (A : Nat → Nat → Nat) : Prop := S 0 11 = nI 0 ∨ (S 0 11 = nI 1 ∧ ∀ w, w < 2 ^ A 5 0 → S 51 w = z_wi (z_sim (z_C A) (nI w) 24 1))
def z_snc (S : tg_S) (A : Nat → Nat → Nat) : Prop := S 4 2 = nI (A 5 2) ∧ ∀ i, i < 8 → S 5 i = nI (A 6 i) ∧ S 6 i = nI (A 7 i)
def z_snr (T : tg_S) (A : Nat → Nat → Nat) : Prop := T 0 37 = nI (A 5 2) ∧ ∀ i, i < 8 → T 25 i = nI (A 6 i) ∧ T 26 i = nI (A 7 i)
def z_sok (A : Nat → Nat → Nat) : Prop := A 5 2 ≤ 8 ∧ ∀ i, i < A 5 2 → A 6 i < 24 ∧ A 7 i ≤ 24
def z_aok (A : Nat → Nat → Nat) : Prop := z_tok A ∧ z_eok A ∧ z_sok A
def z_ci (S : tg_S) (A : Nat → Nat → Nat) : Prop := z_tc S A ∧ z_xc S A ∧ z_told S A ∧ z_cs S 35 (z_C A) (nI 0) 24 ∧ z_snc S A ∧ z_fr S A
def z_ri (T : tg_S) (A : Nat → Nat → Nat) : Prop := z_tr T A ∧ z_xr T A ∧ z_snr T A
/-- a sheet is lost on both sides, or has the same form, size and items -/
def z_sh1 (S T : tg_S) (s : Nat) : Prop := (S 10 s = -nI 1 ∧ T 28 s = nI 0) ∨ ∃ n f, n ≤ 60 ∧ f ≤ 2 ∧ S 10 s = nI n ∧ T 30 s = nI n ∧ T 28 s = nI 1 ∧ S 9 s = nI f ∧ T 29 s = nI f ∧ ∀ i, i < n → S 8 (60 * s + i) = T 31 (60 * s + i)
def z_sh (S T : tg_S) : Prop := S 0 3 = T 0 46 ∧ ∀ s, s < 4 → z_sh1 S T s
def z_I (S T : tg_S) (A : Nat → Nat → Nat) : Prop := z_aok A ∧ z_ci S A ∧ z_ri T A ∧ z_sh S T
def z_eq {a : Type} (o1 o2 : Option (tg_S × a)) : Prop := ∃ (S T : tg_S) (r : a) (A : Nat → Nat → Nat), o1 = some (S, r) ∧ o2 = some (T, r) ∧ z_I S T A
theorem z_eq_of {a : Type} {o1 o2 : Option (tg_S × a)} {A : Nat → Nat → Nat} {P : a → Prop} {F : tg_S → Prop} {G : tg_S → Prop} (v : a) (h1 : q_tr o1 (fun r => r.2 = v ∧ F r.1)) (h2 : q_tr o2 (fun r => r.2 = v ∧ G r.1)) (h : ∀ S T, F S → G T → z_I S T A) : z_eq o1 o2 := by
  obtain ⟨⟨S, r⟩, e1, e2, e3⟩ := h1
  obtain ⟨⟨T, r2⟩, g1, g2, g3⟩ := h2
  dsimp only at e2 e3 g2 g3
  rw [e2] at e1
  rw [g2] at g1
  exact ⟨S, T, v, A, e1, g1, h S T e3 g3⟩
-- numbers that callers tell
def z_out (a : Int32) (n : Nat) : Prop := a < 0 ∨ nI n ≤ a
theorem z_dec (a : Int32) (n : Nat) (hn : n < 2147483648) : (∃ i, i < n ∧ a = nI i) ∨ z_out a n := by
  rcases pk_ix a hn with h | h | h
  · exact Or.inr (Or.inl h)
  · exact Or.inr (Or.inr h)
  · exact Or.inl h
theorem q_belowI (S : tg_S) {i n : Nat} (h : i < n) (hn : n < 2147483648) : f_X7_isBelow S (nI i) (nI n) = some (S, nI 1) := by
  unfold f_X7_isBelow
  simp (disch := omega) only [q_lit, q_lt, q_le, q_ifF]
theorem q_belowO (S : tg_S) {a : Int32} {n : Nat} (h : z_out a n) : f_X7_isBelow S a (nI n) = some (S, nI 0) := by
  unfold f_X7_isBelow
  rcases h with h | h
  · rw [q_ifT h]; rfl
  · by_cases h0 : a < 0
    · rw [q_ifT h0]; rfl
    · rw [q_ifF h0, q_ifT h]; rfl
theorem q_inI (T : tg_S) {i n : Nat} (h : i < n + 1) (hn : n + 1 < 2147483648) : f_X8_in T (nI i) (nI 0) (nI n) = some (T, nI 1) := by
  rw [q_in]
  simp (disch := omega) only [q_lt, if_neg]
theorem q_inO (T : tg_S) {a : Int32} {n : Nat} (h : z_out a (n + 1)) (hn : n + 1 < 2147483648) : f_X8_in T a (nI 0) (nI n) = some (T, nI 0) := by
  rw [q_in]
  rw [nI_0]
  rcases h with h | h
  · rw [if_pos h]
  · split
    · rfl
    · rw [if_pos]
      exact Int32.lt_of_lt_of_le ((q_lt (a := n) (b := n + 1) (by omega) (by omega)).mpr (Nat.lt_succ_self n)) h
theorem q_bz1 {a : Type} (k : Option a) : tg_bz (nI 1) k = k := rfl
theorem q_bz0 {a : Type} (k : Option a) : tg_bz (nI 0) k = k := rfl
-- playing anew
theorem z_rc_congr2 {S S0 : tg_S} {t : Nat} {C : Nat → Nat → Nat} {mi : Int32} (h : ∀ k j, t ≤ k → k ≤ t + 11 → S k j = S0 k j) (hr : z_rc S0 t C mi) : z_rc S t C mi := by
  obtain ⟨h1, h2, h3, h4, h5⟩ := hr
  refine ⟨fun k hk => by rw [h _ _ (by omega) (by omega)]; exact h1 k hk, fun k hk h0 => ?_, fun j hj => by rw [h _ _ (by omega) (by omega)]; exact h3 j hj, ⟨by rw [h _ _ (by omega) (by omega)]; exact h4.1, by rw [h _ _ (by omega) (by omega)]; exact h4.2.1, fun e he => ?_⟩, by rw [h _ _ (by omega) (by omega)]; exact h5⟩
  · rw [h _ _ (by omega) (by omega), h _ _ (by omega) (by omega), h _ _ (by omega) (by omega), h _ _ (by omega) (by omega)]
    exact h2 k hk h0
  · rw [h _ _ (by omega) (by omega), h _ _ (by omega) (by omega), h _ _ (by omega) (by omega)]
    exact h4.2.2 e he
theorem z_TX_rc (A : Nat → Nat → Nat) (hA : z_tok A) (hE : z_eok A) (S0 S : tg_S) (hx : z_xc S0 A) (h : z_TX A S0 S) : z_told S A := by
  obtain ⟨h1, h2, h3, h4⟩ := h
  refine ⟨⟨fun k hk => (h1 k hk).1, fun k hk h0 => ?_, h3, ⟨?_, ?_, fun e he => ?_⟩, ?_⟩, h2⟩
  · obtain ⟨a1, a2, a3⟩ := (h1 k hk).2 h0
    refine ⟨a1, a2, a3, ?_⟩
    have hlt : k % 8 < z_sz A (k / 8) := by simp only [z_C] at h0; grind
    have hL : A 0 (k / 8) ≤ 31 := by have := hA.1 (k / 8) (by omega); split at this <;> omega
    have hsz : z_sz A (k / 8) ≤ 8 := by unfold z_sz z_sl; split <;> omega
    show S 17 (k / 8) = nI k ↔ _
    rw [(h2 (k / 8) (by omega)).2, q_sub (by omega), q_eq (by omega) (by omega)]
    have e4 : (z_C A 4 k = 1) = (k % 8 + 1 = z_sz A (k / 8)) := by simp only [z_C]; grind
    rw [e4]
    omega
  · show S 19 3 = _
    rw [h4 _ _ (by omega)]; exact hx.1
  · show S 19 4 = _
    rw [h4 _ _ (by omega)]; exact hx.2.1
  · show S 20 e = _ ∧ S 21 e = _ ∧ S 22 e = _
    rw [h4 _ _ (by omega), h4 _ _ (by omega), h4 _ _ (by omega)]
    exact hx.2.2.2 e (Nat.lt_of_lt_of_le he hE.1)
  · show S 11 8 = _
    rw [h4 _ _ (by omega)]; exact hx.2.2.1
theorem q_playTold (S0 : tg_S) (A : Nat → Nat → Nat) (hA : z_tok A) (hE : z_eok A) (h : z_told S0 A) : q_tr (f_X7_playTold S0) (fun S => z_cs S 35 (z_C A) (nI 0) 24 ∧ S 0 11 = nI 0 ∧ ∀ k j, (k < 35 ∨ 41 < k) → (k ≠ 0 ∨ j ≠ 11) → S k j = S0 k j) := by
  unfold f_X7_playTold
  refine q_bd (q_play 35 11 (by omega) S0 (z_C A) (nI 0) (z_C_ok A hA hE) h.1) (fun S1 r h1 => ?_)
  obtain ⟨-, h2, h3⟩ := h1
  dsimp only at h2 h3
  simp only [q_lit, q_pf]
  refine q_ret ⟨?_, by rw [q_stA]; simp, fun k j hk hj => ?_⟩
  · obtain ⟨⟨a1, a2, a3, a4⟩, b1, b2, b3⟩ := h2
    refine ⟨⟨by rw [q_stN _ _ _ (by omega)]; exact a1, by rw [q_stN _ _ _ (by omega)]; exact a2, by rw [q_stN _ _ _ (by omega)]; exact a3, by rw [q_stN _ _ _ (by omega)]; exact a4⟩, fun k hk h0 => by rw [q_stN _ _ _ (by omega)]; exact b1 k hk h0, fun b hb => ?_, fun b k hb hk h0 => ?_⟩
    · rw [q_stN _ _ _ (by omega), q_stN _ _ _ (by omega), q_stN _ _ _ (by omega)]; exact b2 b hb
    · rw [q_stN _ _ _ (by omega), q_stN _ _ _ (by omega)]; exact b3 b k hb hk h0
  · rw [q_stA, h3 k j (by omega)]
    grind
theorem q_playTexts (S0 : tg_S) (A : Nat → Nat → Nat) (hA : z_tok A) (hE : z_eok A) (ht : z_tc S0 A) (hx : z_xc S0 A) : q_tr (f_X7_playTexts S0) (fun S => z_told S A ∧ z_cs S 35 (z_C A) (nI 0) 24 ∧ S 0 11 = nI 0 ∧ ∀ k j, (k < 12 ∨ 18 < k) → (k < 35 ∨ 41 < k) → (k ≠ 0 ∨ j ≠ 11) → S k j = S0 k j) := by
  unfold f_X7_playTexts
  refine q_bv (q_takeTexts S0 A hA ht) (fun S1 h1 => ?_)
  have h2 := z_TX_rc A hA hE S0 S1 hx h1
  refine q_bv (q_playTold S1 A hA hE h2) (fun S2 h3 => q_ret ⟨?_, h3.1, h3.2.1, fun k j hk hk2 hj => by rw [h3.2.2 k j hk2 hj]; exact h1.2.2.2 k j hk⟩)
  refine ⟨z_rc_congr2 (fun k j hk hk2 => h3.2.2 k j (by omega) (by omega)) h2.1, fun m hm => ?_⟩
  · rw [h3.2.2 _ _ (by omega) (by omega), h3.2.2 _ _ (by omega) (by omega)]
    exact h2.2 m hm
