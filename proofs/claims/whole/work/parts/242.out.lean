def z_CO (A : Nat → Nat → Nat) (m p c j : Nat) : Nat := if c = 0 ∧ j = p then 0 else if c = 4 ∧ j / 8 = m ∧ p % 8 + 1 = z_sz A m then (if j % 8 + 2 = z_sz A m then 1 else 0) else z_C A c j
theorem z_CO_ne (A : Nat → Nat → Nat) (m p c j : Nat) (h0 : c ≠ 0) (h4 : c ≠ 4) : z_CO A m p c j = z_C A c j := by simp [z_CO, h0, h4]
theorem z_CO_0 (A : Nat → Nat → Nat) (m p k : Nat) : z_CO A m p 0 k = if k = p then 0 else z_C A 0 k := by simp [z_CO]
theorem z_CO_ok (A : Nat → Nat → Nat) (hA : z_aok A) (m p : Nat) : z_ok (z_CO A m p) := by
  obtain ⟨h1, h2, h3, h4, h5⟩ := z_C_ok A hA.1 hA.2.1
  refine ⟨fun k hk => ?_, fun j hj => by rw [z_CO_ne _ _ _ _ _ (by omega) (by omega)]; exact h2 j hj, by rw [z_CO_ne _ _ _ _ _ (by omega) (by omega)]; exact h3, fun e he => ?_, by rw [z_CO_ne _ _ _ _ _ (by omega) (by omega)]; exact h5⟩
  · have := h1 k hk
    rw [z_CO_0, z_CO_ne _ _ _ 1 _ (by omega) (by omega), z_CO_ne _ _ _ 2 _ (by omega) (by omega), z_CO_ne _ _ _ 3 _ (by omega) (by omega)]
    grind
  · rw [z_CO_ne _ _ _ _ _ (by omega) (by omega)] at he
    rw [z_CO_ne _ _ _ _ _ (by omega) (by omega), z_CO_ne _ _ _ _ _ (by omega) (by omega), z_CO_ne _ _ _ _ _ (by omega) (by omega)]
    exact h4 e he
theorem z_C0_iff (A : Nat → Nat → Nat) (k : Nat) : z_C A 0 k = 1 ↔ k % 8 < z_sz A (k / 8) := by simp only [z_C]; grind
theorem z_C4_iff (A : Nat → Nat → Nat) (k : Nat) : z_C A 4 k = 1 ↔ k % 8 + 1 = z_sz A (k / 8) := by simp only [z_C]; grind
theorem q_leaveOut (S : tg_S) (A : Nat → Nat → Nat) (hA : z_aok A) (h : z_rc S 23 (z_C A) (nI 0)) (hl : ∀ m, m < 2 → S 29 m = nI (8 * m + z_sz A m) - nI 1) (m p : Nat) (hm : m < 2) (hp1 : 8 * m ≤ p) (hp2 : p < 8 * m + z_sz A m) : q_tr (f_X1_leaveOut S (nI p) (nI m)) (fun S2 => z_rc S2 23 (z_CO A m p) (nI 0) ∧ ∀ k j, k ≠ 24 → k ≠ 29 → S2 k j = S k j) := by
  have hsz := z_szle hA.1 m hm
  have hlm : S 29 m = nI (8 * m + z_sz A m - 1) := by rw [hl m hm, q_sub (by omega)]
  obtain ⟨h1, h2, h3, h4, h5⟩ := h
  unfold f_X1_leaveOut
  simp (disch := omega) only [q_lit, q_wz, q_bool, q_rd, q_stN, hlm, q_eq]
  have all : ∀ (S2 : tg_S) (x : Int32), (∀ k j, S2 k j = if k = 24 ∧ j = p then nI 0 else if k = 29 ∧ j = m then x else S k j) → (∀ k, k < 16 → k / 8 = m → ¬ k = p → z_C A 0 k = 1 → (x = nI k ↔ z_CO A m p 4 k = 1)) → z_rc S2 23 (z_CO A m p) (nI 0) ∧ ∀ k j, k ≠ 24 → k ≠ 29 → S2 k j = S k j := by
    intro S2 x hS hx
    have g : ∀ k j, k ≠ 24 → k ≠ 29 → S2 k j = S k j := fun k j a b => by rw [hS]; simp [a, b]
    refine ⟨⟨fun k hk => ?_, fun k hk h0 => ?_, fun j hj => ?_, ⟨?_, ?_, fun e he => ?_⟩, ?_⟩, g⟩
    · rw [hS, z_CO_0]
      have := h1 k hk
      grind
    · rw [z_CO_0] at h0
      have hkp : ¬ k = p := by intro hh; rw [if_pos hh] at h0; omega
      rw [if_neg hkp] at h0
      obtain ⟨q1, q2, q3, q4⟩ := h2 k hk h0
      rw [g _ _ (by omega) (by omega), g _ _ (by omega) (by omega), g _ _ (by omega) (by omega), z_CO_ne _ _ _ 1 _ (by omega) (by omega), z_CO_ne _ _ _ 2 _ (by omega) (by omega), z_CO_ne _ _ _ 3 _ (by omega) (by omega)]
      refine ⟨q1, q2, q3, ?_⟩
      show S2 29 (k / 8) = nI k ↔ _
      rw [hS]
      by_cases hkm : k / 8 = m
      · rw [if_neg (by omega), if_pos ⟨rfl, hkm⟩]
        exact hx k hk hkm hkp h0
      · rw [if_neg (by omega), if_neg (by omega)]
        have e : z_CO A m p 4 k = z_C A 4 k := by simp [z_CO, hkm]
        rw [e]
        exact q4
    · rw [g _ _ (by omega) (by omega), z_CO_ne _ _ _ _ _ (by omega) (by omega)]; exact h3 j hj
    · rw [g _ _ (by omega) (by omega), z_CO_ne _ _ _ _ _ (by omega) (by omega)]; exact h4.1
    · rw [g _ _ (by omega) (by omega)]; exact h4.2.1
    · rw [z_CO_ne _ _ _ _ _ (by omega) (by omega)] at he
      rw [g _ _ (by omega) (by omega), g _ _ (by omega) (by omega), g _ _ (by omega) (by omega), z_CO_ne _ _ _ _ _ (by omega) (by omega), z_CO_ne _ _ _ _ _ (by omega) (by omega), z_CO_ne _ _ _ _ _ (by omega) (by omega)]
      exact h4.2.2 e he
    · rw [g _ _ (by omega) (by omega), z_CO_ne _ _ _ _ _ (by omega) (by omega)]; exact h5
  refine q_if (fun hlast => ?_) (fun hlast => ?_)
  · simp (disch := omega) only [q_wr]
    refine q_ret (all _ (nI p - nI 1) (fun k j => ?_) (fun k hk hkm hkp h0 => ?_))
    · simp only [q_stA]
      clear all h1 h2 h3 h4 h5
      grind
    · have hk8 := (z_C0_iff A k).mp h0
      rw [hkm] at hk8
      rw [q_sub (by omega), q_eq (by omega) (by omega)]
      unfold z_CO
      rw [if_neg (by omega), if_pos ⟨rfl, hkm, by omega⟩]
      split <;> omega
  · refine q_ret (all _ (nI (8 * m + z_sz A m - 1)) (fun k j => ?_) (fun k hk hkm hkp h0 => ?_))
    · simp only [q_stA]
      have := hlm
      clear all h1 h2 h3 h4 h5
      grind
    · have hk8 := (z_C0_iff A k).mp h0
      have h44 := z_C4_iff A k
      rw [hkm] at hk8 h44
      rw [q_eq (by omega) (by omega)]
      have e : z_CO A m p 4 k = z_C A 4 k := by unfold z_CO; rw [if_neg (by omega), if_neg (by omega)]
      rw [e, h44]
      omega
def z_ot (A : Nat → Nat → Nat) (m : Nat) : Nat → Nat × Nat × Nat
  | 0 => (0, 0, 0)
  | i + 1 => z_of m (z_ot A m i) (8 * m + i) (z_sim (z_CO A m (8 * m + i)) (nI 0) 24 0)
theorem q_outC_L (S0 : tg_S) (A : Nat → Nat → Nat) (hA : z_aok A) (hc : z_ci S0 A) (m : Nat) (hm : m < 2) : ∀ (n i : Nat) (S : tg_S), z_sz A m < n + i → i ≤ z_sz A m → z_cho S m nI (fun _ => -nI 1) (z_ot A m i) → z_cf S0 S → q_tr (L_X7_chooseOut_28 n S (nI m) (nI (8 * m + z_sz A m)) (nI (8 * m + i))) (fun S2 => z_cho S2 m nI (fun _ => -nI 1) (z_ot A m (z_sz A m)) ∧ z_cf S0 S2) := by
  intro n
  have hsz := z_szle hA.1 m hm
  induction n with
  | zero => intro i S h; omega
  | succ n ih =>
    intro i S h hi hch hf
    show q_tr (f_X7_chooseOut_28 (L_X7_chooseOut_28 n) S (nI m) (nI (8 * m + z_sz A m)) (nI (8 * m + i))) _
    unfold f_X7_chooseOut_28
    simp (disch := omega) only [q_lit, q_le]
    refine q_if (fun h1 => ?_) (fun h1 => ?_)
    · have : i = z_sz A m := by omega
      rw [this] at hch
      exact q_ret ⟨hch, hf⟩
    · have hcS := z_ci_cf hc hf
      refine q_bv (q_becomeLike S A hA.2.1 hcS.2.2.1 hcS.2.1) (fun S1 h1 => ?_)
      refine q_bv (q_leaveOut S1 A hA h1.1 h1.2.1 m (8 * m + i) hm (by omega) (by omega)) (fun S2 h2 => ?_)
      have hok : z_sim (z_CO A m (8 * m + i)) (nI 0) 24 0 ≤ 24 := (z_sim_ok (mi := nI 0) (z_CO_ok A hA m (8 * m + i)) 24).1
      refine q_bd (q_play 42 23 (by omega) S2 (z_CO A m (8 * m + i)) (nI 0) (z_CO_ok A hA m _) h2.1) (fun S3 r3 h3 => ?_)
      obtain ⟨e3, -, f3⟩ := h3
      dsimp only at e3 f3
      rw [e3]
      have g : ∀ k j, (k < 23 ∨ 48 < k) → S3 k j = S k j := fun k j hk => by rw [f3 k j (by omega), h2.2 k j (by omega) (by omega), h1.2.2 k j (by omega)]
      have hch3 : z_cho S3 m nI (fun _ => -nI 1) (z_ot A m i) := by
        unfold z_cho at hch ⊢
        rw [g 49 3 (by omega), g 49 0 (by omega), g 49 1 (by omega), g 49 2 (by omega)]
        exact hch
      refine q_bv (q_offer S3 m hm nI (fun _ => -nI 1) _ hch3 (8 * m + i) _ (by rw [q_eqm (by omega)]; exact id) (by omega) _ _ rfl rfl) (fun S4 h4 => ?_)
      simp only [q_nm, q_add]
      rw [show 8 * m + i + 1 = 8 * m + (i + 1) by omega]
      refine ih (i + 1) S4 (by omega) (by omega) h4.1 (z_cf_trans hf (fun k j hk => ?_))
      rw [h4.2 k j (by omega), f3 k j (by omega), h2.2 k j (by omega) (by omega), h1.2.2 k j (by omega)]
theorem q_outC (S : tg_S) (A : Nat → Nat → Nat) (hA : z_aok A) (hc : z_ci S A) {m w : Nat} (hm : m < 2) (hw : w < 2) : q_tr (f_X7_out S (nI m) (nI w)) (fun r => r.2 = z_vc (z_ot A m (z_sz A m)) w ∧ z_cf S r.1) := by
  have hsz := z_szle hA.1 m hm
  unfold f_X7_out f_X7_chooseOut
  simp only [q_lit]
  rw [q_belowI S hm (by omega), q_bdS, q_ifF (by decide), q_belowI S hw (by omega), q_bdS, q_ifF (by decide)]
  obtain ⟨S1, e1, h1⟩ := q_startFor S m nI (fun _ => -nI 1)
  rw [e1, q_bvS]
  have e16 : S1 16 m = nI (z_sz A m) := by rw [h1.2 _ _ (by omega)]; exact (hc.2.2.1.2 m hm).1
  simp (disch := omega) only [q_nm, q_mul, q_rd, e16, q_add]
  rw [show m * 8 + z_sz A m = 8 * m + z_sz A m by omega, show m * 8 = 8 * m + 0 by omega]
  refine q_bv (q_outC_L S A hA hc m hm tg_F 0 S1 (by unfold tg_F; omega) (Nat.zero_le _) h1.1 (fun k j hk => h1.2 k j (by omega))) (fun S2 h2 => ?_)
  rcases (show w = 0 ∨ w = 1 by omega) with rfl | rfl
  · rw [q_ifT rfl]
    refine q_ret ⟨?_, h2.2⟩
    rcases h2.1.2 with ⟨s0, g0, g1, g2⟩ | ⟨s1, g0, g1, g2, -, -⟩
    · rw [z_vc, if_pos s0]; exact g0
    · rw [z_vc, if_neg (by omega), if_pos rfl]; exact g0
  · rw [q_ifF (by decide)]
    refine q_ret ⟨?_, h2.2⟩
    rcases h2.1.2 with ⟨s0, g0, g1, g2⟩ | ⟨s1, g0, g1, g2, -, -⟩
    · rw [z_vc, if_pos s0]; exact g2
    · rw [z_vc, if_neg (by omega), if_neg (by decide)]; exact g2
/-- told in the reference's cells but for who is out -/
def z_ro2 (A : Nat → Nat → Nat) (T : tg_S) : Prop := z_rdk A T ∧ (∀ j, j < 48 → T 12 j = nI (z_C A 5 j)) ∧ (∀ k, k < 16 → T 13 k = nI (k % 8)) ∧ z_er T (z_C A) (nI 0) ∧ T 0 8 = nI (A 5 1)
theorem z_rr_out (T : tg_S) (A : Nat → Nat → Nat) (hA : z_aok A) (h : z_ro2 A T) (m p : Nat) (hm : m < 2) (hp1 : 8 * m ≤ p) (hp2 : p < 8 * m + z_sz A m) (h16 : T 0 16 = nI p) : z_rr T (z_CO A m p) (nI 0) := by
  have hsz := z_szle hA.1 m hm
  obtain ⟨⟨d1, d2, d3⟩, a4, a5, ⟨e1, e2, e3⟩, g⟩ := h
  refine ⟨⟨z_sz A, fun m hm => ⟨(d1 m hm).1, z_szle hA.1 m hm⟩, fun k hk => ?_⟩, fun k hk h0 => ?_, ⟨fun k => k % 8, fun k hk => ⟨a5 k hk, by show k % 8 < 8; omega⟩, fun k l _ _ _ _ h1 h2 => by dsimp only at h2; omega, fun k hk h0 => ?_⟩, fun j hj => by rw [z_CO_ne _ _ _ _ _ (by omega) (by omega)]; exact a4 j hj, ⟨by rw [z_CO_ne _ _ _ _ _ (by omega) (by omega)]; exact e1, e2, fun e he => ?_⟩, by rw [z_CO_ne _ _ _ _ _ (by omega) (by omega)]; exact g⟩
  · rw [h16, q_eq (by omega) (by omega), z_CO_0]
    have := z_C0_iff A k
    grind
  · rw [z_CO_0] at h0
    have hkp : ¬ k = p := by intro hh; rw [if_pos hh] at h0; omega
    rw [if_neg hkp] at h0
    rw [z_CO_ne _ _ _ _ _ (by omega) (by omega), z_CO_ne _ _ _ _ _ (by omega) (by omega), z_CO_ne _ _ _ _ _ (by omega) (by omega)]
    exact d2 k hk h0
  · rw [z_CO_0] at h0
    have hkp : ¬ k = p := by intro hh; rw [if_pos hh] at h0; omega
    rw [if_neg hkp] at h0
    have hk8 := (z_C0_iff A k).mp h0
    show _ ↔ ∀ l, l < 16 → z_CO A m p 0 l = 1 → l / 8 = k / 8 → l % 8 ≤ k % 8
    by_cases hc : k / 8 = m ∧ p % 8 + 1 = z_sz A m
    · have e : (z_CO A m p 4 k = 1) = (k % 8 + 2 = z_sz A m) := by
        unfold z_CO
        rw [if_neg (by omega), if_pos ⟨rfl, hc⟩]
        apply propext
        split <;> omega
      rw [e]
      rw [hc.1] at hk8
      constructor
      · intro h l hl hl0 hd
        rw [z_CO_0] at hl0
        have hlp : ¬ l = p := by intro hh; rw [if_pos hh] at hl0; omega
        rw [if_neg hlp] at hl0
        have := (z_C0_iff A l).mp hl0
        rw [hd, hc.1] at this
        omega
      · intro hall
        have := hall (8 * m + (z_sz A m - 2)) (by omega) (by
          rw [z_CO_0, if_neg (by omega)]
          apply (z_C0_iff A _).mpr
          rw [show (8 * m + (z_sz A m - 2)) % 8 = z_sz A m - 2 by omega, show (8 * m + (z_sz A m - 2)) / 8 = m by omega]
          omega) (by omega)
        rw [show (8 * m + (z_sz A m - 2)) % 8 = z_sz A m - 2 by omega] at this
        omega
    · have e : z_CO A m p 4 k = z_C A 4 k := by unfold z_CO; rw [if_neg (by omega), if_neg (fun hh => hc hh.2)]
      rw [e, z_C4_iff]
      have hs8 := z_szle hA.1 (k / 8) (by omega)
      constructor
      · intro h l hl hl0 hd
        rw [z_CO_0] at hl0
        have hlp : ¬ l = p := by intro hh; rw [if_pos hh] at hl0; omega
        rw [if_neg hlp] at hl0
        have := (z_C0_iff A l).mp hl0
        rw [hd] at this
        omega
      · intro hall
        have := hall (8 * (k / 8) + (z_sz A (k / 8) - 1)) (by omega) (by
          have hne : ¬ 8 * (k / 8) + (z_sz A (k / 8) - 1) = p := by
            intro hh
            have : k / 8 = m := by omega
            rw [this] at hh
            omega
          rw [z_CO_0, if_neg hne]
          apply (z_C0_iff A _).mpr
          rw [show (8 * (k / 8) + (z_sz A (k / 8) - 1)) % 8 = z_sz A (k / 8) - 1 by omega, show (8 * (k / 8) + (z_sz A (k / 8) - 1)) / 8 = k / 8 by omega]
          omega) (by omega)
        rw [show (8 * (k / 8) + (z_sz A (k / 8) - 1)) % 8 = z_sz A (k / 8) - 1 by omega] at this
        omega
  · rw [z_CO_ne _ _ _ _ _ (by omega) (by omega)] at he
    rw [z_CO_ne _ _ _ _ _ (by omega) (by omega), z_CO_ne _ _ _ _ _ (by omega) (by omega), z_CO_ne _ _ _ _ _ (by omega) (by omega)]
    exact e3 e he
theorem z_ro2_congr {A : Nat → Nat → Nat} {T T0 : tg_S} (h : ∀ k j, k ≠ 0 → k < 14 → T k j = T0 k j) (h0 : ∀ j, (j = 8 ∨ j = 9 ∨ j = 14) → T 0 j = T0 0 j) (hr : z_ro2 A T0) : z_ro2 A T := by
  obtain ⟨⟨d1, d2, d3⟩, a4, a5, ⟨e1, e2, e3⟩, g⟩ := hr
  refine ⟨⟨fun m hm => by rw [h _ _ (by omega) (by omega), h _ _ (by omega) (by omega)]; exact d1 m hm, fun k hk hk0 => by rw [h _ _ (by omega) (by omega), h _ _ (by omega) (by omega), h _ _ (by omega) (by omega)]; exact d2 k hk hk0, fun j hj => by rw [h _ _ (by omega) (by omega)]; exact d3 j hj⟩, fun j hj => by rw [h _ _ (by omega) (by omega)]; exact a4 j hj, fun k hk => by rw [h _ _ (by omega) (by omega)]; exact a5 k hk, ⟨by rw [h0 _ (by omega)]; exact e1, by rw [h0 _ (by omega)]; exact e2, fun e he => by rw [h _ _ (by omega) (by omega), h _ _ (by omega) (by omega), h _ _ (by omega) (by omega)]; exact e3 e he⟩, by rw [h0 _ (by omega)]; exact g⟩
theorem z_rr_ro2 {A : Nat → Nat → Nat} {T : tg_S} (h : z_rr T (z_C A) (nI 0)) (hd : z_rdk A T) (h13 : ∀ k, k < 16 → T 13 k = nI (k % 8)) : z_ro2 A T := by
  obtain ⟨-, -, -, d, e, g⟩ := h
  exact ⟨hd, d, h13, e, g⟩
theorem q_outR_L (T0 : tg_S) (A : Nat → Nat → Nat) (hA : z_aok A) (m w : Nat) (hm : m < 2) (hw : w < 2) : ∀ (n i : Nat) (T : tg_S), z_sz A m < n + i → i ≤ z_sz A m → z_ro2 A T → z_tri T (z_ot A m i) → z_rf T0 T → q_tr (L_X8_outOf_9 n T (nI m) (nI w) (nI (8 * m + i))) (fun r => r.2 = z_vc (z_ot A m (z_sz A m)) w ∧ z_ro A T0 r.1) := by
  intro n
  have hsz := z_szle hA.1 m hm
  induction n with
  | zero => intro i T h; omega
  | succ n ih =>
    intro i T h hi hr ht hf
    show q_tr (f_X8_outOf_9 (L_X8_outOf_9 n) T (nI m) (nI w) (nI (8 * m + i))) _
    unfold f_X8_outOf_9
    have e3 : T 3 m = nI (z_sz A m) := (hr.1.1 m hm).1
    simp (disch := omega) only [q_lit, q_rd, e3, q_mul, q_add, q_le, q_eq]
    refine q_if (fun h1 => ?_) (fun h1 => ?_)
    · have : i = z_sz A m := by omega
      rw [this] at ht
      rcases (show w = 0 ∨ w = 1 by omega) with rfl | rfl
      · rw [q_ifT rfl]
        refine q_ret ⟨?_, hf, hr.1⟩
        rcases ht with ⟨s0, g0, g1⟩ | ⟨s1, g0, g1, -, -⟩
        · rw [z_vc, if_pos s0]; exact g0
        · rw [z_vc, if_neg (by omega), if_pos rfl]; exact g0
      · rw [q_ifF (by decide)]
        refine q_ret ⟨?_, hf, hr.1⟩
        rcases ht with ⟨s0, g0, g1⟩ | ⟨s1, g0, g1, -, -⟩
        · rw [z_vc, if_pos s0]; exact g1
        · rw [z_vc, if_neg (by omega), if_neg (by decide)]; exact g1
    · simp only [q_pf]
      have hr1 : z_ro2 A (q_st T 0 16 (nI (8 * m + i))) := z_ro2_congr (fun k j hk _ => by rw [q_stN _ _ _ hk]) (fun j hj => by rw [q_stA]; grind) hr
      have hrr := z_rr_out _ A hA hr1 m (8 * m + i) hm (by omega) (by omega) (by rw [q_stS, pk_us])
      have ht1 : z_tri (q_st T 0 16 (nI (8 * m + i))) (z_ot A m i) := by
        unfold z_tri at ht ⊢
        rw [show q_st T 0 16 (nI (8 * m + i)) 0 34 = T 0 34 by rw [q_stA]; simp, show q_st T 0 16 (nI (8 * m + i)) 0 35 = T 0 35 by rw [q_stA]; simp]
        exact ht
      refine q_bv (q_tries _ (z_CO A m (8 * m + i)) (nI 0) (z_CO_ok A hA m _) hrr m hm _ ht1 (8 * m + i) (by omega)) (fun T2 h2 => ?_)
      simp only [q_nm, q_add]
      rw [show 8 * m + i + 1 = 8 * m + (i + 1) by omega]
      refine ih (i + 1) T2 (by omega) (by omega) (z_ro2_congr (fun k j _ hk => h2.2 k j (by omega) (by omega)) (fun j hj => h2.2 0 j (by omega) (by omega)) hr1) h2.1 (z_rf_trans hf ⟨fun k j hk => ?_, fun j hj => ?_⟩)
      · rw [h2.2 k j (by omega) (by omega), q_stN _ _ _ (by omega)]
      · rw [h2.2 0 j (by omega) (by omega), q_stA]
        grind
theorem q_outR (T : tg_S) (A : Nat → Nat → Nat) (hA : z_aok A) (h : z_ri T A) {m w : Nat} (hm : m < 2) (hw : w < 2) : q_tr (f_X8_outOf T (nI m) (nI w)) (fun r => r.2 = z_vc (z_ot A m (z_sz A m)) w ∧ z_ro A T r.1) := by
  have hsz := z_szle hA.1 m hm
  unfold f_X8_outOf
  refine q_bv (q_starts T A hA h) (fun T1 h1 => ?_)
  simp only [q_lit, q_nm, q_mul]
  rw [show 8 * m = 8 * m + 0 by omega]
  exact q_outR_L T A hA m w hm hw tg_F 0 T1 (by unfold tg_F; omega) (Nat.zero_le _) (z_rr_ro2 h1.1 h1.2.1.2 h1.2.2.2) h1.2.2.1 h1.2.1.1
theorem e_out (S T : tg_S) (A : Nat → Nat → Nat) (hI : z_I S T A) (a b : Int32) : z_eq (f_X7_out S a b) (f_X8_out T a b) := by
  rcases z_dec a 2 (by omega) with ⟨m, hm, rfl⟩ | ha
  · rcases z_dec b 2 (by omega) with ⟨w, hw, rfl⟩ | hb
    · refine z_eq_q _ hI (q_outC S A hI.1 hI.2.1 hm hw) ?_
      unfold f_X8_out
      simp only [q_lit]
      rw [q_isTwo T hm, q_bdS, q_ifF (by decide), q_isTwo T hw, q_bdS, q_ifF (by decide)]
      exact q_bd (q_outR T A hI.1 hI.2.2.1 hm hw) (fun T2 r h => q_ret ⟨h.1, h.2.1⟩)
    · unfold f_X7_out f_X8_out
      simp only [q_lit]
      rw [q_belowI S hm (by omega), q_bdS, q_ifF (by decide), q_belowO S hb, q_bdS, q_ifT rfl, q_isTwo T hm, q_bdS, q_ifF (by decide), q_isTwoO T hb, q_bdS, q_ifT rfl]
      exact z_eq_ret _ hI
  · unfold f_X7_out f_X8_out
    simp only [q_lit]
    rw [q_belowO S ha, q_bdS, q_ifT rfl, q_isTwoO T ha, q_bdS, q_ifT rfl]
    exact z_eq_ret _ hI
