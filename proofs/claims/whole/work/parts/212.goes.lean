theorem z_way2 : ∀ d, d < 200 → 0 < d → (¬ nI 0 ≤ -(nI d)) ∧ (-(-(nI d)) = nI d) ∧ ¬ (-(nI d) = nI 0) := by decide +kernel
theorem z_nsub {up dn : Nat} (h : up < dn) : nI up - nI dn = -(nI (dn - up)) := by
  have h1 : nI dn = nI up + nI (dn - up) := by rw [q_add]; congr 1; omega
  rw [h1]
  grind
theorem q_goes (S : tg_S) (p up dn b lv : Nat) (hp : 2 < p) (hp2 : p < 22) (hu : up < 200) (hd : dn < 200) (hs0 : S 18 0 = nI up) (hs1 : S 18 1 = nI dn) (h21 : S 0 21 = nI p) (h24 : S 0 24 = nI lv) : q_tr (f_X8_goes S (nI b)) (fun S2 => ∀ k j, S2 k j = if k = 0 ∧ j = 21 then nI (z_pl p up dn) else if k = 0 ∧ j = 22 then z_wi (z_won (z_pl p up dn)) else if k = 0 ∧ j = 23 then z_wb (z_won (z_pl p up dn)) b else if k = 0 ∧ j = 24 then nI (lv + (if up = dn then 1 else 0)) else S k j) := by
  have hl := z_pl_le (up := up) (dn := dn) hp hp2
  have e24 : ∀ v, q_st S 0 24 v 0 21 = nI p := fun v => by rw [q_stA]; simp [h21]
  unfold f_X8_goes f_X8_goes_24 f_X8_goes_37 f_X8_goes_52 f_X8_goes_71 f_X8_goes_102
  simp (disch := omega) only [q_lit, q_rd, hs0, hs1, q_nm, q_pf, h24, e24]
  -- the way and the level
  have key : ∀ (x y z : Int32), x = nI up - nI dn → y = (if nI 0 ≤ x then x else -x) / nI 3 → z = (if y ≤ nI 3 then y else nI 3) → nI p + (if nI 0 ≤ x then z else -z) = nI (z_pl p up dn) ∧ (if x = nI 0 then nI 1 else nI 0) = nI (if up = dn then 1 else 0) := by
    intro x y z hx hy hz
    unfold z_pl
    by_cases h : dn ≤ up
    · rw [q_sub h] at hx
      rw [hx] at hy ⊢
      have p0 : nI 0 ≤ nI (up - dn) := by rw [q_le (by omega) (by omega)]; omega
      rw [if_pos p0, q_div (by omega) (by omega) (by omega)] at hy
      rw [hy] at hz
      simp (disch := omega) only [q_le] at hz
      rw [if_pos p0, if_pos h]
      have e : z = nI (if 3 < (up - dn) / 3 then 3 else (up - dn) / 3) := by
        rw [hz]
        grind
      rw [e, q_add]
      refine ⟨rfl, ?_⟩
      simp (disch := omega) only [q_eq]
      grind
    · rw [z_nsub (by omega)] at hx
      obtain ⟨w1, w2, w3⟩ := z_way2 (dn - up) (by omega) (by omega)
      rw [hx] at hy ⊢
      rw [if_neg w1, w2, q_div (by omega) (by omega) (by omega)] at hy
      rw [hy] at hz
      simp (disch := omega) only [q_le] at hz
      rw [if_neg w1, if_neg h, if_neg w3]
      have e : z = nI (if 3 < (dn - up) / 3 then 3 else (dn - up) / 3) := by
        rw [hz]
        grind
      have h2 : (if 3 < (dn - up) / 3 then 3 else (dn - up) / 3) ≤ p := by grind
      rw [e, ← q_sub h2]
      constructor
      · grind
      · rw [if_neg (by omega)]
  obtain ⟨k1, k2⟩ := key _ _ _ rfl rfl rfl
  rw [k1, k2]
  have e21 : ∀ v w, q_st (q_st S 0 24 v) 0 21 w 0 21 = w := fun v w => by rw [q_stA]; simp
  simp (disch := omega) only [q_add, e21, q_lt]
  have e22 : (if z_pl p up dn < 22 then if 2 < z_pl p up dn then -nI 1 else nI 1 else nI 0) = z_wi (z_won (z_pl p up dn)) := by
    unfold z_wi z_won
    grind
  rw [e22]
  have e22b : ∀ v w u, q_st (q_st (q_st S 0 24 v) 0 21 w) 0 22 u 0 22 = u := fun v w u => by rw [q_stA]; simp
  rw [e22b]
  refine q_if (fun a => ?_) (fun a => ?_)
  · refine q_ret (fun k j => ?_)
    simp only [q_stA]
    have : z_wb (z_won (z_pl p up dn)) b = -nI 1 := by
      unfold z_wb
      rw [if_pos]
      unfold z_wi at a
      by_cases h : z_won (z_pl p up dn) = 2
      · exact h
      · rw [if_neg h, q_eqm (by unfold z_won; grind)] at a
        exact a.elim
    rw [this]
    grind
  · refine q_ret (fun k j => ?_)
    simp only [q_stA]
    have : z_wb (z_won (z_pl p up dn)) b = nI b := by
      unfold z_wb
      rw [if_neg]
      intro h
      unfold z_wi at a
      rw [if_pos h] at a
      exact a rfl
    rw [this]
    grind
/-- who is there, in the reference -/
def z_hr (T : tg_S) (C : Nat → Nat → Nat) : Prop := ∃ n : Nat → Nat, (∀ m, m < 2 → T 3 m = nI (n m) ∧ n m ≤ 8) ∧ ∀ k, k < 16 → (C 0 k = 1 ↔ k % 8 < n (k / 8) ∧ ¬ nI k = T 0 16)
theorem q_in (S : tg_S) (a lo hi : Int32) : f_X8_in S a lo hi = some (S, if a < lo then nI 0 else if hi < a then nI 0 else nI 1) := by
  unfold f_X8_in tg_if
  split
  · rfl
  · split <;> rfl
theorem q_isThereOne (T : tg_S) (n : Nat → Nat) (hn : ∀ m, m < 2 → T 3 m = nI (n m) ∧ n m ≤ 8) (k : Nat) (hk : k < 16) : f_X8_isThereOne T (nI k) = some (T, nI (if k % 8 < n (k / 8) then 1 else 0)) := by
  unfold f_X8_isThereOne
  have h1 := hn (k / 8) (by omega)
  rw [q_in]
  simp (disch := omega) only [q_lit, q_lt, q_bdS, q_div, q_rd, h1.1, q_mul, q_sub, q_le, if_neg, q_eq, q_ifF]
  by_cases a : k % 8 < n (k / 8)
  · rw [if_pos a, q_ifF (by omega)]
  · rw [if_neg a, q_ifT (by omega)]
theorem q_isHere (T : tg_S) (C : Nat → Nat → Nat) (hC : z_ok C) (h : z_hr T C) (k : Nat) (hk : k < 16) : f_X8_isHere T (nI k) = some (T, nI (C 0 k)) := by
  obtain ⟨n, hn, h2⟩ := h
  have h3 := (hC.1 k hk).1
  have h4 := h2 k hk
  unfold f_X8_isHere
  rw [q_isThereOne T n hn k hk, q_bdS]
  by_cases a : k % 8 < n (k / 8)
  · rw [if_pos a, q_ifF (by decide)]
    unfold tg_if
    split
    · rename_i h5
      have : C 0 k = 0 := by
        have : ¬ C 0 k = 1 := fun h => (h4.mp h).2 h5
        omega
      rw [this]
      rfl
    · rename_i h5
      rw [h4.mpr ⟨a, h5⟩]
      rfl
  · rw [if_neg a, q_ifT nI_0]
    have : C 0 k = 0 := by
      have : ¬ C 0 k = 1 := fun h => a (h4.mp h).1
      omega
    rw [this]
    rfl
theorem z_br_wi {C : Nat → Nat → Nat} {k call br : Nat} (h : br ≤ C 3 k) : z_br C k call br ≤ C 3 k := by
  unfold z_br
  grind
theorem z_sim_br {C : Nat → Nat → Nat} {mi : Int32} : ∀ b k, z_sim C mi b (3 + k) ≤ C 3 k := by
  intro b
  induction b with
  | zero => intro k; simp [z_sim, show 3 + k ≠ 0 by omega, show 3 + k ≠ 1 by omega, show 3 + k ≠ 2 by omega]
  | succ b ih =>
    intro k
    by_cases hw : z_sim C mi b 1 = 2
    · simp [z_sim, z_stp, hw, show 3 + k ≠ 0 by omega, show 3 + k ≠ 1 by omega, show 3 + k ≠ 2 by omega]
      unfold z_bn
      split
      · exact z_br_wi (ih k)
      · exact ih k
    · simp [z_sim, z_stp, hw]
      exact ih k
