-- ===== chance: longs =====
theorem nL_toInt {n : Nat} (h : n < 4611686018427387904) : (nL n).toInt = n := Int64.toInt_ofNat_of_lt (by omega)
theorem q_eqL {a b : Nat} (ha : a < 4611686018427387904) (hb : b < 4611686018427387904) : (nL a = nL b) = (a = b) := by
  apply propext
  constructor
  · intro h
    have := congrArg Int64.toInt h
    rw [nL_toInt ha, nL_toInt hb] at this
    omega
  · intro h; rw [h]
theorem q_divL {a d : Nat} (ha : a < 4611686018427387904) (h0 : 0 < d) (hd : d < 4611686018427387904) : nL a / nL d = nL (a / d) := by
  have h1 : a / d ≤ a := Nat.div_le_self _ _
  apply Int64.toInt_inj.mp
  rw [Int64.toInt_div, nL_toInt ha, nL_toInt hd, nL_toInt (by omega), ← Int.ofNat_tdiv]
  generalize a / d = q at h1
  apply Int.bmod_eq_of_le <;> omega
theorem q_subL {a b : Nat} (h : b ≤ a) : nL a - nL b = nL (a - b) := by
  have : nL a = nL (a - b) + nL b := by rw [q_addL]; congr 1; omega
  rw [this]
  grind
theorem q_remL {a d : Nat} (ha : a < 4611686018427387904) (h0 : 0 < d) (hd : d < 4611686018427387904) : nL a - nL a / nL d * nL d = nL (a % d) := by
  rw [q_divL ha h0 hd, q_mulL, q_subL (Nat.div_mul_le_self a d)]
  congr 1
  have := Nat.div_add_mod a d
  rw [Nat.mul_comm] at this
  omega
theorem q_cmp0 {a : Nat} (ha : a < 4611686018427387904) : (lg_cmp (nL a) 0 = nI 0) = (a = 0) := by
  apply propext
  unfold lg_cmp
  constructor
  · intro h
    split at h
    · exact absurd h (by decide)
    · split at h
      · rename_i h2
        rw [show (0 : Int64) = nL 0 from rfl, q_eqL ha (by omega)] at h2
        exact h2
      · exact absurd h (by decide)
  · intro h
    subst h
    decide
theorem q_cmple {a : Nat} (ha : a < 4611686018427387904) : (lg_cmp (nL a) 0 ≤ nI 0) = (a = 0) := by
  apply propext
  unfold lg_cmp
  constructor
  · intro h
    split at h
    · exact absurd h (by decide)
    · rename_i hg
      split at h
      · rename_i h2
        rw [show (0 : Int64) = nL 0 from rfl, q_eqL ha (by omega)] at h2
        exact h2
      · have : ¬ (0 : Int64).toInt < (nL a).toInt := fun hh => hg (Int64.lt_iff_toInt_lt.mpr hh)
        rw [nL_toInt ha] at this
        have h0 : (0 : Int64).toInt = 0 := by decide
        omega
  · intro h
    subst h
    decide
/-- r of 2 to the N, in lowest terms -/
def z_lw (r N w : Nat) : Int64 := nL (if w = 0 then r / Nat.gcd r (2 ^ N) else 2 ^ N / Nat.gcd r (2 ^ N))
theorem z_2N {N : Nat} (h : N ≤ 32) : 0 < 2 ^ N ∧ 2 ^ N ≤ 4294967296 := ⟨Nat.pow_pos (by omega), Nat.le_trans (Nat.pow_le_pow_right (by omega) h) (by decide)⟩
theorem q_halve (S : tg_S) (r N w : Nat) (hr : r < 4611686018427387904) (hN : N ≤ 32) (hw : w < 2) : ∀ (n i : Nat), N < n + i → i ≤ N → 2 ^ i ∣ r → L_X7_chance_64 n S (nI w) (nI N) (nL (r / 2 ^ i)) (nL (2 ^ (N - i))) (nI i) = some (S, z_lw r N w) := by
  intro n
  induction n with
  | zero => intro i h; omega
  | succ n ih =>
    intro i hn hi hd
    have b1 : r / 2 ^ i ≤ r := Nat.div_le_self _ _
    have b2 := z_2N (N := N - i) (by omega)
    have hp := z_2N (N := i) (by omega)
    show f_X7_chance_64 (L_X7_chance_64 n) S (nI w) (nI N) (nL (r / 2 ^ i)) (nL (2 ^ (N - i))) (nI i) = _
    have fin : (i = N ∨ (r / 2 ^ i) % 2 = 1) → f_X7_chance_104 S (nI w) (nL (r / 2 ^ i)) (nL (2 ^ (N - i))) = some (S, z_lw r N w) := by
      intro h
      have g := z_gcd2 r i N hi hd h
      unfold f_X7_chance_104 z_lw
      rw [g]
      simp (disch := omega) only [q_lit, q_eq]
      by_cases h0 : w = 0
      · rw [q_ifT h0, if_pos h0]
      · rw [q_ifF h0, if_neg h0]
        rw [Nat.pow_div hi (by omega)]
    unfold f_X7_chance_64
    simp only [q_lit]
    rw [show (2 : Int64) = nL 2 from rfl, q_remL (by omega) (by omega) (by omega)]
    simp (disch := omega) only [q_le, q_nm, q_add, q_cmp0, q_divL]
    by_cases hh : N ≤ i
    · rw [q_ifT hh]
      exact fin (Or.inl (by omega))
    · rw [q_ifF hh]
      by_cases h2 : r / 2 ^ i % 2 = 0
      · rw [q_ifT h2]
        have hd2 : 2 ^ (i + 1) ∣ r := by
          obtain ⟨q, rfl⟩ := hd
          rw [Nat.mul_div_cancel_left q hp.1] at h2
          rw [Nat.pow_succ]
          exact Nat.mul_dvd_mul (Nat.dvd_refl _) (Nat.dvd_of_mod_eq_zero h2)
        have := ih (i + 1) (by omega) (by omega) hd2
        rw [Nat.pow_succ, ← Nat.div_div_eq_div_mul] at this
        rw [show 2 ^ (N - i) / 2 = 2 ^ (N - (i + 1)) by rw [show N - i = (N - (i + 1)) + 1 by omega, Nat.pow_succ, Nat.mul_div_cancel _ (by omega)]]
        exact this
      · rw [q_ifF h2]
        exact fin (Or.inr (by omega))
theorem q_lowest_L (T : tg_S) (r y w : Nat) (hr : r < 4611686018427387904) (hy : y < 4611686018427387904) (hw : w < 2) : ∀ (n a b : Nat), b ≤ a → a * b < 2 ^ n → 0 < a → a < 4611686018427387904 → L_X8_lowest_6 (n + 1) T (nL r) (nL y) (nI w) (nL a) (nL b) = some (T, nL (if w = 0 then r / Nat.gcd a b else y / Nat.gcd a b)) := by
  have fin : ∀ (n a : Nat), 0 < a → a < 4611686018427387904 → L_X8_lowest_6 (n + 1) T (nL r) (nL y) (nI w) (nL a) (nL 0) = some (T, nL (if w = 0 then r / a else y / a)) := by
    intro n a h0 ha
    show f_X8_lowest_6 (L_X8_lowest_6 n) T (nL r) (nL y) (nI w) (nL a) (nL 0) = _
    unfold f_X8_lowest_6 tg_ck
    have hne : ¬ nL a = 0 := by
      rw [show (0 : Int64) = nL 0 from rfl, q_eqL ha (by omega)]
      omega
    rw [q_ifT (by decide), decide_eq_true hne]
    simp (disch := omega) only [q_lit, q_eq, q_divL]
    by_cases hq : w = 0
    · rw [q_ifT hq, if_pos hq]; rfl
    · rw [q_ifF hq, if_neg hq]; rfl
  intro n
  induction n with
  | zero =>
    intro a b hb hab h0 ha
    have : b = 0 := by
      rcases Nat.eq_zero_or_pos b with h | h
      · exact h
      · have := Nat.mul_pos h0 h
        rw [Nat.pow_zero] at hab
        omega
    subst this
    rw [Nat.gcd_zero_right]
    exact fin 0 a h0 ha
  | succ n ih =>
    intro a b hb hab h0 ha
    by_cases hz : b = 0
    · subst hz
      rw [Nat.gcd_zero_right]
      exact fin _ a h0 ha
    · have hm : a % b < b := Nat.mod_lt _ (by omega)
      have h2 : 2 * (a % b) ≤ a := by
        have := Nat.mod_add_div a b
        have h1 : 1 ≤ a / b := Nat.div_pos hb (by omega)
        have := Nat.mul_le_mul_left b h1
        omega
      have := ih b (a % b) (by omega) (by
        rw [Nat.pow_succ] at hab
        have h3 := Nat.mul_le_mul_left b h2
        rw [show b * (2 * (a % b)) = 2 * (b * (a % b)) by rw [← Nat.mul_assoc, Nat.mul_comm b 2, Nat.mul_assoc], Nat.mul_comm b a] at h3
        omega) (by omega) (by omega)
      rw [show Nat.gcd b (a % b) = Nat.gcd a b by rw [Nat.gcd_comm, ← Nat.gcd_rec, Nat.gcd_comm]] at this
      show f_X8_lowest_6 (L_X8_lowest_6 (n + 1)) T (nL r) (nL y) (nI w) (nL a) (nL b) = _
      unfold f_X8_lowest_6
      simp only [q_lit]
      have hne : ¬ nL b = 0 := by
        rw [show (0 : Int64) = nL 0 from rfl, q_eqL (by omega) (by omega)]
        omega
      rw [q_ifF (show ¬ lg_cmp (nL b) 0 = nI 0 by rw [q_cmp0 (by omega)]; exact hz), decide_eq_true hne, q_remL ha (by omega) (by omega)]
      exact this
theorem q_lowest (T : tg_S) (r N w : Nat) (hr : r < 4611686018427387904) (hN : N ≤ 32) (hw : w < 2) : f_X8_lowest T (nL r) (nL (2 ^ N)) (nI w) = some (T, z_lw r N w) := by
  have b := z_2N hN
  unfold f_X8_lowest z_lw
  have e : tg_F = 998 + 1 + 1 := by decide
  rw [e]
  have big : ∀ a b : Nat, a < 4611686018427387904 → b < 4611686018427387904 → a * b < 2 ^ 998 := by
    intro a b ha hb
    have h1 : a * b < 2 ^ 62 * 2 ^ 62 := Nat.mul_lt_mul'' ha hb
    rw [← Nat.pow_add] at h1
    exact Nat.lt_of_lt_of_le h1 (Nat.pow_le_pow_right (by omega) (by omega))
  have hne : ¬ nL (2 ^ N) = 0 := by
    rw [show (0 : Int64) = nL 0 from rfl, q_eqL (by omega) (by omega)]
    omega
  have hm : r % 2 ^ N < 2 ^ N := Nat.mod_lt _ (by omega)
  have := q_lowest_L T r (2 ^ N) w hr (by omega) hw 998 (2 ^ N) (r % 2 ^ N) (by omega) (big _ _ (by omega) (by omega)) (by omega) (by omega)
  rw [show Nat.gcd (2 ^ N) (r % 2 ^ N) = Nat.gcd r (2 ^ N) by rw [Nat.gcd_comm, ← Nat.gcd_rec, Nat.gcd_comm]] at this
  generalize 998 + 1 = n at this
  show f_X8_lowest_6 (L_X8_lowest_6 n) T (nL r) (nL (2 ^ N)) (nI w) (nL r) (nL (2 ^ N)) = _
  unfold f_X8_lowest_6
  simp only [q_lit]
  rw [q_ifF (show ¬ lg_cmp (nL (2 ^ N)) 0 = nI 0 by rw [q_cmp0 (by omega)]; omega), decide_eq_true hne, q_remL hr (by omega) (by omega)]
  exact this
theorem z_wm_le (p : Nat) (w : Int32) (hp : p ≤ 16) : ∀ e, z_wm p w e ≤ 16 ^ e := by
  intro e
  induction e with
  | zero => exact Nat.le_refl _
  | succ e ih =>
    rw [z_wm, Nat.pow_succ]
    exact Nat.mul_le_mul ih (by split <;> omega)
theorem z_ww_le (W : Nat → Nat) (p ne m : Nat) (hp : p ≤ 16) : ∀ w, z_ww W p ne m w ≤ w * 16 ^ ne := by
  intro w
  induction w with
  | zero => exact Nat.zero_le _
  | succ w ih =>
    rw [z_ww, Nat.succ_mul]
    have := z_wm_le p (nI w) hp ne
    split <;> omega
theorem z_16 {ne : Nat} (h : ne ≤ 8) : 16 ^ ne ≤ 4294967296 := Nat.le_trans (Nat.pow_le_pow_right (by omega) h) (by decide)
theorem z_ww_lt (W : Nat → Nat) (p ne m : Nat) (hp : p ≤ 16) (hn : ne ≤ 8) {w : Nat} (hw : w ≤ 256) : z_ww W p ne m w < 4611686018427387904 := by
  have h1 := z_ww_le W p ne m hp w
  have h2 := Nat.mul_le_mul hw (z_16 hn)
  omega
theorem q_sh4 : ∀ n, n < 9 → (1 : Int64) <<< ((nI (4 * n)).toInt64 &&& 63) = nL (2 ^ (4 * n)) := by decide
