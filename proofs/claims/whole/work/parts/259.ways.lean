abbrev nL (n : Nat) : Int64 := Int64.ofNat n
theorem q_l64 {n : Nat} (h : n < 2147483648) : (nI n).toInt64 = nL n := by
  apply Int64.toInt_inj.mp
  rw [Int32.toInt_toInt64, nI_toInt h, Int64.toInt_ofNat_of_lt (by omega)]
theorem q_mulL (a b : Nat) : nL a * nL b = nL (a * b) := (Int64.ofNat_mul a b).symm
theorem q_addL (a b : Nat) : nL a + nL b = nL (a + b) := (Int64.ofNat_add a b).symm
/-- in how many ways of 16 to the e just the events of w are missing -/
def z_wm (p : Nat) (w : Int32) : Nat → Nat
  | 0 => 1
  | e + 1 => z_wm p w e * (if z_bit w e then p else 16 - p)
theorem q_missC (S : tg_S) (p ne : Nat) (w : Int32) (hp : p ≤ 16) (hn : ne ≤ 8) (h : S 19 3 = nI ne) : f_X7_waysToMiss S (nI p) w = some (S, nL (z_wm p w ne)) := by
  have L : ∀ (n e : Nat), ne < n + e → e ≤ ne → L_X7_waysToMiss_5 n S (nI p) w (nL (z_wm p w e)) (nI e) = some (S, nL (z_wm p w ne)) := by
    intro n
    induction n with
    | zero => intro e h; omega
    | succ n ih =>
      intro e hne he
      show f_X7_waysToMiss_5 (L_X7_waysToMiss_5 n) S (nI p) w (nL (z_wm p w e)) (nI e) = _
      unfold f_X7_waysToMiss_5 f_X7_waysToMiss_40
      simp only [q_lit]
      rw [h]
      simp (disch := omega) only [q_le, q_nm, q_add, q_sub, q_l64]
      by_cases hh : ne ≤ e
      · rw [q_ifT hh, show e = ne by omega]
      · rw [q_ifF hh]
        have hn := ih (e + 1) (by omega) (by omega)
        rw [z_wm] at hn
        by_cases hb : z_bit w e
        · rw [if_pos hb, q_mulL]
          rw [if_pos hb] at hn
          exact hn
        · rw [if_neg hb, q_mulL]
          rw [if_neg hb] at hn
          exact hn
  unfold f_X7_waysToMiss
  simp only [q_lit]
  exact L tg_F 0 (by unfold tg_F; omega) (by omega)
