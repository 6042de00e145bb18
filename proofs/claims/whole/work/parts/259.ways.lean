abbrev nL (n : Nat) : Int64 := Int64.ofNat n
theorem q_l64 {n : Nat} (h : n < 2147483648) : (nI n).toInt64 = nL n := by
  apply Int64.toInt_inj.mp
  rw [Int32.toInt_toInt64, nI_toInt h, Int64.toInt_ofNat_of_lt (by omega)]
theorem q_mulL (a b : Nat) : nL a * nL b = nL (a * b) := (Int64.ofNat_mul a b).symm
theorem q_addL (a b : Nat) : nL a + nL b = nL (a + b) := (Int64.ofNat_add a b).symm
/-- in how many ways of 16 to the e just the events of w are missing -/
def z_wm (p : Nat) (w : Int32) : Nat → Nat
  | 0 => 1
  | e + 1 => z_wm p w e * (if z_bit w e then p else 16 - p)
theorem q_missC (S : tg_S) (p ne : Nat) (w : Int32) (hp : p ≤ 16) (hn : ne ≤ 8) (h : S 19 3 = nI ne) : f_X7_waysToMiss S (nI p) w = some (S, nL (z_wm p w ne)) := by
  have L : ∀ (n e : Nat), ne < n + e → e ≤ ne → L_X7_waysToMiss_5 n S (nI p) w (nL (z_wm p w e)) (nI e) = some (S, nL (z_wm p w ne)) := by
    intro n
    induction n with
    | zero => intro e h; omega
    | succ n ih =>
      intro e hne he
      show f_X7_waysToMiss_5 (L_X7_waysToMiss_5 n) S (nI p) w (nL (z_wm p w e)) (nI e) = _
      unfold f_X7_waysToMiss_5 f_X7_waysToMiss_40
      simp only [q_lit]
      rw [h]
      simp (disch := omega) only [q_le, q_nm, q_add, q_sub, q_l64]
      by_cases hh : ne ≤ e
      · rw [q_ifT hh, show e = ne by omega]
      · rw [q_ifF hh]
        have hn := ih (e + 1) (by omega) (by omega)
        rw [z_wm] at hn
        by_cases hb : z_bit w e
        · rw [if_pos hb, q_mulL]
          rw [if_pos hb] at hn
          exact hn
        · rw [if_neg hb, q_mulL]
          rw [if_neg hb] at hn
          exact hn
  unfold f_X7_waysToMiss
  simp only [q_lit]
  exact L tg_F 0 (by unfold tg_F; omega) (by omega)
theorem z_wi_m {w m : Nat} (h : w ≤ 2) (hm : m < 2) : (z_wi w = nI m) = (w = m) := by
  unfold z_wi
  rcases (show w = 0 ∨ w = 1 ∨ w = 2 by omega) with rfl | rfl | rfl <;> rcases (show m = 0 ∨ m = 1 by omega) with rfl | rfl <;> decide
/-- in how many ways team m wins, over the sets under w -/
def z_ww (W : Nat → Nat) (p ne m : Nat) : Nat → Nat
  | 0 => 0
  | w + 1 => if W w = m then z_ww W p ne m w + z_wm p (nI w) ne else z_ww W p ne m w
theorem q_winC (S : tg_S) (W : Nat → Nat) (p ne m : Nat) (hp : p ≤ 16) (hn : ne ≤ 8) (hm : m < 2) (h : S 19 3 = nI ne) (hW : ∀ w, W w ≤ 2) (h51 : ∀ w, w < 2 ^ ne → S 51 w = z_wi (W w)) : f_X7_waysToWin S (nI p) (nI m) = some (S, nL (z_ww W p ne m (2 ^ ne))) := by
  have h256 := z_2le hn
  have L : ∀ (n w : Nat), 2 ^ ne < n + w → w ≤ 2 ^ ne → L_X7_waysToWin_5 n S (nI p) (nI m) (nL (z_ww W p ne m w)) (nI w) = some (S, nL (z_ww W p ne m (2 ^ ne))) := by
    intro n
    induction n with
    | zero => intro w h; omega
    | succ n ih =>
      intro w hnw hw
      show f_X7_waysToWin_5 (L_X7_waysToWin_5 n) S (nI p) (nI m) (nL (z_ww W p ne m w)) (nI w) = _
      unfold f_X7_waysToWin_5 f_X7_waysToWin_43
      simp only [q_lit]
      rw [h, q_shl _ (by omega)]
      simp (disch := omega) only [q_le, q_nm, q_add]
      by_cases hh : 2 ^ ne ≤ w
      · rw [q_ifT hh, show w = 2 ^ ne by omega]
      · rw [q_ifF hh]
        have hn2 := ih (w + 1) (by omega) (by omega)
        rw [z_ww] at hn2
        simp (disch := omega) only [q_rd]
        rw [h51 w (by omega), q_missC S p ne (nI w) hp hn h, q_bdS]
        simp only [z_wi_m (hW w) hm, q_addL]
        by_cases hb : W w = m
        · rw [q_ifT hb]
          rw [if_pos hb] at hn2
          exact hn2
        · rw [q_ifF hb]
          rw [if_neg hb] at hn2
          exact hn2
  unfold f_X7_waysToWin
  simp only [q_lit]
  exact L tg_F 0 (by unfold tg_F; omega) (Nat.zero_le _)
