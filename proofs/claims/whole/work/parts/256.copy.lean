theorem q_ti {n : Nat} (h : n < 2147483648) : (nI n).toInt = n := nI_toInt h
theorem q_ltZ (v : Int32) : (v < nI 0) ↔ v.toInt < 0 := by
  rw [Int32.lt_iff_toInt_lt, q_ti (by omega)]
  exact Iff.rfl
theorem q_add64 (v w : Int32) : (v.toInt64 + w.toInt64).toInt = v.toInt + w.toInt := by
  have h1 := v.toInt_lt
  have h2 := v.le_toInt
  have h3 := w.toInt_lt
  have h4 := w.le_toInt
  rw [Int64.toInt_add, Int32.toInt_toInt64, Int32.toInt_toInt64]
  exact Int.bmod_eq_of_le (by omega) (by omega)
theorem q_lcG (v w : Int32) {n : Nat} (hn : n ≤ 60) : (nI 0 < lg_cmp (v.toInt64 + w.toInt64) (nI n).toInt64) ↔ (n : Int) < v.toInt + w.toInt := by
  have e1 := q_add64 v w
  have e2 : ((nI n).toInt64).toInt = n := by rw [Int32.toInt_toInt64, q_ti (by omega)]
  generalize v.toInt64 + w.toInt64 = x at *
  generalize (nI n).toInt64 = y at *
  unfold lg_cmp
  by_cases h : x > y
  · rw [if_pos h]
    have h' : y < x := h
    rw [Int64.lt_iff_toInt_lt] at h'
    exact ⟨fun _ => by omega, fun _ => by decide⟩
  · rw [if_neg h]
    have h' : ¬ y < x := h
    rw [Int64.lt_iff_toInt_lt] at h'
    constructor
    · intro hh
      exfalso
      revert hh
      split <;> decide
    · intro hh; omega
theorem q_lcL (v w : Int32) {n : Nat} (hn : n ≤ 60) : (lg_cmp (v.toInt64 + w.toInt64) (nI n).toInt64 ≤ nI 0) ↔ v.toInt + w.toInt ≤ n := by
  rw [← Int32.not_lt, q_lcG v w hn]
  omega
theorem q_holds (S : tg_S) {s n : Nat} (hs : s < 4) (hn : n ≤ 60) (h : S 10 s = nI n) (v w : Int32) (hw : ¬ w < nI 0) : f_X5_holds S (nI s) v w = some (S, if 0 ≤ v.toInt ∧ v.toInt + w.toInt ≤ n then nI 1 else nI 0) := by
  rw [q_ltZ] at hw
  unfold f_X5_holds
  simp (disch := omega) only [q_lit, q_rd, h]
  by_cases h0 : v < nI 0
  · rw [q_ifT h0]
    rw [q_ltZ] at h0
    rw [if_neg (by omega)]
  · rw [q_ifF h0]
    rw [q_ltZ] at h0
    rcases z_dec v (n + 1) (by omega) with ⟨p, hp, rfl⟩ | hv
    · simp (disch := omega) only [q_lt, q_sub]
      rw [q_ifF (by omega)]
      rw [q_ti (by omega)]
      by_cases h1 : nI (n - p) < w
      · rw [q_ifT h1]
        rw [Int32.lt_iff_toInt_lt, q_ti (by omega)] at h1
        rw [if_neg (by omega)]
      · rw [q_ifF h1]
        rw [Int32.lt_iff_toInt_lt, q_ti (by omega)] at h1
        rw [if_pos (by omega)]
    · have h1 : nI (n + 1) ≤ v := by
        rcases hv with hv | hv
        · rw [← nI_0, q_ltZ] at hv; omega
        · exact hv
      rw [Int32.le_iff_toInt_le, q_ti (by omega)] at h1
      rw [q_ifT (by rw [Int32.lt_iff_toInt_lt, q_ti (by omega)]; omega), if_neg (by omega)]
