theorem z_gcd2 (r i N : Nat) (hi : i ≤ N) (hd : 2 ^ i ∣ r) (h : i = N ∨ (r / 2 ^ i) % 2 = 1) : Nat.gcd r (2 ^ N) = 2 ^ i := by
  obtain ⟨q, rfl⟩ := hd
  have hpos : 0 < 2 ^ i := Nat.pow_pos (by omega)
  rw [Nat.mul_div_cancel_left q hpos] at h
  obtain ⟨d, rfl⟩ : ∃ d, N = i + d := ⟨N - i, by omega⟩
  rw [Nat.pow_add, Nat.gcd_mul_left]
  have e : Nat.gcd q (2 ^ d) = 1 := by
    rcases h with h | h
    · have : d = 0 := by omega
      subst this
      simp
    · have hc : Nat.Coprime q 2 := by
        unfold Nat.Coprime
        rw [Nat.gcd_comm, Nat.gcd_rec, h]
        rfl
      exact Nat.Coprime.pow_right d hc
  rw [e, Nat.mul_one]
