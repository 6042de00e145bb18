-- ===== texts: A 0 t lengths, A 1 i bytes (31 to a text) =====
theorem q_eqS {a : Type} {o : Option a} {x : a} (h : q_tr o (fun r => r = x)) : o = some x := by
  obtain ⟨r, h1, h2⟩ := h
  rw [h1, h2]
abbrev z_go (r b : Nat) : Prop := if r = 0 then b = 104 ∨ b = 108 ∨ b = 97 else if r = 3 then b = 59 else 49 ≤ b ∧ b ≤ 57
def z_cl (b : Nat) : Nat := if b = 114 then 0 else if b = 112 then 1 else if b = 104 then 2 else 3
def z_sr (b : Nat) : Nat := if b = 104 then 0 else if b = 108 then 1 else if b = 97 then 2 else 3
abbrev z_gt (t i b : Nat) : Prop := if t < 2 then z_go (i % 4) b else z_cl b ≠ 3
/-- the first place from i on with which text t can't go on; n places are left -/
def z_ff (A : Nat → Nat → Nat) (t : Nat) : Nat → Nat → Nat
  | i, 0 => i
  | i, n + 1 => if z_gt t i (A 1 (31 * t + i)) then z_ff A t (i + 1) n else i
def z_fa (A : Nat → Nat → Nat) (t : Nat) : Nat := if z_ff A t 0 (A 0 t) < A 0 t then z_ff A t 0 (A 0 t) else if 2 ≤ t ∨ A 0 t = 0 ∨ A 0 t % 4 = 3 then 100 else A 0 t
def z_fi (f : Nat) : Int32 := if f = 100 then -nI 1 else nI f
def z_sl (A : Nat → Nat → Nat) (t : Nat) : Nat := if z_fa A t = 100 then A 0 t else 0
theorem z_ff_spec (A : Nat → Nat → Nat) (t : Nat) : ∀ n i, i ≤ z_ff A t i n ∧ z_ff A t i n ≤ i + n ∧ (∀ j, i ≤ j → j < z_ff A t i n → z_gt t j (A 1 (31 * t + j))) ∧ (z_ff A t i n < i + n → ¬ z_gt t (z_ff A t i n) (A 1 (31 * t + z_ff A t i n))) := by
  intro n
  induction n with
  | zero => intro i; exact ⟨Nat.le_refl _, Nat.le_refl _, fun j h1 h2 => by simp only [z_ff] at h2; omega, fun h => by simp only [z_ff] at h; omega⟩
  | succ n ih =>
    intro i
    obtain ⟨h1, h2, h3, h4⟩ := ih (i + 1)
    by_cases hg : z_gt t i (A 1 (31 * t + i))
    · have e : z_ff A t i (n + 1) = z_ff A t (i + 1) n := by rw [z_ff, if_pos hg]
      rw [e]
      refine ⟨by omega, by omega, fun j hj1 hj2 => ?_, fun h => h4 (by omega)⟩
      by_cases hji : j = i
      · subst hji; exact hg
      · exact h3 j (by omega) hj2
    · have e : z_ff A t i (n + 1) = i := by rw [z_ff, if_neg hg]
      rw [e]
      exact ⟨Nat.le_refl _, by omega, fun j hj1 hj2 => by omega, fun _ => hg⟩
/-- texts are as told -/
def z_tok (A : Nat → Nat → Nat) : Prop := (∀ t, t < 4 → A 0 t ≤ (if t < 2 then 31 else 24)) ∧ ∀ i, A 1 i < 256
/-- the texts in TugOfWar's cells -/
def z_tc (S : tg_S) (A : Nat → Nat → Nat) : Prop := (∀ t, t < 4 → S 3 t = nI (A 0 t)) ∧ ∀ i, i < 124 → S 2 i = nI (A 1 i)
theorem q_callOf (S : tg_S) (b : Nat) (hb : b < 256) : f_X6_callOf S (nI b) = some (S, if z_cl b = 3 then -nI 1 else nI (z_cl b)) := by
  unfold f_X6_callOf tg_if z_cl
  simp (disch := omega) only [q_lit, q_eq]
  grind
theorem q_teamGoesOn (S : tg_S) (r b : Nat) (hr : r < 4) (hb : b < 256) : f_X6_teamGoesOn S (nI r) (nI b) = some (S, if z_go r b then nI 1 else nI 0) := by
  unfold f_X6_teamGoesOn tg_if
  simp (disch := omega) only [q_lit, q_eq, q_lt]
  grind
theorem q_byteAt (S : tg_S) (A : Nat → Nat → Nat) (hA : z_tok A) (hS : z_tc S A) (t i : Nat) (ht : t < 4) (hi : i < 31) : f_X6_byteAt S (nI t) (nI i) = some (S, nI (A 1 (31 * t + i))) := by
  unfold f_X6_byteAt
  simp (disch := omega) only [q_lit, q_mul, q_add, q_rd]
  rw [hS.2 _ (by omega), show t * 31 + i = 31 * t + i by omega]
theorem q_fault_L (S : tg_S) (A : Nat → Nat → Nat) (hA : z_tok A) (hS : z_tc S A) (t : Nat) (ht : t < 4) : ∀ n i, A 0 t < n + i → i ≤ A 0 t → q_tr (L_X6_firstFault_9 n S (nI t) (nI (A 0 t)) (nI i)) (fun r => r = (S, if z_ff A t i (A 0 t - i) < A 0 t then nI (z_ff A t i (A 0 t - i)) else if 2 ≤ t ∨ A 0 t = 0 ∨ A 0 t % 4 = 3 then -nI 1 else nI (A 0 t))) := by
  intro n
  induction n with
  | zero => intro i h; omega
  | succ n ih =>
    intro i h hi
    have hL : A 0 t ≤ 31 := by have := hA.1 t ht; split at this <;> omega
    show q_tr (f_X6_firstFault_9 (L_X6_firstFault_9 n) S (nI t) (nI (A 0 t)) (nI i)) _
    unfold f_X6_firstFault_9 f_X6_firstFault_74 f_X6_firstFault_79 f_X6_firstFault_52
    simp (disch := omega) only [q_lit, q_le, q_rem, q_eq, q_ifT, q_ifF]
    refine q_if (fun h1 => ?_) (fun h1 => ?_)
    · have : i = A 0 t := by omega
      subst this
      rw [Nat.sub_self]
      simp only [z_ff, Nat.lt_irrefl, if_false]
      refine q_if (fun h2 => ?_) (fun h2 => ?_)
      · exact q_ret (by simp [h2])
      · refine q_if (fun h3 => ?_) (fun h3 => ?_)
        · exact q_ret (by simp [h3])
        · refine q_if (fun h4 => ?_) (fun h4 => ?_)
          · exact q_ret (by simp [h4])
          · exact q_ret (by simp [h2, h3, h4])
    · have hb := hA.2 (31 * t + i)
      rw [q_byteAt S A hA hS t i ht (by omega), q_bdS]
      have e : A 0 t - i = (A 0 t - (i + 1)) + 1 := by omega
      have es := z_ff_spec A t (A 0 t - i) i
      refine q_if (fun h2 => ?_) (fun h2 => ?_)
      · rw [q_callOf S _ hb, q_bdS]
        by_cases hc : z_cl (A 1 (31 * t + i)) = 3
        · rw [if_pos hc, q_ifT rfl]
          refine q_ret ?_
          have : z_ff A t i (A 0 t - i) = i := by rw [e, z_ff, if_neg]; simp [z_gt, show ¬ t < 2 by omega, hc]
          rw [this, if_pos (by omega)]
        · rw [if_neg hc, q_ifF (by rw [q_eqm (by unfold z_cl; grind)]; exact id)]
          simp only [q_nm, q_add]
          have : z_ff A t i (A 0 t - i) = z_ff A t (i + 1) (A 0 t - (i + 1)) := by rw [e, z_ff, if_pos]; simp [z_gt, show ¬ t < 2 by omega, hc]
          rw [this]
          exact ih (i + 1) (by omega) (by omega)
      · rw [q_teamGoesOn S _ _ (by omega) hb, q_bdS]
        by_cases hc : z_go (i % 4) (A 1 (31 * t + i))
        · rw [if_pos hc, q_ifF (by decide)]
          simp only [q_nm, q_add]
          have : z_ff A t i (A 0 t - i) = z_ff A t (i + 1) (A 0 t - (i + 1)) := by rw [e, z_ff, if_pos]; rw [z_gt, if_pos (by omega)]; exact hc
          rw [this]
          exact ih (i + 1) (by omega) (by omega)
        · rw [if_neg hc, q_ifT rfl]
          refine q_ret ?_
          have : z_ff A t i (A 0 t - i) = i := by rw [e, z_ff, if_neg]; rw [z_gt, if_pos (by omega)]; exact hc
          rw [this, if_pos (by omega)]
theorem q_firstFault (S : tg_S) (A : Nat → Nat → Nat) (hA : z_tok A) (hS : z_tc S A) (t : Nat) (ht : t < 4) : f_X6_firstFault S (nI t) = some (S, z_fi (z_fa A t)) := by
  have hL : A 0 t ≤ 31 := by have := hA.1 t ht; split at this <;> omega
  unfold f_X6_firstFault
  simp (disch := omega) only [q_lit, q_rd, hS.1 t ht]
  rw [q_eqS (q_fault_L S A hA hS t ht tg_F 0 (by unfold tg_F; omega) (Nat.zero_le _))]
  unfold z_fi z_fa
  rw [Nat.sub_zero]
  grind
theorem q_soundLength (S : tg_S) (A : Nat → Nat → Nat) (hA : z_tok A) (hS : z_tc S A) (t : Nat) (ht : t < 4) : f_X6_soundLength S (nI t) = some (S, nI (z_sl A t)) := by
  have hL : A 0 t ≤ 31 := by have := hA.1 t ht; split at this <;> omega
  unfold f_X6_soundLength
  rw [q_firstFault S A hA hS t ht, q_bdS]
  simp (disch := omega) only [q_lit, q_rd, hS.1 t ht]
  unfold z_sl z_fi
  have : z_fa A t ≤ 100 := by unfold z_fa; grind
  by_cases h : z_fa A t = 100
  · rw [if_pos h, if_pos h, q_ifT rfl]
  · rw [if_neg h, if_neg h, q_ifF (by rw [q_eqm (by omega)]; exact id)]
/-- a team's text without a fault: all its bytes are as they must be -/
theorem z_team (A : Nat → Nat → Nat) (hA : z_tok A) (t i : Nat) (ht : t < 2) (hi : i < (z_sl A t + 1) / 4) : 4 * i + 3 ≤ A 0 t ∧ i < 8 ∧ z_sl A t = A 0 t ∧ z_go 0 (A 1 (31 * t + 4 * i)) ∧ z_go 1 (A 1 (31 * t + (4 * i + 1))) ∧ z_go 2 (A 1 (31 * t + (4 * i + 2))) := by
  have hL : A 0 t ≤ 31 := by have := hA.1 t (by omega); split at this <;> omega
  have hf : z_fa A t = 100 := by
    by_cases h : z_fa A t = 100
    · exact h
    · exfalso
      unfold z_sl at hi
      rw [if_neg h] at hi
      omega
  have hs : z_sl A t = A 0 t := by unfold z_sl; rw [if_pos hf]
  rw [hs] at hi
  obtain ⟨h1, h2, h3, h4⟩ := z_ff_spec A t (A 0 t) 0
  have hF : z_ff A t 0 (A 0 t) = A 0 t ∧ (A 0 t = 0 ∨ A 0 t % 4 = 3) := by
    unfold z_fa at hf
    split at hf
    · omega
    · split at hf
      · exact ⟨by omega, by omega⟩
      · omega
  have hb : 4 * i + 3 ≤ A 0 t := by omega
  have g0 := h3 (4 * i) (by omega) (by omega)
  have g1 := h3 (4 * i + 1) (by omega) (by omega)
  have g2 := h3 (4 * i + 2) (by omega) (by omega)
  rw [z_gt, if_pos ht] at g0 g1 g2
  rw [show 4 * i % 4 = 0 by omega] at g0
  rw [show (4 * i + 1) % 4 = 1 by omega] at g1
  rw [show (4 * i + 2) % 4 = 2 by omega] at g2
  exact ⟨hb, by omega, hs, g0, g1, g2⟩
theorem z_calls (A : Nat → Nat → Nat) (hA : z_tok A) (t i : Nat) (ht4 : t < 4) (ht : ¬ t < 2) (hi : i < z_sl A t) : z_sl A t = A 0 t ∧ z_cl (A 1 (31 * t + i)) ≤ 2 := by
  have hf : z_fa A t = 100 := by
    by_cases h : z_fa A t = 100
    · exact h
    · exfalso
      unfold z_sl at hi
      rw [if_neg h] at hi
      omega
  have hs : z_sl A t = A 0 t := by unfold z_sl; rw [if_pos hf]
  rw [hs] at hi
  obtain ⟨h1, h2, h3, h4⟩ := z_ff_spec A t (A 0 t) 0
  have hF : z_ff A t 0 (A 0 t) = A 0 t := by
    unfold z_fa at hf
    split at hf
    · have : A 0 t ≤ 100 := by
        by_cases h : A 0 t ≤ 100
        · exact h
        · exfalso
          have := hA.1 t ht4
          split at this <;> omega
      omega
    · omega
  have g := h3 i (by omega) (by omega)
  rw [z_gt, if_neg ht] at g
  refine ⟨hs, ?_⟩
  unfold z_cl at g ⊢
  grind
