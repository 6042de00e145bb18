-- ===== the reference: a contest in its cells =====
theorem q_or0 (x : Int32) : x ||| nI 0 = x := by rw [nI_0]; exact Int32.or_zero
theorem q_bit1 (y : Int32) : (y &&& nI 1 = nI 1) ↔ ¬ (y &&& nI 1 = nI 0) := by
  have h : y &&& nI 1 = nI 0 ∨ y &&& nI 1 = nI 1 := by
    have e : nI 1 = (1 : Int32) := rfl
    rw [e, nI_0]
    have h1 : (y &&& 1).toBitVec = y.toBitVec &&& 1#32 := rfl
    have h2 : y.toBitVec &&& 1#32 = 0#32 ∨ y.toBitVec &&& 1#32 = 1#32 := by
      have h3 : (y.toBitVec &&& 1#32).toNat = y.toBitVec.toNat % 2 := by
        rw [BitVec.toNat_and]
        exact Nat.and_one_is_mod _
      rcases Nat.mod_two_eq_zero_or_one y.toBitVec.toNat with h4 | h4
      · left
        apply BitVec.eq_of_toNat_eq
        rw [h3, h4]
        rfl
      · right
        apply BitVec.eq_of_toNat_eq
        rw [h3, h4]
        rfl
    rcases h2 with h2 | h2
    · left
      apply Int32.toBitVec_inj.mp
      rw [h1, h2]
      rfl
    · right
      apply Int32.toBitVec_inj.mp
      rw [h1, h2]
      rfl
  have hne : ¬ (nI 1 = nI 0) := by decide
  constructor
  · intro h1 h0
    exact hne (h1.symm.trans h0)
  · intro h0
    rcases h with h | h
    · exact absurd h h0
    · exact h
def z_er (T : tg_S) (C : Nat → Nat → Nat) (mi : Int32) : Prop := T 0 9 = nI (C 10 0) ∧ T 0 14 = mi ∧ ∀ e, e < C 10 0 → T 9 e = nI (C 6 e) ∧ T 10 e = nI (C 7 e) ∧ T 11 e = nI (C 8 e)
theorem q_isIn (T : tg_S) (x : Int32) (e : Nat) : f_X8_isIn T x (nI e) = if z_bit x e then some (T, nI 0) else some (T, nI 1) := by
  unfold f_X8_isIn tg_if
  by_cases h : z_bit x e
  · rw [if_pos h, if_neg]
    · rfl
    · intro h2
      exact (q_bit1 _).mp h2 h
  · rw [if_neg h, if_pos]
    · rfl
    · exact (q_bit1 _).mpr h
theorem q_befalls_L (T0 : tg_S) (C : Nat → Nat → Nat) (mi : Int32) (hC : z_ok C) (hev : z_er T0 C mi) (b m : Nat) (hb : b < 24) (hm : m ≤ 9) : ∀ (n e : Nat) (S : tg_S), C 10 0 < n + e → e ≤ C 10 0 → (∀ k j, S k j = if k = 0 ∧ j = 18 then nI (z_mu C mi b e m) else if k = 0 ∧ j = 20 then z_sx C mi b e else if k = 0 ∧ j = 19 then nI (z_dg C mi b e) else T0 k j) → q_tr (L_X8_befalls_12 n S (nI b) (nI e)) (fun S2 => ∀ k j, S2 k j = if k = 0 ∧ j = 18 then nI (z_mu C mi b (C 10 0) m) else if k = 0 ∧ j = 20 then z_sx C mi b (C 10 0) else if k = 0 ∧ j = 19 then nI (z_dg C mi b (C 10 0)) else T0 k j) := by
  intro n
  induction n with
  | zero => intro e S h; omega
  | succ n ih =>
    intro e S h he hI
    have hne := hC.2.2.1
    have f : ∀ k j, k ≠ 0 → S k j = T0 k j := fun k j h => by rw [hI]; simp [h]
    have c9 : S 0 9 = nI (C 10 0) := by rw [hI]; simp [hev.1]
    have c14 : S 0 14 = mi := by rw [hI]; simp [hev.2.1]
    show q_tr (f_X8_befalls_12 (L_X8_befalls_12 n) S (nI b) (nI e)) _
    unfold f_X8_befalls_12
    rw [c9, c14]
    simp (disch := omega) only [q_le]
    refine q_if (fun h => ?_) (fun h => ?_)
    · refine q_ret ?_
      have : e = C 10 0 := by omega
      subst this
      exact hI
    · obtain ⟨h1, h2, h3⟩ := hev.2.2 e (by omega)
      obtain ⟨b1, b2, b3⟩ := hC.2.2.2.1 e (by omega)
      have hmu := z_mu_le (C := C) (mi := mi) (b := b) hm e
      have c18 : S 0 18 = nI (z_mu C mi b e m) := by rw [hI]; simp
      have c20 : S 0 20 = z_sx C mi b e := by rw [hI]; simp
      have c19 : S 0 19 = nI (z_dg C mi b e) := by rw [hI]; simp
      have go : ∀ S2 : tg_S, (∀ k j, S2 k j = if k = 0 ∧ j = 18 then nI (z_mu C mi b (e + 1) m) else if k = 0 ∧ j = 20 then z_sx C mi b (e + 1) else if k = 0 ∧ j = 19 then nI (z_dg C mi b (e + 1)) else T0 k j) → q_tr (f_X8_befalls_126 (L_X8_befalls_12 n) S2 (nI b) (nI e)) (fun S2 => ∀ k j, S2 k j = if k = 0 ∧ j = 18 then nI (z_mu C mi b (C 10 0) m) else if k = 0 ∧ j = 20 then z_sx C mi b (C 10 0) else if k = 0 ∧ j = 19 then nI (z_dg C mi b (C 10 0)) else T0 k j) := fun S2 h2 => by
        unfold f_X8_befalls_126
        simp only [q_lit, q_nm, q_add]
        exact ih (e + 1) S2 (by omega) (by omega) h2
      clear ih
      -- behind the slip bits
      have go2 : ∀ (x : Int32), C 7 e = b → z_bit mi e → (z_sx C mi b (e + 1) = z_sx C mi b e ||| x) → q_tr (f_X8_befalls_67 (L_X8_befalls_12 n) S (nI b) (nI e) x (z_sx C mi b e)) (fun S2 => ∀ k j, S2 k j = if k = 0 ∧ j = 18 then nI (z_mu C mi b (C 10 0) m) else if k = 0 ∧ j = 20 then z_sx C mi b (C 10 0) else if k = 0 ∧ j = 19 then nI (z_dg C mi b (C 10 0)) else T0 k j) := by
        intro x a1 a2 hx
        unfold f_X8_befalls_67 f_X8_befalls_99 f_X8_befalls_100 f_X8_befalls_123
        have d1 : ∀ v, q_st S 0 20 v 0 18 = nI (z_mu C mi b e m) := fun v => by rw [q_stA]; simp [c18]
        have d2 : ∀ v w, q_st (q_st S 0 20 v) 0 18 w 0 19 = nI (z_dg C mi b e) := fun v w => by rw [q_stA, q_stA]; simp [c19]
        simp (disch := omega) only [q_lit, q_pf, q_rd, q_stN, f, h1, q_eq, d1, d2, q_le, q_add]
        have e1 : (if C 6 e = 2 then nI 1 else nI (z_dg C mi b e)) = nI (z_dg C mi b (e + 1)) := by
          simp only [z_dg]
          grind
        rw [e1]
        refine q_if (fun k1 => ?_) (fun k1 => ?_)
        · refine q_if (fun k2 => ?_) (fun k2 => ?_)
          · refine go _ (fun k j => ?_)
            simp only [q_stA, ← hx]
            rw [hI]
            simp only [z_mu]
            grind
          · refine go _ (fun k j => ?_)
            simp only [q_stA, ← hx]
            rw [hI]
            simp only [z_mu]
            grind
        · refine go _ (fun k j => ?_)
          simp only [q_stA, ← hx]
          rw [hI]
          simp only [z_mu]
          grind
      simp (disch := omega) only [q_rd, f, h2, q_eq, q_isIn, c20]
      refine q_if (fun a1 => ?_) (fun a1 => ?_)
      · by_cases a2 : z_bit mi e
        · rw [if_pos a2, q_bdS, q_ifT nI_0]
          simp (disch := omega) only [q_lit, q_rd, f, h1, h3, q_eq, c20]
          refine q_if (fun k0 => ?_) (fun k0 => ?_)
          · exact go2 _ a1 a2 (by simp only [z_sx]; rw [if_pos ⟨a1, a2, k0⟩])
          · exact go2 _ a1 a2 (by simp only [z_sx]; rw [if_neg (fun h => k0 h.2.2), q_or0])
        · rw [if_neg a2, q_bdS, q_ifF (by decide)]
          refine go _ (fun k j => ?_)
          simp only [z_mu, z_sx, z_dg]
          rw [hI]
          grind
      · refine go _ (fun k j => ?_)
        simp only [z_mu, z_sx, z_dg]
        rw [hI]
        grind
theorem q_befalls (T0 : tg_S) (C : Nat → Nat → Nat) (mi : Int32) (hC : z_ok C) (hev : z_er T0 C mi) (b m : Nat) (hb : b < 24) (hm : m ≤ 9) (h18 : T0 0 18 = nI m) : q_tr (f_X8_befalls T0 (nI b)) (fun S2 => ∀ k j, S2 k j = if k = 0 ∧ j = 18 then nI (z_mu C mi b (C 10 0) m) else if k = 0 ∧ j = 20 then z_sx C mi b (C 10 0) else if k = 0 ∧ j = 19 then nI (z_dg C mi b (C 10 0)) else T0 k j) := by
  unfold f_X8_befalls
  rw [q_pf, q_pf]
  refine q_befalls_L T0 C mi hC hev b m hb hm tg_F 0 _ (by have := hC.2.2.1; unfold tg_F; omega) (Nat.zero_le _) (fun k j => ?_)
  simp only [q_stA, z_mu, z_sx, z_dg]
  grind [nI_0]
