
theorem q_standStill_L (c : Nat) (S0 : tg_S) (b : Nat) (hb : b < 24) : ∀ (n i : Nat) (S : tg_S), 16 < n + i → i ≤ 16 → (∀ k j, S k j = if k = c + 4 ∧ j % 24 = b ∧ j / 24 < i then 0 else if k = c + 5 ∧ j % 24 = b ∧ j / 24 < i then S0 (c + 6) (j / 24) else S0 k j) → q_tr (L_X2_standStill_2 c n S (nI b) (nI i)) (fun S2 => ∀ k j, S2 k j = if k = c + 4 ∧ j % 24 = b ∧ j / 24 < 16 then 0 else if k = c + 5 ∧ j % 24 = b ∧ j / 24 < 16 then S0 (c + 6) (j / 24) else S0 k j) := by
  intro n
  induction n with
  | zero => intro i S h; omega
  | succ n ih =>
    intro i S h hi hI
    show q_tr (f_X2_standStill_2 c (L_X2_standStill_2 c n) S (nI b) (nI i)) _
    unfold f_X2_standStill_2
    simp (disch := omega) only [q_lit, q_le, q_mul, q_add, q_wr, q_rd, q_nm]
    refine q_if (fun h => ?_) (fun h => ?_)
    · refine q_ret ?_
      have : i = 16 := by omega
      subst this
      exact hI
    · simp (disch := omega) only [q_wr, q_rd, q_nm]
      refine ih (i + 1) _ (by omega) (by omega) ?_
      intro k j
      simp only [q_stA, hI]
      clear ih hI
      grind [nI_0]
def z_ev (S : tg_S) (v : Nat) (C : Nat → Nat → Nat) (mi : Int32) : Prop := S v 3 = nI (C 10 0) ∧ S v 4 = mi ∧ ∀ e, e < C 10 0 → S (v + 1) e = nI (C 6 e) ∧ S (v + 2) e = nI (C 7 e) ∧ S (v + 3) e = nI (C 8 e)
theorem q_meet_L (c v : Nat) (hv : v + 3 < c) (S0 : tg_S) (C : Nat → Nat → Nat) (mi : Int32) (hC : z_ok C) (hev : z_ev S0 v C mi) (b m : Nat) (hb : b < 24) (hm : m ≤ 9) : ∀ (n e : Nat) (S : tg_S), C 10 0 < n + e → e ≤ C 10 0 → (∀ k j, S k j = if k = c ∧ j = 9 then nI (z_mu C mi b e m) else if k = c ∧ j = 10 then z_sx C mi b e else if k = c ∧ j = 11 then nI (z_dg C mi b e) else S0 k j) → q_tr (L_X2_meetEvents_12 c v n S (nI b) (nI e)) (fun S2 => ∀ k j, S2 k j = if k = c ∧ j = 9 then nI (z_mu C mi b (C 10 0) m) else if k = c ∧ j = 10 then z_sx C mi b (C 10 0) else if k = c ∧ j = 11 then nI (z_dg C mi b (C 10 0)) else S0 k j) := by
  intro n
  induction n with
  | zero => intro e S h; omega
  | succ n ih =>
    intro e S h he hI
    have hne := hC.2.2.1
    have f : ∀ k j, k ≠ c → S k j = S0 k j := fun k j h => by rw [hI]; simp [h]
    show q_tr (f_X2_meetEvents_12 c v (L_X2_meetEvents_12 c v n) S (nI b) (nI e)) _
    unfold f_X2_meetEvents_12
    rw [f v 3 (by omega), hev.1]
    simp (disch := omega) only [q_le]
    refine q_if (fun h => ?_) (fun h => ?_)
    · refine q_ret ?_
      have : e = C 10 0 := by omega
      subst this
      exact hI
    · obtain ⟨h1, h2, h3⟩ := hev.2.2 e (by omega)
      obtain ⟨b1, b2, b3⟩ := hC.2.2.2.1 e (by omega)
      have hmu := z_mu_le (C := C) (mi := mi) (b := b) hm e
      have c9 : S c 9 = nI (z_mu C mi b e m) := by rw [hI]; simp
      have c10 : S c 10 = z_sx C mi b e := by rw [hI]; simp
      unfold f_X3_happens f_X2_meetEvents_97
      rw [f v 4 (by omega), hev.2.1]
      simp (disch := omega) only [q_rd, f, h1, h2, h3, q_lit, q_eq, q_nm, q_add]
      have go : ∀ S2 : tg_S, (∀ k j, S2 k j = if k = c ∧ j = 9 then nI (z_mu C mi b (e + 1) m) else if k = c ∧ j = 10 then z_sx C mi b (e + 1) else if k = c ∧ j = 11 then nI (z_dg C mi b (e + 1)) else S0 k j) → q_tr (L_X2_meetEvents_12 c v n S2 (nI b) (nI (e + 1))) (fun S2 => ∀ k j, S2 k j = if k = c ∧ j = 9 then nI (z_mu C mi b (C 10 0) m) else if k = c ∧ j = 10 then z_sx C mi b (C 10 0) else if k = c ∧ j = 11 then nI (z_dg C mi b (C 10 0)) else S0 k j) := fun S2 h2 => ih (e + 1) S2 (by omega) (by omega) h2
      clear ih
      simp (disch := omega) only [q_bdI, q_bdS, q_ifT, q_ifF, q_eq, f, h1, h3, q_pf]
      refine q_if (fun a1 => ?_) (fun a1 => ?_)
      · refine q_if (fun a2 => ?_) (fun a2 => ?_)
        · refine q_if (fun k0 => ?_) (fun k0 => ?_)
          · refine go _ (fun k j => ?_)
            simp only [q_stA, z_mu, z_sx, z_dg, c10]
            rw [hI]
            grind
          · refine q_if (fun k1 => ?_) (fun k1 => ?_)
            · refine go _ (fun k j => ?_)
              simp only [q_stA, z_mu, z_sx, z_dg, c9]
              simp (disch := omega) only [q_add, q_min]
              rw [hI]
              grind
            · simp (disch := omega) only [q_ifT]
              refine go _ (fun k j => ?_)
              simp only [q_stA, z_mu, z_sx, z_dg]
              rw [hI]
              grind
        · refine go _ (fun k j => ?_)
          simp only [z_mu, z_sx, z_dg]
          rw [hI]
          grind
      · refine go _ (fun k j => ?_)
        simp only [z_mu, z_sx, z_dg]
        rw [hI]
        grind
theorem q_meet (c v : Nat) (hv : v + 3 < c) (S0 : tg_S) (C : Nat → Nat → Nat) (mi : Int32) (hC : z_ok C) (hev : z_ev S0 v C mi) (b m : Nat) (hb : b < 24) (hm : m ≤ 9) (h9 : S0 c 9 = nI m) : q_tr (f_X2_meetEvents c v S0 (nI b)) (fun S2 => ∀ k j, S2 k j = if k = c ∧ j = 9 then nI (z_mu C mi b (C 10 0) m) else if k = c ∧ j = 10 then z_sx C mi b (C 10 0) else if k = c ∧ j = 11 then nI (z_dg C mi b (C 10 0)) else S0 k j) := by
  unfold f_X2_meetEvents
  rw [q_pf, q_pf]
  refine q_meet_L c v hv S0 C mi hC hev b m hb hm tg_F 0 _ (by have := hC.2.2.1; unfold tg_F; omega) (Nat.zero_le _) (fun k j => ?_)
  simp only [q_stA, z_mu, z_sx, z_dg]
  grind [nI_0]
