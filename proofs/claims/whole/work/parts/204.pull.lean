theorem z_rc_congr {S S0 : tg_S} {t c : Nat} {C : Nat → Nat → Nat} {mi : Int32} (ht : t + 11 < c) (h : ∀ k j, k < c → S k j = S0 k j) (hr : z_rc S0 t C mi) : z_rc S t C mi := by
  obtain ⟨h1, h2, h3, h4, h5⟩ := hr
  refine ⟨fun k hk => by rw [h _ _ (by omega)]; exact h1 k hk, fun k hk h0 => ?_, fun j hj => by rw [h _ _ (by omega)]; exact h3 j hj, ⟨by rw [h _ _ (by omega)]; exact h4.1, by rw [h _ _ (by omega)]; exact h4.2.1, fun e he => ?_⟩, by rw [h _ _ (by omega)]; exact h5⟩
  · rw [h _ _ (by omega), h _ _ (by omega), h _ _ (by omega), h _ _ (by omega)]
    exact h2 k hk h0
  · rw [h _ _ (by omega), h _ _ (by omega), h _ _ (by omega)]
    exact h4.2.2 e he
def z_F (C : Nat → Nat → Nat) (mi : Int32) (b : Nat) (s : Nat → Nat) (c lo : Nat) (S0 : tg_S) (i k j : Nat) : Int32 :=
  if k = c + 6 ∧ lo ≤ j ∧ j < lo + i ∧ C 0 j = 1 then nI (z_bn C mi b j (s (3 + j)))
  else if k = c + 4 ∧ j % 24 = b ∧ lo ≤ j / 24 ∧ j / 24 < lo + i ∧ C 0 (j / 24) = 1 then nI (z_pu C mi b (j / 24) (s (3 + j / 24)))
  else if k = c + 5 ∧ j % 24 = b ∧ lo ≤ j / 24 ∧ j / 24 < lo + i ∧ C 0 (j / 24) = 1 then nI (z_bn C mi b (j / 24) (s (3 + j / 24)))
  else S0 k j
theorem z_F_out {C : Nat → Nat → Nat} {mi : Int32} {b : Nat} {s : Nat → Nat} {c lo : Nat} {S0 : tg_S} {i k j : Nat} (h : k < c + 4) : z_F C mi b s c lo S0 i k j = S0 k j := by
  unfold z_F
  simp [show k ≠ c + 6 by omega, show k ≠ c + 4 by omega, show k ≠ c + 5 by omega]
theorem q_pull_L (c t : Nat) (ht : t + 11 < c) (S0 : tg_S) (C : Nat → Nat → Nat) (mi : Int32) (hC : z_ok C) (hr : z_rc S0 t C mi) (b m cl : Nat) (hb : b < 24) (hm : m ≤ 1) (s : Nat → Nat) (hs : ∀ k, 8 * m ≤ k → k < 8 * m + 8 → C 0 k = 1 → S0 (c + 6) k = nI (s (3 + k)) ∧ s (3 + k) ≤ 9) (h9 : S0 c 9 = nI (z_m C mi (b + 1))) (h10 : S0 c 10 = z_sx C mi b (C 10 0)) (hcl : ∀ k, k / 8 = m → z_ca C mi b k = cl) (hcl2 : cl ≤ 2) : ∀ (n i : Nat) (S : tg_S), 8 < n + i → i ≤ 8 → (∀ k j, S k j = z_F C mi b s c (8 * m) S0 i k j) → q_tr (L_X2_pullOfTeam_33 c t n S (nI m) (nI b) (nI cl) (nI (z_su C mi b s (8 * m) i)) (nI (8 * m + i))) (fun r => r.2 = nI (z_su C mi b s (8 * m) 8) ∧ ∀ k j, r.1 k j = z_F C mi b s c (8 * m) S0 8 k j) := by
  intro n
  induction n with
  | zero => intro i S h; omega
  | succ n ih =>
    intro i S h hi hI
    have f : ∀ k j, k < c + 4 → S k j = S0 k j := fun k j h => by rw [hI]; exact z_F_out h
    show q_tr (f_X2_pullOfTeam_33 c t (L_X2_pullOfTeam_33 c t n) S (nI m) (nI b) (nI cl) (nI (z_su C mi b s (8 * m) i)) (nI (8 * m + i))) _
    unfold f_X2_pullOfTeam_33
    simp (disch := omega) only [q_lit, q_mul, q_add, q_le]
    refine q_if (fun h => ?_) (fun h => ?_)
    · have : i = 8 := by omega
      subst this
      exact q_ret ⟨rfl, hI⟩
    · have hk : 8 * m + i < 16 := by omega
      obtain ⟨b0, b1⟩ := hC.1 (8 * m + i) hk
      have hr2 : z_rc S t C mi := z_rc_congr ht (fun k j h => f k j (by omega)) hr
      have hmd := z_m_le (mi := mi) hC (b + 1)
      have go : ∀ (S2 : tg_S) (x : Int32), x = nI (z_su C mi b s (8 * m) (i + 1)) → (∀ k j, S2 k j = z_F C mi b s c (8 * m) S0 (i + 1) k j) → q_tr (L_X2_pullOfTeam_33 c t n S2 (nI m) (nI b) (nI cl) x (nI (8 * m + i + 1))) (fun r => r.2 = nI (z_su C mi b s (8 * m) 8) ∧ ∀ k j, r.1 k j = z_F C mi b s c (8 * m) S0 8 k j) := by
        intro S2 x hx h2
        rw [hx]
        exact ih (i + 1) S2 (by omega) (by omega) h2
      clear ih
      unfold f_X2_pullOfTeam_172 f_X2_pullOfTeam_72
      simp (disch := omega) only [q_rd, hr2.1, q_lit, q_eq, q_nm, q_add]
      refine q_if (fun a0 => ?_) (fun a0 => ?_)
      · refine go S _ ?_ (fun k j => ?_)
        · simp only [z_su, a0]; grind
        · rw [hI]; unfold z_F; clear hs hr hr2 go f hI hC hcl h9 h10; grind (splits := 24)
      · have h0 : C 0 (8 * m + i) = 1 := by omega
        obtain ⟨b1, b2, b3⟩ := b1 h0
        obtain ⟨hs1, hs2⟩ := hs (8 * m + i) (by omega) (by omega) h0
        have hbr : S (c + 6) (8 * m + i) = nI (s (3 + (8 * m + i))) := by rw [hI]; unfold z_F; grind
        -- behind the force
        have fin : ∀ (S2 : tg_S) (fo br2 : Nat), fo ≤ 20 → z_pu C mi b (8 * m + i) (s (3 + (8 * m + i))) = fo - (if C 1 (8 * m + i) = 2 then 0 else z_m C mi (b + 1)) → z_bn C mi b (8 * m + i) (s (3 + (8 * m + i))) = br2 → (∀ k2 j, S2 k2 j = if k2 = c + 6 ∧ j = 8 * m + i then nI br2 else S k2 j) → q_tr (f_X2_pullOfTeam_92 c t (L_X2_pullOfTeam_33 c t n) S2 (nI m) (nI b) (nI cl) (nI (z_su C mi b s (8 * m) i)) (nI (8 * m + i)) (nI fo)) (fun r => r.2 = nI (z_su C mi b s (8 * m) 8) ∧ ∀ k j, r.1 k j = z_F C mi b s c (8 * m) S0 8 k j) := by
          intro S2 fo br2 hfo hpu hbn hS2
          have f2 : ∀ k j, k < c + 4 → S2 k j = S0 k j := fun k j h => by rw [hS2, ← f k j h]; simp [show k ≠ c + 6 by omega]
          unfold f_X2_pullOfTeam_92 f_X2_pullOfTeam_113 f_X2_pullOfTeam_172
          have e1 : S2 (t + 2) (8 * m + i) = nI (C 1 (8 * m + i)) := by rw [f2 _ _ (by omega)]; exact (hr.2.1 _ hk h0).1
          simp (disch := omega) only [q_lit, q_rd, e1, f2, h9, q_eq, q_mul, q_add]
          have e2 : (if C 1 (8 * m + i) = 2 then nI 0 else nI (z_m C mi (b + 1))) = nI (if C 1 (8 * m + i) = 2 then 0 else z_m C mi (b + 1)) := by split <;> rfl
          have e3 : tg_max (nI 0) (nI fo - nI (if C 1 (8 * m + i) = 2 then 0 else z_m C mi (b + 1))) = nI (fo - (if C 1 (8 * m + i) = 2 then 0 else z_m C mi (b + 1))) := by
            generalize hg : (if C 1 (8 * m + i) = 2 then 0 else z_m C mi (b + 1)) = g
            have hg9 : g ≤ 9 := by rw [← hg]; split <;> omega
            rcases Nat.lt_or_ge fo g with q | q
            · have : tg_max (nI 0) (nI fo - nI g) = nI 0 := by
                unfold tg_max
                rw [if_neg]
                intro hlt
                have h5 := pk_sneg (a := fo) (b := g) (by omega) q
                rw [← nI_0] at h5
                exact absurd hlt (by
                  have := Int32.lt_asymm h5
                  exact this)
              rw [this]
              congr 1
              omega
            · rw [q_sub q, q_max (by omega) (by omega)]
              congr 1
              split <;> omega
          rw [e2, e3, ← hpu]
          have hp20 := z_pu_le (mi := mi) (b := b) (br := s (3 + (8 * m + i))) b2
          have e4 : S2 (c + 6) (8 * m + i) = nI br2 := by rw [hS2]; simp
          simp (disch := omega) only [q_wr, q_rd, q_stN, e4, q_stS, pk_us, q_nm, q_add]
          refine go _ _ ?_ (fun k j => ?_)
          · simp only [z_su]
            simp [h0]
          · simp only [q_stA, hS2]
            rw [hI]
            unfold z_F
            clear e2 e3 hr hr2 hC go f f2 hs hI hS2 hpu hcl h9 h10 e1 e4 hs1 hbr
            grind (splits := 24)
        by_cases hz : z_bit (z_sx C mi b (C 10 0)) (8 * m + i)
        · rw [f c 10 (by omega), h10, if_pos hz, q_ifT rfl]
          refine q_bd (q_force c t ht S C mi hC hr2 _ cl _ hk h0 hcl2 hs2 hbr) (fun S2 r hq => ?_)
          obtain ⟨hq1, hq2⟩ := hq
          dsimp only at hq1 hq2
          rw [hq1]
          refine fin S2 _ (z_br C (8 * m + i) cl (s (3 + (8 * m + i)))) (z_fo_le b2) ?_ ?_ hq2
          · unfold z_pu
            rw [if_pos hz, hcl _ (by omega)]
          · unfold z_bn
            rw [if_pos hz, hcl _ (by omega)]
        · rw [f c 10 (by omega), h10, if_neg hz, q_ifF (by decide)]
          refine fin S 0 (s (3 + (8 * m + i))) (by omega) ?_ ?_ ?_
          · unfold z_pu
            rw [if_neg hz]
          · unfold z_bn
            rw [if_neg hz]
          · intro k2 j
            split
            · rename_i hh
              rw [hh.1, hh.2, hbr]
            · rfl

theorem q_pull (c t : Nat) (ht : t + 11 < c) (S0 : tg_S) (C : Nat → Nat → Nat) (mi : Int32) (hC : z_ok C) (hr : z_rc S0 t C mi) (b m : Nat) (hb : b < 24) (hm : m ≤ 1) (s : Nat → Nat) (hs : ∀ k, 8 * m ≤ k → k < 8 * m + 8 → C 0 k = 1 → S0 (c + 6) k = nI (s (3 + k)) ∧ s (3 + k) ≤ 9) (h9 : S0 c 9 = nI (z_m C mi (b + 1))) (h10 : S0 c 10 = z_sx C mi b (C 10 0)) (h11 : S0 c 11 = nI (z_dg C mi b (C 10 0))) : q_tr (f_X2_pullOfTeam c t S0 (nI m) (nI b)) (fun r => r.2 = nI (z_su C mi b s (8 * m) 8) ∧ ∀ k j, r.1 k j = z_F C mi b s c (8 * m) S0 8 k j) := by
  unfold f_X2_pullOfTeam f_X2_pullOfTeam_22
  have hd := z_dg_le (C := C) (mi := mi) (b := b) (C 10 0)
  have h5 := hC.2.1 (m * 24 + b) (by omega)
  have e5 := hr.2.2.1 (m * 24 + b) (by omega)
  simp (disch := omega) only [q_lit, h11, q_eq, q_mul, q_add, q_rd, e5, q_nm]
  have L := fun cl hcl hcl2 => q_pull_L c t ht S0 C mi hC hr b m cl hb hm s hs h9 h10 hcl hcl2 tg_F 0 S0 (by decide) (by decide) (fun k j => by unfold z_F; grind)
  rw [show m * 8 = 8 * m + 0 by omega]
  refine q_if (fun a => ?_) (fun a => ?_)
  · refine L (C 5 (m * 24 + b)) (fun k hk => ?_) h5
    unfold z_ca
    rw [if_pos a, hk]
    congr 1
    omega
  · refine L 0 (fun k hk => ?_) (by omega)
    unfold z_ca
    rw [if_neg a]
