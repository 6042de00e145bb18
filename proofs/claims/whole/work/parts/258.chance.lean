theorem z_eq_bd {a b : Type} {o1 o2 : Option (tg_S × a)} {k1 k2 : tg_S → a → Option (tg_S × b)} (h : z_eq o1 o2) (hk : ∀ S T r A, z_I S T A → z_eq (k1 S r) (k2 T r)) : z_eq (tg_bd o1 k1) (tg_bd o2 k2) := by
  obtain ⟨S, T, r, A, e1, e2, hI⟩ := h
  rw [e1, e2]
  exact hk S T r A hI
-- ===== chance =====
theorem q_shl : ∀ n, n < 9 → nI 1 <<< (nI n &&& nI 31) = nI (2 ^ n) := by decide
theorem z_2le {n : Nat} (h : n ≤ 8) : 2 ^ n ≤ 256 := Nat.pow_le_pow_right (by omega) h
theorem q_refresh (S : tg_S) (A : Nat → Nat → Nat) (hA : z_aok A) (hc : z_ci S A) : q_tr (f_X7_refreshWinners S) (fun S2 => S2 0 11 = nI 1 ∧ (∀ w, w < 2 ^ A 5 0 → S2 51 w = z_wi (z_sim (z_C A) (nI w) 24 1)) ∧ ∀ k j, (k < 23 ∨ 35 ≤ k ∧ k ≤ 41) → (k ≠ 0 ∨ j ≠ 11) → S2 k j = S k j) := by
  have h8 := hA.2.1.1
  have h256 := z_2le h8
  have hC := z_C_ok A hA.1 hA.2.1
  have L : ∀ (n w : Nat) (S2 : tg_S), 256 < n + w → w ≤ 2 ^ A 5 0 → (∃ m0, z_rc S2 23 (z_C A) m0) → (∀ u, u < w → S2 51 u = z_wi (z_sim (z_C A) (nI u) 24 1)) → (∀ k j, (k < 23 ∨ 35 ≤ k ∧ k ≤ 41) → S2 k j = S k j) → q_tr (L_X7_refreshWinners_20 n S2 (nI w)) (fun S2 => S2 0 11 = nI 1 ∧ (∀ w, w < 2 ^ A 5 0 → S2 51 w = z_wi (z_sim (z_C A) (nI w) 24 1)) ∧ ∀ k j, (k < 23 ∨ 35 ≤ k ∧ k ≤ 41) → (k ≠ 0 ∨ j ≠ 11) → S2 k j = S k j) := by
    intro n
    induction n with
    | zero => intro w S2 h; omega
    | succ n ih =>
      intro w S2 h hw hr ht hf
      obtain ⟨m0, hr⟩ := hr
      show q_tr (f_X7_refreshWinners_20 (L_X7_refreshWinners_20 n) S2 (nI w)) _
      unfold f_X7_refreshWinners_20
      have e31 : S2 31 3 = nI (A 5 0) := hr.2.2.2.1.1
      simp only [q_lit]
      rw [e31, q_shl _ (by omega)]
      simp (disch := omega) only [q_le, q_pf, q_nm, q_add]
      refine q_if (fun hh => ?_) (fun hh => ?_)
      · have e : w = 2 ^ A 5 0 := by omega
        refine q_ret ⟨by rw [q_stS, pk_us], fun u hu => by rw [q_stN _ _ _ (by omega)]; exact ht u (by omega), fun k j hk hj => by rw [q_stA, if_neg (by omega)]; exact hf k j hk⟩
      · have hr1 := z_rc_mi (nI w) hr
        refine q_bd (q_play 42 23 (by omega) _ (z_C A) (nI w) hC hr1) (fun S3 r3 h3 => ?_)
        obtain ⟨-, c3, f3⟩ := h3
        dsimp only at c3 f3
        simp (disch := omega) only [q_wr]
        rw [c3.1.1]
        refine ih (w + 1) _ (by omega) (by omega) ⟨nI w, z_rc_congr2 (fun k j _ _ => by rw [q_stN _ _ _ (by omega)]; exact f3 k j (by omega)) hr1⟩ (fun u hu => ?_) (fun k j hk => ?_)
        · rw [q_stA]
          by_cases hu2 : u = w
          · rw [if_pos ⟨rfl, hu2⟩, hu2]
          · rw [if_neg (by omega), f3 _ _ (by omega), q_stN _ _ _ (by omega)]
            exact ht u (by omega)
        · rw [q_stN _ _ _ (by omega), f3 _ _ (by omega), q_stN _ _ _ (by omega)]
          exact hf k j hk
  unfold f_X7_refreshWinners
  simp only [q_lit]
  rcases hc.2.2.2.2.2 with g | ⟨g1, g2⟩
  · rw [g, q_ifT rfl]
    refine q_bv (q_becomeLike S A hA.2.1 hc.2.2.1 hc.2.1) (fun S1 h1 => ?_)
    exact L tg_F 0 S1 (by unfold tg_F; omega) (Nat.zero_le _) ⟨_, h1.1⟩ (fun u hu => absurd hu (Nat.not_lt_zero u)) (fun k j hk => h1.2.2 k j (by omega))
  · rw [g1, q_ifF (by decide)]
    exact q_ret ⟨g1, g2, fun _ _ _ _ => rfl⟩
