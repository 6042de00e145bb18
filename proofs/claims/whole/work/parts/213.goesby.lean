def z_lv (C : Nat → Nat → Nat) (mi : Int32) : Nat → Nat
  | 0 => 0
  | b + 1 => z_lv C mi b + (if z_sim C mi b 1 = 2 ∧ z_su C mi b (z_sim C mi b) 0 8 = z_su C mi b (z_sim C mi b) 8 8 then 1 else 0)
def z_dn (C : Nat → Nat → Nat) (mi : Int32) (k : Nat) : Nat → Nat
  | 0 => 0
  | b + 1 => z_dn C mi k b + z_pk C mi b k
/-- the first loop of a beat, in the reference -/
def z_H (C : Nat → Nat → Nat) (mi : Int32) (b : Nat) (T0 : tg_S) (i k j : Nat) : Int32 :=
  if k = 17 ∧ j < i then (if C 0 j = 1 then nI (z_pk C mi b j) else nI 0)
  else if k = 15 ∧ j < i ∧ C 0 j = 1 then nI (z_sim C mi (b + 1) (3 + j))
  else if k = 16 ∧ j < i ∧ C 0 j = 1 then nI (z_dn C mi j (b + 1))
  else if k = 18 ∧ j = 0 then (if z_sim C mi b 1 = 2 then nI (z_su C mi b (z_sim C mi b) 0 (if i < 8 then i else 8)) else nI 0)
  else if k = 18 ∧ j = 1 then (if z_sim C mi b 1 = 2 then nI (z_su C mi b (z_sim C mi b) 8 (i - 8)) else nI 0)
  else T0 k j
theorem z_H_out {C : Nat → Nat → Nat} {mi : Int32} {b : Nat} {T0 : tg_S} {i k j : Nat} (h : k < 15 ∨ 18 < k) : z_H C mi b T0 i k j = T0 k j := by
  unfold z_H
  simp [show k ≠ 17 by omega, show k ≠ 15 by omega, show k ≠ 16 by omega, show k ≠ 18 by omega]
/-- what runs keeps of the contest from beat to beat -/
def z_rk (T : tg_S) (C : Nat → Nat → Nat) (mi : Int32) : Prop := z_hr T C ∧ z_r1 T C ∧ (∀ j, j < 48 → T 12 j = nI (C 5 j)) ∧ z_er T C mi
theorem z_rk_congr {T T0 : tg_S} {C : Nat → Nat → Nat} {mi : Int32} (h : ∀ k j, k ≠ 0 → k < 15 → T k j = T0 k j) (h9 : T 0 9 = T0 0 9) (h14 : T 0 14 = T0 0 14) (h16 : T 0 16 = T0 0 16) (hr : z_rk T0 C mi) : z_rk T C mi := by
  obtain ⟨⟨n, hn1, hn2⟩, h1, h5, h6, h7, h8⟩ := hr
  refine ⟨⟨n, fun m hm => by rw [h _ _ (by omega) (by omega)]; exact hn1 m hm, fun k hk => by rw [h16]; exact hn2 k hk⟩, fun k hk h0 => ?_, fun j hj => by rw [h _ _ (by omega) (by omega)]; exact h5 j hj, by rw [h9]; exact h6, by rw [h14]; exact h7, fun e he => ?_⟩
  · rw [h _ _ (by omega) (by omega), h _ _ (by omega) (by omega), h _ _ (by omega) (by omega), h _ _ (by omega) (by omega)]
    exact h1 k hk h0
  · rw [h _ _ (by omega) (by omega), h _ _ (by omega) (by omega), h _ _ (by omega) (by omega)]
    exact h8 e he
theorem q_goesBy_L (T0 : tg_S) (C : Nat → Nat → Nat) (mi : Int32) (hC : z_ok C) (hr : z_rk T0 C mi) (b : Nat) (hb : b < 24) (hs : ∀ k, k < 16 → C 0 k = 1 → T0 15 k = nI (z_sim C mi b (3 + k)) ∧ T0 16 k = nI (z_dn C mi k b)) (h18 : T0 0 18 = nI (z_m C mi (b + 1))) (h20 : T0 0 20 = z_sx C mi b (C 10 0)) (h19 : T0 0 19 = nI (z_dg C mi b (C 10 0))) (h22 : T0 0 22 = z_wi (z_sim C mi b 1)) (Q : tg_S → Prop)
    (fin : ∀ (rec : tg_S → Int32 → Int32 → Option tg_S) (S : tg_S), (∀ k j, S k j = z_H C mi b T0 16 k j) → q_tr (f_X8_goesBy_21 rec S (nI b) (nI 16)) Q) : ∀ (n i : Nat) (S : tg_S), 16 < n + i → i ≤ 16 → (∀ k j, S k j = z_H C mi b T0 i k j) → q_tr (L_X8_goesBy_21 n S (nI b) (nI i)) Q := by
  intro n
  induction n with
  | zero => intro i S h; omega
  | succ n ih =>
    intro i S h hi hI
    show q_tr (f_X8_goesBy_21 (L_X8_goesBy_21 n) S (nI b) (nI i)) _
    by_cases hlt : i < 16
    · unfold f_X8_goesBy_21
      have f : ∀ k j, k < 15 ∨ 18 < k → S k j = T0 k j := fun k j h => by rw [hI]; exact z_H_out h
      obtain ⟨p1, p2, p3, p4, p5⟩ := z_sim_ok (mi := mi) hC b
      obtain ⟨b0, b1⟩ := hC.1 i hlt
      have go : ∀ S2 : tg_S, (∀ k j, S2 k j = z_H C mi b T0 (i + 1) k j) → q_tr (f_X8_goesBy_56 (L_X8_goesBy_21 n) S2 (nI b) (nI i)) Q := fun S2 h2 => by
        unfold f_X8_goesBy_56
        simp only [q_lit, q_nm, q_add]
        exact ih (i + 1) S2 (by omega) (by omega) h2
      clear ih
      have hrS : z_rk (q_st S 17 i (nI 0)) C mi := z_rk_congr (fun k j h h2 => by rw [q_stN _ _ _ (by omega), f _ _ (by omega)]) (by rw [q_stN _ _ _ (by omega), f _ _ (by omega)]) (by rw [q_stN _ _ _ (by omega), f _ _ (by omega)]) (by rw [q_stN _ _ _ (by omega), f _ _ (by omega)]) hr
      simp (disch := omega) only [q_lit, q_le, q_ifF, q_wr, q_isHere _ C hC hrS.1, q_bdS, q_eq, q_stN]
      have e22 : S 0 22 = z_wi (z_sim C mi b 1) := by rw [f _ _ (by omega)]; exact h22
      rw [e22]
      refine q_if (fun a0 => ?_) (fun a0 => ?_)
      · refine go _ (fun k j => ?_)
        simp only [q_stA]
        rw [hI]
        simp only [z_H]
        by_cases hw : z_sim C mi b 1 = 2
        · have ea : i < 8 → z_su C mi b (z_sim C mi b) 0 (i + 1) = z_su C mi b (z_sim C mi b) 0 i := fun h => by simp [z_su, a0]
          have eb : ¬ i < 8 → z_su C mi b (z_sim C mi b) 8 (i - 8 + 1) = z_su C mi b (z_sim C mi b) 8 (i - 8) := fun h => by simp [z_su, show 8 + (i - 8) = i by omega, a0]
          clear hI go f hs hr hrS fin hC p5 b1
          grind (splits := 20)
        · clear hI go f hs hr hrS fin hC p5 b1
          grind (splits := 20)
      · have h0 : C 0 i = 1 := by omega
        obtain ⟨hs1, hs2⟩ := hs i hlt h0
        by_cases hw : z_sim C mi b 1 = 2
        · have ew : z_wi (z_sim C mi b 1) = -nI 1 := by unfold z_wi; rw [if_pos hw]
          rw [ew, q_ifT rfl]
          have esu : S 18 (i / 8) = nI (z_su C mi b (z_sim C mi b) (8 * (i / 8)) (i - 8 * (i / 8))) := by
            rw [hI]
            simp only [z_H, hw]
            rcases (show i / 8 = 0 ∨ i / 8 = 1 by omega) with q | q
            · rw [q]
              have : i < 8 := by omega
              simp [this]
            · rw [q]
              simp
          have esn : z_su C mi b (z_sim C mi b) (8 * (i / 8)) (i - 8 * (i / 8) + 1) = z_su C mi b (z_sim C mi b) (8 * (i / 8)) (i - 8 * (i / 8)) + z_pk C mi b i := by
            simp only [z_su, z_pk, hw]
            rw [show 8 * (i / 8) + (i - 8 * (i / 8)) = i by omega]
            simp [h0]
          have epk : z_pk C mi b i = z_pu C mi b i (z_sim C mi b (3 + i)) := by simp [z_pk, hw]
          have ebn : z_sim C mi (b + 1) (3 + i) = z_bn C mi b i (z_sim C mi b (3 + i)) := by
            simp [z_sim, z_stp, hw, show 3 + i ≠ 0 by omega, show 3 + i ≠ 1 by omega, show 3 + i ≠ 2 by omega]
          have edn : z_dn C mi i (b + 1) = z_dn C mi i b + z_pk C mi b i := rfl
          refine q_bv (q_pullsOne _ C mi hC hrS.2.1 hrS.2.2.1 b i (z_sim C mi b (3 + i)) (z_dn C mi i b) _ hb hlt h0 (z_sim_br b i) (by rw [q_stN _ _ _ (by omega), hI, ← hs1]; simp [z_H]) (by rw [q_stN _ _ _ (by omega), hI, ← hs2]; simp [z_H]) (by rw [q_stN _ _ _ (by omega)]; exact esu) (by rw [q_stN _ _ _ (by omega), f _ _ (by omega)]; exact h18) (by rw [q_stN _ _ _ (by omega), f _ _ (by omega)]; exact h20) (by rw [q_stN _ _ _ (by omega), f _ _ (by omega)]; exact h19)) (fun S2 hS2 => ?_)
          refine go _ (fun k j => ?_)
          rw [hS2, q_stA, hI, ← epk, ← ebn, ← edn, ← esn]
          simp only [z_H]
          have q8 : i / 8 = 0 ∧ i < 8 ∧ 8 * (i / 8) = 0 ∨ i / 8 = 1 ∧ 8 ≤ i ∧ 8 * (i / 8) = 8 := by omega
          clear hI go f hs hr hrS fin hC p5 b1 hS2 esn esu edn ebn epk
          rcases q8 with ⟨q1, q2, q3⟩ | ⟨q1, q2, q3⟩
          · rw [q1]
            simp only [Nat.mul_zero, Nat.sub_zero]
            grind (splits := 24)
          · rw [q1]
            have : i - 8 * 1 + 1 = i + 1 - 8 := by omega
            rw [this]
            grind (splits := 24)
        · have ew : ¬ z_wi (z_sim C mi b 1) = -nI 1 := by
            unfold z_wi
            rw [if_neg hw, q_eqm (by omega)]
            exact id
          rw [q_ifF ew]
          refine go _ (fun k j => ?_)
          have e1 : z_sim C mi (b + 1) (3 + i) = z_sim C mi b (3 + i) := by simp [z_sim, z_stp, hw]
          have e2 : z_pk C mi b i = 0 := by simp [z_pk, hw]
          have e3 : z_dn C mi i (b + 1) = z_dn C mi i b := by simp [z_dn, e2]
          simp only [q_stA]
          rw [hI]
          simp only [z_H]
          have r1 : T0 15 i = nI (z_sim C mi (b + 1) (3 + i)) := by rw [hs1, e1]
          have r2 : T0 16 i = nI (z_dn C mi i (b + 1)) := by rw [hs2, e3]
          clear hI go f hs hr hrS fin hC p5 b1
          grind (splits := 24)
    · have : i = 16 := by omega
      subst this
      exact fin _ S hI
