/-- who is the last of team m when p and q (p < q) have changed places -/
def z_lq (A : Nat → Nat → Nat) (m p q : Nat) : Nat := if q + 1 = 8 * m + z_sz A m then p else 8 * m + z_sz A m - 1
def z_CS (A : Nat → Nat → Nat) (m p q c j : Nat) : Nat := if c = 4 ∧ j / 8 = m then (if z_lq A m p q = j then 1 else 0) else z_C A c j
theorem z_CS_ne (A : Nat → Nat → Nat) (m p q c j : Nat) (h4 : c ≠ 4) : z_CS A m p q c j = z_C A c j := by simp [z_CS, h4]
theorem z_CS_ok (A : Nat → Nat → Nat) (hA : z_aok A) (m p q : Nat) : z_ok (z_CS A m p q) := by
  obtain ⟨h1, h2, h3, h4, h5⟩ := z_C_ok A hA.1 hA.2.1
  refine ⟨fun k hk => ?_, fun j hj => by rw [z_CS_ne _ _ _ _ _ _ (by omega)]; exact h2 j hj, by rw [z_CS_ne _ _ _ _ _ _ (by omega)]; exact h3, fun e he => ?_, by rw [z_CS_ne _ _ _ _ _ _ (by omega)]; exact h5⟩
  · rw [z_CS_ne _ _ _ _ 0 _ (by omega), z_CS_ne _ _ _ _ 1 _ (by omega), z_CS_ne _ _ _ _ 2 _ (by omega), z_CS_ne _ _ _ _ 3 _ (by omega)]
    exact h1 k hk
  · rw [z_CS_ne _ _ _ _ _ _ (by omega)] at he
    rw [z_CS_ne _ _ _ _ _ _ (by omega), z_CS_ne _ _ _ _ _ _ (by omega), z_CS_ne _ _ _ _ _ _ (by omega)]
    exact h4 e he
/-- the trial's contest but for who is the last of team m -/
def z_tl (A : Nat → Nat → Nat) (m : Nat) (S : tg_S) : Prop := (∀ k, k < 16 → S 24 k = nI (z_C A 0 k)) ∧ (∀ k, k < 16 → z_C A 0 k = 1 → S 25 k = nI (z_C A 1 k) ∧ S 26 k = nI (z_C A 2 k) ∧ S 27 k = nI (z_C A 3 k) ∧ (k / 8 ≠ m → (S 29 (k / 8) = nI k ↔ z_C A 4 k = 1))) ∧ (∀ j, j < 48 → S 30 j = nI (z_C A 5 j)) ∧ z_ev S 31 (z_C A) (nI 0) ∧ S 23 8 = nI (A 5 1)
theorem z_tl_of {A : Nat → Nat → Nat} {m : Nat} {S : tg_S} (h : z_rc S 23 (z_C A) (nI 0)) : z_tl A m S := by
  obtain ⟨h1, h2, h3, h4, h5⟩ := h
  exact ⟨h1, fun k hk h0 => ⟨(h2 k hk h0).1, (h2 k hk h0).2.1, (h2 k hk h0).2.2.1, fun _ => (h2 k hk h0).2.2.2⟩, h3, h4, h5⟩
theorem z_tl_congr {A : Nat → Nat → Nat} {m : Nat} {S S0 : tg_S} (h : ∀ k j, 23 ≤ k → k ≤ 34 → (k ≠ 29 ∨ j ≠ m) → S k j = S0 k j) (hr : z_tl A m S0) : z_tl A m S := by
  obtain ⟨h1, h2, h3, h4, h5⟩ := hr
  refine ⟨fun k hk => by rw [h _ _ (by omega) (by omega) (by omega)]; exact h1 k hk, fun k hk h0 => ?_, fun j hj => by rw [h _ _ (by omega) (by omega) (by omega)]; exact h3 j hj, ⟨by rw [h _ _ (by omega) (by omega) (by omega)]; exact h4.1, by rw [h _ _ (by omega) (by omega) (by omega)]; exact h4.2.1, fun e he => ?_⟩, by rw [h _ _ (by omega) (by omega) (by omega)]; exact h5⟩
  · obtain ⟨q1, q2, q3, q4⟩ := h2 k hk h0
    rw [h _ _ (by omega) (by omega) (by omega), h _ _ (by omega) (by omega) (by omega), h _ _ (by omega) (by omega) (by omega)]
    refine ⟨q1, q2, q3, fun hne => ?_⟩
    rw [h _ _ (by omega) (by omega) (Or.inr hne)]
    exact q4 hne
  · rw [h _ _ (by omega) (by omega) (by omega), h _ _ (by omega) (by omega) (by omega), h _ _ (by omega) (by omega) (by omega)]
    exact h4.2.2 e he
theorem z_tl_rc {A : Nat → Nat → Nat} {m p q : Nat} {S : tg_S} (hm : m < 2) (hq : z_lq A m p q < 16) (h : z_tl A m S) (h29 : S 29 m = nI (z_lq A m p q)) : z_rc S 23 (z_CS A m p q) (nI 0) := by
  obtain ⟨h1, h2, h3, h4, h5⟩ := h
  refine ⟨fun k hk => by rw [z_CS_ne _ _ _ _ _ _ (by omega)]; exact h1 k hk, fun k hk h0 => ?_, fun j hj => by rw [z_CS_ne _ _ _ _ _ _ (by omega)]; exact h3 j hj, ⟨by rw [z_CS_ne _ _ _ _ _ _ (by omega)]; exact h4.1, h4.2.1, fun e he => ?_⟩, by rw [z_CS_ne _ _ _ _ _ _ (by omega)]; exact h5⟩
  · rw [z_CS_ne _ _ _ _ _ _ (by omega)] at h0
    obtain ⟨q1, q2, q3, q4⟩ := h2 k hk h0
    rw [z_CS_ne _ _ _ _ 1 _ (by omega), z_CS_ne _ _ _ _ 2 _ (by omega), z_CS_ne _ _ _ _ 3 _ (by omega)]
    refine ⟨q1, q2, q3, ?_⟩
    show S 29 (k / 8) = nI k ↔ _
    by_cases hkm : k / 8 = m
    · rw [hkm, h29, q_eq (by omega) (by omega)]
      unfold z_CS
      rw [if_pos ⟨rfl, hkm⟩]
      split <;> omega
    · unfold z_CS
      rw [if_neg (fun hh => hkm hh.2)]
      exact q4 hkm
  · rw [z_CS_ne _ _ _ _ _ _ (by omega)] at he
    rw [z_CS_ne _ _ _ _ _ _ (by omega), z_CS_ne _ _ _ _ _ _ (by omega), z_CS_ne _ _ _ _ _ _ (by omega)]
    exact h4.2.2 e he
def z_si (A : Nat → Nat → Nat) (m p : Nat) (s : Nat × Nat × Nat) : Nat → Nat × Nat × Nat
  | 0 => s
  | i + 1 => z_of m (z_si A m p s i) (16 * p + (p + 1 + i)) (z_sim (z_CS A m p (p + 1 + i)) (nI 0) 24 0)
def z_sv (A : Nat → Nat → Nat) (m : Nat) : Nat → Nat × Nat × Nat
  | 0 => (0, 0, 0)
  | i + 1 => z_si A m (8 * m + i) (z_sv A m i) (z_sz A m - (i + 1))
abbrev z_f16 (c : Nat) : Int32 := nI (c / 16)
abbrev z_g16 (c : Nat) : Int32 := nI (c % 16)
theorem q_swapC_51 (S0 : tg_S) (A : Nat → Nat → Nat) (hA : z_aok A) (m i : Nat) (hm : m < 2) (hi : i < z_sz A m) (s : Nat × Nat × Nat) (rec : tg_S → Int32 → Int32 → Int32 → Option tg_S) (Q : tg_S → Prop) (hrec : ∀ S, z_tl A m S → z_cho S m z_f16 z_g16 (z_si A m (8 * m + i) s (z_sz A m - (i + 1))) → z_cf S0 S → q_tr (rec S (nI m) (nI (8 * m + z_sz A m)) (nI (8 * m + i + 1))) Q) : ∀ (n d : Nat) (S : tg_S), z_sz A m < n + (i + 1 + d) → i + 1 + d ≤ z_sz A m → z_tl A m S → z_cho S m z_f16 z_g16 (z_si A m (8 * m + i) s d) → z_cf S0 S → q_tr (L_X7_chooseSwap_51 rec n S (nI m) (nI (8 * m + z_sz A m)) (nI (8 * m + i)) (nI (8 * m + i + 1 + d))) Q := by
  intro n
  have hsz := z_szle hA.1 m hm
  induction n with
  | zero => intro d S h; omega
  | succ n ih =>
    intro d S h hd htl hch hf
    show q_tr (f_X7_chooseSwap_51 rec (L_X7_chooseSwap_51 rec n) S (nI m) (nI (8 * m + z_sz A m)) (nI (8 * m + i)) (nI (8 * m + i + 1 + d))) Q
    unfold f_X7_chooseSwap_51 f_X7_chooseSwap_81
    simp (disch := omega) only [q_lit, q_le, q_nm, q_add, q_sub, q_eq]
    refine q_if (fun h1 => ?_) (fun h1 => ?_)
    · have : d = z_sz A m - (i + 1) := by omega
      rw [this] at hch
      exact hrec S htl hch hf
    · have elq : (if 8 * m + i + 1 + d = 8 * m + z_sz A m - 1 then nI (8 * m + i) else nI (8 * m + z_sz A m - 1)) = nI (z_lq A m (8 * m + i) (8 * m + i + 1 + d)) := by
        unfold z_lq
        by_cases hh : 8 * m + i + 1 + d = 8 * m + z_sz A m - 1
        · rw [if_pos hh, if_pos (by omega)]
        · rw [if_neg hh, if_neg (by omega)]
      have hlq : z_lq A m (8 * m + i) (8 * m + i + 1 + d) < 16 := by unfold z_lq; split <;> omega
      rw [elq]
      simp (disch := omega) only [q_wr]
      have htl1 : z_tl A m (q_st S 29 m (nI (z_lq A m (8 * m + i) (8 * m + i + 1 + d)))) := z_tl_congr (fun k j _ _ hk => by rw [q_stA]; rw [if_neg (by omega)]) htl
      have hrc := z_tl_rc hm hlq htl1 (by rw [q_stS, pk_us])
      have hok : z_sim (z_CS A m (8 * m + i) (8 * m + i + 1 + d)) (nI 0) 24 0 ≤ 24 := (z_sim_ok (mi := nI 0) (z_CS_ok A hA m _ _) 24).1
      refine q_bd (q_play 42 23 (by omega) _ (z_CS A m (8 * m + i) (8 * m + i + 1 + d)) (nI 0) (z_CS_ok A hA m _ _) hrc) (fun S2 r2 h2 => ?_)
      obtain ⟨e2, -, f2⟩ := h2
      dsimp only at e2 f2
      rw [e2]
      have hch2 : z_cho S2 m z_f16 z_g16 (z_si A m (8 * m + i) s d) := by
        unfold z_cho at hch ⊢
        rw [f2 49 3 (by omega), f2 49 0 (by omega), f2 49 1 (by omega), f2 49 2 (by omega), q_stN _ _ _ (by omega)]
        exact hch
      refine q_bv (q_offer S2 m hm z_f16 z_g16 _ hch2 (16 * (8 * m + i) + (8 * m + i + 1 + d)) _ (by rw [q_eqm (by omega)]; exact id) (by omega) _ _ (by rw [z_f16, show (16 * (8 * m + i) + (8 * m + i + 1 + d)) / 16 = 8 * m + i by omega]) (by rw [z_g16, show (16 * (8 * m + i) + (8 * m + i + 1 + d)) % 16 = 8 * m + i + 1 + d by omega])) (fun S3 h3 => ?_)
      rw [show 8 * m + i + 1 + d + 1 = 8 * m + i + 1 + (d + 1) by omega]
      refine ih (d + 1) S3 (by omega) (by omega) (z_tl_congr (fun k j hk hk2 hj => ?_) htl) h3.1 (z_cf_trans hf (fun k j hk => ?_))
      · rw [h3.2 k j (by omega), f2 k j (by omega), q_stA, if_neg (by omega)]
      · rw [h3.2 k j (by omega), f2 k j (by omega), q_stN _ _ _ (by omega)]
theorem q_swapC_39 (S0 : tg_S) (A : Nat → Nat → Nat) (hA : z_aok A) (m : Nat) (hm : m < 2) : ∀ (n i : Nat) (S : tg_S), z_sz A m < n + i → i ≤ z_sz A m → z_tl A m S → z_cho S m z_f16 z_g16 (z_sv A m i) → z_cf S0 S → q_tr (L_X7_chooseSwap_39 n S (nI m) (nI (8 * m + z_sz A m)) (nI (8 * m + i))) (fun S2 => z_cho S2 m z_f16 z_g16 (z_sv A m (z_sz A m)) ∧ z_cf S0 S2) := by
  intro n
  have hsz := z_szle hA.1 m hm
  induction n with
  | zero => intro i S h; omega
  | succ n ih =>
    intro i S h hi htl hch hf
    show q_tr (f_X7_chooseSwap_39 (L_X7_chooseSwap_39 n) S (nI m) (nI (8 * m + z_sz A m)) (nI (8 * m + i))) _
    unfold f_X7_chooseSwap_39
    simp (disch := omega) only [q_lit, q_le, q_nm, q_add]
    refine q_if (fun h1 => ?_) (fun h1 => ?_)
    · have : i = z_sz A m := by omega
      rw [this] at hch
      exact q_ret ⟨hch, hf⟩
    · have := q_swapC_51 S0 A hA m i hm (by omega) (z_sv A m i) (L_X7_chooseSwap_39 n) _ (fun S2 g1 g2 g3 => by
        have := ih (i + 1) S2 (by omega) (by omega) g1 g2 g3
        rw [show 8 * m + (i + 1) = 8 * m + i + 1 by omega] at this
        exact this) tg_F 0 S (by unfold tg_F; omega) (by omega) htl hch hf
      exact this
def z_vs (s : Nat × Nat × Nat) (w : Nat) : Int32 := if s.1 = 0 then -nI 1 else if w = 0 then nI (s.2.1 / 16) else if w = 1 then nI (s.2.1 % 16) else nI s.2.2
theorem q_swapC (S : tg_S) (A : Nat → Nat → Nat) (hA : z_aok A) (hc : z_ci S A) {m w : Nat} (hm : m < 2) (hw : w < 3) : q_tr (f_X7_swap S (nI m) (nI w)) (fun r => r.2 = z_vs (z_sv A m (z_sz A m)) w ∧ z_cf S r.1) := by
  have hsz := z_szle hA.1 m hm
  unfold f_X7_swap f_X7_chooseSwap
  simp only [q_lit]
  rw [q_belowI S hm (by omega), q_bdS, q_ifF (by decide), q_belowI S hw (by omega), q_bdS, q_ifF (by decide)]
  obtain ⟨S1, e1, h1⟩ := q_becomeLike S A hA.2.1 hc.2.2.1 hc.2.1
  rw [e1, q_bvS]
  obtain ⟨S2, e2, h2⟩ := q_startFor S1 m z_f16 z_g16
  rw [e2, q_bvS]
  have e16 : S2 16 m = nI (z_sz A m) := by rw [h2.2 _ _ (by omega), h1.2.2 _ _ (by omega)]; exact (hc.2.2.1.2 m hm).1
  simp (disch := omega) only [q_nm, q_mul, q_rd, e16, q_add]
  rw [show m * 8 + z_sz A m = 8 * m + z_sz A m by omega, show m * 8 = 8 * m + 0 by omega]
  refine q_bv (q_swapC_39 S A hA m hm tg_F 0 S2 (by unfold tg_F; omega) (Nat.zero_le _) (z_tl_congr (fun k j _ _ _ => h2.2 k j (by omega)) (z_tl_of h1.1)) h2.1 (fun k j hk => by rw [h2.2 k j (by omega), h1.2.2 k j (by omega)])) (fun S3 h3 => ?_)
  simp (disch := omega) only [q_eq]
  rcases (show w = 0 ∨ w = 1 ∨ w = 2 by omega) with rfl | rfl | rfl
  · rw [q_ifT rfl]
    refine q_ret ⟨?_, h3.2⟩
    rcases h3.1.2 with ⟨s0, g0, g1, g2⟩ | ⟨s1, g0, g1, g2, -, -⟩
    · rw [z_vs, if_pos s0]; exact g0
    · rw [z_vs, if_neg (by omega), if_pos rfl]; exact g0
  · rw [q_ifF (by decide), q_ifT rfl]
    refine q_ret ⟨?_, h3.2⟩
    rcases h3.1.2 with ⟨s0, g0, g1, g2⟩ | ⟨s1, g0, g1, g2, -, -⟩
    · rw [z_vs, if_pos s0]; exact g1
    · rw [z_vs, if_neg (by omega), if_neg (by decide), if_pos rfl]; exact g1
  · rw [q_ifF (by decide), q_ifF (by decide)]
    refine q_ret ⟨?_, h3.2⟩
    rcases h3.1.2 with ⟨s0, g0, g1, g2⟩ | ⟨s1, g0, g1, g2, -, -⟩
    · rw [z_vs, if_pos s0]; exact g2
    · rw [z_vs, if_neg (by omega), if_neg (by decide), if_neg (by decide)]; exact g2
theorem z_rr_swap (T : tg_S) (A : Nat → Nat → Nat) (hA : z_aok A) (h : z_ro2 A T) (h16 : T 0 16 = -nI 1) (m p q : Nat) (hm : m < 2) (hp : 8 * m ≤ p) (hpq : p < q) (hq : q < 8 * m + z_sz A m) (T2 : tg_S) (hT : ∀ k j, T2 k j = if k = 13 ∧ j = q then nI (p % 8) else if k = 13 ∧ j = p then nI (q % 8) else T k j) : z_rr T2 (z_CS A m p q) (nI 0) := by
  have hsz := z_szle hA.1 m hm
  obtain ⟨⟨d1, d2, d3⟩, a4, a5, ⟨e1, e2, e3⟩, g⟩ := h
  have f : ∀ k j, k ≠ 13 → T2 k j = T k j := fun k j hk => by rw [hT]; simp [hk]
  refine ⟨⟨z_sz A, fun m hm => ⟨by rw [f _ _ (by omega)]; exact (d1 m hm).1, z_szle hA.1 m hm⟩, fun k hk => ?_⟩, fun k hk h0 => ?_, ⟨fun k => if k = q then p % 8 else if k = p then q % 8 else k % 8, fun k hk => ?_, fun k l hk hl hk0 hl0 hd he => ?_, fun k hk h0 => ?_⟩, fun j hj => by rw [f _ _ (by omega), z_CS_ne _ _ _ _ _ _ (by omega)]; exact a4 j hj, ⟨by rw [f _ _ (by omega), z_CS_ne _ _ _ _ _ _ (by omega)]; exact e1, by rw [f _ _ (by omega)]; exact e2, fun e he => ?_⟩, by rw [f _ _ (by omega), z_CS_ne _ _ _ _ _ _ (by omega)]; exact g⟩
  · rw [f _ _ (by omega), h16, q_eqm (by omega), z_CS_ne _ _ _ _ _ _ (by omega)]
    have := z_C0_iff A k
    simp
    exact this
  · rw [z_CS_ne _ _ _ _ _ _ (by omega)] at h0
    rw [f _ _ (by omega), f _ _ (by omega), f _ _ (by omega), z_CS_ne _ _ _ _ _ _ (by omega), z_CS_ne _ _ _ _ _ _ (by omega), z_CS_ne _ _ _ _ _ _ (by omega)]
    exact d2 k hk h0
  · dsimp only
    rw [hT]
    have := a5 k hk
    by_cases h1 : k = q
    · rw [if_pos ⟨rfl, h1⟩, if_pos h1]
      exact ⟨rfl, by omega⟩
    · rw [if_neg (fun hh => h1 hh.2), if_neg h1]
      by_cases h2 : k = p
      · rw [if_pos ⟨rfl, h2⟩, if_pos h2]
        exact ⟨rfl, by omega⟩
      · rw [if_neg (fun hh => h2 hh.2), if_neg h2]
        exact ⟨this, by omega⟩
  · dsimp only at he
    split at he <;> split at he <;> first | omega | (split at he <;> first | omega | (split at he <;> omega))
  · rw [z_CS_ne _ _ _ _ _ _ (by omega)] at h0
    have hk8 := (z_C0_iff A k).mp h0
    have hs8 := z_szle hA.1 (k / 8) (by omega)
    show _ ↔ ∀ l, l < 16 → z_CS A m p q 0 l = 1 → l / 8 = k / 8 → (if l = q then p % 8 else if l = p then q % 8 else l % 8) ≤ (if k = q then p % 8 else if k = p then q % 8 else k % 8)
    have mem : ∀ l, z_CS A m p q 0 l = 1 ↔ l % 8 < z_sz A (l / 8) := fun l => by rw [z_CS_ne _ _ _ _ _ _ (by omega)]; exact z_C0_iff A l
    by_cases hkm : k / 8 = m
    · have e : (z_CS A m p q 4 k = 1) = (z_lq A m p q = k) := by
        unfold z_CS
        rw [if_pos ⟨rfl, hkm⟩]
        apply propext
        split <;> omega
      rw [e]
      rw [hkm] at hk8
      unfold z_lq
      constructor
      · intro h l hl hl0 hd
        have hl8 := (mem l).mp hl0
        rw [hd, hkm] at hl8
        by_cases hqe : q + 1 = 8 * m + z_sz A m
        · rw [if_pos hqe] at h
          rw [if_neg (show ¬ k = q by omega), if_pos h.symm]
          split
          · omega
          · split <;> omega
        · rw [if_neg hqe] at h
          rw [if_neg (show ¬ k = q by omega), if_neg (show ¬ k = p by omega)]
          split
          · omega
          · split <;> omega
      · intro hall
        by_cases hqe : q + 1 = 8 * m + z_sz A m
        · rw [if_pos hqe]
          have := hall p (by omega) ((mem p).mpr (by rw [show p / 8 = m by omega]; omega)) (by omega)
          rw [if_neg (show ¬ p = q by omega), if_pos rfl] at this
          split at this
          · omega
          · split at this <;> omega
        · rw [if_neg hqe]
          have := hall (8 * m + z_sz A m - 1) (by omega) ((mem _).mpr (by rw [show (8 * m + z_sz A m - 1) / 8 = m by omega]; omega)) (by omega)
          rw [if_neg (show ¬ 8 * m + z_sz A m - 1 = q by omega), if_neg (show ¬ 8 * m + z_sz A m - 1 = p by omega)] at this
          split at this
          · omega
          · split at this <;> omega
    · have e : z_CS A m p q 4 k = z_C A 4 k := by unfold z_CS; rw [if_neg (fun hh => hkm hh.2)]
      rw [e, z_C4_iff, if_neg (show ¬ k = q by omega), if_neg (show ¬ k = p by omega)]
      constructor
      · intro h l hl hl0 hd
        have hl8 := (mem l).mp hl0
        rw [hd] at hl8
        rw [if_neg (show ¬ l = q by omega), if_neg (show ¬ l = p by omega)]
        omega
      · intro hall
        have := hall (8 * (k / 8) + (z_sz A (k / 8) - 1)) (by omega) ((mem _).mpr (by
          rw [show (8 * (k / 8) + (z_sz A (k / 8) - 1)) % 8 = z_sz A (k / 8) - 1 by omega, show (8 * (k / 8) + (z_sz A (k / 8) - 1)) / 8 = k / 8 by omega]
          omega)) (by omega)
        rw [if_neg (show ¬ 8 * (k / 8) + (z_sz A (k / 8) - 1) = q by omega), if_neg (show ¬ 8 * (k / 8) + (z_sz A (k / 8) - 1) = p by omega)] at this
        omega
  · rw [z_CS_ne _ _ _ _ _ _ (by omega)] at he
    rw [f _ _ (by omega), f _ _ (by omega), f _ _ (by omega), z_CS_ne _ _ _ _ _ _ (by omega), z_CS_ne _ _ _ _ _ _ (by omega), z_CS_ne _ _ _ _ _ _ (by omega)]
    exact e3 e he
