-- ===== what a puller may have been: c = 1 sorts, 2 weights =====
def z_off (C C0 : Nat → Nat → Nat) (c k : Nat) : Prop := ∀ c2 j, (c2 ≠ c ∨ j ≠ k) → C c2 j = C0 c2 j
theorem z_off_up (C0 : Nat → Nat → Nat) (c k w : Nat) : z_off (z_up C0 c k w) C0 c k := fun c2 j h => by rw [z_upA, if_neg (by omega)]
theorem z_off_refl (C0 : Nat → Nat → Nat) (c k : Nat) : z_off C0 C0 c k := fun _ _ _ => rfl
theorem z_up_ok {C0 : Nat → Nat → Nat} (h : z_ok C0) {c k w : Nat} (hc : c = 1 ∧ w ≤ 2 ∨ c = 2 ∧ w ≤ 9) : z_ok (z_up C0 c k w) := by
  obtain ⟨h1, h2, h3, h4, h5⟩ := h
  have f : ∀ c2 j, c2 ≠ 1 → c2 ≠ 2 → z_up C0 c k w c2 j = C0 c2 j := fun c2 j _ _ => by rw [z_upA, if_neg (by omega)]
  refine ⟨fun l hl => ?_, fun j hj => by rw [f _ _ (by omega) (by omega)]; exact h2 j hj, by rw [f _ _ (by omega) (by omega)]; exact h3, fun e he => ?_, by rw [f _ _ (by omega) (by omega)]; exact h5⟩
  · rw [f _ _ (by omega) (by omega), f 3 _ (by omega) (by omega)]
    refine ⟨(h1 l hl).1, fun h0 => ?_⟩
    have := (h1 l hl).2 h0
    simp only [z_upA]
    grind
  · rw [f _ _ (by omega) (by omega), f _ _ (by omega) (by omega), f _ _ (by omega) (by omega)]
    rw [f _ _ (by omega) (by omega)] at he
    exact h4 e he
theorem z_rc_up {S : tg_S} {C C0 : Nat → Nat → Nat} {mi : Int32} {c k : Nat} (hc : c = 1 ∨ c = 2) (ho : z_off C C0 c k) (h : z_rc S 23 C mi) (w : Nat) : z_rc (q_st S (24 + c) k (nI w)) 23 (z_up C0 c k w) mi := by
  obtain ⟨h1, h2, h3, ⟨h4, h5, h6⟩, h7⟩ := h
  have f : ∀ c2 j, c2 ≠ 1 → c2 ≠ 2 → z_up C0 c k w c2 j = C c2 j := fun c2 j _ _ => by rw [z_upA, if_neg (by omega), ho _ _ (by omega)]
  refine ⟨fun l hl => by rw [f _ _ (by omega) (by omega), q_stN _ _ _ (by omega)]; exact h1 l hl, fun l hl h0 => ?_, fun j hj => by rw [f _ _ (by omega) (by omega), q_stN _ _ _ (by omega)]; exact h3 j hj, ⟨by rw [f _ _ (by omega) (by omega), q_stN _ _ _ (by omega)]; exact h4, by rw [q_stN _ _ _ (by omega)]; exact h5, fun e he => ?_⟩, by rw [f _ _ (by omega) (by omega), q_stN _ _ _ (by omega)]; exact h7⟩
  · rw [f _ _ (by omega) (by omega)] at h0
    rw [f 3 _ (by omega) (by omega), f 4 _ (by omega) (by omega)]
    obtain ⟨p1, p2, p3, p4⟩ := h2 l hl h0
    have o1 := ho 1 l
    have o2 := ho 2 l
    simp only [q_stA, z_upA]
    rw [if_neg (t := nI w) (e := S (23 + 4) l) (by omega), if_neg (t := nI w) (e := S (23 + 6) (l / 8)) (by omega)]
    refine ⟨?_, ?_, p3, p4⟩
    · by_cases hh : 1 = c ∧ l = k
      · rw [if_pos ⟨by omega, hh.2⟩, if_pos hh]
      · rw [if_neg (by omega), if_neg hh, ← o1 (by omega)]; exact p1
    · by_cases hh : 2 = c ∧ l = k
      · rw [if_pos ⟨by omega, hh.2⟩, if_pos hh]
      · rw [if_neg (by omega), if_neg hh, ← o2 (by omega)]; exact p2
  · rw [f _ _ (by omega) (by omega)] at he
    rw [f _ _ (by omega) (by omega), f _ _ (by omega) (by omega), f _ _ (by omega) (by omega), q_stN _ _ _ (by omega), q_stN _ _ _ (by omega), q_stN _ _ _ (by omega)]
    exact h6 e he
theorem z_rr_up {T : tg_S} {C C0 : Nat → Nat → Nat} {mi : Int32} {c k : Nat} (hc : c = 1 ∨ c = 2) (ho : z_off C C0 c k) (h : z_rr T C mi) (w : Nat) : z_rr (q_st T (3 + c) k (nI w)) (z_up C0 c k w) mi := by
  obtain ⟨⟨n, a1, a2⟩, b, ⟨pl, c1, c2, c3⟩, d, ⟨e1, e2, e3⟩, g⟩ := h
  have f : ∀ c2 j, c2 ≠ 1 → c2 ≠ 2 → z_up C0 c k w c2 j = C c2 j := fun c2 j _ _ => by rw [z_upA, if_neg (by omega), ho _ _ (by omega)]
  have f0 : ∀ j, z_up C0 c k w 0 j = C 0 j := fun j => f 0 j (by omega) (by omega)
  have f4 : ∀ j, z_up C0 c k w 4 j = C 4 j := fun j => f 4 j (by omega) (by omega)
  refine ⟨⟨n, fun m hm => by rw [q_stN _ _ _ (by omega)]; exact a1 m hm, fun l hl => by rw [f0, q_stN _ _ _ (by omega)]; exact a2 l hl⟩, fun l hl h0 => ?_, ⟨pl, fun l hl => by rw [q_stN _ _ _ (by omega)]; exact c1 l hl, by simp only [f0]; exact c2, by simp only [f0, f4]; exact c3⟩, fun j hj => by rw [f _ _ (by omega) (by omega), q_stN _ _ _ (by omega)]; exact d j hj, ⟨by rw [f _ _ (by omega) (by omega), q_stN _ _ _ (by omega)]; exact e1, by rw [q_stN _ _ _ (by omega)]; exact e2, fun e he => ?_⟩, by rw [f _ _ (by omega) (by omega), q_stN _ _ _ (by omega)]; exact g⟩
  · rw [f0] at h0
    rw [f 3 _ (by omega) (by omega)]
    obtain ⟨p1, p2, p3⟩ := b l hl h0
    have o1 := ho 1 l
    have o2 := ho 2 l
    simp only [q_stA, z_upA]
    rw [if_neg (t := nI w) (e := T 6 l) (by omega)]
    refine ⟨?_, ?_, p3⟩
    · by_cases hh : 1 = c ∧ l = k
      · rw [if_pos ⟨by omega, hh.2⟩, if_pos hh]
      · rw [if_neg (by omega), if_neg hh, ← o1 (by omega)]; exact p1
    · by_cases hh : 2 = c ∧ l = k
      · rw [if_pos ⟨by omega, hh.2⟩, if_pos hh]
      · rw [if_neg (by omega), if_neg hh, ← o2 (by omega)]; exact p2
  · rw [f _ _ (by omega) (by omega)] at he
    rw [f _ _ (by omega) (by omega), f _ _ (by omega) (by omega), f _ _ (by omega) (by omega), q_stN _ _ _ (by omega), q_stN _ _ _ (by omega), q_stN _ _ _ (by omega)]
    exact e3 e he
abbrev z_wf (A : Nat → Nat → Nat) (c k w : Nat) : Nat := z_ft A (z_up (z_C A) c k w) (nI 0) 0 (A 5 2)
/-- the rope on the beats by weight, in cell x, for the weights under v -/
def z_tb (S : tg_S) (x : Nat) (A : Nat → Nat → Nat) (k v : Nat) : Prop := ∀ u b, 1 ≤ u → u < v → b < 24 → S x (24 * u + b) = nI (z_sim (z_up (z_C A) 2 k u) (nI 0) (b + 1) 0)
theorem q_sortsC (S : tg_S) (A : Nat → Nat → Nat) (hA : z_aok A) (hc : z_ci S A) {k : Nat} (hk : k < 16) : q_tr (f_X7_sortsThatFit S (nI k)) (fun r => r.2 = z_ws (z_wf A 1 k) 0 3 ∧ z_cf S r.1) := by
  have hC := z_C_ok A hA.1 hA.2.1
  have L : ∀ (n e : Nat) (S2 : tg_S), 3 < n + e → e ≤ 3 → (∃ C, z_off C (z_C A) 1 k ∧ z_rc S2 23 C (nI 0)) → z_cf S S2 → q_tr (L_X7_sortsThatFit_15 n S2 (nI k) (z_ws (z_wf A 1 k) 0 e) (nI e)) (fun r => r.2 = z_ws (z_wf A 1 k) 0 3 ∧ z_cf S r.1) := by
    intro n
    induction n with
    | zero => intro e S2 h; omega
    | succ n ih =>
      intro e S2 h he hr hf
      obtain ⟨C, ho, hr⟩ := hr
      show q_tr (f_X7_sortsThatFit_15 (L_X7_sortsThatFit_15 n) S2 (nI k) _ (nI e)) _
      unfold f_X7_sortsThatFit_15 f_X7_sortsThatFit_62
      simp (disch := omega) only [q_lit, q_le, q_wr, q_nm, q_add]
      refine q_if (fun hh => ?_) (fun hh => ?_)
      · have : e = 3 := by omega
        rw [this]
        exact q_ret ⟨rfl, hf⟩
      · have hr1 := z_rc_up (Or.inl rfl) ho hr e
        have hC1 := z_up_ok hC (c := 1) (k := k) (w := e) (Or.inl ⟨rfl, by omega⟩)
        refine q_bd (q_play 42 23 (by omega) _ _ (nI 0) hC1 hr1) (fun S3 r3 h3 => ?_)
        obtain ⟨-, c3, f3⟩ := h3
        dsimp only at c3 f3
        have hf3 : z_cf S S3 := z_cf_trans hf (fun k j hk => by rw [f3 k j (by omega), q_stN _ _ _ (by omega)])
        have hr3 := z_rc_congr2 (fun k j _ _ => f3 k j (by omega)) hr1
        rw [q_fit S3 A _ (nI 0) hC1 hA.2.2 (z_ci_sn hc hf3) (fun b hb => (c3.2.2.1 b hb).1), q_bdS]
        have hn := ih (e + 1) S3 (by omega) (by omega) ⟨_, z_off_up _ _ _ _, hr3⟩ hf3
        have hle := z_ft_le A (z_up (z_C A) 1 k e) (nI 0) (A 5 2) 0
        rw [z_ws, Nat.zero_add] at hn
        simp (disch := omega) only [q_eq]
        by_cases h0 : z_wf A 1 k e = 0
        · rw [if_pos h0] at hn
          rw [q_ifT h0]
          exact hn
        · rw [if_neg h0] at hn
          rw [q_ifF h0]
          exact hn
  unfold f_X7_sortsThatFit
  refine q_bv (q_becomeLike S A hA.2.1 hc.2.2.1 hc.2.1) (fun S1 h1 => ?_)
  simp only [q_lit]
  exact L tg_F 0 S1 (by unfold tg_F; omega) (by omega) ⟨_, z_off_refl _ _ _, h1.1⟩ (fun k j hk => h1.2.2 k j (by omega))
theorem q_weightsC (S : tg_S) (A : Nat → Nat → Nat) (hA : z_aok A) (hc : z_ci S A) {k : Nat} (hk : k < 16) : q_tr (f_X7_weightsThatFit S (nI k)) (fun r => r.2 = z_ws (z_wf A 2 k) 1 9 ∧ z_cf S r.1 ∧ z_tb r.1 50 A k 10) := by
  have hC := z_C_ok A hA.1 hA.2.1
  have L : ∀ (n e : Nat) (S2 : tg_S), 9 < n + e → e ≤ 9 → (∃ C, z_off C (z_C A) 2 k ∧ z_rc S2 23 C (nI 0)) → z_cf S S2 → z_tb S2 50 A k (e + 1) → q_tr (L_X7_weightsThatFit_15 n S2 (nI k) (z_ws (z_wf A 2 k) 1 e) (nI (e + 1))) (fun r => r.2 = z_ws (z_wf A 2 k) 1 9 ∧ z_cf S r.1 ∧ z_tb r.1 50 A k 10) := by
    intro n
    induction n with
    | zero => intro e S2 h; omega
    | succ n ih =>
      intro e S2 h he hr hf ht
      obtain ⟨C, ho, hr⟩ := hr
      show q_tr (f_X7_weightsThatFit_15 (L_X7_weightsThatFit_15 n) S2 (nI k) _ (nI (e + 1))) _
      unfold f_X7_weightsThatFit_15
      simp (disch := omega) only [q_lit, q_lt, q_wr]
      refine q_if (fun hh => ?_) (fun hh => ?_)
      · have : e = 9 := by omega
        subst this
        exact q_ret ⟨rfl, hf, ht⟩
      · have hr1 := z_rc_up (Or.inr rfl) ho hr (e + 1)
        have hC1 := z_up_ok hC (c := 2) (k := k) (w := e + 1) (Or.inr ⟨rfl, by omega⟩)
        refine q_bd (q_play 42 23 (by omega) _ _ (nI 0) hC1 hr1) (fun S3 r3 h3 => ?_)
        obtain ⟨-, c3, f3⟩ := h3
        dsimp only at c3 f3
        have hf3 : z_cf S S3 := z_cf_trans hf (fun k j hk => by rw [f3 k j (by omega), q_stN _ _ _ (by omega)])
        have ht3 : z_tb S3 50 A k (e + 1) := fun u b h1 h2 h3 => by rw [f3 _ _ (by omega), q_stN _ _ _ (by omega)]; exact ht u b h1 h2 h3
        have hs43 : ∀ b, b < 24 → S3 43 b = nI (z_sim (z_up (z_C A) 2 k (e + 1)) (nI 0) (b + 1) 0) := fun b hb => (c3.2.2.1 b hb).1
        have hr3 := z_rc_congr2 (fun k j _ _ => f3 k j (by omega)) hr1
        have L2 : ∀ (n2 b : Nat) (S4 : tg_S), 24 < n2 + b → b ≤ 24 → (∀ k j, k ≠ 50 → S4 k j = S3 k j) → z_tb S4 50 A k (e + 1) → (∀ b2, b2 < b → S4 50 (24 * (e + 1) + b2) = nI (z_sim (z_up (z_C A) 2 k (e + 1)) (nI 0) (b2 + 1) 0)) → q_tr (L_X7_weightsThatFit_46 (L_X7_weightsThatFit_15 n) n2 S4 (nI k) (z_ws (z_wf A 2 k) 1 e) (nI (e + 1)) (nI b)) (fun r => r.2 = z_ws (z_wf A 2 k) 1 9 ∧ z_cf S r.1 ∧ z_tb r.1 50 A k 10) := by
          intro n2
          induction n2 with
          | zero => intro b S4 h; omega
          | succ n2 ih2 =>
            intro b S4 hn2 hb f4 t4 u4
            show q_tr (f_X7_weightsThatFit_46 (L_X7_weightsThatFit_15 n) (L_X7_weightsThatFit_46 (L_X7_weightsThatFit_15 n) n2) S4 (nI k) _ (nI (e + 1)) (nI b)) _
            unfold f_X7_weightsThatFit_46 f_X7_weightsThatFit_101
            simp (disch := omega) only [q_lit, q_le, q_nm, q_add, q_mul]
            refine q_if (fun hh2 => ?_) (fun hh2 => ?_)
            · have : b = 24 := by omega
              subst this
              have hf4 : z_cf S S4 := z_cf_trans hf3 (fun k j hk => f4 k j (by omega))
              rw [q_fit S4 A _ (nI 0) hC1 hA.2.2 (z_ci_sn hc hf4) (fun b hb => by rw [f4 _ _ (by omega)]; exact hs43 b hb), q_bdS]
              have hn := ih (e + 1) S4 (by omega) (by omega) ⟨_, z_off_up _ _ _ _, z_rc_congr2 (fun k j _ _ => f4 k j (by omega)) hr3⟩ hf4 (fun u b h1 h2 h3 => by
                by_cases hu : u = e + 1
                · subst hu; exact u4 b h3
                · exact t4 u b h1 (by omega) h3)
              have hle := z_ft_le A (z_up (z_C A) 2 k (e + 1)) (nI 0) (A 5 2) 0
              rw [z_ws, Nat.add_comm 1 e] at hn
              simp (disch := omega) only [q_eq]
              by_cases h0 : z_wf A 2 k (e + 1) = 0
              · rw [if_pos h0] at hn
                rw [q_ifT h0]
                exact hn
              · rw [if_neg h0] at hn
                rw [q_ifF h0]
                exact hn
            · simp (disch := omega) only [q_rd, q_wr]
              have e43 : S4 43 b = nI (z_sim (z_up (z_C A) 2 k (e + 1)) (nI 0) (b + 1) 0) := by rw [f4 _ _ (by omega)]; exact hs43 b (by omega)
              rw [e43]
              refine ih2 (b + 1) _ (by omega) (by omega) (fun k j hk => by rw [q_stN _ _ _ hk]; exact f4 k j hk) (fun u b2 h1 h2 h3 => ?_) (fun b2 hb2 => ?_)
              · rw [q_stA, if_neg (by omega)]
                exact t4 u b2 h1 h2 h3
              · rw [q_stA]
                by_cases hbb : b2 = b
                · rw [if_pos ⟨rfl, by omega⟩, hbb]
                · rw [if_neg (by omega)]
                  exact u4 b2 (by omega)
        exact L2 tg_F 0 S3 (by unfold tg_F; omega) (by omega) (fun _ _ _ => rfl) ht3 (fun b hb => absurd hb (Nat.not_lt_zero b))
  unfold f_X7_weightsThatFit
  refine q_bv (q_becomeLike S A hA.2.1 hc.2.2.1 hc.2.1) (fun S1 h1 => ?_)
  simp only [q_lit]
  exact L tg_F 0 S1 (by unfold tg_F; omega) (by omega) ⟨_, z_off_refl _ _ _, h1.1⟩ (fun k j hk => h1.2.2 k j (by omega)) (fun u b h1 h2 => by omega)
theorem z_rdk_back {A : Nat → Nat → Nat} {T : tg_S} {c k : Nat} (hc : c = 1 ∨ c = 2) (h : z_rdk A T) (hk : k < 16) (h0 : z_C A 0 k = 1) : z_rdk A (q_st T (3 + c) k (nI (z_C A c k))) := by
  obtain ⟨d1, d2, d3⟩ := h
  refine ⟨fun m hm => by rw [q_stN _ _ _ (by omega), q_stN _ _ _ (by omega)]; exact d1 m hm, fun l hl hl0 => ?_, fun j hj => by rw [q_stN _ _ _ (by omega)]; exact d3 j hj⟩
  obtain ⟨p1, p2, p3⟩ := d2 l hl hl0
  simp only [q_stA]
  rw [if_neg (t := nI (z_C A c k)) (e := T 6 l) (by omega)]
  refine ⟨?_, ?_, p3⟩
  · by_cases hh : 4 = 3 + c ∧ l = k
    · rw [if_pos hh, hh.2, show c = 1 by omega]
    · rw [if_neg hh]; exact p1
  · by_cases hh : 5 = 3 + c ∧ l = k
    · rw [if_pos hh, hh.2, show c = 2 by omega]
    · rw [if_neg hh]; exact p2
/-- going on by another state of the reference: the place that is tried aside, all told is kept -/
theorem z_rdk_over {A : Nat → Nat → Nat} {T T2 : tg_S} {c k : Nat} {v : Int32} (h : z_rdk A (q_st T (3 + c) k v)) (hT : ∀ k2 j, 3 ≤ k2 → k2 ≤ 8 → (k2 ≠ 3 + c ∨ j ≠ k) → T2 k2 j = T k2 j) : z_rdk A (q_st T2 (3 + c) k v) := z_rdk_congr (fun k2 j h1 h2 => by
  simp only [q_stA]
  by_cases hh : k2 = 3 + c ∧ j = k
  · rw [if_pos hh, if_pos hh]
  · rw [if_neg hh, if_neg hh]
    exact hT k2 j h1 h2 (by omega)) h
theorem q_sortsR (T : tg_S) (A : Nat → Nat → Nat) (hA : z_aok A) (h : z_ri T A) {k : Nat} (hk : k < 16) (hk0 : z_C A 0 k = 1) : q_tr (f_X8_sortsBy T (nI k)) (fun r => r.2 = z_ws (z_wf A 1 k) 0 3 ∧ z_ro A T r.1) := by
  have hC := z_C_ok A hA.1 hA.2.1
  have L : ∀ (n e : Nat) (T2 : tg_S), 3 < n + e → e ≤ 3 → (∃ C, z_off C (z_C A) 1 k ∧ z_rr T2 C (nI 0)) → z_rf T T2 → z_rdk A (q_st T2 (3 + 1) k (nI (z_C A 1 k))) → q_tr (L_X8_sortsBy_16 n T2 (nI k) (nI (z_C A 1 k)) (z_ws (z_wf A 1 k) 0 e) (nI e)) (fun r => r.2 = z_ws (z_wf A 1 k) 0 3 ∧ z_ro A T r.1) := by
    intro n
    induction n with
    | zero => intro e T2 h; omega
    | succ n ih =>
      intro e T2 hne he hr hf hd
      obtain ⟨C, ho, hr⟩ := hr
      show q_tr (f_X8_sortsBy_16 (L_X8_sortsBy_16 n) T2 (nI k) _ _ (nI e)) _
      unfold f_X8_sortsBy_16 f_X8_sortsBy_46
      simp (disch := omega) only [q_lit, q_le, q_wr, q_nm, q_add]
      refine q_if (fun hh => ?_) (fun hh => ?_)
      · have : e = 3 := by omega
        rw [this]
        exact q_ret ⟨rfl, z_rf_trans hf ⟨fun k j hk => by dsimp only; rw [q_stN _ _ _ (by omega)], fun j hj => by dsimp only; rw [q_stN _ _ _ (by omega)]⟩, hd⟩
      · have hr1 := z_rr_up (Or.inl rfl) ho hr e
        have hC1 := z_up_ok hC (c := 1) (k := k) (w := e) (Or.inl ⟨rfl, by omega⟩)
        have hsn : z_snr (q_st T2 (3 + 1) k (nI e)) A := by
          have := (z_ri_rf h hf).2.2
          exact ⟨by rw [q_stN _ _ _ (by omega)]; exact this.1, fun i hi => by rw [q_stN _ _ _ (by omega), q_stN _ _ _ (by omega)]; exact this.2 i hi⟩
        refine q_bd (q_isSeen _ A _ (nI 0) hC1 hA.2.2 hsn hr1) (fun T3 r3 h3 => ?_)
        obtain ⟨e3, -, r3', f3⟩ := h3
        dsimp only at e3 r3' f3
        have hf3 : z_rf T T3 := z_rf_trans hf ⟨fun k j hk => by rw [f3 k j (by omega) (by omega), q_stN _ _ _ (by omega)], fun j hj => by rw [f3 0 j (by omega) (by omega), q_stN _ _ _ (by omega)]⟩
        have hd3 : z_rdk A (q_st T3 (3 + 1) k (nI (z_C A 1 k))) := z_rdk_over hd (fun k2 j h1 h2 h3 => by rw [f3 k2 j (by omega) (by omega), q_stA, if_neg (by omega)])
        have hn := ih (e + 1) T3 (by omega) (by omega) ⟨_, z_off_up _ _ _ _, r3'⟩ hf3 hd3
        have hle := z_ft_le A (z_up (z_C A) 1 k e) (nI 0) (A 5 2) 0
        rw [z_ws, Nat.zero_add] at hn
        rw [e3]
        simp (disch := omega) only [q_eq]
        by_cases h0 : z_wf A 1 k e = 0
        · rw [if_pos h0] at hn
          rw [if_pos h0, q_or0]
          exact hn
        · rw [if_neg h0] at hn
          rw [if_neg h0]
          exact hn
  unfold f_X8_sortsBy
  refine q_bv (q_asToldA T A hA h) (fun T1 h1 => ?_)
  simp (disch := omega) only [q_lit, q_rd]
  rw [(h1.1.2.2.1 k hk hk0).1]
  exact L tg_F 0 T1 (by unfold tg_F; omega) (by omega) ⟨_, z_off_refl _ _ _, z_AT_rr A T T1 hA.2.1 h.2.1 hA.1 h1.2⟩ h1.1.1 (z_rdk_back (Or.inl rfl) h1.1.2 hk hk0)
theorem q_weightsR (T : tg_S) (A : Nat → Nat → Nat) (hA : z_aok A) (h : z_ri T A) {k : Nat} (hk : k < 16) (hk0 : z_C A 0 k = 1) : q_tr (f_X8_weightsBy T (nI k)) (fun r => r.2 = z_ws (z_wf A 2 k) 1 9 ∧ z_ro A T r.1 ∧ z_tb r.1 27 A k 10) := by
  have hC := z_C_ok A hA.1 hA.2.1
  have L : ∀ (n e : Nat) (T2 : tg_S), 9 < n + e → e ≤ 9 → (∃ C, z_off C (z_C A) 2 k ∧ z_rr T2 C (nI 0)) → z_rf T T2 → z_rdk A (q_st T2 (3 + 2) k (nI (z_C A 2 k))) → z_tb T2 27 A k (e + 1) → q_tr (L_X8_weightsBy_16 n T2 (nI k) (nI (z_C A 2 k)) (z_ws (z_wf A 2 k) 1 e) (nI (e + 1))) (fun r => r.2 = z_ws (z_wf A 2 k) 1 9 ∧ z_ro A T r.1 ∧ z_tb r.1 27 A k 10) := by
    intro n
    induction n with
    | zero => intro e T2 h; omega
    | succ n ih =>
      intro e T2 hne he hr hf hd ht
      obtain ⟨C, ho, hr⟩ := hr
      show q_tr (f_X8_weightsBy_16 (L_X8_weightsBy_16 n) T2 (nI k) _ _ (nI (e + 1))) _
      unfold f_X8_weightsBy_16 f_X8_weightsBy_47
      simp (disch := omega) only [q_lit, q_le, q_wr]
      refine q_if (fun hh => ?_) (fun hh => ?_)
      · have : e = 9 := by omega
        subst this
        exact q_ret ⟨rfl, ⟨z_rf_trans hf ⟨fun k j hk => by dsimp only; rw [q_stN _ _ _ (by omega)], fun j hj => by dsimp only; rw [q_stN _ _ _ (by omega)]⟩, hd⟩, fun u b h1 h2 h3 => by dsimp only; rw [q_stN _ _ _ (by omega)]; exact ht u b h1 h2 h3⟩
      · have hr1 := z_rr_up (Or.inr rfl) ho hr (e + 1)
        have hC1 := z_up_ok hC (c := 2) (k := k) (w := e + 1) (Or.inr ⟨rfl, by omega⟩)
        have hsn : z_snr (q_st T2 (3 + 2) k (nI (e + 1))) A := by
          have := (z_ri_rf h hf).2.2
          exact ⟨by rw [q_stN _ _ _ (by omega)]; exact this.1, fun i hi => by rw [q_stN _ _ _ (by omega), q_stN _ _ _ (by omega)]; exact this.2 i hi⟩
        refine q_bd (q_isSeen _ A _ (nI 0) hC1 hA.2.2 hsn hr1) (fun T3 r3 h3 => ?_)
        obtain ⟨e3, s19, r3', f3⟩ := h3
        dsimp only at e3 s19 r3' f3
        have hf3 : z_rf T T3 := z_rf_trans hf ⟨fun k j hk => by rw [f3 k j (by omega) (by omega), q_stN _ _ _ (by omega)], fun j hj => by rw [f3 0 j (by omega) (by omega), q_stN _ _ _ (by omega)]⟩
        have hd3 : z_rdk A (q_st T3 (3 + 2) k (nI (z_C A 2 k))) := z_rdk_over hd (fun k2 j h1 h2 h3 => by rw [f3 k2 j (by omega) (by omega), q_stA, if_neg (by omega)])
        have ht3 : z_tb T3 27 A k (e + 1) := fun u b h1 h2 h3 => by rw [f3 _ _ (by omega) (by omega), q_stN _ _ _ (by omega)]; exact ht u b h1 h2 h3
        have hle := z_ft_le A (z_up (z_C A) 2 k (e + 1)) (nI 0) (A 5 2) 0
        rw [e3]
        simp (disch := omega) only [q_eq]
        have ew : ∀ i : Decidable (z_wf A 2 k (e + 1) = 0), (z_ws (z_wf A 2 k) 1 e ||| @ite _ (z_wf A 2 k (e + 1) = 0) i (nI 0) (z_b1 (e + 1))) = z_ws (z_wf A 2 k) 1 (e + 1) := by
          intro i
          rw [z_ws, Nat.add_comm 1 e]
          by_cases h0 : z_wf A 2 k (e + 1) = 0
          · rw [if_pos h0, if_pos h0, q_or0]
          · rw [if_neg h0, if_neg h0]
        rw [q_nm, ew]
        have L2 : ∀ (n2 b : Nat) (T4 : tg_S), 24 < n2 + b → b ≤ 24 → (∀ k j, k ≠ 27 → T4 k j = T3 k j) → z_tb T4 27 A k (e + 1) → (∀ b2, b2 < b → T4 27 (24 * (e + 1) + b2) = nI (z_sim (z_up (z_C A) 2 k (e + 1)) (nI 0) (b2 + 1) 0)) → q_tr (L_X8_weightsBy_52 (L_X8_weightsBy_16 n) n2 T4 (nI k) (nI (z_C A 2 k)) (z_ws (z_wf A 2 k) 1 (e + 1)) (nI (e + 1)) (nI b)) (fun r => r.2 = z_ws (z_wf A 2 k) 1 9 ∧ z_ro A T r.1 ∧ z_tb r.1 27 A k 10) := by
          intro n2
          induction n2 with
          | zero => intro b T4 h; omega
          | succ n2 ih2 =>
            intro b T4 hn2 hb f4 t4 u4
            show q_tr (f_X8_weightsBy_52 (L_X8_weightsBy_16 n) (L_X8_weightsBy_52 (L_X8_weightsBy_16 n) n2) T4 (nI k) _ _ (nI (e + 1)) (nI b)) _
            unfold f_X8_weightsBy_52
            simp (disch := omega) only [q_lit, q_le, q_nm, q_add, q_mul]
            refine q_if (fun hh2 => ?_) (fun hh2 => ?_)
            · have : b = 24 := by omega
              subst this
              exact ih (e + 1) T4 (by omega) (by omega) ⟨_, z_off_up _ _ _ _, z_rr_congr (fun k j _ hk => f4 k j (by omega)) (fun j _ => f4 0 j (by omega)) r3'⟩ (z_rf_trans hf3 ⟨fun k j hk => f4 k j (by omega), fun j hj => f4 0 j (by omega)⟩) (z_rdk_over hd3 (fun k2 j h1 h2 _ => f4 k2 j (by omega))) (fun u b h1 h2 h3 => by
                by_cases hu : u = e + 1
                · subst hu; exact u4 b h3
                · exact t4 u b h1 (by omega) h3)
            · simp (disch := omega) only [q_rd, q_wr]
              have e43 : T4 19 b = nI (z_sim (z_up (z_C A) 2 k (e + 1)) (nI 0) (b + 1) 0) := by rw [f4 _ _ (by omega)]; exact s19 b (by omega)
              rw [e43]
              refine ih2 (b + 1) _ (by omega) (by omega) (fun k j hk => by rw [q_stN _ _ _ hk]; exact f4 k j hk) (fun u b2 h1 h2 h3 => ?_) (fun b2 hb2 => ?_)
              · rw [q_stA, if_neg (by omega)]
                exact t4 u b2 h1 h2 h3
              · rw [q_stA]
                by_cases hbb : b2 = b
                · rw [if_pos ⟨rfl, by omega⟩, hbb]
                · rw [if_neg (by omega)]
                  exact u4 b2 (by omega)
        exact L2 tg_F 0 T3 (by unfold tg_F; omega) (by omega) (fun _ _ _ => rfl) ht3 (fun b hb => absurd hb (Nat.not_lt_zero b))
  unfold f_X8_weightsBy
  refine q_bv (q_asToldA T A hA h) (fun T1 h1 => ?_)
  simp (disch := omega) only [q_lit, q_rd]
  rw [(h1.1.2.2.1 k hk hk0).2.1]
  exact L tg_F 0 T1 (by unfold tg_F; omega) (by omega) ⟨_, z_off_refl _ _ _, z_AT_rr A T T1 hA.2.1 h.2.1 hA.1 h1.2⟩ h1.1.1 (z_rdk_back (Or.inr rfl) h1.1.2 hk hk0) (fun u b h1 h2 => by omega)
theorem e_was (S T : tg_S) (A : Nat → Nat → Nat) (hI : z_I S T A) (a b : Int32) : z_eq (f_X7_was S a b) (f_X8_was T a b) := by
  have hle := z_C0le A
  unfold f_X7_was f_X8_was
  simp only [q_lit]
  rcases z_dec a 16 (by omega) with ⟨k, hk, rfl⟩ | ha
  · rw [q_isPullerC S A hI.2.1.2.2.1 hk, q_bdS]
    by_cases h0 : z_C A 0 k = 1
    · rw [h0, q_ifF (by decide)]
      rcases z_dec b 2 (by omega) with ⟨w, hw, rfl⟩ | hb
      · rw [q_belowI S hw (by omega), q_bdS, q_ifF (by decide)]
        rcases (show w = 0 ∨ w = 1 by omega) with rfl | rfl
        · rw [q_ifT rfl]
          refine z_eq_q (z_ws (z_wf A 2 k) 1 9) hI (q_bd (q_weightsC S A hI.1 hI.2.1 hk) (fun S2 r h => q_ret ⟨h.1, h.2.1⟩)) (q_bd (q_isPullerR T A hI.1 hI.2.2.1 hk) (fun T2 r h => ?_))
          obtain ⟨e, h⟩ := h
          dsimp only at e h
          rw [e, h0, q_ifF (by decide), q_isTwo T2 hw, q_bdS, q_ifF (by decide), q_ifT rfl]
          exact q_bd (q_weightsR T2 A hI.1 (z_ri_rf hI.2.2.1 h.1) hk h0) (fun T3 r h3 => q_ret ⟨h3.1, z_rf_trans h.1 h3.2.1.1⟩)
        · rw [q_ifF (by decide)]
          refine z_eq_q (z_ws (z_wf A 1 k) 0 3) hI (q_bd (q_sortsC S A hI.1 hI.2.1 hk) (fun S2 r h => q_ret ⟨h.1, h.2⟩)) (q_bd (q_isPullerR T A hI.1 hI.2.2.1 hk) (fun T2 r h => ?_))
          obtain ⟨e, h⟩ := h
          dsimp only at e h
          rw [e, h0, q_ifF (by decide), q_isTwo T2 hw, q_bdS, q_ifF (by decide), q_ifF (by decide)]
          exact q_bd (q_sortsR T2 A hI.1 (z_ri_rf hI.2.2.1 h.1) hk h0) (fun T3 r h3 => q_ret ⟨h3.1, z_rf_trans h.1 h3.2.1⟩)
      · rw [q_belowO S hb, q_bdS, q_ifT rfl]
        refine z_eq_q _ hI (q_retc _) (q_bd (q_isPullerR T A hI.1 hI.2.2.1 hk) (fun T2 r h => ?_))
        obtain ⟨e, h⟩ := h
        dsimp only at e h
        rw [e, h0, q_ifF (by decide), q_isTwoO T2 hb, q_bdS, q_ifT rfl]
        exact q_ret ⟨rfl, h.1⟩
    · have hz : z_C A 0 k = 0 := by have := hle k; omega
      rw [hz, q_ifT rfl]
      refine z_eq_q _ hI (q_retc _) (q_bd (q_isPullerR T A hI.1 hI.2.2.1 hk) (fun T2 r h => ?_))
      obtain ⟨e, h⟩ := h
      dsimp only at e h
      rw [e, hz, q_ifT rfl]
      exact q_ret ⟨rfl, h.1⟩
  · rw [q_isPullerCO S ha, q_bdS, q_ifT rfl]
    refine z_eq_q _ hI (q_retc _) (q_bd (q_isPullerRO T A hI.1 hI.2.2.1 ha) (fun T2 r h => ?_))
    obtain ⟨e, h⟩ := h
    dsimp only at e h
    rw [e, q_ifT rfl]
    exact q_ret ⟨rfl, h.1⟩
