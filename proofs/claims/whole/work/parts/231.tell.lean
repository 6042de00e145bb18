def z_up (A : Nat → Nat → Nat) (c j v : Nat) : Nat → Nat → Nat := fun c2 j2 => if c2 = c ∧ j2 = j then v else A c2 j2
theorem z_upA (A : Nat → Nat → Nat) (c j v c2 j2 : Nat) : z_up A c j v c2 j2 = if c2 = c ∧ j2 = j then v else A c2 j2 := rfl
theorem z_sh_congr {S S0 T T0 : tg_S} (h : z_sh S0 T0) (h1 : ∀ k j, 8 ≤ k → k ≤ 10 → S k j = S0 k j) (h2 : S 0 3 = S0 0 3) (g1 : ∀ k j, 28 ≤ k → k ≤ 31 → T k j = T0 k j) (g2 : T 0 46 = T0 0 46) : z_sh S T := by
  refine ⟨by rw [h2, g2]; exact h.1, fun s hs => ?_⟩
  rcases h.2 s hs with ⟨a, b⟩ | ⟨n, f, a1, a2, a3, a4, a5, a6, a7, a8⟩
  · exact Or.inl ⟨by rw [h1 _ _ (by omega) (by omega)]; exact a, by rw [g1 _ _ (by omega) (by omega)]; exact b⟩
  · refine Or.inr ⟨n, f, a1, a2, by rw [h1 _ _ (by omega) (by omega)]; exact a3, by rw [g1 _ _ (by omega) (by omega)]; exact a4, by rw [g1 _ _ (by omega) (by omega)]; exact a5, by rw [h1 _ _ (by omega) (by omega)]; exact a6, by rw [g1 _ _ (by omega) (by omega)]; exact a7, fun i hi => ?_⟩
    rw [h1 _ _ (by omega) (by omega), g1 _ _ (by omega) (by omega)]
    exact a8 i hi
theorem z_eq_ret {a : Type} {S T : tg_S} {A : Nat → Nat → Nat} (r : a) (h : z_I S T A) : z_eq (some (S, r)) (some (T, r)) := ⟨S, T, r, A, rfl, rfl, h⟩
theorem q_isText (T : tg_S) {i : Nat} (h : i < 4) : f_X8_isText T (nI i) = some (T, nI 1) := by
  unfold f_X8_isText
  simp only [q_lit]
  rw [q_inI T (n := 3) h (by omega), q_bdS, q_bz1]
theorem q_isTextO (T : tg_S) {a : Int32} (h : z_out a 4) : f_X8_isText T a = some (T, nI 0) := by
  unfold f_X8_isText
  simp only [q_lit]
  rw [q_inO T (n := 3) h (by omega), q_bdS, q_bz0]
/-- the texts have changed: all is played anew -/
theorem z_retext (S1 T1 S0 T0 : tg_S) (A0 A : Nat → Nat → Nat) (hI : z_I S0 T0 A0) (hA : z_tok A) (hE : ∀ c j, 2 ≤ c → A c j = A0 c j) (h1 : z_tc S1 A) (h2 : z_tr T1 A) (hS : ∀ k j, k ≠ 2 → k ≠ 3 → S1 k j = S0 k j) (hT : ∀ k j, k ≠ 1 → k ≠ 2 → T1 k j = T0 k j) : q_tr (f_X7_playTexts S1) (fun S => z_I S T1 A) := by
  obtain ⟨⟨o1, o2, o3⟩, ⟨c1, c2, c3, c4, c5, c6⟩, ⟨r1, r2, r3⟩, sh⟩ := hI
  have eE : z_eok A := ⟨by rw [hE _ _ (by omega)]; exact o2.1, fun e he => by rw [hE _ _ (by omega), hE _ _ (by omega), hE _ _ (by omega)]; rw [hE _ _ (by omega)] at he; exact o2.2.1 e he, by rw [hE _ _ (by omega)]; exact o2.2.2⟩
  have xc : z_xc S1 A := ⟨by rw [hS _ _ (by omega) (by omega), hE _ _ (by omega)]; exact c2.1, by rw [hS _ _ (by omega) (by omega)]; exact c2.2.1, by rw [hS _ _ (by omega) (by omega), hE _ _ (by omega)]; exact c2.2.2.1, fun e he => by rw [hS _ _ (by omega) (by omega), hS _ _ (by omega) (by omega), hS _ _ (by omega) (by omega), hE _ _ (by omega), hE _ _ (by omega), hE _ _ (by omega)]; exact c2.2.2.2 e he⟩
  refine q_mono (q_playTexts S1 A hA eE h1 xc) (fun S h => ?_)
  obtain ⟨g1, g2, g3, g4⟩ := h
  have sok : z_sok A := ⟨by rw [hE _ _ (by omega)]; exact o3.1, fun i hi => by rw [hE _ _ (by omega), hE _ _ (by omega)]; rw [hE _ _ (by omega)] at hi; exact o3.2 i hi⟩
  refine ⟨⟨hA, eE, sok⟩, ⟨⟨fun t ht => by rw [g4 _ _ (by omega) (by omega) (by omega)]; exact h1.1 t ht, fun i hi => by rw [g4 _ _ (by omega) (by omega) (by omega)]; exact h1.2 i hi⟩, ⟨by rw [g4 _ _ (by omega) (by omega) (by omega)]; exact xc.1, by rw [g4 _ _ (by omega) (by omega) (by omega)]; exact xc.2.1, by rw [g4 _ _ (by omega) (by omega) (by omega)]; exact xc.2.2.1, fun e he => by rw [g4 _ _ (by omega) (by omega) (by omega), g4 _ _ (by omega) (by omega) (by omega), g4 _ _ (by omega) (by omega) (by omega)]; exact xc.2.2.2 e he⟩, g1, g2, ⟨by rw [g4 _ _ (by omega) (by omega) (by omega), hS _ _ (by omega) (by omega), hE _ _ (by omega)]; exact c5.1, fun i hi => by rw [g4 _ _ (by omega) (by omega) (by omega), g4 _ _ (by omega) (by omega) (by omega), hS _ _ (by omega) (by omega), hS _ _ (by omega) (by omega), hE _ _ (by omega), hE _ _ (by omega)]; exact c5.2 i hi⟩, Or.inl g3⟩, ⟨h2, ⟨by rw [hT _ _ (by omega) (by omega), hE _ _ (by omega)]; exact r2.1, by rw [hT _ _ (by omega) (by omega), hE _ _ (by omega)]; exact r2.2.1, fun e he => by rw [hT _ _ (by omega) (by omega), hT _ _ (by omega) (by omega), hT _ _ (by omega) (by omega), hE _ _ (by omega), hE _ _ (by omega), hE _ _ (by omega)]; exact r2.2.2 e he⟩, ⟨by rw [hT _ _ (by omega) (by omega), hE _ _ (by omega)]; exact r3.1, fun i hi => by rw [hT _ _ (by omega) (by omega), hT _ _ (by omega) (by omega), hE _ _ (by omega), hE _ _ (by omega)]; exact r3.2 i hi⟩⟩, z_sh_congr sh (fun k j hk hk2 => by rw [g4 _ _ (by omega) (by omega) (by omega)]; exact hS _ _ (by omega) (by omega)) (by rw [g4 _ _ (by omega) (by omega) (by omega)]; exact hS _ _ (by omega) (by omega)) (fun k j hk hk2 => hT _ _ (by omega) (by omega)) (hT _ _ (by omega) (by omega))⟩
theorem e_type (S T : tg_S) (A : Nat → Nat → Nat) (hI : z_I S T A) (a b : Int32) : z_eq (f_X7_type S a b) (f_X8_type T a b) := by
  have hA := hI.1.1
  have hc := hI.2.1.1
  have hr := hI.2.2.1.1
  unfold f_X7_type f_X8_type
  simp only [q_lit]
  rcases z_dec a 4 (by omega) with ⟨t, ht, rfl⟩ | ha
  · rw [q_belowI S ht (by omega), q_isText T ht, q_bdS, q_bdS, q_ifF (by decide), q_ifF (by decide)]
    rcases z_dec b 256 (by omega) with ⟨b, hb, rfl⟩ | hb
    · rw [q_belowI S hb (by omega), q_inI T (n := 255) hb (by omega), q_bdS, q_bdS, q_ifF (by decide), q_ifF (by decide)]
      have hL := hA.1 t ht
      have hL31 : A 0 t ≤ 31 := by split at hL <;> omega
      unfold f_X6_isFull f_X6_isFull_18 f_X8_type_39 f_X6_append
      simp (disch := omega) only [q_lit, q_rd, hc.1, hr.1, q_le]
      rw [show (if 2 ≤ t then nI 24 else nI 31) = nI (if 2 ≤ t then 24 else 31) by split <;> rfl]
      have hm : (if 2 ≤ t then 24 else 31) ≤ 31 := by split <;> omega
      have hm2 : A 0 t ≤ (if 2 ≤ t then 24 else 31) := by grind
      simp (disch := omega) only [q_lt, q_eq, q_bdI, q_bdS]
      by_cases hf : A 0 t = (if 2 ≤ t then 24 else 31)
      · rw [q_ifF (by omega), q_ifT hf]
        simp (disch := omega) only [q_ifF]
        exact z_eq_ret _ hI
      · rw [q_ifT (by omega), q_ifF hf, q_ifT trivial]
        have h31 : A 0 t < 31 := by omega
        simp (disch := omega) only [q_mul, q_add, q_wr, q_rd, q_stN, hc.1, hr.1, q_stS, pk_us, q_bdS]
        have p1 : z_tok (z_up (z_up A 1 (31 * t + A 0 t) b) 0 t (A 0 t + 1)) := by
          refine ⟨fun t2 ht2 => ?_, fun i => ?_⟩
          · have := hA.1 t2 ht2
            simp only [z_upA]
            grind
          · have := hA.2 i
            simp only [z_upA]
            grind
        have p2 : z_tc (q_st (q_st S 2 (t * 31 + A 0 t) (nI b)) 3 t (nI (A 0 t + 1))) (z_up (z_up A 1 (31 * t + A 0 t) b) 0 t (A 0 t + 1)) := by
          refine ⟨fun t2 ht2 => ?_, fun i hi => ?_⟩
          · rw [q_stA, q_stN _ _ _ (by omega), hc.1 t2 ht2]
            simp only [z_upA]
            grind
          · rw [q_stN _ _ _ (by omega), q_stA, hc.2 i hi]
            simp only [z_upA]
            grind
        have p3 : z_tr (q_st (q_st T 2 (31 * t + A 0 t) (nI b)) 1 t (nI (A 0 t + 1))) (z_up (z_up A 1 (31 * t + A 0 t) b) 0 t (A 0 t + 1)) := by
          refine ⟨fun t2 ht2 => ?_, fun i hi => ?_⟩
          · rw [q_stA, q_stN _ _ _ (by omega), hr.1 t2 ht2]
            simp only [z_upA]
            grind
          · rw [q_stN _ _ _ (by omega), q_stA, hr.2 i hi]
            simp only [z_upA]
            grind
        obtain ⟨S2, e1, e2⟩ := z_retext _ _ S T A _ hI p1 (fun c j hc => by simp only [z_upA]; grind) p2 p3 (fun k j h1 h2 => by rw [q_stN _ _ _ h2, q_stN _ _ _ h1]) (fun k j h1 h2 => by rw [q_stN _ _ _ h1, q_stN _ _ _ h2])
        rw [e1]
        exact ⟨S2, _, _, _, rfl, rfl, e2⟩
    · rw [q_belowO S hb, q_inO T (n := 255) hb (by omega), q_bdS, q_bdS, q_ifT rfl, q_ifT rfl]
      exact z_eq_ret _ hI
  · rw [q_belowO S ha, q_isTextO T ha, q_bdS, q_bdS, q_ifT rfl, q_ifT rfl]
    exact z_eq_ret _ hI
theorem z_relen (S T : tg_S) (A : Nat → Nat → Nat) (hI : z_I S T A) (t n : Nat) (ht : t < 4) (hn : n ≤ A 0 t) : q_tr (f_X7_playTexts (q_st S 3 t (nI n))) (fun S2 => z_I S2 (q_st T 1 t (nI n)) (z_up A 0 t n)) := by
  have hA := hI.1.1
  have hc := hI.2.1.1
  have hr := hI.2.2.1.1
  refine z_retext _ _ S T A _ hI ⟨fun t2 ht2 => ?_, fun i => ?_⟩ (fun c j hc => by simp only [z_upA]; grind) ⟨fun t2 ht2 => ?_, fun i hi => ?_⟩ ⟨fun t2 ht2 => ?_, fun i hi => ?_⟩ (fun k j h1 h2 => by rw [q_stN _ _ _ h2]) (fun k j h1 h2 => by rw [q_stN _ _ _ h1])
  · have := hA.1 t2 ht2
    simp only [z_upA]
    grind
  · have := hA.2 i
    simp only [z_upA]
    grind
  · rw [q_stA, hc.1 t2 ht2]
    simp only [z_upA]
    grind
  · rw [q_stN _ _ _ (by omega), hc.2 i hi]
    simp only [z_upA]
    grind
  · rw [q_stA, hr.1 t2 ht2]
    simp only [z_upA]
    grind
  · rw [q_stN _ _ _ (by omega), hr.2 i hi]
    simp only [z_upA]
    grind
theorem e_wipe (S T : tg_S) (A : Nat → Nat → Nat) (hI : z_I S T A) (a : Int32) : z_eq (f_X7_wipe S a) (f_X8_wipe T a) := by
  have hc := hI.2.1.1
  have hr := hI.2.2.1.1
  unfold f_X7_wipe f_X8_wipe f_X6_clear
  simp only [q_lit]
  rcases z_dec a 4 (by omega) with ⟨t, ht, rfl⟩ | ha
  · rw [q_belowI S ht (by omega), q_isText T ht, q_bdS, q_bdS, q_ifF (by decide), q_ifF (by decide)]
    simp (disch := omega) only [q_rd, hc.1, hr.1, q_wr, q_bdS]
    obtain ⟨S2, e1, e2⟩ := z_relen S T A hI t 0 ht (Nat.zero_le _)
    rw [e1]
    exact ⟨S2, _, _, _, rfl, rfl, e2⟩
  · rw [q_belowO S ha, q_isTextO T ha, q_bdS, q_bdS, q_ifT rfl, q_ifT rfl]
    exact z_eq_ret _ hI
theorem e_undo (S T : tg_S) (A : Nat → Nat → Nat) (hI : z_I S T A) (a : Int32) : z_eq (f_X7_undo S a) (f_X8_undo T a) := by
  have hA := hI.1.1
  have hc := hI.2.1.1
  have hr := hI.2.2.1.1
  unfold f_X7_undo f_X8_undo f_X6_length f_X6_cutLast
  simp only [q_lit]
  rcases z_dec a 4 (by omega) with ⟨t, ht, rfl⟩ | ha
  · have hL31 : A 0 t ≤ 31 := by have := hA.1 t ht; split at this <;> omega
    rw [q_belowI S ht (by omega), q_isText T ht, q_bdS, q_bdS, q_ifF (by decide), q_ifF (by decide)]
    simp (disch := omega) only [q_rd, hc.1, hr.1, q_bdS, q_eq]
    by_cases h0 : A 0 t = 0
    · rw [q_ifT h0, q_ifT h0]
      exact z_eq_ret _ hI
    · rw [q_ifF h0, q_ifF h0]
      simp (disch := omega) only [q_sub, q_wr, q_rd, q_stS, pk_us, q_bdS]
      obtain ⟨S2, e1, e2⟩ := z_relen S T A hI t (A 0 t - 1) ht (by omega)
      rw [e1]
      exact ⟨S2, _, _, _, rfl, rfl, e2⟩
  · rw [q_belowO S ha, q_isTextO T ha, q_bdS, q_bdS, q_ifT rfl, q_ifT rfl]
    exact z_eq_ret _ hI
