theorem z_ff_congr {A A0 : Nat → Nat → Nat} (h : ∀ j, A 1 j = A0 1 j) (t : Nat) : ∀ n i, z_ff A t i n = z_ff A0 t i n := by
  intro n
  induction n with
  | zero => intro i; rfl
  | succ n ih => intro i; simp only [z_ff, h, ih]
theorem z_sl_congr {A A0 : Nat → Nat → Nat} (h0 : ∀ j, A 0 j = A0 0 j) (h : ∀ j, A 1 j = A0 1 j) (t : Nat) : z_sl A t = z_sl A0 t := by
  unfold z_sl z_fa
  rw [h0, z_ff_congr h]
theorem z_C_congr {A A0 : Nat → Nat → Nat} (h0 : ∀ j, A 0 j = A0 0 j) (h : ∀ j, A 1 j = A0 1 j) (c j : Nat) (hc : c ≤ 5) : z_C A c j = z_C A0 c j := by
  simp only [z_C, z_sz, z_sl_congr h0 h, h]
  grind
/-- the events or the mud have changed: played anew -/
theorem z_reev (S1 T1 S0 T0 : tg_S) (A0 A : Nat → Nat → Nat) (hI : z_I S0 T0 A0) (hE : z_eok A) (hA : ∀ c j, (c < 2 ∨ 5 < c ∨ c = 5 ∧ j = 2) → A c j = A0 c j) (h1 : z_xc S1 A) (h2 : z_xr T1 A) (hS : ∀ k j, (k < 19 ∨ 22 < k) → (k ≠ 11 ∨ j ≠ 8) → S1 k j = S0 k j) (hT : ∀ k j, (k < 9 ∨ 11 < k) → (k ≠ 0 ∨ j ≠ 8 ∧ j ≠ 9) → T1 k j = T0 k j) : q_tr (f_X7_playTold S1) (fun S => z_I S T1 A ∧ ∀ k j, 8 ≤ k → k ≤ 10 → S k j = S1 k j) := by
  obtain ⟨⟨o1, o2, o3⟩, ⟨c1, c2, c3, c4, c5, c6⟩, ⟨r1, r2, r3⟩, sh⟩ := hI
  have tok : z_tok A := ⟨fun t ht => by rw [hA _ _ (by omega)]; exact o1.1 t ht, fun i => by rw [hA _ _ (by omega)]; exact o1.2 i⟩
  have eC : ∀ c j, c ≤ 5 → z_C A c j = z_C A0 c j := fun c j hc => z_C_congr (fun j => hA _ _ (by omega)) (fun j => hA _ _ (by omega)) c j hc
  have eS : ∀ m, z_sz A m = z_sz A0 m := fun m => by simp only [z_sz, z_sl_congr (fun j => hA 0 j (by omega)) (fun j => hA 1 j (by omega))]
  have told : z_told S1 A := by
    obtain ⟨⟨a1, a2, a3, a4, a5⟩, b⟩ := c3
    refine ⟨⟨fun k hk => ?_, fun k hk h0 => ?_, fun j hj => ?_, ⟨h1.1, h1.2.1, fun e he => h1.2.2.2 e (Nat.lt_of_lt_of_le he hE.1)⟩, h1.2.2.1⟩, fun m hm => ?_⟩
    · rw [hS _ _ (by omega) (by omega), eC _ _ (by omega)]; exact a1 k hk
    · rw [eC _ _ (by omega)] at h0
      rw [hS _ _ (by omega) (by omega), hS _ _ (by omega) (by omega), hS _ _ (by omega) (by omega), hS _ _ (by omega) (by omega), eC _ _ (by omega), eC _ _ (by omega), eC _ _ (by omega), eC _ _ (by omega)]
      exact a2 k hk h0
    · rw [hS _ _ (by omega) (by omega), eC _ _ (by omega)]; exact a3 j hj
    · rw [hS _ _ (by omega) (by omega), hS _ _ (by omega) (by omega), eS]; exact b m hm
  refine q_mono (q_playTold S1 A tok hE told) (fun S h => ?_)
  obtain ⟨g1, g2, g3⟩ := h
  have sok : z_sok A := ⟨by rw [hA _ _ (by omega)]; exact o3.1, fun i hi => by rw [hA _ _ (by omega), hA _ _ (by omega)]; rw [hA _ _ (by omega)] at hi; exact o3.2 i hi⟩
  refine ⟨⟨⟨tok, hE, sok⟩, ⟨⟨fun t ht => by rw [g3 _ _ (by omega) (by omega), hS _ _ (by omega) (by omega), hA _ _ (by omega)]; exact c1.1 t ht, fun i hi => by rw [g3 _ _ (by omega) (by omega), hS _ _ (by omega) (by omega), hA _ _ (by omega)]; exact c1.2 i hi⟩, ⟨by rw [g3 _ _ (by omega) (by omega)]; exact h1.1, by rw [g3 _ _ (by omega) (by omega)]; exact h1.2.1, by rw [g3 _ _ (by omega) (by omega)]; exact h1.2.2.1, fun e he => by rw [g3 _ _ (by omega) (by omega), g3 _ _ (by omega) (by omega), g3 _ _ (by omega) (by omega)]; exact h1.2.2.2 e he⟩, z_told_congr (fun k j _ _ => g3 k j (by omega) (by omega)) told, g1, ⟨by rw [g3 _ _ (by omega) (by omega), hS _ _ (by omega) (by omega), hA _ _ (by omega)]; exact c5.1, fun i hi => by rw [g3 _ _ (by omega) (by omega), g3 _ _ (by omega) (by omega), hS _ _ (by omega) (by omega), hS _ _ (by omega) (by omega), hA _ _ (by omega), hA _ _ (by omega)]; exact c5.2 i hi⟩, Or.inl g2⟩, ⟨⟨fun t ht => by rw [hT _ _ (by omega) (by omega), hA _ _ (by omega)]; exact r1.1 t ht, fun i hi => by rw [hT _ _ (by omega) (by omega), hA _ _ (by omega)]; exact r1.2 i hi⟩, h2, ⟨by rw [hT _ _ (by omega) (by omega), hA _ _ (by omega)]; exact r3.1, fun i hi => by rw [hT _ _ (by omega) (by omega), hT _ _ (by omega) (by omega), hA _ _ (by omega), hA _ _ (by omega)]; exact r3.2 i hi⟩⟩, z_sh_congr sh (fun k j hk hk2 => by rw [g3 _ _ (by omega) (by omega)]; exact hS _ _ (by omega) (by omega)) (by rw [g3 _ _ (by omega) (by omega)]; exact hS _ _ (by omega) (by omega)) (fun k j hk hk2 => hT _ _ (by omega) (by omega)) (hT _ _ (by omega) (by omega))⟩, fun k j hk hk2 => g3 _ _ (by omega) (by omega)⟩
theorem e_mud (S T : tg_S) (A : Nat → Nat → Nat) (hI : z_I S T A) (a : Int32) : z_eq (f_X7_mud S a) (f_X8_mud T a) := by
  obtain ⟨x1, x2, x3, x4⟩ := hI.2.1.2.1
  obtain ⟨y1, y2, y3⟩ := hI.2.2.1.2.1
  have hE := hI.1.2.1
  unfold f_X7_mud f_X8_mud
  simp only [q_lit]
  rcases z_dec a 10 (by omega) with ⟨m, hm, rfl⟩ | ha
  · rw [q_belowI S hm (by omega), q_inI T (n := 9) hm (by omega), q_bdS, q_bdS, q_ifF (by decide), q_ifF (by decide)]
    simp only [q_nm, q_pf]
    rw [x3, y2]
    have p1 : z_eok (z_up A 5 1 m) := ⟨hE.1, fun e he => hE.2.1 e he, by simp only [z_upA]; simp; omega⟩
    have p2 : z_xc (q_st S 11 8 (nI m)) (z_up A 5 1 m) := ⟨by rw [q_stN _ _ _ (by omega)]; exact x1, by rw [q_stN _ _ _ (by omega)]; exact x2, by rw [q_stS, pk_us]; simp [z_upA], fun e he => by rw [q_stN _ _ _ (by omega), q_stN _ _ _ (by omega), q_stN _ _ _ (by omega)]; exact x4 e he⟩
    have p3 : z_xr (q_st T 0 8 (nI m)) (z_up A 5 1 m) := ⟨by rw [q_stA]; simp; exact y1, by rw [q_stS, pk_us]; simp [z_upA], fun e he => by rw [q_stN _ _ _ (by omega), q_stN _ _ _ (by omega), q_stN _ _ _ (by omega)]; exact y3 e he⟩
    obtain ⟨S2, e1, e2⟩ := z_reev _ _ S T A _ hI p1 (fun c j hc => by simp only [z_upA]; grind) p2 p3 (fun k j h1 h2 => by rw [q_stA]; grind) (fun k j h1 h2 => by rw [q_stA]; grind)
    rw [e1]
    exact ⟨S2, _, _, _, rfl, rfl, e2.1⟩
  · rw [q_belowO S ha, q_inO T (n := 9) ha (by omega), q_bdS, q_bdS, q_ifT rfl, q_ifT rfl]
    exact z_eq_ret _ hI
theorem e_back (S T : tg_S) (A : Nat → Nat → Nat) (hI : z_I S T A) : z_eq (f_X7_back S) (f_X8_back T) := by
  obtain ⟨x1, x2, x3, x4⟩ := hI.2.1.2.1
  obtain ⟨y1, y2, y3⟩ := hI.2.2.1.2.1
  have hE := hI.1.2.1
  have h8 := hE.1
  unfold f_X7_back f_X8_back f_X3_cutLast
  simp only [q_lit]
  rw [x1, y1]
  simp (disch := omega) only [q_eq]
  by_cases h0 : A 5 0 = 0
  · rw [q_ifT h0, q_ifT h0]
    exact z_eq_ret _ hI
  · rw [q_ifF h0, q_ifF h0]
    simp (disch := omega) only [q_sub, q_pf, q_bdS, q_stS, pk_us]
    have p1 : z_eok (z_up A 5 0 (A 5 0 - 1)) := ⟨by simp only [z_upA]; simp; omega, fun e he => hE.2.1 e (by simp only [z_upA] at he; simp at he; omega), hE.2.2⟩
    have p2 : z_xc (q_st S 19 3 (nI (A 5 0 - 1))) (z_up A 5 0 (A 5 0 - 1)) := ⟨by rw [q_stS, pk_us]; simp [z_upA], by rw [q_stA]; simp; exact x2, by rw [q_stN _ _ _ (by omega)]; exact x3, fun e he => by rw [q_stN _ _ _ (by omega), q_stN _ _ _ (by omega), q_stN _ _ _ (by omega)]; exact x4 e he⟩
    have p3 : z_xr (q_st T 0 9 (nI (A 5 0 - 1))) (z_up A 5 0 (A 5 0 - 1)) := ⟨by rw [q_stS, pk_us]; simp [z_upA], by rw [q_stA]; simp; exact y2, fun e he => by rw [q_stN _ _ _ (by omega), q_stN _ _ _ (by omega), q_stN _ _ _ (by omega)]; exact y3 e he⟩
    obtain ⟨S2, e1, e2⟩ := z_reev _ _ S T A _ hI p1 (fun c j hc => by simp only [z_upA]; grind) p2 p3 (fun k j h1 h2 => by rw [q_stA]; grind) (fun k j h1 h2 => by rw [q_stA]; grind)
    rw [e1]
    exact ⟨S2, _, _, _, rfl, rfl, e2.1⟩
/-- event: BAD, FULL, or how many there are, on both sides; an answer above 0 just in the last case -/
theorem e_event' (S T : tg_S) (A : Nat → Nat → Nat) (hI : z_I S T A) (a b c : Int32) : ∃ (S2 T2 : tg_S) (r : Int32) (A2 : Nat → Nat → Nat), f_X7_event S a b c = some (S2, r) ∧ f_X8_event T a b c = some (T2, r) ∧ z_I S2 T2 A2 ∧ (∀ k j, 8 ≤ k → k ≤ 10 → S2 k j = S k j) ∧ (∀ k j, 28 ≤ k → k ≤ 31 → T2 k j = T k j) := by
  obtain ⟨x1, x2, x3, x4⟩ := id hI.2.1.2.1
  obtain ⟨y1, y2, y3⟩ := id hI.2.2.1.2.1
  have hE := hI.1.2.1
  have h8 := hE.1
  unfold f_X7_event f_X8_event f_X3_mayBe
  simp only [q_lit]
  rcases z_dec a 3 (by omega) with ⟨k, hk, rfl⟩ | ha
  · rw [q_belowI S hk (by omega), q_isThree T hk, q_bdS, q_bdS, q_ifF (by decide), q_ifF (by decide)]
    rcases z_dec b 24 (by omega) with ⟨b, hb, rfl⟩ | hb
    · rw [q_belowI S hb (by omega), q_isBeat T hb, q_bdS, q_bdS, q_ifF (by decide), q_ifF (by decide)]
      rcases z_dec c 16 (by omega) with ⟨c, hc, rfl⟩ | hc
      · rw [q_belowI S hc (by omega), q_inI T (n := 15) hc (by omega), q_bdS, q_bdS, q_ifF (by decide), q_ifF (by decide), q_bdS, q_ifF (by decide), x1, y1]
        simp (disch := omega) only [q_eq]
        by_cases hf : A 5 0 = 8
        · rw [q_ifT hf, q_ifT hf]
          exact ⟨S, T, _, A, rfl, rfl, hI, fun _ _ _ _ => rfl, fun _ _ _ _ => rfl⟩
        · rw [q_ifF hf, q_ifF hf]
          unfold f_X3_append
          rw [x1]
          simp only [q_lit]
          have g1 : ∀ v, q_st S 20 (A 5 0) v 19 3 = nI (A 5 0) := fun v => by rw [q_stN _ _ _ (by omega)]; exact x1
          have g2 : ∀ v w, q_st (q_st S 20 (A 5 0) v) 21 (A 5 0) w 19 3 = nI (A 5 0) := fun v w => by rw [q_stN _ _ _ (by omega)]; exact g1 v
          have g3 : ∀ v w u, q_st (q_st (q_st S 20 (A 5 0) v) 21 (A 5 0) w) 22 (A 5 0) u 19 3 = nI (A 5 0) := fun v w u => by rw [q_stN _ _ _ (by omega)]; exact g2 v w
          have k1 : ∀ v, q_st T 9 (A 5 0) v 0 9 = nI (A 5 0) := fun v => by rw [q_stN _ _ _ (by omega)]; exact y1
          have k2 : ∀ v w, q_st (q_st T 9 (A 5 0) v) 10 (A 5 0) w 0 9 = nI (A 5 0) := fun v w => by rw [q_stN _ _ _ (by omega)]; exact k1 v
          have k3 : ∀ v w u, q_st (q_st (q_st T 9 (A 5 0) v) 10 (A 5 0) w) 11 (A 5 0) u 0 9 = nI (A 5 0) := fun v w u => by rw [q_stN _ _ _ (by omega)]; exact k2 v w
          simp (disch := omega) only [q_wr, g1, g2, g3, k1, k2, k3, q_pf, q_add, q_bdS, q_stS, pk_us]
          have p1 : z_eok (z_up (z_up (z_up (z_up A 2 (A 5 0) k) 3 (A 5 0) b) 4 (A 5 0) c) 5 0 (A 5 0 + 1)) := by
            refine ⟨by simp only [z_upA]; simp; omega, fun e he => ?_, by simp only [z_upA]; simp; exact hE.2.2⟩
            have := hE.2.1 e
            simp only [z_upA] at he ⊢
            grind
          have p2 : z_xc (q_st (q_st (q_st (q_st S 20 (A 5 0) (nI k)) 21 (A 5 0) (nI b)) 22 (A 5 0) (nI c)) 19 3 (nI (A 5 0 + 1))) (z_up (z_up (z_up (z_up A 2 (A 5 0) k) 3 (A 5 0) b) 4 (A 5 0) c) 5 0 (A 5 0 + 1)) := by
            refine ⟨by rw [q_stS, pk_us]; simp [z_upA], by simp only [q_stA]; simp; exact x2, by simp only [q_stA]; simp; rw [x3]; simp [z_upA], fun e he => ?_⟩
            have := x4 e he
            simp only [q_stA, z_upA]
            grind
          have p3 : z_xr (q_st (q_st (q_st (q_st T 9 (A 5 0) (nI k)) 10 (A 5 0) (nI b)) 11 (A 5 0) (nI c)) 0 9 (nI (A 5 0 + 1))) (z_up (z_up (z_up (z_up A 2 (A 5 0) k) 3 (A 5 0) b) 4 (A 5 0) c) 5 0 (A 5 0 + 1)) := by
            refine ⟨by rw [q_stS, pk_us]; simp [z_upA], by simp only [q_stA]; simp; rw [y2]; simp [z_upA], fun e he => ?_⟩
            have := y3 e he
            simp only [q_stA, z_upA]
            grind
          obtain ⟨S2, e1, e2⟩ := z_reev _ _ S T A _ hI p1 (fun c2 j hc2 => by simp only [z_upA]; grind) p2 p3 (fun k2 j h1 h2 => by simp only [q_stA]; grind) (fun k2 j h1 h2 => by simp only [q_stA]; grind)
          rw [e1]
          refine ⟨S2, _, _, _, rfl, rfl, e2.1, fun k2 j h1 h2 => ?_, fun k2 j h1 h2 => by simp only [q_stA]; grind⟩
          rw [e2.2 k2 j h1 h2]
          simp only [q_stA]
          grind
      · rw [q_belowO S hc, q_inO T (n := 15) hc (by omega), q_bdS, q_bdS, q_ifT rfl, q_ifT rfl, q_bdS, q_ifT rfl]
        exact ⟨S, T, _, A, rfl, rfl, hI, fun _ _ _ _ => rfl, fun _ _ _ _ => rfl⟩
    · rw [q_belowO S hb, q_isBeatO T hb, q_bdS, q_bdS, q_ifT rfl, q_ifT rfl, q_bdS, q_ifT rfl]
      exact ⟨S, T, _, A, rfl, rfl, hI, fun _ _ _ _ => rfl, fun _ _ _ _ => rfl⟩
  · rw [q_belowO S ha, q_isThreeO T ha, q_bdS, q_bdS, q_ifT rfl, q_ifT rfl, q_bdS, q_ifT rfl]
    exact ⟨S, T, _, A, rfl, rfl, hI, fun _ _ _ _ => rfl, fun _ _ _ _ => rfl⟩
theorem e_event (S T : tg_S) (A : Nat → Nat → Nat) (hI : z_I S T A) (a b c : Int32) : z_eq (f_X7_event S a b c) (f_X8_event T a b c) := by
  obtain ⟨S2, T2, r, A2, h1, h2, h3, -, -⟩ := e_event' S T A hI a b c
  exact ⟨S2, T2, r, A2, h1, h2, h3⟩
