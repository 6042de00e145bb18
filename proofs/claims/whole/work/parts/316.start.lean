-- ===== the start =====
def c0T : tg_S := fun _ _ => 0
def c_l8 (cy : Bool → ClassId) (ad : Nat → Nat) : va_W := [(ad 0, .inr (8, [.ref (ad 1), .ref (ad 2), .ref (ad 3), .ref (ad 4), .ref (ad 5), .ref (ad 6), .ref (ad 7), .ref (ad 8), .int 0, .int 0, .ref (ad 9), .ref (ad 10), .ref (ad 11), .ref (ad 12), .int 0, .ref (ad 13), .int 0, .ref (ad 14), .int 0, .int 0, .int 0, .int 0, .int 0, .int 0, .int 0, .ref (ad 15), .ref (ad 16), .ref (ad 17), .ref (ad 18), .ref (ad 19), .ref (ad 20), .ref (ad 21), .ref (ad 22), .ref (ad 23), .int 0, .int 0, .ref (ad 24), .int 0, .ref (ad 25), .ref (ad 26), .ref (ad 27), .ref (ad 28), .ref (ad 29), .ref (ad 30), .ref (ad 31), .ref (ad 32), .int 0])), (ad 1, .inl (cy false, 4, .inl (fun _ => 0))), (ad 2, .inl (cy false, 124, .inl (fun _ => 0))), (ad 3, .inl (cy false, 2, .inl (fun _ => 0))), (ad 4, .inl (cy false, 17, .inl (fun _ => 0))), (ad 5, .inl (cy false, 17, .inl (fun _ => 0))), (ad 6, .inl (cy false, 17, .inl (fun _ => 0))), (ad 7, .inl (cy false, 2, .inl (fun _ => 0))), (ad 8, .inl (cy false, 48, .inl (fun _ => 0))), (ad 9, .inl (cy false, 8, .inl (fun _ => 0))), (ad 10, .inl (cy false, 8, .inl (fun _ => 0))), (ad 11, .inl (cy false, 8, .inl (fun _ => 0))), (ad 12, .inl (cy false, 48, .inl (fun _ => 0))), (ad 13, .inl (cy false, 16, .inl (fun _ => 0))), (ad 14, .inl (cy false, 2, .inl (fun _ => 0))), (ad 15, .inl (cy false, 16, .inl (fun _ => 0))), (ad 16, .inl (cy false, 16, .inl (fun _ => 0))), (ad 17, .inl (cy false, 16, .inl (fun _ => 0))), (ad 18, .inl (cy false, 2, .inl (fun _ => 0))), (ad 19, .inl (cy false, 24, .inl (fun _ => 0))), (ad 20, .inl (cy false, 24, .inl (fun _ => 0))), (ad 21, .inl (cy false, 48, .inl (fun _ => 0))), (ad 22, .inl (cy false, 384, .inl (fun _ => 0))), (ad 23, .inl (cy false, 384, .inl (fun _ => 0))), (ad 24, .inl (cy false, 2, .inl (fun _ => 0))), (ad 25, .inl (cy false, 8, .inl (fun _ => 0))), (ad 26, .inl (cy false, 8, .inl (fun _ => 0))), (ad 27, .inl (cy false, 240, .inl (fun _ => 0))), (ad 28, .inl (cy true, 4, .inl (fun _ => 0))), (ad 29, .inl (cy false, 4, .inl (fun _ => 0))), (ad 30, .inl (cy false, 4, .inl (fun _ => 0))), (ad 31, .inl (cy false, 240, .inl (fun _ => 0))), (ad 32, .inl (cy false, 60, .inl (fun _ => 0)))]
set_option maxRecDepth 100000 in
theorem c_w8 (cy : Bool → ClassId) (ad : Nat → Nat) : tg_w cy tauR ad c0T = c_l8 cy ad := by
  rw [tg_w_wl]
  rfl
set_option maxRecDepth 100000 in
theorem c_b8 {cy : Bool → ClassId} {h0 : Nat} {w : va_W} (h : b_X8 cy h0 w) : ∃ bd : Nat → Nat, bd 0 = h0 ∧ w = tg_w cy tauR bd c0T := by
  obtain ⟨q1, q2, q3, q4, q5, q6, q7, q8, q9, q10, q11, q12, q13, q14, q15, q16, q17, q18, q19, q20, q21, q22, q23, q24, q25, q26, q27, q28, q29, q30, q31, q32, rfl⟩ := h
  exact ⟨fun k => [h0, q1, q2, q3, q4, q5, q6, q7, q8, q9, q10, q11, q12, q13, q14, q15, q16, q17, q18, q19, q20, q21, q22, q23, q24, q25, q26, q27, q28, q29, q30, q31, q32].getD k 0, rfl, by rw [c_w8]; rfl⟩
theorem c_start : ∃ S1 : tg_S, f_X7_playTexts c0S = some S1 ∧ z_I S1 c0T (fun _ _ => 0) := by
  have hA : z_tok (fun _ _ => 0) := ⟨fun t ht => Nat.zero_le _, fun i => (by decide : 0 < 256)⟩
  have hE : z_eok (fun _ _ => 0) := ⟨Nat.zero_le _, fun e he => absurd he (Nat.not_lt_zero e), Nat.zero_le _⟩
  have hs : z_sok (fun _ _ => 0) := ⟨Nat.zero_le _, fun e he => absurd he (Nat.not_lt_zero e)⟩
  have tc : z_tc c0S (fun _ _ => 0) := ⟨fun t ht => rfl, fun i hi => rfl⟩
  have xc : z_xc c0S (fun _ _ => 0) := ⟨rfl, rfl, rfl, fun e he => ⟨rfl, rfl, rfl⟩⟩
  obtain ⟨S1, h1, told, cs, h11, fr⟩ := q_playTexts c0S (fun _ _ => 0) hA hE tc xc
  have f2 : ∀ k j, (k < 12 ∨ 18 < k ∧ k < 35) → (k ≠ 0 ∨ j ≠ 11) → S1 k j = c0S k j := fun k j hk hj => fr k j (by omega) (by omega) hj
  refine ⟨S1, h1, ⟨hA, hE, hs⟩, ⟨⟨fun t ht => by rw [f2 _ _ (by omega) (by omega)]; exact tc.1 t ht, fun i hi => by rw [f2 _ _ (by omega) (by omega)]; exact tc.2 i hi⟩, ⟨by rw [f2 _ _ (by omega) (by omega)]; exact xc.1, by rw [f2 _ _ (by omega) (by omega)]; exact xc.2.1, by rw [f2 _ _ (by omega) (by omega)]; exact xc.2.2.1, fun e he => by rw [f2 _ _ (by omega) (by omega), f2 _ _ (by omega) (by omega), f2 _ _ (by omega) (by omega)]; exact xc.2.2.2 e he⟩, told, cs, ⟨by rw [f2 _ _ (by omega) (by omega)]; rfl, fun i hi => by rw [f2 _ _ (by omega) (by omega), f2 _ _ (by omega) (by omega)]; exact ⟨rfl, rfl⟩⟩, Or.inl h11⟩, ⟨⟨fun t ht => rfl, fun i hi => rfl⟩, ⟨rfl, rfl, fun e he => ⟨rfl, rfl, rfl⟩⟩, ⟨rfl, fun i hi => ⟨rfl, rfl⟩⟩⟩, ?_⟩
  refine ⟨by rw [f2 _ _ (by omega) (by omega)]; rfl, fun s hs => Or.inl ⟨?_, rfl⟩⟩
  rw [f2 _ _ (by omega) (by omega)]
  have : ∀ s, s < 4 → c0S 10 s = -nI 1 := by decide
  exact this s hs
