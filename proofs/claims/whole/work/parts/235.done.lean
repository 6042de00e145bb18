abbrev z_d (A : Nat → Nat → Nat) (k b : Nat) : Nat := z_dn (z_C A) (nI 0) k b
theorem z_pk_le {A : Nat → Nat → Nat} (hA : z_aok A) {b k : Nat} (hk : k < 16) (h0 : z_C A 0 k = 1) : z_pk (z_C A) (nI 0) b k ≤ 20 := by
  have := z_pu_le (C := z_C A) (mi := nI 0) (b := b) (k := k) (br := z_s A b (3 + k)) (((z_C_ok A hA.1 hA.2.1).1 k hk).2 h0).2.1
  unfold z_pk
  split <;> omega
theorem z_d_le {A : Nat → Nat → Nat} (hA : z_aok A) {k : Nat} (hk : k < 16) (h0 : z_C A 0 k = 1) : ∀ b, z_d A k b ≤ 20 * b := by
  intro b
  induction b with
  | zero => exact Nat.le_refl _
  | succ b ih =>
    have := z_pk_le hA (b := b) hk h0
    simp only [z_d, z_dn] at ih ⊢
    omega
theorem q_pulled_L (S : tg_S) (A : Nat → Nat → Nat) (hA : z_aok A) (h : z_cs S 35 (z_C A) (nI 0) 24) {k : Nat} (hk : k < 16) (h0 : z_C A 0 k = 1) : ∀ n b, 24 < n + b → b ≤ 24 → q_tr (L_X7_pulledInAll_4 n S (nI k) (nI (z_d A k b)) (nI b)) (fun r => r = (S, nI (z_d A k 24))) := by
  intro n
  induction n with
  | zero => intro b h; omega
  | succ n ih =>
    intro b h2 hb
    show q_tr (f_X7_pulledInAll_4 (L_X7_pulledInAll_4 n) S (nI k) (nI (z_d A k b)) (nI b)) _
    unfold f_X7_pulledInAll_4
    simp (disch := omega) only [q_lit, q_le, q_nm, q_add, q_mul]
    refine q_if (fun h1 => ?_) (fun h1 => ?_)
    · have : b = 24 := by omega
      subst this
      exact q_ret rfl
    · have h3 : S 39 (k * 24 + b) = _ := (h.2.2.2 b k (by omega) hk h0).1
      simp (disch := omega) only [q_rd, h3, q_add]
      exact ih (b + 1) (by omega) (by omega)
theorem q_pulled (S : tg_S) (A : Nat → Nat → Nat) (hA : z_aok A) (h : z_cs S 35 (z_C A) (nI 0) 24) {k : Nat} (hk : k < 16) (h0 : z_C A 0 k = 1) : f_X7_pulledInAll S (nI k) = some (S, nI (z_d A k 24)) := by
  unfold f_X7_pulledInAll
  simp only [q_lit]
  exact q_eqS (q_pulled_L S A hA h hk h0 tg_F 0 (by decide) (by decide))
theorem q_doneC (S : tg_S) (A : Nat → Nat → Nat) (hA : z_aok A) (ht : z_told S A) (h : z_cs S 35 (z_C A) (nI 0) 24) {k : Nat} (hk : k < 16) (h0 : z_C A 0 k = 1) : f_X7_done S (nI k) = some (S, nI (z_d A k 24)) := by
  unfold f_X7_done
  simp only [q_lit]
  rw [q_isPullerC S A ht hk, h0, q_bdS, q_ifF (by decide), q_pulled S A hA h hk h0, q_bdS]
theorem q_doneR (T : tg_S) (A : Nat → Nat → Nat) (hA : z_aok A) (h : z_ri T A) {k : Nat} (hk : k < 16) (h0 : z_C A 0 k = 1) : q_tr (f_X8_doneOf T (nI k)) (fun r => r.2 = nI (z_d A k 24) ∧ z_ro A T r.1) := by
  unfold f_X8_doneOf
  refine q_bv (q_runsToldA T A hA h) (fun T2 h2 => ?_)
  obtain ⟨h2, hs⟩ := h2
  simp (disch := omega) only [q_rd, (hs.2.1 k hk h0).2]
  exact q_ret ⟨rfl, h2⟩
theorem e_done (S T : tg_S) (A : Nat → Nat → Nat) (hI : z_I S T A) (a : Int32) : z_eq (f_X7_done S a) (f_X8_done T a) := by
  have hle := z_C0le A
  rcases z_dec a 16 (by omega) with ⟨k, hk, rfl⟩ | ha
  · by_cases h0 : z_C A 0 k = 1
    · rw [q_doneC S A hI.1 hI.2.1.2.2.1 hI.2.1.2.2.2.1 hk h0]
      unfold f_X8_done
      simp only [q_lit]
      refine z_eq_q _ hI (q_retc _) (q_bd (q_isPullerR T A hI.1 hI.2.2.1 hk) (fun T2 r h => ?_))
      obtain ⟨e, h⟩ := h
      dsimp only at e h
      rw [e, h0, q_ifF (by decide)]
      exact q_bd (q_doneR T2 A hI.1 (z_ri_rf hI.2.2.1 h.1) hk h0) (fun T3 r h3 => q_ret ⟨h3.1, z_rf_trans h.1 h3.2.1⟩)
    · have hz : z_C A 0 k = 0 := by have := hle k; omega
      unfold f_X7_done f_X8_done
      simp only [q_lit]
      rw [q_isPullerC S A hI.2.1.2.2.1 hk, hz, q_bdS, q_ifT rfl]
      refine z_eq_q _ hI (q_retc _) (q_bd (q_isPullerR T A hI.1 hI.2.2.1 hk) (fun T2 r h => ?_))
      obtain ⟨e, h⟩ := h
      dsimp only at e h
      rw [e, hz, q_ifT rfl]
      exact q_ret ⟨rfl, h.1⟩
  · unfold f_X7_done f_X8_done
    simp only [q_lit]
    rw [q_isPullerCO S ha, q_bdS, q_ifT rfl]
    refine z_eq_q _ hI (q_retc _) (q_bd (q_isPullerRO T A hI.1 hI.2.2.1 ha) (fun T2 r h => ?_))
    obtain ⟨e, h⟩ := h
    dsimp only at e h
    rw [e, q_ifT rfl]
    exact q_ret ⟨rfl, h.1⟩
-- spent
def z_sp (A : Nat → Nat → Nat) : Nat → Int32
  | 0 => nI 0
  | k + 1 => if z_C A 0 k = 1 ∧ z_s A 24 (3 + k) = 0 then z_sp A k ||| (nI 1 <<< (nI k &&& nI 31)) else z_sp A k
theorem q_spentC_L (S : tg_S) (A : Nat → Nat → Nat) (hA : z_aok A) (ht : z_told S A) (h : z_cs S 35 (z_C A) (nI 0) 24) : ∀ n k, 16 < n + k → k ≤ 16 → q_tr (L_X7_spent_4 n S (z_sp A k) (nI k)) (fun r => r = (S, z_sp A 16)) := by
  intro n
  induction n with
  | zero => intro b h; omega
  | succ n ih =>
    intro k h2 hk
    show q_tr (f_X7_spent_4 (L_X7_spent_4 n) S (z_sp A k) (nI k)) _
    unfold f_X7_spent_4 f_X7_spent_48
    simp (disch := omega) only [q_lit, q_le, q_nm, q_add]
    refine q_if (fun h1 => ?_) (fun h1 => ?_)
    · have : k = 16 := by omega
      subst this
      exact q_ret rfl
    · have hle := z_C0le A k
      have h3 : S 12 k = _ := ht.1.1 k (by omega)
      have go := ih (k + 1) (by omega) (by omega)
      clear ih
      simp (disch := omega) only [q_rd, h3, q_eq]
      refine q_if (fun h0 => ?_) (fun h0 => ?_)
      · rw [z_sp, if_neg (by omega)] at go
        exact go
      · have h1' : z_C A 0 k = 1 := by omega
        have h4 : S 40 (k * 24 + 23) = _ := (h.2.2.2 23 k (by omega) (by omega) h1').2
        rw [show (23 : Nat) + 1 = 24 from rfl] at h4
        have l := (z_sim_ok (mi := nI 0) (z_C_ok A hA.1 hA.2.1) 24).2.2.2.2 k (by omega) h1'
        simp (disch := omega) only [q_mul, q_add, q_sub]
        rw [show k * 24 + 24 - 1 = k * 24 + 23 by omega]
        simp (disch := omega) only [q_rd, h4, q_eq]
        refine q_if (fun hz => ?_) (fun hz => ?_)
        · rw [z_sp, if_pos ⟨h1', hz⟩] at go
          exact go
        · rw [z_sp, if_neg (fun hh => hz hh.2)] at go
          exact go
theorem q_spentC (S : tg_S) (A : Nat → Nat → Nat) (hA : z_aok A) (ht : z_told S A) (h : z_cs S 35 (z_C A) (nI 0) 24) : f_X7_spent S = some (S, z_sp A 16) := by
  unfold f_X7_spent
  simp only [q_lit]
  exact q_eqS (q_spentC_L S A hA ht h tg_F 0 (by decide) (by decide))
theorem q_spentR_L (T : tg_S) (A : Nat → Nat → Nat) (hA : z_aok A) (hd : z_rdk A T) (h : z_rs T (z_C A) (nI 0) 24) : ∀ n k, 16 < n + k → k ≤ 16 → q_tr (L_X8_spentOf_8 n T (z_sp A k) (nI k)) (fun r => r = (T, z_sp A 16)) := by
  intro n
  induction n with
  | zero => intro b h; omega
  | succ n ih =>
    intro k h2 hk
    show q_tr (f_X8_spentOf_8 (L_X8_spentOf_8 n) T (z_sp A k) (nI k)) _
    unfold f_X8_spentOf_8 f_X8_spentOf_38 f_X8_spentOf_39
    simp (disch := omega) only [q_lit, q_le, q_nm, q_add, q_or0]
    refine q_if (fun h1 => ?_) (fun h1 => ?_)
    · have : k = 16 := by omega
      subst this
      exact q_ret rfl
    · have hle := z_C0le A k
      have go := ih (k + 1) (by omega) (by omega)
      clear ih
      rw [q_thereOne T A hA hd (by omega), q_bdS]
      simp (disch := omega) only [q_eq]
      refine q_if (fun h0 => ?_) (fun h0 => ?_)
      · rw [z_sp, if_neg (by omega)] at go
        exact go
      · have h1' : z_C A 0 k = 1 := by omega
        have l := (z_sim_ok (mi := nI 0) (z_C_ok A hA.1 hA.2.1) 24).2.2.2.2 k (by omega) h1'
        simp (disch := omega) only [q_rd, (h.2.1 k (by omega) h1').1, q_eq]
        refine q_if (fun hz => ?_) (fun hz => ?_)
        · rw [z_sp, if_pos ⟨h1', hz⟩] at go
          exact go
        · rw [z_sp, if_neg (fun hh => hz hh.2)] at go
          exact go
theorem q_spentR (T : tg_S) (A : Nat → Nat → Nat) (hA : z_aok A) (h : z_ri T A) : q_tr (f_X8_spentOf T) (fun r => r.2 = z_sp A 16 ∧ z_ro A T r.1) := by
  unfold f_X8_spentOf
  refine q_bv (q_runsToldA T A hA h) (fun T2 h2 => ?_)
  simp only [q_lit]
  have := q_eqS (q_spentR_L T2 A hA h2.1.2 h2.2 tg_F 0 (by decide) (by decide))
  rw [show L_X8_spentOf_8 tg_F T2 (nI 0) (nI 0) = _ from this]
  exact q_ret ⟨rfl, h2.1⟩
theorem e_spent (S T : tg_S) (A : Nat → Nat → Nat) (hI : z_I S T A) : z_eq (f_X7_spent S) (f_X8_spent T) := by
  rw [q_spentC S A hI.1 hI.2.1.2.2.1 hI.2.1.2.2.2.1]
  unfold f_X8_spent
  exact z_eq_q _ hI (q_retc _) (q_bd (q_spentR T A hI.1 hI.2.2.1) (fun T2 r h => q_ret ⟨h.1, h.2.1⟩))
-- best
def z_v (A : Nat → Nat → Nat) (k : Nat) : Nat := if z_C A 0 k = 1 then z_d A k 24 else 0
def z_bm (A : Nat → Nat → Nat) : Nat → Nat
  | 0 => 0
  | k + 1 => if z_v A k ≤ z_bm A k then z_bm A k else z_v A k
def z_bo (A : Nat → Nat → Nat) : Nat → Int32
  | 0 => -nI 1
  | k + 1 => if z_v A k ≤ z_bm A k then z_bo A k else nI k
theorem z_v_le {A : Nat → Nat → Nat} (hA : z_aok A) {k : Nat} (hk : k < 16) : z_v A k ≤ 480 := by
  unfold z_v
  split
  · rename_i h
    have := z_d_le hA hk h 24
    omega
  · omega
theorem z_bm_le {A : Nat → Nat → Nat} (hA : z_aok A) : ∀ k, k ≤ 16 → z_bm A k ≤ 480 := by
  intro k
  induction k with
  | zero => intro _; simp [z_bm]
  | succ k ih =>
    intro hk
    have h1 := ih (by omega)
    have h2 := z_v_le hA (k := k) (by omega)
    simp only [z_bm]
    split <;> omega
theorem q_bestC_L (S : tg_S) (A : Nat → Nat → Nat) (hA : z_aok A) (ht : z_told S A) (h : z_cs S 35 (z_C A) (nI 0) 24) : ∀ n k, 16 < n + k → k ≤ 16 → q_tr (L_X7_best_6 n S (z_bo A k) (nI (z_bm A k)) (nI k)) (fun r => r = (S, z_bo A 16)) := by
  intro n
  induction n with
  | zero => intro b h; omega
  | succ n ih =>
    intro k h2 hk
    show q_tr (f_X7_best_6 (L_X7_best_6 n) S (z_bo A k) (nI (z_bm A k)) (nI k)) _
    unfold f_X7_best_6 f_X7_best_33 f_X7_best_46
    simp (disch := omega) only [q_lit, q_le, q_nm, q_add]
    refine q_if (fun h1 => ?_) (fun h1 => ?_)
    · have : k = 16 := by omega
      subst this
      exact q_ret rfl
    · have hle := z_C0le A k
      have h3 : S 12 k = _ := ht.1.1 k (by omega)
      have l1 := z_v_le hA (k := k) (by omega)
      have l2 := z_bm_le hA k (by omega)
      have go := ih (k + 1) (by omega) (by omega)
      clear ih
      have fin : ∀ x, x = z_v A k → q_tr (L_X7_best_6 n S (if nI x ≤ nI (z_bm A k) then z_bo A k else nI k) (if nI x ≤ nI (z_bm A k) then nI (z_bm A k) else nI x) (nI (k + 1))) (fun r => r = (S, z_bo A 16)) := by
        intro x hx
        subst hx
        simp (disch := omega) only [q_le]
        rw [show (if z_v A k ≤ z_bm A k then nI (z_bm A k) else nI (z_v A k)) = nI (z_bm A (k + 1)) by simp only [z_bm]; split <;> rfl, show (if z_v A k ≤ z_bm A k then z_bo A k else nI k) = z_bo A (k + 1) by simp only [z_bo]]
        exact go
      simp (disch := omega) only [q_rd, h3, q_eq]
      refine q_if (fun h0 => ?_) (fun h0 => ?_)
      · exact fin 0 (by unfold z_v; rw [if_neg (by omega)])
      · have h1' : z_C A 0 k = 1 := by omega
        rw [q_pulled S A hA h (by omega) h1', q_bdS]
        exact fin _ (by unfold z_v; rw [if_pos h1'])
theorem q_bestC (S : tg_S) (A : Nat → Nat → Nat) (hA : z_aok A) (ht : z_told S A) (h : z_cs S 35 (z_C A) (nI 0) 24) : f_X7_best S = some (S, z_bo A 16) := by
  unfold f_X7_best
  simp only [q_lit, q_nm]
  exact q_eqS (q_bestC_L S A hA ht h tg_F 0 (by decide) (by decide))
theorem q_bestR_L (T : tg_S) (A : Nat → Nat → Nat) (hA : z_aok A) (h : z_rs T (z_C A) (nI 0) 24) : ∀ n k, 16 < n + k → k ≤ 16 → q_tr (L_X8_bestOf_10 n T (z_bo A k) (nI (z_bm A k)) (nI k)) (fun r => r = (T, z_bo A 16)) := by
  intro n
  induction n with
  | zero => intro b h; omega
  | succ n ih =>
    intro k h2 hk
    show q_tr (f_X8_bestOf_10 (L_X8_bestOf_10 n) T (z_bo A k) (nI (z_bm A k)) (nI k)) _
    unfold f_X8_bestOf_10 f_X8_bestOf_31 f_X8_bestOf_52
    simp (disch := omega) only [q_lit, q_le, q_nm, q_add]
    refine q_if (fun h1 => ?_) (fun h1 => ?_)
    · have : k = 16 := by omega
      subst this
      exact q_ret rfl
    · have l1 := z_v_le hA (k := k) (by omega)
      have l2 := z_bm_le hA k (by omega)
      have e : T 16 k = nI (z_v A k) := by
        unfold z_v
        split
        · rename_i h0
          exact (h.2.1 k (by omega) h0).2
        · rename_i h0
          exact h.2.2.1 k (by omega) h0
      have go := ih (k + 1) (by omega) (by omega)
      clear ih
      simp (disch := omega) only [q_rd, e, q_le]
      simp only [z_bo, z_bm] at go
      refine q_if (fun hc => ?_) (fun hc => ?_)
      · rw [if_pos hc] at go ⊢
        rw [if_pos hc] at go
        exact go
      · rw [if_neg hc] at go ⊢
        rw [if_neg hc] at go
        exact go
theorem q_bestR (T : tg_S) (A : Nat → Nat → Nat) (hA : z_aok A) (h : z_ri T A) : q_tr (f_X8_bestOf T) (fun r => r.2 = z_bo A 16 ∧ z_ro A T r.1) := by
  unfold f_X8_bestOf
  refine q_bv (q_runsToldA T A hA h) (fun T2 h2 => ?_)
  simp only [q_lit, q_nm]
  have := q_eqS (q_bestR_L T2 A hA h2.2 tg_F 0 (by decide) (by decide))
  rw [show L_X8_bestOf_10 tg_F T2 (-nI 1) (nI 0) (nI 0) = _ from this]
  exact q_ret ⟨rfl, h2.1⟩
theorem e_best (S T : tg_S) (A : Nat → Nat → Nat) (hI : z_I S T A) : z_eq (f_X7_best S) (f_X8_best T) := by
  rw [q_bestC S A hI.1 hI.2.1.2.2.1 hI.2.1.2.2.2.1]
  unfold f_X8_best
  exact z_eq_q _ hI (q_retc _) (q_bd (q_bestR T A hI.1 hI.2.2.1) (fun T2 r h => q_ret ⟨h.1, h.2.1⟩))
-- level
theorem z_win (C : Nat → Nat → Nat) (mi : Int32) : ∀ B, ¬ z_sim C mi B 1 = 2 → z_sim C mi B 2 < B ∧ (∀ b, b ≤ z_sim C mi B 2 → z_sim C mi b 1 = 2) ∧ ∀ b, z_sim C mi B 2 < b → b ≤ B → ¬ z_sim C mi b 1 = 2 := by
  intro B
  induction B with
  | zero => intro h; exact absurd (by simp [z_sim]) h
  | succ B ih =>
    intro h
    by_cases hw : z_sim C mi B 1 = 2
    · have e : z_sim C mi (B + 1) 2 = B := by simp [z_sim, z_stp, hw]
      have down : ∀ d b, b + d = B → z_sim C mi b 1 = 2 := by
        intro d
        induction d with
        | zero => intro b hb; rw [show b = B by omega]; exact hw
        | succ d ihd =>
          intro b hb
          have h1 := ihd (b + 1) (by omega)
          by_cases hq : z_sim C mi b 1 = 2
          · exact hq
          · have : z_sim C mi (b + 1) 1 = z_sim C mi b 1 := by simp [z_sim, z_stp, hq]
            rw [this] at h1
            exact h1
      rw [e]
      refine ⟨by omega, fun b hb => down (B - b) b (by omega), fun b h1 h2 => ?_⟩
      rw [show b = B + 1 by omega]
      exact h
    · have e : ∀ i, z_sim C mi (B + 1) i = z_sim C mi B i := fun i => by simp [z_sim, z_stp, hw]
      obtain ⟨i1, i2, i3⟩ := ih hw
      rw [e]
      refine ⟨by omega, i2, fun b h1 h2 => ?_⟩
      by_cases hb : b = B + 1
      · rw [hb]; exact h
      · exact i3 b h1 (by omega)
theorem z_lv_stop (C : Nat → Nat → Nat) (mi : Int32) (w : Nat) (h : ∀ b, w < b → b ≤ 24 → ¬ z_sim C mi b 1 = 2) : ∀ d, w + 1 + d ≤ 24 → z_lv C mi (w + 1 + d) = z_lv C mi (w + 1) := by
  intro d
  induction d with
  | zero => intro _; rfl
  | succ d ih =>
    intro hd
    have := ih (by omega)
    rw [show w + 1 + (d + 1) = (w + 1 + d) + 1 by omega, z_lv, if_neg (fun hh => h (w + 1 + d) (by omega) (by omega) hh.1), this]
    rfl
theorem z_lv_le (C : Nat → Nat → Nat) (mi : Int32) : ∀ b, z_lv C mi b ≤ b := by
  intro b
  induction b with
  | zero => exact Nat.le_refl _
  | succ b ih => simp only [z_lv]; split <;> omega
theorem q_levelC_L (S : tg_S) (A : Nat → Nat → Nat) (hA : z_aok A) (h : z_cs S 35 (z_C A) (nI 0) 24) (w : Nat) (hw : w < 24) (h1 : ∀ b, b ≤ w → z_s A b 1 = 2) (h2 : ∀ b, w < b → b ≤ 24 → b < 24 → ¬ z_s A b 1 = 2) : ∀ n b, 24 < n + b → b ≤ w + 1 → q_tr (L_X7_level_28 n S (nI w) (nI (z_lv (z_C A) (nI 0) b)) (nI b)) (fun r => r = (S, nI (z_lv (z_C A) (nI 0) (w + 1)))) := by
  intro n
  induction n with
  | zero => intro b h; omega
  | succ n ih =>
    intro b h3 hb
    show q_tr (f_X7_level_28 (L_X7_level_28 n) S (nI w) (nI (z_lv (z_C A) (nI 0) b)) (nI b)) _
    unfold f_X7_level_28 f_X7_level_66
    have ll := z_lv_le (z_C A) (nI 0) b
    simp (disch := omega) only [q_lit, q_le, q_lt, q_nm, q_add]
    refine q_if (fun h4 => ?_) (fun h4 => ?_)
    · have : b = w + 1 := by omega
      subst this
      exact q_ret rfl
    · refine q_if (fun h5 => ?_) (fun h5 => ?_)
      · have : b = w + 1 := by omega
        subst this
        exact q_ret rfl
      · obtain ⟨g1, g2, g3, g4⟩ := h.2.2.1 b (by omega)
        have g3 : S 38 b = _ := g3
        have g4 : S 38 (24 + b) = _ := g4
        have hC := z_C_ok A hA.1 hA.2.1
        have u1 := z_su_le (mi := nI 0) (b := b) (lo := 0) (s := z_s A b) hC 8 (by omega)
        have u2 := z_su_le (mi := nI 0) (b := b) (lo := 8) (s := z_s A b) hC 8 (by omega)
        have hb1 := h1 b (by omega)
        have e0 : ∀ lo, z_sum (z_C A) (nI 0) b lo = z_su (z_C A) (nI 0) b (z_s A b) lo 8 := fun lo => by unfold z_sum; rw [if_pos hb1]
        have go := ih (b + 1) (by omega) (by omega)
        clear ih
        rw [z_lv] at go
        simp (disch := omega) only [q_rd, g3, g4, e0, q_eq]
        refine q_if (fun hc => ?_) (fun hc => ?_)
        · rw [if_pos ⟨hb1, hc⟩] at go
          exact go
        · rw [if_neg (fun hh => hc hh.2)] at go
          exact go
theorem q_levelC (S : tg_S) (A : Nat → Nat → Nat) (hA : z_aok A) (h : z_cs S 35 (z_C A) (nI 0) 24) : f_X7_level S = some (S, nI (z_lv (z_C A) (nI 0) 24)) := by
  have hok := z_sim_ok (mi := nI 0) (z_C_ok A hA.1 hA.2.1) 24
  obtain ⟨h1, h2, -, -⟩ := h.1
  unfold f_X7_level f_X7_level_23
  simp only [q_lit]
  rw [h1, h2]
  by_cases hw : z_s A 24 1 = 2
  · rw [show z_wi (z_sim (z_C A) (nI 0) 24 1) = -nI 1 by unfold z_wi; rw [if_pos hw], if_pos rfl]
    have down : ∀ d b, b + d = 24 → z_s A b 1 = 2 := by
      intro d
      induction d with
      | zero => intro b hb; rw [show b = 24 by omega]; exact hw
      | succ d ihd =>
        intro b hb
        have h1 := ihd (b + 1) (by omega)
        by_cases hq : z_s A b 1 = 2
        · exact hq
        · have : z_s A (b + 1) 1 = z_s A b 1 := by simp [z_s, z_sim, z_stp]; intro hh; exact absurd hh hq
          rw [this] at h1
          exact h1
    exact q_eqS (q_levelC_L S A hA h 23 (by omega) (fun b hb => down (24 - b) b (by omega)) (fun b _ _ _ => by omega) tg_F 0 (by decide) (by omega))
  · obtain ⟨w1, w2, w3⟩ := z_win (z_C A) (nI 0) 24 hw
    have ewi : ¬ z_wi (z_sim (z_C A) (nI 0) 24 1) = -nI 1 := by
      unfold z_wi
      rw [if_neg hw, q_eqm (by omega)]
      exact id
    rw [if_neg ewi, show z_wb (z_sim (z_C A) (nI 0) 24 1) (z_sim (z_C A) (nI 0) 24 2) = nI (z_sim (z_C A) (nI 0) 24 2) by unfold z_wb; rw [if_neg hw]]
    have e := z_lv_stop (z_C A) (nI 0) (z_sim (z_C A) (nI 0) 24 2) w3 (24 - (z_sim (z_C A) (nI 0) 24 2 + 1)) (by omega)
    rw [show z_sim (z_C A) (nI 0) 24 2 + 1 + (24 - (z_sim (z_C A) (nI 0) 24 2 + 1)) = 24 by omega] at e
    rw [e]
    exact q_eqS (q_levelC_L S A hA h _ w1 w2 (fun b hb hb2 _ => w3 b hb hb2) tg_F 0 (by decide) (by omega))
theorem q_levelR (T : tg_S) (A : Nat → Nat → Nat) (hA : z_aok A) (h : z_ri T A) : q_tr (f_X8_levelOf T) (fun r => r.2 = nI (z_lv (z_C A) (nI 0) 24) ∧ z_ro A T r.1) := by
  unfold f_X8_levelOf
  refine q_bv (q_runsToldA T A hA h) (fun T2 h2 => ?_)
  rw [h2.2.1.2.2.2.2]
  exact q_ret ⟨rfl, h2.1⟩
theorem e_level (S T : tg_S) (A : Nat → Nat → Nat) (hI : z_I S T A) : z_eq (f_X7_level S) (f_X8_level T) := by
  rw [q_levelC S A hI.1 hI.2.1.2.2.2.1]
  unfold f_X8_level
  exact z_eq_q _ hI (q_retc _) (q_bd (q_levelR T A hI.1 hI.2.2.1) (fun T2 r h => q_ret ⟨h.1, h.2.1⟩))
