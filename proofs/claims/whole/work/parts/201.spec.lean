-- ===== what a contest comes to, over Nat: C is the contest (0 there, 1 sort, 2 weight, 3 wind, 4 is the last, 5 calls, 6 7 8 events, 10: 0 how many events, 1 mud), mi the events that are not =====
abbrev z_bit (x : Int32) (e : Nat) : Prop := ((x >>> (nI e &&& nI 31)) &&& nI 1) = nI 0
def z_mu (C : Nat → Nat → Nat) (mi : Int32) (b : Nat) : Nat → Nat → Nat
  | 0, m => m
  | e + 1, m => if C 7 e = b ∧ z_bit mi e ∧ C 6 e = 1 then (if z_mu C mi b e m + 1 < 9 then z_mu C mi b e m + 1 else 9) else z_mu C mi b e m
def z_sx (C : Nat → Nat → Nat) (mi : Int32) (b : Nat) : Nat → Int32
  | 0 => nI 0
  | e + 1 => if C 7 e = b ∧ z_bit mi e ∧ C 6 e = 0 then z_sx C mi b e ||| (nI 1 <<< (nI (C 8 e) &&& nI 31)) else z_sx C mi b e
def z_dg (C : Nat → Nat → Nat) (mi : Int32) (b : Nat) : Nat → Nat
  | 0 => 0
  | e + 1 => if C 7 e = b ∧ z_bit mi e ∧ C 6 e = 2 then 1 else z_dg C mi b e
def z_m (C : Nat → Nat → Nat) (mi : Int32) : Nat → Nat
  | 0 => C 10 1
  | b + 1 => z_mu C mi b (C 10 0) (z_m C mi b)
abbrev z_la (C : Nat → Nat → Nat) (k : Nat) : Prop := C 1 k = 2 ∧ C 4 k = 1
def z_co (C : Nat → Nat → Nat) (k : Nat) : Nat := if C 1 k = 0 then 1 else 2
def z_fo (C : Nat → Nat → Nat) (k call br : Nat) : Nat :=
  if call = 0 then (if z_la C k then C 2 k else 0)
  else if br = 0 then 0
  else (if call = 2 ∧ z_co C k ≤ br then 2 * C 2 k else C 2 k) + (if z_la C k then 2 else 0)
def z_br (C : Nat → Nat → Nat) (k call br : Nat) : Nat :=
  if call = 0 then (if z_la C k then br else if br + (if C 1 k = 1 then 2 else 1) < C 3 k then br + (if C 1 k = 1 then 2 else 1) else C 3 k)
  else if br = 0 then 0
  else br - (if call = 2 ∧ z_co C k ≤ br then z_co C k else 1)
def z_ca (C : Nat → Nat → Nat) (mi : Int32) (b k : Nat) : Nat := if z_dg C mi b (C 10 0) = 0 then C 5 (24 * (k / 8) + b) else 0
/-- by how much k pulls on the beat, with breath br ahead; its breath behind -/
def z_pu (C : Nat → Nat → Nat) (mi : Int32) (b k br : Nat) : Nat := (if z_bit (z_sx C mi b (C 10 0)) k then z_fo C k (z_ca C mi b k) br else 0) - (if C 1 k = 2 then 0 else z_m C mi (b + 1))
def z_bn (C : Nat → Nat → Nat) (mi : Int32) (b k br : Nat) : Nat := if z_bit (z_sx C mi b (C 10 0)) k then z_br C k (z_ca C mi b k) br else br
def z_su (C : Nat → Nat → Nat) (mi : Int32) (b : Nat) (s : Nat → Nat) (lo : Nat) : Nat → Nat
  | 0 => 0
  | i + 1 => z_su C mi b s lo i + (if C 0 (lo + i) = 1 then z_pu C mi b (lo + i) (s (3 + (lo + i))) else 0)
def z_pl (p up dn : Nat) : Nat := if dn ≤ up then p + (if 3 < (up - dn) / 3 then 3 else (up - dn) / 3) else p - (if 3 < (dn - up) / 3 then 3 else (dn - up) / 3)
def z_won (p : Nat) : Nat := if p < 22 then (if 2 < p then 2 else 1) else 0
/-- the state: 0 the place, 1 who has won (2: nobody), 2 the beat, 3 + k breath -/
def z_stp (C : Nat → Nat → Nat) (mi : Int32) (b : Nat) (s : Nat → Nat) : Nat → Nat := fun i =>
  if s 1 = 2 then (if i = 0 then z_pl (s 0) (z_su C mi b s 0 8) (z_su C mi b s 8 8) else if i = 1 then z_won (z_pl (s 0) (z_su C mi b s 0 8) (z_su C mi b s 8 8)) else if i = 2 then b else z_bn C mi b (i - 3) (s i)) else s i
def z_sim (C : Nat → Nat → Nat) (mi : Int32) : Nat → Nat → Nat
  | 0 => fun i => if i = 0 then 12 else if i = 1 then 2 else if i = 2 then 0 else C 3 (i - 3)
  | b + 1 => z_stp C mi b (z_sim C mi b)
def z_pk (C : Nat → Nat → Nat) (mi : Int32) (b k : Nat) : Nat := if z_sim C mi b 1 = 2 then z_pu C mi b k (z_sim C mi b (3 + k)) else 0
def z_sum (C : Nat → Nat → Nat) (mi : Int32) (b lo : Nat) : Nat := if z_sim C mi b 1 = 2 then z_su C mi b (z_sim C mi b) lo 8 else 0
/-- the numbers of a contest are as told -/
def z_ok (C : Nat → Nat → Nat) : Prop := (∀ k, k < 16 → C 0 k ≤ 1 ∧ (C 0 k = 1 → C 1 k ≤ 2 ∧ C 2 k ≤ 9 ∧ C 3 k ≤ 9)) ∧ (∀ j, j < 48 → C 5 j ≤ 2) ∧ C 10 0 ≤ 8 ∧ (∀ e, e < C 10 0 → C 6 e ≤ 2 ∧ C 7 e < 24 ∧ C 8 e < 16) ∧ C 10 1 ≤ 9
theorem z_mu_le {C : Nat → Nat → Nat} {mi : Int32} {b m : Nat} (h : m ≤ 9) : ∀ e, z_mu C mi b e m ≤ 9 := by
  intro e
  induction e with
  | zero => exact h
  | succ e ih => unfold z_mu; split <;> first | (split <;> omega) | exact ih
theorem z_m_le {C : Nat → Nat → Nat} {mi : Int32} (h : z_ok C) : ∀ b, z_m C mi b ≤ 9 := by
  intro b
  induction b with
  | zero => exact h.2.2.2.2
  | succ b ih => exact z_mu_le ih _
theorem z_dg_le {C : Nat → Nat → Nat} {mi : Int32} {b : Nat} : ∀ e, z_dg C mi b e ≤ 1 := by
  intro e
  induction e with
  | zero => exact Nat.zero_le _
  | succ e ih => unfold z_dg; split <;> first | exact Nat.le_refl _ | exact ih
theorem z_ca_le {C : Nat → Nat → Nat} {mi : Int32} {b k : Nat} (h : z_ok C) (hb : b < 24) (hk : k < 16) : z_ca C mi b k ≤ 2 := by
  unfold z_ca
  split
  · exact h.2.1 _ (by omega)
  · omega
theorem z_br_le {C : Nat → Nat → Nat} {k call br : Nat} (hw : C 3 k ≤ 9) (h : br ≤ 9) : z_br C k call br ≤ 9 := by
  unfold z_br
  grind
theorem z_fo_le {C : Nat → Nat → Nat} {k call br : Nat} (hw : C 2 k ≤ 9) : z_fo C k call br ≤ 20 := by
  unfold z_fo
  grind
theorem z_bn_le {C : Nat → Nat → Nat} {mi : Int32} {b k br : Nat} (hw : C 3 k ≤ 9) (h : br ≤ 9) : z_bn C mi b k br ≤ 9 := by
  unfold z_bn
  split
  · exact z_br_le hw h
  · exact h
theorem z_pu_le {C : Nat → Nat → Nat} {mi : Int32} {b k br : Nat} (hw : C 2 k ≤ 9) : z_pu C mi b k br ≤ 20 := by
  unfold z_pu
  have := z_fo_le (k := k) (call := z_ca C mi b k) (br := br) hw
  split <;> omega
theorem z_su_le {C : Nat → Nat → Nat} {mi : Int32} {b lo : Nat} {s : Nat → Nat} (h : z_ok C) : ∀ i, lo + i ≤ 16 → z_su C mi b s lo i ≤ 20 * i := by
  intro i
  induction i with
  | zero => intro _; exact Nat.le_refl _
  | succ i ih =>
    intro hi
    unfold z_su
    have h1 := ih (by omega)
    split
    · rename_i h0
      have := z_pu_le (C := C) (mi := mi) (b := b) (k := lo + i) (br := s (3 + (lo + i))) ((h.1 (lo + i) (by omega)).2 h0).2.1
      omega
    · omega
theorem z_pl_le {p up dn : Nat} (h : 2 < p) (h2 : p < 22) : z_pl p up dn ≤ 24 := by
  unfold z_pl
  grind
/-- bounds of the state -/
theorem z_sim_ok {C : Nat → Nat → Nat} {mi : Int32} (h : z_ok C) : ∀ b, z_sim C mi b 0 ≤ 24 ∧ (z_sim C mi b 1 = 2 → 2 < z_sim C mi b 0 ∧ z_sim C mi b 0 < 22) ∧ z_sim C mi b 1 ≤ 2 ∧ (z_sim C mi b 2 < b ∨ z_sim C mi b 2 = 0) ∧ ∀ k, k < 16 → C 0 k = 1 → z_sim C mi b (3 + k) ≤ 9 := by
  intro b
  induction b with
  | zero =>
    refine ⟨by simp [z_sim], by simp [z_sim], by simp [z_sim], by simp [z_sim], fun k hk h0 => ?_⟩
    have := ((h.1 k hk).2 h0).2.2
    simp [z_sim, show 3 + k ≠ 0 by omega, show 3 + k ≠ 1 by omega, show 3 + k ≠ 2 by omega]
    exact this
  | succ b ih =>
    obtain ⟨h1, h2, h3, h4, h5⟩ := ih
    by_cases hw : z_sim C mi b 1 = 2
    · obtain ⟨h6, h7⟩ := h2 hw
      have hp := z_pl_le (up := z_su C mi b (z_sim C mi b) 0 8) (dn := z_su C mi b (z_sim C mi b) 8 8) h6 h7
      refine ⟨by simp [z_sim, z_stp, hw]; exact hp, ?_, ?_, by simp [z_sim, z_stp, hw], fun k hk h0 => ?_⟩
      · simp only [z_sim, z_stp, hw, z_won]
        grind
      · simp only [z_sim, z_stp, hw, z_won]
        grind
      · simp [z_sim, z_stp, hw, show 3 + k ≠ 0 by omega, show 3 + k ≠ 1 by omega, show 3 + k ≠ 2 by omega]
        exact z_bn_le ((h.1 k hk).2 h0).2.2 (h5 k hk h0)
    · have e : ∀ i, z_sim C mi (b + 1) i = z_sim C mi b i := fun i => by simp [z_sim, z_stp, hw]
      simp only [e]
      exact ⟨h1, h2, h3, by omega, h5⟩
/-- the rope's way, over Int32 -/
theorem z_way : ∀ d, d < 200 → tg_max (-3) (tg_min 3 (nI d / 3)) = nI (if 3 < d / 3 then 3 else d / 3) ∧ tg_max (-3) (tg_min 3 (-(nI d) / 3)) = -(nI (if 3 < d / 3 then 3 else d / 3)) := by decide +kernel
theorem z_place {p up dn : Nat} (hu : up < 200) (hd : dn < 200) (hp : 2 < p) : nI p + tg_max (-3) (tg_min 3 ((nI up - nI dn) / 3)) = nI (z_pl p up dn) := by
  unfold z_pl
  split
  · rename_i h
    rw [q_sub h, (z_way (up - dn) (by omega)).1, q_add]
  · rename_i h
    have e : nI up - nI dn = -(nI (dn - up)) := by
      have h1 : nI dn = nI up + nI (dn - up) := by rw [q_add]; congr 1; omega
      rw [h1]
      grind
    rw [e, (z_way (dn - up) (by omega)).2]
    have h2 : (if 3 < (dn - up) / 3 then 3 else (dn - up) / 3) ≤ p := by grind
    rw [← q_sub h2]
    grind
