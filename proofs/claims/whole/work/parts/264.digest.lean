theorem q_db : ∀ i, i < 4 → tg_db (nI i) = nI (if i = 0 then 0 else if i = 1 then 5 else if i = 2 then 12 else 23) := by decide
theorem q_rs {a : Type} {i : Nat} (h : i < 4) (K : Int32 → Option a) : tg_rs (nI i) K = K (nI (if i = 0 then 0 else if i = 1 then 5 else if i = 2 then 12 else 23)) := by
  unfold tg_rs
  rw [q_ib h (by omega), q_db i h]
  rfl
/-- two beats' worth of a puller -/
theorem d_beat {S T : tg_S} {A : Nat → Nat → Nat} (hI : z_I S T A) (y : Int64) {b k : Nat} (hb : b < 24) (hk : k < 16) (h0 : z_C A 0 k = 1) {c : Type} {k1 : tg_S → Int64 → Option (tg_S × c)} {k2 : tg_S → Int64 → Option (tg_S × c)} (hk2 : ∀ S T r, z_I S T A → z_rdk A T → z_ej A (k1 S r) (k2 T r)) : z_ej A (tg_bd (f_X7_at S (nI b) (nI k) (nI 0)) fun S14 r15 => tg_nm ((31 * y) + (r15.toInt64) : Int64) fun y16 => tg_bd (f_X7_at S14 (nI b) (nI k) (nI 1)) fun S17 r18 => tg_nm ((31 * y16) + (r18.toInt64) : Int64) fun y19 => k1 S17 y19) (tg_bd (f_X8_beatDigest T y (nI b) (nI k)) k2) := by
  unfold f_X8_beatDigest
  simp only [q_lit]
  obtain ⟨S1, T1, r1, a1, a2, a3, a4⟩ := d_at hI hb hk h0 (show 0 < 2 by omega)
  rw [a1, q_bdS, a2, q_bdS, q_nm, q_nm]
  obtain ⟨S2, T2, r2, b1, b2, b3, b4⟩ := d_at a3 hb hk h0 (show 1 < 2 by omega)
  rw [b1, q_bdS, b2, q_bdS, q_bdS, q_nm]
  exact hk2 _ _ _ b3 b4
theorem d_pullerL {A : Nat → Nat → Nat} {k : Nat} (hk : k < 16) (h0 : z_C A 0 k = 1) : ∀ (n i : Nat) (S T : tg_S) (y : Int64), 3 < n + i → i ≤ 3 → z_I S T A → z_rdk A T → z_ej A (L_X7_withPuller_6 n S (nI k) y (nI i)) (L_X8_pullerDigest_6 n T (nI k) y (nI i)) := by
  intro n
  induction n with
  | zero => intro i S T y h; omega
  | succ n ih =>
    intro i S T y hn hi hI hd
    show z_ej A (f_X7_withPuller_6 (L_X7_withPuller_6 n) S (nI k) y (nI i)) (f_X8_pullerDigest_6 (L_X8_pullerDigest_6 n) T (nI k) y (nI i))
    unfold f_X7_withPuller_6 f_X8_pullerDigest_6
    simp (disch := omega) only [q_lit, q_le]
    by_cases hh : 3 ≤ i
    · rw [q_ifT hh, q_ifT hh]
      have st : ∀ (n j : Nat) (S : tg_S) (y : Int64), j < 4 → L_X7_withPuller_48 (n + 1) S (nI k) y (nI 4) (nI j) = (tg_bd (f_X7_at S (nI (if j = 0 then 0 else if j = 1 then 5 else if j = 2 then 12 else 23)) (nI k) (nI 0)) fun S14 r15 => tg_nm ((31 * y) + (r15.toInt64) : Int64) fun y16 => tg_bd (f_X7_at S14 (nI (if j = 0 then 0 else if j = 1 then 5 else if j = 2 then 12 else 23)) (nI k) (nI 1)) fun S17 r18 => tg_nm ((31 * y16) + (r18.toInt64) : Int64) fun y19 => L_X7_withPuller_48 n S17 (nI k) y19 (nI 4) (nI (j + 1))) := by
        intro n j S y hj
        show f_X7_withPuller_48 (L_X7_withPuller_48 n) S (nI k) y (nI 4) (nI j) = _
        unfold f_X7_withPuller_48
        simp (disch := omega) only [q_lit, q_le, q_rs, q_add]
        rw [q_ifF (by omega)]
        simp only [q_nm]
      rw [show tg_F = 995 + 1 + 1 + 1 + 1 + 1 by decide]
      generalize 995 = n
      rw [st _ 0 _ _ (by omega)]
      refine d_beat hI y (by decide) hk h0 (fun S T r hI hd => ?_)
      rw [st _ 1 _ _ (by omega)]
      refine d_beat hI r (by decide) hk h0 (fun S T r hI hd => ?_)
      rw [st _ 2 _ _ (by omega)]
      refine d_beat hI r (by decide) hk h0 (fun S T r hI hd => ?_)
      rw [st _ 3 _ _ (by omega)]
      refine d_beat hI r (by decide) hk h0 (fun S T r hI hd => ?_)
      show z_ej A (f_X7_withPuller_48 (L_X7_withPuller_48 n) S (nI k) r (nI 4) (nI 4)) _
      unfold f_X7_withPuller_48
      simp only [q_lit]
      rw [q_ifT (by decide)]
      refine z_ej_bd (d_done hI hk h0) (fun S T r hI hd => z_ej_nm ?_)
      refine z_ej_bd (d_was0 hI hk h0) (fun S T r hI hd => z_ej_nm ?_)
      refine z_ej_bd (d_was1 hI hk h0) (fun S T r hI hd => z_ej_nm ?_)
      refine z_ej_bd (d_ask hI hk h0) (fun S T r hI hd => z_ej_ret _ hI hd)
    · rw [q_ifF hh, q_ifF hh]
      refine z_ej_bd (d_puller hI hd hk h0 (show i < 3 by omega)) (fun S T r hI hd => z_ej_nm ?_)
      rw [q_nm, q_nm, q_add]
      exact ih (i + 1) S T _ (by omega) (by omega) hI hd
theorem d_withPuller {S T : tg_S} {A : Nat → Nat → Nat} (hI : z_I S T A) (hd : z_rdk A T) (y : Int64) {k : Nat} (hk : k < 16) (h0 : z_C A 0 k = 1) : z_ej A (f_X7_withPuller S y (nI k)) (f_X8_pullerDigest T y (nI k)) := by
  unfold f_X7_withPuller f_X8_pullerDigest
  simp only [q_lit]
  exact d_pullerL hk h0 tg_F 0 S T y (by unfold tg_F; omega) (by omega) hI hd
theorem d_teamL {A : Nat → Nat → Nat} {m : Nat} (hm : m < 2) : ∀ (n i : Nat) (S T : tg_S) (y : Int64), 3 < n + i → i ≤ 3 → z_I S T A → z_ej A (L_X7_withTeam_40 n S (nI m) y (nI i)) (L_X8_teamDigest_36 n T (nI m) y (nI i)) := by
  intro n
  induction n with
  | zero => intro i S T y h; omega
  | succ n ih =>
    intro i S T y hn hi hI
    show z_ej A (f_X7_withTeam_40 (L_X7_withTeam_40 n) S (nI m) y (nI i)) (f_X8_teamDigest_36 (L_X8_teamDigest_36 n) T (nI m) y (nI i))
    unfold f_X7_withTeam_40 f_X8_teamDigest_36
    simp (disch := omega) only [q_lit, q_le]
    by_cases hh : 3 ≤ i
    · rw [q_ifT hh, q_ifT hh]
      refine z_ej_bd (d_out hI hm (show 0 < 2 by omega)) (fun S T r hI hd => z_ej_nm ?_)
      refine z_ej_bd (d_out hI hm (show 1 < 2 by omega)) (fun S T r hI hd => z_ej_nm ?_)
      refine z_ej_bd (d_chance hI (show 5 ≤ 16 by omega) hm (show 0 < 2 by omega)) (fun S T r hI hd => z_ej_nm ?_)
      refine z_ej_bd (d_chance hI (show 5 ≤ 16 by omega) hm (show 1 < 2 by omega)) (fun S T r hI hd => z_ej_ret _ hI hd)
    · rw [q_ifF hh, q_ifF hh]
      refine z_ej_bd (d_swap hI hm (show i < 3 by omega)) (fun S T r hI hd => z_ej_nm ?_)
      rw [q_nm, q_nm, q_add]
      exact ih (i + 1) S T _ (by omega) (by omega) hI
theorem d_withTeam {S T : tg_S} {A : Nat → Nat → Nat} (hI : z_I S T A) (y : Int64) {m : Nat} (hm : m < 2) : z_ej A (f_X7_withTeam S y (nI m)) (f_X8_teamDigest T y (nI m)) := by
  unfold f_X7_withTeam f_X8_teamDigest
  simp only [q_lit]
  refine z_ej_bd (d_better hI hm (show 4 < 24 by omega) (show 0 < 2 by omega)) (fun S T r hI hd => z_ej_nm ?_)
  refine z_ej_bd (d_better hI hm (show 4 < 24 by omega) (show 1 < 2 by omega)) (fun S T r hI hd => z_ej_nm ?_)
  exact d_teamL hm tg_F 0 S T _ (by unfold tg_F; omega) (by omega) hI
theorem d_end {S T : tg_S} {A : Nat → Nat → Nat} (hI : z_I S T A) (y : Int64) (n : Nat) (rec : tg_S → Int64 → Int32 → Option (tg_S × Int64)) : z_ej A (tg_bd (f_X7_withTeam S y (nI 0)) fun S1 r1 => tg_bd (f_X7_withTeam S1 r1 (nI 1)) fun S2 r2 => L_X7_digest_109 (n + 1) S2 r2 (nI 2)) (f_X8_digest_131 rec T y (nI 16)) := by
  unfold f_X8_digest_131
  simp only [q_lit]
  rw [q_ifT (by decide)]
  refine z_ej_bd (d_withTeam hI y (show 0 < 2 by omega)) (fun S T r hI hd => ?_)
  refine z_ej_bd (d_withTeam hI r (show 1 < 2 by omega)) (fun S T r hI hd => ?_)
  show z_ej A (f_X7_digest_109 (L_X7_digest_109 n) S r (nI 2)) _
  unfold f_X7_digest_109
  simp only [q_lit]
  rw [q_ifT (by decide)]
  refine z_ej_bd (d_won hI (show 0 < 2 by omega)) (fun S T r hI hd => z_ej_nm ?_)
  refine z_ej_bd (d_won hI (show 1 < 2 by omega)) (fun S T r hI hd => z_ej_nm ?_)
  refine z_ej_bd (d_furthest hI (show 0 < 2 by omega)) (fun S T r hI hd => z_ej_nm ?_)
  refine z_ej_bd (d_furthest hI (show 1 < 2 by omega)) (fun S T r hI hd => z_ej_nm ?_)
  refine z_ej_bd (d_spent hI) (fun S T r hI hd => z_ej_nm ?_)
  refine z_ej_bd (d_best hI) (fun S T r hI hd => z_ej_nm ?_)
  refine z_ej_bd (d_level hI) (fun S T r hI hd => z_ej_nm ?_)
  simp only [q_nm]
  refine d_spare hI (fun S T r q hI hd => ?_)
  refine z_ej_bd (d_never hI) (fun S T r hI hd => ?_)
  refine z_ej_bd (d_years hI (nI 7) (show 18 < 25 by omega) (show 0 < 2 by omega)) (fun S T r hI hd => ?_)
  refine z_ej_bd (d_years hI (nI 7) (show 18 < 25 by omega) (show 1 < 2 by omega)) (fun S T r hI hd => z_ej_ret _ hI hd)
theorem d_109 (n : Nat) (S : tg_S) (y : Int64) : L_X7_digest_109 (n + 1 + 1 + 1) S y (nI 0) = tg_bd (f_X7_withTeam S y (nI 0)) fun S1 r1 => tg_bd (f_X7_withTeam S1 r1 (nI 1)) fun S2 r2 => L_X7_digest_109 (n + 1) S2 r2 (nI 2) := by
  have st : ∀ (n i : Nat) (S : tg_S) (y : Int64), i < 2 → L_X7_digest_109 (n + 1) S y (nI i) = tg_bd (f_X7_withTeam S y (nI i)) fun S1 r1 => L_X7_digest_109 n S1 r1 (nI (i + 1)) := by
    intro n i S y hi
    show f_X7_digest_109 (L_X7_digest_109 n) S y (nI i) = _
    unfold f_X7_digest_109
    simp (disch := omega) only [q_lit, q_le, q_add]
    rw [q_ifF (by omega)]
    simp only [q_nm]
  rw [st _ 0 _ _ (by omega)]
  simp only [st _ 1 _ _ (show 1 < 2 by omega)]
theorem d_80 {A : Nat → Nat → Nat} : ∀ (n i : Nat) (S T : tg_S) (y : Int64), 16 < n + i → i ≤ 16 → z_I S T A → z_rdk A T → z_ej A (L_X7_digest_80 n S y (nI i)) (L_X8_digest_131 n T y (nI i)) := by
  intro n
  induction n with
  | zero => intro i S T y h; omega
  | succ n ih =>
    intro i S T y hn hi hI hd
    show z_ej A (f_X7_digest_80 (L_X7_digest_80 n) S y (nI i)) (f_X8_digest_131 (L_X8_digest_131 n) T y (nI i))
    by_cases hh : 16 ≤ i
    · have : i = 16 := by omega
      subst this
      unfold f_X7_digest_80
      simp only [q_lit]
      rw [q_ifT (by decide), show tg_F = 997 + 1 + 1 + 1 by decide]
      generalize 997 = n2
      rw [d_109 n2 S y]
      exact d_end hI y n2 _
    · unfold f_X7_digest_80 f_X8_digest_131 f_X7_digest_101 f_X8_digest_152
      simp (disch := omega) only [q_lit, q_le]
      rw [q_ifF hh, q_ifF hh, q_isPullerC S A hI.2.1.2.2.1 (show i < 16 by omega), q_bdS, q_thereOne T A hI.1 hd (show i < 16 by omega), q_bdS]
      have hle := z_C0le A i
      by_cases h0 : z_C A 0 i = 1
      · rw [h0, q_ifF (by decide), q_ifF (by decide)]
        refine z_ej_bd (d_withPuller hI hd y (by omega) h0) (fun S T r hI hd => ?_)
        rw [q_nm, q_nm, q_add]
        exact ih (i + 1) S T r (by omega) (by omega) hI hd
      · rw [show z_C A 0 i = 0 by omega, q_ifT rfl, q_ifT rfl, q_nm, q_nm, q_add]
        exact ih (i + 1) S T y (by omega) (by omega) hI hd
theorem d_59 {A : Nat → Nat → Nat} : ∀ (n i : Nat) (S T : tg_S) (y : Int64), 24 < n + i → i ≤ 24 → z_I S T A → (i = 24 → z_rdk A T) → z_ej A (L_X7_digest_59 n S y (nI i)) (L_X8_digest_59 n T y (nI i)) := by
  intro n
  induction n with
  | zero => intro i S T y h; omega
  | succ n ih =>
    intro i S T y hn hi hI hd
    show z_ej A (f_X7_digest_59 (L_X7_digest_59 n) S y (nI i)) (f_X8_digest_59 (L_X8_digest_59 n) T y (nI i))
    unfold f_X7_digest_59 f_X8_digest_59
    simp (disch := omega) only [q_lit, q_le]
    by_cases hh : 24 ≤ i
    · rw [q_ifT hh, q_ifT hh]
      exact d_80 tg_F 0 S T y (by unfold tg_F; omega) (by omega) hI (hd (by omega))
    · rw [q_ifF hh, q_ifF hh]
      have hb : i < 24 := by omega
      have L : ∀ (n2 j : Nat) (S T : tg_S) (y : Int64), 4 < n2 + j → j ≤ 4 → z_I S T A → z_rdk A T → z_ej A (tg_bd (L_X7_withBeat_38 n2 S (nI i) y (nI j)) fun S2 r3 => tg_nm (nI i + nI 1) fun y4 => L_X7_digest_59 n S2 r3 y4) (L_X8_digest_96 (L_X8_digest_59 n) n2 T y (nI i) (nI j)) := by
        intro n2
        induction n2 with
        | zero => intro j S T y h; omega
        | succ n2 ih2 =>
          intro j S T y hn2 hj hI hd
          show z_ej A (tg_bd (f_X7_withBeat_38 (L_X7_withBeat_38 n2) S (nI i) y (nI j)) fun S2 r3 => tg_nm (nI i + nI 1) fun y4 => L_X7_digest_59 n S2 r3 y4) (f_X8_digest_96 (L_X8_digest_59 n) (L_X8_digest_96 (L_X8_digest_59 n) n2) T y (nI i) (nI j))
          unfold f_X7_withBeat_38 f_X8_digest_96
          simp (disch := omega) only [q_lit, q_le]
          by_cases hj4 : 4 ≤ j
          · rw [q_ifT hj4, q_ifT hj4, q_bdS, q_nm, q_nm, q_add]
            exact ih (i + 1) S T y (by omega) (by omega) hI (fun _ => hd)
          · rw [q_ifF hj4, q_ifF hj4]
            obtain ⟨S1, T1, r1, a1, a2, a3, a4⟩ := d_rope hI hb (show j < 4 by omega)
            rw [a1, q_bdS, a2, q_bdS, q_nm, q_nm, q_nm, q_nm, q_add]
            exact ih2 (j + 1) S1 T1 _ (by omega) (by omega) a3 a4
      unfold f_X7_withBeat
      simp only [q_lit]
      obtain ⟨S1, T1, r1, a1, a2, a3, a4⟩ := d_call hI (show 0 < 2 by omega) hb
      rw [a1, q_bdS, a2, q_bdS, q_nm, q_nm]
      obtain ⟨S2, T2, r2, b1, b2, b3, b4⟩ := d_call a3 (show 1 < 2 by omega) hb
      rw [b1, q_bdS, b2, q_bdS, q_nm, q_nm]
      exact L tg_F 0 S2 T2 _ (by unfold tg_F; omega) (by omega) b3 b4
theorem d_33 : ∀ (n i : Nat) (S T : tg_S) (A : Nat → Nat → Nat) (y : Int64), 4 < n + i → i ≤ 4 → z_I S T A → z_eq (L_X7_digest_33 n S y (nI i)) (L_X8_digest_33 n T y (nI i)) := by
  intro n
  induction n with
  | zero => intro i S T A y h; omega
  | succ n ih =>
    intro i S T A y hn hi hI
    show z_eq (f_X7_digest_33 (L_X7_digest_33 n) S y (nI i)) (f_X8_digest_33 (L_X8_digest_33 n) T y (nI i))
    unfold f_X7_digest_33 f_X8_digest_33
    simp (disch := omega) only [q_lit, q_le]
    by_cases hh : 4 ≤ i
    · rw [q_ifT hh, q_ifT hh]
      exact z_ej_eq (d_59 tg_F 0 S T y (by unfold tg_F; omega) (by omega) hI (fun h => by omega))
    · rw [q_ifF hh, q_ifF hh]
      have ht : i < 4 := by omega
      have e : z_eq (f_X7_fault S (nI i)) (f_X8_faultOf T (nI i)) := by
        unfold f_X7_fault
        simp only [q_lit]
        rw [q_belowI S ht (by omega), q_bdS, q_ifF (by decide), q_firstFault S A hI.1.1 hI.2.1.1 i ht, q_bdS]
        exact z_eq_q (z_fi (z_fa A i)) hI (q_retc _) (q_mono (q_faultOf T A hI.1.1 hI.2.2.1.1 i ht) (fun r h => ⟨h.1, fun k j hk => h.2.2.2.2 k j (by omega), fun j hj => h.2.2.2.2 _ _ (by omega)⟩))
      refine z_eq_bd e (fun S T r A hI => ?_)
      rw [q_nm, q_nm, q_nm, q_nm, q_add]
      exact ih (i + 1) S T A _ (by omega) (by omega) hI
theorem d_6 : ∀ (n i : Nat) (S T : tg_S) (A : Nat → Nat → Nat) (y : Int64), 8 < n + i → i ≤ 8 → z_I S T A → z_eq (L_X7_digest_6 n S y (nI i)) (L_X8_digest_6 n T y (nI i)) := by
  intro n
  induction n with
  | zero => intro i S T A y h; omega
  | succ n ih =>
    intro i S T A y hn hi hI
    show z_eq (f_X7_digest_6 (L_X7_digest_6 n) S y (nI i)) (f_X8_digest_6 (L_X8_digest_6 n) T y (nI i))
    unfold f_X7_digest_6 f_X8_digest_6
    simp (disch := omega) only [q_lit, q_le]
    by_cases hh : 8 ≤ i
    · rw [q_ifT hh, q_ifT hh]
      exact d_33 tg_F 0 S T A y (by unfold tg_F; omega) (by omega) hI
    · rw [q_ifF hh, q_ifF hh]
      refine z_eq_bd (e_count S T A hI (nI i)) (fun S T r A hI => ?_)
      rw [q_nm, q_nm, q_nm, q_nm, q_add]
      exact ih (i + 1) S T A _ (by omega) (by omega) hI
theorem e_digest (S T : tg_S) (A : Nat → Nat → Nat) (hI : z_I S T A) : z_eq (f_X7_digest S) (f_X8_digest T) := by
  unfold f_X7_digest f_X8_digest
  simp only [q_lit]
  exact d_6 tg_F 0 S T A 17 (by unfold tg_F; omega) (by omega) hI
