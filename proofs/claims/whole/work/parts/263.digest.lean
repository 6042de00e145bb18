-- ===== digest =====
def z_ej {a : Type} (A : Nat → Nat → Nat) (o1 o2 : Option (tg_S × a)) : Prop := ∃ (S T : tg_S) (r : a), o1 = some (S, r) ∧ o2 = some (T, r) ∧ z_I S T A ∧ z_rdk A T
theorem z_ej_q {a : Type} {A : Nat → Nat → Nat} {o1 o2 : Option (tg_S × a)} {S T : tg_S} (v : a) (hI : z_I S T A) (h1 : q_tr o1 (fun r => r.2 = v ∧ z_cf S r.1)) (h2 : q_tr o2 (fun r => r.2 = v ∧ z_ro A T r.1)) : z_ej A o1 o2 := by
  obtain ⟨⟨S1, r⟩, e1, e2, e3⟩ := h1
  obtain ⟨⟨T1, r2⟩, g1, g2, g3⟩ := h2
  dsimp only at e2 e3 g2 g3
  rw [e2] at e1
  rw [g2] at g1
  exact ⟨S1, T1, v, e1, g1, z_I_rf (z_I_cf hI e3) g3.1, g3.2⟩
theorem z_ej_bd {a b : Type} {A : Nat → Nat → Nat} {o1 o2 : Option (tg_S × a)} {k1 k2 : tg_S → a → Option (tg_S × b)} (h : z_ej A o1 o2) (hk : ∀ S T r, z_I S T A → z_rdk A T → z_ej A (k1 S r) (k2 T r)) : z_ej A (tg_bd o1 k1) (tg_bd o2 k2) := by
  obtain ⟨S, T, r, h1, h2, h3, h4⟩ := h
  rw [h1, h2]
  exact hk S T r h3 h4
theorem z_ej_nm {a b : Type} {A : Nat → Nat → Nat} {e : a} {k1 k2 : a → Option (tg_S × b)} (h : z_ej A (k1 e) (k2 e)) : z_ej A (tg_nm e k1) (tg_nm e k2) := h
theorem z_ej_ret {a : Type} {A : Nat → Nat → Nat} {S T : tg_S} (v : a) (h : z_I S T A) (h2 : z_rdk A T) : z_ej A (some (S, v)) (some (T, v)) := ⟨S, T, v, rfl, rfl, h, h2⟩
theorem z_ej_eq {a : Type} {A : Nat → Nat → Nat} {o1 o2 : Option (tg_S × a)} (h : z_ej A o1 o2) : z_eq o1 o2 := by
  obtain ⟨S, T, r, h1, h2, h3, h4⟩ := h
  exact ⟨S, T, r, A, h1, h2, h3⟩
theorem d_call {S T : tg_S} {A : Nat → Nat → Nat} (hI : z_I S T A) {m b : Nat} (hm : m < 2) (hb : b < 24) : z_ej A (f_X7_call S (nI m) (nI b)) (f_X8_callOf T (nI m) (nI b)) := by
  rw [q_callC S A hI.2.1.2.2.1 hm hb]
  exact z_ej_q _ hI (q_retc _) (q_callOfR T A hI.1 hI.2.2.1 hm hb)
theorem d_rope {S T : tg_S} {A : Nat → Nat → Nat} (hI : z_I S T A) {b w : Nat} (hb : b < 24) (hw : w < 4) : z_ej A (f_X7_rope S (nI b) (nI w)) (f_X8_ropeOf T (nI b) (nI w)) := by
  rw [q_ropeC S A hI.2.1.2.2.2.1 hb hw]
  exact z_ej_q _ hI (q_retc _) (q_ropeR T A hI.1 hI.2.2.1 hb hw)
theorem d_puller {S T : tg_S} {A : Nat → Nat → Nat} (hI : z_I S T A) (hd : z_rdk A T) {k w : Nat} (hk : k < 16) (h0 : z_C A 0 k = 1) (hw : w < 3) : z_ej A (f_X7_puller S (nI k) (nI w)) (f_X8_pullerOf T (nI k) (nI w)) := by
  rw [q_pullerC S A hI.2.1.2.2.1 hk h0 hw, q_pullerOf T A hd hk h0 hw]
  exact z_ej_ret _ hI hd
theorem d_at {S T : tg_S} {A : Nat → Nat → Nat} (hI : z_I S T A) {b k w : Nat} (hb : b < 24) (hk : k < 16) (h0 : z_C A 0 k = 1) (hw : w < 2) : z_ej A (f_X7_at S (nI b) (nI k) (nI w)) (f_X8_atOf T (nI b) (nI k) (nI w)) := by
  rw [q_atC S A hI.2.1.2.2.1 hI.2.1.2.2.2.1 hb hk h0 hw]
  exact z_ej_q _ hI (q_retc _) (q_atR T A hI.1 hI.2.2.1 hb hk h0 hw)
theorem d_done {S T : tg_S} {A : Nat → Nat → Nat} (hI : z_I S T A) {k : Nat} (hk : k < 16) (h0 : z_C A 0 k = 1) : z_ej A (f_X7_done S (nI k)) (f_X8_doneOf T (nI k)) := by
  rw [q_doneC S A hI.1 hI.2.1.2.2.1 hI.2.1.2.2.2.1 hk h0]
  exact z_ej_q _ hI (q_retc _) (q_doneR T A hI.1 hI.2.2.1 hk h0)
theorem d_was0 {S T : tg_S} {A : Nat → Nat → Nat} (hI : z_I S T A) {k : Nat} (hk : k < 16) (h0 : z_C A 0 k = 1) : z_ej A (f_X7_was S (nI k) (nI 0)) (f_X8_weightsBy T (nI k)) := by
  unfold f_X7_was
  simp only [q_lit]
  rw [q_isPullerC S A hI.2.1.2.2.1 hk, q_bdS, h0, q_ifF (by decide), q_belowI S (show 0 < 2 by omega) (by omega), q_bdS, q_ifF (by decide), q_ifT trivial]
  exact z_ej_q (z_ws (z_wf A 2 k) 1 9) hI (q_bd (q_weightsC S A hI.1 hI.2.1 hk) (fun S2 r h => q_ret ⟨h.1, h.2.1⟩)) (q_mono (q_weightsR T A hI.1 hI.2.2.1 hk h0) (fun r h => ⟨h.1, h.2.1⟩))
theorem d_was1 {S T : tg_S} {A : Nat → Nat → Nat} (hI : z_I S T A) {k : Nat} (hk : k < 16) (h0 : z_C A 0 k = 1) : z_ej A (f_X7_was S (nI k) (nI 1)) (f_X8_sortsBy T (nI k)) := by
  unfold f_X7_was
  simp only [q_lit]
  rw [q_isPullerC S A hI.2.1.2.2.1 hk, q_bdS, h0, q_ifF (by decide), q_belowI S (show 1 < 2 by omega) (by omega), q_bdS, q_ifF (by decide), q_ifF (by decide)]
  exact z_ej_q (z_ws (z_wf A 1 k) 0 3) hI (q_bd (q_sortsC S A hI.1 hI.2.1 hk) (fun S2 r h => q_ret ⟨h.1, h.2⟩)) (q_sortsR T A hI.1 hI.2.2.1 hk h0)
theorem d_ask {S T : tg_S} {A : Nat → Nat → Nat} (hI : z_I S T A) {k : Nat} (hk : k < 16) (h0 : z_C A 0 k = 1) : z_ej A (f_X7_ask S (nI k)) (f_X8_askOf T (nI k)) := z_ej_q _ hI (q_askC S A hI.1 hI.2.1 hk h0) (q_askR T A hI.1 hI.2.2.1 hk h0)
theorem d_better {S T : tg_S} {A : Nat → Nat → Nat} (hI : z_I S T A) {m b w : Nat} (hm : m < 2) (hb : b < 24) (hw : w < 2) : z_ej A (f_X7_better S (nI m) (nI b) (nI w)) (f_X8_betterOf T (nI m) (nI b) (nI w)) := z_ej_q _ hI (q_betterC S A hI.1 hI.2.1 hm hb hw) (q_betterR T A hI.1 hI.2.2.1 hm hb hw)
theorem d_swap {S T : tg_S} {A : Nat → Nat → Nat} (hI : z_I S T A) {m w : Nat} (hm : m < 2) (hw : w < 3) : z_ej A (f_X7_swap S (nI m) (nI w)) (f_X8_swapOf T (nI m) (nI w)) := z_ej_q _ hI (q_swapC S A hI.1 hI.2.1 hm hw) (q_swapR T A hI.1 hI.2.2.1 hm hw)
theorem d_out {S T : tg_S} {A : Nat → Nat → Nat} (hI : z_I S T A) {m w : Nat} (hm : m < 2) (hw : w < 2) : z_ej A (f_X7_out S (nI m) (nI w)) (f_X8_outOf T (nI m) (nI w)) := z_ej_q _ hI (q_outC S A hI.1 hI.2.1 hm hw) (q_outR T A hI.1 hI.2.2.1 hm hw)
theorem d_chance {S T : tg_S} {A : Nat → Nat → Nat} (hI : z_I S T A) {p m w : Nat} (hp : p ≤ 16) (hm : m < 2) (hw : w < 2) : z_ej A (f_X7_chance S (nI p) (nI m) (nI w)) (f_X8_chanceOf T (nI p) (nI m) (nI w)) := by
  obtain ⟨⟨S1, r⟩, e1, e2, e3, e4, e5⟩ := q_chanceC S A hI.1 hI.2.1 hp hm hw
  obtain ⟨⟨T1, r2⟩, g1, g2, g3⟩ := q_chanceR T A hI.1 hI.2.2.1 hp hm hw
  dsimp only at e2 e3 e4 e5 g2 g3
  rw [e2] at e1
  rw [g2] at g1
  exact ⟨S1, T1, _, e1, g1, z_I_rf (z_I_ch hI e3 e4 e5) g3.1, g3.2⟩
theorem d_won {S T : tg_S} {A : Nat → Nat → Nat} (hI : z_I S T A) {w : Nat} (hw : w < 2) : z_ej A (f_X7_won S (nI w)) (f_X8_wonOf T (nI w)) := by
  rw [q_wonC S A hI.2.1.2.2.2.1 hw]
  exact z_ej_q _ hI (q_retc _) (q_wonR T A hI.1 hI.2.2.1 hw)
theorem d_furthest {S T : tg_S} {A : Nat → Nat → Nat} (hI : z_I S T A) {w : Nat} (hw : w < 2) : z_ej A (f_X7_furthest S (nI w)) (f_X8_furthestOf T (nI w)) := by
  rw [q_furthestC S A hI.1 hI.2.1.2.2.2.1 hw]
  exact z_ej_q _ hI (q_retc _) (q_furthestR T A hI.1 hI.2.2.1 hw)
theorem d_spent {S T : tg_S} {A : Nat → Nat → Nat} (hI : z_I S T A) : z_ej A (f_X7_spent S) (f_X8_spentOf T) := by
  rw [q_spentC S A hI.1 hI.2.1.2.2.1 hI.2.1.2.2.2.1]
  exact z_ej_q _ hI (q_retc _) (q_spentR T A hI.1 hI.2.2.1)
theorem d_best {S T : tg_S} {A : Nat → Nat → Nat} (hI : z_I S T A) : z_ej A (f_X7_best S) (f_X8_bestOf T) := by
  rw [q_bestC S A hI.1 hI.2.1.2.2.1 hI.2.1.2.2.2.1]
  exact z_ej_q _ hI (q_retc _) (q_bestR T A hI.1 hI.2.2.1)
theorem d_level {S T : tg_S} {A : Nat → Nat → Nat} (hI : z_I S T A) : z_ej A (f_X7_level S) (f_X8_levelOf T) := by
  rw [q_levelC S A hI.1 hI.2.1.2.2.2.1]
  exact z_ej_q _ hI (q_retc _) (q_levelR T A hI.1 hI.2.2.1)
theorem d_never {S T : tg_S} {A : Nat → Nat → Nat} (hI : z_I S T A) : z_ej A (f_X7_never S) (f_X8_neverNow T) := z_ej_q _ hI (q_neverC S A hI.1 hI.2.1) (q_neverR T A hI.1 hI.2.2.1)
theorem d_years {S T : tg_S} {A : Nat → Nat → Nat} (hI : z_I S T A) (x : Int32) {n w : Nat} (hn : n < 25) (hw : w < 2) : z_ej A (f_X7_years S x (nI n) (nI w)) (f_X8_yearsOf T x (nI n) (nI w)) := z_ej_q _ hI (q_yearsC S A hI.1 hI.2.1 x hn hw) (q_yearsR T A hI.1 hI.2.2.1 x hn hw)
/-- spare twice: what the row says and its first -/
theorem d_spare {S T : tg_S} {A : Nat → Nat → Nat} (hI : z_I S T A) {b : Type} {k1 k2 : tg_S → Int32 → Int32 → Option (tg_S × b)} (hk : ∀ S T r q, z_I S T A → z_rdk A T → z_ej A (k1 S r q) (k2 T r q)) : z_ej A (tg_bd (f_X7_spare S (-nI 1)) fun S2 r => tg_bd (f_X7_spare S2 (nI 0)) fun S3 q => k1 S3 r q) (tg_bd (f_X8_spareBy T) fun T2 r => tg_bd (f_X8_ofRow T2 r (nI 0)) fun T3 q => k2 T3 r q) := by
  obtain ⟨⟨S1, r1⟩, e1, e2, e3⟩ := (q_spareC S A hI.1 hI.2.1).1
  dsimp only at e2 e3
  have hI1 := z_I_cf hI e3
  obtain ⟨⟨S2, r2⟩, g1, g2, g3⟩ := (q_spareC S1 A hI1.1 hI1.2.1).2.1
  dsimp only at g2 g3
  obtain ⟨⟨T1, q1⟩, t1, t2⟩ := q_spareBy T A hI.1 hI.2.2.1
  have hok := z_R_ok A hI.1
  generalize z_R A = s at *
  have hq : q1 = z_n3 s.1 := t2.1
  subst hq
  have o := q_ofRow T T1 A s hok t2
  have hv : z_v3 s 0 = z_n3 s.1 := by
    have := o.1
    unfold f_X8_ofRow at this
    simp only [q_lit] at this
    rw [q_ifT trivial] at this
    have h2 := Option.some.inj this
    exact (congrArg Prod.snd h2).symm
  rw [e1, q_bdS, g1, q_bdS, t1, q_bdS, o.2.1, q_bdS, e2, g2, hv]
  exact hk _ _ _ _ (z_I_rf (z_I_cf hI1 g3) t2.2.2.2.1) t2.2.2.2.2
