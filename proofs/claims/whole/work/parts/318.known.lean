theorem wg_L_n7 : Cond.classLink RL 7 RX7 ∈ tg_gG ∧ Cond.instantiable RX7 12 ∈ tg_gG ∧ Cond.initialized RX7 ∈ tg_gG := ⟨tg_mem (List.mem_of_getElem? (i := 86) (by decide +kernel)) (by decide +kernel), tg_mem (List.mem_of_getElem? (i := 87) (by decide +kernel)) (by decide +kernel), wi_X7⟩
theorem wg_L_n10 : Cond.classLink RL 10 RX8 ∈ tg_gG ∧ Cond.instantiable RX8 47 ∈ tg_gG ∧ Cond.initialized RX8 ∈ tg_gG := ⟨tg_mem (List.mem_of_getElem? (i := 768) (by decide +kernel)) (by decide +kernel), tg_mem (List.mem_of_getElem? (i := 769) (by decide +kernel)) (by decide +kernel), wi_X8⟩
theorem wg_L_9 : Cond.methodLink RL 9 yX7_init ∈ tg_gG := tg_mem (List.mem_of_getElem? (i := 88) (by decide +kernel)) (by decide +kernel)
theorem wg_L_12 : Cond.methodLink RL 12 yX8_init ∈ tg_gG := tg_mem (List.mem_of_getElem? (i := 770) (by decide +kernel)) (by decide +kernel)
theorem lq_known {s : State} {args : Array Value} (hg : ∀ w ∈ tg_gG, w.before args s = true) : ∃ (dC : Nat → ClassId) (dI : Nat → Nat → Nat), ∀ (k : Nat) (q : vw_C), vwCl[k]? = some q → u_Kn s q.1 q.2.1 q.2.2 (dC k) (dI k) := by
  obtain ⟨c0, i0, h0⟩ := u_known hg cl_X0.2.1 (hg _ wg_X7_n54.2.1)
  obtain ⟨c1, i1, h1⟩ := u_known hg cl_X1.2.1 (hg _ wg_X7_n34.2.1)
  obtain ⟨c2, i2, h2⟩ := u_known hg cl_X2.2.1 (hg _ wg_X7_n41.2.1)
  obtain ⟨c3, i3, h3⟩ := u_known hg cl_X3.2.1 (hg _ wg_X1_n34.2.1)
  obtain ⟨c4, i4, h4⟩ := u_known hg cl_X4.2.1 (hg _ wg_X7_n16.2.1)
  obtain ⟨c5, i5, h5⟩ := u_known hg cl_X5.2.1 (hg _ wg_X7_n23.2.1)
  obtain ⟨c6, i6, h6⟩ := u_known hg cl_X6.2.1 (hg _ wg_X7_n7.2.1)
  obtain ⟨c7, i7, h7⟩ := u_known hg cl_X7.2.1 (hg _ wg_L_n7.2.1)
  obtain ⟨c8, i8, h8⟩ := u_known hg cl_X8.2.1 (hg _ wg_L_n10.2.1)
  refine ⟨fun k => if k = 0 then c0 else if k = 1 then c1 else if k = 2 then c2 else if k = 3 then c3 else if k = 4 then c4 else if k = 5 then c5 else if k = 6 then c6 else if k = 7 then c7 else c8, fun k => if k = 0 then i0 else if k = 1 then i1 else if k = 2 then i2 else if k = 3 then i3 else if k = 4 then i4 else if k = 5 then i5 else if k = 6 then i6 else if k = 7 then i7 else i8, ?_⟩
  intro k q hq
  match k, hq with
  | 0, hq => cases hq; exact h0
  | 1, hq => cases hq; exact h1
  | 2, hq => cases hq; exact h2
  | 3, hq => cases hq; exact h3
  | 4, hq => cases hq; exact h4
  | 5, hq => cases hq; exact h5
  | 6, hq => cases hq; exact h6
  | 7, hq => cases hq; exact h7
  | 8, hq => cases hq; exact h8
  | k + 9, hq => simp [vwCl] at hq
theorem lq_cy {s : State} {args : Array Value} (hg : ∀ w ∈ tg_gG, w.before args s = true) : ∃ cy : Bool → ClassId, ∀ (k : Nat) (q : ClassId × FieldType), (tg_ty cy)[k]? = some q → ArrOfT s q.1 q.2 ∧ va_RA s q.1 q.2 := by
  obtain ⟨cI, kI, compI, a1, a2, a3⟩ := Cond.arrayClass_spec (hg _ wg_ai)
  obtain ⟨cZ, kZ, compZ, b1, b2, b3⟩ := Cond.arrayClass_spec (hg _ wg_az)
  refine ⟨fun b => if b then cZ else cI, fun k q hk => ?_⟩
  match k, hk with
  | 0, hk => cases hk; exact ⟨fun n z => ⟨fun k h => (by cases h), kI, a2, compI, a3⟩, a1⟩
  | 1, hk => cases hk; exact ⟨fun n z => ⟨fun k h => (by cases h), kZ, b2, compZ, b3⟩, b1⟩
  | k + 2, hk => simp [tg_ty] at hk
theorem lq_env0 {s : State} {args : Array Value} (hts : ∀ w ∈ lw_tbl, w.before args s = true) : cg_Env s := ⟨va_Nw.of rfl (hts _ (List.mem_of_getElem? (i := 96) (by decide +kernel))), va_Nw.of rfl (hts _ (List.mem_of_getElem? (i := 110) (by decide +kernel))), va_Nw.of rfl (hts _ (List.mem_of_getElem? (i := 127) (by decide +kernel))), va_Nw.of rfl (hts _ (List.mem_of_getElem? (i := 143) (by decide +kernel))), va_Nw.of rfl (hts _ (List.mem_of_getElem? (i := 149) (by decide +kernel))), va_Nw.of rfl (hts _ (List.mem_of_getElem? (i := 222) (by decide +kernel))), va_Nw.of rfl (hts _ (List.mem_of_getElem? (i := 273) (by decide +kernel)))⟩
theorem lq_env {s : State} {b : Nat} (hts : ∀ w ∈ lw_tbl, w.before #[Value.ref b] s = true) (hgv : (Jvm.Cond.and given_1 narrow_1).before #[Value.ref b] s = true) : ∃ tS : Nat, tg_Env (lq_A s) s s.heap tS := by
  have hs := flat_of_before _ hgv
  have hA : ∀ a : Nat, a < s.heap.size → ¬ lq_A s a := fun a h h2 => Nat.lt_irrefl _ (Nat.lt_of_lt_of_le h h2)
  have e0 := va_eqt (hs (Cond.eq (.elem (.static "TugOfWar" "DIGEST_BEATS" "[I") (.int 0)) (.int 0)) (by decide +kernel))
  have e1 := va_eqt (hs (Cond.eq (.elem (.static "TugOfWar" "DIGEST_BEATS" "[I") (.int 1)) (.int 5)) (by decide +kernel))
  have e2 := va_eqt (hs (Cond.eq (.elem (.static "TugOfWar" "DIGEST_BEATS" "[I") (.int 2)) (.int 12)) (by decide +kernel))
  have e3 := va_eqt (hs (Cond.eq (.elem (.static "TugOfWar" "DIGEST_BEATS" "[I") (.int 3)) (.int 23)) (by decide +kernel))
  obtain ⟨tS, hv, hT⟩ := va_Tof (A := lq_A s) (N := 4) (f := fun j => .int (if j = 0 then 0 else if j = 1 then 5 else if j = 2 then 12 else 23)) (by decide) (hs (Cond.arrayOf (.static "TugOfWar" "DIGEST_BEATS" "[I") .int) (by decide +kernel)) (va_eqt (hs (Cond.eq (.length (.static "TugOfWar" "DIGEST_BEATS" "[I")) (.int 4)) (by decide +kernel))) (fun j hj => by
    rcases (show j = 0 ∨ j = 1 ∨ j = 2 ∨ j = 3 by omega) with rfl | rfl | rfl | rfl
    · exact e0
    · exact e1
    · exact e2
    · exact e3) hA
  exact ⟨tS, va_Nw.of rfl (hts _ (List.mem_of_getElem? (i := 473) (by decide +kernel))), va_Nw.of rfl (hts _ (List.mem_of_getElem? (i := 687) (by decide +kernel))), va_Zof (hts _ (List.mem_of_getElem? (i := 747) (by decide +kernel))) (hts _ (List.mem_of_getElem? (i := 75) (by decide +kernel))) hv hA, hT⟩
theorem lq_split {A : Nat → Prop} {D : va_G} {cl : List vw_C} {cy : Bool → ClassId} {ta tb : List tg_E} {ad bd : Nat → Nat} {S T : tg_S} {H : Heap} (hP : va_P D cl (tg_w cy ta ad S ++ tg_w cy tb bd T) H) (hD : va_D A (tg_w cy ta ad S ++ tg_w cy tb bd T)) : va_P D cl (tg_w cy ta ad S) H ∧ va_P D cl (tg_w cy tb bd T) H ∧ va_D A (tg_w cy ta ad S) ∧ va_D A (tg_w cy tb bd T) ∧ lq_dis ta tb ad bd := by
  have hlen : (tg_w cy ta ad S).length = ta.length := by simp [tg_w]
  have hl : ∀ (k : Nat) (z : Nat × va_E), (tg_w cy ta ad S)[k]? = some z → (tg_w cy ta ad S ++ tg_w cy tb bd T)[k]? = some z := fun k z hk => by
    rw [List.getElem?_append_left (List.getElem?_eq_some_iff.mp hk).1]; exact hk
  have hr : ∀ (k : Nat) (z : Nat × va_E), (tg_w cy tb bd T)[k]? = some z → (tg_w cy ta ad S ++ tg_w cy tb bd T)[ta.length + k]? = some z := fun k z hk => by
    rw [List.getElem?_append_right (by omega), hlen, Nat.add_sub_cancel_left]; exact hk
  refine ⟨fun k z hk => hP k z (hl k z hk), fun k z hk => hP _ z (hr k z hk), ⟨fun i j a b ha hb h => hD.1 i j a b (hl i a ha) (hl j b hb) h, fun k z hk => hD.2 k z (hl k z hk)⟩, ⟨fun i j a b ha hb h => ?_, fun k z hk => hD.2 _ z (hr k z hk)⟩, fun i j hi hj h => ?_⟩
  · have := hD.1 _ _ a b (hr i a ha) (hr j b hb) h
    omega
  · have h1 := tg_w_get (cy := cy) (ad := ad) (S := S) (List.getElem?_eq_getElem hi)
    have h2 := tg_w_get (cy := cy) (ad := bd) (S := T) (List.getElem?_eq_getElem hj)
    have := hD.1 _ _ _ _ (hl i _ h1) (hr j _ h2) h
    omega
theorem fs8_ok : ∀ j, j < 47 → defaultValue (tyX8 j) = vp_V [.null, .null, .null, .null, .null, .null, .null, .null, .int 0, .int 0, .null, .null, .null, .null, .int 0, .null, .int 0, .null, .int 0, .int 0, .int 0, .int 0, .int 0, .int 0, .int 0, .null, .null, .null, .null, .null, .null, .null, .null, .null, .int 0, .int 0, .null, .int 0, .null, .null, .null, .null, .null, .null, .null, .null, .int 0] j := by decide +kernel
