-- ===== the law's loop =====
theorem q_end {L i : Nat} (hL : L ≤ 3072) (hi : i ≤ L) (h : ¬ nI L - nI 6 < nI i) : i + 6 ≤ L := by
  by_cases h6 : 6 ≤ L
  · rw [q_sub h6, q_lt (by omega) (by omega)] at h
    omega
  · exfalso
    apply h
    rw [Int32.lt_iff_toInt_lt, nI_toInt (n := i) (by omega)]
    have : ∀ L, L < 6 → (nI L - nI 6).toInt < 0 := by decide
    have := this L (by omega)
    omega
theorem lq_loop {x : tg_X} {b L : Nat} {xs : Nat → Int32} {bd : Nat → Nat} (X : lq_M x b L xs) (fin : ∀ S T i, lq_G x b bd S T i 1275 []) : ∀ (n i : Nat) (S T : tg_S) (A : Nat → Nat → Nat), L < n + i → i ≤ L → z_I S T A → lq_G x b bd S T i 18 [] := by
  intro n
  induction n with
  | zero => intro i S T A h; omega
  | succ n ih =>
    intro i S T A hn hi hI H locs ls h hl
    have hL := X.2.2.2.2.2.2.2.2.2.2
    refine lv_iload_n X.1 X.2.1 dL_law_18 rfl (lv_at hl 0 rfl) ?_
    refine lv_aload_n X.1 X.2.1 dL_law_19 rfl (lv_at hl 3 rfl) ?_
    refine va_slen (A := lq_A (tg_s x)) X.1 X.2.1 X.2.2.2.2.2.2.2.2.1 X.2.2.2.2.2.2.2.2.2.1 (Nat.not_le.mpr X.2.2.2.2.2.2.2.2.2.1) h.2.2.2.2.2 dL_law_20 ?_
    refine lv_bipush (v := nI 6) X.1 X.2.1 dL_law_21 (by decide) ?_
    refine lv_isub X.1 X.2.1 dL_law_23 ?_
    refine lv_icmp_gt (tgt := 1275) X.1 X.2.1 dL_law_24 (by decide) (fun hc => fin S T i H locs ls h hl) (fun hc => ?_)
    have hi6 : i + 6 ≤ L := q_end hL hi hc
    refine lv_aload_n X.1 X.2.1 dL_law_27 rfl (lv_at hl 3 rfl) ?_
    refine lv_iload_n X.1 X.2.1 dL_law_28 rfl (lv_at hl 0 rfl) ?_
    refine lq_elem (bd := bd) (S := S) (T := T) (i := i) (st := []) X rfl (show i < L by omega) dL_law_29 ?_ H locs ls h hl
    intro H locs ls h hl
    refine lv_bipush (v := 63) X.1 X.2.1 dL_law_30 (by decide) ?_
    refine lv_iand X.1 X.2.1 dL_law_32 ?_
    refine lq_switch (A := A) X hI hi6 (fun S T A hI => ?_) _ H locs ls h hl
    intro H locs ls h hl
    refine lv_iinc (v := nI (i + 6)) (lv' := [(3, .int (nI (i + 6))), (2, .ref (bd 0)), (1, .ref (tg_ad x 0)), (0, .ref b)]) X.1 X.2.1 dL_law_1269 hl (k := 0) rfl (by rw [← q_add]; rfl) (by decide) rfl (fun ls hl => ?_)
    refine lv_goto (tgt := 18) X.1 X.2.1 dL_law_1272 (by decide) ?_
    exact ih (i + 6) S T A (by omega) hi6 hI H locs ls h hl
/-- the law makes an object: its cell is the last of the world -/
theorem lq_init {p : Program} {l : Launch} {e : Env} {R : Room} {s : State} {m : MethodId} {args : Array Value} {below : List Frame} {meth : Method} {c : Code} {Q : State → Prop} {D : va_G} {cy : Bool → ClassId} {tS : Nat} {H : Heap} {locs : List Loc} {cells slots : Nat} {cc : ByteArray} {own : String}
    (hx : p.tables.exec = Jvm.exec) (hb : c.code = cc) (hown : s.vm.findClass own = some m.cls) (hts : ∀ w ∈ tg_gG, w.before args s = true) (hK : va_K D vwCl (tg_ty cy) s) (hE0 : cg_Env s) (hE : tg_Env (lq_A s) s s.heap tS)
    {wr : va_W} {q : Nat} {e0 : va_E} (hP : va_P D vwCl (wr ++ [(q, e0)]) H) (hD : va_D (lq_A s) (wr ++ [(q, e0)])) (hS : va_S (lq_A s) s.heap H locs)
    {y : MethodName} {cc2 : ByteArray} {rm2 : Room} {B : va_W → Prop} {mc2 ms2 index : Nat} {rest : List Value} (hM : cg_Met l y cc2 rm2 D cy tS q e0 B mc2 ms2) (hY : tg_Y0 y cc2 1 none 0) (hy : y.name = "<init>") (hI0 : Cond.instanceMethod y ∈ tg_gG) (hL : Cond.methodLink own index y ∈ tg_gG)
    (hR : rm2.cells = mc2 ∧ rm2.slots = ms2 ∧ rm2.frames + 1 ≤ R.frames ∧ 8 + (1 + 11) + rm2.locals ≤ R.locals) (hf : cells + mc2 ≤ R.cells ∧ slots + ms2 ≤ R.slots) {ls : Array Slot} (hls : ls.size = c.maxLocals) {pc : Nat} (hW : (rest.map fun v => v.category).sum ≤ 8) (hd : decode cc pc = .ok (.invokespecial index, 3))
    (k : ∀ (w1 : va_W) (H1 : Heap) (locs1 : List Loc), B w1 → va_P D vwCl (wr ++ w1) H1 → va_D (lq_A s) (wr ++ w1) → va_S (lq_A s) s.heap H1 locs1 → W p l e R s m args below meth c H1 locs1 (cells + mc2) (slots + ms2) Q (F0 m (pc + 3) ls rest)) : W p l e R s m args below meth c H locs cells slots Q (F0 m pc ls (.ref q :: rest)) := by
  have hlast : (wr ++ [(q, e0)])[wr.length]? = some (q, e0) := by simp
  have hleft : ∀ (k : Nat) (z : Nat × va_E), wr[k]? = some z → (wr ++ [(q, e0)])[k]? = some z := fun k z hk => by
    rw [List.getElem?_append_left (List.getElem?_eq_some_iff.mp hk).1]; exact hk
  have hPr : va_P D vwCl wr H := fun k z hk => hP k z (hleft k z hk)
  have hDr : va_D (lq_A s) wr := ⟨fun i j a b ha hb' h => hD.1 i j a b (hleft i a ha) (hleft j b hb') h, fun k z hk => hD.2 k z (hleft k z hk)⟩
  have one : ∀ (k : Nat) (z : Nat × va_E), ([(q, e0)] : va_W)[k]? = some z → z = (q, e0) := fun k z hk => by
    match k, hk with
    | 0, hk => exact (Option.some.inj hk).symm
    | k + 1, hk => simp at hk
  have hPc : va_P D vwCl [(q, e0)] H := fun k z hk => by rw [one k z hk]; exact hP _ _ hlast
  have hDc : va_D (fun _ => True) ([(q, e0)] : va_W) := ⟨fun i j a b ha hb' _ => by
    have h1 := (List.getElem?_eq_some_iff.mp ha).1
    have h2 := (List.getElem?_eq_some_iff.mp hb').1
    simp at h1 h2
    omega, fun _ _ _ => trivial⟩
  have hF : ∀ z, va_A [(q, e0)] H.size z → lq_A s z := by
    intro z h
    rcases h with ⟨k, e, h⟩ | h
    · have := one k _ h
      rw [show z = q from congrArg Prod.fst this]
      exact hD.2 _ _ hlast
    · exact Nat.le_trans hS.1 h
  have apart : ∀ (k : Nat) (z : Nat × va_E), wr[k]? = some z → ¬ va_A [(q, e0)] H.size z.1 := by
    intro k z hk h
    rcases h with ⟨k2, e, h⟩ | h
    · have := one k2 _ h
      have hq : z.1 = q := congrArg Prod.fst this
      have hh := hD.1 k wr.length z (q, e0) (hleft k z hk) hlast hq
      have := (List.getElem?_eq_some_iff.mp hk).1
      omega
    · exact Nat.lt_irrefl _ (Nat.lt_of_lt_of_le ((hPr k z hk).lt) h)
  have hp : PreS s H (va_Pc [.ref q] (fun U => U.heap.size = H.size ∧ va_P D vwCl [(q, e0)] U.heap ∧ va_K D vwCl (tg_ty cy) U ∧ va_D (fun _ => True) [(q, e0)] ∧ cg_Env U ∧ tg_Env (va_A [(q, e0)] H.size) U U.heap tS)) [.ref q] := by
    refine ⟨fun a U g mk h => ?_, fun U hU hW => ?_⟩
    · obtain ⟨g0, g1, qP, qK, qD, qE, qE2⟩ := h
      exact ⟨g0, g1, qP, va_K.moved (u := U) (U := U.calling g mk a) (Vm.Alike.refl U.vm) qK, qD, qE.calling, qE2.calling⟩
    · refine ⟨rfl, by rw [hU], by rw [hU]; exact hPc, va_K.moved hW.alike hK, hDc, cg_Env.kept hW hE0, ?_⟩
      rw [hU]
      exact tg_Env.kept hW hS.2.1 hF hE
  have cb : CallB R s args own index y cc2 1 none (Cond.code y cc2 1 none :: tg_gG) rm2 mc2 ms2 0 := by
    refine callB_of (Ts := tg_gG) 0 hts (tg_GG (fun w h => h) (fun w h => ?_)) rfl hR.1 hR.2.1 (hts _ hY.2.1) (hts _ hL) hY.2.2 hR.2.2
    rcases List.mem_cons.mp h with rfl | h
    · exact hY.1
    · exact h
  have run := va_runI (locs := locs) (cells := cells) (slots := slots) (p := p) (e := e) (R := R) (below := below) (meth := meth) (g := F0 m pc ls (.ref q :: rest)) (rest := rest) (Ts := tg_gG) (As := []) ⟨hx, hb, rfl, hown, hts⟩ (hM H.size) ⟨cb, hy, hts _ hI0⟩ hp rfl rfl hls rfl (lv_room hW) hd hf
  intro T hT X'
  obtain ⟨v, st₀, t, T', L, g0, X1, hLL, e1, e2, ⟨⟨hv, w1, hB, hP1, hK1, hD1⟩, hz, hk⟩, stp⟩ := run T hT X'
  cases hv
  rw [g0] at hz hk
  obtain ⟨t2, a1, b1⟩ := k w1 T'.heap (locs ++ L) hB
    ((hPr.kept (fun j z hj => by rw [e1]; exact hk z.1 ((hPr j z hj).lt) (apart j z hj))).app (by rw [e1]; exact hP1))
    (hDr.app (hD1.weaken (fun _ z _ h => hF z.1 h)) (fun i j a b ha hb' h => apart i a ha (by rw [h]; exact hD1.2 j b hb')))
    ⟨Nat.le_trans hS.1 (by rw [e1]; exact hz), fun a h1 h2 => by rw [e1, hk a (Nat.lt_of_lt_of_le h1 hS.1) (fun z => h2 (hF a z))]; exact hS.2.1 a h1 h2, fun a ha => by
      rcases List.mem_append.mp ha with h | h
      · exact hS.2.2 a h
      · exact hF _ (hLL a h)⟩ T' rfl X1
  exact ⟨t2, stp t2 a1, b1⟩
