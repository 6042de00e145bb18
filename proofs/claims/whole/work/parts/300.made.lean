-- ===== constructors: a growing world, as a list =====
def cg_Env (U : State) : Prop := va_Nw (.methodLinkNest RX7 9 yX6_init "TugOfWar") U ∧ va_Nw (.methodLinkNest RX7 18 yX4_init "TugOfWar") U ∧ va_Nw (.methodLinkNest RX7 25 yX5_init "TugOfWar") U ∧ va_Nw (.methodLinkNest RX7 36 yX1_init "TugOfWar") U ∧ va_Nw (.methodLinkNest RX1 36 yX3_init "TugOfWar") U ∧ va_Nw (.methodLinkNest RX7 43 yX2_init "TugOfWar") U ∧ va_Nw (.methodLinkNest RX7 56 yX0_init "TugOfWar") U
theorem cg_Env.kept {U U' : State} (hW : U.WarmedH U'.vm) (h : cg_Env U) : cg_Env U' := by
  obtain ⟨h1, h2, h3, h4, h5, h6, h7⟩ := h
  exact ⟨va_Nw.warmM hW h1, va_Nw.warmM hW h2, va_Nw.warmM hW h3, va_Nw.warmM hW h4, va_Nw.warmM hW h5, va_Nw.warmM hW h6, va_Nw.warmM hW h7⟩
theorem cg_Env.calling {U : State} {g : JFrame} {mk : MethodId} {a : Array Value} (h : cg_Env U) : cg_Env (U.calling g mk a) := by
  obtain ⟨h1, h2, h3, h4, h5, h6, h7⟩ := h
  exact ⟨va_Nw.same rfl rfl h1, va_Nw.same rfl rfl h2, va_Nw.same rfl rfl h3, va_Nw.same rfl rfl h4, va_Nw.same rfl rfl h5, va_Nw.same rfl rfl h6, va_Nw.same rfl rfl h7⟩
def cg_W (x : tg_X) (H : Heap) (locs : List Loc) (ce sl pc : Nat) (ls : Array Slot) (st : List Value) : Prop := W (tg_p x) (tg_l x) (tg_en x) (tg_R x) (tg_s x) (tg_m x) (tg_args x) (tg_below x) (tg_meth x) (tg_c x) H locs ce sl (tg_Q x) (F0 (tg_m x) pc ls st)
def cg_G (x : tg_X) (h0 : Nat) (ws : va_W) (ce sl pc : Nat) (st : List Value) : Prop := ∀ (H : Heap) (locs : List Loc) (ls : Array Slot), va_P (tg_D x) vwCl ws H → va_D (tg_A x) ws → va_S (tg_A x) (tg_s x).heap H locs → lv_has ls (tg_c x).maxLocals [(0, .ref h0)] → cg_W x H locs ce sl pc ls st
def cg_M (x : tg_X) (cc : ByteArray) (own : String) (rm : Room) (B : va_W → Prop) (mc ms : Nat) : Prop :=
  (tg_p x).tables.exec = Jvm.exec ∧ (tg_c x).code = cc ∧ (tg_c x).maxLocals = 1 ∧ (tg_s x).vm.findClass own = some (tg_m x).cls ∧ (∀ w ∈ tg_gG, w.before (tg_args x) (tg_s x) = true) ∧ va_K (tg_D x) vwCl (tg_ty (tg_cy x)) (tg_s x) ∧ (∀ q : Nat, (tg_s x).heap.size ≤ q → tg_A x q) ∧ tg_R x = rm ∧ (cg_Env (tg_s x) ∧ tg_Env (tg_A x) (tg_s x) (tg_s x).heap (tg_tS x)) ∧ (tg_meth x).name = "<init>" ∧
  ∀ (pc : Nat) (w1 : va_W) (H : Heap) (locs : List Loc) (ls : Array Slot), B w1 → va_P (tg_D x) vwCl w1 H → va_D (tg_A x) w1 → va_S (tg_A x) (tg_s x).heap H locs → decode cc pc = .ok (.return_, 1) → cg_W x H locs mc ms pc ls []
section CgRows
variable {x : tg_X} {cc : ByteArray} {own : String} {rm : Room} {B : va_W → Prop} {mc ms : Nat} {h0 : Nat} {ws : va_W} {ce sl pc : Nat} {st : List Value}
theorem cg_re {ws2 : va_W} (h : ws = ws2) (k : cg_G x h0 ws2 ce sl pc st) : cg_G x h0 ws ce sl pc st := h ▸ k
theorem cg_aload (X : cg_M x cc own rm B mc ms) (hd : decode cc pc = .ok (.aload_n 0, 1)) (k : cg_G x h0 ws ce sl (pc + 1) (.ref h0 :: st)) : cg_G x h0 ws ce sl pc st := fun H locs ls h1 h2 h3 hl => lv_aload_n X.1 X.2.1 hd rfl (lv_at hl 0 rfl) (k H locs ls h1 h2 h3 hl)
theorem cg_iconst (X : cg_M x cc own rm B mc ms) {n : Int} {v : Int32} (hd : decode cc pc = .ok (.iconst n, 1)) (hv : Int32.ofInt n = v) (k : cg_G x h0 ws ce sl (pc + 1) (.int v :: st)) : cg_G x h0 ws ce sl pc st := fun H locs ls h1 h2 h3 hl => lv_iconst X.1 X.2.1 hd hv (k H locs ls h1 h2 h3 hl)
theorem cg_bipush (X : cg_M x cc own rm B mc ms) {n : Int} {v : Int32} (hd : decode cc pc = .ok (.bipush n, 2)) (hv : (Int8.ofInt n).toInt32 = v) (k : cg_G x h0 ws ce sl (pc + 2) (.int v :: st)) : cg_G x h0 ws ce sl pc st := fun H locs ls h1 h2 h3 hl => lv_bipush X.1 X.2.1 hd hv (k H locs ls h1 h2 h3 hl)
theorem cg_sipush (X : cg_M x cc own rm B mc ms) {n : Int} {v : Int32} (hd : decode cc pc = .ok (.sipush n, 3)) (hv : (Int16.ofInt n).toInt32 = v) (k : cg_G x h0 ws ce sl (pc + 3) (.int v :: st)) : cg_G x h0 ws ce sl pc st := fun H locs ls h1 h2 h3 hl => lv_sipush X.1 X.2.1 hd hv (k H locs ls h1 h2 h3 hl)
theorem cg_dup (X : cg_M x cc own rm B mc ms) {v : Value} (hd : decode cc pc = .ok (.dup, 1)) (hv : v.category = 1) (k : cg_G x h0 ws ce sl (pc + 1) (v :: v :: st)) : cg_G x h0 ws ce sl pc (v :: st) := fun H locs ls h1 h2 h3 hl => lv_dup X.1 X.2.1 hd hv (k H locs ls h1 h2 h3 hl)
theorem cg_obj (X : cg_M x cc own rm B mc ms) {idx a : Nat} (hw : Cond.methodLink own idx Lib.objectInit ∈ tg_gG ∧ Cond.instanceMethod Lib.objectInit ∈ tg_gG ∧ Cond.code Lib.objectInit ⟨#[0xb1]⟩ 1 none ∈ tg_gG) (hR : 1 ≤ rm.frames ∧ 12 ≤ rm.locals) (hd : decode cc pc = .ok (.invokespecial idx, 3)) (k : cg_G x h0 ws ce sl (pc + 3) []) : cg_G x h0 ws ce sl pc [.ref a] := fun H locs ls h1 h2 h3 hl => W.objInit X.1 X.2.1 X.2.2.2.1 (X.2.2.2.2.1 _ hw.1) (X.2.2.2.2.1 _ hw.2.1) (X.2.2.2.2.1 _ hw.2.2) rfl hl.1 rfl hd (by rw [X.2.2.2.2.2.2.2.1]; exact hR.1) (by rw [X.2.2.2.2.2.2.2.1]; exact hR.2) (k H locs ls h1 h2 h3 hl)
theorem cg_cy (X : cg_M x cc own rm B mc ms) (b : Bool) : va_RA (tg_s x) (tg_cy x b) (if b then .boolean else .int) := by
  cases b
  · exact (X.2.2.2.2.2.1.2 0 _ rfl).2
  · exact (X.2.2.2.2.2.1.2 1 _ rfl).2
theorem cg_newa (X : cg_M x cc own rm B mc ms) (b : Bool) {atype : ArrayType} (hat : newarray.typeOf atype = if b then .boolean else .int) (hw : Cond.arrayClass (if b then .boolean else .int) ∈ tg_gG) {n : Int32} {N : Nat} (hn : ¬ n < 0) (hN : n.toNatClampNeg = N) (hby : N * componentBytes (if b then .boolean else .int) ≤ 536870912) (hc : ce + 1 ≤ rm.cells) (hs : sl + N ≤ rm.slots) (hd : decode cc pc = .ok (.newarray atype, 2))
    (k : ∀ q : Nat, cg_G x h0 (ws ++ [(q, .inl (tg_cy x b, N, .inl (fun _ => 0)))]) (ce + 1) (sl + N) (pc + 2) (.ref q :: st)) : cg_G x h0 ws ce sl pc (.int n :: st) := by
  intro H locs ls hP hD hS hl
  refine va_newa (atype := atype) (a0 := (N, .inl (fun _ => 0))) X.1 X.2.1 (by rw [hat]; exact X.2.2.2.2.1 _ hw) hat X.2.2.2.2.2.1 hP hD hS X.2.2.2.2.2.2.1 (fun cA => ?_) hn hN hby (by rw [X.2.2.2.2.2.2.2.1]; exact hc) (by rw [X.2.2.2.2.2.2.2.1]; exact hs) hd (fun q cA H1 hK1 hP1 hD1 hS1 => ?_)
  · cases b <;> rfl
  · have h2 := (hK1.2 2 (cA, if b then .boolean else .int) rfl).2
    have e : cA = tg_cy x b := by
      have h3 := cg_cy X b
      cases b
      · exact Option.some.inj ((show (tg_s x).vm.findClass _ = some cA from h2).symm.trans (show (tg_s x).vm.findClass _ = some _ from h3))
      · exact Option.some.inj ((show (tg_s x).vm.findClass _ = some cA from h2).symm.trans (show (tg_s x).vm.findClass _ = some _ from h3))
    subst e
    exact k q H1 locs ls hP1 hD1 hS1 hl
theorem cg_new (X : cg_M x cc own rm B mc ms) {ci : Nat} {C : String} {T : u_T} {N : Nat} {ty : Nat → FieldType} (hC : tg_Cl ci C T N ty) {index : Nat} (hw : Cond.classLink own index C ∈ tg_gG ∧ Cond.instantiable C N ∈ tg_gG ∧ Cond.initialized C ∈ tg_gG) {fs : List Value} (hfs : ∀ j, j < N → defaultValue (ty j) = vp_V fs j) (hc : ce + 1 ≤ rm.cells) (hs : sl + N ≤ rm.slots) (hd : decode cc pc = .ok (.new index, 3))
    (k : ∀ q : Nat, cg_G x h0 (ws ++ [(q, .inr (ci, fs))]) (ce + 1) (sl + N) (pc + 3) (.ref q :: st)) : cg_G x h0 ws ce sl pc st := by
  intro H locs ls hP hD hS hl
  exact va_new X.1 X.2.1 X.2.2.2.2.1 hC.2.1 ty hC.2.2.1 X.2.2.2.1 (X.2.2.2.2.1 _ hw.1) (X.2.2.2.2.1 _ hw.2.1) (X.2.2.2.2.1 _ hw.2.2) X.2.2.2.2.2.1 hP hD hS X.2.2.2.2.2.2.1 hC.1 hfs (by rw [X.2.2.2.2.2.2.2.1]; exact hc) (by rw [X.2.2.2.2.2.2.2.1]; exact hs) hd (fun q H1 hP1 hD1 hS1 => k q H1 locs ls hP1 hD1 hS1 hl)
theorem cg_putF (X : cg_M x cc own rm B mc ms) (q0 : Nat) {a ci : Nat} {fs : List Value} (he : ws[q0]? = some (a, .inr (ci, fs))) {C : String} {T : u_T} {N : Nat} {ty : Nat → FieldType} (hC : tg_Cl ci C T N ty) (j : Nat) (hj : j < N) {index : Nat} (hw : Cond.fieldLink own index (T j).1 (T j).2.1 (T j).2.2.1 ∈ tg_gG) (hfin : (T j).2.2.2 = true) (hdecl : (T j).1 = own) {v : Value} (hn : narrow (ty j) v = v) (hfit : fits (ty j) v = true) (hl2 : j < fs.length) (hd : decode cc pc = .ok (.putfield index, 3)) (k : cg_G x h0 (ws.set q0 (a, .inr (ci, fs.set j v))) ce sl (pc + 3) st) : cg_G x h0 ws ce sl pc (v :: .ref a :: st) := fun H locs ls hP hD hS hl =>
  va_putF X.1 X.2.1 X.2.2.2.2.1 hC.2.1 ty hC.2.2.1 hC.2.2.2 X.2.2.2.1 X.2.2.2.2.2.1 hP hD hS q0 he hC.1 j hj (X.2.2.2.2.1 _ hw) (fun _ h => h) hfin X.2.2.2.2.2.2.2.2.2.1 hdecl (hC.2.2.1 j hj) hn hfit hl2 hd (fun H1 locs1 hP1 hD1 hS1 => k H1 locs1 ls hP1 hD1 hS1 hl)
theorem cg_put (X : cg_M x cc own rm B mc ms) (q0 : Nat) {a ci : Nat} {fs : List Value} (he : ws[q0]? = some (a, .inr (ci, fs))) {C : String} {T : u_T} {N : Nat} {ty : Nat → FieldType} (hC : tg_Cl ci C T N ty) (j : Nat) (hj : j < N) {index : Nat} (hw : Cond.fieldLink own index (T j).1 (T j).2.1 (T j).2.2.1 ∈ tg_gG) (hfin : (T j).2.2.2 = false) {v : Value} (hn : narrow (ty j) v = v) (hfit : fits (ty j) v = true) (hl2 : j < fs.length) (hd : decode cc pc = .ok (.putfield index, 3)) (k : cg_G x h0 (ws.set q0 (a, .inr (ci, fs.set j v))) ce sl (pc + 3) st) : cg_G x h0 ws ce sl pc (v :: .ref a :: st) := fun H locs ls hP hD hS hl =>
  va_put X.1 X.2.1 X.2.2.2.2.1 hC.2.1 ty hC.2.2.1 hC.2.2.2 X.2.2.2.1 X.2.2.2.2.2.1 hP hD hS q0 he hC.1 j hj (X.2.2.2.2.1 _ hw) (fun _ h => h) hfin (hC.2.2.1 j hj) hn hfit hl2 hd (fun H1 locs1 hP1 hD1 hS1 => k H1 locs1 ls hP1 hD1 hS1 hl)
theorem cg_iast (X : cg_M x cc own rm B mc ms) (q0 : Nat) {a n : Nat} {f : Nat → Int32} (he : ws[q0]? = some (a, .inl (tg_cy x false, n, .inl f))) {i v : Int32} (hi : vp_in i n) (hd : decode cc pc = .ok (.iastore, 1)) (k : cg_G x h0 (ws.set q0 (a, .inl (tg_cy x false, n, .inl (upd f i.toNatClampNeg v)))) ce sl (pc + 1) st) : cg_G x h0 ws ce sl pc (.int v :: .int i :: .ref a :: st) := fun H locs ls hP hD hS hl =>
  va_iast X.1 X.2.1 X.2.2.2.2.2.1 hP hD hS q0 0 he rfl hi hd (fun H1 locs1 hP1 hD1 hS1 => k H1 locs1 ls hP1 hD1 hS1 hl)
theorem cg_vret (X : cg_M x cc own rm B mc ms) (hB : B ws) (hd : decode cc pc = .ok (.return_, 1)) : cg_G x h0 ws mc ms pc [] := fun H locs ls hP hD hS _ => X.2.2.2.2.2.2.2.2.2.2 pc ws H locs ls hB hP hD hS hd
-- contracts
def cg_Qc (D : va_G) (cy : Bool → ClassId) (h0 : Nat) (e0 : va_E) (B : va_W → Prop) (sz : Nat) : Array Value → State → Outcome → State → Prop := fun _ s oc t => (oc = .returned none ∧ ∃ w1 : va_W, B w1 ∧ va_P D vwCl w1 t.heap ∧ va_K D vwCl (tg_ty cy) t ∧ va_D (va_A [(h0, e0)] sz) w1) ∧ va_F (va_A [(h0, e0)] sz) s t
def cg_Met (l : Launch) (y : MethodName) (cc : ByteArray) (rm : Room) (D : va_G) (cy : Bool → ClassId) (tS h0 : Nat) (e0 : va_E) (B : va_W → Prop) (mc ms : Nat) : Prop :=
  ∀ sz : Nat, Met l y (.code y cc 1 none :: tg_gG) rm (va_Pc [.ref h0] (fun U => U.heap.size = sz ∧ va_P D vwCl [(h0, e0)] U.heap ∧ va_K D vwCl (tg_ty cy) U ∧ va_D (fun _ => True) [(h0, e0)] ∧ cg_Env U ∧ tg_Env (va_A [(h0, e0)] sz) U U.heap tS)) (cg_Qc D cy h0 e0 B sz) mc ms (va_A [(h0, e0)] sz)
theorem cg_mk {l : Launch} {y : MethodName} {D : va_G} {cy : Bool → ClassId} {tS : Nat} {e0 : va_E} (hy : plainName y.cls = true) (hy2 : y.name = "<init>")
    (body : ∀ (p : Program) (e : Env) (s : State) (m : MethodId) (args : Array Value) (below : List Frame) (meth : Method) (c : Code) (Q : State → Prop) (A : Nat → Prop), cg_M (p, l, e, rm, s, m, args, below, meth, c, Q, A, D, cy, (fun _ => 0), tS) cc y.cls rm B mc ms → cg_G (p, l, e, rm, s, m, args, below, meth, c, Q, A, D, cy, (fun _ => 0), tS) h0 [(h0, e0)] 0 0 0 []) : cg_Met l y cc rm D cy tS h0 e0 B mc ms := by
  intro sz
  refine Met.ofW (cc := cc) (maxL := 1) (ret := none) hy rfl ?_
  intro p e s m args below meth c s₁ B0 hml hv
  obtain ⟨rfl, hsz, hP, hK, hD0, hE⟩ := hv
  subst hsz
  have hts := atoms_spec (ws := (.code y cc 1 none :: tg_gG)) B0.pre
  have hown : s.vm.findClass y.cls = some m.cls := findClass_of_methodNamed B0.named
  have hlocks := B0.notSynchronized
  have hr := B0.returns
  have hin : meth.name = "<init>" := (name_of_methodNamed B0.named B0.method).1.trans hy2
  have hD := hD0.self (sz := s.heap.size)
  have hl := lv_entry [.ref h0] (n := 1) (Nat.le_of_ble_eq_true rfl)
  rw [lg_entry_eq]
  generalize (lg_sl [.ref h0] ++ List.replicate (1 - (lg_sl [.ref h0]).length) Slot.unset).toArray = ls at hl ⊢
  refine body p e s m [.ref h0].toArray below meth c (MQ below (cg_Qc D cy h0 e0 B s.heap.size) [.ref h0].toArray s mc ms (va_A [(h0, e0)] s.heap.size)) (va_A [(h0, e0)] s.heap.size) ⟨B0.exec, B0.bytes, hml, hown, fun w hw => hts w (List.mem_cons_of_mem _ hw), hK, fun q h => Or.inr h, rfl, hE, hin, ?_⟩ s.heap [] ls hP hD va_S.rf (by show lv_has ls c.maxLocals _; rw [hml]; exact hl)
  intro pc w1 H locs ls hB hP1 hD1 hS1 hd
  exact (show W p l e rm s m [.ref h0].toArray below meth c H locs mc ms (MQ below (cg_Qc D cy h0 e0 B s.heap.size) [.ref h0].toArray s mc ms (va_A [(h0, e0)] s.heap.size)) (F0 m pc ls []) from W.vret B0.exec B0.bytes hr (fun t ht hW => ⟨⟨rfl, w1, hB, by rw [ht]; exact hP1, va_K.moved hW.alike hK, hD1⟩, hS1.F ht⟩) hS1.2.2 hd)
/-- a constructor of a nest mate, private -/
theorem cg_callIN (X : cg_M x cc own rm B mc ms) {y : MethodName} {cc2 : ByteArray} {rm2 : Room} {q : Nat} {ec : va_E} {B2 : va_W → Prop} {mc2 ms2 index : Nat} {host : String} (hM : cg_Met (tg_l x) y cc2 rm2 (tg_D x) (tg_cy x) (tg_tS x) q ec B2 mc2 ms2) (hY : tg_Y0 y cc2 1 none 0) (hy : y.name = "<init>") (hI0 : Cond.instanceMethod y ∈ tg_gG) (hL : cg_Env (tg_s x) → va_Nw (.methodLinkNest own index y host) (tg_s x))
    (hR : rm2.cells = mc2 ∧ rm2.slots = ms2 ∧ rm2.frames + 1 ≤ rm.frames ∧ 8 + (1 + 11) + rm2.locals ≤ rm.locals) (hf : ce + mc2 ≤ rm.cells ∧ sl + ms2 ≤ rm.slots) (i : Nat) (isR : List Nat) {wr : va_W} (hC : ws[i]? = some (q, ec)) (hwr : isR.map (fun i => ws[i]?) = wr.map some) (hn : va_nd isR = true) (hdis : ∀ j ∈ isR, j ∉ [i]) (hW : (st.map fun v => v.category).sum ≤ 8) (hd : decode cc pc = .ok (.invokespecial index, 3))
    (k : ∀ w1, B2 w1 → cg_G x h0 (wr ++ w1) (ce + mc2) (sl + ms2) (pc + 3) st) : cg_G x h0 ws ce sl pc (.ref q :: st) := by
  intro H locs ls hP hD hS hl
  have hCl : [i].map (fun i => ws[i]?) = ([(q, ec)] : va_W).map some := by simp [hC]
  have hF := va_free hD hS X.2.2.2.2.2.2.1 [i] hCl
  have hPc : va_P (tg_D x) vwCl [(q, ec)] H := hP.sub [i] (by simp [hC])
  have hDc : va_D (tg_A x) [(q, ec)] := hD.sub [i] (by simp [va_nd]) hCl
  have hp : PreS (tg_s x) H (va_Pc [.ref q] (fun U => U.heap.size = H.size ∧ va_P (tg_D x) vwCl [(q, ec)] U.heap ∧ va_K (tg_D x) vwCl (tg_ty (tg_cy x)) U ∧ va_D (fun _ => True) [(q, ec)] ∧ cg_Env U ∧ tg_Env (va_A [(q, ec)] H.size) U U.heap (tg_tS x))) [.ref q] := by
    refine ⟨fun a U g mk h => ?_, fun U hU hW => ?_⟩
    · obtain ⟨g0, g1, qP, qK, qD, qE, qE2⟩ := h
      exact ⟨g0, g1, qP, va_K.moved (u := U) (U := U.calling g mk a) (Vm.Alike.refl U.vm) qK, qD, qE.calling, qE2.calling⟩
    · refine ⟨rfl, by rw [hU], by rw [hU]; exact hPc, va_K.moved hW.alike X.2.2.2.2.2.1, hDc.weaken (fun _ _ _ _ => trivial), cg_Env.kept hW X.2.2.2.2.2.2.2.2.1.1, ?_⟩
      rw [hU]
      exact tg_Env.kept hW hS.2.1 hF X.2.2.2.2.2.2.2.2.1.2
  have run := va_runIN (locs := locs) (cells := ce) (slots := sl) (p := tg_p x) (e := tg_en x) (R := tg_R x) (below := tg_below x) (meth := tg_meth x) (g := F0 (tg_m x) pc ls (.ref q :: st)) (rest := st) (Ts := tg_gG) (As := []) (n := 0) ⟨X.1, X.2.1, rfl, X.2.2.2.1, X.2.2.2.2.1⟩ (hM H.size) ⟨va_cnB (Ts := tg_gG) 0 X.2.2.2.2.1 (tg_GG (fun w h => h) (fun w h => by
      rcases List.mem_cons.mp h with rfl | h
      · exact hY.1
      · exact h)) rfl hR.1 hR.2.1 (hL X.2.2.2.2.2.2.2.2.1.1) (X.2.2.2.2.1 _ hY.2.1) hY.2.2 (by rw [X.2.2.2.2.2.2.2.1]; exact hR.2.2), hy, X.2.2.2.2.1 _ hI0⟩ hp rfl rfl hl.1 rfl (lv_room hW) hd (by rw [X.2.2.2.2.2.2.2.1]; exact hf)
  intro T hT X'
  obtain ⟨v, st₀, t, T', L, g0, X1, hLL, e1, e2, ⟨⟨hv, w1, hB, hP1, hK1, hD1⟩, hz, hk⟩, stp⟩ := run T hT X'
  cases hv
  rw [g0] at hz hk
  obtain ⟨jP, jD⟩ := va_join (wr := wr) (w1 := w1) (wc := [(q, ec)]) (H1 := T'.heap) hP hD [i] isR hCl hwr hn hdis (fun a h1 h2 => by rw [e1]; exact hk a h1 h2) hF (by rw [e1]; exact hP1) hD1
  obtain ⟨t2, a1, b1⟩ := k w1 hB T'.heap (locs ++ L) ls jP jD ⟨Nat.le_trans hS.1 (by rw [e1]; exact hz), fun a h1 h2 => by rw [e1, hk a (Nat.lt_of_lt_of_le h1 hS.1) (fun z => h2 (hF a z))]; exact hS.2.1 a h1 h2, fun a ha => by
      rcases List.mem_append.mp ha with h | h
      · exact hS.2.2 a h
      · exact hF _ (hLL a h)⟩ hl T' rfl X1
  exact ⟨t2, stp t2 a1, b1⟩
end CgRows
