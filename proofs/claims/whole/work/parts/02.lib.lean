-- ===== the library: a world of fixed shape (a template), its ints as one function S, and rows over it =====
abbrev tg_S : Type := Nat → Nat → Int32
abbrev tg_E : Type := (Bool × Nat) ⊕ (Nat × List (Option (Option Nat)))
def tg_v (ad : Nat → Nat) (row : Nat → Int32) (j : Nat) (f : Option (Option Nat)) : Value := match f with
  | none => .int (row j)
  | some none => .null
  | some (some r) => .ref (ad r)
def tg_fs (ad : Nat → Nat) (row : Nat → Int32) (fs : List (Option (Option Nat))) : List Value := fs.mapIdx (fun j f => tg_v ad row j f)
def tg_e (cy : Bool → ClassId) (ad : Nat → Nat) (row : Nat → Int32) (t : tg_E) : va_E := match t with
  | .inl (b, n) => .inl (cy b, n, .inl row)
  | .inr (ci, fs) => .inr (ci, tg_fs ad row fs)
def tg_w (cy : Bool → ClassId) (ta : List tg_E) (ad : Nat → Nat) (S : tg_S) : va_W := ta.mapIdx (fun k t => (ad k, tg_e cy ad (S k) t))
def tg_sw (S : tg_S) (k : Nat) (row : Nat → Int32) : tg_S := fun a => if a = k then row else S a
theorem tg_w_get {cy : Bool → ClassId} {ta : List tg_E} {ad : Nat → Nat} {S : tg_S} {k : Nat} {t : tg_E} (h : ta[k]? = some t) : (tg_w cy ta ad S)[k]? = some (ad k, tg_e cy ad (S k) t) := by
  simp [tg_w, h]
theorem tg_w_set {cy : Bool → ClassId} {ta : List tg_E} {ad : Nat → Nat} {S : tg_S} {k : Nat} {t : tg_E} (row : Nat → Int32) (h : ta[k]? = some t) : (tg_w cy ta ad S).set k (ad k, tg_e cy ad row t) = tg_w cy ta ad (tg_sw S k row) := by
  apply List.ext_getElem?
  intro i
  by_cases hi : i = k
  · subst hi
    have hlt : i < ta.length := (List.getElem?_eq_some_iff.mp h).1
    rw [List.getElem?_set_self (by simpa [tg_w] using hlt), tg_w_get h]
    simp [tg_sw]
  · simp [tg_w, tg_sw, List.getElem?_set, Ne.symm hi, hi]
theorem tg_fs_get {ad : Nat → Nat} {row : Nat → Int32} {fs : List (Option (Option Nat))} {j : Nat} {f : Option (Option Nat)} (h : fs[j]? = some f) : (tg_fs ad row fs)[j]? = some (tg_v ad row j f) := by
  simp [tg_fs, h]
theorem tg_fs_set {ad : Nat → Nat} {row : Nat → Int32} {fs : List (Option (Option Nat))} {j : Nat} (v : Int32) (h : fs[j]? = some none) : (tg_fs ad row fs).set j (.int v) = tg_fs ad (upd row j v) fs := by
  apply List.ext_getElem?
  intro i
  by_cases hi : i = j
  · subst hi
    have hlt : i < fs.length := (List.getElem?_eq_some_iff.mp h).1
    rw [List.getElem?_set_self (by simpa [tg_fs] using hlt), tg_fs_get h]
    simp [tg_v, upd]
  · have h1 : ∀ f, tg_v ad (upd row j v) i f = tg_v ad row i f := fun f => by
      cases f with
      | none => simp [tg_v, upd, hi]
      | some g => cases g <;> rfl
    simp [tg_fs, List.getElem?_set, Ne.symm hi, h1]
-- the words
def tg_gG : List Cond := lw_tbl.filter goodWord
theorem tg_mem {w : Cond} (h : w ∈ lw_tbl) (hg : goodWord w = true) : w ∈ tg_gG := List.mem_filter.mpr ⟨h, hg⟩
theorem tg_GG {big ws : List Cond} (h : ∀ w ∈ tg_gG, w ∈ big) (hw : ∀ w ∈ ws, w ∈ tg_gG) : GoodIn big ws := fun w h1 => ⟨h w (hw w h1), good_of_word (List.mem_filter.mp (hw w h1)).2⟩
-- the environment: nest words of two private calls, and the static row
def tg_Env (A : Nat → Prop) (U : State) (H : Heap) (t : Nat) : Prop := va_Nw (.methodLinkNest "TugOfWar$Events" 28 yX7_isBelow "TugOfWar") U ∧ va_Nw (.methodLinkNest "TugOfWar$Sheets" 25 yX7_isBelow "TugOfWar") U ∧ va_Z "TugOfWar" "DIGEST_BEATS" "[I" (.ref t) A U H ∧ va_T .int t 4 (fun j => .int (if j = 0 then 0 else if j = 1 then 5 else if j = 2 then 12 else 23)) A U H
theorem tg_Env.kept {t : Nat} {A B : Nat → Prop} {U U' : State} {H H1 : Heap} (hW : U.WarmedH U'.vm) (hq : ∀ a : Nat, a < H.size → ¬ A a → H1[a]? = H[a]?) (hAB : ∀ q, B q → A q) (h : tg_Env A U H t) : tg_Env B U' H1 t := by
  obtain ⟨h1, h2, h3, h4⟩ := h
  exact ⟨va_Nw.warmM hW h1, va_Nw.warmM hW h2, ((h3.moved hW.alike).kept hq).narrow hAB, ((h4.moved hW.alike).kept hq).narrow hAB⟩
theorem tg_Env.calling {t : Nat} {A : Nat → Prop} {U : State} {H : Heap} {g : JFrame} {mk : MethodId} {a : Array Value} (h : tg_Env A U H t) : tg_Env A (U.calling g mk a) H t := by
  obtain ⟨h1, h2, h3, h4⟩ := h
  exact ⟨va_Nw.same rfl rfl h1, va_Nw.same rfl rfl h2, h3.moved (U := U.calling g mk a) (Vm.Alike.refl U.vm), h4.moved (U := U.calling g mk a) (Vm.Alike.refl U.vm)⟩
-- the machine's context as one tuple
abbrev tg_X : Type := Program × Launch × Env × Room × State × MethodId × Array Value × List Frame × Method × Code × (State → Prop) × (Nat → Prop) × va_G × (Bool → ClassId) × (Nat → Nat) × Nat
abbrev tg_p (x : tg_X) : Program := x.1
abbrev tg_l (x : tg_X) : Launch := x.2.1
abbrev tg_en (x : tg_X) : Env := x.2.2.1
abbrev tg_R (x : tg_X) : Room := x.2.2.2.1
abbrev tg_s (x : tg_X) : State := x.2.2.2.2.1
abbrev tg_m (x : tg_X) : MethodId := x.2.2.2.2.2.1
abbrev tg_args (x : tg_X) : Array Value := x.2.2.2.2.2.2.1
abbrev tg_below (x : tg_X) : List Frame := x.2.2.2.2.2.2.2.1
abbrev tg_meth (x : tg_X) : Method := x.2.2.2.2.2.2.2.2.1
abbrev tg_c (x : tg_X) : Code := x.2.2.2.2.2.2.2.2.2.1
abbrev tg_Q (x : tg_X) : State → Prop := x.2.2.2.2.2.2.2.2.2.2.1
abbrev tg_A (x : tg_X) : Nat → Prop := x.2.2.2.2.2.2.2.2.2.2.2.1
abbrev tg_D (x : tg_X) : va_G := x.2.2.2.2.2.2.2.2.2.2.2.2.1
abbrev tg_cy (x : tg_X) : Bool → ClassId := x.2.2.2.2.2.2.2.2.2.2.2.2.2.1
def tg_ad (x : tg_X) : Nat → Nat := x.2.2.2.2.2.2.2.2.2.2.2.2.2.2.1
def tg_tS (x : tg_X) : Nat := x.2.2.2.2.2.2.2.2.2.2.2.2.2.2.2
abbrev tg_ty (cy : Bool → ClassId) : List (ClassId × FieldType) := [(cy false, .int), (cy true, .boolean)]
def tg_I (ta : List tg_E) (x : tg_X) (S : tg_S) (H : Heap) (locs : List Loc) : Prop := va_P (tg_D x) vwCl (tg_w (tg_cy x) ta (tg_ad x) S) H ∧ va_D (tg_A x) (tg_w (tg_cy x) ta (tg_ad x) S) ∧ va_S (tg_A x) (tg_s x).heap H locs
def tg_W (x : tg_X) (H : Heap) (locs : List Loc) (pc : Nat) (ls : Array Slot) (st : List Value) : Prop := W (tg_p x) (tg_l x) (tg_en x) (tg_R x) (tg_s x) (tg_m x) (tg_args x) (tg_below x) (tg_meth x) (tg_c x) H locs 0 0 (tg_Q x) (F0 (tg_m x) pc ls st)
def tg_G (ta : List tg_E) (x : tg_X) (S : tg_S) (pc : Nat) (lv : List (Nat × Value)) (st : List Value) : Prop := ∀ (H : Heap) (locs : List Loc) (ls : Array Slot), tg_I ta x S H locs → lv_has ls (tg_c x).maxLocals lv → tg_W x H locs pc ls st
def tg_ri (rv : Option Value) : Instr := match rv with
  | none => .return_
  | some (.long _) => .lreturn
  | _ => .ireturn
def tg_nok (rt : Option FieldType) (rv : Option Value) : Prop := match rv, rt with
  | some v, some ty => narrow ty v = v
  | _, _ => True
/-- what a method's walk knows -/
def tg_M (ta : List tg_E) (x : tg_X) (cc : ByteArray) (nL : Nat) (own : String) (rm : Room) (rt : Option FieldType) (Sf : tg_S) (rv : Option Value) : Prop :=
  (tg_p x).tables.exec = Jvm.exec ∧ (tg_c x).code = cc ∧ (tg_c x).maxLocals = nL ∧ (tg_s x).vm.findClass own = some (tg_m x).cls ∧ (∀ w ∈ tg_gG, w.before (tg_args x) (tg_s x) = true) ∧ va_K (tg_D x) vwCl (tg_ty (tg_cy x)) (tg_s x) ∧ (∀ q : Nat, (tg_s x).heap.size ≤ q → tg_A x q) ∧ tg_R x = rm ∧ tg_Env (tg_A x) (tg_s x) (tg_s x).heap (tg_tS x) ∧
  ∀ (pc : Nat) (H : Heap) (locs : List Loc) (ls : Array Slot), tg_I ta x Sf H locs → tg_nok rt rv → decode cc pc = .ok (tg_ri rv, 1) → tg_W x H locs pc ls rv.toList
-- pure programs
def tg_max (a b : Int32) : Int32 := if a < b then b else a
def tg_min (a b : Int32) : Int32 := if b < a then b else a
def tg_cb2 (sp dp n : Int32) (n0 n1 : Nat) : Bool := decide (¬ sp < 0 ∧ ¬ dp < 0 ∧ ¬ n < 0 ∧ sp.toNatClampNeg + n.toNatClampNeg ≤ n0 ∧ dp.toNatClampNeg + n.toNatClampNeg ≤ n1)
def tg_db (i : Int32) : Int32 := if i.toNatClampNeg = 0 then 0 else if i.toNatClampNeg = 1 then 5 else if i.toNatClampNeg = 2 then 12 else 23
def tg_nm {a b : Type} (e : a) (k : a → b) : b := k e
theorem tg_nmE {a b : Type} {e y : a} {k : a → b} {r : b} (hy : y = e) (h : tg_nm e k = r) : k y = r := by subst hy; exact h
def tg_ib (i : Int32) (n : Nat) : Bool := decide (¬ (i < 0 ∨ n ≤ i.toNatClampNeg))
def tg_ck {a : Type} (b : Bool) (k : Option a) : Option a := cond b k none
theorem tg_ckE {a : Type} {b : Bool} {k : Option a} {r : a} (h : tg_ck b k = some r) : b = true ∧ k = some r := by
  cases b with
  | false => exact absurd h (by simp [tg_ck])
  | true => exact ⟨rfl, h⟩
theorem tg_ibE {i : Int32} {n : Nat} (h : tg_ib i n = true) : vp_in i n := by unfold tg_ib at h; unfold vp_in; exact of_decide_eq_true h
def tg_bd {a b : Type} (o : Option (tg_S × a)) (k : tg_S → a → Option b) : Option b := match o with
  | none => none
  | some (S, r) => k S r
theorem tg_bdE {a b : Type} {o : Option (tg_S × a)} {k : tg_S → a → Option b} {r : b} (h : tg_bd o k = some r) : ∃ (S : tg_S) (q : a), o = some (S, q) ∧ k S q = some r := by
  cases o with
  | none => cases h
  | some z => exact ⟨z.1, z.2, rfl, h⟩
def tg_bv {b : Type} (o : Option tg_S) (k : tg_S → Option b) : Option b := match o with
  | none => none
  | some S => k S
theorem tg_bvE {b : Type} {o : Option tg_S} {k : tg_S → Option b} {r : b} (h : tg_bv o k = some r) : ∃ S : tg_S, o = some S ∧ k S = some r := by
  cases o with
  | none => cases h
  | some z => exact ⟨z, rfl, h⟩
def tg_if {a : Type} (c : Prop) [Decidable c] (t e : a) : a := if c then t else e
theorem tg_ifT {a : Type} {c : Prop} [Decidable c] {t e r : a} (hc : c) (h : tg_if c t e = r) : t = r := by rw [← h, tg_if, if_pos hc]
theorem tg_ifF {a : Type} {c : Prop} [Decidable c] {t e r : a} (hc : ¬ c) (h : tg_if c t e = r) : e = r := by rw [← h, tg_if, if_neg hc]
def tg_rd {a : Type} (S : tg_S) (k n : Nat) (i : Int32) (K : Int32 → Option a) : Option a := tg_ck (tg_ib i n) (K (S k i.toNatClampNeg))
theorem tg_rdE {a : Type} {S : tg_S} {k n : Nat} {i : Int32} {K : Int32 → Option a} {r : a} (h : tg_rd S k n i K = some r) : ∃ y : Int32, y = S k i.toNatClampNeg ∧ vp_in i n ∧ K y = some r := by
  obtain ⟨h1, h2⟩ := tg_ckE h
  exact ⟨_, rfl, tg_ibE h1, h2⟩
def tg_rs {a : Type} (i : Int32) (K : Int32 → Option a) : Option a := tg_ck (tg_ib i 4) (K (tg_db i))
theorem tg_rsE {a : Type} {i : Int32} {K : Int32 → Option a} {r : a} (h : tg_rs i K = some r) : ∃ y : Int32, y = tg_db i ∧ vp_in i 4 ∧ K y = some r := by
  obtain ⟨h1, h2⟩ := tg_ckE h
  exact ⟨_, rfl, tg_ibE h1, h2⟩
def tg_wr {a : Type} (S : tg_S) (k n : Nat) (i v : Int32) (K : tg_S → Option a) : Option a := tg_ck (tg_ib i n) (K (tg_sw S k (upd (S k) i.toNatClampNeg v)))
theorem tg_wrE {a : Type} {S : tg_S} {k n : Nat} {i v : Int32} {K : tg_S → Option a} {r : a} (h : tg_wr S k n i v K = some r) : ∃ S2 : tg_S, S2 = tg_sw S k (upd (S k) i.toNatClampNeg v) ∧ vp_in i n ∧ K S2 = some r := by
  obtain ⟨h1, h2⟩ := tg_ckE h
  exact ⟨_, rfl, tg_ibE h1, h2⟩
def tg_wz {a : Type} (S : tg_S) (k n : Nat) (i v : Int32) (K : tg_S → Option a) : Option a := tg_ck (tg_ib i n) (K (tg_sw S k (upd (S k) i.toNatClampNeg (vp_nar .boolean v))))
theorem tg_wzE {a : Type} {S : tg_S} {k n : Nat} {i v : Int32} {K : tg_S → Option a} {r : a} (h : tg_wz S k n i v K = some r) : ∃ S2 : tg_S, S2 = tg_sw S k (upd (S k) i.toNatClampNeg (vp_nar .boolean v)) ∧ vp_in i n ∧ K S2 = some r := by
  obtain ⟨h1, h2⟩ := tg_ckE h
  exact ⟨_, rfl, tg_ibE h1, h2⟩
def tg_pf {a : Type} (S : tg_S) (k j : Nat) (v : Int32) (K : tg_S → Option a) : Option a := K (tg_sw S k (upd (S k) j v))
theorem tg_pfE {a : Type} {S : tg_S} {k j : Nat} {v : Int32} {K : tg_S → Option a} {r : a} (h : tg_pf S k j v K = some r) : ∃ S2 : tg_S, S2 = tg_sw S k (upd (S k) j v) ∧ K S2 = some r := ⟨_, rfl, h⟩
def tg_cp {a : Type} (S : tg_S) (k0 k1 n0 n1 : Nat) (sp dp n : Int32) (K : tg_S → Option a) : Option a := tg_ck (tg_cb2 sp dp n n0 n1) (K (tg_sw S k1 (va_cpy (S k0) (S k1) sp.toNatClampNeg dp.toNatClampNeg n.toNatClampNeg)))
theorem tg_cpE {a : Type} {S : tg_S} {k0 k1 n0 n1 : Nat} {sp dp n : Int32} {K : tg_S → Option a} {r : a} (h : tg_cp S k0 k1 n0 n1 sp dp n K = some r) : ∃ S2 : tg_S, S2 = tg_sw S k1 (va_cpy (S k0) (S k1) sp.toNatClampNeg dp.toNatClampNeg n.toNatClampNeg) ∧ tg_cb2 sp dp n n0 n1 = true ∧ K S2 = some r := by
  obtain ⟨h1, h2⟩ := tg_ckE h
  exact ⟨_, rfl, h1, h2⟩
def tg_bz {a : Type} (v : Int32) (k : Option a) : Option a := tg_ck (decide (v = 0 ∨ v = 1)) k
theorem tg_bzE {a : Type} {v : Int32} {k : Option a} {r : a} (h : tg_bz v k = some r) : tg_nok (some .boolean) (some (.int v)) ∧ k = some r := by
  obtain ⟨h1, h2⟩ := tg_ckE h
  rcases of_decide_eq_true h1 with rfl | rfl
  · exact ⟨rfl, h2⟩
  · exact ⟨rfl, h2⟩
def tg_F : Nat := 1000
section TgRows
variable {ta : List tg_E} {x : tg_X} {cc : ByteArray} {nL : Nat} {own : String} {rm : Room} {rt : Option FieldType} {Sf : tg_S} {rv : Option Value} {S : tg_S} {pc : Nat} {lv : List (Nat × Value)} {st : List Value}
theorem tg_iadd (X : tg_M ta x cc nL own rm rt Sf rv) {a b : Int32} (hd : decode cc pc = .ok (.iadd, 1)) (k : tg_G ta x S (pc + 1) lv (.int (a + b) :: st)) : tg_G ta x S pc lv (.int b :: .int a :: st) := fun H locs ls hI hl => lv_iadd X.1 X.2.1 hd (k H locs ls hI hl)
theorem tg_isub (X : tg_M ta x cc nL own rm rt Sf rv) {a b : Int32} (hd : decode cc pc = .ok (.isub, 1)) (k : tg_G ta x S (pc + 1) lv (.int (a - b) :: st)) : tg_G ta x S pc lv (.int b :: .int a :: st) := fun H locs ls hI hl => lv_isub X.1 X.2.1 hd (k H locs ls hI hl)
theorem tg_imul (X : tg_M ta x cc nL own rm rt Sf rv) {a b : Int32} (hd : decode cc pc = .ok (.imul, 1)) (k : tg_G ta x S (pc + 1) lv (.int (a * b) :: st)) : tg_G ta x S pc lv (.int b :: .int a :: st) := fun H locs ls hI hl => lv_imul X.1 X.2.1 hd (k H locs ls hI hl)
theorem tg_iand (X : tg_M ta x cc nL own rm rt Sf rv) {a b : Int32} (hd : decode cc pc = .ok (.iand, 1)) (k : tg_G ta x S (pc + 1) lv (.int (a &&& b) :: st)) : tg_G ta x S pc lv (.int b :: .int a :: st) := fun H locs ls hI hl => lv_iand X.1 X.2.1 hd (k H locs ls hI hl)
theorem tg_ior (X : tg_M ta x cc nL own rm rt Sf rv) {a b : Int32} (hd : decode cc pc = .ok (.ior, 1)) (k : tg_G ta x S (pc + 1) lv (.int (a ||| b) :: st)) : tg_G ta x S pc lv (.int b :: .int a :: st) := fun H locs ls hI hl => lv_ior X.1 X.2.1 hd (k H locs ls hI hl)
theorem tg_ladd (X : tg_M ta x cc nL own rm rt Sf rv) {a b : Int64} (hd : decode cc pc = .ok (.ladd, 1)) (k : tg_G ta x S (pc + 1) lv (.long (a + b) :: st)) : tg_G ta x S pc lv (.long b :: .long a :: st) := fun H locs ls hI hl => lv_ladd X.1 X.2.1 hd (k H locs ls hI hl)
theorem tg_lsub (X : tg_M ta x cc nL own rm rt Sf rv) {a b : Int64} (hd : decode cc pc = .ok (.lsub, 1)) (k : tg_G ta x S (pc + 1) lv (.long (a - b) :: st)) : tg_G ta x S pc lv (.long b :: .long a :: st) := fun H locs ls hI hl => lv_lsub X.1 X.2.1 hd (k H locs ls hI hl)
theorem tg_lmul (X : tg_M ta x cc nL own rm rt Sf rv) {a b : Int64} (hd : decode cc pc = .ok (.lmul, 1)) (k : tg_G ta x S (pc + 1) lv (.long (a * b) :: st)) : tg_G ta x S pc lv (.long b :: .long a :: st) := fun H locs ls hI hl => lv_lmul X.1 X.2.1 hd (k H locs ls hI hl)
theorem tg_idiv (X : tg_M ta x cc nL own rm rt Sf rv) {a b : Int32} (hd : decode cc pc = .ok (.idiv, 1)) (h0 : ¬ b = 0) (k : tg_G ta x S (pc + 1) lv (.int (a / b) :: st)) : tg_G ta x S pc lv (.int b :: .int a :: st) := fun H locs ls hI hl => lv_idiv X.1 X.2.1 hd h0 (k H locs ls hI hl)
theorem tg_irem (X : tg_M ta x cc nL own rm rt Sf rv) {a b : Int32} (hd : decode cc pc = .ok (.irem, 1)) (h0 : ¬ b = 0) (k : tg_G ta x S (pc + 1) lv (.int (a - a / b * b) :: st)) : tg_G ta x S pc lv (.int b :: .int a :: st) := fun H locs ls hI hl => lv_irem X.1 X.2.1 hd h0 (k H locs ls hI hl)
theorem tg_ldiv (X : tg_M ta x cc nL own rm rt Sf rv) {a b : Int64} (hd : decode cc pc = .ok (.ldiv, 1)) (h0 : ¬ b = 0) (k : tg_G ta x S (pc + 1) lv (.long (a / b) :: st)) : tg_G ta x S pc lv (.long b :: .long a :: st) := fun H locs ls hI hl => lv_ldiv X.1 X.2.1 hd h0 (k H locs ls hI hl)
theorem tg_lrem (X : tg_M ta x cc nL own rm rt Sf rv) {a b : Int64} (hd : decode cc pc = .ok (.lrem, 1)) (h0 : ¬ b = 0) (k : tg_G ta x S (pc + 1) lv (.long (a - a / b * b) :: st)) : tg_G ta x S pc lv (.long b :: .long a :: st) := fun H locs ls hI hl => lv_lrem X.1 X.2.1 hd h0 (k H locs ls hI hl)
theorem tg_ishl (X : tg_M ta x cc nL own rm rt Sf rv) {a b : Int32} (hd : decode cc pc = .ok (.ishl, 1)) (k : tg_G ta x S (pc + 1) lv (.int (a <<< (b &&& 31)) :: st)) : tg_G ta x S pc lv (.int b :: .int a :: st) := fun H locs ls hI hl => lv_ishl X.1 X.2.1 hd (k H locs ls hI hl)
theorem tg_ishr (X : tg_M ta x cc nL own rm rt Sf rv) {a b : Int32} (hd : decode cc pc = .ok (.ishr, 1)) (k : tg_G ta x S (pc + 1) lv (.int (a >>> (b &&& 31)) :: st)) : tg_G ta x S pc lv (.int b :: .int a :: st) := fun H locs ls hI hl => lv_ishr X.1 X.2.1 hd (k H locs ls hI hl)
theorem tg_iushr (X : tg_M ta x cc nL own rm rt Sf rv) {a b : Int32} (hd : decode cc pc = .ok (.iushr, 1)) (k : tg_G ta x S (pc + 1) lv (.int ((a.toUInt32 >>> (b.toUInt32 &&& Int32.toUInt32 31)).toInt32) :: st)) : tg_G ta x S pc lv (.int b :: .int a :: st) := fun H locs ls hI hl => lv_iushr X.1 X.2.1 hd rfl (k H locs ls hI hl)
theorem tg_lshl (X : tg_M ta x cc nL own rm rt Sf rv) {a : Int64} {b : Int32} (hd : decode cc pc = .ok (.lshl, 1)) (k : tg_G ta x S (pc + 1) lv (.long (a <<< (b.toInt64 &&& 63)) :: st)) : tg_G ta x S pc lv (.int b :: .long a :: st) := fun H locs ls hI hl => lv_lshl X.1 X.2.1 hd rfl (k H locs ls hI hl)
theorem tg_lcmp (X : tg_M ta x cc nL own rm rt Sf rv) {a b : Int64} (hd : decode cc pc = .ok (.lcmp, 1)) (k : tg_G ta x S (pc + 1) lv (.int (lg_cmp a b) :: st)) : tg_G ta x S pc lv (.long b :: .long a :: st) := fun H locs ls hI hl => W.lcmp X.1 X.2.1 hd (k H locs ls hI hl)
theorem tg_ineg (X : tg_M ta x cc nL own rm rt Sf rv) {a : Int32} (hd : decode cc pc = .ok (.ineg, 1)) (k : tg_G ta x S (pc + 1) lv (.int (-a) :: st)) : tg_G ta x S pc lv (.int a :: st) := fun H locs ls hI hl => lv_ineg X.1 X.2.1 hd (k H locs ls hI hl)
theorem tg_i2l (X : tg_M ta x cc nL own rm rt Sf rv) {a : Int32} (hd : decode cc pc = .ok (.i2l, 1)) (k : tg_G ta x S (pc + 1) lv (.long (a.toInt64) :: st)) : tg_G ta x S pc lv (.int a :: st) := fun H locs ls hI hl => lv_i2l X.1 X.2.1 hd rfl (k H locs ls hI hl)
theorem tg_i2b (X : tg_M ta x cc nL own rm rt Sf rv) {a : Int32} (hd : decode cc pc = .ok (.i2b, 1)) (k : tg_G ta x S (pc + 1) lv (.int (a.toInt8.toInt32) :: st)) : tg_G ta x S pc lv (.int a :: st) := fun H locs ls hI hl => lv_i2b X.1 X.2.1 hd rfl (k H locs ls hI hl)
theorem tg_i2s (X : tg_M ta x cc nL own rm rt Sf rv) {a : Int32} (hd : decode cc pc = .ok (.i2s, 1)) (k : tg_G ta x S (pc + 1) lv (.int (a.toInt16.toInt32) :: st)) : tg_G ta x S pc lv (.int a :: st) := fun H locs ls hI hl => lv_i2s X.1 X.2.1 hd rfl (k H locs ls hI hl)
theorem tg_iconst (X : tg_M ta x cc nL own rm rt Sf rv) {n : Int} {v : Int32} (hd : decode cc pc = .ok (.iconst n, 1)) (hv : Int32.ofInt n = v) (k : tg_G ta x S (pc + 1) lv (.int v :: st)) : tg_G ta x S pc lv st := fun H locs ls hI hl => lv_iconst X.1 X.2.1 hd hv (k H locs ls hI hl)
theorem tg_bipush (X : tg_M ta x cc nL own rm rt Sf rv) {n : Int} {v : Int32} (hd : decode cc pc = .ok (.bipush n, 2)) (hv : (Int8.ofInt n).toInt32 = v) (k : tg_G ta x S (pc + 2) lv (.int v :: st)) : tg_G ta x S pc lv st := fun H locs ls hI hl => lv_bipush X.1 X.2.1 hd hv (k H locs ls hI hl)
theorem tg_sipush (X : tg_M ta x cc nL own rm rt Sf rv) {n : Int} {v : Int32} (hd : decode cc pc = .ok (.sipush n, 3)) (hv : (Int16.ofInt n).toInt32 = v) (k : tg_G ta x S (pc + 3) lv (.int v :: st)) : tg_G ta x S pc lv st := fun H locs ls hI hl => lv_sipush X.1 X.2.1 hd hv (k H locs ls hI hl)
theorem tg_lconst (X : tg_M ta x cc nL own rm rt Sf rv) {n : Fin 2} {v : Int64} (hd : decode cc pc = .ok (.lconst n, 1)) (hv : Int64.ofNat (n : Nat) = v) (k : tg_G ta x S (pc + 1) lv (.long v :: st)) : tg_G ta x S pc lv st := fun H locs ls hI hl => lv_lconst X.1 X.2.1 hd hv (k H locs ls hI hl)
theorem tg_ldc (X : tg_M ta x cc nL own rm rt Sf rv) {index : Nat} {v : Int32} (hw : Cond.constant own index v ∈ tg_gG) (hd : decode cc pc = .ok (.ldc index, 2)) (k : tg_G ta x S (pc + 2) lv (.int v :: st)) : tg_G ta x S pc lv st := fun H locs ls hI hl => lv_ldc X.1 X.2.1 X.2.2.2.1 (X.2.2.2.2.1 _ hw) hd (k H locs ls hI hl)
theorem tg_ldcw (X : tg_M ta x cc nL own rm rt Sf rv) {index : Nat} {v : Int32} (hw : Cond.constant own index v ∈ tg_gG) (hd : decode cc pc = .ok (.ldc_w index, 3)) (k : tg_G ta x S (pc + 3) lv (.int v :: st)) : tg_G ta x S pc lv st := fun H locs ls hI hl => lv_ldcw X.1 X.2.1 X.2.2.2.1 (X.2.2.2.2.1 _ hw) hd (k H locs ls hI hl)
theorem tg_ldc2 (X : tg_M ta x cc nL own rm rt Sf rv) {index : Nat} {v : Int64} (hw : Cond.constantLong own index v ∈ tg_gG) (hd : decode cc pc = .ok (.ldc2_w index, 3)) (k : tg_G ta x S (pc + 3) lv (.long v :: st)) : tg_G ta x S pc lv st := fun H locs ls hI hl => lv_ldc2 X.1 X.2.1 X.2.2.2.1 (X.2.2.2.2.1 _ hw) hd (k H locs ls hI hl)
theorem tg_iload_n (X : tg_M ta x cc nL own rm rt Sf rv) {k : Fin 4} {i : Nat} {a : Int32} (hd : decode cc pc = .ok (.iload_n k, 1)) (hi : (k : Nat) = i) (q : Nat) (hq : lv[q]? = some (i, .int a)) (kk : tg_G ta x S (pc + 1) lv (.int a :: st)) : tg_G ta x S pc lv st := fun H locs ls hI hl => lv_iload_n X.1 X.2.1 hd hi (lv_at hl q hq) (kk H locs ls hI hl)
theorem tg_iload (X : tg_M ta x cc nL own rm rt Sf rv) {i : Nat} {a : Int32} (hd : decode cc pc = .ok (.iload i, 2)) (q : Nat) (hq : lv[q]? = some (i, .int a)) (kk : tg_G ta x S (pc + 2) lv (.int a :: st)) : tg_G ta x S pc lv st := fun H locs ls hI hl => lv_iload X.1 X.2.1 hd (lv_at hl q hq) (kk H locs ls hI hl)
theorem tg_istore_n (X : tg_M ta x cc nL own rm rt Sf rv) {k : Fin 4} {i : Nat} {a : Int32} {lv2 : List (Nat × Value)} (hd : decode cc pc = .ok (.istore_n k, 1)) (hi : (k : Nat) = i) (hn : i < nL) (hl2 : (i, Value.int a) :: lv.filter (fun q => !(q.1 == i) && !(q.1 + 1 == i && q.2.category == 2)) = lv2) (kk : tg_G ta x S (pc + 1) lv2 st) : tg_G ta x S pc lv (.int a :: st) := fun H locs ls hI hl => lv_istore_n X.1 X.2.1 hd hi hl (by rw [X.2.2.1]; exact hn) hl2 (fun ls2 hl3 => kk H locs ls2 hI hl3)
theorem tg_istore (X : tg_M ta x cc nL own rm rt Sf rv) {i : Nat} {a : Int32} {lv2 : List (Nat × Value)} (hd : decode cc pc = .ok (.istore i, 2)) (hn : i < nL) (hl2 : (i, Value.int a) :: lv.filter (fun q => !(q.1 == i) && !(q.1 + 1 == i && q.2.category == 2)) = lv2) (kk : tg_G ta x S (pc + 2) lv2 st) : tg_G ta x S pc lv (.int a :: st) := fun H locs ls hI hl => lv_istore X.1 X.2.1 hd hl (by rw [X.2.2.1]; exact hn) hl2 (fun ls2 hl3 => kk H locs ls2 hI hl3)
theorem tg_lload_n (X : tg_M ta x cc nL own rm rt Sf rv) {k : Fin 4} {i : Nat} {a : Int64} (hd : decode cc pc = .ok (.lload_n k, 1)) (hi : (k : Nat) = i) (q : Nat) (hq : lv[q]? = some (i, .long a)) (kk : tg_G ta x S (pc + 1) lv (.long a :: st)) : tg_G ta x S pc lv st := fun H locs ls hI hl => lv_lload_n X.1 X.2.1 hd hi (lv_at hl q hq) (kk H locs ls hI hl)
theorem tg_lload (X : tg_M ta x cc nL own rm rt Sf rv) {i : Nat} {a : Int64} (hd : decode cc pc = .ok (.lload i, 2)) (q : Nat) (hq : lv[q]? = some (i, .long a)) (kk : tg_G ta x S (pc + 2) lv (.long a :: st)) : tg_G ta x S pc lv st := fun H locs ls hI hl => lv_lload X.1 X.2.1 hd (lv_at hl q hq) (kk H locs ls hI hl)
theorem tg_lstore_n (X : tg_M ta x cc nL own rm rt Sf rv) {k : Fin 4} {i : Nat} {a : Int64} {lv2 : List (Nat × Value)} (hd : decode cc pc = .ok (.lstore_n k, 1)) (hi : (k : Nat) = i) (hn : i + 1 < nL) (hl2 : (i, Value.long a) :: lv.filter (fun q => !(q.1 == i) && (!(q.1 == i + 1) && !(q.1 + 1 == i && q.2.category == 2))) = lv2) (kk : tg_G ta x S (pc + 1) lv2 st) : tg_G ta x S pc lv (.long a :: st) := fun H locs ls hI hl => lv_lstore_n X.1 X.2.1 hd hi hl (by rw [X.2.2.1]; exact hn) hl2 (fun ls2 hl3 => kk H locs ls2 hI hl3)
theorem tg_lstore (X : tg_M ta x cc nL own rm rt Sf rv) {i : Nat} {a : Int64} {lv2 : List (Nat × Value)} (hd : decode cc pc = .ok (.lstore i, 2)) (hn : i + 1 < nL) (hl2 : (i, Value.long a) :: lv.filter (fun q => !(q.1 == i) && (!(q.1 == i + 1) && !(q.1 + 1 == i && q.2.category == 2))) = lv2) (kk : tg_G ta x S (pc + 2) lv2 st) : tg_G ta x S pc lv (.long a :: st) := fun H locs ls hI hl => lv_lstore X.1 X.2.1 hd hl (by rw [X.2.2.1]; exact hn) hl2 (fun ls2 hl3 => kk H locs ls2 hI hl3)
theorem tg_aload_n (X : tg_M ta x cc nL own rm rt Sf rv) {k : Fin 4} {i : Nat} {a : Nat} (hd : decode cc pc = .ok (.aload_n k, 1)) (hi : (k : Nat) = i) (q : Nat) (hq : lv[q]? = some (i, .ref a)) (kk : tg_G ta x S (pc + 1) lv (.ref a :: st)) : tg_G ta x S pc lv st := fun H locs ls hI hl => lv_aload_n X.1 X.2.1 hd hi (lv_at hl q hq) (kk H locs ls hI hl)
theorem tg_aload (X : tg_M ta x cc nL own rm rt Sf rv) {i : Nat} {a : Nat} (hd : decode cc pc = .ok (.aload i, 2)) (q : Nat) (hq : lv[q]? = some (i, .ref a)) (kk : tg_G ta x S (pc + 2) lv (.ref a :: st)) : tg_G ta x S pc lv st := fun H locs ls hI hl => lv_aload X.1 X.2.1 hd (lv_at hl q hq) (kk H locs ls hI hl)
theorem tg_astore_n (X : tg_M ta x cc nL own rm rt Sf rv) {k : Fin 4} {i : Nat} {a : Nat} {lv2 : List (Nat × Value)} (hd : decode cc pc = .ok (.astore_n k, 1)) (hi : (k : Nat) = i) (hn : i < nL) (hl2 : (i, Value.ref a) :: lv.filter (fun q => !(q.1 == i) && !(q.1 + 1 == i && q.2.category == 2)) = lv2) (kk : tg_G ta x S (pc + 1) lv2 st) : tg_G ta x S pc lv (.ref a :: st) := fun H locs ls hI hl => lv_astore_n X.1 X.2.1 hd hi hl (by rw [X.2.2.1]; exact hn) hl2 (fun ls2 hl3 => kk H locs ls2 hI hl3)
theorem tg_astore (X : tg_M ta x cc nL own rm rt Sf rv) {i : Nat} {a : Nat} {lv2 : List (Nat × Value)} (hd : decode cc pc = .ok (.astore i, 2)) (hn : i < nL) (hl2 : (i, Value.ref a) :: lv.filter (fun q => !(q.1 == i) && !(q.1 + 1 == i && q.2.category == 2)) = lv2) (kk : tg_G ta x S (pc + 2) lv2 st) : tg_G ta x S pc lv (.ref a :: st) := fun H locs ls hI hl => lv_astore X.1 X.2.1 hd hl (by rw [X.2.2.1]; exact hn) hl2 (fun ls2 hl3 => kk H locs ls2 hI hl3)
theorem tg_iinc (X : tg_M ta x cc nL own rm rt Sf rv) {i : Nat} {n : Int} {a y cst : Int32} {lv2 : List (Nat × Value)} (hd : decode cc pc = .ok (.iinc i n, 3)) (q : Nat) (hq : lv[q]? = some (i, .int a)) (hc : Int32.ofInt n = cst) (hy : y = a + cst) (hn : i < nL) (hl2 : (i, Value.int y) :: lv.filter (fun q => !(q.1 == i) && !(q.1 + 1 == i && q.2.category == 2)) = lv2) (kk : tg_G ta x S (pc + 3) lv2 st) : tg_G ta x S pc lv st := fun H locs ls hI hl => lv_iinc X.1 X.2.1 hd hl hq (by rw [hc]; exact hy.symm) (by rw [X.2.2.1]; exact hn) hl2 (fun ls2 hl3 => kk H locs ls2 hI hl3)
theorem tg_topi {a : Int32} (k : ∀ y : Int32, y = a → tg_G ta x S pc lv (.int y :: st)) : tg_G ta x S pc lv (.int a :: st) := k a rfl
theorem tg_topl {a : Int64} (k : ∀ y : Int64, y = a → tg_G ta x S pc lv (.long y :: st)) : tg_G ta x S pc lv (.long a :: st) := k a rfl
theorem tg_re (ks : List Nat) {lv2 : List (Nat × Value)} (h : lv_pick lv ks = lv2) (k : tg_G ta x S pc lv2 st) : tg_G ta x S pc lv st := fun H locs ls hI hl => k H locs ls hI (lv_sub hl ks h)
theorem tg_dup (X : tg_M ta x cc nL own rm rt Sf rv) {v : Value} (hd : decode cc pc = .ok (.dup, 1)) (hv : v.category = 1) (k : tg_G ta x S (pc + 1) lv (v :: v :: st)) : tg_G ta x S pc lv (v :: st) := fun H locs ls hI hl => lv_dup X.1 X.2.1 hd hv (k H locs ls hI hl)
theorem tg_pop (X : tg_M ta x cc nL own rm rt Sf rv) {v : Value} (hd : decode cc pc = .ok (.pop, 1)) (hv : v.category = 1) (k : tg_G ta x S (pc + 1) lv st) : tg_G ta x S pc lv (v :: st) := fun H locs ls hI hl => lv_pop X.1 X.2.1 hd hv (k H locs ls hI hl)
theorem tg_dup2 (X : tg_M ta x cc nL own rm rt Sf rv) {v w : Value} (hd : decode cc pc = .ok (.dup2, 1)) (hv : v.category = 1) (hw : w.category = 1) (k : tg_G ta x S (pc + 1) lv (v :: w :: v :: w :: st)) : tg_G ta x S pc lv (v :: w :: st) := fun H locs ls hI hl => lv_dup2_11 X.1 X.2.1 hd hv hw (k H locs ls hI hl)
theorem tg_goto (X : tg_M ta x cc nL own rm rt Sf rv) {off : Int} {tgt : Nat} (hd : decode cc pc = .ok (.goto off, 3)) (ht : (pc : Int) + off = (tgt : Int)) (k : tg_G ta x S tgt lv st) : tg_G ta x S pc lv st := fun H locs ls hI hl => lv_goto X.1 X.2.1 hd ht (k H locs ls hI hl)
theorem tg_if_eq (X : tg_M ta x cc nL own rm rt Sf rv) {a : Int32} {off : Int} {tgt : Nat} (hd : decode cc pc = .ok (.ifCond .eq off, 3)) (ht : (pc : Int) + off = (tgt : Int)) (kt : a = 0 → tg_G ta x S tgt lv st) (kf : ¬ a = 0 → tg_G ta x S (pc + 3) lv st) : tg_G ta x S pc lv (.int a :: st) := fun H locs ls hI hl => lv_if_eq X.1 X.2.1 hd ht (fun h => kt h H locs ls hI hl) (fun h => kf h H locs ls hI hl)
theorem tg_icmp_eq (X : tg_M ta x cc nL own rm rt Sf rv) {a b : Int32} {off : Int} {tgt : Nat} (hd : decode cc pc = .ok (.if_icmp .eq off, 3)) (ht : (pc : Int) + off = (tgt : Int)) (kt : a = b → tg_G ta x S tgt lv st) (kf : ¬ a = b → tg_G ta x S (pc + 3) lv st) : tg_G ta x S pc lv (.int b :: .int a :: st) := fun H locs ls hI hl => lv_icmp_eq X.1 X.2.1 hd ht (fun h => kt h H locs ls hI hl) (fun h => kf h H locs ls hI hl)
theorem tg_if_ne (X : tg_M ta x cc nL own rm rt Sf rv) {a : Int32} {off : Int} {tgt : Nat} (hd : decode cc pc = .ok (.ifCond .ne off, 3)) (ht : (pc : Int) + off = (tgt : Int)) (kt : ¬ a = 0 → tg_G ta x S tgt lv st) (kf : a = 0 → tg_G ta x S (pc + 3) lv st) : tg_G ta x S pc lv (.int a :: st) := fun H locs ls hI hl => lv_if_ne X.1 X.2.1 hd ht (fun h => kt h H locs ls hI hl) (fun h => kf h H locs ls hI hl)
theorem tg_icmp_ne (X : tg_M ta x cc nL own rm rt Sf rv) {a b : Int32} {off : Int} {tgt : Nat} (hd : decode cc pc = .ok (.if_icmp .ne off, 3)) (ht : (pc : Int) + off = (tgt : Int)) (kt : ¬ a = b → tg_G ta x S tgt lv st) (kf : a = b → tg_G ta x S (pc + 3) lv st) : tg_G ta x S pc lv (.int b :: .int a :: st) := fun H locs ls hI hl => lv_icmp_ne X.1 X.2.1 hd ht (fun h => kt h H locs ls hI hl) (fun h => kf h H locs ls hI hl)
theorem tg_if_lt (X : tg_M ta x cc nL own rm rt Sf rv) {a : Int32} {off : Int} {tgt : Nat} (hd : decode cc pc = .ok (.ifCond .lt off, 3)) (ht : (pc : Int) + off = (tgt : Int)) (kt : a < 0 → tg_G ta x S tgt lv st) (kf : ¬ a < 0 → tg_G ta x S (pc + 3) lv st) : tg_G ta x S pc lv (.int a :: st) := fun H locs ls hI hl => lv_if_lt X.1 X.2.1 hd ht (fun h => kt h H locs ls hI hl) (fun h => kf h H locs ls hI hl)
theorem tg_icmp_lt (X : tg_M ta x cc nL own rm rt Sf rv) {a b : Int32} {off : Int} {tgt : Nat} (hd : decode cc pc = .ok (.if_icmp .lt off, 3)) (ht : (pc : Int) + off = (tgt : Int)) (kt : a < b → tg_G ta x S tgt lv st) (kf : ¬ a < b → tg_G ta x S (pc + 3) lv st) : tg_G ta x S pc lv (.int b :: .int a :: st) := fun H locs ls hI hl => lv_icmp_lt X.1 X.2.1 hd ht (fun h => kt h H locs ls hI hl) (fun h => kf h H locs ls hI hl)
theorem tg_if_ge (X : tg_M ta x cc nL own rm rt Sf rv) {a : Int32} {off : Int} {tgt : Nat} (hd : decode cc pc = .ok (.ifCond .ge off, 3)) (ht : (pc : Int) + off = (tgt : Int)) (kt : 0 ≤ a → tg_G ta x S tgt lv st) (kf : ¬ 0 ≤ a → tg_G ta x S (pc + 3) lv st) : tg_G ta x S pc lv (.int a :: st) := fun H locs ls hI hl => lv_if_ge X.1 X.2.1 hd ht (fun h => kt h H locs ls hI hl) (fun h => kf h H locs ls hI hl)
theorem tg_icmp_ge (X : tg_M ta x cc nL own rm rt Sf rv) {a b : Int32} {off : Int} {tgt : Nat} (hd : decode cc pc = .ok (.if_icmp .ge off, 3)) (ht : (pc : Int) + off = (tgt : Int)) (kt : b ≤ a → tg_G ta x S tgt lv st) (kf : ¬ b ≤ a → tg_G ta x S (pc + 3) lv st) : tg_G ta x S pc lv (.int b :: .int a :: st) := fun H locs ls hI hl => lv_icmp_ge X.1 X.2.1 hd ht (fun h => kt h H locs ls hI hl) (fun h => kf h H locs ls hI hl)
theorem tg_if_gt (X : tg_M ta x cc nL own rm rt Sf rv) {a : Int32} {off : Int} {tgt : Nat} (hd : decode cc pc = .ok (.ifCond .gt off, 3)) (ht : (pc : Int) + off = (tgt : Int)) (kt : 0 < a → tg_G ta x S tgt lv st) (kf : ¬ 0 < a → tg_G ta x S (pc + 3) lv st) : tg_G ta x S pc lv (.int a :: st) := fun H locs ls hI hl => lv_if_gt X.1 X.2.1 hd ht (fun h => kt h H locs ls hI hl) (fun h => kf h H locs ls hI hl)
theorem tg_icmp_gt (X : tg_M ta x cc nL own rm rt Sf rv) {a b : Int32} {off : Int} {tgt : Nat} (hd : decode cc pc = .ok (.if_icmp .gt off, 3)) (ht : (pc : Int) + off = (tgt : Int)) (kt : b < a → tg_G ta x S tgt lv st) (kf : ¬ b < a → tg_G ta x S (pc + 3) lv st) : tg_G ta x S pc lv (.int b :: .int a :: st) := fun H locs ls hI hl => lv_icmp_gt X.1 X.2.1 hd ht (fun h => kt h H locs ls hI hl) (fun h => kf h H locs ls hI hl)
theorem tg_if_le (X : tg_M ta x cc nL own rm rt Sf rv) {a : Int32} {off : Int} {tgt : Nat} (hd : decode cc pc = .ok (.ifCond .le off, 3)) (ht : (pc : Int) + off = (tgt : Int)) (kt : a ≤ 0 → tg_G ta x S tgt lv st) (kf : ¬ a ≤ 0 → tg_G ta x S (pc + 3) lv st) : tg_G ta x S pc lv (.int a :: st) := fun H locs ls hI hl => lv_if_le X.1 X.2.1 hd ht (fun h => kt h H locs ls hI hl) (fun h => kf h H locs ls hI hl)
theorem tg_icmp_le (X : tg_M ta x cc nL own rm rt Sf rv) {a b : Int32} {off : Int} {tgt : Nat} (hd : decode cc pc = .ok (.if_icmp .le off, 3)) (ht : (pc : Int) + off = (tgt : Int)) (kt : a ≤ b → tg_G ta x S tgt lv st) (kf : ¬ a ≤ b → tg_G ta x S (pc + 3) lv st) : tg_G ta x S pc lv (.int b :: .int a :: st) := fun H locs ls hI hl => lv_icmp_le X.1 X.2.1 hd ht (fun h => kt h H locs ls hI hl) (fun h => kf h H locs ls hI hl)
-- arrays
theorem tg_iald (X : tg_M ta x cc nL own rm rt Sf rv) (k : Nat) {n : Nat} {y : Int32} (ht : ta[k]? = some (.inl (false, n))) {i : Int32} (hy : y = S k i.toNatClampNeg) (hi : vp_in i n) (hd : decode cc pc = .ok (.iaload, 1)) (kk : tg_G ta x S (pc + 1) lv (.int y :: st)) : tg_G ta x S pc lv (.int i :: .ref (tg_ad x k) :: st) := by
  subst hy
  exact fun H locs ls hI hl => va_iald X.1 X.2.1 X.2.2.2.2.2.1 hI.1 k 0 (tg_w_get ht) rfl hi hd (kk H locs ls hI hl)
theorem tg_zald (X : tg_M ta x cc nL own rm rt Sf rv) (k : Nat) {n : Nat} {y : Int32} (ht : ta[k]? = some (.inl (true, n))) {i : Int32} (hy : y = S k i.toNatClampNeg) (hi : vp_in i n) (hd : decode cc pc = .ok (.baload, 1)) (kk : tg_G ta x S (pc + 1) lv (.int y :: st)) : tg_G ta x S pc lv (.int i :: .ref (tg_ad x k) :: st) := by
  subst hy
  exact fun H locs ls hI hl => va_zald X.1 X.2.1 X.2.2.2.2.2.1 hI.1 k 1 (tg_w_get ht) rfl hi hd (kk H locs ls hI hl)
theorem tg_iast (X : tg_M ta x cc nL own rm rt Sf rv) (k : Nat) {n : Nat} (ht : ta[k]? = some (.inl (false, n))) {i v : Int32} (hi : vp_in i n) (hd : decode cc pc = .ok (.iastore, 1)) {S2 : tg_S} (hS : S2 = tg_sw S k (upd (S k) i.toNatClampNeg v)) (kk : tg_G ta x S2 (pc + 1) lv st) : tg_G ta x S pc lv (.int v :: .int i :: .ref (tg_ad x k) :: st) := fun H locs ls hI hl => va_iast X.1 X.2.1 X.2.2.2.2.2.1 hI.1 hI.2.1 hI.2.2 k 0 (tg_w_get ht) rfl hi hd (fun H1 locs1 hP hD hS9 => kk H1 locs1 ls ⟨by rw [hS, ← tg_w_set _ ht]; exact hP, by rw [hS, ← tg_w_set _ ht]; exact hD, hS9⟩ hl)
theorem tg_zast (X : tg_M ta x cc nL own rm rt Sf rv) (k : Nat) {n : Nat} (ht : ta[k]? = some (.inl (true, n))) {i v : Int32} (hi : vp_in i n) (hd : decode cc pc = .ok (.bastore, 1)) {S2 : tg_S} (hS : S2 = tg_sw S k (upd (S k) i.toNatClampNeg (vp_nar .boolean v))) (kk : tg_G ta x S2 (pc + 1) lv st) : tg_G ta x S pc lv (.int v :: .int i :: .ref (tg_ad x k) :: st) := fun H locs ls hI hl => va_zast X.1 X.2.1 X.2.2.2.2.2.1 hI.1 hI.2.1 hI.2.2 k 1 (tg_w_get ht) rfl hi hd (fun H1 locs1 hP hD hS9 => kk H1 locs1 ls ⟨by rw [hS, ← tg_w_set _ ht]; exact hP, by rw [hS, ← tg_w_set _ ht]; exact hD, hS9⟩ hl)
-- fields
def tg_Cl (ci : Nat) (C : String) (T : u_T) (N : Nat) (ty : Nat → FieldType) : Prop := vwCl[ci]? = some (C, T, N) ∧ (∀ w ∈ u_ws C T N, w ∈ tg_gG) ∧ (∀ k, k < N → parseFieldDescriptor (T k).2.2.1 = some (ty k)) ∧ ∀ a, a < N → ∀ b, b < N → a ≠ b → (T a).2.1 ≠ (T b).2.1
theorem tg_geti (X : tg_M ta x cc nL own rm rt Sf rv) (k : Nat) {ci : Nat} {fs : List (Option (Option Nat))} (ht : ta[k]? = some (.inr (ci, fs))) {C : String} {T : u_T} {N : Nat} {ty : Nat → FieldType} (hC : tg_Cl ci C T N ty) (j : Nat) (hj : j < N) (hf : fs[j]? = some none) {index : Nat} (hw : Cond.fieldLink own index (T j).1 (T j).2.1 (T j).2.2.1 ∈ tg_gG) (hd : decode cc pc = .ok (.getfield index, 3)) (kk : tg_G ta x S (pc + 3) lv (.int (S k j) :: st)) : tg_G ta x S pc lv (.ref (tg_ad x k) :: st) := fun H locs ls hI hl => va_get X.1 X.2.1 X.2.2.2.2.1 hC.2.1 X.2.2.2.1 X.2.2.2.2.2.1 hI.1 k (tg_w_get ht) hC.1 j hj (X.2.2.2.2.1 _ hw) (fun _ h => h) (tg_fs_get hf) hd (kk H locs ls hI hl)
theorem tg_getr (X : tg_M ta x cc nL own rm rt Sf rv) (k : Nat) {ci : Nat} {fs : List (Option (Option Nat))} (ht : ta[k]? = some (.inr (ci, fs))) {C : String} {T : u_T} {N : Nat} {ty : Nat → FieldType} (hC : tg_Cl ci C T N ty) (j : Nat) (hj : j < N) {r : Nat} (hf : fs[j]? = some (some (some r))) {index : Nat} (hw : Cond.fieldLink own index (T j).1 (T j).2.1 (T j).2.2.1 ∈ tg_gG) (hd : decode cc pc = .ok (.getfield index, 3)) (kk : tg_G ta x S (pc + 3) lv (.ref (tg_ad x r) :: st)) : tg_G ta x S pc lv (.ref (tg_ad x k) :: st) := fun H locs ls hI hl => va_get X.1 X.2.1 X.2.2.2.2.1 hC.2.1 X.2.2.2.1 X.2.2.2.2.2.1 hI.1 k (tg_w_get ht) hC.1 j hj (X.2.2.2.2.1 _ hw) (fun _ h => h) (tg_fs_get hf) hd (kk H locs ls hI hl)
theorem tg_puti (X : tg_M ta x cc nL own rm rt Sf rv) (k : Nat) {ci : Nat} {fs : List (Option (Option Nat))} (ht : ta[k]? = some (.inr (ci, fs))) {C : String} {T : u_T} {N : Nat} {ty : Nat → FieldType} (hC : tg_Cl ci C T N ty) (j : Nat) (hj : j < N) (hf : fs[j]? = some none) {index : Nat} (hw : Cond.fieldLink own index (T j).1 (T j).2.1 (T j).2.2.1 ∈ tg_gG) (hfin : (T j).2.2.2 = false) {v : Int32} (hn : narrow (ty j) (.int v) = .int v) (hfit : fits (ty j) (.int v) = true) (hd : decode cc pc = .ok (.putfield index, 3)) {S2 : tg_S} (hS : S2 = tg_sw S k (upd (S k) j v)) (kk : tg_G ta x S2 (pc + 3) lv st) : tg_G ta x S pc lv (.int v :: .ref (tg_ad x k) :: st) := fun H locs ls hI hl =>
  va_put X.1 X.2.1 X.2.2.2.2.1 hC.2.1 ty hC.2.2.1 hC.2.2.2 X.2.2.2.1 X.2.2.2.2.2.1 hI.1 hI.2.1 hI.2.2 k (tg_w_get ht) hC.1 j hj (X.2.2.2.2.1 _ hw) (fun _ h => h) hfin (hC.2.2.1 j hj) hn hfit (by rw [tg_fs, List.length_mapIdx]; exact (List.getElem?_eq_some_iff.mp hf).1) hd (fun H1 locs1 hP hD hS9 => kk H1 locs1 ls ⟨by
    rw [tg_fs_set v hf] at hP
    rw [hS, ← tg_w_set _ ht]; exact hP, by
    rw [tg_fs_set v hf] at hD
    rw [hS, ← tg_w_set _ ht]; exact hD, hS9⟩ hl)
-- returns
theorem tg_iret {r a : Int32} (X : tg_M ta x cc nL own rm rt Sf (some (.int r))) (h : some (S, a) = some (Sf, r)) (hn : tg_nok rt (some (.int a))) (hd : decode cc pc = .ok (.ireturn, 1)) : tg_G ta x S pc lv [.int a] := by
  cases h
  exact fun H locs ls hI hl => X.2.2.2.2.2.2.2.2.2 pc H locs ls hI hn hd
theorem tg_lret {r a : Int64} (X : tg_M ta x cc nL own rm rt Sf (some (.long r))) (h : some (S, a) = some (Sf, r)) (hn : tg_nok rt (some (.long a))) (hd : decode cc pc = .ok (.lreturn, 1)) : tg_G ta x S pc lv [.long a] := by
  cases h
  exact fun H locs ls hI hl => X.2.2.2.2.2.2.2.2.2 pc H locs ls hI hn hd
theorem tg_vret (X : tg_M ta x cc nL own rm rt Sf none) (h : some S = some Sf) (hd : decode cc pc = .ok (.return_, 1)) : tg_G ta x S pc lv [] := by
  cases h
  exact fun H locs ls hI hl => X.2.2.2.2.2.2.2.2.2 pc H locs ls hI trivial hd
-- contracts
def tg_Qc (ta : List tg_E) (D : va_G) (cy : Bool → ClassId) (ad : Nat → Nat) (S : tg_S) (sz : Nat) (S1 : tg_S) (rv : Option Value) : Array Value → State → Outcome → State → Prop := fun _ st oc t => (oc = .returned rv ∧ va_P D vwCl (tg_w cy ta ad S1) t.heap ∧ va_K D vwCl (tg_ty cy) t ∧ va_D (va_A (tg_w cy ta ad S) sz) (tg_w cy ta ad S1)) ∧ va_F (va_A (tg_w cy ta ad S) sz) st t
def tg_Met (l : Launch) (y : MethodName) (cc : ByteArray) (maxL : Nat) (rt : Option FieldType) (rm : Room) (ta : List tg_E) (D : va_G) (cy : Bool → ClassId) (ad : Nat → Nat) (tS : Nat) (S : tg_S) (vs : List Value) (S1 : tg_S) (rv : Option Value) : Prop :=
  ∀ sz : Nat, Met l y (.code y cc maxL rt :: tg_gG) rm (va_Pc vs (fun U => U.heap.size = sz ∧ va_P D vwCl (tg_w cy ta ad S) U.heap ∧ va_K D vwCl (tg_ty cy) U ∧ va_D (fun _ => True) (tg_w cy ta ad S) ∧ tg_Env (va_A (tg_w cy ta ad S) sz) U U.heap tS))
    (tg_Qc ta D cy ad S sz S1 rv) 0 0 (va_A (tg_w cy ta ad S) sz)
theorem tg_mk {l : Launch} {y : MethodName} {cc : ByteArray} {maxL : Nat} {rt : Option FieldType} {rm : Room} {ta : List tg_E} {D : va_G} {cy : Bool → ClassId} {ad : Nat → Nat} {tS : Nat} {S : tg_S} {vs : List Value} {S1 : tg_S} {rv : Option Value}
    (hy : plainName y.cls = true) (hrv : match rv, rt with | none, none => True | some (.int _), some _ => True | some (.long _), some .long => True | _, _ => False) (hvs : (lg_sl vs).length ≤ maxL)
    (body : ∀ (p : Program) (e : Env) (s : State) (m : MethodId) (args : Array Value) (below : List Frame) (meth : Method) (c : Code) (Q : State → Prop) (A : Nat → Prop), tg_M ta (p, l, e, rm, s, m, args, below, meth, c, Q, A, D, cy, ad, tS) cc maxL y.cls rm rt S1 rv → tg_G ta (p, l, e, rm, s, m, args, below, meth, c, Q, A, D, cy, ad, tS) S 0 (lv_args 0 vs) []) : tg_Met l y cc maxL rt rm ta D cy ad tS S vs S1 rv := by
  intro sz
  refine Met.ofW (cc := cc) (maxL := maxL) (ret := rt) hy rfl ?_
  intro p e s m args below meth c s₁ B hml hv
  obtain ⟨rfl, hsz, hP, hK, hD0, hE⟩ := hv
  subst hsz
  have hts := atoms_spec (ws := (.code y cc maxL rt :: tg_gG)) B.pre
  have hown : s.vm.findClass y.cls = some m.cls := findClass_of_methodNamed B.named
  have hlocks := B.notSynchronized
  have hr := B.returns
  have hD := hD0.self (sz := s.heap.size)
  have hl := lv_entry vs (n := maxL) hvs
  rw [lg_entry_eq]
  generalize (lg_sl vs ++ List.replicate (maxL - (lg_sl vs).length) Slot.unset).toArray = ls at hl ⊢
  refine body p e s m vs.toArray below meth c (MQ below (tg_Qc ta D cy ad S s.heap.size S1 rv) vs.toArray s 0 0 (va_A (tg_w cy ta ad S) s.heap.size)) (va_A (tg_w cy ta ad S) s.heap.size) ⟨B.exec, B.bytes, hml, hown, fun w hw => hts w (List.mem_cons_of_mem _ hw), hK, fun q h => Or.inr h, rfl, hE, ?_⟩ s.heap [] ls ⟨hP, hD, va_S.rf⟩ (by show lv_has ls c.maxLocals _; rw [hml]; exact hl)
  intro pc H locs ls hI hn hd
  obtain ⟨hP1, hD1, hS1⟩ := hI
  match rv, rt, hrv, hn, hd, hr with
  | none, none, _, _, hd, hr => exact (show W p l e rm s m vs.toArray below meth c H locs 0 0 (MQ below (tg_Qc ta D cy ad S s.heap.size S1 none) vs.toArray s 0 0 (va_A (tg_w cy ta ad S) s.heap.size)) (F0 m pc ls []) from W.vret B.exec B.bytes hr (fun t ht hW => ⟨⟨rfl, by rw [ht]; exact hP1, va_K.moved hW.alike hK, hD1⟩, hS1.F ht⟩) hS1.2.2 hd)
  | some (.int r), some ty, _, hn, hd, hr => exact (show W p l e rm s m vs.toArray below meth c H locs 0 0 (MQ below (tg_Qc ta D cy ad S s.heap.size S1 (some (.int r))) vs.toArray s 0 0 (va_A (tg_w cy ta ad S) s.heap.size)) (F0 m pc ls [.int r]) from W.zret B.exec B.bytes hr hn (fun t ht hW => ⟨⟨rfl, by rw [ht]; exact hP1, va_K.moved hW.alike hK, hD1⟩, hS1.F ht⟩) hS1.2.2 hd)
  | some (.long r), some .long, _, _, hd, hr => exact (show W p l e rm s m vs.toArray below meth c H locs 0 0 (MQ below (tg_Qc ta D cy ad S s.heap.size S1 (some (.long r))) vs.toArray s 0 0 (va_A (tg_w cy ta ad S) s.heap.size)) (F0 m pc ls [.long r]) from W.lret B.exec B.bytes hr (fun t ht hW => ⟨⟨rfl, by rw [ht]; exact hP1, va_K.moved hW.alike hK, hD1⟩, hS1.F ht⟩) hS1.2.2 hd)
-- calls
theorem tg_sub (X : tg_M ta x cc nL own rm rt Sf rv) {H : Heap} {locs : List Loc} (hI : tg_I ta x S H locs) : ∀ q, va_A (tg_w (tg_cy x) ta (tg_ad x) S) H.size q → tg_A x q := by
  intro q h
  rcases h with ⟨k, e, h⟩ | h
  · exact hI.2.1.2 k _ h
  · exact X.2.2.2.2.2.2.1 q (Nat.le_trans hI.2.2.1 h)
theorem tg_aft (X : tg_M ta x cc nL own rm rt Sf rv) {H : Heap} {locs : List Loc} {ls : Array Slot} {st0 rest : List Value} {S1 : tg_S} {rv2 : Option Value} {a : Array Value} (hI : tg_I ta x S H locs) (hl : lv_has ls (tg_c x).maxLocals lv)
    (run : va_Run (tg_p x) (tg_l x) (tg_en x) (tg_R x) (tg_s x) (tg_m x) (tg_args x) (tg_below x) (tg_meth x) (tg_c x) H locs 0 0 0 0 (F0 (tg_m x) pc ls st0) rest (tg_Qc ta (tg_D x) (tg_cy x) (tg_ad x) S H.size S1 rv2 a) (va_A (tg_w (tg_cy x) ta (tg_ad x) S) H.size)) (kk : tg_G ta x S1 (pc + 3) lv (rv2.toList ++ rest)) : tg_W x H locs pc ls st0 := by
  have hA := tg_sub X hI
  obtain ⟨hP, hD, hS⟩ := hI
  intro T hT X'
  obtain ⟨v, st₀, t, T', L, h0, X1, hL, e1, e2, ⟨⟨hv, hP1, hK1, hD1⟩, hz, hk⟩, st⟩ := run T hT X'
  cases hv
  rw [h0] at hz hk
  obtain ⟨t2, a1, b1⟩ := kk T'.heap (locs ++ L) ls ⟨by rw [e1]; exact hP1, hD1.weaken (fun k q hq h => hA _ h), ⟨Nat.le_trans hS.1 (by rw [e1]; exact hz), fun q h1 h2 => by rw [e1, hk q (Nat.lt_of_lt_of_le h1 hS.1) (fun z => h2 (hA q z))]; exact hS.2.1 q h1 h2, fun q hq => by
      rcases List.mem_append.mp hq with h | h
      · exact hS.2.2 q h
      · exact hA _ (hL q h)⟩⟩ hl T' rfl X1
  exact ⟨t2, st t2 a1, b1⟩
theorem tg_pre (X : tg_M ta x cc nL own rm rt Sf rv) {H : Heap} {locs : List Loc} {vs : List Value} (hI : tg_I ta x S H locs) : PreS (tg_s x) H (va_Pc vs (fun U => U.heap.size = H.size ∧ va_P (tg_D x) vwCl (tg_w (tg_cy x) ta (tg_ad x) S) U.heap ∧ va_K (tg_D x) vwCl (tg_ty (tg_cy x)) U ∧ va_D (fun _ => True) (tg_w (tg_cy x) ta (tg_ad x) S) ∧ tg_Env (va_A (tg_w (tg_cy x) ta (tg_ad x) S) H.size) U U.heap (tg_tS x))) vs := by
  have hA := tg_sub X hI
  obtain ⟨hP, hD, hS⟩ := hI
  refine ⟨fun a U g mk q => ?_, fun U hU hW => ?_⟩
  · obtain ⟨q0, q1, qP, qK, qD, qE⟩ := q
    exact ⟨q0, q1, qP, va_K.moved (u := U) (U := U.calling g mk a) (Vm.Alike.refl U.vm) qK, qD, qE.calling⟩
  · refine ⟨rfl, by rw [hU], by rw [hU]; exact hP, va_K.moved hW.alike X.2.2.2.2.2.1, hD.weaken (fun _ _ _ _ => trivial), ?_⟩
    rw [hU]
    exact tg_Env.kept hW hS.2.1 hA X.2.2.2.2.2.2.2.2.1
def tg_Y0 (y : MethodName) (cc : ByteArray) (maxL : Nat) (rt : Option FieldType) (n : Nat) : Prop := Cond.code y cc maxL rt ∈ tg_gG ∧ Cond.initialized y.cls ∈ tg_gG ∧ y.cls ≠ "java/lang/invoke/MethodHandle" ∧ y.cls ≠ "java/lang/invoke/VarHandle" ∧ (parseMethodDescriptor y.desc).map (fun d => d.parameters.length) = some n
theorem tg_cb (X : tg_M ta x cc nL own rm rt Sf rv) {y : MethodName} {cc2 : ByteArray} {maxL : Nat} {rt2 : Option FieldType} {n index : Nat} {rm2 : Room} (hY : tg_Y0 y cc2 maxL rt2 n) (hL : Cond.methodLink own index y ∈ tg_gG) (hR : rm2.cells = 0 ∧ rm2.slots = 0 ∧ rm2.frames + 1 ≤ rm.frames ∧ 8 + (maxL + 11) + rm2.locals ≤ rm.locals) : CallB (tg_R x) (tg_s x) (tg_args x) own index y cc2 maxL rt2 (Cond.code y cc2 maxL rt2 :: tg_gG) rm2 0 0 n := by
  refine callB_of (Ts := tg_gG) n X.2.2.2.2.1 (tg_GG (fun w h => h) (fun w h => ?_)) rfl hR.1 hR.2.1 (X.2.2.2.2.1 _ hY.2.1) (X.2.2.2.2.1 _ hL) hY.2.2 (by rw [X.2.2.2.2.2.2.2.1]; exact hR.2.2)
  rcases List.mem_cons.mp h with rfl | h
  · exact hY.1
  · exact h
/-- a call of a method of an object (a method of its own class) -/
theorem tg_callV (X : tg_M ta x cc nL own rm rt Sf rv) {y : MethodName} {cc2 : ByteArray} {maxL : Nat} {rt2 : Option FieldType} {rm2 : Room} {S1 : tg_S} {rv2 : Option Value} {n index : Nat} (k : Nat) {As rest st0 : List Value} (hM : tg_Met (tg_l x) y cc2 maxL rt2 rm2 ta (tg_D x) (tg_cy x) (tg_ad x) (tg_tS x) S (.ref (tg_ad x k) :: As) S1 rv2) (hY : tg_Y0 y cc2 maxL rt2 n) (hI0 : Cond.instanceMethod y ∈ tg_gG) (hs0 : Cond.selects y.cls y y ∈ tg_gG) (hL : Cond.methodLink own index y ∈ tg_gG)
    {ci : Nat} {fs : List (Option (Option Nat))} (ht : ta[k]? = some (.inr (ci, fs))) {T : u_T} {N : Nat} (hc : vwCl[ci]? = some (y.cls, T, N)) (hR : rm2.cells = 0 ∧ rm2.slots = 0 ∧ rm2.frames + 1 ≤ rm.frames ∧ 8 + (maxL + 11) + rm2.locals ≤ rm.locals) (hn : As.length = n) (hst : st0 = As.reverse ++ .ref (tg_ad x k) :: rest) (hW : (rest.map fun v => v.category).sum ≤ 8) (hd : decode cc pc = .ok (.invokevirtual index, 3)) {st1 : List Value} (h1 : rv2.toList ++ rest = st1) (kk : tg_G ta x S1 (pc + 3) lv st1) : tg_G ta x S pc lv st0 := by
  subst h1
  intro H locs ls hI hl
  have hp := tg_pre X (vs := .ref (tg_ad x k) :: As) hI
  refine tg_aft X hI hl (va_runV (C := y.cls) (Ts := tg_gG) ⟨X.1, X.2.1, rfl, X.2.2.2.1, X.2.2.2.2.1⟩ (hM H.size) ⟨tg_cb X hY hL hR, X.2.2.2.2.1 _ hI0, X.2.2.2.2.1 _ hs0⟩ ⟨hp.1, va_recv X.2.2.2.2.2.1 hI.1 hc (tg_w_get ht), hp.2⟩ rfl hn hl.1 hst (lv_room hW) hd ⟨Nat.zero_le _, Nat.zero_le _⟩) kk
theorem tg_callS (X : tg_M ta x cc nL own rm rt Sf rv) {y : MethodName} {cc2 : ByteArray} {maxL : Nat} {rt2 : Option FieldType} {rm2 : Room} {S1 : tg_S} {rv2 : Option Value} {n index : Nat} {As rest st0 : List Value} (hM : tg_Met (tg_l x) y cc2 maxL rt2 rm2 ta (tg_D x) (tg_cy x) (tg_ad x) (tg_tS x) S As S1 rv2) (hY : tg_Y0 y cc2 maxL rt2 n) (hI0 : Cond.static y ∈ tg_gG) (hL : Cond.methodLink own index y ∈ tg_gG)
    (hR : rm2.cells = 0 ∧ rm2.slots = 0 ∧ rm2.frames + 1 ≤ rm.frames ∧ 8 + (maxL + 11) + rm2.locals ≤ rm.locals) (hn : As.length = n) (hst : st0 = As.reverse ++ rest) (hW : (rest.map fun v => v.category).sum ≤ 8) (hd : decode cc pc = .ok (.invokestatic index, 3)) {st1 : List Value} (h1 : rv2.toList ++ rest = st1) (kk : tg_G ta x S1 (pc + 3) lv st1) : tg_G ta x S pc lv st0 := by
  subst h1
  intro H locs ls hI hl
  exact tg_aft X hI hl (va_runS (Ts := tg_gG) ⟨X.1, X.2.1, rfl, X.2.2.2.1, X.2.2.2.2.1⟩ (hM H.size) ⟨tg_cb X hY hL hR, X.2.2.2.2.1 _ hI0⟩ (tg_pre X (vs := As) hI) rfl hn hl.1 hst (lv_room hW) hd ⟨Nat.zero_le _, Nat.zero_le _⟩) kk
/-- isBelow, private, called by a nest mate -/
theorem tg_callSN (X : tg_M ta x cc nL own rm rt Sf rv) {y : MethodName} {cc2 : ByteArray} {maxL : Nat} {rt2 : Option FieldType} {rm2 : Room} {S1 : tg_S} {rv2 : Option Value} {n index : Nat} {host : String} {As rest st0 : List Value} (hM : tg_Met (tg_l x) y cc2 maxL rt2 rm2 ta (tg_D x) (tg_cy x) (tg_ad x) (tg_tS x) S As S1 rv2) (hY : tg_Y0 y cc2 maxL rt2 n) (hI0 : Cond.static y ∈ tg_gG) (hL : tg_Env (tg_A x) (tg_s x) (tg_s x).heap (tg_tS x) → va_Nw (.methodLinkNest own index y host) (tg_s x))
    (hR : rm2.cells = 0 ∧ rm2.slots = 0 ∧ rm2.frames + 1 ≤ rm.frames ∧ 8 + (maxL + 11) + rm2.locals ≤ rm.locals) (hn : As.length = n) (hst : st0 = As.reverse ++ rest) (hW : (rest.map fun v => v.category).sum ≤ 8) (hd : decode cc pc = .ok (.invokestatic index, 3)) {st1 : List Value} (h1 : rv2.toList ++ rest = st1) (kk : tg_G ta x S1 (pc + 3) lv st1) : tg_G ta x S pc lv st0 := by
  subst h1
  intro H locs ls hI hl
  refine tg_aft X hI hl (va_runSN (Ts := tg_gG) ⟨X.1, X.2.1, rfl, X.2.2.2.1, X.2.2.2.2.1⟩ (hM H.size) ⟨va_cnB (Ts := tg_gG) n X.2.2.2.2.1 (tg_GG (fun w h => h) (fun w h => ?_)) rfl hR.1 hR.2.1 (hL X.2.2.2.2.2.2.2.2.1) (X.2.2.2.2.1 _ hY.2.1) hY.2.2 (by rw [X.2.2.2.2.2.2.2.1]; exact hR.2.2), X.2.2.2.2.1 _ hI0, trivial⟩ (tg_pre X (vs := As) hI) rfl hn hl.1 hst (lv_room hW) hd ⟨Nat.zero_le _, Nat.zero_le _⟩) kk
  rcases List.mem_cons.mp h with rfl | h
  · exact hY.1
  · exact h
-- Math
theorem tg_mmax (X : tg_M ta x cc nL own rm rt Sf rv) {index : Nat} {a b : Int32} (hw : Cond.methodLink own index Lib.Math.max.name ∈ tg_gG ∧ Cond.static Lib.Math.max.name ∈ tg_gG ∧ Cond.initialized "java/lang/Math" ∈ tg_gG ∧ Cond.code Lib.Math.max.name Lib.Math.max.code 2 (some .int) ∈ tg_gG) (hR : 1 ≤ rm.frames ∧ (st.map fun v => v.category).sum + 13 ≤ rm.locals) (hd : decode cc pc = .ok (.invokestatic index, 3)) (kk : tg_G ta x S (pc + 3) lv (.int (tg_max a b) :: st)) : tg_G ta x S pc lv (.int b :: .int a :: st) := fun H locs ls hI hl => va_mmax X.1 X.2.1 hl.1.symm X.2.2.2.1 (X.2.2.2.2.1 _ hw.1) (X.2.2.2.2.1 _ hw.2.1) (X.2.2.2.2.1 _ hw.2.2.1) (X.2.2.2.2.1 _ hw.2.2.2) (by rw [X.2.2.2.2.2.2.2.1]; exact hR.1) (by rw [X.2.2.2.2.2.2.2.1]; exact hR.2) (Nat.zero_le _) (Nat.zero_le _) hd (kk H locs ls hI hl)
theorem tg_mmin (X : tg_M ta x cc nL own rm rt Sf rv) {index : Nat} {a b : Int32} (hw : Cond.methodLink own index Lib.Math.min.name ∈ tg_gG ∧ Cond.static Lib.Math.min.name ∈ tg_gG ∧ Cond.initialized "java/lang/Math" ∈ tg_gG ∧ Cond.code Lib.Math.min.name Lib.Math.min.code 2 (some .int) ∈ tg_gG) (hR : 1 ≤ rm.frames ∧ (st.map fun v => v.category).sum + 13 ≤ rm.locals) (hd : decode cc pc = .ok (.invokestatic index, 3)) (kk : tg_G ta x S (pc + 3) lv (.int (tg_min a b) :: st)) : tg_G ta x S pc lv (.int b :: .int a :: st) := fun H locs ls hI hl => va_mmin X.1 X.2.1 hl.1.symm X.2.2.2.1 (X.2.2.2.2.1 _ hw.1) (X.2.2.2.2.1 _ hw.2.1) (X.2.2.2.2.1 _ hw.2.2.1) (X.2.2.2.2.1 _ hw.2.2.2) (by rw [X.2.2.2.2.2.2.2.1]; exact hR.1) (by rw [X.2.2.2.2.2.2.2.1]; exact hR.2) (Nat.zero_le _) (Nat.zero_le _) hd (kk H locs ls hI hl)
-- arraycopy of int rows (source k0, target k1, perhaps the same)
theorem tg_acopy (X : tg_M ta x cc nL own rm rt Sf rv) (k0 k1 : Nat) {n0 n1 : Nat} (h0 : ta[k0]? = some (.inl (false, n0))) (h1 : ta[k1]? = some (.inl (false, n1))) {index : Nat} {sp dp n : Int32} (hb : tg_cb2 sp dp n n0 n1 = true) (hw : Cond.methodLink own index arraycopyName ∈ tg_gG ∧ Cond.native arraycopyName ∈ tg_gG ∧ Cond.static arraycopyName ∈ tg_gG ∧ Cond.initialized "java/lang/System" ∈ tg_gG) (hR : 1 ≤ rm.frames ∧ (st.map fun v => v.category).sum + 18 ≤ rm.locals) (hd : decode cc pc = .ok (.invokestatic index, 3))
    {S2 : tg_S} (hS : S2 = tg_sw S k1 (va_cpy (S k0) (S k1) sp.toNatClampNeg dp.toNatClampNeg n.toNatClampNeg)) (kk : tg_G ta x S2 (pc + 3) lv st) : tg_G ta x S pc lv (.int n :: .int dp :: .ref (tg_ad x k1) :: .int sp :: .ref (tg_ad x k0) :: st) := by
  intro H locs ls hI hl
  unfold tg_cb2 at hb
  obtain ⟨b1, b2, b3, b4, b5⟩ := of_decide_eq_true hb
  exact va_copyi X.1 X.2.1 hl.1.symm X.2.2.2.1 (X.2.2.2.2.1 _ hw.1) (X.2.2.2.2.1 _ hw.2.1) (X.2.2.2.2.1 _ hw.2.2.1) (X.2.2.2.2.1 _ hw.2.2.2) X.2.2.2.2.2.1 hI.1 hI.2.1 hI.2.2 k0 k1 0 0 (tg_w_get h0) (tg_w_get h1) rfl rfl rfl b1 b2 b3 b4 b5 (fun _ _ => rfl) (by rw [X.2.2.2.2.2.2.2.1]; exact hR.1) (by rw [X.2.2.2.2.2.2.2.1]; exact hR.2) hd (fun H1 locs1 hP hD hS9 => kk H1 locs1 ls ⟨by rw [hS, ← tg_w_set _ h1]; exact hP, by rw [hS, ← tg_w_set _ h1]; exact hD, hS9⟩ hl)
-- the static row
theorem tg_gets (X : tg_M ta x cc nL own rm rt Sf rv) {index : Nat} (hw : Cond.fieldLink own index "TugOfWar" "DIGEST_BEATS" "[I" ∈ tg_gG) (hd : decode cc pc = .ok (.getstatic index, 3)) (kk : tg_G ta x S (pc + 3) lv (.ref (tg_tS x) :: st)) : tg_G ta x S pc lv st := fun H locs ls hI hl => va_gets X.1 X.2.1 X.2.2.2.2.2.2.2.2.1.2.2.1 hI.2.2 X.2.2.2.1 (X.2.2.2.2.1 _ hw) (fun _ h => h) hd (kk H locs ls hI hl)
theorem tg_tald (X : tg_M ta x cc nL own rm rt Sf rv) {i y : Int32} (hy : y = tg_db i) (hi : vp_in i 4) (hd : decode cc pc = .ok (.iaload, 1)) (kk : tg_G ta x S (pc + 1) lv (.int y :: st)) : tg_G ta x S pc lv (.int i :: .ref (tg_tS x) :: st) := by
  subst hy
  exact fun H locs ls hI hl => va_ti X.1 X.2.1 X.2.2.2.2.2.2.2.2.1.2.2.2 hI.2.2 hi rfl hd (kk H locs ls hI hl)
theorem tg_tlen (X : tg_M ta x cc nL own rm rt Sf rv) (hd : decode cc pc = .ok (.arraylength, 1)) (kk : tg_G ta x S (pc + 1) lv (.int 4 :: st)) : tg_G ta x S pc lv (.ref (tg_tS x) :: st) := fun H locs ls hI hl => va_tlen X.1 X.2.1 X.2.2.2.2.2.2.2.2.1.2.2.2 hI.2.2 rfl hd (kk H locs ls hI hl)
-- switches
theorem tg_nei {a b : Int32} {z : Int} (hz : b.toInt = z) (h : ¬ a = b) : a.toInt ≠ z := fun e => h (Int32.toInt_inj.mp (e.trans hz.symm))
theorem tg_tsw (X : tg_M ta x cc nL own rm rt Sf rv) {dflt lo hi : Int} {offs : Array Int} {len : Nat} {a cst : Int32} {off : Int} {tgt : Nat} (hd : decode cc pc = .ok (.tableswitch dflt lo hi offs, len)) (ha : a = cst) (hin : ¬ cst.toInt < lo ∧ ¬ hi < cst.toInt ∧ offs[(cst.toInt - lo).toNat]? = some off) (ht : (pc : Int) + off = (tgt : Int)) (k : tg_G ta x S tgt lv st) : tg_G ta x S pc lv (.int a :: st) := by
  subst ha
  exact fun H locs ls hI hl => lv_tableIn X.1 X.2.1 hd hin.1 hin.2.1 hin.2.2 ht (k H locs ls hI hl)
theorem tg_tswD (X : tg_M ta x cc nL own rm rt Sf rv) {dflt lo hi : Int} {offs : Array Int} {len : Nat} {a : Int32} {tgt : Nat} (hd : decode cc pc = .ok (.tableswitch dflt lo hi offs, len)) (h : a.toInt < lo ∨ hi < a.toInt) (ht : (pc : Int) + dflt = (tgt : Int)) (k : tg_G ta x S tgt lv st) : tg_G ta x S pc lv (.int a :: st) := fun H locs ls hI hl => lv_tableOut X.1 X.2.1 hd h ht (k H locs ls hI hl)
theorem tg_lsw (X : tg_M ta x cc nL own rm rt Sf rv) {dflt : Int} {ps : Array (Int × Int)} {len : Nat} {a : Int32} {off : Int} {tgt : Nat} (hd : decode cc pc = .ok (.lookupswitch dflt ps, len)) (hp : (ps.toList.zip (ps.toList.drop 1)).all (fun (a, next) => a.1 < next.1) = true) (ho : Op.lookupswitch.offset ps.toList dflt a.toInt = off) (ht : (pc : Int) + off = (tgt : Int)) (k : tg_G ta x S tgt lv st) : tg_G ta x S pc lv (.int a :: st) := fun H locs ls hI hl => lv_lookup X.1 X.2.1 hd hp ho ht (k H locs ls hI hl)
end TgRows
