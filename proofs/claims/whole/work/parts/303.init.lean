def c0S : tg_S := fun k => if k = 10 then upd (upd (upd (upd (fun _ => 0) (Int32.toNatClampNeg 0) (-1)) (Int32.toNatClampNeg 1) (-1)) (Int32.toNatClampNeg 2) (-1)) (Int32.toNatClampNeg 3) (-1) else if k = 35 ∨ k = 42 then fun j => if j = 5 ∨ j = 6 then -1 else if j = 8 then 12 else 0 else if k = 49 then fun j => if j < 3 then -1 else 0 else fun _ => 0
theorem cg_perm {x : tg_X} {h0 : Nat} {ws ws2 : va_W} {ce sl pc : Nat} {st : List Value} (is : List Nat) (hn : va_nd is = true) (hs : is.map (fun i => ws[i]?) = ws2.map some) (hs2 : is.filterMap (fun i => ws[i]?) = ws2) (k : cg_G x h0 ws2 ce sl pc st) : cg_G x h0 ws ce sl pc st := fun H locs ls hP hD hS hl => k H locs ls (hP.sub is hs2) (hD.sub is hn hs) hS hl
/-- a method of the object itself, in a world of a template -/
theorem cg_callV {x : tg_X} {cc : ByteArray} {own : String} {rm : Room} {B : va_W → Prop} {mc ms ce sl pc : Nat} (X : cg_M x cc own rm B mc ms) {ta : List tg_E} {ad : Nat → Nat} {y : MethodName} {cc2 : ByteArray} {maxL : Nat} {rm2 : Room} {S S1 : tg_S} {index : Nat} (hM : tg_Met (tg_l x) y cc2 maxL none rm2 ta (tg_D x) (tg_cy x) ad (tg_tS x) S [.ref (ad 0)] S1 none) (hY : tg_Y0 y cc2 maxL none 0) (hI0 : Cond.instanceMethod y ∈ tg_gG) (hs0 : Cond.selects y.cls y y ∈ tg_gG) (hL : Cond.methodLink own index y ∈ tg_gG)
    {ci : Nat} {fs : List (Option (Option Nat))} (ht : ta[0]? = some (.inr (ci, fs))) {T : u_T} {N : Nat} (hc : vwCl[ci]? = some (y.cls, T, N)) (hR : rm2.cells = 0 ∧ rm2.slots = 0 ∧ rm2.frames + 1 ≤ rm.frames ∧ 8 + (maxL + 11) + rm2.locals ≤ rm.locals) (hf : ce ≤ rm.cells ∧ sl ≤ rm.slots) (hd : decode cc pc = .ok (.invokevirtual index, 3)) (k : cg_G x (ad 0) (tg_w (tg_cy x) ta ad S1) ce sl (pc + 3) []) : cg_G x (ad 0) (tg_w (tg_cy x) ta ad S) ce sl pc [.ref (ad 0)] := by
  intro H locs ls hP hD hS hl
  have hF : ∀ q, va_A (tg_w (tg_cy x) ta ad S) H.size q → tg_A x q := by
    intro q h
    rcases h with ⟨k, e, h⟩ | h
    · exact hD.2 k _ h
    · exact X.2.2.2.2.2.2.1 q (Nat.le_trans hS.1 h)
  have hp : PreS (tg_s x) H (va_Pc [.ref (ad 0)] (fun U => U.heap.size = H.size ∧ va_P (tg_D x) vwCl (tg_w (tg_cy x) ta ad S) U.heap ∧ va_K (tg_D x) vwCl (tg_ty (tg_cy x)) U ∧ va_D (fun _ => True) (tg_w (tg_cy x) ta ad S) ∧ tg_Env (va_A (tg_w (tg_cy x) ta ad S) H.size) U U.heap (tg_tS x))) [.ref (ad 0)] := by
    refine ⟨fun a U g mk q => ?_, fun U hU hW => ?_⟩
    · obtain ⟨q0, q1, qP, qK, qD, qE⟩ := q
      exact ⟨q0, q1, qP, va_K.moved (u := U) (U := U.calling g mk a) (Vm.Alike.refl U.vm) qK, qD, qE.calling⟩
    · refine ⟨rfl, by rw [hU], by rw [hU]; exact hP, va_K.moved hW.alike X.2.2.2.2.2.1, hD.weaken (fun _ _ _ _ => trivial), ?_⟩
      rw [hU]
      exact tg_Env.kept hW hS.2.1 hF X.2.2.2.2.2.2.2.2.1.2
  have cb : CallB (tg_R x) (tg_s x) (tg_args x) own index y cc2 maxL none (Cond.code y cc2 maxL none :: tg_gG) rm2 0 0 0 := by
    refine callB_of (Ts := tg_gG) 0 X.2.2.2.2.1 (tg_GG (fun w h => h) (fun w h => ?_)) rfl hR.1 hR.2.1 (X.2.2.2.2.1 _ hY.2.1) (X.2.2.2.2.1 _ hL) hY.2.2 (by rw [X.2.2.2.2.2.2.2.1]; exact hR.2.2)
    rcases List.mem_cons.mp h with rfl | h
    · exact hY.1
    · exact h
  have run := va_runV (locs := locs) (cells := ce) (slots := sl) (p := tg_p x) (e := tg_en x) (R := tg_R x) (below := tg_below x) (meth := tg_meth x) (g := F0 (tg_m x) pc ls [.ref (ad 0)]) (rest := []) (C := y.cls) (Ts := tg_gG) (As := []) ⟨X.1, X.2.1, rfl, X.2.2.2.1, X.2.2.2.2.1⟩ (hM H.size) ⟨cb, X.2.2.2.2.1 _ hI0, X.2.2.2.2.1 _ hs0⟩ ⟨hp.1, va_recv X.2.2.2.2.2.1 hP hc (tg_w_get ht), hp.2⟩ rfl rfl hl.1 rfl (lv_room (Nat.le_of_ble_eq_true rfl)) hd ⟨by rw [X.2.2.2.2.2.2.2.1]; exact hf.1, by rw [X.2.2.2.2.2.2.2.1]; exact hf.2⟩
  intro T' hT X'
  obtain ⟨v, st₀, t, T', L, g0, X1, hLL, e1, e2, ⟨⟨hv, hP1, hK1, hD1⟩, hz, hk⟩, stp⟩ := run T' hT X'
  cases hv
  rw [g0] at hz hk
  obtain ⟨t2, a1, b1⟩ := k T'.heap (locs ++ L) ls (by rw [e1]; exact hP1) (hD1.weaken (fun k q hq h => hF _ h)) ⟨Nat.le_trans hS.1 (by rw [e1]; exact hz), fun a h1 h2 => by rw [e1, hk a (Nat.lt_of_lt_of_le h1 hS.1) (fun z => h2 (hF a z))]; exact hS.2.1 a h1 h2, fun a ha => by
      rcases List.mem_append.mp ha with h | h
      · exact hS.2.2 a h
      · exact hF _ (hLL a h)⟩ hl T' rfl X1
  exact ⟨t2, stp t2 a1, b1⟩
/-- the worlds by plain recursion -/
def tg_fl (ad : Nat → Nat) (row : Nat → Int32) : Nat → List (Option (Option Nat)) → List Value
  | _, [] => []
  | n, f :: r => tg_v ad row n f :: tg_fl ad row (n + 1) r
theorem tg_fs_fl (ad : Nat → Nat) (row : Nat → Int32) (fs : List (Option (Option Nat))) : tg_fs ad row fs = tg_fl ad row 0 fs := by
  have : ∀ (fs : List (Option (Option Nat))) (n : Nat), fs.mapIdx (fun j f => tg_v ad row (n + j) f) = tg_fl ad row n fs := by
    intro fs
    induction fs with
    | nil => intro n; rfl
    | cons f r ih =>
      intro n
      rw [List.mapIdx_cons, tg_fl, ← ih (n + 1)]
      simp only [Nat.add_zero]
      congr 1
      congr 1
      funext i f
      rw [show n + (i + 1) = n + 1 + i by omega]
  have h := this fs 0
  simp only [Nat.zero_add] at h
  exact h
def tg_el (cy : Bool → ClassId) (ad : Nat → Nat) (row : Nat → Int32) : tg_E → va_E
  | .inl (b, n) => .inl (cy b, n, .inl row)
  | .inr (ci, fs) => .inr (ci, tg_fl ad row 0 fs)
theorem tg_e_el (cy : Bool → ClassId) (ad : Nat → Nat) (row : Nat → Int32) (t : tg_E) : tg_e cy ad row t = tg_el cy ad row t := by
  match t with
  | .inl (b, n) => rfl
  | .inr (ci, fs) => show Sum.inr (ci, tg_fs ad row fs) = Sum.inr (ci, tg_fl ad row 0 fs); rw [tg_fs_fl]
def tg_wl (cy : Bool → ClassId) (ad : Nat → Nat) (S : tg_S) : Nat → List tg_E → va_W
  | _, [] => []
  | n, t :: r => (ad n, tg_el cy ad (S n) t) :: tg_wl cy ad S (n + 1) r
theorem tg_w_wl (cy : Bool → ClassId) (ta : List tg_E) (ad : Nat → Nat) (S : tg_S) : tg_w cy ta ad S = tg_wl cy ad S 0 ta := by
  have : ∀ (ta : List tg_E) (n : Nat), ta.mapIdx (fun k t => (ad (n + k), tg_e cy ad (S (n + k)) t)) = tg_wl cy ad S n ta := by
    intro ta
    induction ta with
    | nil => intro n; rfl
    | cons f r ih =>
      intro n
      rw [List.mapIdx_cons, tg_wl, ← ih (n + 1)]
      simp only [Nat.add_zero, tg_e_el]
      congr 1
      congr 1
      funext i f
      rw [show n + (i + 1) = n + 1 + i by omega]
  have h := this ta 0
  simp only [Nat.zero_add] at h
  exact h
def c_l7 (cy : Bool → ClassId) (ad : Nat → Nat) : va_W := [(ad 0, .inr (7, [.ref (ad 1), .ref (ad 4), .ref (ad 7), .int 0, .ref (ad 11), .ref (ad 35), .ref (ad 23), .ref (ad 42), .ref (ad 49), .ref (ad 50), .ref (ad 51), .int 0])), (ad 1, .inr (6, [.ref (ad 2), .ref (ad 3)])), (ad 2, .inl (cy false, 124, .inl (fun _ => 0))), (ad 3, .inl (cy false, 4, .inl (fun _ => 0))), (ad 4, .inr (4, [.ref (ad 5), .ref (ad 6), .int 0])), (ad 5, .inl (cy false, 8, .inl (fun _ => 0))), (ad 6, .inl (cy false, 8, .inl (fun _ => 0))), (ad 7, .inr (5, [.ref (ad 8), .ref (ad 9), .ref (ad 10)])), (ad 8, .inl (cy false, 240, .inl (fun _ => 0))), (ad 9, .inl (cy false, 4, .inl (fun _ => 0))), (ad 10, .inl (cy false, 4, .inl (upd (upd (upd (upd (fun _ => 0) (Int32.toNatClampNeg 0) (-1)) (Int32.toNatClampNeg 1) (-1)) (Int32.toNatClampNeg 2) (-1)) (Int32.toNatClampNeg 3) (-1)))), (ad 11, .inr (1, [.ref (ad 12), .ref (ad 13), .ref (ad 14), .ref (ad 15), .ref (ad 16), .ref (ad 17), .ref (ad 18), .ref (ad 19), .int 0])), (ad 12, .inl (cy true, 16, .inl (fun _ => 0))), (ad 13, .inl (cy false, 16, .inl (fun _ => 0))), (ad 14, .inl (cy false, 16, .inl (fun _ => 0))), (ad 15, .inl (cy false, 16, .inl (fun _ => 0))), (ad 16, .inl (cy false, 2, .inl (fun _ => 0))), (ad 17, .inl (cy false, 2, .inl (fun _ => 0))), (ad 18, .inl (cy false, 48, .inl (fun _ => 0))), (ad 19, .inr (3, [.ref (ad 20), .ref (ad 21), .ref (ad 22), .int 0, .int 0])), (ad 20, .inl (cy false, 8, .inl (fun _ => 0))), (ad 21, .inl (cy false, 8, .inl (fun _ => 0))), (ad 22, .inl (cy false, 8, .inl (fun _ => 0))), (ad 23, .inr (1, [.ref (ad 24), .ref (ad 25), .ref (ad 26), .ref (ad 27), .ref (ad 28), .ref (ad 29), .ref (ad 30), .ref (ad 31), .int 0])), (ad 24, .inl (cy true, 16, .inl (fun _ => 0))), (ad 25, .inl (cy false, 16, .inl (fun _ => 0))), (ad 26, .inl (cy false, 16, .inl (fun _ => 0))), (ad 27, .inl (cy false, 16, .inl (fun _ => 0))), (ad 28, .inl (cy false, 2, .inl (fun _ => 0))), (ad 29, .inl (cy false, 2, .inl (fun _ => 0))), (ad 30, .inl (cy false, 48, .inl (fun _ => 0))), (ad 31, .inr (3, [.ref (ad 32), .ref (ad 33), .ref (ad 34), .int 0, .int 0])), (ad 32, .inl (cy false, 8, .inl (fun _ => 0))), (ad 33, .inl (cy false, 8, .inl (fun _ => 0))), (ad 34, .inl (cy false, 8, .inl (fun _ => 0))), (ad 35, .inr (2, [.ref (ad 36), .ref (ad 37), .ref (ad 38), .ref (ad 39), .ref (ad 40), .int (-1), .int (-1), .ref (ad 41), .int (12), .int (0), .int (0), .int (0)])), (ad 36, .inl (cy false, 24, .inl (fun _ => 0))), (ad 37, .inl (cy false, 24, .inl (fun _ => 0))), (ad 38, .inl (cy false, 48, .inl (fun _ => 0))), (ad 39, .inl (cy false, 384, .inl (fun _ => 0))), (ad 40, .inl (cy false, 384, .inl (fun _ => 0))), (ad 41, .inl (cy false, 16, .inl (fun _ => 0))), (ad 42, .inr (2, [.ref (ad 43), .ref (ad 44), .ref (ad 45), .ref (ad 46), .ref (ad 47), .int (-1), .int (-1), .ref (ad 48), .int (12), .int (0), .int (0), .int (0)])), (ad 43, .inl (cy false, 24, .inl (fun _ => 0))), (ad 44, .inl (cy false, 24, .inl (fun _ => 0))), (ad 45, .inl (cy false, 48, .inl (fun _ => 0))), (ad 46, .inl (cy false, 384, .inl (fun _ => 0))), (ad 47, .inl (cy false, 384, .inl (fun _ => 0))), (ad 48, .inl (cy false, 16, .inl (fun _ => 0))), (ad 49, .inr (0, [.int (-1), .int (-1), .int (-1), .int (0)])), (ad 50, .inl (cy false, 240, .inl (fun _ => 0))), (ad 51, .inl (cy false, 256, .inl (fun _ => 0)))]
set_option maxRecDepth 100000 in
theorem c_w7 (cy : Bool → ClassId) (ad : Nat → Nat) : tg_w cy tauC ad c0S = c_l7 cy ad := by
  rw [tg_w_wl]
  rfl
