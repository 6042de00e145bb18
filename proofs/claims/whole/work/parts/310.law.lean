-- ===== the law: both worlds side by side =====
theorem tg_w_inv {cy : Bool → ClassId} {ta : List tg_E} {ad : Nat → Nat} {S : tg_S} {i : Nat} {q : Nat × va_E} (h : (tg_w cy ta ad S)[i]? = some q) : ∃ t, ta[i]? = some t ∧ q = (ad i, tg_e cy ad (S i) t) := by
  unfold tg_w at h
  rw [List.getElem?_mapIdx] at h
  cases ht : ta[i]? with
  | none => rw [ht] at h; cases h
  | some t => rw [ht] at h; exact ⟨t, rfl, (Option.some.inj h).symm⟩
theorem tg_D_S {cy : Bool → ClassId} {ta : List tg_E} {ad : Nat → Nat} {S : tg_S} {A : Nat → Prop} (S1 : tg_S) (h : va_D A (tg_w cy ta ad S)) : va_D A (tg_w cy ta ad S1) := by
  refine ⟨fun i j p q hp hq e => ?_, fun k q hq => ?_⟩
  · obtain ⟨t, h1, rfl⟩ := tg_w_inv hp
    obtain ⟨u, h2, rfl⟩ := tg_w_inv hq
    exact h.1 i j _ _ (tg_w_get h1) (tg_w_get h2) e
  · obtain ⟨t, h1, rfl⟩ := tg_w_inv hq
    exact h.2 k (ad k, tg_e cy ad (S k) t) (tg_w_get h1)
def lq_dis (ta tb : List tg_E) (ad bd : Nat → Nat) : Prop := ∀ i j, i < ta.length → j < tb.length → ad i ≠ bd j
theorem lq_dis.symm {ta tb : List tg_E} {ad bd : Nat → Nat} (h : lq_dis ta tb ad bd) : lq_dis tb ta bd ad := fun i j hi hj e => h j i hj hi e.symm
abbrev lq_A (s : State) : Nat → Prop := fun q => s.heap.size ≤ q
/-- one call out of two worlds: the other world stays -/
theorem lq_run {p : Program} {l : Launch} {e : Env} {R : Room} {s : State} {m : MethodId} {args : Array Value} {below : List Frame} {meth : Method} {c : Code} {Q : State → Prop} {D : va_G} {cy : Bool → ClassId} {tS : Nat} {ta tb : List tg_E} {ad bd : Nat → Nat} {S T : tg_S} {H : Heap} {locs : List Loc} {cells slots : Nat} {cc : ByteArray} {own : String}
    (hx : p.tables.exec = Jvm.exec) (hb : c.code = cc) (hown : s.vm.findClass own = some m.cls) (hts : ∀ w ∈ tg_gG, w.before args s = true) (hK : va_K D vwCl (tg_ty cy) s) (hE : tg_Env (lq_A s) s s.heap tS)
    (hP : va_P D vwCl (tg_w cy ta ad S) H) (hP2 : va_P D vwCl (tg_w cy tb bd T) H) (hD : va_D (lq_A s) (tg_w cy ta ad S)) (hdis : lq_dis ta tb ad bd) (hS : va_S (lq_A s) s.heap H locs)
    {y : MethodName} {cc2 : ByteArray} {maxL : Nat} {rt2 : Option FieldType} {rm2 : Room} {S1 : tg_S} {rv2 : Option Value} {n index : Nat} {As rest st0 : List Value} (hM : tg_Met l y cc2 maxL rt2 rm2 ta D cy ad tS S (.ref (ad 0) :: As) S1 rv2) (hY : tg_Y0 y cc2 maxL rt2 n) (hI0 : Cond.instanceMethod y ∈ tg_gG) (hs0 : Cond.selects y.cls y y ∈ tg_gG) (hL : Cond.methodLink own index y ∈ tg_gG)
    {ci : Nat} {fs : List (Option (Option Nat))} (ht : ta[0]? = some (.inr (ci, fs))) {T0 : u_T} {N : Nat} (hc : vwCl[ci]? = some (y.cls, T0, N)) (hR : rm2.cells = 0 ∧ rm2.slots = 0 ∧ rm2.frames + 1 ≤ R.frames ∧ 8 + (maxL + 11) + rm2.locals ≤ R.locals) (hf : cells ≤ R.cells ∧ slots ≤ R.slots) (hn : As.length = n) {ls : Array Slot} (hls : ls.size = c.maxLocals) {pc : Nat} (hst : st0 = As.reverse ++ .ref (ad 0) :: rest) (hW : (rest.map fun v => v.category).sum ≤ 8) (hd : decode cc pc = .ok (.invokevirtual index, 3))
    (k : ∀ (H1 : Heap) (locs1 : List Loc), va_P D vwCl (tg_w cy ta ad S1) H1 → va_P D vwCl (tg_w cy tb bd T) H1 → va_D (lq_A s) (tg_w cy ta ad S1) → va_S (lq_A s) s.heap H1 locs1 → W p l e R s m args below meth c H1 locs1 cells slots Q (F0 m (pc + 3) ls (rv2.toList ++ rest))) : W p l e R s m args below meth c H locs cells slots Q (F0 m pc ls st0) := by
  have hF : ∀ q, va_A (tg_w cy ta ad S) H.size q → lq_A s q := by
    intro q h
    rcases h with ⟨k, e, h⟩ | h
    · exact hD.2 k _ h
    · exact Nat.le_trans hS.1 h
  have hp : PreS s H (va_Pc (.ref (ad 0) :: As) (fun U => U.heap.size = H.size ∧ va_P D vwCl (tg_w cy ta ad S) U.heap ∧ va_K D vwCl (tg_ty cy) U ∧ va_D (fun _ => True) (tg_w cy ta ad S) ∧ tg_Env (va_A (tg_w cy ta ad S) H.size) U U.heap tS)) (.ref (ad 0) :: As) := by
    refine ⟨fun a U g mk q => ?_, fun U hU hW => ?_⟩
    · obtain ⟨q0, q1, qP, qK, qD, qE⟩ := q
      exact ⟨q0, q1, qP, va_K.moved (u := U) (U := U.calling g mk a) (Vm.Alike.refl U.vm) qK, qD, qE.calling⟩
    · refine ⟨rfl, by rw [hU], by rw [hU]; exact hP, va_K.moved hW.alike hK, hD.weaken (fun _ _ _ _ => trivial), ?_⟩
      rw [hU]
      exact tg_Env.kept hW hS.2.1 hF hE
  have cb : CallB R s args own index y cc2 maxL rt2 (Cond.code y cc2 maxL rt2 :: tg_gG) rm2 0 0 n := by
    refine callB_of (Ts := tg_gG) n hts (tg_GG (fun w h => h) (fun w h => ?_)) rfl hR.1 hR.2.1 (hts _ hY.2.1) (hts _ hL) hY.2.2 hR.2.2
    rcases List.mem_cons.mp h with rfl | h
    · exact hY.1
    · exact h
  have run := va_runV (locs := locs) (cells := cells) (slots := slots) (p := p) (e := e) (R := R) (below := below) (meth := meth) (g := F0 m pc ls st0) (rest := rest) (C := y.cls) (Ts := tg_gG) (As := As) ⟨hx, hb, rfl, hown, hts⟩ (hM H.size) ⟨cb, hts _ hI0, hts _ hs0⟩ ⟨hp.1, va_recv hK hP hc (tg_w_get ht), hp.2⟩ rfl hn hls hst (lv_room hW) hd ⟨hf.1, hf.2⟩
  intro T' hT X'
  obtain ⟨v, st₀, t, T', L, g0, X1, hLL, e1, e2, ⟨⟨hv, hP1, hK1, hD1⟩, hz, hk⟩, stp⟩ := run T' hT X'
  cases hv
  rw [g0] at hz hk
  have other : va_P D vwCl (tg_w cy tb bd T) T'.heap := by
    refine hP2.kept (fun i q hq => ?_)
    rw [e1]
    refine hk q.1 ((hP2 i q hq).lt) (fun h => ?_)
    obtain ⟨u, hu, rfl⟩ := tg_w_inv hq
    rcases h with ⟨j, e, h⟩ | h
    · obtain ⟨u2, hu2, h3⟩ := tg_w_inv h
      exact hdis j i (List.getElem?_eq_some_iff.mp hu2).1 (List.getElem?_eq_some_iff.mp hu).1 (congrArg Prod.fst h3).symm
    · exact Nat.lt_irrefl _ (Nat.lt_of_lt_of_le ((hP2 i _ hq).lt) h)
  obtain ⟨t2, a1, b1⟩ := k T'.heap (locs ++ L) (by rw [e1]; exact hP1) other (tg_D_S S1 hD) ⟨Nat.le_trans hS.1 (by rw [e1]; exact hz), fun a h1 h2 => by rw [e1, hk a (Nat.lt_of_lt_of_le h1 hS.1) (fun z => h2 (hF a z))]; exact hS.2.1 a h1 h2, fun a ha => by
      rcases List.mem_append.mp ha with h | h
      · exact hS.2.2 a h
      · exact hF _ (hLL a h)⟩ T' rfl X1
  exact ⟨t2, stp t2 a1, b1⟩
/-- what the law's walk knows -/
def lq_M (x : tg_X) (b L : Nat) (xs : Nat → Int32) : Prop :=
  (tg_p x).tables.exec = Jvm.exec ∧ (tg_c x).code = cL_law ∧ (tg_c x).maxLocals = 4 ∧ (tg_s x).vm.findClass RL = some (tg_m x).cls ∧ (∀ w ∈ tg_gG, w.before (tg_args x) (tg_s x) = true) ∧ va_K (tg_D x) vwCl (tg_ty (tg_cy x)) (tg_s x) ∧ tg_R x = room_1 ∧ tg_Env (lq_A (tg_s x)) (tg_s x) (tg_s x).heap (tg_tS x) ∧ va_X b L xs (tg_s x) (tg_s x).heap ∧ b < (tg_s x).heap.size ∧ L ≤ 3072
def lq_I (x : tg_X) (bd : Nat → Nat) (S T : tg_S) (H : Heap) (locs : List Loc) : Prop := va_P (tg_D x) vwCl (tg_w (tg_cy x) tauC (tg_ad x) S) H ∧ va_P (tg_D x) vwCl (tg_w (tg_cy x) tauR bd T) H ∧ va_D (lq_A (tg_s x)) (tg_w (tg_cy x) tauC (tg_ad x) S) ∧ va_D (lq_A (tg_s x)) (tg_w (tg_cy x) tauR bd T) ∧ lq_dis tauC tauR (tg_ad x) bd ∧ va_S (lq_A (tg_s x)) (tg_s x).heap H locs
def lq_W (x : tg_X) (H : Heap) (locs : List Loc) (pc : Nat) (ls : Array Slot) (st : List Value) : Prop := W (tg_p x) (tg_l x) (tg_en x) (tg_R x) (tg_s x) (tg_m x) (tg_args x) (tg_below x) (tg_meth x) (tg_c x) H locs 85 4856 (tg_Q x) (F0 (tg_m x) pc ls st)
/-- at pc, with both objects in their cells, and i in the law's counter -/
def lq_G (x : tg_X) (b : Nat) (bd : Nat → Nat) (S T : tg_S) (i : Nat) (pc : Nat) (st : List Value) : Prop := ∀ (H : Heap) (locs : List Loc) (ls : Array Slot), lq_I x bd S T H locs → lv_has ls 4 [(3, .int (nI i)), (2, .ref (bd 0)), (1, .ref (tg_ad x 0)), (0, .ref b)] → lq_W x H locs pc ls st
section LqRows
variable {x : tg_X} {b L : Nat} {xs : Nat → Int32} {bd : Nat → Nat} {S T : tg_S} {i pc : Nat} {st : List Value}
theorem lq_x1 (X : lq_M x b L xs) (hd : decode cL_law pc = .ok (.aload_n 1, 1)) (k : lq_G x b bd S T i (pc + 1) (.ref (tg_ad x 0) :: st)) : lq_G x b bd S T i pc st := fun H locs ls hI hl => lv_aload_n X.1 X.2.1 hd rfl (lv_at hl 2 rfl) (k H locs ls hI hl)
theorem lq_x2 (X : lq_M x b L xs) (hd : decode cL_law pc = .ok (.aload_n 2, 1)) (k : lq_G x b bd S T i (pc + 1) (.ref (bd 0) :: st)) : lq_G x b bd S T i pc st := fun H locs ls hI hl => lv_aload_n X.1 X.2.1 hd rfl (lv_at hl 1 rfl) (k H locs ls hI hl)
theorem lq_elem (X : lq_M x b L xs) {a : Int32} {j : Nat} (ha : a = nI j) (hj : j < L) (hd : decode cL_law pc = .ok (.iaload, 1)) (k : lq_G x b bd S T i (pc + 1) (.int (xs j) :: st)) : lq_G x b bd S T i pc (.int a :: .ref b :: st) := by
  subst ha
  intro H locs ls hI hl
  have hL := X.2.2.2.2.2.2.2.2.2.2
  have := k H locs ls hI hl
  refine va_sld (A := lq_A (tg_s x)) X.1 X.2.1 X.2.2.2.2.2.2.2.2.1 X.2.2.2.2.2.2.2.2.2.1 (Nat.not_le.mpr X.2.2.2.2.2.2.2.2.2.1) hI.2.2.2.2.2 (vp_in_nI hj (by omega)) hd ?_
  rw [nI_clamp (by omega)]
  exact this
/-- an argument: script[i + j] -/
theorem lq_arg (X : lq_M x b L xs) {j : Nat} {n : Int} (hn : Int32.ofInt n = nI j) (hj : j < 6) (hi : i + 6 ≤ L) (d0 : decode cL_law pc = .ok (.aload_n 0, 1)) (d1 : decode cL_law (pc + 1) = .ok (.iload_n 3, 1)) (d2 : decode cL_law (pc + 2) = .ok (.iconst n, 1)) (d3 : decode cL_law (pc + 3) = .ok (.iadd, 1)) (d4 : decode cL_law (pc + 4) = .ok (.iaload, 1)) (k : lq_G x b bd S T i (pc + 5) (.int (xs (i + j)) :: st)) : lq_G x b bd S T i pc st := by
  intro H locs ls hI hl
  refine lv_aload_n X.1 X.2.1 d0 rfl (lv_at hl 3 rfl) ?_
  refine lv_iload_n X.1 X.2.1 d1 rfl (lv_at hl 0 rfl) ?_
  refine lv_iconst X.1 X.2.1 d2 hn ?_
  refine lv_iadd X.1 X.2.1 d3 ?_
  exact lq_elem X (q_add i j) (by omega) d4 k H locs ls hI hl
theorem lq_C (X : lq_M x b L xs) {y : MethodName} {cc2 : ByteArray} {maxL : Nat} {rt2 : Option FieldType} {rm2 : Room} {S1 : tg_S} {rv2 : Option Value} {n index : Nat} {As st0 st1 : List Value} (hM : tg_Met (tg_l x) y cc2 maxL rt2 rm2 tauC (tg_D x) (tg_cy x) (tg_ad x) (tg_tS x) S (.ref (tg_ad x 0) :: As) S1 rv2) (hY : tg_Y0 y cc2 maxL rt2 n) (hI0 : Cond.instanceMethod y ∈ tg_gG) (hs0 : Cond.selects y.cls y y ∈ tg_gG) (hL : Cond.methodLink RL index y ∈ tg_gG) (hc : y.cls = RX7)
    (hR : rm2.cells = 0 ∧ rm2.slots = 0 ∧ rm2.frames + 1 ≤ room_1.frames ∧ 8 + (maxL + 11) + rm2.locals ≤ room_1.locals) (hn : As.length = n) (hst : st0 = As.reverse ++ .ref (tg_ad x 0) :: st) (hW : (st.map fun v => v.category).sum ≤ 8) (hd : decode cL_law pc = .ok (.invokevirtual index, 3)) (h1 : rv2.toList ++ st = st1) (k : lq_G x b bd S1 T i (pc + 3) st1) : lq_G x b bd S T i pc st0 := by
  subst h1
  intro H locs ls hI hl
  obtain ⟨h1, h2, h3, h4, h5, h6⟩ := hI
  exact lq_run (cc := cL_law) (own := RL) (ci := 7) (ta := tauC) (tb := tauR) X.1 X.2.1 X.2.2.2.1 X.2.2.2.2.1 X.2.2.2.2.2.1 X.2.2.2.2.2.2.2.1 h1 h2 h3 h5 h6 hM hY hI0 hs0 hL rfl (by rw [hc]; rfl) (by rw [X.2.2.2.2.2.2.1]; exact hR) (by rw [X.2.2.2.2.2.2.1]; exact ⟨Nat.le_of_ble_eq_true rfl, Nat.le_of_ble_eq_true rfl⟩) hn (hl.1.trans X.2.2.1.symm) hst hW hd (fun H1 locs1 g1 g2 g3 g4 => k H1 locs1 ls ⟨g1, g2, g3, h4, h5, g4⟩ hl)
theorem lq_R (X : lq_M x b L xs) {y : MethodName} {cc2 : ByteArray} {maxL : Nat} {rt2 : Option FieldType} {rm2 : Room} {T1 : tg_S} {rv2 : Option Value} {n index : Nat} {As st0 st1 : List Value} (hM : tg_Met (tg_l x) y cc2 maxL rt2 rm2 tauR (tg_D x) (tg_cy x) bd (tg_tS x) T (.ref (bd 0) :: As) T1 rv2) (hY : tg_Y0 y cc2 maxL rt2 n) (hI0 : Cond.instanceMethod y ∈ tg_gG) (hs0 : Cond.selects y.cls y y ∈ tg_gG) (hL : Cond.methodLink RL index y ∈ tg_gG) (hc : y.cls = RX8)
    (hR : rm2.cells = 0 ∧ rm2.slots = 0 ∧ rm2.frames + 1 ≤ room_1.frames ∧ 8 + (maxL + 11) + rm2.locals ≤ room_1.locals) (hn : As.length = n) (hst : st0 = As.reverse ++ .ref (bd 0) :: st) (hW : (st.map fun v => v.category).sum ≤ 8) (hd : decode cL_law pc = .ok (.invokevirtual index, 3)) (h1 : rv2.toList ++ st = st1) (k : lq_G x b bd S T1 i (pc + 3) st1) : lq_G x b bd S T i pc st0 := by
  subst h1
  intro H locs ls hI hl
  obtain ⟨h1, h2, h3, h4, h5, h6⟩ := hI
  exact lq_run (cc := cL_law) (own := RL) (ci := 8) (ta := tauR) (tb := tauC) X.1 X.2.1 X.2.2.2.1 X.2.2.2.2.1 X.2.2.2.2.2.1 X.2.2.2.2.2.2.2.1 h2 h1 h4 h5.symm h6 hM hY hI0 hs0 hL rfl (by rw [hc]; rfl) (by rw [X.2.2.2.2.2.2.1]; exact hR) (by rw [X.2.2.2.2.2.2.1]; exact ⟨Nat.le_of_ble_eq_true rfl, Nat.le_of_ble_eq_true rfl⟩) hn (hl.1.trans X.2.2.1.symm) hst hW hd (fun H1 locs1 g1 g2 g3 g4 => k H1 locs1 ls ⟨g2, g1, h3, g3, h5, g4⟩ hl)
theorem lq_same (X : lq_M x b L xs) {r : Int32} {off : Int} (hd : decode cL_law pc = .ok (.if_icmp .eq off, 3)) (ht : (pc : Int) + off = ((1269 : Nat) : Int)) (k : lq_G x b bd S T i 1269 []) : lq_G x b bd S T i pc [.int r, .int r] := fun H locs ls hI hl => lv_icmp_eq X.1 X.2.1 hd ht (fun _ => k H locs ls hI hl) (fun h => absurd rfl h)
theorem lq_sameL (X : lq_M x b L xs) {r : Int64} {off : Int} (hd : decode cL_law pc = .ok (.lcmp, 1)) (hd2 : decode cL_law (pc + 1) = .ok (.ifCond .eq off, 3)) (ht : ((pc + 1 : Nat) : Int) + off = ((1269 : Nat) : Int)) (k : lq_G x b bd S T i 1269 []) : lq_G x b bd S T i pc [.long r, .long r] := fun H locs ls hI hl => W.lcmp X.1 X.2.1 hd (lv_if_eq X.1 X.2.1 hd2 ht (fun _ => k H locs ls hI hl) (fun h => absurd (by unfold lg_cmp; rw [if_neg (Int64.lt_irrefl), if_pos rfl]) h))
end LqRows
