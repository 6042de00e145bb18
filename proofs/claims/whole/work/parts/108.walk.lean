-- X8_no
def zr_X8_no : Room := { frames := 0, cells := 0, slots := 0, locals := 0 }
theorem dX8_no_0 : decode cX8_no 0 = .ok (.ldc2_w 107, 3) := by decide +kernel
theorem dX8_no_3 : decode cX8_no 3 = .ok (.iload_n 0, 1) := by decide +kernel
theorem dX8_no_4 : decode cX8_no 4 = .ok (.i2l, 1) := by decide +kernel
theorem dX8_no_5 : decode cX8_no 5 = .ok (.lsub, 1) := by decide +kernel
theorem dX8_no_6 : decode cX8_no 6 = .ok (.lreturn, 1) := by decide +kernel
set_option maxRecDepth 20000 in
set_option maxHeartbeats 4000000 in
theorem w_X8_no_0 {x : tg_X} {Sf : tg_S} {r : Int64} (X : tg_M tauR x cX8_no 1 RX8 zr_X8_no (some .long) Sf (some (.long r))) (S : tg_S) (v0 : Int32) (h : f_X8_no  S v0 = some (Sf, r)) : tg_G tauR x S 0 [(0, .int v0)] [] := by
  unfold f_X8_no at h
  refine tg_ldc2 X wk_X8_107 dX8_no_0 ?_
  refine tg_iload_n X dX8_no_3 rfl 0 rfl ?_
  refine tg_i2l X dX8_no_4 ?_
  refine tg_lsub X dX8_no_5 ?_
  exact tg_lret X h rfl dX8_no_6
theorem cm_X8_no (l : Launch) (D : va_G) (cy : Bool → ClassId) (ad : Nat → Nat) (tS : Nat) {S Sf : tg_S} {v0 : Int32} {r : Int64} (h : f_X8_no  S v0 = some (Sf, r)) : tg_Met l yX8_no cX8_no 1 (some .long) zr_X8_no tauR D cy ad tS S [.int v0] Sf (some (.long r)) := tg_mk (by decide +kernel) trivial (Nat.le_of_ble_eq_true rfl) (fun p e s m args below meth c Q A X => w_X8_no_0 X S v0 h)
-- X8_lowest
def zr_X8_lowest : Room := { frames := 0, cells := 0, slots := 0, locals := 0 }
theorem dX8_lowest_0 : decode cX8_lowest 0 = .ok (.lload_n 0, 1) := by decide +kernel
theorem dX8_lowest_1 : decode cX8_lowest 1 = .ok (.lstore 5, 2) := by decide +kernel
theorem dX8_lowest_3 : decode cX8_lowest 3 = .ok (.lload_n 2, 1) := by decide +kernel
theorem dX8_lowest_4 : decode cX8_lowest 4 = .ok (.lstore 7, 2) := by decide +kernel
theorem dX8_lowest_6 : decode cX8_lowest 6 = .ok (.lload 7, 2) := by decide +kernel
theorem dX8_lowest_8 : decode cX8_lowest 8 = .ok (.lconst 0, 1) := by decide +kernel
theorem dX8_lowest_9 : decode cX8_lowest 9 = .ok (.lcmp, 1) := by decide +kernel
theorem dX8_lowest_10 : decode cX8_lowest 10 = .ok (.ifCond .eq 21, 3) := by decide +kernel
theorem dX8_lowest_13 : decode cX8_lowest 13 = .ok (.lload 5, 2) := by decide +kernel
theorem dX8_lowest_15 : decode cX8_lowest 15 = .ok (.lload 7, 2) := by decide +kernel
theorem dX8_lowest_17 : decode cX8_lowest 17 = .ok (.lrem, 1) := by decide +kernel
theorem dX8_lowest_18 : decode cX8_lowest 18 = .ok (.lstore 9, 2) := by decide +kernel
theorem dX8_lowest_20 : decode cX8_lowest 20 = .ok (.lload 7, 2) := by decide +kernel
theorem dX8_lowest_22 : decode cX8_lowest 22 = .ok (.lstore 5, 2) := by decide +kernel
theorem dX8_lowest_24 : decode cX8_lowest 24 = .ok (.lload 9, 2) := by decide +kernel
theorem dX8_lowest_26 : decode cX8_lowest 26 = .ok (.lstore 7, 2) := by decide +kernel
theorem dX8_lowest_28 : decode cX8_lowest 28 = .ok (.goto (-22), 3) := by decide +kernel
theorem dX8_lowest_31 : decode cX8_lowest 31 = .ok (.iload 4, 2) := by decide +kernel
theorem dX8_lowest_33 : decode cX8_lowest 33 = .ok (.ifCond .ne 10, 3) := by decide +kernel
theorem dX8_lowest_36 : decode cX8_lowest 36 = .ok (.lload_n 0, 1) := by decide +kernel
theorem dX8_lowest_37 : decode cX8_lowest 37 = .ok (.lload 5, 2) := by decide +kernel
theorem dX8_lowest_39 : decode cX8_lowest 39 = .ok (.ldiv, 1) := by decide +kernel
theorem dX8_lowest_40 : decode cX8_lowest 40 = .ok (.goto 7, 3) := by decide +kernel
theorem dX8_lowest_43 : decode cX8_lowest 43 = .ok (.lload_n 2, 1) := by decide +kernel
theorem dX8_lowest_44 : decode cX8_lowest 44 = .ok (.lload 5, 2) := by decide +kernel
theorem dX8_lowest_46 : decode cX8_lowest 46 = .ok (.ldiv, 1) := by decide +kernel
theorem dX8_lowest_47 : decode cX8_lowest 47 = .ok (.lreturn, 1) := by decide +kernel
set_option maxRecDepth 20000 in
set_option maxHeartbeats 4000000 in
theorem w_X8_lowest_6 {x : tg_X} {Sf : tg_S} {r : Int64} {rec6 : tg_S → Int64 → Int64 → Int32 → Int64 → Int64 → Option (tg_S × Int64)} (X : tg_M tauR x cX8_lowest 11 RX8 zr_X8_lowest (some .long) Sf (some (.long r))) (hr6 : ∀ (S : tg_S) (v0 : Int64) (v2 : Int64) (v4 : Int32) (v5 : Int64) (v7 : Int64), rec6 S v0 v2 v4 v5 v7 = some (Sf, r) → tg_G tauR x S 6 [(0, .long v0), (2, .long v2), (4, .int v4), (5, .long v5), (7, .long v7)] []) (S : tg_S) (v0 : Int64) (v2 : Int64) (v4 : Int32) (v5 : Int64) (v7 : Int64) (h : f_X8_lowest_6 rec6 S v0 v2 v4 v5 v7 = some (Sf, r)) : tg_G tauR x S 6 [(0, .long v0), (2, .long v2), (4, .int v4), (5, .long v5), (7, .long v7)] [] := by
  unfold f_X8_lowest_6 at h
  refine tg_lload X dX8_lowest_6 4 rfl ?_
  refine tg_lconst X dX8_lowest_8 (v := 0) rfl ?_
  refine tg_lcmp X dX8_lowest_9 ?_
  refine tg_if_eq (tgt := 31) X dX8_lowest_10 (by decide) (fun c1 => ?_) (fun c1 => ?_)
  · have h := tg_ifT c1 h
    refine tg_iload X dX8_lowest_31 2 rfl ?_
    refine tg_if_ne (tgt := 43) X dX8_lowest_33 (by decide) (fun c2 => ?_) (fun c2 => ?_)
    · have h := tg_ifF c2 h
      refine tg_lload_n X dX8_lowest_43 rfl 1 rfl ?_
      refine tg_lload X dX8_lowest_44 3 rfl ?_
      obtain ⟨z3, h⟩ := tg_ckE h
      refine tg_ldiv X dX8_lowest_46 (of_decide_eq_true z3) ?_
      exact tg_lret X h rfl dX8_lowest_47
    · have h := tg_ifT c2 h
      refine tg_lload_n X dX8_lowest_36 rfl 0 rfl ?_
      refine tg_lload X dX8_lowest_37 3 rfl ?_
      obtain ⟨z4, h⟩ := tg_ckE h
      refine tg_ldiv X dX8_lowest_39 (of_decide_eq_true z4) ?_
      refine tg_goto (tgt := 47) X dX8_lowest_40 (by decide) ?_
      exact tg_lret X h rfl dX8_lowest_47
  · have h := tg_ifF c1 h
    refine tg_lload X dX8_lowest_13 3 rfl ?_
    refine tg_lload X dX8_lowest_15 4 rfl ?_
    obtain ⟨z6, h⟩ := tg_ckE h
    refine tg_lrem X dX8_lowest_17 (of_decide_eq_true z6) ?_
    refine tg_topl (fun y5 ey5 => ?_)
    have h := tg_nmE ey5 h
    refine tg_lstore (lv2 := [(9, .long y5), (0, .long v0), (2, .long v2), (4, .int v4), (5, .long v5), (7, .long v7)]) X dX8_lowest_18 (by decide) rfl ?_
    refine tg_lload X dX8_lowest_20 5 rfl ?_
    refine tg_lstore (lv2 := [(5, .long v7), (9, .long y5), (0, .long v0), (2, .long v2), (4, .int v4), (7, .long v7)]) X dX8_lowest_22 (by decide) rfl ?_
    refine tg_lload X dX8_lowest_24 1 rfl ?_
    refine tg_lstore (lv2 := [(7, .long y5), (5, .long v7), (9, .long y5), (0, .long v0), (2, .long v2), (4, .int v4)]) X dX8_lowest_26 (by decide) rfl ?_
    refine tg_goto (tgt := 6) X dX8_lowest_28 (by decide) ?_
    refine tg_re [3, 4, 5, 1, 0] rfl ?_
    exact hr6 S v0 v2 v4 v7 y5 h
theorem wl_X8_lowest_6 {x : tg_X} {Sf : tg_S} {r : Int64} (X : tg_M tauR x cX8_lowest 11 RX8 zr_X8_lowest (some .long) Sf (some (.long r))) : ∀ (n : Nat) (S : tg_S) (v0 : Int64) (v2 : Int64) (v4 : Int32) (v5 : Int64) (v7 : Int64) (h : L_X8_lowest_6  n S v0 v2 v4 v5 v7 = some (Sf, r)), tg_G tauR x S 6 [(0, .long v0), (2, .long v2), (4, .int v4), (5, .long v5), (7, .long v7)] [] := by
  intro n
  induction n with
  | zero => intro S v0 v2 v4 v5 v7 h; cases h
  | succ n ih => intro S v0 v2 v4 v5 v7 h; exact w_X8_lowest_6 X  ih S v0 v2 v4 v5 v7 h
set_option maxRecDepth 20000 in
set_option maxHeartbeats 4000000 in
theorem w_X8_lowest_0 {x : tg_X} {Sf : tg_S} {r : Int64} (X : tg_M tauR x cX8_lowest 11 RX8 zr_X8_lowest (some .long) Sf (some (.long r))) (S : tg_S) (v0 : Int64) (v2 : Int64) (v4 : Int32) (h : f_X8_lowest  S v0 v2 v4 = some (Sf, r)) : tg_G tauR x S 0 [(0, .long v0), (2, .long v2), (4, .int v4)] [] := by
  unfold f_X8_lowest at h
  refine tg_lload_n X dX8_lowest_0 rfl 0 rfl ?_
  refine tg_lstore (lv2 := [(5, .long v0), (0, .long v0), (2, .long v2), (4, .int v4)]) X dX8_lowest_1 (by decide) rfl ?_
  refine tg_lload_n X dX8_lowest_3 rfl 2 rfl ?_
  refine tg_lstore (lv2 := [(7, .long v2), (5, .long v0), (0, .long v0), (2, .long v2), (4, .int v4)]) X dX8_lowest_4 (by decide) rfl ?_
  refine tg_re [2, 3, 4, 1, 0] rfl ?_
  exact wl_X8_lowest_6 X  tg_F S v0 v2 v4 v0 v2 h
theorem cm_X8_lowest (l : Launch) (D : va_G) (cy : Bool → ClassId) (ad : Nat → Nat) (tS : Nat) {S Sf : tg_S} {v0 : Int64} {v2 : Int64} {v4 : Int32} {r : Int64} (h : f_X8_lowest  S v0 v2 v4 = some (Sf, r)) : tg_Met l yX8_lowest cX8_lowest 11 (some .long) zr_X8_lowest tauR D cy ad tS S [.long v0, .long v2, .int v4] Sf (some (.long r)) := tg_mk (by decide +kernel) trivial (Nat.le_of_ble_eq_true rfl) (fun p e s m args below meth c Q A X => w_X8_lowest_0 X S v0 v2 v4 h)
-- X8_isText
def zr_X8_isText : Room := { frames := 1, cells := 0, slots := 0, locals := 22 }
theorem dX8_isText_0 : decode cX8_isText 0 = .ok (.iload_n 0, 1) := by decide +kernel
theorem dX8_isText_1 : decode cX8_isText 1 = .ok (.iconst 0, 1) := by decide +kernel
theorem dX8_isText_2 : decode cX8_isText 2 = .ok (.iconst 3, 1) := by decide +kernel
theorem dX8_isText_3 : decode cX8_isText 3 = .ok (.invokestatic 109, 3) := by decide +kernel
theorem dX8_isText_6 : decode cX8_isText 6 = .ok (.ireturn, 1) := by decide +kernel
set_option maxRecDepth 20000 in
set_option maxHeartbeats 4000000 in
theorem w_X8_isText_0 {x : tg_X} {Sf : tg_S} {r : Int32} (X : tg_M tauR x cX8_isText 1 RX8 zr_X8_isText (some .boolean) Sf (some (.int r))) (S : tg_S) (v0 : Int32) (h : f_X8_isText  S v0 = some (Sf, r)) : tg_G tauR x S 0 [(0, .int v0)] [] := by
  unfold f_X8_isText at h
  refine tg_iload_n X dX8_isText_0 rfl 0 rfl ?_
  refine tg_iconst X dX8_isText_1 tk_i0 ?_
  refine tg_iconst X dX8_isText_2 tk_i3 ?_
  obtain ⟨S1, r2, kS1, h⟩ := tg_bdE h
  refine tg_callS (As := [.int v0, .int 0, .int 3]) (rest := []) X (cm_X8_in _ _ _ _ _ kS1) yy_X8_in wt_X8_in wm_X8_109 ⟨rfl, rfl, Nat.le_of_ble_eq_true rfl, Nat.le_of_ble_eq_true rfl⟩ rfl rfl (Nat.le_of_ble_eq_true rfl) dX8_isText_3 rfl ?_
  obtain ⟨hz, h⟩ := tg_bzE h
  exact tg_iret X h hz dX8_isText_6
theorem cm_X8_isText (l : Launch) (D : va_G) (cy : Bool → ClassId) (ad : Nat → Nat) (tS : Nat) {S Sf : tg_S} {v0 : Int32} {r : Int32} (h : f_X8_isText  S v0 = some (Sf, r)) : tg_Met l yX8_isText cX8_isText 1 (some .boolean) zr_X8_isText tauR D cy ad tS S [.int v0] Sf (some (.int r)) := tg_mk (by decide +kernel) trivial (Nat.le_of_ble_eq_true rfl) (fun p e s m args below meth c Q A X => w_X8_isText_0 X S v0 h)
-- X8_isBeat
def zr_X8_isBeat : Room := { frames := 1, cells := 0, slots := 0, locals := 22 }
theorem dX8_isBeat_0 : decode cX8_isBeat 0 = .ok (.iload_n 0, 1) := by decide +kernel
theorem dX8_isBeat_1 : decode cX8_isBeat 1 = .ok (.iconst 0, 1) := by decide +kernel
theorem dX8_isBeat_2 : decode cX8_isBeat 2 = .ok (.bipush 23, 2) := by decide +kernel
theorem dX8_isBeat_4 : decode cX8_isBeat 4 = .ok (.invokestatic 109, 3) := by decide +kernel
theorem dX8_isBeat_7 : decode cX8_isBeat 7 = .ok (.ireturn, 1) := by decide +kernel
set_option maxRecDepth 20000 in
set_option maxHeartbeats 4000000 in
theorem w_X8_isBeat_0 {x : tg_X} {Sf : tg_S} {r : Int32} (X : tg_M tauR x cX8_isBeat 1 RX8 zr_X8_isBeat (some .boolean) Sf (some (.int r))) (S : tg_S) (v0 : Int32) (h : f_X8_isBeat  S v0 = some (Sf, r)) : tg_G tauR x S 0 [(0, .int v0)] [] := by
  unfold f_X8_isBeat at h
  refine tg_iload_n X dX8_isBeat_0 rfl 0 rfl ?_
  refine tg_iconst X dX8_isBeat_1 tk_i0 ?_
  refine tg_bipush X dX8_isBeat_2 tk_b23 ?_
  obtain ⟨S1, r2, kS1, h⟩ := tg_bdE h
  refine tg_callS (As := [.int v0, .int 0, .int 23]) (rest := []) X (cm_X8_in _ _ _ _ _ kS1) yy_X8_in wt_X8_in wm_X8_109 ⟨rfl, rfl, Nat.le_of_ble_eq_true rfl, Nat.le_of_ble_eq_true rfl⟩ rfl rfl (Nat.le_of_ble_eq_true rfl) dX8_isBeat_4 rfl ?_
  obtain ⟨hz, h⟩ := tg_bzE h
  exact tg_iret X h hz dX8_isBeat_7
theorem cm_X8_isBeat (l : Launch) (D : va_G) (cy : Bool → ClassId) (ad : Nat → Nat) (tS : Nat) {S Sf : tg_S} {v0 : Int32} {r : Int32} (h : f_X8_isBeat  S v0 = some (Sf, r)) : tg_Met l yX8_isBeat cX8_isBeat 1 (some .boolean) zr_X8_isBeat tauR D cy ad tS S [.int v0] Sf (some (.int r)) := tg_mk (by decide +kernel) trivial (Nat.le_of_ble_eq_true rfl) (fun p e s m args below meth c Q A X => w_X8_isBeat_0 X S v0 h)
-- X8_isTwo
def zr_X8_isTwo : Room := { frames := 1, cells := 0, slots := 0, locals := 22 }
theorem dX8_isTwo_0 : decode cX8_isTwo 0 = .ok (.iload_n 0, 1) := by decide +kernel
theorem dX8_isTwo_1 : decode cX8_isTwo 1 = .ok (.iconst 0, 1) := by decide +kernel
theorem dX8_isTwo_2 : decode cX8_isTwo 2 = .ok (.iconst 1, 1) := by decide +kernel
theorem dX8_isTwo_3 : decode cX8_isTwo 3 = .ok (.invokestatic 109, 3) := by decide +kernel
theorem dX8_isTwo_6 : decode cX8_isTwo 6 = .ok (.ireturn, 1) := by decide +kernel
set_option maxRecDepth 20000 in
set_option maxHeartbeats 4000000 in
theorem w_X8_isTwo_0 {x : tg_X} {Sf : tg_S} {r : Int32} (X : tg_M tauR x cX8_isTwo 1 RX8 zr_X8_isTwo (some .boolean) Sf (some (.int r))) (S : tg_S) (v0 : Int32) (h : f_X8_isTwo  S v0 = some (Sf, r)) : tg_G tauR x S 0 [(0, .int v0)] [] := by
  unfold f_X8_isTwo at h
  refine tg_iload_n X dX8_isTwo_0 rfl 0 rfl ?_
  refine tg_iconst X dX8_isTwo_1 tk_i0 ?_
  refine tg_iconst X dX8_isTwo_2 tk_i1 ?_
  obtain ⟨S1, r2, kS1, h⟩ := tg_bdE h
  refine tg_callS (As := [.int v0, .int 0, .int 1]) (rest := []) X (cm_X8_in _ _ _ _ _ kS1) yy_X8_in wt_X8_in wm_X8_109 ⟨rfl, rfl, Nat.le_of_ble_eq_true rfl, Nat.le_of_ble_eq_true rfl⟩ rfl rfl (Nat.le_of_ble_eq_true rfl) dX8_isTwo_3 rfl ?_
  obtain ⟨hz, h⟩ := tg_bzE h
  exact tg_iret X h hz dX8_isTwo_6
theorem cm_X8_isTwo (l : Launch) (D : va_G) (cy : Bool → ClassId) (ad : Nat → Nat) (tS : Nat) {S Sf : tg_S} {v0 : Int32} {r : Int32} (h : f_X8_isTwo  S v0 = some (Sf, r)) : tg_Met l yX8_isTwo cX8_isTwo 1 (some .boolean) zr_X8_isTwo tauR D cy ad tS S [.int v0] Sf (some (.int r)) := tg_mk (by decide +kernel) trivial (Nat.le_of_ble_eq_true rfl) (fun p e s m args below meth c Q A X => w_X8_isTwo_0 X S v0 h)
-- X8_isThree
def zr_X8_isThree : Room := { frames := 1, cells := 0, slots := 0, locals := 22 }
theorem dX8_isThree_0 : decode cX8_isThree 0 = .ok (.iload_n 0, 1) := by decide +kernel
theorem dX8_isThree_1 : decode cX8_isThree 1 = .ok (.iconst 0, 1) := by decide +kernel
theorem dX8_isThree_2 : decode cX8_isThree 2 = .ok (.iconst 2, 1) := by decide +kernel
theorem dX8_isThree_3 : decode cX8_isThree 3 = .ok (.invokestatic 109, 3) := by decide +kernel
theorem dX8_isThree_6 : decode cX8_isThree 6 = .ok (.ireturn, 1) := by decide +kernel
set_option maxRecDepth 20000 in
set_option maxHeartbeats 4000000 in
theorem w_X8_isThree_0 {x : tg_X} {Sf : tg_S} {r : Int32} (X : tg_M tauR x cX8_isThree 1 RX8 zr_X8_isThree (some .boolean) Sf (some (.int r))) (S : tg_S) (v0 : Int32) (h : f_X8_isThree  S v0 = some (Sf, r)) : tg_G tauR x S 0 [(0, .int v0)] [] := by
  unfold f_X8_isThree at h
  refine tg_iload_n X dX8_isThree_0 rfl 0 rfl ?_
  refine tg_iconst X dX8_isThree_1 tk_i0 ?_
  refine tg_iconst X dX8_isThree_2 tk_i2 ?_
  obtain ⟨S1, r2, kS1, h⟩ := tg_bdE h
  refine tg_callS (As := [.int v0, .int 0, .int 2]) (rest := []) X (cm_X8_in _ _ _ _ _ kS1) yy_X8_in wt_X8_in wm_X8_109 ⟨rfl, rfl, Nat.le_of_ble_eq_true rfl, Nat.le_of_ble_eq_true rfl⟩ rfl rfl (Nat.le_of_ble_eq_true rfl) dX8_isThree_3 rfl ?_
  obtain ⟨hz, h⟩ := tg_bzE h
  exact tg_iret X h hz dX8_isThree_6
theorem cm_X8_isThree (l : Launch) (D : va_G) (cy : Bool → ClassId) (ad : Nat → Nat) (tS : Nat) {S Sf : tg_S} {v0 : Int32} {r : Int32} (h : f_X8_isThree  S v0 = some (Sf, r)) : tg_Met l yX8_isThree cX8_isThree 1 (some .boolean) zr_X8_isThree tauR D cy ad tS S [.int v0] Sf (some (.int r)) := tg_mk (by decide +kernel) trivial (Nat.le_of_ble_eq_true rfl) (fun p e s m args below meth c Q A X => w_X8_isThree_0 X S v0 h)
-- X8_type
def zr_X8_type : Room := { frames := 2, cells := 0, slots := 0, locals := 42 }
theorem dX8_type_0 : decode cX8_type 0 = .ok (.iload_n 1, 1) := by decide +kernel
theorem dX8_type_1 : decode cX8_type 1 = .ok (.invokestatic 113, 3) := by decide +kernel
theorem dX8_type_4 : decode cX8_type 4 = .ok (.ifCond .eq 14, 3) := by decide +kernel
theorem dX8_type_7 : decode cX8_type 7 = .ok (.iload_n 2, 1) := by decide +kernel
theorem dX8_type_8 : decode cX8_type 8 = .ok (.iconst 0, 1) := by decide +kernel
theorem dX8_type_9 : decode cX8_type 9 = .ok (.sipush 255, 3) := by decide +kernel
theorem dX8_type_12 : decode cX8_type 12 = .ok (.invokestatic 109, 3) := by decide +kernel
theorem dX8_type_15 : decode cX8_type 15 = .ok (.ifCond .ne 6, 3) := by decide +kernel
theorem dX8_type_18 : decode cX8_type 18 = .ok (.bipush (-2), 2) := by decide +kernel
theorem dX8_type_20 : decode cX8_type 20 = .ok (.ireturn, 1) := by decide +kernel
theorem dX8_type_21 : decode cX8_type 21 = .ok (.aload_n 0, 1) := by decide +kernel
theorem dX8_type_22 : decode cX8_type 22 = .ok (.getfield 7, 3) := by decide +kernel
theorem dX8_type_25 : decode cX8_type 25 = .ok (.iload_n 1, 1) := by decide +kernel
theorem dX8_type_26 : decode cX8_type 26 = .ok (.iaload, 1) := by decide +kernel
theorem dX8_type_27 : decode cX8_type 27 = .ok (.iload_n 1, 1) := by decide +kernel
theorem dX8_type_28 : decode cX8_type 28 = .ok (.iconst 2, 1) := by decide +kernel
theorem dX8_type_29 : decode cX8_type 29 = .ok (.if_icmp .ge 8, 3) := by decide +kernel
theorem dX8_type_32 : decode cX8_type 32 = .ok (.bipush 31, 2) := by decide +kernel
theorem dX8_type_34 : decode cX8_type 34 = .ok (.goto 5, 3) := by decide +kernel
theorem dX8_type_37 : decode cX8_type 37 = .ok (.bipush 24, 2) := by decide +kernel
theorem dX8_type_39 : decode cX8_type 39 = .ok (.if_icmp .ne 6, 3) := by decide +kernel
theorem dX8_type_42 : decode cX8_type 42 = .ok (.bipush (-4), 2) := by decide +kernel
theorem dX8_type_44 : decode cX8_type 44 = .ok (.ireturn, 1) := by decide +kernel
theorem dX8_type_45 : decode cX8_type 45 = .ok (.aload_n 0, 1) := by decide +kernel
theorem dX8_type_46 : decode cX8_type 46 = .ok (.getfield 13, 3) := by decide +kernel
theorem dX8_type_49 : decode cX8_type 49 = .ok (.bipush 31, 2) := by decide +kernel
theorem dX8_type_51 : decode cX8_type 51 = .ok (.iload_n 1, 1) := by decide +kernel
theorem dX8_type_52 : decode cX8_type 52 = .ok (.imul, 1) := by decide +kernel
theorem dX8_type_53 : decode cX8_type 53 = .ok (.aload_n 0, 1) := by decide +kernel
theorem dX8_type_54 : decode cX8_type 54 = .ok (.getfield 7, 3) := by decide +kernel
theorem dX8_type_57 : decode cX8_type 57 = .ok (.iload_n 1, 1) := by decide +kernel
theorem dX8_type_58 : decode cX8_type 58 = .ok (.iaload, 1) := by decide +kernel
theorem dX8_type_59 : decode cX8_type 59 = .ok (.iadd, 1) := by decide +kernel
theorem dX8_type_60 : decode cX8_type 60 = .ok (.iload_n 2, 1) := by decide +kernel
theorem dX8_type_61 : decode cX8_type 61 = .ok (.iastore, 1) := by decide +kernel
theorem dX8_type_62 : decode cX8_type 62 = .ok (.aload_n 0, 1) := by decide +kernel
theorem dX8_type_63 : decode cX8_type 63 = .ok (.getfield 7, 3) := by decide +kernel
theorem dX8_type_66 : decode cX8_type 66 = .ok (.iload_n 1, 1) := by decide +kernel
theorem dX8_type_67 : decode cX8_type 67 = .ok (.dup2, 1) := by decide +kernel
theorem dX8_type_68 : decode cX8_type 68 = .ok (.iaload, 1) := by decide +kernel
theorem dX8_type_69 : decode cX8_type 69 = .ok (.iconst 1, 1) := by decide +kernel
theorem dX8_type_70 : decode cX8_type 70 = .ok (.iadd, 1) := by decide +kernel
theorem dX8_type_71 : decode cX8_type 71 = .ok (.iastore, 1) := by decide +kernel
theorem dX8_type_72 : decode cX8_type 72 = .ok (.aload_n 0, 1) := by decide +kernel
theorem dX8_type_73 : decode cX8_type 73 = .ok (.getfield 7, 3) := by decide +kernel
theorem dX8_type_76 : decode cX8_type 76 = .ok (.iload_n 1, 1) := by decide +kernel
theorem dX8_type_77 : decode cX8_type 77 = .ok (.iaload, 1) := by decide +kernel
theorem dX8_type_78 : decode cX8_type 78 = .ok (.ireturn, 1) := by decide +kernel
set_option maxRecDepth 20000 in
set_option maxHeartbeats 4000000 in
theorem w_X8_type_39 {x : tg_X} {Sf : tg_S} {r : Int32} (X : tg_M tauR x cX8_type 3 RX8 zr_X8_type (some .int) Sf (some (.int r))) (S : tg_S) (v1 : Int32) (v2 : Int32) (s0 : Int32) (s1 : Int32) (h : f_X8_type_39  S v1 v2 s0 s1 = some (Sf, r)) : tg_G tauR x S 39 [(0, .ref (tg_ad x 0)), (1, .int v1), (2, .int v2)] [.int s0, .int s1] := by
  unfold f_X8_type_39 at h
  refine tg_icmp_ne (tgt := 45) X dX8_type_39 (by decide) (fun c1 => ?_) (fun c1 => ?_)
  · have h := tg_ifF c1 h
    refine tg_aload_n X dX8_type_45 rfl 0 rfl ?_
    refine tg_getr X 0 rfl cl_X8 1 (by decide) rfl wf_X8_13 dX8_type_46 ?_
    refine tg_bipush X dX8_type_49 tk_b31 ?_
    refine tg_iload_n X dX8_type_51 rfl 1 rfl ?_
    refine tg_imul X dX8_type_52 ?_
    refine tg_aload_n X dX8_type_53 rfl 0 rfl ?_
    refine tg_getr X 0 rfl cl_X8 0 (by decide) rfl wf_X8_7 dX8_type_54 ?_
    refine tg_iload_n X dX8_type_57 rfl 1 rfl ?_
    obtain ⟨y2, ey2, by2, h⟩ := tg_rdE h
    refine tg_iald X 1 rfl ey2 by2 dX8_type_58 ?_
    refine tg_iadd X dX8_type_59 ?_
    refine tg_iload_n X dX8_type_60 rfl 2 rfl ?_
    obtain ⟨S3, eS3, bS3, h⟩ := tg_wrE h
    refine tg_iast X 2 rfl bS3 dX8_type_61 eS3 ?_
    refine tg_aload_n X dX8_type_62 rfl 0 rfl ?_
    refine tg_getr X 0 rfl cl_X8 0 (by decide) rfl wf_X8_7 dX8_type_63 ?_
    refine tg_iload_n X dX8_type_66 rfl 1 rfl ?_
    refine tg_dup2 X dX8_type_67 rfl rfl ?_
    obtain ⟨y4, ey4, by4, h⟩ := tg_rdE h
    refine tg_iald X 1 rfl ey4 by4 dX8_type_68 ?_
    refine tg_iconst X dX8_type_69 tk_i1 ?_
    refine tg_iadd X dX8_type_70 ?_
    obtain ⟨S5, eS5, bS5, h⟩ := tg_wrE h
    refine tg_iast X 1 rfl bS5 dX8_type_71 eS5 ?_
    refine tg_aload_n X dX8_type_72 rfl 0 rfl ?_
    refine tg_getr X 0 rfl cl_X8 0 (by decide) rfl wf_X8_7 dX8_type_73 ?_
    refine tg_iload_n X dX8_type_76 rfl 1 rfl ?_
    obtain ⟨y6, ey6, by6, h⟩ := tg_rdE h
    refine tg_iald X 1 rfl ey6 by6 dX8_type_77 ?_
    exact tg_iret X h rfl dX8_type_78
  · have h := tg_ifT c1 h
    refine tg_bipush X dX8_type_42 tk_bm4 ?_
    exact tg_iret X h rfl dX8_type_44
set_option maxRecDepth 20000 in
set_option maxHeartbeats 4000000 in
theorem w_X8_type_0 {x : tg_X} {Sf : tg_S} {r : Int32} (X : tg_M tauR x cX8_type 3 RX8 zr_X8_type (some .int) Sf (some (.int r))) (S : tg_S) (v1 : Int32) (v2 : Int32) (h : f_X8_type  S v1 v2 = some (Sf, r)) : tg_G tauR x S 0 [(0, .ref (tg_ad x 0)), (1, .int v1), (2, .int v2)] [] := by
  unfold f_X8_type at h
  refine tg_iload_n X dX8_type_0 rfl 1 rfl ?_
  obtain ⟨S1, r2, kS1, h⟩ := tg_bdE h
  refine tg_callS (As := [.int v1]) (rest := []) X (cm_X8_isText _ _ _ _ _ kS1) yy_X8_isText wt_X8_isText wm_X8_113 ⟨rfl, rfl, Nat.le_of_ble_eq_true rfl, Nat.le_of_ble_eq_true rfl⟩ rfl rfl (Nat.le_of_ble_eq_true rfl) dX8_type_1 rfl ?_
  refine tg_if_eq (tgt := 18) X dX8_type_4 (by decide) (fun c3 => ?_) (fun c3 => ?_)
  · have h := tg_ifT c3 h
    refine tg_bipush X dX8_type_18 tk_bm2 ?_
    exact tg_iret X h rfl dX8_type_20
  · have h := tg_ifF c3 h
    refine tg_iload_n X dX8_type_7 rfl 2 rfl ?_
    refine tg_iconst X dX8_type_8 tk_i0 ?_
    refine tg_sipush X dX8_type_9 tk_s255 ?_
    obtain ⟨S4, r5, kS4, h⟩ := tg_bdE h
    refine tg_callS (As := [.int v2, .int 0, .int 255]) (rest := []) X (cm_X8_in _ _ _ _ _ kS4) yy_X8_in wt_X8_in wm_X8_109 ⟨rfl, rfl, Nat.le_of_ble_eq_true rfl, Nat.le_of_ble_eq_true rfl⟩ rfl rfl (Nat.le_of_ble_eq_true rfl) dX8_type_12 rfl ?_
    refine tg_if_ne (tgt := 21) X dX8_type_15 (by decide) (fun c6 => ?_) (fun c6 => ?_)
    · have h := tg_ifF c6 h
      refine tg_aload_n X dX8_type_21 rfl 0 rfl ?_
      refine tg_getr X 0 rfl cl_X8 0 (by decide) rfl wf_X8_7 dX8_type_22 ?_
      refine tg_iload_n X dX8_type_25 rfl 1 rfl ?_
      obtain ⟨y7, ey7, by7, h⟩ := tg_rdE h
      refine tg_iald X 1 rfl ey7 by7 dX8_type_26 ?_
      refine tg_iload_n X dX8_type_27 rfl 1 rfl ?_
      refine tg_iconst X dX8_type_28 tk_i2 ?_
      refine tg_icmp_ge (tgt := 37) X dX8_type_29 (by decide) (fun c8 => ?_) (fun c8 => ?_)
      · rw [if_pos c8] at h
        refine tg_bipush X dX8_type_37 tk_b24 ?_
        exact w_X8_type_39 X  S4 v1 v2 24 y7 h
      · rw [if_neg c8] at h
        refine tg_bipush X dX8_type_32 tk_b31 ?_
        refine tg_goto (tgt := 39) X dX8_type_34 (by decide) ?_
        exact w_X8_type_39 X  S4 v1 v2 31 y7 h
    · have h := tg_ifT c6 h
      refine tg_bipush X dX8_type_18 tk_bm2 ?_
      exact tg_iret X h rfl dX8_type_20
theorem cm_X8_type (l : Launch) (D : va_G) (cy : Bool → ClassId) (ad : Nat → Nat) (tS : Nat) {S Sf : tg_S} {v1 : Int32} {v2 : Int32} {r : Int32} (h : f_X8_type  S v1 v2 = some (Sf, r)) : tg_Met l yX8_type cX8_type 3 (some .int) zr_X8_type tauR D cy ad tS S [.ref (ad 0), .int v1, .int v2] Sf (some (.int r)) := tg_mk (by decide +kernel) trivial (Nat.le_of_ble_eq_true rfl) (fun p e s m args below meth c Q A X => w_X8_type_0 X S v1 v2 h)
-- X8_wipe
def zr_X8_wipe : Room := { frames := 2, cells := 0, slots := 0, locals := 42 }
theorem dX8_wipe_0 : decode cX8_wipe 0 = .ok (.iload_n 1, 1) := by decide +kernel
theorem dX8_wipe_1 : decode cX8_wipe 1 = .ok (.invokestatic 113, 3) := by decide +kernel
theorem dX8_wipe_4 : decode cX8_wipe 4 = .ok (.ifCond .ne 6, 3) := by decide +kernel
theorem dX8_wipe_7 : decode cX8_wipe 7 = .ok (.bipush (-2), 2) := by decide +kernel
theorem dX8_wipe_9 : decode cX8_wipe 9 = .ok (.ireturn, 1) := by decide +kernel
theorem dX8_wipe_10 : decode cX8_wipe 10 = .ok (.aload_n 0, 1) := by decide +kernel
theorem dX8_wipe_11 : decode cX8_wipe 11 = .ok (.getfield 7, 3) := by decide +kernel
theorem dX8_wipe_14 : decode cX8_wipe 14 = .ok (.iload_n 1, 1) := by decide +kernel
theorem dX8_wipe_15 : decode cX8_wipe 15 = .ok (.iaload, 1) := by decide +kernel
theorem dX8_wipe_16 : decode cX8_wipe 16 = .ok (.istore_n 2, 1) := by decide +kernel
theorem dX8_wipe_17 : decode cX8_wipe 17 = .ok (.aload_n 0, 1) := by decide +kernel
theorem dX8_wipe_18 : decode cX8_wipe 18 = .ok (.getfield 7, 3) := by decide +kernel
theorem dX8_wipe_21 : decode cX8_wipe 21 = .ok (.iload_n 1, 1) := by decide +kernel
theorem dX8_wipe_22 : decode cX8_wipe 22 = .ok (.iconst 0, 1) := by decide +kernel
theorem dX8_wipe_23 : decode cX8_wipe 23 = .ok (.iastore, 1) := by decide +kernel
theorem dX8_wipe_24 : decode cX8_wipe 24 = .ok (.iload_n 2, 1) := by decide +kernel
theorem dX8_wipe_25 : decode cX8_wipe 25 = .ok (.ireturn, 1) := by decide +kernel
set_option maxRecDepth 20000 in
set_option maxHeartbeats 4000000 in
theorem w_X8_wipe_0 {x : tg_X} {Sf : tg_S} {r : Int32} (X : tg_M tauR x cX8_wipe 3 RX8 zr_X8_wipe (some .int) Sf (some (.int r))) (S : tg_S) (v1 : Int32) (h : f_X8_wipe  S v1 = some (Sf, r)) : tg_G tauR x S 0 [(0, .ref (tg_ad x 0)), (1, .int v1)] [] := by
  unfold f_X8_wipe at h
  refine tg_iload_n X dX8_wipe_0 rfl 1 rfl ?_
  obtain ⟨S1, r2, kS1, h⟩ := tg_bdE h
  refine tg_callS (As := [.int v1]) (rest := []) X (cm_X8_isText _ _ _ _ _ kS1) yy_X8_isText wt_X8_isText wm_X8_113 ⟨rfl, rfl, Nat.le_of_ble_eq_true rfl, Nat.le_of_ble_eq_true rfl⟩ rfl rfl (Nat.le_of_ble_eq_true rfl) dX8_wipe_1 rfl ?_
  refine tg_if_ne (tgt := 10) X dX8_wipe_4 (by decide) (fun c3 => ?_) (fun c3 => ?_)
  · have h := tg_ifF c3 h
    refine tg_aload_n X dX8_wipe_10 rfl 0 rfl ?_
    refine tg_getr X 0 rfl cl_X8 0 (by decide) rfl wf_X8_7 dX8_wipe_11 ?_
    refine tg_iload_n X dX8_wipe_14 rfl 1 rfl ?_
    obtain ⟨y4, ey4, by4, h⟩ := tg_rdE h
    refine tg_iald X 1 rfl ey4 by4 dX8_wipe_15 ?_
    refine tg_istore_n (lv2 := [(2, .int y4), (0, .ref (tg_ad x 0)), (1, .int v1)]) X dX8_wipe_16 rfl (by decide) rfl ?_
    refine tg_aload_n X dX8_wipe_17 rfl 1 rfl ?_
    refine tg_getr X 0 rfl cl_X8 0 (by decide) rfl wf_X8_7 dX8_wipe_18 ?_
    refine tg_iload_n X dX8_wipe_21 rfl 2 rfl ?_
    refine tg_iconst X dX8_wipe_22 tk_i0 ?_
    obtain ⟨S5, eS5, bS5, h⟩ := tg_wrE h
    refine tg_iast X 1 rfl bS5 dX8_wipe_23 eS5 ?_
    refine tg_iload_n X dX8_wipe_24 rfl 0 rfl ?_
    exact tg_iret X h rfl dX8_wipe_25
  · have h := tg_ifT c3 h
    refine tg_bipush X dX8_wipe_7 tk_bm2 ?_
    exact tg_iret X h rfl dX8_wipe_9
theorem cm_X8_wipe (l : Launch) (D : va_G) (cy : Bool → ClassId) (ad : Nat → Nat) (tS : Nat) {S Sf : tg_S} {v1 : Int32} {r : Int32} (h : f_X8_wipe  S v1 = some (Sf, r)) : tg_Met l yX8_wipe cX8_wipe 3 (some .int) zr_X8_wipe tauR D cy ad tS S [.ref (ad 0), .int v1] Sf (some (.int r)) := tg_mk (by decide +kernel) trivial (Nat.le_of_ble_eq_true rfl) (fun p e s m args below meth c Q A X => w_X8_wipe_0 X S v1 h)
-- X8_undo
def zr_X8_undo : Room := { frames := 2, cells := 0, slots := 0, locals := 42 }
theorem dX8_undo_0 : decode cX8_undo 0 = .ok (.iload_n 1, 1) := by decide +kernel
theorem dX8_undo_1 : decode cX8_undo 1 = .ok (.invokestatic 113, 3) := by decide +kernel
theorem dX8_undo_4 : decode cX8_undo 4 = .ok (.ifCond .ne 6, 3) := by decide +kernel
theorem dX8_undo_7 : decode cX8_undo 7 = .ok (.bipush (-2), 2) := by decide +kernel
theorem dX8_undo_9 : decode cX8_undo 9 = .ok (.ireturn, 1) := by decide +kernel
theorem dX8_undo_10 : decode cX8_undo 10 = .ok (.aload_n 0, 1) := by decide +kernel
theorem dX8_undo_11 : decode cX8_undo 11 = .ok (.getfield 7, 3) := by decide +kernel
theorem dX8_undo_14 : decode cX8_undo 14 = .ok (.iload_n 1, 1) := by decide +kernel
theorem dX8_undo_15 : decode cX8_undo 15 = .ok (.iaload, 1) := by decide +kernel
theorem dX8_undo_16 : decode cX8_undo 16 = .ok (.ifCond .ne 6, 3) := by decide +kernel
theorem dX8_undo_19 : decode cX8_undo 19 = .ok (.bipush (-3), 2) := by decide +kernel
theorem dX8_undo_21 : decode cX8_undo 21 = .ok (.ireturn, 1) := by decide +kernel
theorem dX8_undo_22 : decode cX8_undo 22 = .ok (.aload_n 0, 1) := by decide +kernel
theorem dX8_undo_23 : decode cX8_undo 23 = .ok (.getfield 7, 3) := by decide +kernel
theorem dX8_undo_26 : decode cX8_undo 26 = .ok (.iload_n 1, 1) := by decide +kernel
theorem dX8_undo_27 : decode cX8_undo 27 = .ok (.dup2, 1) := by decide +kernel
theorem dX8_undo_28 : decode cX8_undo 28 = .ok (.iaload, 1) := by decide +kernel
theorem dX8_undo_29 : decode cX8_undo 29 = .ok (.iconst 1, 1) := by decide +kernel
theorem dX8_undo_30 : decode cX8_undo 30 = .ok (.isub, 1) := by decide +kernel
theorem dX8_undo_31 : decode cX8_undo 31 = .ok (.iastore, 1) := by decide +kernel
theorem dX8_undo_32 : decode cX8_undo 32 = .ok (.aload_n 0, 1) := by decide +kernel
theorem dX8_undo_33 : decode cX8_undo 33 = .ok (.getfield 7, 3) := by decide +kernel
theorem dX8_undo_36 : decode cX8_undo 36 = .ok (.iload_n 1, 1) := by decide +kernel
theorem dX8_undo_37 : decode cX8_undo 37 = .ok (.iaload, 1) := by decide +kernel
theorem dX8_undo_38 : decode cX8_undo 38 = .ok (.ireturn, 1) := by decide +kernel
set_option maxRecDepth 20000 in
set_option maxHeartbeats 4000000 in
theorem w_X8_undo_0 {x : tg_X} {Sf : tg_S} {r : Int32} (X : tg_M tauR x cX8_undo 2 RX8 zr_X8_undo (some .int) Sf (some (.int r))) (S : tg_S) (v1 : Int32) (h : f_X8_undo  S v1 = some (Sf, r)) : tg_G tauR x S 0 [(0, .ref (tg_ad x 0)), (1, .int v1)] [] := by
  unfold f_X8_undo at h
  refine tg_iload_n X dX8_undo_0 rfl 1 rfl ?_
  obtain ⟨S1, r2, kS1, h⟩ := tg_bdE h
  refine tg_callS (As := [.int v1]) (rest := []) X (cm_X8_isText _ _ _ _ _ kS1) yy_X8_isText wt_X8_isText wm_X8_113 ⟨rfl, rfl, Nat.le_of_ble_eq_true rfl, Nat.le_of_ble_eq_true rfl⟩ rfl rfl (Nat.le_of_ble_eq_true rfl) dX8_undo_1 rfl ?_
  refine tg_if_ne (tgt := 10) X dX8_undo_4 (by decide) (fun c3 => ?_) (fun c3 => ?_)
  · have h := tg_ifF c3 h
    refine tg_aload_n X dX8_undo_10 rfl 0 rfl ?_
    refine tg_getr X 0 rfl cl_X8 0 (by decide) rfl wf_X8_7 dX8_undo_11 ?_
    refine tg_iload_n X dX8_undo_14 rfl 1 rfl ?_
    obtain ⟨y4, ey4, by4, h⟩ := tg_rdE h
    refine tg_iald X 1 rfl ey4 by4 dX8_undo_15 ?_
    refine tg_if_ne (tgt := 22) X dX8_undo_16 (by decide) (fun c5 => ?_) (fun c5 => ?_)
    · have h := tg_ifF c5 h
      refine tg_aload_n X dX8_undo_22 rfl 0 rfl ?_
      refine tg_getr X 0 rfl cl_X8 0 (by decide) rfl wf_X8_7 dX8_undo_23 ?_
      refine tg_iload_n X dX8_undo_26 rfl 1 rfl ?_
      refine tg_dup2 X dX8_undo_27 rfl rfl ?_
      obtain ⟨y6, ey6, by6, h⟩ := tg_rdE h
      refine tg_iald X 1 rfl ey6 by6 dX8_undo_28 ?_
      refine tg_iconst X dX8_undo_29 tk_i1 ?_
      refine tg_isub X dX8_undo_30 ?_
      obtain ⟨S7, eS7, bS7, h⟩ := tg_wrE h
      refine tg_iast X 1 rfl bS7 dX8_undo_31 eS7 ?_
      refine tg_aload_n X dX8_undo_32 rfl 0 rfl ?_
      refine tg_getr X 0 rfl cl_X8 0 (by decide) rfl wf_X8_7 dX8_undo_33 ?_
      refine tg_iload_n X dX8_undo_36 rfl 1 rfl ?_
      obtain ⟨y8, ey8, by8, h⟩ := tg_rdE h
      refine tg_iald X 1 rfl ey8 by8 dX8_undo_37 ?_
      exact tg_iret X h rfl dX8_undo_38
    · have h := tg_ifT c5 h
      refine tg_bipush X dX8_undo_19 tk_bm3 ?_
      exact tg_iret X h rfl dX8_undo_21
  · have h := tg_ifT c3 h
    refine tg_bipush X dX8_undo_7 tk_bm2 ?_
    exact tg_iret X h rfl dX8_undo_9
theorem cm_X8_undo (l : Launch) (D : va_G) (cy : Bool → ClassId) (ad : Nat → Nat) (tS : Nat) {S Sf : tg_S} {v1 : Int32} {r : Int32} (h : f_X8_undo  S v1 = some (Sf, r)) : tg_Met l yX8_undo cX8_undo 2 (some .int) zr_X8_undo tauR D cy ad tS S [.ref (ad 0), .int v1] Sf (some (.int r)) := tg_mk (by decide +kernel) trivial (Nat.le_of_ble_eq_true rfl) (fun p e s m args below meth c Q A X => w_X8_undo_0 X S v1 h)
-- X8_byteAt
def zr_X8_byteAt : Room := { frames := 0, cells := 0, slots := 0, locals := 0 }
theorem dX8_byteAt_0 : decode cX8_byteAt 0 = .ok (.iload_n 2, 1) := by decide +kernel
theorem dX8_byteAt_1 : decode cX8_byteAt 1 = .ok (.aload_n 0, 1) := by decide +kernel
theorem dX8_byteAt_2 : decode cX8_byteAt 2 = .ok (.getfield 7, 3) := by decide +kernel
theorem dX8_byteAt_5 : decode cX8_byteAt 5 = .ok (.iload_n 1, 1) := by decide +kernel
theorem dX8_byteAt_6 : decode cX8_byteAt 6 = .ok (.iaload, 1) := by decide +kernel
theorem dX8_byteAt_7 : decode cX8_byteAt 7 = .ok (.if_icmp .ge 17, 3) := by decide +kernel
theorem dX8_byteAt_10 : decode cX8_byteAt 10 = .ok (.aload_n 0, 1) := by decide +kernel
theorem dX8_byteAt_11 : decode cX8_byteAt 11 = .ok (.getfield 13, 3) := by decide +kernel
theorem dX8_byteAt_14 : decode cX8_byteAt 14 = .ok (.bipush 31, 2) := by decide +kernel
theorem dX8_byteAt_16 : decode cX8_byteAt 16 = .ok (.iload_n 1, 1) := by decide +kernel
theorem dX8_byteAt_17 : decode cX8_byteAt 17 = .ok (.imul, 1) := by decide +kernel
theorem dX8_byteAt_18 : decode cX8_byteAt 18 = .ok (.iload_n 2, 1) := by decide +kernel
theorem dX8_byteAt_19 : decode cX8_byteAt 19 = .ok (.iadd, 1) := by decide +kernel
theorem dX8_byteAt_20 : decode cX8_byteAt 20 = .ok (.iaload, 1) := by decide +kernel
theorem dX8_byteAt_21 : decode cX8_byteAt 21 = .ok (.goto 4, 3) := by decide +kernel
theorem dX8_byteAt_24 : decode cX8_byteAt 24 = .ok (.iconst (-1), 1) := by decide +kernel
theorem dX8_byteAt_25 : decode cX8_byteAt 25 = .ok (.ireturn, 1) := by decide +kernel
set_option maxRecDepth 20000 in
set_option maxHeartbeats 4000000 in
theorem w_X8_byteAt_0 {x : tg_X} {Sf : tg_S} {r : Int32} (X : tg_M tauR x cX8_byteAt 3 RX8 zr_X8_byteAt (some .int) Sf (some (.int r))) (S : tg_S) (v1 : Int32) (v2 : Int32) (h : f_X8_byteAt  S v1 v2 = some (Sf, r)) : tg_G tauR x S 0 [(0, .ref (tg_ad x 0)), (1, .int v1), (2, .int v2)] [] := by
  unfold f_X8_byteAt at h
  refine tg_iload_n X dX8_byteAt_0 rfl 2 rfl ?_
  refine tg_aload_n X dX8_byteAt_1 rfl 0 rfl ?_
  refine tg_getr X 0 rfl cl_X8 0 (by decide) rfl wf_X8_7 dX8_byteAt_2 ?_
  refine tg_iload_n X dX8_byteAt_5 rfl 1 rfl ?_
  obtain ⟨y1, ey1, by1, h⟩ := tg_rdE h
  refine tg_iald X 1 rfl ey1 by1 dX8_byteAt_6 ?_
  refine tg_icmp_ge (tgt := 24) X dX8_byteAt_7 (by decide) (fun c2 => ?_) (fun c2 => ?_)
  · have h := tg_ifT c2 h
    refine tg_iconst X dX8_byteAt_24 tk_im1 ?_
    exact tg_iret X h rfl dX8_byteAt_25
  · have h := tg_ifF c2 h
    refine tg_aload_n X dX8_byteAt_10 rfl 0 rfl ?_
    refine tg_getr X 0 rfl cl_X8 1 (by decide) rfl wf_X8_13 dX8_byteAt_11 ?_
    refine tg_bipush X dX8_byteAt_14 tk_b31 ?_
    refine tg_iload_n X dX8_byteAt_16 rfl 1 rfl ?_
    refine tg_imul X dX8_byteAt_17 ?_
    refine tg_iload_n X dX8_byteAt_18 rfl 2 rfl ?_
    refine tg_iadd X dX8_byteAt_19 ?_
    obtain ⟨y3, ey3, by3, h⟩ := tg_rdE h
    refine tg_iald X 2 rfl ey3 by3 dX8_byteAt_20 ?_
    refine tg_goto (tgt := 25) X dX8_byteAt_21 (by decide) ?_
    exact tg_iret X h rfl dX8_byteAt_25
theorem cm_X8_byteAt (l : Launch) (D : va_G) (cy : Bool → ClassId) (ad : Nat → Nat) (tS : Nat) {S Sf : tg_S} {v1 : Int32} {v2 : Int32} {r : Int32} (h : f_X8_byteAt  S v1 v2 = some (Sf, r)) : tg_Met l yX8_byteAt cX8_byteAt 3 (some .int) zr_X8_byteAt tauR D cy ad tS S [.ref (ad 0), .int v1, .int v2] Sf (some (.int r)) := tg_mk (by decide +kernel) trivial (Nat.le_of_ble_eq_true rfl) (fun p e s m args below meth c Q A X => w_X8_byteAt_0 X S v1 v2 h)
-- X8_readsPuller
def zr_X8_readsPuller : Room := { frames := 1, cells := 0, slots := 0, locals := 22 }
theorem dX8_readsPuller_0 : decode cX8_readsPuller 0 = .ok (.aload_n 0, 1) := by decide +kernel
theorem dX8_readsPuller_1 : decode cX8_readsPuller 1 = .ok (.iload_n 1, 1) := by decide +kernel
theorem dX8_readsPuller_2 : decode cX8_readsPuller 2 = .ok (.iload_n 3, 1) := by decide +kernel
theorem dX8_readsPuller_3 : decode cX8_readsPuller 3 = .ok (.invokevirtual 117, 3) := by decide +kernel
theorem dX8_readsPuller_6 : decode cX8_readsPuller 6 = .ok (.istore 4, 2) := by decide +kernel
theorem dX8_readsPuller_8 : decode cX8_readsPuller 8 = .ok (.iload 4, 2) := by decide +kernel
theorem dX8_readsPuller_10 : decode cX8_readsPuller 10 = .ok (.bipush 104, 2) := by decide +kernel
theorem dX8_readsPuller_12 : decode cX8_readsPuller 12 = .ok (.if_icmp .ne 7, 3) := by decide +kernel
theorem dX8_readsPuller_15 : decode cX8_readsPuller 15 = .ok (.iconst 0, 1) := by decide +kernel
theorem dX8_readsPuller_16 : decode cX8_readsPuller 16 = .ok (.goto 26, 3) := by decide +kernel
theorem dX8_readsPuller_19 : decode cX8_readsPuller 19 = .ok (.iload 4, 2) := by decide +kernel
theorem dX8_readsPuller_21 : decode cX8_readsPuller 21 = .ok (.bipush 108, 2) := by decide +kernel
theorem dX8_readsPuller_23 : decode cX8_readsPuller 23 = .ok (.if_icmp .ne 7, 3) := by decide +kernel
theorem dX8_readsPuller_26 : decode cX8_readsPuller 26 = .ok (.iconst 1, 1) := by decide +kernel
theorem dX8_readsPuller_27 : decode cX8_readsPuller 27 = .ok (.goto 15, 3) := by decide +kernel
theorem dX8_readsPuller_30 : decode cX8_readsPuller 30 = .ok (.iload 4, 2) := by decide +kernel
theorem dX8_readsPuller_32 : decode cX8_readsPuller 32 = .ok (.bipush 97, 2) := by decide +kernel
theorem dX8_readsPuller_34 : decode cX8_readsPuller 34 = .ok (.if_icmp .ne 7, 3) := by decide +kernel
theorem dX8_readsPuller_37 : decode cX8_readsPuller 37 = .ok (.iconst 2, 1) := by decide +kernel
theorem dX8_readsPuller_38 : decode cX8_readsPuller 38 = .ok (.goto 4, 3) := by decide +kernel
theorem dX8_readsPuller_41 : decode cX8_readsPuller 41 = .ok (.iconst (-1), 1) := by decide +kernel
theorem dX8_readsPuller_42 : decode cX8_readsPuller 42 = .ok (.istore 5, 2) := by decide +kernel
theorem dX8_readsPuller_44 : decode cX8_readsPuller 44 = .ok (.aload_n 0, 1) := by decide +kernel
theorem dX8_readsPuller_45 : decode cX8_readsPuller 45 = .ok (.iload_n 1, 1) := by decide +kernel
theorem dX8_readsPuller_46 : decode cX8_readsPuller 46 = .ok (.iload_n 3, 1) := by decide +kernel
theorem dX8_readsPuller_47 : decode cX8_readsPuller 47 = .ok (.iconst 1, 1) := by decide +kernel
theorem dX8_readsPuller_48 : decode cX8_readsPuller 48 = .ok (.iadd, 1) := by decide +kernel
theorem dX8_readsPuller_49 : decode cX8_readsPuller 49 = .ok (.invokevirtual 117, 3) := by decide +kernel
theorem dX8_readsPuller_52 : decode cX8_readsPuller 52 = .ok (.bipush 48, 2) := by decide +kernel
theorem dX8_readsPuller_54 : decode cX8_readsPuller 54 = .ok (.isub, 1) := by decide +kernel
theorem dX8_readsPuller_55 : decode cX8_readsPuller 55 = .ok (.istore 6, 2) := by decide +kernel
theorem dX8_readsPuller_57 : decode cX8_readsPuller 57 = .ok (.aload_n 0, 1) := by decide +kernel
theorem dX8_readsPuller_58 : decode cX8_readsPuller 58 = .ok (.iload_n 1, 1) := by decide +kernel
theorem dX8_readsPuller_59 : decode cX8_readsPuller 59 = .ok (.iload_n 3, 1) := by decide +kernel
theorem dX8_readsPuller_60 : decode cX8_readsPuller 60 = .ok (.iconst 2, 1) := by decide +kernel
theorem dX8_readsPuller_61 : decode cX8_readsPuller 61 = .ok (.iadd, 1) := by decide +kernel
theorem dX8_readsPuller_62 : decode cX8_readsPuller 62 = .ok (.invokevirtual 117, 3) := by decide +kernel
theorem dX8_readsPuller_65 : decode cX8_readsPuller 65 = .ok (.bipush 48, 2) := by decide +kernel
theorem dX8_readsPuller_67 : decode cX8_readsPuller 67 = .ok (.isub, 1) := by decide +kernel
theorem dX8_readsPuller_68 : decode cX8_readsPuller 68 = .ok (.istore 7, 2) := by decide +kernel
theorem dX8_readsPuller_70 : decode cX8_readsPuller 70 = .ok (.iload_n 2, 1) := by decide +kernel
theorem dX8_readsPuller_71 : decode cX8_readsPuller 71 = .ok (.bipush 8, 2) := by decide +kernel
theorem dX8_readsPuller_73 : decode cX8_readsPuller 73 = .ok (.if_icmp .eq 9, 3) := by decide +kernel
theorem dX8_readsPuller_76 : decode cX8_readsPuller 76 = .ok (.iload 5, 2) := by decide +kernel
theorem dX8_readsPuller_78 : decode cX8_readsPuller 78 = .ok (.iconst (-1), 1) := by decide +kernel
theorem dX8_readsPuller_79 : decode cX8_readsPuller 79 = .ok (.if_icmp .ne 5, 3) := by decide +kernel
theorem dX8_readsPuller_82 : decode cX8_readsPuller 82 = .ok (.iconst 0, 1) := by decide +kernel
theorem dX8_readsPuller_83 : decode cX8_readsPuller 83 = .ok (.ireturn, 1) := by decide +kernel
theorem dX8_readsPuller_84 : decode cX8_readsPuller 84 = .ok (.iload 6, 2) := by decide +kernel
theorem dX8_readsPuller_86 : decode cX8_readsPuller 86 = .ok (.iconst 1, 1) := by decide +kernel
theorem dX8_readsPuller_87 : decode cX8_readsPuller 87 = .ok (.bipush 9, 2) := by decide +kernel
theorem dX8_readsPuller_89 : decode cX8_readsPuller 89 = .ok (.invokestatic 109, 3) := by decide +kernel
theorem dX8_readsPuller_92 : decode cX8_readsPuller 92 = .ok (.ifCond .ne 5, 3) := by decide +kernel
theorem dX8_readsPuller_95 : decode cX8_readsPuller 95 = .ok (.iconst 1, 1) := by decide +kernel
theorem dX8_readsPuller_96 : decode cX8_readsPuller 96 = .ok (.ireturn, 1) := by decide +kernel
theorem dX8_readsPuller_97 : decode cX8_readsPuller 97 = .ok (.iload 7, 2) := by decide +kernel
theorem dX8_readsPuller_99 : decode cX8_readsPuller 99 = .ok (.iconst 1, 1) := by decide +kernel
theorem dX8_readsPuller_100 : decode cX8_readsPuller 100 = .ok (.bipush 9, 2) := by decide +kernel
theorem dX8_readsPuller_102 : decode cX8_readsPuller 102 = .ok (.invokestatic 109, 3) := by decide +kernel
theorem dX8_readsPuller_105 : decode cX8_readsPuller 105 = .ok (.ifCond .ne 5, 3) := by decide +kernel
theorem dX8_readsPuller_108 : decode cX8_readsPuller 108 = .ok (.iconst 2, 1) := by decide +kernel
theorem dX8_readsPuller_109 : decode cX8_readsPuller 109 = .ok (.ireturn, 1) := by decide +kernel
theorem dX8_readsPuller_110 : decode cX8_readsPuller 110 = .ok (.aload_n 0, 1) := by decide +kernel
theorem dX8_readsPuller_111 : decode cX8_readsPuller 111 = .ok (.getfield 19, 3) := by decide +kernel
theorem dX8_readsPuller_114 : decode cX8_readsPuller 114 = .ok (.bipush 8, 2) := by decide +kernel
theorem dX8_readsPuller_116 : decode cX8_readsPuller 116 = .ok (.iload_n 1, 1) := by decide +kernel
theorem dX8_readsPuller_117 : decode cX8_readsPuller 117 = .ok (.imul, 1) := by decide +kernel
theorem dX8_readsPuller_118 : decode cX8_readsPuller 118 = .ok (.iload_n 2, 1) := by decide +kernel
theorem dX8_readsPuller_119 : decode cX8_readsPuller 119 = .ok (.iadd, 1) := by decide +kernel
theorem dX8_readsPuller_120 : decode cX8_readsPuller 120 = .ok (.iload 5, 2) := by decide +kernel
theorem dX8_readsPuller_122 : decode cX8_readsPuller 122 = .ok (.iastore, 1) := by decide +kernel
theorem dX8_readsPuller_123 : decode cX8_readsPuller 123 = .ok (.aload_n 0, 1) := by decide +kernel
theorem dX8_readsPuller_124 : decode cX8_readsPuller 124 = .ok (.getfield 22, 3) := by decide +kernel
theorem dX8_readsPuller_127 : decode cX8_readsPuller 127 = .ok (.bipush 8, 2) := by decide +kernel
theorem dX8_readsPuller_129 : decode cX8_readsPuller 129 = .ok (.iload_n 1, 1) := by decide +kernel
theorem dX8_readsPuller_130 : decode cX8_readsPuller 130 = .ok (.imul, 1) := by decide +kernel
theorem dX8_readsPuller_131 : decode cX8_readsPuller 131 = .ok (.iload_n 2, 1) := by decide +kernel
theorem dX8_readsPuller_132 : decode cX8_readsPuller 132 = .ok (.iadd, 1) := by decide +kernel
theorem dX8_readsPuller_133 : decode cX8_readsPuller 133 = .ok (.iload 6, 2) := by decide +kernel
theorem dX8_readsPuller_135 : decode cX8_readsPuller 135 = .ok (.iastore, 1) := by decide +kernel
theorem dX8_readsPuller_136 : decode cX8_readsPuller 136 = .ok (.aload_n 0, 1) := by decide +kernel
theorem dX8_readsPuller_137 : decode cX8_readsPuller 137 = .ok (.getfield 25, 3) := by decide +kernel
theorem dX8_readsPuller_140 : decode cX8_readsPuller 140 = .ok (.bipush 8, 2) := by decide +kernel
theorem dX8_readsPuller_142 : decode cX8_readsPuller 142 = .ok (.iload_n 1, 1) := by decide +kernel
theorem dX8_readsPuller_143 : decode cX8_readsPuller 143 = .ok (.imul, 1) := by decide +kernel
theorem dX8_readsPuller_144 : decode cX8_readsPuller 144 = .ok (.iload_n 2, 1) := by decide +kernel
theorem dX8_readsPuller_145 : decode cX8_readsPuller 145 = .ok (.iadd, 1) := by decide +kernel
theorem dX8_readsPuller_146 : decode cX8_readsPuller 146 = .ok (.iload 7, 2) := by decide +kernel
theorem dX8_readsPuller_148 : decode cX8_readsPuller 148 = .ok (.iastore, 1) := by decide +kernel
theorem dX8_readsPuller_149 : decode cX8_readsPuller 149 = .ok (.iconst 3, 1) := by decide +kernel
theorem dX8_readsPuller_150 : decode cX8_readsPuller 150 = .ok (.ireturn, 1) := by decide +kernel
set_option maxRecDepth 20000 in
set_option maxHeartbeats 4000000 in
theorem w_X8_readsPuller_42 {x : tg_X} {Sf : tg_S} {r : Int32} (X : tg_M tauR x cX8_readsPuller 8 RX8 zr_X8_readsPuller (some .int) Sf (some (.int r))) (S : tg_S) (v1 : Int32) (v2 : Int32) (v3 : Int32) (s0 : Int32) (h : f_X8_readsPuller_42  S v1 v2 v3 s0 = some (Sf, r)) : tg_G tauR x S 42 [(0, .ref (tg_ad x 0)), (1, .int v1), (2, .int v2), (3, .int v3)] [.int s0] := by
  unfold f_X8_readsPuller_42 at h
  refine tg_istore (lv2 := [(5, .int s0), (0, .ref (tg_ad x 0)), (1, .int v1), (2, .int v2), (3, .int v3)]) X dX8_readsPuller_42 (by decide) rfl ?_
  refine tg_aload_n X dX8_readsPuller_44 rfl 1 rfl ?_
  refine tg_iload_n X dX8_readsPuller_45 rfl 2 rfl ?_
  refine tg_iload_n X dX8_readsPuller_46 rfl 4 rfl ?_
  refine tg_iconst X dX8_readsPuller_47 tk_i1 ?_
  refine tg_iadd X dX8_readsPuller_48 ?_
  obtain ⟨S1, r2, kS1, h⟩ := tg_bdE h
  refine tg_callV (As := [.int v1, .int (v3 + 1)]) (rest := []) X 0 (cm_X8_byteAt _ _ _ _ _ kS1) yy_X8_byteAt wv_X8_byteAt ws_X8_byteAt wm_X8_117 rfl cl_X8.1 ⟨rfl, rfl, Nat.le_of_ble_eq_true rfl, Nat.le_of_ble_eq_true rfl⟩ rfl rfl (Nat.le_of_ble_eq_true rfl) dX8_readsPuller_49 rfl ?_
  refine tg_bipush X dX8_readsPuller_52 tk_b48 ?_
  refine tg_isub X dX8_readsPuller_54 ?_
  refine tg_topi (fun y3 ey3 => ?_)
  have h := tg_nmE ey3 h
  refine tg_istore (lv2 := [(6, .int y3), (5, .int s0), (0, .ref (tg_ad x 0)), (1, .int v1), (2, .int v2), (3, .int v3)]) X dX8_readsPuller_55 (by decide) rfl ?_
  refine tg_aload_n X dX8_readsPuller_57 rfl 2 rfl ?_
  refine tg_iload_n X dX8_readsPuller_58 rfl 3 rfl ?_
  refine tg_iload_n X dX8_readsPuller_59 rfl 5 rfl ?_
  refine tg_iconst X dX8_readsPuller_60 tk_i2 ?_
  refine tg_iadd X dX8_readsPuller_61 ?_
  obtain ⟨S4, r5, kS4, h⟩ := tg_bdE h
  refine tg_callV (As := [.int v1, .int (v3 + 2)]) (rest := []) X 0 (cm_X8_byteAt _ _ _ _ _ kS4) yy_X8_byteAt wv_X8_byteAt ws_X8_byteAt wm_X8_117 rfl cl_X8.1 ⟨rfl, rfl, Nat.le_of_ble_eq_true rfl, Nat.le_of_ble_eq_true rfl⟩ rfl rfl (Nat.le_of_ble_eq_true rfl) dX8_readsPuller_62 rfl ?_
  refine tg_bipush X dX8_readsPuller_65 tk_b48 ?_
  refine tg_isub X dX8_readsPuller_67 ?_
  refine tg_topi (fun y6 ey6 => ?_)
  have h := tg_nmE ey6 h
  refine tg_istore (lv2 := [(7, .int y6), (6, .int y3), (5, .int s0), (0, .ref (tg_ad x 0)), (1, .int v1), (2, .int v2), (3, .int v3)]) X dX8_readsPuller_68 (by decide) rfl ?_
  refine tg_iload_n X dX8_readsPuller_70 rfl 5 rfl ?_
  refine tg_bipush X dX8_readsPuller_71 tk_b8 ?_
  refine tg_icmp_eq (tgt := 82) X dX8_readsPuller_73 (by decide) (fun c7 => ?_) (fun c7 => ?_)
  · have h := tg_ifT c7 h
    refine tg_iconst X dX8_readsPuller_82 tk_i0 ?_
    exact tg_iret X h rfl dX8_readsPuller_83
  · have h := tg_ifF c7 h
    refine tg_iload X dX8_readsPuller_76 2 rfl ?_
    refine tg_iconst X dX8_readsPuller_78 tk_im1 ?_
    refine tg_icmp_ne (tgt := 84) X dX8_readsPuller_79 (by decide) (fun c8 => ?_) (fun c8 => ?_)
    · have h := tg_ifF c8 h
      refine tg_iload X dX8_readsPuller_84 1 rfl ?_
      refine tg_iconst X dX8_readsPuller_86 tk_i1 ?_
      refine tg_bipush X dX8_readsPuller_87 tk_b9 ?_
      obtain ⟨S9, r10, kS9, h⟩ := tg_bdE h
      refine tg_callS (As := [.int y3, .int 1, .int 9]) (rest := []) X (cm_X8_in _ _ _ _ _ kS9) yy_X8_in wt_X8_in wm_X8_109 ⟨rfl, rfl, Nat.le_of_ble_eq_true rfl, Nat.le_of_ble_eq_true rfl⟩ rfl rfl (Nat.le_of_ble_eq_true rfl) dX8_readsPuller_89 rfl ?_
      refine tg_if_ne (tgt := 97) X dX8_readsPuller_92 (by decide) (fun c11 => ?_) (fun c11 => ?_)
      · have h := tg_ifF c11 h
        refine tg_iload X dX8_readsPuller_97 0 rfl ?_
        refine tg_iconst X dX8_readsPuller_99 tk_i1 ?_
        refine tg_bipush X dX8_readsPuller_100 tk_b9 ?_
        obtain ⟨S12, r13, kS12, h⟩ := tg_bdE h
        refine tg_callS (As := [.int y6, .int 1, .int 9]) (rest := []) X (cm_X8_in _ _ _ _ _ kS12) yy_X8_in wt_X8_in wm_X8_109 ⟨rfl, rfl, Nat.le_of_ble_eq_true rfl, Nat.le_of_ble_eq_true rfl⟩ rfl rfl (Nat.le_of_ble_eq_true rfl) dX8_readsPuller_102 rfl ?_
        refine tg_if_ne (tgt := 110) X dX8_readsPuller_105 (by decide) (fun c14 => ?_) (fun c14 => ?_)
        · have h := tg_ifF c14 h
          refine tg_aload_n X dX8_readsPuller_110 rfl 3 rfl ?_
          refine tg_getr X 0 rfl cl_X8 3 (by decide) rfl wf_X8_19 dX8_readsPuller_111 ?_
          refine tg_bipush X dX8_readsPuller_114 tk_b8 ?_
          refine tg_iload_n X dX8_readsPuller_116 rfl 4 rfl ?_
          refine tg_imul X dX8_readsPuller_117 ?_
          refine tg_iload_n X dX8_readsPuller_118 rfl 5 rfl ?_
          refine tg_iadd X dX8_readsPuller_119 ?_
          refine tg_iload X dX8_readsPuller_120 2 rfl ?_
          obtain ⟨S15, eS15, bS15, h⟩ := tg_wrE h
          refine tg_iast X 4 rfl bS15 dX8_readsPuller_122 eS15 ?_
          refine tg_aload_n X dX8_readsPuller_123 rfl 3 rfl ?_
          refine tg_getr X 0 rfl cl_X8 4 (by decide) rfl wf_X8_22 dX8_readsPuller_124 ?_
          refine tg_bipush X dX8_readsPuller_127 tk_b8 ?_
          refine tg_iload_n X dX8_readsPuller_129 rfl 4 rfl ?_
          refine tg_imul X dX8_readsPuller_130 ?_
          refine tg_iload_n X dX8_readsPuller_131 rfl 5 rfl ?_
          refine tg_iadd X dX8_readsPuller_132 ?_
          refine tg_iload X dX8_readsPuller_133 1 rfl ?_
          obtain ⟨S16, eS16, bS16, h⟩ := tg_wrE h
          refine tg_iast X 5 rfl bS16 dX8_readsPuller_135 eS16 ?_
          refine tg_aload_n X dX8_readsPuller_136 rfl 3 rfl ?_
          refine tg_getr X 0 rfl cl_X8 5 (by decide) rfl wf_X8_25 dX8_readsPuller_137 ?_
          refine tg_bipush X dX8_readsPuller_140 tk_b8 ?_
          refine tg_iload_n X dX8_readsPuller_142 rfl 4 rfl ?_
          refine tg_imul X dX8_readsPuller_143 ?_
          refine tg_iload_n X dX8_readsPuller_144 rfl 5 rfl ?_
          refine tg_iadd X dX8_readsPuller_145 ?_
          refine tg_iload X dX8_readsPuller_146 0 rfl ?_
          obtain ⟨S17, eS17, bS17, h⟩ := tg_wrE h
          refine tg_iast X 6 rfl bS17 dX8_readsPuller_148 eS17 ?_
          refine tg_iconst X dX8_readsPuller_149 tk_i3 ?_
          exact tg_iret X h rfl dX8_readsPuller_150
        · have h := tg_ifT c14 h
          refine tg_iconst X dX8_readsPuller_108 tk_i2 ?_
          exact tg_iret X h rfl dX8_readsPuller_109
      · have h := tg_ifT c11 h
        refine tg_iconst X dX8_readsPuller_95 tk_i1 ?_
        exact tg_iret X h rfl dX8_readsPuller_96
    · have h := tg_ifT c8 h
      refine tg_iconst X dX8_readsPuller_82 tk_i0 ?_
      exact tg_iret X h rfl dX8_readsPuller_83
set_option maxRecDepth 20000 in
set_option maxHeartbeats 4000000 in
theorem w_X8_readsPuller_0 {x : tg_X} {Sf : tg_S} {r : Int32} (X : tg_M tauR x cX8_readsPuller 8 RX8 zr_X8_readsPuller (some .int) Sf (some (.int r))) (S : tg_S) (v1 : Int32) (v2 : Int32) (v3 : Int32) (h : f_X8_readsPuller  S v1 v2 v3 = some (Sf, r)) : tg_G tauR x S 0 [(0, .ref (tg_ad x 0)), (1, .int v1), (2, .int v2), (3, .int v3)] [] := by
  unfold f_X8_readsPuller at h
  refine tg_aload_n X dX8_readsPuller_0 rfl 0 rfl ?_
  refine tg_iload_n X dX8_readsPuller_1 rfl 1 rfl ?_
  refine tg_iload_n X dX8_readsPuller_2 rfl 3 rfl ?_
  obtain ⟨S1, r2, kS1, h⟩ := tg_bdE h
  refine tg_callV (As := [.int v1, .int v3]) (rest := []) X 0 (cm_X8_byteAt _ _ _ _ _ kS1) yy_X8_byteAt wv_X8_byteAt ws_X8_byteAt wm_X8_117 rfl cl_X8.1 ⟨rfl, rfl, Nat.le_of_ble_eq_true rfl, Nat.le_of_ble_eq_true rfl⟩ rfl rfl (Nat.le_of_ble_eq_true rfl) dX8_readsPuller_3 rfl ?_
  refine tg_istore (lv2 := [(4, .int r2), (0, .ref (tg_ad x 0)), (1, .int v1), (2, .int v2), (3, .int v3)]) X dX8_readsPuller_6 (by decide) rfl ?_
  refine tg_iload X dX8_readsPuller_8 0 rfl ?_
  refine tg_bipush X dX8_readsPuller_10 tk_b104 ?_
  refine tg_icmp_ne (tgt := 19) X dX8_readsPuller_12 (by decide) (fun c3 => ?_) (fun c3 => ?_)
  · rw [if_neg c3] at h
    refine tg_iload X dX8_readsPuller_19 0 rfl ?_
    refine tg_bipush X dX8_readsPuller_21 tk_b108 ?_
    refine tg_icmp_ne (tgt := 30) X dX8_readsPuller_23 (by decide) (fun c4 => ?_) (fun c4 => ?_)
    · rw [if_neg c4] at h
      refine tg_iload X dX8_readsPuller_30 0 rfl ?_
      refine tg_bipush X dX8_readsPuller_32 tk_b97 ?_
      refine tg_icmp_ne (tgt := 41) X dX8_readsPuller_34 (by decide) (fun c5 => ?_) (fun c5 => ?_)
      · rw [if_neg c5] at h
        refine tg_iconst X dX8_readsPuller_41 tk_im1 ?_
        refine tg_re [1, 2, 3, 4] rfl ?_
        exact w_X8_readsPuller_42 X  S1 v1 v2 v3 (-1) h
      · rw [if_pos c5] at h
        refine tg_iconst X dX8_readsPuller_37 tk_i2 ?_
        refine tg_goto (tgt := 42) X dX8_readsPuller_38 (by decide) ?_
        refine tg_re [1, 2, 3, 4] rfl ?_
        exact w_X8_readsPuller_42 X  S1 v1 v2 v3 2 h
    · rw [if_pos c4] at h
      refine tg_iconst X dX8_readsPuller_26 tk_i1 ?_
      refine tg_goto (tgt := 42) X dX8_readsPuller_27 (by decide) ?_
      refine tg_re [1, 2, 3, 4] rfl ?_
      exact w_X8_readsPuller_42 X  S1 v1 v2 v3 1 h
  · rw [if_pos c3] at h
    refine tg_iconst X dX8_readsPuller_15 tk_i0 ?_
    refine tg_goto (tgt := 42) X dX8_readsPuller_16 (by decide) ?_
    refine tg_re [1, 2, 3, 4] rfl ?_
    exact w_X8_readsPuller_42 X  S1 v1 v2 v3 0 h
theorem cm_X8_readsPuller (l : Launch) (D : va_G) (cy : Bool → ClassId) (ad : Nat → Nat) (tS : Nat) {S Sf : tg_S} {v1 : Int32} {v2 : Int32} {v3 : Int32} {r : Int32} (h : f_X8_readsPuller  S v1 v2 v3 = some (Sf, r)) : tg_Met l yX8_readsPuller cX8_readsPuller 8 (some .int) zr_X8_readsPuller tauR D cy ad tS S [.ref (ad 0), .int v1, .int v2, .int v3] Sf (some (.int r)) := tg_mk (by decide +kernel) trivial (Nat.le_of_ble_eq_true rfl) (fun p e s m args below meth c Q A X => w_X8_readsPuller_0 X S v1 v2 v3 h)
-- X8_readsTeam
def zr_X8_readsTeam : Room := { frames := 2, cells := 0, slots := 0, locals := 49 }
theorem dX8_readsTeam_0 : decode cX8_readsTeam 0 = .ok (.iconst 0, 1) := by decide +kernel
theorem dX8_readsTeam_1 : decode cX8_readsTeam 1 = .ok (.istore_n 2, 1) := by decide +kernel
theorem dX8_readsTeam_2 : decode cX8_readsTeam 2 = .ok (.iconst 0, 1) := by decide +kernel
theorem dX8_readsTeam_3 : decode cX8_readsTeam 3 = .ok (.istore_n 3, 1) := by decide +kernel
theorem dX8_readsTeam_4 : decode cX8_readsTeam 4 = .ok (.aload_n 0, 1) := by decide +kernel
theorem dX8_readsTeam_5 : decode cX8_readsTeam 5 = .ok (.getfield 16, 3) := by decide +kernel
theorem dX8_readsTeam_8 : decode cX8_readsTeam 8 = .ok (.iload_n 1, 1) := by decide +kernel
theorem dX8_readsTeam_9 : decode cX8_readsTeam 9 = .ok (.iconst 0, 1) := by decide +kernel
theorem dX8_readsTeam_10 : decode cX8_readsTeam 10 = .ok (.iastore, 1) := by decide +kernel
theorem dX8_readsTeam_11 : decode cX8_readsTeam 11 = .ok (.iload_n 3, 1) := by decide +kernel
theorem dX8_readsTeam_12 : decode cX8_readsTeam 12 = .ok (.aload_n 0, 1) := by decide +kernel
theorem dX8_readsTeam_13 : decode cX8_readsTeam 13 = .ok (.getfield 7, 3) := by decide +kernel
theorem dX8_readsTeam_16 : decode cX8_readsTeam 16 = .ok (.iload_n 1, 1) := by decide +kernel
theorem dX8_readsTeam_17 : decode cX8_readsTeam 17 = .ok (.iaload, 1) := by decide +kernel
theorem dX8_readsTeam_18 : decode cX8_readsTeam 18 = .ok (.if_icmp .lt 7, 3) := by decide +kernel
theorem dX8_readsTeam_21 : decode cX8_readsTeam 21 = .ok (.iload_n 3, 1) := by decide +kernel
theorem dX8_readsTeam_22 : decode cX8_readsTeam 22 = .ok (.ifCond .le 67, 3) := by decide +kernel
theorem dX8_readsTeam_25 : decode cX8_readsTeam 25 = .ok (.aload_n 0, 1) := by decide +kernel
theorem dX8_readsTeam_26 : decode cX8_readsTeam 26 = .ok (.iload_n 1, 1) := by decide +kernel
theorem dX8_readsTeam_27 : decode cX8_readsTeam 27 = .ok (.iload_n 2, 1) := by decide +kernel
theorem dX8_readsTeam_28 : decode cX8_readsTeam 28 = .ok (.iload_n 3, 1) := by decide +kernel
theorem dX8_readsTeam_29 : decode cX8_readsTeam 29 = .ok (.invokevirtual 121, 3) := by decide +kernel
theorem dX8_readsTeam_32 : decode cX8_readsTeam 32 = .ok (.istore 4, 2) := by decide +kernel
theorem dX8_readsTeam_34 : decode cX8_readsTeam 34 = .ok (.iload 4, 2) := by decide +kernel
theorem dX8_readsTeam_36 : decode cX8_readsTeam 36 = .ok (.iconst 3, 1) := by decide +kernel
theorem dX8_readsTeam_37 : decode cX8_readsTeam 37 = .ok (.if_icmp .ge 8, 3) := by decide +kernel
theorem dX8_readsTeam_40 : decode cX8_readsTeam 40 = .ok (.iload_n 3, 1) := by decide +kernel
theorem dX8_readsTeam_41 : decode cX8_readsTeam 41 = .ok (.iload 4, 2) := by decide +kernel
theorem dX8_readsTeam_43 : decode cX8_readsTeam 43 = .ok (.iadd, 1) := by decide +kernel
theorem dX8_readsTeam_44 : decode cX8_readsTeam 44 = .ok (.ireturn, 1) := by decide +kernel
theorem dX8_readsTeam_45 : decode cX8_readsTeam 45 = .ok (.iinc 2 1, 3) := by decide +kernel
theorem dX8_readsTeam_48 : decode cX8_readsTeam 48 = .ok (.iinc 3 3, 3) := by decide +kernel
theorem dX8_readsTeam_51 : decode cX8_readsTeam 51 = .ok (.iload_n 3, 1) := by decide +kernel
theorem dX8_readsTeam_52 : decode cX8_readsTeam 52 = .ok (.aload_n 0, 1) := by decide +kernel
theorem dX8_readsTeam_53 : decode cX8_readsTeam 53 = .ok (.getfield 7, 3) := by decide +kernel
theorem dX8_readsTeam_56 : decode cX8_readsTeam 56 = .ok (.iload_n 1, 1) := by decide +kernel
theorem dX8_readsTeam_57 : decode cX8_readsTeam 57 = .ok (.iaload, 1) := by decide +kernel
theorem dX8_readsTeam_58 : decode cX8_readsTeam 58 = .ok (.if_icmp .ne 12, 3) := by decide +kernel
theorem dX8_readsTeam_61 : decode cX8_readsTeam 61 = .ok (.aload_n 0, 1) := by decide +kernel
theorem dX8_readsTeam_62 : decode cX8_readsTeam 62 = .ok (.getfield 16, 3) := by decide +kernel
theorem dX8_readsTeam_65 : decode cX8_readsTeam 65 = .ok (.iload_n 1, 1) := by decide +kernel
theorem dX8_readsTeam_66 : decode cX8_readsTeam 66 = .ok (.iload_n 2, 1) := by decide +kernel
theorem dX8_readsTeam_67 : decode cX8_readsTeam 67 = .ok (.iastore, 1) := by decide +kernel
theorem dX8_readsTeam_68 : decode cX8_readsTeam 68 = .ok (.iconst (-1), 1) := by decide +kernel
theorem dX8_readsTeam_69 : decode cX8_readsTeam 69 = .ok (.ireturn, 1) := by decide +kernel
theorem dX8_readsTeam_70 : decode cX8_readsTeam 70 = .ok (.aload_n 0, 1) := by decide +kernel
theorem dX8_readsTeam_71 : decode cX8_readsTeam 71 = .ok (.iload_n 1, 1) := by decide +kernel
theorem dX8_readsTeam_72 : decode cX8_readsTeam 72 = .ok (.iload_n 3, 1) := by decide +kernel
theorem dX8_readsTeam_73 : decode cX8_readsTeam 73 = .ok (.invokevirtual 117, 3) := by decide +kernel
theorem dX8_readsTeam_76 : decode cX8_readsTeam 76 = .ok (.bipush 59, 2) := by decide +kernel
theorem dX8_readsTeam_78 : decode cX8_readsTeam 78 = .ok (.if_icmp .eq 5, 3) := by decide +kernel
theorem dX8_readsTeam_81 : decode cX8_readsTeam 81 = .ok (.iload_n 3, 1) := by decide +kernel
theorem dX8_readsTeam_82 : decode cX8_readsTeam 82 = .ok (.ireturn, 1) := by decide +kernel
theorem dX8_readsTeam_83 : decode cX8_readsTeam 83 = .ok (.iinc 3 1, 3) := by decide +kernel
theorem dX8_readsTeam_86 : decode cX8_readsTeam 86 = .ok (.goto (-75), 3) := by decide +kernel
theorem dX8_readsTeam_89 : decode cX8_readsTeam 89 = .ok (.iconst (-1), 1) := by decide +kernel
theorem dX8_readsTeam_90 : decode cX8_readsTeam 90 = .ok (.ireturn, 1) := by decide +kernel
set_option maxRecDepth 20000 in
set_option maxHeartbeats 4000000 in
theorem w_X8_readsTeam_25 {x : tg_X} {Sf : tg_S} {r : Int32} {rec11 : tg_S → Int32 → Int32 → Int32 → Option (tg_S × Int32)} (X : tg_M tauR x cX8_readsTeam 5 RX8 zr_X8_readsTeam (some .int) Sf (some (.int r))) (hr11 : ∀ (S : tg_S) (v1 : Int32) (v2 : Int32) (v3 : Int32), rec11 S v1 v2 v3 = some (Sf, r) → tg_G tauR x S 11 [(0, .ref (tg_ad x 0)), (1, .int v1), (2, .int v2), (3, .int v3)] []) (S : tg_S) (v1 : Int32) (v2 : Int32) (v3 : Int32) (h : f_X8_readsTeam_25 rec11 S v1 v2 v3 = some (Sf, r)) : tg_G tauR x S 25 [(0, .ref (tg_ad x 0)), (1, .int v1), (2, .int v2), (3, .int v3)] [] := by
  unfold f_X8_readsTeam_25 at h
  refine tg_aload_n X dX8_readsTeam_25 rfl 0 rfl ?_
  refine tg_iload_n X dX8_readsTeam_26 rfl 1 rfl ?_
  refine tg_iload_n X dX8_readsTeam_27 rfl 2 rfl ?_
  refine tg_iload_n X dX8_readsTeam_28 rfl 3 rfl ?_
  obtain ⟨S1, r2, kS1, h⟩ := tg_bdE h
  refine tg_callV (As := [.int v1, .int v2, .int v3]) (rest := []) X 0 (cm_X8_readsPuller _ _ _ _ _ kS1) yy_X8_readsPuller wv_X8_readsPuller ws_X8_readsPuller wm_X8_121 rfl cl_X8.1 ⟨rfl, rfl, Nat.le_of_ble_eq_true rfl, Nat.le_of_ble_eq_true rfl⟩ rfl rfl (Nat.le_of_ble_eq_true rfl) dX8_readsTeam_29 rfl ?_
  refine tg_istore (lv2 := [(4, .int r2), (0, .ref (tg_ad x 0)), (1, .int v1), (2, .int v2), (3, .int v3)]) X dX8_readsTeam_32 (by decide) rfl ?_
  refine tg_iload X dX8_readsTeam_34 0 rfl ?_
  refine tg_iconst X dX8_readsTeam_36 tk_i3 ?_
  refine tg_icmp_ge (tgt := 45) X dX8_readsTeam_37 (by decide) (fun c3 => ?_) (fun c3 => ?_)
  · have h := tg_ifT c3 h
    obtain ⟨y4, ey4⟩ : ∃ z : Int32, z = v2 + 1 := ⟨_, rfl⟩
    have h := tg_nmE ey4 h
    refine tg_iinc (lv2 := [(2, .int y4), (4, .int r2), (0, .ref (tg_ad x 0)), (1, .int v1), (3, .int v3)]) X dX8_readsTeam_45 3 rfl tk_i1 ey4 (by decide) rfl ?_
    obtain ⟨y5, ey5⟩ : ∃ z : Int32, z = v3 + 3 := ⟨_, rfl⟩
    have h := tg_nmE ey5 h
    refine tg_iinc (lv2 := [(3, .int y5), (2, .int y4), (4, .int r2), (0, .ref (tg_ad x 0)), (1, .int v1)]) X dX8_readsTeam_48 4 rfl tk_i3 ey5 (by decide) rfl ?_
    refine tg_iload_n X dX8_readsTeam_51 rfl 0 rfl ?_
    refine tg_aload_n X dX8_readsTeam_52 rfl 3 rfl ?_
    refine tg_getr X 0 rfl cl_X8 0 (by decide) rfl wf_X8_7 dX8_readsTeam_53 ?_
    refine tg_iload_n X dX8_readsTeam_56 rfl 4 rfl ?_
    obtain ⟨y6, ey6, by6, h⟩ := tg_rdE h
    refine tg_iald X 1 rfl ey6 by6 dX8_readsTeam_57 ?_
    refine tg_icmp_ne (tgt := 70) X dX8_readsTeam_58 (by decide) (fun c7 => ?_) (fun c7 => ?_)
    · have h := tg_ifF c7 h
      refine tg_aload_n X dX8_readsTeam_70 rfl 3 rfl ?_
      refine tg_iload_n X dX8_readsTeam_71 rfl 4 rfl ?_
      refine tg_iload_n X dX8_readsTeam_72 rfl 0 rfl ?_
      obtain ⟨S8, r9, kS8, h⟩ := tg_bdE h
      refine tg_callV (As := [.int v1, .int y5]) (rest := []) X 0 (cm_X8_byteAt _ _ _ _ _ kS8) yy_X8_byteAt wv_X8_byteAt ws_X8_byteAt wm_X8_117 rfl cl_X8.1 ⟨rfl, rfl, Nat.le_of_ble_eq_true rfl, Nat.le_of_ble_eq_true rfl⟩ rfl rfl (Nat.le_of_ble_eq_true rfl) dX8_readsTeam_73 rfl ?_
      refine tg_bipush X dX8_readsTeam_76 tk_b59 ?_
      refine tg_icmp_eq (tgt := 83) X dX8_readsTeam_78 (by decide) (fun c10 => ?_) (fun c10 => ?_)
      · have h := tg_ifT c10 h
        obtain ⟨y11, ey11⟩ : ∃ z : Int32, z = y5 + 1 := ⟨_, rfl⟩
        have h := tg_nmE ey11 h
        refine tg_iinc (lv2 := [(3, .int y11), (2, .int y4), (4, .int r2), (0, .ref (tg_ad x 0)), (1, .int v1)]) X dX8_readsTeam_83 0 rfl tk_i1 ey11 (by decide) rfl ?_
        refine tg_goto (tgt := 11) X dX8_readsTeam_86 (by decide) ?_
        refine tg_re [3, 4, 1, 0] rfl ?_
        exact hr11 S8 v1 y4 y11 h
      · have h := tg_ifF c10 h
        refine tg_iload_n X dX8_readsTeam_81 rfl 0 rfl ?_
        exact tg_iret X h rfl dX8_readsTeam_82
    · have h := tg_ifT c7 h
      refine tg_aload_n X dX8_readsTeam_61 rfl 3 rfl ?_
      refine tg_getr X 0 rfl cl_X8 2 (by decide) rfl wf_X8_16 dX8_readsTeam_62 ?_
      refine tg_iload_n X dX8_readsTeam_65 rfl 4 rfl ?_
      refine tg_iload_n X dX8_readsTeam_66 rfl 1 rfl ?_
      obtain ⟨S12, eS12, bS12, h⟩ := tg_wrE h
      refine tg_iast X 3 rfl bS12 dX8_readsTeam_67 eS12 ?_
      refine tg_iconst X dX8_readsTeam_68 tk_im1 ?_
      exact tg_iret X h rfl dX8_readsTeam_69
  · have h := tg_ifF c3 h
    refine tg_iload_n X dX8_readsTeam_40 rfl 4 rfl ?_
    refine tg_iload X dX8_readsTeam_41 0 rfl ?_
    refine tg_iadd X dX8_readsTeam_43 ?_
    exact tg_iret X h rfl dX8_readsTeam_44
set_option maxRecDepth 20000 in
set_option maxHeartbeats 4000000 in
theorem w_X8_readsTeam_11 {x : tg_X} {Sf : tg_S} {r : Int32} {rec11 : tg_S → Int32 → Int32 → Int32 → Option (tg_S × Int32)} (X : tg_M tauR x cX8_readsTeam 5 RX8 zr_X8_readsTeam (some .int) Sf (some (.int r))) (hr11 : ∀ (S : tg_S) (v1 : Int32) (v2 : Int32) (v3 : Int32), rec11 S v1 v2 v3 = some (Sf, r) → tg_G tauR x S 11 [(0, .ref (tg_ad x 0)), (1, .int v1), (2, .int v2), (3, .int v3)] []) (S : tg_S) (v1 : Int32) (v2 : Int32) (v3 : Int32) (h : f_X8_readsTeam_11 rec11 S v1 v2 v3 = some (Sf, r)) : tg_G tauR x S 11 [(0, .ref (tg_ad x 0)), (1, .int v1), (2, .int v2), (3, .int v3)] [] := by
  unfold f_X8_readsTeam_11 at h
  refine tg_iload_n X dX8_readsTeam_11 rfl 3 rfl ?_
  refine tg_aload_n X dX8_readsTeam_12 rfl 0 rfl ?_
  refine tg_getr X 0 rfl cl_X8 0 (by decide) rfl wf_X8_7 dX8_readsTeam_13 ?_
  refine tg_iload_n X dX8_readsTeam_16 rfl 1 rfl ?_
  obtain ⟨y1, ey1, by1, h⟩ := tg_rdE h
  refine tg_iald X 1 rfl ey1 by1 dX8_readsTeam_17 ?_
  refine tg_icmp_lt (tgt := 25) X dX8_readsTeam_18 (by decide) (fun c2 => ?_) (fun c2 => ?_)
  · have h := tg_ifT c2 h
    exact w_X8_readsTeam_25 X hr11 S v1 v2 v3 h
  · have h := tg_ifF c2 h
    refine tg_iload_n X dX8_readsTeam_21 rfl 3 rfl ?_
    refine tg_if_le (tgt := 89) X dX8_readsTeam_22 (by decide) (fun c3 => ?_) (fun c3 => ?_)
    · have h := tg_ifT c3 h
      refine tg_iconst X dX8_readsTeam_89 tk_im1 ?_
      exact tg_iret X h rfl dX8_readsTeam_90
    · have h := tg_ifF c3 h
      exact w_X8_readsTeam_25 X hr11 S v1 v2 v3 h
theorem wl_X8_readsTeam_11 {x : tg_X} {Sf : tg_S} {r : Int32} (X : tg_M tauR x cX8_readsTeam 5 RX8 zr_X8_readsTeam (some .int) Sf (some (.int r))) : ∀ (n : Nat) (S : tg_S) (v1 : Int32) (v2 : Int32) (v3 : Int32) (h : L_X8_readsTeam_11  n S v1 v2 v3 = some (Sf, r)), tg_G tauR x S 11 [(0, .ref (tg_ad x 0)), (1, .int v1), (2, .int v2), (3, .int v3)] [] := by
  intro n
  induction n with
  | zero => intro S v1 v2 v3 h; cases h
  | succ n ih => intro S v1 v2 v3 h; exact w_X8_readsTeam_11 X  ih S v1 v2 v3 h
set_option maxRecDepth 20000 in
set_option maxHeartbeats 4000000 in
theorem w_X8_readsTeam_0 {x : tg_X} {Sf : tg_S} {r : Int32} (X : tg_M tauR x cX8_readsTeam 5 RX8 zr_X8_readsTeam (some .int) Sf (some (.int r))) (S : tg_S) (v1 : Int32) (h : f_X8_readsTeam  S v1 = some (Sf, r)) : tg_G tauR x S 0 [(0, .ref (tg_ad x 0)), (1, .int v1)] [] := by
  unfold f_X8_readsTeam at h
  refine tg_iconst X dX8_readsTeam_0 tk_i0 ?_
  refine tg_istore_n (lv2 := [(2, .int 0), (0, .ref (tg_ad x 0)), (1, .int v1)]) X dX8_readsTeam_1 rfl (by decide) rfl ?_
  refine tg_iconst X dX8_readsTeam_2 tk_i0 ?_
  refine tg_istore_n (lv2 := [(3, .int 0), (2, .int 0), (0, .ref (tg_ad x 0)), (1, .int v1)]) X dX8_readsTeam_3 rfl (by decide) rfl ?_
  refine tg_aload_n X dX8_readsTeam_4 rfl 2 rfl ?_
  refine tg_getr X 0 rfl cl_X8 2 (by decide) rfl wf_X8_16 dX8_readsTeam_5 ?_
  refine tg_iload_n X dX8_readsTeam_8 rfl 3 rfl ?_
  refine tg_iconst X dX8_readsTeam_9 tk_i0 ?_
  obtain ⟨S1, eS1, bS1, h⟩ := tg_wrE h
  refine tg_iast X 3 rfl bS1 dX8_readsTeam_10 eS1 ?_
  refine tg_re [2, 3, 1, 0] rfl ?_
  exact wl_X8_readsTeam_11 X  tg_F S1 v1 0 0 h
theorem cm_X8_readsTeam (l : Launch) (D : va_G) (cy : Bool → ClassId) (ad : Nat → Nat) (tS : Nat) {S Sf : tg_S} {v1 : Int32} {r : Int32} (h : f_X8_readsTeam  S v1 = some (Sf, r)) : tg_Met l yX8_readsTeam cX8_readsTeam 5 (some .int) zr_X8_readsTeam tauR D cy ad tS S [.ref (ad 0), .int v1] Sf (some (.int r)) := tg_mk (by decide +kernel) trivial (Nat.le_of_ble_eq_true rfl) (fun p e s m args below meth c Q A X => w_X8_readsTeam_0 X S v1 h)
-- X8_callBy
def zr_X8_callBy : Room := { frames := 0, cells := 0, slots := 0, locals := 0 }
theorem dX8_callBy_0 : decode cX8_callBy 0 = .ok (.iload_n 0, 1) := by decide +kernel
theorem dX8_callBy_1 : decode cX8_callBy 1 = .ok (.bipush 114, 2) := by decide +kernel
theorem dX8_callBy_3 : decode cX8_callBy 3 = .ok (.if_icmp .ne 7, 3) := by decide +kernel
theorem dX8_callBy_6 : decode cX8_callBy 6 = .ok (.iconst 0, 1) := by decide +kernel
theorem dX8_callBy_7 : decode cX8_callBy 7 = .ok (.goto 24, 3) := by decide +kernel
theorem dX8_callBy_10 : decode cX8_callBy 10 = .ok (.iload_n 0, 1) := by decide +kernel
theorem dX8_callBy_11 : decode cX8_callBy 11 = .ok (.bipush 112, 2) := by decide +kernel
theorem dX8_callBy_13 : decode cX8_callBy 13 = .ok (.if_icmp .ne 7, 3) := by decide +kernel
theorem dX8_callBy_16 : decode cX8_callBy 16 = .ok (.iconst 1, 1) := by decide +kernel
theorem dX8_callBy_17 : decode cX8_callBy 17 = .ok (.goto 14, 3) := by decide +kernel
theorem dX8_callBy_20 : decode cX8_callBy 20 = .ok (.iload_n 0, 1) := by decide +kernel
theorem dX8_callBy_21 : decode cX8_callBy 21 = .ok (.bipush 104, 2) := by decide +kernel
theorem dX8_callBy_23 : decode cX8_callBy 23 = .ok (.if_icmp .ne 7, 3) := by decide +kernel
theorem dX8_callBy_26 : decode cX8_callBy 26 = .ok (.iconst 2, 1) := by decide +kernel
theorem dX8_callBy_27 : decode cX8_callBy 27 = .ok (.goto 4, 3) := by decide +kernel
theorem dX8_callBy_30 : decode cX8_callBy 30 = .ok (.iconst (-1), 1) := by decide +kernel
theorem dX8_callBy_31 : decode cX8_callBy 31 = .ok (.ireturn, 1) := by decide +kernel
set_option maxRecDepth 20000 in
set_option maxHeartbeats 4000000 in
theorem w_X8_callBy_0 {x : tg_X} {Sf : tg_S} {r : Int32} (X : tg_M tauR x cX8_callBy 1 RX8 zr_X8_callBy (some .int) Sf (some (.int r))) (S : tg_S) (v0 : Int32) (h : f_X8_callBy  S v0 = some (Sf, r)) : tg_G tauR x S 0 [(0, .int v0)] [] := by
  unfold f_X8_callBy at h
  refine tg_iload_n X dX8_callBy_0 rfl 0 rfl ?_
  refine tg_bipush X dX8_callBy_1 tk_b114 ?_
  refine tg_icmp_ne (tgt := 10) X dX8_callBy_3 (by decide) (fun c1 => ?_) (fun c1 => ?_)
  · have h := tg_ifF c1 h
    refine tg_iload_n X dX8_callBy_10 rfl 0 rfl ?_
    refine tg_bipush X dX8_callBy_11 tk_b112 ?_
    refine tg_icmp_ne (tgt := 20) X dX8_callBy_13 (by decide) (fun c2 => ?_) (fun c2 => ?_)
    · have h := tg_ifF c2 h
      refine tg_iload_n X dX8_callBy_20 rfl 0 rfl ?_
      refine tg_bipush X dX8_callBy_21 tk_b104 ?_
      refine tg_icmp_ne (tgt := 30) X dX8_callBy_23 (by decide) (fun c3 => ?_) (fun c3 => ?_)
      · have h := tg_ifF c3 h
        refine tg_iconst X dX8_callBy_30 tk_im1 ?_
        exact tg_iret X h rfl dX8_callBy_31
      · have h := tg_ifT c3 h
        refine tg_iconst X dX8_callBy_26 tk_i2 ?_
        refine tg_goto (tgt := 31) X dX8_callBy_27 (by decide) ?_
        exact tg_iret X h rfl dX8_callBy_31
    · have h := tg_ifT c2 h
      refine tg_iconst X dX8_callBy_16 tk_i1 ?_
      refine tg_goto (tgt := 31) X dX8_callBy_17 (by decide) ?_
      exact tg_iret X h rfl dX8_callBy_31
  · have h := tg_ifT c1 h
    refine tg_iconst X dX8_callBy_6 tk_i0 ?_
    refine tg_goto (tgt := 31) X dX8_callBy_7 (by decide) ?_
    exact tg_iret X h rfl dX8_callBy_31
theorem cm_X8_callBy (l : Launch) (D : va_G) (cy : Bool → ClassId) (ad : Nat → Nat) (tS : Nat) {S Sf : tg_S} {v0 : Int32} {r : Int32} (h : f_X8_callBy  S v0 = some (Sf, r)) : tg_Met l yX8_callBy cX8_callBy 1 (some .int) zr_X8_callBy tauR D cy ad tS S [.int v0] Sf (some (.int r)) := tg_mk (by decide +kernel) trivial (Nat.le_of_ble_eq_true rfl) (fun p e s m args below meth c Q A X => w_X8_callBy_0 X S v0 h)
-- X8_readsCalls
def zr_X8_readsCalls : Room := { frames := 1, cells := 0, slots := 0, locals := 22 }
theorem dX8_readsCalls_0 : decode cX8_readsCalls 0 = .ok (.iload_n 1, 1) := by decide +kernel
theorem dX8_readsCalls_1 : decode cX8_readsCalls 1 = .ok (.iconst 2, 1) := by decide +kernel
theorem dX8_readsCalls_2 : decode cX8_readsCalls 2 = .ok (.iadd, 1) := by decide +kernel
theorem dX8_readsCalls_3 : decode cX8_readsCalls 3 = .ok (.istore_n 2, 1) := by decide +kernel
theorem dX8_readsCalls_4 : decode cX8_readsCalls 4 = .ok (.aload_n 0, 1) := by decide +kernel
theorem dX8_readsCalls_5 : decode cX8_readsCalls 5 = .ok (.getfield 28, 3) := by decide +kernel
theorem dX8_readsCalls_8 : decode cX8_readsCalls 8 = .ok (.iload_n 1, 1) := by decide +kernel
theorem dX8_readsCalls_9 : decode cX8_readsCalls 9 = .ok (.iconst 0, 1) := by decide +kernel
theorem dX8_readsCalls_10 : decode cX8_readsCalls 10 = .ok (.iastore, 1) := by decide +kernel
theorem dX8_readsCalls_11 : decode cX8_readsCalls 11 = .ok (.iconst 0, 1) := by decide +kernel
theorem dX8_readsCalls_12 : decode cX8_readsCalls 12 = .ok (.istore_n 3, 1) := by decide +kernel
theorem dX8_readsCalls_13 : decode cX8_readsCalls 13 = .ok (.iload_n 3, 1) := by decide +kernel
theorem dX8_readsCalls_14 : decode cX8_readsCalls 14 = .ok (.bipush 24, 2) := by decide +kernel
theorem dX8_readsCalls_16 : decode cX8_readsCalls 16 = .ok (.if_icmp .ge 21, 3) := by decide +kernel
theorem dX8_readsCalls_19 : decode cX8_readsCalls 19 = .ok (.aload_n 0, 1) := by decide +kernel
theorem dX8_readsCalls_20 : decode cX8_readsCalls 20 = .ok (.getfield 31, 3) := by decide +kernel
theorem dX8_readsCalls_23 : decode cX8_readsCalls 23 = .ok (.bipush 24, 2) := by decide +kernel
theorem dX8_readsCalls_25 : decode cX8_readsCalls 25 = .ok (.iload_n 1, 1) := by decide +kernel
theorem dX8_readsCalls_26 : decode cX8_readsCalls 26 = .ok (.imul, 1) := by decide +kernel
theorem dX8_readsCalls_27 : decode cX8_readsCalls 27 = .ok (.iload_n 3, 1) := by decide +kernel
theorem dX8_readsCalls_28 : decode cX8_readsCalls 28 = .ok (.iadd, 1) := by decide +kernel
theorem dX8_readsCalls_29 : decode cX8_readsCalls 29 = .ok (.iconst 1, 1) := by decide +kernel
theorem dX8_readsCalls_30 : decode cX8_readsCalls 30 = .ok (.iastore, 1) := by decide +kernel
theorem dX8_readsCalls_31 : decode cX8_readsCalls 31 = .ok (.iinc 3 1, 3) := by decide +kernel
theorem dX8_readsCalls_34 : decode cX8_readsCalls 34 = .ok (.goto (-21), 3) := by decide +kernel
theorem dX8_readsCalls_37 : decode cX8_readsCalls 37 = .ok (.iconst 0, 1) := by decide +kernel
theorem dX8_readsCalls_38 : decode cX8_readsCalls 38 = .ok (.istore_n 3, 1) := by decide +kernel
theorem dX8_readsCalls_39 : decode cX8_readsCalls 39 = .ok (.iload_n 3, 1) := by decide +kernel
theorem dX8_readsCalls_40 : decode cX8_readsCalls 40 = .ok (.aload_n 0, 1) := by decide +kernel
theorem dX8_readsCalls_41 : decode cX8_readsCalls 41 = .ok (.getfield 7, 3) := by decide +kernel
theorem dX8_readsCalls_44 : decode cX8_readsCalls 44 = .ok (.iload_n 2, 1) := by decide +kernel
theorem dX8_readsCalls_45 : decode cX8_readsCalls 45 = .ok (.iaload, 1) := by decide +kernel
theorem dX8_readsCalls_46 : decode cX8_readsCalls 46 = .ok (.if_icmp .ge 24, 3) := by decide +kernel
theorem dX8_readsCalls_49 : decode cX8_readsCalls 49 = .ok (.aload_n 0, 1) := by decide +kernel
theorem dX8_readsCalls_50 : decode cX8_readsCalls 50 = .ok (.iload_n 2, 1) := by decide +kernel
theorem dX8_readsCalls_51 : decode cX8_readsCalls 51 = .ok (.iload_n 3, 1) := by decide +kernel
theorem dX8_readsCalls_52 : decode cX8_readsCalls 52 = .ok (.invokevirtual 117, 3) := by decide +kernel
theorem dX8_readsCalls_55 : decode cX8_readsCalls 55 = .ok (.invokestatic 125, 3) := by decide +kernel
theorem dX8_readsCalls_58 : decode cX8_readsCalls 58 = .ok (.iconst (-1), 1) := by decide +kernel
theorem dX8_readsCalls_59 : decode cX8_readsCalls 59 = .ok (.if_icmp .ne 5, 3) := by decide +kernel
theorem dX8_readsCalls_62 : decode cX8_readsCalls 62 = .ok (.iload_n 3, 1) := by decide +kernel
theorem dX8_readsCalls_63 : decode cX8_readsCalls 63 = .ok (.ireturn, 1) := by decide +kernel
theorem dX8_readsCalls_64 : decode cX8_readsCalls 64 = .ok (.iinc 3 1, 3) := by decide +kernel
theorem dX8_readsCalls_67 : decode cX8_readsCalls 67 = .ok (.goto (-28), 3) := by decide +kernel
theorem dX8_readsCalls_70 : decode cX8_readsCalls 70 = .ok (.iconst 0, 1) := by decide +kernel
theorem dX8_readsCalls_71 : decode cX8_readsCalls 71 = .ok (.istore_n 3, 1) := by decide +kernel
theorem dX8_readsCalls_72 : decode cX8_readsCalls 72 = .ok (.iload_n 3, 1) := by decide +kernel
theorem dX8_readsCalls_73 : decode cX8_readsCalls 73 = .ok (.aload_n 0, 1) := by decide +kernel
theorem dX8_readsCalls_74 : decode cX8_readsCalls 74 = .ok (.getfield 7, 3) := by decide +kernel
theorem dX8_readsCalls_77 : decode cX8_readsCalls 77 = .ok (.iload_n 2, 1) := by decide +kernel
theorem dX8_readsCalls_78 : decode cX8_readsCalls 78 = .ok (.iaload, 1) := by decide +kernel
theorem dX8_readsCalls_79 : decode cX8_readsCalls 79 = .ok (.if_icmp .ge 29, 3) := by decide +kernel
theorem dX8_readsCalls_82 : decode cX8_readsCalls 82 = .ok (.aload_n 0, 1) := by decide +kernel
theorem dX8_readsCalls_83 : decode cX8_readsCalls 83 = .ok (.getfield 31, 3) := by decide +kernel
theorem dX8_readsCalls_86 : decode cX8_readsCalls 86 = .ok (.bipush 24, 2) := by decide +kernel
theorem dX8_readsCalls_88 : decode cX8_readsCalls 88 = .ok (.iload_n 1, 1) := by decide +kernel
theorem dX8_readsCalls_89 : decode cX8_readsCalls 89 = .ok (.imul, 1) := by decide +kernel
theorem dX8_readsCalls_90 : decode cX8_readsCalls 90 = .ok (.iload_n 3, 1) := by decide +kernel
theorem dX8_readsCalls_91 : decode cX8_readsCalls 91 = .ok (.iadd, 1) := by decide +kernel
theorem dX8_readsCalls_92 : decode cX8_readsCalls 92 = .ok (.aload_n 0, 1) := by decide +kernel
theorem dX8_readsCalls_93 : decode cX8_readsCalls 93 = .ok (.iload_n 2, 1) := by decide +kernel
theorem dX8_readsCalls_94 : decode cX8_readsCalls 94 = .ok (.iload_n 3, 1) := by decide +kernel
theorem dX8_readsCalls_95 : decode cX8_readsCalls 95 = .ok (.invokevirtual 117, 3) := by decide +kernel
theorem dX8_readsCalls_98 : decode cX8_readsCalls 98 = .ok (.invokestatic 125, 3) := by decide +kernel
theorem dX8_readsCalls_101 : decode cX8_readsCalls 101 = .ok (.iastore, 1) := by decide +kernel
theorem dX8_readsCalls_102 : decode cX8_readsCalls 102 = .ok (.iinc 3 1, 3) := by decide +kernel
theorem dX8_readsCalls_105 : decode cX8_readsCalls 105 = .ok (.goto (-33), 3) := by decide +kernel
theorem dX8_readsCalls_108 : decode cX8_readsCalls 108 = .ok (.aload_n 0, 1) := by decide +kernel
theorem dX8_readsCalls_109 : decode cX8_readsCalls 109 = .ok (.getfield 28, 3) := by decide +kernel
theorem dX8_readsCalls_112 : decode cX8_readsCalls 112 = .ok (.iload_n 1, 1) := by decide +kernel
theorem dX8_readsCalls_113 : decode cX8_readsCalls 113 = .ok (.aload_n 0, 1) := by decide +kernel
theorem dX8_readsCalls_114 : decode cX8_readsCalls 114 = .ok (.getfield 7, 3) := by decide +kernel
theorem dX8_readsCalls_117 : decode cX8_readsCalls 117 = .ok (.iload_n 2, 1) := by decide +kernel
theorem dX8_readsCalls_118 : decode cX8_readsCalls 118 = .ok (.iaload, 1) := by decide +kernel
theorem dX8_readsCalls_119 : decode cX8_readsCalls 119 = .ok (.iastore, 1) := by decide +kernel
theorem dX8_readsCalls_120 : decode cX8_readsCalls 120 = .ok (.iconst (-1), 1) := by decide +kernel
theorem dX8_readsCalls_121 : decode cX8_readsCalls 121 = .ok (.ireturn, 1) := by decide +kernel
set_option maxRecDepth 20000 in
set_option maxHeartbeats 4000000 in
theorem w_X8_readsCalls_72 {x : tg_X} {Sf : tg_S} {r : Int32} {rec72 : tg_S → Int32 → Int32 → Int32 → Option (tg_S × Int32)} (X : tg_M tauR x cX8_readsCalls 4 RX8 zr_X8_readsCalls (some .int) Sf (some (.int r))) (hr72 : ∀ (S : tg_S) (v1 : Int32) (v2 : Int32) (v3 : Int32), rec72 S v1 v2 v3 = some (Sf, r) → tg_G tauR x S 72 [(0, .ref (tg_ad x 0)), (1, .int v1), (2, .int v2), (3, .int v3)] []) (S : tg_S) (v1 : Int32) (v2 : Int32) (v3 : Int32) (h : f_X8_readsCalls_72 rec72 S v1 v2 v3 = some (Sf, r)) : tg_G tauR x S 72 [(0, .ref (tg_ad x 0)), (1, .int v1), (2, .int v2), (3, .int v3)] [] := by
  unfold f_X8_readsCalls_72 at h
  refine tg_iload_n X dX8_readsCalls_72 rfl 3 rfl ?_
  refine tg_aload_n X dX8_readsCalls_73 rfl 0 rfl ?_
  refine tg_getr X 0 rfl cl_X8 0 (by decide) rfl wf_X8_7 dX8_readsCalls_74 ?_
  refine tg_iload_n X dX8_readsCalls_77 rfl 2 rfl ?_
  obtain ⟨y1, ey1, by1, h⟩ := tg_rdE h
  refine tg_iald X 1 rfl ey1 by1 dX8_readsCalls_78 ?_
  refine tg_icmp_ge (tgt := 108) X dX8_readsCalls_79 (by decide) (fun c2 => ?_) (fun c2 => ?_)
  · have h := tg_ifT c2 h
    refine tg_aload_n X dX8_readsCalls_108 rfl 0 rfl ?_
    refine tg_getr X 0 rfl cl_X8 6 (by decide) rfl wf_X8_28 dX8_readsCalls_109 ?_
    refine tg_iload_n X dX8_readsCalls_112 rfl 1 rfl ?_
    refine tg_aload_n X dX8_readsCalls_113 rfl 0 rfl ?_
    refine tg_getr X 0 rfl cl_X8 0 (by decide) rfl wf_X8_7 dX8_readsCalls_114 ?_
    refine tg_iload_n X dX8_readsCalls_117 rfl 2 rfl ?_
    obtain ⟨y3, ey3, by3, h⟩ := tg_rdE h
    refine tg_iald X 1 rfl ey3 by3 dX8_readsCalls_118 ?_
    obtain ⟨S4, eS4, bS4, h⟩ := tg_wrE h
    refine tg_iast X 7 rfl bS4 dX8_readsCalls_119 eS4 ?_
    refine tg_iconst X dX8_readsCalls_120 tk_im1 ?_
    exact tg_iret X h rfl dX8_readsCalls_121
  · have h := tg_ifF c2 h
    refine tg_aload_n X dX8_readsCalls_82 rfl 0 rfl ?_
    refine tg_getr X 0 rfl cl_X8 7 (by decide) rfl wf_X8_31 dX8_readsCalls_83 ?_
    refine tg_bipush X dX8_readsCalls_86 tk_b24 ?_
    refine tg_iload_n X dX8_readsCalls_88 rfl 1 rfl ?_
    refine tg_imul X dX8_readsCalls_89 ?_
    refine tg_iload_n X dX8_readsCalls_90 rfl 3 rfl ?_
    refine tg_iadd X dX8_readsCalls_91 ?_
    refine tg_aload_n X dX8_readsCalls_92 rfl 0 rfl ?_
    refine tg_iload_n X dX8_readsCalls_93 rfl 2 rfl ?_
    refine tg_iload_n X dX8_readsCalls_94 rfl 3 rfl ?_
    obtain ⟨S5, r6, kS5, h⟩ := tg_bdE h
    refine tg_callV (As := [.int v2, .int v3]) (rest := [.int ((24 * v1) + v3), .ref (tg_ad x 8)]) X 0 (cm_X8_byteAt _ _ _ _ _ kS5) yy_X8_byteAt wv_X8_byteAt ws_X8_byteAt wm_X8_117 rfl cl_X8.1 ⟨rfl, rfl, Nat.le_of_ble_eq_true rfl, Nat.le_of_ble_eq_true rfl⟩ rfl rfl (Nat.le_of_ble_eq_true rfl) dX8_readsCalls_95 rfl ?_
    obtain ⟨S7, r8, kS7, h⟩ := tg_bdE h
    refine tg_callS (As := [.int r6]) (rest := [.int ((24 * v1) + v3), .ref (tg_ad x 8)]) X (cm_X8_callBy _ _ _ _ _ kS7) yy_X8_callBy wt_X8_callBy wm_X8_125 ⟨rfl, rfl, Nat.le_of_ble_eq_true rfl, Nat.le_of_ble_eq_true rfl⟩ rfl rfl (Nat.le_of_ble_eq_true rfl) dX8_readsCalls_98 rfl ?_
    obtain ⟨S9, eS9, bS9, h⟩ := tg_wrE h
    refine tg_iast X 8 rfl bS9 dX8_readsCalls_101 eS9 ?_
    obtain ⟨y10, ey10⟩ : ∃ z : Int32, z = v3 + 1 := ⟨_, rfl⟩
    have h := tg_nmE ey10 h
    refine tg_iinc (lv2 := [(3, .int y10), (0, .ref (tg_ad x 0)), (1, .int v1), (2, .int v2)]) X dX8_readsCalls_102 3 rfl tk_i1 ey10 (by decide) rfl ?_
    refine tg_goto (tgt := 72) X dX8_readsCalls_105 (by decide) ?_
    refine tg_re [1, 2, 3, 0] rfl ?_
    exact hr72 S9 v1 v2 y10 h
theorem wl_X8_readsCalls_72 {x : tg_X} {Sf : tg_S} {r : Int32} (X : tg_M tauR x cX8_readsCalls 4 RX8 zr_X8_readsCalls (some .int) Sf (some (.int r))) : ∀ (n : Nat) (S : tg_S) (v1 : Int32) (v2 : Int32) (v3 : Int32) (h : L_X8_readsCalls_72  n S v1 v2 v3 = some (Sf, r)), tg_G tauR x S 72 [(0, .ref (tg_ad x 0)), (1, .int v1), (2, .int v2), (3, .int v3)] [] := by
  intro n
  induction n with
  | zero => intro S v1 v2 v3 h; cases h
  | succ n ih => intro S v1 v2 v3 h; exact w_X8_readsCalls_72 X  ih S v1 v2 v3 h
set_option maxRecDepth 20000 in
set_option maxHeartbeats 4000000 in
theorem w_X8_readsCalls_39 {x : tg_X} {Sf : tg_S} {r : Int32} {rec39 : tg_S → Int32 → Int32 → Int32 → Option (tg_S × Int32)} (X : tg_M tauR x cX8_readsCalls 4 RX8 zr_X8_readsCalls (some .int) Sf (some (.int r))) (hr39 : ∀ (S : tg_S) (v1 : Int32) (v2 : Int32) (v3 : Int32), rec39 S v1 v2 v3 = some (Sf, r) → tg_G tauR x S 39 [(0, .ref (tg_ad x 0)), (1, .int v1), (2, .int v2), (3, .int v3)] []) (S : tg_S) (v1 : Int32) (v2 : Int32) (v3 : Int32) (h : f_X8_readsCalls_39 rec39 S v1 v2 v3 = some (Sf, r)) : tg_G tauR x S 39 [(0, .ref (tg_ad x 0)), (1, .int v1), (2, .int v2), (3, .int v3)] [] := by
  unfold f_X8_readsCalls_39 at h
  refine tg_iload_n X dX8_readsCalls_39 rfl 3 rfl ?_
  refine tg_aload_n X dX8_readsCalls_40 rfl 0 rfl ?_
  refine tg_getr X 0 rfl cl_X8 0 (by decide) rfl wf_X8_7 dX8_readsCalls_41 ?_
  refine tg_iload_n X dX8_readsCalls_44 rfl 2 rfl ?_
  obtain ⟨y1, ey1, by1, h⟩ := tg_rdE h
  refine tg_iald X 1 rfl ey1 by1 dX8_readsCalls_45 ?_
  refine tg_icmp_ge (tgt := 70) X dX8_readsCalls_46 (by decide) (fun c2 => ?_) (fun c2 => ?_)
  · have h := tg_ifT c2 h
    refine tg_iconst X dX8_readsCalls_70 tk_i0 ?_
    refine tg_istore_n (lv2 := [(3, .int 0), (0, .ref (tg_ad x 0)), (1, .int v1), (2, .int v2)]) X dX8_readsCalls_71 rfl (by decide) rfl ?_
    refine tg_re [1, 2, 3, 0] rfl ?_
    exact wl_X8_readsCalls_72 X  tg_F S v1 v2 0 h
  · have h := tg_ifF c2 h
    refine tg_aload_n X dX8_readsCalls_49 rfl 0 rfl ?_
    refine tg_iload_n X dX8_readsCalls_50 rfl 2 rfl ?_
    refine tg_iload_n X dX8_readsCalls_51 rfl 3 rfl ?_
    obtain ⟨S3, r4, kS3, h⟩ := tg_bdE h
    refine tg_callV (As := [.int v2, .int v3]) (rest := []) X 0 (cm_X8_byteAt _ _ _ _ _ kS3) yy_X8_byteAt wv_X8_byteAt ws_X8_byteAt wm_X8_117 rfl cl_X8.1 ⟨rfl, rfl, Nat.le_of_ble_eq_true rfl, Nat.le_of_ble_eq_true rfl⟩ rfl rfl (Nat.le_of_ble_eq_true rfl) dX8_readsCalls_52 rfl ?_
    obtain ⟨S5, r6, kS5, h⟩ := tg_bdE h
    refine tg_callS (As := [.int r4]) (rest := []) X (cm_X8_callBy _ _ _ _ _ kS5) yy_X8_callBy wt_X8_callBy wm_X8_125 ⟨rfl, rfl, Nat.le_of_ble_eq_true rfl, Nat.le_of_ble_eq_true rfl⟩ rfl rfl (Nat.le_of_ble_eq_true rfl) dX8_readsCalls_55 rfl ?_
    refine tg_iconst X dX8_readsCalls_58 tk_im1 ?_
    refine tg_icmp_ne (tgt := 64) X dX8_readsCalls_59 (by decide) (fun c7 => ?_) (fun c7 => ?_)
    · have h := tg_ifF c7 h
      obtain ⟨y8, ey8⟩ : ∃ z : Int32, z = v3 + 1 := ⟨_, rfl⟩
      have h := tg_nmE ey8 h
      refine tg_iinc (lv2 := [(3, .int y8), (0, .ref (tg_ad x 0)), (1, .int v1), (2, .int v2)]) X dX8_readsCalls_64 3 rfl tk_i1 ey8 (by decide) rfl ?_
      refine tg_goto (tgt := 39) X dX8_readsCalls_67 (by decide) ?_
      refine tg_re [1, 2, 3, 0] rfl ?_
      exact hr39 S5 v1 v2 y8 h
    · have h := tg_ifT c7 h
      refine tg_iload_n X dX8_readsCalls_62 rfl 3 rfl ?_
      exact tg_iret X h rfl dX8_readsCalls_63
theorem wl_X8_readsCalls_39 {x : tg_X} {Sf : tg_S} {r : Int32} (X : tg_M tauR x cX8_readsCalls 4 RX8 zr_X8_readsCalls (some .int) Sf (some (.int r))) : ∀ (n : Nat) (S : tg_S) (v1 : Int32) (v2 : Int32) (v3 : Int32) (h : L_X8_readsCalls_39  n S v1 v2 v3 = some (Sf, r)), tg_G tauR x S 39 [(0, .ref (tg_ad x 0)), (1, .int v1), (2, .int v2), (3, .int v3)] [] := by
  intro n
  induction n with
  | zero => intro S v1 v2 v3 h; cases h
  | succ n ih => intro S v1 v2 v3 h; exact w_X8_readsCalls_39 X  ih S v1 v2 v3 h
set_option maxRecDepth 20000 in
set_option maxHeartbeats 4000000 in
theorem w_X8_readsCalls_13 {x : tg_X} {Sf : tg_S} {r : Int32} {rec13 : tg_S → Int32 → Int32 → Int32 → Option (tg_S × Int32)} (X : tg_M tauR x cX8_readsCalls 4 RX8 zr_X8_readsCalls (some .int) Sf (some (.int r))) (hr13 : ∀ (S : tg_S) (v1 : Int32) (v2 : Int32) (v3 : Int32), rec13 S v1 v2 v3 = some (Sf, r) → tg_G tauR x S 13 [(0, .ref (tg_ad x 0)), (1, .int v1), (2, .int v2), (3, .int v3)] []) (S : tg_S) (v1 : Int32) (v2 : Int32) (v3 : Int32) (h : f_X8_readsCalls_13 rec13 S v1 v2 v3 = some (Sf, r)) : tg_G tauR x S 13 [(0, .ref (tg_ad x 0)), (1, .int v1), (2, .int v2), (3, .int v3)] [] := by
  unfold f_X8_readsCalls_13 at h
  refine tg_iload_n X dX8_readsCalls_13 rfl 3 rfl ?_
  refine tg_bipush X dX8_readsCalls_14 tk_b24 ?_
  refine tg_icmp_ge (tgt := 37) X dX8_readsCalls_16 (by decide) (fun c1 => ?_) (fun c1 => ?_)
  · have h := tg_ifT c1 h
    refine tg_iconst X dX8_readsCalls_37 tk_i0 ?_
    refine tg_istore_n (lv2 := [(3, .int 0), (0, .ref (tg_ad x 0)), (1, .int v1), (2, .int v2)]) X dX8_readsCalls_38 rfl (by decide) rfl ?_
    refine tg_re [1, 2, 3, 0] rfl ?_
    exact wl_X8_readsCalls_39 X  tg_F S v1 v2 0 h
  · have h := tg_ifF c1 h
    refine tg_aload_n X dX8_readsCalls_19 rfl 0 rfl ?_
    refine tg_getr X 0 rfl cl_X8 7 (by decide) rfl wf_X8_31 dX8_readsCalls_20 ?_
    refine tg_bipush X dX8_readsCalls_23 tk_b24 ?_
    refine tg_iload_n X dX8_readsCalls_25 rfl 1 rfl ?_
    refine tg_imul X dX8_readsCalls_26 ?_
    refine tg_iload_n X dX8_readsCalls_27 rfl 3 rfl ?_
    refine tg_iadd X dX8_readsCalls_28 ?_
    refine tg_iconst X dX8_readsCalls_29 tk_i1 ?_
    obtain ⟨S2, eS2, bS2, h⟩ := tg_wrE h
    refine tg_iast X 8 rfl bS2 dX8_readsCalls_30 eS2 ?_
    obtain ⟨y3, ey3⟩ : ∃ z : Int32, z = v3 + 1 := ⟨_, rfl⟩
    have h := tg_nmE ey3 h
    refine tg_iinc (lv2 := [(3, .int y3), (0, .ref (tg_ad x 0)), (1, .int v1), (2, .int v2)]) X dX8_readsCalls_31 3 rfl tk_i1 ey3 (by decide) rfl ?_
    refine tg_goto (tgt := 13) X dX8_readsCalls_34 (by decide) ?_
    refine tg_re [1, 2, 3, 0] rfl ?_
    exact hr13 S2 v1 v2 y3 h
theorem wl_X8_readsCalls_13 {x : tg_X} {Sf : tg_S} {r : Int32} (X : tg_M tauR x cX8_readsCalls 4 RX8 zr_X8_readsCalls (some .int) Sf (some (.int r))) : ∀ (n : Nat) (S : tg_S) (v1 : Int32) (v2 : Int32) (v3 : Int32) (h : L_X8_readsCalls_13  n S v1 v2 v3 = some (Sf, r)), tg_G tauR x S 13 [(0, .ref (tg_ad x 0)), (1, .int v1), (2, .int v2), (3, .int v3)] [] := by
  intro n
  induction n with
  | zero => intro S v1 v2 v3 h; cases h
  | succ n ih => intro S v1 v2 v3 h; exact w_X8_readsCalls_13 X  ih S v1 v2 v3 h
set_option maxRecDepth 20000 in
set_option maxHeartbeats 4000000 in
theorem w_X8_readsCalls_0 {x : tg_X} {Sf : tg_S} {r : Int32} (X : tg_M tauR x cX8_readsCalls 4 RX8 zr_X8_readsCalls (some .int) Sf (some (.int r))) (S : tg_S) (v1 : Int32) (h : f_X8_readsCalls  S v1 = some (Sf, r)) : tg_G tauR x S 0 [(0, .ref (tg_ad x 0)), (1, .int v1)] [] := by
  unfold f_X8_readsCalls at h
  refine tg_iload_n X dX8_readsCalls_0 rfl 1 rfl ?_
  refine tg_iconst X dX8_readsCalls_1 tk_i2 ?_
  refine tg_iadd X dX8_readsCalls_2 ?_
  refine tg_topi (fun y1 ey1 => ?_)
  have h := tg_nmE ey1 h
  refine tg_istore_n (lv2 := [(2, .int y1), (0, .ref (tg_ad x 0)), (1, .int v1)]) X dX8_readsCalls_3 rfl (by decide) rfl ?_
  refine tg_aload_n X dX8_readsCalls_4 rfl 1 rfl ?_
  refine tg_getr X 0 rfl cl_X8 6 (by decide) rfl wf_X8_28 dX8_readsCalls_5 ?_
  refine tg_iload_n X dX8_readsCalls_8 rfl 2 rfl ?_
  refine tg_iconst X dX8_readsCalls_9 tk_i0 ?_
  obtain ⟨S2, eS2, bS2, h⟩ := tg_wrE h
  refine tg_iast X 7 rfl bS2 dX8_readsCalls_10 eS2 ?_
  refine tg_iconst X dX8_readsCalls_11 tk_i0 ?_
  refine tg_istore_n (lv2 := [(3, .int 0), (2, .int y1), (0, .ref (tg_ad x 0)), (1, .int v1)]) X dX8_readsCalls_12 rfl (by decide) rfl ?_
  refine tg_re [2, 3, 1, 0] rfl ?_
  exact wl_X8_readsCalls_13 X  tg_F S2 v1 y1 0 h
theorem cm_X8_readsCalls (l : Launch) (D : va_G) (cy : Bool → ClassId) (ad : Nat → Nat) (tS : Nat) {S Sf : tg_S} {v1 : Int32} {r : Int32} (h : f_X8_readsCalls  S v1 = some (Sf, r)) : tg_Met l yX8_readsCalls cX8_readsCalls 4 (some .int) zr_X8_readsCalls tauR D cy ad tS S [.ref (ad 0), .int v1] Sf (some (.int r)) := tg_mk (by decide +kernel) trivial (Nat.le_of_ble_eq_true rfl) (fun p e s m args below meth c Q A X => w_X8_readsCalls_0 X S v1 h)
-- X8_faultOf
def zr_X8_faultOf : Room := { frames := 3, cells := 0, slots := 0, locals := 73 }
theorem dX8_faultOf_0 : decode cX8_faultOf 0 = .ok (.aload_n 0, 1) := by decide +kernel
theorem dX8_faultOf_1 : decode cX8_faultOf 1 = .ok (.iconst 0, 1) := by decide +kernel
theorem dX8_faultOf_2 : decode cX8_faultOf 2 = .ok (.invokevirtual 129, 3) := by decide +kernel
theorem dX8_faultOf_5 : decode cX8_faultOf 5 = .ok (.istore_n 2, 1) := by decide +kernel
theorem dX8_faultOf_6 : decode cX8_faultOf 6 = .ok (.aload_n 0, 1) := by decide +kernel
theorem dX8_faultOf_7 : decode cX8_faultOf 7 = .ok (.iconst 1, 1) := by decide +kernel
theorem dX8_faultOf_8 : decode cX8_faultOf 8 = .ok (.invokevirtual 129, 3) := by decide +kernel
theorem dX8_faultOf_11 : decode cX8_faultOf 11 = .ok (.istore_n 3, 1) := by decide +kernel
theorem dX8_faultOf_12 : decode cX8_faultOf 12 = .ok (.aload_n 0, 1) := by decide +kernel
theorem dX8_faultOf_13 : decode cX8_faultOf 13 = .ok (.iconst 0, 1) := by decide +kernel
theorem dX8_faultOf_14 : decode cX8_faultOf 14 = .ok (.invokevirtual 132, 3) := by decide +kernel
theorem dX8_faultOf_17 : decode cX8_faultOf 17 = .ok (.istore 4, 2) := by decide +kernel
theorem dX8_faultOf_19 : decode cX8_faultOf 19 = .ok (.aload_n 0, 1) := by decide +kernel
theorem dX8_faultOf_20 : decode cX8_faultOf 20 = .ok (.iconst 1, 1) := by decide +kernel
theorem dX8_faultOf_21 : decode cX8_faultOf 21 = .ok (.invokevirtual 132, 3) := by decide +kernel
theorem dX8_faultOf_24 : decode cX8_faultOf 24 = .ok (.istore 5, 2) := by decide +kernel
theorem dX8_faultOf_26 : decode cX8_faultOf 26 = .ok (.iload_n 1, 1) := by decide +kernel
theorem dX8_faultOf_27 : decode cX8_faultOf 27 = .ok (.ifCond .ne 7, 3) := by decide +kernel
theorem dX8_faultOf_30 : decode cX8_faultOf 30 = .ok (.iload_n 2, 1) := by decide +kernel
theorem dX8_faultOf_31 : decode cX8_faultOf 31 = .ok (.goto 24, 3) := by decide +kernel
theorem dX8_faultOf_34 : decode cX8_faultOf 34 = .ok (.iload_n 1, 1) := by decide +kernel
theorem dX8_faultOf_35 : decode cX8_faultOf 35 = .ok (.iconst 1, 1) := by decide +kernel
theorem dX8_faultOf_36 : decode cX8_faultOf 36 = .ok (.if_icmp .ne 7, 3) := by decide +kernel
theorem dX8_faultOf_39 : decode cX8_faultOf 39 = .ok (.iload_n 3, 1) := by decide +kernel
theorem dX8_faultOf_40 : decode cX8_faultOf 40 = .ok (.goto 15, 3) := by decide +kernel
theorem dX8_faultOf_43 : decode cX8_faultOf 43 = .ok (.iload_n 1, 1) := by decide +kernel
theorem dX8_faultOf_44 : decode cX8_faultOf 44 = .ok (.iconst 2, 1) := by decide +kernel
theorem dX8_faultOf_45 : decode cX8_faultOf 45 = .ok (.if_icmp .ne 8, 3) := by decide +kernel
theorem dX8_faultOf_48 : decode cX8_faultOf 48 = .ok (.iload 4, 2) := by decide +kernel
theorem dX8_faultOf_50 : decode cX8_faultOf 50 = .ok (.goto 5, 3) := by decide +kernel
theorem dX8_faultOf_53 : decode cX8_faultOf 53 = .ok (.iload 5, 2) := by decide +kernel
theorem dX8_faultOf_55 : decode cX8_faultOf 55 = .ok (.ireturn, 1) := by decide +kernel
set_option maxRecDepth 20000 in
set_option maxHeartbeats 4000000 in
theorem w_X8_faultOf_0 {x : tg_X} {Sf : tg_S} {r : Int32} (X : tg_M tauR x cX8_faultOf 6 RX8 zr_X8_faultOf (some .int) Sf (some (.int r))) (S : tg_S) (v1 : Int32) (h : f_X8_faultOf  S v1 = some (Sf, r)) : tg_G tauR x S 0 [(0, .ref (tg_ad x 0)), (1, .int v1)] [] := by
  unfold f_X8_faultOf at h
  refine tg_aload_n X dX8_faultOf_0 rfl 0 rfl ?_
  refine tg_iconst X dX8_faultOf_1 tk_i0 ?_
  obtain ⟨S1, r2, kS1, h⟩ := tg_bdE h
  refine tg_callV (As := [.int 0]) (rest := []) X 0 (cm_X8_readsTeam _ _ _ _ _ kS1) yy_X8_readsTeam wv_X8_readsTeam ws_X8_readsTeam wm_X8_129 rfl cl_X8.1 ⟨rfl, rfl, Nat.le_of_ble_eq_true rfl, Nat.le_of_ble_eq_true rfl⟩ rfl rfl (Nat.le_of_ble_eq_true rfl) dX8_faultOf_2 rfl ?_
  refine tg_istore_n (lv2 := [(2, .int r2), (0, .ref (tg_ad x 0)), (1, .int v1)]) X dX8_faultOf_5 rfl (by decide) rfl ?_
  refine tg_aload_n X dX8_faultOf_6 rfl 1 rfl ?_
  refine tg_iconst X dX8_faultOf_7 tk_i1 ?_
  obtain ⟨S3, r4, kS3, h⟩ := tg_bdE h
  refine tg_callV (As := [.int 1]) (rest := []) X 0 (cm_X8_readsTeam _ _ _ _ _ kS3) yy_X8_readsTeam wv_X8_readsTeam ws_X8_readsTeam wm_X8_129 rfl cl_X8.1 ⟨rfl, rfl, Nat.le_of_ble_eq_true rfl, Nat.le_of_ble_eq_true rfl⟩ rfl rfl (Nat.le_of_ble_eq_true rfl) dX8_faultOf_8 rfl ?_
  refine tg_istore_n (lv2 := [(3, .int r4), (2, .int r2), (0, .ref (tg_ad x 0)), (1, .int v1)]) X dX8_faultOf_11 rfl (by decide) rfl ?_
  refine tg_aload_n X dX8_faultOf_12 rfl 2 rfl ?_
  refine tg_iconst X dX8_faultOf_13 tk_i0 ?_
  obtain ⟨S5, r6, kS5, h⟩ := tg_bdE h
  refine tg_callV (As := [.int 0]) (rest := []) X 0 (cm_X8_readsCalls _ _ _ _ _ kS5) yy_X8_readsCalls wv_X8_readsCalls ws_X8_readsCalls wm_X8_132 rfl cl_X8.1 ⟨rfl, rfl, Nat.le_of_ble_eq_true rfl, Nat.le_of_ble_eq_true rfl⟩ rfl rfl (Nat.le_of_ble_eq_true rfl) dX8_faultOf_14 rfl ?_
  refine tg_istore (lv2 := [(4, .int r6), (3, .int r4), (2, .int r2), (0, .ref (tg_ad x 0)), (1, .int v1)]) X dX8_faultOf_17 (by decide) rfl ?_
  refine tg_aload_n X dX8_faultOf_19 rfl 3 rfl ?_
  refine tg_iconst X dX8_faultOf_20 tk_i1 ?_
  obtain ⟨S7, r8, kS7, h⟩ := tg_bdE h
  refine tg_callV (As := [.int 1]) (rest := []) X 0 (cm_X8_readsCalls _ _ _ _ _ kS7) yy_X8_readsCalls wv_X8_readsCalls ws_X8_readsCalls wm_X8_132 rfl cl_X8.1 ⟨rfl, rfl, Nat.le_of_ble_eq_true rfl, Nat.le_of_ble_eq_true rfl⟩ rfl rfl (Nat.le_of_ble_eq_true rfl) dX8_faultOf_21 rfl ?_
  refine tg_istore (lv2 := [(5, .int r8), (4, .int r6), (3, .int r4), (2, .int r2), (0, .ref (tg_ad x 0)), (1, .int v1)]) X dX8_faultOf_24 (by decide) rfl ?_
  refine tg_iload_n X dX8_faultOf_26 rfl 5 rfl ?_
  refine tg_if_ne (tgt := 34) X dX8_faultOf_27 (by decide) (fun c9 => ?_) (fun c9 => ?_)
  · have h := tg_ifF c9 h
    refine tg_iload_n X dX8_faultOf_34 rfl 5 rfl ?_
    refine tg_iconst X dX8_faultOf_35 tk_i1 ?_
    refine tg_icmp_ne (tgt := 43) X dX8_faultOf_36 (by decide) (fun c10 => ?_) (fun c10 => ?_)
    · have h := tg_ifF c10 h
      refine tg_iload_n X dX8_faultOf_43 rfl 5 rfl ?_
      refine tg_iconst X dX8_faultOf_44 tk_i2 ?_
      refine tg_icmp_ne (tgt := 53) X dX8_faultOf_45 (by decide) (fun c11 => ?_) (fun c11 => ?_)
      · have h := tg_ifF c11 h
        refine tg_iload X dX8_faultOf_53 0 rfl ?_
        exact tg_iret X h rfl dX8_faultOf_55
      · have h := tg_ifT c11 h
        refine tg_iload X dX8_faultOf_48 1 rfl ?_
        refine tg_goto (tgt := 55) X dX8_faultOf_50 (by decide) ?_
        exact tg_iret X h rfl dX8_faultOf_55
    · have h := tg_ifT c10 h
      refine tg_iload_n X dX8_faultOf_39 rfl 2 rfl ?_
      refine tg_goto (tgt := 55) X dX8_faultOf_40 (by decide) ?_
      exact tg_iret X h rfl dX8_faultOf_55
  · have h := tg_ifT c9 h
    refine tg_iload_n X dX8_faultOf_30 rfl 3 rfl ?_
    refine tg_goto (tgt := 55) X dX8_faultOf_31 (by decide) ?_
    exact tg_iret X h rfl dX8_faultOf_55
theorem cm_X8_faultOf (l : Launch) (D : va_G) (cy : Bool → ClassId) (ad : Nat → Nat) (tS : Nat) {S Sf : tg_S} {v1 : Int32} {r : Int32} (h : f_X8_faultOf  S v1 = some (Sf, r)) : tg_Met l yX8_faultOf cX8_faultOf 6 (some .int) zr_X8_faultOf tauR D cy ad tS S [.ref (ad 0), .int v1] Sf (some (.int r)) := tg_mk (by decide +kernel) trivial (Nat.le_of_ble_eq_true rfl) (fun p e s m args below meth c Q A X => w_X8_faultOf_0 X S v1 h)
-- X8_reads
def zr_X8_reads : Room := { frames := 4, cells := 0, slots := 0, locals := 98 }
theorem dX8_reads_0 : decode cX8_reads 0 = .ok (.aload_n 0, 1) := by decide +kernel
theorem dX8_reads_1 : decode cX8_reads 1 = .ok (.iconst 0, 1) := by decide +kernel
theorem dX8_reads_2 : decode cX8_reads 2 = .ok (.invokevirtual 135, 3) := by decide +kernel
theorem dX8_reads_5 : decode cX8_reads 5 = .ok (.istore_n 1, 1) := by decide +kernel
theorem dX8_reads_6 : decode cX8_reads 6 = .ok (.return_, 1) := by decide +kernel
set_option maxRecDepth 20000 in
set_option maxHeartbeats 4000000 in
theorem w_X8_reads_0 {x : tg_X} {Sf : tg_S} (X : tg_M tauR x cX8_reads 2 RX8 zr_X8_reads none Sf none) (S : tg_S) (h : f_X8_reads  S  = some Sf) : tg_G tauR x S 0 [(0, .ref (tg_ad x 0))] [] := by
  unfold f_X8_reads at h
  refine tg_aload_n X dX8_reads_0 rfl 0 rfl ?_
  refine tg_iconst X dX8_reads_1 tk_i0 ?_
  obtain ⟨S1, r2, kS1, h⟩ := tg_bdE h
  refine tg_callV (As := [.int 0]) (rest := []) X 0 (cm_X8_faultOf _ _ _ _ _ kS1) yy_X8_faultOf wv_X8_faultOf ws_X8_faultOf wm_X8_135 rfl cl_X8.1 ⟨rfl, rfl, Nat.le_of_ble_eq_true rfl, Nat.le_of_ble_eq_true rfl⟩ rfl rfl (Nat.le_of_ble_eq_true rfl) dX8_reads_2 rfl ?_
  refine tg_istore_n (lv2 := [(1, .int r2), (0, .ref (tg_ad x 0))]) X dX8_reads_5 rfl (by decide) rfl ?_
  exact tg_vret X h dX8_reads_6
theorem cm_X8_reads (l : Launch) (D : va_G) (cy : Bool → ClassId) (ad : Nat → Nat) (tS : Nat) {S Sf : tg_S} (h : f_X8_reads  S  = some Sf) : tg_Met l yX8_reads cX8_reads 2 none zr_X8_reads tauR D cy ad tS S [.ref (ad 0)] Sf none := tg_mk (by decide +kernel) trivial (Nat.le_of_ble_eq_true rfl) (fun p e s m args below meth c Q A X => w_X8_reads_0 X S  h)
-- X8_fault
def zr_X8_fault : Room := { frames := 4, cells := 0, slots := 0, locals := 98 }
theorem dX8_fault_0 : decode cX8_fault 0 = .ok (.iload_n 1, 1) := by decide +kernel
theorem dX8_fault_1 : decode cX8_fault 1 = .ok (.invokestatic 113, 3) := by decide +kernel
theorem dX8_fault_4 : decode cX8_fault 4 = .ok (.ifCond .eq 11, 3) := by decide +kernel
theorem dX8_fault_7 : decode cX8_fault 7 = .ok (.aload_n 0, 1) := by decide +kernel
theorem dX8_fault_8 : decode cX8_fault 8 = .ok (.iload_n 1, 1) := by decide +kernel
theorem dX8_fault_9 : decode cX8_fault 9 = .ok (.invokevirtual 135, 3) := by decide +kernel
theorem dX8_fault_12 : decode cX8_fault 12 = .ok (.goto 5, 3) := by decide +kernel
theorem dX8_fault_15 : decode cX8_fault 15 = .ok (.bipush (-2), 2) := by decide +kernel
theorem dX8_fault_17 : decode cX8_fault 17 = .ok (.ireturn, 1) := by decide +kernel
set_option maxRecDepth 20000 in
set_option maxHeartbeats 4000000 in
theorem w_X8_fault_0 {x : tg_X} {Sf : tg_S} {r : Int32} (X : tg_M tauR x cX8_fault 2 RX8 zr_X8_fault (some .int) Sf (some (.int r))) (S : tg_S) (v1 : Int32) (h : f_X8_fault  S v1 = some (Sf, r)) : tg_G tauR x S 0 [(0, .ref (tg_ad x 0)), (1, .int v1)] [] := by
  unfold f_X8_fault at h
  refine tg_iload_n X dX8_fault_0 rfl 1 rfl ?_
  obtain ⟨S1, r2, kS1, h⟩ := tg_bdE h
  refine tg_callS (As := [.int v1]) (rest := []) X (cm_X8_isText _ _ _ _ _ kS1) yy_X8_isText wt_X8_isText wm_X8_113 ⟨rfl, rfl, Nat.le_of_ble_eq_true rfl, Nat.le_of_ble_eq_true rfl⟩ rfl rfl (Nat.le_of_ble_eq_true rfl) dX8_fault_1 rfl ?_
  refine tg_if_eq (tgt := 15) X dX8_fault_4 (by decide) (fun c3 => ?_) (fun c3 => ?_)
  · have h := tg_ifT c3 h
    refine tg_bipush X dX8_fault_15 tk_bm2 ?_
    exact tg_iret X h rfl dX8_fault_17
  · have h := tg_ifF c3 h
    refine tg_aload_n X dX8_fault_7 rfl 0 rfl ?_
    refine tg_iload_n X dX8_fault_8 rfl 1 rfl ?_
    obtain ⟨S4, r5, kS4, h⟩ := tg_bdE h
    refine tg_callV (As := [.int v1]) (rest := []) X 0 (cm_X8_faultOf _ _ _ _ _ kS4) yy_X8_faultOf wv_X8_faultOf ws_X8_faultOf wm_X8_135 rfl cl_X8.1 ⟨rfl, rfl, Nat.le_of_ble_eq_true rfl, Nat.le_of_ble_eq_true rfl⟩ rfl rfl (Nat.le_of_ble_eq_true rfl) dX8_fault_9 rfl ?_
    refine tg_goto (tgt := 17) X dX8_fault_12 (by decide) ?_
    exact tg_iret X h rfl dX8_fault_17
theorem cm_X8_fault (l : Launch) (D : va_G) (cy : Bool → ClassId) (ad : Nat → Nat) (tS : Nat) {S Sf : tg_S} {v1 : Int32} {r : Int32} (h : f_X8_fault  S v1 = some (Sf, r)) : tg_Met l yX8_fault cX8_fault 2 (some .int) zr_X8_fault tauR D cy ad tS S [.ref (ad 0), .int v1] Sf (some (.int r)) := tg_mk (by decide +kernel) trivial (Nat.le_of_ble_eq_true rfl) (fun p e s m args below meth c Q A X => w_X8_fault_0 X S v1 h)
-- X8_isThereOne
def zr_X8_isThereOne : Room := { frames := 1, cells := 0, slots := 0, locals := 22 }
theorem dX8_isThereOne_0 : decode cX8_isThereOne 0 = .ok (.iload_n 1, 1) := by decide +kernel
theorem dX8_isThereOne_1 : decode cX8_isThereOne 1 = .ok (.iconst 0, 1) := by decide +kernel
theorem dX8_isThereOne_2 : decode cX8_isThereOne 2 = .ok (.bipush 15, 2) := by decide +kernel
theorem dX8_isThereOne_4 : decode cX8_isThereOne 4 = .ok (.invokestatic 109, 3) := by decide +kernel
theorem dX8_isThereOne_7 : decode cX8_isThereOne 7 = .ok (.ifCond .eq 23, 3) := by decide +kernel
theorem dX8_isThereOne_10 : decode cX8_isThereOne 10 = .ok (.iload_n 1, 1) := by decide +kernel
theorem dX8_isThereOne_11 : decode cX8_isThereOne 11 = .ok (.bipush 8, 2) := by decide +kernel
theorem dX8_isThereOne_13 : decode cX8_isThereOne 13 = .ok (.irem, 1) := by decide +kernel
theorem dX8_isThereOne_14 : decode cX8_isThereOne 14 = .ok (.aload_n 0, 1) := by decide +kernel
theorem dX8_isThereOne_15 : decode cX8_isThereOne 15 = .ok (.getfield 16, 3) := by decide +kernel
theorem dX8_isThereOne_18 : decode cX8_isThereOne 18 = .ok (.iload_n 1, 1) := by decide +kernel
theorem dX8_isThereOne_19 : decode cX8_isThereOne 19 = .ok (.bipush 8, 2) := by decide +kernel
theorem dX8_isThereOne_21 : decode cX8_isThereOne 21 = .ok (.idiv, 1) := by decide +kernel
theorem dX8_isThereOne_22 : decode cX8_isThereOne 22 = .ok (.iaload, 1) := by decide +kernel
theorem dX8_isThereOne_23 : decode cX8_isThereOne 23 = .ok (.if_icmp .ge 7, 3) := by decide +kernel
theorem dX8_isThereOne_26 : decode cX8_isThereOne 26 = .ok (.iconst 1, 1) := by decide +kernel
theorem dX8_isThereOne_27 : decode cX8_isThereOne 27 = .ok (.goto 4, 3) := by decide +kernel
theorem dX8_isThereOne_30 : decode cX8_isThereOne 30 = .ok (.iconst 0, 1) := by decide +kernel
theorem dX8_isThereOne_31 : decode cX8_isThereOne 31 = .ok (.ireturn, 1) := by decide +kernel
set_option maxRecDepth 20000 in
set_option maxHeartbeats 4000000 in
theorem w_X8_isThereOne_0 {x : tg_X} {Sf : tg_S} {r : Int32} (X : tg_M tauR x cX8_isThereOne 2 RX8 zr_X8_isThereOne (some .boolean) Sf (some (.int r))) (S : tg_S) (v1 : Int32) (h : f_X8_isThereOne  S v1 = some (Sf, r)) : tg_G tauR x S 0 [(0, .ref (tg_ad x 0)), (1, .int v1)] [] := by
  unfold f_X8_isThereOne at h
  refine tg_iload_n X dX8_isThereOne_0 rfl 1 rfl ?_
  refine tg_iconst X dX8_isThereOne_1 tk_i0 ?_
  refine tg_bipush X dX8_isThereOne_2 tk_b15 ?_
  obtain ⟨S1, r2, kS1, h⟩ := tg_bdE h
  refine tg_callS (As := [.int v1, .int 0, .int 15]) (rest := []) X (cm_X8_in _ _ _ _ _ kS1) yy_X8_in wt_X8_in wm_X8_109 ⟨rfl, rfl, Nat.le_of_ble_eq_true rfl, Nat.le_of_ble_eq_true rfl⟩ rfl rfl (Nat.le_of_ble_eq_true rfl) dX8_isThereOne_4 rfl ?_
  refine tg_if_eq (tgt := 30) X dX8_isThereOne_7 (by decide) (fun c3 => ?_) (fun c3 => ?_)
  · have h := tg_ifT c3 h
    refine tg_iconst X dX8_isThereOne_30 tk_i0 ?_
    exact tg_iret X h rfl dX8_isThereOne_31
  · have h := tg_ifF c3 h
    refine tg_iload_n X dX8_isThereOne_10 rfl 1 rfl ?_
    refine tg_bipush X dX8_isThereOne_11 tk_b8 ?_
    refine tg_irem X dX8_isThereOne_13 (by decide) ?_
    refine tg_aload_n X dX8_isThereOne_14 rfl 0 rfl ?_
    refine tg_getr X 0 rfl cl_X8 2 (by decide) rfl wf_X8_16 dX8_isThereOne_15 ?_
    refine tg_iload_n X dX8_isThereOne_18 rfl 1 rfl ?_
    refine tg_bipush X dX8_isThereOne_19 tk_b8 ?_
    refine tg_idiv X dX8_isThereOne_21 (by decide) ?_
    obtain ⟨y4, ey4, by4, h⟩ := tg_rdE h
    refine tg_iald X 3 rfl ey4 by4 dX8_isThereOne_22 ?_
    refine tg_icmp_ge (tgt := 30) X dX8_isThereOne_23 (by decide) (fun c5 => ?_) (fun c5 => ?_)
    · have h := tg_ifT c5 h
      refine tg_iconst X dX8_isThereOne_30 tk_i0 ?_
      exact tg_iret X h rfl dX8_isThereOne_31
    · have h := tg_ifF c5 h
      refine tg_iconst X dX8_isThereOne_26 tk_i1 ?_
      refine tg_goto (tgt := 31) X dX8_isThereOne_27 (by decide) ?_
      exact tg_iret X h rfl dX8_isThereOne_31
theorem cm_X8_isThereOne (l : Launch) (D : va_G) (cy : Bool → ClassId) (ad : Nat → Nat) (tS : Nat) {S Sf : tg_S} {v1 : Int32} {r : Int32} (h : f_X8_isThereOne  S v1 = some (Sf, r)) : tg_Met l yX8_isThereOne cX8_isThereOne 2 (some .boolean) zr_X8_isThereOne tauR D cy ad tS S [.ref (ad 0), .int v1] Sf (some (.int r)) := tg_mk (by decide +kernel) trivial (Nat.le_of_ble_eq_true rfl) (fun p e s m args below meth c Q A X => w_X8_isThereOne_0 X S v1 h)
-- X8_isPuller
def zr_X8_isPuller : Room := { frames := 5, cells := 0, slots := 0, locals := 119 }
theorem dX8_isPuller_0 : decode cX8_isPuller 0 = .ok (.aload_n 0, 1) := by decide +kernel
theorem dX8_isPuller_1 : decode cX8_isPuller 1 = .ok (.invokevirtual 138, 3) := by decide +kernel
theorem dX8_isPuller_4 : decode cX8_isPuller 4 = .ok (.aload_n 0, 1) := by decide +kernel
theorem dX8_isPuller_5 : decode cX8_isPuller 5 = .ok (.iload_n 1, 1) := by decide +kernel
theorem dX8_isPuller_6 : decode cX8_isPuller 6 = .ok (.invokevirtual 141, 3) := by decide +kernel
theorem dX8_isPuller_9 : decode cX8_isPuller 9 = .ok (.ireturn, 1) := by decide +kernel
set_option maxRecDepth 20000 in
set_option maxHeartbeats 4000000 in
theorem w_X8_isPuller_0 {x : tg_X} {Sf : tg_S} {r : Int32} (X : tg_M tauR x cX8_isPuller 2 RX8 zr_X8_isPuller (some .boolean) Sf (some (.int r))) (S : tg_S) (v1 : Int32) (h : f_X8_isPuller  S v1 = some (Sf, r)) : tg_G tauR x S 0 [(0, .ref (tg_ad x 0)), (1, .int v1)] [] := by
  unfold f_X8_isPuller at h
  refine tg_aload_n X dX8_isPuller_0 rfl 0 rfl ?_
  obtain ⟨S1, kS1, h⟩ := tg_bvE h
  refine tg_callV (As := []) (rest := []) X 0 (cm_X8_reads _ _ _ _ _ kS1) yy_X8_reads wv_X8_reads ws_X8_reads wm_X8_138 rfl cl_X8.1 ⟨rfl, rfl, Nat.le_of_ble_eq_true rfl, Nat.le_of_ble_eq_true rfl⟩ rfl rfl (Nat.le_of_ble_eq_true rfl) dX8_isPuller_1 rfl ?_
  refine tg_aload_n X dX8_isPuller_4 rfl 0 rfl ?_
  refine tg_iload_n X dX8_isPuller_5 rfl 1 rfl ?_
  obtain ⟨S2, r3, kS2, h⟩ := tg_bdE h
  refine tg_callV (As := [.int v1]) (rest := []) X 0 (cm_X8_isThereOne _ _ _ _ _ kS2) yy_X8_isThereOne wv_X8_isThereOne ws_X8_isThereOne wm_X8_141 rfl cl_X8.1 ⟨rfl, rfl, Nat.le_of_ble_eq_true rfl, Nat.le_of_ble_eq_true rfl⟩ rfl rfl (Nat.le_of_ble_eq_true rfl) dX8_isPuller_6 rfl ?_
  obtain ⟨hz, h⟩ := tg_bzE h
  exact tg_iret X h hz dX8_isPuller_9
theorem cm_X8_isPuller (l : Launch) (D : va_G) (cy : Bool → ClassId) (ad : Nat → Nat) (tS : Nat) {S Sf : tg_S} {v1 : Int32} {r : Int32} (h : f_X8_isPuller  S v1 = some (Sf, r)) : tg_Met l yX8_isPuller cX8_isPuller 2 (some .boolean) zr_X8_isPuller tauR D cy ad tS S [.ref (ad 0), .int v1] Sf (some (.int r)) := tg_mk (by decide +kernel) trivial (Nat.le_of_ble_eq_true rfl) (fun p e s m args below meth c Q A X => w_X8_isPuller_0 X S v1 h)
-- X8_pullerOf
def zr_X8_pullerOf : Room := { frames := 0, cells := 0, slots := 0, locals := 0 }
theorem dX8_pullerOf_0 : decode cX8_pullerOf 0 = .ok (.iload_n 2, 1) := by decide +kernel
theorem dX8_pullerOf_1 : decode cX8_pullerOf 1 = .ok (.ifCond .ne 12, 3) := by decide +kernel
theorem dX8_pullerOf_4 : decode cX8_pullerOf 4 = .ok (.aload_n 0, 1) := by decide +kernel
theorem dX8_pullerOf_5 : decode cX8_pullerOf 5 = .ok (.getfield 19, 3) := by decide +kernel
theorem dX8_pullerOf_8 : decode cX8_pullerOf 8 = .ok (.iload_n 1, 1) := by decide +kernel
theorem dX8_pullerOf_9 : decode cX8_pullerOf 9 = .ok (.iaload, 1) := by decide +kernel
theorem dX8_pullerOf_10 : decode cX8_pullerOf 10 = .ok (.goto 23, 3) := by decide +kernel
theorem dX8_pullerOf_13 : decode cX8_pullerOf 13 = .ok (.iload_n 2, 1) := by decide +kernel
theorem dX8_pullerOf_14 : decode cX8_pullerOf 14 = .ok (.iconst 1, 1) := by decide +kernel
theorem dX8_pullerOf_15 : decode cX8_pullerOf 15 = .ok (.if_icmp .ne 12, 3) := by decide +kernel
theorem dX8_pullerOf_18 : decode cX8_pullerOf 18 = .ok (.aload_n 0, 1) := by decide +kernel
theorem dX8_pullerOf_19 : decode cX8_pullerOf 19 = .ok (.getfield 22, 3) := by decide +kernel
theorem dX8_pullerOf_22 : decode cX8_pullerOf 22 = .ok (.iload_n 1, 1) := by decide +kernel
theorem dX8_pullerOf_23 : decode cX8_pullerOf 23 = .ok (.iaload, 1) := by decide +kernel
theorem dX8_pullerOf_24 : decode cX8_pullerOf 24 = .ok (.goto 9, 3) := by decide +kernel
theorem dX8_pullerOf_27 : decode cX8_pullerOf 27 = .ok (.aload_n 0, 1) := by decide +kernel
theorem dX8_pullerOf_28 : decode cX8_pullerOf 28 = .ok (.getfield 25, 3) := by decide +kernel
theorem dX8_pullerOf_31 : decode cX8_pullerOf 31 = .ok (.iload_n 1, 1) := by decide +kernel
theorem dX8_pullerOf_32 : decode cX8_pullerOf 32 = .ok (.iaload, 1) := by decide +kernel
theorem dX8_pullerOf_33 : decode cX8_pullerOf 33 = .ok (.ireturn, 1) := by decide +kernel
set_option maxRecDepth 20000 in
set_option maxHeartbeats 4000000 in
theorem w_X8_pullerOf_0 {x : tg_X} {Sf : tg_S} {r : Int32} (X : tg_M tauR x cX8_pullerOf 3 RX8 zr_X8_pullerOf (some .int) Sf (some (.int r))) (S : tg_S) (v1 : Int32) (v2 : Int32) (h : f_X8_pullerOf  S v1 v2 = some (Sf, r)) : tg_G tauR x S 0 [(0, .ref (tg_ad x 0)), (1, .int v1), (2, .int v2)] [] := by
  unfold f_X8_pullerOf at h
  refine tg_iload_n X dX8_pullerOf_0 rfl 2 rfl ?_
  refine tg_if_ne (tgt := 13) X dX8_pullerOf_1 (by decide) (fun c1 => ?_) (fun c1 => ?_)
  · have h := tg_ifF c1 h
    refine tg_iload_n X dX8_pullerOf_13 rfl 2 rfl ?_
    refine tg_iconst X dX8_pullerOf_14 tk_i1 ?_
    refine tg_icmp_ne (tgt := 27) X dX8_pullerOf_15 (by decide) (fun c2 => ?_) (fun c2 => ?_)
    · have h := tg_ifF c2 h
      refine tg_aload_n X dX8_pullerOf_27 rfl 0 rfl ?_
      refine tg_getr X 0 rfl cl_X8 5 (by decide) rfl wf_X8_25 dX8_pullerOf_28 ?_
      refine tg_iload_n X dX8_pullerOf_31 rfl 1 rfl ?_
      obtain ⟨y3, ey3, by3, h⟩ := tg_rdE h
      refine tg_iald X 6 rfl ey3 by3 dX8_pullerOf_32 ?_
      exact tg_iret X h rfl dX8_pullerOf_33
    · have h := tg_ifT c2 h
      refine tg_aload_n X dX8_pullerOf_18 rfl 0 rfl ?_
      refine tg_getr X 0 rfl cl_X8 4 (by decide) rfl wf_X8_22 dX8_pullerOf_19 ?_
      refine tg_iload_n X dX8_pullerOf_22 rfl 1 rfl ?_
      obtain ⟨y4, ey4, by4, h⟩ := tg_rdE h
      refine tg_iald X 5 rfl ey4 by4 dX8_pullerOf_23 ?_
      refine tg_goto (tgt := 33) X dX8_pullerOf_24 (by decide) ?_
      exact tg_iret X h rfl dX8_pullerOf_33
  · have h := tg_ifT c1 h
    refine tg_aload_n X dX8_pullerOf_4 rfl 0 rfl ?_
    refine tg_getr X 0 rfl cl_X8 3 (by decide) rfl wf_X8_19 dX8_pullerOf_5 ?_
    refine tg_iload_n X dX8_pullerOf_8 rfl 1 rfl ?_
    obtain ⟨y5, ey5, by5, h⟩ := tg_rdE h
    refine tg_iald X 4 rfl ey5 by5 dX8_pullerOf_9 ?_
    refine tg_goto (tgt := 33) X dX8_pullerOf_10 (by decide) ?_
    exact tg_iret X h rfl dX8_pullerOf_33
theorem cm_X8_pullerOf (l : Launch) (D : va_G) (cy : Bool → ClassId) (ad : Nat → Nat) (tS : Nat) {S Sf : tg_S} {v1 : Int32} {v2 : Int32} {r : Int32} (h : f_X8_pullerOf  S v1 v2 = some (Sf, r)) : tg_Met l yX8_pullerOf cX8_pullerOf 3 (some .int) zr_X8_pullerOf tauR D cy ad tS S [.ref (ad 0), .int v1, .int v2] Sf (some (.int r)) := tg_mk (by decide +kernel) trivial (Nat.le_of_ble_eq_true rfl) (fun p e s m args below meth c Q A X => w_X8_pullerOf_0 X S v1 v2 h)
