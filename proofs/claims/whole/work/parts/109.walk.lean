-- X8_puller
def zr_X8_puller : Room := { frames := 6, cells := 0, slots := 0, locals := 140 }
theorem dX8_puller_0 : decode cX8_puller 0 = .ok (.aload_n 0, 1) := by decide +kernel
theorem dX8_puller_1 : decode cX8_puller 1 = .ok (.iload_n 1, 1) := by decide +kernel
theorem dX8_puller_2 : decode cX8_puller 2 = .ok (.invokevirtual 144, 3) := by decide +kernel
theorem dX8_puller_5 : decode cX8_puller 5 = .ok (.ifCond .eq 19, 3) := by decide +kernel
theorem dX8_puller_8 : decode cX8_puller 8 = .ok (.iload_n 2, 1) := by decide +kernel
theorem dX8_puller_9 : decode cX8_puller 9 = .ok (.invokestatic 147, 3) := by decide +kernel
theorem dX8_puller_12 : decode cX8_puller 12 = .ok (.ifCond .eq 12, 3) := by decide +kernel
theorem dX8_puller_15 : decode cX8_puller 15 = .ok (.aload_n 0, 1) := by decide +kernel
theorem dX8_puller_16 : decode cX8_puller 16 = .ok (.iload_n 1, 1) := by decide +kernel
theorem dX8_puller_17 : decode cX8_puller 17 = .ok (.iload_n 2, 1) := by decide +kernel
theorem dX8_puller_18 : decode cX8_puller 18 = .ok (.invokevirtual 150, 3) := by decide +kernel
theorem dX8_puller_21 : decode cX8_puller 21 = .ok (.goto 5, 3) := by decide +kernel
theorem dX8_puller_24 : decode cX8_puller 24 = .ok (.bipush (-2), 2) := by decide +kernel
theorem dX8_puller_26 : decode cX8_puller 26 = .ok (.ireturn, 1) := by decide +kernel
set_option maxRecDepth 20000 in
set_option maxHeartbeats 4000000 in
theorem w_X8_puller_0 {x : tg_X} {Sf : tg_S} {r : Int32} (X : tg_M tauR x cX8_puller 3 RX8 zr_X8_puller (some .int) Sf (some (.int r))) (S : tg_S) (v1 : Int32) (v2 : Int32) (h : f_X8_puller  S v1 v2 = some (Sf, r)) : tg_G tauR x S 0 [(0, .ref (tg_ad x 0)), (1, .int v1), (2, .int v2)] [] := by
  unfold f_X8_puller at h
  refine tg_aload_n X dX8_puller_0 rfl 0 rfl ?_
  refine tg_iload_n X dX8_puller_1 rfl 1 rfl ?_
  obtain ⟨S1, r2, kS1, h⟩ := tg_bdE h
  refine tg_callV (As := [.int v1]) (rest := []) X 0 (cm_X8_isPuller _ _ _ _ _ kS1) yy_X8_isPuller wv_X8_isPuller ws_X8_isPuller wm_X8_144 rfl cl_X8.1 ⟨rfl, rfl, Nat.le_of_ble_eq_true rfl, Nat.le_of_ble_eq_true rfl⟩ rfl rfl (Nat.le_of_ble_eq_true rfl) dX8_puller_2 rfl ?_
  refine tg_if_eq (tgt := 24) X dX8_puller_5 (by decide) (fun c3 => ?_) (fun c3 => ?_)
  · have h := tg_ifT c3 h
    refine tg_bipush X dX8_puller_24 tk_bm2 ?_
    exact tg_iret X h rfl dX8_puller_26
  · have h := tg_ifF c3 h
    refine tg_iload_n X dX8_puller_8 rfl 2 rfl ?_
    obtain ⟨S4, r5, kS4, h⟩ := tg_bdE h
    refine tg_callS (As := [.int v2]) (rest := []) X (cm_X8_isThree _ _ _ _ _ kS4) yy_X8_isThree wt_X8_isThree wm_X8_147 ⟨rfl, rfl, Nat.le_of_ble_eq_true rfl, Nat.le_of_ble_eq_true rfl⟩ rfl rfl (Nat.le_of_ble_eq_true rfl) dX8_puller_9 rfl ?_
    refine tg_if_eq (tgt := 24) X dX8_puller_12 (by decide) (fun c6 => ?_) (fun c6 => ?_)
    · have h := tg_ifT c6 h
      refine tg_bipush X dX8_puller_24 tk_bm2 ?_
      exact tg_iret X h rfl dX8_puller_26
    · have h := tg_ifF c6 h
      refine tg_aload_n X dX8_puller_15 rfl 0 rfl ?_
      refine tg_iload_n X dX8_puller_16 rfl 1 rfl ?_
      refine tg_iload_n X dX8_puller_17 rfl 2 rfl ?_
      obtain ⟨S7, r8, kS7, h⟩ := tg_bdE h
      refine tg_callV (As := [.int v1, .int v2]) (rest := []) X 0 (cm_X8_pullerOf _ _ _ _ _ kS7) yy_X8_pullerOf wv_X8_pullerOf ws_X8_pullerOf wm_X8_150 rfl cl_X8.1 ⟨rfl, rfl, Nat.le_of_ble_eq_true rfl, Nat.le_of_ble_eq_true rfl⟩ rfl rfl (Nat.le_of_ble_eq_true rfl) dX8_puller_18 rfl ?_
      refine tg_goto (tgt := 26) X dX8_puller_21 (by decide) ?_
      exact tg_iret X h rfl dX8_puller_26
theorem cm_X8_puller (l : Launch) (D : va_G) (cy : Bool → ClassId) (ad : Nat → Nat) (tS : Nat) {S Sf : tg_S} {v1 : Int32} {v2 : Int32} {r : Int32} (h : f_X8_puller  S v1 v2 = some (Sf, r)) : tg_Met l yX8_puller cX8_puller 3 (some .int) zr_X8_puller tauR D cy ad tS S [.ref (ad 0), .int v1, .int v2] Sf (some (.int r)) := tg_mk (by decide +kernel) trivial (Nat.le_of_ble_eq_true rfl) (fun p e s m args below meth c Q A X => w_X8_puller_0 X S v1 v2 h)
-- X8_callOf
def zr_X8_callOf : Room := { frames := 5, cells := 0, slots := 0, locals := 119 }
theorem dX8_callOf_0 : decode cX8_callOf 0 = .ok (.aload_n 0, 1) := by decide +kernel
theorem dX8_callOf_1 : decode cX8_callOf 1 = .ok (.invokevirtual 138, 3) := by decide +kernel
theorem dX8_callOf_4 : decode cX8_callOf 4 = .ok (.aload_n 0, 1) := by decide +kernel
theorem dX8_callOf_5 : decode cX8_callOf 5 = .ok (.getfield 31, 3) := by decide +kernel
theorem dX8_callOf_8 : decode cX8_callOf 8 = .ok (.bipush 24, 2) := by decide +kernel
theorem dX8_callOf_10 : decode cX8_callOf 10 = .ok (.iload_n 1, 1) := by decide +kernel
theorem dX8_callOf_11 : decode cX8_callOf 11 = .ok (.imul, 1) := by decide +kernel
theorem dX8_callOf_12 : decode cX8_callOf 12 = .ok (.iload_n 2, 1) := by decide +kernel
theorem dX8_callOf_13 : decode cX8_callOf 13 = .ok (.iadd, 1) := by decide +kernel
theorem dX8_callOf_14 : decode cX8_callOf 14 = .ok (.iaload, 1) := by decide +kernel
theorem dX8_callOf_15 : decode cX8_callOf 15 = .ok (.ireturn, 1) := by decide +kernel
set_option maxRecDepth 20000 in
set_option maxHeartbeats 4000000 in
theorem w_X8_callOf_0 {x : tg_X} {Sf : tg_S} {r : Int32} (X : tg_M tauR x cX8_callOf 3 RX8 zr_X8_callOf (some .int) Sf (some (.int r))) (S : tg_S) (v1 : Int32) (v2 : Int32) (h : f_X8_callOf  S v1 v2 = some (Sf, r)) : tg_G tauR x S 0 [(0, .ref (tg_ad x 0)), (1, .int v1), (2, .int v2)] [] := by
  unfold f_X8_callOf at h
  refine tg_aload_n X dX8_callOf_0 rfl 0 rfl ?_
  obtain ⟨S1, kS1, h⟩ := tg_bvE h
  refine tg_callV (As := []) (rest := []) X 0 (cm_X8_reads _ _ _ _ _ kS1) yy_X8_reads wv_X8_reads ws_X8_reads wm_X8_138 rfl cl_X8.1 ⟨rfl, rfl, Nat.le_of_ble_eq_true rfl, Nat.le_of_ble_eq_true rfl⟩ rfl rfl (Nat.le_of_ble_eq_true rfl) dX8_callOf_1 rfl ?_
  refine tg_aload_n X dX8_callOf_4 rfl 0 rfl ?_
  refine tg_getr X 0 rfl cl_X8 7 (by decide) rfl wf_X8_31 dX8_callOf_5 ?_
  refine tg_bipush X dX8_callOf_8 tk_b24 ?_
  refine tg_iload_n X dX8_callOf_10 rfl 1 rfl ?_
  refine tg_imul X dX8_callOf_11 ?_
  refine tg_iload_n X dX8_callOf_12 rfl 2 rfl ?_
  refine tg_iadd X dX8_callOf_13 ?_
  obtain ⟨y2, ey2, by2, h⟩ := tg_rdE h
  refine tg_iald X 8 rfl ey2 by2 dX8_callOf_14 ?_
  exact tg_iret X h rfl dX8_callOf_15
theorem cm_X8_callOf (l : Launch) (D : va_G) (cy : Bool → ClassId) (ad : Nat → Nat) (tS : Nat) {S Sf : tg_S} {v1 : Int32} {v2 : Int32} {r : Int32} (h : f_X8_callOf  S v1 v2 = some (Sf, r)) : tg_Met l yX8_callOf cX8_callOf 3 (some .int) zr_X8_callOf tauR D cy ad tS S [.ref (ad 0), .int v1, .int v2] Sf (some (.int r)) := tg_mk (by decide +kernel) trivial (Nat.le_of_ble_eq_true rfl) (fun p e s m args below meth c Q A X => w_X8_callOf_0 X S v1 v2 h)
-- X8_call
def zr_X8_call : Room := { frames := 6, cells := 0, slots := 0, locals := 141 }
theorem dX8_call_0 : decode cX8_call 0 = .ok (.iload_n 1, 1) := by decide +kernel
theorem dX8_call_1 : decode cX8_call 1 = .ok (.invokestatic 153, 3) := by decide +kernel
theorem dX8_call_4 : decode cX8_call 4 = .ok (.ifCond .eq 19, 3) := by decide +kernel
theorem dX8_call_7 : decode cX8_call 7 = .ok (.iload_n 2, 1) := by decide +kernel
theorem dX8_call_8 : decode cX8_call 8 = .ok (.invokestatic 156, 3) := by decide +kernel
theorem dX8_call_11 : decode cX8_call 11 = .ok (.ifCond .eq 12, 3) := by decide +kernel
theorem dX8_call_14 : decode cX8_call 14 = .ok (.aload_n 0, 1) := by decide +kernel
theorem dX8_call_15 : decode cX8_call 15 = .ok (.iload_n 1, 1) := by decide +kernel
theorem dX8_call_16 : decode cX8_call 16 = .ok (.iload_n 2, 1) := by decide +kernel
theorem dX8_call_17 : decode cX8_call 17 = .ok (.invokevirtual 159, 3) := by decide +kernel
theorem dX8_call_20 : decode cX8_call 20 = .ok (.goto 5, 3) := by decide +kernel
theorem dX8_call_23 : decode cX8_call 23 = .ok (.bipush (-2), 2) := by decide +kernel
theorem dX8_call_25 : decode cX8_call 25 = .ok (.ireturn, 1) := by decide +kernel
set_option maxRecDepth 20000 in
set_option maxHeartbeats 4000000 in
theorem w_X8_call_0 {x : tg_X} {Sf : tg_S} {r : Int32} (X : tg_M tauR x cX8_call 3 RX8 zr_X8_call (some .int) Sf (some (.int r))) (S : tg_S) (v1 : Int32) (v2 : Int32) (h : f_X8_call  S v1 v2 = some (Sf, r)) : tg_G tauR x S 0 [(0, .ref (tg_ad x 0)), (1, .int v1), (2, .int v2)] [] := by
  unfold f_X8_call at h
  refine tg_iload_n X dX8_call_0 rfl 1 rfl ?_
  obtain ⟨S1, r2, kS1, h⟩ := tg_bdE h
  refine tg_callS (As := [.int v1]) (rest := []) X (cm_X8_isTwo _ _ _ _ _ kS1) yy_X8_isTwo wt_X8_isTwo wm_X8_153 ⟨rfl, rfl, Nat.le_of_ble_eq_true rfl, Nat.le_of_ble_eq_true rfl⟩ rfl rfl (Nat.le_of_ble_eq_true rfl) dX8_call_1 rfl ?_
  refine tg_if_eq (tgt := 23) X dX8_call_4 (by decide) (fun c3 => ?_) (fun c3 => ?_)
  · have h := tg_ifT c3 h
    refine tg_bipush X dX8_call_23 tk_bm2 ?_
    exact tg_iret X h rfl dX8_call_25
  · have h := tg_ifF c3 h
    refine tg_iload_n X dX8_call_7 rfl 2 rfl ?_
    obtain ⟨S4, r5, kS4, h⟩ := tg_bdE h
    refine tg_callS (As := [.int v2]) (rest := []) X (cm_X8_isBeat _ _ _ _ _ kS4) yy_X8_isBeat wt_X8_isBeat wm_X8_156 ⟨rfl, rfl, Nat.le_of_ble_eq_true rfl, Nat.le_of_ble_eq_true rfl⟩ rfl rfl (Nat.le_of_ble_eq_true rfl) dX8_call_8 rfl ?_
    refine tg_if_eq (tgt := 23) X dX8_call_11 (by decide) (fun c6 => ?_) (fun c6 => ?_)
    · have h := tg_ifT c6 h
      refine tg_bipush X dX8_call_23 tk_bm2 ?_
      exact tg_iret X h rfl dX8_call_25
    · have h := tg_ifF c6 h
      refine tg_aload_n X dX8_call_14 rfl 0 rfl ?_
      refine tg_iload_n X dX8_call_15 rfl 1 rfl ?_
      refine tg_iload_n X dX8_call_16 rfl 2 rfl ?_
      obtain ⟨S7, r8, kS7, h⟩ := tg_bdE h
      refine tg_callV (As := [.int v1, .int v2]) (rest := []) X 0 (cm_X8_callOf _ _ _ _ _ kS7) yy_X8_callOf wv_X8_callOf ws_X8_callOf wm_X8_159 rfl cl_X8.1 ⟨rfl, rfl, Nat.le_of_ble_eq_true rfl, Nat.le_of_ble_eq_true rfl⟩ rfl rfl (Nat.le_of_ble_eq_true rfl) dX8_call_17 rfl ?_
      refine tg_goto (tgt := 25) X dX8_call_20 (by decide) ?_
      exact tg_iret X h rfl dX8_call_25
theorem cm_X8_call (l : Launch) (D : va_G) (cy : Bool → ClassId) (ad : Nat → Nat) (tS : Nat) {S Sf : tg_S} {v1 : Int32} {v2 : Int32} {r : Int32} (h : f_X8_call  S v1 v2 = some (Sf, r)) : tg_Met l yX8_call cX8_call 3 (some .int) zr_X8_call tauR D cy ad tS S [.ref (ad 0), .int v1, .int v2] Sf (some (.int r)) := tg_mk (by decide +kernel) trivial (Nat.le_of_ble_eq_true rfl) (fun p e s m args below meth c Q A X => w_X8_call_0 X S v1 v2 h)
-- X8_mud
def zr_X8_mud : Room := { frames := 1, cells := 0, slots := 0, locals := 22 }
theorem dX8_mud_0 : decode cX8_mud 0 = .ok (.iload_n 1, 1) := by decide +kernel
theorem dX8_mud_1 : decode cX8_mud 1 = .ok (.iconst 0, 1) := by decide +kernel
theorem dX8_mud_2 : decode cX8_mud 2 = .ok (.bipush 9, 2) := by decide +kernel
theorem dX8_mud_4 : decode cX8_mud 4 = .ok (.invokestatic 109, 3) := by decide +kernel
theorem dX8_mud_7 : decode cX8_mud 7 = .ok (.ifCond .ne 6, 3) := by decide +kernel
theorem dX8_mud_10 : decode cX8_mud 10 = .ok (.bipush (-2), 2) := by decide +kernel
theorem dX8_mud_12 : decode cX8_mud 12 = .ok (.ireturn, 1) := by decide +kernel
theorem dX8_mud_13 : decode cX8_mud 13 = .ok (.aload_n 0, 1) := by decide +kernel
theorem dX8_mud_14 : decode cX8_mud 14 = .ok (.getfield 162, 3) := by decide +kernel
theorem dX8_mud_17 : decode cX8_mud 17 = .ok (.istore_n 2, 1) := by decide +kernel
theorem dX8_mud_18 : decode cX8_mud 18 = .ok (.aload_n 0, 1) := by decide +kernel
theorem dX8_mud_19 : decode cX8_mud 19 = .ok (.iload_n 1, 1) := by decide +kernel
theorem dX8_mud_20 : decode cX8_mud 20 = .ok (.putfield 162, 3) := by decide +kernel
theorem dX8_mud_23 : decode cX8_mud 23 = .ok (.iload_n 2, 1) := by decide +kernel
theorem dX8_mud_24 : decode cX8_mud 24 = .ok (.ireturn, 1) := by decide +kernel
set_option maxRecDepth 20000 in
set_option maxHeartbeats 4000000 in
theorem w_X8_mud_0 {x : tg_X} {Sf : tg_S} {r : Int32} (X : tg_M tauR x cX8_mud 3 RX8 zr_X8_mud (some .int) Sf (some (.int r))) (S : tg_S) (v1 : Int32) (h : f_X8_mud  S v1 = some (Sf, r)) : tg_G tauR x S 0 [(0, .ref (tg_ad x 0)), (1, .int v1)] [] := by
  unfold f_X8_mud at h
  refine tg_iload_n X dX8_mud_0 rfl 1 rfl ?_
  refine tg_iconst X dX8_mud_1 tk_i0 ?_
  refine tg_bipush X dX8_mud_2 tk_b9 ?_
  obtain ⟨S1, r2, kS1, h⟩ := tg_bdE h
  refine tg_callS (As := [.int v1, .int 0, .int 9]) (rest := []) X (cm_X8_in _ _ _ _ _ kS1) yy_X8_in wt_X8_in wm_X8_109 ⟨rfl, rfl, Nat.le_of_ble_eq_true rfl, Nat.le_of_ble_eq_true rfl⟩ rfl rfl (Nat.le_of_ble_eq_true rfl) dX8_mud_4 rfl ?_
  refine tg_if_ne (tgt := 13) X dX8_mud_7 (by decide) (fun c3 => ?_) (fun c3 => ?_)
  · have h := tg_ifF c3 h
    refine tg_aload_n X dX8_mud_13 rfl 0 rfl ?_
    refine tg_geti X 0 rfl cl_X8 8 (by decide) rfl wf_X8_162 dX8_mud_14 ?_
    refine tg_topi (fun y4 ey4 => ?_)
    have h := tg_nmE ey4 h
    refine tg_istore_n (lv2 := [(2, .int y4), (0, .ref (tg_ad x 0)), (1, .int v1)]) X dX8_mud_17 rfl (by decide) rfl ?_
    refine tg_aload_n X dX8_mud_18 rfl 1 rfl ?_
    refine tg_iload_n X dX8_mud_19 rfl 2 rfl ?_
    obtain ⟨S5, eS5, h⟩ := tg_pfE h
    refine tg_puti X 0 rfl cl_X8 8 (by decide) rfl wf_X8_162 rfl rfl rfl dX8_mud_20 eS5 ?_
    refine tg_iload_n X dX8_mud_23 rfl 0 rfl ?_
    exact tg_iret X h rfl dX8_mud_24
  · have h := tg_ifT c3 h
    refine tg_bipush X dX8_mud_10 tk_bm2 ?_
    exact tg_iret X h rfl dX8_mud_12
theorem cm_X8_mud (l : Launch) (D : va_G) (cy : Bool → ClassId) (ad : Nat → Nat) (tS : Nat) {S Sf : tg_S} {v1 : Int32} {r : Int32} (h : f_X8_mud  S v1 = some (Sf, r)) : tg_Met l yX8_mud cX8_mud 3 (some .int) zr_X8_mud tauR D cy ad tS S [.ref (ad 0), .int v1] Sf (some (.int r)) := tg_mk (by decide +kernel) trivial (Nat.le_of_ble_eq_true rfl) (fun p e s m args below meth c Q A X => w_X8_mud_0 X S v1 h)
-- X8_event
def zr_X8_event : Room := { frames := 2, cells := 0, slots := 0, locals := 42 }
theorem dX8_event_0 : decode cX8_event 0 = .ok (.iload_n 1, 1) := by decide +kernel
theorem dX8_event_1 : decode cX8_event 1 = .ok (.invokestatic 147, 3) := by decide +kernel
theorem dX8_event_4 : decode cX8_event 4 = .ok (.ifCond .eq 20, 3) := by decide +kernel
theorem dX8_event_7 : decode cX8_event 7 = .ok (.iload_n 2, 1) := by decide +kernel
theorem dX8_event_8 : decode cX8_event 8 = .ok (.invokestatic 156, 3) := by decide +kernel
theorem dX8_event_11 : decode cX8_event 11 = .ok (.ifCond .eq 13, 3) := by decide +kernel
theorem dX8_event_14 : decode cX8_event 14 = .ok (.iload_n 3, 1) := by decide +kernel
theorem dX8_event_15 : decode cX8_event 15 = .ok (.iconst 0, 1) := by decide +kernel
theorem dX8_event_16 : decode cX8_event 16 = .ok (.bipush 15, 2) := by decide +kernel
theorem dX8_event_18 : decode cX8_event 18 = .ok (.invokestatic 109, 3) := by decide +kernel
theorem dX8_event_21 : decode cX8_event 21 = .ok (.ifCond .ne 6, 3) := by decide +kernel
theorem dX8_event_24 : decode cX8_event 24 = .ok (.bipush (-2), 2) := by decide +kernel
theorem dX8_event_26 : decode cX8_event 26 = .ok (.ireturn, 1) := by decide +kernel
theorem dX8_event_27 : decode cX8_event 27 = .ok (.aload_n 0, 1) := by decide +kernel
theorem dX8_event_28 : decode cX8_event 28 = .ok (.getfield 166, 3) := by decide +kernel
theorem dX8_event_31 : decode cX8_event 31 = .ok (.bipush 8, 2) := by decide +kernel
theorem dX8_event_33 : decode cX8_event 33 = .ok (.if_icmp .ne 6, 3) := by decide +kernel
theorem dX8_event_36 : decode cX8_event 36 = .ok (.bipush (-4), 2) := by decide +kernel
theorem dX8_event_38 : decode cX8_event 38 = .ok (.ireturn, 1) := by decide +kernel
theorem dX8_event_39 : decode cX8_event 39 = .ok (.aload_n 0, 1) := by decide +kernel
theorem dX8_event_40 : decode cX8_event 40 = .ok (.getfield 34, 3) := by decide +kernel
theorem dX8_event_43 : decode cX8_event 43 = .ok (.aload_n 0, 1) := by decide +kernel
theorem dX8_event_44 : decode cX8_event 44 = .ok (.getfield 166, 3) := by decide +kernel
theorem dX8_event_47 : decode cX8_event 47 = .ok (.iload_n 1, 1) := by decide +kernel
theorem dX8_event_48 : decode cX8_event 48 = .ok (.iastore, 1) := by decide +kernel
theorem dX8_event_49 : decode cX8_event 49 = .ok (.aload_n 0, 1) := by decide +kernel
theorem dX8_event_50 : decode cX8_event 50 = .ok (.getfield 37, 3) := by decide +kernel
theorem dX8_event_53 : decode cX8_event 53 = .ok (.aload_n 0, 1) := by decide +kernel
theorem dX8_event_54 : decode cX8_event 54 = .ok (.getfield 166, 3) := by decide +kernel
theorem dX8_event_57 : decode cX8_event 57 = .ok (.iload_n 2, 1) := by decide +kernel
theorem dX8_event_58 : decode cX8_event 58 = .ok (.iastore, 1) := by decide +kernel
theorem dX8_event_59 : decode cX8_event 59 = .ok (.aload_n 0, 1) := by decide +kernel
theorem dX8_event_60 : decode cX8_event 60 = .ok (.getfield 40, 3) := by decide +kernel
theorem dX8_event_63 : decode cX8_event 63 = .ok (.aload_n 0, 1) := by decide +kernel
theorem dX8_event_64 : decode cX8_event 64 = .ok (.getfield 166, 3) := by decide +kernel
theorem dX8_event_67 : decode cX8_event 67 = .ok (.iload_n 3, 1) := by decide +kernel
theorem dX8_event_68 : decode cX8_event 68 = .ok (.iastore, 1) := by decide +kernel
theorem dX8_event_69 : decode cX8_event 69 = .ok (.aload_n 0, 1) := by decide +kernel
theorem dX8_event_70 : decode cX8_event 70 = .ok (.dup, 1) := by decide +kernel
theorem dX8_event_71 : decode cX8_event 71 = .ok (.getfield 166, 3) := by decide +kernel
theorem dX8_event_74 : decode cX8_event 74 = .ok (.iconst 1, 1) := by decide +kernel
theorem dX8_event_75 : decode cX8_event 75 = .ok (.iadd, 1) := by decide +kernel
theorem dX8_event_76 : decode cX8_event 76 = .ok (.putfield 166, 3) := by decide +kernel
theorem dX8_event_79 : decode cX8_event 79 = .ok (.aload_n 0, 1) := by decide +kernel
theorem dX8_event_80 : decode cX8_event 80 = .ok (.getfield 166, 3) := by decide +kernel
theorem dX8_event_83 : decode cX8_event 83 = .ok (.ireturn, 1) := by decide +kernel
set_option maxRecDepth 20000 in
set_option maxHeartbeats 4000000 in
theorem w_X8_event_0 {x : tg_X} {Sf : tg_S} {r : Int32} (X : tg_M tauR x cX8_event 4 RX8 zr_X8_event (some .int) Sf (some (.int r))) (S : tg_S) (v1 : Int32) (v2 : Int32) (v3 : Int32) (h : f_X8_event  S v1 v2 v3 = some (Sf, r)) : tg_G tauR x S 0 [(0, .ref (tg_ad x 0)), (1, .int v1), (2, .int v2), (3, .int v3)] [] := by
  unfold f_X8_event at h
  refine tg_iload_n X dX8_event_0 rfl 1 rfl ?_
  obtain ⟨S1, r2, kS1, h⟩ := tg_bdE h
  refine tg_callS (As := [.int v1]) (rest := []) X (cm_X8_isThree _ _ _ _ _ kS1) yy_X8_isThree wt_X8_isThree wm_X8_147 ⟨rfl, rfl, Nat.le_of_ble_eq_true rfl, Nat.le_of_ble_eq_true rfl⟩ rfl rfl (Nat.le_of_ble_eq_true rfl) dX8_event_1 rfl ?_
  refine tg_if_eq (tgt := 24) X dX8_event_4 (by decide) (fun c3 => ?_) (fun c3 => ?_)
  · have h := tg_ifT c3 h
    refine tg_bipush X dX8_event_24 tk_bm2 ?_
    exact tg_iret X h rfl dX8_event_26
  · have h := tg_ifF c3 h
    refine tg_iload_n X dX8_event_7 rfl 2 rfl ?_
    obtain ⟨S4, r5, kS4, h⟩ := tg_bdE h
    refine tg_callS (As := [.int v2]) (rest := []) X (cm_X8_isBeat _ _ _ _ _ kS4) yy_X8_isBeat wt_X8_isBeat wm_X8_156 ⟨rfl, rfl, Nat.le_of_ble_eq_true rfl, Nat.le_of_ble_eq_true rfl⟩ rfl rfl (Nat.le_of_ble_eq_true rfl) dX8_event_8 rfl ?_
    refine tg_if_eq (tgt := 24) X dX8_event_11 (by decide) (fun c6 => ?_) (fun c6 => ?_)
    · have h := tg_ifT c6 h
      refine tg_bipush X dX8_event_24 tk_bm2 ?_
      exact tg_iret X h rfl dX8_event_26
    · have h := tg_ifF c6 h
      refine tg_iload_n X dX8_event_14 rfl 3 rfl ?_
      refine tg_iconst X dX8_event_15 tk_i0 ?_
      refine tg_bipush X dX8_event_16 tk_b15 ?_
      obtain ⟨S7, r8, kS7, h⟩ := tg_bdE h
      refine tg_callS (As := [.int v3, .int 0, .int 15]) (rest := []) X (cm_X8_in _ _ _ _ _ kS7) yy_X8_in wt_X8_in wm_X8_109 ⟨rfl, rfl, Nat.le_of_ble_eq_true rfl, Nat.le_of_ble_eq_true rfl⟩ rfl rfl (Nat.le_of_ble_eq_true rfl) dX8_event_18 rfl ?_
      refine tg_if_ne (tgt := 27) X dX8_event_21 (by decide) (fun c9 => ?_) (fun c9 => ?_)
      · have h := tg_ifF c9 h
        refine tg_aload_n X dX8_event_27 rfl 0 rfl ?_
        refine tg_geti X 0 rfl cl_X8 9 (by decide) rfl wf_X8_166 dX8_event_28 ?_
        refine tg_bipush X dX8_event_31 tk_b8 ?_
        refine tg_icmp_ne (tgt := 39) X dX8_event_33 (by decide) (fun c10 => ?_) (fun c10 => ?_)
        · have h := tg_ifF c10 h
          refine tg_aload_n X dX8_event_39 rfl 0 rfl ?_
          refine tg_getr X 0 rfl cl_X8 10 (by decide) rfl wf_X8_34 dX8_event_40 ?_
          refine tg_aload_n X dX8_event_43 rfl 0 rfl ?_
          refine tg_geti X 0 rfl cl_X8 9 (by decide) rfl wf_X8_166 dX8_event_44 ?_
          refine tg_iload_n X dX8_event_47 rfl 1 rfl ?_
          obtain ⟨S11, eS11, bS11, h⟩ := tg_wrE h
          refine tg_iast X 9 rfl bS11 dX8_event_48 eS11 ?_
          refine tg_aload_n X dX8_event_49 rfl 0 rfl ?_
          refine tg_getr X 0 rfl cl_X8 11 (by decide) rfl wf_X8_37 dX8_event_50 ?_
          refine tg_aload_n X dX8_event_53 rfl 0 rfl ?_
          refine tg_geti X 0 rfl cl_X8 9 (by decide) rfl wf_X8_166 dX8_event_54 ?_
          refine tg_iload_n X dX8_event_57 rfl 2 rfl ?_
          obtain ⟨S12, eS12, bS12, h⟩ := tg_wrE h
          refine tg_iast X 10 rfl bS12 dX8_event_58 eS12 ?_
          refine tg_aload_n X dX8_event_59 rfl 0 rfl ?_
          refine tg_getr X 0 rfl cl_X8 12 (by decide) rfl wf_X8_40 dX8_event_60 ?_
          refine tg_aload_n X dX8_event_63 rfl 0 rfl ?_
          refine tg_geti X 0 rfl cl_X8 9 (by decide) rfl wf_X8_166 dX8_event_64 ?_
          refine tg_iload_n X dX8_event_67 rfl 3 rfl ?_
          obtain ⟨S13, eS13, bS13, h⟩ := tg_wrE h
          refine tg_iast X 11 rfl bS13 dX8_event_68 eS13 ?_
          refine tg_aload_n X dX8_event_69 rfl 0 rfl ?_
          refine tg_dup X dX8_event_70 rfl ?_
          refine tg_geti X 0 rfl cl_X8 9 (by decide) rfl wf_X8_166 dX8_event_71 ?_
          refine tg_iconst X dX8_event_74 tk_i1 ?_
          refine tg_iadd X dX8_event_75 ?_
          obtain ⟨S14, eS14, h⟩ := tg_pfE h
          refine tg_puti X 0 rfl cl_X8 9 (by decide) rfl wf_X8_166 rfl rfl rfl dX8_event_76 eS14 ?_
          refine tg_aload_n X dX8_event_79 rfl 0 rfl ?_
          refine tg_geti X 0 rfl cl_X8 9 (by decide) rfl wf_X8_166 dX8_event_80 ?_
          exact tg_iret X h rfl dX8_event_83
        · have h := tg_ifT c10 h
          refine tg_bipush X dX8_event_36 tk_bm4 ?_
          exact tg_iret X h rfl dX8_event_38
      · have h := tg_ifT c9 h
        refine tg_bipush X dX8_event_24 tk_bm2 ?_
        exact tg_iret X h rfl dX8_event_26
theorem cm_X8_event (l : Launch) (D : va_G) (cy : Bool → ClassId) (ad : Nat → Nat) (tS : Nat) {S Sf : tg_S} {v1 : Int32} {v2 : Int32} {v3 : Int32} {r : Int32} (h : f_X8_event  S v1 v2 v3 = some (Sf, r)) : tg_Met l yX8_event cX8_event 4 (some .int) zr_X8_event tauR D cy ad tS S [.ref (ad 0), .int v1, .int v2, .int v3] Sf (some (.int r)) := tg_mk (by decide +kernel) trivial (Nat.le_of_ble_eq_true rfl) (fun p e s m args below meth c Q A X => w_X8_event_0 X S v1 v2 v3 h)
-- X8_back
def zr_X8_back : Room := { frames := 0, cells := 0, slots := 0, locals := 0 }
theorem dX8_back_0 : decode cX8_back 0 = .ok (.aload_n 0, 1) := by decide +kernel
theorem dX8_back_1 : decode cX8_back 1 = .ok (.getfield 166, 3) := by decide +kernel
theorem dX8_back_4 : decode cX8_back 4 = .ok (.ifCond .ne 6, 3) := by decide +kernel
theorem dX8_back_7 : decode cX8_back 7 = .ok (.bipush (-3), 2) := by decide +kernel
theorem dX8_back_9 : decode cX8_back 9 = .ok (.ireturn, 1) := by decide +kernel
theorem dX8_back_10 : decode cX8_back 10 = .ok (.aload_n 0, 1) := by decide +kernel
theorem dX8_back_11 : decode cX8_back 11 = .ok (.dup, 1) := by decide +kernel
theorem dX8_back_12 : decode cX8_back 12 = .ok (.getfield 166, 3) := by decide +kernel
theorem dX8_back_15 : decode cX8_back 15 = .ok (.iconst 1, 1) := by decide +kernel
theorem dX8_back_16 : decode cX8_back 16 = .ok (.isub, 1) := by decide +kernel
theorem dX8_back_17 : decode cX8_back 17 = .ok (.putfield 166, 3) := by decide +kernel
theorem dX8_back_20 : decode cX8_back 20 = .ok (.aload_n 0, 1) := by decide +kernel
theorem dX8_back_21 : decode cX8_back 21 = .ok (.getfield 166, 3) := by decide +kernel
theorem dX8_back_24 : decode cX8_back 24 = .ok (.ireturn, 1) := by decide +kernel
set_option maxRecDepth 20000 in
set_option maxHeartbeats 4000000 in
theorem w_X8_back_0 {x : tg_X} {Sf : tg_S} {r : Int32} (X : tg_M tauR x cX8_back 1 RX8 zr_X8_back (some .int) Sf (some (.int r))) (S : tg_S) (h : f_X8_back  S  = some (Sf, r)) : tg_G tauR x S 0 [(0, .ref (tg_ad x 0))] [] := by
  unfold f_X8_back at h
  refine tg_aload_n X dX8_back_0 rfl 0 rfl ?_
  refine tg_geti X 0 rfl cl_X8 9 (by decide) rfl wf_X8_166 dX8_back_1 ?_
  refine tg_if_ne (tgt := 10) X dX8_back_4 (by decide) (fun c1 => ?_) (fun c1 => ?_)
  · have h := tg_ifF c1 h
    refine tg_aload_n X dX8_back_10 rfl 0 rfl ?_
    refine tg_dup X dX8_back_11 rfl ?_
    refine tg_geti X 0 rfl cl_X8 9 (by decide) rfl wf_X8_166 dX8_back_12 ?_
    refine tg_iconst X dX8_back_15 tk_i1 ?_
    refine tg_isub X dX8_back_16 ?_
    obtain ⟨S2, eS2, h⟩ := tg_pfE h
    refine tg_puti X 0 rfl cl_X8 9 (by decide) rfl wf_X8_166 rfl rfl rfl dX8_back_17 eS2 ?_
    refine tg_aload_n X dX8_back_20 rfl 0 rfl ?_
    refine tg_geti X 0 rfl cl_X8 9 (by decide) rfl wf_X8_166 dX8_back_21 ?_
    exact tg_iret X h rfl dX8_back_24
  · have h := tg_ifT c1 h
    refine tg_bipush X dX8_back_7 tk_bm3 ?_
    exact tg_iret X h rfl dX8_back_9
theorem cm_X8_back (l : Launch) (D : va_G) (cy : Bool → ClassId) (ad : Nat → Nat) (tS : Nat) {S Sf : tg_S} {r : Int32} (h : f_X8_back  S  = some (Sf, r)) : tg_Met l yX8_back cX8_back 1 (some .int) zr_X8_back tauR D cy ad tS S [.ref (ad 0)] Sf (some (.int r)) := tg_mk (by decide +kernel) trivial (Nat.le_of_ble_eq_true rfl) (fun p e s m args below meth c Q A X => w_X8_back_0 X S  h)
-- X8_isSheet
def zr_X8_isSheet : Room := { frames := 1, cells := 0, slots := 0, locals := 22 }
theorem dX8_isSheet_0 : decode cX8_isSheet 0 = .ok (.iload_n 0, 1) := by decide +kernel
theorem dX8_isSheet_1 : decode cX8_isSheet 1 = .ok (.iconst 0, 1) := by decide +kernel
theorem dX8_isSheet_2 : decode cX8_isSheet 2 = .ok (.iconst 3, 1) := by decide +kernel
theorem dX8_isSheet_3 : decode cX8_isSheet 3 = .ok (.invokestatic 109, 3) := by decide +kernel
theorem dX8_isSheet_6 : decode cX8_isSheet 6 = .ok (.ireturn, 1) := by decide +kernel
set_option maxRecDepth 20000 in
set_option maxHeartbeats 4000000 in
theorem w_X8_isSheet_0 {x : tg_X} {Sf : tg_S} {r : Int32} (X : tg_M tauR x cX8_isSheet 1 RX8 zr_X8_isSheet (some .boolean) Sf (some (.int r))) (S : tg_S) (v0 : Int32) (h : f_X8_isSheet  S v0 = some (Sf, r)) : tg_G tauR x S 0 [(0, .int v0)] [] := by
  unfold f_X8_isSheet at h
  refine tg_iload_n X dX8_isSheet_0 rfl 0 rfl ?_
  refine tg_iconst X dX8_isSheet_1 tk_i0 ?_
  refine tg_iconst X dX8_isSheet_2 tk_i3 ?_
  obtain ⟨S1, r2, kS1, h⟩ := tg_bdE h
  refine tg_callS (As := [.int v0, .int 0, .int 3]) (rest := []) X (cm_X8_in _ _ _ _ _ kS1) yy_X8_in wt_X8_in wm_X8_109 ⟨rfl, rfl, Nat.le_of_ble_eq_true rfl, Nat.le_of_ble_eq_true rfl⟩ rfl rfl (Nat.le_of_ble_eq_true rfl) dX8_isSheet_3 rfl ?_
  obtain ⟨hz, h⟩ := tg_bzE h
  exact tg_iret X h hz dX8_isSheet_6
theorem cm_X8_isSheet (l : Launch) (D : va_G) (cy : Bool → ClassId) (ad : Nat → Nat) (tS : Nat) {S Sf : tg_S} {v0 : Int32} {r : Int32} (h : f_X8_isSheet  S v0 = some (Sf, r)) : tg_Met l yX8_isSheet cX8_isSheet 1 (some .boolean) zr_X8_isSheet tauR D cy ad tS S [.int v0] Sf (some (.int r)) := tg_mk (by decide +kernel) trivial (Nat.le_of_ble_eq_true rfl) (fun p e s m args below meth c Q A X => w_X8_isSheet_0 X S v0 h)
-- X8_meets
def zr_X8_meets : Room := { frames := 0, cells := 0, slots := 0, locals := 0 }
theorem dX8_meets_0 : decode cX8_meets 0 = .ok (.aload_n 0, 1) := by decide +kernel
theorem dX8_meets_1 : decode cX8_meets 1 = .ok (.iload_n 1, 1) := by decide +kernel
theorem dX8_meets_2 : decode cX8_meets 2 = .ok (.putfield 328, 3) := by decide +kernel
theorem dX8_meets_5 : decode cX8_meets 5 = .ok (.bipush (-10), 2) := by decide +kernel
theorem dX8_meets_7 : decode cX8_meets 7 = .ok (.iload_n 1, 1) := by decide +kernel
theorem dX8_meets_8 : decode cX8_meets 8 = .ok (.isub, 1) := by decide +kernel
theorem dX8_meets_9 : decode cX8_meets 9 = .ok (.ireturn, 1) := by decide +kernel
set_option maxRecDepth 20000 in
set_option maxHeartbeats 4000000 in
theorem w_X8_meets_0 {x : tg_X} {Sf : tg_S} {r : Int32} (X : tg_M tauR x cX8_meets 2 RX8 zr_X8_meets (some .int) Sf (some (.int r))) (S : tg_S) (v1 : Int32) (h : f_X8_meets  S v1 = some (Sf, r)) : tg_G tauR x S 0 [(0, .ref (tg_ad x 0)), (1, .int v1)] [] := by
  unfold f_X8_meets at h
  refine tg_aload_n X dX8_meets_0 rfl 0 rfl ?_
  refine tg_iload_n X dX8_meets_1 rfl 1 rfl ?_
  obtain ⟨S1, eS1, h⟩ := tg_pfE h
  refine tg_puti X 0 rfl cl_X8 46 (by decide) rfl wf_X8_328 rfl rfl rfl dX8_meets_2 eS1 ?_
  refine tg_bipush X dX8_meets_5 tk_bm10 ?_
  refine tg_iload_n X dX8_meets_7 rfl 1 rfl ?_
  refine tg_isub X dX8_meets_8 ?_
  exact tg_iret X h rfl dX8_meets_9
theorem cm_X8_meets (l : Launch) (D : va_G) (cy : Bool → ClassId) (ad : Nat → Nat) (tS : Nat) {S Sf : tg_S} {v1 : Int32} {r : Int32} (h : f_X8_meets  S v1 = some (Sf, r)) : tg_Met l yX8_meets cX8_meets 2 (some .int) zr_X8_meets tauR D cy ad tS S [.ref (ad 0), .int v1] Sf (some (.int r)) := tg_mk (by decide +kernel) trivial (Nat.le_of_ble_eq_true rfl) (fun p e s m args below meth c Q A X => w_X8_meets_0 X S v1 h)
-- X8_read
def zr_X8_read : Room := { frames := 3, cells := 0, slots := 0, locals := 65 }
theorem dX8_read_0 : decode cX8_read 0 = .ok (.iload_n 1, 1) := by decide +kernel
theorem dX8_read_1 : decode cX8_read 1 = .ok (.invokestatic 169, 3) := by decide +kernel
theorem dX8_read_4 : decode cX8_read 4 = .ok (.ifCond .ne 6, 3) := by decide +kernel
theorem dX8_read_7 : decode cX8_read 7 = .ok (.bipush (-2), 2) := by decide +kernel
theorem dX8_read_9 : decode cX8_read 9 = .ok (.ireturn, 1) := by decide +kernel
theorem dX8_read_10 : decode cX8_read 10 = .ok (.aload_n 0, 1) := by decide +kernel
theorem dX8_read_11 : decode cX8_read 11 = .ok (.getfield 91, 3) := by decide +kernel
theorem dX8_read_14 : decode cX8_read 14 = .ok (.iload_n 1, 1) := by decide +kernel
theorem dX8_read_15 : decode cX8_read 15 = .ok (.baload, 1) := by decide +kernel
theorem dX8_read_16 : decode cX8_read 16 = .ok (.ifCond .ne 9, 3) := by decide +kernel
theorem dX8_read_19 : decode cX8_read 19 = .ok (.aload_n 0, 1) := by decide +kernel
theorem dX8_read_20 : decode cX8_read 20 = .ok (.iconst 1, 1) := by decide +kernel
theorem dX8_read_21 : decode cX8_read 21 = .ok (.invokevirtual 172, 3) := by decide +kernel
theorem dX8_read_24 : decode cX8_read 24 = .ok (.ireturn, 1) := by decide +kernel
theorem dX8_read_25 : decode cX8_read 25 = .ok (.iconst 0, 1) := by decide +kernel
theorem dX8_read_26 : decode cX8_read 26 = .ok (.istore_n 2, 1) := by decide +kernel
theorem dX8_read_27 : decode cX8_read 27 = .ok (.bipush 60, 2) := by decide +kernel
theorem dX8_read_29 : decode cX8_read 29 = .ok (.iload_n 1, 1) := by decide +kernel
theorem dX8_read_30 : decode cX8_read 30 = .ok (.imul, 1) := by decide +kernel
theorem dX8_read_31 : decode cX8_read 31 = .ok (.istore_n 3, 1) := by decide +kernel
theorem dX8_read_32 : decode cX8_read 32 = .ok (.iconst 3, 1) := by decide +kernel
theorem dX8_read_33 : decode cX8_read 33 = .ok (.iload_n 2, 1) := by decide +kernel
theorem dX8_read_34 : decode cX8_read 34 = .ok (.imul, 1) := by decide +kernel
theorem dX8_read_35 : decode cX8_read 35 = .ok (.iconst 2, 1) := by decide +kernel
theorem dX8_read_36 : decode cX8_read 36 = .ok (.iadd, 1) := by decide +kernel
theorem dX8_read_37 : decode cX8_read 37 = .ok (.aload_n 0, 1) := by decide +kernel
theorem dX8_read_38 : decode cX8_read 38 = .ok (.getfield 98, 3) := by decide +kernel
theorem dX8_read_41 : decode cX8_read 41 = .ok (.iload_n 1, 1) := by decide +kernel
theorem dX8_read_42 : decode cX8_read 42 = .ok (.iaload, 1) := by decide +kernel
theorem dX8_read_43 : decode cX8_read 43 = .ok (.if_icmp .ge 50, 3) := by decide +kernel
theorem dX8_read_46 : decode cX8_read 46 = .ok (.aload_n 0, 1) := by decide +kernel
theorem dX8_read_47 : decode cX8_read 47 = .ok (.aload_n 0, 1) := by decide +kernel
theorem dX8_read_48 : decode cX8_read 48 = .ok (.getfield 101, 3) := by decide +kernel
theorem dX8_read_51 : decode cX8_read 51 = .ok (.iload_n 3, 1) := by decide +kernel
theorem dX8_read_52 : decode cX8_read 52 = .ok (.iconst 3, 1) := by decide +kernel
theorem dX8_read_53 : decode cX8_read 53 = .ok (.iload_n 2, 1) := by decide +kernel
theorem dX8_read_54 : decode cX8_read 54 = .ok (.imul, 1) := by decide +kernel
theorem dX8_read_55 : decode cX8_read 55 = .ok (.iadd, 1) := by decide +kernel
theorem dX8_read_56 : decode cX8_read 56 = .ok (.iaload, 1) := by decide +kernel
theorem dX8_read_57 : decode cX8_read 57 = .ok (.aload_n 0, 1) := by decide +kernel
theorem dX8_read_58 : decode cX8_read 58 = .ok (.getfield 101, 3) := by decide +kernel
theorem dX8_read_61 : decode cX8_read 61 = .ok (.iload_n 3, 1) := by decide +kernel
theorem dX8_read_62 : decode cX8_read 62 = .ok (.iconst 3, 1) := by decide +kernel
theorem dX8_read_63 : decode cX8_read 63 = .ok (.iload_n 2, 1) := by decide +kernel
theorem dX8_read_64 : decode cX8_read 64 = .ok (.imul, 1) := by decide +kernel
theorem dX8_read_65 : decode cX8_read 65 = .ok (.iadd, 1) := by decide +kernel
theorem dX8_read_66 : decode cX8_read 66 = .ok (.iconst 1, 1) := by decide +kernel
theorem dX8_read_67 : decode cX8_read 67 = .ok (.iadd, 1) := by decide +kernel
theorem dX8_read_68 : decode cX8_read 68 = .ok (.iaload, 1) := by decide +kernel
theorem dX8_read_69 : decode cX8_read 69 = .ok (.aload_n 0, 1) := by decide +kernel
theorem dX8_read_70 : decode cX8_read 70 = .ok (.getfield 101, 3) := by decide +kernel
theorem dX8_read_73 : decode cX8_read 73 = .ok (.iload_n 3, 1) := by decide +kernel
theorem dX8_read_74 : decode cX8_read 74 = .ok (.iconst 3, 1) := by decide +kernel
theorem dX8_read_75 : decode cX8_read 75 = .ok (.iload_n 2, 1) := by decide +kernel
theorem dX8_read_76 : decode cX8_read 76 = .ok (.imul, 1) := by decide +kernel
theorem dX8_read_77 : decode cX8_read 77 = .ok (.iadd, 1) := by decide +kernel
theorem dX8_read_78 : decode cX8_read 78 = .ok (.iconst 2, 1) := by decide +kernel
theorem dX8_read_79 : decode cX8_read 79 = .ok (.iadd, 1) := by decide +kernel
theorem dX8_read_80 : decode cX8_read 80 = .ok (.iaload, 1) := by decide +kernel
theorem dX8_read_81 : decode cX8_read 81 = .ok (.invokevirtual 175, 3) := by decide +kernel
theorem dX8_read_84 : decode cX8_read 84 = .ok (.ifCond .le 9, 3) := by decide +kernel
theorem dX8_read_87 : decode cX8_read 87 = .ok (.iinc 2 1, 3) := by decide +kernel
theorem dX8_read_90 : decode cX8_read 90 = .ok (.goto (-58), 3) := by decide +kernel
theorem dX8_read_93 : decode cX8_read 93 = .ok (.iload_n 2, 1) := by decide +kernel
theorem dX8_read_94 : decode cX8_read 94 = .ok (.ireturn, 1) := by decide +kernel
set_option maxRecDepth 20000 in
set_option maxHeartbeats 4000000 in
theorem w_X8_read_32 {x : tg_X} {Sf : tg_S} {r : Int32} {rec32 : tg_S → Int32 → Int32 → Int32 → Option (tg_S × Int32)} (X : tg_M tauR x cX8_read 4 RX8 zr_X8_read (some .int) Sf (some (.int r))) (hr32 : ∀ (S : tg_S) (v1 : Int32) (v2 : Int32) (v3 : Int32), rec32 S v1 v2 v3 = some (Sf, r) → tg_G tauR x S 32 [(0, .ref (tg_ad x 0)), (1, .int v1), (2, .int v2), (3, .int v3)] []) (S : tg_S) (v1 : Int32) (v2 : Int32) (v3 : Int32) (h : f_X8_read_32 rec32 S v1 v2 v3 = some (Sf, r)) : tg_G tauR x S 32 [(0, .ref (tg_ad x 0)), (1, .int v1), (2, .int v2), (3, .int v3)] [] := by
  unfold f_X8_read_32 at h
  refine tg_iconst X dX8_read_32 tk_i3 ?_
  refine tg_iload_n X dX8_read_33 rfl 2 rfl ?_
  refine tg_imul X dX8_read_34 ?_
  refine tg_iconst X dX8_read_35 tk_i2 ?_
  refine tg_iadd X dX8_read_36 ?_
  refine tg_aload_n X dX8_read_37 rfl 0 rfl ?_
  refine tg_getr X 0 rfl cl_X8 43 (by decide) rfl wf_X8_98 dX8_read_38 ?_
  refine tg_iload_n X dX8_read_41 rfl 1 rfl ?_
  obtain ⟨y1, ey1, by1, h⟩ := tg_rdE h
  refine tg_iald X 30 rfl ey1 by1 dX8_read_42 ?_
  refine tg_icmp_ge (tgt := 93) X dX8_read_43 (by decide) (fun c2 => ?_) (fun c2 => ?_)
  · have h := tg_ifT c2 h
    refine tg_iload_n X dX8_read_93 rfl 2 rfl ?_
    exact tg_iret X h rfl dX8_read_94
  · have h := tg_ifF c2 h
    refine tg_aload_n X dX8_read_46 rfl 0 rfl ?_
    refine tg_aload_n X dX8_read_47 rfl 0 rfl ?_
    refine tg_getr X 0 rfl cl_X8 44 (by decide) rfl wf_X8_101 dX8_read_48 ?_
    refine tg_iload_n X dX8_read_51 rfl 3 rfl ?_
    refine tg_iconst X dX8_read_52 tk_i3 ?_
    refine tg_iload_n X dX8_read_53 rfl 2 rfl ?_
    refine tg_imul X dX8_read_54 ?_
    refine tg_iadd X dX8_read_55 ?_
    obtain ⟨y3, ey3, by3, h⟩ := tg_rdE h
    refine tg_iald X 31 rfl ey3 by3 dX8_read_56 ?_
    refine tg_aload_n X dX8_read_57 rfl 0 rfl ?_
    refine tg_getr X 0 rfl cl_X8 44 (by decide) rfl wf_X8_101 dX8_read_58 ?_
    refine tg_iload_n X dX8_read_61 rfl 3 rfl ?_
    refine tg_iconst X dX8_read_62 tk_i3 ?_
    refine tg_iload_n X dX8_read_63 rfl 2 rfl ?_
    refine tg_imul X dX8_read_64 ?_
    refine tg_iadd X dX8_read_65 ?_
    refine tg_iconst X dX8_read_66 tk_i1 ?_
    refine tg_iadd X dX8_read_67 ?_
    obtain ⟨y4, ey4, by4, h⟩ := tg_rdE h
    refine tg_iald X 31 rfl ey4 by4 dX8_read_68 ?_
    refine tg_aload_n X dX8_read_69 rfl 0 rfl ?_
    refine tg_getr X 0 rfl cl_X8 44 (by decide) rfl wf_X8_101 dX8_read_70 ?_
    refine tg_iload_n X dX8_read_73 rfl 3 rfl ?_
    refine tg_iconst X dX8_read_74 tk_i3 ?_
    refine tg_iload_n X dX8_read_75 rfl 2 rfl ?_
    refine tg_imul X dX8_read_76 ?_
    refine tg_iadd X dX8_read_77 ?_
    refine tg_iconst X dX8_read_78 tk_i2 ?_
    refine tg_iadd X dX8_read_79 ?_
    obtain ⟨y5, ey5, by5, h⟩ := tg_rdE h
    refine tg_iald X 31 rfl ey5 by5 dX8_read_80 ?_
    obtain ⟨S6, r7, kS6, h⟩ := tg_bdE h
    refine tg_callV (As := [.int y3, .int y4, .int y5]) (rest := []) X 0 (cm_X8_event _ _ _ _ _ kS6) yy_X8_event wv_X8_event ws_X8_event wm_X8_175 rfl cl_X8.1 ⟨rfl, rfl, Nat.le_of_ble_eq_true rfl, Nat.le_of_ble_eq_true rfl⟩ rfl rfl (Nat.le_of_ble_eq_true rfl) dX8_read_81 rfl ?_
    refine tg_if_le (tgt := 93) X dX8_read_84 (by decide) (fun c8 => ?_) (fun c8 => ?_)
    · have h := tg_ifT c8 h
      refine tg_iload_n X dX8_read_93 rfl 2 rfl ?_
      exact tg_iret X h rfl dX8_read_94
    · have h := tg_ifF c8 h
      obtain ⟨y9, ey9⟩ : ∃ z : Int32, z = v2 + 1 := ⟨_, rfl⟩
      have h := tg_nmE ey9 h
      refine tg_iinc (lv2 := [(2, .int y9), (0, .ref (tg_ad x 0)), (1, .int v1), (3, .int v3)]) X dX8_read_87 2 rfl tk_i1 ey9 (by decide) rfl ?_
      refine tg_goto (tgt := 32) X dX8_read_90 (by decide) ?_
      refine tg_re [1, 2, 0, 3] rfl ?_
      exact hr32 S6 v1 y9 v3 h
theorem wl_X8_read_32 {x : tg_X} {Sf : tg_S} {r : Int32} (X : tg_M tauR x cX8_read 4 RX8 zr_X8_read (some .int) Sf (some (.int r))) : ∀ (n : Nat) (S : tg_S) (v1 : Int32) (v2 : Int32) (v3 : Int32) (h : L_X8_read_32  n S v1 v2 v3 = some (Sf, r)), tg_G tauR x S 32 [(0, .ref (tg_ad x 0)), (1, .int v1), (2, .int v2), (3, .int v3)] [] := by
  intro n
  induction n with
  | zero => intro S v1 v2 v3 h; cases h
  | succ n ih => intro S v1 v2 v3 h; exact w_X8_read_32 X  ih S v1 v2 v3 h
set_option maxRecDepth 20000 in
set_option maxHeartbeats 4000000 in
theorem w_X8_read_0 {x : tg_X} {Sf : tg_S} {r : Int32} (X : tg_M tauR x cX8_read 4 RX8 zr_X8_read (some .int) Sf (some (.int r))) (S : tg_S) (v1 : Int32) (h : f_X8_read  S v1 = some (Sf, r)) : tg_G tauR x S 0 [(0, .ref (tg_ad x 0)), (1, .int v1)] [] := by
  unfold f_X8_read at h
  refine tg_iload_n X dX8_read_0 rfl 1 rfl ?_
  obtain ⟨S1, r2, kS1, h⟩ := tg_bdE h
  refine tg_callS (As := [.int v1]) (rest := []) X (cm_X8_isSheet _ _ _ _ _ kS1) yy_X8_isSheet wt_X8_isSheet wm_X8_169 ⟨rfl, rfl, Nat.le_of_ble_eq_true rfl, Nat.le_of_ble_eq_true rfl⟩ rfl rfl (Nat.le_of_ble_eq_true rfl) dX8_read_1 rfl ?_
  refine tg_if_ne (tgt := 10) X dX8_read_4 (by decide) (fun c3 => ?_) (fun c3 => ?_)
  · have h := tg_ifF c3 h
    refine tg_aload_n X dX8_read_10 rfl 0 rfl ?_
    refine tg_getr X 0 rfl cl_X8 41 (by decide) rfl wf_X8_91 dX8_read_11 ?_
    refine tg_iload_n X dX8_read_14 rfl 1 rfl ?_
    obtain ⟨y4, ey4, by4, h⟩ := tg_rdE h
    refine tg_zald X 28 rfl ey4 by4 dX8_read_15 ?_
    refine tg_if_ne (tgt := 25) X dX8_read_16 (by decide) (fun c5 => ?_) (fun c5 => ?_)
    · have h := tg_ifF c5 h
      refine tg_iconst X dX8_read_25 tk_i0 ?_
      refine tg_istore_n (lv2 := [(2, .int 0), (0, .ref (tg_ad x 0)), (1, .int v1)]) X dX8_read_26 rfl (by decide) rfl ?_
      refine tg_bipush X dX8_read_27 tk_b60 ?_
      refine tg_iload_n X dX8_read_29 rfl 2 rfl ?_
      refine tg_imul X dX8_read_30 ?_
      refine tg_topi (fun y6 ey6 => ?_)
      have h := tg_nmE ey6 h
      refine tg_istore_n (lv2 := [(3, .int y6), (2, .int 0), (0, .ref (tg_ad x 0)), (1, .int v1)]) X dX8_read_31 rfl (by decide) rfl ?_
      refine tg_re [2, 3, 1, 0] rfl ?_
      exact wl_X8_read_32 X  tg_F S1 v1 0 y6 h
    · have h := tg_ifT c5 h
      refine tg_aload_n X dX8_read_19 rfl 0 rfl ?_
      refine tg_iconst X dX8_read_20 tk_i1 ?_
      obtain ⟨S7, r8, kS7, h⟩ := tg_bdE h
      refine tg_callV (As := [.int 1]) (rest := []) X 0 (cm_X8_meets _ _ _ _ _ kS7) yy_X8_meets wv_X8_meets ws_X8_meets wm_X8_172 rfl cl_X8.1 ⟨rfl, rfl, Nat.le_of_ble_eq_true rfl, Nat.le_of_ble_eq_true rfl⟩ rfl rfl (Nat.le_of_ble_eq_true rfl) dX8_read_21 rfl ?_
      exact tg_iret X h rfl dX8_read_24
  · have h := tg_ifT c3 h
    refine tg_bipush X dX8_read_7 tk_bm2 ?_
    exact tg_iret X h rfl dX8_read_9
theorem cm_X8_read (l : Launch) (D : va_G) (cy : Bool → ClassId) (ad : Nat → Nat) (tS : Nat) {S Sf : tg_S} {v1 : Int32} {r : Int32} (h : f_X8_read  S v1 = some (Sf, r)) : tg_Met l yX8_read cX8_read 4 (some .int) zr_X8_read tauR D cy ad tS S [.ref (ad 0), .int v1] Sf (some (.int r)) := tg_mk (by decide +kernel) trivial (Nat.le_of_ble_eq_true rfl) (fun p e s m args below meth c Q A X => w_X8_read_0 X S v1 h)
-- X8_asTold
def zr_X8_asTold : Room := { frames := 5, cells := 0, slots := 0, locals := 119 }
theorem dX8_asTold_0 : decode cX8_asTold 0 = .ok (.aload_n 0, 1) := by decide +kernel
theorem dX8_asTold_1 : decode cX8_asTold 1 = .ok (.invokevirtual 138, 3) := by decide +kernel
theorem dX8_asTold_4 : decode cX8_asTold 4 = .ok (.iconst 0, 1) := by decide +kernel
theorem dX8_asTold_5 : decode cX8_asTold 5 = .ok (.istore_n 1, 1) := by decide +kernel
theorem dX8_asTold_6 : decode cX8_asTold 6 = .ok (.iload_n 1, 1) := by decide +kernel
theorem dX8_asTold_7 : decode cX8_asTold 7 = .ok (.bipush 48, 2) := by decide +kernel
theorem dX8_asTold_9 : decode cX8_asTold 9 = .ok (.if_icmp .ge 21, 3) := by decide +kernel
theorem dX8_asTold_12 : decode cX8_asTold 12 = .ok (.aload_n 0, 1) := by decide +kernel
theorem dX8_asTold_13 : decode cX8_asTold 13 = .ok (.getfield 43, 3) := by decide +kernel
theorem dX8_asTold_16 : decode cX8_asTold 16 = .ok (.iload_n 1, 1) := by decide +kernel
theorem dX8_asTold_17 : decode cX8_asTold 17 = .ok (.aload_n 0, 1) := by decide +kernel
theorem dX8_asTold_18 : decode cX8_asTold 18 = .ok (.getfield 31, 3) := by decide +kernel
theorem dX8_asTold_21 : decode cX8_asTold 21 = .ok (.iload_n 1, 1) := by decide +kernel
theorem dX8_asTold_22 : decode cX8_asTold 22 = .ok (.iaload, 1) := by decide +kernel
theorem dX8_asTold_23 : decode cX8_asTold 23 = .ok (.iastore, 1) := by decide +kernel
theorem dX8_asTold_24 : decode cX8_asTold 24 = .ok (.iinc 1 1, 3) := by decide +kernel
theorem dX8_asTold_27 : decode cX8_asTold 27 = .ok (.goto (-21), 3) := by decide +kernel
theorem dX8_asTold_30 : decode cX8_asTold 30 = .ok (.aload_n 0, 1) := by decide +kernel
theorem dX8_asTold_31 : decode cX8_asTold 31 = .ok (.iconst 0, 1) := by decide +kernel
theorem dX8_asTold_32 : decode cX8_asTold 32 = .ok (.putfield 178, 3) := by decide +kernel
theorem dX8_asTold_35 : decode cX8_asTold 35 = .ok (.iconst 0, 1) := by decide +kernel
theorem dX8_asTold_36 : decode cX8_asTold 36 = .ok (.istore_n 1, 1) := by decide +kernel
theorem dX8_asTold_37 : decode cX8_asTold 37 = .ok (.iload_n 1, 1) := by decide +kernel
theorem dX8_asTold_38 : decode cX8_asTold 38 = .ok (.bipush 16, 2) := by decide +kernel
theorem dX8_asTold_40 : decode cX8_asTold 40 = .ok (.if_icmp .ge 19, 3) := by decide +kernel
theorem dX8_asTold_43 : decode cX8_asTold 43 = .ok (.aload_n 0, 1) := by decide +kernel
theorem dX8_asTold_44 : decode cX8_asTold 44 = .ok (.getfield 46, 3) := by decide +kernel
theorem dX8_asTold_47 : decode cX8_asTold 47 = .ok (.iload_n 1, 1) := by decide +kernel
theorem dX8_asTold_48 : decode cX8_asTold 48 = .ok (.iload_n 1, 1) := by decide +kernel
theorem dX8_asTold_49 : decode cX8_asTold 49 = .ok (.bipush 8, 2) := by decide +kernel
theorem dX8_asTold_51 : decode cX8_asTold 51 = .ok (.irem, 1) := by decide +kernel
theorem dX8_asTold_52 : decode cX8_asTold 52 = .ok (.iastore, 1) := by decide +kernel
theorem dX8_asTold_53 : decode cX8_asTold 53 = .ok (.iinc 1 1, 3) := by decide +kernel
theorem dX8_asTold_56 : decode cX8_asTold 56 = .ok (.goto (-19), 3) := by decide +kernel
theorem dX8_asTold_59 : decode cX8_asTold 59 = .ok (.aload_n 0, 1) := by decide +kernel
theorem dX8_asTold_60 : decode cX8_asTold 60 = .ok (.iconst (-1), 1) := by decide +kernel
theorem dX8_asTold_61 : decode cX8_asTold 61 = .ok (.putfield 181, 3) := by decide +kernel
theorem dX8_asTold_64 : decode cX8_asTold 64 = .ok (.return_, 1) := by decide +kernel
set_option maxRecDepth 20000 in
set_option maxHeartbeats 4000000 in
theorem w_X8_asTold_37 {x : tg_X} {Sf : tg_S} {rec37 : tg_S → Int32 → Option (tg_S)} (X : tg_M tauR x cX8_asTold 2 RX8 zr_X8_asTold none Sf none) (hr37 : ∀ (S : tg_S) (v1 : Int32), rec37 S v1 = some Sf → tg_G tauR x S 37 [(0, .ref (tg_ad x 0)), (1, .int v1)] []) (S : tg_S) (v1 : Int32) (h : f_X8_asTold_37 rec37 S v1 = some Sf) : tg_G tauR x S 37 [(0, .ref (tg_ad x 0)), (1, .int v1)] [] := by
  unfold f_X8_asTold_37 at h
  refine tg_iload_n X dX8_asTold_37 rfl 1 rfl ?_
  refine tg_bipush X dX8_asTold_38 tk_b16 ?_
  refine tg_icmp_ge (tgt := 59) X dX8_asTold_40 (by decide) (fun c1 => ?_) (fun c1 => ?_)
  · have h := tg_ifT c1 h
    refine tg_aload_n X dX8_asTold_59 rfl 0 rfl ?_
    refine tg_iconst X dX8_asTold_60 tk_im1 ?_
    obtain ⟨S2, eS2, h⟩ := tg_pfE h
    refine tg_puti X 0 rfl cl_X8 16 (by decide) rfl wf_X8_181 rfl rfl rfl dX8_asTold_61 eS2 ?_
    exact tg_vret X h dX8_asTold_64
  · have h := tg_ifF c1 h
    refine tg_aload_n X dX8_asTold_43 rfl 0 rfl ?_
    refine tg_getr X 0 rfl cl_X8 15 (by decide) rfl wf_X8_46 dX8_asTold_44 ?_
    refine tg_iload_n X dX8_asTold_47 rfl 1 rfl ?_
    refine tg_iload_n X dX8_asTold_48 rfl 1 rfl ?_
    refine tg_bipush X dX8_asTold_49 tk_b8 ?_
    refine tg_irem X dX8_asTold_51 (by decide) ?_
    obtain ⟨S3, eS3, bS3, h⟩ := tg_wrE h
    refine tg_iast X 13 rfl bS3 dX8_asTold_52 eS3 ?_
    obtain ⟨y4, ey4⟩ : ∃ z : Int32, z = v1 + 1 := ⟨_, rfl⟩
    have h := tg_nmE ey4 h
    refine tg_iinc (lv2 := [(1, .int y4), (0, .ref (tg_ad x 0))]) X dX8_asTold_53 1 rfl tk_i1 ey4 (by decide) rfl ?_
    refine tg_goto (tgt := 37) X dX8_asTold_56 (by decide) ?_
    refine tg_re [1, 0] rfl ?_
    exact hr37 S3 y4 h
theorem wl_X8_asTold_37 {x : tg_X} {Sf : tg_S} (X : tg_M tauR x cX8_asTold 2 RX8 zr_X8_asTold none Sf none) : ∀ (n : Nat) (S : tg_S) (v1 : Int32) (h : L_X8_asTold_37  n S v1 = some Sf), tg_G tauR x S 37 [(0, .ref (tg_ad x 0)), (1, .int v1)] [] := by
  intro n
  induction n with
  | zero => intro S v1 h; cases h
  | succ n ih => intro S v1 h; exact w_X8_asTold_37 X  ih S v1 h
set_option maxRecDepth 20000 in
set_option maxHeartbeats 4000000 in
theorem w_X8_asTold_6 {x : tg_X} {Sf : tg_S} {rec6 : tg_S → Int32 → Option (tg_S)} (X : tg_M tauR x cX8_asTold 2 RX8 zr_X8_asTold none Sf none) (hr6 : ∀ (S : tg_S) (v1 : Int32), rec6 S v1 = some Sf → tg_G tauR x S 6 [(0, .ref (tg_ad x 0)), (1, .int v1)] []) (S : tg_S) (v1 : Int32) (h : f_X8_asTold_6 rec6 S v1 = some Sf) : tg_G tauR x S 6 [(0, .ref (tg_ad x 0)), (1, .int v1)] [] := by
  unfold f_X8_asTold_6 at h
  refine tg_iload_n X dX8_asTold_6 rfl 1 rfl ?_
  refine tg_bipush X dX8_asTold_7 tk_b48 ?_
  refine tg_icmp_ge (tgt := 30) X dX8_asTold_9 (by decide) (fun c1 => ?_) (fun c1 => ?_)
  · have h := tg_ifT c1 h
    refine tg_aload_n X dX8_asTold_30 rfl 0 rfl ?_
    refine tg_iconst X dX8_asTold_31 tk_i0 ?_
    obtain ⟨S2, eS2, h⟩ := tg_pfE h
    refine tg_puti X 0 rfl cl_X8 14 (by decide) rfl wf_X8_178 rfl rfl rfl dX8_asTold_32 eS2 ?_
    refine tg_iconst X dX8_asTold_35 tk_i0 ?_
    refine tg_istore_n (lv2 := [(1, .int 0), (0, .ref (tg_ad x 0))]) X dX8_asTold_36 rfl (by decide) rfl ?_
    refine tg_re [1, 0] rfl ?_
    exact wl_X8_asTold_37 X  tg_F S2 0 h
  · have h := tg_ifF c1 h
    refine tg_aload_n X dX8_asTold_12 rfl 0 rfl ?_
    refine tg_getr X 0 rfl cl_X8 13 (by decide) rfl wf_X8_43 dX8_asTold_13 ?_
    refine tg_iload_n X dX8_asTold_16 rfl 1 rfl ?_
    refine tg_aload_n X dX8_asTold_17 rfl 0 rfl ?_
    refine tg_getr X 0 rfl cl_X8 7 (by decide) rfl wf_X8_31 dX8_asTold_18 ?_
    refine tg_iload_n X dX8_asTold_21 rfl 1 rfl ?_
    obtain ⟨y3, ey3, by3, h⟩ := tg_rdE h
    refine tg_iald X 8 rfl ey3 by3 dX8_asTold_22 ?_
    obtain ⟨S4, eS4, bS4, h⟩ := tg_wrE h
    refine tg_iast X 12 rfl bS4 dX8_asTold_23 eS4 ?_
    obtain ⟨y5, ey5⟩ : ∃ z : Int32, z = v1 + 1 := ⟨_, rfl⟩
    have h := tg_nmE ey5 h
    refine tg_iinc (lv2 := [(1, .int y5), (0, .ref (tg_ad x 0))]) X dX8_asTold_24 1 rfl tk_i1 ey5 (by decide) rfl ?_
    refine tg_goto (tgt := 6) X dX8_asTold_27 (by decide) ?_
    refine tg_re [1, 0] rfl ?_
    exact hr6 S4 y5 h
theorem wl_X8_asTold_6 {x : tg_X} {Sf : tg_S} (X : tg_M tauR x cX8_asTold 2 RX8 zr_X8_asTold none Sf none) : ∀ (n : Nat) (S : tg_S) (v1 : Int32) (h : L_X8_asTold_6  n S v1 = some Sf), tg_G tauR x S 6 [(0, .ref (tg_ad x 0)), (1, .int v1)] [] := by
  intro n
  induction n with
  | zero => intro S v1 h; cases h
  | succ n ih => intro S v1 h; exact w_X8_asTold_6 X  ih S v1 h
set_option maxRecDepth 20000 in
set_option maxHeartbeats 4000000 in
theorem w_X8_asTold_0 {x : tg_X} {Sf : tg_S} (X : tg_M tauR x cX8_asTold 2 RX8 zr_X8_asTold none Sf none) (S : tg_S) (h : f_X8_asTold  S  = some Sf) : tg_G tauR x S 0 [(0, .ref (tg_ad x 0))] [] := by
  unfold f_X8_asTold at h
  refine tg_aload_n X dX8_asTold_0 rfl 0 rfl ?_
  obtain ⟨S1, kS1, h⟩ := tg_bvE h
  refine tg_callV (As := []) (rest := []) X 0 (cm_X8_reads _ _ _ _ _ kS1) yy_X8_reads wv_X8_reads ws_X8_reads wm_X8_138 rfl cl_X8.1 ⟨rfl, rfl, Nat.le_of_ble_eq_true rfl, Nat.le_of_ble_eq_true rfl⟩ rfl rfl (Nat.le_of_ble_eq_true rfl) dX8_asTold_1 rfl ?_
  refine tg_iconst X dX8_asTold_4 tk_i0 ?_
  refine tg_istore_n (lv2 := [(1, .int 0), (0, .ref (tg_ad x 0))]) X dX8_asTold_5 rfl (by decide) rfl ?_
  refine tg_re [1, 0] rfl ?_
  exact wl_X8_asTold_6 X  tg_F S1 0 h
theorem cm_X8_asTold (l : Launch) (D : va_G) (cy : Bool → ClassId) (ad : Nat → Nat) (tS : Nat) {S Sf : tg_S} (h : f_X8_asTold  S  = some Sf) : tg_Met l yX8_asTold cX8_asTold 2 none zr_X8_asTold tauR D cy ad tS S [.ref (ad 0)] Sf none := tg_mk (by decide +kernel) trivial (Nat.le_of_ble_eq_true rfl) (fun p e s m args below meth c Q A X => w_X8_asTold_0 X S  h)
-- X8_isHere
def zr_X8_isHere : Room := { frames := 2, cells := 0, slots := 0, locals := 43 }
theorem dX8_isHere_0 : decode cX8_isHere 0 = .ok (.aload_n 0, 1) := by decide +kernel
theorem dX8_isHere_1 : decode cX8_isHere 1 = .ok (.iload_n 1, 1) := by decide +kernel
theorem dX8_isHere_2 : decode cX8_isHere 2 = .ok (.invokevirtual 141, 3) := by decide +kernel
theorem dX8_isHere_5 : decode cX8_isHere 5 = .ok (.ifCond .eq 15, 3) := by decide +kernel
theorem dX8_isHere_8 : decode cX8_isHere 8 = .ok (.iload_n 1, 1) := by decide +kernel
theorem dX8_isHere_9 : decode cX8_isHere 9 = .ok (.aload_n 0, 1) := by decide +kernel
theorem dX8_isHere_10 : decode cX8_isHere 10 = .ok (.getfield 181, 3) := by decide +kernel
theorem dX8_isHere_13 : decode cX8_isHere 13 = .ok (.if_icmp .eq 7, 3) := by decide +kernel
theorem dX8_isHere_16 : decode cX8_isHere 16 = .ok (.iconst 1, 1) := by decide +kernel
theorem dX8_isHere_17 : decode cX8_isHere 17 = .ok (.goto 4, 3) := by decide +kernel
theorem dX8_isHere_20 : decode cX8_isHere 20 = .ok (.iconst 0, 1) := by decide +kernel
theorem dX8_isHere_21 : decode cX8_isHere 21 = .ok (.ireturn, 1) := by decide +kernel
set_option maxRecDepth 20000 in
set_option maxHeartbeats 4000000 in
theorem w_X8_isHere_0 {x : tg_X} {Sf : tg_S} {r : Int32} (X : tg_M tauR x cX8_isHere 2 RX8 zr_X8_isHere (some .boolean) Sf (some (.int r))) (S : tg_S) (v1 : Int32) (h : f_X8_isHere  S v1 = some (Sf, r)) : tg_G tauR x S 0 [(0, .ref (tg_ad x 0)), (1, .int v1)] [] := by
  unfold f_X8_isHere at h
  refine tg_aload_n X dX8_isHere_0 rfl 0 rfl ?_
  refine tg_iload_n X dX8_isHere_1 rfl 1 rfl ?_
  obtain ⟨S1, r2, kS1, h⟩ := tg_bdE h
  refine tg_callV (As := [.int v1]) (rest := []) X 0 (cm_X8_isThereOne _ _ _ _ _ kS1) yy_X8_isThereOne wv_X8_isThereOne ws_X8_isThereOne wm_X8_141 rfl cl_X8.1 ⟨rfl, rfl, Nat.le_of_ble_eq_true rfl, Nat.le_of_ble_eq_true rfl⟩ rfl rfl (Nat.le_of_ble_eq_true rfl) dX8_isHere_2 rfl ?_
  refine tg_if_eq (tgt := 20) X dX8_isHere_5 (by decide) (fun c3 => ?_) (fun c3 => ?_)
  · have h := tg_ifT c3 h
    refine tg_iconst X dX8_isHere_20 tk_i0 ?_
    exact tg_iret X h rfl dX8_isHere_21
  · have h := tg_ifF c3 h
    refine tg_iload_n X dX8_isHere_8 rfl 1 rfl ?_
    refine tg_aload_n X dX8_isHere_9 rfl 0 rfl ?_
    refine tg_geti X 0 rfl cl_X8 16 (by decide) rfl wf_X8_181 dX8_isHere_10 ?_
    refine tg_icmp_eq (tgt := 20) X dX8_isHere_13 (by decide) (fun c4 => ?_) (fun c4 => ?_)
    · have h := tg_ifT c4 h
      refine tg_iconst X dX8_isHere_20 tk_i0 ?_
      exact tg_iret X h rfl dX8_isHere_21
    · have h := tg_ifF c4 h
      refine tg_iconst X dX8_isHere_16 tk_i1 ?_
      refine tg_goto (tgt := 21) X dX8_isHere_17 (by decide) ?_
      exact tg_iret X h rfl dX8_isHere_21
theorem cm_X8_isHere (l : Launch) (D : va_G) (cy : Bool → ClassId) (ad : Nat → Nat) (tS : Nat) {S Sf : tg_S} {v1 : Int32} {r : Int32} (h : f_X8_isHere  S v1 = some (Sf, r)) : tg_Met l yX8_isHere cX8_isHere 2 (some .boolean) zr_X8_isHere tauR D cy ad tS S [.ref (ad 0), .int v1] Sf (some (.int r)) := tg_mk (by decide +kernel) trivial (Nat.le_of_ble_eq_true rfl) (fun p e s m args below meth c Q A X => w_X8_isHere_0 X S v1 h)
-- X8_befalls
def zr_X8_befalls : Room := { frames := 1, cells := 0, slots := 0, locals := 21 }
theorem dX8_befalls_0 : decode cX8_befalls 0 = .ok (.aload_n 0, 1) := by decide +kernel
theorem dX8_befalls_1 : decode cX8_befalls 1 = .ok (.iconst 0, 1) := by decide +kernel
theorem dX8_befalls_2 : decode cX8_befalls 2 = .ok (.putfield 184, 3) := by decide +kernel
theorem dX8_befalls_5 : decode cX8_befalls 5 = .ok (.aload_n 0, 1) := by decide +kernel
theorem dX8_befalls_6 : decode cX8_befalls 6 = .ok (.iconst 0, 1) := by decide +kernel
theorem dX8_befalls_7 : decode cX8_befalls 7 = .ok (.putfield 187, 3) := by decide +kernel
theorem dX8_befalls_10 : decode cX8_befalls 10 = .ok (.iconst 0, 1) := by decide +kernel
theorem dX8_befalls_11 : decode cX8_befalls 11 = .ok (.istore_n 2, 1) := by decide +kernel
theorem dX8_befalls_12 : decode cX8_befalls 12 = .ok (.iload_n 2, 1) := by decide +kernel
theorem dX8_befalls_13 : decode cX8_befalls 13 = .ok (.aload_n 0, 1) := by decide +kernel
theorem dX8_befalls_14 : decode cX8_befalls 14 = .ok (.getfield 166, 3) := by decide +kernel
theorem dX8_befalls_17 : decode cX8_befalls 17 = .ok (.if_icmp .ge 115, 3) := by decide +kernel
theorem dX8_befalls_20 : decode cX8_befalls 20 = .ok (.aload_n 0, 1) := by decide +kernel
theorem dX8_befalls_21 : decode cX8_befalls 21 = .ok (.getfield 37, 3) := by decide +kernel
theorem dX8_befalls_24 : decode cX8_befalls 24 = .ok (.iload_n 2, 1) := by decide +kernel
theorem dX8_befalls_25 : decode cX8_befalls 25 = .ok (.iaload, 1) := by decide +kernel
theorem dX8_befalls_26 : decode cX8_befalls 26 = .ok (.iload_n 1, 1) := by decide +kernel
theorem dX8_befalls_27 : decode cX8_befalls 27 = .ok (.if_icmp .ne 99, 3) := by decide +kernel
theorem dX8_befalls_30 : decode cX8_befalls 30 = .ok (.aload_n 0, 1) := by decide +kernel
theorem dX8_befalls_31 : decode cX8_befalls 31 = .ok (.getfield 178, 3) := by decide +kernel
theorem dX8_befalls_34 : decode cX8_befalls 34 = .ok (.iload_n 2, 1) := by decide +kernel
theorem dX8_befalls_35 : decode cX8_befalls 35 = .ok (.invokestatic 190, 3) := by decide +kernel
theorem dX8_befalls_38 : decode cX8_befalls 38 = .ok (.ifCond .ne 88, 3) := by decide +kernel
theorem dX8_befalls_41 : decode cX8_befalls 41 = .ok (.aload_n 0, 1) := by decide +kernel
theorem dX8_befalls_42 : decode cX8_befalls 42 = .ok (.dup, 1) := by decide +kernel
theorem dX8_befalls_43 : decode cX8_befalls 43 = .ok (.getfield 187, 3) := by decide +kernel
theorem dX8_befalls_46 : decode cX8_befalls 46 = .ok (.aload_n 0, 1) := by decide +kernel
theorem dX8_befalls_47 : decode cX8_befalls 47 = .ok (.getfield 34, 3) := by decide +kernel
theorem dX8_befalls_50 : decode cX8_befalls 50 = .ok (.iload_n 2, 1) := by decide +kernel
theorem dX8_befalls_51 : decode cX8_befalls 51 = .ok (.iaload, 1) := by decide +kernel
theorem dX8_befalls_52 : decode cX8_befalls 52 = .ok (.ifCond .ne 14, 3) := by decide +kernel
theorem dX8_befalls_55 : decode cX8_befalls 55 = .ok (.iconst 1, 1) := by decide +kernel
theorem dX8_befalls_56 : decode cX8_befalls 56 = .ok (.aload_n 0, 1) := by decide +kernel
theorem dX8_befalls_57 : decode cX8_befalls 57 = .ok (.getfield 40, 3) := by decide +kernel
theorem dX8_befalls_60 : decode cX8_befalls 60 = .ok (.iload_n 2, 1) := by decide +kernel
theorem dX8_befalls_61 : decode cX8_befalls 61 = .ok (.iaload, 1) := by decide +kernel
theorem dX8_befalls_62 : decode cX8_befalls 62 = .ok (.ishl, 1) := by decide +kernel
theorem dX8_befalls_63 : decode cX8_befalls 63 = .ok (.goto 4, 3) := by decide +kernel
theorem dX8_befalls_66 : decode cX8_befalls 66 = .ok (.iconst 0, 1) := by decide +kernel
theorem dX8_befalls_67 : decode cX8_befalls 67 = .ok (.ior, 1) := by decide +kernel
theorem dX8_befalls_68 : decode cX8_befalls 68 = .ok (.putfield 187, 3) := by decide +kernel
theorem dX8_befalls_71 : decode cX8_befalls 71 = .ok (.aload_n 0, 1) := by decide +kernel
theorem dX8_befalls_72 : decode cX8_befalls 72 = .ok (.dup, 1) := by decide +kernel
theorem dX8_befalls_73 : decode cX8_befalls 73 = .ok (.getfield 194, 3) := by decide +kernel
theorem dX8_befalls_76 : decode cX8_befalls 76 = .ok (.aload_n 0, 1) := by decide +kernel
theorem dX8_befalls_77 : decode cX8_befalls 77 = .ok (.getfield 34, 3) := by decide +kernel
theorem dX8_befalls_80 : decode cX8_befalls 80 = .ok (.iload_n 2, 1) := by decide +kernel
theorem dX8_befalls_81 : decode cX8_befalls 81 = .ok (.iaload, 1) := by decide +kernel
theorem dX8_befalls_82 : decode cX8_befalls 82 = .ok (.iconst 1, 1) := by decide +kernel
theorem dX8_befalls_83 : decode cX8_befalls 83 = .ok (.if_icmp .ne 16, 3) := by decide +kernel
theorem dX8_befalls_86 : decode cX8_befalls 86 = .ok (.aload_n 0, 1) := by decide +kernel
theorem dX8_befalls_87 : decode cX8_befalls 87 = .ok (.getfield 194, 3) := by decide +kernel
theorem dX8_befalls_90 : decode cX8_befalls 90 = .ok (.bipush 9, 2) := by decide +kernel
theorem dX8_befalls_92 : decode cX8_befalls 92 = .ok (.if_icmp .ge 7, 3) := by decide +kernel
theorem dX8_befalls_95 : decode cX8_befalls 95 = .ok (.iconst 1, 1) := by decide +kernel
theorem dX8_befalls_96 : decode cX8_befalls 96 = .ok (.goto 4, 3) := by decide +kernel
theorem dX8_befalls_99 : decode cX8_befalls 99 = .ok (.iconst 0, 1) := by decide +kernel
theorem dX8_befalls_100 : decode cX8_befalls 100 = .ok (.iadd, 1) := by decide +kernel
theorem dX8_befalls_101 : decode cX8_befalls 101 = .ok (.putfield 194, 3) := by decide +kernel
theorem dX8_befalls_104 : decode cX8_befalls 104 = .ok (.aload_n 0, 1) := by decide +kernel
theorem dX8_befalls_105 : decode cX8_befalls 105 = .ok (.aload_n 0, 1) := by decide +kernel
theorem dX8_befalls_106 : decode cX8_befalls 106 = .ok (.getfield 34, 3) := by decide +kernel
theorem dX8_befalls_109 : decode cX8_befalls 109 = .ok (.iload_n 2, 1) := by decide +kernel
theorem dX8_befalls_110 : decode cX8_befalls 110 = .ok (.iaload, 1) := by decide +kernel
theorem dX8_befalls_111 : decode cX8_befalls 111 = .ok (.iconst 2, 1) := by decide +kernel
theorem dX8_befalls_112 : decode cX8_befalls 112 = .ok (.if_icmp .ne 7, 3) := by decide +kernel
theorem dX8_befalls_115 : decode cX8_befalls 115 = .ok (.iconst 1, 1) := by decide +kernel
theorem dX8_befalls_116 : decode cX8_befalls 116 = .ok (.goto 7, 3) := by decide +kernel
theorem dX8_befalls_119 : decode cX8_befalls 119 = .ok (.aload_n 0, 1) := by decide +kernel
theorem dX8_befalls_120 : decode cX8_befalls 120 = .ok (.getfield 184, 3) := by decide +kernel
theorem dX8_befalls_123 : decode cX8_befalls 123 = .ok (.putfield 184, 3) := by decide +kernel
theorem dX8_befalls_126 : decode cX8_befalls 126 = .ok (.iinc 2 1, 3) := by decide +kernel
theorem dX8_befalls_129 : decode cX8_befalls 129 = .ok (.goto (-117), 3) := by decide +kernel
theorem dX8_befalls_132 : decode cX8_befalls 132 = .ok (.return_, 1) := by decide +kernel
set_option maxRecDepth 20000 in
set_option maxHeartbeats 4000000 in
theorem w_X8_befalls_126 {x : tg_X} {Sf : tg_S} {rec12 : tg_S → Int32 → Int32 → Option (tg_S)} (X : tg_M tauR x cX8_befalls 3 RX8 zr_X8_befalls none Sf none) (hr12 : ∀ (S : tg_S) (v1 : Int32) (v2 : Int32), rec12 S v1 v2 = some Sf → tg_G tauR x S 12 [(0, .ref (tg_ad x 0)), (1, .int v1), (2, .int v2)] []) (S : tg_S) (v1 : Int32) (v2 : Int32) (h : f_X8_befalls_126 rec12 S v1 v2 = some Sf) : tg_G tauR x S 126 [(0, .ref (tg_ad x 0)), (1, .int v1), (2, .int v2)] [] := by
  unfold f_X8_befalls_126 at h
  obtain ⟨y1, ey1⟩ : ∃ z : Int32, z = v2 + 1 := ⟨_, rfl⟩
  have h := tg_nmE ey1 h
  refine tg_iinc (lv2 := [(2, .int y1), (0, .ref (tg_ad x 0)), (1, .int v1)]) X dX8_befalls_126 2 rfl tk_i1 ey1 (by decide) rfl ?_
  refine tg_goto (tgt := 12) X dX8_befalls_129 (by decide) ?_
  refine tg_re [1, 2, 0] rfl ?_
  exact hr12 S v1 y1 h
set_option maxRecDepth 20000 in
set_option maxHeartbeats 4000000 in
theorem w_X8_befalls_123 {x : tg_X} {Sf : tg_S} {rec12 : tg_S → Int32 → Int32 → Option (tg_S)} (X : tg_M tauR x cX8_befalls 3 RX8 zr_X8_befalls none Sf none) (hr12 : ∀ (S : tg_S) (v1 : Int32) (v2 : Int32), rec12 S v1 v2 = some Sf → tg_G tauR x S 12 [(0, .ref (tg_ad x 0)), (1, .int v1), (2, .int v2)] []) (S : tg_S) (v1 : Int32) (v2 : Int32) (s0 : Int32) (h : f_X8_befalls_123 rec12 S v1 v2 s0 = some Sf) : tg_G tauR x S 123 [(0, .ref (tg_ad x 0)), (1, .int v1), (2, .int v2)] [.int s0, .ref (tg_ad x 0)] := by
  unfold f_X8_befalls_123 at h
  obtain ⟨S1, eS1, h⟩ := tg_pfE h
  refine tg_puti X 0 rfl cl_X8 19 (by decide) rfl wf_X8_184 rfl rfl rfl dX8_befalls_123 eS1 ?_
  exact w_X8_befalls_126 X hr12 S1 v1 v2 h
set_option maxRecDepth 20000 in
set_option maxHeartbeats 4000000 in
theorem w_X8_befalls_100 {x : tg_X} {Sf : tg_S} {rec12 : tg_S → Int32 → Int32 → Option (tg_S)} (X : tg_M tauR x cX8_befalls 3 RX8 zr_X8_befalls none Sf none) (hr12 : ∀ (S : tg_S) (v1 : Int32) (v2 : Int32), rec12 S v1 v2 = some Sf → tg_G tauR x S 12 [(0, .ref (tg_ad x 0)), (1, .int v1), (2, .int v2)] []) (S : tg_S) (v1 : Int32) (v2 : Int32) (s0 : Int32) (s1 : Int32) (h : f_X8_befalls_100 rec12 S v1 v2 s0 s1 = some Sf) : tg_G tauR x S 100 [(0, .ref (tg_ad x 0)), (1, .int v1), (2, .int v2)] [.int s0, .int s1, .ref (tg_ad x 0)] := by
  unfold f_X8_befalls_100 at h
  refine tg_iadd X dX8_befalls_100 ?_
  obtain ⟨S1, eS1, h⟩ := tg_pfE h
  refine tg_puti X 0 rfl cl_X8 18 (by decide) rfl wf_X8_194 rfl rfl rfl dX8_befalls_101 eS1 ?_
  refine tg_aload_n X dX8_befalls_104 rfl 0 rfl ?_
  refine tg_aload_n X dX8_befalls_105 rfl 0 rfl ?_
  refine tg_getr X 0 rfl cl_X8 10 (by decide) rfl wf_X8_34 dX8_befalls_106 ?_
  refine tg_iload_n X dX8_befalls_109 rfl 2 rfl ?_
  obtain ⟨y2, ey2, by2, h⟩ := tg_rdE h
  refine tg_iald X 9 rfl ey2 by2 dX8_befalls_110 ?_
  refine tg_iconst X dX8_befalls_111 tk_i2 ?_
  refine tg_icmp_ne (tgt := 119) X dX8_befalls_112 (by decide) (fun c3 => ?_) (fun c3 => ?_)
  · rw [if_neg c3] at h
    refine tg_aload_n X dX8_befalls_119 rfl 0 rfl ?_
    refine tg_geti X 0 rfl cl_X8 19 (by decide) rfl wf_X8_184 dX8_befalls_120 ?_
    exact w_X8_befalls_123 X hr12 S1 v1 v2 (S1 0 19) h
  · rw [if_pos c3] at h
    refine tg_iconst X dX8_befalls_115 tk_i1 ?_
    refine tg_goto (tgt := 123) X dX8_befalls_116 (by decide) ?_
    exact w_X8_befalls_123 X hr12 S1 v1 v2 1 h
set_option maxRecDepth 20000 in
set_option maxHeartbeats 4000000 in
theorem w_X8_befalls_99 {x : tg_X} {Sf : tg_S} {rec12 : tg_S → Int32 → Int32 → Option (tg_S)} (X : tg_M tauR x cX8_befalls 3 RX8 zr_X8_befalls none Sf none) (hr12 : ∀ (S : tg_S) (v1 : Int32) (v2 : Int32), rec12 S v1 v2 = some Sf → tg_G tauR x S 12 [(0, .ref (tg_ad x 0)), (1, .int v1), (2, .int v2)] []) (S : tg_S) (v1 : Int32) (v2 : Int32) (s0 : Int32) (h : f_X8_befalls_99 rec12 S v1 v2 s0 = some Sf) : tg_G tauR x S 99 [(0, .ref (tg_ad x 0)), (1, .int v1), (2, .int v2)] [.int s0, .ref (tg_ad x 0)] := by
  unfold f_X8_befalls_99 at h
  refine tg_iconst X dX8_befalls_99 tk_i0 ?_
  exact w_X8_befalls_100 X hr12 S v1 v2 0 s0 h
set_option maxRecDepth 20000 in
set_option maxHeartbeats 4000000 in
theorem w_X8_befalls_67 {x : tg_X} {Sf : tg_S} {rec12 : tg_S → Int32 → Int32 → Option (tg_S)} (X : tg_M tauR x cX8_befalls 3 RX8 zr_X8_befalls none Sf none) (hr12 : ∀ (S : tg_S) (v1 : Int32) (v2 : Int32), rec12 S v1 v2 = some Sf → tg_G tauR x S 12 [(0, .ref (tg_ad x 0)), (1, .int v1), (2, .int v2)] []) (S : tg_S) (v1 : Int32) (v2 : Int32) (s0 : Int32) (s1 : Int32) (h : f_X8_befalls_67 rec12 S v1 v2 s0 s1 = some Sf) : tg_G tauR x S 67 [(0, .ref (tg_ad x 0)), (1, .int v1), (2, .int v2)] [.int s0, .int s1, .ref (tg_ad x 0)] := by
  unfold f_X8_befalls_67 at h
  refine tg_ior X dX8_befalls_67 ?_
  obtain ⟨S1, eS1, h⟩ := tg_pfE h
  refine tg_puti X 0 rfl cl_X8 20 (by decide) rfl wf_X8_187 rfl rfl rfl dX8_befalls_68 eS1 ?_
  refine tg_aload_n X dX8_befalls_71 rfl 0 rfl ?_
  refine tg_dup X dX8_befalls_72 rfl ?_
  refine tg_geti X 0 rfl cl_X8 18 (by decide) rfl wf_X8_194 dX8_befalls_73 ?_
  refine tg_aload_n X dX8_befalls_76 rfl 0 rfl ?_
  refine tg_getr X 0 rfl cl_X8 10 (by decide) rfl wf_X8_34 dX8_befalls_77 ?_
  refine tg_iload_n X dX8_befalls_80 rfl 2 rfl ?_
  obtain ⟨y2, ey2, by2, h⟩ := tg_rdE h
  refine tg_iald X 9 rfl ey2 by2 dX8_befalls_81 ?_
  refine tg_iconst X dX8_befalls_82 tk_i1 ?_
  refine tg_icmp_ne (tgt := 99) X dX8_befalls_83 (by decide) (fun c3 => ?_) (fun c3 => ?_)
  · have h := tg_ifF c3 h
    exact w_X8_befalls_99 X hr12 S1 v1 v2 (S1 0 18) h
  · have h := tg_ifT c3 h
    refine tg_aload_n X dX8_befalls_86 rfl 0 rfl ?_
    refine tg_geti X 0 rfl cl_X8 18 (by decide) rfl wf_X8_194 dX8_befalls_87 ?_
    refine tg_bipush X dX8_befalls_90 tk_b9 ?_
    refine tg_icmp_ge (tgt := 99) X dX8_befalls_92 (by decide) (fun c4 => ?_) (fun c4 => ?_)
    · have h := tg_ifT c4 h
      exact w_X8_befalls_99 X hr12 S1 v1 v2 (S1 0 18) h
    · have h := tg_ifF c4 h
      refine tg_iconst X dX8_befalls_95 tk_i1 ?_
      refine tg_goto (tgt := 100) X dX8_befalls_96 (by decide) ?_
      exact w_X8_befalls_100 X hr12 S1 v1 v2 1 (S1 0 18) h
set_option maxRecDepth 20000 in
set_option maxHeartbeats 4000000 in
theorem w_X8_befalls_12 {x : tg_X} {Sf : tg_S} {rec12 : tg_S → Int32 → Int32 → Option (tg_S)} (X : tg_M tauR x cX8_befalls 3 RX8 zr_X8_befalls none Sf none) (hr12 : ∀ (S : tg_S) (v1 : Int32) (v2 : Int32), rec12 S v1 v2 = some Sf → tg_G tauR x S 12 [(0, .ref (tg_ad x 0)), (1, .int v1), (2, .int v2)] []) (S : tg_S) (v1 : Int32) (v2 : Int32) (h : f_X8_befalls_12 rec12 S v1 v2 = some Sf) : tg_G tauR x S 12 [(0, .ref (tg_ad x 0)), (1, .int v1), (2, .int v2)] [] := by
  unfold f_X8_befalls_12 at h
  refine tg_iload_n X dX8_befalls_12 rfl 2 rfl ?_
  refine tg_aload_n X dX8_befalls_13 rfl 0 rfl ?_
  refine tg_geti X 0 rfl cl_X8 9 (by decide) rfl wf_X8_166 dX8_befalls_14 ?_
  refine tg_icmp_ge (tgt := 132) X dX8_befalls_17 (by decide) (fun c1 => ?_) (fun c1 => ?_)
  · have h := tg_ifT c1 h
    exact tg_vret X h dX8_befalls_132
  · have h := tg_ifF c1 h
    refine tg_aload_n X dX8_befalls_20 rfl 0 rfl ?_
    refine tg_getr X 0 rfl cl_X8 11 (by decide) rfl wf_X8_37 dX8_befalls_21 ?_
    refine tg_iload_n X dX8_befalls_24 rfl 2 rfl ?_
    obtain ⟨y2, ey2, by2, h⟩ := tg_rdE h
    refine tg_iald X 10 rfl ey2 by2 dX8_befalls_25 ?_
    refine tg_iload_n X dX8_befalls_26 rfl 1 rfl ?_
    refine tg_icmp_ne (tgt := 126) X dX8_befalls_27 (by decide) (fun c3 => ?_) (fun c3 => ?_)
    · have h := tg_ifF c3 h
      exact w_X8_befalls_126 X hr12 S v1 v2 h
    · have h := tg_ifT c3 h
      refine tg_aload_n X dX8_befalls_30 rfl 0 rfl ?_
      refine tg_geti X 0 rfl cl_X8 14 (by decide) rfl wf_X8_178 dX8_befalls_31 ?_
      refine tg_iload_n X dX8_befalls_34 rfl 2 rfl ?_
      obtain ⟨S4, r5, kS4, h⟩ := tg_bdE h
      refine tg_callS (As := [.int (S 0 14), .int v2]) (rest := []) X (cm_X8_isIn _ _ _ _ _ kS4) yy_X8_isIn wt_X8_isIn wm_X8_190 ⟨rfl, rfl, Nat.le_of_ble_eq_true rfl, Nat.le_of_ble_eq_true rfl⟩ rfl rfl (Nat.le_of_ble_eq_true rfl) dX8_befalls_35 rfl ?_
      refine tg_if_ne (tgt := 126) X dX8_befalls_38 (by decide) (fun c6 => ?_) (fun c6 => ?_)
      · have h := tg_ifF c6 h
        exact w_X8_befalls_126 X hr12 S4 v1 v2 h
      · have h := tg_ifT c6 h
        refine tg_aload_n X dX8_befalls_41 rfl 0 rfl ?_
        refine tg_dup X dX8_befalls_42 rfl ?_
        refine tg_geti X 0 rfl cl_X8 20 (by decide) rfl wf_X8_187 dX8_befalls_43 ?_
        refine tg_aload_n X dX8_befalls_46 rfl 0 rfl ?_
        refine tg_getr X 0 rfl cl_X8 10 (by decide) rfl wf_X8_34 dX8_befalls_47 ?_
        refine tg_iload_n X dX8_befalls_50 rfl 2 rfl ?_
        obtain ⟨y7, ey7, by7, h⟩ := tg_rdE h
        refine tg_iald X 9 rfl ey7 by7 dX8_befalls_51 ?_
        refine tg_if_ne (tgt := 66) X dX8_befalls_52 (by decide) (fun c8 => ?_) (fun c8 => ?_)
        · have h := tg_ifF c8 h
          refine tg_iconst X dX8_befalls_66 tk_i0 ?_
          exact w_X8_befalls_67 X hr12 S4 v1 v2 0 (S4 0 20) h
        · have h := tg_ifT c8 h
          refine tg_iconst X dX8_befalls_55 tk_i1 ?_
          refine tg_aload_n X dX8_befalls_56 rfl 0 rfl ?_
          refine tg_getr X 0 rfl cl_X8 12 (by decide) rfl wf_X8_40 dX8_befalls_57 ?_
          refine tg_iload_n X dX8_befalls_60 rfl 2 rfl ?_
          obtain ⟨y9, ey9, by9, h⟩ := tg_rdE h
          refine tg_iald X 11 rfl ey9 by9 dX8_befalls_61 ?_
          refine tg_ishl X dX8_befalls_62 ?_
          refine tg_goto (tgt := 67) X dX8_befalls_63 (by decide) ?_
          exact w_X8_befalls_67 X hr12 S4 v1 v2 (1 <<< (y9 &&& 31)) (S4 0 20) h
theorem wl_X8_befalls_12 {x : tg_X} {Sf : tg_S} (X : tg_M tauR x cX8_befalls 3 RX8 zr_X8_befalls none Sf none) : ∀ (n : Nat) (S : tg_S) (v1 : Int32) (v2 : Int32) (h : L_X8_befalls_12  n S v1 v2 = some Sf), tg_G tauR x S 12 [(0, .ref (tg_ad x 0)), (1, .int v1), (2, .int v2)] [] := by
  intro n
  induction n with
  | zero => intro S v1 v2 h; cases h
  | succ n ih => intro S v1 v2 h; exact w_X8_befalls_12 X  ih S v1 v2 h
set_option maxRecDepth 20000 in
set_option maxHeartbeats 4000000 in
theorem w_X8_befalls_0 {x : tg_X} {Sf : tg_S} (X : tg_M tauR x cX8_befalls 3 RX8 zr_X8_befalls none Sf none) (S : tg_S) (v1 : Int32) (h : f_X8_befalls  S v1 = some Sf) : tg_G tauR x S 0 [(0, .ref (tg_ad x 0)), (1, .int v1)] [] := by
  unfold f_X8_befalls at h
  refine tg_aload_n X dX8_befalls_0 rfl 0 rfl ?_
  refine tg_iconst X dX8_befalls_1 tk_i0 ?_
  obtain ⟨S1, eS1, h⟩ := tg_pfE h
  refine tg_puti X 0 rfl cl_X8 19 (by decide) rfl wf_X8_184 rfl rfl rfl dX8_befalls_2 eS1 ?_
  refine tg_aload_n X dX8_befalls_5 rfl 0 rfl ?_
  refine tg_iconst X dX8_befalls_6 tk_i0 ?_
  obtain ⟨S2, eS2, h⟩ := tg_pfE h
  refine tg_puti X 0 rfl cl_X8 20 (by decide) rfl wf_X8_187 rfl rfl rfl dX8_befalls_7 eS2 ?_
  refine tg_iconst X dX8_befalls_10 tk_i0 ?_
  refine tg_istore_n (lv2 := [(2, .int 0), (0, .ref (tg_ad x 0)), (1, .int v1)]) X dX8_befalls_11 rfl (by decide) rfl ?_
  refine tg_re [1, 2, 0] rfl ?_
  exact wl_X8_befalls_12 X  tg_F S2 v1 0 h
theorem cm_X8_befalls (l : Launch) (D : va_G) (cy : Bool → ClassId) (ad : Nat → Nat) (tS : Nat) {S Sf : tg_S} {v1 : Int32} (h : f_X8_befalls  S v1 = some Sf) : tg_Met l yX8_befalls cX8_befalls 3 none zr_X8_befalls tauR D cy ad tS S [.ref (ad 0), .int v1] Sf none := tg_mk (by decide +kernel) trivial (Nat.le_of_ble_eq_true rfl) (fun p e s m args below meth c Q A X => w_X8_befalls_0 X S v1 h)
-- X8_strength
def zr_X8_strength : Room := { frames := 0, cells := 0, slots := 0, locals := 0 }
theorem dX8_strength_0 : decode cX8_strength 0 = .ok (.aload_n 0, 1) := by decide +kernel
theorem dX8_strength_1 : decode cX8_strength 1 = .ok (.getfield 19, 3) := by decide +kernel
theorem dX8_strength_4 : decode cX8_strength 4 = .ok (.iload_n 1, 1) := by decide +kernel
theorem dX8_strength_5 : decode cX8_strength 5 = .ok (.iaload, 1) := by decide +kernel
theorem dX8_strength_6 : decode cX8_strength 6 = .ok (.iconst 2, 1) := by decide +kernel
theorem dX8_strength_7 : decode cX8_strength 7 = .ok (.if_icmp .ne 20, 3) := by decide +kernel
theorem dX8_strength_10 : decode cX8_strength 10 = .ok (.aload_n 0, 1) := by decide +kernel
theorem dX8_strength_11 : decode cX8_strength 11 = .ok (.getfield 49, 3) := by decide +kernel
theorem dX8_strength_14 : decode cX8_strength 14 = .ok (.iload_n 1, 1) := by decide +kernel
theorem dX8_strength_15 : decode cX8_strength 15 = .ok (.bipush 8, 2) := by decide +kernel
theorem dX8_strength_17 : decode cX8_strength 17 = .ok (.idiv, 1) := by decide +kernel
theorem dX8_strength_18 : decode cX8_strength 18 = .ok (.iaload, 1) := by decide +kernel
theorem dX8_strength_19 : decode cX8_strength 19 = .ok (.iload_n 1, 1) := by decide +kernel
theorem dX8_strength_20 : decode cX8_strength 20 = .ok (.if_icmp .ne 7, 3) := by decide +kernel
theorem dX8_strength_23 : decode cX8_strength 23 = .ok (.iconst 1, 1) := by decide +kernel
theorem dX8_strength_24 : decode cX8_strength 24 = .ok (.goto 4, 3) := by decide +kernel
theorem dX8_strength_27 : decode cX8_strength 27 = .ok (.iconst 0, 1) := by decide +kernel
theorem dX8_strength_28 : decode cX8_strength 28 = .ok (.istore_n 3, 1) := by decide +kernel
theorem dX8_strength_29 : decode cX8_strength 29 = .ok (.iload_n 2, 1) := by decide +kernel
theorem dX8_strength_30 : decode cX8_strength 30 = .ok (.ifCond .ne 85, 3) := by decide +kernel
theorem dX8_strength_33 : decode cX8_strength 33 = .ok (.iload_n 3, 1) := by decide +kernel
theorem dX8_strength_34 : decode cX8_strength 34 = .ok (.ifCond .eq 7, 3) := by decide +kernel
theorem dX8_strength_37 : decode cX8_strength 37 = .ok (.iconst 0, 1) := by decide +kernel
theorem dX8_strength_38 : decode cX8_strength 38 = .ok (.goto 18, 3) := by decide +kernel
theorem dX8_strength_41 : decode cX8_strength 41 = .ok (.aload_n 0, 1) := by decide +kernel
theorem dX8_strength_42 : decode cX8_strength 42 = .ok (.getfield 19, 3) := by decide +kernel
theorem dX8_strength_45 : decode cX8_strength 45 = .ok (.iload_n 1, 1) := by decide +kernel
theorem dX8_strength_46 : decode cX8_strength 46 = .ok (.iaload, 1) := by decide +kernel
theorem dX8_strength_47 : decode cX8_strength 47 = .ok (.iconst 1, 1) := by decide +kernel
theorem dX8_strength_48 : decode cX8_strength 48 = .ok (.if_icmp .ne 7, 3) := by decide +kernel
theorem dX8_strength_51 : decode cX8_strength 51 = .ok (.iconst 2, 1) := by decide +kernel
theorem dX8_strength_52 : decode cX8_strength 52 = .ok (.goto 4, 3) := by decide +kernel
theorem dX8_strength_55 : decode cX8_strength 55 = .ok (.iconst 1, 1) := by decide +kernel
theorem dX8_strength_56 : decode cX8_strength 56 = .ok (.istore 4, 2) := by decide +kernel
theorem dX8_strength_58 : decode cX8_strength 58 = .ok (.aload_n 0, 1) := by decide +kernel
theorem dX8_strength_59 : decode cX8_strength 59 = .ok (.getfield 52, 3) := by decide +kernel
theorem dX8_strength_62 : decode cX8_strength 62 = .ok (.iload_n 1, 1) := by decide +kernel
theorem dX8_strength_63 : decode cX8_strength 63 = .ok (.aload_n 0, 1) := by decide +kernel
theorem dX8_strength_64 : decode cX8_strength 64 = .ok (.getfield 52, 3) := by decide +kernel
theorem dX8_strength_67 : decode cX8_strength 67 = .ok (.iload_n 1, 1) := by decide +kernel
theorem dX8_strength_68 : decode cX8_strength 68 = .ok (.iaload, 1) := by decide +kernel
theorem dX8_strength_69 : decode cX8_strength 69 = .ok (.iload 4, 2) := by decide +kernel
theorem dX8_strength_71 : decode cX8_strength 71 = .ok (.iadd, 1) := by decide +kernel
theorem dX8_strength_72 : decode cX8_strength 72 = .ok (.aload_n 0, 1) := by decide +kernel
theorem dX8_strength_73 : decode cX8_strength 73 = .ok (.getfield 25, 3) := by decide +kernel
theorem dX8_strength_76 : decode cX8_strength 76 = .ok (.iload_n 1, 1) := by decide +kernel
theorem dX8_strength_77 : decode cX8_strength 77 = .ok (.iaload, 1) := by decide +kernel
theorem dX8_strength_78 : decode cX8_strength 78 = .ok (.if_icmp .le 12, 3) := by decide +kernel
theorem dX8_strength_81 : decode cX8_strength 81 = .ok (.aload_n 0, 1) := by decide +kernel
theorem dX8_strength_82 : decode cX8_strength 82 = .ok (.getfield 25, 3) := by decide +kernel
theorem dX8_strength_85 : decode cX8_strength 85 = .ok (.iload_n 1, 1) := by decide +kernel
theorem dX8_strength_86 : decode cX8_strength 86 = .ok (.iaload, 1) := by decide +kernel
theorem dX8_strength_87 : decode cX8_strength 87 = .ok (.goto 12, 3) := by decide +kernel
theorem dX8_strength_90 : decode cX8_strength 90 = .ok (.aload_n 0, 1) := by decide +kernel
theorem dX8_strength_91 : decode cX8_strength 91 = .ok (.getfield 52, 3) := by decide +kernel
theorem dX8_strength_94 : decode cX8_strength 94 = .ok (.iload_n 1, 1) := by decide +kernel
theorem dX8_strength_95 : decode cX8_strength 95 = .ok (.iaload, 1) := by decide +kernel
theorem dX8_strength_96 : decode cX8_strength 96 = .ok (.iload 4, 2) := by decide +kernel
theorem dX8_strength_98 : decode cX8_strength 98 = .ok (.iadd, 1) := by decide +kernel
theorem dX8_strength_99 : decode cX8_strength 99 = .ok (.iastore, 1) := by decide +kernel
theorem dX8_strength_100 : decode cX8_strength 100 = .ok (.iload_n 3, 1) := by decide +kernel
theorem dX8_strength_101 : decode cX8_strength 101 = .ok (.ifCond .eq 12, 3) := by decide +kernel
theorem dX8_strength_104 : decode cX8_strength 104 = .ok (.aload_n 0, 1) := by decide +kernel
theorem dX8_strength_105 : decode cX8_strength 105 = .ok (.getfield 22, 3) := by decide +kernel
theorem dX8_strength_108 : decode cX8_strength 108 = .ok (.iload_n 1, 1) := by decide +kernel
theorem dX8_strength_109 : decode cX8_strength 109 = .ok (.iaload, 1) := by decide +kernel
theorem dX8_strength_110 : decode cX8_strength 110 = .ok (.goto 4, 3) := by decide +kernel
theorem dX8_strength_113 : decode cX8_strength 113 = .ok (.iconst 0, 1) := by decide +kernel
theorem dX8_strength_114 : decode cX8_strength 114 = .ok (.ireturn, 1) := by decide +kernel
theorem dX8_strength_115 : decode cX8_strength 115 = .ok (.aload_n 0, 1) := by decide +kernel
theorem dX8_strength_116 : decode cX8_strength 116 = .ok (.getfield 19, 3) := by decide +kernel
theorem dX8_strength_119 : decode cX8_strength 119 = .ok (.iload_n 1, 1) := by decide +kernel
theorem dX8_strength_120 : decode cX8_strength 120 = .ok (.iaload, 1) := by decide +kernel
theorem dX8_strength_121 : decode cX8_strength 121 = .ok (.ifCond .ne 7, 3) := by decide +kernel
theorem dX8_strength_124 : decode cX8_strength 124 = .ok (.iconst 1, 1) := by decide +kernel
theorem dX8_strength_125 : decode cX8_strength 125 = .ok (.goto 4, 3) := by decide +kernel
theorem dX8_strength_128 : decode cX8_strength 128 = .ok (.iconst 2, 1) := by decide +kernel
theorem dX8_strength_129 : decode cX8_strength 129 = .ok (.istore 4, 2) := by decide +kernel
theorem dX8_strength_131 : decode cX8_strength 131 = .ok (.iload_n 2, 1) := by decide +kernel
theorem dX8_strength_132 : decode cX8_strength 132 = .ok (.iconst 2, 1) := by decide +kernel
theorem dX8_strength_133 : decode cX8_strength 133 = .ok (.if_icmp .ne 44, 3) := by decide +kernel
theorem dX8_strength_136 : decode cX8_strength 136 = .ok (.aload_n 0, 1) := by decide +kernel
theorem dX8_strength_137 : decode cX8_strength 137 = .ok (.getfield 52, 3) := by decide +kernel
theorem dX8_strength_140 : decode cX8_strength 140 = .ok (.iload_n 1, 1) := by decide +kernel
theorem dX8_strength_141 : decode cX8_strength 141 = .ok (.iaload, 1) := by decide +kernel
theorem dX8_strength_142 : decode cX8_strength 142 = .ok (.iload 4, 2) := by decide +kernel
theorem dX8_strength_144 : decode cX8_strength 144 = .ok (.if_icmp .lt 33, 3) := by decide +kernel
theorem dX8_strength_147 : decode cX8_strength 147 = .ok (.aload_n 0, 1) := by decide +kernel
theorem dX8_strength_148 : decode cX8_strength 148 = .ok (.getfield 52, 3) := by decide +kernel
theorem dX8_strength_151 : decode cX8_strength 151 = .ok (.iload_n 1, 1) := by decide +kernel
theorem dX8_strength_152 : decode cX8_strength 152 = .ok (.dup2, 1) := by decide +kernel
theorem dX8_strength_153 : decode cX8_strength 153 = .ok (.iaload, 1) := by decide +kernel
theorem dX8_strength_154 : decode cX8_strength 154 = .ok (.iload 4, 2) := by decide +kernel
theorem dX8_strength_156 : decode cX8_strength 156 = .ok (.isub, 1) := by decide +kernel
theorem dX8_strength_157 : decode cX8_strength 157 = .ok (.iastore, 1) := by decide +kernel
theorem dX8_strength_158 : decode cX8_strength 158 = .ok (.iconst 2, 1) := by decide +kernel
theorem dX8_strength_159 : decode cX8_strength 159 = .ok (.aload_n 0, 1) := by decide +kernel
theorem dX8_strength_160 : decode cX8_strength 160 = .ok (.getfield 22, 3) := by decide +kernel
theorem dX8_strength_163 : decode cX8_strength 163 = .ok (.iload_n 1, 1) := by decide +kernel
theorem dX8_strength_164 : decode cX8_strength 164 = .ok (.iaload, 1) := by decide +kernel
theorem dX8_strength_165 : decode cX8_strength 165 = .ok (.imul, 1) := by decide +kernel
theorem dX8_strength_166 : decode cX8_strength 166 = .ok (.iload_n 3, 1) := by decide +kernel
theorem dX8_strength_167 : decode cX8_strength 167 = .ok (.ifCond .eq 7, 3) := by decide +kernel
theorem dX8_strength_170 : decode cX8_strength 170 = .ok (.iconst 2, 1) := by decide +kernel
theorem dX8_strength_171 : decode cX8_strength 171 = .ok (.goto 4, 3) := by decide +kernel
theorem dX8_strength_174 : decode cX8_strength 174 = .ok (.iconst 0, 1) := by decide +kernel
theorem dX8_strength_175 : decode cX8_strength 175 = .ok (.iadd, 1) := by decide +kernel
theorem dX8_strength_176 : decode cX8_strength 176 = .ok (.ireturn, 1) := by decide +kernel
theorem dX8_strength_177 : decode cX8_strength 177 = .ok (.aload_n 0, 1) := by decide +kernel
theorem dX8_strength_178 : decode cX8_strength 178 = .ok (.getfield 52, 3) := by decide +kernel
theorem dX8_strength_181 : decode cX8_strength 181 = .ok (.iload_n 1, 1) := by decide +kernel
theorem dX8_strength_182 : decode cX8_strength 182 = .ok (.iaload, 1) := by decide +kernel
theorem dX8_strength_183 : decode cX8_strength 183 = .ok (.ifCond .ne 5, 3) := by decide +kernel
theorem dX8_strength_186 : decode cX8_strength 186 = .ok (.iconst 0, 1) := by decide +kernel
theorem dX8_strength_187 : decode cX8_strength 187 = .ok (.ireturn, 1) := by decide +kernel
theorem dX8_strength_188 : decode cX8_strength 188 = .ok (.aload_n 0, 1) := by decide +kernel
theorem dX8_strength_189 : decode cX8_strength 189 = .ok (.getfield 52, 3) := by decide +kernel
theorem dX8_strength_192 : decode cX8_strength 192 = .ok (.iload_n 1, 1) := by decide +kernel
theorem dX8_strength_193 : decode cX8_strength 193 = .ok (.dup2, 1) := by decide +kernel
theorem dX8_strength_194 : decode cX8_strength 194 = .ok (.iaload, 1) := by decide +kernel
theorem dX8_strength_195 : decode cX8_strength 195 = .ok (.iconst 1, 1) := by decide +kernel
theorem dX8_strength_196 : decode cX8_strength 196 = .ok (.isub, 1) := by decide +kernel
theorem dX8_strength_197 : decode cX8_strength 197 = .ok (.iastore, 1) := by decide +kernel
theorem dX8_strength_198 : decode cX8_strength 198 = .ok (.aload_n 0, 1) := by decide +kernel
theorem dX8_strength_199 : decode cX8_strength 199 = .ok (.getfield 22, 3) := by decide +kernel
theorem dX8_strength_202 : decode cX8_strength 202 = .ok (.iload_n 1, 1) := by decide +kernel
theorem dX8_strength_203 : decode cX8_strength 203 = .ok (.iaload, 1) := by decide +kernel
theorem dX8_strength_204 : decode cX8_strength 204 = .ok (.iload_n 3, 1) := by decide +kernel
theorem dX8_strength_205 : decode cX8_strength 205 = .ok (.ifCond .eq 7, 3) := by decide +kernel
theorem dX8_strength_208 : decode cX8_strength 208 = .ok (.iconst 2, 1) := by decide +kernel
theorem dX8_strength_209 : decode cX8_strength 209 = .ok (.goto 4, 3) := by decide +kernel
theorem dX8_strength_212 : decode cX8_strength 212 = .ok (.iconst 0, 1) := by decide +kernel
theorem dX8_strength_213 : decode cX8_strength 213 = .ok (.iadd, 1) := by decide +kernel
theorem dX8_strength_214 : decode cX8_strength 214 = .ok (.ireturn, 1) := by decide +kernel
set_option maxRecDepth 20000 in
set_option maxHeartbeats 4000000 in
theorem w_X8_strength_177 {x : tg_X} {Sf : tg_S} {r : Int32} (X : tg_M tauR x cX8_strength 5 RX8 zr_X8_strength (some .int) Sf (some (.int r))) (S : tg_S) (v1 : Int32) (v3 : Int32) (h : f_X8_strength_177  S v1 v3 = some (Sf, r)) : tg_G tauR x S 177 [(0, .ref (tg_ad x 0)), (1, .int v1), (3, .int v3)] [] := by
  unfold f_X8_strength_177 at h
  refine tg_aload_n X dX8_strength_177 rfl 0 rfl ?_
  refine tg_getr X 0 rfl cl_X8 25 (by decide) rfl wf_X8_52 dX8_strength_178 ?_
  refine tg_iload_n X dX8_strength_181 rfl 1 rfl ?_
  obtain ⟨y1, ey1, by1, h⟩ := tg_rdE h
  refine tg_iald X 15 rfl ey1 by1 dX8_strength_182 ?_
  refine tg_if_ne (tgt := 188) X dX8_strength_183 (by decide) (fun c2 => ?_) (fun c2 => ?_)
  · have h := tg_ifF c2 h
    refine tg_aload_n X dX8_strength_188 rfl 0 rfl ?_
    refine tg_getr X 0 rfl cl_X8 25 (by decide) rfl wf_X8_52 dX8_strength_189 ?_
    refine tg_iload_n X dX8_strength_192 rfl 1 rfl ?_
    refine tg_dup2 X dX8_strength_193 rfl rfl ?_
    obtain ⟨y3, ey3, by3, h⟩ := tg_rdE h
    refine tg_iald X 15 rfl ey3 by3 dX8_strength_194 ?_
    refine tg_iconst X dX8_strength_195 tk_i1 ?_
    refine tg_isub X dX8_strength_196 ?_
    obtain ⟨S4, eS4, bS4, h⟩ := tg_wrE h
    refine tg_iast X 15 rfl bS4 dX8_strength_197 eS4 ?_
    refine tg_aload_n X dX8_strength_198 rfl 0 rfl ?_
    refine tg_getr X 0 rfl cl_X8 4 (by decide) rfl wf_X8_22 dX8_strength_199 ?_
    refine tg_iload_n X dX8_strength_202 rfl 1 rfl ?_
    obtain ⟨y5, ey5, by5, h⟩ := tg_rdE h
    refine tg_iald X 5 rfl ey5 by5 dX8_strength_203 ?_
    refine tg_iload_n X dX8_strength_204 rfl 2 rfl ?_
    refine tg_if_eq (tgt := 212) X dX8_strength_205 (by decide) (fun c6 => ?_) (fun c6 => ?_)
    · have h := tg_ifT c6 h
      refine tg_iconst X dX8_strength_212 tk_i0 ?_
      refine tg_iadd X dX8_strength_213 ?_
      exact tg_iret X h rfl dX8_strength_214
    · have h := tg_ifF c6 h
      refine tg_iconst X dX8_strength_208 tk_i2 ?_
      refine tg_goto (tgt := 213) X dX8_strength_209 (by decide) ?_
      refine tg_iadd X dX8_strength_213 ?_
      exact tg_iret X h rfl dX8_strength_214
  · have h := tg_ifT c2 h
    refine tg_iconst X dX8_strength_186 tk_i0 ?_
    exact tg_iret X h rfl dX8_strength_187
set_option maxRecDepth 20000 in
set_option maxHeartbeats 4000000 in
theorem w_X8_strength_129 {x : tg_X} {Sf : tg_S} {r : Int32} (X : tg_M tauR x cX8_strength 5 RX8 zr_X8_strength (some .int) Sf (some (.int r))) (S : tg_S) (v1 : Int32) (v2 : Int32) (v3 : Int32) (s0 : Int32) (h : f_X8_strength_129  S v1 v2 v3 s0 = some (Sf, r)) : tg_G tauR x S 129 [(0, .ref (tg_ad x 0)), (1, .int v1), (2, .int v2), (3, .int v3)] [.int s0] := by
  unfold f_X8_strength_129 at h
  refine tg_istore (lv2 := [(4, .int s0), (0, .ref (tg_ad x 0)), (1, .int v1), (2, .int v2), (3, .int v3)]) X dX8_strength_129 (by decide) rfl ?_
  refine tg_iload_n X dX8_strength_131 rfl 3 rfl ?_
  refine tg_iconst X dX8_strength_132 tk_i2 ?_
  refine tg_icmp_ne (tgt := 177) X dX8_strength_133 (by decide) (fun c1 => ?_) (fun c1 => ?_)
  · have h := tg_ifF c1 h
    refine tg_re [1, 2, 4] rfl ?_
    exact w_X8_strength_177 X  S v1 v3 h
  · have h := tg_ifT c1 h
    refine tg_aload_n X dX8_strength_136 rfl 1 rfl ?_
    refine tg_getr X 0 rfl cl_X8 25 (by decide) rfl wf_X8_52 dX8_strength_137 ?_
    refine tg_iload_n X dX8_strength_140 rfl 2 rfl ?_
    obtain ⟨y2, ey2, by2, h⟩ := tg_rdE h
    refine tg_iald X 15 rfl ey2 by2 dX8_strength_141 ?_
    refine tg_iload X dX8_strength_142 0 rfl ?_
    refine tg_icmp_lt (tgt := 177) X dX8_strength_144 (by decide) (fun c3 => ?_) (fun c3 => ?_)
    · have h := tg_ifT c3 h
      refine tg_re [1, 2, 4] rfl ?_
      exact w_X8_strength_177 X  S v1 v3 h
    · have h := tg_ifF c3 h
      refine tg_aload_n X dX8_strength_147 rfl 1 rfl ?_
      refine tg_getr X 0 rfl cl_X8 25 (by decide) rfl wf_X8_52 dX8_strength_148 ?_
      refine tg_iload_n X dX8_strength_151 rfl 2 rfl ?_
      refine tg_dup2 X dX8_strength_152 rfl rfl ?_
      obtain ⟨y4, ey4, by4, h⟩ := tg_rdE h
      refine tg_iald X 15 rfl ey4 by4 dX8_strength_153 ?_
      refine tg_iload X dX8_strength_154 0 rfl ?_
      refine tg_isub X dX8_strength_156 ?_
      obtain ⟨S5, eS5, bS5, h⟩ := tg_wrE h
      refine tg_iast X 15 rfl bS5 dX8_strength_157 eS5 ?_
      refine tg_iconst X dX8_strength_158 tk_i2 ?_
      refine tg_aload_n X dX8_strength_159 rfl 1 rfl ?_
      refine tg_getr X 0 rfl cl_X8 4 (by decide) rfl wf_X8_22 dX8_strength_160 ?_
      refine tg_iload_n X dX8_strength_163 rfl 2 rfl ?_
      obtain ⟨y6, ey6, by6, h⟩ := tg_rdE h
      refine tg_iald X 5 rfl ey6 by6 dX8_strength_164 ?_
      refine tg_imul X dX8_strength_165 ?_
      refine tg_iload_n X dX8_strength_166 rfl 4 rfl ?_
      refine tg_if_eq (tgt := 174) X dX8_strength_167 (by decide) (fun c7 => ?_) (fun c7 => ?_)
      · have h := tg_ifT c7 h
        refine tg_iconst X dX8_strength_174 tk_i0 ?_
        refine tg_iadd X dX8_strength_175 ?_
        exact tg_iret X h rfl dX8_strength_176
      · have h := tg_ifF c7 h
        refine tg_iconst X dX8_strength_170 tk_i2 ?_
        refine tg_goto (tgt := 175) X dX8_strength_171 (by decide) ?_
        refine tg_iadd X dX8_strength_175 ?_
        exact tg_iret X h rfl dX8_strength_176
set_option maxRecDepth 20000 in
set_option maxHeartbeats 4000000 in
theorem w_X8_strength_99 {x : tg_X} {Sf : tg_S} {r : Int32} (X : tg_M tauR x cX8_strength 5 RX8 zr_X8_strength (some .int) Sf (some (.int r))) (S : tg_S) (v1 : Int32) (v3 : Int32) (s0 : Int32) (s1 : Int32) (h : f_X8_strength_99  S v1 v3 s0 s1 = some (Sf, r)) : tg_G tauR x S 99 [(0, .ref (tg_ad x 0)), (1, .int v1), (3, .int v3)] [.int s0, .int s1, .ref (tg_ad x 15)] := by
  unfold f_X8_strength_99 at h
  obtain ⟨S1, eS1, bS1, h⟩ := tg_wrE h
  refine tg_iast X 15 rfl bS1 dX8_strength_99 eS1 ?_
  refine tg_iload_n X dX8_strength_100 rfl 2 rfl ?_
  refine tg_if_eq (tgt := 113) X dX8_strength_101 (by decide) (fun c2 => ?_) (fun c2 => ?_)
  · have h := tg_ifT c2 h
    refine tg_iconst X dX8_strength_113 tk_i0 ?_
    exact tg_iret X h rfl dX8_strength_114
  · have h := tg_ifF c2 h
    refine tg_aload_n X dX8_strength_104 rfl 0 rfl ?_
    refine tg_getr X 0 rfl cl_X8 4 (by decide) rfl wf_X8_22 dX8_strength_105 ?_
    refine tg_iload_n X dX8_strength_108 rfl 1 rfl ?_
    obtain ⟨y3, ey3, by3, h⟩ := tg_rdE h
    refine tg_iald X 5 rfl ey3 by3 dX8_strength_109 ?_
    refine tg_goto (tgt := 114) X dX8_strength_110 (by decide) ?_
    exact tg_iret X h rfl dX8_strength_114
set_option maxRecDepth 20000 in
set_option maxHeartbeats 4000000 in
theorem w_X8_strength_56 {x : tg_X} {Sf : tg_S} {r : Int32} (X : tg_M tauR x cX8_strength 5 RX8 zr_X8_strength (some .int) Sf (some (.int r))) (S : tg_S) (v1 : Int32) (v3 : Int32) (s0 : Int32) (h : f_X8_strength_56  S v1 v3 s0 = some (Sf, r)) : tg_G tauR x S 56 [(0, .ref (tg_ad x 0)), (1, .int v1), (3, .int v3)] [.int s0] := by
  unfold f_X8_strength_56 at h
  refine tg_istore (lv2 := [(4, .int s0), (0, .ref (tg_ad x 0)), (1, .int v1), (3, .int v3)]) X dX8_strength_56 (by decide) rfl ?_
  refine tg_aload_n X dX8_strength_58 rfl 1 rfl ?_
  refine tg_getr X 0 rfl cl_X8 25 (by decide) rfl wf_X8_52 dX8_strength_59 ?_
  refine tg_iload_n X dX8_strength_62 rfl 2 rfl ?_
  refine tg_aload_n X dX8_strength_63 rfl 1 rfl ?_
  refine tg_getr X 0 rfl cl_X8 25 (by decide) rfl wf_X8_52 dX8_strength_64 ?_
  refine tg_iload_n X dX8_strength_67 rfl 2 rfl ?_
  obtain ⟨y1, ey1, by1, h⟩ := tg_rdE h
  refine tg_iald X 15 rfl ey1 by1 dX8_strength_68 ?_
  refine tg_iload X dX8_strength_69 0 rfl ?_
  refine tg_iadd X dX8_strength_71 ?_
  refine tg_aload_n X dX8_strength_72 rfl 1 rfl ?_
  refine tg_getr X 0 rfl cl_X8 5 (by decide) rfl wf_X8_25 dX8_strength_73 ?_
  refine tg_iload_n X dX8_strength_76 rfl 2 rfl ?_
  obtain ⟨y2, ey2, by2, h⟩ := tg_rdE h
  refine tg_iald X 6 rfl ey2 by2 dX8_strength_77 ?_
  refine tg_icmp_le (tgt := 90) X dX8_strength_78 (by decide) (fun c3 => ?_) (fun c3 => ?_)
  · have h := tg_ifT c3 h
    refine tg_aload_n X dX8_strength_90 rfl 1 rfl ?_
    refine tg_getr X 0 rfl cl_X8 25 (by decide) rfl wf_X8_52 dX8_strength_91 ?_
    refine tg_iload_n X dX8_strength_94 rfl 2 rfl ?_
    obtain ⟨y4, ey4, by4, h⟩ := tg_rdE h
    refine tg_iald X 15 rfl ey4 by4 dX8_strength_95 ?_
    refine tg_iload X dX8_strength_96 0 rfl ?_
    refine tg_iadd X dX8_strength_98 ?_
    refine tg_re [1, 2, 3] rfl ?_
    exact w_X8_strength_99 X  S v1 v3 (y4 + s0) v1 h
  · have h := tg_ifF c3 h
    refine tg_aload_n X dX8_strength_81 rfl 1 rfl ?_
    refine tg_getr X 0 rfl cl_X8 5 (by decide) rfl wf_X8_25 dX8_strength_82 ?_
    refine tg_iload_n X dX8_strength_85 rfl 2 rfl ?_
    obtain ⟨y5, ey5, by5, h⟩ := tg_rdE h
    refine tg_iald X 6 rfl ey5 by5 dX8_strength_86 ?_
    refine tg_goto (tgt := 99) X dX8_strength_87 (by decide) ?_
    refine tg_re [1, 2, 3] rfl ?_
    exact w_X8_strength_99 X  S v1 v3 y5 v1 h
set_option maxRecDepth 20000 in
set_option maxHeartbeats 4000000 in
theorem w_X8_strength_28 {x : tg_X} {Sf : tg_S} {r : Int32} (X : tg_M tauR x cX8_strength 5 RX8 zr_X8_strength (some .int) Sf (some (.int r))) (S : tg_S) (v1 : Int32) (v2 : Int32) (s0 : Int32) (h : f_X8_strength_28  S v1 v2 s0 = some (Sf, r)) : tg_G tauR x S 28 [(0, .ref (tg_ad x 0)), (1, .int v1), (2, .int v2)] [.int s0] := by
  unfold f_X8_strength_28 at h
  refine tg_istore_n (lv2 := [(3, .int s0), (0, .ref (tg_ad x 0)), (1, .int v1), (2, .int v2)]) X dX8_strength_28 rfl (by decide) rfl ?_
  refine tg_iload_n X dX8_strength_29 rfl 3 rfl ?_
  refine tg_if_ne (tgt := 115) X dX8_strength_30 (by decide) (fun c1 => ?_) (fun c1 => ?_)
  · have h := tg_ifF c1 h
    refine tg_aload_n X dX8_strength_115 rfl 1 rfl ?_
    refine tg_getr X 0 rfl cl_X8 3 (by decide) rfl wf_X8_19 dX8_strength_116 ?_
    refine tg_iload_n X dX8_strength_119 rfl 2 rfl ?_
    obtain ⟨y2, ey2, by2, h⟩ := tg_rdE h
    refine tg_iald X 4 rfl ey2 by2 dX8_strength_120 ?_
    refine tg_if_ne (tgt := 128) X dX8_strength_121 (by decide) (fun c3 => ?_) (fun c3 => ?_)
    · rw [if_neg c3] at h
      refine tg_iconst X dX8_strength_128 tk_i2 ?_
      refine tg_re [1, 2, 3, 0] rfl ?_
      exact w_X8_strength_129 X  S v1 v2 s0 2 h
    · rw [if_pos c3] at h
      refine tg_iconst X dX8_strength_124 tk_i1 ?_
      refine tg_goto (tgt := 129) X dX8_strength_125 (by decide) ?_
      refine tg_re [1, 2, 3, 0] rfl ?_
      exact w_X8_strength_129 X  S v1 v2 s0 1 h
  · have h := tg_ifT c1 h
    refine tg_iload_n X dX8_strength_33 rfl 0 rfl ?_
    refine tg_if_eq (tgt := 41) X dX8_strength_34 (by decide) (fun c4 => ?_) (fun c4 => ?_)
    · have h := tg_ifT c4 h
      refine tg_aload_n X dX8_strength_41 rfl 1 rfl ?_
      refine tg_getr X 0 rfl cl_X8 3 (by decide) rfl wf_X8_19 dX8_strength_42 ?_
      refine tg_iload_n X dX8_strength_45 rfl 2 rfl ?_
      obtain ⟨y5, ey5, by5, h⟩ := tg_rdE h
      refine tg_iald X 4 rfl ey5 by5 dX8_strength_46 ?_
      refine tg_iconst X dX8_strength_47 tk_i1 ?_
      refine tg_icmp_ne (tgt := 55) X dX8_strength_48 (by decide) (fun c6 => ?_) (fun c6 => ?_)
      · rw [if_neg c6] at h
        refine tg_iconst X dX8_strength_55 tk_i1 ?_
        refine tg_re [1, 2, 0] rfl ?_
        exact w_X8_strength_56 X  S v1 s0 1 h
      · rw [if_pos c6] at h
        refine tg_iconst X dX8_strength_51 tk_i2 ?_
        refine tg_goto (tgt := 56) X dX8_strength_52 (by decide) ?_
        refine tg_re [1, 2, 0] rfl ?_
        exact w_X8_strength_56 X  S v1 s0 2 h
    · have h := tg_ifF c4 h
      refine tg_iconst X dX8_strength_37 tk_i0 ?_
      refine tg_goto (tgt := 56) X dX8_strength_38 (by decide) ?_
      refine tg_re [1, 2, 0] rfl ?_
      exact w_X8_strength_56 X  S v1 s0 0 h
set_option maxRecDepth 20000 in
set_option maxHeartbeats 4000000 in
theorem w_X8_strength_27 {x : tg_X} {Sf : tg_S} {r : Int32} (X : tg_M tauR x cX8_strength 5 RX8 zr_X8_strength (some .int) Sf (some (.int r))) (S : tg_S) (v1 : Int32) (v2 : Int32) (h : f_X8_strength_27  S v1 v2 = some (Sf, r)) : tg_G tauR x S 27 [(0, .ref (tg_ad x 0)), (1, .int v1), (2, .int v2)] [] := by
  unfold f_X8_strength_27 at h
  refine tg_iconst X dX8_strength_27 tk_i0 ?_
  exact w_X8_strength_28 X  S v1 v2 0 h
set_option maxRecDepth 20000 in
set_option maxHeartbeats 4000000 in
theorem w_X8_strength_0 {x : tg_X} {Sf : tg_S} {r : Int32} (X : tg_M tauR x cX8_strength 5 RX8 zr_X8_strength (some .int) Sf (some (.int r))) (S : tg_S) (v1 : Int32) (v2 : Int32) (h : f_X8_strength  S v1 v2 = some (Sf, r)) : tg_G tauR x S 0 [(0, .ref (tg_ad x 0)), (1, .int v1), (2, .int v2)] [] := by
  unfold f_X8_strength at h
  refine tg_aload_n X dX8_strength_0 rfl 0 rfl ?_
  refine tg_getr X 0 rfl cl_X8 3 (by decide) rfl wf_X8_19 dX8_strength_1 ?_
  refine tg_iload_n X dX8_strength_4 rfl 1 rfl ?_
  obtain ⟨y1, ey1, by1, h⟩ := tg_rdE h
  refine tg_iald X 4 rfl ey1 by1 dX8_strength_5 ?_
  refine tg_iconst X dX8_strength_6 tk_i2 ?_
  refine tg_icmp_ne (tgt := 27) X dX8_strength_7 (by decide) (fun c2 => ?_) (fun c2 => ?_)
  · have h := tg_ifF c2 h
    exact w_X8_strength_27 X  S v1 v2 h
  · have h := tg_ifT c2 h
    refine tg_aload_n X dX8_strength_10 rfl 0 rfl ?_
    refine tg_getr X 0 rfl cl_X8 17 (by decide) rfl wf_X8_49 dX8_strength_11 ?_
    refine tg_iload_n X dX8_strength_14 rfl 1 rfl ?_
    refine tg_bipush X dX8_strength_15 tk_b8 ?_
    refine tg_idiv X dX8_strength_17 (by decide) ?_
    obtain ⟨y3, ey3, by3, h⟩ := tg_rdE h
    refine tg_iald X 14 rfl ey3 by3 dX8_strength_18 ?_
    refine tg_iload_n X dX8_strength_19 rfl 1 rfl ?_
    refine tg_icmp_ne (tgt := 27) X dX8_strength_20 (by decide) (fun c4 => ?_) (fun c4 => ?_)
    · have h := tg_ifF c4 h
      exact w_X8_strength_27 X  S v1 v2 h
    · have h := tg_ifT c4 h
      refine tg_iconst X dX8_strength_23 tk_i1 ?_
      refine tg_goto (tgt := 28) X dX8_strength_24 (by decide) ?_
      exact w_X8_strength_28 X  S v1 v2 1 h
theorem cm_X8_strength (l : Launch) (D : va_G) (cy : Bool → ClassId) (ad : Nat → Nat) (tS : Nat) {S Sf : tg_S} {v1 : Int32} {v2 : Int32} {r : Int32} (h : f_X8_strength  S v1 v2 = some (Sf, r)) : tg_Met l yX8_strength cX8_strength 5 (some .int) zr_X8_strength tauR D cy ad tS S [.ref (ad 0), .int v1, .int v2] Sf (some (.int r)) := tg_mk (by decide +kernel) trivial (Nat.le_of_ble_eq_true rfl) (fun p e s m args below meth c Q A X => w_X8_strength_0 X S v1 v2 h)
