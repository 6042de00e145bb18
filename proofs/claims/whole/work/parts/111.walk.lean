-- X8_furthestOf
def zr_X8_furthestOf : Room := { frames := 7, cells := 0, slots := 0, locals := 160 }
theorem dX8_furthestOf_0 : decode cX8_furthestOf 0 = .ok (.aload_n 0, 1) := by decide +kernel
theorem dX8_furthestOf_1 : decode cX8_furthestOf 1 = .ok (.invokevirtual 235, 3) := by decide +kernel
theorem dX8_furthestOf_4 : decode cX8_furthestOf 4 = .ok (.bipush 12, 2) := by decide +kernel
theorem dX8_furthestOf_6 : decode cX8_furthestOf 6 = .ok (.istore_n 2, 1) := by decide +kernel
theorem dX8_furthestOf_7 : decode cX8_furthestOf 7 = .ok (.iconst 0, 1) := by decide +kernel
theorem dX8_furthestOf_8 : decode cX8_furthestOf 8 = .ok (.istore_n 3, 1) := by decide +kernel
theorem dX8_furthestOf_9 : decode cX8_furthestOf 9 = .ok (.iload_n 3, 1) := by decide +kernel
theorem dX8_furthestOf_10 : decode cX8_furthestOf 10 = .ok (.bipush 24, 2) := by decide +kernel
theorem dX8_furthestOf_12 : decode cX8_furthestOf 12 = .ok (.if_icmp .ge 64, 3) := by decide +kernel
theorem dX8_furthestOf_15 : decode cX8_furthestOf 15 = .ok (.iload_n 1, 1) := by decide +kernel
theorem dX8_furthestOf_16 : decode cX8_furthestOf 16 = .ok (.ifCond .ne 21, 3) := by decide +kernel
theorem dX8_furthestOf_19 : decode cX8_furthestOf 19 = .ok (.aload_n 0, 1) := by decide +kernel
theorem dX8_furthestOf_20 : decode cX8_furthestOf 20 = .ok (.getfield 64, 3) := by decide +kernel
theorem dX8_furthestOf_23 : decode cX8_furthestOf 23 = .ok (.iload_n 3, 1) := by decide +kernel
theorem dX8_furthestOf_24 : decode cX8_furthestOf 24 = .ok (.iaload, 1) := by decide +kernel
theorem dX8_furthestOf_25 : decode cX8_furthestOf 25 = .ok (.iload_n 2, 1) := by decide +kernel
theorem dX8_furthestOf_26 : decode cX8_furthestOf 26 = .ok (.if_icmp .le 7, 3) := by decide +kernel
theorem dX8_furthestOf_29 : decode cX8_furthestOf 29 = .ok (.iconst 1, 1) := by decide +kernel
theorem dX8_furthestOf_30 : decode cX8_furthestOf 30 = .ok (.goto 22, 3) := by decide +kernel
theorem dX8_furthestOf_33 : decode cX8_furthestOf 33 = .ok (.iconst 0, 1) := by decide +kernel
theorem dX8_furthestOf_34 : decode cX8_furthestOf 34 = .ok (.goto 18, 3) := by decide +kernel
theorem dX8_furthestOf_37 : decode cX8_furthestOf 37 = .ok (.aload_n 0, 1) := by decide +kernel
theorem dX8_furthestOf_38 : decode cX8_furthestOf 38 = .ok (.getfield 64, 3) := by decide +kernel
theorem dX8_furthestOf_41 : decode cX8_furthestOf 41 = .ok (.iload_n 3, 1) := by decide +kernel
theorem dX8_furthestOf_42 : decode cX8_furthestOf 42 = .ok (.iaload, 1) := by decide +kernel
theorem dX8_furthestOf_43 : decode cX8_furthestOf 43 = .ok (.iload_n 2, 1) := by decide +kernel
theorem dX8_furthestOf_44 : decode cX8_furthestOf 44 = .ok (.if_icmp .ge 7, 3) := by decide +kernel
theorem dX8_furthestOf_47 : decode cX8_furthestOf 47 = .ok (.iconst 1, 1) := by decide +kernel
theorem dX8_furthestOf_48 : decode cX8_furthestOf 48 = .ok (.goto 4, 3) := by decide +kernel
theorem dX8_furthestOf_51 : decode cX8_furthestOf 51 = .ok (.iconst 0, 1) := by decide +kernel
theorem dX8_furthestOf_52 : decode cX8_furthestOf 52 = .ok (.istore 4, 2) := by decide +kernel
theorem dX8_furthestOf_54 : decode cX8_furthestOf 54 = .ok (.iload 4, 2) := by decide +kernel
theorem dX8_furthestOf_56 : decode cX8_furthestOf 56 = .ok (.ifCond .eq 12, 3) := by decide +kernel
theorem dX8_furthestOf_59 : decode cX8_furthestOf 59 = .ok (.aload_n 0, 1) := by decide +kernel
theorem dX8_furthestOf_60 : decode cX8_furthestOf 60 = .ok (.getfield 64, 3) := by decide +kernel
theorem dX8_furthestOf_63 : decode cX8_furthestOf 63 = .ok (.iload_n 3, 1) := by decide +kernel
theorem dX8_furthestOf_64 : decode cX8_furthestOf 64 = .ok (.iaload, 1) := by decide +kernel
theorem dX8_furthestOf_65 : decode cX8_furthestOf 65 = .ok (.goto 4, 3) := by decide +kernel
theorem dX8_furthestOf_68 : decode cX8_furthestOf 68 = .ok (.iload_n 2, 1) := by decide +kernel
theorem dX8_furthestOf_69 : decode cX8_furthestOf 69 = .ok (.istore_n 2, 1) := by decide +kernel
theorem dX8_furthestOf_70 : decode cX8_furthestOf 70 = .ok (.iinc 3 1, 3) := by decide +kernel
theorem dX8_furthestOf_73 : decode cX8_furthestOf 73 = .ok (.goto (-64), 3) := by decide +kernel
theorem dX8_furthestOf_76 : decode cX8_furthestOf 76 = .ok (.iload_n 2, 1) := by decide +kernel
theorem dX8_furthestOf_77 : decode cX8_furthestOf 77 = .ok (.ireturn, 1) := by decide +kernel
set_option maxRecDepth 20000 in
set_option maxHeartbeats 4000000 in
theorem w_X8_furthestOf_69 {x : tg_X} {Sf : tg_S} {r : Int32} {rec9 : tg_S → Int32 → Int32 → Int32 → Option (tg_S × Int32)} (X : tg_M tauR x cX8_furthestOf 5 RX8 zr_X8_furthestOf (some .int) Sf (some (.int r))) (hr9 : ∀ (S : tg_S) (v1 : Int32) (v2 : Int32) (v3 : Int32), rec9 S v1 v2 v3 = some (Sf, r) → tg_G tauR x S 9 [(0, .ref (tg_ad x 0)), (1, .int v1), (2, .int v2), (3, .int v3)] []) (S : tg_S) (v1 : Int32) (v3 : Int32) (s0 : Int32) (h : f_X8_furthestOf_69 rec9 S v1 v3 s0 = some (Sf, r)) : tg_G tauR x S 69 [(0, .ref (tg_ad x 0)), (1, .int v1), (3, .int v3)] [.int s0] := by
  unfold f_X8_furthestOf_69 at h
  refine tg_istore_n (lv2 := [(2, .int s0), (0, .ref (tg_ad x 0)), (1, .int v1), (3, .int v3)]) X dX8_furthestOf_69 rfl (by decide) rfl ?_
  obtain ⟨y1, ey1⟩ : ∃ z : Int32, z = v3 + 1 := ⟨_, rfl⟩
  have h := tg_nmE ey1 h
  refine tg_iinc (lv2 := [(3, .int y1), (2, .int s0), (0, .ref (tg_ad x 0)), (1, .int v1)]) X dX8_furthestOf_70 3 rfl tk_i1 ey1 (by decide) rfl ?_
  refine tg_goto (tgt := 9) X dX8_furthestOf_73 (by decide) ?_
  refine tg_re [2, 3, 1, 0] rfl ?_
  exact hr9 S v1 s0 y1 h
set_option maxRecDepth 20000 in
set_option maxHeartbeats 4000000 in
theorem w_X8_furthestOf_52 {x : tg_X} {Sf : tg_S} {r : Int32} {rec9 : tg_S → Int32 → Int32 → Int32 → Option (tg_S × Int32)} (X : tg_M tauR x cX8_furthestOf 5 RX8 zr_X8_furthestOf (some .int) Sf (some (.int r))) (hr9 : ∀ (S : tg_S) (v1 : Int32) (v2 : Int32) (v3 : Int32), rec9 S v1 v2 v3 = some (Sf, r) → tg_G tauR x S 9 [(0, .ref (tg_ad x 0)), (1, .int v1), (2, .int v2), (3, .int v3)] []) (S : tg_S) (v1 : Int32) (v2 : Int32) (v3 : Int32) (s0 : Int32) (h : f_X8_furthestOf_52 rec9 S v1 v2 v3 s0 = some (Sf, r)) : tg_G tauR x S 52 [(0, .ref (tg_ad x 0)), (1, .int v1), (2, .int v2), (3, .int v3)] [.int s0] := by
  unfold f_X8_furthestOf_52 at h
  refine tg_istore (lv2 := [(4, .int s0), (0, .ref (tg_ad x 0)), (1, .int v1), (2, .int v2), (3, .int v3)]) X dX8_furthestOf_52 (by decide) rfl ?_
  refine tg_iload X dX8_furthestOf_54 0 rfl ?_
  refine tg_if_eq (tgt := 68) X dX8_furthestOf_56 (by decide) (fun c1 => ?_) (fun c1 => ?_)
  · have h := tg_ifT c1 h
    refine tg_iload_n X dX8_furthestOf_68 rfl 3 rfl ?_
    refine tg_re [1, 2, 4] rfl ?_
    exact w_X8_furthestOf_69 X hr9 S v1 v3 v2 h
  · have h := tg_ifF c1 h
    refine tg_aload_n X dX8_furthestOf_59 rfl 1 rfl ?_
    refine tg_getr X 0 rfl cl_X8 29 (by decide) rfl wf_X8_64 dX8_furthestOf_60 ?_
    refine tg_iload_n X dX8_furthestOf_63 rfl 4 rfl ?_
    obtain ⟨y2, ey2, by2, h⟩ := tg_rdE h
    refine tg_iald X 19 rfl ey2 by2 dX8_furthestOf_64 ?_
    refine tg_goto (tgt := 69) X dX8_furthestOf_65 (by decide) ?_
    refine tg_re [1, 2, 4] rfl ?_
    exact w_X8_furthestOf_69 X hr9 S v1 v3 y2 h
set_option maxRecDepth 20000 in
set_option maxHeartbeats 4000000 in
theorem w_X8_furthestOf_9 {x : tg_X} {Sf : tg_S} {r : Int32} {rec9 : tg_S → Int32 → Int32 → Int32 → Option (tg_S × Int32)} (X : tg_M tauR x cX8_furthestOf 5 RX8 zr_X8_furthestOf (some .int) Sf (some (.int r))) (hr9 : ∀ (S : tg_S) (v1 : Int32) (v2 : Int32) (v3 : Int32), rec9 S v1 v2 v3 = some (Sf, r) → tg_G tauR x S 9 [(0, .ref (tg_ad x 0)), (1, .int v1), (2, .int v2), (3, .int v3)] []) (S : tg_S) (v1 : Int32) (v2 : Int32) (v3 : Int32) (h : f_X8_furthestOf_9 rec9 S v1 v2 v3 = some (Sf, r)) : tg_G tauR x S 9 [(0, .ref (tg_ad x 0)), (1, .int v1), (2, .int v2), (3, .int v3)] [] := by
  unfold f_X8_furthestOf_9 at h
  refine tg_iload_n X dX8_furthestOf_9 rfl 3 rfl ?_
  refine tg_bipush X dX8_furthestOf_10 tk_b24 ?_
  refine tg_icmp_ge (tgt := 76) X dX8_furthestOf_12 (by decide) (fun c1 => ?_) (fun c1 => ?_)
  · have h := tg_ifT c1 h
    refine tg_iload_n X dX8_furthestOf_76 rfl 2 rfl ?_
    exact tg_iret X h rfl dX8_furthestOf_77
  · have h := tg_ifF c1 h
    refine tg_iload_n X dX8_furthestOf_15 rfl 1 rfl ?_
    refine tg_if_ne (tgt := 37) X dX8_furthestOf_16 (by decide) (fun c2 => ?_) (fun c2 => ?_)
    · have h := tg_ifF c2 h
      refine tg_aload_n X dX8_furthestOf_37 rfl 0 rfl ?_
      refine tg_getr X 0 rfl cl_X8 29 (by decide) rfl wf_X8_64 dX8_furthestOf_38 ?_
      refine tg_iload_n X dX8_furthestOf_41 rfl 3 rfl ?_
      obtain ⟨y3, ey3, by3, h⟩ := tg_rdE h
      refine tg_iald X 19 rfl ey3 by3 dX8_furthestOf_42 ?_
      refine tg_iload_n X dX8_furthestOf_43 rfl 2 rfl ?_
      refine tg_icmp_ge (tgt := 51) X dX8_furthestOf_44 (by decide) (fun c4 => ?_) (fun c4 => ?_)
      · rw [if_pos c4] at h
        refine tg_iconst X dX8_furthestOf_51 tk_i0 ?_
        exact w_X8_furthestOf_52 X hr9 S v1 v2 v3 0 h
      · rw [if_neg c4] at h
        refine tg_iconst X dX8_furthestOf_47 tk_i1 ?_
        refine tg_goto (tgt := 52) X dX8_furthestOf_48 (by decide) ?_
        exact w_X8_furthestOf_52 X hr9 S v1 v2 v3 1 h
    · have h := tg_ifT c2 h
      refine tg_aload_n X dX8_furthestOf_19 rfl 0 rfl ?_
      refine tg_getr X 0 rfl cl_X8 29 (by decide) rfl wf_X8_64 dX8_furthestOf_20 ?_
      refine tg_iload_n X dX8_furthestOf_23 rfl 3 rfl ?_
      obtain ⟨y5, ey5, by5, h⟩ := tg_rdE h
      refine tg_iald X 19 rfl ey5 by5 dX8_furthestOf_24 ?_
      refine tg_iload_n X dX8_furthestOf_25 rfl 2 rfl ?_
      refine tg_icmp_le (tgt := 33) X dX8_furthestOf_26 (by decide) (fun c6 => ?_) (fun c6 => ?_)
      · rw [if_pos c6] at h
        refine tg_iconst X dX8_furthestOf_33 tk_i0 ?_
        refine tg_goto (tgt := 52) X dX8_furthestOf_34 (by decide) ?_
        exact w_X8_furthestOf_52 X hr9 S v1 v2 v3 0 h
      · rw [if_neg c6] at h
        refine tg_iconst X dX8_furthestOf_29 tk_i1 ?_
        refine tg_goto (tgt := 52) X dX8_furthestOf_30 (by decide) ?_
        exact w_X8_furthestOf_52 X hr9 S v1 v2 v3 1 h
theorem wl_X8_furthestOf_9 {x : tg_X} {Sf : tg_S} {r : Int32} (X : tg_M tauR x cX8_furthestOf 5 RX8 zr_X8_furthestOf (some .int) Sf (some (.int r))) : ∀ (n : Nat) (S : tg_S) (v1 : Int32) (v2 : Int32) (v3 : Int32) (h : L_X8_furthestOf_9  n S v1 v2 v3 = some (Sf, r)), tg_G tauR x S 9 [(0, .ref (tg_ad x 0)), (1, .int v1), (2, .int v2), (3, .int v3)] [] := by
  intro n
  induction n with
  | zero => intro S v1 v2 v3 h; cases h
  | succ n ih => intro S v1 v2 v3 h; exact w_X8_furthestOf_9 X  ih S v1 v2 v3 h
set_option maxRecDepth 20000 in
set_option maxHeartbeats 4000000 in
theorem w_X8_furthestOf_0 {x : tg_X} {Sf : tg_S} {r : Int32} (X : tg_M tauR x cX8_furthestOf 5 RX8 zr_X8_furthestOf (some .int) Sf (some (.int r))) (S : tg_S) (v1 : Int32) (h : f_X8_furthestOf  S v1 = some (Sf, r)) : tg_G tauR x S 0 [(0, .ref (tg_ad x 0)), (1, .int v1)] [] := by
  unfold f_X8_furthestOf at h
  refine tg_aload_n X dX8_furthestOf_0 rfl 0 rfl ?_
  obtain ⟨S1, kS1, h⟩ := tg_bvE h
  refine tg_callV (As := []) (rest := []) X 0 (cm_X8_runsTold _ _ _ _ _ kS1) yy_X8_runsTold wv_X8_runsTold ws_X8_runsTold wm_X8_235 rfl cl_X8.1 ⟨rfl, rfl, Nat.le_of_ble_eq_true rfl, Nat.le_of_ble_eq_true rfl⟩ rfl rfl (Nat.le_of_ble_eq_true rfl) dX8_furthestOf_1 rfl ?_
  refine tg_bipush X dX8_furthestOf_4 tk_b12 ?_
  refine tg_istore_n (lv2 := [(2, .int 12), (0, .ref (tg_ad x 0)), (1, .int v1)]) X dX8_furthestOf_6 rfl (by decide) rfl ?_
  refine tg_iconst X dX8_furthestOf_7 tk_i0 ?_
  refine tg_istore_n (lv2 := [(3, .int 0), (2, .int 12), (0, .ref (tg_ad x 0)), (1, .int v1)]) X dX8_furthestOf_8 rfl (by decide) rfl ?_
  refine tg_re [2, 3, 1, 0] rfl ?_
  exact wl_X8_furthestOf_9 X  tg_F S1 v1 12 0 h
theorem cm_X8_furthestOf (l : Launch) (D : va_G) (cy : Bool → ClassId) (ad : Nat → Nat) (tS : Nat) {S Sf : tg_S} {v1 : Int32} {r : Int32} (h : f_X8_furthestOf  S v1 = some (Sf, r)) : tg_Met l yX8_furthestOf cX8_furthestOf 5 (some .int) zr_X8_furthestOf tauR D cy ad tS S [.ref (ad 0), .int v1] Sf (some (.int r)) := tg_mk (by decide +kernel) trivial (Nat.le_of_ble_eq_true rfl) (fun p e s m args below meth c Q A X => w_X8_furthestOf_0 X S v1 h)
-- X8_furthest
def zr_X8_furthest : Room := { frames := 8, cells := 0, slots := 0, locals := 184 }
theorem dX8_furthest_0 : decode cX8_furthest 0 = .ok (.iload_n 1, 1) := by decide +kernel
theorem dX8_furthest_1 : decode cX8_furthest 1 = .ok (.invokestatic 153, 3) := by decide +kernel
theorem dX8_furthest_4 : decode cX8_furthest 4 = .ok (.ifCond .eq 11, 3) := by decide +kernel
theorem dX8_furthest_7 : decode cX8_furthest 7 = .ok (.aload_n 0, 1) := by decide +kernel
theorem dX8_furthest_8 : decode cX8_furthest 8 = .ok (.iload_n 1, 1) := by decide +kernel
theorem dX8_furthest_9 : decode cX8_furthest 9 = .ok (.invokevirtual 247, 3) := by decide +kernel
theorem dX8_furthest_12 : decode cX8_furthest 12 = .ok (.goto 5, 3) := by decide +kernel
theorem dX8_furthest_15 : decode cX8_furthest 15 = .ok (.bipush (-2), 2) := by decide +kernel
theorem dX8_furthest_17 : decode cX8_furthest 17 = .ok (.ireturn, 1) := by decide +kernel
set_option maxRecDepth 20000 in
set_option maxHeartbeats 4000000 in
theorem w_X8_furthest_0 {x : tg_X} {Sf : tg_S} {r : Int32} (X : tg_M tauR x cX8_furthest 2 RX8 zr_X8_furthest (some .int) Sf (some (.int r))) (S : tg_S) (v1 : Int32) (h : f_X8_furthest  S v1 = some (Sf, r)) : tg_G tauR x S 0 [(0, .ref (tg_ad x 0)), (1, .int v1)] [] := by
  unfold f_X8_furthest at h
  refine tg_iload_n X dX8_furthest_0 rfl 1 rfl ?_
  obtain ⟨S1, r2, kS1, h⟩ := tg_bdE h
  refine tg_callS (As := [.int v1]) (rest := []) X (cm_X8_isTwo _ _ _ _ _ kS1) yy_X8_isTwo wt_X8_isTwo wm_X8_153 ⟨rfl, rfl, Nat.le_of_ble_eq_true rfl, Nat.le_of_ble_eq_true rfl⟩ rfl rfl (Nat.le_of_ble_eq_true rfl) dX8_furthest_1 rfl ?_
  refine tg_if_eq (tgt := 15) X dX8_furthest_4 (by decide) (fun c3 => ?_) (fun c3 => ?_)
  · have h := tg_ifT c3 h
    refine tg_bipush X dX8_furthest_15 tk_bm2 ?_
    exact tg_iret X h rfl dX8_furthest_17
  · have h := tg_ifF c3 h
    refine tg_aload_n X dX8_furthest_7 rfl 0 rfl ?_
    refine tg_iload_n X dX8_furthest_8 rfl 1 rfl ?_
    obtain ⟨S4, r5, kS4, h⟩ := tg_bdE h
    refine tg_callV (As := [.int v1]) (rest := []) X 0 (cm_X8_furthestOf _ _ _ _ _ kS4) yy_X8_furthestOf wv_X8_furthestOf ws_X8_furthestOf wm_X8_247 rfl cl_X8.1 ⟨rfl, rfl, Nat.le_of_ble_eq_true rfl, Nat.le_of_ble_eq_true rfl⟩ rfl rfl (Nat.le_of_ble_eq_true rfl) dX8_furthest_9 rfl ?_
    refine tg_goto (tgt := 17) X dX8_furthest_12 (by decide) ?_
    exact tg_iret X h rfl dX8_furthest_17
theorem cm_X8_furthest (l : Launch) (D : va_G) (cy : Bool → ClassId) (ad : Nat → Nat) (tS : Nat) {S Sf : tg_S} {v1 : Int32} {r : Int32} (h : f_X8_furthest  S v1 = some (Sf, r)) : tg_Met l yX8_furthest cX8_furthest 2 (some .int) zr_X8_furthest tauR D cy ad tS S [.ref (ad 0), .int v1] Sf (some (.int r)) := tg_mk (by decide +kernel) trivial (Nat.le_of_ble_eq_true rfl) (fun p e s m args below meth c Q A X => w_X8_furthest_0 X S v1 h)
-- X8_doneOf
def zr_X8_doneOf : Room := { frames := 7, cells := 0, slots := 0, locals := 160 }
theorem dX8_doneOf_0 : decode cX8_doneOf 0 = .ok (.aload_n 0, 1) := by decide +kernel
theorem dX8_doneOf_1 : decode cX8_doneOf 1 = .ok (.invokevirtual 235, 3) := by decide +kernel
theorem dX8_doneOf_4 : decode cX8_doneOf 4 = .ok (.aload_n 0, 1) := by decide +kernel
theorem dX8_doneOf_5 : decode cX8_doneOf 5 = .ok (.getfield 55, 3) := by decide +kernel
theorem dX8_doneOf_8 : decode cX8_doneOf 8 = .ok (.iload_n 1, 1) := by decide +kernel
theorem dX8_doneOf_9 : decode cX8_doneOf 9 = .ok (.iaload, 1) := by decide +kernel
theorem dX8_doneOf_10 : decode cX8_doneOf 10 = .ok (.ireturn, 1) := by decide +kernel
set_option maxRecDepth 20000 in
set_option maxHeartbeats 4000000 in
theorem w_X8_doneOf_0 {x : tg_X} {Sf : tg_S} {r : Int32} (X : tg_M tauR x cX8_doneOf 2 RX8 zr_X8_doneOf (some .int) Sf (some (.int r))) (S : tg_S) (v1 : Int32) (h : f_X8_doneOf  S v1 = some (Sf, r)) : tg_G tauR x S 0 [(0, .ref (tg_ad x 0)), (1, .int v1)] [] := by
  unfold f_X8_doneOf at h
  refine tg_aload_n X dX8_doneOf_0 rfl 0 rfl ?_
  obtain ⟨S1, kS1, h⟩ := tg_bvE h
  refine tg_callV (As := []) (rest := []) X 0 (cm_X8_runsTold _ _ _ _ _ kS1) yy_X8_runsTold wv_X8_runsTold ws_X8_runsTold wm_X8_235 rfl cl_X8.1 ⟨rfl, rfl, Nat.le_of_ble_eq_true rfl, Nat.le_of_ble_eq_true rfl⟩ rfl rfl (Nat.le_of_ble_eq_true rfl) dX8_doneOf_1 rfl ?_
  refine tg_aload_n X dX8_doneOf_4 rfl 0 rfl ?_
  refine tg_getr X 0 rfl cl_X8 26 (by decide) rfl wf_X8_55 dX8_doneOf_5 ?_
  refine tg_iload_n X dX8_doneOf_8 rfl 1 rfl ?_
  obtain ⟨y2, ey2, by2, h⟩ := tg_rdE h
  refine tg_iald X 16 rfl ey2 by2 dX8_doneOf_9 ?_
  exact tg_iret X h rfl dX8_doneOf_10
theorem cm_X8_doneOf (l : Launch) (D : va_G) (cy : Bool → ClassId) (ad : Nat → Nat) (tS : Nat) {S Sf : tg_S} {v1 : Int32} {r : Int32} (h : f_X8_doneOf  S v1 = some (Sf, r)) : tg_Met l yX8_doneOf cX8_doneOf 2 (some .int) zr_X8_doneOf tauR D cy ad tS S [.ref (ad 0), .int v1] Sf (some (.int r)) := tg_mk (by decide +kernel) trivial (Nat.le_of_ble_eq_true rfl) (fun p e s m args below meth c Q A X => w_X8_doneOf_0 X S v1 h)
-- X8_done
def zr_X8_done : Room := { frames := 8, cells := 0, slots := 0, locals := 181 }
theorem dX8_done_0 : decode cX8_done 0 = .ok (.aload_n 0, 1) := by decide +kernel
theorem dX8_done_1 : decode cX8_done 1 = .ok (.iload_n 1, 1) := by decide +kernel
theorem dX8_done_2 : decode cX8_done 2 = .ok (.invokevirtual 144, 3) := by decide +kernel
theorem dX8_done_5 : decode cX8_done 5 = .ok (.ifCond .eq 11, 3) := by decide +kernel
theorem dX8_done_8 : decode cX8_done 8 = .ok (.aload_n 0, 1) := by decide +kernel
theorem dX8_done_9 : decode cX8_done 9 = .ok (.iload_n 1, 1) := by decide +kernel
theorem dX8_done_10 : decode cX8_done 10 = .ok (.invokevirtual 250, 3) := by decide +kernel
theorem dX8_done_13 : decode cX8_done 13 = .ok (.goto 5, 3) := by decide +kernel
theorem dX8_done_16 : decode cX8_done 16 = .ok (.bipush (-2), 2) := by decide +kernel
theorem dX8_done_18 : decode cX8_done 18 = .ok (.ireturn, 1) := by decide +kernel
set_option maxRecDepth 20000 in
set_option maxHeartbeats 4000000 in
theorem w_X8_done_0 {x : tg_X} {Sf : tg_S} {r : Int32} (X : tg_M tauR x cX8_done 2 RX8 zr_X8_done (some .int) Sf (some (.int r))) (S : tg_S) (v1 : Int32) (h : f_X8_done  S v1 = some (Sf, r)) : tg_G tauR x S 0 [(0, .ref (tg_ad x 0)), (1, .int v1)] [] := by
  unfold f_X8_done at h
  refine tg_aload_n X dX8_done_0 rfl 0 rfl ?_
  refine tg_iload_n X dX8_done_1 rfl 1 rfl ?_
  obtain ⟨S1, r2, kS1, h⟩ := tg_bdE h
  refine tg_callV (As := [.int v1]) (rest := []) X 0 (cm_X8_isPuller _ _ _ _ _ kS1) yy_X8_isPuller wv_X8_isPuller ws_X8_isPuller wm_X8_144 rfl cl_X8.1 ⟨rfl, rfl, Nat.le_of_ble_eq_true rfl, Nat.le_of_ble_eq_true rfl⟩ rfl rfl (Nat.le_of_ble_eq_true rfl) dX8_done_2 rfl ?_
  refine tg_if_eq (tgt := 16) X dX8_done_5 (by decide) (fun c3 => ?_) (fun c3 => ?_)
  · have h := tg_ifT c3 h
    refine tg_bipush X dX8_done_16 tk_bm2 ?_
    exact tg_iret X h rfl dX8_done_18
  · have h := tg_ifF c3 h
    refine tg_aload_n X dX8_done_8 rfl 0 rfl ?_
    refine tg_iload_n X dX8_done_9 rfl 1 rfl ?_
    obtain ⟨S4, r5, kS4, h⟩ := tg_bdE h
    refine tg_callV (As := [.int v1]) (rest := []) X 0 (cm_X8_doneOf _ _ _ _ _ kS4) yy_X8_doneOf wv_X8_doneOf ws_X8_doneOf wm_X8_250 rfl cl_X8.1 ⟨rfl, rfl, Nat.le_of_ble_eq_true rfl, Nat.le_of_ble_eq_true rfl⟩ rfl rfl (Nat.le_of_ble_eq_true rfl) dX8_done_10 rfl ?_
    refine tg_goto (tgt := 18) X dX8_done_13 (by decide) ?_
    exact tg_iret X h rfl dX8_done_18
theorem cm_X8_done (l : Launch) (D : va_G) (cy : Bool → ClassId) (ad : Nat → Nat) (tS : Nat) {S Sf : tg_S} {v1 : Int32} {r : Int32} (h : f_X8_done  S v1 = some (Sf, r)) : tg_Met l yX8_done cX8_done 2 (some .int) zr_X8_done tauR D cy ad tS S [.ref (ad 0), .int v1] Sf (some (.int r)) := tg_mk (by decide +kernel) trivial (Nat.le_of_ble_eq_true rfl) (fun p e s m args below meth c Q A X => w_X8_done_0 X S v1 h)
-- X8_spentOf
def zr_X8_spentOf : Room := { frames := 7, cells := 0, slots := 0, locals := 160 }
theorem dX8_spentOf_0 : decode cX8_spentOf 0 = .ok (.aload_n 0, 1) := by decide +kernel
theorem dX8_spentOf_1 : decode cX8_spentOf 1 = .ok (.invokevirtual 235, 3) := by decide +kernel
theorem dX8_spentOf_4 : decode cX8_spentOf 4 = .ok (.iconst 0, 1) := by decide +kernel
theorem dX8_spentOf_5 : decode cX8_spentOf 5 = .ok (.istore_n 1, 1) := by decide +kernel
theorem dX8_spentOf_6 : decode cX8_spentOf 6 = .ok (.iconst 0, 1) := by decide +kernel
theorem dX8_spentOf_7 : decode cX8_spentOf 7 = .ok (.istore_n 2, 1) := by decide +kernel
theorem dX8_spentOf_8 : decode cX8_spentOf 8 = .ok (.iload_n 2, 1) := by decide +kernel
theorem dX8_spentOf_9 : decode cX8_spentOf 9 = .ok (.bipush 16, 2) := by decide +kernel
theorem dX8_spentOf_11 : decode cX8_spentOf 11 = .ok (.if_icmp .ge 36, 3) := by decide +kernel
theorem dX8_spentOf_14 : decode cX8_spentOf 14 = .ok (.iload_n 1, 1) := by decide +kernel
theorem dX8_spentOf_15 : decode cX8_spentOf 15 = .ok (.aload_n 0, 1) := by decide +kernel
theorem dX8_spentOf_16 : decode cX8_spentOf 16 = .ok (.iload_n 2, 1) := by decide +kernel
theorem dX8_spentOf_17 : decode cX8_spentOf 17 = .ok (.invokevirtual 141, 3) := by decide +kernel
theorem dX8_spentOf_20 : decode cX8_spentOf 20 = .ok (.ifCond .eq 18, 3) := by decide +kernel
theorem dX8_spentOf_23 : decode cX8_spentOf 23 = .ok (.aload_n 0, 1) := by decide +kernel
theorem dX8_spentOf_24 : decode cX8_spentOf 24 = .ok (.getfield 52, 3) := by decide +kernel
theorem dX8_spentOf_27 : decode cX8_spentOf 27 = .ok (.iload_n 2, 1) := by decide +kernel
theorem dX8_spentOf_28 : decode cX8_spentOf 28 = .ok (.iaload, 1) := by decide +kernel
theorem dX8_spentOf_29 : decode cX8_spentOf 29 = .ok (.ifCond .ne 9, 3) := by decide +kernel
theorem dX8_spentOf_32 : decode cX8_spentOf 32 = .ok (.iconst 1, 1) := by decide +kernel
theorem dX8_spentOf_33 : decode cX8_spentOf 33 = .ok (.iload_n 2, 1) := by decide +kernel
theorem dX8_spentOf_34 : decode cX8_spentOf 34 = .ok (.ishl, 1) := by decide +kernel
theorem dX8_spentOf_35 : decode cX8_spentOf 35 = .ok (.goto 4, 3) := by decide +kernel
theorem dX8_spentOf_38 : decode cX8_spentOf 38 = .ok (.iconst 0, 1) := by decide +kernel
theorem dX8_spentOf_39 : decode cX8_spentOf 39 = .ok (.ior, 1) := by decide +kernel
theorem dX8_spentOf_40 : decode cX8_spentOf 40 = .ok (.istore_n 1, 1) := by decide +kernel
theorem dX8_spentOf_41 : decode cX8_spentOf 41 = .ok (.iinc 2 1, 3) := by decide +kernel
theorem dX8_spentOf_44 : decode cX8_spentOf 44 = .ok (.goto (-36), 3) := by decide +kernel
theorem dX8_spentOf_47 : decode cX8_spentOf 47 = .ok (.iload_n 1, 1) := by decide +kernel
theorem dX8_spentOf_48 : decode cX8_spentOf 48 = .ok (.ireturn, 1) := by decide +kernel
set_option maxRecDepth 20000 in
set_option maxHeartbeats 4000000 in
theorem w_X8_spentOf_39 {x : tg_X} {Sf : tg_S} {r : Int32} {rec8 : tg_S → Int32 → Int32 → Option (tg_S × Int32)} (X : tg_M tauR x cX8_spentOf 3 RX8 zr_X8_spentOf (some .int) Sf (some (.int r))) (hr8 : ∀ (S : tg_S) (v1 : Int32) (v2 : Int32), rec8 S v1 v2 = some (Sf, r) → tg_G tauR x S 8 [(0, .ref (tg_ad x 0)), (1, .int v1), (2, .int v2)] []) (S : tg_S) (v2 : Int32) (s0 : Int32) (s1 : Int32) (h : f_X8_spentOf_39 rec8 S v2 s0 s1 = some (Sf, r)) : tg_G tauR x S 39 [(0, .ref (tg_ad x 0)), (2, .int v2)] [.int s0, .int s1] := by
  unfold f_X8_spentOf_39 at h
  refine tg_ior X dX8_spentOf_39 ?_
  refine tg_topi (fun y1 ey1 => ?_)
  have h := tg_nmE ey1 h
  refine tg_istore_n (lv2 := [(1, .int y1), (0, .ref (tg_ad x 0)), (2, .int v2)]) X dX8_spentOf_40 rfl (by decide) rfl ?_
  obtain ⟨y2, ey2⟩ : ∃ z : Int32, z = v2 + 1 := ⟨_, rfl⟩
  have h := tg_nmE ey2 h
  refine tg_iinc (lv2 := [(2, .int y2), (1, .int y1), (0, .ref (tg_ad x 0))]) X dX8_spentOf_41 2 rfl tk_i1 ey2 (by decide) rfl ?_
  refine tg_goto (tgt := 8) X dX8_spentOf_44 (by decide) ?_
  refine tg_re [2, 1, 0] rfl ?_
  exact hr8 S y1 y2 h
set_option maxRecDepth 20000 in
set_option maxHeartbeats 4000000 in
theorem w_X8_spentOf_38 {x : tg_X} {Sf : tg_S} {r : Int32} {rec8 : tg_S → Int32 → Int32 → Option (tg_S × Int32)} (X : tg_M tauR x cX8_spentOf 3 RX8 zr_X8_spentOf (some .int) Sf (some (.int r))) (hr8 : ∀ (S : tg_S) (v1 : Int32) (v2 : Int32), rec8 S v1 v2 = some (Sf, r) → tg_G tauR x S 8 [(0, .ref (tg_ad x 0)), (1, .int v1), (2, .int v2)] []) (S : tg_S) (v2 : Int32) (s0 : Int32) (h : f_X8_spentOf_38 rec8 S v2 s0 = some (Sf, r)) : tg_G tauR x S 38 [(0, .ref (tg_ad x 0)), (2, .int v2)] [.int s0] := by
  unfold f_X8_spentOf_38 at h
  refine tg_iconst X dX8_spentOf_38 tk_i0 ?_
  exact w_X8_spentOf_39 X hr8 S v2 0 s0 h
set_option maxRecDepth 20000 in
set_option maxHeartbeats 4000000 in
theorem w_X8_spentOf_8 {x : tg_X} {Sf : tg_S} {r : Int32} {rec8 : tg_S → Int32 → Int32 → Option (tg_S × Int32)} (X : tg_M tauR x cX8_spentOf 3 RX8 zr_X8_spentOf (some .int) Sf (some (.int r))) (hr8 : ∀ (S : tg_S) (v1 : Int32) (v2 : Int32), rec8 S v1 v2 = some (Sf, r) → tg_G tauR x S 8 [(0, .ref (tg_ad x 0)), (1, .int v1), (2, .int v2)] []) (S : tg_S) (v1 : Int32) (v2 : Int32) (h : f_X8_spentOf_8 rec8 S v1 v2 = some (Sf, r)) : tg_G tauR x S 8 [(0, .ref (tg_ad x 0)), (1, .int v1), (2, .int v2)] [] := by
  unfold f_X8_spentOf_8 at h
  refine tg_iload_n X dX8_spentOf_8 rfl 2 rfl ?_
  refine tg_bipush X dX8_spentOf_9 tk_b16 ?_
  refine tg_icmp_ge (tgt := 47) X dX8_spentOf_11 (by decide) (fun c1 => ?_) (fun c1 => ?_)
  · have h := tg_ifT c1 h
    refine tg_iload_n X dX8_spentOf_47 rfl 1 rfl ?_
    exact tg_iret X h rfl dX8_spentOf_48
  · have h := tg_ifF c1 h
    refine tg_iload_n X dX8_spentOf_14 rfl 1 rfl ?_
    refine tg_aload_n X dX8_spentOf_15 rfl 0 rfl ?_
    refine tg_iload_n X dX8_spentOf_16 rfl 2 rfl ?_
    obtain ⟨S2, r3, kS2, h⟩ := tg_bdE h
    refine tg_callV (As := [.int v2]) (rest := [.int v1]) X 0 (cm_X8_isThereOne _ _ _ _ _ kS2) yy_X8_isThereOne wv_X8_isThereOne ws_X8_isThereOne wm_X8_141 rfl cl_X8.1 ⟨rfl, rfl, Nat.le_of_ble_eq_true rfl, Nat.le_of_ble_eq_true rfl⟩ rfl rfl (Nat.le_of_ble_eq_true rfl) dX8_spentOf_17 rfl ?_
    refine tg_if_eq (tgt := 38) X dX8_spentOf_20 (by decide) (fun c4 => ?_) (fun c4 => ?_)
    · have h := tg_ifT c4 h
      refine tg_re [0, 2] rfl ?_
      exact w_X8_spentOf_38 X hr8 S2 v2 v1 h
    · have h := tg_ifF c4 h
      refine tg_aload_n X dX8_spentOf_23 rfl 0 rfl ?_
      refine tg_getr X 0 rfl cl_X8 25 (by decide) rfl wf_X8_52 dX8_spentOf_24 ?_
      refine tg_iload_n X dX8_spentOf_27 rfl 2 rfl ?_
      obtain ⟨y5, ey5, by5, h⟩ := tg_rdE h
      refine tg_iald X 15 rfl ey5 by5 dX8_spentOf_28 ?_
      refine tg_if_ne (tgt := 38) X dX8_spentOf_29 (by decide) (fun c6 => ?_) (fun c6 => ?_)
      · have h := tg_ifF c6 h
        refine tg_re [0, 2] rfl ?_
        exact w_X8_spentOf_38 X hr8 S2 v2 v1 h
      · have h := tg_ifT c6 h
        refine tg_iconst X dX8_spentOf_32 tk_i1 ?_
        refine tg_iload_n X dX8_spentOf_33 rfl 2 rfl ?_
        refine tg_ishl X dX8_spentOf_34 ?_
        refine tg_goto (tgt := 39) X dX8_spentOf_35 (by decide) ?_
        refine tg_re [0, 2] rfl ?_
        exact w_X8_spentOf_39 X hr8 S2 v2 (1 <<< (v2 &&& 31)) v1 h
theorem wl_X8_spentOf_8 {x : tg_X} {Sf : tg_S} {r : Int32} (X : tg_M tauR x cX8_spentOf 3 RX8 zr_X8_spentOf (some .int) Sf (some (.int r))) : ∀ (n : Nat) (S : tg_S) (v1 : Int32) (v2 : Int32) (h : L_X8_spentOf_8  n S v1 v2 = some (Sf, r)), tg_G tauR x S 8 [(0, .ref (tg_ad x 0)), (1, .int v1), (2, .int v2)] [] := by
  intro n
  induction n with
  | zero => intro S v1 v2 h; cases h
  | succ n ih => intro S v1 v2 h; exact w_X8_spentOf_8 X  ih S v1 v2 h
set_option maxRecDepth 20000 in
set_option maxHeartbeats 4000000 in
theorem w_X8_spentOf_0 {x : tg_X} {Sf : tg_S} {r : Int32} (X : tg_M tauR x cX8_spentOf 3 RX8 zr_X8_spentOf (some .int) Sf (some (.int r))) (S : tg_S) (h : f_X8_spentOf  S  = some (Sf, r)) : tg_G tauR x S 0 [(0, .ref (tg_ad x 0))] [] := by
  unfold f_X8_spentOf at h
  refine tg_aload_n X dX8_spentOf_0 rfl 0 rfl ?_
  obtain ⟨S1, kS1, h⟩ := tg_bvE h
  refine tg_callV (As := []) (rest := []) X 0 (cm_X8_runsTold _ _ _ _ _ kS1) yy_X8_runsTold wv_X8_runsTold ws_X8_runsTold wm_X8_235 rfl cl_X8.1 ⟨rfl, rfl, Nat.le_of_ble_eq_true rfl, Nat.le_of_ble_eq_true rfl⟩ rfl rfl (Nat.le_of_ble_eq_true rfl) dX8_spentOf_1 rfl ?_
  refine tg_iconst X dX8_spentOf_4 tk_i0 ?_
  refine tg_istore_n (lv2 := [(1, .int 0), (0, .ref (tg_ad x 0))]) X dX8_spentOf_5 rfl (by decide) rfl ?_
  refine tg_iconst X dX8_spentOf_6 tk_i0 ?_
  refine tg_istore_n (lv2 := [(2, .int 0), (1, .int 0), (0, .ref (tg_ad x 0))]) X dX8_spentOf_7 rfl (by decide) rfl ?_
  refine tg_re [2, 1, 0] rfl ?_
  exact wl_X8_spentOf_8 X  tg_F S1 0 0 h
theorem cm_X8_spentOf (l : Launch) (D : va_G) (cy : Bool → ClassId) (ad : Nat → Nat) (tS : Nat) {S Sf : tg_S} {r : Int32} (h : f_X8_spentOf  S  = some (Sf, r)) : tg_Met l yX8_spentOf cX8_spentOf 3 (some .int) zr_X8_spentOf tauR D cy ad tS S [.ref (ad 0)] Sf (some (.int r)) := tg_mk (by decide +kernel) trivial (Nat.le_of_ble_eq_true rfl) (fun p e s m args below meth c Q A X => w_X8_spentOf_0 X S  h)
-- X8_spent
def zr_X8_spent : Room := { frames := 8, cells := 0, slots := 0, locals := 182 }
theorem dX8_spent_0 : decode cX8_spent 0 = .ok (.aload_n 0, 1) := by decide +kernel
theorem dX8_spent_1 : decode cX8_spent 1 = .ok (.invokevirtual 253, 3) := by decide +kernel
theorem dX8_spent_4 : decode cX8_spent 4 = .ok (.ireturn, 1) := by decide +kernel
set_option maxRecDepth 20000 in
set_option maxHeartbeats 4000000 in
theorem w_X8_spent_0 {x : tg_X} {Sf : tg_S} {r : Int32} (X : tg_M tauR x cX8_spent 1 RX8 zr_X8_spent (some .int) Sf (some (.int r))) (S : tg_S) (h : f_X8_spent  S  = some (Sf, r)) : tg_G tauR x S 0 [(0, .ref (tg_ad x 0))] [] := by
  unfold f_X8_spent at h
  refine tg_aload_n X dX8_spent_0 rfl 0 rfl ?_
  obtain ⟨S1, r2, kS1, h⟩ := tg_bdE h
  refine tg_callV (As := []) (rest := []) X 0 (cm_X8_spentOf _ _ _ _ _ kS1) yy_X8_spentOf wv_X8_spentOf ws_X8_spentOf wm_X8_253 rfl cl_X8.1 ⟨rfl, rfl, Nat.le_of_ble_eq_true rfl, Nat.le_of_ble_eq_true rfl⟩ rfl rfl (Nat.le_of_ble_eq_true rfl) dX8_spent_1 rfl ?_
  exact tg_iret X h rfl dX8_spent_4
theorem cm_X8_spent (l : Launch) (D : va_G) (cy : Bool → ClassId) (ad : Nat → Nat) (tS : Nat) {S Sf : tg_S} {r : Int32} (h : f_X8_spent  S  = some (Sf, r)) : tg_Met l yX8_spent cX8_spent 1 (some .int) zr_X8_spent tauR D cy ad tS S [.ref (ad 0)] Sf (some (.int r)) := tg_mk (by decide +kernel) trivial (Nat.le_of_ble_eq_true rfl) (fun p e s m args below meth c Q A X => w_X8_spent_0 X S  h)
-- X8_bestOf
def zr_X8_bestOf : Room := { frames := 7, cells := 0, slots := 0, locals := 160 }
theorem dX8_bestOf_0 : decode cX8_bestOf 0 = .ok (.aload_n 0, 1) := by decide +kernel
theorem dX8_bestOf_1 : decode cX8_bestOf 1 = .ok (.invokevirtual 235, 3) := by decide +kernel
theorem dX8_bestOf_4 : decode cX8_bestOf 4 = .ok (.iconst (-1), 1) := by decide +kernel
theorem dX8_bestOf_5 : decode cX8_bestOf 5 = .ok (.istore_n 1, 1) := by decide +kernel
theorem dX8_bestOf_6 : decode cX8_bestOf 6 = .ok (.iconst 0, 1) := by decide +kernel
theorem dX8_bestOf_7 : decode cX8_bestOf 7 = .ok (.istore_n 2, 1) := by decide +kernel
theorem dX8_bestOf_8 : decode cX8_bestOf 8 = .ok (.iconst 0, 1) := by decide +kernel
theorem dX8_bestOf_9 : decode cX8_bestOf 9 = .ok (.istore_n 3, 1) := by decide +kernel
theorem dX8_bestOf_10 : decode cX8_bestOf 10 = .ok (.iload_n 3, 1) := by decide +kernel
theorem dX8_bestOf_11 : decode cX8_bestOf 11 = .ok (.bipush 16, 2) := by decide +kernel
theorem dX8_bestOf_13 : decode cX8_bestOf 13 = .ok (.if_icmp .ge 46, 3) := by decide +kernel
theorem dX8_bestOf_16 : decode cX8_bestOf 16 = .ok (.aload_n 0, 1) := by decide +kernel
theorem dX8_bestOf_17 : decode cX8_bestOf 17 = .ok (.getfield 55, 3) := by decide +kernel
theorem dX8_bestOf_20 : decode cX8_bestOf 20 = .ok (.iload_n 3, 1) := by decide +kernel
theorem dX8_bestOf_21 : decode cX8_bestOf 21 = .ok (.iaload, 1) := by decide +kernel
theorem dX8_bestOf_22 : decode cX8_bestOf 22 = .ok (.iload_n 2, 1) := by decide +kernel
theorem dX8_bestOf_23 : decode cX8_bestOf 23 = .ok (.if_icmp .le 7, 3) := by decide +kernel
theorem dX8_bestOf_26 : decode cX8_bestOf 26 = .ok (.iload_n 3, 1) := by decide +kernel
theorem dX8_bestOf_27 : decode cX8_bestOf 27 = .ok (.goto 4, 3) := by decide +kernel
theorem dX8_bestOf_30 : decode cX8_bestOf 30 = .ok (.iload_n 1, 1) := by decide +kernel
theorem dX8_bestOf_31 : decode cX8_bestOf 31 = .ok (.istore_n 1, 1) := by decide +kernel
theorem dX8_bestOf_32 : decode cX8_bestOf 32 = .ok (.aload_n 0, 1) := by decide +kernel
theorem dX8_bestOf_33 : decode cX8_bestOf 33 = .ok (.getfield 55, 3) := by decide +kernel
theorem dX8_bestOf_36 : decode cX8_bestOf 36 = .ok (.iload_n 3, 1) := by decide +kernel
theorem dX8_bestOf_37 : decode cX8_bestOf 37 = .ok (.iaload, 1) := by decide +kernel
theorem dX8_bestOf_38 : decode cX8_bestOf 38 = .ok (.iload_n 2, 1) := by decide +kernel
theorem dX8_bestOf_39 : decode cX8_bestOf 39 = .ok (.if_icmp .le 12, 3) := by decide +kernel
theorem dX8_bestOf_42 : decode cX8_bestOf 42 = .ok (.aload_n 0, 1) := by decide +kernel
theorem dX8_bestOf_43 : decode cX8_bestOf 43 = .ok (.getfield 55, 3) := by decide +kernel
theorem dX8_bestOf_46 : decode cX8_bestOf 46 = .ok (.iload_n 3, 1) := by decide +kernel
theorem dX8_bestOf_47 : decode cX8_bestOf 47 = .ok (.iaload, 1) := by decide +kernel
theorem dX8_bestOf_48 : decode cX8_bestOf 48 = .ok (.goto 4, 3) := by decide +kernel
theorem dX8_bestOf_51 : decode cX8_bestOf 51 = .ok (.iload_n 2, 1) := by decide +kernel
theorem dX8_bestOf_52 : decode cX8_bestOf 52 = .ok (.istore_n 2, 1) := by decide +kernel
theorem dX8_bestOf_53 : decode cX8_bestOf 53 = .ok (.iinc 3 1, 3) := by decide +kernel
theorem dX8_bestOf_56 : decode cX8_bestOf 56 = .ok (.goto (-46), 3) := by decide +kernel
theorem dX8_bestOf_59 : decode cX8_bestOf 59 = .ok (.iload_n 1, 1) := by decide +kernel
theorem dX8_bestOf_60 : decode cX8_bestOf 60 = .ok (.ireturn, 1) := by decide +kernel
set_option maxRecDepth 20000 in
set_option maxHeartbeats 4000000 in
theorem w_X8_bestOf_52 {x : tg_X} {Sf : tg_S} {r : Int32} {rec10 : tg_S → Int32 → Int32 → Int32 → Option (tg_S × Int32)} (X : tg_M tauR x cX8_bestOf 4 RX8 zr_X8_bestOf (some .int) Sf (some (.int r))) (hr10 : ∀ (S : tg_S) (v1 : Int32) (v2 : Int32) (v3 : Int32), rec10 S v1 v2 v3 = some (Sf, r) → tg_G tauR x S 10 [(0, .ref (tg_ad x 0)), (1, .int v1), (2, .int v2), (3, .int v3)] []) (S : tg_S) (v1 : Int32) (v3 : Int32) (s0 : Int32) (h : f_X8_bestOf_52 rec10 S v1 v3 s0 = some (Sf, r)) : tg_G tauR x S 52 [(0, .ref (tg_ad x 0)), (1, .int v1), (3, .int v3)] [.int s0] := by
  unfold f_X8_bestOf_52 at h
  refine tg_istore_n (lv2 := [(2, .int s0), (0, .ref (tg_ad x 0)), (1, .int v1), (3, .int v3)]) X dX8_bestOf_52 rfl (by decide) rfl ?_
  obtain ⟨y1, ey1⟩ : ∃ z : Int32, z = v3 + 1 := ⟨_, rfl⟩
  have h := tg_nmE ey1 h
  refine tg_iinc (lv2 := [(3, .int y1), (2, .int s0), (0, .ref (tg_ad x 0)), (1, .int v1)]) X dX8_bestOf_53 3 rfl tk_i1 ey1 (by decide) rfl ?_
  refine tg_goto (tgt := 10) X dX8_bestOf_56 (by decide) ?_
  refine tg_re [2, 3, 1, 0] rfl ?_
  exact hr10 S v1 s0 y1 h
set_option maxRecDepth 20000 in
set_option maxHeartbeats 4000000 in
theorem w_X8_bestOf_31 {x : tg_X} {Sf : tg_S} {r : Int32} {rec10 : tg_S → Int32 → Int32 → Int32 → Option (tg_S × Int32)} (X : tg_M tauR x cX8_bestOf 4 RX8 zr_X8_bestOf (some .int) Sf (some (.int r))) (hr10 : ∀ (S : tg_S) (v1 : Int32) (v2 : Int32) (v3 : Int32), rec10 S v1 v2 v3 = some (Sf, r) → tg_G tauR x S 10 [(0, .ref (tg_ad x 0)), (1, .int v1), (2, .int v2), (3, .int v3)] []) (S : tg_S) (v2 : Int32) (v3 : Int32) (s0 : Int32) (h : f_X8_bestOf_31 rec10 S v2 v3 s0 = some (Sf, r)) : tg_G tauR x S 31 [(0, .ref (tg_ad x 0)), (2, .int v2), (3, .int v3)] [.int s0] := by
  unfold f_X8_bestOf_31 at h
  refine tg_istore_n (lv2 := [(1, .int s0), (0, .ref (tg_ad x 0)), (2, .int v2), (3, .int v3)]) X dX8_bestOf_31 rfl (by decide) rfl ?_
  refine tg_aload_n X dX8_bestOf_32 rfl 1 rfl ?_
  refine tg_getr X 0 rfl cl_X8 26 (by decide) rfl wf_X8_55 dX8_bestOf_33 ?_
  refine tg_iload_n X dX8_bestOf_36 rfl 3 rfl ?_
  obtain ⟨y1, ey1, by1, h⟩ := tg_rdE h
  refine tg_iald X 16 rfl ey1 by1 dX8_bestOf_37 ?_
  refine tg_iload_n X dX8_bestOf_38 rfl 2 rfl ?_
  refine tg_icmp_le (tgt := 51) X dX8_bestOf_39 (by decide) (fun c2 => ?_) (fun c2 => ?_)
  · have h := tg_ifT c2 h
    refine tg_iload_n X dX8_bestOf_51 rfl 2 rfl ?_
    refine tg_re [1, 0, 3] rfl ?_
    exact w_X8_bestOf_52 X hr10 S s0 v3 v2 h
  · have h := tg_ifF c2 h
    refine tg_aload_n X dX8_bestOf_42 rfl 1 rfl ?_
    refine tg_getr X 0 rfl cl_X8 26 (by decide) rfl wf_X8_55 dX8_bestOf_43 ?_
    refine tg_iload_n X dX8_bestOf_46 rfl 3 rfl ?_
    obtain ⟨y3, ey3, by3, h⟩ := tg_rdE h
    refine tg_iald X 16 rfl ey3 by3 dX8_bestOf_47 ?_
    refine tg_goto (tgt := 52) X dX8_bestOf_48 (by decide) ?_
    refine tg_re [1, 0, 3] rfl ?_
    exact w_X8_bestOf_52 X hr10 S s0 v3 y3 h
set_option maxRecDepth 20000 in
set_option maxHeartbeats 4000000 in
theorem w_X8_bestOf_10 {x : tg_X} {Sf : tg_S} {r : Int32} {rec10 : tg_S → Int32 → Int32 → Int32 → Option (tg_S × Int32)} (X : tg_M tauR x cX8_bestOf 4 RX8 zr_X8_bestOf (some .int) Sf (some (.int r))) (hr10 : ∀ (S : tg_S) (v1 : Int32) (v2 : Int32) (v3 : Int32), rec10 S v1 v2 v3 = some (Sf, r) → tg_G tauR x S 10 [(0, .ref (tg_ad x 0)), (1, .int v1), (2, .int v2), (3, .int v3)] []) (S : tg_S) (v1 : Int32) (v2 : Int32) (v3 : Int32) (h : f_X8_bestOf_10 rec10 S v1 v2 v3 = some (Sf, r)) : tg_G tauR x S 10 [(0, .ref (tg_ad x 0)), (1, .int v1), (2, .int v2), (3, .int v3)] [] := by
  unfold f_X8_bestOf_10 at h
  refine tg_iload_n X dX8_bestOf_10 rfl 3 rfl ?_
  refine tg_bipush X dX8_bestOf_11 tk_b16 ?_
  refine tg_icmp_ge (tgt := 59) X dX8_bestOf_13 (by decide) (fun c1 => ?_) (fun c1 => ?_)
  · have h := tg_ifT c1 h
    refine tg_iload_n X dX8_bestOf_59 rfl 1 rfl ?_
    exact tg_iret X h rfl dX8_bestOf_60
  · have h := tg_ifF c1 h
    refine tg_aload_n X dX8_bestOf_16 rfl 0 rfl ?_
    refine tg_getr X 0 rfl cl_X8 26 (by decide) rfl wf_X8_55 dX8_bestOf_17 ?_
    refine tg_iload_n X dX8_bestOf_20 rfl 3 rfl ?_
    obtain ⟨y2, ey2, by2, h⟩ := tg_rdE h
    refine tg_iald X 16 rfl ey2 by2 dX8_bestOf_21 ?_
    refine tg_iload_n X dX8_bestOf_22 rfl 2 rfl ?_
    refine tg_icmp_le (tgt := 30) X dX8_bestOf_23 (by decide) (fun c3 => ?_) (fun c3 => ?_)
    · rw [if_pos c3] at h
      refine tg_iload_n X dX8_bestOf_30 rfl 1 rfl ?_
      refine tg_re [0, 2, 3] rfl ?_
      exact w_X8_bestOf_31 X hr10 S v2 v3 v1 h
    · rw [if_neg c3] at h
      refine tg_iload_n X dX8_bestOf_26 rfl 3 rfl ?_
      refine tg_goto (tgt := 31) X dX8_bestOf_27 (by decide) ?_
      refine tg_re [0, 2, 3] rfl ?_
      exact w_X8_bestOf_31 X hr10 S v2 v3 v3 h
theorem wl_X8_bestOf_10 {x : tg_X} {Sf : tg_S} {r : Int32} (X : tg_M tauR x cX8_bestOf 4 RX8 zr_X8_bestOf (some .int) Sf (some (.int r))) : ∀ (n : Nat) (S : tg_S) (v1 : Int32) (v2 : Int32) (v3 : Int32) (h : L_X8_bestOf_10  n S v1 v2 v3 = some (Sf, r)), tg_G tauR x S 10 [(0, .ref (tg_ad x 0)), (1, .int v1), (2, .int v2), (3, .int v3)] [] := by
  intro n
  induction n with
  | zero => intro S v1 v2 v3 h; cases h
  | succ n ih => intro S v1 v2 v3 h; exact w_X8_bestOf_10 X  ih S v1 v2 v3 h
set_option maxRecDepth 20000 in
set_option maxHeartbeats 4000000 in
theorem w_X8_bestOf_0 {x : tg_X} {Sf : tg_S} {r : Int32} (X : tg_M tauR x cX8_bestOf 4 RX8 zr_X8_bestOf (some .int) Sf (some (.int r))) (S : tg_S) (h : f_X8_bestOf  S  = some (Sf, r)) : tg_G tauR x S 0 [(0, .ref (tg_ad x 0))] [] := by
  unfold f_X8_bestOf at h
  refine tg_aload_n X dX8_bestOf_0 rfl 0 rfl ?_
  obtain ⟨S1, kS1, h⟩ := tg_bvE h
  refine tg_callV (As := []) (rest := []) X 0 (cm_X8_runsTold _ _ _ _ _ kS1) yy_X8_runsTold wv_X8_runsTold ws_X8_runsTold wm_X8_235 rfl cl_X8.1 ⟨rfl, rfl, Nat.le_of_ble_eq_true rfl, Nat.le_of_ble_eq_true rfl⟩ rfl rfl (Nat.le_of_ble_eq_true rfl) dX8_bestOf_1 rfl ?_
  refine tg_iconst X dX8_bestOf_4 tk_im1 ?_
  refine tg_topi (fun y2 ey2 => ?_)
  have h := tg_nmE ey2 h
  refine tg_istore_n (lv2 := [(1, .int y2), (0, .ref (tg_ad x 0))]) X dX8_bestOf_5 rfl (by decide) rfl ?_
  refine tg_iconst X dX8_bestOf_6 tk_i0 ?_
  refine tg_istore_n (lv2 := [(2, .int 0), (1, .int y2), (0, .ref (tg_ad x 0))]) X dX8_bestOf_7 rfl (by decide) rfl ?_
  refine tg_iconst X dX8_bestOf_8 tk_i0 ?_
  refine tg_istore_n (lv2 := [(3, .int 0), (2, .int 0), (1, .int y2), (0, .ref (tg_ad x 0))]) X dX8_bestOf_9 rfl (by decide) rfl ?_
  refine tg_re [3, 2, 1, 0] rfl ?_
  exact wl_X8_bestOf_10 X  tg_F S1 y2 0 0 h
theorem cm_X8_bestOf (l : Launch) (D : va_G) (cy : Bool → ClassId) (ad : Nat → Nat) (tS : Nat) {S Sf : tg_S} {r : Int32} (h : f_X8_bestOf  S  = some (Sf, r)) : tg_Met l yX8_bestOf cX8_bestOf 4 (some .int) zr_X8_bestOf tauR D cy ad tS S [.ref (ad 0)] Sf (some (.int r)) := tg_mk (by decide +kernel) trivial (Nat.le_of_ble_eq_true rfl) (fun p e s m args below meth c Q A X => w_X8_bestOf_0 X S  h)
-- X8_best
def zr_X8_best : Room := { frames := 8, cells := 0, slots := 0, locals := 183 }
theorem dX8_best_0 : decode cX8_best 0 = .ok (.aload_n 0, 1) := by decide +kernel
theorem dX8_best_1 : decode cX8_best 1 = .ok (.invokevirtual 257, 3) := by decide +kernel
theorem dX8_best_4 : decode cX8_best 4 = .ok (.ireturn, 1) := by decide +kernel
set_option maxRecDepth 20000 in
set_option maxHeartbeats 4000000 in
theorem w_X8_best_0 {x : tg_X} {Sf : tg_S} {r : Int32} (X : tg_M tauR x cX8_best 1 RX8 zr_X8_best (some .int) Sf (some (.int r))) (S : tg_S) (h : f_X8_best  S  = some (Sf, r)) : tg_G tauR x S 0 [(0, .ref (tg_ad x 0))] [] := by
  unfold f_X8_best at h
  refine tg_aload_n X dX8_best_0 rfl 0 rfl ?_
  obtain ⟨S1, r2, kS1, h⟩ := tg_bdE h
  refine tg_callV (As := []) (rest := []) X 0 (cm_X8_bestOf _ _ _ _ _ kS1) yy_X8_bestOf wv_X8_bestOf ws_X8_bestOf wm_X8_257 rfl cl_X8.1 ⟨rfl, rfl, Nat.le_of_ble_eq_true rfl, Nat.le_of_ble_eq_true rfl⟩ rfl rfl (Nat.le_of_ble_eq_true rfl) dX8_best_1 rfl ?_
  exact tg_iret X h rfl dX8_best_4
theorem cm_X8_best (l : Launch) (D : va_G) (cy : Bool → ClassId) (ad : Nat → Nat) (tS : Nat) {S Sf : tg_S} {r : Int32} (h : f_X8_best  S  = some (Sf, r)) : tg_Met l yX8_best cX8_best 1 (some .int) zr_X8_best tauR D cy ad tS S [.ref (ad 0)] Sf (some (.int r)) := tg_mk (by decide +kernel) trivial (Nat.le_of_ble_eq_true rfl) (fun p e s m args below meth c Q A X => w_X8_best_0 X S  h)
-- X8_levelOf
def zr_X8_levelOf : Room := { frames := 7, cells := 0, slots := 0, locals := 160 }
theorem dX8_levelOf_0 : decode cX8_levelOf 0 = .ok (.aload_n 0, 1) := by decide +kernel
theorem dX8_levelOf_1 : decode cX8_levelOf 1 = .ok (.invokevirtual 235, 3) := by decide +kernel
theorem dX8_levelOf_4 : decode cX8_levelOf 4 = .ok (.aload_n 0, 1) := by decide +kernel
theorem dX8_levelOf_5 : decode cX8_levelOf 5 = .ok (.getfield 200, 3) := by decide +kernel
theorem dX8_levelOf_8 : decode cX8_levelOf 8 = .ok (.ireturn, 1) := by decide +kernel
set_option maxRecDepth 20000 in
set_option maxHeartbeats 4000000 in
theorem w_X8_levelOf_0 {x : tg_X} {Sf : tg_S} {r : Int32} (X : tg_M tauR x cX8_levelOf 1 RX8 zr_X8_levelOf (some .int) Sf (some (.int r))) (S : tg_S) (h : f_X8_levelOf  S  = some (Sf, r)) : tg_G tauR x S 0 [(0, .ref (tg_ad x 0))] [] := by
  unfold f_X8_levelOf at h
  refine tg_aload_n X dX8_levelOf_0 rfl 0 rfl ?_
  obtain ⟨S1, kS1, h⟩ := tg_bvE h
  refine tg_callV (As := []) (rest := []) X 0 (cm_X8_runsTold _ _ _ _ _ kS1) yy_X8_runsTold wv_X8_runsTold ws_X8_runsTold wm_X8_235 rfl cl_X8.1 ⟨rfl, rfl, Nat.le_of_ble_eq_true rfl, Nat.le_of_ble_eq_true rfl⟩ rfl rfl (Nat.le_of_ble_eq_true rfl) dX8_levelOf_1 rfl ?_
  refine tg_aload_n X dX8_levelOf_4 rfl 0 rfl ?_
  refine tg_geti X 0 rfl cl_X8 24 (by decide) rfl wf_X8_200 dX8_levelOf_5 ?_
  exact tg_iret X h rfl dX8_levelOf_8
theorem cm_X8_levelOf (l : Launch) (D : va_G) (cy : Bool → ClassId) (ad : Nat → Nat) (tS : Nat) {S Sf : tg_S} {r : Int32} (h : f_X8_levelOf  S  = some (Sf, r)) : tg_Met l yX8_levelOf cX8_levelOf 1 (some .int) zr_X8_levelOf tauR D cy ad tS S [.ref (ad 0)] Sf (some (.int r)) := tg_mk (by decide +kernel) trivial (Nat.le_of_ble_eq_true rfl) (fun p e s m args below meth c Q A X => w_X8_levelOf_0 X S  h)
-- X8_level
def zr_X8_level : Room := { frames := 8, cells := 0, slots := 0, locals := 180 }
theorem dX8_level_0 : decode cX8_level 0 = .ok (.aload_n 0, 1) := by decide +kernel
theorem dX8_level_1 : decode cX8_level 1 = .ok (.invokevirtual 260, 3) := by decide +kernel
theorem dX8_level_4 : decode cX8_level 4 = .ok (.ireturn, 1) := by decide +kernel
set_option maxRecDepth 20000 in
set_option maxHeartbeats 4000000 in
theorem w_X8_level_0 {x : tg_X} {Sf : tg_S} {r : Int32} (X : tg_M tauR x cX8_level 1 RX8 zr_X8_level (some .int) Sf (some (.int r))) (S : tg_S) (h : f_X8_level  S  = some (Sf, r)) : tg_G tauR x S 0 [(0, .ref (tg_ad x 0))] [] := by
  unfold f_X8_level at h
  refine tg_aload_n X dX8_level_0 rfl 0 rfl ?_
  obtain ⟨S1, r2, kS1, h⟩ := tg_bdE h
  refine tg_callV (As := []) (rest := []) X 0 (cm_X8_levelOf _ _ _ _ _ kS1) yy_X8_levelOf wv_X8_levelOf ws_X8_levelOf wm_X8_260 rfl cl_X8.1 ⟨rfl, rfl, Nat.le_of_ble_eq_true rfl, Nat.le_of_ble_eq_true rfl⟩ rfl rfl (Nat.le_of_ble_eq_true rfl) dX8_level_1 rfl ?_
  exact tg_iret X h rfl dX8_level_4
theorem cm_X8_level (l : Launch) (D : va_G) (cy : Bool → ClassId) (ad : Nat → Nat) (tS : Nat) {S Sf : tg_S} {r : Int32} (h : f_X8_level  S  = some (Sf, r)) : tg_Met l yX8_level cX8_level 1 (some .int) zr_X8_level tauR D cy ad tS S [.ref (ad 0)] Sf (some (.int r)) := tg_mk (by decide +kernel) trivial (Nat.le_of_ble_eq_true rfl) (fun p e s m args below meth c Q A X => w_X8_level_0 X S  h)
-- X8_starts
def zr_X8_starts : Room := { frames := 6, cells := 0, slots := 0, locals := 140 }
theorem dX8_starts_0 : decode cX8_starts 0 = .ok (.aload_n 0, 1) := by decide +kernel
theorem dX8_starts_1 : decode cX8_starts 1 = .ok (.invokevirtual 229, 3) := by decide +kernel
theorem dX8_starts_4 : decode cX8_starts 4 = .ok (.aload_n 0, 1) := by decide +kernel
theorem dX8_starts_5 : decode cX8_starts 5 = .ok (.iconst (-1), 1) := by decide +kernel
theorem dX8_starts_6 : decode cX8_starts 6 = .ok (.putfield 263, 3) := by decide +kernel
theorem dX8_starts_9 : decode cX8_starts 9 = .ok (.aload_n 0, 1) := by decide +kernel
theorem dX8_starts_10 : decode cX8_starts 10 = .ok (.iconst (-1), 1) := by decide +kernel
theorem dX8_starts_11 : decode cX8_starts 11 = .ok (.putfield 266, 3) := by decide +kernel
theorem dX8_starts_14 : decode cX8_starts 14 = .ok (.return_, 1) := by decide +kernel
set_option maxRecDepth 20000 in
set_option maxHeartbeats 4000000 in
theorem w_X8_starts_0 {x : tg_X} {Sf : tg_S} (X : tg_M tauR x cX8_starts 1 RX8 zr_X8_starts none Sf none) (S : tg_S) (h : f_X8_starts  S  = some Sf) : tg_G tauR x S 0 [(0, .ref (tg_ad x 0))] [] := by
  unfold f_X8_starts at h
  refine tg_aload_n X dX8_starts_0 rfl 0 rfl ?_
  obtain ⟨S1, kS1, h⟩ := tg_bvE h
  refine tg_callV (As := []) (rest := []) X 0 (cm_X8_asTold _ _ _ _ _ kS1) yy_X8_asTold wv_X8_asTold ws_X8_asTold wm_X8_229 rfl cl_X8.1 ⟨rfl, rfl, Nat.le_of_ble_eq_true rfl, Nat.le_of_ble_eq_true rfl⟩ rfl rfl (Nat.le_of_ble_eq_true rfl) dX8_starts_1 rfl ?_
  refine tg_aload_n X dX8_starts_4 rfl 0 rfl ?_
  refine tg_iconst X dX8_starts_5 tk_im1 ?_
  obtain ⟨S2, eS2, h⟩ := tg_pfE h
  refine tg_puti X 0 rfl cl_X8 34 (by decide) rfl wf_X8_263 rfl rfl rfl dX8_starts_6 eS2 ?_
  refine tg_aload_n X dX8_starts_9 rfl 0 rfl ?_
  refine tg_iconst X dX8_starts_10 tk_im1 ?_
  obtain ⟨S3, eS3, h⟩ := tg_pfE h
  refine tg_puti X 0 rfl cl_X8 35 (by decide) rfl wf_X8_266 rfl rfl rfl dX8_starts_11 eS3 ?_
  exact tg_vret X h dX8_starts_14
theorem cm_X8_starts (l : Launch) (D : va_G) (cy : Bool → ClassId) (ad : Nat → Nat) (tS : Nat) {S Sf : tg_S} (h : f_X8_starts  S  = some Sf) : tg_Met l yX8_starts cX8_starts 1 none zr_X8_starts tauR D cy ad tS S [.ref (ad 0)] Sf none := tg_mk (by decide +kernel) trivial (Nat.le_of_ble_eq_true rfl) (fun p e s m args below meth c Q A X => w_X8_starts_0 X S  h)
-- X8_tries
def zr_X8_tries : Room := { frames := 5, cells := 0, slots := 0, locals := 109 }
theorem dX8_tries_0 : decode cX8_tries 0 = .ok (.aload_n 0, 1) := by decide +kernel
theorem dX8_tries_1 : decode cX8_tries 1 = .ok (.invokevirtual 232, 3) := by decide +kernel
theorem dX8_tries_4 : decode cX8_tries 4 = .ok (.aload_n 0, 1) := by decide +kernel
theorem dX8_tries_5 : decode cX8_tries 5 = .ok (.getfield 263, 3) := by decide +kernel
theorem dX8_tries_8 : decode cX8_tries 8 = .ok (.iconst (-1), 1) := by decide +kernel
theorem dX8_tries_9 : decode cX8_tries 9 = .ok (.if_icmp .eq 32, 3) := by decide +kernel
theorem dX8_tries_12 : decode cX8_tries 12 = .ok (.iload_n 2, 1) := by decide +kernel
theorem dX8_tries_13 : decode cX8_tries 13 = .ok (.ifCond .ne 17, 3) := by decide +kernel
theorem dX8_tries_16 : decode cX8_tries 16 = .ok (.aload_n 0, 1) := by decide +kernel
theorem dX8_tries_17 : decode cX8_tries 17 = .ok (.getfield 203, 3) := by decide +kernel
theorem dX8_tries_20 : decode cX8_tries 20 = .ok (.aload_n 0, 1) := by decide +kernel
theorem dX8_tries_21 : decode cX8_tries 21 = .ok (.getfield 266, 3) := by decide +kernel
theorem dX8_tries_24 : decode cX8_tries 24 = .ok (.if_icmp .le 21, 3) := by decide +kernel
theorem dX8_tries_27 : decode cX8_tries 27 = .ok (.goto 14, 3) := by decide +kernel
theorem dX8_tries_30 : decode cX8_tries 30 = .ok (.aload_n 0, 1) := by decide +kernel
theorem dX8_tries_31 : decode cX8_tries 31 = .ok (.getfield 203, 3) := by decide +kernel
theorem dX8_tries_34 : decode cX8_tries 34 = .ok (.aload_n 0, 1) := by decide +kernel
theorem dX8_tries_35 : decode cX8_tries 35 = .ok (.getfield 266, 3) := by decide +kernel
theorem dX8_tries_38 : decode cX8_tries 38 = .ok (.if_icmp .ge 7, 3) := by decide +kernel
theorem dX8_tries_41 : decode cX8_tries 41 = .ok (.iconst 1, 1) := by decide +kernel
theorem dX8_tries_42 : decode cX8_tries 42 = .ok (.goto 4, 3) := by decide +kernel
theorem dX8_tries_45 : decode cX8_tries 45 = .ok (.iconst 0, 1) := by decide +kernel
theorem dX8_tries_46 : decode cX8_tries 46 = .ok (.istore_n 3, 1) := by decide +kernel
theorem dX8_tries_47 : decode cX8_tries 47 = .ok (.aload_n 0, 1) := by decide +kernel
theorem dX8_tries_48 : decode cX8_tries 48 = .ok (.iload_n 3, 1) := by decide +kernel
theorem dX8_tries_49 : decode cX8_tries 49 = .ok (.ifCond .eq 7, 3) := by decide +kernel
theorem dX8_tries_52 : decode cX8_tries 52 = .ok (.iload_n 1, 1) := by decide +kernel
theorem dX8_tries_53 : decode cX8_tries 53 = .ok (.goto 7, 3) := by decide +kernel
theorem dX8_tries_56 : decode cX8_tries 56 = .ok (.aload_n 0, 1) := by decide +kernel
theorem dX8_tries_57 : decode cX8_tries 57 = .ok (.getfield 263, 3) := by decide +kernel
theorem dX8_tries_60 : decode cX8_tries 60 = .ok (.putfield 263, 3) := by decide +kernel
theorem dX8_tries_63 : decode cX8_tries 63 = .ok (.aload_n 0, 1) := by decide +kernel
theorem dX8_tries_64 : decode cX8_tries 64 = .ok (.iload_n 3, 1) := by decide +kernel
theorem dX8_tries_65 : decode cX8_tries 65 = .ok (.ifCond .eq 10, 3) := by decide +kernel
theorem dX8_tries_68 : decode cX8_tries 68 = .ok (.aload_n 0, 1) := by decide +kernel
theorem dX8_tries_69 : decode cX8_tries 69 = .ok (.getfield 203, 3) := by decide +kernel
theorem dX8_tries_72 : decode cX8_tries 72 = .ok (.goto 7, 3) := by decide +kernel
theorem dX8_tries_75 : decode cX8_tries 75 = .ok (.aload_n 0, 1) := by decide +kernel
theorem dX8_tries_76 : decode cX8_tries 76 = .ok (.getfield 266, 3) := by decide +kernel
theorem dX8_tries_79 : decode cX8_tries 79 = .ok (.putfield 266, 3) := by decide +kernel
theorem dX8_tries_82 : decode cX8_tries 82 = .ok (.return_, 1) := by decide +kernel
set_option maxRecDepth 20000 in
set_option maxHeartbeats 4000000 in
theorem w_X8_tries_60 {x : tg_X} {Sf : tg_S} (X : tg_M tauR x cX8_tries 4 RX8 zr_X8_tries none Sf none) (S : tg_S) (v3 : Int32) (s0 : Int32) (h : f_X8_tries_60  S v3 s0 = some Sf) : tg_G tauR x S 60 [(0, .ref (tg_ad x 0)), (3, .int v3)] [.int s0, .ref (tg_ad x 0)] := by
  unfold f_X8_tries_60 at h
  obtain ⟨S1, eS1, h⟩ := tg_pfE h
  refine tg_puti X 0 rfl cl_X8 34 (by decide) rfl wf_X8_263 rfl rfl rfl dX8_tries_60 eS1 ?_
  refine tg_aload_n X dX8_tries_63 rfl 0 rfl ?_
  refine tg_iload_n X dX8_tries_64 rfl 1 rfl ?_
  refine tg_if_eq (tgt := 75) X dX8_tries_65 (by decide) (fun c2 => ?_) (fun c2 => ?_)
  · have h := tg_ifT c2 h
    refine tg_aload_n X dX8_tries_75 rfl 0 rfl ?_
    refine tg_geti X 0 rfl cl_X8 35 (by decide) rfl wf_X8_266 dX8_tries_76 ?_
    obtain ⟨S3, eS3, h⟩ := tg_pfE h
    refine tg_puti X 0 rfl cl_X8 35 (by decide) rfl wf_X8_266 rfl rfl rfl dX8_tries_79 eS3 ?_
    exact tg_vret X h dX8_tries_82
  · have h := tg_ifF c2 h
    refine tg_aload_n X dX8_tries_68 rfl 0 rfl ?_
    refine tg_geti X 0 rfl cl_X8 21 (by decide) rfl wf_X8_203 dX8_tries_69 ?_
    refine tg_goto (tgt := 79) X dX8_tries_72 (by decide) ?_
    obtain ⟨S4, eS4, h⟩ := tg_pfE h
    refine tg_puti X 0 rfl cl_X8 35 (by decide) rfl wf_X8_266 rfl rfl rfl dX8_tries_79 eS4 ?_
    exact tg_vret X h dX8_tries_82
set_option maxRecDepth 20000 in
set_option maxHeartbeats 4000000 in
theorem w_X8_tries_46 {x : tg_X} {Sf : tg_S} (X : tg_M tauR x cX8_tries 4 RX8 zr_X8_tries none Sf none) (S : tg_S) (v1 : Int32) (s0 : Int32) (h : f_X8_tries_46  S v1 s0 = some Sf) : tg_G tauR x S 46 [(0, .ref (tg_ad x 0)), (1, .int v1)] [.int s0] := by
  unfold f_X8_tries_46 at h
  refine tg_istore_n (lv2 := [(3, .int s0), (0, .ref (tg_ad x 0)), (1, .int v1)]) X dX8_tries_46 rfl (by decide) rfl ?_
  refine tg_aload_n X dX8_tries_47 rfl 1 rfl ?_
  refine tg_iload_n X dX8_tries_48 rfl 0 rfl ?_
  refine tg_if_eq (tgt := 56) X dX8_tries_49 (by decide) (fun c1 => ?_) (fun c1 => ?_)
  · rw [if_pos c1] at h
    refine tg_aload_n X dX8_tries_56 rfl 1 rfl ?_
    refine tg_geti X 0 rfl cl_X8 34 (by decide) rfl wf_X8_263 dX8_tries_57 ?_
    refine tg_re [1, 0] rfl ?_
    exact w_X8_tries_60 X  S s0 (S 0 34) h
  · rw [if_neg c1] at h
    refine tg_iload_n X dX8_tries_52 rfl 2 rfl ?_
    refine tg_goto (tgt := 60) X dX8_tries_53 (by decide) ?_
    refine tg_re [1, 0] rfl ?_
    exact w_X8_tries_60 X  S s0 v1 h
set_option maxRecDepth 20000 in
set_option maxHeartbeats 4000000 in
theorem w_X8_tries_45 {x : tg_X} {Sf : tg_S} (X : tg_M tauR x cX8_tries 4 RX8 zr_X8_tries none Sf none) (S : tg_S) (v1 : Int32) (h : f_X8_tries_45  S v1 = some Sf) : tg_G tauR x S 45 [(0, .ref (tg_ad x 0)), (1, .int v1)] [] := by
  unfold f_X8_tries_45 at h
  refine tg_iconst X dX8_tries_45 tk_i0 ?_
  exact w_X8_tries_46 X  S v1 0 h
set_option maxRecDepth 20000 in
set_option maxHeartbeats 4000000 in
theorem w_X8_tries_41 {x : tg_X} {Sf : tg_S} (X : tg_M tauR x cX8_tries 4 RX8 zr_X8_tries none Sf none) (S : tg_S) (v1 : Int32) (h : f_X8_tries_41  S v1 = some Sf) : tg_G tauR x S 41 [(0, .ref (tg_ad x 0)), (1, .int v1)] [] := by
  unfold f_X8_tries_41 at h
  refine tg_iconst X dX8_tries_41 tk_i1 ?_
  refine tg_goto (tgt := 46) X dX8_tries_42 (by decide) ?_
  exact w_X8_tries_46 X  S v1 1 h
set_option maxRecDepth 20000 in
set_option maxHeartbeats 4000000 in
theorem w_X8_tries_0 {x : tg_X} {Sf : tg_S} (X : tg_M tauR x cX8_tries 4 RX8 zr_X8_tries none Sf none) (S : tg_S) (v1 : Int32) (v2 : Int32) (h : f_X8_tries  S v1 v2 = some Sf) : tg_G tauR x S 0 [(0, .ref (tg_ad x 0)), (1, .int v1), (2, .int v2)] [] := by
  unfold f_X8_tries at h
  refine tg_aload_n X dX8_tries_0 rfl 0 rfl ?_
  obtain ⟨S1, kS1, h⟩ := tg_bvE h
  refine tg_callV (As := []) (rest := []) X 0 (cm_X8_runs _ _ _ _ _ kS1) yy_X8_runs wv_X8_runs ws_X8_runs wm_X8_232 rfl cl_X8.1 ⟨rfl, rfl, Nat.le_of_ble_eq_true rfl, Nat.le_of_ble_eq_true rfl⟩ rfl rfl (Nat.le_of_ble_eq_true rfl) dX8_tries_1 rfl ?_
  refine tg_aload_n X dX8_tries_4 rfl 0 rfl ?_
  refine tg_geti X 0 rfl cl_X8 34 (by decide) rfl wf_X8_263 dX8_tries_5 ?_
  refine tg_iconst X dX8_tries_8 tk_im1 ?_
  refine tg_icmp_eq (tgt := 41) X dX8_tries_9 (by decide) (fun c2 => ?_) (fun c2 => ?_)
  · have h := tg_ifT c2 h
    refine tg_re [0, 1] rfl ?_
    exact w_X8_tries_41 X  S1 v1 h
  · have h := tg_ifF c2 h
    refine tg_iload_n X dX8_tries_12 rfl 2 rfl ?_
    refine tg_if_ne (tgt := 30) X dX8_tries_13 (by decide) (fun c3 => ?_) (fun c3 => ?_)
    · have h := tg_ifF c3 h
      refine tg_aload_n X dX8_tries_30 rfl 0 rfl ?_
      refine tg_geti X 0 rfl cl_X8 21 (by decide) rfl wf_X8_203 dX8_tries_31 ?_
      refine tg_aload_n X dX8_tries_34 rfl 0 rfl ?_
      refine tg_geti X 0 rfl cl_X8 35 (by decide) rfl wf_X8_266 dX8_tries_35 ?_
      refine tg_icmp_ge (tgt := 45) X dX8_tries_38 (by decide) (fun c4 => ?_) (fun c4 => ?_)
      · have h := tg_ifT c4 h
        refine tg_re [0, 1] rfl ?_
        exact w_X8_tries_45 X  S1 v1 h
      · have h := tg_ifF c4 h
        refine tg_re [0, 1] rfl ?_
        exact w_X8_tries_41 X  S1 v1 h
    · have h := tg_ifT c3 h
      refine tg_aload_n X dX8_tries_16 rfl 0 rfl ?_
      refine tg_geti X 0 rfl cl_X8 21 (by decide) rfl wf_X8_203 dX8_tries_17 ?_
      refine tg_aload_n X dX8_tries_20 rfl 0 rfl ?_
      refine tg_geti X 0 rfl cl_X8 35 (by decide) rfl wf_X8_266 dX8_tries_21 ?_
      refine tg_icmp_le (tgt := 45) X dX8_tries_24 (by decide) (fun c5 => ?_) (fun c5 => ?_)
      · have h := tg_ifT c5 h
        refine tg_re [0, 1] rfl ?_
        exact w_X8_tries_45 X  S1 v1 h
      · have h := tg_ifF c5 h
        refine tg_goto (tgt := 41) X dX8_tries_27 (by decide) ?_
        refine tg_re [0, 1] rfl ?_
        exact w_X8_tries_41 X  S1 v1 h
theorem cm_X8_tries (l : Launch) (D : va_G) (cy : Bool → ClassId) (ad : Nat → Nat) (tS : Nat) {S Sf : tg_S} {v1 : Int32} {v2 : Int32} (h : f_X8_tries  S v1 v2 = some Sf) : tg_Met l yX8_tries cX8_tries 4 none zr_X8_tries tauR D cy ad tS S [.ref (ad 0), .int v1, .int v2] Sf none := tg_mk (by decide +kernel) trivial (Nat.le_of_ble_eq_true rfl) (fun p e s m args below meth c Q A X => w_X8_tries_0 X S v1 v2 h)
-- X8_betterOf
def zr_X8_betterOf : Room := { frames := 7, cells := 0, slots := 0, locals := 160 }
theorem dX8_betterOf_0 : decode cX8_betterOf 0 = .ok (.aload_n 0, 1) := by decide +kernel
theorem dX8_betterOf_1 : decode cX8_betterOf 1 = .ok (.invokevirtual 269, 3) := by decide +kernel
theorem dX8_betterOf_4 : decode cX8_betterOf 4 = .ok (.iconst 0, 1) := by decide +kernel
theorem dX8_betterOf_5 : decode cX8_betterOf 5 = .ok (.istore 4, 2) := by decide +kernel
theorem dX8_betterOf_7 : decode cX8_betterOf 7 = .ok (.iload 4, 2) := by decide +kernel
theorem dX8_betterOf_9 : decode cX8_betterOf 9 = .ok (.iconst 3, 1) := by decide +kernel
theorem dX8_betterOf_10 : decode cX8_betterOf 10 = .ok (.if_icmp .ge 29, 3) := by decide +kernel
theorem dX8_betterOf_13 : decode cX8_betterOf 13 = .ok (.aload_n 0, 1) := by decide +kernel
theorem dX8_betterOf_14 : decode cX8_betterOf 14 = .ok (.getfield 43, 3) := by decide +kernel
theorem dX8_betterOf_17 : decode cX8_betterOf 17 = .ok (.bipush 24, 2) := by decide +kernel
theorem dX8_betterOf_19 : decode cX8_betterOf 19 = .ok (.iload_n 1, 1) := by decide +kernel
theorem dX8_betterOf_20 : decode cX8_betterOf 20 = .ok (.imul, 1) := by decide +kernel
theorem dX8_betterOf_21 : decode cX8_betterOf 21 = .ok (.iload_n 2, 1) := by decide +kernel
theorem dX8_betterOf_22 : decode cX8_betterOf 22 = .ok (.iadd, 1) := by decide +kernel
theorem dX8_betterOf_23 : decode cX8_betterOf 23 = .ok (.iload 4, 2) := by decide +kernel
theorem dX8_betterOf_25 : decode cX8_betterOf 25 = .ok (.iastore, 1) := by decide +kernel
theorem dX8_betterOf_26 : decode cX8_betterOf 26 = .ok (.aload_n 0, 1) := by decide +kernel
theorem dX8_betterOf_27 : decode cX8_betterOf 27 = .ok (.iload 4, 2) := by decide +kernel
theorem dX8_betterOf_29 : decode cX8_betterOf 29 = .ok (.iload_n 1, 1) := by decide +kernel
theorem dX8_betterOf_30 : decode cX8_betterOf 30 = .ok (.invokevirtual 272, 3) := by decide +kernel
theorem dX8_betterOf_33 : decode cX8_betterOf 33 = .ok (.iinc 4 1, 3) := by decide +kernel
theorem dX8_betterOf_36 : decode cX8_betterOf 36 = .ok (.goto (-29), 3) := by decide +kernel
theorem dX8_betterOf_39 : decode cX8_betterOf 39 = .ok (.iload_n 3, 1) := by decide +kernel
theorem dX8_betterOf_40 : decode cX8_betterOf 40 = .ok (.ifCond .ne 10, 3) := by decide +kernel
theorem dX8_betterOf_43 : decode cX8_betterOf 43 = .ok (.aload_n 0, 1) := by decide +kernel
theorem dX8_betterOf_44 : decode cX8_betterOf 44 = .ok (.getfield 263, 3) := by decide +kernel
theorem dX8_betterOf_47 : decode cX8_betterOf 47 = .ok (.goto 7, 3) := by decide +kernel
theorem dX8_betterOf_50 : decode cX8_betterOf 50 = .ok (.aload_n 0, 1) := by decide +kernel
theorem dX8_betterOf_51 : decode cX8_betterOf 51 = .ok (.getfield 266, 3) := by decide +kernel
theorem dX8_betterOf_54 : decode cX8_betterOf 54 = .ok (.ireturn, 1) := by decide +kernel
set_option maxRecDepth 20000 in
set_option maxHeartbeats 4000000 in
theorem w_X8_betterOf_7 {x : tg_X} {Sf : tg_S} {r : Int32} {rec7 : tg_S → Int32 → Int32 → Int32 → Int32 → Option (tg_S × Int32)} (X : tg_M tauR x cX8_betterOf 5 RX8 zr_X8_betterOf (some .int) Sf (some (.int r))) (hr7 : ∀ (S : tg_S) (v1 : Int32) (v2 : Int32) (v3 : Int32) (v4 : Int32), rec7 S v1 v2 v3 v4 = some (Sf, r) → tg_G tauR x S 7 [(0, .ref (tg_ad x 0)), (1, .int v1), (2, .int v2), (3, .int v3), (4, .int v4)] []) (S : tg_S) (v1 : Int32) (v2 : Int32) (v3 : Int32) (v4 : Int32) (h : f_X8_betterOf_7 rec7 S v1 v2 v3 v4 = some (Sf, r)) : tg_G tauR x S 7 [(0, .ref (tg_ad x 0)), (1, .int v1), (2, .int v2), (3, .int v3), (4, .int v4)] [] := by
  unfold f_X8_betterOf_7 at h
  refine tg_iload X dX8_betterOf_7 4 rfl ?_
  refine tg_iconst X dX8_betterOf_9 tk_i3 ?_
  refine tg_icmp_ge (tgt := 39) X dX8_betterOf_10 (by decide) (fun c1 => ?_) (fun c1 => ?_)
  · have h := tg_ifT c1 h
    refine tg_iload_n X dX8_betterOf_39 rfl 3 rfl ?_
    refine tg_if_ne (tgt := 50) X dX8_betterOf_40 (by decide) (fun c2 => ?_) (fun c2 => ?_)
    · have h := tg_ifF c2 h
      refine tg_aload_n X dX8_betterOf_50 rfl 0 rfl ?_
      refine tg_geti X 0 rfl cl_X8 35 (by decide) rfl wf_X8_266 dX8_betterOf_51 ?_
      exact tg_iret X h rfl dX8_betterOf_54
    · have h := tg_ifT c2 h
      refine tg_aload_n X dX8_betterOf_43 rfl 0 rfl ?_
      refine tg_geti X 0 rfl cl_X8 34 (by decide) rfl wf_X8_263 dX8_betterOf_44 ?_
      refine tg_goto (tgt := 54) X dX8_betterOf_47 (by decide) ?_
      exact tg_iret X h rfl dX8_betterOf_54
  · have h := tg_ifF c1 h
    refine tg_aload_n X dX8_betterOf_13 rfl 0 rfl ?_
    refine tg_getr X 0 rfl cl_X8 13 (by decide) rfl wf_X8_43 dX8_betterOf_14 ?_
    refine tg_bipush X dX8_betterOf_17 tk_b24 ?_
    refine tg_iload_n X dX8_betterOf_19 rfl 1 rfl ?_
    refine tg_imul X dX8_betterOf_20 ?_
    refine tg_iload_n X dX8_betterOf_21 rfl 2 rfl ?_
    refine tg_iadd X dX8_betterOf_22 ?_
    refine tg_iload X dX8_betterOf_23 4 rfl ?_
    obtain ⟨S3, eS3, bS3, h⟩ := tg_wrE h
    refine tg_iast X 12 rfl bS3 dX8_betterOf_25 eS3 ?_
    refine tg_aload_n X dX8_betterOf_26 rfl 0 rfl ?_
    refine tg_iload X dX8_betterOf_27 4 rfl ?_
    refine tg_iload_n X dX8_betterOf_29 rfl 1 rfl ?_
    obtain ⟨S4, kS4, h⟩ := tg_bvE h
    refine tg_callV (As := [.int v4, .int v1]) (rest := []) X 0 (cm_X8_tries _ _ _ _ _ kS4) yy_X8_tries wv_X8_tries ws_X8_tries wm_X8_272 rfl cl_X8.1 ⟨rfl, rfl, Nat.le_of_ble_eq_true rfl, Nat.le_of_ble_eq_true rfl⟩ rfl rfl (Nat.le_of_ble_eq_true rfl) dX8_betterOf_30 rfl ?_
    obtain ⟨y5, ey5⟩ : ∃ z : Int32, z = v4 + 1 := ⟨_, rfl⟩
    have h := tg_nmE ey5 h
    refine tg_iinc (lv2 := [(4, .int y5), (0, .ref (tg_ad x 0)), (1, .int v1), (2, .int v2), (3, .int v3)]) X dX8_betterOf_33 4 rfl tk_i1 ey5 (by decide) rfl ?_
    refine tg_goto (tgt := 7) X dX8_betterOf_36 (by decide) ?_
    refine tg_re [1, 2, 3, 4, 0] rfl ?_
    exact hr7 S4 v1 v2 v3 y5 h
theorem wl_X8_betterOf_7 {x : tg_X} {Sf : tg_S} {r : Int32} (X : tg_M tauR x cX8_betterOf 5 RX8 zr_X8_betterOf (some .int) Sf (some (.int r))) : ∀ (n : Nat) (S : tg_S) (v1 : Int32) (v2 : Int32) (v3 : Int32) (v4 : Int32) (h : L_X8_betterOf_7  n S v1 v2 v3 v4 = some (Sf, r)), tg_G tauR x S 7 [(0, .ref (tg_ad x 0)), (1, .int v1), (2, .int v2), (3, .int v3), (4, .int v4)] [] := by
  intro n
  induction n with
  | zero => intro S v1 v2 v3 v4 h; cases h
  | succ n ih => intro S v1 v2 v3 v4 h; exact w_X8_betterOf_7 X  ih S v1 v2 v3 v4 h
set_option maxRecDepth 20000 in
set_option maxHeartbeats 4000000 in
theorem w_X8_betterOf_0 {x : tg_X} {Sf : tg_S} {r : Int32} (X : tg_M tauR x cX8_betterOf 5 RX8 zr_X8_betterOf (some .int) Sf (some (.int r))) (S : tg_S) (v1 : Int32) (v2 : Int32) (v3 : Int32) (h : f_X8_betterOf  S v1 v2 v3 = some (Sf, r)) : tg_G tauR x S 0 [(0, .ref (tg_ad x 0)), (1, .int v1), (2, .int v2), (3, .int v3)] [] := by
  unfold f_X8_betterOf at h
  refine tg_aload_n X dX8_betterOf_0 rfl 0 rfl ?_
  obtain ⟨S1, kS1, h⟩ := tg_bvE h
  refine tg_callV (As := []) (rest := []) X 0 (cm_X8_starts _ _ _ _ _ kS1) yy_X8_starts wv_X8_starts ws_X8_starts wm_X8_269 rfl cl_X8.1 ⟨rfl, rfl, Nat.le_of_ble_eq_true rfl, Nat.le_of_ble_eq_true rfl⟩ rfl rfl (Nat.le_of_ble_eq_true rfl) dX8_betterOf_1 rfl ?_
  refine tg_iconst X dX8_betterOf_4 tk_i0 ?_
  refine tg_istore (lv2 := [(4, .int 0), (0, .ref (tg_ad x 0)), (1, .int v1), (2, .int v2), (3, .int v3)]) X dX8_betterOf_5 (by decide) rfl ?_
  refine tg_re [1, 2, 3, 4, 0] rfl ?_
  exact wl_X8_betterOf_7 X  tg_F S1 v1 v2 v3 0 h
theorem cm_X8_betterOf (l : Launch) (D : va_G) (cy : Bool → ClassId) (ad : Nat → Nat) (tS : Nat) {S Sf : tg_S} {v1 : Int32} {v2 : Int32} {v3 : Int32} {r : Int32} (h : f_X8_betterOf  S v1 v2 v3 = some (Sf, r)) : tg_Met l yX8_betterOf cX8_betterOf 5 (some .int) zr_X8_betterOf tauR D cy ad tS S [.ref (ad 0), .int v1, .int v2, .int v3] Sf (some (.int r)) := tg_mk (by decide +kernel) trivial (Nat.le_of_ble_eq_true rfl) (fun p e s m args below meth c Q A X => w_X8_betterOf_0 X S v1 v2 v3 h)
-- X8_better
def zr_X8_better : Room := { frames := 8, cells := 0, slots := 0, locals := 184 }
theorem dX8_better_0 : decode cX8_better 0 = .ok (.iload_n 1, 1) := by decide +kernel
theorem dX8_better_1 : decode cX8_better 1 = .ok (.invokestatic 153, 3) := by decide +kernel
theorem dX8_better_4 : decode cX8_better 4 = .ok (.ifCond .eq 27, 3) := by decide +kernel
theorem dX8_better_7 : decode cX8_better 7 = .ok (.iload_n 2, 1) := by decide +kernel
theorem dX8_better_8 : decode cX8_better 8 = .ok (.invokestatic 156, 3) := by decide +kernel
theorem dX8_better_11 : decode cX8_better 11 = .ok (.ifCond .eq 20, 3) := by decide +kernel
theorem dX8_better_14 : decode cX8_better 14 = .ok (.iload_n 3, 1) := by decide +kernel
theorem dX8_better_15 : decode cX8_better 15 = .ok (.invokestatic 153, 3) := by decide +kernel
theorem dX8_better_18 : decode cX8_better 18 = .ok (.ifCond .eq 13, 3) := by decide +kernel
theorem dX8_better_21 : decode cX8_better 21 = .ok (.aload_n 0, 1) := by decide +kernel
theorem dX8_better_22 : decode cX8_better 22 = .ok (.iload_n 1, 1) := by decide +kernel
theorem dX8_better_23 : decode cX8_better 23 = .ok (.iload_n 2, 1) := by decide +kernel
theorem dX8_better_24 : decode cX8_better 24 = .ok (.iload_n 3, 1) := by decide +kernel
theorem dX8_better_25 : decode cX8_better 25 = .ok (.invokevirtual 275, 3) := by decide +kernel
theorem dX8_better_28 : decode cX8_better 28 = .ok (.goto 5, 3) := by decide +kernel
theorem dX8_better_31 : decode cX8_better 31 = .ok (.bipush (-2), 2) := by decide +kernel
theorem dX8_better_33 : decode cX8_better 33 = .ok (.ireturn, 1) := by decide +kernel
set_option maxRecDepth 20000 in
set_option maxHeartbeats 4000000 in
theorem w_X8_better_0 {x : tg_X} {Sf : tg_S} {r : Int32} (X : tg_M tauR x cX8_better 4 RX8 zr_X8_better (some .int) Sf (some (.int r))) (S : tg_S) (v1 : Int32) (v2 : Int32) (v3 : Int32) (h : f_X8_better  S v1 v2 v3 = some (Sf, r)) : tg_G tauR x S 0 [(0, .ref (tg_ad x 0)), (1, .int v1), (2, .int v2), (3, .int v3)] [] := by
  unfold f_X8_better at h
  refine tg_iload_n X dX8_better_0 rfl 1 rfl ?_
  obtain ⟨S1, r2, kS1, h⟩ := tg_bdE h
  refine tg_callS (As := [.int v1]) (rest := []) X (cm_X8_isTwo _ _ _ _ _ kS1) yy_X8_isTwo wt_X8_isTwo wm_X8_153 ⟨rfl, rfl, Nat.le_of_ble_eq_true rfl, Nat.le_of_ble_eq_true rfl⟩ rfl rfl (Nat.le_of_ble_eq_true rfl) dX8_better_1 rfl ?_
  refine tg_if_eq (tgt := 31) X dX8_better_4 (by decide) (fun c3 => ?_) (fun c3 => ?_)
  · have h := tg_ifT c3 h
    refine tg_bipush X dX8_better_31 tk_bm2 ?_
    exact tg_iret X h rfl dX8_better_33
  · have h := tg_ifF c3 h
    refine tg_iload_n X dX8_better_7 rfl 2 rfl ?_
    obtain ⟨S4, r5, kS4, h⟩ := tg_bdE h
    refine tg_callS (As := [.int v2]) (rest := []) X (cm_X8_isBeat _ _ _ _ _ kS4) yy_X8_isBeat wt_X8_isBeat wm_X8_156 ⟨rfl, rfl, Nat.le_of_ble_eq_true rfl, Nat.le_of_ble_eq_true rfl⟩ rfl rfl (Nat.le_of_ble_eq_true rfl) dX8_better_8 rfl ?_
    refine tg_if_eq (tgt := 31) X dX8_better_11 (by decide) (fun c6 => ?_) (fun c6 => ?_)
    · have h := tg_ifT c6 h
      refine tg_bipush X dX8_better_31 tk_bm2 ?_
      exact tg_iret X h rfl dX8_better_33
    · have h := tg_ifF c6 h
      refine tg_iload_n X dX8_better_14 rfl 3 rfl ?_
      obtain ⟨S7, r8, kS7, h⟩ := tg_bdE h
      refine tg_callS (As := [.int v3]) (rest := []) X (cm_X8_isTwo _ _ _ _ _ kS7) yy_X8_isTwo wt_X8_isTwo wm_X8_153 ⟨rfl, rfl, Nat.le_of_ble_eq_true rfl, Nat.le_of_ble_eq_true rfl⟩ rfl rfl (Nat.le_of_ble_eq_true rfl) dX8_better_15 rfl ?_
      refine tg_if_eq (tgt := 31) X dX8_better_18 (by decide) (fun c9 => ?_) (fun c9 => ?_)
      · have h := tg_ifT c9 h
        refine tg_bipush X dX8_better_31 tk_bm2 ?_
        exact tg_iret X h rfl dX8_better_33
      · have h := tg_ifF c9 h
        refine tg_aload_n X dX8_better_21 rfl 0 rfl ?_
        refine tg_iload_n X dX8_better_22 rfl 1 rfl ?_
        refine tg_iload_n X dX8_better_23 rfl 2 rfl ?_
        refine tg_iload_n X dX8_better_24 rfl 3 rfl ?_
        obtain ⟨S10, r11, kS10, h⟩ := tg_bdE h
        refine tg_callV (As := [.int v1, .int v2, .int v3]) (rest := []) X 0 (cm_X8_betterOf _ _ _ _ _ kS10) yy_X8_betterOf wv_X8_betterOf ws_X8_betterOf wm_X8_275 rfl cl_X8.1 ⟨rfl, rfl, Nat.le_of_ble_eq_true rfl, Nat.le_of_ble_eq_true rfl⟩ rfl rfl (Nat.le_of_ble_eq_true rfl) dX8_better_25 rfl ?_
        refine tg_goto (tgt := 33) X dX8_better_28 (by decide) ?_
        exact tg_iret X h rfl dX8_better_33
theorem cm_X8_better (l : Launch) (D : va_G) (cy : Bool → ClassId) (ad : Nat → Nat) (tS : Nat) {S Sf : tg_S} {v1 : Int32} {v2 : Int32} {v3 : Int32} {r : Int32} (h : f_X8_better  S v1 v2 v3 = some (Sf, r)) : tg_Met l yX8_better cX8_better 4 (some .int) zr_X8_better tauR D cy ad tS S [.ref (ad 0), .int v1, .int v2, .int v3] Sf (some (.int r)) := tg_mk (by decide +kernel) trivial (Nat.le_of_ble_eq_true rfl) (fun p e s m args below meth c Q A X => w_X8_better_0 X S v1 v2 v3 h)
-- X8_swapOf
def zr_X8_swapOf : Room := { frames := 7, cells := 0, slots := 0, locals := 160 }
theorem dX8_swapOf_0 : decode cX8_swapOf 0 = .ok (.aload_n 0, 1) := by decide +kernel
theorem dX8_swapOf_1 : decode cX8_swapOf 1 = .ok (.invokevirtual 269, 3) := by decide +kernel
theorem dX8_swapOf_4 : decode cX8_swapOf 4 = .ok (.bipush 8, 2) := by decide +kernel
theorem dX8_swapOf_6 : decode cX8_swapOf 6 = .ok (.iload_n 1, 1) := by decide +kernel
theorem dX8_swapOf_7 : decode cX8_swapOf 7 = .ok (.imul, 1) := by decide +kernel
theorem dX8_swapOf_8 : decode cX8_swapOf 8 = .ok (.istore_n 3, 1) := by decide +kernel
theorem dX8_swapOf_9 : decode cX8_swapOf 9 = .ok (.iload_n 3, 1) := by decide +kernel
theorem dX8_swapOf_10 : decode cX8_swapOf 10 = .ok (.istore 4, 2) := by decide +kernel
theorem dX8_swapOf_12 : decode cX8_swapOf 12 = .ok (.iload 4, 2) := by decide +kernel
theorem dX8_swapOf_14 : decode cX8_swapOf 14 = .ok (.iload_n 3, 1) := by decide +kernel
theorem dX8_swapOf_15 : decode cX8_swapOf 15 = .ok (.aload_n 0, 1) := by decide +kernel
theorem dX8_swapOf_16 : decode cX8_swapOf 16 = .ok (.getfield 16, 3) := by decide +kernel
theorem dX8_swapOf_19 : decode cX8_swapOf 19 = .ok (.iload_n 1, 1) := by decide +kernel
theorem dX8_swapOf_20 : decode cX8_swapOf 20 = .ok (.iaload, 1) := by decide +kernel
theorem dX8_swapOf_21 : decode cX8_swapOf 21 = .ok (.iadd, 1) := by decide +kernel
theorem dX8_swapOf_22 : decode cX8_swapOf 22 = .ok (.if_icmp .ge 95, 3) := by decide +kernel
theorem dX8_swapOf_25 : decode cX8_swapOf 25 = .ok (.iload 4, 2) := by decide +kernel
theorem dX8_swapOf_27 : decode cX8_swapOf 27 = .ok (.iconst 1, 1) := by decide +kernel
theorem dX8_swapOf_28 : decode cX8_swapOf 28 = .ok (.iadd, 1) := by decide +kernel
theorem dX8_swapOf_29 : decode cX8_swapOf 29 = .ok (.istore 5, 2) := by decide +kernel
theorem dX8_swapOf_31 : decode cX8_swapOf 31 = .ok (.iload 5, 2) := by decide +kernel
theorem dX8_swapOf_33 : decode cX8_swapOf 33 = .ok (.iload_n 3, 1) := by decide +kernel
theorem dX8_swapOf_34 : decode cX8_swapOf 34 = .ok (.aload_n 0, 1) := by decide +kernel
theorem dX8_swapOf_35 : decode cX8_swapOf 35 = .ok (.getfield 16, 3) := by decide +kernel
theorem dX8_swapOf_38 : decode cX8_swapOf 38 = .ok (.iload_n 1, 1) := by decide +kernel
theorem dX8_swapOf_39 : decode cX8_swapOf 39 = .ok (.iaload, 1) := by decide +kernel
theorem dX8_swapOf_40 : decode cX8_swapOf 40 = .ok (.iadd, 1) := by decide +kernel
theorem dX8_swapOf_41 : decode cX8_swapOf 41 = .ok (.if_icmp .ge 70, 3) := by decide +kernel
theorem dX8_swapOf_44 : decode cX8_swapOf 44 = .ok (.aload_n 0, 1) := by decide +kernel
theorem dX8_swapOf_45 : decode cX8_swapOf 45 = .ok (.getfield 46, 3) := by decide +kernel
theorem dX8_swapOf_48 : decode cX8_swapOf 48 = .ok (.iload 4, 2) := by decide +kernel
theorem dX8_swapOf_50 : decode cX8_swapOf 50 = .ok (.iload 5, 2) := by decide +kernel
theorem dX8_swapOf_52 : decode cX8_swapOf 52 = .ok (.bipush 8, 2) := by decide +kernel
theorem dX8_swapOf_54 : decode cX8_swapOf 54 = .ok (.irem, 1) := by decide +kernel
theorem dX8_swapOf_55 : decode cX8_swapOf 55 = .ok (.iastore, 1) := by decide +kernel
theorem dX8_swapOf_56 : decode cX8_swapOf 56 = .ok (.aload_n 0, 1) := by decide +kernel
theorem dX8_swapOf_57 : decode cX8_swapOf 57 = .ok (.getfield 46, 3) := by decide +kernel
theorem dX8_swapOf_60 : decode cX8_swapOf 60 = .ok (.iload 5, 2) := by decide +kernel
theorem dX8_swapOf_62 : decode cX8_swapOf 62 = .ok (.iload 4, 2) := by decide +kernel
theorem dX8_swapOf_64 : decode cX8_swapOf 64 = .ok (.bipush 8, 2) := by decide +kernel
theorem dX8_swapOf_66 : decode cX8_swapOf 66 = .ok (.irem, 1) := by decide +kernel
theorem dX8_swapOf_67 : decode cX8_swapOf 67 = .ok (.iastore, 1) := by decide +kernel
theorem dX8_swapOf_68 : decode cX8_swapOf 68 = .ok (.aload_n 0, 1) := by decide +kernel
theorem dX8_swapOf_69 : decode cX8_swapOf 69 = .ok (.bipush 16, 2) := by decide +kernel
theorem dX8_swapOf_71 : decode cX8_swapOf 71 = .ok (.iload 4, 2) := by decide +kernel
theorem dX8_swapOf_73 : decode cX8_swapOf 73 = .ok (.imul, 1) := by decide +kernel
theorem dX8_swapOf_74 : decode cX8_swapOf 74 = .ok (.iload 5, 2) := by decide +kernel
theorem dX8_swapOf_76 : decode cX8_swapOf 76 = .ok (.iadd, 1) := by decide +kernel
theorem dX8_swapOf_77 : decode cX8_swapOf 77 = .ok (.iload_n 1, 1) := by decide +kernel
theorem dX8_swapOf_78 : decode cX8_swapOf 78 = .ok (.invokevirtual 272, 3) := by decide +kernel
theorem dX8_swapOf_81 : decode cX8_swapOf 81 = .ok (.aload_n 0, 1) := by decide +kernel
theorem dX8_swapOf_82 : decode cX8_swapOf 82 = .ok (.getfield 46, 3) := by decide +kernel
theorem dX8_swapOf_85 : decode cX8_swapOf 85 = .ok (.iload 4, 2) := by decide +kernel
theorem dX8_swapOf_87 : decode cX8_swapOf 87 = .ok (.iload 4, 2) := by decide +kernel
theorem dX8_swapOf_89 : decode cX8_swapOf 89 = .ok (.bipush 8, 2) := by decide +kernel
theorem dX8_swapOf_91 : decode cX8_swapOf 91 = .ok (.irem, 1) := by decide +kernel
theorem dX8_swapOf_92 : decode cX8_swapOf 92 = .ok (.iastore, 1) := by decide +kernel
theorem dX8_swapOf_93 : decode cX8_swapOf 93 = .ok (.aload_n 0, 1) := by decide +kernel
theorem dX8_swapOf_94 : decode cX8_swapOf 94 = .ok (.getfield 46, 3) := by decide +kernel
theorem dX8_swapOf_97 : decode cX8_swapOf 97 = .ok (.iload 5, 2) := by decide +kernel
theorem dX8_swapOf_99 : decode cX8_swapOf 99 = .ok (.iload 5, 2) := by decide +kernel
theorem dX8_swapOf_101 : decode cX8_swapOf 101 = .ok (.bipush 8, 2) := by decide +kernel
theorem dX8_swapOf_103 : decode cX8_swapOf 103 = .ok (.irem, 1) := by decide +kernel
theorem dX8_swapOf_104 : decode cX8_swapOf 104 = .ok (.iastore, 1) := by decide +kernel
theorem dX8_swapOf_105 : decode cX8_swapOf 105 = .ok (.iinc 5 1, 3) := by decide +kernel
theorem dX8_swapOf_108 : decode cX8_swapOf 108 = .ok (.goto (-77), 3) := by decide +kernel
theorem dX8_swapOf_111 : decode cX8_swapOf 111 = .ok (.iinc 4 1, 3) := by decide +kernel
theorem dX8_swapOf_114 : decode cX8_swapOf 114 = .ok (.goto (-102), 3) := by decide +kernel
theorem dX8_swapOf_117 : decode cX8_swapOf 117 = .ok (.aload_n 0, 1) := by decide +kernel
theorem dX8_swapOf_118 : decode cX8_swapOf 118 = .ok (.getfield 263, 3) := by decide +kernel
theorem dX8_swapOf_121 : decode cX8_swapOf 121 = .ok (.iconst (-1), 1) := by decide +kernel
theorem dX8_swapOf_122 : decode cX8_swapOf 122 = .ok (.if_icmp .ne 7, 3) := by decide +kernel
theorem dX8_swapOf_125 : decode cX8_swapOf 125 = .ok (.iconst (-1), 1) := by decide +kernel
theorem dX8_swapOf_126 : decode cX8_swapOf 126 = .ok (.goto 36, 3) := by decide +kernel
theorem dX8_swapOf_129 : decode cX8_swapOf 129 = .ok (.iload_n 2, 1) := by decide +kernel
theorem dX8_swapOf_130 : decode cX8_swapOf 130 = .ok (.ifCond .ne 13, 3) := by decide +kernel
theorem dX8_swapOf_133 : decode cX8_swapOf 133 = .ok (.aload_n 0, 1) := by decide +kernel
theorem dX8_swapOf_134 : decode cX8_swapOf 134 = .ok (.getfield 263, 3) := by decide +kernel
theorem dX8_swapOf_137 : decode cX8_swapOf 137 = .ok (.bipush 16, 2) := by decide +kernel
theorem dX8_swapOf_139 : decode cX8_swapOf 139 = .ok (.idiv, 1) := by decide +kernel
theorem dX8_swapOf_140 : decode cX8_swapOf 140 = .ok (.goto 22, 3) := by decide +kernel
theorem dX8_swapOf_143 : decode cX8_swapOf 143 = .ok (.iload_n 2, 1) := by decide +kernel
theorem dX8_swapOf_144 : decode cX8_swapOf 144 = .ok (.iconst 1, 1) := by decide +kernel
theorem dX8_swapOf_145 : decode cX8_swapOf 145 = .ok (.if_icmp .ne 13, 3) := by decide +kernel
theorem dX8_swapOf_148 : decode cX8_swapOf 148 = .ok (.aload_n 0, 1) := by decide +kernel
theorem dX8_swapOf_149 : decode cX8_swapOf 149 = .ok (.getfield 263, 3) := by decide +kernel
theorem dX8_swapOf_152 : decode cX8_swapOf 152 = .ok (.bipush 16, 2) := by decide +kernel
theorem dX8_swapOf_154 : decode cX8_swapOf 154 = .ok (.irem, 1) := by decide +kernel
theorem dX8_swapOf_155 : decode cX8_swapOf 155 = .ok (.goto 7, 3) := by decide +kernel
theorem dX8_swapOf_158 : decode cX8_swapOf 158 = .ok (.aload_n 0, 1) := by decide +kernel
theorem dX8_swapOf_159 : decode cX8_swapOf 159 = .ok (.getfield 266, 3) := by decide +kernel
theorem dX8_swapOf_162 : decode cX8_swapOf 162 = .ok (.ireturn, 1) := by decide +kernel
set_option maxRecDepth 20000 in
set_option maxHeartbeats 4000000 in
theorem w_X8_swapOf_31 {x : tg_X} {Sf : tg_S} {r : Int32} {rec12 : tg_S → Int32 → Int32 → Int32 → Int32 → Option (tg_S × Int32)} {rec31 : tg_S → Int32 → Int32 → Int32 → Int32 → Int32 → Option (tg_S × Int32)} (X : tg_M tauR x cX8_swapOf 6 RX8 zr_X8_swapOf (some .int) Sf (some (.int r))) (hr12 : ∀ (S : tg_S) (v1 : Int32) (v2 : Int32) (v3 : Int32) (v4 : Int32), rec12 S v1 v2 v3 v4 = some (Sf, r) → tg_G tauR x S 12 [(0, .ref (tg_ad x 0)), (1, .int v1), (2, .int v2), (3, .int v3), (4, .int v4)] []) (hr31 : ∀ (S : tg_S) (v1 : Int32) (v2 : Int32) (v3 : Int32) (v4 : Int32) (v5 : Int32), rec31 S v1 v2 v3 v4 v5 = some (Sf, r) → tg_G tauR x S 31 [(0, .ref (tg_ad x 0)), (1, .int v1), (2, .int v2), (3, .int v3), (4, .int v4), (5, .int v5)] []) (S : tg_S) (v1 : Int32) (v2 : Int32) (v3 : Int32) (v4 : Int32) (v5 : Int32) (h : f_X8_swapOf_31 rec12 rec31 S v1 v2 v3 v4 v5 = some (Sf, r)) : tg_G tauR x S 31 [(0, .ref (tg_ad x 0)), (1, .int v1), (2, .int v2), (3, .int v3), (4, .int v4), (5, .int v5)] [] := by
  unfold f_X8_swapOf_31 at h
  refine tg_iload X dX8_swapOf_31 5 rfl ?_
  refine tg_iload_n X dX8_swapOf_33 rfl 3 rfl ?_
  refine tg_aload_n X dX8_swapOf_34 rfl 0 rfl ?_
  refine tg_getr X 0 rfl cl_X8 2 (by decide) rfl wf_X8_16 dX8_swapOf_35 ?_
  refine tg_iload_n X dX8_swapOf_38 rfl 1 rfl ?_
  obtain ⟨y1, ey1, by1, h⟩ := tg_rdE h
  refine tg_iald X 3 rfl ey1 by1 dX8_swapOf_39 ?_
  refine tg_iadd X dX8_swapOf_40 ?_
  refine tg_icmp_ge (tgt := 111) X dX8_swapOf_41 (by decide) (fun c2 => ?_) (fun c2 => ?_)
  · have h := tg_ifT c2 h
    obtain ⟨y3, ey3⟩ : ∃ z : Int32, z = v4 + 1 := ⟨_, rfl⟩
    have h := tg_nmE ey3 h
    refine tg_iinc (lv2 := [(4, .int y3), (0, .ref (tg_ad x 0)), (1, .int v1), (2, .int v2), (3, .int v3), (5, .int v5)]) X dX8_swapOf_111 4 rfl tk_i1 ey3 (by decide) rfl ?_
    refine tg_goto (tgt := 12) X dX8_swapOf_114 (by decide) ?_
    refine tg_re [1, 2, 3, 4, 0] rfl ?_
    exact hr12 S v1 v2 v3 y3 h
  · have h := tg_ifF c2 h
    refine tg_aload_n X dX8_swapOf_44 rfl 0 rfl ?_
    refine tg_getr X 0 rfl cl_X8 15 (by decide) rfl wf_X8_46 dX8_swapOf_45 ?_
    refine tg_iload X dX8_swapOf_48 4 rfl ?_
    refine tg_iload X dX8_swapOf_50 5 rfl ?_
    refine tg_bipush X dX8_swapOf_52 tk_b8 ?_
    refine tg_irem X dX8_swapOf_54 (by decide) ?_
    obtain ⟨S4, eS4, bS4, h⟩ := tg_wrE h
    refine tg_iast X 13 rfl bS4 dX8_swapOf_55 eS4 ?_
    refine tg_aload_n X dX8_swapOf_56 rfl 0 rfl ?_
    refine tg_getr X 0 rfl cl_X8 15 (by decide) rfl wf_X8_46 dX8_swapOf_57 ?_
    refine tg_iload X dX8_swapOf_60 5 rfl ?_
    refine tg_iload X dX8_swapOf_62 4 rfl ?_
    refine tg_bipush X dX8_swapOf_64 tk_b8 ?_
    refine tg_irem X dX8_swapOf_66 (by decide) ?_
    obtain ⟨S5, eS5, bS5, h⟩ := tg_wrE h
    refine tg_iast X 13 rfl bS5 dX8_swapOf_67 eS5 ?_
    refine tg_aload_n X dX8_swapOf_68 rfl 0 rfl ?_
    refine tg_bipush X dX8_swapOf_69 tk_b16 ?_
    refine tg_iload X dX8_swapOf_71 4 rfl ?_
    refine tg_imul X dX8_swapOf_73 ?_
    refine tg_iload X dX8_swapOf_74 5 rfl ?_
    refine tg_iadd X dX8_swapOf_76 ?_
    refine tg_iload_n X dX8_swapOf_77 rfl 1 rfl ?_
    obtain ⟨S6, kS6, h⟩ := tg_bvE h
    refine tg_callV (As := [.int ((16 * v4) + v5), .int v1]) (rest := []) X 0 (cm_X8_tries _ _ _ _ _ kS6) yy_X8_tries wv_X8_tries ws_X8_tries wm_X8_272 rfl cl_X8.1 ⟨rfl, rfl, Nat.le_of_ble_eq_true rfl, Nat.le_of_ble_eq_true rfl⟩ rfl rfl (Nat.le_of_ble_eq_true rfl) dX8_swapOf_78 rfl ?_
    refine tg_aload_n X dX8_swapOf_81 rfl 0 rfl ?_
    refine tg_getr X 0 rfl cl_X8 15 (by decide) rfl wf_X8_46 dX8_swapOf_82 ?_
    refine tg_iload X dX8_swapOf_85 4 rfl ?_
    refine tg_iload X dX8_swapOf_87 4 rfl ?_
    refine tg_bipush X dX8_swapOf_89 tk_b8 ?_
    refine tg_irem X dX8_swapOf_91 (by decide) ?_
    obtain ⟨S7, eS7, bS7, h⟩ := tg_wrE h
    refine tg_iast X 13 rfl bS7 dX8_swapOf_92 eS7 ?_
    refine tg_aload_n X dX8_swapOf_93 rfl 0 rfl ?_
    refine tg_getr X 0 rfl cl_X8 15 (by decide) rfl wf_X8_46 dX8_swapOf_94 ?_
    refine tg_iload X dX8_swapOf_97 5 rfl ?_
    refine tg_iload X dX8_swapOf_99 5 rfl ?_
    refine tg_bipush X dX8_swapOf_101 tk_b8 ?_
    refine tg_irem X dX8_swapOf_103 (by decide) ?_
    obtain ⟨S8, eS8, bS8, h⟩ := tg_wrE h
    refine tg_iast X 13 rfl bS8 dX8_swapOf_104 eS8 ?_
    obtain ⟨y9, ey9⟩ : ∃ z : Int32, z = v5 + 1 := ⟨_, rfl⟩
    have h := tg_nmE ey9 h
    refine tg_iinc (lv2 := [(5, .int y9), (0, .ref (tg_ad x 0)), (1, .int v1), (2, .int v2), (3, .int v3), (4, .int v4)]) X dX8_swapOf_105 5 rfl tk_i1 ey9 (by decide) rfl ?_
    refine tg_goto (tgt := 31) X dX8_swapOf_108 (by decide) ?_
    refine tg_re [1, 2, 3, 4, 5, 0] rfl ?_
    exact hr31 S8 v1 v2 v3 v4 y9 h
theorem wl_X8_swapOf_31 {x : tg_X} {Sf : tg_S} {r : Int32} {rec12 : tg_S → Int32 → Int32 → Int32 → Int32 → Option (tg_S × Int32)} (X : tg_M tauR x cX8_swapOf 6 RX8 zr_X8_swapOf (some .int) Sf (some (.int r))) (hr12 : ∀ (S : tg_S) (v1 : Int32) (v2 : Int32) (v3 : Int32) (v4 : Int32), rec12 S v1 v2 v3 v4 = some (Sf, r) → tg_G tauR x S 12 [(0, .ref (tg_ad x 0)), (1, .int v1), (2, .int v2), (3, .int v3), (4, .int v4)] []) : ∀ (n : Nat) (S : tg_S) (v1 : Int32) (v2 : Int32) (v3 : Int32) (v4 : Int32) (v5 : Int32) (h : L_X8_swapOf_31 rec12 n S v1 v2 v3 v4 v5 = some (Sf, r)), tg_G tauR x S 31 [(0, .ref (tg_ad x 0)), (1, .int v1), (2, .int v2), (3, .int v3), (4, .int v4), (5, .int v5)] [] := by
  intro n
  induction n with
  | zero => intro S v1 v2 v3 v4 v5 h; cases h
  | succ n ih => intro S v1 v2 v3 v4 v5 h; exact w_X8_swapOf_31 X hr12 ih S v1 v2 v3 v4 v5 h
set_option maxRecDepth 20000 in
set_option maxHeartbeats 4000000 in
theorem w_X8_swapOf_12 {x : tg_X} {Sf : tg_S} {r : Int32} {rec12 : tg_S → Int32 → Int32 → Int32 → Int32 → Option (tg_S × Int32)} (X : tg_M tauR x cX8_swapOf 6 RX8 zr_X8_swapOf (some .int) Sf (some (.int r))) (hr12 : ∀ (S : tg_S) (v1 : Int32) (v2 : Int32) (v3 : Int32) (v4 : Int32), rec12 S v1 v2 v3 v4 = some (Sf, r) → tg_G tauR x S 12 [(0, .ref (tg_ad x 0)), (1, .int v1), (2, .int v2), (3, .int v3), (4, .int v4)] []) (S : tg_S) (v1 : Int32) (v2 : Int32) (v3 : Int32) (v4 : Int32) (h : f_X8_swapOf_12 rec12 S v1 v2 v3 v4 = some (Sf, r)) : tg_G tauR x S 12 [(0, .ref (tg_ad x 0)), (1, .int v1), (2, .int v2), (3, .int v3), (4, .int v4)] [] := by
  unfold f_X8_swapOf_12 at h
  refine tg_iload X dX8_swapOf_12 4 rfl ?_
  refine tg_iload_n X dX8_swapOf_14 rfl 3 rfl ?_
  refine tg_aload_n X dX8_swapOf_15 rfl 0 rfl ?_
  refine tg_getr X 0 rfl cl_X8 2 (by decide) rfl wf_X8_16 dX8_swapOf_16 ?_
  refine tg_iload_n X dX8_swapOf_19 rfl 1 rfl ?_
  obtain ⟨y1, ey1, by1, h⟩ := tg_rdE h
  refine tg_iald X 3 rfl ey1 by1 dX8_swapOf_20 ?_
  refine tg_iadd X dX8_swapOf_21 ?_
  refine tg_icmp_ge (tgt := 117) X dX8_swapOf_22 (by decide) (fun c2 => ?_) (fun c2 => ?_)
  · have h := tg_ifT c2 h
    refine tg_aload_n X dX8_swapOf_117 rfl 0 rfl ?_
    refine tg_geti X 0 rfl cl_X8 34 (by decide) rfl wf_X8_263 dX8_swapOf_118 ?_
    refine tg_iconst X dX8_swapOf_121 tk_im1 ?_
    refine tg_icmp_ne (tgt := 129) X dX8_swapOf_122 (by decide) (fun c3 => ?_) (fun c3 => ?_)
    · have h := tg_ifF c3 h
      refine tg_iload_n X dX8_swapOf_129 rfl 2 rfl ?_
      refine tg_if_ne (tgt := 143) X dX8_swapOf_130 (by decide) (fun c4 => ?_) (fun c4 => ?_)
      · have h := tg_ifF c4 h
        refine tg_iload_n X dX8_swapOf_143 rfl 2 rfl ?_
        refine tg_iconst X dX8_swapOf_144 tk_i1 ?_
        refine tg_icmp_ne (tgt := 158) X dX8_swapOf_145 (by decide) (fun c5 => ?_) (fun c5 => ?_)
        · have h := tg_ifF c5 h
          refine tg_aload_n X dX8_swapOf_158 rfl 0 rfl ?_
          refine tg_geti X 0 rfl cl_X8 35 (by decide) rfl wf_X8_266 dX8_swapOf_159 ?_
          exact tg_iret X h rfl dX8_swapOf_162
        · have h := tg_ifT c5 h
          refine tg_aload_n X dX8_swapOf_148 rfl 0 rfl ?_
          refine tg_geti X 0 rfl cl_X8 34 (by decide) rfl wf_X8_263 dX8_swapOf_149 ?_
          refine tg_bipush X dX8_swapOf_152 tk_b16 ?_
          refine tg_irem X dX8_swapOf_154 (by decide) ?_
          refine tg_goto (tgt := 162) X dX8_swapOf_155 (by decide) ?_
          exact tg_iret X h rfl dX8_swapOf_162
      · have h := tg_ifT c4 h
        refine tg_aload_n X dX8_swapOf_133 rfl 0 rfl ?_
        refine tg_geti X 0 rfl cl_X8 34 (by decide) rfl wf_X8_263 dX8_swapOf_134 ?_
        refine tg_bipush X dX8_swapOf_137 tk_b16 ?_
        refine tg_idiv X dX8_swapOf_139 (by decide) ?_
        refine tg_goto (tgt := 162) X dX8_swapOf_140 (by decide) ?_
        exact tg_iret X h rfl dX8_swapOf_162
    · have h := tg_ifT c3 h
      refine tg_iconst X dX8_swapOf_125 tk_im1 ?_
      refine tg_goto (tgt := 162) X dX8_swapOf_126 (by decide) ?_
      exact tg_iret X h rfl dX8_swapOf_162
  · have h := tg_ifF c2 h
    refine tg_iload X dX8_swapOf_25 4 rfl ?_
    refine tg_iconst X dX8_swapOf_27 tk_i1 ?_
    refine tg_iadd X dX8_swapOf_28 ?_
    refine tg_topi (fun y6 ey6 => ?_)
    have h := tg_nmE ey6 h
    refine tg_istore (lv2 := [(5, .int y6), (0, .ref (tg_ad x 0)), (1, .int v1), (2, .int v2), (3, .int v3), (4, .int v4)]) X dX8_swapOf_29 (by decide) rfl ?_
    refine tg_re [1, 2, 3, 4, 5, 0] rfl ?_
    exact wl_X8_swapOf_31 X hr12 tg_F S v1 v2 v3 v4 y6 h
theorem wl_X8_swapOf_12 {x : tg_X} {Sf : tg_S} {r : Int32} (X : tg_M tauR x cX8_swapOf 6 RX8 zr_X8_swapOf (some .int) Sf (some (.int r))) : ∀ (n : Nat) (S : tg_S) (v1 : Int32) (v2 : Int32) (v3 : Int32) (v4 : Int32) (h : L_X8_swapOf_12  n S v1 v2 v3 v4 = some (Sf, r)), tg_G tauR x S 12 [(0, .ref (tg_ad x 0)), (1, .int v1), (2, .int v2), (3, .int v3), (4, .int v4)] [] := by
  intro n
  induction n with
  | zero => intro S v1 v2 v3 v4 h; cases h
  | succ n ih => intro S v1 v2 v3 v4 h; exact w_X8_swapOf_12 X  ih S v1 v2 v3 v4 h
set_option maxRecDepth 20000 in
set_option maxHeartbeats 4000000 in
theorem w_X8_swapOf_0 {x : tg_X} {Sf : tg_S} {r : Int32} (X : tg_M tauR x cX8_swapOf 6 RX8 zr_X8_swapOf (some .int) Sf (some (.int r))) (S : tg_S) (v1 : Int32) (v2 : Int32) (h : f_X8_swapOf  S v1 v2 = some (Sf, r)) : tg_G tauR x S 0 [(0, .ref (tg_ad x 0)), (1, .int v1), (2, .int v2)] [] := by
  unfold f_X8_swapOf at h
  refine tg_aload_n X dX8_swapOf_0 rfl 0 rfl ?_
  obtain ⟨S1, kS1, h⟩ := tg_bvE h
  refine tg_callV (As := []) (rest := []) X 0 (cm_X8_starts _ _ _ _ _ kS1) yy_X8_starts wv_X8_starts ws_X8_starts wm_X8_269 rfl cl_X8.1 ⟨rfl, rfl, Nat.le_of_ble_eq_true rfl, Nat.le_of_ble_eq_true rfl⟩ rfl rfl (Nat.le_of_ble_eq_true rfl) dX8_swapOf_1 rfl ?_
  refine tg_bipush X dX8_swapOf_4 tk_b8 ?_
  refine tg_iload_n X dX8_swapOf_6 rfl 1 rfl ?_
  refine tg_imul X dX8_swapOf_7 ?_
  refine tg_topi (fun y2 ey2 => ?_)
  have h := tg_nmE ey2 h
  refine tg_istore_n (lv2 := [(3, .int y2), (0, .ref (tg_ad x 0)), (1, .int v1), (2, .int v2)]) X dX8_swapOf_8 rfl (by decide) rfl ?_
  refine tg_iload_n X dX8_swapOf_9 rfl 0 rfl ?_
  refine tg_istore (lv2 := [(4, .int y2), (3, .int y2), (0, .ref (tg_ad x 0)), (1, .int v1), (2, .int v2)]) X dX8_swapOf_10 (by decide) rfl ?_
  refine tg_re [2, 3, 4, 1, 0] rfl ?_
  exact wl_X8_swapOf_12 X  tg_F S1 v1 v2 y2 y2 h
theorem cm_X8_swapOf (l : Launch) (D : va_G) (cy : Bool → ClassId) (ad : Nat → Nat) (tS : Nat) {S Sf : tg_S} {v1 : Int32} {v2 : Int32} {r : Int32} (h : f_X8_swapOf  S v1 v2 = some (Sf, r)) : tg_Met l yX8_swapOf cX8_swapOf 6 (some .int) zr_X8_swapOf tauR D cy ad tS S [.ref (ad 0), .int v1, .int v2] Sf (some (.int r)) := tg_mk (by decide +kernel) trivial (Nat.le_of_ble_eq_true rfl) (fun p e s m args below meth c Q A X => w_X8_swapOf_0 X S v1 v2 h)
-- X8_swap
def zr_X8_swap : Room := { frames := 8, cells := 0, slots := 0, locals := 185 }
theorem dX8_swap_0 : decode cX8_swap 0 = .ok (.iload_n 1, 1) := by decide +kernel
theorem dX8_swap_1 : decode cX8_swap 1 = .ok (.invokestatic 153, 3) := by decide +kernel
theorem dX8_swap_4 : decode cX8_swap 4 = .ok (.ifCond .eq 19, 3) := by decide +kernel
theorem dX8_swap_7 : decode cX8_swap 7 = .ok (.iload_n 2, 1) := by decide +kernel
theorem dX8_swap_8 : decode cX8_swap 8 = .ok (.invokestatic 147, 3) := by decide +kernel
theorem dX8_swap_11 : decode cX8_swap 11 = .ok (.ifCond .eq 12, 3) := by decide +kernel
theorem dX8_swap_14 : decode cX8_swap 14 = .ok (.aload_n 0, 1) := by decide +kernel
theorem dX8_swap_15 : decode cX8_swap 15 = .ok (.iload_n 1, 1) := by decide +kernel
theorem dX8_swap_16 : decode cX8_swap 16 = .ok (.iload_n 2, 1) := by decide +kernel
theorem dX8_swap_17 : decode cX8_swap 17 = .ok (.invokevirtual 278, 3) := by decide +kernel
theorem dX8_swap_20 : decode cX8_swap 20 = .ok (.goto 5, 3) := by decide +kernel
theorem dX8_swap_23 : decode cX8_swap 23 = .ok (.bipush (-2), 2) := by decide +kernel
theorem dX8_swap_25 : decode cX8_swap 25 = .ok (.ireturn, 1) := by decide +kernel
set_option maxRecDepth 20000 in
set_option maxHeartbeats 4000000 in
theorem w_X8_swap_0 {x : tg_X} {Sf : tg_S} {r : Int32} (X : tg_M tauR x cX8_swap 3 RX8 zr_X8_swap (some .int) Sf (some (.int r))) (S : tg_S) (v1 : Int32) (v2 : Int32) (h : f_X8_swap  S v1 v2 = some (Sf, r)) : tg_G tauR x S 0 [(0, .ref (tg_ad x 0)), (1, .int v1), (2, .int v2)] [] := by
  unfold f_X8_swap at h
  refine tg_iload_n X dX8_swap_0 rfl 1 rfl ?_
  obtain ⟨S1, r2, kS1, h⟩ := tg_bdE h
  refine tg_callS (As := [.int v1]) (rest := []) X (cm_X8_isTwo _ _ _ _ _ kS1) yy_X8_isTwo wt_X8_isTwo wm_X8_153 ⟨rfl, rfl, Nat.le_of_ble_eq_true rfl, Nat.le_of_ble_eq_true rfl⟩ rfl rfl (Nat.le_of_ble_eq_true rfl) dX8_swap_1 rfl ?_
  refine tg_if_eq (tgt := 23) X dX8_swap_4 (by decide) (fun c3 => ?_) (fun c3 => ?_)
  · have h := tg_ifT c3 h
    refine tg_bipush X dX8_swap_23 tk_bm2 ?_
    exact tg_iret X h rfl dX8_swap_25
  · have h := tg_ifF c3 h
    refine tg_iload_n X dX8_swap_7 rfl 2 rfl ?_
    obtain ⟨S4, r5, kS4, h⟩ := tg_bdE h
    refine tg_callS (As := [.int v2]) (rest := []) X (cm_X8_isThree _ _ _ _ _ kS4) yy_X8_isThree wt_X8_isThree wm_X8_147 ⟨rfl, rfl, Nat.le_of_ble_eq_true rfl, Nat.le_of_ble_eq_true rfl⟩ rfl rfl (Nat.le_of_ble_eq_true rfl) dX8_swap_8 rfl ?_
    refine tg_if_eq (tgt := 23) X dX8_swap_11 (by decide) (fun c6 => ?_) (fun c6 => ?_)
    · have h := tg_ifT c6 h
      refine tg_bipush X dX8_swap_23 tk_bm2 ?_
      exact tg_iret X h rfl dX8_swap_25
    · have h := tg_ifF c6 h
      refine tg_aload_n X dX8_swap_14 rfl 0 rfl ?_
      refine tg_iload_n X dX8_swap_15 rfl 1 rfl ?_
      refine tg_iload_n X dX8_swap_16 rfl 2 rfl ?_
      obtain ⟨S7, r8, kS7, h⟩ := tg_bdE h
      refine tg_callV (As := [.int v1, .int v2]) (rest := []) X 0 (cm_X8_swapOf _ _ _ _ _ kS7) yy_X8_swapOf wv_X8_swapOf ws_X8_swapOf wm_X8_278 rfl cl_X8.1 ⟨rfl, rfl, Nat.le_of_ble_eq_true rfl, Nat.le_of_ble_eq_true rfl⟩ rfl rfl (Nat.le_of_ble_eq_true rfl) dX8_swap_17 rfl ?_
      refine tg_goto (tgt := 25) X dX8_swap_20 (by decide) ?_
      exact tg_iret X h rfl dX8_swap_25
theorem cm_X8_swap (l : Launch) (D : va_G) (cy : Bool → ClassId) (ad : Nat → Nat) (tS : Nat) {S Sf : tg_S} {v1 : Int32} {v2 : Int32} {r : Int32} (h : f_X8_swap  S v1 v2 = some (Sf, r)) : tg_Met l yX8_swap cX8_swap 3 (some .int) zr_X8_swap tauR D cy ad tS S [.ref (ad 0), .int v1, .int v2] Sf (some (.int r)) := tg_mk (by decide +kernel) trivial (Nat.le_of_ble_eq_true rfl) (fun p e s m args below meth c Q A X => w_X8_swap_0 X S v1 v2 h)
-- X8_outOf
def zr_X8_outOf : Room := { frames := 7, cells := 0, slots := 0, locals := 160 }
theorem dX8_outOf_0 : decode cX8_outOf 0 = .ok (.aload_n 0, 1) := by decide +kernel
theorem dX8_outOf_1 : decode cX8_outOf 1 = .ok (.invokevirtual 269, 3) := by decide +kernel
theorem dX8_outOf_4 : decode cX8_outOf 4 = .ok (.bipush 8, 2) := by decide +kernel
theorem dX8_outOf_6 : decode cX8_outOf 6 = .ok (.iload_n 1, 1) := by decide +kernel
theorem dX8_outOf_7 : decode cX8_outOf 7 = .ok (.imul, 1) := by decide +kernel
theorem dX8_outOf_8 : decode cX8_outOf 8 = .ok (.istore_n 3, 1) := by decide +kernel
theorem dX8_outOf_9 : decode cX8_outOf 9 = .ok (.iload_n 3, 1) := by decide +kernel
theorem dX8_outOf_10 : decode cX8_outOf 10 = .ok (.bipush 8, 2) := by decide +kernel
theorem dX8_outOf_12 : decode cX8_outOf 12 = .ok (.iload_n 1, 1) := by decide +kernel
theorem dX8_outOf_13 : decode cX8_outOf 13 = .ok (.imul, 1) := by decide +kernel
theorem dX8_outOf_14 : decode cX8_outOf 14 = .ok (.aload_n 0, 1) := by decide +kernel
theorem dX8_outOf_15 : decode cX8_outOf 15 = .ok (.getfield 16, 3) := by decide +kernel
theorem dX8_outOf_18 : decode cX8_outOf 18 = .ok (.iload_n 1, 1) := by decide +kernel
theorem dX8_outOf_19 : decode cX8_outOf 19 = .ok (.iaload, 1) := by decide +kernel
theorem dX8_outOf_20 : decode cX8_outOf 20 = .ok (.iadd, 1) := by decide +kernel
theorem dX8_outOf_21 : decode cX8_outOf 21 = .ok (.if_icmp .ge 20, 3) := by decide +kernel
theorem dX8_outOf_24 : decode cX8_outOf 24 = .ok (.aload_n 0, 1) := by decide +kernel
theorem dX8_outOf_25 : decode cX8_outOf 25 = .ok (.iload_n 3, 1) := by decide +kernel
theorem dX8_outOf_26 : decode cX8_outOf 26 = .ok (.putfield 181, 3) := by decide +kernel
theorem dX8_outOf_29 : decode cX8_outOf 29 = .ok (.aload_n 0, 1) := by decide +kernel
theorem dX8_outOf_30 : decode cX8_outOf 30 = .ok (.iload_n 3, 1) := by decide +kernel
theorem dX8_outOf_31 : decode cX8_outOf 31 = .ok (.iload_n 1, 1) := by decide +kernel
theorem dX8_outOf_32 : decode cX8_outOf 32 = .ok (.invokevirtual 272, 3) := by decide +kernel
theorem dX8_outOf_35 : decode cX8_outOf 35 = .ok (.iinc 3 1, 3) := by decide +kernel
theorem dX8_outOf_38 : decode cX8_outOf 38 = .ok (.goto (-29), 3) := by decide +kernel
theorem dX8_outOf_41 : decode cX8_outOf 41 = .ok (.iload_n 2, 1) := by decide +kernel
theorem dX8_outOf_42 : decode cX8_outOf 42 = .ok (.ifCond .ne 10, 3) := by decide +kernel
theorem dX8_outOf_45 : decode cX8_outOf 45 = .ok (.aload_n 0, 1) := by decide +kernel
theorem dX8_outOf_46 : decode cX8_outOf 46 = .ok (.getfield 263, 3) := by decide +kernel
theorem dX8_outOf_49 : decode cX8_outOf 49 = .ok (.goto 7, 3) := by decide +kernel
theorem dX8_outOf_52 : decode cX8_outOf 52 = .ok (.aload_n 0, 1) := by decide +kernel
theorem dX8_outOf_53 : decode cX8_outOf 53 = .ok (.getfield 266, 3) := by decide +kernel
theorem dX8_outOf_56 : decode cX8_outOf 56 = .ok (.ireturn, 1) := by decide +kernel
set_option maxRecDepth 20000 in
set_option maxHeartbeats 4000000 in
theorem w_X8_outOf_9 {x : tg_X} {Sf : tg_S} {r : Int32} {rec9 : tg_S → Int32 → Int32 → Int32 → Option (tg_S × Int32)} (X : tg_M tauR x cX8_outOf 4 RX8 zr_X8_outOf (some .int) Sf (some (.int r))) (hr9 : ∀ (S : tg_S) (v1 : Int32) (v2 : Int32) (v3 : Int32), rec9 S v1 v2 v3 = some (Sf, r) → tg_G tauR x S 9 [(0, .ref (tg_ad x 0)), (1, .int v1), (2, .int v2), (3, .int v3)] []) (S : tg_S) (v1 : Int32) (v2 : Int32) (v3 : Int32) (h : f_X8_outOf_9 rec9 S v1 v2 v3 = some (Sf, r)) : tg_G tauR x S 9 [(0, .ref (tg_ad x 0)), (1, .int v1), (2, .int v2), (3, .int v3)] [] := by
  unfold f_X8_outOf_9 at h
  refine tg_iload_n X dX8_outOf_9 rfl 3 rfl ?_
  refine tg_bipush X dX8_outOf_10 tk_b8 ?_
  refine tg_iload_n X dX8_outOf_12 rfl 1 rfl ?_
  refine tg_imul X dX8_outOf_13 ?_
  refine tg_aload_n X dX8_outOf_14 rfl 0 rfl ?_
  refine tg_getr X 0 rfl cl_X8 2 (by decide) rfl wf_X8_16 dX8_outOf_15 ?_
  refine tg_iload_n X dX8_outOf_18 rfl 1 rfl ?_
  obtain ⟨y1, ey1, by1, h⟩ := tg_rdE h
  refine tg_iald X 3 rfl ey1 by1 dX8_outOf_19 ?_
  refine tg_iadd X dX8_outOf_20 ?_
  refine tg_icmp_ge (tgt := 41) X dX8_outOf_21 (by decide) (fun c2 => ?_) (fun c2 => ?_)
  · have h := tg_ifT c2 h
    refine tg_iload_n X dX8_outOf_41 rfl 2 rfl ?_
    refine tg_if_ne (tgt := 52) X dX8_outOf_42 (by decide) (fun c3 => ?_) (fun c3 => ?_)
    · have h := tg_ifF c3 h
      refine tg_aload_n X dX8_outOf_52 rfl 0 rfl ?_
      refine tg_geti X 0 rfl cl_X8 35 (by decide) rfl wf_X8_266 dX8_outOf_53 ?_
      exact tg_iret X h rfl dX8_outOf_56
    · have h := tg_ifT c3 h
      refine tg_aload_n X dX8_outOf_45 rfl 0 rfl ?_
      refine tg_geti X 0 rfl cl_X8 34 (by decide) rfl wf_X8_263 dX8_outOf_46 ?_
      refine tg_goto (tgt := 56) X dX8_outOf_49 (by decide) ?_
      exact tg_iret X h rfl dX8_outOf_56
  · have h := tg_ifF c2 h
    refine tg_aload_n X dX8_outOf_24 rfl 0 rfl ?_
    refine tg_iload_n X dX8_outOf_25 rfl 3 rfl ?_
    obtain ⟨S4, eS4, h⟩ := tg_pfE h
    refine tg_puti X 0 rfl cl_X8 16 (by decide) rfl wf_X8_181 rfl rfl rfl dX8_outOf_26 eS4 ?_
    refine tg_aload_n X dX8_outOf_29 rfl 0 rfl ?_
    refine tg_iload_n X dX8_outOf_30 rfl 3 rfl ?_
    refine tg_iload_n X dX8_outOf_31 rfl 1 rfl ?_
    obtain ⟨S5, kS5, h⟩ := tg_bvE h
    refine tg_callV (As := [.int v3, .int v1]) (rest := []) X 0 (cm_X8_tries _ _ _ _ _ kS5) yy_X8_tries wv_X8_tries ws_X8_tries wm_X8_272 rfl cl_X8.1 ⟨rfl, rfl, Nat.le_of_ble_eq_true rfl, Nat.le_of_ble_eq_true rfl⟩ rfl rfl (Nat.le_of_ble_eq_true rfl) dX8_outOf_32 rfl ?_
    obtain ⟨y6, ey6⟩ : ∃ z : Int32, z = v3 + 1 := ⟨_, rfl⟩
    have h := tg_nmE ey6 h
    refine tg_iinc (lv2 := [(3, .int y6), (0, .ref (tg_ad x 0)), (1, .int v1), (2, .int v2)]) X dX8_outOf_35 3 rfl tk_i1 ey6 (by decide) rfl ?_
    refine tg_goto (tgt := 9) X dX8_outOf_38 (by decide) ?_
    refine tg_re [1, 2, 3, 0] rfl ?_
    exact hr9 S5 v1 v2 y6 h
theorem wl_X8_outOf_9 {x : tg_X} {Sf : tg_S} {r : Int32} (X : tg_M tauR x cX8_outOf 4 RX8 zr_X8_outOf (some .int) Sf (some (.int r))) : ∀ (n : Nat) (S : tg_S) (v1 : Int32) (v2 : Int32) (v3 : Int32) (h : L_X8_outOf_9  n S v1 v2 v3 = some (Sf, r)), tg_G tauR x S 9 [(0, .ref (tg_ad x 0)), (1, .int v1), (2, .int v2), (3, .int v3)] [] := by
  intro n
  induction n with
  | zero => intro S v1 v2 v3 h; cases h
  | succ n ih => intro S v1 v2 v3 h; exact w_X8_outOf_9 X  ih S v1 v2 v3 h
set_option maxRecDepth 20000 in
set_option maxHeartbeats 4000000 in
theorem w_X8_outOf_0 {x : tg_X} {Sf : tg_S} {r : Int32} (X : tg_M tauR x cX8_outOf 4 RX8 zr_X8_outOf (some .int) Sf (some (.int r))) (S : tg_S) (v1 : Int32) (v2 : Int32) (h : f_X8_outOf  S v1 v2 = some (Sf, r)) : tg_G tauR x S 0 [(0, .ref (tg_ad x 0)), (1, .int v1), (2, .int v2)] [] := by
  unfold f_X8_outOf at h
  refine tg_aload_n X dX8_outOf_0 rfl 0 rfl ?_
  obtain ⟨S1, kS1, h⟩ := tg_bvE h
  refine tg_callV (As := []) (rest := []) X 0 (cm_X8_starts _ _ _ _ _ kS1) yy_X8_starts wv_X8_starts ws_X8_starts wm_X8_269 rfl cl_X8.1 ⟨rfl, rfl, Nat.le_of_ble_eq_true rfl, Nat.le_of_ble_eq_true rfl⟩ rfl rfl (Nat.le_of_ble_eq_true rfl) dX8_outOf_1 rfl ?_
  refine tg_bipush X dX8_outOf_4 tk_b8 ?_
  refine tg_iload_n X dX8_outOf_6 rfl 1 rfl ?_
  refine tg_imul X dX8_outOf_7 ?_
  refine tg_topi (fun y2 ey2 => ?_)
  have h := tg_nmE ey2 h
  refine tg_istore_n (lv2 := [(3, .int y2), (0, .ref (tg_ad x 0)), (1, .int v1), (2, .int v2)]) X dX8_outOf_8 rfl (by decide) rfl ?_
  refine tg_re [1, 2, 3, 0] rfl ?_
  exact wl_X8_outOf_9 X  tg_F S1 v1 v2 y2 h
theorem cm_X8_outOf (l : Launch) (D : va_G) (cy : Bool → ClassId) (ad : Nat → Nat) (tS : Nat) {S Sf : tg_S} {v1 : Int32} {v2 : Int32} {r : Int32} (h : f_X8_outOf  S v1 v2 = some (Sf, r)) : tg_Met l yX8_outOf cX8_outOf 4 (some .int) zr_X8_outOf tauR D cy ad tS S [.ref (ad 0), .int v1, .int v2] Sf (some (.int r)) := tg_mk (by decide +kernel) trivial (Nat.le_of_ble_eq_true rfl) (fun p e s m args below meth c Q A X => w_X8_outOf_0 X S v1 v2 h)
-- X8_out
def zr_X8_out : Room := { frames := 8, cells := 0, slots := 0, locals := 183 }
theorem dX8_out_0 : decode cX8_out 0 = .ok (.iload_n 1, 1) := by decide +kernel
theorem dX8_out_1 : decode cX8_out 1 = .ok (.invokestatic 153, 3) := by decide +kernel
theorem dX8_out_4 : decode cX8_out 4 = .ok (.ifCond .eq 19, 3) := by decide +kernel
theorem dX8_out_7 : decode cX8_out 7 = .ok (.iload_n 2, 1) := by decide +kernel
theorem dX8_out_8 : decode cX8_out 8 = .ok (.invokestatic 153, 3) := by decide +kernel
theorem dX8_out_11 : decode cX8_out 11 = .ok (.ifCond .eq 12, 3) := by decide +kernel
theorem dX8_out_14 : decode cX8_out 14 = .ok (.aload_n 0, 1) := by decide +kernel
theorem dX8_out_15 : decode cX8_out 15 = .ok (.iload_n 1, 1) := by decide +kernel
theorem dX8_out_16 : decode cX8_out 16 = .ok (.iload_n 2, 1) := by decide +kernel
theorem dX8_out_17 : decode cX8_out 17 = .ok (.invokevirtual 281, 3) := by decide +kernel
theorem dX8_out_20 : decode cX8_out 20 = .ok (.goto 5, 3) := by decide +kernel
theorem dX8_out_23 : decode cX8_out 23 = .ok (.bipush (-2), 2) := by decide +kernel
theorem dX8_out_25 : decode cX8_out 25 = .ok (.ireturn, 1) := by decide +kernel
set_option maxRecDepth 20000 in
set_option maxHeartbeats 4000000 in
theorem w_X8_out_0 {x : tg_X} {Sf : tg_S} {r : Int32} (X : tg_M tauR x cX8_out 3 RX8 zr_X8_out (some .int) Sf (some (.int r))) (S : tg_S) (v1 : Int32) (v2 : Int32) (h : f_X8_out  S v1 v2 = some (Sf, r)) : tg_G tauR x S 0 [(0, .ref (tg_ad x 0)), (1, .int v1), (2, .int v2)] [] := by
  unfold f_X8_out at h
  refine tg_iload_n X dX8_out_0 rfl 1 rfl ?_
  obtain ⟨S1, r2, kS1, h⟩ := tg_bdE h
  refine tg_callS (As := [.int v1]) (rest := []) X (cm_X8_isTwo _ _ _ _ _ kS1) yy_X8_isTwo wt_X8_isTwo wm_X8_153 ⟨rfl, rfl, Nat.le_of_ble_eq_true rfl, Nat.le_of_ble_eq_true rfl⟩ rfl rfl (Nat.le_of_ble_eq_true rfl) dX8_out_1 rfl ?_
  refine tg_if_eq (tgt := 23) X dX8_out_4 (by decide) (fun c3 => ?_) (fun c3 => ?_)
  · have h := tg_ifT c3 h
    refine tg_bipush X dX8_out_23 tk_bm2 ?_
    exact tg_iret X h rfl dX8_out_25
  · have h := tg_ifF c3 h
    refine tg_iload_n X dX8_out_7 rfl 2 rfl ?_
    obtain ⟨S4, r5, kS4, h⟩ := tg_bdE h
    refine tg_callS (As := [.int v2]) (rest := []) X (cm_X8_isTwo _ _ _ _ _ kS4) yy_X8_isTwo wt_X8_isTwo wm_X8_153 ⟨rfl, rfl, Nat.le_of_ble_eq_true rfl, Nat.le_of_ble_eq_true rfl⟩ rfl rfl (Nat.le_of_ble_eq_true rfl) dX8_out_8 rfl ?_
    refine tg_if_eq (tgt := 23) X dX8_out_11 (by decide) (fun c6 => ?_) (fun c6 => ?_)
    · have h := tg_ifT c6 h
      refine tg_bipush X dX8_out_23 tk_bm2 ?_
      exact tg_iret X h rfl dX8_out_25
    · have h := tg_ifF c6 h
      refine tg_aload_n X dX8_out_14 rfl 0 rfl ?_
      refine tg_iload_n X dX8_out_15 rfl 1 rfl ?_
      refine tg_iload_n X dX8_out_16 rfl 2 rfl ?_
      obtain ⟨S7, r8, kS7, h⟩ := tg_bdE h
      refine tg_callV (As := [.int v1, .int v2]) (rest := []) X 0 (cm_X8_outOf _ _ _ _ _ kS7) yy_X8_outOf wv_X8_outOf ws_X8_outOf wm_X8_281 rfl cl_X8.1 ⟨rfl, rfl, Nat.le_of_ble_eq_true rfl, Nat.le_of_ble_eq_true rfl⟩ rfl rfl (Nat.le_of_ble_eq_true rfl) dX8_out_17 rfl ?_
      refine tg_goto (tgt := 25) X dX8_out_20 (by decide) ?_
      exact tg_iret X h rfl dX8_out_25
theorem cm_X8_out (l : Launch) (D : va_G) (cy : Bool → ClassId) (ad : Nat → Nat) (tS : Nat) {S Sf : tg_S} {v1 : Int32} {v2 : Int32} {r : Int32} (h : f_X8_out  S v1 v2 = some (Sf, r)) : tg_Met l yX8_out cX8_out 3 (some .int) zr_X8_out tauR D cy ad tS S [.ref (ad 0), .int v1, .int v2] Sf (some (.int r)) := tg_mk (by decide +kernel) trivial (Nat.le_of_ble_eq_true rfl) (fun p e s m args below meth c Q A X => w_X8_out_0 X S v1 v2 h)
-- X8_isSpared
def zr_X8_isSpared : Room := { frames := 5, cells := 0, slots := 0, locals := 109 }
theorem dX8_isSpared_0 : decode cX8_isSpared 0 = .ok (.aload_n 0, 1) := by decide +kernel
theorem dX8_isSpared_1 : decode cX8_isSpared 1 = .ok (.iload_n 1, 1) := by decide +kernel
theorem dX8_isSpared_2 : decode cX8_isSpared 2 = .ok (.putfield 178, 3) := by decide +kernel
theorem dX8_isSpared_5 : decode cX8_isSpared 5 = .ok (.aload_n 0, 1) := by decide +kernel
theorem dX8_isSpared_6 : decode cX8_isSpared 6 = .ok (.invokevirtual 232, 3) := by decide +kernel
theorem dX8_isSpared_9 : decode cX8_isSpared 9 = .ok (.aload_n 0, 1) := by decide +kernel
theorem dX8_isSpared_10 : decode cX8_isSpared 10 = .ok (.getfield 206, 3) := by decide +kernel
theorem dX8_isSpared_13 : decode cX8_isSpared 13 = .ok (.iconst 1, 1) := by decide +kernel
theorem dX8_isSpared_14 : decode cX8_isSpared 14 = .ok (.if_icmp .eq 7, 3) := by decide +kernel
theorem dX8_isSpared_17 : decode cX8_isSpared 17 = .ok (.iconst 1, 1) := by decide +kernel
theorem dX8_isSpared_18 : decode cX8_isSpared 18 = .ok (.goto 4, 3) := by decide +kernel
theorem dX8_isSpared_21 : decode cX8_isSpared 21 = .ok (.iconst 0, 1) := by decide +kernel
theorem dX8_isSpared_22 : decode cX8_isSpared 22 = .ok (.ireturn, 1) := by decide +kernel
set_option maxRecDepth 20000 in
set_option maxHeartbeats 4000000 in
theorem w_X8_isSpared_0 {x : tg_X} {Sf : tg_S} {r : Int32} (X : tg_M tauR x cX8_isSpared 2 RX8 zr_X8_isSpared (some .boolean) Sf (some (.int r))) (S : tg_S) (v1 : Int32) (h : f_X8_isSpared  S v1 = some (Sf, r)) : tg_G tauR x S 0 [(0, .ref (tg_ad x 0)), (1, .int v1)] [] := by
  unfold f_X8_isSpared at h
  refine tg_aload_n X dX8_isSpared_0 rfl 0 rfl ?_
  refine tg_iload_n X dX8_isSpared_1 rfl 1 rfl ?_
  obtain ⟨S1, eS1, h⟩ := tg_pfE h
  refine tg_puti X 0 rfl cl_X8 14 (by decide) rfl wf_X8_178 rfl rfl rfl dX8_isSpared_2 eS1 ?_
  refine tg_aload_n X dX8_isSpared_5 rfl 0 rfl ?_
  obtain ⟨S2, kS2, h⟩ := tg_bvE h
  refine tg_callV (As := []) (rest := []) X 0 (cm_X8_runs _ _ _ _ _ kS2) yy_X8_runs wv_X8_runs ws_X8_runs wm_X8_232 rfl cl_X8.1 ⟨rfl, rfl, Nat.le_of_ble_eq_true rfl, Nat.le_of_ble_eq_true rfl⟩ rfl rfl (Nat.le_of_ble_eq_true rfl) dX8_isSpared_6 rfl ?_
  refine tg_aload_n X dX8_isSpared_9 rfl 0 rfl ?_
  refine tg_geti X 0 rfl cl_X8 22 (by decide) rfl wf_X8_206 dX8_isSpared_10 ?_
  refine tg_iconst X dX8_isSpared_13 tk_i1 ?_
  refine tg_icmp_eq (tgt := 21) X dX8_isSpared_14 (by decide) (fun c3 => ?_) (fun c3 => ?_)
  · have h := tg_ifT c3 h
    refine tg_iconst X dX8_isSpared_21 tk_i0 ?_
    exact tg_iret X h rfl dX8_isSpared_22
  · have h := tg_ifF c3 h
    refine tg_iconst X dX8_isSpared_17 tk_i1 ?_
    refine tg_goto (tgt := 22) X dX8_isSpared_18 (by decide) ?_
    exact tg_iret X h rfl dX8_isSpared_22
theorem cm_X8_isSpared (l : Launch) (D : va_G) (cy : Bool → ClassId) (ad : Nat → Nat) (tS : Nat) {S Sf : tg_S} {v1 : Int32} {r : Int32} (h : f_X8_isSpared  S v1 = some (Sf, r)) : tg_Met l yX8_isSpared cX8_isSpared 2 (some .boolean) zr_X8_isSpared tauR D cy ad tS S [.ref (ad 0), .int v1] Sf (some (.int r)) := tg_mk (by decide +kernel) trivial (Nat.le_of_ble_eq_true rfl) (fun p e s m args below meth c Q A X => w_X8_isSpared_0 X S v1 h)
-- X8_spareBy
def zr_X8_spareBy : Room := { frames := 6, cells := 0, slots := 0, locals := 140 }
theorem dX8_spareBy_0 : decode cX8_spareBy 0 = .ok (.aload_n 0, 1) := by decide +kernel
theorem dX8_spareBy_1 : decode cX8_spareBy 1 = .ok (.invokevirtual 229, 3) := by decide +kernel
theorem dX8_spareBy_4 : decode cX8_spareBy 4 = .ok (.aload_n 0, 1) := by decide +kernel
theorem dX8_spareBy_5 : decode cX8_spareBy 5 = .ok (.iconst 0, 1) := by decide +kernel
theorem dX8_spareBy_6 : decode cX8_spareBy 6 = .ok (.invokevirtual 284, 3) := by decide +kernel
theorem dX8_spareBy_9 : decode cX8_spareBy 9 = .ok (.ifCond .eq 5, 3) := by decide +kernel
theorem dX8_spareBy_12 : decode cX8_spareBy 12 = .ok (.iconst 0, 1) := by decide +kernel
theorem dX8_spareBy_13 : decode cX8_spareBy 13 = .ok (.ireturn, 1) := by decide +kernel
theorem dX8_spareBy_14 : decode cX8_spareBy 14 = .ok (.iconst 0, 1) := by decide +kernel
theorem dX8_spareBy_15 : decode cX8_spareBy 15 = .ok (.istore_n 1, 1) := by decide +kernel
theorem dX8_spareBy_16 : decode cX8_spareBy 16 = .ok (.iload_n 1, 1) := by decide +kernel
theorem dX8_spareBy_17 : decode cX8_spareBy 17 = .ok (.aload_n 0, 1) := by decide +kernel
theorem dX8_spareBy_18 : decode cX8_spareBy 18 = .ok (.getfield 166, 3) := by decide +kernel
theorem dX8_spareBy_21 : decode cX8_spareBy 21 = .ok (.if_icmp .ge 28, 3) := by decide +kernel
theorem dX8_spareBy_24 : decode cX8_spareBy 24 = .ok (.aload_n 0, 1) := by decide +kernel
theorem dX8_spareBy_25 : decode cX8_spareBy 25 = .ok (.getfield 79, 3) := by decide +kernel
theorem dX8_spareBy_28 : decode cX8_spareBy 28 = .ok (.iconst 0, 1) := by decide +kernel
theorem dX8_spareBy_29 : decode cX8_spareBy 29 = .ok (.iload_n 1, 1) := by decide +kernel
theorem dX8_spareBy_30 : decode cX8_spareBy 30 = .ok (.iastore, 1) := by decide +kernel
theorem dX8_spareBy_31 : decode cX8_spareBy 31 = .ok (.aload_n 0, 1) := by decide +kernel
theorem dX8_spareBy_32 : decode cX8_spareBy 32 = .ok (.iconst 1, 1) := by decide +kernel
theorem dX8_spareBy_33 : decode cX8_spareBy 33 = .ok (.iload_n 1, 1) := by decide +kernel
theorem dX8_spareBy_34 : decode cX8_spareBy 34 = .ok (.ishl, 1) := by decide +kernel
theorem dX8_spareBy_35 : decode cX8_spareBy 35 = .ok (.invokevirtual 284, 3) := by decide +kernel
theorem dX8_spareBy_38 : decode cX8_spareBy 38 = .ok (.ifCond .eq 5, 3) := by decide +kernel
theorem dX8_spareBy_41 : decode cX8_spareBy 41 = .ok (.iconst 1, 1) := by decide +kernel
theorem dX8_spareBy_42 : decode cX8_spareBy 42 = .ok (.ireturn, 1) := by decide +kernel
theorem dX8_spareBy_43 : decode cX8_spareBy 43 = .ok (.iinc 1 1, 3) := by decide +kernel
theorem dX8_spareBy_46 : decode cX8_spareBy 46 = .ok (.goto (-30), 3) := by decide +kernel
theorem dX8_spareBy_49 : decode cX8_spareBy 49 = .ok (.iconst 0, 1) := by decide +kernel
theorem dX8_spareBy_50 : decode cX8_spareBy 50 = .ok (.istore_n 1, 1) := by decide +kernel
theorem dX8_spareBy_51 : decode cX8_spareBy 51 = .ok (.iload_n 1, 1) := by decide +kernel
theorem dX8_spareBy_52 : decode cX8_spareBy 52 = .ok (.aload_n 0, 1) := by decide +kernel
theorem dX8_spareBy_53 : decode cX8_spareBy 53 = .ok (.getfield 166, 3) := by decide +kernel
theorem dX8_spareBy_56 : decode cX8_spareBy 56 = .ok (.if_icmp .ge 57, 3) := by decide +kernel
theorem dX8_spareBy_59 : decode cX8_spareBy 59 = .ok (.iload_n 1, 1) := by decide +kernel
theorem dX8_spareBy_60 : decode cX8_spareBy 60 = .ok (.iconst 1, 1) := by decide +kernel
theorem dX8_spareBy_61 : decode cX8_spareBy 61 = .ok (.iadd, 1) := by decide +kernel
theorem dX8_spareBy_62 : decode cX8_spareBy 62 = .ok (.istore_n 2, 1) := by decide +kernel
theorem dX8_spareBy_63 : decode cX8_spareBy 63 = .ok (.iload_n 2, 1) := by decide +kernel
theorem dX8_spareBy_64 : decode cX8_spareBy 64 = .ok (.aload_n 0, 1) := by decide +kernel
theorem dX8_spareBy_65 : decode cX8_spareBy 65 = .ok (.getfield 166, 3) := by decide +kernel
theorem dX8_spareBy_68 : decode cX8_spareBy 68 = .ok (.if_icmp .ge 39, 3) := by decide +kernel
theorem dX8_spareBy_71 : decode cX8_spareBy 71 = .ok (.aload_n 0, 1) := by decide +kernel
theorem dX8_spareBy_72 : decode cX8_spareBy 72 = .ok (.getfield 79, 3) := by decide +kernel
theorem dX8_spareBy_75 : decode cX8_spareBy 75 = .ok (.iconst 0, 1) := by decide +kernel
theorem dX8_spareBy_76 : decode cX8_spareBy 76 = .ok (.iload_n 1, 1) := by decide +kernel
theorem dX8_spareBy_77 : decode cX8_spareBy 77 = .ok (.iastore, 1) := by decide +kernel
theorem dX8_spareBy_78 : decode cX8_spareBy 78 = .ok (.aload_n 0, 1) := by decide +kernel
theorem dX8_spareBy_79 : decode cX8_spareBy 79 = .ok (.getfield 79, 3) := by decide +kernel
theorem dX8_spareBy_82 : decode cX8_spareBy 82 = .ok (.iconst 1, 1) := by decide +kernel
theorem dX8_spareBy_83 : decode cX8_spareBy 83 = .ok (.iload_n 2, 1) := by decide +kernel
theorem dX8_spareBy_84 : decode cX8_spareBy 84 = .ok (.iastore, 1) := by decide +kernel
theorem dX8_spareBy_85 : decode cX8_spareBy 85 = .ok (.aload_n 0, 1) := by decide +kernel
theorem dX8_spareBy_86 : decode cX8_spareBy 86 = .ok (.iconst 1, 1) := by decide +kernel
theorem dX8_spareBy_87 : decode cX8_spareBy 87 = .ok (.iload_n 1, 1) := by decide +kernel
theorem dX8_spareBy_88 : decode cX8_spareBy 88 = .ok (.ishl, 1) := by decide +kernel
theorem dX8_spareBy_89 : decode cX8_spareBy 89 = .ok (.iconst 1, 1) := by decide +kernel
theorem dX8_spareBy_90 : decode cX8_spareBy 90 = .ok (.iload_n 2, 1) := by decide +kernel
theorem dX8_spareBy_91 : decode cX8_spareBy 91 = .ok (.ishl, 1) := by decide +kernel
theorem dX8_spareBy_92 : decode cX8_spareBy 92 = .ok (.ior, 1) := by decide +kernel
theorem dX8_spareBy_93 : decode cX8_spareBy 93 = .ok (.invokevirtual 284, 3) := by decide +kernel
theorem dX8_spareBy_96 : decode cX8_spareBy 96 = .ok (.ifCond .eq 5, 3) := by decide +kernel
theorem dX8_spareBy_99 : decode cX8_spareBy 99 = .ok (.iconst 2, 1) := by decide +kernel
theorem dX8_spareBy_100 : decode cX8_spareBy 100 = .ok (.ireturn, 1) := by decide +kernel
theorem dX8_spareBy_101 : decode cX8_spareBy 101 = .ok (.iinc 2 1, 3) := by decide +kernel
theorem dX8_spareBy_104 : decode cX8_spareBy 104 = .ok (.goto (-41), 3) := by decide +kernel
theorem dX8_spareBy_107 : decode cX8_spareBy 107 = .ok (.iinc 1 1, 3) := by decide +kernel
theorem dX8_spareBy_110 : decode cX8_spareBy 110 = .ok (.goto (-59), 3) := by decide +kernel
theorem dX8_spareBy_113 : decode cX8_spareBy 113 = .ok (.iconst (-1), 1) := by decide +kernel
theorem dX8_spareBy_114 : decode cX8_spareBy 114 = .ok (.ireturn, 1) := by decide +kernel
set_option maxRecDepth 20000 in
set_option maxHeartbeats 4000000 in
theorem w_X8_spareBy_63 {x : tg_X} {Sf : tg_S} {r : Int32} {rec51 : tg_S → Int32 → Option (tg_S × Int32)} {rec63 : tg_S → Int32 → Int32 → Option (tg_S × Int32)} (X : tg_M tauR x cX8_spareBy 3 RX8 zr_X8_spareBy (some .int) Sf (some (.int r))) (hr51 : ∀ (S : tg_S) (v1 : Int32), rec51 S v1 = some (Sf, r) → tg_G tauR x S 51 [(0, .ref (tg_ad x 0)), (1, .int v1)] []) (hr63 : ∀ (S : tg_S) (v1 : Int32) (v2 : Int32), rec63 S v1 v2 = some (Sf, r) → tg_G tauR x S 63 [(0, .ref (tg_ad x 0)), (1, .int v1), (2, .int v2)] []) (S : tg_S) (v1 : Int32) (v2 : Int32) (h : f_X8_spareBy_63 rec51 rec63 S v1 v2 = some (Sf, r)) : tg_G tauR x S 63 [(0, .ref (tg_ad x 0)), (1, .int v1), (2, .int v2)] [] := by
  unfold f_X8_spareBy_63 at h
  refine tg_iload_n X dX8_spareBy_63 rfl 2 rfl ?_
  refine tg_aload_n X dX8_spareBy_64 rfl 0 rfl ?_
  refine tg_geti X 0 rfl cl_X8 9 (by decide) rfl wf_X8_166 dX8_spareBy_65 ?_
  refine tg_icmp_ge (tgt := 107) X dX8_spareBy_68 (by decide) (fun c1 => ?_) (fun c1 => ?_)
  · have h := tg_ifT c1 h
    obtain ⟨y2, ey2⟩ : ∃ z : Int32, z = v1 + 1 := ⟨_, rfl⟩
    have h := tg_nmE ey2 h
    refine tg_iinc (lv2 := [(1, .int y2), (0, .ref (tg_ad x 0)), (2, .int v2)]) X dX8_spareBy_107 1 rfl tk_i1 ey2 (by decide) rfl ?_
    refine tg_goto (tgt := 51) X dX8_spareBy_110 (by decide) ?_
    refine tg_re [1, 0] rfl ?_
    exact hr51 S y2 h
  · have h := tg_ifF c1 h
    refine tg_aload_n X dX8_spareBy_71 rfl 0 rfl ?_
    refine tg_getr X 0 rfl cl_X8 36 (by decide) rfl wf_X8_79 dX8_spareBy_72 ?_
    refine tg_iconst X dX8_spareBy_75 tk_i0 ?_
    refine tg_iload_n X dX8_spareBy_76 rfl 1 rfl ?_
    obtain ⟨S3, eS3, bS3, h⟩ := tg_wrE h
    refine tg_iast X 24 rfl bS3 dX8_spareBy_77 eS3 ?_
    refine tg_aload_n X dX8_spareBy_78 rfl 0 rfl ?_
    refine tg_getr X 0 rfl cl_X8 36 (by decide) rfl wf_X8_79 dX8_spareBy_79 ?_
    refine tg_iconst X dX8_spareBy_82 tk_i1 ?_
    refine tg_iload_n X dX8_spareBy_83 rfl 2 rfl ?_
    obtain ⟨S4, eS4, bS4, h⟩ := tg_wrE h
    refine tg_iast X 24 rfl bS4 dX8_spareBy_84 eS4 ?_
    refine tg_aload_n X dX8_spareBy_85 rfl 0 rfl ?_
    refine tg_iconst X dX8_spareBy_86 tk_i1 ?_
    refine tg_iload_n X dX8_spareBy_87 rfl 1 rfl ?_
    refine tg_ishl X dX8_spareBy_88 ?_
    refine tg_iconst X dX8_spareBy_89 tk_i1 ?_
    refine tg_iload_n X dX8_spareBy_90 rfl 2 rfl ?_
    refine tg_ishl X dX8_spareBy_91 ?_
    refine tg_ior X dX8_spareBy_92 ?_
    obtain ⟨S5, r6, kS5, h⟩ := tg_bdE h
    refine tg_callV (As := [.int ((1 <<< (v1 &&& 31)) ||| (1 <<< (v2 &&& 31)))]) (rest := []) X 0 (cm_X8_isSpared _ _ _ _ _ kS5) yy_X8_isSpared wv_X8_isSpared ws_X8_isSpared wm_X8_284 rfl cl_X8.1 ⟨rfl, rfl, Nat.le_of_ble_eq_true rfl, Nat.le_of_ble_eq_true rfl⟩ rfl rfl (Nat.le_of_ble_eq_true rfl) dX8_spareBy_93 rfl ?_
    refine tg_if_eq (tgt := 101) X dX8_spareBy_96 (by decide) (fun c7 => ?_) (fun c7 => ?_)
    · have h := tg_ifT c7 h
      obtain ⟨y8, ey8⟩ : ∃ z : Int32, z = v2 + 1 := ⟨_, rfl⟩
      have h := tg_nmE ey8 h
      refine tg_iinc (lv2 := [(2, .int y8), (0, .ref (tg_ad x 0)), (1, .int v1)]) X dX8_spareBy_101 2 rfl tk_i1 ey8 (by decide) rfl ?_
      refine tg_goto (tgt := 63) X dX8_spareBy_104 (by decide) ?_
      refine tg_re [1, 2, 0] rfl ?_
      exact hr63 S5 v1 y8 h
    · have h := tg_ifF c7 h
      refine tg_iconst X dX8_spareBy_99 tk_i2 ?_
      exact tg_iret X h rfl dX8_spareBy_100
theorem wl_X8_spareBy_63 {x : tg_X} {Sf : tg_S} {r : Int32} {rec51 : tg_S → Int32 → Option (tg_S × Int32)} (X : tg_M tauR x cX8_spareBy 3 RX8 zr_X8_spareBy (some .int) Sf (some (.int r))) (hr51 : ∀ (S : tg_S) (v1 : Int32), rec51 S v1 = some (Sf, r) → tg_G tauR x S 51 [(0, .ref (tg_ad x 0)), (1, .int v1)] []) : ∀ (n : Nat) (S : tg_S) (v1 : Int32) (v2 : Int32) (h : L_X8_spareBy_63 rec51 n S v1 v2 = some (Sf, r)), tg_G tauR x S 63 [(0, .ref (tg_ad x 0)), (1, .int v1), (2, .int v2)] [] := by
  intro n
  induction n with
  | zero => intro S v1 v2 h; cases h
  | succ n ih => intro S v1 v2 h; exact w_X8_spareBy_63 X hr51 ih S v1 v2 h
set_option maxRecDepth 20000 in
set_option maxHeartbeats 4000000 in
theorem w_X8_spareBy_51 {x : tg_X} {Sf : tg_S} {r : Int32} {rec51 : tg_S → Int32 → Option (tg_S × Int32)} (X : tg_M tauR x cX8_spareBy 3 RX8 zr_X8_spareBy (some .int) Sf (some (.int r))) (hr51 : ∀ (S : tg_S) (v1 : Int32), rec51 S v1 = some (Sf, r) → tg_G tauR x S 51 [(0, .ref (tg_ad x 0)), (1, .int v1)] []) (S : tg_S) (v1 : Int32) (h : f_X8_spareBy_51 rec51 S v1 = some (Sf, r)) : tg_G tauR x S 51 [(0, .ref (tg_ad x 0)), (1, .int v1)] [] := by
  unfold f_X8_spareBy_51 at h
  refine tg_iload_n X dX8_spareBy_51 rfl 1 rfl ?_
  refine tg_aload_n X dX8_spareBy_52 rfl 0 rfl ?_
  refine tg_geti X 0 rfl cl_X8 9 (by decide) rfl wf_X8_166 dX8_spareBy_53 ?_
  refine tg_icmp_ge (tgt := 113) X dX8_spareBy_56 (by decide) (fun c1 => ?_) (fun c1 => ?_)
  · have h := tg_ifT c1 h
    refine tg_iconst X dX8_spareBy_113 tk_im1 ?_
    exact tg_iret X h rfl dX8_spareBy_114
  · have h := tg_ifF c1 h
    refine tg_iload_n X dX8_spareBy_59 rfl 1 rfl ?_
    refine tg_iconst X dX8_spareBy_60 tk_i1 ?_
    refine tg_iadd X dX8_spareBy_61 ?_
    refine tg_topi (fun y2 ey2 => ?_)
    have h := tg_nmE ey2 h
    refine tg_istore_n (lv2 := [(2, .int y2), (0, .ref (tg_ad x 0)), (1, .int v1)]) X dX8_spareBy_62 rfl (by decide) rfl ?_
    refine tg_re [1, 2, 0] rfl ?_
    exact wl_X8_spareBy_63 X hr51 tg_F S v1 y2 h
theorem wl_X8_spareBy_51 {x : tg_X} {Sf : tg_S} {r : Int32} (X : tg_M tauR x cX8_spareBy 3 RX8 zr_X8_spareBy (some .int) Sf (some (.int r))) : ∀ (n : Nat) (S : tg_S) (v1 : Int32) (h : L_X8_spareBy_51  n S v1 = some (Sf, r)), tg_G tauR x S 51 [(0, .ref (tg_ad x 0)), (1, .int v1)] [] := by
  intro n
  induction n with
  | zero => intro S v1 h; cases h
  | succ n ih => intro S v1 h; exact w_X8_spareBy_51 X  ih S v1 h
set_option maxRecDepth 20000 in
set_option maxHeartbeats 4000000 in
theorem w_X8_spareBy_16 {x : tg_X} {Sf : tg_S} {r : Int32} {rec16 : tg_S → Int32 → Option (tg_S × Int32)} (X : tg_M tauR x cX8_spareBy 3 RX8 zr_X8_spareBy (some .int) Sf (some (.int r))) (hr16 : ∀ (S : tg_S) (v1 : Int32), rec16 S v1 = some (Sf, r) → tg_G tauR x S 16 [(0, .ref (tg_ad x 0)), (1, .int v1)] []) (S : tg_S) (v1 : Int32) (h : f_X8_spareBy_16 rec16 S v1 = some (Sf, r)) : tg_G tauR x S 16 [(0, .ref (tg_ad x 0)), (1, .int v1)] [] := by
  unfold f_X8_spareBy_16 at h
  refine tg_iload_n X dX8_spareBy_16 rfl 1 rfl ?_
  refine tg_aload_n X dX8_spareBy_17 rfl 0 rfl ?_
  refine tg_geti X 0 rfl cl_X8 9 (by decide) rfl wf_X8_166 dX8_spareBy_18 ?_
  refine tg_icmp_ge (tgt := 49) X dX8_spareBy_21 (by decide) (fun c1 => ?_) (fun c1 => ?_)
  · have h := tg_ifT c1 h
    refine tg_iconst X dX8_spareBy_49 tk_i0 ?_
    refine tg_istore_n (lv2 := [(1, .int 0), (0, .ref (tg_ad x 0))]) X dX8_spareBy_50 rfl (by decide) rfl ?_
    refine tg_re [1, 0] rfl ?_
    exact wl_X8_spareBy_51 X  tg_F S 0 h
  · have h := tg_ifF c1 h
    refine tg_aload_n X dX8_spareBy_24 rfl 0 rfl ?_
    refine tg_getr X 0 rfl cl_X8 36 (by decide) rfl wf_X8_79 dX8_spareBy_25 ?_
    refine tg_iconst X dX8_spareBy_28 tk_i0 ?_
    refine tg_iload_n X dX8_spareBy_29 rfl 1 rfl ?_
    obtain ⟨S2, eS2, bS2, h⟩ := tg_wrE h
    refine tg_iast X 24 rfl bS2 dX8_spareBy_30 eS2 ?_
    refine tg_aload_n X dX8_spareBy_31 rfl 0 rfl ?_
    refine tg_iconst X dX8_spareBy_32 tk_i1 ?_
    refine tg_iload_n X dX8_spareBy_33 rfl 1 rfl ?_
    refine tg_ishl X dX8_spareBy_34 ?_
    obtain ⟨S3, r4, kS3, h⟩ := tg_bdE h
    refine tg_callV (As := [.int (1 <<< (v1 &&& 31))]) (rest := []) X 0 (cm_X8_isSpared _ _ _ _ _ kS3) yy_X8_isSpared wv_X8_isSpared ws_X8_isSpared wm_X8_284 rfl cl_X8.1 ⟨rfl, rfl, Nat.le_of_ble_eq_true rfl, Nat.le_of_ble_eq_true rfl⟩ rfl rfl (Nat.le_of_ble_eq_true rfl) dX8_spareBy_35 rfl ?_
    refine tg_if_eq (tgt := 43) X dX8_spareBy_38 (by decide) (fun c5 => ?_) (fun c5 => ?_)
    · have h := tg_ifT c5 h
      obtain ⟨y6, ey6⟩ : ∃ z : Int32, z = v1 + 1 := ⟨_, rfl⟩
      have h := tg_nmE ey6 h
      refine tg_iinc (lv2 := [(1, .int y6), (0, .ref (tg_ad x 0))]) X dX8_spareBy_43 1 rfl tk_i1 ey6 (by decide) rfl ?_
      refine tg_goto (tgt := 16) X dX8_spareBy_46 (by decide) ?_
      refine tg_re [1, 0] rfl ?_
      exact hr16 S3 y6 h
    · have h := tg_ifF c5 h
      refine tg_iconst X dX8_spareBy_41 tk_i1 ?_
      exact tg_iret X h rfl dX8_spareBy_42
theorem wl_X8_spareBy_16 {x : tg_X} {Sf : tg_S} {r : Int32} (X : tg_M tauR x cX8_spareBy 3 RX8 zr_X8_spareBy (some .int) Sf (some (.int r))) : ∀ (n : Nat) (S : tg_S) (v1 : Int32) (h : L_X8_spareBy_16  n S v1 = some (Sf, r)), tg_G tauR x S 16 [(0, .ref (tg_ad x 0)), (1, .int v1)] [] := by
  intro n
  induction n with
  | zero => intro S v1 h; cases h
  | succ n ih => intro S v1 h; exact w_X8_spareBy_16 X  ih S v1 h
set_option maxRecDepth 20000 in
set_option maxHeartbeats 4000000 in
theorem w_X8_spareBy_0 {x : tg_X} {Sf : tg_S} {r : Int32} (X : tg_M tauR x cX8_spareBy 3 RX8 zr_X8_spareBy (some .int) Sf (some (.int r))) (S : tg_S) (h : f_X8_spareBy  S  = some (Sf, r)) : tg_G tauR x S 0 [(0, .ref (tg_ad x 0))] [] := by
  unfold f_X8_spareBy at h
  refine tg_aload_n X dX8_spareBy_0 rfl 0 rfl ?_
  obtain ⟨S1, kS1, h⟩ := tg_bvE h
  refine tg_callV (As := []) (rest := []) X 0 (cm_X8_asTold _ _ _ _ _ kS1) yy_X8_asTold wv_X8_asTold ws_X8_asTold wm_X8_229 rfl cl_X8.1 ⟨rfl, rfl, Nat.le_of_ble_eq_true rfl, Nat.le_of_ble_eq_true rfl⟩ rfl rfl (Nat.le_of_ble_eq_true rfl) dX8_spareBy_1 rfl ?_
  refine tg_aload_n X dX8_spareBy_4 rfl 0 rfl ?_
  refine tg_iconst X dX8_spareBy_5 tk_i0 ?_
  obtain ⟨S2, r3, kS2, h⟩ := tg_bdE h
  refine tg_callV (As := [.int 0]) (rest := []) X 0 (cm_X8_isSpared _ _ _ _ _ kS2) yy_X8_isSpared wv_X8_isSpared ws_X8_isSpared wm_X8_284 rfl cl_X8.1 ⟨rfl, rfl, Nat.le_of_ble_eq_true rfl, Nat.le_of_ble_eq_true rfl⟩ rfl rfl (Nat.le_of_ble_eq_true rfl) dX8_spareBy_6 rfl ?_
  refine tg_if_eq (tgt := 14) X dX8_spareBy_9 (by decide) (fun c4 => ?_) (fun c4 => ?_)
  · have h := tg_ifT c4 h
    refine tg_iconst X dX8_spareBy_14 tk_i0 ?_
    refine tg_istore_n (lv2 := [(1, .int 0), (0, .ref (tg_ad x 0))]) X dX8_spareBy_15 rfl (by decide) rfl ?_
    refine tg_re [1, 0] rfl ?_
    exact wl_X8_spareBy_16 X  tg_F S2 0 h
  · have h := tg_ifF c4 h
    refine tg_iconst X dX8_spareBy_12 tk_i0 ?_
    exact tg_iret X h rfl dX8_spareBy_13
theorem cm_X8_spareBy (l : Launch) (D : va_G) (cy : Bool → ClassId) (ad : Nat → Nat) (tS : Nat) {S Sf : tg_S} {r : Int32} (h : f_X8_spareBy  S  = some (Sf, r)) : tg_Met l yX8_spareBy cX8_spareBy 3 (some .int) zr_X8_spareBy tauR D cy ad tS S [.ref (ad 0)] Sf (some (.int r)) := tg_mk (by decide +kernel) trivial (Nat.le_of_ble_eq_true rfl) (fun p e s m args below meth c Q A X => w_X8_spareBy_0 X S  h)
-- X8_ofRow
def zr_X8_ofRow : Room := { frames := 0, cells := 0, slots := 0, locals := 0 }
theorem dX8_ofRow_0 : decode cX8_ofRow 0 = .ok (.iload_n 2, 1) := by decide +kernel
theorem dX8_ofRow_1 : decode cX8_ofRow 1 = .ok (.iconst (-1), 1) := by decide +kernel
theorem dX8_ofRow_2 : decode cX8_ofRow 2 = .ok (.if_icmp .ne 7, 3) := by decide +kernel
theorem dX8_ofRow_5 : decode cX8_ofRow 5 = .ok (.iload_n 1, 1) := by decide +kernel
theorem dX8_ofRow_6 : decode cX8_ofRow 6 = .ok (.goto 18, 3) := by decide +kernel
theorem dX8_ofRow_9 : decode cX8_ofRow 9 = .ok (.iload_n 2, 1) := by decide +kernel
theorem dX8_ofRow_10 : decode cX8_ofRow 10 = .ok (.iload_n 1, 1) := by decide +kernel
theorem dX8_ofRow_11 : decode cX8_ofRow 11 = .ok (.if_icmp .ge 12, 3) := by decide +kernel
theorem dX8_ofRow_14 : decode cX8_ofRow 14 = .ok (.aload_n 0, 1) := by decide +kernel
theorem dX8_ofRow_15 : decode cX8_ofRow 15 = .ok (.getfield 79, 3) := by decide +kernel
theorem dX8_ofRow_18 : decode cX8_ofRow 18 = .ok (.iload_n 2, 1) := by decide +kernel
theorem dX8_ofRow_19 : decode cX8_ofRow 19 = .ok (.iaload, 1) := by decide +kernel
theorem dX8_ofRow_20 : decode cX8_ofRow 20 = .ok (.goto 4, 3) := by decide +kernel
theorem dX8_ofRow_23 : decode cX8_ofRow 23 = .ok (.iconst (-1), 1) := by decide +kernel
theorem dX8_ofRow_24 : decode cX8_ofRow 24 = .ok (.ireturn, 1) := by decide +kernel
set_option maxRecDepth 20000 in
set_option maxHeartbeats 4000000 in
theorem w_X8_ofRow_0 {x : tg_X} {Sf : tg_S} {r : Int32} (X : tg_M tauR x cX8_ofRow 3 RX8 zr_X8_ofRow (some .int) Sf (some (.int r))) (S : tg_S) (v1 : Int32) (v2 : Int32) (h : f_X8_ofRow  S v1 v2 = some (Sf, r)) : tg_G tauR x S 0 [(0, .ref (tg_ad x 0)), (1, .int v1), (2, .int v2)] [] := by
  unfold f_X8_ofRow at h
  refine tg_iload_n X dX8_ofRow_0 rfl 2 rfl ?_
  refine tg_iconst X dX8_ofRow_1 tk_im1 ?_
  refine tg_icmp_ne (tgt := 9) X dX8_ofRow_2 (by decide) (fun c1 => ?_) (fun c1 => ?_)
  · have h := tg_ifF c1 h
    refine tg_iload_n X dX8_ofRow_9 rfl 2 rfl ?_
    refine tg_iload_n X dX8_ofRow_10 rfl 1 rfl ?_
    refine tg_icmp_ge (tgt := 23) X dX8_ofRow_11 (by decide) (fun c2 => ?_) (fun c2 => ?_)
    · have h := tg_ifT c2 h
      refine tg_iconst X dX8_ofRow_23 tk_im1 ?_
      exact tg_iret X h rfl dX8_ofRow_24
    · have h := tg_ifF c2 h
      refine tg_aload_n X dX8_ofRow_14 rfl 0 rfl ?_
      refine tg_getr X 0 rfl cl_X8 36 (by decide) rfl wf_X8_79 dX8_ofRow_15 ?_
      refine tg_iload_n X dX8_ofRow_18 rfl 2 rfl ?_
      obtain ⟨y3, ey3, by3, h⟩ := tg_rdE h
      refine tg_iald X 24 rfl ey3 by3 dX8_ofRow_19 ?_
      refine tg_goto (tgt := 24) X dX8_ofRow_20 (by decide) ?_
      exact tg_iret X h rfl dX8_ofRow_24
  · have h := tg_ifT c1 h
    refine tg_iload_n X dX8_ofRow_5 rfl 1 rfl ?_
    refine tg_goto (tgt := 24) X dX8_ofRow_6 (by decide) ?_
    exact tg_iret X h rfl dX8_ofRow_24
theorem cm_X8_ofRow (l : Launch) (D : va_G) (cy : Bool → ClassId) (ad : Nat → Nat) (tS : Nat) {S Sf : tg_S} {v1 : Int32} {v2 : Int32} {r : Int32} (h : f_X8_ofRow  S v1 v2 = some (Sf, r)) : tg_Met l yX8_ofRow cX8_ofRow 3 (some .int) zr_X8_ofRow tauR D cy ad tS S [.ref (ad 0), .int v1, .int v2] Sf (some (.int r)) := tg_mk (by decide +kernel) trivial (Nat.le_of_ble_eq_true rfl) (fun p e s m args below meth c Q A X => w_X8_ofRow_0 X S v1 v2 h)
