-- X7_read
def zr_X7_read : Room := { frames := 6, cells := 0, slots := 0, locals := 140 }
theorem dX7_read_0 : decode cX7_read 0 = .ok (.iload_n 1, 1) := by decide +kernel
theorem dX7_read_1 : decode cX7_read 1 = .ok (.iconst 4, 1) := by decide +kernel
theorem dX7_read_2 : decode cX7_read 2 = .ok (.invokestatic 75, 3) := by decide +kernel
theorem dX7_read_5 : decode cX7_read 5 = .ok (.ifCond .ne 6, 3) := by decide +kernel
theorem dX7_read_8 : decode cX7_read 8 = .ok (.bipush (-2), 2) := by decide +kernel
theorem dX7_read_10 : decode cX7_read 10 = .ok (.ireturn, 1) := by decide +kernel
theorem dX7_read_11 : decode cX7_read 11 = .ok (.aload_n 0, 1) := by decide +kernel
theorem dX7_read_12 : decode cX7_read 12 = .ok (.getfield 26, 3) := by decide +kernel
theorem dX7_read_15 : decode cX7_read 15 = .ok (.iload_n 1, 1) := by decide +kernel
theorem dX7_read_16 : decode cX7_read 16 = .ok (.invokevirtual 140, 3) := by decide +kernel
theorem dX7_read_19 : decode cX7_read 19 = .ok (.ifCond .eq 9, 3) := by decide +kernel
theorem dX7_read_22 : decode cX7_read 22 = .ok (.aload_n 0, 1) := by decide +kernel
theorem dX7_read_23 : decode cX7_read 23 = .ok (.iconst 1, 1) := by decide +kernel
theorem dX7_read_24 : decode cX7_read 24 = .ok (.invokevirtual 143, 3) := by decide +kernel
theorem dX7_read_27 : decode cX7_read 27 = .ok (.ireturn, 1) := by decide +kernel
theorem dX7_read_28 : decode cX7_read 28 = .ok (.iconst 0, 1) := by decide +kernel
theorem dX7_read_29 : decode cX7_read 29 = .ok (.istore_n 2, 1) := by decide +kernel
theorem dX7_read_30 : decode cX7_read 30 = .ok (.iconst 1, 1) := by decide +kernel
theorem dX7_read_31 : decode cX7_read 31 = .ok (.istore_n 3, 1) := by decide +kernel
theorem dX7_read_32 : decode cX7_read 32 = .ok (.iconst 0, 1) := by decide +kernel
theorem dX7_read_33 : decode cX7_read 33 = .ok (.istore 4, 2) := by decide +kernel
theorem dX7_read_35 : decode cX7_read 35 = .ok (.iload_n 3, 1) := by decide +kernel
theorem dX7_read_36 : decode cX7_read 36 = .ok (.ifCond .eq 83, 3) := by decide +kernel
theorem dX7_read_39 : decode cX7_read 39 = .ok (.iload 4, 2) := by decide +kernel
theorem dX7_read_41 : decode cX7_read 41 = .ok (.iconst 3, 1) := by decide +kernel
theorem dX7_read_42 : decode cX7_read 42 = .ok (.iadd, 1) := by decide +kernel
theorem dX7_read_43 : decode cX7_read 43 = .ok (.aload_n 0, 1) := by decide +kernel
theorem dX7_read_44 : decode cX7_read 44 = .ok (.getfield 26, 3) := by decide +kernel
theorem dX7_read_47 : decode cX7_read 47 = .ok (.iload_n 1, 1) := by decide +kernel
theorem dX7_read_48 : decode cX7_read 48 = .ok (.invokevirtual 146, 3) := by decide +kernel
theorem dX7_read_51 : decode cX7_read 51 = .ok (.if_icmp .gt 68, 3) := by decide +kernel
theorem dX7_read_54 : decode cX7_read 54 = .ok (.aload_n 0, 1) := by decide +kernel
theorem dX7_read_55 : decode cX7_read 55 = .ok (.aload_n 0, 1) := by decide +kernel
theorem dX7_read_56 : decode cX7_read 56 = .ok (.getfield 26, 3) := by decide +kernel
theorem dX7_read_59 : decode cX7_read 59 = .ok (.iload_n 1, 1) := by decide +kernel
theorem dX7_read_60 : decode cX7_read 60 = .ok (.iload 4, 2) := by decide +kernel
theorem dX7_read_62 : decode cX7_read 62 = .ok (.invokevirtual 148, 3) := by decide +kernel
theorem dX7_read_65 : decode cX7_read 65 = .ok (.aload_n 0, 1) := by decide +kernel
theorem dX7_read_66 : decode cX7_read 66 = .ok (.getfield 26, 3) := by decide +kernel
theorem dX7_read_69 : decode cX7_read 69 = .ok (.iload_n 1, 1) := by decide +kernel
theorem dX7_read_70 : decode cX7_read 70 = .ok (.iload 4, 2) := by decide +kernel
theorem dX7_read_72 : decode cX7_read 72 = .ok (.iconst 1, 1) := by decide +kernel
theorem dX7_read_73 : decode cX7_read 73 = .ok (.iadd, 1) := by decide +kernel
theorem dX7_read_74 : decode cX7_read 74 = .ok (.invokevirtual 148, 3) := by decide +kernel
theorem dX7_read_77 : decode cX7_read 77 = .ok (.aload_n 0, 1) := by decide +kernel
theorem dX7_read_78 : decode cX7_read 78 = .ok (.getfield 26, 3) := by decide +kernel
theorem dX7_read_81 : decode cX7_read 81 = .ok (.iload_n 1, 1) := by decide +kernel
theorem dX7_read_82 : decode cX7_read 82 = .ok (.iload 4, 2) := by decide +kernel
theorem dX7_read_84 : decode cX7_read 84 = .ok (.iconst 2, 1) := by decide +kernel
theorem dX7_read_85 : decode cX7_read 85 = .ok (.iadd, 1) := by decide +kernel
theorem dX7_read_86 : decode cX7_read 86 = .ok (.invokevirtual 148, 3) := by decide +kernel
theorem dX7_read_89 : decode cX7_read 89 = .ok (.invokevirtual 151, 3) := by decide +kernel
theorem dX7_read_92 : decode cX7_read 92 = .ok (.ifCond .le 7, 3) := by decide +kernel
theorem dX7_read_95 : decode cX7_read 95 = .ok (.iconst 1, 1) := by decide +kernel
theorem dX7_read_96 : decode cX7_read 96 = .ok (.goto 4, 3) := by decide +kernel
theorem dX7_read_99 : decode cX7_read 99 = .ok (.iconst 0, 1) := by decide +kernel
theorem dX7_read_100 : decode cX7_read 100 = .ok (.istore_n 3, 1) := by decide +kernel
theorem dX7_read_101 : decode cX7_read 101 = .ok (.iload_n 2, 1) := by decide +kernel
theorem dX7_read_102 : decode cX7_read 102 = .ok (.iload_n 3, 1) := by decide +kernel
theorem dX7_read_103 : decode cX7_read 103 = .ok (.ifCond .eq 7, 3) := by decide +kernel
theorem dX7_read_106 : decode cX7_read 106 = .ok (.iconst 1, 1) := by decide +kernel
theorem dX7_read_107 : decode cX7_read 107 = .ok (.goto 4, 3) := by decide +kernel
theorem dX7_read_110 : decode cX7_read 110 = .ok (.iconst 0, 1) := by decide +kernel
theorem dX7_read_111 : decode cX7_read 111 = .ok (.iadd, 1) := by decide +kernel
theorem dX7_read_112 : decode cX7_read 112 = .ok (.istore_n 2, 1) := by decide +kernel
theorem dX7_read_113 : decode cX7_read 113 = .ok (.iinc 4 3, 3) := by decide +kernel
theorem dX7_read_116 : decode cX7_read 116 = .ok (.goto (-81), 3) := by decide +kernel
theorem dX7_read_119 : decode cX7_read 119 = .ok (.iload_n 2, 1) := by decide +kernel
theorem dX7_read_120 : decode cX7_read 120 = .ok (.ireturn, 1) := by decide +kernel
set_option maxRecDepth 20000 in
set_option maxHeartbeats 4000000 in
theorem w_X7_read_111 {x : tg_X} {Sf : tg_S} {r : Int32} {rec35 : tg_S → Int32 → Int32 → Int32 → Int32 → Option (tg_S × Int32)} (X : tg_M tauC x cX7_read 5 RX7 zr_X7_read (some .int) Sf (some (.int r))) (hr35 : ∀ (S : tg_S) (v1 : Int32) (v2 : Int32) (v3 : Int32) (v4 : Int32), rec35 S v1 v2 v3 v4 = some (Sf, r) → tg_G tauC x S 35 [(0, .ref (tg_ad x 0)), (1, .int v1), (2, .int v2), (3, .int v3), (4, .int v4)] []) (S : tg_S) (v1 : Int32) (v3 : Int32) (v4 : Int32) (s0 : Int32) (s1 : Int32) (h : f_X7_read_111 rec35 S v1 v3 v4 s0 s1 = some (Sf, r)) : tg_G tauC x S 111 [(0, .ref (tg_ad x 0)), (1, .int v1), (3, .int v3), (4, .int v4)] [.int s0, .int s1] := by
  unfold f_X7_read_111 at h
  refine tg_iadd X dX7_read_111 ?_
  refine tg_topi (fun y1 ey1 => ?_)
  have h := tg_nmE ey1 h
  refine tg_istore_n (lv2 := [(2, .int y1), (0, .ref (tg_ad x 0)), (1, .int v1), (3, .int v3), (4, .int v4)]) X dX7_read_112 rfl (by decide) rfl ?_
  obtain ⟨y2, ey2⟩ : ∃ z : Int32, z = v4 + 3 := ⟨_, rfl⟩
  have h := tg_nmE ey2 h
  refine tg_iinc (lv2 := [(4, .int y2), (2, .int y1), (0, .ref (tg_ad x 0)), (1, .int v1), (3, .int v3)]) X dX7_read_113 4 rfl tk_i3 ey2 (by decide) rfl ?_
  refine tg_goto (tgt := 35) X dX7_read_116 (by decide) ?_
  refine tg_re [2, 3, 1, 4, 0] rfl ?_
  exact hr35 S v1 y1 v3 y2 h
set_option maxRecDepth 20000 in
set_option maxHeartbeats 4000000 in
theorem w_X7_read_100 {x : tg_X} {Sf : tg_S} {r : Int32} {rec35 : tg_S → Int32 → Int32 → Int32 → Int32 → Option (tg_S × Int32)} (X : tg_M tauC x cX7_read 5 RX7 zr_X7_read (some .int) Sf (some (.int r))) (hr35 : ∀ (S : tg_S) (v1 : Int32) (v2 : Int32) (v3 : Int32) (v4 : Int32), rec35 S v1 v2 v3 v4 = some (Sf, r) → tg_G tauC x S 35 [(0, .ref (tg_ad x 0)), (1, .int v1), (2, .int v2), (3, .int v3), (4, .int v4)] []) (S : tg_S) (v1 : Int32) (v2 : Int32) (v4 : Int32) (s0 : Int32) (h : f_X7_read_100 rec35 S v1 v2 v4 s0 = some (Sf, r)) : tg_G tauC x S 100 [(0, .ref (tg_ad x 0)), (1, .int v1), (2, .int v2), (4, .int v4)] [.int s0] := by
  unfold f_X7_read_100 at h
  refine tg_istore_n (lv2 := [(3, .int s0), (0, .ref (tg_ad x 0)), (1, .int v1), (2, .int v2), (4, .int v4)]) X dX7_read_100 rfl (by decide) rfl ?_
  refine tg_iload_n X dX7_read_101 rfl 3 rfl ?_
  refine tg_iload_n X dX7_read_102 rfl 0 rfl ?_
  refine tg_if_eq (tgt := 110) X dX7_read_103 (by decide) (fun c1 => ?_) (fun c1 => ?_)
  · rw [if_pos c1] at h
    refine tg_iconst X dX7_read_110 tk_i0 ?_
    refine tg_re [1, 2, 0, 4] rfl ?_
    exact w_X7_read_111 X hr35 S v1 s0 v4 0 v2 h
  · rw [if_neg c1] at h
    refine tg_iconst X dX7_read_106 tk_i1 ?_
    refine tg_goto (tgt := 111) X dX7_read_107 (by decide) ?_
    refine tg_re [1, 2, 0, 4] rfl ?_
    exact w_X7_read_111 X hr35 S v1 s0 v4 1 v2 h
set_option maxRecDepth 20000 in
set_option maxHeartbeats 4000000 in
theorem w_X7_read_35 {x : tg_X} {Sf : tg_S} {r : Int32} {rec35 : tg_S → Int32 → Int32 → Int32 → Int32 → Option (tg_S × Int32)} (X : tg_M tauC x cX7_read 5 RX7 zr_X7_read (some .int) Sf (some (.int r))) (hr35 : ∀ (S : tg_S) (v1 : Int32) (v2 : Int32) (v3 : Int32) (v4 : Int32), rec35 S v1 v2 v3 v4 = some (Sf, r) → tg_G tauC x S 35 [(0, .ref (tg_ad x 0)), (1, .int v1), (2, .int v2), (3, .int v3), (4, .int v4)] []) (S : tg_S) (v1 : Int32) (v2 : Int32) (v3 : Int32) (v4 : Int32) (h : f_X7_read_35 rec35 S v1 v2 v3 v4 = some (Sf, r)) : tg_G tauC x S 35 [(0, .ref (tg_ad x 0)), (1, .int v1), (2, .int v2), (3, .int v3), (4, .int v4)] [] := by
  unfold f_X7_read_35 at h
  refine tg_iload_n X dX7_read_35 rfl 3 rfl ?_
  refine tg_if_eq (tgt := 119) X dX7_read_36 (by decide) (fun c1 => ?_) (fun c1 => ?_)
  · have h := tg_ifT c1 h
    refine tg_iload_n X dX7_read_119 rfl 2 rfl ?_
    exact tg_iret X h rfl dX7_read_120
  · have h := tg_ifF c1 h
    refine tg_iload X dX7_read_39 4 rfl ?_
    refine tg_iconst X dX7_read_41 tk_i3 ?_
    refine tg_iadd X dX7_read_42 ?_
    refine tg_aload_n X dX7_read_43 rfl 0 rfl ?_
    refine tg_getr X 0 rfl cl_X7 2 (by decide) rfl wf_X7_26 dX7_read_44 ?_
    refine tg_iload_n X dX7_read_47 rfl 1 rfl ?_
    obtain ⟨S2, r3, kS2, h⟩ := tg_bdE h
    refine tg_callV (As := [.int v1]) (rest := [.int (v4 + 3)]) X 7 (cm_X5_size _ _ _ _ _ kS2) yy_X5_size wv_X5_size ws_X5_size wm_X7_146 rfl cl_X5.1 ⟨rfl, rfl, Nat.le_of_ble_eq_true rfl, Nat.le_of_ble_eq_true rfl⟩ rfl rfl (Nat.le_of_ble_eq_true rfl) dX7_read_48 rfl ?_
    refine tg_icmp_gt (tgt := 119) X dX7_read_51 (by decide) (fun c4 => ?_) (fun c4 => ?_)
    · have h := tg_ifT c4 h
      refine tg_iload_n X dX7_read_119 rfl 2 rfl ?_
      exact tg_iret X h rfl dX7_read_120
    · have h := tg_ifF c4 h
      refine tg_aload_n X dX7_read_54 rfl 0 rfl ?_
      refine tg_aload_n X dX7_read_55 rfl 0 rfl ?_
      refine tg_getr X 0 rfl cl_X7 2 (by decide) rfl wf_X7_26 dX7_read_56 ?_
      refine tg_iload_n X dX7_read_59 rfl 1 rfl ?_
      refine tg_iload X dX7_read_60 4 rfl ?_
      obtain ⟨S5, r6, kS5, h⟩ := tg_bdE h
      refine tg_callV (As := [.int v1, .int v4]) (rest := [.ref (tg_ad x 0)]) X 7 (cm_X5_item _ _ _ _ _ kS5) yy_X5_item wv_X5_item ws_X5_item wm_X7_148 rfl cl_X5.1 ⟨rfl, rfl, Nat.le_of_ble_eq_true rfl, Nat.le_of_ble_eq_true rfl⟩ rfl rfl (Nat.le_of_ble_eq_true rfl) dX7_read_62 rfl ?_
      refine tg_aload_n X dX7_read_65 rfl 0 rfl ?_
      refine tg_getr X 0 rfl cl_X7 2 (by decide) rfl wf_X7_26 dX7_read_66 ?_
      refine tg_iload_n X dX7_read_69 rfl 1 rfl ?_
      refine tg_iload X dX7_read_70 4 rfl ?_
      refine tg_iconst X dX7_read_72 tk_i1 ?_
      refine tg_iadd X dX7_read_73 ?_
      obtain ⟨S7, r8, kS7, h⟩ := tg_bdE h
      refine tg_callV (As := [.int v1, .int (v4 + 1)]) (rest := [.int r6, .ref (tg_ad x 0)]) X 7 (cm_X5_item _ _ _ _ _ kS7) yy_X5_item wv_X5_item ws_X5_item wm_X7_148 rfl cl_X5.1 ⟨rfl, rfl, Nat.le_of_ble_eq_true rfl, Nat.le_of_ble_eq_true rfl⟩ rfl rfl (Nat.le_of_ble_eq_true rfl) dX7_read_74 rfl ?_
      refine tg_aload_n X dX7_read_77 rfl 0 rfl ?_
      refine tg_getr X 0 rfl cl_X7 2 (by decide) rfl wf_X7_26 dX7_read_78 ?_
      refine tg_iload_n X dX7_read_81 rfl 1 rfl ?_
      refine tg_iload X dX7_read_82 4 rfl ?_
      refine tg_iconst X dX7_read_84 tk_i2 ?_
      refine tg_iadd X dX7_read_85 ?_
      obtain ⟨S9, r10, kS9, h⟩ := tg_bdE h
      refine tg_callV (As := [.int v1, .int (v4 + 2)]) (rest := [.int r8, .int r6, .ref (tg_ad x 0)]) X 7 (cm_X5_item _ _ _ _ _ kS9) yy_X5_item wv_X5_item ws_X5_item wm_X7_148 rfl cl_X5.1 ⟨rfl, rfl, Nat.le_of_ble_eq_true rfl, Nat.le_of_ble_eq_true rfl⟩ rfl rfl (Nat.le_of_ble_eq_true rfl) dX7_read_86 rfl ?_
      obtain ⟨S11, r12, kS11, h⟩ := tg_bdE h
      refine tg_callV (As := [.int r6, .int r8, .int r10]) (rest := []) X 0 (cm_X7_event _ _ _ _ _ kS11) yy_X7_event wv_X7_event ws_X7_event wm_X7_151 rfl cl_X7.1 ⟨rfl, rfl, Nat.le_of_ble_eq_true rfl, Nat.le_of_ble_eq_true rfl⟩ rfl rfl (Nat.le_of_ble_eq_true rfl) dX7_read_89 rfl ?_
      refine tg_if_le (tgt := 99) X dX7_read_92 (by decide) (fun c13 => ?_) (fun c13 => ?_)
      · rw [if_pos c13] at h
        refine tg_iconst X dX7_read_99 tk_i0 ?_
        refine tg_re [0, 1, 2, 4] rfl ?_
        exact w_X7_read_100 X hr35 S11 v1 v2 v4 0 h
      · rw [if_neg c13] at h
        refine tg_iconst X dX7_read_95 tk_i1 ?_
        refine tg_goto (tgt := 100) X dX7_read_96 (by decide) ?_
        refine tg_re [0, 1, 2, 4] rfl ?_
        exact w_X7_read_100 X hr35 S11 v1 v2 v4 1 h
theorem wl_X7_read_35 {x : tg_X} {Sf : tg_S} {r : Int32} (X : tg_M tauC x cX7_read 5 RX7 zr_X7_read (some .int) Sf (some (.int r))) : ∀ (n : Nat) (S : tg_S) (v1 : Int32) (v2 : Int32) (v3 : Int32) (v4 : Int32) (h : L_X7_read_35  n S v1 v2 v3 v4 = some (Sf, r)), tg_G tauC x S 35 [(0, .ref (tg_ad x 0)), (1, .int v1), (2, .int v2), (3, .int v3), (4, .int v4)] [] := by
  intro n
  induction n with
  | zero => intro S v1 v2 v3 v4 h; cases h
  | succ n ih => intro S v1 v2 v3 v4 h; exact w_X7_read_35 X  ih S v1 v2 v3 v4 h
set_option maxRecDepth 20000 in
set_option maxHeartbeats 4000000 in
theorem w_X7_read_0 {x : tg_X} {Sf : tg_S} {r : Int32} (X : tg_M tauC x cX7_read 5 RX7 zr_X7_read (some .int) Sf (some (.int r))) (S : tg_S) (v1 : Int32) (h : f_X7_read  S v1 = some (Sf, r)) : tg_G tauC x S 0 [(0, .ref (tg_ad x 0)), (1, .int v1)] [] := by
  unfold f_X7_read at h
  refine tg_iload_n X dX7_read_0 rfl 1 rfl ?_
  refine tg_iconst X dX7_read_1 tk_i4 ?_
  obtain ⟨S1, r2, kS1, h⟩ := tg_bdE h
  refine tg_callS (As := [.int v1, .int 4]) (rest := []) X (cm_X7_isBelow _ _ _ _ _ kS1) yy_X7_isBelow wt_X7_isBelow wm_X7_75 ⟨rfl, rfl, Nat.le_of_ble_eq_true rfl, Nat.le_of_ble_eq_true rfl⟩ rfl rfl (Nat.le_of_ble_eq_true rfl) dX7_read_2 rfl ?_
  refine tg_if_ne (tgt := 11) X dX7_read_5 (by decide) (fun c3 => ?_) (fun c3 => ?_)
  · have h := tg_ifF c3 h
    refine tg_aload_n X dX7_read_11 rfl 0 rfl ?_
    refine tg_getr X 0 rfl cl_X7 2 (by decide) rfl wf_X7_26 dX7_read_12 ?_
    refine tg_iload_n X dX7_read_15 rfl 1 rfl ?_
    obtain ⟨S4, r5, kS4, h⟩ := tg_bdE h
    refine tg_callV (As := [.int v1]) (rest := []) X 7 (cm_X5_isLost _ _ _ _ _ kS4) yy_X5_isLost wv_X5_isLost ws_X5_isLost wm_X7_140 rfl cl_X5.1 ⟨rfl, rfl, Nat.le_of_ble_eq_true rfl, Nat.le_of_ble_eq_true rfl⟩ rfl rfl (Nat.le_of_ble_eq_true rfl) dX7_read_16 rfl ?_
    refine tg_if_eq (tgt := 28) X dX7_read_19 (by decide) (fun c6 => ?_) (fun c6 => ?_)
    · have h := tg_ifT c6 h
      refine tg_iconst X dX7_read_28 tk_i0 ?_
      refine tg_istore_n (lv2 := [(2, .int 0), (0, .ref (tg_ad x 0)), (1, .int v1)]) X dX7_read_29 rfl (by decide) rfl ?_
      refine tg_iconst X dX7_read_30 tk_i1 ?_
      refine tg_istore_n (lv2 := [(3, .int 1), (2, .int 0), (0, .ref (tg_ad x 0)), (1, .int v1)]) X dX7_read_31 rfl (by decide) rfl ?_
      refine tg_iconst X dX7_read_32 tk_i0 ?_
      refine tg_istore (lv2 := [(4, .int 0), (3, .int 1), (2, .int 0), (0, .ref (tg_ad x 0)), (1, .int v1)]) X dX7_read_33 (by decide) rfl ?_
      refine tg_re [3, 4, 2, 1, 0] rfl ?_
      exact wl_X7_read_35 X  tg_F S4 v1 0 1 0 h
    · have h := tg_ifF c6 h
      refine tg_aload_n X dX7_read_22 rfl 0 rfl ?_
      refine tg_iconst X dX7_read_23 tk_i1 ?_
      obtain ⟨S7, r8, kS7, h⟩ := tg_bdE h
      refine tg_callV (As := [.int 1]) (rest := []) X 0 (cm_X7_found _ _ _ _ _ kS7) yy_X7_found wv_X7_found ws_X7_found wm_X7_143 rfl cl_X7.1 ⟨rfl, rfl, Nat.le_of_ble_eq_true rfl, Nat.le_of_ble_eq_true rfl⟩ rfl rfl (Nat.le_of_ble_eq_true rfl) dX7_read_24 rfl ?_
      exact tg_iret X h rfl dX7_read_27
  · have h := tg_ifT c3 h
    refine tg_bipush X dX7_read_8 tk_bm2 ?_
    exact tg_iret X h rfl dX7_read_10
theorem cm_X7_read (l : Launch) (D : va_G) (cy : Bool → ClassId) (ad : Nat → Nat) (tS : Nat) {S Sf : tg_S} {v1 : Int32} {r : Int32} (h : f_X7_read  S v1 = some (Sf, r)) : tg_Met l yX7_read cX7_read 5 (some .int) zr_X7_read tauC D cy ad tS S [.ref (ad 0), .int v1] Sf (some (.int r)) := tg_mk (by decide +kernel) trivial (Nat.le_of_ble_eq_true rfl) (fun p e s m args below meth c Q A X => w_X7_read_0 X S v1 h)
-- X7_rope
def zr_X7_rope : Room := { frames := 1, cells := 0, slots := 0, locals := 21 }
theorem dX7_rope_0 : decode cX7_rope 0 = .ok (.iload_n 1, 1) := by decide +kernel
theorem dX7_rope_1 : decode cX7_rope 1 = .ok (.bipush 24, 2) := by decide +kernel
theorem dX7_rope_3 : decode cX7_rope 3 = .ok (.invokestatic 75, 3) := by decide +kernel
theorem dX7_rope_6 : decode cX7_rope 6 = .ok (.ifCond .eq 11, 3) := by decide +kernel
theorem dX7_rope_9 : decode cX7_rope 9 = .ok (.iload_n 2, 1) := by decide +kernel
theorem dX7_rope_10 : decode cX7_rope 10 = .ok (.iconst 4, 1) := by decide +kernel
theorem dX7_rope_11 : decode cX7_rope 11 = .ok (.invokestatic 75, 3) := by decide +kernel
theorem dX7_rope_14 : decode cX7_rope 14 = .ok (.ifCond .ne 6, 3) := by decide +kernel
theorem dX7_rope_17 : decode cX7_rope 17 = .ok (.bipush (-2), 2) := by decide +kernel
theorem dX7_rope_19 : decode cX7_rope 19 = .ok (.ireturn, 1) := by decide +kernel
theorem dX7_rope_20 : decode cX7_rope 20 = .ok (.iload_n 2, 1) := by decide +kernel
theorem dX7_rope_21 : decode cX7_rope 21 = .ok (.tableswitch 60 0 2 #[27, 37, 47], 27) := by decide +kernel
theorem dX7_rope_48 : decode cX7_rope 48 = .ok (.aload_n 0, 1) := by decide +kernel
theorem dX7_rope_49 : decode cX7_rope 49 = .ok (.getfield 44, 3) := by decide +kernel
theorem dX7_rope_52 : decode cX7_rope 52 = .ok (.getfield 154, 3) := by decide +kernel
theorem dX7_rope_55 : decode cX7_rope 55 = .ok (.iload_n 1, 1) := by decide +kernel
theorem dX7_rope_56 : decode cX7_rope 56 = .ok (.iaload, 1) := by decide +kernel
theorem dX7_rope_57 : decode cX7_rope 57 = .ok (.ireturn, 1) := by decide +kernel
theorem dX7_rope_58 : decode cX7_rope 58 = .ok (.aload_n 0, 1) := by decide +kernel
theorem dX7_rope_59 : decode cX7_rope 59 = .ok (.getfield 44, 3) := by decide +kernel
theorem dX7_rope_62 : decode cX7_rope 62 = .ok (.getfield 157, 3) := by decide +kernel
theorem dX7_rope_65 : decode cX7_rope 65 = .ok (.iload_n 1, 1) := by decide +kernel
theorem dX7_rope_66 : decode cX7_rope 66 = .ok (.iaload, 1) := by decide +kernel
theorem dX7_rope_67 : decode cX7_rope 67 = .ok (.ireturn, 1) := by decide +kernel
theorem dX7_rope_68 : decode cX7_rope 68 = .ok (.aload_n 0, 1) := by decide +kernel
theorem dX7_rope_69 : decode cX7_rope 69 = .ok (.getfield 44, 3) := by decide +kernel
theorem dX7_rope_72 : decode cX7_rope 72 = .ok (.getfield 157, 3) := by decide +kernel
theorem dX7_rope_75 : decode cX7_rope 75 = .ok (.bipush 24, 2) := by decide +kernel
theorem dX7_rope_77 : decode cX7_rope 77 = .ok (.iload_n 1, 1) := by decide +kernel
theorem dX7_rope_78 : decode cX7_rope 78 = .ok (.iadd, 1) := by decide +kernel
theorem dX7_rope_79 : decode cX7_rope 79 = .ok (.iaload, 1) := by decide +kernel
theorem dX7_rope_80 : decode cX7_rope 80 = .ok (.ireturn, 1) := by decide +kernel
theorem dX7_rope_81 : decode cX7_rope 81 = .ok (.aload_n 0, 1) := by decide +kernel
theorem dX7_rope_82 : decode cX7_rope 82 = .ok (.getfield 44, 3) := by decide +kernel
theorem dX7_rope_85 : decode cX7_rope 85 = .ok (.getfield 160, 3) := by decide +kernel
theorem dX7_rope_88 : decode cX7_rope 88 = .ok (.iload_n 1, 1) := by decide +kernel
theorem dX7_rope_89 : decode cX7_rope 89 = .ok (.iaload, 1) := by decide +kernel
theorem dX7_rope_90 : decode cX7_rope 90 = .ok (.ireturn, 1) := by decide +kernel
set_option maxRecDepth 20000 in
set_option maxHeartbeats 4000000 in
theorem w_X7_rope_0 {x : tg_X} {Sf : tg_S} {r : Int32} (X : tg_M tauC x cX7_rope 3 RX7 zr_X7_rope (some .int) Sf (some (.int r))) (S : tg_S) (v1 : Int32) (v2 : Int32) (h : f_X7_rope  S v1 v2 = some (Sf, r)) : tg_G tauC x S 0 [(0, .ref (tg_ad x 0)), (1, .int v1), (2, .int v2)] [] := by
  unfold f_X7_rope at h
  refine tg_iload_n X dX7_rope_0 rfl 1 rfl ?_
  refine tg_bipush X dX7_rope_1 tk_b24 ?_
  obtain ⟨S1, r2, kS1, h⟩ := tg_bdE h
  refine tg_callS (As := [.int v1, .int 24]) (rest := []) X (cm_X7_isBelow _ _ _ _ _ kS1) yy_X7_isBelow wt_X7_isBelow wm_X7_75 ⟨rfl, rfl, Nat.le_of_ble_eq_true rfl, Nat.le_of_ble_eq_true rfl⟩ rfl rfl (Nat.le_of_ble_eq_true rfl) dX7_rope_3 rfl ?_
  refine tg_if_eq (tgt := 17) X dX7_rope_6 (by decide) (fun c3 => ?_) (fun c3 => ?_)
  · have h := tg_ifT c3 h
    refine tg_bipush X dX7_rope_17 tk_bm2 ?_
    exact tg_iret X h rfl dX7_rope_19
  · have h := tg_ifF c3 h
    refine tg_iload_n X dX7_rope_9 rfl 2 rfl ?_
    refine tg_iconst X dX7_rope_10 tk_i4 ?_
    obtain ⟨S4, r5, kS4, h⟩ := tg_bdE h
    refine tg_callS (As := [.int v2, .int 4]) (rest := []) X (cm_X7_isBelow _ _ _ _ _ kS4) yy_X7_isBelow wt_X7_isBelow wm_X7_75 ⟨rfl, rfl, Nat.le_of_ble_eq_true rfl, Nat.le_of_ble_eq_true rfl⟩ rfl rfl (Nat.le_of_ble_eq_true rfl) dX7_rope_11 rfl ?_
    refine tg_if_ne (tgt := 20) X dX7_rope_14 (by decide) (fun c6 => ?_) (fun c6 => ?_)
    · have h := tg_ifF c6 h
      refine tg_iload_n X dX7_rope_20 rfl 2 rfl ?_
      by_cases c7 : v2 = 0
      · have h := tg_ifT c7 h
        refine tg_tsw (tgt := 48) (off := 27) X dX7_rope_21 c7 (by decide) (by decide) ?_
        refine tg_aload_n X dX7_rope_48 rfl 0 rfl ?_
        refine tg_getr X 0 rfl cl_X7 5 (by decide) rfl wf_X7_44 dX7_rope_49 ?_
        refine tg_getr X 35 rfl cl_X2 0 (by decide) rfl wf_X7_154 dX7_rope_52 ?_
        refine tg_iload_n X dX7_rope_55 rfl 1 rfl ?_
        obtain ⟨y8, ey8, by8, h⟩ := tg_rdE h
        refine tg_iald X 36 rfl ey8 by8 dX7_rope_56 ?_
        exact tg_iret X h rfl dX7_rope_57
      have h := tg_ifF c7 h
      by_cases c9 : v2 = 1
      · have h := tg_ifT c9 h
        refine tg_tsw (tgt := 58) (off := 37) X dX7_rope_21 c9 (by decide) (by decide) ?_
        refine tg_aload_n X dX7_rope_58 rfl 0 rfl ?_
        refine tg_getr X 0 rfl cl_X7 5 (by decide) rfl wf_X7_44 dX7_rope_59 ?_
        refine tg_getr X 35 rfl cl_X2 2 (by decide) rfl wf_X7_157 dX7_rope_62 ?_
        refine tg_iload_n X dX7_rope_65 rfl 1 rfl ?_
        obtain ⟨y10, ey10, by10, h⟩ := tg_rdE h
        refine tg_iald X 38 rfl ey10 by10 dX7_rope_66 ?_
        exact tg_iret X h rfl dX7_rope_67
      have h := tg_ifF c9 h
      by_cases c11 : v2 = 2
      · have h := tg_ifT c11 h
        refine tg_tsw (tgt := 68) (off := 47) X dX7_rope_21 c11 (by decide) (by decide) ?_
        refine tg_aload_n X dX7_rope_68 rfl 0 rfl ?_
        refine tg_getr X 0 rfl cl_X7 5 (by decide) rfl wf_X7_44 dX7_rope_69 ?_
        refine tg_getr X 35 rfl cl_X2 2 (by decide) rfl wf_X7_157 dX7_rope_72 ?_
        refine tg_bipush X dX7_rope_75 tk_b24 ?_
        refine tg_iload_n X dX7_rope_77 rfl 1 rfl ?_
        refine tg_iadd X dX7_rope_78 ?_
        obtain ⟨y12, ey12, by12, h⟩ := tg_rdE h
        refine tg_iald X 38 rfl ey12 by12 dX7_rope_79 ?_
        exact tg_iret X h rfl dX7_rope_80
      have h := tg_ifF c11 h
      refine tg_tswD (tgt := 81) X dX7_rope_21 (by have q0 := tg_nei (b := 0) (z := 0) rfl c7; have q1 := tg_nei (b := 1) (z := 1) rfl c9; have q2 := tg_nei (b := 2) (z := 2) rfl c11; omega) (by decide) ?_
      refine tg_aload_n X dX7_rope_81 rfl 0 rfl ?_
      refine tg_getr X 0 rfl cl_X7 5 (by decide) rfl wf_X7_44 dX7_rope_82 ?_
      refine tg_getr X 35 rfl cl_X2 1 (by decide) rfl wf_X7_160 dX7_rope_85 ?_
      refine tg_iload_n X dX7_rope_88 rfl 1 rfl ?_
      obtain ⟨y13, ey13, by13, h⟩ := tg_rdE h
      refine tg_iald X 37 rfl ey13 by13 dX7_rope_89 ?_
      exact tg_iret X h rfl dX7_rope_90
    · have h := tg_ifT c6 h
      refine tg_bipush X dX7_rope_17 tk_bm2 ?_
      exact tg_iret X h rfl dX7_rope_19
theorem cm_X7_rope (l : Launch) (D : va_G) (cy : Bool → ClassId) (ad : Nat → Nat) (tS : Nat) {S Sf : tg_S} {v1 : Int32} {v2 : Int32} {r : Int32} (h : f_X7_rope  S v1 v2 = some (Sf, r)) : tg_Met l yX7_rope cX7_rope 3 (some .int) zr_X7_rope tauC D cy ad tS S [.ref (ad 0), .int v1, .int v2] Sf (some (.int r)) := tg_mk (by decide +kernel) trivial (Nat.le_of_ble_eq_true rfl) (fun p e s m args below meth c Q A X => w_X7_rope_0 X S v1 v2 h)
-- X7_at
def zr_X7_at : Room := { frames := 2, cells := 0, slots := 0, locals := 42 }
theorem dX7_at_0 : decode cX7_at 0 = .ok (.iload_n 1, 1) := by decide +kernel
theorem dX7_at_1 : decode cX7_at 1 = .ok (.bipush 24, 2) := by decide +kernel
theorem dX7_at_3 : decode cX7_at 3 = .ok (.invokestatic 75, 3) := by decide +kernel
theorem dX7_at_6 : decode cX7_at 6 = .ok (.ifCond .eq 19, 3) := by decide +kernel
theorem dX7_at_9 : decode cX7_at 9 = .ok (.aload_n 0, 1) := by decide +kernel
theorem dX7_at_10 : decode cX7_at 10 = .ok (.iload_n 2, 1) := by decide +kernel
theorem dX7_at_11 : decode cX7_at 11 = .ok (.invokevirtual 100, 3) := by decide +kernel
theorem dX7_at_14 : decode cX7_at 14 = .ok (.ifCond .eq 11, 3) := by decide +kernel
theorem dX7_at_17 : decode cX7_at 17 = .ok (.iload_n 3, 1) := by decide +kernel
theorem dX7_at_18 : decode cX7_at 18 = .ok (.iconst 2, 1) := by decide +kernel
theorem dX7_at_19 : decode cX7_at 19 = .ok (.invokestatic 75, 3) := by decide +kernel
theorem dX7_at_22 : decode cX7_at 22 = .ok (.ifCond .ne 6, 3) := by decide +kernel
theorem dX7_at_25 : decode cX7_at 25 = .ok (.bipush (-2), 2) := by decide +kernel
theorem dX7_at_27 : decode cX7_at 27 = .ok (.ireturn, 1) := by decide +kernel
theorem dX7_at_28 : decode cX7_at 28 = .ok (.iload_n 2, 1) := by decide +kernel
theorem dX7_at_29 : decode cX7_at 29 = .ok (.bipush 24, 2) := by decide +kernel
theorem dX7_at_31 : decode cX7_at 31 = .ok (.imul, 1) := by decide +kernel
theorem dX7_at_32 : decode cX7_at 32 = .ok (.iload_n 1, 1) := by decide +kernel
theorem dX7_at_33 : decode cX7_at 33 = .ok (.iadd, 1) := by decide +kernel
theorem dX7_at_34 : decode cX7_at 34 = .ok (.istore 4, 2) := by decide +kernel
theorem dX7_at_36 : decode cX7_at 36 = .ok (.iload_n 3, 1) := by decide +kernel
theorem dX7_at_37 : decode cX7_at 37 = .ok (.ifCond .ne 16, 3) := by decide +kernel
theorem dX7_at_40 : decode cX7_at 40 = .ok (.aload_n 0, 1) := by decide +kernel
theorem dX7_at_41 : decode cX7_at 41 = .ok (.getfield 44, 3) := by decide +kernel
theorem dX7_at_44 : decode cX7_at 44 = .ok (.getfield 163, 3) := by decide +kernel
theorem dX7_at_47 : decode cX7_at 47 = .ok (.iload 4, 2) := by decide +kernel
theorem dX7_at_49 : decode cX7_at 49 = .ok (.iaload, 1) := by decide +kernel
theorem dX7_at_50 : decode cX7_at 50 = .ok (.goto 13, 3) := by decide +kernel
theorem dX7_at_53 : decode cX7_at 53 = .ok (.aload_n 0, 1) := by decide +kernel
theorem dX7_at_54 : decode cX7_at 54 = .ok (.getfield 44, 3) := by decide +kernel
theorem dX7_at_57 : decode cX7_at 57 = .ok (.getfield 166, 3) := by decide +kernel
theorem dX7_at_60 : decode cX7_at 60 = .ok (.iload 4, 2) := by decide +kernel
theorem dX7_at_62 : decode cX7_at 62 = .ok (.iaload, 1) := by decide +kernel
theorem dX7_at_63 : decode cX7_at 63 = .ok (.ireturn, 1) := by decide +kernel
set_option maxRecDepth 20000 in
set_option maxHeartbeats 4000000 in
theorem w_X7_at_0 {x : tg_X} {Sf : tg_S} {r : Int32} (X : tg_M tauC x cX7_at 5 RX7 zr_X7_at (some .int) Sf (some (.int r))) (S : tg_S) (v1 : Int32) (v2 : Int32) (v3 : Int32) (h : f_X7_at  S v1 v2 v3 = some (Sf, r)) : tg_G tauC x S 0 [(0, .ref (tg_ad x 0)), (1, .int v1), (2, .int v2), (3, .int v3)] [] := by
  unfold f_X7_at at h
  refine tg_iload_n X dX7_at_0 rfl 1 rfl ?_
  refine tg_bipush X dX7_at_1 tk_b24 ?_
  obtain ⟨S1, r2, kS1, h⟩ := tg_bdE h
  refine tg_callS (As := [.int v1, .int 24]) (rest := []) X (cm_X7_isBelow _ _ _ _ _ kS1) yy_X7_isBelow wt_X7_isBelow wm_X7_75 ⟨rfl, rfl, Nat.le_of_ble_eq_true rfl, Nat.le_of_ble_eq_true rfl⟩ rfl rfl (Nat.le_of_ble_eq_true rfl) dX7_at_3 rfl ?_
  refine tg_if_eq (tgt := 25) X dX7_at_6 (by decide) (fun c3 => ?_) (fun c3 => ?_)
  · have h := tg_ifT c3 h
    refine tg_bipush X dX7_at_25 tk_bm2 ?_
    exact tg_iret X h rfl dX7_at_27
  · have h := tg_ifF c3 h
    refine tg_aload_n X dX7_at_9 rfl 0 rfl ?_
    refine tg_iload_n X dX7_at_10 rfl 2 rfl ?_
    obtain ⟨S4, r5, kS4, h⟩ := tg_bdE h
    refine tg_callV (As := [.int v2]) (rest := []) X 0 (cm_X7_isPuller _ _ _ _ _ kS4) yy_X7_isPuller wv_X7_isPuller ws_X7_isPuller wm_X7_100 rfl cl_X7.1 ⟨rfl, rfl, Nat.le_of_ble_eq_true rfl, Nat.le_of_ble_eq_true rfl⟩ rfl rfl (Nat.le_of_ble_eq_true rfl) dX7_at_11 rfl ?_
    refine tg_if_eq (tgt := 25) X dX7_at_14 (by decide) (fun c6 => ?_) (fun c6 => ?_)
    · have h := tg_ifT c6 h
      refine tg_bipush X dX7_at_25 tk_bm2 ?_
      exact tg_iret X h rfl dX7_at_27
    · have h := tg_ifF c6 h
      refine tg_iload_n X dX7_at_17 rfl 3 rfl ?_
      refine tg_iconst X dX7_at_18 tk_i2 ?_
      obtain ⟨S7, r8, kS7, h⟩ := tg_bdE h
      refine tg_callS (As := [.int v3, .int 2]) (rest := []) X (cm_X7_isBelow _ _ _ _ _ kS7) yy_X7_isBelow wt_X7_isBelow wm_X7_75 ⟨rfl, rfl, Nat.le_of_ble_eq_true rfl, Nat.le_of_ble_eq_true rfl⟩ rfl rfl (Nat.le_of_ble_eq_true rfl) dX7_at_19 rfl ?_
      refine tg_if_ne (tgt := 28) X dX7_at_22 (by decide) (fun c9 => ?_) (fun c9 => ?_)
      · have h := tg_ifF c9 h
        refine tg_iload_n X dX7_at_28 rfl 2 rfl ?_
        refine tg_bipush X dX7_at_29 tk_b24 ?_
        refine tg_imul X dX7_at_31 ?_
        refine tg_iload_n X dX7_at_32 rfl 1 rfl ?_
        refine tg_iadd X dX7_at_33 ?_
        refine tg_topi (fun y10 ey10 => ?_)
        have h := tg_nmE ey10 h
        refine tg_istore (lv2 := [(4, .int y10), (0, .ref (tg_ad x 0)), (1, .int v1), (2, .int v2), (3, .int v3)]) X dX7_at_34 (by decide) rfl ?_
        refine tg_iload_n X dX7_at_36 rfl 4 rfl ?_
        refine tg_if_ne (tgt := 53) X dX7_at_37 (by decide) (fun c11 => ?_) (fun c11 => ?_)
        · have h := tg_ifF c11 h
          refine tg_aload_n X dX7_at_53 rfl 1 rfl ?_
          refine tg_getr X 0 rfl cl_X7 5 (by decide) rfl wf_X7_44 dX7_at_54 ?_
          refine tg_getr X 35 rfl cl_X2 4 (by decide) rfl wf_X7_166 dX7_at_57 ?_
          refine tg_iload X dX7_at_60 0 rfl ?_
          obtain ⟨y12, ey12, by12, h⟩ := tg_rdE h
          refine tg_iald X 40 rfl ey12 by12 dX7_at_62 ?_
          exact tg_iret X h rfl dX7_at_63
        · have h := tg_ifT c11 h
          refine tg_aload_n X dX7_at_40 rfl 1 rfl ?_
          refine tg_getr X 0 rfl cl_X7 5 (by decide) rfl wf_X7_44 dX7_at_41 ?_
          refine tg_getr X 35 rfl cl_X2 3 (by decide) rfl wf_X7_163 dX7_at_44 ?_
          refine tg_iload X dX7_at_47 0 rfl ?_
          obtain ⟨y13, ey13, by13, h⟩ := tg_rdE h
          refine tg_iald X 39 rfl ey13 by13 dX7_at_49 ?_
          refine tg_goto (tgt := 63) X dX7_at_50 (by decide) ?_
          exact tg_iret X h rfl dX7_at_63
      · have h := tg_ifT c9 h
        refine tg_bipush X dX7_at_25 tk_bm2 ?_
        exact tg_iret X h rfl dX7_at_27
theorem cm_X7_at (l : Launch) (D : va_G) (cy : Bool → ClassId) (ad : Nat → Nat) (tS : Nat) {S Sf : tg_S} {v1 : Int32} {v2 : Int32} {v3 : Int32} {r : Int32} (h : f_X7_at  S v1 v2 v3 = some (Sf, r)) : tg_Met l yX7_at cX7_at 5 (some .int) zr_X7_at tauC D cy ad tS S [.ref (ad 0), .int v1, .int v2, .int v3] Sf (some (.int r)) := tg_mk (by decide +kernel) trivial (Nat.le_of_ble_eq_true rfl) (fun p e s m args below meth c Q A X => w_X7_at_0 X S v1 v2 v3 h)
-- X7_won
def zr_X7_won : Room := { frames := 1, cells := 0, slots := 0, locals := 21 }
theorem dX7_won_0 : decode cX7_won 0 = .ok (.iload_n 1, 1) := by decide +kernel
theorem dX7_won_1 : decode cX7_won 1 = .ok (.iconst 2, 1) := by decide +kernel
theorem dX7_won_2 : decode cX7_won 2 = .ok (.invokestatic 75, 3) := by decide +kernel
theorem dX7_won_5 : decode cX7_won 5 = .ok (.ifCond .ne 6, 3) := by decide +kernel
theorem dX7_won_8 : decode cX7_won 8 = .ok (.bipush (-2), 2) := by decide +kernel
theorem dX7_won_10 : decode cX7_won 10 = .ok (.ireturn, 1) := by decide +kernel
theorem dX7_won_11 : decode cX7_won 11 = .ok (.iload_n 1, 1) := by decide +kernel
theorem dX7_won_12 : decode cX7_won 12 = .ok (.ifCond .ne 13, 3) := by decide +kernel
theorem dX7_won_15 : decode cX7_won 15 = .ok (.aload_n 0, 1) := by decide +kernel
theorem dX7_won_16 : decode cX7_won 16 = .ok (.getfield 44, 3) := by decide +kernel
theorem dX7_won_19 : decode cX7_won 19 = .ok (.getfield 169, 3) := by decide +kernel
theorem dX7_won_22 : decode cX7_won 22 = .ok (.goto 10, 3) := by decide +kernel
theorem dX7_won_25 : decode cX7_won 25 = .ok (.aload_n 0, 1) := by decide +kernel
theorem dX7_won_26 : decode cX7_won 26 = .ok (.getfield 44, 3) := by decide +kernel
theorem dX7_won_29 : decode cX7_won 29 = .ok (.getfield 172, 3) := by decide +kernel
theorem dX7_won_32 : decode cX7_won 32 = .ok (.ireturn, 1) := by decide +kernel
set_option maxRecDepth 20000 in
set_option maxHeartbeats 4000000 in
theorem w_X7_won_0 {x : tg_X} {Sf : tg_S} {r : Int32} (X : tg_M tauC x cX7_won 2 RX7 zr_X7_won (some .int) Sf (some (.int r))) (S : tg_S) (v1 : Int32) (h : f_X7_won  S v1 = some (Sf, r)) : tg_G tauC x S 0 [(0, .ref (tg_ad x 0)), (1, .int v1)] [] := by
  unfold f_X7_won at h
  refine tg_iload_n X dX7_won_0 rfl 1 rfl ?_
  refine tg_iconst X dX7_won_1 tk_i2 ?_
  obtain ⟨S1, r2, kS1, h⟩ := tg_bdE h
  refine tg_callS (As := [.int v1, .int 2]) (rest := []) X (cm_X7_isBelow _ _ _ _ _ kS1) yy_X7_isBelow wt_X7_isBelow wm_X7_75 ⟨rfl, rfl, Nat.le_of_ble_eq_true rfl, Nat.le_of_ble_eq_true rfl⟩ rfl rfl (Nat.le_of_ble_eq_true rfl) dX7_won_2 rfl ?_
  refine tg_if_ne (tgt := 11) X dX7_won_5 (by decide) (fun c3 => ?_) (fun c3 => ?_)
  · have h := tg_ifF c3 h
    refine tg_iload_n X dX7_won_11 rfl 1 rfl ?_
    refine tg_if_ne (tgt := 25) X dX7_won_12 (by decide) (fun c4 => ?_) (fun c4 => ?_)
    · have h := tg_ifF c4 h
      refine tg_aload_n X dX7_won_25 rfl 0 rfl ?_
      refine tg_getr X 0 rfl cl_X7 5 (by decide) rfl wf_X7_44 dX7_won_26 ?_
      refine tg_geti X 35 rfl cl_X2 6 (by decide) rfl wf_X7_172 dX7_won_29 ?_
      exact tg_iret X h rfl dX7_won_32
    · have h := tg_ifT c4 h
      refine tg_aload_n X dX7_won_15 rfl 0 rfl ?_
      refine tg_getr X 0 rfl cl_X7 5 (by decide) rfl wf_X7_44 dX7_won_16 ?_
      refine tg_geti X 35 rfl cl_X2 5 (by decide) rfl wf_X7_169 dX7_won_19 ?_
      refine tg_goto (tgt := 32) X dX7_won_22 (by decide) ?_
      exact tg_iret X h rfl dX7_won_32
  · have h := tg_ifT c3 h
    refine tg_bipush X dX7_won_8 tk_bm2 ?_
    exact tg_iret X h rfl dX7_won_10
theorem cm_X7_won (l : Launch) (D : va_G) (cy : Bool → ClassId) (ad : Nat → Nat) (tS : Nat) {S Sf : tg_S} {v1 : Int32} {r : Int32} (h : f_X7_won  S v1 = some (Sf, r)) : tg_Met l yX7_won cX7_won 2 (some .int) zr_X7_won tauC D cy ad tS S [.ref (ad 0), .int v1] Sf (some (.int r)) := tg_mk (by decide +kernel) trivial (Nat.le_of_ble_eq_true rfl) (fun p e s m args below meth c Q A X => w_X7_won_0 X S v1 h)
-- X7_furthest
def zr_X7_furthest : Room := { frames := 1, cells := 0, slots := 0, locals := 21 }
theorem dX7_furthest_0 : decode cX7_furthest 0 = .ok (.iload_n 1, 1) := by decide +kernel
theorem dX7_furthest_1 : decode cX7_furthest 1 = .ok (.iconst 2, 1) := by decide +kernel
theorem dX7_furthest_2 : decode cX7_furthest 2 = .ok (.invokestatic 75, 3) := by decide +kernel
theorem dX7_furthest_5 : decode cX7_furthest 5 = .ok (.ifCond .ne 6, 3) := by decide +kernel
theorem dX7_furthest_8 : decode cX7_furthest 8 = .ok (.bipush (-2), 2) := by decide +kernel
theorem dX7_furthest_10 : decode cX7_furthest 10 = .ok (.ireturn, 1) := by decide +kernel
theorem dX7_furthest_11 : decode cX7_furthest 11 = .ok (.bipush 12, 2) := by decide +kernel
theorem dX7_furthest_13 : decode cX7_furthest 13 = .ok (.istore_n 2, 1) := by decide +kernel
theorem dX7_furthest_14 : decode cX7_furthest 14 = .ok (.iconst 0, 1) := by decide +kernel
theorem dX7_furthest_15 : decode cX7_furthest 15 = .ok (.istore_n 3, 1) := by decide +kernel
theorem dX7_furthest_16 : decode cX7_furthest 16 = .ok (.iload_n 3, 1) := by decide +kernel
theorem dX7_furthest_17 : decode cX7_furthest 17 = .ok (.bipush 24, 2) := by decide +kernel
theorem dX7_furthest_19 : decode cX7_furthest 19 = .ok (.if_icmp .ge 40, 3) := by decide +kernel
theorem dX7_furthest_22 : decode cX7_furthest 22 = .ok (.aload_n 0, 1) := by decide +kernel
theorem dX7_furthest_23 : decode cX7_furthest 23 = .ok (.getfield 44, 3) := by decide +kernel
theorem dX7_furthest_26 : decode cX7_furthest 26 = .ok (.getfield 154, 3) := by decide +kernel
theorem dX7_furthest_29 : decode cX7_furthest 29 = .ok (.iload_n 3, 1) := by decide +kernel
theorem dX7_furthest_30 : decode cX7_furthest 30 = .ok (.iaload, 1) := by decide +kernel
theorem dX7_furthest_31 : decode cX7_furthest 31 = .ok (.istore 4, 2) := by decide +kernel
theorem dX7_furthest_33 : decode cX7_furthest 33 = .ok (.iload_n 1, 1) := by decide +kernel
theorem dX7_furthest_34 : decode cX7_furthest 34 = .ok (.ifCond .ne 12, 3) := by decide +kernel
theorem dX7_furthest_37 : decode cX7_furthest 37 = .ok (.iload_n 2, 1) := by decide +kernel
theorem dX7_furthest_38 : decode cX7_furthest 38 = .ok (.iload 4, 2) := by decide +kernel
theorem dX7_furthest_40 : decode cX7_furthest 40 = .ok (.invokestatic 175, 3) := by decide +kernel
theorem dX7_furthest_43 : decode cX7_furthest 43 = .ok (.goto 9, 3) := by decide +kernel
theorem dX7_furthest_46 : decode cX7_furthest 46 = .ok (.iload_n 2, 1) := by decide +kernel
theorem dX7_furthest_47 : decode cX7_furthest 47 = .ok (.iload 4, 2) := by decide +kernel
theorem dX7_furthest_49 : decode cX7_furthest 49 = .ok (.invokestatic 180, 3) := by decide +kernel
theorem dX7_furthest_52 : decode cX7_furthest 52 = .ok (.istore_n 2, 1) := by decide +kernel
theorem dX7_furthest_53 : decode cX7_furthest 53 = .ok (.iinc 3 1, 3) := by decide +kernel
theorem dX7_furthest_56 : decode cX7_furthest 56 = .ok (.goto (-40), 3) := by decide +kernel
theorem dX7_furthest_59 : decode cX7_furthest 59 = .ok (.iload_n 2, 1) := by decide +kernel
theorem dX7_furthest_60 : decode cX7_furthest 60 = .ok (.ireturn, 1) := by decide +kernel
set_option maxRecDepth 20000 in
set_option maxHeartbeats 4000000 in
theorem w_X7_furthest_52 {x : tg_X} {Sf : tg_S} {r : Int32} {rec16 : tg_S → Int32 → Int32 → Int32 → Option (tg_S × Int32)} (X : tg_M tauC x cX7_furthest 5 RX7 zr_X7_furthest (some .int) Sf (some (.int r))) (hr16 : ∀ (S : tg_S) (v1 : Int32) (v2 : Int32) (v3 : Int32), rec16 S v1 v2 v3 = some (Sf, r) → tg_G tauC x S 16 [(0, .ref (tg_ad x 0)), (1, .int v1), (2, .int v2), (3, .int v3)] []) (S : tg_S) (v1 : Int32) (v3 : Int32) (s0 : Int32) (h : f_X7_furthest_52 rec16 S v1 v3 s0 = some (Sf, r)) : tg_G tauC x S 52 [(0, .ref (tg_ad x 0)), (1, .int v1), (3, .int v3)] [.int s0] := by
  unfold f_X7_furthest_52 at h
  refine tg_istore_n (lv2 := [(2, .int s0), (0, .ref (tg_ad x 0)), (1, .int v1), (3, .int v3)]) X dX7_furthest_52 rfl (by decide) rfl ?_
  obtain ⟨y1, ey1⟩ : ∃ z : Int32, z = v3 + 1 := ⟨_, rfl⟩
  have h := tg_nmE ey1 h
  refine tg_iinc (lv2 := [(3, .int y1), (2, .int s0), (0, .ref (tg_ad x 0)), (1, .int v1)]) X dX7_furthest_53 3 rfl tk_i1 ey1 (by decide) rfl ?_
  refine tg_goto (tgt := 16) X dX7_furthest_56 (by decide) ?_
  refine tg_re [2, 3, 1, 0] rfl ?_
  exact hr16 S v1 s0 y1 h
set_option maxRecDepth 20000 in
set_option maxHeartbeats 4000000 in
theorem w_X7_furthest_16 {x : tg_X} {Sf : tg_S} {r : Int32} {rec16 : tg_S → Int32 → Int32 → Int32 → Option (tg_S × Int32)} (X : tg_M tauC x cX7_furthest 5 RX7 zr_X7_furthest (some .int) Sf (some (.int r))) (hr16 : ∀ (S : tg_S) (v1 : Int32) (v2 : Int32) (v3 : Int32), rec16 S v1 v2 v3 = some (Sf, r) → tg_G tauC x S 16 [(0, .ref (tg_ad x 0)), (1, .int v1), (2, .int v2), (3, .int v3)] []) (S : tg_S) (v1 : Int32) (v2 : Int32) (v3 : Int32) (h : f_X7_furthest_16 rec16 S v1 v2 v3 = some (Sf, r)) : tg_G tauC x S 16 [(0, .ref (tg_ad x 0)), (1, .int v1), (2, .int v2), (3, .int v3)] [] := by
  unfold f_X7_furthest_16 at h
  refine tg_iload_n X dX7_furthest_16 rfl 3 rfl ?_
  refine tg_bipush X dX7_furthest_17 tk_b24 ?_
  refine tg_icmp_ge (tgt := 59) X dX7_furthest_19 (by decide) (fun c1 => ?_) (fun c1 => ?_)
  · have h := tg_ifT c1 h
    refine tg_iload_n X dX7_furthest_59 rfl 2 rfl ?_
    exact tg_iret X h rfl dX7_furthest_60
  · have h := tg_ifF c1 h
    refine tg_aload_n X dX7_furthest_22 rfl 0 rfl ?_
    refine tg_getr X 0 rfl cl_X7 5 (by decide) rfl wf_X7_44 dX7_furthest_23 ?_
    refine tg_getr X 35 rfl cl_X2 0 (by decide) rfl wf_X7_154 dX7_furthest_26 ?_
    refine tg_iload_n X dX7_furthest_29 rfl 3 rfl ?_
    obtain ⟨y2, ey2, by2, h⟩ := tg_rdE h
    refine tg_iald X 36 rfl ey2 by2 dX7_furthest_30 ?_
    refine tg_istore (lv2 := [(4, .int y2), (0, .ref (tg_ad x 0)), (1, .int v1), (2, .int v2), (3, .int v3)]) X dX7_furthest_31 (by decide) rfl ?_
    refine tg_iload_n X dX7_furthest_33 rfl 2 rfl ?_
    refine tg_if_ne (tgt := 46) X dX7_furthest_34 (by decide) (fun c3 => ?_) (fun c3 => ?_)
    · rw [if_neg c3] at h
      refine tg_iload_n X dX7_furthest_46 rfl 3 rfl ?_
      refine tg_iload X dX7_furthest_47 0 rfl ?_
      refine tg_mmin X ⟨wm_X7_180, wt_Mmin, wi_Math, wc_Mmin⟩ ⟨Nat.le_of_ble_eq_true rfl, Nat.le_of_ble_eq_true rfl⟩ dX7_furthest_49 ?_
      refine tg_re [1, 2, 4] rfl ?_
      exact w_X7_furthest_52 X hr16 S v1 v3 (tg_min v2 y2) h
    · rw [if_pos c3] at h
      refine tg_iload_n X dX7_furthest_37 rfl 3 rfl ?_
      refine tg_iload X dX7_furthest_38 0 rfl ?_
      refine tg_mmax X ⟨wm_X7_175, wt_Mmax, wi_Math, wc_Mmax⟩ ⟨Nat.le_of_ble_eq_true rfl, Nat.le_of_ble_eq_true rfl⟩ dX7_furthest_40 ?_
      refine tg_goto (tgt := 52) X dX7_furthest_43 (by decide) ?_
      refine tg_re [1, 2, 4] rfl ?_
      exact w_X7_furthest_52 X hr16 S v1 v3 (tg_max v2 y2) h
theorem wl_X7_furthest_16 {x : tg_X} {Sf : tg_S} {r : Int32} (X : tg_M tauC x cX7_furthest 5 RX7 zr_X7_furthest (some .int) Sf (some (.int r))) : ∀ (n : Nat) (S : tg_S) (v1 : Int32) (v2 : Int32) (v3 : Int32) (h : L_X7_furthest_16  n S v1 v2 v3 = some (Sf, r)), tg_G tauC x S 16 [(0, .ref (tg_ad x 0)), (1, .int v1), (2, .int v2), (3, .int v3)] [] := by
  intro n
  induction n with
  | zero => intro S v1 v2 v3 h; cases h
  | succ n ih => intro S v1 v2 v3 h; exact w_X7_furthest_16 X  ih S v1 v2 v3 h
set_option maxRecDepth 20000 in
set_option maxHeartbeats 4000000 in
theorem w_X7_furthest_0 {x : tg_X} {Sf : tg_S} {r : Int32} (X : tg_M tauC x cX7_furthest 5 RX7 zr_X7_furthest (some .int) Sf (some (.int r))) (S : tg_S) (v1 : Int32) (h : f_X7_furthest  S v1 = some (Sf, r)) : tg_G tauC x S 0 [(0, .ref (tg_ad x 0)), (1, .int v1)] [] := by
  unfold f_X7_furthest at h
  refine tg_iload_n X dX7_furthest_0 rfl 1 rfl ?_
  refine tg_iconst X dX7_furthest_1 tk_i2 ?_
  obtain ⟨S1, r2, kS1, h⟩ := tg_bdE h
  refine tg_callS (As := [.int v1, .int 2]) (rest := []) X (cm_X7_isBelow _ _ _ _ _ kS1) yy_X7_isBelow wt_X7_isBelow wm_X7_75 ⟨rfl, rfl, Nat.le_of_ble_eq_true rfl, Nat.le_of_ble_eq_true rfl⟩ rfl rfl (Nat.le_of_ble_eq_true rfl) dX7_furthest_2 rfl ?_
  refine tg_if_ne (tgt := 11) X dX7_furthest_5 (by decide) (fun c3 => ?_) (fun c3 => ?_)
  · have h := tg_ifF c3 h
    refine tg_bipush X dX7_furthest_11 tk_b12 ?_
    refine tg_istore_n (lv2 := [(2, .int 12), (0, .ref (tg_ad x 0)), (1, .int v1)]) X dX7_furthest_13 rfl (by decide) rfl ?_
    refine tg_iconst X dX7_furthest_14 tk_i0 ?_
    refine tg_istore_n (lv2 := [(3, .int 0), (2, .int 12), (0, .ref (tg_ad x 0)), (1, .int v1)]) X dX7_furthest_15 rfl (by decide) rfl ?_
    refine tg_re [2, 3, 1, 0] rfl ?_
    exact wl_X7_furthest_16 X  tg_F S1 v1 12 0 h
  · have h := tg_ifT c3 h
    refine tg_bipush X dX7_furthest_8 tk_bm2 ?_
    exact tg_iret X h rfl dX7_furthest_10
theorem cm_X7_furthest (l : Launch) (D : va_G) (cy : Bool → ClassId) (ad : Nat → Nat) (tS : Nat) {S Sf : tg_S} {v1 : Int32} {r : Int32} (h : f_X7_furthest  S v1 = some (Sf, r)) : tg_Met l yX7_furthest cX7_furthest 5 (some .int) zr_X7_furthest tauC D cy ad tS S [.ref (ad 0), .int v1] Sf (some (.int r)) := tg_mk (by decide +kernel) trivial (Nat.le_of_ble_eq_true rfl) (fun p e s m args below meth c Q A X => w_X7_furthest_0 X S v1 h)
-- X7_pulledInAll
def zr_X7_pulledInAll : Room := { frames := 0, cells := 0, slots := 0, locals := 0 }
theorem dX7_pulledInAll_0 : decode cX7_pulledInAll 0 = .ok (.iconst 0, 1) := by decide +kernel
theorem dX7_pulledInAll_1 : decode cX7_pulledInAll 1 = .ok (.istore_n 2, 1) := by decide +kernel
theorem dX7_pulledInAll_2 : decode cX7_pulledInAll 2 = .ok (.iconst 0, 1) := by decide +kernel
theorem dX7_pulledInAll_3 : decode cX7_pulledInAll 3 = .ok (.istore_n 3, 1) := by decide +kernel
theorem dX7_pulledInAll_4 : decode cX7_pulledInAll 4 = .ok (.iload_n 3, 1) := by decide +kernel
theorem dX7_pulledInAll_5 : decode cX7_pulledInAll 5 = .ok (.bipush 24, 2) := by decide +kernel
theorem dX7_pulledInAll_7 : decode cX7_pulledInAll 7 = .ok (.if_icmp .ge 26, 3) := by decide +kernel
theorem dX7_pulledInAll_10 : decode cX7_pulledInAll 10 = .ok (.iload_n 2, 1) := by decide +kernel
theorem dX7_pulledInAll_11 : decode cX7_pulledInAll 11 = .ok (.aload_n 0, 1) := by decide +kernel
theorem dX7_pulledInAll_12 : decode cX7_pulledInAll 12 = .ok (.getfield 44, 3) := by decide +kernel
theorem dX7_pulledInAll_15 : decode cX7_pulledInAll 15 = .ok (.getfield 163, 3) := by decide +kernel
theorem dX7_pulledInAll_18 : decode cX7_pulledInAll 18 = .ok (.iload_n 1, 1) := by decide +kernel
theorem dX7_pulledInAll_19 : decode cX7_pulledInAll 19 = .ok (.bipush 24, 2) := by decide +kernel
theorem dX7_pulledInAll_21 : decode cX7_pulledInAll 21 = .ok (.imul, 1) := by decide +kernel
theorem dX7_pulledInAll_22 : decode cX7_pulledInAll 22 = .ok (.iload_n 3, 1) := by decide +kernel
theorem dX7_pulledInAll_23 : decode cX7_pulledInAll 23 = .ok (.iadd, 1) := by decide +kernel
theorem dX7_pulledInAll_24 : decode cX7_pulledInAll 24 = .ok (.iaload, 1) := by decide +kernel
theorem dX7_pulledInAll_25 : decode cX7_pulledInAll 25 = .ok (.iadd, 1) := by decide +kernel
theorem dX7_pulledInAll_26 : decode cX7_pulledInAll 26 = .ok (.istore_n 2, 1) := by decide +kernel
theorem dX7_pulledInAll_27 : decode cX7_pulledInAll 27 = .ok (.iinc 3 1, 3) := by decide +kernel
theorem dX7_pulledInAll_30 : decode cX7_pulledInAll 30 = .ok (.goto (-26), 3) := by decide +kernel
theorem dX7_pulledInAll_33 : decode cX7_pulledInAll 33 = .ok (.iload_n 2, 1) := by decide +kernel
theorem dX7_pulledInAll_34 : decode cX7_pulledInAll 34 = .ok (.ireturn, 1) := by decide +kernel
set_option maxRecDepth 20000 in
set_option maxHeartbeats 4000000 in
theorem w_X7_pulledInAll_4 {x : tg_X} {Sf : tg_S} {r : Int32} {rec4 : tg_S → Int32 → Int32 → Int32 → Option (tg_S × Int32)} (X : tg_M tauC x cX7_pulledInAll 4 RX7 zr_X7_pulledInAll (some .int) Sf (some (.int r))) (hr4 : ∀ (S : tg_S) (v1 : Int32) (v2 : Int32) (v3 : Int32), rec4 S v1 v2 v3 = some (Sf, r) → tg_G tauC x S 4 [(0, .ref (tg_ad x 0)), (1, .int v1), (2, .int v2), (3, .int v3)] []) (S : tg_S) (v1 : Int32) (v2 : Int32) (v3 : Int32) (h : f_X7_pulledInAll_4 rec4 S v1 v2 v3 = some (Sf, r)) : tg_G tauC x S 4 [(0, .ref (tg_ad x 0)), (1, .int v1), (2, .int v2), (3, .int v3)] [] := by
  unfold f_X7_pulledInAll_4 at h
  refine tg_iload_n X dX7_pulledInAll_4 rfl 3 rfl ?_
  refine tg_bipush X dX7_pulledInAll_5 tk_b24 ?_
  refine tg_icmp_ge (tgt := 33) X dX7_pulledInAll_7 (by decide) (fun c1 => ?_) (fun c1 => ?_)
  · have h := tg_ifT c1 h
    refine tg_iload_n X dX7_pulledInAll_33 rfl 2 rfl ?_
    exact tg_iret X h rfl dX7_pulledInAll_34
  · have h := tg_ifF c1 h
    refine tg_iload_n X dX7_pulledInAll_10 rfl 2 rfl ?_
    refine tg_aload_n X dX7_pulledInAll_11 rfl 0 rfl ?_
    refine tg_getr X 0 rfl cl_X7 5 (by decide) rfl wf_X7_44 dX7_pulledInAll_12 ?_
    refine tg_getr X 35 rfl cl_X2 3 (by decide) rfl wf_X7_163 dX7_pulledInAll_15 ?_
    refine tg_iload_n X dX7_pulledInAll_18 rfl 1 rfl ?_
    refine tg_bipush X dX7_pulledInAll_19 tk_b24 ?_
    refine tg_imul X dX7_pulledInAll_21 ?_
    refine tg_iload_n X dX7_pulledInAll_22 rfl 3 rfl ?_
    refine tg_iadd X dX7_pulledInAll_23 ?_
    obtain ⟨y2, ey2, by2, h⟩ := tg_rdE h
    refine tg_iald X 39 rfl ey2 by2 dX7_pulledInAll_24 ?_
    refine tg_iadd X dX7_pulledInAll_25 ?_
    refine tg_topi (fun y3 ey3 => ?_)
    have h := tg_nmE ey3 h
    refine tg_istore_n (lv2 := [(2, .int y3), (0, .ref (tg_ad x 0)), (1, .int v1), (3, .int v3)]) X dX7_pulledInAll_26 rfl (by decide) rfl ?_
    obtain ⟨y4, ey4⟩ : ∃ z : Int32, z = v3 + 1 := ⟨_, rfl⟩
    have h := tg_nmE ey4 h
    refine tg_iinc (lv2 := [(3, .int y4), (2, .int y3), (0, .ref (tg_ad x 0)), (1, .int v1)]) X dX7_pulledInAll_27 3 rfl tk_i1 ey4 (by decide) rfl ?_
    refine tg_goto (tgt := 4) X dX7_pulledInAll_30 (by decide) ?_
    refine tg_re [2, 3, 1, 0] rfl ?_
    exact hr4 S v1 y3 y4 h
theorem wl_X7_pulledInAll_4 {x : tg_X} {Sf : tg_S} {r : Int32} (X : tg_M tauC x cX7_pulledInAll 4 RX7 zr_X7_pulledInAll (some .int) Sf (some (.int r))) : ∀ (n : Nat) (S : tg_S) (v1 : Int32) (v2 : Int32) (v3 : Int32) (h : L_X7_pulledInAll_4  n S v1 v2 v3 = some (Sf, r)), tg_G tauC x S 4 [(0, .ref (tg_ad x 0)), (1, .int v1), (2, .int v2), (3, .int v3)] [] := by
  intro n
  induction n with
  | zero => intro S v1 v2 v3 h; cases h
  | succ n ih => intro S v1 v2 v3 h; exact w_X7_pulledInAll_4 X  ih S v1 v2 v3 h
set_option maxRecDepth 20000 in
set_option maxHeartbeats 4000000 in
theorem w_X7_pulledInAll_0 {x : tg_X} {Sf : tg_S} {r : Int32} (X : tg_M tauC x cX7_pulledInAll 4 RX7 zr_X7_pulledInAll (some .int) Sf (some (.int r))) (S : tg_S) (v1 : Int32) (h : f_X7_pulledInAll  S v1 = some (Sf, r)) : tg_G tauC x S 0 [(0, .ref (tg_ad x 0)), (1, .int v1)] [] := by
  unfold f_X7_pulledInAll at h
  refine tg_iconst X dX7_pulledInAll_0 tk_i0 ?_
  refine tg_istore_n (lv2 := [(2, .int 0), (0, .ref (tg_ad x 0)), (1, .int v1)]) X dX7_pulledInAll_1 rfl (by decide) rfl ?_
  refine tg_iconst X dX7_pulledInAll_2 tk_i0 ?_
  refine tg_istore_n (lv2 := [(3, .int 0), (2, .int 0), (0, .ref (tg_ad x 0)), (1, .int v1)]) X dX7_pulledInAll_3 rfl (by decide) rfl ?_
  refine tg_re [2, 3, 1, 0] rfl ?_
  exact wl_X7_pulledInAll_4 X  tg_F S v1 0 0 h
theorem cm_X7_pulledInAll (l : Launch) (D : va_G) (cy : Bool → ClassId) (ad : Nat → Nat) (tS : Nat) {S Sf : tg_S} {v1 : Int32} {r : Int32} (h : f_X7_pulledInAll  S v1 = some (Sf, r)) : tg_Met l yX7_pulledInAll cX7_pulledInAll 4 (some .int) zr_X7_pulledInAll tauC D cy ad tS S [.ref (ad 0), .int v1] Sf (some (.int r)) := tg_mk (by decide +kernel) trivial (Nat.le_of_ble_eq_true rfl) (fun p e s m args below meth c Q A X => w_X7_pulledInAll_0 X S v1 h)
-- X7_done
def zr_X7_done : Room := { frames := 2, cells := 0, slots := 0, locals := 42 }
theorem dX7_done_0 : decode cX7_done 0 = .ok (.aload_n 0, 1) := by decide +kernel
theorem dX7_done_1 : decode cX7_done 1 = .ok (.iload_n 1, 1) := by decide +kernel
theorem dX7_done_2 : decode cX7_done 2 = .ok (.invokevirtual 100, 3) := by decide +kernel
theorem dX7_done_5 : decode cX7_done 5 = .ok (.ifCond .eq 11, 3) := by decide +kernel
theorem dX7_done_8 : decode cX7_done 8 = .ok (.aload_n 0, 1) := by decide +kernel
theorem dX7_done_9 : decode cX7_done 9 = .ok (.iload_n 1, 1) := by decide +kernel
theorem dX7_done_10 : decode cX7_done 10 = .ok (.invokevirtual 183, 3) := by decide +kernel
theorem dX7_done_13 : decode cX7_done 13 = .ok (.goto 5, 3) := by decide +kernel
theorem dX7_done_16 : decode cX7_done 16 = .ok (.bipush (-2), 2) := by decide +kernel
theorem dX7_done_18 : decode cX7_done 18 = .ok (.ireturn, 1) := by decide +kernel
set_option maxRecDepth 20000 in
set_option maxHeartbeats 4000000 in
theorem w_X7_done_0 {x : tg_X} {Sf : tg_S} {r : Int32} (X : tg_M tauC x cX7_done 2 RX7 zr_X7_done (some .int) Sf (some (.int r))) (S : tg_S) (v1 : Int32) (h : f_X7_done  S v1 = some (Sf, r)) : tg_G tauC x S 0 [(0, .ref (tg_ad x 0)), (1, .int v1)] [] := by
  unfold f_X7_done at h
  refine tg_aload_n X dX7_done_0 rfl 0 rfl ?_
  refine tg_iload_n X dX7_done_1 rfl 1 rfl ?_
  obtain ⟨S1, r2, kS1, h⟩ := tg_bdE h
  refine tg_callV (As := [.int v1]) (rest := []) X 0 (cm_X7_isPuller _ _ _ _ _ kS1) yy_X7_isPuller wv_X7_isPuller ws_X7_isPuller wm_X7_100 rfl cl_X7.1 ⟨rfl, rfl, Nat.le_of_ble_eq_true rfl, Nat.le_of_ble_eq_true rfl⟩ rfl rfl (Nat.le_of_ble_eq_true rfl) dX7_done_2 rfl ?_
  refine tg_if_eq (tgt := 16) X dX7_done_5 (by decide) (fun c3 => ?_) (fun c3 => ?_)
  · have h := tg_ifT c3 h
    refine tg_bipush X dX7_done_16 tk_bm2 ?_
    exact tg_iret X h rfl dX7_done_18
  · have h := tg_ifF c3 h
    refine tg_aload_n X dX7_done_8 rfl 0 rfl ?_
    refine tg_iload_n X dX7_done_9 rfl 1 rfl ?_
    obtain ⟨S4, r5, kS4, h⟩ := tg_bdE h
    refine tg_callV (As := [.int v1]) (rest := []) X 0 (cm_X7_pulledInAll _ _ _ _ _ kS4) yy_X7_pulledInAll wv_X7_pulledInAll ws_X7_pulledInAll wm_X7_183 rfl cl_X7.1 ⟨rfl, rfl, Nat.le_of_ble_eq_true rfl, Nat.le_of_ble_eq_true rfl⟩ rfl rfl (Nat.le_of_ble_eq_true rfl) dX7_done_10 rfl ?_
    refine tg_goto (tgt := 18) X dX7_done_13 (by decide) ?_
    exact tg_iret X h rfl dX7_done_18
theorem cm_X7_done (l : Launch) (D : va_G) (cy : Bool → ClassId) (ad : Nat → Nat) (tS : Nat) {S Sf : tg_S} {v1 : Int32} {r : Int32} (h : f_X7_done  S v1 = some (Sf, r)) : tg_Met l yX7_done cX7_done 2 (some .int) zr_X7_done tauC D cy ad tS S [.ref (ad 0), .int v1] Sf (some (.int r)) := tg_mk (by decide +kernel) trivial (Nat.le_of_ble_eq_true rfl) (fun p e s m args below meth c Q A X => w_X7_done_0 X S v1 h)
-- X7_spent
def zr_X7_spent : Room := { frames := 0, cells := 0, slots := 0, locals := 0 }
theorem dX7_spent_0 : decode cX7_spent 0 = .ok (.iconst 0, 1) := by decide +kernel
theorem dX7_spent_1 : decode cX7_spent 1 = .ok (.istore_n 1, 1) := by decide +kernel
theorem dX7_spent_2 : decode cX7_spent 2 = .ok (.iconst 0, 1) := by decide +kernel
theorem dX7_spent_3 : decode cX7_spent 3 = .ok (.istore_n 2, 1) := by decide +kernel
theorem dX7_spent_4 : decode cX7_spent 4 = .ok (.iload_n 2, 1) := by decide +kernel
theorem dX7_spent_5 : decode cX7_spent 5 = .ok (.bipush 16, 2) := by decide +kernel
theorem dX7_spent_7 : decode cX7_spent 7 = .ok (.if_icmp .ge 47, 3) := by decide +kernel
theorem dX7_spent_10 : decode cX7_spent 10 = .ok (.aload_n 0, 1) := by decide +kernel
theorem dX7_spent_11 : decode cX7_spent 11 = .ok (.getfield 37, 3) := by decide +kernel
theorem dX7_spent_14 : decode cX7_spent 14 = .ok (.getfield 186, 3) := by decide +kernel
theorem dX7_spent_17 : decode cX7_spent 17 = .ok (.iload_n 2, 1) := by decide +kernel
theorem dX7_spent_18 : decode cX7_spent 18 = .ok (.baload, 1) := by decide +kernel
theorem dX7_spent_19 : decode cX7_spent 19 = .ok (.ifCond .eq 29, 3) := by decide +kernel
theorem dX7_spent_22 : decode cX7_spent 22 = .ok (.aload_n 0, 1) := by decide +kernel
theorem dX7_spent_23 : decode cX7_spent 23 = .ok (.getfield 44, 3) := by decide +kernel
theorem dX7_spent_26 : decode cX7_spent 26 = .ok (.getfield 166, 3) := by decide +kernel
theorem dX7_spent_29 : decode cX7_spent 29 = .ok (.iload_n 2, 1) := by decide +kernel
theorem dX7_spent_30 : decode cX7_spent 30 = .ok (.bipush 24, 2) := by decide +kernel
theorem dX7_spent_32 : decode cX7_spent 32 = .ok (.imul, 1) := by decide +kernel
theorem dX7_spent_33 : decode cX7_spent 33 = .ok (.bipush 24, 2) := by decide +kernel
theorem dX7_spent_35 : decode cX7_spent 35 = .ok (.iadd, 1) := by decide +kernel
theorem dX7_spent_36 : decode cX7_spent 36 = .ok (.iconst 1, 1) := by decide +kernel
theorem dX7_spent_37 : decode cX7_spent 37 = .ok (.isub, 1) := by decide +kernel
theorem dX7_spent_38 : decode cX7_spent 38 = .ok (.iaload, 1) := by decide +kernel
theorem dX7_spent_39 : decode cX7_spent 39 = .ok (.ifCond .ne 9, 3) := by decide +kernel
theorem dX7_spent_42 : decode cX7_spent 42 = .ok (.iload_n 1, 1) := by decide +kernel
theorem dX7_spent_43 : decode cX7_spent 43 = .ok (.iconst 1, 1) := by decide +kernel
theorem dX7_spent_44 : decode cX7_spent 44 = .ok (.iload_n 2, 1) := by decide +kernel
theorem dX7_spent_45 : decode cX7_spent 45 = .ok (.ishl, 1) := by decide +kernel
theorem dX7_spent_46 : decode cX7_spent 46 = .ok (.ior, 1) := by decide +kernel
theorem dX7_spent_47 : decode cX7_spent 47 = .ok (.istore_n 1, 1) := by decide +kernel
theorem dX7_spent_48 : decode cX7_spent 48 = .ok (.iinc 2 1, 3) := by decide +kernel
theorem dX7_spent_51 : decode cX7_spent 51 = .ok (.goto (-47), 3) := by decide +kernel
theorem dX7_spent_54 : decode cX7_spent 54 = .ok (.iload_n 1, 1) := by decide +kernel
theorem dX7_spent_55 : decode cX7_spent 55 = .ok (.ireturn, 1) := by decide +kernel
set_option maxRecDepth 20000 in
set_option maxHeartbeats 4000000 in
theorem w_X7_spent_48 {x : tg_X} {Sf : tg_S} {r : Int32} {rec4 : tg_S → Int32 → Int32 → Option (tg_S × Int32)} (X : tg_M tauC x cX7_spent 3 RX7 zr_X7_spent (some .int) Sf (some (.int r))) (hr4 : ∀ (S : tg_S) (v1 : Int32) (v2 : Int32), rec4 S v1 v2 = some (Sf, r) → tg_G tauC x S 4 [(0, .ref (tg_ad x 0)), (1, .int v1), (2, .int v2)] []) (S : tg_S) (v1 : Int32) (v2 : Int32) (h : f_X7_spent_48 rec4 S v1 v2 = some (Sf, r)) : tg_G tauC x S 48 [(0, .ref (tg_ad x 0)), (1, .int v1), (2, .int v2)] [] := by
  unfold f_X7_spent_48 at h
  obtain ⟨y1, ey1⟩ : ∃ z : Int32, z = v2 + 1 := ⟨_, rfl⟩
  have h := tg_nmE ey1 h
  refine tg_iinc (lv2 := [(2, .int y1), (0, .ref (tg_ad x 0)), (1, .int v1)]) X dX7_spent_48 2 rfl tk_i1 ey1 (by decide) rfl ?_
  refine tg_goto (tgt := 4) X dX7_spent_51 (by decide) ?_
  refine tg_re [1, 2, 0] rfl ?_
  exact hr4 S v1 y1 h
set_option maxRecDepth 20000 in
set_option maxHeartbeats 4000000 in
theorem w_X7_spent_4 {x : tg_X} {Sf : tg_S} {r : Int32} {rec4 : tg_S → Int32 → Int32 → Option (tg_S × Int32)} (X : tg_M tauC x cX7_spent 3 RX7 zr_X7_spent (some .int) Sf (some (.int r))) (hr4 : ∀ (S : tg_S) (v1 : Int32) (v2 : Int32), rec4 S v1 v2 = some (Sf, r) → tg_G tauC x S 4 [(0, .ref (tg_ad x 0)), (1, .int v1), (2, .int v2)] []) (S : tg_S) (v1 : Int32) (v2 : Int32) (h : f_X7_spent_4 rec4 S v1 v2 = some (Sf, r)) : tg_G tauC x S 4 [(0, .ref (tg_ad x 0)), (1, .int v1), (2, .int v2)] [] := by
  unfold f_X7_spent_4 at h
  refine tg_iload_n X dX7_spent_4 rfl 2 rfl ?_
  refine tg_bipush X dX7_spent_5 tk_b16 ?_
  refine tg_icmp_ge (tgt := 54) X dX7_spent_7 (by decide) (fun c1 => ?_) (fun c1 => ?_)
  · have h := tg_ifT c1 h
    refine tg_iload_n X dX7_spent_54 rfl 1 rfl ?_
    exact tg_iret X h rfl dX7_spent_55
  · have h := tg_ifF c1 h
    refine tg_aload_n X dX7_spent_10 rfl 0 rfl ?_
    refine tg_getr X 0 rfl cl_X7 4 (by decide) rfl wf_X7_37 dX7_spent_11 ?_
    refine tg_getr X 11 rfl cl_X1 0 (by decide) rfl wf_X7_186 dX7_spent_14 ?_
    refine tg_iload_n X dX7_spent_17 rfl 2 rfl ?_
    obtain ⟨y2, ey2, by2, h⟩ := tg_rdE h
    refine tg_zald X 12 rfl ey2 by2 dX7_spent_18 ?_
    refine tg_if_eq (tgt := 48) X dX7_spent_19 (by decide) (fun c3 => ?_) (fun c3 => ?_)
    · have h := tg_ifT c3 h
      exact w_X7_spent_48 X hr4 S v1 v2 h
    · have h := tg_ifF c3 h
      refine tg_aload_n X dX7_spent_22 rfl 0 rfl ?_
      refine tg_getr X 0 rfl cl_X7 5 (by decide) rfl wf_X7_44 dX7_spent_23 ?_
      refine tg_getr X 35 rfl cl_X2 4 (by decide) rfl wf_X7_166 dX7_spent_26 ?_
      refine tg_iload_n X dX7_spent_29 rfl 2 rfl ?_
      refine tg_bipush X dX7_spent_30 tk_b24 ?_
      refine tg_imul X dX7_spent_32 ?_
      refine tg_bipush X dX7_spent_33 tk_b24 ?_
      refine tg_iadd X dX7_spent_35 ?_
      refine tg_iconst X dX7_spent_36 tk_i1 ?_
      refine tg_isub X dX7_spent_37 ?_
      obtain ⟨y4, ey4, by4, h⟩ := tg_rdE h
      refine tg_iald X 40 rfl ey4 by4 dX7_spent_38 ?_
      refine tg_if_ne (tgt := 48) X dX7_spent_39 (by decide) (fun c5 => ?_) (fun c5 => ?_)
      · have h := tg_ifF c5 h
        exact w_X7_spent_48 X hr4 S v1 v2 h
      · have h := tg_ifT c5 h
        refine tg_iload_n X dX7_spent_42 rfl 1 rfl ?_
        refine tg_iconst X dX7_spent_43 tk_i1 ?_
        refine tg_iload_n X dX7_spent_44 rfl 2 rfl ?_
        refine tg_ishl X dX7_spent_45 ?_
        refine tg_ior X dX7_spent_46 ?_
        refine tg_topi (fun y6 ey6 => ?_)
        have h := tg_nmE ey6 h
        refine tg_istore_n (lv2 := [(1, .int y6), (0, .ref (tg_ad x 0)), (2, .int v2)]) X dX7_spent_47 rfl (by decide) rfl ?_
        refine tg_re [1, 0, 2] rfl ?_
        exact w_X7_spent_48 X hr4 S y6 v2 h
theorem wl_X7_spent_4 {x : tg_X} {Sf : tg_S} {r : Int32} (X : tg_M tauC x cX7_spent 3 RX7 zr_X7_spent (some .int) Sf (some (.int r))) : ∀ (n : Nat) (S : tg_S) (v1 : Int32) (v2 : Int32) (h : L_X7_spent_4  n S v1 v2 = some (Sf, r)), tg_G tauC x S 4 [(0, .ref (tg_ad x 0)), (1, .int v1), (2, .int v2)] [] := by
  intro n
  induction n with
  | zero => intro S v1 v2 h; cases h
  | succ n ih => intro S v1 v2 h; exact w_X7_spent_4 X  ih S v1 v2 h
set_option maxRecDepth 20000 in
set_option maxHeartbeats 4000000 in
theorem w_X7_spent_0 {x : tg_X} {Sf : tg_S} {r : Int32} (X : tg_M tauC x cX7_spent 3 RX7 zr_X7_spent (some .int) Sf (some (.int r))) (S : tg_S) (h : f_X7_spent  S  = some (Sf, r)) : tg_G tauC x S 0 [(0, .ref (tg_ad x 0))] [] := by
  unfold f_X7_spent at h
  refine tg_iconst X dX7_spent_0 tk_i0 ?_
  refine tg_istore_n (lv2 := [(1, .int 0), (0, .ref (tg_ad x 0))]) X dX7_spent_1 rfl (by decide) rfl ?_
  refine tg_iconst X dX7_spent_2 tk_i0 ?_
  refine tg_istore_n (lv2 := [(2, .int 0), (1, .int 0), (0, .ref (tg_ad x 0))]) X dX7_spent_3 rfl (by decide) rfl ?_
  refine tg_re [2, 1, 0] rfl ?_
  exact wl_X7_spent_4 X  tg_F S 0 0 h
theorem cm_X7_spent (l : Launch) (D : va_G) (cy : Bool → ClassId) (ad : Nat → Nat) (tS : Nat) {S Sf : tg_S} {r : Int32} (h : f_X7_spent  S  = some (Sf, r)) : tg_Met l yX7_spent cX7_spent 3 (some .int) zr_X7_spent tauC D cy ad tS S [.ref (ad 0)] Sf (some (.int r)) := tg_mk (by decide +kernel) trivial (Nat.le_of_ble_eq_true rfl) (fun p e s m args below meth c Q A X => w_X7_spent_0 X S  h)
-- X7_best
def zr_X7_best : Room := { frames := 1, cells := 0, slots := 0, locals := 23 }
theorem dX7_best_0 : decode cX7_best 0 = .ok (.iconst (-1), 1) := by decide +kernel
theorem dX7_best_1 : decode cX7_best 1 = .ok (.istore_n 1, 1) := by decide +kernel
theorem dX7_best_2 : decode cX7_best 2 = .ok (.iconst 0, 1) := by decide +kernel
theorem dX7_best_3 : decode cX7_best 3 = .ok (.istore_n 2, 1) := by decide +kernel
theorem dX7_best_4 : decode cX7_best 4 = .ok (.iconst 0, 1) := by decide +kernel
theorem dX7_best_5 : decode cX7_best 5 = .ok (.istore_n 3, 1) := by decide +kernel
theorem dX7_best_6 : decode cX7_best 6 = .ok (.iload_n 3, 1) := by decide +kernel
theorem dX7_best_7 : decode cX7_best 7 = .ok (.bipush 16, 2) := by decide +kernel
theorem dX7_best_9 : decode cX7_best 9 = .ok (.if_icmp .ge 43, 3) := by decide +kernel
theorem dX7_best_12 : decode cX7_best 12 = .ok (.aload_n 0, 1) := by decide +kernel
theorem dX7_best_13 : decode cX7_best 13 = .ok (.getfield 37, 3) := by decide +kernel
theorem dX7_best_16 : decode cX7_best 16 = .ok (.getfield 186, 3) := by decide +kernel
theorem dX7_best_19 : decode cX7_best 19 = .ok (.iload_n 3, 1) := by decide +kernel
theorem dX7_best_20 : decode cX7_best 20 = .ok (.baload, 1) := by decide +kernel
theorem dX7_best_21 : decode cX7_best 21 = .ok (.ifCond .eq 11, 3) := by decide +kernel
theorem dX7_best_24 : decode cX7_best 24 = .ok (.aload_n 0, 1) := by decide +kernel
theorem dX7_best_25 : decode cX7_best 25 = .ok (.iload_n 3, 1) := by decide +kernel
theorem dX7_best_26 : decode cX7_best 26 = .ok (.invokevirtual 183, 3) := by decide +kernel
theorem dX7_best_29 : decode cX7_best 29 = .ok (.goto 4, 3) := by decide +kernel
theorem dX7_best_32 : decode cX7_best 32 = .ok (.iconst 0, 1) := by decide +kernel
theorem dX7_best_33 : decode cX7_best 33 = .ok (.istore 4, 2) := by decide +kernel
theorem dX7_best_35 : decode cX7_best 35 = .ok (.iload 4, 2) := by decide +kernel
theorem dX7_best_37 : decode cX7_best 37 = .ok (.iload_n 2, 1) := by decide +kernel
theorem dX7_best_38 : decode cX7_best 38 = .ok (.if_icmp .le 8, 3) := by decide +kernel
theorem dX7_best_41 : decode cX7_best 41 = .ok (.iload_n 3, 1) := by decide +kernel
theorem dX7_best_42 : decode cX7_best 42 = .ok (.istore_n 1, 1) := by decide +kernel
theorem dX7_best_43 : decode cX7_best 43 = .ok (.iload 4, 2) := by decide +kernel
theorem dX7_best_45 : decode cX7_best 45 = .ok (.istore_n 2, 1) := by decide +kernel
theorem dX7_best_46 : decode cX7_best 46 = .ok (.iinc 3 1, 3) := by decide +kernel
theorem dX7_best_49 : decode cX7_best 49 = .ok (.goto (-43), 3) := by decide +kernel
theorem dX7_best_52 : decode cX7_best 52 = .ok (.iload_n 1, 1) := by decide +kernel
theorem dX7_best_53 : decode cX7_best 53 = .ok (.ireturn, 1) := by decide +kernel
set_option maxRecDepth 20000 in
set_option maxHeartbeats 4000000 in
theorem w_X7_best_46 {x : tg_X} {Sf : tg_S} {r : Int32} {rec6 : tg_S → Int32 → Int32 → Int32 → Option (tg_S × Int32)} (X : tg_M tauC x cX7_best 5 RX7 zr_X7_best (some .int) Sf (some (.int r))) (hr6 : ∀ (S : tg_S) (v1 : Int32) (v2 : Int32) (v3 : Int32), rec6 S v1 v2 v3 = some (Sf, r) → tg_G tauC x S 6 [(0, .ref (tg_ad x 0)), (1, .int v1), (2, .int v2), (3, .int v3)] []) (S : tg_S) (v1 : Int32) (v2 : Int32) (v3 : Int32) (h : f_X7_best_46 rec6 S v1 v2 v3 = some (Sf, r)) : tg_G tauC x S 46 [(0, .ref (tg_ad x 0)), (1, .int v1), (2, .int v2), (3, .int v3)] [] := by
  unfold f_X7_best_46 at h
  obtain ⟨y1, ey1⟩ : ∃ z : Int32, z = v3 + 1 := ⟨_, rfl⟩
  have h := tg_nmE ey1 h
  refine tg_iinc (lv2 := [(3, .int y1), (0, .ref (tg_ad x 0)), (1, .int v1), (2, .int v2)]) X dX7_best_46 3 rfl tk_i1 ey1 (by decide) rfl ?_
  refine tg_goto (tgt := 6) X dX7_best_49 (by decide) ?_
  refine tg_re [1, 2, 3, 0] rfl ?_
  exact hr6 S v1 v2 y1 h
set_option maxRecDepth 20000 in
set_option maxHeartbeats 4000000 in
theorem w_X7_best_33 {x : tg_X} {Sf : tg_S} {r : Int32} {rec6 : tg_S → Int32 → Int32 → Int32 → Option (tg_S × Int32)} (X : tg_M tauC x cX7_best 5 RX7 zr_X7_best (some .int) Sf (some (.int r))) (hr6 : ∀ (S : tg_S) (v1 : Int32) (v2 : Int32) (v3 : Int32), rec6 S v1 v2 v3 = some (Sf, r) → tg_G tauC x S 6 [(0, .ref (tg_ad x 0)), (1, .int v1), (2, .int v2), (3, .int v3)] []) (S : tg_S) (v1 : Int32) (v2 : Int32) (v3 : Int32) (s0 : Int32) (h : f_X7_best_33 rec6 S v1 v2 v3 s0 = some (Sf, r)) : tg_G tauC x S 33 [(0, .ref (tg_ad x 0)), (1, .int v1), (2, .int v2), (3, .int v3)] [.int s0] := by
  unfold f_X7_best_33 at h
  refine tg_istore (lv2 := [(4, .int s0), (0, .ref (tg_ad x 0)), (1, .int v1), (2, .int v2), (3, .int v3)]) X dX7_best_33 (by decide) rfl ?_
  refine tg_iload X dX7_best_35 0 rfl ?_
  refine tg_iload_n X dX7_best_37 rfl 3 rfl ?_
  refine tg_icmp_le (tgt := 46) X dX7_best_38 (by decide) (fun c1 => ?_) (fun c1 => ?_)
  · simp only [if_pos c1] at h
    refine tg_re [1, 2, 3, 4] rfl ?_
    exact w_X7_best_46 X hr6 S v1 v2 v3 h
  · simp only [if_neg c1] at h
    refine tg_iload_n X dX7_best_41 rfl 4 rfl ?_
    refine tg_istore_n (lv2 := [(1, .int v3), (4, .int s0), (0, .ref (tg_ad x 0)), (2, .int v2), (3, .int v3)]) X dX7_best_42 rfl (by decide) rfl ?_
    refine tg_iload X dX7_best_43 1 rfl ?_
    refine tg_istore_n (lv2 := [(2, .int s0), (1, .int v3), (4, .int s0), (0, .ref (tg_ad x 0)), (3, .int v3)]) X dX7_best_45 rfl (by decide) rfl ?_
    refine tg_re [3, 1, 0, 4] rfl ?_
    exact w_X7_best_46 X hr6 S v3 s0 v3 h
set_option maxRecDepth 20000 in
set_option maxHeartbeats 4000000 in
theorem w_X7_best_6 {x : tg_X} {Sf : tg_S} {r : Int32} {rec6 : tg_S → Int32 → Int32 → Int32 → Option (tg_S × Int32)} (X : tg_M tauC x cX7_best 5 RX7 zr_X7_best (some .int) Sf (some (.int r))) (hr6 : ∀ (S : tg_S) (v1 : Int32) (v2 : Int32) (v3 : Int32), rec6 S v1 v2 v3 = some (Sf, r) → tg_G tauC x S 6 [(0, .ref (tg_ad x 0)), (1, .int v1), (2, .int v2), (3, .int v3)] []) (S : tg_S) (v1 : Int32) (v2 : Int32) (v3 : Int32) (h : f_X7_best_6 rec6 S v1 v2 v3 = some (Sf, r)) : tg_G tauC x S 6 [(0, .ref (tg_ad x 0)), (1, .int v1), (2, .int v2), (3, .int v3)] [] := by
  unfold f_X7_best_6 at h
  refine tg_iload_n X dX7_best_6 rfl 3 rfl ?_
  refine tg_bipush X dX7_best_7 tk_b16 ?_
  refine tg_icmp_ge (tgt := 52) X dX7_best_9 (by decide) (fun c1 => ?_) (fun c1 => ?_)
  · have h := tg_ifT c1 h
    refine tg_iload_n X dX7_best_52 rfl 1 rfl ?_
    exact tg_iret X h rfl dX7_best_53
  · have h := tg_ifF c1 h
    refine tg_aload_n X dX7_best_12 rfl 0 rfl ?_
    refine tg_getr X 0 rfl cl_X7 4 (by decide) rfl wf_X7_37 dX7_best_13 ?_
    refine tg_getr X 11 rfl cl_X1 0 (by decide) rfl wf_X7_186 dX7_best_16 ?_
    refine tg_iload_n X dX7_best_19 rfl 3 rfl ?_
    obtain ⟨y2, ey2, by2, h⟩ := tg_rdE h
    refine tg_zald X 12 rfl ey2 by2 dX7_best_20 ?_
    refine tg_if_eq (tgt := 32) X dX7_best_21 (by decide) (fun c3 => ?_) (fun c3 => ?_)
    · have h := tg_ifT c3 h
      refine tg_iconst X dX7_best_32 tk_i0 ?_
      exact w_X7_best_33 X hr6 S v1 v2 v3 0 h
    · have h := tg_ifF c3 h
      refine tg_aload_n X dX7_best_24 rfl 0 rfl ?_
      refine tg_iload_n X dX7_best_25 rfl 3 rfl ?_
      obtain ⟨S4, r5, kS4, h⟩ := tg_bdE h
      refine tg_callV (As := [.int v3]) (rest := []) X 0 (cm_X7_pulledInAll _ _ _ _ _ kS4) yy_X7_pulledInAll wv_X7_pulledInAll ws_X7_pulledInAll wm_X7_183 rfl cl_X7.1 ⟨rfl, rfl, Nat.le_of_ble_eq_true rfl, Nat.le_of_ble_eq_true rfl⟩ rfl rfl (Nat.le_of_ble_eq_true rfl) dX7_best_26 rfl ?_
      refine tg_goto (tgt := 33) X dX7_best_29 (by decide) ?_
      exact w_X7_best_33 X hr6 S4 v1 v2 v3 r5 h
theorem wl_X7_best_6 {x : tg_X} {Sf : tg_S} {r : Int32} (X : tg_M tauC x cX7_best 5 RX7 zr_X7_best (some .int) Sf (some (.int r))) : ∀ (n : Nat) (S : tg_S) (v1 : Int32) (v2 : Int32) (v3 : Int32) (h : L_X7_best_6  n S v1 v2 v3 = some (Sf, r)), tg_G tauC x S 6 [(0, .ref (tg_ad x 0)), (1, .int v1), (2, .int v2), (3, .int v3)] [] := by
  intro n
  induction n with
  | zero => intro S v1 v2 v3 h; cases h
  | succ n ih => intro S v1 v2 v3 h; exact w_X7_best_6 X  ih S v1 v2 v3 h
set_option maxRecDepth 20000 in
set_option maxHeartbeats 4000000 in
theorem w_X7_best_0 {x : tg_X} {Sf : tg_S} {r : Int32} (X : tg_M tauC x cX7_best 5 RX7 zr_X7_best (some .int) Sf (some (.int r))) (S : tg_S) (h : f_X7_best  S  = some (Sf, r)) : tg_G tauC x S 0 [(0, .ref (tg_ad x 0))] [] := by
  unfold f_X7_best at h
  refine tg_iconst X dX7_best_0 tk_im1 ?_
  refine tg_topi (fun y1 ey1 => ?_)
  have h := tg_nmE ey1 h
  refine tg_istore_n (lv2 := [(1, .int y1), (0, .ref (tg_ad x 0))]) X dX7_best_1 rfl (by decide) rfl ?_
  refine tg_iconst X dX7_best_2 tk_i0 ?_
  refine tg_istore_n (lv2 := [(2, .int 0), (1, .int y1), (0, .ref (tg_ad x 0))]) X dX7_best_3 rfl (by decide) rfl ?_
  refine tg_iconst X dX7_best_4 tk_i0 ?_
  refine tg_istore_n (lv2 := [(3, .int 0), (2, .int 0), (1, .int y1), (0, .ref (tg_ad x 0))]) X dX7_best_5 rfl (by decide) rfl ?_
  refine tg_re [3, 2, 1, 0] rfl ?_
  exact wl_X7_best_6 X  tg_F S y1 0 0 h
theorem cm_X7_best (l : Launch) (D : va_G) (cy : Bool → ClassId) (ad : Nat → Nat) (tS : Nat) {S Sf : tg_S} {r : Int32} (h : f_X7_best  S  = some (Sf, r)) : tg_Met l yX7_best cX7_best 5 (some .int) zr_X7_best tauC D cy ad tS S [.ref (ad 0)] Sf (some (.int r)) := tg_mk (by decide +kernel) trivial (Nat.le_of_ble_eq_true rfl) (fun p e s m args below meth c Q A X => w_X7_best_0 X S  h)
-- X7_level
def zr_X7_level : Room := { frames := 0, cells := 0, slots := 0, locals := 0 }
theorem dX7_level_0 : decode cX7_level 0 = .ok (.aload_n 0, 1) := by decide +kernel
theorem dX7_level_1 : decode cX7_level 1 = .ok (.getfield 44, 3) := by decide +kernel
theorem dX7_level_4 : decode cX7_level 4 = .ok (.getfield 169, 3) := by decide +kernel
theorem dX7_level_7 : decode cX7_level 7 = .ok (.iconst (-1), 1) := by decide +kernel
theorem dX7_level_8 : decode cX7_level 8 = .ok (.if_icmp .ne 8, 3) := by decide +kernel
theorem dX7_level_11 : decode cX7_level 11 = .ok (.bipush 23, 2) := by decide +kernel
theorem dX7_level_13 : decode cX7_level 13 = .ok (.goto 10, 3) := by decide +kernel
theorem dX7_level_16 : decode cX7_level 16 = .ok (.aload_n 0, 1) := by decide +kernel
theorem dX7_level_17 : decode cX7_level 17 = .ok (.getfield 44, 3) := by decide +kernel
theorem dX7_level_20 : decode cX7_level 20 = .ok (.getfield 172, 3) := by decide +kernel
theorem dX7_level_23 : decode cX7_level 23 = .ok (.istore_n 1, 1) := by decide +kernel
theorem dX7_level_24 : decode cX7_level 24 = .ok (.iconst 0, 1) := by decide +kernel
theorem dX7_level_25 : decode cX7_level 25 = .ok (.istore_n 2, 1) := by decide +kernel
theorem dX7_level_26 : decode cX7_level 26 = .ok (.iconst 0, 1) := by decide +kernel
theorem dX7_level_27 : decode cX7_level 27 = .ok (.istore_n 3, 1) := by decide +kernel
theorem dX7_level_28 : decode cX7_level 28 = .ok (.iload_n 3, 1) := by decide +kernel
theorem dX7_level_29 : decode cX7_level 29 = .ok (.bipush 24, 2) := by decide +kernel
theorem dX7_level_31 : decode cX7_level 31 = .ok (.if_icmp .ge 41, 3) := by decide +kernel
theorem dX7_level_34 : decode cX7_level 34 = .ok (.iload_n 3, 1) := by decide +kernel
theorem dX7_level_35 : decode cX7_level 35 = .ok (.iload_n 1, 1) := by decide +kernel
theorem dX7_level_36 : decode cX7_level 36 = .ok (.if_icmp .gt 36, 3) := by decide +kernel
theorem dX7_level_39 : decode cX7_level 39 = .ok (.aload_n 0, 1) := by decide +kernel
theorem dX7_level_40 : decode cX7_level 40 = .ok (.getfield 44, 3) := by decide +kernel
theorem dX7_level_43 : decode cX7_level 43 = .ok (.getfield 157, 3) := by decide +kernel
theorem dX7_level_46 : decode cX7_level 46 = .ok (.iload_n 3, 1) := by decide +kernel
theorem dX7_level_47 : decode cX7_level 47 = .ok (.iaload, 1) := by decide +kernel
theorem dX7_level_48 : decode cX7_level 48 = .ok (.aload_n 0, 1) := by decide +kernel
theorem dX7_level_49 : decode cX7_level 49 = .ok (.getfield 44, 3) := by decide +kernel
theorem dX7_level_52 : decode cX7_level 52 = .ok (.getfield 157, 3) := by decide +kernel
theorem dX7_level_55 : decode cX7_level 55 = .ok (.bipush 24, 2) := by decide +kernel
theorem dX7_level_57 : decode cX7_level 57 = .ok (.iload_n 3, 1) := by decide +kernel
theorem dX7_level_58 : decode cX7_level 58 = .ok (.iadd, 1) := by decide +kernel
theorem dX7_level_59 : decode cX7_level 59 = .ok (.iaload, 1) := by decide +kernel
theorem dX7_level_60 : decode cX7_level 60 = .ok (.if_icmp .ne 6, 3) := by decide +kernel
theorem dX7_level_63 : decode cX7_level 63 = .ok (.iinc 2 1, 3) := by decide +kernel
theorem dX7_level_66 : decode cX7_level 66 = .ok (.iinc 3 1, 3) := by decide +kernel
theorem dX7_level_69 : decode cX7_level 69 = .ok (.goto (-41), 3) := by decide +kernel
theorem dX7_level_72 : decode cX7_level 72 = .ok (.iload_n 2, 1) := by decide +kernel
theorem dX7_level_73 : decode cX7_level 73 = .ok (.ireturn, 1) := by decide +kernel
set_option maxRecDepth 20000 in
set_option maxHeartbeats 4000000 in
theorem w_X7_level_66 {x : tg_X} {Sf : tg_S} {r : Int32} {rec28 : tg_S → Int32 → Int32 → Int32 → Option (tg_S × Int32)} (X : tg_M tauC x cX7_level 4 RX7 zr_X7_level (some .int) Sf (some (.int r))) (hr28 : ∀ (S : tg_S) (v1 : Int32) (v2 : Int32) (v3 : Int32), rec28 S v1 v2 v3 = some (Sf, r) → tg_G tauC x S 28 [(0, .ref (tg_ad x 0)), (1, .int v1), (2, .int v2), (3, .int v3)] []) (S : tg_S) (v1 : Int32) (v2 : Int32) (v3 : Int32) (h : f_X7_level_66 rec28 S v1 v2 v3 = some (Sf, r)) : tg_G tauC x S 66 [(0, .ref (tg_ad x 0)), (1, .int v1), (2, .int v2), (3, .int v3)] [] := by
  unfold f_X7_level_66 at h
  obtain ⟨y1, ey1⟩ : ∃ z : Int32, z = v3 + 1 := ⟨_, rfl⟩
  have h := tg_nmE ey1 h
  refine tg_iinc (lv2 := [(3, .int y1), (0, .ref (tg_ad x 0)), (1, .int v1), (2, .int v2)]) X dX7_level_66 3 rfl tk_i1 ey1 (by decide) rfl ?_
  refine tg_goto (tgt := 28) X dX7_level_69 (by decide) ?_
  refine tg_re [1, 2, 3, 0] rfl ?_
  exact hr28 S v1 v2 y1 h
set_option maxRecDepth 20000 in
set_option maxHeartbeats 4000000 in
theorem w_X7_level_28 {x : tg_X} {Sf : tg_S} {r : Int32} {rec28 : tg_S → Int32 → Int32 → Int32 → Option (tg_S × Int32)} (X : tg_M tauC x cX7_level 4 RX7 zr_X7_level (some .int) Sf (some (.int r))) (hr28 : ∀ (S : tg_S) (v1 : Int32) (v2 : Int32) (v3 : Int32), rec28 S v1 v2 v3 = some (Sf, r) → tg_G tauC x S 28 [(0, .ref (tg_ad x 0)), (1, .int v1), (2, .int v2), (3, .int v3)] []) (S : tg_S) (v1 : Int32) (v2 : Int32) (v3 : Int32) (h : f_X7_level_28 rec28 S v1 v2 v3 = some (Sf, r)) : tg_G tauC x S 28 [(0, .ref (tg_ad x 0)), (1, .int v1), (2, .int v2), (3, .int v3)] [] := by
  unfold f_X7_level_28 at h
  refine tg_iload_n X dX7_level_28 rfl 3 rfl ?_
  refine tg_bipush X dX7_level_29 tk_b24 ?_
  refine tg_icmp_ge (tgt := 72) X dX7_level_31 (by decide) (fun c1 => ?_) (fun c1 => ?_)
  · have h := tg_ifT c1 h
    refine tg_iload_n X dX7_level_72 rfl 2 rfl ?_
    exact tg_iret X h rfl dX7_level_73
  · have h := tg_ifF c1 h
    refine tg_iload_n X dX7_level_34 rfl 3 rfl ?_
    refine tg_iload_n X dX7_level_35 rfl 1 rfl ?_
    refine tg_icmp_gt (tgt := 72) X dX7_level_36 (by decide) (fun c2 => ?_) (fun c2 => ?_)
    · have h := tg_ifT c2 h
      refine tg_iload_n X dX7_level_72 rfl 2 rfl ?_
      exact tg_iret X h rfl dX7_level_73
    · have h := tg_ifF c2 h
      refine tg_aload_n X dX7_level_39 rfl 0 rfl ?_
      refine tg_getr X 0 rfl cl_X7 5 (by decide) rfl wf_X7_44 dX7_level_40 ?_
      refine tg_getr X 35 rfl cl_X2 2 (by decide) rfl wf_X7_157 dX7_level_43 ?_
      refine tg_iload_n X dX7_level_46 rfl 3 rfl ?_
      obtain ⟨y3, ey3, by3, h⟩ := tg_rdE h
      refine tg_iald X 38 rfl ey3 by3 dX7_level_47 ?_
      refine tg_aload_n X dX7_level_48 rfl 0 rfl ?_
      refine tg_getr X 0 rfl cl_X7 5 (by decide) rfl wf_X7_44 dX7_level_49 ?_
      refine tg_getr X 35 rfl cl_X2 2 (by decide) rfl wf_X7_157 dX7_level_52 ?_
      refine tg_bipush X dX7_level_55 tk_b24 ?_
      refine tg_iload_n X dX7_level_57 rfl 3 rfl ?_
      refine tg_iadd X dX7_level_58 ?_
      obtain ⟨y4, ey4, by4, h⟩ := tg_rdE h
      refine tg_iald X 38 rfl ey4 by4 dX7_level_59 ?_
      refine tg_icmp_ne (tgt := 66) X dX7_level_60 (by decide) (fun c5 => ?_) (fun c5 => ?_)
      · have h := tg_ifF c5 h
        exact w_X7_level_66 X hr28 S v1 v2 v3 h
      · have h := tg_ifT c5 h
        obtain ⟨y6, ey6⟩ : ∃ z : Int32, z = v2 + 1 := ⟨_, rfl⟩
        have h := tg_nmE ey6 h
        refine tg_iinc (lv2 := [(2, .int y6), (0, .ref (tg_ad x 0)), (1, .int v1), (3, .int v3)]) X dX7_level_63 2 rfl tk_i1 ey6 (by decide) rfl ?_
        refine tg_re [1, 2, 0, 3] rfl ?_
        exact w_X7_level_66 X hr28 S v1 y6 v3 h
theorem wl_X7_level_28 {x : tg_X} {Sf : tg_S} {r : Int32} (X : tg_M tauC x cX7_level 4 RX7 zr_X7_level (some .int) Sf (some (.int r))) : ∀ (n : Nat) (S : tg_S) (v1 : Int32) (v2 : Int32) (v3 : Int32) (h : L_X7_level_28  n S v1 v2 v3 = some (Sf, r)), tg_G tauC x S 28 [(0, .ref (tg_ad x 0)), (1, .int v1), (2, .int v2), (3, .int v3)] [] := by
  intro n
  induction n with
  | zero => intro S v1 v2 v3 h; cases h
  | succ n ih => intro S v1 v2 v3 h; exact w_X7_level_28 X  ih S v1 v2 v3 h
set_option maxRecDepth 20000 in
set_option maxHeartbeats 4000000 in
theorem w_X7_level_23 {x : tg_X} {Sf : tg_S} {r : Int32} (X : tg_M tauC x cX7_level 4 RX7 zr_X7_level (some .int) Sf (some (.int r))) (S : tg_S) (s0 : Int32) (h : f_X7_level_23  S s0 = some (Sf, r)) : tg_G tauC x S 23 [(0, .ref (tg_ad x 0))] [.int s0] := by
  unfold f_X7_level_23 at h
  refine tg_istore_n (lv2 := [(1, .int s0), (0, .ref (tg_ad x 0))]) X dX7_level_23 rfl (by decide) rfl ?_
  refine tg_iconst X dX7_level_24 tk_i0 ?_
  refine tg_istore_n (lv2 := [(2, .int 0), (1, .int s0), (0, .ref (tg_ad x 0))]) X dX7_level_25 rfl (by decide) rfl ?_
  refine tg_iconst X dX7_level_26 tk_i0 ?_
  refine tg_istore_n (lv2 := [(3, .int 0), (2, .int 0), (1, .int s0), (0, .ref (tg_ad x 0))]) X dX7_level_27 rfl (by decide) rfl ?_
  refine tg_re [3, 2, 1, 0] rfl ?_
  exact wl_X7_level_28 X  tg_F S s0 0 0 h
set_option maxRecDepth 20000 in
set_option maxHeartbeats 4000000 in
theorem w_X7_level_0 {x : tg_X} {Sf : tg_S} {r : Int32} (X : tg_M tauC x cX7_level 4 RX7 zr_X7_level (some .int) Sf (some (.int r))) (S : tg_S) (h : f_X7_level  S  = some (Sf, r)) : tg_G tauC x S 0 [(0, .ref (tg_ad x 0))] [] := by
  unfold f_X7_level at h
  refine tg_aload_n X dX7_level_0 rfl 0 rfl ?_
  refine tg_getr X 0 rfl cl_X7 5 (by decide) rfl wf_X7_44 dX7_level_1 ?_
  refine tg_geti X 35 rfl cl_X2 5 (by decide) rfl wf_X7_169 dX7_level_4 ?_
  refine tg_iconst X dX7_level_7 tk_im1 ?_
  refine tg_icmp_ne (tgt := 16) X dX7_level_8 (by decide) (fun c1 => ?_) (fun c1 => ?_)
  · rw [if_neg c1] at h
    refine tg_aload_n X dX7_level_16 rfl 0 rfl ?_
    refine tg_getr X 0 rfl cl_X7 5 (by decide) rfl wf_X7_44 dX7_level_17 ?_
    refine tg_geti X 35 rfl cl_X2 6 (by decide) rfl wf_X7_172 dX7_level_20 ?_
    exact w_X7_level_23 X  S (S 35 6) h
  · rw [if_pos c1] at h
    refine tg_bipush X dX7_level_11 tk_b23 ?_
    refine tg_goto (tgt := 23) X dX7_level_13 (by decide) ?_
    exact w_X7_level_23 X  S 23 h
theorem cm_X7_level (l : Launch) (D : va_G) (cy : Bool → ClassId) (ad : Nat → Nat) (tS : Nat) {S Sf : tg_S} {r : Int32} (h : f_X7_level  S  = some (Sf, r)) : tg_Met l yX7_level cX7_level 4 (some .int) zr_X7_level tauC D cy ad tS S [.ref (ad 0)] Sf (some (.int r)) := tg_mk (by decide +kernel) trivial (Nat.le_of_ble_eq_true rfl) (fun p e s m args below meth c Q A X => w_X7_level_0 X S  h)
-- X3_takeFrom
def zr_X3_takeFrom : Room := { frames := 1, cells := 0, slots := 0, locals := 18 }
theorem dX3_takeFrom_0 : decode cX3_takeFrom 0 = .ok (.aload_n 1, 1) := by decide +kernel
theorem dX3_takeFrom_1 : decode cX3_takeFrom 1 = .ok (.getfield 9, 3) := by decide +kernel
theorem dX3_takeFrom_4 : decode cX3_takeFrom 4 = .ok (.iconst 0, 1) := by decide +kernel
theorem dX3_takeFrom_5 : decode cX3_takeFrom 5 = .ok (.aload_n 0, 1) := by decide +kernel
theorem dX3_takeFrom_6 : decode cX3_takeFrom 6 = .ok (.getfield 9, 3) := by decide +kernel
theorem dX3_takeFrom_9 : decode cX3_takeFrom 9 = .ok (.iconst 0, 1) := by decide +kernel
theorem dX3_takeFrom_10 : decode cX3_takeFrom 10 = .ok (.bipush 8, 2) := by decide +kernel
theorem dX3_takeFrom_12 : decode cX3_takeFrom 12 = .ok (.invokestatic 32, 3) := by decide +kernel
theorem dX3_takeFrom_15 : decode cX3_takeFrom 15 = .ok (.aload_n 1, 1) := by decide +kernel
theorem dX3_takeFrom_16 : decode cX3_takeFrom 16 = .ok (.getfield 15, 3) := by decide +kernel
theorem dX3_takeFrom_19 : decode cX3_takeFrom 19 = .ok (.iconst 0, 1) := by decide +kernel
theorem dX3_takeFrom_20 : decode cX3_takeFrom 20 = .ok (.aload_n 0, 1) := by decide +kernel
theorem dX3_takeFrom_21 : decode cX3_takeFrom 21 = .ok (.getfield 15, 3) := by decide +kernel
theorem dX3_takeFrom_24 : decode cX3_takeFrom 24 = .ok (.iconst 0, 1) := by decide +kernel
theorem dX3_takeFrom_25 : decode cX3_takeFrom 25 = .ok (.bipush 8, 2) := by decide +kernel
theorem dX3_takeFrom_27 : decode cX3_takeFrom 27 = .ok (.invokestatic 32, 3) := by decide +kernel
theorem dX3_takeFrom_30 : decode cX3_takeFrom 30 = .ok (.aload_n 1, 1) := by decide +kernel
theorem dX3_takeFrom_31 : decode cX3_takeFrom 31 = .ok (.getfield 18, 3) := by decide +kernel
theorem dX3_takeFrom_34 : decode cX3_takeFrom 34 = .ok (.iconst 0, 1) := by decide +kernel
theorem dX3_takeFrom_35 : decode cX3_takeFrom 35 = .ok (.aload_n 0, 1) := by decide +kernel
theorem dX3_takeFrom_36 : decode cX3_takeFrom 36 = .ok (.getfield 18, 3) := by decide +kernel
theorem dX3_takeFrom_39 : decode cX3_takeFrom 39 = .ok (.iconst 0, 1) := by decide +kernel
theorem dX3_takeFrom_40 : decode cX3_takeFrom 40 = .ok (.bipush 8, 2) := by decide +kernel
theorem dX3_takeFrom_42 : decode cX3_takeFrom 42 = .ok (.invokestatic 32, 3) := by decide +kernel
theorem dX3_takeFrom_45 : decode cX3_takeFrom 45 = .ok (.aload_n 0, 1) := by decide +kernel
theorem dX3_takeFrom_46 : decode cX3_takeFrom 46 = .ok (.aload_n 1, 1) := by decide +kernel
theorem dX3_takeFrom_47 : decode cX3_takeFrom 47 = .ok (.getfield 21, 3) := by decide +kernel
theorem dX3_takeFrom_50 : decode cX3_takeFrom 50 = .ok (.putfield 21, 3) := by decide +kernel
theorem dX3_takeFrom_53 : decode cX3_takeFrom 53 = .ok (.aload_n 0, 1) := by decide +kernel
theorem dX3_takeFrom_54 : decode cX3_takeFrom 54 = .ok (.aload_n 1, 1) := by decide +kernel
theorem dX3_takeFrom_55 : decode cX3_takeFrom 55 = .ok (.getfield 25, 3) := by decide +kernel
theorem dX3_takeFrom_58 : decode cX3_takeFrom 58 = .ok (.putfield 25, 3) := by decide +kernel
theorem dX3_takeFrom_61 : decode cX3_takeFrom 61 = .ok (.return_, 1) := by decide +kernel
set_option maxRecDepth 20000 in
set_option maxHeartbeats 4000000 in
theorem w_X3_takeFrom_0 {x : tg_X} {Sf : tg_S} (X : tg_M tauC x cX3_takeFrom 2 RX3 zr_X3_takeFrom none Sf none) (S : tg_S) (h : f_X3_takeFrom  S  = some Sf) : tg_G tauC x S 0 [(0, .ref (tg_ad x 31)), (1, .ref (tg_ad x 19))] [] := by
  unfold f_X3_takeFrom at h
  refine tg_aload_n X dX3_takeFrom_0 rfl 1 rfl ?_
  refine tg_getr X 19 rfl cl_X3 0 (by decide) rfl wf_X3_9 dX3_takeFrom_1 ?_
  refine tg_iconst X dX3_takeFrom_4 tk_i0 ?_
  refine tg_aload_n X dX3_takeFrom_5 rfl 0 rfl ?_
  refine tg_getr X 31 rfl cl_X3 0 (by decide) rfl wf_X3_9 dX3_takeFrom_6 ?_
  refine tg_iconst X dX3_takeFrom_9 tk_i0 ?_
  refine tg_bipush X dX3_takeFrom_10 tk_b8 ?_
  obtain ⟨S1, eS1, bS1, h⟩ := tg_cpE h
  refine tg_acopy X 20 32 rfl rfl bS1 ⟨wm_X3_32, wn_AC, wt_AC, wi_Sys⟩ ⟨Nat.le_of_ble_eq_true rfl, Nat.le_of_ble_eq_true rfl⟩ dX3_takeFrom_12 eS1 ?_
  refine tg_aload_n X dX3_takeFrom_15 rfl 1 rfl ?_
  refine tg_getr X 19 rfl cl_X3 1 (by decide) rfl wf_X3_15 dX3_takeFrom_16 ?_
  refine tg_iconst X dX3_takeFrom_19 tk_i0 ?_
  refine tg_aload_n X dX3_takeFrom_20 rfl 0 rfl ?_
  refine tg_getr X 31 rfl cl_X3 1 (by decide) rfl wf_X3_15 dX3_takeFrom_21 ?_
  refine tg_iconst X dX3_takeFrom_24 tk_i0 ?_
  refine tg_bipush X dX3_takeFrom_25 tk_b8 ?_
  obtain ⟨S2, eS2, bS2, h⟩ := tg_cpE h
  refine tg_acopy X 21 33 rfl rfl bS2 ⟨wm_X3_32, wn_AC, wt_AC, wi_Sys⟩ ⟨Nat.le_of_ble_eq_true rfl, Nat.le_of_ble_eq_true rfl⟩ dX3_takeFrom_27 eS2 ?_
  refine tg_aload_n X dX3_takeFrom_30 rfl 1 rfl ?_
  refine tg_getr X 19 rfl cl_X3 2 (by decide) rfl wf_X3_18 dX3_takeFrom_31 ?_
  refine tg_iconst X dX3_takeFrom_34 tk_i0 ?_
  refine tg_aload_n X dX3_takeFrom_35 rfl 0 rfl ?_
  refine tg_getr X 31 rfl cl_X3 2 (by decide) rfl wf_X3_18 dX3_takeFrom_36 ?_
  refine tg_iconst X dX3_takeFrom_39 tk_i0 ?_
  refine tg_bipush X dX3_takeFrom_40 tk_b8 ?_
  obtain ⟨S3, eS3, bS3, h⟩ := tg_cpE h
  refine tg_acopy X 22 34 rfl rfl bS3 ⟨wm_X3_32, wn_AC, wt_AC, wi_Sys⟩ ⟨Nat.le_of_ble_eq_true rfl, Nat.le_of_ble_eq_true rfl⟩ dX3_takeFrom_42 eS3 ?_
  refine tg_aload_n X dX3_takeFrom_45 rfl 0 rfl ?_
  refine tg_aload_n X dX3_takeFrom_46 rfl 1 rfl ?_
  refine tg_geti X 19 rfl cl_X3 3 (by decide) rfl wf_X3_21 dX3_takeFrom_47 ?_
  obtain ⟨S4, eS4, h⟩ := tg_pfE h
  refine tg_puti X 31 rfl cl_X3 3 (by decide) rfl wf_X3_21 rfl rfl rfl dX3_takeFrom_50 eS4 ?_
  refine tg_aload_n X dX3_takeFrom_53 rfl 0 rfl ?_
  refine tg_aload_n X dX3_takeFrom_54 rfl 1 rfl ?_
  refine tg_geti X 19 rfl cl_X3 4 (by decide) rfl wf_X3_25 dX3_takeFrom_55 ?_
  obtain ⟨S5, eS5, h⟩ := tg_pfE h
  refine tg_puti X 31 rfl cl_X3 4 (by decide) rfl wf_X3_25 rfl rfl rfl dX3_takeFrom_58 eS5 ?_
  exact tg_vret X h dX3_takeFrom_61
theorem cm_X3_takeFrom (l : Launch) (D : va_G) (cy : Bool → ClassId) (ad : Nat → Nat) (tS : Nat) {S Sf : tg_S} (h : f_X3_takeFrom  S  = some Sf) : tg_Met l yX3_takeFrom cX3_takeFrom 2 none zr_X3_takeFrom tauC D cy ad tS S [.ref (ad 31), .ref (ad 19)] Sf none := tg_mk (by decide +kernel) trivial (Nat.le_of_ble_eq_true rfl) (fun p e s m args below meth c Q A X => w_X3_takeFrom_0 X S  h)
-- X1_becomeLike
def zr_X1_becomeLike : Room := { frames := 2, cells := 0, slots := 0, locals := 39 }
theorem dX1_becomeLike_0 : decode cX1_becomeLike 0 = .ok (.iconst 0, 1) := by decide +kernel
theorem dX1_becomeLike_1 : decode cX1_becomeLike 1 = .ok (.istore_n 2, 1) := by decide +kernel
theorem dX1_becomeLike_2 : decode cX1_becomeLike 2 = .ok (.iload_n 2, 1) := by decide +kernel
theorem dX1_becomeLike_3 : decode cX1_becomeLike 3 = .ok (.bipush 16, 2) := by decide +kernel
theorem dX1_becomeLike_5 : decode cX1_becomeLike 5 = .ok (.if_icmp .ge 57, 3) := by decide +kernel
theorem dX1_becomeLike_8 : decode cX1_becomeLike 8 = .ok (.aload_n 0, 1) := by decide +kernel
theorem dX1_becomeLike_9 : decode cX1_becomeLike 9 = .ok (.getfield 9, 3) := by decide +kernel
theorem dX1_becomeLike_12 : decode cX1_becomeLike 12 = .ok (.iload_n 2, 1) := by decide +kernel
theorem dX1_becomeLike_13 : decode cX1_becomeLike 13 = .ok (.aload_n 1, 1) := by decide +kernel
theorem dX1_becomeLike_14 : decode cX1_becomeLike 14 = .ok (.getfield 9, 3) := by decide +kernel
theorem dX1_becomeLike_17 : decode cX1_becomeLike 17 = .ok (.iload_n 2, 1) := by decide +kernel
theorem dX1_becomeLike_18 : decode cX1_becomeLike 18 = .ok (.baload, 1) := by decide +kernel
theorem dX1_becomeLike_19 : decode cX1_becomeLike 19 = .ok (.bastore, 1) := by decide +kernel
theorem dX1_becomeLike_20 : decode cX1_becomeLike 20 = .ok (.aload_n 0, 1) := by decide +kernel
theorem dX1_becomeLike_21 : decode cX1_becomeLike 21 = .ok (.getfield 15, 3) := by decide +kernel
theorem dX1_becomeLike_24 : decode cX1_becomeLike 24 = .ok (.iload_n 2, 1) := by decide +kernel
theorem dX1_becomeLike_25 : decode cX1_becomeLike 25 = .ok (.aload_n 1, 1) := by decide +kernel
theorem dX1_becomeLike_26 : decode cX1_becomeLike 26 = .ok (.getfield 15, 3) := by decide +kernel
theorem dX1_becomeLike_29 : decode cX1_becomeLike 29 = .ok (.iload_n 2, 1) := by decide +kernel
theorem dX1_becomeLike_30 : decode cX1_becomeLike 30 = .ok (.iaload, 1) := by decide +kernel
theorem dX1_becomeLike_31 : decode cX1_becomeLike 31 = .ok (.iastore, 1) := by decide +kernel
theorem dX1_becomeLike_32 : decode cX1_becomeLike 32 = .ok (.aload_n 0, 1) := by decide +kernel
theorem dX1_becomeLike_33 : decode cX1_becomeLike 33 = .ok (.getfield 19, 3) := by decide +kernel
theorem dX1_becomeLike_36 : decode cX1_becomeLike 36 = .ok (.iload_n 2, 1) := by decide +kernel
theorem dX1_becomeLike_37 : decode cX1_becomeLike 37 = .ok (.aload_n 1, 1) := by decide +kernel
theorem dX1_becomeLike_38 : decode cX1_becomeLike 38 = .ok (.getfield 19, 3) := by decide +kernel
theorem dX1_becomeLike_41 : decode cX1_becomeLike 41 = .ok (.iload_n 2, 1) := by decide +kernel
theorem dX1_becomeLike_42 : decode cX1_becomeLike 42 = .ok (.iaload, 1) := by decide +kernel
theorem dX1_becomeLike_43 : decode cX1_becomeLike 43 = .ok (.iastore, 1) := by decide +kernel
theorem dX1_becomeLike_44 : decode cX1_becomeLike 44 = .ok (.aload_n 0, 1) := by decide +kernel
theorem dX1_becomeLike_45 : decode cX1_becomeLike 45 = .ok (.getfield 22, 3) := by decide +kernel
theorem dX1_becomeLike_48 : decode cX1_becomeLike 48 = .ok (.iload_n 2, 1) := by decide +kernel
theorem dX1_becomeLike_49 : decode cX1_becomeLike 49 = .ok (.aload_n 1, 1) := by decide +kernel
theorem dX1_becomeLike_50 : decode cX1_becomeLike 50 = .ok (.getfield 22, 3) := by decide +kernel
theorem dX1_becomeLike_53 : decode cX1_becomeLike 53 = .ok (.iload_n 2, 1) := by decide +kernel
theorem dX1_becomeLike_54 : decode cX1_becomeLike 54 = .ok (.iaload, 1) := by decide +kernel
theorem dX1_becomeLike_55 : decode cX1_becomeLike 55 = .ok (.iastore, 1) := by decide +kernel
theorem dX1_becomeLike_56 : decode cX1_becomeLike 56 = .ok (.iinc 2 1, 3) := by decide +kernel
theorem dX1_becomeLike_59 : decode cX1_becomeLike 59 = .ok (.goto (-57), 3) := by decide +kernel
theorem dX1_becomeLike_62 : decode cX1_becomeLike 62 = .ok (.aload_n 1, 1) := by decide +kernel
theorem dX1_becomeLike_63 : decode cX1_becomeLike 63 = .ok (.getfield 25, 3) := by decide +kernel
theorem dX1_becomeLike_66 : decode cX1_becomeLike 66 = .ok (.iconst 0, 1) := by decide +kernel
theorem dX1_becomeLike_67 : decode cX1_becomeLike 67 = .ok (.aload_n 0, 1) := by decide +kernel
theorem dX1_becomeLike_68 : decode cX1_becomeLike 68 = .ok (.getfield 25, 3) := by decide +kernel
theorem dX1_becomeLike_71 : decode cX1_becomeLike 71 = .ok (.iconst 0, 1) := by decide +kernel
theorem dX1_becomeLike_72 : decode cX1_becomeLike 72 = .ok (.iconst 2, 1) := by decide +kernel
theorem dX1_becomeLike_73 : decode cX1_becomeLike 73 = .ok (.invokestatic 68, 3) := by decide +kernel
theorem dX1_becomeLike_76 : decode cX1_becomeLike 76 = .ok (.aload_n 1, 1) := by decide +kernel
theorem dX1_becomeLike_77 : decode cX1_becomeLike 77 = .ok (.getfield 28, 3) := by decide +kernel
theorem dX1_becomeLike_80 : decode cX1_becomeLike 80 = .ok (.iconst 0, 1) := by decide +kernel
theorem dX1_becomeLike_81 : decode cX1_becomeLike 81 = .ok (.aload_n 0, 1) := by decide +kernel
theorem dX1_becomeLike_82 : decode cX1_becomeLike 82 = .ok (.getfield 28, 3) := by decide +kernel
theorem dX1_becomeLike_85 : decode cX1_becomeLike 85 = .ok (.iconst 0, 1) := by decide +kernel
theorem dX1_becomeLike_86 : decode cX1_becomeLike 86 = .ok (.iconst 2, 1) := by decide +kernel
theorem dX1_becomeLike_87 : decode cX1_becomeLike 87 = .ok (.invokestatic 68, 3) := by decide +kernel
theorem dX1_becomeLike_90 : decode cX1_becomeLike 90 = .ok (.aload_n 1, 1) := by decide +kernel
theorem dX1_becomeLike_91 : decode cX1_becomeLike 91 = .ok (.getfield 31, 3) := by decide +kernel
theorem dX1_becomeLike_94 : decode cX1_becomeLike 94 = .ok (.iconst 0, 1) := by decide +kernel
theorem dX1_becomeLike_95 : decode cX1_becomeLike 95 = .ok (.aload_n 0, 1) := by decide +kernel
theorem dX1_becomeLike_96 : decode cX1_becomeLike 96 = .ok (.getfield 31, 3) := by decide +kernel
theorem dX1_becomeLike_99 : decode cX1_becomeLike 99 = .ok (.iconst 0, 1) := by decide +kernel
theorem dX1_becomeLike_100 : decode cX1_becomeLike 100 = .ok (.bipush 48, 2) := by decide +kernel
theorem dX1_becomeLike_102 : decode cX1_becomeLike 102 = .ok (.invokestatic 68, 3) := by decide +kernel
theorem dX1_becomeLike_105 : decode cX1_becomeLike 105 = .ok (.aload_n 0, 1) := by decide +kernel
theorem dX1_becomeLike_106 : decode cX1_becomeLike 106 = .ok (.getfield 37, 3) := by decide +kernel
theorem dX1_becomeLike_109 : decode cX1_becomeLike 109 = .ok (.aload_n 1, 1) := by decide +kernel
theorem dX1_becomeLike_110 : decode cX1_becomeLike 110 = .ok (.getfield 37, 3) := by decide +kernel
theorem dX1_becomeLike_113 : decode cX1_becomeLike 113 = .ok (.invokevirtual 74, 3) := by decide +kernel
theorem dX1_becomeLike_116 : decode cX1_becomeLike 116 = .ok (.aload_n 0, 1) := by decide +kernel
theorem dX1_becomeLike_117 : decode cX1_becomeLike 117 = .ok (.aload_n 1, 1) := by decide +kernel
theorem dX1_becomeLike_118 : decode cX1_becomeLike 118 = .ok (.getfield 41, 3) := by decide +kernel
theorem dX1_becomeLike_121 : decode cX1_becomeLike 121 = .ok (.putfield 41, 3) := by decide +kernel
theorem dX1_becomeLike_124 : decode cX1_becomeLike 124 = .ok (.return_, 1) := by decide +kernel
set_option maxRecDepth 20000 in
set_option maxHeartbeats 4000000 in
theorem w_X1_becomeLike_2 {x : tg_X} {Sf : tg_S} {rec2 : tg_S → Int32 → Option (tg_S)} (X : tg_M tauC x cX1_becomeLike 3 RX1 zr_X1_becomeLike none Sf none) (hr2 : ∀ (S : tg_S) (v2 : Int32), rec2 S v2 = some Sf → tg_G tauC x S 2 [(0, .ref (tg_ad x 23)), (1, .ref (tg_ad x 11)), (2, .int v2)] []) (S : tg_S) (v2 : Int32) (h : f_X1_becomeLike_2 rec2 S v2 = some Sf) : tg_G tauC x S 2 [(0, .ref (tg_ad x 23)), (1, .ref (tg_ad x 11)), (2, .int v2)] [] := by
  unfold f_X1_becomeLike_2 at h
  refine tg_iload_n X dX1_becomeLike_2 rfl 2 rfl ?_
  refine tg_bipush X dX1_becomeLike_3 tk_b16 ?_
  refine tg_icmp_ge (tgt := 62) X dX1_becomeLike_5 (by decide) (fun c1 => ?_) (fun c1 => ?_)
  · have h := tg_ifT c1 h
    refine tg_aload_n X dX1_becomeLike_62 rfl 1 rfl ?_
    refine tg_getr X 11 rfl cl_X1 4 (by decide) rfl wf_X1_25 dX1_becomeLike_63 ?_
    refine tg_iconst X dX1_becomeLike_66 tk_i0 ?_
    refine tg_aload_n X dX1_becomeLike_67 rfl 0 rfl ?_
    refine tg_getr X 23 rfl cl_X1 4 (by decide) rfl wf_X1_25 dX1_becomeLike_68 ?_
    refine tg_iconst X dX1_becomeLike_71 tk_i0 ?_
    refine tg_iconst X dX1_becomeLike_72 tk_i2 ?_
    obtain ⟨S2, eS2, bS2, h⟩ := tg_cpE h
    refine tg_acopy X 16 28 rfl rfl bS2 ⟨wm_X1_68, wn_AC, wt_AC, wi_Sys⟩ ⟨Nat.le_of_ble_eq_true rfl, Nat.le_of_ble_eq_true rfl⟩ dX1_becomeLike_73 eS2 ?_
    refine tg_aload_n X dX1_becomeLike_76 rfl 1 rfl ?_
    refine tg_getr X 11 rfl cl_X1 5 (by decide) rfl wf_X1_28 dX1_becomeLike_77 ?_
    refine tg_iconst X dX1_becomeLike_80 tk_i0 ?_
    refine tg_aload_n X dX1_becomeLike_81 rfl 0 rfl ?_
    refine tg_getr X 23 rfl cl_X1 5 (by decide) rfl wf_X1_28 dX1_becomeLike_82 ?_
    refine tg_iconst X dX1_becomeLike_85 tk_i0 ?_
    refine tg_iconst X dX1_becomeLike_86 tk_i2 ?_
    obtain ⟨S3, eS3, bS3, h⟩ := tg_cpE h
    refine tg_acopy X 17 29 rfl rfl bS3 ⟨wm_X1_68, wn_AC, wt_AC, wi_Sys⟩ ⟨Nat.le_of_ble_eq_true rfl, Nat.le_of_ble_eq_true rfl⟩ dX1_becomeLike_87 eS3 ?_
    refine tg_aload_n X dX1_becomeLike_90 rfl 1 rfl ?_
    refine tg_getr X 11 rfl cl_X1 6 (by decide) rfl wf_X1_31 dX1_becomeLike_91 ?_
    refine tg_iconst X dX1_becomeLike_94 tk_i0 ?_
    refine tg_aload_n X dX1_becomeLike_95 rfl 0 rfl ?_
    refine tg_getr X 23 rfl cl_X1 6 (by decide) rfl wf_X1_31 dX1_becomeLike_96 ?_
    refine tg_iconst X dX1_becomeLike_99 tk_i0 ?_
    refine tg_bipush X dX1_becomeLike_100 tk_b48 ?_
    obtain ⟨S4, eS4, bS4, h⟩ := tg_cpE h
    refine tg_acopy X 18 30 rfl rfl bS4 ⟨wm_X1_68, wn_AC, wt_AC, wi_Sys⟩ ⟨Nat.le_of_ble_eq_true rfl, Nat.le_of_ble_eq_true rfl⟩ dX1_becomeLike_102 eS4 ?_
    refine tg_aload_n X dX1_becomeLike_105 rfl 0 rfl ?_
    refine tg_getr X 23 rfl cl_X1 7 (by decide) rfl wf_X1_37 dX1_becomeLike_106 ?_
    refine tg_aload_n X dX1_becomeLike_109 rfl 1 rfl ?_
    refine tg_getr X 11 rfl cl_X1 7 (by decide) rfl wf_X1_37 dX1_becomeLike_110 ?_
    obtain ⟨S5, kS5, h⟩ := tg_bvE h
    refine tg_callV (As := [.ref (tg_ad x 19)]) (rest := []) X 31 (cm_X3_takeFrom _ _ _ _ _ kS5) yy_X3_takeFrom wv_X3_takeFrom ws_X3_takeFrom wm_X1_74 rfl cl_X3.1 ⟨rfl, rfl, Nat.le_of_ble_eq_true rfl, Nat.le_of_ble_eq_true rfl⟩ rfl rfl (Nat.le_of_ble_eq_true rfl) dX1_becomeLike_113 rfl ?_
    refine tg_aload_n X dX1_becomeLike_116 rfl 0 rfl ?_
    refine tg_aload_n X dX1_becomeLike_117 rfl 1 rfl ?_
    refine tg_geti X 11 rfl cl_X1 8 (by decide) rfl wf_X1_41 dX1_becomeLike_118 ?_
    obtain ⟨S6, eS6, h⟩ := tg_pfE h
    refine tg_puti X 23 rfl cl_X1 8 (by decide) rfl wf_X1_41 rfl rfl rfl dX1_becomeLike_121 eS6 ?_
    exact tg_vret X h dX1_becomeLike_124
  · have h := tg_ifF c1 h
    refine tg_aload_n X dX1_becomeLike_8 rfl 0 rfl ?_
    refine tg_getr X 23 rfl cl_X1 0 (by decide) rfl wf_X1_9 dX1_becomeLike_9 ?_
    refine tg_iload_n X dX1_becomeLike_12 rfl 2 rfl ?_
    refine tg_aload_n X dX1_becomeLike_13 rfl 1 rfl ?_
    refine tg_getr X 11 rfl cl_X1 0 (by decide) rfl wf_X1_9 dX1_becomeLike_14 ?_
    refine tg_iload_n X dX1_becomeLike_17 rfl 2 rfl ?_
    obtain ⟨y7, ey7, by7, h⟩ := tg_rdE h
    refine tg_zald X 12 rfl ey7 by7 dX1_becomeLike_18 ?_
    obtain ⟨S8, eS8, bS8, h⟩ := tg_wzE h
    refine tg_zast X 24 rfl bS8 dX1_becomeLike_19 eS8 ?_
    refine tg_aload_n X dX1_becomeLike_20 rfl 0 rfl ?_
    refine tg_getr X 23 rfl cl_X1 1 (by decide) rfl wf_X1_15 dX1_becomeLike_21 ?_
    refine tg_iload_n X dX1_becomeLike_24 rfl 2 rfl ?_
    refine tg_aload_n X dX1_becomeLike_25 rfl 1 rfl ?_
    refine tg_getr X 11 rfl cl_X1 1 (by decide) rfl wf_X1_15 dX1_becomeLike_26 ?_
    refine tg_iload_n X dX1_becomeLike_29 rfl 2 rfl ?_
    obtain ⟨y9, ey9, by9, h⟩ := tg_rdE h
    refine tg_iald X 13 rfl ey9 by9 dX1_becomeLike_30 ?_
    obtain ⟨S10, eS10, bS10, h⟩ := tg_wrE h
    refine tg_iast X 25 rfl bS10 dX1_becomeLike_31 eS10 ?_
    refine tg_aload_n X dX1_becomeLike_32 rfl 0 rfl ?_
    refine tg_getr X 23 rfl cl_X1 2 (by decide) rfl wf_X1_19 dX1_becomeLike_33 ?_
    refine tg_iload_n X dX1_becomeLike_36 rfl 2 rfl ?_
    refine tg_aload_n X dX1_becomeLike_37 rfl 1 rfl ?_
    refine tg_getr X 11 rfl cl_X1 2 (by decide) rfl wf_X1_19 dX1_becomeLike_38 ?_
    refine tg_iload_n X dX1_becomeLike_41 rfl 2 rfl ?_
    obtain ⟨y11, ey11, by11, h⟩ := tg_rdE h
    refine tg_iald X 14 rfl ey11 by11 dX1_becomeLike_42 ?_
    obtain ⟨S12, eS12, bS12, h⟩ := tg_wrE h
    refine tg_iast X 26 rfl bS12 dX1_becomeLike_43 eS12 ?_
    refine tg_aload_n X dX1_becomeLike_44 rfl 0 rfl ?_
    refine tg_getr X 23 rfl cl_X1 3 (by decide) rfl wf_X1_22 dX1_becomeLike_45 ?_
    refine tg_iload_n X dX1_becomeLike_48 rfl 2 rfl ?_
    refine tg_aload_n X dX1_becomeLike_49 rfl 1 rfl ?_
    refine tg_getr X 11 rfl cl_X1 3 (by decide) rfl wf_X1_22 dX1_becomeLike_50 ?_
    refine tg_iload_n X dX1_becomeLike_53 rfl 2 rfl ?_
    obtain ⟨y13, ey13, by13, h⟩ := tg_rdE h
    refine tg_iald X 15 rfl ey13 by13 dX1_becomeLike_54 ?_
    obtain ⟨S14, eS14, bS14, h⟩ := tg_wrE h
    refine tg_iast X 27 rfl bS14 dX1_becomeLike_55 eS14 ?_
    obtain ⟨y15, ey15⟩ : ∃ z : Int32, z = v2 + 1 := ⟨_, rfl⟩
    have h := tg_nmE ey15 h
    refine tg_iinc (lv2 := [(2, .int y15), (0, .ref (tg_ad x 23)), (1, .ref (tg_ad x 11))]) X dX1_becomeLike_56 2 rfl tk_i1 ey15 (by decide) rfl ?_
    refine tg_goto (tgt := 2) X dX1_becomeLike_59 (by decide) ?_
    refine tg_re [1, 2, 0] rfl ?_
    exact hr2 S14 y15 h
theorem wl_X1_becomeLike_2 {x : tg_X} {Sf : tg_S} (X : tg_M tauC x cX1_becomeLike 3 RX1 zr_X1_becomeLike none Sf none) : ∀ (n : Nat) (S : tg_S) (v2 : Int32) (h : L_X1_becomeLike_2  n S v2 = some Sf), tg_G tauC x S 2 [(0, .ref (tg_ad x 23)), (1, .ref (tg_ad x 11)), (2, .int v2)] [] := by
  intro n
  induction n with
  | zero => intro S v2 h; cases h
  | succ n ih => intro S v2 h; exact w_X1_becomeLike_2 X  ih S v2 h
set_option maxRecDepth 20000 in
set_option maxHeartbeats 4000000 in
theorem w_X1_becomeLike_0 {x : tg_X} {Sf : tg_S} (X : tg_M tauC x cX1_becomeLike 3 RX1 zr_X1_becomeLike none Sf none) (S : tg_S) (h : f_X1_becomeLike  S  = some Sf) : tg_G tauC x S 0 [(0, .ref (tg_ad x 23)), (1, .ref (tg_ad x 11))] [] := by
  unfold f_X1_becomeLike at h
  refine tg_iconst X dX1_becomeLike_0 tk_i0 ?_
  refine tg_istore_n (lv2 := [(2, .int 0), (0, .ref (tg_ad x 23)), (1, .ref (tg_ad x 11))]) X dX1_becomeLike_1 rfl (by decide) rfl ?_
  refine tg_re [1, 2, 0] rfl ?_
  exact wl_X1_becomeLike_2 X  tg_F S 0 h
theorem cm_X1_becomeLike (l : Launch) (D : va_G) (cy : Bool → ClassId) (ad : Nat → Nat) (tS : Nat) {S Sf : tg_S} (h : f_X1_becomeLike  S  = some Sf) : tg_Met l yX1_becomeLike cX1_becomeLike 3 none zr_X1_becomeLike tauC D cy ad tS S [.ref (ad 23), .ref (ad 11)] Sf none := tg_mk (by decide +kernel) trivial (Nat.le_of_ble_eq_true rfl) (fun p e s m args below meth c Q A X => w_X1_becomeLike_0 X S  h)
-- X7_better
def zr_X7_better : Room := { frames := 4, cells := 0, slots := 0, locals := 96 }
theorem dX7_better_0 : decode cX7_better 0 = .ok (.iload_n 1, 1) := by decide +kernel
theorem dX7_better_1 : decode cX7_better 1 = .ok (.iconst 2, 1) := by decide +kernel
theorem dX7_better_2 : decode cX7_better 2 = .ok (.invokestatic 75, 3) := by decide +kernel
theorem dX7_better_5 : decode cX7_better 5 = .ok (.ifCond .eq 20, 3) := by decide +kernel
theorem dX7_better_8 : decode cX7_better 8 = .ok (.iload_n 2, 1) := by decide +kernel
theorem dX7_better_9 : decode cX7_better 9 = .ok (.bipush 24, 2) := by decide +kernel
theorem dX7_better_11 : decode cX7_better 11 = .ok (.invokestatic 75, 3) := by decide +kernel
theorem dX7_better_14 : decode cX7_better 14 = .ok (.ifCond .eq 11, 3) := by decide +kernel
theorem dX7_better_17 : decode cX7_better 17 = .ok (.iload_n 3, 1) := by decide +kernel
theorem dX7_better_18 : decode cX7_better 18 = .ok (.iconst 2, 1) := by decide +kernel
theorem dX7_better_19 : decode cX7_better 19 = .ok (.invokestatic 75, 3) := by decide +kernel
theorem dX7_better_22 : decode cX7_better 22 = .ok (.ifCond .ne 6, 3) := by decide +kernel
theorem dX7_better_25 : decode cX7_better 25 = .ok (.bipush (-2), 2) := by decide +kernel
theorem dX7_better_27 : decode cX7_better 27 = .ok (.ireturn, 1) := by decide +kernel
theorem dX7_better_28 : decode cX7_better 28 = .ok (.aload_n 0, 1) := by decide +kernel
theorem dX7_better_29 : decode cX7_better 29 = .ok (.getfield 48, 3) := by decide +kernel
theorem dX7_better_32 : decode cX7_better 32 = .ok (.aload_n 0, 1) := by decide +kernel
theorem dX7_better_33 : decode cX7_better 33 = .ok (.getfield 37, 3) := by decide +kernel
theorem dX7_better_36 : decode cX7_better 36 = .ok (.invokevirtual 190, 3) := by decide +kernel
theorem dX7_better_39 : decode cX7_better 39 = .ok (.aload_n 0, 1) := by decide +kernel
theorem dX7_better_40 : decode cX7_better 40 = .ok (.getfield 57, 3) := by decide +kernel
theorem dX7_better_43 : decode cX7_better 43 = .ok (.iload_n 1, 1) := by decide +kernel
theorem dX7_better_44 : decode cX7_better 44 = .ok (.invokevirtual 194, 3) := by decide +kernel
theorem dX7_better_47 : decode cX7_better 47 = .ok (.iconst 0, 1) := by decide +kernel
theorem dX7_better_48 : decode cX7_better 48 = .ok (.istore 4, 2) := by decide +kernel
theorem dX7_better_50 : decode cX7_better 50 = .ok (.iload 4, 2) := by decide +kernel
theorem dX7_better_52 : decode cX7_better 52 = .ok (.iconst 3, 1) := by decide +kernel
theorem dX7_better_53 : decode cX7_better 53 = .ok (.if_icmp .ge 46, 3) := by decide +kernel
theorem dX7_better_56 : decode cX7_better 56 = .ok (.aload_n 0, 1) := by decide +kernel
theorem dX7_better_57 : decode cX7_better 57 = .ok (.getfield 48, 3) := by decide +kernel
theorem dX7_better_60 : decode cX7_better 60 = .ok (.getfield 112, 3) := by decide +kernel
theorem dX7_better_63 : decode cX7_better 63 = .ok (.iload_n 1, 1) := by decide +kernel
theorem dX7_better_64 : decode cX7_better 64 = .ok (.bipush 24, 2) := by decide +kernel
theorem dX7_better_66 : decode cX7_better 66 = .ok (.imul, 1) := by decide +kernel
theorem dX7_better_67 : decode cX7_better 67 = .ok (.iload_n 2, 1) := by decide +kernel
theorem dX7_better_68 : decode cX7_better 68 = .ok (.iadd, 1) := by decide +kernel
theorem dX7_better_69 : decode cX7_better 69 = .ok (.iload 4, 2) := by decide +kernel
theorem dX7_better_71 : decode cX7_better 71 = .ok (.iastore, 1) := by decide +kernel
theorem dX7_better_72 : decode cX7_better 72 = .ok (.aload_n 0, 1) := by decide +kernel
theorem dX7_better_73 : decode cX7_better 73 = .ok (.getfield 57, 3) := by decide +kernel
theorem dX7_better_76 : decode cX7_better 76 = .ok (.iload 4, 2) := by decide +kernel
theorem dX7_better_78 : decode cX7_better 78 = .ok (.iconst (-1), 1) := by decide +kernel
theorem dX7_better_79 : decode cX7_better 79 = .ok (.aload_n 0, 1) := by decide +kernel
theorem dX7_better_80 : decode cX7_better 80 = .ok (.getfield 51, 3) := by decide +kernel
theorem dX7_better_83 : decode cX7_better 83 = .ok (.aload_n 0, 1) := by decide +kernel
theorem dX7_better_84 : decode cX7_better 84 = .ok (.getfield 48, 3) := by decide +kernel
theorem dX7_better_87 : decode cX7_better 87 = .ok (.invokevirtual 198, 3) := by decide +kernel
theorem dX7_better_90 : decode cX7_better 90 = .ok (.invokevirtual 202, 3) := by decide +kernel
theorem dX7_better_93 : decode cX7_better 93 = .ok (.iinc 4 1, 3) := by decide +kernel
theorem dX7_better_96 : decode cX7_better 96 = .ok (.goto (-46), 3) := by decide +kernel
theorem dX7_better_99 : decode cX7_better 99 = .ok (.iload_n 3, 1) := by decide +kernel
theorem dX7_better_100 : decode cX7_better 100 = .ok (.ifCond .ne 13, 3) := by decide +kernel
theorem dX7_better_103 : decode cX7_better 103 = .ok (.aload_n 0, 1) := by decide +kernel
theorem dX7_better_104 : decode cX7_better 104 = .ok (.getfield 57, 3) := by decide +kernel
theorem dX7_better_107 : decode cX7_better 107 = .ok (.getfield 206, 3) := by decide +kernel
theorem dX7_better_110 : decode cX7_better 110 = .ok (.goto 10, 3) := by decide +kernel
theorem dX7_better_113 : decode cX7_better 113 = .ok (.aload_n 0, 1) := by decide +kernel
theorem dX7_better_114 : decode cX7_better 114 = .ok (.getfield 57, 3) := by decide +kernel
theorem dX7_better_117 : decode cX7_better 117 = .ok (.getfield 209, 3) := by decide +kernel
theorem dX7_better_120 : decode cX7_better 120 = .ok (.ireturn, 1) := by decide +kernel
set_option maxRecDepth 20000 in
set_option maxHeartbeats 4000000 in
theorem w_X7_better_50 {x : tg_X} {Sf : tg_S} {r : Int32} {rec50 : tg_S → Int32 → Int32 → Int32 → Int32 → Option (tg_S × Int32)} (X : tg_M tauC x cX7_better 5 RX7 zr_X7_better (some .int) Sf (some (.int r))) (hr50 : ∀ (S : tg_S) (v1 : Int32) (v2 : Int32) (v3 : Int32) (v4 : Int32), rec50 S v1 v2 v3 v4 = some (Sf, r) → tg_G tauC x S 50 [(0, .ref (tg_ad x 0)), (1, .int v1), (2, .int v2), (3, .int v3), (4, .int v4)] []) (S : tg_S) (v1 : Int32) (v2 : Int32) (v3 : Int32) (v4 : Int32) (h : f_X7_better_50 rec50 S v1 v2 v3 v4 = some (Sf, r)) : tg_G tauC x S 50 [(0, .ref (tg_ad x 0)), (1, .int v1), (2, .int v2), (3, .int v3), (4, .int v4)] [] := by
  unfold f_X7_better_50 at h
  refine tg_iload X dX7_better_50 4 rfl ?_
  refine tg_iconst X dX7_better_52 tk_i3 ?_
  refine tg_icmp_ge (tgt := 99) X dX7_better_53 (by decide) (fun c1 => ?_) (fun c1 => ?_)
  · have h := tg_ifT c1 h
    refine tg_iload_n X dX7_better_99 rfl 3 rfl ?_
    refine tg_if_ne (tgt := 113) X dX7_better_100 (by decide) (fun c2 => ?_) (fun c2 => ?_)
    · have h := tg_ifF c2 h
      refine tg_aload_n X dX7_better_113 rfl 0 rfl ?_
      refine tg_getr X 0 rfl cl_X7 8 (by decide) rfl wf_X7_57 dX7_better_114 ?_
      refine tg_geti X 49 rfl cl_X0 2 (by decide) rfl wf_X7_209 dX7_better_117 ?_
      exact tg_iret X h rfl dX7_better_120
    · have h := tg_ifT c2 h
      refine tg_aload_n X dX7_better_103 rfl 0 rfl ?_
      refine tg_getr X 0 rfl cl_X7 8 (by decide) rfl wf_X7_57 dX7_better_104 ?_
      refine tg_geti X 49 rfl cl_X0 0 (by decide) rfl wf_X7_206 dX7_better_107 ?_
      refine tg_goto (tgt := 120) X dX7_better_110 (by decide) ?_
      exact tg_iret X h rfl dX7_better_120
  · have h := tg_ifF c1 h
    refine tg_aload_n X dX7_better_56 rfl 0 rfl ?_
    refine tg_getr X 0 rfl cl_X7 6 (by decide) rfl wf_X7_48 dX7_better_57 ?_
    refine tg_getr X 23 rfl cl_X1 6 (by decide) rfl wf_X7_112 dX7_better_60 ?_
    refine tg_iload_n X dX7_better_63 rfl 1 rfl ?_
    refine tg_bipush X dX7_better_64 tk_b24 ?_
    refine tg_imul X dX7_better_66 ?_
    refine tg_iload_n X dX7_better_67 rfl 2 rfl ?_
    refine tg_iadd X dX7_better_68 ?_
    refine tg_iload X dX7_better_69 4 rfl ?_
    obtain ⟨S3, eS3, bS3, h⟩ := tg_wrE h
    refine tg_iast X 30 rfl bS3 dX7_better_71 eS3 ?_
    refine tg_aload_n X dX7_better_72 rfl 0 rfl ?_
    refine tg_getr X 0 rfl cl_X7 8 (by decide) rfl wf_X7_57 dX7_better_73 ?_
    refine tg_iload X dX7_better_76 4 rfl ?_
    refine tg_iconst X dX7_better_78 tk_im1 ?_
    refine tg_aload_n X dX7_better_79 rfl 0 rfl ?_
    refine tg_getr X 0 rfl cl_X7 7 (by decide) rfl wf_X7_51 dX7_better_80 ?_
    refine tg_aload_n X dX7_better_83 rfl 0 rfl ?_
    refine tg_getr X 0 rfl cl_X7 6 (by decide) rfl wf_X7_48 dX7_better_84 ?_
    obtain ⟨S4, r5, kS4, h⟩ := tg_bdE h
    refine tg_callV (As := [.ref (tg_ad x 23)]) (rest := [.int (-1), .int v4, .ref (tg_ad x 49)]) X 42 (cm_X2_play_b _ _ _ _ _ kS4) yy_X2_play wv_X2_play ws_X2_play wm_X7_198 rfl cl_X2.1 ⟨rfl, rfl, Nat.le_of_ble_eq_true rfl, Nat.le_of_ble_eq_true rfl⟩ rfl rfl (Nat.le_of_ble_eq_true rfl) dX7_better_87 rfl ?_
    obtain ⟨S6, kS6, h⟩ := tg_bvE h
    refine tg_callV (As := [.int v4, .int (-1), .int r5]) (rest := []) X 49 (cm_X0_offer _ _ _ _ _ kS6) yy_X0_offer wv_X0_offer ws_X0_offer wm_X7_202 rfl cl_X0.1 ⟨rfl, rfl, Nat.le_of_ble_eq_true rfl, Nat.le_of_ble_eq_true rfl⟩ rfl rfl (Nat.le_of_ble_eq_true rfl) dX7_better_90 rfl ?_
    obtain ⟨y7, ey7⟩ : ∃ z : Int32, z = v4 + 1 := ⟨_, rfl⟩
    have h := tg_nmE ey7 h
    refine tg_iinc (lv2 := [(4, .int y7), (0, .ref (tg_ad x 0)), (1, .int v1), (2, .int v2), (3, .int v3)]) X dX7_better_93 4 rfl tk_i1 ey7 (by decide) rfl ?_
    refine tg_goto (tgt := 50) X dX7_better_96 (by decide) ?_
    refine tg_re [1, 2, 3, 4, 0] rfl ?_
    exact hr50 S6 v1 v2 v3 y7 h
theorem wl_X7_better_50 {x : tg_X} {Sf : tg_S} {r : Int32} (X : tg_M tauC x cX7_better 5 RX7 zr_X7_better (some .int) Sf (some (.int r))) : ∀ (n : Nat) (S : tg_S) (v1 : Int32) (v2 : Int32) (v3 : Int32) (v4 : Int32) (h : L_X7_better_50  n S v1 v2 v3 v4 = some (Sf, r)), tg_G tauC x S 50 [(0, .ref (tg_ad x 0)), (1, .int v1), (2, .int v2), (3, .int v3), (4, .int v4)] [] := by
  intro n
  induction n with
  | zero => intro S v1 v2 v3 v4 h; cases h
  | succ n ih => intro S v1 v2 v3 v4 h; exact w_X7_better_50 X  ih S v1 v2 v3 v4 h
set_option maxRecDepth 20000 in
set_option maxHeartbeats 4000000 in
theorem w_X7_better_0 {x : tg_X} {Sf : tg_S} {r : Int32} (X : tg_M tauC x cX7_better 5 RX7 zr_X7_better (some .int) Sf (some (.int r))) (S : tg_S) (v1 : Int32) (v2 : Int32) (v3 : Int32) (h : f_X7_better  S v1 v2 v3 = some (Sf, r)) : tg_G tauC x S 0 [(0, .ref (tg_ad x 0)), (1, .int v1), (2, .int v2), (3, .int v3)] [] := by
  unfold f_X7_better at h
  refine tg_iload_n X dX7_better_0 rfl 1 rfl ?_
  refine tg_iconst X dX7_better_1 tk_i2 ?_
  obtain ⟨S1, r2, kS1, h⟩ := tg_bdE h
  refine tg_callS (As := [.int v1, .int 2]) (rest := []) X (cm_X7_isBelow _ _ _ _ _ kS1) yy_X7_isBelow wt_X7_isBelow wm_X7_75 ⟨rfl, rfl, Nat.le_of_ble_eq_true rfl, Nat.le_of_ble_eq_true rfl⟩ rfl rfl (Nat.le_of_ble_eq_true rfl) dX7_better_2 rfl ?_
  refine tg_if_eq (tgt := 25) X dX7_better_5 (by decide) (fun c3 => ?_) (fun c3 => ?_)
  · have h := tg_ifT c3 h
    refine tg_bipush X dX7_better_25 tk_bm2 ?_
    exact tg_iret X h rfl dX7_better_27
  · have h := tg_ifF c3 h
    refine tg_iload_n X dX7_better_8 rfl 2 rfl ?_
    refine tg_bipush X dX7_better_9 tk_b24 ?_
    obtain ⟨S4, r5, kS4, h⟩ := tg_bdE h
    refine tg_callS (As := [.int v2, .int 24]) (rest := []) X (cm_X7_isBelow _ _ _ _ _ kS4) yy_X7_isBelow wt_X7_isBelow wm_X7_75 ⟨rfl, rfl, Nat.le_of_ble_eq_true rfl, Nat.le_of_ble_eq_true rfl⟩ rfl rfl (Nat.le_of_ble_eq_true rfl) dX7_better_11 rfl ?_
    refine tg_if_eq (tgt := 25) X dX7_better_14 (by decide) (fun c6 => ?_) (fun c6 => ?_)
    · have h := tg_ifT c6 h
      refine tg_bipush X dX7_better_25 tk_bm2 ?_
      exact tg_iret X h rfl dX7_better_27
    · have h := tg_ifF c6 h
      refine tg_iload_n X dX7_better_17 rfl 3 rfl ?_
      refine tg_iconst X dX7_better_18 tk_i2 ?_
      obtain ⟨S7, r8, kS7, h⟩ := tg_bdE h
      refine tg_callS (As := [.int v3, .int 2]) (rest := []) X (cm_X7_isBelow _ _ _ _ _ kS7) yy_X7_isBelow wt_X7_isBelow wm_X7_75 ⟨rfl, rfl, Nat.le_of_ble_eq_true rfl, Nat.le_of_ble_eq_true rfl⟩ rfl rfl (Nat.le_of_ble_eq_true rfl) dX7_better_19 rfl ?_
      refine tg_if_ne (tgt := 28) X dX7_better_22 (by decide) (fun c9 => ?_) (fun c9 => ?_)
      · have h := tg_ifF c9 h
        refine tg_aload_n X dX7_better_28 rfl 0 rfl ?_
        refine tg_getr X 0 rfl cl_X7 6 (by decide) rfl wf_X7_48 dX7_better_29 ?_
        refine tg_aload_n X dX7_better_32 rfl 0 rfl ?_
        refine tg_getr X 0 rfl cl_X7 4 (by decide) rfl wf_X7_37 dX7_better_33 ?_
        obtain ⟨S10, kS10, h⟩ := tg_bvE h
        refine tg_callV (As := [.ref (tg_ad x 11)]) (rest := []) X 23 (cm_X1_becomeLike _ _ _ _ _ kS10) yy_X1_becomeLike wv_X1_becomeLike ws_X1_becomeLike wm_X7_190 rfl cl_X1.1 ⟨rfl, rfl, Nat.le_of_ble_eq_true rfl, Nat.le_of_ble_eq_true rfl⟩ rfl rfl (Nat.le_of_ble_eq_true rfl) dX7_better_36 rfl ?_
        refine tg_aload_n X dX7_better_39 rfl 0 rfl ?_
        refine tg_getr X 0 rfl cl_X7 8 (by decide) rfl wf_X7_57 dX7_better_40 ?_
        refine tg_iload_n X dX7_better_43 rfl 1 rfl ?_
        obtain ⟨S11, kS11, h⟩ := tg_bvE h
        refine tg_callV (As := [.int v1]) (rest := []) X 49 (cm_X0_startFor _ _ _ _ _ kS11) yy_X0_startFor wv_X0_startFor ws_X0_startFor wm_X7_194 rfl cl_X0.1 ⟨rfl, rfl, Nat.le_of_ble_eq_true rfl, Nat.le_of_ble_eq_true rfl⟩ rfl rfl (Nat.le_of_ble_eq_true rfl) dX7_better_44 rfl ?_
        refine tg_iconst X dX7_better_47 tk_i0 ?_
        refine tg_istore (lv2 := [(4, .int 0), (0, .ref (tg_ad x 0)), (1, .int v1), (2, .int v2), (3, .int v3)]) X dX7_better_48 (by decide) rfl ?_
        refine tg_re [1, 2, 3, 4, 0] rfl ?_
        exact wl_X7_better_50 X  tg_F S11 v1 v2 v3 0 h
      · have h := tg_ifT c9 h
        refine tg_bipush X dX7_better_25 tk_bm2 ?_
        exact tg_iret X h rfl dX7_better_27
theorem cm_X7_better (l : Launch) (D : va_G) (cy : Bool → ClassId) (ad : Nat → Nat) (tS : Nat) {S Sf : tg_S} {v1 : Int32} {v2 : Int32} {v3 : Int32} {r : Int32} (h : f_X7_better  S v1 v2 v3 = some (Sf, r)) : tg_Met l yX7_better cX7_better 5 (some .int) zr_X7_better tauC D cy ad tS S [.ref (ad 0), .int v1, .int v2, .int v3] Sf (some (.int r)) := tg_mk (by decide +kernel) trivial (Nat.le_of_ble_eq_true rfl) (fun p e s m args below meth c Q A X => w_X7_better_0 X S v1 v2 v3 h)
