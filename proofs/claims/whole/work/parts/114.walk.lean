-- X8_pullerDigest
def zr_X8_pullerDigest : Room := { frames := 9, cells := 0, slots := 0, locals := 209 }
theorem dX8_pullerDigest_0 : decode cX8_pullerDigest 0 = .ok (.lload_n 1, 1) := by decide +kernel
theorem dX8_pullerDigest_1 : decode cX8_pullerDigest 1 = .ok (.lstore 4, 2) := by decide +kernel
theorem dX8_pullerDigest_3 : decode cX8_pullerDigest 3 = .ok (.iconst 0, 1) := by decide +kernel
theorem dX8_pullerDigest_4 : decode cX8_pullerDigest 4 = .ok (.istore 6, 2) := by decide +kernel
theorem dX8_pullerDigest_6 : decode cX8_pullerDigest 6 = .ok (.iload 6, 2) := by decide +kernel
theorem dX8_pullerDigest_8 : decode cX8_pullerDigest 8 = .ok (.iconst 3, 1) := by decide +kernel
theorem dX8_pullerDigest_9 : decode cX8_pullerDigest 9 = .ok (.if_icmp .ge 26, 3) := by decide +kernel
theorem dX8_pullerDigest_12 : decode cX8_pullerDigest 12 = .ok (.ldc2_w 342, 3) := by decide +kernel
theorem dX8_pullerDigest_15 : decode cX8_pullerDigest 15 = .ok (.lload 4, 2) := by decide +kernel
theorem dX8_pullerDigest_17 : decode cX8_pullerDigest 17 = .ok (.lmul, 1) := by decide +kernel
theorem dX8_pullerDigest_18 : decode cX8_pullerDigest 18 = .ok (.aload_n 0, 1) := by decide +kernel
theorem dX8_pullerDigest_19 : decode cX8_pullerDigest 19 = .ok (.iload_n 3, 1) := by decide +kernel
theorem dX8_pullerDigest_20 : decode cX8_pullerDigest 20 = .ok (.iload 6, 2) := by decide +kernel
theorem dX8_pullerDigest_22 : decode cX8_pullerDigest 22 = .ok (.invokevirtual 150, 3) := by decide +kernel
theorem dX8_pullerDigest_25 : decode cX8_pullerDigest 25 = .ok (.i2l, 1) := by decide +kernel
theorem dX8_pullerDigest_26 : decode cX8_pullerDigest 26 = .ok (.ladd, 1) := by decide +kernel
theorem dX8_pullerDigest_27 : decode cX8_pullerDigest 27 = .ok (.lstore 4, 2) := by decide +kernel
theorem dX8_pullerDigest_29 : decode cX8_pullerDigest 29 = .ok (.iinc 6 1, 3) := by decide +kernel
theorem dX8_pullerDigest_32 : decode cX8_pullerDigest 32 = .ok (.goto (-26), 3) := by decide +kernel
theorem dX8_pullerDigest_35 : decode cX8_pullerDigest 35 = .ok (.aload_n 0, 1) := by decide +kernel
theorem dX8_pullerDigest_36 : decode cX8_pullerDigest 36 = .ok (.lload 4, 2) := by decide +kernel
theorem dX8_pullerDigest_38 : decode cX8_pullerDigest 38 = .ok (.iconst 0, 1) := by decide +kernel
theorem dX8_pullerDigest_39 : decode cX8_pullerDigest 39 = .ok (.iload_n 3, 1) := by decide +kernel
theorem dX8_pullerDigest_40 : decode cX8_pullerDigest 40 = .ok (.invokevirtual 344, 3) := by decide +kernel
theorem dX8_pullerDigest_43 : decode cX8_pullerDigest 43 = .ok (.lstore 4, 2) := by decide +kernel
theorem dX8_pullerDigest_45 : decode cX8_pullerDigest 45 = .ok (.aload_n 0, 1) := by decide +kernel
theorem dX8_pullerDigest_46 : decode cX8_pullerDigest 46 = .ok (.lload 4, 2) := by decide +kernel
theorem dX8_pullerDigest_48 : decode cX8_pullerDigest 48 = .ok (.iconst 5, 1) := by decide +kernel
theorem dX8_pullerDigest_49 : decode cX8_pullerDigest 49 = .ok (.iload_n 3, 1) := by decide +kernel
theorem dX8_pullerDigest_50 : decode cX8_pullerDigest 50 = .ok (.invokevirtual 344, 3) := by decide +kernel
theorem dX8_pullerDigest_53 : decode cX8_pullerDigest 53 = .ok (.lstore 4, 2) := by decide +kernel
theorem dX8_pullerDigest_55 : decode cX8_pullerDigest 55 = .ok (.aload_n 0, 1) := by decide +kernel
theorem dX8_pullerDigest_56 : decode cX8_pullerDigest 56 = .ok (.lload 4, 2) := by decide +kernel
theorem dX8_pullerDigest_58 : decode cX8_pullerDigest 58 = .ok (.bipush 12, 2) := by decide +kernel
theorem dX8_pullerDigest_60 : decode cX8_pullerDigest 60 = .ok (.iload_n 3, 1) := by decide +kernel
theorem dX8_pullerDigest_61 : decode cX8_pullerDigest 61 = .ok (.invokevirtual 344, 3) := by decide +kernel
theorem dX8_pullerDigest_64 : decode cX8_pullerDigest 64 = .ok (.lstore 4, 2) := by decide +kernel
theorem dX8_pullerDigest_66 : decode cX8_pullerDigest 66 = .ok (.aload_n 0, 1) := by decide +kernel
theorem dX8_pullerDigest_67 : decode cX8_pullerDigest 67 = .ok (.lload 4, 2) := by decide +kernel
theorem dX8_pullerDigest_69 : decode cX8_pullerDigest 69 = .ok (.bipush 23, 2) := by decide +kernel
theorem dX8_pullerDigest_71 : decode cX8_pullerDigest 71 = .ok (.iload_n 3, 1) := by decide +kernel
theorem dX8_pullerDigest_72 : decode cX8_pullerDigest 72 = .ok (.invokevirtual 344, 3) := by decide +kernel
theorem dX8_pullerDigest_75 : decode cX8_pullerDigest 75 = .ok (.lstore 4, 2) := by decide +kernel
theorem dX8_pullerDigest_77 : decode cX8_pullerDigest 77 = .ok (.ldc2_w 342, 3) := by decide +kernel
theorem dX8_pullerDigest_80 : decode cX8_pullerDigest 80 = .ok (.lload 4, 2) := by decide +kernel
theorem dX8_pullerDigest_82 : decode cX8_pullerDigest 82 = .ok (.lmul, 1) := by decide +kernel
theorem dX8_pullerDigest_83 : decode cX8_pullerDigest 83 = .ok (.aload_n 0, 1) := by decide +kernel
theorem dX8_pullerDigest_84 : decode cX8_pullerDigest 84 = .ok (.iload_n 3, 1) := by decide +kernel
theorem dX8_pullerDigest_85 : decode cX8_pullerDigest 85 = .ok (.invokevirtual 250, 3) := by decide +kernel
theorem dX8_pullerDigest_88 : decode cX8_pullerDigest 88 = .ok (.i2l, 1) := by decide +kernel
theorem dX8_pullerDigest_89 : decode cX8_pullerDigest 89 = .ok (.ladd, 1) := by decide +kernel
theorem dX8_pullerDigest_90 : decode cX8_pullerDigest 90 = .ok (.lstore 4, 2) := by decide +kernel
theorem dX8_pullerDigest_92 : decode cX8_pullerDigest 92 = .ok (.ldc2_w 342, 3) := by decide +kernel
theorem dX8_pullerDigest_95 : decode cX8_pullerDigest 95 = .ok (.lload 4, 2) := by decide +kernel
theorem dX8_pullerDigest_97 : decode cX8_pullerDigest 97 = .ok (.lmul, 1) := by decide +kernel
theorem dX8_pullerDigest_98 : decode cX8_pullerDigest 98 = .ok (.aload_n 0, 1) := by decide +kernel
theorem dX8_pullerDigest_99 : decode cX8_pullerDigest 99 = .ok (.iload_n 3, 1) := by decide +kernel
theorem dX8_pullerDigest_100 : decode cX8_pullerDigest 100 = .ok (.invokevirtual 303, 3) := by decide +kernel
theorem dX8_pullerDigest_103 : decode cX8_pullerDigest 103 = .ok (.i2l, 1) := by decide +kernel
theorem dX8_pullerDigest_104 : decode cX8_pullerDigest 104 = .ok (.ladd, 1) := by decide +kernel
theorem dX8_pullerDigest_105 : decode cX8_pullerDigest 105 = .ok (.lstore 4, 2) := by decide +kernel
theorem dX8_pullerDigest_107 : decode cX8_pullerDigest 107 = .ok (.ldc2_w 342, 3) := by decide +kernel
theorem dX8_pullerDigest_110 : decode cX8_pullerDigest 110 = .ok (.lload 4, 2) := by decide +kernel
theorem dX8_pullerDigest_112 : decode cX8_pullerDigest 112 = .ok (.lmul, 1) := by decide +kernel
theorem dX8_pullerDigest_113 : decode cX8_pullerDigest 113 = .ok (.aload_n 0, 1) := by decide +kernel
theorem dX8_pullerDigest_114 : decode cX8_pullerDigest 114 = .ok (.iload_n 3, 1) := by decide +kernel
theorem dX8_pullerDigest_115 : decode cX8_pullerDigest 115 = .ok (.invokevirtual 306, 3) := by decide +kernel
theorem dX8_pullerDigest_118 : decode cX8_pullerDigest 118 = .ok (.i2l, 1) := by decide +kernel
theorem dX8_pullerDigest_119 : decode cX8_pullerDigest 119 = .ok (.ladd, 1) := by decide +kernel
theorem dX8_pullerDigest_120 : decode cX8_pullerDigest 120 = .ok (.lstore 4, 2) := by decide +kernel
theorem dX8_pullerDigest_122 : decode cX8_pullerDigest 122 = .ok (.ldc2_w 342, 3) := by decide +kernel
theorem dX8_pullerDigest_125 : decode cX8_pullerDigest 125 = .ok (.lload 4, 2) := by decide +kernel
theorem dX8_pullerDigest_127 : decode cX8_pullerDigest 127 = .ok (.lmul, 1) := by decide +kernel
theorem dX8_pullerDigest_128 : decode cX8_pullerDigest 128 = .ok (.aload_n 0, 1) := by decide +kernel
theorem dX8_pullerDigest_129 : decode cX8_pullerDigest 129 = .ok (.iload_n 3, 1) := by decide +kernel
theorem dX8_pullerDigest_130 : decode cX8_pullerDigest 130 = .ok (.invokevirtual 309, 3) := by decide +kernel
theorem dX8_pullerDigest_133 : decode cX8_pullerDigest 133 = .ok (.i2l, 1) := by decide +kernel
theorem dX8_pullerDigest_134 : decode cX8_pullerDigest 134 = .ok (.ladd, 1) := by decide +kernel
theorem dX8_pullerDigest_135 : decode cX8_pullerDigest 135 = .ok (.lreturn, 1) := by decide +kernel
set_option maxRecDepth 20000 in
set_option maxHeartbeats 4000000 in
theorem w_X8_pullerDigest_6 {x : tg_X} {Sf : tg_S} {r : Int64} {rec6 : tg_S → Int32 → Int64 → Int32 → Option (tg_S × Int64)} (X : tg_M tauR x cX8_pullerDigest 7 RX8 zr_X8_pullerDigest (some .long) Sf (some (.long r))) (hr6 : ∀ (S : tg_S) (v3 : Int32) (v4 : Int64) (v6 : Int32), rec6 S v3 v4 v6 = some (Sf, r) → tg_G tauR x S 6 [(0, .ref (tg_ad x 0)), (3, .int v3), (4, .long v4), (6, .int v6)] []) (S : tg_S) (v3 : Int32) (v4 : Int64) (v6 : Int32) (h : f_X8_pullerDigest_6 rec6 S v3 v4 v6 = some (Sf, r)) : tg_G tauR x S 6 [(0, .ref (tg_ad x 0)), (3, .int v3), (4, .long v4), (6, .int v6)] [] := by
  unfold f_X8_pullerDigest_6 at h
  refine tg_iload X dX8_pullerDigest_6 3 rfl ?_
  refine tg_iconst X dX8_pullerDigest_8 tk_i3 ?_
  refine tg_icmp_ge (tgt := 35) X dX8_pullerDigest_9 (by decide) (fun c1 => ?_) (fun c1 => ?_)
  · have h := tg_ifT c1 h
    refine tg_aload_n X dX8_pullerDigest_35 rfl 0 rfl ?_
    refine tg_lload X dX8_pullerDigest_36 2 rfl ?_
    refine tg_iconst X dX8_pullerDigest_38 tk_i0 ?_
    refine tg_iload_n X dX8_pullerDigest_39 rfl 1 rfl ?_
    obtain ⟨S2, r3, kS2, h⟩ := tg_bdE h
    refine tg_callV (As := [.long v4, .int 0, .int v3]) (rest := []) X 0 (cm_X8_beatDigest _ _ _ _ _ kS2) yy_X8_beatDigest wv_X8_beatDigest ws_X8_beatDigest wm_X8_344 rfl cl_X8.1 ⟨rfl, rfl, Nat.le_of_ble_eq_true rfl, Nat.le_of_ble_eq_true rfl⟩ rfl rfl (Nat.le_of_ble_eq_true rfl) dX8_pullerDigest_40 rfl ?_
    refine tg_lstore (lv2 := [(4, .long r3), (0, .ref (tg_ad x 0)), (3, .int v3), (6, .int v6)]) X dX8_pullerDigest_43 (by decide) rfl ?_
    refine tg_aload_n X dX8_pullerDigest_45 rfl 1 rfl ?_
    refine tg_lload X dX8_pullerDigest_46 0 rfl ?_
    refine tg_iconst X dX8_pullerDigest_48 tk_i5 ?_
    refine tg_iload_n X dX8_pullerDigest_49 rfl 2 rfl ?_
    obtain ⟨S4, r5, kS4, h⟩ := tg_bdE h
    refine tg_callV (As := [.long r3, .int 5, .int v3]) (rest := []) X 0 (cm_X8_beatDigest _ _ _ _ _ kS4) yy_X8_beatDigest wv_X8_beatDigest ws_X8_beatDigest wm_X8_344 rfl cl_X8.1 ⟨rfl, rfl, Nat.le_of_ble_eq_true rfl, Nat.le_of_ble_eq_true rfl⟩ rfl rfl (Nat.le_of_ble_eq_true rfl) dX8_pullerDigest_50 rfl ?_
    refine tg_lstore (lv2 := [(4, .long r5), (0, .ref (tg_ad x 0)), (3, .int v3), (6, .int v6)]) X dX8_pullerDigest_53 (by decide) rfl ?_
    refine tg_aload_n X dX8_pullerDigest_55 rfl 1 rfl ?_
    refine tg_lload X dX8_pullerDigest_56 0 rfl ?_
    refine tg_bipush X dX8_pullerDigest_58 tk_b12 ?_
    refine tg_iload_n X dX8_pullerDigest_60 rfl 2 rfl ?_
    obtain ⟨S6, r7, kS6, h⟩ := tg_bdE h
    refine tg_callV (As := [.long r5, .int 12, .int v3]) (rest := []) X 0 (cm_X8_beatDigest _ _ _ _ _ kS6) yy_X8_beatDigest wv_X8_beatDigest ws_X8_beatDigest wm_X8_344 rfl cl_X8.1 ⟨rfl, rfl, Nat.le_of_ble_eq_true rfl, Nat.le_of_ble_eq_true rfl⟩ rfl rfl (Nat.le_of_ble_eq_true rfl) dX8_pullerDigest_61 rfl ?_
    refine tg_lstore (lv2 := [(4, .long r7), (0, .ref (tg_ad x 0)), (3, .int v3), (6, .int v6)]) X dX8_pullerDigest_64 (by decide) rfl ?_
    refine tg_aload_n X dX8_pullerDigest_66 rfl 1 rfl ?_
    refine tg_lload X dX8_pullerDigest_67 0 rfl ?_
    refine tg_bipush X dX8_pullerDigest_69 tk_b23 ?_
    refine tg_iload_n X dX8_pullerDigest_71 rfl 2 rfl ?_
    obtain ⟨S8, r9, kS8, h⟩ := tg_bdE h
    refine tg_callV (As := [.long r7, .int 23, .int v3]) (rest := []) X 0 (cm_X8_beatDigest _ _ _ _ _ kS8) yy_X8_beatDigest wv_X8_beatDigest ws_X8_beatDigest wm_X8_344 rfl cl_X8.1 ⟨rfl, rfl, Nat.le_of_ble_eq_true rfl, Nat.le_of_ble_eq_true rfl⟩ rfl rfl (Nat.le_of_ble_eq_true rfl) dX8_pullerDigest_72 rfl ?_
    refine tg_lstore (lv2 := [(4, .long r9), (0, .ref (tg_ad x 0)), (3, .int v3), (6, .int v6)]) X dX8_pullerDigest_75 (by decide) rfl ?_
    refine tg_ldc2 X wk_X8_342 dX8_pullerDigest_77 ?_
    refine tg_lload X dX8_pullerDigest_80 0 rfl ?_
    refine tg_lmul X dX8_pullerDigest_82 ?_
    refine tg_aload_n X dX8_pullerDigest_83 rfl 1 rfl ?_
    refine tg_iload_n X dX8_pullerDigest_84 rfl 2 rfl ?_
    obtain ⟨S10, r11, kS10, h⟩ := tg_bdE h
    refine tg_callV (As := [.int v3]) (rest := [.long (31 * r9)]) X 0 (cm_X8_doneOf _ _ _ _ _ kS10) yy_X8_doneOf wv_X8_doneOf ws_X8_doneOf wm_X8_250 rfl cl_X8.1 ⟨rfl, rfl, Nat.le_of_ble_eq_true rfl, Nat.le_of_ble_eq_true rfl⟩ rfl rfl (Nat.le_of_ble_eq_true rfl) dX8_pullerDigest_85 rfl ?_
    refine tg_i2l X dX8_pullerDigest_88 ?_
    refine tg_ladd X dX8_pullerDigest_89 ?_
    refine tg_topl (fun y12 ey12 => ?_)
    have h := tg_nmE ey12 h
    refine tg_lstore (lv2 := [(4, .long y12), (0, .ref (tg_ad x 0)), (3, .int v3), (6, .int v6)]) X dX8_pullerDigest_90 (by decide) rfl ?_
    refine tg_ldc2 X wk_X8_342 dX8_pullerDigest_92 ?_
    refine tg_lload X dX8_pullerDigest_95 0 rfl ?_
    refine tg_lmul X dX8_pullerDigest_97 ?_
    refine tg_aload_n X dX8_pullerDigest_98 rfl 1 rfl ?_
    refine tg_iload_n X dX8_pullerDigest_99 rfl 2 rfl ?_
    obtain ⟨S13, r14, kS13, h⟩ := tg_bdE h
    refine tg_callV (As := [.int v3]) (rest := [.long (31 * y12)]) X 0 (cm_X8_weightsBy _ _ _ _ _ kS13) yy_X8_weightsBy wv_X8_weightsBy ws_X8_weightsBy wm_X8_303 rfl cl_X8.1 ⟨rfl, rfl, Nat.le_of_ble_eq_true rfl, Nat.le_of_ble_eq_true rfl⟩ rfl rfl (Nat.le_of_ble_eq_true rfl) dX8_pullerDigest_100 rfl ?_
    refine tg_i2l X dX8_pullerDigest_103 ?_
    refine tg_ladd X dX8_pullerDigest_104 ?_
    refine tg_topl (fun y15 ey15 => ?_)
    have h := tg_nmE ey15 h
    refine tg_lstore (lv2 := [(4, .long y15), (0, .ref (tg_ad x 0)), (3, .int v3), (6, .int v6)]) X dX8_pullerDigest_105 (by decide) rfl ?_
    refine tg_ldc2 X wk_X8_342 dX8_pullerDigest_107 ?_
    refine tg_lload X dX8_pullerDigest_110 0 rfl ?_
    refine tg_lmul X dX8_pullerDigest_112 ?_
    refine tg_aload_n X dX8_pullerDigest_113 rfl 1 rfl ?_
    refine tg_iload_n X dX8_pullerDigest_114 rfl 2 rfl ?_
    obtain ⟨S16, r17, kS16, h⟩ := tg_bdE h
    refine tg_callV (As := [.int v3]) (rest := [.long (31 * y15)]) X 0 (cm_X8_sortsBy _ _ _ _ _ kS16) yy_X8_sortsBy wv_X8_sortsBy ws_X8_sortsBy wm_X8_306 rfl cl_X8.1 ⟨rfl, rfl, Nat.le_of_ble_eq_true rfl, Nat.le_of_ble_eq_true rfl⟩ rfl rfl (Nat.le_of_ble_eq_true rfl) dX8_pullerDigest_115 rfl ?_
    refine tg_i2l X dX8_pullerDigest_118 ?_
    refine tg_ladd X dX8_pullerDigest_119 ?_
    refine tg_topl (fun y18 ey18 => ?_)
    have h := tg_nmE ey18 h
    refine tg_lstore (lv2 := [(4, .long y18), (0, .ref (tg_ad x 0)), (3, .int v3), (6, .int v6)]) X dX8_pullerDigest_120 (by decide) rfl ?_
    refine tg_ldc2 X wk_X8_342 dX8_pullerDigest_122 ?_
    refine tg_lload X dX8_pullerDigest_125 0 rfl ?_
    refine tg_lmul X dX8_pullerDigest_127 ?_
    refine tg_aload_n X dX8_pullerDigest_128 rfl 1 rfl ?_
    refine tg_iload_n X dX8_pullerDigest_129 rfl 2 rfl ?_
    obtain ⟨S19, r20, kS19, h⟩ := tg_bdE h
    refine tg_callV (As := [.int v3]) (rest := [.long (31 * y18)]) X 0 (cm_X8_askOf _ _ _ _ _ kS19) yy_X8_askOf wv_X8_askOf ws_X8_askOf wm_X8_309 rfl cl_X8.1 ⟨rfl, rfl, Nat.le_of_ble_eq_true rfl, Nat.le_of_ble_eq_true rfl⟩ rfl rfl (Nat.le_of_ble_eq_true rfl) dX8_pullerDigest_130 rfl ?_
    refine tg_i2l X dX8_pullerDigest_133 ?_
    refine tg_ladd X dX8_pullerDigest_134 ?_
    exact tg_lret X h rfl dX8_pullerDigest_135
  · have h := tg_ifF c1 h
    refine tg_ldc2 X wk_X8_342 dX8_pullerDigest_12 ?_
    refine tg_lload X dX8_pullerDigest_15 2 rfl ?_
    refine tg_lmul X dX8_pullerDigest_17 ?_
    refine tg_aload_n X dX8_pullerDigest_18 rfl 0 rfl ?_
    refine tg_iload_n X dX8_pullerDigest_19 rfl 1 rfl ?_
    refine tg_iload X dX8_pullerDigest_20 3 rfl ?_
    obtain ⟨S21, r22, kS21, h⟩ := tg_bdE h
    refine tg_callV (As := [.int v3, .int v6]) (rest := [.long (31 * v4)]) X 0 (cm_X8_pullerOf _ _ _ _ _ kS21) yy_X8_pullerOf wv_X8_pullerOf ws_X8_pullerOf wm_X8_150 rfl cl_X8.1 ⟨rfl, rfl, Nat.le_of_ble_eq_true rfl, Nat.le_of_ble_eq_true rfl⟩ rfl rfl (Nat.le_of_ble_eq_true rfl) dX8_pullerDigest_22 rfl ?_
    refine tg_i2l X dX8_pullerDigest_25 ?_
    refine tg_ladd X dX8_pullerDigest_26 ?_
    refine tg_topl (fun y23 ey23 => ?_)
    have h := tg_nmE ey23 h
    refine tg_lstore (lv2 := [(4, .long y23), (0, .ref (tg_ad x 0)), (3, .int v3), (6, .int v6)]) X dX8_pullerDigest_27 (by decide) rfl ?_
    obtain ⟨y24, ey24⟩ : ∃ z : Int32, z = v6 + 1 := ⟨_, rfl⟩
    have h := tg_nmE ey24 h
    refine tg_iinc (lv2 := [(6, .int y24), (4, .long y23), (0, .ref (tg_ad x 0)), (3, .int v3)]) X dX8_pullerDigest_29 3 rfl tk_i1 ey24 (by decide) rfl ?_
    refine tg_goto (tgt := 6) X dX8_pullerDigest_32 (by decide) ?_
    refine tg_re [2, 3, 1, 0] rfl ?_
    exact hr6 S21 v3 y23 y24 h
theorem wl_X8_pullerDigest_6 {x : tg_X} {Sf : tg_S} {r : Int64} (X : tg_M tauR x cX8_pullerDigest 7 RX8 zr_X8_pullerDigest (some .long) Sf (some (.long r))) : ∀ (n : Nat) (S : tg_S) (v3 : Int32) (v4 : Int64) (v6 : Int32) (h : L_X8_pullerDigest_6  n S v3 v4 v6 = some (Sf, r)), tg_G tauR x S 6 [(0, .ref (tg_ad x 0)), (3, .int v3), (4, .long v4), (6, .int v6)] [] := by
  intro n
  induction n with
  | zero => intro S v3 v4 v6 h; cases h
  | succ n ih => intro S v3 v4 v6 h; exact w_X8_pullerDigest_6 X  ih S v3 v4 v6 h
set_option maxRecDepth 20000 in
set_option maxHeartbeats 4000000 in
theorem w_X8_pullerDigest_0 {x : tg_X} {Sf : tg_S} {r : Int64} (X : tg_M tauR x cX8_pullerDigest 7 RX8 zr_X8_pullerDigest (some .long) Sf (some (.long r))) (S : tg_S) (v1 : Int64) (v3 : Int32) (h : f_X8_pullerDigest  S v1 v3 = some (Sf, r)) : tg_G tauR x S 0 [(0, .ref (tg_ad x 0)), (1, .long v1), (3, .int v3)] [] := by
  unfold f_X8_pullerDigest at h
  refine tg_lload_n X dX8_pullerDigest_0 rfl 1 rfl ?_
  refine tg_lstore (lv2 := [(4, .long v1), (0, .ref (tg_ad x 0)), (1, .long v1), (3, .int v3)]) X dX8_pullerDigest_1 (by decide) rfl ?_
  refine tg_iconst X dX8_pullerDigest_3 tk_i0 ?_
  refine tg_istore (lv2 := [(6, .int 0), (4, .long v1), (0, .ref (tg_ad x 0)), (1, .long v1), (3, .int v3)]) X dX8_pullerDigest_4 (by decide) rfl ?_
  refine tg_re [2, 4, 1, 0] rfl ?_
  exact wl_X8_pullerDigest_6 X  tg_F S v3 v1 0 h
theorem cm_X8_pullerDigest (l : Launch) (D : va_G) (cy : Bool → ClassId) (ad : Nat → Nat) (tS : Nat) {S Sf : tg_S} {v1 : Int64} {v3 : Int32} {r : Int64} (h : f_X8_pullerDigest  S v1 v3 = some (Sf, r)) : tg_Met l yX8_pullerDigest cX8_pullerDigest 7 (some .long) zr_X8_pullerDigest tauR D cy ad tS S [.ref (ad 0), .long v1, .int v3] Sf (some (.long r)) := tg_mk (by decide +kernel) trivial (Nat.le_of_ble_eq_true rfl) (fun p e s m args below meth c Q A X => w_X8_pullerDigest_0 X S v1 v3 h)
-- X8_teamDigest
def zr_X8_teamDigest : Room := { frames := 8, cells := 0, slots := 0, locals := 185 }
theorem dX8_teamDigest_0 : decode cX8_teamDigest 0 = .ok (.ldc2_w 342, 3) := by decide +kernel
theorem dX8_teamDigest_3 : decode cX8_teamDigest 3 = .ok (.lload_n 1, 1) := by decide +kernel
theorem dX8_teamDigest_4 : decode cX8_teamDigest 4 = .ok (.lmul, 1) := by decide +kernel
theorem dX8_teamDigest_5 : decode cX8_teamDigest 5 = .ok (.aload_n 0, 1) := by decide +kernel
theorem dX8_teamDigest_6 : decode cX8_teamDigest 6 = .ok (.iload_n 3, 1) := by decide +kernel
theorem dX8_teamDigest_7 : decode cX8_teamDigest 7 = .ok (.iconst 4, 1) := by decide +kernel
theorem dX8_teamDigest_8 : decode cX8_teamDigest 8 = .ok (.iconst 0, 1) := by decide +kernel
theorem dX8_teamDigest_9 : decode cX8_teamDigest 9 = .ok (.invokevirtual 275, 3) := by decide +kernel
theorem dX8_teamDigest_12 : decode cX8_teamDigest 12 = .ok (.i2l, 1) := by decide +kernel
theorem dX8_teamDigest_13 : decode cX8_teamDigest 13 = .ok (.ladd, 1) := by decide +kernel
theorem dX8_teamDigest_14 : decode cX8_teamDigest 14 = .ok (.lstore 4, 2) := by decide +kernel
theorem dX8_teamDigest_16 : decode cX8_teamDigest 16 = .ok (.ldc2_w 342, 3) := by decide +kernel
theorem dX8_teamDigest_19 : decode cX8_teamDigest 19 = .ok (.lload 4, 2) := by decide +kernel
theorem dX8_teamDigest_21 : decode cX8_teamDigest 21 = .ok (.lmul, 1) := by decide +kernel
theorem dX8_teamDigest_22 : decode cX8_teamDigest 22 = .ok (.aload_n 0, 1) := by decide +kernel
theorem dX8_teamDigest_23 : decode cX8_teamDigest 23 = .ok (.iload_n 3, 1) := by decide +kernel
theorem dX8_teamDigest_24 : decode cX8_teamDigest 24 = .ok (.iconst 4, 1) := by decide +kernel
theorem dX8_teamDigest_25 : decode cX8_teamDigest 25 = .ok (.iconst 1, 1) := by decide +kernel
theorem dX8_teamDigest_26 : decode cX8_teamDigest 26 = .ok (.invokevirtual 275, 3) := by decide +kernel
theorem dX8_teamDigest_29 : decode cX8_teamDigest 29 = .ok (.i2l, 1) := by decide +kernel
theorem dX8_teamDigest_30 : decode cX8_teamDigest 30 = .ok (.ladd, 1) := by decide +kernel
theorem dX8_teamDigest_31 : decode cX8_teamDigest 31 = .ok (.lstore 4, 2) := by decide +kernel
theorem dX8_teamDigest_33 : decode cX8_teamDigest 33 = .ok (.iconst 0, 1) := by decide +kernel
theorem dX8_teamDigest_34 : decode cX8_teamDigest 34 = .ok (.istore 6, 2) := by decide +kernel
theorem dX8_teamDigest_36 : decode cX8_teamDigest 36 = .ok (.iload 6, 2) := by decide +kernel
theorem dX8_teamDigest_38 : decode cX8_teamDigest 38 = .ok (.iconst 3, 1) := by decide +kernel
theorem dX8_teamDigest_39 : decode cX8_teamDigest 39 = .ok (.if_icmp .ge 26, 3) := by decide +kernel
theorem dX8_teamDigest_42 : decode cX8_teamDigest 42 = .ok (.ldc2_w 342, 3) := by decide +kernel
theorem dX8_teamDigest_45 : decode cX8_teamDigest 45 = .ok (.lload 4, 2) := by decide +kernel
theorem dX8_teamDigest_47 : decode cX8_teamDigest 47 = .ok (.lmul, 1) := by decide +kernel
theorem dX8_teamDigest_48 : decode cX8_teamDigest 48 = .ok (.aload_n 0, 1) := by decide +kernel
theorem dX8_teamDigest_49 : decode cX8_teamDigest 49 = .ok (.iload_n 3, 1) := by decide +kernel
theorem dX8_teamDigest_50 : decode cX8_teamDigest 50 = .ok (.iload 6, 2) := by decide +kernel
theorem dX8_teamDigest_52 : decode cX8_teamDigest 52 = .ok (.invokevirtual 278, 3) := by decide +kernel
theorem dX8_teamDigest_55 : decode cX8_teamDigest 55 = .ok (.i2l, 1) := by decide +kernel
theorem dX8_teamDigest_56 : decode cX8_teamDigest 56 = .ok (.ladd, 1) := by decide +kernel
theorem dX8_teamDigest_57 : decode cX8_teamDigest 57 = .ok (.lstore 4, 2) := by decide +kernel
theorem dX8_teamDigest_59 : decode cX8_teamDigest 59 = .ok (.iinc 6 1, 3) := by decide +kernel
theorem dX8_teamDigest_62 : decode cX8_teamDigest 62 = .ok (.goto (-26), 3) := by decide +kernel
theorem dX8_teamDigest_65 : decode cX8_teamDigest 65 = .ok (.ldc2_w 342, 3) := by decide +kernel
theorem dX8_teamDigest_68 : decode cX8_teamDigest 68 = .ok (.lload 4, 2) := by decide +kernel
theorem dX8_teamDigest_70 : decode cX8_teamDigest 70 = .ok (.lmul, 1) := by decide +kernel
theorem dX8_teamDigest_71 : decode cX8_teamDigest 71 = .ok (.aload_n 0, 1) := by decide +kernel
theorem dX8_teamDigest_72 : decode cX8_teamDigest 72 = .ok (.iload_n 3, 1) := by decide +kernel
theorem dX8_teamDigest_73 : decode cX8_teamDigest 73 = .ok (.iconst 0, 1) := by decide +kernel
theorem dX8_teamDigest_74 : decode cX8_teamDigest 74 = .ok (.invokevirtual 281, 3) := by decide +kernel
theorem dX8_teamDigest_77 : decode cX8_teamDigest 77 = .ok (.i2l, 1) := by decide +kernel
theorem dX8_teamDigest_78 : decode cX8_teamDigest 78 = .ok (.ladd, 1) := by decide +kernel
theorem dX8_teamDigest_79 : decode cX8_teamDigest 79 = .ok (.lstore 4, 2) := by decide +kernel
theorem dX8_teamDigest_81 : decode cX8_teamDigest 81 = .ok (.ldc2_w 342, 3) := by decide +kernel
theorem dX8_teamDigest_84 : decode cX8_teamDigest 84 = .ok (.lload 4, 2) := by decide +kernel
theorem dX8_teamDigest_86 : decode cX8_teamDigest 86 = .ok (.lmul, 1) := by decide +kernel
theorem dX8_teamDigest_87 : decode cX8_teamDigest 87 = .ok (.aload_n 0, 1) := by decide +kernel
theorem dX8_teamDigest_88 : decode cX8_teamDigest 88 = .ok (.iload_n 3, 1) := by decide +kernel
theorem dX8_teamDigest_89 : decode cX8_teamDigest 89 = .ok (.iconst 1, 1) := by decide +kernel
theorem dX8_teamDigest_90 : decode cX8_teamDigest 90 = .ok (.invokevirtual 281, 3) := by decide +kernel
theorem dX8_teamDigest_93 : decode cX8_teamDigest 93 = .ok (.i2l, 1) := by decide +kernel
theorem dX8_teamDigest_94 : decode cX8_teamDigest 94 = .ok (.ladd, 1) := by decide +kernel
theorem dX8_teamDigest_95 : decode cX8_teamDigest 95 = .ok (.lstore 4, 2) := by decide +kernel
theorem dX8_teamDigest_97 : decode cX8_teamDigest 97 = .ok (.ldc2_w 342, 3) := by decide +kernel
theorem dX8_teamDigest_100 : decode cX8_teamDigest 100 = .ok (.lload 4, 2) := by decide +kernel
theorem dX8_teamDigest_102 : decode cX8_teamDigest 102 = .ok (.lmul, 1) := by decide +kernel
theorem dX8_teamDigest_103 : decode cX8_teamDigest 103 = .ok (.aload_n 0, 1) := by decide +kernel
theorem dX8_teamDigest_104 : decode cX8_teamDigest 104 = .ok (.iconst 5, 1) := by decide +kernel
theorem dX8_teamDigest_105 : decode cX8_teamDigest 105 = .ok (.iload_n 3, 1) := by decide +kernel
theorem dX8_teamDigest_106 : decode cX8_teamDigest 106 = .ok (.iconst 0, 1) := by decide +kernel
theorem dX8_teamDigest_107 : decode cX8_teamDigest 107 = .ok (.invokevirtual 316, 3) := by decide +kernel
theorem dX8_teamDigest_110 : decode cX8_teamDigest 110 = .ok (.ladd, 1) := by decide +kernel
theorem dX8_teamDigest_111 : decode cX8_teamDigest 111 = .ok (.lstore 4, 2) := by decide +kernel
theorem dX8_teamDigest_113 : decode cX8_teamDigest 113 = .ok (.ldc2_w 342, 3) := by decide +kernel
theorem dX8_teamDigest_116 : decode cX8_teamDigest 116 = .ok (.lload 4, 2) := by decide +kernel
theorem dX8_teamDigest_118 : decode cX8_teamDigest 118 = .ok (.lmul, 1) := by decide +kernel
theorem dX8_teamDigest_119 : decode cX8_teamDigest 119 = .ok (.aload_n 0, 1) := by decide +kernel
theorem dX8_teamDigest_120 : decode cX8_teamDigest 120 = .ok (.iconst 5, 1) := by decide +kernel
theorem dX8_teamDigest_121 : decode cX8_teamDigest 121 = .ok (.iload_n 3, 1) := by decide +kernel
theorem dX8_teamDigest_122 : decode cX8_teamDigest 122 = .ok (.iconst 1, 1) := by decide +kernel
theorem dX8_teamDigest_123 : decode cX8_teamDigest 123 = .ok (.invokevirtual 316, 3) := by decide +kernel
theorem dX8_teamDigest_126 : decode cX8_teamDigest 126 = .ok (.ladd, 1) := by decide +kernel
theorem dX8_teamDigest_127 : decode cX8_teamDigest 127 = .ok (.lreturn, 1) := by decide +kernel
set_option maxRecDepth 20000 in
set_option maxHeartbeats 4000000 in
theorem w_X8_teamDigest_36 {x : tg_X} {Sf : tg_S} {r : Int64} {rec36 : tg_S → Int32 → Int64 → Int32 → Option (tg_S × Int64)} (X : tg_M tauR x cX8_teamDigest 7 RX8 zr_X8_teamDigest (some .long) Sf (some (.long r))) (hr36 : ∀ (S : tg_S) (v3 : Int32) (v4 : Int64) (v6 : Int32), rec36 S v3 v4 v6 = some (Sf, r) → tg_G tauR x S 36 [(0, .ref (tg_ad x 0)), (3, .int v3), (4, .long v4), (6, .int v6)] []) (S : tg_S) (v3 : Int32) (v4 : Int64) (v6 : Int32) (h : f_X8_teamDigest_36 rec36 S v3 v4 v6 = some (Sf, r)) : tg_G tauR x S 36 [(0, .ref (tg_ad x 0)), (3, .int v3), (4, .long v4), (6, .int v6)] [] := by
  unfold f_X8_teamDigest_36 at h
  refine tg_iload X dX8_teamDigest_36 3 rfl ?_
  refine tg_iconst X dX8_teamDigest_38 tk_i3 ?_
  refine tg_icmp_ge (tgt := 65) X dX8_teamDigest_39 (by decide) (fun c1 => ?_) (fun c1 => ?_)
  · have h := tg_ifT c1 h
    refine tg_ldc2 X wk_X8_342 dX8_teamDigest_65 ?_
    refine tg_lload X dX8_teamDigest_68 2 rfl ?_
    refine tg_lmul X dX8_teamDigest_70 ?_
    refine tg_aload_n X dX8_teamDigest_71 rfl 0 rfl ?_
    refine tg_iload_n X dX8_teamDigest_72 rfl 1 rfl ?_
    refine tg_iconst X dX8_teamDigest_73 tk_i0 ?_
    obtain ⟨S2, r3, kS2, h⟩ := tg_bdE h
    refine tg_callV (As := [.int v3, .int 0]) (rest := [.long (31 * v4)]) X 0 (cm_X8_outOf _ _ _ _ _ kS2) yy_X8_outOf wv_X8_outOf ws_X8_outOf wm_X8_281 rfl cl_X8.1 ⟨rfl, rfl, Nat.le_of_ble_eq_true rfl, Nat.le_of_ble_eq_true rfl⟩ rfl rfl (Nat.le_of_ble_eq_true rfl) dX8_teamDigest_74 rfl ?_
    refine tg_i2l X dX8_teamDigest_77 ?_
    refine tg_ladd X dX8_teamDigest_78 ?_
    refine tg_topl (fun y4 ey4 => ?_)
    have h := tg_nmE ey4 h
    refine tg_lstore (lv2 := [(4, .long y4), (0, .ref (tg_ad x 0)), (3, .int v3), (6, .int v6)]) X dX8_teamDigest_79 (by decide) rfl ?_
    refine tg_ldc2 X wk_X8_342 dX8_teamDigest_81 ?_
    refine tg_lload X dX8_teamDigest_84 0 rfl ?_
    refine tg_lmul X dX8_teamDigest_86 ?_
    refine tg_aload_n X dX8_teamDigest_87 rfl 1 rfl ?_
    refine tg_iload_n X dX8_teamDigest_88 rfl 2 rfl ?_
    refine tg_iconst X dX8_teamDigest_89 tk_i1 ?_
    obtain ⟨S5, r6, kS5, h⟩ := tg_bdE h
    refine tg_callV (As := [.int v3, .int 1]) (rest := [.long (31 * y4)]) X 0 (cm_X8_outOf _ _ _ _ _ kS5) yy_X8_outOf wv_X8_outOf ws_X8_outOf wm_X8_281 rfl cl_X8.1 ⟨rfl, rfl, Nat.le_of_ble_eq_true rfl, Nat.le_of_ble_eq_true rfl⟩ rfl rfl (Nat.le_of_ble_eq_true rfl) dX8_teamDigest_90 rfl ?_
    refine tg_i2l X dX8_teamDigest_93 ?_
    refine tg_ladd X dX8_teamDigest_94 ?_
    refine tg_topl (fun y7 ey7 => ?_)
    have h := tg_nmE ey7 h
    refine tg_lstore (lv2 := [(4, .long y7), (0, .ref (tg_ad x 0)), (3, .int v3), (6, .int v6)]) X dX8_teamDigest_95 (by decide) rfl ?_
    refine tg_ldc2 X wk_X8_342 dX8_teamDigest_97 ?_
    refine tg_lload X dX8_teamDigest_100 0 rfl ?_
    refine tg_lmul X dX8_teamDigest_102 ?_
    refine tg_aload_n X dX8_teamDigest_103 rfl 1 rfl ?_
    refine tg_iconst X dX8_teamDigest_104 tk_i5 ?_
    refine tg_iload_n X dX8_teamDigest_105 rfl 2 rfl ?_
    refine tg_iconst X dX8_teamDigest_106 tk_i0 ?_
    obtain ⟨S8, r9, kS8, h⟩ := tg_bdE h
    refine tg_callV (As := [.int 5, .int v3, .int 0]) (rest := [.long (31 * y7)]) X 0 (cm_X8_chanceOf _ _ _ _ _ kS8) yy_X8_chanceOf wv_X8_chanceOf ws_X8_chanceOf wm_X8_316 rfl cl_X8.1 ⟨rfl, rfl, Nat.le_of_ble_eq_true rfl, Nat.le_of_ble_eq_true rfl⟩ rfl rfl (Nat.le_of_ble_eq_true rfl) dX8_teamDigest_107 rfl ?_
    refine tg_ladd X dX8_teamDigest_110 ?_
    refine tg_topl (fun y10 ey10 => ?_)
    have h := tg_nmE ey10 h
    refine tg_lstore (lv2 := [(4, .long y10), (0, .ref (tg_ad x 0)), (3, .int v3), (6, .int v6)]) X dX8_teamDigest_111 (by decide) rfl ?_
    refine tg_ldc2 X wk_X8_342 dX8_teamDigest_113 ?_
    refine tg_lload X dX8_teamDigest_116 0 rfl ?_
    refine tg_lmul X dX8_teamDigest_118 ?_
    refine tg_aload_n X dX8_teamDigest_119 rfl 1 rfl ?_
    refine tg_iconst X dX8_teamDigest_120 tk_i5 ?_
    refine tg_iload_n X dX8_teamDigest_121 rfl 2 rfl ?_
    refine tg_iconst X dX8_teamDigest_122 tk_i1 ?_
    obtain ⟨S11, r12, kS11, h⟩ := tg_bdE h
    refine tg_callV (As := [.int 5, .int v3, .int 1]) (rest := [.long (31 * y10)]) X 0 (cm_X8_chanceOf _ _ _ _ _ kS11) yy_X8_chanceOf wv_X8_chanceOf ws_X8_chanceOf wm_X8_316 rfl cl_X8.1 ⟨rfl, rfl, Nat.le_of_ble_eq_true rfl, Nat.le_of_ble_eq_true rfl⟩ rfl rfl (Nat.le_of_ble_eq_true rfl) dX8_teamDigest_123 rfl ?_
    refine tg_ladd X dX8_teamDigest_126 ?_
    exact tg_lret X h rfl dX8_teamDigest_127
  · have h := tg_ifF c1 h
    refine tg_ldc2 X wk_X8_342 dX8_teamDigest_42 ?_
    refine tg_lload X dX8_teamDigest_45 2 rfl ?_
    refine tg_lmul X dX8_teamDigest_47 ?_
    refine tg_aload_n X dX8_teamDigest_48 rfl 0 rfl ?_
    refine tg_iload_n X dX8_teamDigest_49 rfl 1 rfl ?_
    refine tg_iload X dX8_teamDigest_50 3 rfl ?_
    obtain ⟨S13, r14, kS13, h⟩ := tg_bdE h
    refine tg_callV (As := [.int v3, .int v6]) (rest := [.long (31 * v4)]) X 0 (cm_X8_swapOf _ _ _ _ _ kS13) yy_X8_swapOf wv_X8_swapOf ws_X8_swapOf wm_X8_278 rfl cl_X8.1 ⟨rfl, rfl, Nat.le_of_ble_eq_true rfl, Nat.le_of_ble_eq_true rfl⟩ rfl rfl (Nat.le_of_ble_eq_true rfl) dX8_teamDigest_52 rfl ?_
    refine tg_i2l X dX8_teamDigest_55 ?_
    refine tg_ladd X dX8_teamDigest_56 ?_
    refine tg_topl (fun y15 ey15 => ?_)
    have h := tg_nmE ey15 h
    refine tg_lstore (lv2 := [(4, .long y15), (0, .ref (tg_ad x 0)), (3, .int v3), (6, .int v6)]) X dX8_teamDigest_57 (by decide) rfl ?_
    obtain ⟨y16, ey16⟩ : ∃ z : Int32, z = v6 + 1 := ⟨_, rfl⟩
    have h := tg_nmE ey16 h
    refine tg_iinc (lv2 := [(6, .int y16), (4, .long y15), (0, .ref (tg_ad x 0)), (3, .int v3)]) X dX8_teamDigest_59 3 rfl tk_i1 ey16 (by decide) rfl ?_
    refine tg_goto (tgt := 36) X dX8_teamDigest_62 (by decide) ?_
    refine tg_re [2, 3, 1, 0] rfl ?_
    exact hr36 S13 v3 y15 y16 h
theorem wl_X8_teamDigest_36 {x : tg_X} {Sf : tg_S} {r : Int64} (X : tg_M tauR x cX8_teamDigest 7 RX8 zr_X8_teamDigest (some .long) Sf (some (.long r))) : ∀ (n : Nat) (S : tg_S) (v3 : Int32) (v4 : Int64) (v6 : Int32) (h : L_X8_teamDigest_36  n S v3 v4 v6 = some (Sf, r)), tg_G tauR x S 36 [(0, .ref (tg_ad x 0)), (3, .int v3), (4, .long v4), (6, .int v6)] [] := by
  intro n
  induction n with
  | zero => intro S v3 v4 v6 h; cases h
  | succ n ih => intro S v3 v4 v6 h; exact w_X8_teamDigest_36 X  ih S v3 v4 v6 h
set_option maxRecDepth 20000 in
set_option maxHeartbeats 4000000 in
theorem w_X8_teamDigest_0 {x : tg_X} {Sf : tg_S} {r : Int64} (X : tg_M tauR x cX8_teamDigest 7 RX8 zr_X8_teamDigest (some .long) Sf (some (.long r))) (S : tg_S) (v1 : Int64) (v3 : Int32) (h : f_X8_teamDigest  S v1 v3 = some (Sf, r)) : tg_G tauR x S 0 [(0, .ref (tg_ad x 0)), (1, .long v1), (3, .int v3)] [] := by
  unfold f_X8_teamDigest at h
  refine tg_ldc2 X wk_X8_342 dX8_teamDigest_0 ?_
  refine tg_lload_n X dX8_teamDigest_3 rfl 1 rfl ?_
  refine tg_lmul X dX8_teamDigest_4 ?_
  refine tg_aload_n X dX8_teamDigest_5 rfl 0 rfl ?_
  refine tg_iload_n X dX8_teamDigest_6 rfl 2 rfl ?_
  refine tg_iconst X dX8_teamDigest_7 tk_i4 ?_
  refine tg_iconst X dX8_teamDigest_8 tk_i0 ?_
  obtain ⟨S1, r2, kS1, h⟩ := tg_bdE h
  refine tg_callV (As := [.int v3, .int 4, .int 0]) (rest := [.long (31 * v1)]) X 0 (cm_X8_betterOf _ _ _ _ _ kS1) yy_X8_betterOf wv_X8_betterOf ws_X8_betterOf wm_X8_275 rfl cl_X8.1 ⟨rfl, rfl, Nat.le_of_ble_eq_true rfl, Nat.le_of_ble_eq_true rfl⟩ rfl rfl (Nat.le_of_ble_eq_true rfl) dX8_teamDigest_9 rfl ?_
  refine tg_i2l X dX8_teamDigest_12 ?_
  refine tg_ladd X dX8_teamDigest_13 ?_
  refine tg_topl (fun y3 ey3 => ?_)
  have h := tg_nmE ey3 h
  refine tg_lstore (lv2 := [(4, .long y3), (0, .ref (tg_ad x 0)), (1, .long v1), (3, .int v3)]) X dX8_teamDigest_14 (by decide) rfl ?_
  refine tg_ldc2 X wk_X8_342 dX8_teamDigest_16 ?_
  refine tg_lload X dX8_teamDigest_19 0 rfl ?_
  refine tg_lmul X dX8_teamDigest_21 ?_
  refine tg_aload_n X dX8_teamDigest_22 rfl 1 rfl ?_
  refine tg_iload_n X dX8_teamDigest_23 rfl 3 rfl ?_
  refine tg_iconst X dX8_teamDigest_24 tk_i4 ?_
  refine tg_iconst X dX8_teamDigest_25 tk_i1 ?_
  obtain ⟨S4, r5, kS4, h⟩ := tg_bdE h
  refine tg_callV (As := [.int v3, .int 4, .int 1]) (rest := [.long (31 * y3)]) X 0 (cm_X8_betterOf _ _ _ _ _ kS4) yy_X8_betterOf wv_X8_betterOf ws_X8_betterOf wm_X8_275 rfl cl_X8.1 ⟨rfl, rfl, Nat.le_of_ble_eq_true rfl, Nat.le_of_ble_eq_true rfl⟩ rfl rfl (Nat.le_of_ble_eq_true rfl) dX8_teamDigest_26 rfl ?_
  refine tg_i2l X dX8_teamDigest_29 ?_
  refine tg_ladd X dX8_teamDigest_30 ?_
  refine tg_topl (fun y6 ey6 => ?_)
  have h := tg_nmE ey6 h
  refine tg_lstore (lv2 := [(4, .long y6), (0, .ref (tg_ad x 0)), (1, .long v1), (3, .int v3)]) X dX8_teamDigest_31 (by decide) rfl ?_
  refine tg_iconst X dX8_teamDigest_33 tk_i0 ?_
  refine tg_istore (lv2 := [(6, .int 0), (4, .long y6), (0, .ref (tg_ad x 0)), (1, .long v1), (3, .int v3)]) X dX8_teamDigest_34 (by decide) rfl ?_
  refine tg_re [2, 4, 1, 0] rfl ?_
  exact wl_X8_teamDigest_36 X  tg_F S4 v3 y6 0 h
theorem cm_X8_teamDigest (l : Launch) (D : va_G) (cy : Bool → ClassId) (ad : Nat → Nat) (tS : Nat) {S Sf : tg_S} {v1 : Int64} {v3 : Int32} {r : Int64} (h : f_X8_teamDigest  S v1 v3 = some (Sf, r)) : tg_Met l yX8_teamDigest cX8_teamDigest 7 (some .long) zr_X8_teamDigest tauR D cy ad tS S [.ref (ad 0), .long v1, .int v3] Sf (some (.long r)) := tg_mk (by decide +kernel) trivial (Nat.le_of_ble_eq_true rfl) (fun p e s m args below meth c Q A X => w_X8_teamDigest_0 X S v1 v3 h)
-- X8_digest
def zr_X8_digest : Room := { frames := 10, cells := 0, slots := 0, locals := 235 }
theorem dX8_digest_0 : decode cX8_digest 0 = .ok (.ldc2_w 348, 3) := by decide +kernel
theorem dX8_digest_3 : decode cX8_digest 3 = .ok (.lstore_n 1, 1) := by decide +kernel
theorem dX8_digest_4 : decode cX8_digest 4 = .ok (.iconst 0, 1) := by decide +kernel
theorem dX8_digest_5 : decode cX8_digest 5 = .ok (.istore_n 3, 1) := by decide +kernel
theorem dX8_digest_6 : decode cX8_digest 6 = .ok (.iload_n 3, 1) := by decide +kernel
theorem dX8_digest_7 : decode cX8_digest 7 = .ok (.bipush 8, 2) := by decide +kernel
theorem dX8_digest_9 : decode cX8_digest 9 = .ok (.if_icmp .ge 22, 3) := by decide +kernel
theorem dX8_digest_12 : decode cX8_digest 12 = .ok (.ldc2_w 342, 3) := by decide +kernel
theorem dX8_digest_15 : decode cX8_digest 15 = .ok (.lload_n 1, 1) := by decide +kernel
theorem dX8_digest_16 : decode cX8_digest 16 = .ok (.lmul, 1) := by decide +kernel
theorem dX8_digest_17 : decode cX8_digest 17 = .ok (.aload_n 0, 1) := by decide +kernel
theorem dX8_digest_18 : decode cX8_digest 18 = .ok (.iload_n 3, 1) := by decide +kernel
theorem dX8_digest_19 : decode cX8_digest 19 = .ok (.invokevirtual 350, 3) := by decide +kernel
theorem dX8_digest_22 : decode cX8_digest 22 = .ok (.i2l, 1) := by decide +kernel
theorem dX8_digest_23 : decode cX8_digest 23 = .ok (.ladd, 1) := by decide +kernel
theorem dX8_digest_24 : decode cX8_digest 24 = .ok (.lstore_n 1, 1) := by decide +kernel
theorem dX8_digest_25 : decode cX8_digest 25 = .ok (.iinc 3 1, 3) := by decide +kernel
theorem dX8_digest_28 : decode cX8_digest 28 = .ok (.goto (-22), 3) := by decide +kernel
theorem dX8_digest_31 : decode cX8_digest 31 = .ok (.iconst 0, 1) := by decide +kernel
theorem dX8_digest_32 : decode cX8_digest 32 = .ok (.istore_n 3, 1) := by decide +kernel
theorem dX8_digest_33 : decode cX8_digest 33 = .ok (.iload_n 3, 1) := by decide +kernel
theorem dX8_digest_34 : decode cX8_digest 34 = .ok (.iconst 4, 1) := by decide +kernel
theorem dX8_digest_35 : decode cX8_digest 35 = .ok (.if_icmp .ge 22, 3) := by decide +kernel
theorem dX8_digest_38 : decode cX8_digest 38 = .ok (.ldc2_w 342, 3) := by decide +kernel
theorem dX8_digest_41 : decode cX8_digest 41 = .ok (.lload_n 1, 1) := by decide +kernel
theorem dX8_digest_42 : decode cX8_digest 42 = .ok (.lmul, 1) := by decide +kernel
theorem dX8_digest_43 : decode cX8_digest 43 = .ok (.aload_n 0, 1) := by decide +kernel
theorem dX8_digest_44 : decode cX8_digest 44 = .ok (.iload_n 3, 1) := by decide +kernel
theorem dX8_digest_45 : decode cX8_digest 45 = .ok (.invokevirtual 135, 3) := by decide +kernel
theorem dX8_digest_48 : decode cX8_digest 48 = .ok (.i2l, 1) := by decide +kernel
theorem dX8_digest_49 : decode cX8_digest 49 = .ok (.ladd, 1) := by decide +kernel
theorem dX8_digest_50 : decode cX8_digest 50 = .ok (.lstore_n 1, 1) := by decide +kernel
theorem dX8_digest_51 : decode cX8_digest 51 = .ok (.iinc 3 1, 3) := by decide +kernel
theorem dX8_digest_54 : decode cX8_digest 54 = .ok (.goto (-21), 3) := by decide +kernel
theorem dX8_digest_57 : decode cX8_digest 57 = .ok (.iconst 0, 1) := by decide +kernel
theorem dX8_digest_58 : decode cX8_digest 58 = .ok (.istore_n 3, 1) := by decide +kernel
theorem dX8_digest_59 : decode cX8_digest 59 = .ok (.iload_n 3, 1) := by decide +kernel
theorem dX8_digest_60 : decode cX8_digest 60 = .ok (.bipush 24, 2) := by decide +kernel
theorem dX8_digest_62 : decode cX8_digest 62 = .ok (.if_icmp .ge 67, 3) := by decide +kernel
theorem dX8_digest_65 : decode cX8_digest 65 = .ok (.ldc2_w 342, 3) := by decide +kernel
theorem dX8_digest_68 : decode cX8_digest 68 = .ok (.lload_n 1, 1) := by decide +kernel
theorem dX8_digest_69 : decode cX8_digest 69 = .ok (.lmul, 1) := by decide +kernel
theorem dX8_digest_70 : decode cX8_digest 70 = .ok (.aload_n 0, 1) := by decide +kernel
theorem dX8_digest_71 : decode cX8_digest 71 = .ok (.iconst 0, 1) := by decide +kernel
theorem dX8_digest_72 : decode cX8_digest 72 = .ok (.iload_n 3, 1) := by decide +kernel
theorem dX8_digest_73 : decode cX8_digest 73 = .ok (.invokevirtual 159, 3) := by decide +kernel
theorem dX8_digest_76 : decode cX8_digest 76 = .ok (.i2l, 1) := by decide +kernel
theorem dX8_digest_77 : decode cX8_digest 77 = .ok (.ladd, 1) := by decide +kernel
theorem dX8_digest_78 : decode cX8_digest 78 = .ok (.lstore_n 1, 1) := by decide +kernel
theorem dX8_digest_79 : decode cX8_digest 79 = .ok (.ldc2_w 342, 3) := by decide +kernel
theorem dX8_digest_82 : decode cX8_digest 82 = .ok (.lload_n 1, 1) := by decide +kernel
theorem dX8_digest_83 : decode cX8_digest 83 = .ok (.lmul, 1) := by decide +kernel
theorem dX8_digest_84 : decode cX8_digest 84 = .ok (.aload_n 0, 1) := by decide +kernel
theorem dX8_digest_85 : decode cX8_digest 85 = .ok (.iconst 1, 1) := by decide +kernel
theorem dX8_digest_86 : decode cX8_digest 86 = .ok (.iload_n 3, 1) := by decide +kernel
theorem dX8_digest_87 : decode cX8_digest 87 = .ok (.invokevirtual 159, 3) := by decide +kernel
theorem dX8_digest_90 : decode cX8_digest 90 = .ok (.i2l, 1) := by decide +kernel
theorem dX8_digest_91 : decode cX8_digest 91 = .ok (.ladd, 1) := by decide +kernel
theorem dX8_digest_92 : decode cX8_digest 92 = .ok (.lstore_n 1, 1) := by decide +kernel
theorem dX8_digest_93 : decode cX8_digest 93 = .ok (.iconst 0, 1) := by decide +kernel
theorem dX8_digest_94 : decode cX8_digest 94 = .ok (.istore 4, 2) := by decide +kernel
theorem dX8_digest_96 : decode cX8_digest 96 = .ok (.iload 4, 2) := by decide +kernel
theorem dX8_digest_98 : decode cX8_digest 98 = .ok (.iconst 4, 1) := by decide +kernel
theorem dX8_digest_99 : decode cX8_digest 99 = .ok (.if_icmp .ge 24, 3) := by decide +kernel
theorem dX8_digest_102 : decode cX8_digest 102 = .ok (.ldc2_w 342, 3) := by decide +kernel
theorem dX8_digest_105 : decode cX8_digest 105 = .ok (.lload_n 1, 1) := by decide +kernel
theorem dX8_digest_106 : decode cX8_digest 106 = .ok (.lmul, 1) := by decide +kernel
theorem dX8_digest_107 : decode cX8_digest 107 = .ok (.aload_n 0, 1) := by decide +kernel
theorem dX8_digest_108 : decode cX8_digest 108 = .ok (.iload_n 3, 1) := by decide +kernel
theorem dX8_digest_109 : decode cX8_digest 109 = .ok (.iload 4, 2) := by decide +kernel
theorem dX8_digest_111 : decode cX8_digest 111 = .ok (.invokevirtual 238, 3) := by decide +kernel
theorem dX8_digest_114 : decode cX8_digest 114 = .ok (.i2l, 1) := by decide +kernel
theorem dX8_digest_115 : decode cX8_digest 115 = .ok (.ladd, 1) := by decide +kernel
theorem dX8_digest_116 : decode cX8_digest 116 = .ok (.lstore_n 1, 1) := by decide +kernel
theorem dX8_digest_117 : decode cX8_digest 117 = .ok (.iinc 4 1, 3) := by decide +kernel
theorem dX8_digest_120 : decode cX8_digest 120 = .ok (.goto (-24), 3) := by decide +kernel
theorem dX8_digest_123 : decode cX8_digest 123 = .ok (.iinc 3 1, 3) := by decide +kernel
theorem dX8_digest_126 : decode cX8_digest 126 = .ok (.goto (-67), 3) := by decide +kernel
theorem dX8_digest_129 : decode cX8_digest 129 = .ok (.iconst 0, 1) := by decide +kernel
theorem dX8_digest_130 : decode cX8_digest 130 = .ok (.istore_n 3, 1) := by decide +kernel
theorem dX8_digest_131 : decode cX8_digest 131 = .ok (.iload_n 3, 1) := by decide +kernel
theorem dX8_digest_132 : decode cX8_digest 132 = .ok (.bipush 16, 2) := by decide +kernel
theorem dX8_digest_134 : decode cX8_digest 134 = .ok (.if_icmp .ge 24, 3) := by decide +kernel
theorem dX8_digest_137 : decode cX8_digest 137 = .ok (.aload_n 0, 1) := by decide +kernel
theorem dX8_digest_138 : decode cX8_digest 138 = .ok (.iload_n 3, 1) := by decide +kernel
theorem dX8_digest_139 : decode cX8_digest 139 = .ok (.invokevirtual 141, 3) := by decide +kernel
theorem dX8_digest_142 : decode cX8_digest 142 = .ok (.ifCond .eq 10, 3) := by decide +kernel
theorem dX8_digest_145 : decode cX8_digest 145 = .ok (.aload_n 0, 1) := by decide +kernel
theorem dX8_digest_146 : decode cX8_digest 146 = .ok (.lload_n 1, 1) := by decide +kernel
theorem dX8_digest_147 : decode cX8_digest 147 = .ok (.iload_n 3, 1) := by decide +kernel
theorem dX8_digest_148 : decode cX8_digest 148 = .ok (.invokevirtual 353, 3) := by decide +kernel
theorem dX8_digest_151 : decode cX8_digest 151 = .ok (.lstore_n 1, 1) := by decide +kernel
theorem dX8_digest_152 : decode cX8_digest 152 = .ok (.iinc 3 1, 3) := by decide +kernel
theorem dX8_digest_155 : decode cX8_digest 155 = .ok (.goto (-24), 3) := by decide +kernel
theorem dX8_digest_158 : decode cX8_digest 158 = .ok (.aload_n 0, 1) := by decide +kernel
theorem dX8_digest_159 : decode cX8_digest 159 = .ok (.lload_n 1, 1) := by decide +kernel
theorem dX8_digest_160 : decode cX8_digest 160 = .ok (.iconst 0, 1) := by decide +kernel
theorem dX8_digest_161 : decode cX8_digest 161 = .ok (.invokevirtual 357, 3) := by decide +kernel
theorem dX8_digest_164 : decode cX8_digest 164 = .ok (.lstore_n 1, 1) := by decide +kernel
theorem dX8_digest_165 : decode cX8_digest 165 = .ok (.aload_n 0, 1) := by decide +kernel
theorem dX8_digest_166 : decode cX8_digest 166 = .ok (.lload_n 1, 1) := by decide +kernel
theorem dX8_digest_167 : decode cX8_digest 167 = .ok (.iconst 1, 1) := by decide +kernel
theorem dX8_digest_168 : decode cX8_digest 168 = .ok (.invokevirtual 357, 3) := by decide +kernel
theorem dX8_digest_171 : decode cX8_digest 171 = .ok (.lstore_n 1, 1) := by decide +kernel
theorem dX8_digest_172 : decode cX8_digest 172 = .ok (.ldc2_w 342, 3) := by decide +kernel
theorem dX8_digest_175 : decode cX8_digest 175 = .ok (.lload_n 1, 1) := by decide +kernel
theorem dX8_digest_176 : decode cX8_digest 176 = .ok (.lmul, 1) := by decide +kernel
theorem dX8_digest_177 : decode cX8_digest 177 = .ok (.aload_n 0, 1) := by decide +kernel
theorem dX8_digest_178 : decode cX8_digest 178 = .ok (.iconst 0, 1) := by decide +kernel
theorem dX8_digest_179 : decode cX8_digest 179 = .ok (.invokevirtual 244, 3) := by decide +kernel
theorem dX8_digest_182 : decode cX8_digest 182 = .ok (.i2l, 1) := by decide +kernel
theorem dX8_digest_183 : decode cX8_digest 183 = .ok (.ladd, 1) := by decide +kernel
theorem dX8_digest_184 : decode cX8_digest 184 = .ok (.lstore_n 1, 1) := by decide +kernel
theorem dX8_digest_185 : decode cX8_digest 185 = .ok (.ldc2_w 342, 3) := by decide +kernel
theorem dX8_digest_188 : decode cX8_digest 188 = .ok (.lload_n 1, 1) := by decide +kernel
theorem dX8_digest_189 : decode cX8_digest 189 = .ok (.lmul, 1) := by decide +kernel
theorem dX8_digest_190 : decode cX8_digest 190 = .ok (.aload_n 0, 1) := by decide +kernel
theorem dX8_digest_191 : decode cX8_digest 191 = .ok (.iconst 1, 1) := by decide +kernel
theorem dX8_digest_192 : decode cX8_digest 192 = .ok (.invokevirtual 244, 3) := by decide +kernel
theorem dX8_digest_195 : decode cX8_digest 195 = .ok (.i2l, 1) := by decide +kernel
theorem dX8_digest_196 : decode cX8_digest 196 = .ok (.ladd, 1) := by decide +kernel
theorem dX8_digest_197 : decode cX8_digest 197 = .ok (.lstore_n 1, 1) := by decide +kernel
theorem dX8_digest_198 : decode cX8_digest 198 = .ok (.ldc2_w 342, 3) := by decide +kernel
theorem dX8_digest_201 : decode cX8_digest 201 = .ok (.lload_n 1, 1) := by decide +kernel
theorem dX8_digest_202 : decode cX8_digest 202 = .ok (.lmul, 1) := by decide +kernel
theorem dX8_digest_203 : decode cX8_digest 203 = .ok (.aload_n 0, 1) := by decide +kernel
theorem dX8_digest_204 : decode cX8_digest 204 = .ok (.iconst 0, 1) := by decide +kernel
theorem dX8_digest_205 : decode cX8_digest 205 = .ok (.invokevirtual 247, 3) := by decide +kernel
theorem dX8_digest_208 : decode cX8_digest 208 = .ok (.i2l, 1) := by decide +kernel
theorem dX8_digest_209 : decode cX8_digest 209 = .ok (.ladd, 1) := by decide +kernel
theorem dX8_digest_210 : decode cX8_digest 210 = .ok (.lstore_n 1, 1) := by decide +kernel
theorem dX8_digest_211 : decode cX8_digest 211 = .ok (.ldc2_w 342, 3) := by decide +kernel
theorem dX8_digest_214 : decode cX8_digest 214 = .ok (.lload_n 1, 1) := by decide +kernel
theorem dX8_digest_215 : decode cX8_digest 215 = .ok (.lmul, 1) := by decide +kernel
theorem dX8_digest_216 : decode cX8_digest 216 = .ok (.aload_n 0, 1) := by decide +kernel
theorem dX8_digest_217 : decode cX8_digest 217 = .ok (.iconst 1, 1) := by decide +kernel
theorem dX8_digest_218 : decode cX8_digest 218 = .ok (.invokevirtual 247, 3) := by decide +kernel
theorem dX8_digest_221 : decode cX8_digest 221 = .ok (.i2l, 1) := by decide +kernel
theorem dX8_digest_222 : decode cX8_digest 222 = .ok (.ladd, 1) := by decide +kernel
theorem dX8_digest_223 : decode cX8_digest 223 = .ok (.lstore_n 1, 1) := by decide +kernel
theorem dX8_digest_224 : decode cX8_digest 224 = .ok (.ldc2_w 342, 3) := by decide +kernel
theorem dX8_digest_227 : decode cX8_digest 227 = .ok (.lload_n 1, 1) := by decide +kernel
theorem dX8_digest_228 : decode cX8_digest 228 = .ok (.lmul, 1) := by decide +kernel
theorem dX8_digest_229 : decode cX8_digest 229 = .ok (.aload_n 0, 1) := by decide +kernel
theorem dX8_digest_230 : decode cX8_digest 230 = .ok (.invokevirtual 253, 3) := by decide +kernel
theorem dX8_digest_233 : decode cX8_digest 233 = .ok (.i2l, 1) := by decide +kernel
theorem dX8_digest_234 : decode cX8_digest 234 = .ok (.ladd, 1) := by decide +kernel
theorem dX8_digest_235 : decode cX8_digest 235 = .ok (.lstore_n 1, 1) := by decide +kernel
theorem dX8_digest_236 : decode cX8_digest 236 = .ok (.ldc2_w 342, 3) := by decide +kernel
theorem dX8_digest_239 : decode cX8_digest 239 = .ok (.lload_n 1, 1) := by decide +kernel
theorem dX8_digest_240 : decode cX8_digest 240 = .ok (.lmul, 1) := by decide +kernel
theorem dX8_digest_241 : decode cX8_digest 241 = .ok (.aload_n 0, 1) := by decide +kernel
theorem dX8_digest_242 : decode cX8_digest 242 = .ok (.invokevirtual 257, 3) := by decide +kernel
theorem dX8_digest_245 : decode cX8_digest 245 = .ok (.i2l, 1) := by decide +kernel
theorem dX8_digest_246 : decode cX8_digest 246 = .ok (.ladd, 1) := by decide +kernel
theorem dX8_digest_247 : decode cX8_digest 247 = .ok (.lstore_n 1, 1) := by decide +kernel
theorem dX8_digest_248 : decode cX8_digest 248 = .ok (.ldc2_w 342, 3) := by decide +kernel
theorem dX8_digest_251 : decode cX8_digest 251 = .ok (.lload_n 1, 1) := by decide +kernel
theorem dX8_digest_252 : decode cX8_digest 252 = .ok (.lmul, 1) := by decide +kernel
theorem dX8_digest_253 : decode cX8_digest 253 = .ok (.aload_n 0, 1) := by decide +kernel
theorem dX8_digest_254 : decode cX8_digest 254 = .ok (.invokevirtual 260, 3) := by decide +kernel
theorem dX8_digest_257 : decode cX8_digest 257 = .ok (.i2l, 1) := by decide +kernel
theorem dX8_digest_258 : decode cX8_digest 258 = .ok (.ladd, 1) := by decide +kernel
theorem dX8_digest_259 : decode cX8_digest 259 = .ok (.lstore_n 1, 1) := by decide +kernel
theorem dX8_digest_260 : decode cX8_digest 260 = .ok (.aload_n 0, 1) := by decide +kernel
theorem dX8_digest_261 : decode cX8_digest 261 = .ok (.invokevirtual 287, 3) := by decide +kernel
theorem dX8_digest_264 : decode cX8_digest 264 = .ok (.istore_n 3, 1) := by decide +kernel
theorem dX8_digest_265 : decode cX8_digest 265 = .ok (.ldc2_w 342, 3) := by decide +kernel
theorem dX8_digest_268 : decode cX8_digest 268 = .ok (.lload_n 1, 1) := by decide +kernel
theorem dX8_digest_269 : decode cX8_digest 269 = .ok (.lmul, 1) := by decide +kernel
theorem dX8_digest_270 : decode cX8_digest 270 = .ok (.iload_n 3, 1) := by decide +kernel
theorem dX8_digest_271 : decode cX8_digest 271 = .ok (.i2l, 1) := by decide +kernel
theorem dX8_digest_272 : decode cX8_digest 272 = .ok (.ladd, 1) := by decide +kernel
theorem dX8_digest_273 : decode cX8_digest 273 = .ok (.lstore_n 1, 1) := by decide +kernel
theorem dX8_digest_274 : decode cX8_digest 274 = .ok (.ldc2_w 342, 3) := by decide +kernel
theorem dX8_digest_277 : decode cX8_digest 277 = .ok (.lload_n 1, 1) := by decide +kernel
theorem dX8_digest_278 : decode cX8_digest 278 = .ok (.lmul, 1) := by decide +kernel
theorem dX8_digest_279 : decode cX8_digest 279 = .ok (.aload_n 0, 1) := by decide +kernel
theorem dX8_digest_280 : decode cX8_digest 280 = .ok (.iload_n 3, 1) := by decide +kernel
theorem dX8_digest_281 : decode cX8_digest 281 = .ok (.iconst 0, 1) := by decide +kernel
theorem dX8_digest_282 : decode cX8_digest 282 = .ok (.invokevirtual 290, 3) := by decide +kernel
theorem dX8_digest_285 : decode cX8_digest 285 = .ok (.i2l, 1) := by decide +kernel
theorem dX8_digest_286 : decode cX8_digest 286 = .ok (.ladd, 1) := by decide +kernel
theorem dX8_digest_287 : decode cX8_digest 287 = .ok (.lstore_n 1, 1) := by decide +kernel
theorem dX8_digest_288 : decode cX8_digest 288 = .ok (.ldc2_w 342, 3) := by decide +kernel
theorem dX8_digest_291 : decode cX8_digest 291 = .ok (.lload_n 1, 1) := by decide +kernel
theorem dX8_digest_292 : decode cX8_digest 292 = .ok (.lmul, 1) := by decide +kernel
theorem dX8_digest_293 : decode cX8_digest 293 = .ok (.aload_n 0, 1) := by decide +kernel
theorem dX8_digest_294 : decode cX8_digest 294 = .ok (.invokevirtual 300, 3) := by decide +kernel
theorem dX8_digest_297 : decode cX8_digest 297 = .ok (.i2l, 1) := by decide +kernel
theorem dX8_digest_298 : decode cX8_digest 298 = .ok (.ladd, 1) := by decide +kernel
theorem dX8_digest_299 : decode cX8_digest 299 = .ok (.lstore_n 1, 1) := by decide +kernel
theorem dX8_digest_300 : decode cX8_digest 300 = .ok (.ldc2_w 342, 3) := by decide +kernel
theorem dX8_digest_303 : decode cX8_digest 303 = .ok (.lload_n 1, 1) := by decide +kernel
theorem dX8_digest_304 : decode cX8_digest 304 = .ok (.lmul, 1) := by decide +kernel
theorem dX8_digest_305 : decode cX8_digest 305 = .ok (.aload_n 0, 1) := by decide +kernel
theorem dX8_digest_306 : decode cX8_digest 306 = .ok (.bipush 7, 2) := by decide +kernel
theorem dX8_digest_308 : decode cX8_digest 308 = .ok (.bipush 18, 2) := by decide +kernel
theorem dX8_digest_310 : decode cX8_digest 310 = .ok (.iconst 0, 1) := by decide +kernel
theorem dX8_digest_311 : decode cX8_digest 311 = .ok (.invokevirtual 325, 3) := by decide +kernel
theorem dX8_digest_314 : decode cX8_digest 314 = .ok (.i2l, 1) := by decide +kernel
theorem dX8_digest_315 : decode cX8_digest 315 = .ok (.ladd, 1) := by decide +kernel
theorem dX8_digest_316 : decode cX8_digest 316 = .ok (.lstore_n 1, 1) := by decide +kernel
theorem dX8_digest_317 : decode cX8_digest 317 = .ok (.ldc2_w 342, 3) := by decide +kernel
theorem dX8_digest_320 : decode cX8_digest 320 = .ok (.lload_n 1, 1) := by decide +kernel
theorem dX8_digest_321 : decode cX8_digest 321 = .ok (.lmul, 1) := by decide +kernel
theorem dX8_digest_322 : decode cX8_digest 322 = .ok (.aload_n 0, 1) := by decide +kernel
theorem dX8_digest_323 : decode cX8_digest 323 = .ok (.bipush 7, 2) := by decide +kernel
theorem dX8_digest_325 : decode cX8_digest 325 = .ok (.bipush 18, 2) := by decide +kernel
theorem dX8_digest_327 : decode cX8_digest 327 = .ok (.iconst 1, 1) := by decide +kernel
theorem dX8_digest_328 : decode cX8_digest 328 = .ok (.invokevirtual 325, 3) := by decide +kernel
theorem dX8_digest_331 : decode cX8_digest 331 = .ok (.i2l, 1) := by decide +kernel
theorem dX8_digest_332 : decode cX8_digest 332 = .ok (.ladd, 1) := by decide +kernel
theorem dX8_digest_333 : decode cX8_digest 333 = .ok (.lreturn, 1) := by decide +kernel
set_option maxRecDepth 20000 in
set_option maxHeartbeats 4000000 in
theorem w_X8_digest_152 {x : tg_X} {Sf : tg_S} {r : Int64} {rec131 : tg_S → Int64 → Int32 → Option (tg_S × Int64)} (X : tg_M tauR x cX8_digest 5 RX8 zr_X8_digest (some .long) Sf (some (.long r))) (hr131 : ∀ (S : tg_S) (v1 : Int64) (v3 : Int32), rec131 S v1 v3 = some (Sf, r) → tg_G tauR x S 131 [(0, .ref (tg_ad x 0)), (1, .long v1), (3, .int v3)] []) (S : tg_S) (v1 : Int64) (v3 : Int32) (h : f_X8_digest_152 rec131 S v1 v3 = some (Sf, r)) : tg_G tauR x S 152 [(0, .ref (tg_ad x 0)), (1, .long v1), (3, .int v3)] [] := by
  unfold f_X8_digest_152 at h
  obtain ⟨y1, ey1⟩ : ∃ z : Int32, z = v3 + 1 := ⟨_, rfl⟩
  have h := tg_nmE ey1 h
  refine tg_iinc (lv2 := [(3, .int y1), (0, .ref (tg_ad x 0)), (1, .long v1)]) X dX8_digest_152 2 rfl tk_i1 ey1 (by decide) rfl ?_
  refine tg_goto (tgt := 131) X dX8_digest_155 (by decide) ?_
  refine tg_re [1, 2, 0] rfl ?_
  exact hr131 S v1 y1 h
set_option maxRecDepth 20000 in
set_option maxHeartbeats 4000000 in
theorem w_X8_digest_131 {x : tg_X} {Sf : tg_S} {r : Int64} {rec131 : tg_S → Int64 → Int32 → Option (tg_S × Int64)} (X : tg_M tauR x cX8_digest 5 RX8 zr_X8_digest (some .long) Sf (some (.long r))) (hr131 : ∀ (S : tg_S) (v1 : Int64) (v3 : Int32), rec131 S v1 v3 = some (Sf, r) → tg_G tauR x S 131 [(0, .ref (tg_ad x 0)), (1, .long v1), (3, .int v3)] []) (S : tg_S) (v1 : Int64) (v3 : Int32) (h : f_X8_digest_131 rec131 S v1 v3 = some (Sf, r)) : tg_G tauR x S 131 [(0, .ref (tg_ad x 0)), (1, .long v1), (3, .int v3)] [] := by
  unfold f_X8_digest_131 at h
  refine tg_iload_n X dX8_digest_131 rfl 2 rfl ?_
  refine tg_bipush X dX8_digest_132 tk_b16 ?_
  refine tg_icmp_ge (tgt := 158) X dX8_digest_134 (by decide) (fun c1 => ?_) (fun c1 => ?_)
  · have h := tg_ifT c1 h
    refine tg_aload_n X dX8_digest_158 rfl 0 rfl ?_
    refine tg_lload_n X dX8_digest_159 rfl 1 rfl ?_
    refine tg_iconst X dX8_digest_160 tk_i0 ?_
    obtain ⟨S2, r3, kS2, h⟩ := tg_bdE h
    refine tg_callV (As := [.long v1, .int 0]) (rest := []) X 0 (cm_X8_teamDigest _ _ _ _ _ kS2) yy_X8_teamDigest wv_X8_teamDigest ws_X8_teamDigest wm_X8_357 rfl cl_X8.1 ⟨rfl, rfl, Nat.le_of_ble_eq_true rfl, Nat.le_of_ble_eq_true rfl⟩ rfl rfl (Nat.le_of_ble_eq_true rfl) dX8_digest_161 rfl ?_
    refine tg_lstore_n (lv2 := [(1, .long r3), (0, .ref (tg_ad x 0)), (3, .int v3)]) X dX8_digest_164 rfl (by decide) rfl ?_
    refine tg_aload_n X dX8_digest_165 rfl 1 rfl ?_
    refine tg_lload_n X dX8_digest_166 rfl 0 rfl ?_
    refine tg_iconst X dX8_digest_167 tk_i1 ?_
    obtain ⟨S4, r5, kS4, h⟩ := tg_bdE h
    refine tg_callV (As := [.long r3, .int 1]) (rest := []) X 0 (cm_X8_teamDigest _ _ _ _ _ kS4) yy_X8_teamDigest wv_X8_teamDigest ws_X8_teamDigest wm_X8_357 rfl cl_X8.1 ⟨rfl, rfl, Nat.le_of_ble_eq_true rfl, Nat.le_of_ble_eq_true rfl⟩ rfl rfl (Nat.le_of_ble_eq_true rfl) dX8_digest_168 rfl ?_
    refine tg_lstore_n (lv2 := [(1, .long r5), (0, .ref (tg_ad x 0)), (3, .int v3)]) X dX8_digest_171 rfl (by decide) rfl ?_
    refine tg_ldc2 X wk_X8_342 dX8_digest_172 ?_
    refine tg_lload_n X dX8_digest_175 rfl 0 rfl ?_
    refine tg_lmul X dX8_digest_176 ?_
    refine tg_aload_n X dX8_digest_177 rfl 1 rfl ?_
    refine tg_iconst X dX8_digest_178 tk_i0 ?_
    obtain ⟨S6, r7, kS6, h⟩ := tg_bdE h
    refine tg_callV (As := [.int 0]) (rest := [.long (31 * r5)]) X 0 (cm_X8_wonOf _ _ _ _ _ kS6) yy_X8_wonOf wv_X8_wonOf ws_X8_wonOf wm_X8_244 rfl cl_X8.1 ⟨rfl, rfl, Nat.le_of_ble_eq_true rfl, Nat.le_of_ble_eq_true rfl⟩ rfl rfl (Nat.le_of_ble_eq_true rfl) dX8_digest_179 rfl ?_
    refine tg_i2l X dX8_digest_182 ?_
    refine tg_ladd X dX8_digest_183 ?_
    refine tg_topl (fun y8 ey8 => ?_)
    have h := tg_nmE ey8 h
    refine tg_lstore_n (lv2 := [(1, .long y8), (0, .ref (tg_ad x 0)), (3, .int v3)]) X dX8_digest_184 rfl (by decide) rfl ?_
    refine tg_ldc2 X wk_X8_342 dX8_digest_185 ?_
    refine tg_lload_n X dX8_digest_188 rfl 0 rfl ?_
    refine tg_lmul X dX8_digest_189 ?_
    refine tg_aload_n X dX8_digest_190 rfl 1 rfl ?_
    refine tg_iconst X dX8_digest_191 tk_i1 ?_
    obtain ⟨S9, r10, kS9, h⟩ := tg_bdE h
    refine tg_callV (As := [.int 1]) (rest := [.long (31 * y8)]) X 0 (cm_X8_wonOf _ _ _ _ _ kS9) yy_X8_wonOf wv_X8_wonOf ws_X8_wonOf wm_X8_244 rfl cl_X8.1 ⟨rfl, rfl, Nat.le_of_ble_eq_true rfl, Nat.le_of_ble_eq_true rfl⟩ rfl rfl (Nat.le_of_ble_eq_true rfl) dX8_digest_192 rfl ?_
    refine tg_i2l X dX8_digest_195 ?_
    refine tg_ladd X dX8_digest_196 ?_
    refine tg_topl (fun y11 ey11 => ?_)
    have h := tg_nmE ey11 h
    refine tg_lstore_n (lv2 := [(1, .long y11), (0, .ref (tg_ad x 0)), (3, .int v3)]) X dX8_digest_197 rfl (by decide) rfl ?_
    refine tg_ldc2 X wk_X8_342 dX8_digest_198 ?_
    refine tg_lload_n X dX8_digest_201 rfl 0 rfl ?_
    refine tg_lmul X dX8_digest_202 ?_
    refine tg_aload_n X dX8_digest_203 rfl 1 rfl ?_
    refine tg_iconst X dX8_digest_204 tk_i0 ?_
    obtain ⟨S12, r13, kS12, h⟩ := tg_bdE h
    refine tg_callV (As := [.int 0]) (rest := [.long (31 * y11)]) X 0 (cm_X8_furthestOf _ _ _ _ _ kS12) yy_X8_furthestOf wv_X8_furthestOf ws_X8_furthestOf wm_X8_247 rfl cl_X8.1 ⟨rfl, rfl, Nat.le_of_ble_eq_true rfl, Nat.le_of_ble_eq_true rfl⟩ rfl rfl (Nat.le_of_ble_eq_true rfl) dX8_digest_205 rfl ?_
    refine tg_i2l X dX8_digest_208 ?_
    refine tg_ladd X dX8_digest_209 ?_
    refine tg_topl (fun y14 ey14 => ?_)
    have h := tg_nmE ey14 h
    refine tg_lstore_n (lv2 := [(1, .long y14), (0, .ref (tg_ad x 0)), (3, .int v3)]) X dX8_digest_210 rfl (by decide) rfl ?_
    refine tg_ldc2 X wk_X8_342 dX8_digest_211 ?_
    refine tg_lload_n X dX8_digest_214 rfl 0 rfl ?_
    refine tg_lmul X dX8_digest_215 ?_
    refine tg_aload_n X dX8_digest_216 rfl 1 rfl ?_
    refine tg_iconst X dX8_digest_217 tk_i1 ?_
    obtain ⟨S15, r16, kS15, h⟩ := tg_bdE h
    refine tg_callV (As := [.int 1]) (rest := [.long (31 * y14)]) X 0 (cm_X8_furthestOf _ _ _ _ _ kS15) yy_X8_furthestOf wv_X8_furthestOf ws_X8_furthestOf wm_X8_247 rfl cl_X8.1 ⟨rfl, rfl, Nat.le_of_ble_eq_true rfl, Nat.le_of_ble_eq_true rfl⟩ rfl rfl (Nat.le_of_ble_eq_true rfl) dX8_digest_218 rfl ?_
    refine tg_i2l X dX8_digest_221 ?_
    refine tg_ladd X dX8_digest_222 ?_
    refine tg_topl (fun y17 ey17 => ?_)
    have h := tg_nmE ey17 h
    refine tg_lstore_n (lv2 := [(1, .long y17), (0, .ref (tg_ad x 0)), (3, .int v3)]) X dX8_digest_223 rfl (by decide) rfl ?_
    refine tg_ldc2 X wk_X8_342 dX8_digest_224 ?_
    refine tg_lload_n X dX8_digest_227 rfl 0 rfl ?_
    refine tg_lmul X dX8_digest_228 ?_
    refine tg_aload_n X dX8_digest_229 rfl 1 rfl ?_
    obtain ⟨S18, r19, kS18, h⟩ := tg_bdE h
    refine tg_callV (As := []) (rest := [.long (31 * y17)]) X 0 (cm_X8_spentOf _ _ _ _ _ kS18) yy_X8_spentOf wv_X8_spentOf ws_X8_spentOf wm_X8_253 rfl cl_X8.1 ⟨rfl, rfl, Nat.le_of_ble_eq_true rfl, Nat.le_of_ble_eq_true rfl⟩ rfl rfl (Nat.le_of_ble_eq_true rfl) dX8_digest_230 rfl ?_
    refine tg_i2l X dX8_digest_233 ?_
    refine tg_ladd X dX8_digest_234 ?_
    refine tg_topl (fun y20 ey20 => ?_)
    have h := tg_nmE ey20 h
    refine tg_lstore_n (lv2 := [(1, .long y20), (0, .ref (tg_ad x 0)), (3, .int v3)]) X dX8_digest_235 rfl (by decide) rfl ?_
    refine tg_ldc2 X wk_X8_342 dX8_digest_236 ?_
    refine tg_lload_n X dX8_digest_239 rfl 0 rfl ?_
    refine tg_lmul X dX8_digest_240 ?_
    refine tg_aload_n X dX8_digest_241 rfl 1 rfl ?_
    obtain ⟨S21, r22, kS21, h⟩ := tg_bdE h
    refine tg_callV (As := []) (rest := [.long (31 * y20)]) X 0 (cm_X8_bestOf _ _ _ _ _ kS21) yy_X8_bestOf wv_X8_bestOf ws_X8_bestOf wm_X8_257 rfl cl_X8.1 ⟨rfl, rfl, Nat.le_of_ble_eq_true rfl, Nat.le_of_ble_eq_true rfl⟩ rfl rfl (Nat.le_of_ble_eq_true rfl) dX8_digest_242 rfl ?_
    refine tg_i2l X dX8_digest_245 ?_
    refine tg_ladd X dX8_digest_246 ?_
    refine tg_topl (fun y23 ey23 => ?_)
    have h := tg_nmE ey23 h
    refine tg_lstore_n (lv2 := [(1, .long y23), (0, .ref (tg_ad x 0)), (3, .int v3)]) X dX8_digest_247 rfl (by decide) rfl ?_
    refine tg_ldc2 X wk_X8_342 dX8_digest_248 ?_
    refine tg_lload_n X dX8_digest_251 rfl 0 rfl ?_
    refine tg_lmul X dX8_digest_252 ?_
    refine tg_aload_n X dX8_digest_253 rfl 1 rfl ?_
    obtain ⟨S24, r25, kS24, h⟩ := tg_bdE h
    refine tg_callV (As := []) (rest := [.long (31 * y23)]) X 0 (cm_X8_levelOf _ _ _ _ _ kS24) yy_X8_levelOf wv_X8_levelOf ws_X8_levelOf wm_X8_260 rfl cl_X8.1 ⟨rfl, rfl, Nat.le_of_ble_eq_true rfl, Nat.le_of_ble_eq_true rfl⟩ rfl rfl (Nat.le_of_ble_eq_true rfl) dX8_digest_254 rfl ?_
    refine tg_i2l X dX8_digest_257 ?_
    refine tg_ladd X dX8_digest_258 ?_
    refine tg_topl (fun y26 ey26 => ?_)
    have h := tg_nmE ey26 h
    refine tg_lstore_n (lv2 := [(1, .long y26), (0, .ref (tg_ad x 0)), (3, .int v3)]) X dX8_digest_259 rfl (by decide) rfl ?_
    refine tg_aload_n X dX8_digest_260 rfl 1 rfl ?_
    obtain ⟨S27, r28, kS27, h⟩ := tg_bdE h
    refine tg_callV (As := []) (rest := []) X 0 (cm_X8_spareBy _ _ _ _ _ kS27) yy_X8_spareBy wv_X8_spareBy ws_X8_spareBy wm_X8_287 rfl cl_X8.1 ⟨rfl, rfl, Nat.le_of_ble_eq_true rfl, Nat.le_of_ble_eq_true rfl⟩ rfl rfl (Nat.le_of_ble_eq_true rfl) dX8_digest_261 rfl ?_
    refine tg_istore_n (lv2 := [(3, .int r28), (1, .long y26), (0, .ref (tg_ad x 0))]) X dX8_digest_264 rfl (by decide) rfl ?_
    refine tg_ldc2 X wk_X8_342 dX8_digest_265 ?_
    refine tg_lload_n X dX8_digest_268 rfl 1 rfl ?_
    refine tg_lmul X dX8_digest_269 ?_
    refine tg_iload_n X dX8_digest_270 rfl 0 rfl ?_
    refine tg_i2l X dX8_digest_271 ?_
    refine tg_ladd X dX8_digest_272 ?_
    refine tg_topl (fun y29 ey29 => ?_)
    have h := tg_nmE ey29 h
    refine tg_lstore_n (lv2 := [(1, .long y29), (3, .int r28), (0, .ref (tg_ad x 0))]) X dX8_digest_273 rfl (by decide) rfl ?_
    refine tg_ldc2 X wk_X8_342 dX8_digest_274 ?_
    refine tg_lload_n X dX8_digest_277 rfl 0 rfl ?_
    refine tg_lmul X dX8_digest_278 ?_
    refine tg_aload_n X dX8_digest_279 rfl 2 rfl ?_
    refine tg_iload_n X dX8_digest_280 rfl 1 rfl ?_
    refine tg_iconst X dX8_digest_281 tk_i0 ?_
    obtain ⟨S30, r31, kS30, h⟩ := tg_bdE h
    refine tg_callV (As := [.int r28, .int 0]) (rest := [.long (31 * y29)]) X 0 (cm_X8_ofRow _ _ _ _ _ kS30) yy_X8_ofRow wv_X8_ofRow ws_X8_ofRow wm_X8_290 rfl cl_X8.1 ⟨rfl, rfl, Nat.le_of_ble_eq_true rfl, Nat.le_of_ble_eq_true rfl⟩ rfl rfl (Nat.le_of_ble_eq_true rfl) dX8_digest_282 rfl ?_
    refine tg_i2l X dX8_digest_285 ?_
    refine tg_ladd X dX8_digest_286 ?_
    refine tg_topl (fun y32 ey32 => ?_)
    have h := tg_nmE ey32 h
    refine tg_lstore_n (lv2 := [(1, .long y32), (3, .int r28), (0, .ref (tg_ad x 0))]) X dX8_digest_287 rfl (by decide) rfl ?_
    refine tg_ldc2 X wk_X8_342 dX8_digest_288 ?_
    refine tg_lload_n X dX8_digest_291 rfl 0 rfl ?_
    refine tg_lmul X dX8_digest_292 ?_
    refine tg_aload_n X dX8_digest_293 rfl 2 rfl ?_
    obtain ⟨S33, r34, kS33, h⟩ := tg_bdE h
    refine tg_callV (As := []) (rest := [.long (31 * y32)]) X 0 (cm_X8_neverNow _ _ _ _ _ kS33) yy_X8_neverNow wv_X8_neverNow ws_X8_neverNow wm_X8_300 rfl cl_X8.1 ⟨rfl, rfl, Nat.le_of_ble_eq_true rfl, Nat.le_of_ble_eq_true rfl⟩ rfl rfl (Nat.le_of_ble_eq_true rfl) dX8_digest_294 rfl ?_
    refine tg_i2l X dX8_digest_297 ?_
    refine tg_ladd X dX8_digest_298 ?_
    refine tg_topl (fun y35 ey35 => ?_)
    have h := tg_nmE ey35 h
    refine tg_lstore_n (lv2 := [(1, .long y35), (3, .int r28), (0, .ref (tg_ad x 0))]) X dX8_digest_299 rfl (by decide) rfl ?_
    refine tg_ldc2 X wk_X8_342 dX8_digest_300 ?_
    refine tg_lload_n X dX8_digest_303 rfl 0 rfl ?_
    refine tg_lmul X dX8_digest_304 ?_
    refine tg_aload_n X dX8_digest_305 rfl 2 rfl ?_
    refine tg_bipush X dX8_digest_306 tk_b7 ?_
    refine tg_bipush X dX8_digest_308 tk_b18 ?_
    refine tg_iconst X dX8_digest_310 tk_i0 ?_
    obtain ⟨S36, r37, kS36, h⟩ := tg_bdE h
    refine tg_callV (As := [.int 7, .int 18, .int 0]) (rest := [.long (31 * y35)]) X 0 (cm_X8_yearsOf _ _ _ _ _ kS36) yy_X8_yearsOf wv_X8_yearsOf ws_X8_yearsOf wm_X8_325 rfl cl_X8.1 ⟨rfl, rfl, Nat.le_of_ble_eq_true rfl, Nat.le_of_ble_eq_true rfl⟩ rfl rfl (Nat.le_of_ble_eq_true rfl) dX8_digest_311 rfl ?_
    refine tg_i2l X dX8_digest_314 ?_
    refine tg_ladd X dX8_digest_315 ?_
    refine tg_topl (fun y38 ey38 => ?_)
    have h := tg_nmE ey38 h
    refine tg_lstore_n (lv2 := [(1, .long y38), (3, .int r28), (0, .ref (tg_ad x 0))]) X dX8_digest_316 rfl (by decide) rfl ?_
    refine tg_ldc2 X wk_X8_342 dX8_digest_317 ?_
    refine tg_lload_n X dX8_digest_320 rfl 0 rfl ?_
    refine tg_lmul X dX8_digest_321 ?_
    refine tg_aload_n X dX8_digest_322 rfl 2 rfl ?_
    refine tg_bipush X dX8_digest_323 tk_b7 ?_
    refine tg_bipush X dX8_digest_325 tk_b18 ?_
    refine tg_iconst X dX8_digest_327 tk_i1 ?_
    obtain ⟨S39, r40, kS39, h⟩ := tg_bdE h
    refine tg_callV (As := [.int 7, .int 18, .int 1]) (rest := [.long (31 * y38)]) X 0 (cm_X8_yearsOf _ _ _ _ _ kS39) yy_X8_yearsOf wv_X8_yearsOf ws_X8_yearsOf wm_X8_325 rfl cl_X8.1 ⟨rfl, rfl, Nat.le_of_ble_eq_true rfl, Nat.le_of_ble_eq_true rfl⟩ rfl rfl (Nat.le_of_ble_eq_true rfl) dX8_digest_328 rfl ?_
    refine tg_i2l X dX8_digest_331 ?_
    refine tg_ladd X dX8_digest_332 ?_
    exact tg_lret X h rfl dX8_digest_333
  · have h := tg_ifF c1 h
    refine tg_aload_n X dX8_digest_137 rfl 0 rfl ?_
    refine tg_iload_n X dX8_digest_138 rfl 2 rfl ?_
    obtain ⟨S41, r42, kS41, h⟩ := tg_bdE h
    refine tg_callV (As := [.int v3]) (rest := []) X 0 (cm_X8_isThereOne _ _ _ _ _ kS41) yy_X8_isThereOne wv_X8_isThereOne ws_X8_isThereOne wm_X8_141 rfl cl_X8.1 ⟨rfl, rfl, Nat.le_of_ble_eq_true rfl, Nat.le_of_ble_eq_true rfl⟩ rfl rfl (Nat.le_of_ble_eq_true rfl) dX8_digest_139 rfl ?_
    refine tg_if_eq (tgt := 152) X dX8_digest_142 (by decide) (fun c43 => ?_) (fun c43 => ?_)
    · have h := tg_ifT c43 h
      exact w_X8_digest_152 X hr131 S41 v1 v3 h
    · have h := tg_ifF c43 h
      refine tg_aload_n X dX8_digest_145 rfl 0 rfl ?_
      refine tg_lload_n X dX8_digest_146 rfl 1 rfl ?_
      refine tg_iload_n X dX8_digest_147 rfl 2 rfl ?_
      obtain ⟨S44, r45, kS44, h⟩ := tg_bdE h
      refine tg_callV (As := [.long v1, .int v3]) (rest := []) X 0 (cm_X8_pullerDigest _ _ _ _ _ kS44) yy_X8_pullerDigest wv_X8_pullerDigest ws_X8_pullerDigest wm_X8_353 rfl cl_X8.1 ⟨rfl, rfl, Nat.le_of_ble_eq_true rfl, Nat.le_of_ble_eq_true rfl⟩ rfl rfl (Nat.le_of_ble_eq_true rfl) dX8_digest_148 rfl ?_
      refine tg_lstore_n (lv2 := [(1, .long r45), (0, .ref (tg_ad x 0)), (3, .int v3)]) X dX8_digest_151 rfl (by decide) rfl ?_
      refine tg_re [1, 0, 2] rfl ?_
      exact w_X8_digest_152 X hr131 S44 r45 v3 h
theorem wl_X8_digest_131 {x : tg_X} {Sf : tg_S} {r : Int64} (X : tg_M tauR x cX8_digest 5 RX8 zr_X8_digest (some .long) Sf (some (.long r))) : ∀ (n : Nat) (S : tg_S) (v1 : Int64) (v3 : Int32) (h : L_X8_digest_131  n S v1 v3 = some (Sf, r)), tg_G tauR x S 131 [(0, .ref (tg_ad x 0)), (1, .long v1), (3, .int v3)] [] := by
  intro n
  induction n with
  | zero => intro S v1 v3 h; cases h
  | succ n ih => intro S v1 v3 h; exact w_X8_digest_131 X  ih S v1 v3 h
set_option maxRecDepth 20000 in
set_option maxHeartbeats 4000000 in
theorem w_X8_digest_96 {x : tg_X} {Sf : tg_S} {r : Int64} {rec59 : tg_S → Int64 → Int32 → Option (tg_S × Int64)} {rec96 : tg_S → Int64 → Int32 → Int32 → Option (tg_S × Int64)} (X : tg_M tauR x cX8_digest 5 RX8 zr_X8_digest (some .long) Sf (some (.long r))) (hr59 : ∀ (S : tg_S) (v1 : Int64) (v3 : Int32), rec59 S v1 v3 = some (Sf, r) → tg_G tauR x S 59 [(0, .ref (tg_ad x 0)), (1, .long v1), (3, .int v3)] []) (hr96 : ∀ (S : tg_S) (v1 : Int64) (v3 : Int32) (v4 : Int32), rec96 S v1 v3 v4 = some (Sf, r) → tg_G tauR x S 96 [(0, .ref (tg_ad x 0)), (1, .long v1), (3, .int v3), (4, .int v4)] []) (S : tg_S) (v1 : Int64) (v3 : Int32) (v4 : Int32) (h : f_X8_digest_96 rec59 rec96 S v1 v3 v4 = some (Sf, r)) : tg_G tauR x S 96 [(0, .ref (tg_ad x 0)), (1, .long v1), (3, .int v3), (4, .int v4)] [] := by
  unfold f_X8_digest_96 at h
  refine tg_iload X dX8_digest_96 3 rfl ?_
  refine tg_iconst X dX8_digest_98 tk_i4 ?_
  refine tg_icmp_ge (tgt := 123) X dX8_digest_99 (by decide) (fun c1 => ?_) (fun c1 => ?_)
  · have h := tg_ifT c1 h
    obtain ⟨y2, ey2⟩ : ∃ z : Int32, z = v3 + 1 := ⟨_, rfl⟩
    have h := tg_nmE ey2 h
    refine tg_iinc (lv2 := [(3, .int y2), (0, .ref (tg_ad x 0)), (1, .long v1), (4, .int v4)]) X dX8_digest_123 2 rfl tk_i1 ey2 (by decide) rfl ?_
    refine tg_goto (tgt := 59) X dX8_digest_126 (by decide) ?_
    refine tg_re [1, 2, 0] rfl ?_
    exact hr59 S v1 y2 h
  · have h := tg_ifF c1 h
    refine tg_ldc2 X wk_X8_342 dX8_digest_102 ?_
    refine tg_lload_n X dX8_digest_105 rfl 1 rfl ?_
    refine tg_lmul X dX8_digest_106 ?_
    refine tg_aload_n X dX8_digest_107 rfl 0 rfl ?_
    refine tg_iload_n X dX8_digest_108 rfl 2 rfl ?_
    refine tg_iload X dX8_digest_109 3 rfl ?_
    obtain ⟨S3, r4, kS3, h⟩ := tg_bdE h
    refine tg_callV (As := [.int v3, .int v4]) (rest := [.long (31 * v1)]) X 0 (cm_X8_ropeOf _ _ _ _ _ kS3) yy_X8_ropeOf wv_X8_ropeOf ws_X8_ropeOf wm_X8_238 rfl cl_X8.1 ⟨rfl, rfl, Nat.le_of_ble_eq_true rfl, Nat.le_of_ble_eq_true rfl⟩ rfl rfl (Nat.le_of_ble_eq_true rfl) dX8_digest_111 rfl ?_
    refine tg_i2l X dX8_digest_114 ?_
    refine tg_ladd X dX8_digest_115 ?_
    refine tg_topl (fun y5 ey5 => ?_)
    have h := tg_nmE ey5 h
    refine tg_lstore_n (lv2 := [(1, .long y5), (0, .ref (tg_ad x 0)), (3, .int v3), (4, .int v4)]) X dX8_digest_116 rfl (by decide) rfl ?_
    obtain ⟨y6, ey6⟩ : ∃ z : Int32, z = v4 + 1 := ⟨_, rfl⟩
    have h := tg_nmE ey6 h
    refine tg_iinc (lv2 := [(4, .int y6), (1, .long y5), (0, .ref (tg_ad x 0)), (3, .int v3)]) X dX8_digest_117 3 rfl tk_i1 ey6 (by decide) rfl ?_
    refine tg_goto (tgt := 96) X dX8_digest_120 (by decide) ?_
    refine tg_re [2, 1, 3, 0] rfl ?_
    exact hr96 S3 y5 v3 y6 h
theorem wl_X8_digest_96 {x : tg_X} {Sf : tg_S} {r : Int64} {rec59 : tg_S → Int64 → Int32 → Option (tg_S × Int64)} (X : tg_M tauR x cX8_digest 5 RX8 zr_X8_digest (some .long) Sf (some (.long r))) (hr59 : ∀ (S : tg_S) (v1 : Int64) (v3 : Int32), rec59 S v1 v3 = some (Sf, r) → tg_G tauR x S 59 [(0, .ref (tg_ad x 0)), (1, .long v1), (3, .int v3)] []) : ∀ (n : Nat) (S : tg_S) (v1 : Int64) (v3 : Int32) (v4 : Int32) (h : L_X8_digest_96 rec59 n S v1 v3 v4 = some (Sf, r)), tg_G tauR x S 96 [(0, .ref (tg_ad x 0)), (1, .long v1), (3, .int v3), (4, .int v4)] [] := by
  intro n
  induction n with
  | zero => intro S v1 v3 v4 h; cases h
  | succ n ih => intro S v1 v3 v4 h; exact w_X8_digest_96 X hr59 ih S v1 v3 v4 h
set_option maxRecDepth 20000 in
set_option maxHeartbeats 4000000 in
theorem w_X8_digest_59 {x : tg_X} {Sf : tg_S} {r : Int64} {rec59 : tg_S → Int64 → Int32 → Option (tg_S × Int64)} (X : tg_M tauR x cX8_digest 5 RX8 zr_X8_digest (some .long) Sf (some (.long r))) (hr59 : ∀ (S : tg_S) (v1 : Int64) (v3 : Int32), rec59 S v1 v3 = some (Sf, r) → tg_G tauR x S 59 [(0, .ref (tg_ad x 0)), (1, .long v1), (3, .int v3)] []) (S : tg_S) (v1 : Int64) (v3 : Int32) (h : f_X8_digest_59 rec59 S v1 v3 = some (Sf, r)) : tg_G tauR x S 59 [(0, .ref (tg_ad x 0)), (1, .long v1), (3, .int v3)] [] := by
  unfold f_X8_digest_59 at h
  refine tg_iload_n X dX8_digest_59 rfl 2 rfl ?_
  refine tg_bipush X dX8_digest_60 tk_b24 ?_
  refine tg_icmp_ge (tgt := 129) X dX8_digest_62 (by decide) (fun c1 => ?_) (fun c1 => ?_)
  · have h := tg_ifT c1 h
    refine tg_iconst X dX8_digest_129 tk_i0 ?_
    refine tg_istore_n (lv2 := [(3, .int 0), (0, .ref (tg_ad x 0)), (1, .long v1)]) X dX8_digest_130 rfl (by decide) rfl ?_
    refine tg_re [1, 2, 0] rfl ?_
    exact wl_X8_digest_131 X  tg_F S v1 0 h
  · have h := tg_ifF c1 h
    refine tg_ldc2 X wk_X8_342 dX8_digest_65 ?_
    refine tg_lload_n X dX8_digest_68 rfl 1 rfl ?_
    refine tg_lmul X dX8_digest_69 ?_
    refine tg_aload_n X dX8_digest_70 rfl 0 rfl ?_
    refine tg_iconst X dX8_digest_71 tk_i0 ?_
    refine tg_iload_n X dX8_digest_72 rfl 2 rfl ?_
    obtain ⟨S2, r3, kS2, h⟩ := tg_bdE h
    refine tg_callV (As := [.int 0, .int v3]) (rest := [.long (31 * v1)]) X 0 (cm_X8_callOf _ _ _ _ _ kS2) yy_X8_callOf wv_X8_callOf ws_X8_callOf wm_X8_159 rfl cl_X8.1 ⟨rfl, rfl, Nat.le_of_ble_eq_true rfl, Nat.le_of_ble_eq_true rfl⟩ rfl rfl (Nat.le_of_ble_eq_true rfl) dX8_digest_73 rfl ?_
    refine tg_i2l X dX8_digest_76 ?_
    refine tg_ladd X dX8_digest_77 ?_
    refine tg_topl (fun y4 ey4 => ?_)
    have h := tg_nmE ey4 h
    refine tg_lstore_n (lv2 := [(1, .long y4), (0, .ref (tg_ad x 0)), (3, .int v3)]) X dX8_digest_78 rfl (by decide) rfl ?_
    refine tg_ldc2 X wk_X8_342 dX8_digest_79 ?_
    refine tg_lload_n X dX8_digest_82 rfl 0 rfl ?_
    refine tg_lmul X dX8_digest_83 ?_
    refine tg_aload_n X dX8_digest_84 rfl 1 rfl ?_
    refine tg_iconst X dX8_digest_85 tk_i1 ?_
    refine tg_iload_n X dX8_digest_86 rfl 2 rfl ?_
    obtain ⟨S5, r6, kS5, h⟩ := tg_bdE h
    refine tg_callV (As := [.int 1, .int v3]) (rest := [.long (31 * y4)]) X 0 (cm_X8_callOf _ _ _ _ _ kS5) yy_X8_callOf wv_X8_callOf ws_X8_callOf wm_X8_159 rfl cl_X8.1 ⟨rfl, rfl, Nat.le_of_ble_eq_true rfl, Nat.le_of_ble_eq_true rfl⟩ rfl rfl (Nat.le_of_ble_eq_true rfl) dX8_digest_87 rfl ?_
    refine tg_i2l X dX8_digest_90 ?_
    refine tg_ladd X dX8_digest_91 ?_
    refine tg_topl (fun y7 ey7 => ?_)
    have h := tg_nmE ey7 h
    refine tg_lstore_n (lv2 := [(1, .long y7), (0, .ref (tg_ad x 0)), (3, .int v3)]) X dX8_digest_92 rfl (by decide) rfl ?_
    refine tg_iconst X dX8_digest_93 tk_i0 ?_
    refine tg_istore (lv2 := [(4, .int 0), (1, .long y7), (0, .ref (tg_ad x 0)), (3, .int v3)]) X dX8_digest_94 (by decide) rfl ?_
    refine tg_re [2, 1, 3, 0] rfl ?_
    exact wl_X8_digest_96 X hr59 tg_F S5 y7 v3 0 h
theorem wl_X8_digest_59 {x : tg_X} {Sf : tg_S} {r : Int64} (X : tg_M tauR x cX8_digest 5 RX8 zr_X8_digest (some .long) Sf (some (.long r))) : ∀ (n : Nat) (S : tg_S) (v1 : Int64) (v3 : Int32) (h : L_X8_digest_59  n S v1 v3 = some (Sf, r)), tg_G tauR x S 59 [(0, .ref (tg_ad x 0)), (1, .long v1), (3, .int v3)] [] := by
  intro n
  induction n with
  | zero => intro S v1 v3 h; cases h
  | succ n ih => intro S v1 v3 h; exact w_X8_digest_59 X  ih S v1 v3 h
set_option maxRecDepth 20000 in
set_option maxHeartbeats 4000000 in
theorem w_X8_digest_33 {x : tg_X} {Sf : tg_S} {r : Int64} {rec33 : tg_S → Int64 → Int32 → Option (tg_S × Int64)} (X : tg_M tauR x cX8_digest 5 RX8 zr_X8_digest (some .long) Sf (some (.long r))) (hr33 : ∀ (S : tg_S) (v1 : Int64) (v3 : Int32), rec33 S v1 v3 = some (Sf, r) → tg_G tauR x S 33 [(0, .ref (tg_ad x 0)), (1, .long v1), (3, .int v3)] []) (S : tg_S) (v1 : Int64) (v3 : Int32) (h : f_X8_digest_33 rec33 S v1 v3 = some (Sf, r)) : tg_G tauR x S 33 [(0, .ref (tg_ad x 0)), (1, .long v1), (3, .int v3)] [] := by
  unfold f_X8_digest_33 at h
  refine tg_iload_n X dX8_digest_33 rfl 2 rfl ?_
  refine tg_iconst X dX8_digest_34 tk_i4 ?_
  refine tg_icmp_ge (tgt := 57) X dX8_digest_35 (by decide) (fun c1 => ?_) (fun c1 => ?_)
  · have h := tg_ifT c1 h
    refine tg_iconst X dX8_digest_57 tk_i0 ?_
    refine tg_istore_n (lv2 := [(3, .int 0), (0, .ref (tg_ad x 0)), (1, .long v1)]) X dX8_digest_58 rfl (by decide) rfl ?_
    refine tg_re [1, 2, 0] rfl ?_
    exact wl_X8_digest_59 X  tg_F S v1 0 h
  · have h := tg_ifF c1 h
    refine tg_ldc2 X wk_X8_342 dX8_digest_38 ?_
    refine tg_lload_n X dX8_digest_41 rfl 1 rfl ?_
    refine tg_lmul X dX8_digest_42 ?_
    refine tg_aload_n X dX8_digest_43 rfl 0 rfl ?_
    refine tg_iload_n X dX8_digest_44 rfl 2 rfl ?_
    obtain ⟨S2, r3, kS2, h⟩ := tg_bdE h
    refine tg_callV (As := [.int v3]) (rest := [.long (31 * v1)]) X 0 (cm_X8_faultOf _ _ _ _ _ kS2) yy_X8_faultOf wv_X8_faultOf ws_X8_faultOf wm_X8_135 rfl cl_X8.1 ⟨rfl, rfl, Nat.le_of_ble_eq_true rfl, Nat.le_of_ble_eq_true rfl⟩ rfl rfl (Nat.le_of_ble_eq_true rfl) dX8_digest_45 rfl ?_
    refine tg_i2l X dX8_digest_48 ?_
    refine tg_ladd X dX8_digest_49 ?_
    refine tg_topl (fun y4 ey4 => ?_)
    have h := tg_nmE ey4 h
    refine tg_lstore_n (lv2 := [(1, .long y4), (0, .ref (tg_ad x 0)), (3, .int v3)]) X dX8_digest_50 rfl (by decide) rfl ?_
    obtain ⟨y5, ey5⟩ : ∃ z : Int32, z = v3 + 1 := ⟨_, rfl⟩
    have h := tg_nmE ey5 h
    refine tg_iinc (lv2 := [(3, .int y5), (1, .long y4), (0, .ref (tg_ad x 0))]) X dX8_digest_51 2 rfl tk_i1 ey5 (by decide) rfl ?_
    refine tg_goto (tgt := 33) X dX8_digest_54 (by decide) ?_
    refine tg_re [2, 1, 0] rfl ?_
    exact hr33 S2 y4 y5 h
theorem wl_X8_digest_33 {x : tg_X} {Sf : tg_S} {r : Int64} (X : tg_M tauR x cX8_digest 5 RX8 zr_X8_digest (some .long) Sf (some (.long r))) : ∀ (n : Nat) (S : tg_S) (v1 : Int64) (v3 : Int32) (h : L_X8_digest_33  n S v1 v3 = some (Sf, r)), tg_G tauR x S 33 [(0, .ref (tg_ad x 0)), (1, .long v1), (3, .int v3)] [] := by
  intro n
  induction n with
  | zero => intro S v1 v3 h; cases h
  | succ n ih => intro S v1 v3 h; exact w_X8_digest_33 X  ih S v1 v3 h
set_option maxRecDepth 20000 in
set_option maxHeartbeats 4000000 in
theorem w_X8_digest_6 {x : tg_X} {Sf : tg_S} {r : Int64} {rec6 : tg_S → Int64 → Int32 → Option (tg_S × Int64)} (X : tg_M tauR x cX8_digest 5 RX8 zr_X8_digest (some .long) Sf (some (.long r))) (hr6 : ∀ (S : tg_S) (v1 : Int64) (v3 : Int32), rec6 S v1 v3 = some (Sf, r) → tg_G tauR x S 6 [(0, .ref (tg_ad x 0)), (1, .long v1), (3, .int v3)] []) (S : tg_S) (v1 : Int64) (v3 : Int32) (h : f_X8_digest_6 rec6 S v1 v3 = some (Sf, r)) : tg_G tauR x S 6 [(0, .ref (tg_ad x 0)), (1, .long v1), (3, .int v3)] [] := by
  unfold f_X8_digest_6 at h
  refine tg_iload_n X dX8_digest_6 rfl 2 rfl ?_
  refine tg_bipush X dX8_digest_7 tk_b8 ?_
  refine tg_icmp_ge (tgt := 31) X dX8_digest_9 (by decide) (fun c1 => ?_) (fun c1 => ?_)
  · have h := tg_ifT c1 h
    refine tg_iconst X dX8_digest_31 tk_i0 ?_
    refine tg_istore_n (lv2 := [(3, .int 0), (0, .ref (tg_ad x 0)), (1, .long v1)]) X dX8_digest_32 rfl (by decide) rfl ?_
    refine tg_re [1, 2, 0] rfl ?_
    exact wl_X8_digest_33 X  tg_F S v1 0 h
  · have h := tg_ifF c1 h
    refine tg_ldc2 X wk_X8_342 dX8_digest_12 ?_
    refine tg_lload_n X dX8_digest_15 rfl 1 rfl ?_
    refine tg_lmul X dX8_digest_16 ?_
    refine tg_aload_n X dX8_digest_17 rfl 0 rfl ?_
    refine tg_iload_n X dX8_digest_18 rfl 2 rfl ?_
    obtain ⟨S2, r3, kS2, h⟩ := tg_bdE h
    refine tg_callV (As := [.int v3]) (rest := [.long (31 * v1)]) X 0 (cm_X8_count _ _ _ _ _ kS2) yy_X8_count wv_X8_count ws_X8_count wm_X8_350 rfl cl_X8.1 ⟨rfl, rfl, Nat.le_of_ble_eq_true rfl, Nat.le_of_ble_eq_true rfl⟩ rfl rfl (Nat.le_of_ble_eq_true rfl) dX8_digest_19 rfl ?_
    refine tg_i2l X dX8_digest_22 ?_
    refine tg_ladd X dX8_digest_23 ?_
    refine tg_topl (fun y4 ey4 => ?_)
    have h := tg_nmE ey4 h
    refine tg_lstore_n (lv2 := [(1, .long y4), (0, .ref (tg_ad x 0)), (3, .int v3)]) X dX8_digest_24 rfl (by decide) rfl ?_
    obtain ⟨y5, ey5⟩ : ∃ z : Int32, z = v3 + 1 := ⟨_, rfl⟩
    have h := tg_nmE ey5 h
    refine tg_iinc (lv2 := [(3, .int y5), (1, .long y4), (0, .ref (tg_ad x 0))]) X dX8_digest_25 2 rfl tk_i1 ey5 (by decide) rfl ?_
    refine tg_goto (tgt := 6) X dX8_digest_28 (by decide) ?_
    refine tg_re [2, 1, 0] rfl ?_
    exact hr6 S2 y4 y5 h
theorem wl_X8_digest_6 {x : tg_X} {Sf : tg_S} {r : Int64} (X : tg_M tauR x cX8_digest 5 RX8 zr_X8_digest (some .long) Sf (some (.long r))) : ∀ (n : Nat) (S : tg_S) (v1 : Int64) (v3 : Int32) (h : L_X8_digest_6  n S v1 v3 = some (Sf, r)), tg_G tauR x S 6 [(0, .ref (tg_ad x 0)), (1, .long v1), (3, .int v3)] [] := by
  intro n
  induction n with
  | zero => intro S v1 v3 h; cases h
  | succ n ih => intro S v1 v3 h; exact w_X8_digest_6 X  ih S v1 v3 h
set_option maxRecDepth 20000 in
set_option maxHeartbeats 4000000 in
theorem w_X8_digest_0 {x : tg_X} {Sf : tg_S} {r : Int64} (X : tg_M tauR x cX8_digest 5 RX8 zr_X8_digest (some .long) Sf (some (.long r))) (S : tg_S) (h : f_X8_digest  S  = some (Sf, r)) : tg_G tauR x S 0 [(0, .ref (tg_ad x 0))] [] := by
  unfold f_X8_digest at h
  refine tg_ldc2 X wk_X8_348 dX8_digest_0 ?_
  refine tg_lstore_n (lv2 := [(1, .long 17), (0, .ref (tg_ad x 0))]) X dX8_digest_3 rfl (by decide) rfl ?_
  refine tg_iconst X dX8_digest_4 tk_i0 ?_
  refine tg_istore_n (lv2 := [(3, .int 0), (1, .long 17), (0, .ref (tg_ad x 0))]) X dX8_digest_5 rfl (by decide) rfl ?_
  refine tg_re [2, 1, 0] rfl ?_
  exact wl_X8_digest_6 X  tg_F S 17 0 h
theorem cm_X8_digest (l : Launch) (D : va_G) (cy : Bool → ClassId) (ad : Nat → Nat) (tS : Nat) {S Sf : tg_S} {r : Int64} (h : f_X8_digest  S  = some (Sf, r)) : tg_Met l yX8_digest cX8_digest 5 (some .long) zr_X8_digest tauR D cy ad tS S [.ref (ad 0)] Sf (some (.long r)) := tg_mk (by decide +kernel) trivial (Nat.le_of_ble_eq_true rfl) (fun p e s m args below meth c Q A X => w_X8_digest_0 X S  h)
