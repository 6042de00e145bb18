-- X8_pullsOne
def zr_X8_pullsOne : Room := { frames := 1, cells := 0, slots := 0, locals := 24 }
theorem dX8_pullsOne_0 : decode cX8_pullsOne 0 = .ok (.aload_n 0, 1) := by decide +kernel
theorem dX8_pullsOne_1 : decode cX8_pullsOne 1 = .ok (.getfield 184, 3) := by decide +kernel
theorem dX8_pullsOne_4 : decode cX8_pullsOne 4 = .ok (.iconst 1, 1) := by decide +kernel
theorem dX8_pullsOne_5 : decode cX8_pullsOne 5 = .ok (.if_icmp .ne 7, 3) := by decide +kernel
theorem dX8_pullsOne_8 : decode cX8_pullsOne 8 = .ok (.iconst 0, 1) := by decide +kernel
theorem dX8_pullsOne_9 : decode cX8_pullsOne 9 = .ok (.goto 17, 3) := by decide +kernel
theorem dX8_pullsOne_12 : decode cX8_pullsOne 12 = .ok (.aload_n 0, 1) := by decide +kernel
theorem dX8_pullsOne_13 : decode cX8_pullsOne 13 = .ok (.getfield 43, 3) := by decide +kernel
theorem dX8_pullsOne_16 : decode cX8_pullsOne 16 = .ok (.bipush 24, 2) := by decide +kernel
theorem dX8_pullsOne_18 : decode cX8_pullsOne 18 = .ok (.iload_n 1, 1) := by decide +kernel
theorem dX8_pullsOne_19 : decode cX8_pullsOne 19 = .ok (.bipush 8, 2) := by decide +kernel
theorem dX8_pullsOne_21 : decode cX8_pullsOne 21 = .ok (.idiv, 1) := by decide +kernel
theorem dX8_pullsOne_22 : decode cX8_pullsOne 22 = .ok (.imul, 1) := by decide +kernel
theorem dX8_pullsOne_23 : decode cX8_pullsOne 23 = .ok (.iload_n 2, 1) := by decide +kernel
theorem dX8_pullsOne_24 : decode cX8_pullsOne 24 = .ok (.iadd, 1) := by decide +kernel
theorem dX8_pullsOne_25 : decode cX8_pullsOne 25 = .ok (.iaload, 1) := by decide +kernel
theorem dX8_pullsOne_26 : decode cX8_pullsOne 26 = .ok (.istore_n 3, 1) := by decide +kernel
theorem dX8_pullsOne_27 : decode cX8_pullsOne 27 = .ok (.aload_n 0, 1) := by decide +kernel
theorem dX8_pullsOne_28 : decode cX8_pullsOne 28 = .ok (.getfield 187, 3) := by decide +kernel
theorem dX8_pullsOne_31 : decode cX8_pullsOne 31 = .ok (.iload_n 1, 1) := by decide +kernel
theorem dX8_pullsOne_32 : decode cX8_pullsOne 32 = .ok (.invokestatic 190, 3) := by decide +kernel
theorem dX8_pullsOne_35 : decode cX8_pullsOne 35 = .ok (.ifCond .eq 7, 3) := by decide +kernel
theorem dX8_pullsOne_38 : decode cX8_pullsOne 38 = .ok (.iconst 0, 1) := by decide +kernel
theorem dX8_pullsOne_39 : decode cX8_pullsOne 39 = .ok (.goto 9, 3) := by decide +kernel
theorem dX8_pullsOne_42 : decode cX8_pullsOne 42 = .ok (.aload_n 0, 1) := by decide +kernel
theorem dX8_pullsOne_43 : decode cX8_pullsOne 43 = .ok (.iload_n 1, 1) := by decide +kernel
theorem dX8_pullsOne_44 : decode cX8_pullsOne 44 = .ok (.iload_n 3, 1) := by decide +kernel
theorem dX8_pullsOne_45 : decode cX8_pullsOne 45 = .ok (.invokevirtual 197, 3) := by decide +kernel
theorem dX8_pullsOne_48 : decode cX8_pullsOne 48 = .ok (.istore 4, 2) := by decide +kernel
theorem dX8_pullsOne_50 : decode cX8_pullsOne 50 = .ok (.aload_n 0, 1) := by decide +kernel
theorem dX8_pullsOne_51 : decode cX8_pullsOne 51 = .ok (.getfield 19, 3) := by decide +kernel
theorem dX8_pullsOne_54 : decode cX8_pullsOne 54 = .ok (.iload_n 1, 1) := by decide +kernel
theorem dX8_pullsOne_55 : decode cX8_pullsOne 55 = .ok (.iaload, 1) := by decide +kernel
theorem dX8_pullsOne_56 : decode cX8_pullsOne 56 = .ok (.iconst 2, 1) := by decide +kernel
theorem dX8_pullsOne_57 : decode cX8_pullsOne 57 = .ok (.if_icmp .ne 7, 3) := by decide +kernel
theorem dX8_pullsOne_60 : decode cX8_pullsOne 60 = .ok (.iconst 0, 1) := by decide +kernel
theorem dX8_pullsOne_61 : decode cX8_pullsOne 61 = .ok (.goto 7, 3) := by decide +kernel
theorem dX8_pullsOne_64 : decode cX8_pullsOne 64 = .ok (.aload_n 0, 1) := by decide +kernel
theorem dX8_pullsOne_65 : decode cX8_pullsOne 65 = .ok (.getfield 194, 3) := by decide +kernel
theorem dX8_pullsOne_68 : decode cX8_pullsOne 68 = .ok (.istore 5, 2) := by decide +kernel
theorem dX8_pullsOne_70 : decode cX8_pullsOne 70 = .ok (.aload_n 0, 1) := by decide +kernel
theorem dX8_pullsOne_71 : decode cX8_pullsOne 71 = .ok (.getfield 58, 3) := by decide +kernel
theorem dX8_pullsOne_74 : decode cX8_pullsOne 74 = .ok (.iload_n 1, 1) := by decide +kernel
theorem dX8_pullsOne_75 : decode cX8_pullsOne 75 = .ok (.iload 4, 2) := by decide +kernel
theorem dX8_pullsOne_77 : decode cX8_pullsOne 77 = .ok (.iload 5, 2) := by decide +kernel
theorem dX8_pullsOne_79 : decode cX8_pullsOne 79 = .ok (.if_icmp .le 11, 3) := by decide +kernel
theorem dX8_pullsOne_82 : decode cX8_pullsOne 82 = .ok (.iload 4, 2) := by decide +kernel
theorem dX8_pullsOne_84 : decode cX8_pullsOne 84 = .ok (.iload 5, 2) := by decide +kernel
theorem dX8_pullsOne_86 : decode cX8_pullsOne 86 = .ok (.isub, 1) := by decide +kernel
theorem dX8_pullsOne_87 : decode cX8_pullsOne 87 = .ok (.goto 4, 3) := by decide +kernel
theorem dX8_pullsOne_90 : decode cX8_pullsOne 90 = .ok (.iconst 0, 1) := by decide +kernel
theorem dX8_pullsOne_91 : decode cX8_pullsOne 91 = .ok (.iastore, 1) := by decide +kernel
theorem dX8_pullsOne_92 : decode cX8_pullsOne 92 = .ok (.aload_n 0, 1) := by decide +kernel
theorem dX8_pullsOne_93 : decode cX8_pullsOne 93 = .ok (.getfield 55, 3) := by decide +kernel
theorem dX8_pullsOne_96 : decode cX8_pullsOne 96 = .ok (.iload_n 1, 1) := by decide +kernel
theorem dX8_pullsOne_97 : decode cX8_pullsOne 97 = .ok (.dup2, 1) := by decide +kernel
theorem dX8_pullsOne_98 : decode cX8_pullsOne 98 = .ok (.iaload, 1) := by decide +kernel
theorem dX8_pullsOne_99 : decode cX8_pullsOne 99 = .ok (.aload_n 0, 1) := by decide +kernel
theorem dX8_pullsOne_100 : decode cX8_pullsOne 100 = .ok (.getfield 58, 3) := by decide +kernel
theorem dX8_pullsOne_103 : decode cX8_pullsOne 103 = .ok (.iload_n 1, 1) := by decide +kernel
theorem dX8_pullsOne_104 : decode cX8_pullsOne 104 = .ok (.iaload, 1) := by decide +kernel
theorem dX8_pullsOne_105 : decode cX8_pullsOne 105 = .ok (.iadd, 1) := by decide +kernel
theorem dX8_pullsOne_106 : decode cX8_pullsOne 106 = .ok (.iastore, 1) := by decide +kernel
theorem dX8_pullsOne_107 : decode cX8_pullsOne 107 = .ok (.aload_n 0, 1) := by decide +kernel
theorem dX8_pullsOne_108 : decode cX8_pullsOne 108 = .ok (.getfield 61, 3) := by decide +kernel
theorem dX8_pullsOne_111 : decode cX8_pullsOne 111 = .ok (.iload_n 1, 1) := by decide +kernel
theorem dX8_pullsOne_112 : decode cX8_pullsOne 112 = .ok (.bipush 8, 2) := by decide +kernel
theorem dX8_pullsOne_114 : decode cX8_pullsOne 114 = .ok (.idiv, 1) := by decide +kernel
theorem dX8_pullsOne_115 : decode cX8_pullsOne 115 = .ok (.dup2, 1) := by decide +kernel
theorem dX8_pullsOne_116 : decode cX8_pullsOne 116 = .ok (.iaload, 1) := by decide +kernel
theorem dX8_pullsOne_117 : decode cX8_pullsOne 117 = .ok (.aload_n 0, 1) := by decide +kernel
theorem dX8_pullsOne_118 : decode cX8_pullsOne 118 = .ok (.getfield 58, 3) := by decide +kernel
theorem dX8_pullsOne_121 : decode cX8_pullsOne 121 = .ok (.iload_n 1, 1) := by decide +kernel
theorem dX8_pullsOne_122 : decode cX8_pullsOne 122 = .ok (.iaload, 1) := by decide +kernel
theorem dX8_pullsOne_123 : decode cX8_pullsOne 123 = .ok (.iadd, 1) := by decide +kernel
theorem dX8_pullsOne_124 : decode cX8_pullsOne 124 = .ok (.iastore, 1) := by decide +kernel
theorem dX8_pullsOne_125 : decode cX8_pullsOne 125 = .ok (.return_, 1) := by decide +kernel
set_option maxRecDepth 20000 in
set_option maxHeartbeats 4000000 in
theorem w_X8_pullsOne_91 {x : tg_X} {Sf : tg_S} (X : tg_M tauR x cX8_pullsOne 6 RX8 zr_X8_pullsOne none Sf none) (S : tg_S) (v1 : Int32) (s0 : Int32) (s1 : Int32) (h : f_X8_pullsOne_91  S v1 s0 s1 = some Sf) : tg_G tauR x S 91 [(0, .ref (tg_ad x 0)), (1, .int v1)] [.int s0, .int s1, .ref (tg_ad x 17)] := by
  unfold f_X8_pullsOne_91 at h
  obtain ⟨S1, eS1, bS1, h⟩ := tg_wrE h
  refine tg_iast X 17 rfl bS1 dX8_pullsOne_91 eS1 ?_
  refine tg_aload_n X dX8_pullsOne_92 rfl 0 rfl ?_
  refine tg_getr X 0 rfl cl_X8 26 (by decide) rfl wf_X8_55 dX8_pullsOne_93 ?_
  refine tg_iload_n X dX8_pullsOne_96 rfl 1 rfl ?_
  refine tg_dup2 X dX8_pullsOne_97 rfl rfl ?_
  obtain ⟨y2, ey2, by2, h⟩ := tg_rdE h
  refine tg_iald X 16 rfl ey2 by2 dX8_pullsOne_98 ?_
  refine tg_aload_n X dX8_pullsOne_99 rfl 0 rfl ?_
  refine tg_getr X 0 rfl cl_X8 27 (by decide) rfl wf_X8_58 dX8_pullsOne_100 ?_
  refine tg_iload_n X dX8_pullsOne_103 rfl 1 rfl ?_
  obtain ⟨y3, ey3, by3, h⟩ := tg_rdE h
  refine tg_iald X 17 rfl ey3 by3 dX8_pullsOne_104 ?_
  refine tg_iadd X dX8_pullsOne_105 ?_
  obtain ⟨S4, eS4, bS4, h⟩ := tg_wrE h
  refine tg_iast X 16 rfl bS4 dX8_pullsOne_106 eS4 ?_
  refine tg_aload_n X dX8_pullsOne_107 rfl 0 rfl ?_
  refine tg_getr X 0 rfl cl_X8 28 (by decide) rfl wf_X8_61 dX8_pullsOne_108 ?_
  refine tg_iload_n X dX8_pullsOne_111 rfl 1 rfl ?_
  refine tg_bipush X dX8_pullsOne_112 tk_b8 ?_
  refine tg_idiv X dX8_pullsOne_114 (by decide) ?_
  refine tg_dup2 X dX8_pullsOne_115 rfl rfl ?_
  obtain ⟨y5, ey5, by5, h⟩ := tg_rdE h
  refine tg_iald X 18 rfl ey5 by5 dX8_pullsOne_116 ?_
  refine tg_aload_n X dX8_pullsOne_117 rfl 0 rfl ?_
  refine tg_getr X 0 rfl cl_X8 27 (by decide) rfl wf_X8_58 dX8_pullsOne_118 ?_
  refine tg_iload_n X dX8_pullsOne_121 rfl 1 rfl ?_
  obtain ⟨y6, ey6, by6, h⟩ := tg_rdE h
  refine tg_iald X 17 rfl ey6 by6 dX8_pullsOne_122 ?_
  refine tg_iadd X dX8_pullsOne_123 ?_
  obtain ⟨S7, eS7, bS7, h⟩ := tg_wrE h
  refine tg_iast X 18 rfl bS7 dX8_pullsOne_124 eS7 ?_
  exact tg_vret X h dX8_pullsOne_125
set_option maxRecDepth 20000 in
set_option maxHeartbeats 4000000 in
theorem w_X8_pullsOne_68 {x : tg_X} {Sf : tg_S} (X : tg_M tauR x cX8_pullsOne 6 RX8 zr_X8_pullsOne none Sf none) (S : tg_S) (v1 : Int32) (v4 : Int32) (s0 : Int32) (h : f_X8_pullsOne_68  S v1 v4 s0 = some Sf) : tg_G tauR x S 68 [(0, .ref (tg_ad x 0)), (1, .int v1), (4, .int v4)] [.int s0] := by
  unfold f_X8_pullsOne_68 at h
  refine tg_istore (lv2 := [(5, .int s0), (0, .ref (tg_ad x 0)), (1, .int v1), (4, .int v4)]) X dX8_pullsOne_68 (by decide) rfl ?_
  refine tg_aload_n X dX8_pullsOne_70 rfl 1 rfl ?_
  refine tg_getr X 0 rfl cl_X8 27 (by decide) rfl wf_X8_58 dX8_pullsOne_71 ?_
  refine tg_iload_n X dX8_pullsOne_74 rfl 2 rfl ?_
  refine tg_iload X dX8_pullsOne_75 3 rfl ?_
  refine tg_iload X dX8_pullsOne_77 0 rfl ?_
  refine tg_icmp_le (tgt := 90) X dX8_pullsOne_79 (by decide) (fun c1 => ?_) (fun c1 => ?_)
  · rw [if_pos c1] at h
    refine tg_iconst X dX8_pullsOne_90 tk_i0 ?_
    refine tg_re [1, 2] rfl ?_
    exact w_X8_pullsOne_91 X  S v1 0 v1 h
  · rw [if_neg c1] at h
    refine tg_iload X dX8_pullsOne_82 3 rfl ?_
    refine tg_iload X dX8_pullsOne_84 0 rfl ?_
    refine tg_isub X dX8_pullsOne_86 ?_
    refine tg_goto (tgt := 91) X dX8_pullsOne_87 (by decide) ?_
    refine tg_re [1, 2] rfl ?_
    exact w_X8_pullsOne_91 X  S v1 (v4 - s0) v1 h
set_option maxRecDepth 20000 in
set_option maxHeartbeats 4000000 in
theorem w_X8_pullsOne_48 {x : tg_X} {Sf : tg_S} (X : tg_M tauR x cX8_pullsOne 6 RX8 zr_X8_pullsOne none Sf none) (S : tg_S) (v1 : Int32) (s0 : Int32) (h : f_X8_pullsOne_48  S v1 s0 = some Sf) : tg_G tauR x S 48 [(0, .ref (tg_ad x 0)), (1, .int v1)] [.int s0] := by
  unfold f_X8_pullsOne_48 at h
  refine tg_istore (lv2 := [(4, .int s0), (0, .ref (tg_ad x 0)), (1, .int v1)]) X dX8_pullsOne_48 (by decide) rfl ?_
  refine tg_aload_n X dX8_pullsOne_50 rfl 1 rfl ?_
  refine tg_getr X 0 rfl cl_X8 3 (by decide) rfl wf_X8_19 dX8_pullsOne_51 ?_
  refine tg_iload_n X dX8_pullsOne_54 rfl 2 rfl ?_
  obtain ⟨y1, ey1, by1, h⟩ := tg_rdE h
  refine tg_iald X 4 rfl ey1 by1 dX8_pullsOne_55 ?_
  refine tg_iconst X dX8_pullsOne_56 tk_i2 ?_
  refine tg_icmp_ne (tgt := 64) X dX8_pullsOne_57 (by decide) (fun c2 => ?_) (fun c2 => ?_)
  · rw [if_neg c2] at h
    refine tg_aload_n X dX8_pullsOne_64 rfl 1 rfl ?_
    refine tg_geti X 0 rfl cl_X8 18 (by decide) rfl wf_X8_194 dX8_pullsOne_65 ?_
    refine tg_re [1, 2, 0] rfl ?_
    exact w_X8_pullsOne_68 X  S v1 s0 (S 0 18) h
  · rw [if_pos c2] at h
    refine tg_iconst X dX8_pullsOne_60 tk_i0 ?_
    refine tg_goto (tgt := 68) X dX8_pullsOne_61 (by decide) ?_
    refine tg_re [1, 2, 0] rfl ?_
    exact w_X8_pullsOne_68 X  S v1 s0 0 h
set_option maxRecDepth 20000 in
set_option maxHeartbeats 4000000 in
theorem w_X8_pullsOne_26 {x : tg_X} {Sf : tg_S} (X : tg_M tauR x cX8_pullsOne 6 RX8 zr_X8_pullsOne none Sf none) (S : tg_S) (v1 : Int32) (s0 : Int32) (h : f_X8_pullsOne_26  S v1 s0 = some Sf) : tg_G tauR x S 26 [(0, .ref (tg_ad x 0)), (1, .int v1)] [.int s0] := by
  unfold f_X8_pullsOne_26 at h
  refine tg_istore_n (lv2 := [(3, .int s0), (0, .ref (tg_ad x 0)), (1, .int v1)]) X dX8_pullsOne_26 rfl (by decide) rfl ?_
  refine tg_aload_n X dX8_pullsOne_27 rfl 1 rfl ?_
  refine tg_geti X 0 rfl cl_X8 20 (by decide) rfl wf_X8_187 dX8_pullsOne_28 ?_
  refine tg_iload_n X dX8_pullsOne_31 rfl 2 rfl ?_
  obtain ⟨S1, r2, kS1, h⟩ := tg_bdE h
  refine tg_callS (As := [.int (S 0 20), .int v1]) (rest := []) X (cm_X8_isIn _ _ _ _ _ kS1) yy_X8_isIn wt_X8_isIn wm_X8_190 ⟨rfl, rfl, Nat.le_of_ble_eq_true rfl, Nat.le_of_ble_eq_true rfl⟩ rfl rfl (Nat.le_of_ble_eq_true rfl) dX8_pullsOne_32 rfl ?_
  refine tg_if_eq (tgt := 42) X dX8_pullsOne_35 (by decide) (fun c3 => ?_) (fun c3 => ?_)
  · have h := tg_ifT c3 h
    refine tg_aload_n X dX8_pullsOne_42 rfl 1 rfl ?_
    refine tg_iload_n X dX8_pullsOne_43 rfl 2 rfl ?_
    refine tg_iload_n X dX8_pullsOne_44 rfl 0 rfl ?_
    obtain ⟨S4, r5, kS4, h⟩ := tg_bdE h
    refine tg_callV (As := [.int v1, .int s0]) (rest := []) X 0 (cm_X8_strength _ _ _ _ _ kS4) yy_X8_strength wv_X8_strength ws_X8_strength wm_X8_197 rfl cl_X8.1 ⟨rfl, rfl, Nat.le_of_ble_eq_true rfl, Nat.le_of_ble_eq_true rfl⟩ rfl rfl (Nat.le_of_ble_eq_true rfl) dX8_pullsOne_45 rfl ?_
    refine tg_re [1, 2] rfl ?_
    exact w_X8_pullsOne_48 X  S4 v1 r5 h
  · have h := tg_ifF c3 h
    refine tg_iconst X dX8_pullsOne_38 tk_i0 ?_
    refine tg_goto (tgt := 48) X dX8_pullsOne_39 (by decide) ?_
    refine tg_re [1, 2] rfl ?_
    exact w_X8_pullsOne_48 X  S1 v1 0 h
set_option maxRecDepth 20000 in
set_option maxHeartbeats 4000000 in
theorem w_X8_pullsOne_0 {x : tg_X} {Sf : tg_S} (X : tg_M tauR x cX8_pullsOne 6 RX8 zr_X8_pullsOne none Sf none) (S : tg_S) (v1 : Int32) (v2 : Int32) (h : f_X8_pullsOne  S v1 v2 = some Sf) : tg_G tauR x S 0 [(0, .ref (tg_ad x 0)), (1, .int v1), (2, .int v2)] [] := by
  unfold f_X8_pullsOne at h
  refine tg_aload_n X dX8_pullsOne_0 rfl 0 rfl ?_
  refine tg_geti X 0 rfl cl_X8 19 (by decide) rfl wf_X8_184 dX8_pullsOne_1 ?_
  refine tg_iconst X dX8_pullsOne_4 tk_i1 ?_
  refine tg_icmp_ne (tgt := 12) X dX8_pullsOne_5 (by decide) (fun c1 => ?_) (fun c1 => ?_)
  · have h := tg_ifF c1 h
    refine tg_aload_n X dX8_pullsOne_12 rfl 0 rfl ?_
    refine tg_getr X 0 rfl cl_X8 13 (by decide) rfl wf_X8_43 dX8_pullsOne_13 ?_
    refine tg_bipush X dX8_pullsOne_16 tk_b24 ?_
    refine tg_iload_n X dX8_pullsOne_18 rfl 1 rfl ?_
    refine tg_bipush X dX8_pullsOne_19 tk_b8 ?_
    refine tg_idiv X dX8_pullsOne_21 (by decide) ?_
    refine tg_imul X dX8_pullsOne_22 ?_
    refine tg_iload_n X dX8_pullsOne_23 rfl 2 rfl ?_
    refine tg_iadd X dX8_pullsOne_24 ?_
    obtain ⟨y2, ey2, by2, h⟩ := tg_rdE h
    refine tg_iald X 12 rfl ey2 by2 dX8_pullsOne_25 ?_
    refine tg_re [0, 1] rfl ?_
    exact w_X8_pullsOne_26 X  S v1 y2 h
  · have h := tg_ifT c1 h
    refine tg_iconst X dX8_pullsOne_8 tk_i0 ?_
    refine tg_goto (tgt := 26) X dX8_pullsOne_9 (by decide) ?_
    refine tg_re [0, 1] rfl ?_
    exact w_X8_pullsOne_26 X  S v1 0 h
theorem cm_X8_pullsOne (l : Launch) (D : va_G) (cy : Bool → ClassId) (ad : Nat → Nat) (tS : Nat) {S Sf : tg_S} {v1 : Int32} {v2 : Int32} (h : f_X8_pullsOne  S v1 v2 = some Sf) : tg_Met l yX8_pullsOne cX8_pullsOne 6 none zr_X8_pullsOne tauR D cy ad tS S [.ref (ad 0), .int v1, .int v2] Sf none := tg_mk (by decide +kernel) trivial (Nat.le_of_ble_eq_true rfl) (fun p e s m args below meth c Q A X => w_X8_pullsOne_0 X S v1 v2 h)
-- X8_goes
def zr_X8_goes : Room := { frames := 0, cells := 0, slots := 0, locals := 0 }
theorem dX8_goes_0 : decode cX8_goes 0 = .ok (.aload_n 0, 1) := by decide +kernel
theorem dX8_goes_1 : decode cX8_goes 1 = .ok (.getfield 61, 3) := by decide +kernel
theorem dX8_goes_4 : decode cX8_goes 4 = .ok (.iconst 0, 1) := by decide +kernel
theorem dX8_goes_5 : decode cX8_goes 5 = .ok (.iaload, 1) := by decide +kernel
theorem dX8_goes_6 : decode cX8_goes 6 = .ok (.aload_n 0, 1) := by decide +kernel
theorem dX8_goes_7 : decode cX8_goes 7 = .ok (.getfield 61, 3) := by decide +kernel
theorem dX8_goes_10 : decode cX8_goes 10 = .ok (.iconst 1, 1) := by decide +kernel
theorem dX8_goes_11 : decode cX8_goes 11 = .ok (.iaload, 1) := by decide +kernel
theorem dX8_goes_12 : decode cX8_goes 12 = .ok (.isub, 1) := by decide +kernel
theorem dX8_goes_13 : decode cX8_goes 13 = .ok (.istore_n 2, 1) := by decide +kernel
theorem dX8_goes_14 : decode cX8_goes 14 = .ok (.iload_n 2, 1) := by decide +kernel
theorem dX8_goes_15 : decode cX8_goes 15 = .ok (.ifCond .ge 8, 3) := by decide +kernel
theorem dX8_goes_18 : decode cX8_goes 18 = .ok (.iload_n 2, 1) := by decide +kernel
theorem dX8_goes_19 : decode cX8_goes 19 = .ok (.ineg, 1) := by decide +kernel
theorem dX8_goes_20 : decode cX8_goes 20 = .ok (.goto 4, 3) := by decide +kernel
theorem dX8_goes_23 : decode cX8_goes 23 = .ok (.iload_n 2, 1) := by decide +kernel
theorem dX8_goes_24 : decode cX8_goes 24 = .ok (.iconst 3, 1) := by decide +kernel
theorem dX8_goes_25 : decode cX8_goes 25 = .ok (.idiv, 1) := by decide +kernel
theorem dX8_goes_26 : decode cX8_goes 26 = .ok (.istore_n 3, 1) := by decide +kernel
theorem dX8_goes_27 : decode cX8_goes 27 = .ok (.iload_n 3, 1) := by decide +kernel
theorem dX8_goes_28 : decode cX8_goes 28 = .ok (.iconst 3, 1) := by decide +kernel
theorem dX8_goes_29 : decode cX8_goes 29 = .ok (.if_icmp .le 7, 3) := by decide +kernel
theorem dX8_goes_32 : decode cX8_goes 32 = .ok (.iconst 3, 1) := by decide +kernel
theorem dX8_goes_33 : decode cX8_goes 33 = .ok (.goto 4, 3) := by decide +kernel
theorem dX8_goes_36 : decode cX8_goes 36 = .ok (.iload_n 3, 1) := by decide +kernel
theorem dX8_goes_37 : decode cX8_goes 37 = .ok (.istore_n 3, 1) := by decide +kernel
theorem dX8_goes_38 : decode cX8_goes 38 = .ok (.aload_n 0, 1) := by decide +kernel
theorem dX8_goes_39 : decode cX8_goes 39 = .ok (.dup, 1) := by decide +kernel
theorem dX8_goes_40 : decode cX8_goes 40 = .ok (.getfield 200, 3) := by decide +kernel
theorem dX8_goes_43 : decode cX8_goes 43 = .ok (.iload_n 2, 1) := by decide +kernel
theorem dX8_goes_44 : decode cX8_goes 44 = .ok (.ifCond .ne 7, 3) := by decide +kernel
theorem dX8_goes_47 : decode cX8_goes 47 = .ok (.iconst 1, 1) := by decide +kernel
theorem dX8_goes_48 : decode cX8_goes 48 = .ok (.goto 4, 3) := by decide +kernel
theorem dX8_goes_51 : decode cX8_goes 51 = .ok (.iconst 0, 1) := by decide +kernel
theorem dX8_goes_52 : decode cX8_goes 52 = .ok (.iadd, 1) := by decide +kernel
theorem dX8_goes_53 : decode cX8_goes 53 = .ok (.putfield 200, 3) := by decide +kernel
theorem dX8_goes_56 : decode cX8_goes 56 = .ok (.aload_n 0, 1) := by decide +kernel
theorem dX8_goes_57 : decode cX8_goes 57 = .ok (.dup, 1) := by decide +kernel
theorem dX8_goes_58 : decode cX8_goes 58 = .ok (.getfield 203, 3) := by decide +kernel
theorem dX8_goes_61 : decode cX8_goes 61 = .ok (.iload_n 2, 1) := by decide +kernel
theorem dX8_goes_62 : decode cX8_goes 62 = .ok (.ifCond .ge 8, 3) := by decide +kernel
theorem dX8_goes_65 : decode cX8_goes 65 = .ok (.iload_n 3, 1) := by decide +kernel
theorem dX8_goes_66 : decode cX8_goes 66 = .ok (.ineg, 1) := by decide +kernel
theorem dX8_goes_67 : decode cX8_goes 67 = .ok (.goto 4, 3) := by decide +kernel
theorem dX8_goes_70 : decode cX8_goes 70 = .ok (.iload_n 3, 1) := by decide +kernel
theorem dX8_goes_71 : decode cX8_goes 71 = .ok (.iadd, 1) := by decide +kernel
theorem dX8_goes_72 : decode cX8_goes 72 = .ok (.putfield 203, 3) := by decide +kernel
theorem dX8_goes_75 : decode cX8_goes 75 = .ok (.aload_n 0, 1) := by decide +kernel
theorem dX8_goes_76 : decode cX8_goes 76 = .ok (.aload_n 0, 1) := by decide +kernel
theorem dX8_goes_77 : decode cX8_goes 77 = .ok (.getfield 203, 3) := by decide +kernel
theorem dX8_goes_80 : decode cX8_goes 80 = .ok (.bipush 22, 2) := by decide +kernel
theorem dX8_goes_82 : decode cX8_goes 82 = .ok (.if_icmp .lt 7, 3) := by decide +kernel
theorem dX8_goes_85 : decode cX8_goes 85 = .ok (.iconst 0, 1) := by decide +kernel
theorem dX8_goes_86 : decode cX8_goes 86 = .ok (.goto 16, 3) := by decide +kernel
theorem dX8_goes_89 : decode cX8_goes 89 = .ok (.aload_n 0, 1) := by decide +kernel
theorem dX8_goes_90 : decode cX8_goes 90 = .ok (.getfield 203, 3) := by decide +kernel
theorem dX8_goes_93 : decode cX8_goes 93 = .ok (.iconst 2, 1) := by decide +kernel
theorem dX8_goes_94 : decode cX8_goes 94 = .ok (.if_icmp .gt 7, 3) := by decide +kernel
theorem dX8_goes_97 : decode cX8_goes 97 = .ok (.iconst 1, 1) := by decide +kernel
theorem dX8_goes_98 : decode cX8_goes 98 = .ok (.goto 4, 3) := by decide +kernel
theorem dX8_goes_101 : decode cX8_goes 101 = .ok (.iconst (-1), 1) := by decide +kernel
theorem dX8_goes_102 : decode cX8_goes 102 = .ok (.putfield 206, 3) := by decide +kernel
theorem dX8_goes_105 : decode cX8_goes 105 = .ok (.aload_n 0, 1) := by decide +kernel
theorem dX8_goes_106 : decode cX8_goes 106 = .ok (.aload_n 0, 1) := by decide +kernel
theorem dX8_goes_107 : decode cX8_goes 107 = .ok (.getfield 206, 3) := by decide +kernel
theorem dX8_goes_110 : decode cX8_goes 110 = .ok (.iconst (-1), 1) := by decide +kernel
theorem dX8_goes_111 : decode cX8_goes 111 = .ok (.if_icmp .ne 7, 3) := by decide +kernel
theorem dX8_goes_114 : decode cX8_goes 114 = .ok (.iconst (-1), 1) := by decide +kernel
theorem dX8_goes_115 : decode cX8_goes 115 = .ok (.goto 4, 3) := by decide +kernel
theorem dX8_goes_118 : decode cX8_goes 118 = .ok (.iload_n 1, 1) := by decide +kernel
theorem dX8_goes_119 : decode cX8_goes 119 = .ok (.putfield 209, 3) := by decide +kernel
theorem dX8_goes_122 : decode cX8_goes 122 = .ok (.return_, 1) := by decide +kernel
set_option maxRecDepth 20000 in
set_option maxHeartbeats 4000000 in
theorem w_X8_goes_102 {x : tg_X} {Sf : tg_S} (X : tg_M tauR x cX8_goes 4 RX8 zr_X8_goes none Sf none) (S : tg_S) (v1 : Int32) (s0 : Int32) (h : f_X8_goes_102  S v1 s0 = some Sf) : tg_G tauR x S 102 [(0, .ref (tg_ad x 0)), (1, .int v1)] [.int s0, .ref (tg_ad x 0)] := by
  unfold f_X8_goes_102 at h
  obtain ⟨S1, eS1, h⟩ := tg_pfE h
  refine tg_puti X 0 rfl cl_X8 22 (by decide) rfl wf_X8_206 rfl rfl rfl dX8_goes_102 eS1 ?_
  refine tg_aload_n X dX8_goes_105 rfl 0 rfl ?_
  refine tg_aload_n X dX8_goes_106 rfl 0 rfl ?_
  refine tg_geti X 0 rfl cl_X8 22 (by decide) rfl wf_X8_206 dX8_goes_107 ?_
  refine tg_iconst X dX8_goes_110 tk_im1 ?_
  refine tg_icmp_ne (tgt := 118) X dX8_goes_111 (by decide) (fun c2 => ?_) (fun c2 => ?_)
  · have h := tg_ifF c2 h
    refine tg_iload_n X dX8_goes_118 rfl 1 rfl ?_
    obtain ⟨S3, eS3, h⟩ := tg_pfE h
    refine tg_puti X 0 rfl cl_X8 23 (by decide) rfl wf_X8_209 rfl rfl rfl dX8_goes_119 eS3 ?_
    exact tg_vret X h dX8_goes_122
  · have h := tg_ifT c2 h
    refine tg_iconst X dX8_goes_114 tk_im1 ?_
    refine tg_goto (tgt := 119) X dX8_goes_115 (by decide) ?_
    obtain ⟨S4, eS4, h⟩ := tg_pfE h
    refine tg_puti X 0 rfl cl_X8 23 (by decide) rfl wf_X8_209 rfl rfl rfl dX8_goes_119 eS4 ?_
    exact tg_vret X h dX8_goes_122
set_option maxRecDepth 20000 in
set_option maxHeartbeats 4000000 in
theorem w_X8_goes_71 {x : tg_X} {Sf : tg_S} (X : tg_M tauR x cX8_goes 4 RX8 zr_X8_goes none Sf none) (S : tg_S) (v1 : Int32) (s0 : Int32) (s1 : Int32) (h : f_X8_goes_71  S v1 s0 s1 = some Sf) : tg_G tauR x S 71 [(0, .ref (tg_ad x 0)), (1, .int v1)] [.int s0, .int s1, .ref (tg_ad x 0)] := by
  unfold f_X8_goes_71 at h
  refine tg_iadd X dX8_goes_71 ?_
  obtain ⟨S1, eS1, h⟩ := tg_pfE h
  refine tg_puti X 0 rfl cl_X8 21 (by decide) rfl wf_X8_203 rfl rfl rfl dX8_goes_72 eS1 ?_
  refine tg_aload_n X dX8_goes_75 rfl 0 rfl ?_
  refine tg_aload_n X dX8_goes_76 rfl 0 rfl ?_
  refine tg_geti X 0 rfl cl_X8 21 (by decide) rfl wf_X8_203 dX8_goes_77 ?_
  refine tg_bipush X dX8_goes_80 tk_b22 ?_
  refine tg_icmp_lt (tgt := 89) X dX8_goes_82 (by decide) (fun c2 => ?_) (fun c2 => ?_)
  · rw [if_pos c2] at h
    refine tg_aload_n X dX8_goes_89 rfl 0 rfl ?_
    refine tg_geti X 0 rfl cl_X8 21 (by decide) rfl wf_X8_203 dX8_goes_90 ?_
    refine tg_iconst X dX8_goes_93 tk_i2 ?_
    refine tg_icmp_gt (tgt := 101) X dX8_goes_94 (by decide) (fun c3 => ?_) (fun c3 => ?_)
    · rw [if_pos c3] at h
      refine tg_iconst X dX8_goes_101 tk_im1 ?_
      exact w_X8_goes_102 X  S1 v1 (-1) h
    · rw [if_neg c3] at h
      refine tg_iconst X dX8_goes_97 tk_i1 ?_
      refine tg_goto (tgt := 102) X dX8_goes_98 (by decide) ?_
      exact w_X8_goes_102 X  S1 v1 1 h
  · rw [if_neg c2] at h
    refine tg_iconst X dX8_goes_85 tk_i0 ?_
    refine tg_goto (tgt := 102) X dX8_goes_86 (by decide) ?_
    exact w_X8_goes_102 X  S1 v1 0 h
set_option maxRecDepth 20000 in
set_option maxHeartbeats 4000000 in
theorem w_X8_goes_52 {x : tg_X} {Sf : tg_S} (X : tg_M tauR x cX8_goes 4 RX8 zr_X8_goes none Sf none) (S : tg_S) (v1 : Int32) (v2 : Int32) (v3 : Int32) (s0 : Int32) (s1 : Int32) (h : f_X8_goes_52  S v1 v2 v3 s0 s1 = some Sf) : tg_G tauR x S 52 [(0, .ref (tg_ad x 0)), (1, .int v1), (2, .int v2), (3, .int v3)] [.int s0, .int s1, .ref (tg_ad x 0)] := by
  unfold f_X8_goes_52 at h
  refine tg_iadd X dX8_goes_52 ?_
  obtain ⟨S1, eS1, h⟩ := tg_pfE h
  refine tg_puti X 0 rfl cl_X8 24 (by decide) rfl wf_X8_200 rfl rfl rfl dX8_goes_53 eS1 ?_
  refine tg_aload_n X dX8_goes_56 rfl 0 rfl ?_
  refine tg_dup X dX8_goes_57 rfl ?_
  refine tg_geti X 0 rfl cl_X8 21 (by decide) rfl wf_X8_203 dX8_goes_58 ?_
  refine tg_iload_n X dX8_goes_61 rfl 2 rfl ?_
  refine tg_if_ge (tgt := 70) X dX8_goes_62 (by decide) (fun c2 => ?_) (fun c2 => ?_)
  · rw [if_pos c2] at h
    refine tg_iload_n X dX8_goes_70 rfl 3 rfl ?_
    refine tg_re [0, 1] rfl ?_
    exact w_X8_goes_71 X  S1 v1 v3 (S1 0 21) h
  · rw [if_neg c2] at h
    refine tg_iload_n X dX8_goes_65 rfl 3 rfl ?_
    refine tg_ineg X dX8_goes_66 ?_
    refine tg_goto (tgt := 71) X dX8_goes_67 (by decide) ?_
    refine tg_re [0, 1] rfl ?_
    exact w_X8_goes_71 X  S1 v1 (-v3) (S1 0 21) h
set_option maxRecDepth 20000 in
set_option maxHeartbeats 4000000 in
theorem w_X8_goes_37 {x : tg_X} {Sf : tg_S} (X : tg_M tauR x cX8_goes 4 RX8 zr_X8_goes none Sf none) (S : tg_S) (v1 : Int32) (v2 : Int32) (s0 : Int32) (h : f_X8_goes_37  S v1 v2 s0 = some Sf) : tg_G tauR x S 37 [(0, .ref (tg_ad x 0)), (1, .int v1), (2, .int v2)] [.int s0] := by
  unfold f_X8_goes_37 at h
  refine tg_istore_n (lv2 := [(3, .int s0), (0, .ref (tg_ad x 0)), (1, .int v1), (2, .int v2)]) X dX8_goes_37 rfl (by decide) rfl ?_
  refine tg_aload_n X dX8_goes_38 rfl 1 rfl ?_
  refine tg_dup X dX8_goes_39 rfl ?_
  refine tg_geti X 0 rfl cl_X8 24 (by decide) rfl wf_X8_200 dX8_goes_40 ?_
  refine tg_iload_n X dX8_goes_43 rfl 3 rfl ?_
  refine tg_if_ne (tgt := 51) X dX8_goes_44 (by decide) (fun c1 => ?_) (fun c1 => ?_)
  · rw [if_neg c1] at h
    refine tg_iconst X dX8_goes_51 tk_i0 ?_
    refine tg_re [1, 2, 3, 0] rfl ?_
    exact w_X8_goes_52 X  S v1 v2 s0 0 (S 0 24) h
  · rw [if_pos c1] at h
    refine tg_iconst X dX8_goes_47 tk_i1 ?_
    refine tg_goto (tgt := 52) X dX8_goes_48 (by decide) ?_
    refine tg_re [1, 2, 3, 0] rfl ?_
    exact w_X8_goes_52 X  S v1 v2 s0 1 (S 0 24) h
set_option maxRecDepth 20000 in
set_option maxHeartbeats 4000000 in
theorem w_X8_goes_24 {x : tg_X} {Sf : tg_S} (X : tg_M tauR x cX8_goes 4 RX8 zr_X8_goes none Sf none) (S : tg_S) (v1 : Int32) (v2 : Int32) (s0 : Int32) (h : f_X8_goes_24  S v1 v2 s0 = some Sf) : tg_G tauR x S 24 [(0, .ref (tg_ad x 0)), (1, .int v1), (2, .int v2)] [.int s0] := by
  unfold f_X8_goes_24 at h
  refine tg_iconst X dX8_goes_24 tk_i3 ?_
  refine tg_idiv X dX8_goes_25 (by decide) ?_
  refine tg_topi (fun y1 ey1 => ?_)
  have h := tg_nmE ey1 h
  refine tg_istore_n (lv2 := [(3, .int y1), (0, .ref (tg_ad x 0)), (1, .int v1), (2, .int v2)]) X dX8_goes_26 rfl (by decide) rfl ?_
  refine tg_iload_n X dX8_goes_27 rfl 0 rfl ?_
  refine tg_iconst X dX8_goes_28 tk_i3 ?_
  refine tg_icmp_le (tgt := 36) X dX8_goes_29 (by decide) (fun c2 => ?_) (fun c2 => ?_)
  · rw [if_pos c2] at h
    refine tg_iload_n X dX8_goes_36 rfl 0 rfl ?_
    refine tg_re [1, 2, 3] rfl ?_
    exact w_X8_goes_37 X  S v1 v2 y1 h
  · rw [if_neg c2] at h
    refine tg_iconst X dX8_goes_32 tk_i3 ?_
    refine tg_goto (tgt := 37) X dX8_goes_33 (by decide) ?_
    refine tg_re [1, 2, 3] rfl ?_
    exact w_X8_goes_37 X  S v1 v2 3 h
set_option maxRecDepth 20000 in
set_option maxHeartbeats 4000000 in
theorem w_X8_goes_0 {x : tg_X} {Sf : tg_S} (X : tg_M tauR x cX8_goes 4 RX8 zr_X8_goes none Sf none) (S : tg_S) (v1 : Int32) (h : f_X8_goes  S v1 = some Sf) : tg_G tauR x S 0 [(0, .ref (tg_ad x 0)), (1, .int v1)] [] := by
  unfold f_X8_goes at h
  refine tg_aload_n X dX8_goes_0 rfl 0 rfl ?_
  refine tg_getr X 0 rfl cl_X8 28 (by decide) rfl wf_X8_61 dX8_goes_1 ?_
  refine tg_iconst X dX8_goes_4 tk_i0 ?_
  obtain ⟨y1, ey1, by1, h⟩ := tg_rdE h
  refine tg_iald X 18 rfl ey1 by1 dX8_goes_5 ?_
  refine tg_aload_n X dX8_goes_6 rfl 0 rfl ?_
  refine tg_getr X 0 rfl cl_X8 28 (by decide) rfl wf_X8_61 dX8_goes_7 ?_
  refine tg_iconst X dX8_goes_10 tk_i1 ?_
  obtain ⟨y2, ey2, by2, h⟩ := tg_rdE h
  refine tg_iald X 18 rfl ey2 by2 dX8_goes_11 ?_
  refine tg_isub X dX8_goes_12 ?_
  refine tg_topi (fun y3 ey3 => ?_)
  have h := tg_nmE ey3 h
  refine tg_istore_n (lv2 := [(2, .int y3), (0, .ref (tg_ad x 0)), (1, .int v1)]) X dX8_goes_13 rfl (by decide) rfl ?_
  refine tg_iload_n X dX8_goes_14 rfl 0 rfl ?_
  refine tg_if_ge (tgt := 23) X dX8_goes_15 (by decide) (fun c4 => ?_) (fun c4 => ?_)
  · rw [if_pos c4] at h
    refine tg_iload_n X dX8_goes_23 rfl 0 rfl ?_
    refine tg_re [1, 2, 0] rfl ?_
    exact w_X8_goes_24 X  S v1 y3 y3 h
  · rw [if_neg c4] at h
    refine tg_iload_n X dX8_goes_18 rfl 0 rfl ?_
    refine tg_ineg X dX8_goes_19 ?_
    refine tg_goto (tgt := 24) X dX8_goes_20 (by decide) ?_
    refine tg_re [1, 2, 0] rfl ?_
    exact w_X8_goes_24 X  S v1 y3 (-y3) h
theorem cm_X8_goes (l : Launch) (D : va_G) (cy : Bool → ClassId) (ad : Nat → Nat) (tS : Nat) {S Sf : tg_S} {v1 : Int32} (h : f_X8_goes  S v1 = some Sf) : tg_Met l yX8_goes cX8_goes 4 none zr_X8_goes tauR D cy ad tS S [.ref (ad 0), .int v1] Sf none := tg_mk (by decide +kernel) trivial (Nat.le_of_ble_eq_true rfl) (fun p e s m args below meth c Q A X => w_X8_goes_0 X S v1 h)
-- X8_goesBy
def zr_X8_goesBy : Room := { frames := 3, cells := 0, slots := 0, locals := 64 }
theorem dX8_goesBy_0 : decode cX8_goesBy 0 = .ok (.aload_n 0, 1) := by decide +kernel
theorem dX8_goesBy_1 : decode cX8_goesBy 1 = .ok (.iload_n 1, 1) := by decide +kernel
theorem dX8_goesBy_2 : decode cX8_goesBy 2 = .ok (.invokevirtual 212, 3) := by decide +kernel
theorem dX8_goesBy_5 : decode cX8_goesBy 5 = .ok (.aload_n 0, 1) := by decide +kernel
theorem dX8_goesBy_6 : decode cX8_goesBy 6 = .ok (.getfield 61, 3) := by decide +kernel
theorem dX8_goesBy_9 : decode cX8_goesBy 9 = .ok (.iconst 0, 1) := by decide +kernel
theorem dX8_goesBy_10 : decode cX8_goesBy 10 = .ok (.iconst 0, 1) := by decide +kernel
theorem dX8_goesBy_11 : decode cX8_goesBy 11 = .ok (.iastore, 1) := by decide +kernel
theorem dX8_goesBy_12 : decode cX8_goesBy 12 = .ok (.aload_n 0, 1) := by decide +kernel
theorem dX8_goesBy_13 : decode cX8_goesBy 13 = .ok (.getfield 61, 3) := by decide +kernel
theorem dX8_goesBy_16 : decode cX8_goesBy 16 = .ok (.iconst 1, 1) := by decide +kernel
theorem dX8_goesBy_17 : decode cX8_goesBy 17 = .ok (.iconst 0, 1) := by decide +kernel
theorem dX8_goesBy_18 : decode cX8_goesBy 18 = .ok (.iastore, 1) := by decide +kernel
theorem dX8_goesBy_19 : decode cX8_goesBy 19 = .ok (.iconst 0, 1) := by decide +kernel
theorem dX8_goesBy_20 : decode cX8_goesBy 20 = .ok (.istore_n 2, 1) := by decide +kernel
theorem dX8_goesBy_21 : decode cX8_goesBy 21 = .ok (.iload_n 2, 1) := by decide +kernel
theorem dX8_goesBy_22 : decode cX8_goesBy 22 = .ok (.bipush 16, 2) := by decide +kernel
theorem dX8_goesBy_24 : decode cX8_goesBy 24 = .ok (.if_icmp .ge 38, 3) := by decide +kernel
theorem dX8_goesBy_27 : decode cX8_goesBy 27 = .ok (.aload_n 0, 1) := by decide +kernel
theorem dX8_goesBy_28 : decode cX8_goesBy 28 = .ok (.getfield 58, 3) := by decide +kernel
theorem dX8_goesBy_31 : decode cX8_goesBy 31 = .ok (.iload_n 2, 1) := by decide +kernel
theorem dX8_goesBy_32 : decode cX8_goesBy 32 = .ok (.iconst 0, 1) := by decide +kernel
theorem dX8_goesBy_33 : decode cX8_goesBy 33 = .ok (.iastore, 1) := by decide +kernel
theorem dX8_goesBy_34 : decode cX8_goesBy 34 = .ok (.aload_n 0, 1) := by decide +kernel
theorem dX8_goesBy_35 : decode cX8_goesBy 35 = .ok (.iload_n 2, 1) := by decide +kernel
theorem dX8_goesBy_36 : decode cX8_goesBy 36 = .ok (.invokevirtual 216, 3) := by decide +kernel
theorem dX8_goesBy_39 : decode cX8_goesBy 39 = .ok (.ifCond .eq 17, 3) := by decide +kernel
theorem dX8_goesBy_42 : decode cX8_goesBy 42 = .ok (.aload_n 0, 1) := by decide +kernel
theorem dX8_goesBy_43 : decode cX8_goesBy 43 = .ok (.getfield 206, 3) := by decide +kernel
theorem dX8_goesBy_46 : decode cX8_goesBy 46 = .ok (.iconst (-1), 1) := by decide +kernel
theorem dX8_goesBy_47 : decode cX8_goesBy 47 = .ok (.if_icmp .ne 9, 3) := by decide +kernel
theorem dX8_goesBy_50 : decode cX8_goesBy 50 = .ok (.aload_n 0, 1) := by decide +kernel
theorem dX8_goesBy_51 : decode cX8_goesBy 51 = .ok (.iload_n 2, 1) := by decide +kernel
theorem dX8_goesBy_52 : decode cX8_goesBy 52 = .ok (.iload_n 1, 1) := by decide +kernel
theorem dX8_goesBy_53 : decode cX8_goesBy 53 = .ok (.invokevirtual 219, 3) := by decide +kernel
theorem dX8_goesBy_56 : decode cX8_goesBy 56 = .ok (.iinc 2 1, 3) := by decide +kernel
theorem dX8_goesBy_59 : decode cX8_goesBy 59 = .ok (.goto (-38), 3) := by decide +kernel
theorem dX8_goesBy_62 : decode cX8_goesBy 62 = .ok (.aload_n 0, 1) := by decide +kernel
theorem dX8_goesBy_63 : decode cX8_goesBy 63 = .ok (.getfield 206, 3) := by decide +kernel
theorem dX8_goesBy_66 : decode cX8_goesBy 66 = .ok (.iconst (-1), 1) := by decide +kernel
theorem dX8_goesBy_67 : decode cX8_goesBy 67 = .ok (.if_icmp .ne 8, 3) := by decide +kernel
theorem dX8_goesBy_70 : decode cX8_goesBy 70 = .ok (.aload_n 0, 1) := by decide +kernel
theorem dX8_goesBy_71 : decode cX8_goesBy 71 = .ok (.iload_n 1, 1) := by decide +kernel
theorem dX8_goesBy_72 : decode cX8_goesBy 72 = .ok (.invokevirtual 223, 3) := by decide +kernel
theorem dX8_goesBy_75 : decode cX8_goesBy 75 = .ok (.aload_n 0, 1) := by decide +kernel
theorem dX8_goesBy_76 : decode cX8_goesBy 76 = .ok (.getfield 64, 3) := by decide +kernel
theorem dX8_goesBy_79 : decode cX8_goesBy 79 = .ok (.iload_n 1, 1) := by decide +kernel
theorem dX8_goesBy_80 : decode cX8_goesBy 80 = .ok (.aload_n 0, 1) := by decide +kernel
theorem dX8_goesBy_81 : decode cX8_goesBy 81 = .ok (.getfield 203, 3) := by decide +kernel
theorem dX8_goesBy_84 : decode cX8_goesBy 84 = .ok (.iastore, 1) := by decide +kernel
theorem dX8_goesBy_85 : decode cX8_goesBy 85 = .ok (.aload_n 0, 1) := by decide +kernel
theorem dX8_goesBy_86 : decode cX8_goesBy 86 = .ok (.getfield 67, 3) := by decide +kernel
theorem dX8_goesBy_89 : decode cX8_goesBy 89 = .ok (.iload_n 1, 1) := by decide +kernel
theorem dX8_goesBy_90 : decode cX8_goesBy 90 = .ok (.aload_n 0, 1) := by decide +kernel
theorem dX8_goesBy_91 : decode cX8_goesBy 91 = .ok (.getfield 194, 3) := by decide +kernel
theorem dX8_goesBy_94 : decode cX8_goesBy 94 = .ok (.iastore, 1) := by decide +kernel
theorem dX8_goesBy_95 : decode cX8_goesBy 95 = .ok (.aload_n 0, 1) := by decide +kernel
theorem dX8_goesBy_96 : decode cX8_goesBy 96 = .ok (.getfield 70, 3) := by decide +kernel
theorem dX8_goesBy_99 : decode cX8_goesBy 99 = .ok (.iconst 2, 1) := by decide +kernel
theorem dX8_goesBy_100 : decode cX8_goesBy 100 = .ok (.iload_n 1, 1) := by decide +kernel
theorem dX8_goesBy_101 : decode cX8_goesBy 101 = .ok (.imul, 1) := by decide +kernel
theorem dX8_goesBy_102 : decode cX8_goesBy 102 = .ok (.aload_n 0, 1) := by decide +kernel
theorem dX8_goesBy_103 : decode cX8_goesBy 103 = .ok (.getfield 61, 3) := by decide +kernel
theorem dX8_goesBy_106 : decode cX8_goesBy 106 = .ok (.iconst 0, 1) := by decide +kernel
theorem dX8_goesBy_107 : decode cX8_goesBy 107 = .ok (.iaload, 1) := by decide +kernel
theorem dX8_goesBy_108 : decode cX8_goesBy 108 = .ok (.iastore, 1) := by decide +kernel
theorem dX8_goesBy_109 : decode cX8_goesBy 109 = .ok (.aload_n 0, 1) := by decide +kernel
theorem dX8_goesBy_110 : decode cX8_goesBy 110 = .ok (.getfield 70, 3) := by decide +kernel
theorem dX8_goesBy_113 : decode cX8_goesBy 113 = .ok (.iconst 2, 1) := by decide +kernel
theorem dX8_goesBy_114 : decode cX8_goesBy 114 = .ok (.iload_n 1, 1) := by decide +kernel
theorem dX8_goesBy_115 : decode cX8_goesBy 115 = .ok (.imul, 1) := by decide +kernel
theorem dX8_goesBy_116 : decode cX8_goesBy 116 = .ok (.iconst 1, 1) := by decide +kernel
theorem dX8_goesBy_117 : decode cX8_goesBy 117 = .ok (.iadd, 1) := by decide +kernel
theorem dX8_goesBy_118 : decode cX8_goesBy 118 = .ok (.aload_n 0, 1) := by decide +kernel
theorem dX8_goesBy_119 : decode cX8_goesBy 119 = .ok (.getfield 61, 3) := by decide +kernel
theorem dX8_goesBy_122 : decode cX8_goesBy 122 = .ok (.iconst 1, 1) := by decide +kernel
theorem dX8_goesBy_123 : decode cX8_goesBy 123 = .ok (.iaload, 1) := by decide +kernel
theorem dX8_goesBy_124 : decode cX8_goesBy 124 = .ok (.iastore, 1) := by decide +kernel
theorem dX8_goesBy_125 : decode cX8_goesBy 125 = .ok (.iconst 0, 1) := by decide +kernel
theorem dX8_goesBy_126 : decode cX8_goesBy 126 = .ok (.istore_n 2, 1) := by decide +kernel
theorem dX8_goesBy_127 : decode cX8_goesBy 127 = .ok (.iload_n 2, 1) := by decide +kernel
theorem dX8_goesBy_128 : decode cX8_goesBy 128 = .ok (.bipush 16, 2) := by decide +kernel
theorem dX8_goesBy_130 : decode cX8_goesBy 130 = .ok (.if_icmp .ge 43, 3) := by decide +kernel
theorem dX8_goesBy_133 : decode cX8_goesBy 133 = .ok (.aload_n 0, 1) := by decide +kernel
theorem dX8_goesBy_134 : decode cX8_goesBy 134 = .ok (.getfield 73, 3) := by decide +kernel
theorem dX8_goesBy_137 : decode cX8_goesBy 137 = .ok (.bipush 16, 2) := by decide +kernel
theorem dX8_goesBy_139 : decode cX8_goesBy 139 = .ok (.iload_n 1, 1) := by decide +kernel
theorem dX8_goesBy_140 : decode cX8_goesBy 140 = .ok (.imul, 1) := by decide +kernel
theorem dX8_goesBy_141 : decode cX8_goesBy 141 = .ok (.iload_n 2, 1) := by decide +kernel
theorem dX8_goesBy_142 : decode cX8_goesBy 142 = .ok (.iadd, 1) := by decide +kernel
theorem dX8_goesBy_143 : decode cX8_goesBy 143 = .ok (.aload_n 0, 1) := by decide +kernel
theorem dX8_goesBy_144 : decode cX8_goesBy 144 = .ok (.getfield 58, 3) := by decide +kernel
theorem dX8_goesBy_147 : decode cX8_goesBy 147 = .ok (.iload_n 2, 1) := by decide +kernel
theorem dX8_goesBy_148 : decode cX8_goesBy 148 = .ok (.iaload, 1) := by decide +kernel
theorem dX8_goesBy_149 : decode cX8_goesBy 149 = .ok (.iastore, 1) := by decide +kernel
theorem dX8_goesBy_150 : decode cX8_goesBy 150 = .ok (.aload_n 0, 1) := by decide +kernel
theorem dX8_goesBy_151 : decode cX8_goesBy 151 = .ok (.getfield 76, 3) := by decide +kernel
theorem dX8_goesBy_154 : decode cX8_goesBy 154 = .ok (.bipush 16, 2) := by decide +kernel
theorem dX8_goesBy_156 : decode cX8_goesBy 156 = .ok (.iload_n 1, 1) := by decide +kernel
theorem dX8_goesBy_157 : decode cX8_goesBy 157 = .ok (.imul, 1) := by decide +kernel
theorem dX8_goesBy_158 : decode cX8_goesBy 158 = .ok (.iload_n 2, 1) := by decide +kernel
theorem dX8_goesBy_159 : decode cX8_goesBy 159 = .ok (.iadd, 1) := by decide +kernel
theorem dX8_goesBy_160 : decode cX8_goesBy 160 = .ok (.aload_n 0, 1) := by decide +kernel
theorem dX8_goesBy_161 : decode cX8_goesBy 161 = .ok (.getfield 52, 3) := by decide +kernel
theorem dX8_goesBy_164 : decode cX8_goesBy 164 = .ok (.iload_n 2, 1) := by decide +kernel
theorem dX8_goesBy_165 : decode cX8_goesBy 165 = .ok (.iaload, 1) := by decide +kernel
theorem dX8_goesBy_166 : decode cX8_goesBy 166 = .ok (.iastore, 1) := by decide +kernel
theorem dX8_goesBy_167 : decode cX8_goesBy 167 = .ok (.iinc 2 1, 3) := by decide +kernel
theorem dX8_goesBy_170 : decode cX8_goesBy 170 = .ok (.goto (-43), 3) := by decide +kernel
theorem dX8_goesBy_173 : decode cX8_goesBy 173 = .ok (.return_, 1) := by decide +kernel
set_option maxRecDepth 20000 in
set_option maxHeartbeats 4000000 in
theorem w_X8_goesBy_127 {x : tg_X} {Sf : tg_S} {rec127 : tg_S → Int32 → Int32 → Option (tg_S)} (X : tg_M tauR x cX8_goesBy 3 RX8 zr_X8_goesBy none Sf none) (hr127 : ∀ (S : tg_S) (v1 : Int32) (v2 : Int32), rec127 S v1 v2 = some Sf → tg_G tauR x S 127 [(0, .ref (tg_ad x 0)), (1, .int v1), (2, .int v2)] []) (S : tg_S) (v1 : Int32) (v2 : Int32) (h : f_X8_goesBy_127 rec127 S v1 v2 = some Sf) : tg_G tauR x S 127 [(0, .ref (tg_ad x 0)), (1, .int v1), (2, .int v2)] [] := by
  unfold f_X8_goesBy_127 at h
  refine tg_iload_n X dX8_goesBy_127 rfl 2 rfl ?_
  refine tg_bipush X dX8_goesBy_128 tk_b16 ?_
  refine tg_icmp_ge (tgt := 173) X dX8_goesBy_130 (by decide) (fun c1 => ?_) (fun c1 => ?_)
  · have h := tg_ifT c1 h
    exact tg_vret X h dX8_goesBy_173
  · have h := tg_ifF c1 h
    refine tg_aload_n X dX8_goesBy_133 rfl 0 rfl ?_
    refine tg_getr X 0 rfl cl_X8 32 (by decide) rfl wf_X8_73 dX8_goesBy_134 ?_
    refine tg_bipush X dX8_goesBy_137 tk_b16 ?_
    refine tg_iload_n X dX8_goesBy_139 rfl 1 rfl ?_
    refine tg_imul X dX8_goesBy_140 ?_
    refine tg_iload_n X dX8_goesBy_141 rfl 2 rfl ?_
    refine tg_iadd X dX8_goesBy_142 ?_
    refine tg_aload_n X dX8_goesBy_143 rfl 0 rfl ?_
    refine tg_getr X 0 rfl cl_X8 27 (by decide) rfl wf_X8_58 dX8_goesBy_144 ?_
    refine tg_iload_n X dX8_goesBy_147 rfl 2 rfl ?_
    obtain ⟨y2, ey2, by2, h⟩ := tg_rdE h
    refine tg_iald X 17 rfl ey2 by2 dX8_goesBy_148 ?_
    obtain ⟨S3, eS3, bS3, h⟩ := tg_wrE h
    refine tg_iast X 22 rfl bS3 dX8_goesBy_149 eS3 ?_
    refine tg_aload_n X dX8_goesBy_150 rfl 0 rfl ?_
    refine tg_getr X 0 rfl cl_X8 33 (by decide) rfl wf_X8_76 dX8_goesBy_151 ?_
    refine tg_bipush X dX8_goesBy_154 tk_b16 ?_
    refine tg_iload_n X dX8_goesBy_156 rfl 1 rfl ?_
    refine tg_imul X dX8_goesBy_157 ?_
    refine tg_iload_n X dX8_goesBy_158 rfl 2 rfl ?_
    refine tg_iadd X dX8_goesBy_159 ?_
    refine tg_aload_n X dX8_goesBy_160 rfl 0 rfl ?_
    refine tg_getr X 0 rfl cl_X8 25 (by decide) rfl wf_X8_52 dX8_goesBy_161 ?_
    refine tg_iload_n X dX8_goesBy_164 rfl 2 rfl ?_
    obtain ⟨y4, ey4, by4, h⟩ := tg_rdE h
    refine tg_iald X 15 rfl ey4 by4 dX8_goesBy_165 ?_
    obtain ⟨S5, eS5, bS5, h⟩ := tg_wrE h
    refine tg_iast X 23 rfl bS5 dX8_goesBy_166 eS5 ?_
    obtain ⟨y6, ey6⟩ : ∃ z : Int32, z = v2 + 1 := ⟨_, rfl⟩
    have h := tg_nmE ey6 h
    refine tg_iinc (lv2 := [(2, .int y6), (0, .ref (tg_ad x 0)), (1, .int v1)]) X dX8_goesBy_167 2 rfl tk_i1 ey6 (by decide) rfl ?_
    refine tg_goto (tgt := 127) X dX8_goesBy_170 (by decide) ?_
    refine tg_re [1, 2, 0] rfl ?_
    exact hr127 S5 v1 y6 h
theorem wl_X8_goesBy_127 {x : tg_X} {Sf : tg_S} (X : tg_M tauR x cX8_goesBy 3 RX8 zr_X8_goesBy none Sf none) : ∀ (n : Nat) (S : tg_S) (v1 : Int32) (v2 : Int32) (h : L_X8_goesBy_127  n S v1 v2 = some Sf), tg_G tauR x S 127 [(0, .ref (tg_ad x 0)), (1, .int v1), (2, .int v2)] [] := by
  intro n
  induction n with
  | zero => intro S v1 v2 h; cases h
  | succ n ih => intro S v1 v2 h; exact w_X8_goesBy_127 X  ih S v1 v2 h
set_option maxRecDepth 20000 in
set_option maxHeartbeats 4000000 in
theorem w_X8_goesBy_75 {x : tg_X} {Sf : tg_S} (X : tg_M tauR x cX8_goesBy 3 RX8 zr_X8_goesBy none Sf none) (S : tg_S) (v1 : Int32) (h : f_X8_goesBy_75  S v1 = some Sf) : tg_G tauR x S 75 [(0, .ref (tg_ad x 0)), (1, .int v1)] [] := by
  unfold f_X8_goesBy_75 at h
  refine tg_aload_n X dX8_goesBy_75 rfl 0 rfl ?_
  refine tg_getr X 0 rfl cl_X8 29 (by decide) rfl wf_X8_64 dX8_goesBy_76 ?_
  refine tg_iload_n X dX8_goesBy_79 rfl 1 rfl ?_
  refine tg_aload_n X dX8_goesBy_80 rfl 0 rfl ?_
  refine tg_geti X 0 rfl cl_X8 21 (by decide) rfl wf_X8_203 dX8_goesBy_81 ?_
  obtain ⟨S1, eS1, bS1, h⟩ := tg_wrE h
  refine tg_iast X 19 rfl bS1 dX8_goesBy_84 eS1 ?_
  refine tg_aload_n X dX8_goesBy_85 rfl 0 rfl ?_
  refine tg_getr X 0 rfl cl_X8 30 (by decide) rfl wf_X8_67 dX8_goesBy_86 ?_
  refine tg_iload_n X dX8_goesBy_89 rfl 1 rfl ?_
  refine tg_aload_n X dX8_goesBy_90 rfl 0 rfl ?_
  refine tg_geti X 0 rfl cl_X8 18 (by decide) rfl wf_X8_194 dX8_goesBy_91 ?_
  obtain ⟨S2, eS2, bS2, h⟩ := tg_wrE h
  refine tg_iast X 20 rfl bS2 dX8_goesBy_94 eS2 ?_
  refine tg_aload_n X dX8_goesBy_95 rfl 0 rfl ?_
  refine tg_getr X 0 rfl cl_X8 31 (by decide) rfl wf_X8_70 dX8_goesBy_96 ?_
  refine tg_iconst X dX8_goesBy_99 tk_i2 ?_
  refine tg_iload_n X dX8_goesBy_100 rfl 1 rfl ?_
  refine tg_imul X dX8_goesBy_101 ?_
  refine tg_aload_n X dX8_goesBy_102 rfl 0 rfl ?_
  refine tg_getr X 0 rfl cl_X8 28 (by decide) rfl wf_X8_61 dX8_goesBy_103 ?_
  refine tg_iconst X dX8_goesBy_106 tk_i0 ?_
  obtain ⟨y3, ey3, by3, h⟩ := tg_rdE h
  refine tg_iald X 18 rfl ey3 by3 dX8_goesBy_107 ?_
  obtain ⟨S4, eS4, bS4, h⟩ := tg_wrE h
  refine tg_iast X 21 rfl bS4 dX8_goesBy_108 eS4 ?_
  refine tg_aload_n X dX8_goesBy_109 rfl 0 rfl ?_
  refine tg_getr X 0 rfl cl_X8 31 (by decide) rfl wf_X8_70 dX8_goesBy_110 ?_
  refine tg_iconst X dX8_goesBy_113 tk_i2 ?_
  refine tg_iload_n X dX8_goesBy_114 rfl 1 rfl ?_
  refine tg_imul X dX8_goesBy_115 ?_
  refine tg_iconst X dX8_goesBy_116 tk_i1 ?_
  refine tg_iadd X dX8_goesBy_117 ?_
  refine tg_aload_n X dX8_goesBy_118 rfl 0 rfl ?_
  refine tg_getr X 0 rfl cl_X8 28 (by decide) rfl wf_X8_61 dX8_goesBy_119 ?_
  refine tg_iconst X dX8_goesBy_122 tk_i1 ?_
  obtain ⟨y5, ey5, by5, h⟩ := tg_rdE h
  refine tg_iald X 18 rfl ey5 by5 dX8_goesBy_123 ?_
  obtain ⟨S6, eS6, bS6, h⟩ := tg_wrE h
  refine tg_iast X 21 rfl bS6 dX8_goesBy_124 eS6 ?_
  refine tg_iconst X dX8_goesBy_125 tk_i0 ?_
  refine tg_istore_n (lv2 := [(2, .int 0), (0, .ref (tg_ad x 0)), (1, .int v1)]) X dX8_goesBy_126 rfl (by decide) rfl ?_
  refine tg_re [1, 2, 0] rfl ?_
  exact wl_X8_goesBy_127 X  tg_F S6 v1 0 h
set_option maxRecDepth 20000 in
set_option maxHeartbeats 4000000 in
theorem w_X8_goesBy_56 {x : tg_X} {Sf : tg_S} {rec21 : tg_S → Int32 → Int32 → Option (tg_S)} (X : tg_M tauR x cX8_goesBy 3 RX8 zr_X8_goesBy none Sf none) (hr21 : ∀ (S : tg_S) (v1 : Int32) (v2 : Int32), rec21 S v1 v2 = some Sf → tg_G tauR x S 21 [(0, .ref (tg_ad x 0)), (1, .int v1), (2, .int v2)] []) (S : tg_S) (v1 : Int32) (v2 : Int32) (h : f_X8_goesBy_56 rec21 S v1 v2 = some Sf) : tg_G tauR x S 56 [(0, .ref (tg_ad x 0)), (1, .int v1), (2, .int v2)] [] := by
  unfold f_X8_goesBy_56 at h
  obtain ⟨y1, ey1⟩ : ∃ z : Int32, z = v2 + 1 := ⟨_, rfl⟩
  have h := tg_nmE ey1 h
  refine tg_iinc (lv2 := [(2, .int y1), (0, .ref (tg_ad x 0)), (1, .int v1)]) X dX8_goesBy_56 2 rfl tk_i1 ey1 (by decide) rfl ?_
  refine tg_goto (tgt := 21) X dX8_goesBy_59 (by decide) ?_
  refine tg_re [1, 2, 0] rfl ?_
  exact hr21 S v1 y1 h
set_option maxRecDepth 20000 in
set_option maxHeartbeats 4000000 in
theorem w_X8_goesBy_21 {x : tg_X} {Sf : tg_S} {rec21 : tg_S → Int32 → Int32 → Option (tg_S)} (X : tg_M tauR x cX8_goesBy 3 RX8 zr_X8_goesBy none Sf none) (hr21 : ∀ (S : tg_S) (v1 : Int32) (v2 : Int32), rec21 S v1 v2 = some Sf → tg_G tauR x S 21 [(0, .ref (tg_ad x 0)), (1, .int v1), (2, .int v2)] []) (S : tg_S) (v1 : Int32) (v2 : Int32) (h : f_X8_goesBy_21 rec21 S v1 v2 = some Sf) : tg_G tauR x S 21 [(0, .ref (tg_ad x 0)), (1, .int v1), (2, .int v2)] [] := by
  unfold f_X8_goesBy_21 at h
  refine tg_iload_n X dX8_goesBy_21 rfl 2 rfl ?_
  refine tg_bipush X dX8_goesBy_22 tk_b16 ?_
  refine tg_icmp_ge (tgt := 62) X dX8_goesBy_24 (by decide) (fun c1 => ?_) (fun c1 => ?_)
  · have h := tg_ifT c1 h
    refine tg_aload_n X dX8_goesBy_62 rfl 0 rfl ?_
    refine tg_geti X 0 rfl cl_X8 22 (by decide) rfl wf_X8_206 dX8_goesBy_63 ?_
    refine tg_iconst X dX8_goesBy_66 tk_im1 ?_
    refine tg_icmp_ne (tgt := 75) X dX8_goesBy_67 (by decide) (fun c2 => ?_) (fun c2 => ?_)
    · have h := tg_ifF c2 h
      refine tg_re [0, 1] rfl ?_
      exact w_X8_goesBy_75 X  S v1 h
    · have h := tg_ifT c2 h
      refine tg_aload_n X dX8_goesBy_70 rfl 0 rfl ?_
      refine tg_iload_n X dX8_goesBy_71 rfl 1 rfl ?_
      obtain ⟨S3, kS3, h⟩ := tg_bvE h
      refine tg_callV (As := [.int v1]) (rest := []) X 0 (cm_X8_goes _ _ _ _ _ kS3) yy_X8_goes wv_X8_goes ws_X8_goes wm_X8_223 rfl cl_X8.1 ⟨rfl, rfl, Nat.le_of_ble_eq_true rfl, Nat.le_of_ble_eq_true rfl⟩ rfl rfl (Nat.le_of_ble_eq_true rfl) dX8_goesBy_72 rfl ?_
      refine tg_re [0, 1] rfl ?_
      exact w_X8_goesBy_75 X  S3 v1 h
  · have h := tg_ifF c1 h
    refine tg_aload_n X dX8_goesBy_27 rfl 0 rfl ?_
    refine tg_getr X 0 rfl cl_X8 27 (by decide) rfl wf_X8_58 dX8_goesBy_28 ?_
    refine tg_iload_n X dX8_goesBy_31 rfl 2 rfl ?_
    refine tg_iconst X dX8_goesBy_32 tk_i0 ?_
    obtain ⟨S4, eS4, bS4, h⟩ := tg_wrE h
    refine tg_iast X 17 rfl bS4 dX8_goesBy_33 eS4 ?_
    refine tg_aload_n X dX8_goesBy_34 rfl 0 rfl ?_
    refine tg_iload_n X dX8_goesBy_35 rfl 2 rfl ?_
    obtain ⟨S5, r6, kS5, h⟩ := tg_bdE h
    refine tg_callV (As := [.int v2]) (rest := []) X 0 (cm_X8_isHere _ _ _ _ _ kS5) yy_X8_isHere wv_X8_isHere ws_X8_isHere wm_X8_216 rfl cl_X8.1 ⟨rfl, rfl, Nat.le_of_ble_eq_true rfl, Nat.le_of_ble_eq_true rfl⟩ rfl rfl (Nat.le_of_ble_eq_true rfl) dX8_goesBy_36 rfl ?_
    refine tg_if_eq (tgt := 56) X dX8_goesBy_39 (by decide) (fun c7 => ?_) (fun c7 => ?_)
    · have h := tg_ifT c7 h
      exact w_X8_goesBy_56 X hr21 S5 v1 v2 h
    · have h := tg_ifF c7 h
      refine tg_aload_n X dX8_goesBy_42 rfl 0 rfl ?_
      refine tg_geti X 0 rfl cl_X8 22 (by decide) rfl wf_X8_206 dX8_goesBy_43 ?_
      refine tg_iconst X dX8_goesBy_46 tk_im1 ?_
      refine tg_icmp_ne (tgt := 56) X dX8_goesBy_47 (by decide) (fun c8 => ?_) (fun c8 => ?_)
      · have h := tg_ifF c8 h
        exact w_X8_goesBy_56 X hr21 S5 v1 v2 h
      · have h := tg_ifT c8 h
        refine tg_aload_n X dX8_goesBy_50 rfl 0 rfl ?_
        refine tg_iload_n X dX8_goesBy_51 rfl 2 rfl ?_
        refine tg_iload_n X dX8_goesBy_52 rfl 1 rfl ?_
        obtain ⟨S9, kS9, h⟩ := tg_bvE h
        refine tg_callV (As := [.int v2, .int v1]) (rest := []) X 0 (cm_X8_pullsOne _ _ _ _ _ kS9) yy_X8_pullsOne wv_X8_pullsOne ws_X8_pullsOne wm_X8_219 rfl cl_X8.1 ⟨rfl, rfl, Nat.le_of_ble_eq_true rfl, Nat.le_of_ble_eq_true rfl⟩ rfl rfl (Nat.le_of_ble_eq_true rfl) dX8_goesBy_53 rfl ?_
        exact w_X8_goesBy_56 X hr21 S9 v1 v2 h
theorem wl_X8_goesBy_21 {x : tg_X} {Sf : tg_S} (X : tg_M tauR x cX8_goesBy 3 RX8 zr_X8_goesBy none Sf none) : ∀ (n : Nat) (S : tg_S) (v1 : Int32) (v2 : Int32) (h : L_X8_goesBy_21  n S v1 v2 = some Sf), tg_G tauR x S 21 [(0, .ref (tg_ad x 0)), (1, .int v1), (2, .int v2)] [] := by
  intro n
  induction n with
  | zero => intro S v1 v2 h; cases h
  | succ n ih => intro S v1 v2 h; exact w_X8_goesBy_21 X  ih S v1 v2 h
set_option maxRecDepth 20000 in
set_option maxHeartbeats 4000000 in
theorem w_X8_goesBy_0 {x : tg_X} {Sf : tg_S} (X : tg_M tauR x cX8_goesBy 3 RX8 zr_X8_goesBy none Sf none) (S : tg_S) (v1 : Int32) (h : f_X8_goesBy  S v1 = some Sf) : tg_G tauR x S 0 [(0, .ref (tg_ad x 0)), (1, .int v1)] [] := by
  unfold f_X8_goesBy at h
  refine tg_aload_n X dX8_goesBy_0 rfl 0 rfl ?_
  refine tg_iload_n X dX8_goesBy_1 rfl 1 rfl ?_
  obtain ⟨S1, kS1, h⟩ := tg_bvE h
  refine tg_callV (As := [.int v1]) (rest := []) X 0 (cm_X8_befalls _ _ _ _ _ kS1) yy_X8_befalls wv_X8_befalls ws_X8_befalls wm_X8_212 rfl cl_X8.1 ⟨rfl, rfl, Nat.le_of_ble_eq_true rfl, Nat.le_of_ble_eq_true rfl⟩ rfl rfl (Nat.le_of_ble_eq_true rfl) dX8_goesBy_2 rfl ?_
  refine tg_aload_n X dX8_goesBy_5 rfl 0 rfl ?_
  refine tg_getr X 0 rfl cl_X8 28 (by decide) rfl wf_X8_61 dX8_goesBy_6 ?_
  refine tg_iconst X dX8_goesBy_9 tk_i0 ?_
  refine tg_iconst X dX8_goesBy_10 tk_i0 ?_
  obtain ⟨S2, eS2, bS2, h⟩ := tg_wrE h
  refine tg_iast X 18 rfl bS2 dX8_goesBy_11 eS2 ?_
  refine tg_aload_n X dX8_goesBy_12 rfl 0 rfl ?_
  refine tg_getr X 0 rfl cl_X8 28 (by decide) rfl wf_X8_61 dX8_goesBy_13 ?_
  refine tg_iconst X dX8_goesBy_16 tk_i1 ?_
  refine tg_iconst X dX8_goesBy_17 tk_i0 ?_
  obtain ⟨S3, eS3, bS3, h⟩ := tg_wrE h
  refine tg_iast X 18 rfl bS3 dX8_goesBy_18 eS3 ?_
  refine tg_iconst X dX8_goesBy_19 tk_i0 ?_
  refine tg_istore_n (lv2 := [(2, .int 0), (0, .ref (tg_ad x 0)), (1, .int v1)]) X dX8_goesBy_20 rfl (by decide) rfl ?_
  refine tg_re [1, 2, 0] rfl ?_
  exact wl_X8_goesBy_21 X  tg_F S3 v1 0 h
theorem cm_X8_goesBy (l : Launch) (D : va_G) (cy : Bool → ClassId) (ad : Nat → Nat) (tS : Nat) {S Sf : tg_S} {v1 : Int32} (h : f_X8_goesBy  S v1 = some Sf) : tg_Met l yX8_goesBy cX8_goesBy 3 none zr_X8_goesBy tauR D cy ad tS S [.ref (ad 0), .int v1] Sf none := tg_mk (by decide +kernel) trivial (Nat.le_of_ble_eq_true rfl) (fun p e s m args below meth c Q A X => w_X8_goesBy_0 X S v1 h)
-- X8_runs
def zr_X8_runs : Room := { frames := 4, cells := 0, slots := 0, locals := 86 }
theorem dX8_runs_0 : decode cX8_runs 0 = .ok (.aload_n 0, 1) := by decide +kernel
theorem dX8_runs_1 : decode cX8_runs 1 = .ok (.aload_n 0, 1) := by decide +kernel
theorem dX8_runs_2 : decode cX8_runs 2 = .ok (.getfield 162, 3) := by decide +kernel
theorem dX8_runs_5 : decode cX8_runs 5 = .ok (.putfield 194, 3) := by decide +kernel
theorem dX8_runs_8 : decode cX8_runs 8 = .ok (.aload_n 0, 1) := by decide +kernel
theorem dX8_runs_9 : decode cX8_runs 9 = .ok (.bipush 12, 2) := by decide +kernel
theorem dX8_runs_11 : decode cX8_runs 11 = .ok (.putfield 203, 3) := by decide +kernel
theorem dX8_runs_14 : decode cX8_runs 14 = .ok (.aload_n 0, 1) := by decide +kernel
theorem dX8_runs_15 : decode cX8_runs 15 = .ok (.iconst (-1), 1) := by decide +kernel
theorem dX8_runs_16 : decode cX8_runs 16 = .ok (.putfield 206, 3) := by decide +kernel
theorem dX8_runs_19 : decode cX8_runs 19 = .ok (.aload_n 0, 1) := by decide +kernel
theorem dX8_runs_20 : decode cX8_runs 20 = .ok (.iconst (-1), 1) := by decide +kernel
theorem dX8_runs_21 : decode cX8_runs 21 = .ok (.putfield 209, 3) := by decide +kernel
theorem dX8_runs_24 : decode cX8_runs 24 = .ok (.aload_n 0, 1) := by decide +kernel
theorem dX8_runs_25 : decode cX8_runs 25 = .ok (.iconst 0, 1) := by decide +kernel
theorem dX8_runs_26 : decode cX8_runs 26 = .ok (.putfield 200, 3) := by decide +kernel
theorem dX8_runs_29 : decode cX8_runs 29 = .ok (.aload_n 0, 1) := by decide +kernel
theorem dX8_runs_30 : decode cX8_runs 30 = .ok (.getfield 49, 3) := by decide +kernel
theorem dX8_runs_33 : decode cX8_runs 33 = .ok (.iconst 0, 1) := by decide +kernel
theorem dX8_runs_34 : decode cX8_runs 34 = .ok (.iconst (-1), 1) := by decide +kernel
theorem dX8_runs_35 : decode cX8_runs 35 = .ok (.iastore, 1) := by decide +kernel
theorem dX8_runs_36 : decode cX8_runs 36 = .ok (.aload_n 0, 1) := by decide +kernel
theorem dX8_runs_37 : decode cX8_runs 37 = .ok (.getfield 49, 3) := by decide +kernel
theorem dX8_runs_40 : decode cX8_runs 40 = .ok (.iconst 1, 1) := by decide +kernel
theorem dX8_runs_41 : decode cX8_runs 41 = .ok (.iconst (-1), 1) := by decide +kernel
theorem dX8_runs_42 : decode cX8_runs 42 = .ok (.iastore, 1) := by decide +kernel
theorem dX8_runs_43 : decode cX8_runs 43 = .ok (.iconst 0, 1) := by decide +kernel
theorem dX8_runs_44 : decode cX8_runs 44 = .ok (.istore_n 1, 1) := by decide +kernel
theorem dX8_runs_45 : decode cX8_runs 45 = .ok (.iload_n 1, 1) := by decide +kernel
theorem dX8_runs_46 : decode cX8_runs 46 = .ok (.bipush 16, 2) := by decide +kernel
theorem dX8_runs_48 : decode cX8_runs 48 = .ok (.if_icmp .ge 109, 3) := by decide +kernel
theorem dX8_runs_51 : decode cX8_runs 51 = .ok (.iload_n 1, 1) := by decide +kernel
theorem dX8_runs_52 : decode cX8_runs 52 = .ok (.bipush 8, 2) := by decide +kernel
theorem dX8_runs_54 : decode cX8_runs 54 = .ok (.idiv, 1) := by decide +kernel
theorem dX8_runs_55 : decode cX8_runs 55 = .ok (.istore_n 2, 1) := by decide +kernel
theorem dX8_runs_56 : decode cX8_runs 56 = .ok (.aload_n 0, 1) := by decide +kernel
theorem dX8_runs_57 : decode cX8_runs 57 = .ok (.getfield 52, 3) := by decide +kernel
theorem dX8_runs_60 : decode cX8_runs 60 = .ok (.iload_n 1, 1) := by decide +kernel
theorem dX8_runs_61 : decode cX8_runs 61 = .ok (.aload_n 0, 1) := by decide +kernel
theorem dX8_runs_62 : decode cX8_runs 62 = .ok (.iload_n 1, 1) := by decide +kernel
theorem dX8_runs_63 : decode cX8_runs 63 = .ok (.invokevirtual 141, 3) := by decide +kernel
theorem dX8_runs_66 : decode cX8_runs 66 = .ok (.ifCond .eq 12, 3) := by decide +kernel
theorem dX8_runs_69 : decode cX8_runs 69 = .ok (.aload_n 0, 1) := by decide +kernel
theorem dX8_runs_70 : decode cX8_runs 70 = .ok (.getfield 25, 3) := by decide +kernel
theorem dX8_runs_73 : decode cX8_runs 73 = .ok (.iload_n 1, 1) := by decide +kernel
theorem dX8_runs_74 : decode cX8_runs 74 = .ok (.iaload, 1) := by decide +kernel
theorem dX8_runs_75 : decode cX8_runs 75 = .ok (.goto 4, 3) := by decide +kernel
theorem dX8_runs_78 : decode cX8_runs 78 = .ok (.iconst 0, 1) := by decide +kernel
theorem dX8_runs_79 : decode cX8_runs 79 = .ok (.iastore, 1) := by decide +kernel
theorem dX8_runs_80 : decode cX8_runs 80 = .ok (.aload_n 0, 1) := by decide +kernel
theorem dX8_runs_81 : decode cX8_runs 81 = .ok (.getfield 55, 3) := by decide +kernel
theorem dX8_runs_84 : decode cX8_runs 84 = .ok (.iload_n 1, 1) := by decide +kernel
theorem dX8_runs_85 : decode cX8_runs 85 = .ok (.iconst 0, 1) := by decide +kernel
theorem dX8_runs_86 : decode cX8_runs 86 = .ok (.iastore, 1) := by decide +kernel
theorem dX8_runs_87 : decode cX8_runs 87 = .ok (.aload_n 0, 1) := by decide +kernel
theorem dX8_runs_88 : decode cX8_runs 88 = .ok (.iload_n 1, 1) := by decide +kernel
theorem dX8_runs_89 : decode cX8_runs 89 = .ok (.invokevirtual 216, 3) := by decide +kernel
theorem dX8_runs_92 : decode cX8_runs 92 = .ok (.ifCond .eq 37, 3) := by decide +kernel
theorem dX8_runs_95 : decode cX8_runs 95 = .ok (.aload_n 0, 1) := by decide +kernel
theorem dX8_runs_96 : decode cX8_runs 96 = .ok (.getfield 49, 3) := by decide +kernel
theorem dX8_runs_99 : decode cX8_runs 99 = .ok (.iload_n 2, 1) := by decide +kernel
theorem dX8_runs_100 : decode cX8_runs 100 = .ok (.iaload, 1) := by decide +kernel
theorem dX8_runs_101 : decode cX8_runs 101 = .ok (.iconst (-1), 1) := by decide +kernel
theorem dX8_runs_102 : decode cX8_runs 102 = .ok (.if_icmp .eq 23, 3) := by decide +kernel
theorem dX8_runs_105 : decode cX8_runs 105 = .ok (.aload_n 0, 1) := by decide +kernel
theorem dX8_runs_106 : decode cX8_runs 106 = .ok (.getfield 46, 3) := by decide +kernel
theorem dX8_runs_109 : decode cX8_runs 109 = .ok (.iload_n 1, 1) := by decide +kernel
theorem dX8_runs_110 : decode cX8_runs 110 = .ok (.iaload, 1) := by decide +kernel
theorem dX8_runs_111 : decode cX8_runs 111 = .ok (.aload_n 0, 1) := by decide +kernel
theorem dX8_runs_112 : decode cX8_runs 112 = .ok (.getfield 46, 3) := by decide +kernel
theorem dX8_runs_115 : decode cX8_runs 115 = .ok (.aload_n 0, 1) := by decide +kernel
theorem dX8_runs_116 : decode cX8_runs 116 = .ok (.getfield 49, 3) := by decide +kernel
theorem dX8_runs_119 : decode cX8_runs 119 = .ok (.iload_n 2, 1) := by decide +kernel
theorem dX8_runs_120 : decode cX8_runs 120 = .ok (.iaload, 1) := by decide +kernel
theorem dX8_runs_121 : decode cX8_runs 121 = .ok (.iaload, 1) := by decide +kernel
theorem dX8_runs_122 : decode cX8_runs 122 = .ok (.if_icmp .le 7, 3) := by decide +kernel
theorem dX8_runs_125 : decode cX8_runs 125 = .ok (.iconst 1, 1) := by decide +kernel
theorem dX8_runs_126 : decode cX8_runs 126 = .ok (.goto 4, 3) := by decide +kernel
theorem dX8_runs_129 : decode cX8_runs 129 = .ok (.iconst 0, 1) := by decide +kernel
theorem dX8_runs_130 : decode cX8_runs 130 = .ok (.istore_n 3, 1) := by decide +kernel
theorem dX8_runs_131 : decode cX8_runs 131 = .ok (.aload_n 0, 1) := by decide +kernel
theorem dX8_runs_132 : decode cX8_runs 132 = .ok (.getfield 49, 3) := by decide +kernel
theorem dX8_runs_135 : decode cX8_runs 135 = .ok (.iload_n 2, 1) := by decide +kernel
theorem dX8_runs_136 : decode cX8_runs 136 = .ok (.iload_n 3, 1) := by decide +kernel
theorem dX8_runs_137 : decode cX8_runs 137 = .ok (.ifCond .eq 7, 3) := by decide +kernel
theorem dX8_runs_140 : decode cX8_runs 140 = .ok (.iload_n 1, 1) := by decide +kernel
theorem dX8_runs_141 : decode cX8_runs 141 = .ok (.goto 9, 3) := by decide +kernel
theorem dX8_runs_144 : decode cX8_runs 144 = .ok (.aload_n 0, 1) := by decide +kernel
theorem dX8_runs_145 : decode cX8_runs 145 = .ok (.getfield 49, 3) := by decide +kernel
theorem dX8_runs_148 : decode cX8_runs 148 = .ok (.iload_n 2, 1) := by decide +kernel
theorem dX8_runs_149 : decode cX8_runs 149 = .ok (.iaload, 1) := by decide +kernel
theorem dX8_runs_150 : decode cX8_runs 150 = .ok (.iastore, 1) := by decide +kernel
theorem dX8_runs_151 : decode cX8_runs 151 = .ok (.iinc 1 1, 3) := by decide +kernel
theorem dX8_runs_154 : decode cX8_runs 154 = .ok (.goto (-109), 3) := by decide +kernel
theorem dX8_runs_157 : decode cX8_runs 157 = .ok (.iconst 0, 1) := by decide +kernel
theorem dX8_runs_158 : decode cX8_runs 158 = .ok (.istore_n 1, 1) := by decide +kernel
theorem dX8_runs_159 : decode cX8_runs 159 = .ok (.iload_n 1, 1) := by decide +kernel
theorem dX8_runs_160 : decode cX8_runs 160 = .ok (.bipush 24, 2) := by decide +kernel
theorem dX8_runs_162 : decode cX8_runs 162 = .ok (.if_icmp .ge 14, 3) := by decide +kernel
theorem dX8_runs_165 : decode cX8_runs 165 = .ok (.aload_n 0, 1) := by decide +kernel
theorem dX8_runs_166 : decode cX8_runs 166 = .ok (.iload_n 1, 1) := by decide +kernel
theorem dX8_runs_167 : decode cX8_runs 167 = .ok (.invokevirtual 226, 3) := by decide +kernel
theorem dX8_runs_170 : decode cX8_runs 170 = .ok (.iinc 1 1, 3) := by decide +kernel
theorem dX8_runs_173 : decode cX8_runs 173 = .ok (.goto (-14), 3) := by decide +kernel
theorem dX8_runs_176 : decode cX8_runs 176 = .ok (.return_, 1) := by decide +kernel
set_option maxRecDepth 20000 in
set_option maxHeartbeats 4000000 in
theorem w_X8_runs_159 {x : tg_X} {Sf : tg_S} {rec159 : tg_S → Int32 → Option (tg_S)} (X : tg_M tauR x cX8_runs 4 RX8 zr_X8_runs none Sf none) (hr159 : ∀ (S : tg_S) (v1 : Int32), rec159 S v1 = some Sf → tg_G tauR x S 159 [(0, .ref (tg_ad x 0)), (1, .int v1)] []) (S : tg_S) (v1 : Int32) (h : f_X8_runs_159 rec159 S v1 = some Sf) : tg_G tauR x S 159 [(0, .ref (tg_ad x 0)), (1, .int v1)] [] := by
  unfold f_X8_runs_159 at h
  refine tg_iload_n X dX8_runs_159 rfl 1 rfl ?_
  refine tg_bipush X dX8_runs_160 tk_b24 ?_
  refine tg_icmp_ge (tgt := 176) X dX8_runs_162 (by decide) (fun c1 => ?_) (fun c1 => ?_)
  · have h := tg_ifT c1 h
    exact tg_vret X h dX8_runs_176
  · have h := tg_ifF c1 h
    refine tg_aload_n X dX8_runs_165 rfl 0 rfl ?_
    refine tg_iload_n X dX8_runs_166 rfl 1 rfl ?_
    obtain ⟨S2, kS2, h⟩ := tg_bvE h
    refine tg_callV (As := [.int v1]) (rest := []) X 0 (cm_X8_goesBy _ _ _ _ _ kS2) yy_X8_goesBy wv_X8_goesBy ws_X8_goesBy wm_X8_226 rfl cl_X8.1 ⟨rfl, rfl, Nat.le_of_ble_eq_true rfl, Nat.le_of_ble_eq_true rfl⟩ rfl rfl (Nat.le_of_ble_eq_true rfl) dX8_runs_167 rfl ?_
    obtain ⟨y3, ey3⟩ : ∃ z : Int32, z = v1 + 1 := ⟨_, rfl⟩
    have h := tg_nmE ey3 h
    refine tg_iinc (lv2 := [(1, .int y3), (0, .ref (tg_ad x 0))]) X dX8_runs_170 1 rfl tk_i1 ey3 (by decide) rfl ?_
    refine tg_goto (tgt := 159) X dX8_runs_173 (by decide) ?_
    refine tg_re [1, 0] rfl ?_
    exact hr159 S2 y3 h
theorem wl_X8_runs_159 {x : tg_X} {Sf : tg_S} (X : tg_M tauR x cX8_runs 4 RX8 zr_X8_runs none Sf none) : ∀ (n : Nat) (S : tg_S) (v1 : Int32) (h : L_X8_runs_159  n S v1 = some Sf), tg_G tauR x S 159 [(0, .ref (tg_ad x 0)), (1, .int v1)] [] := by
  intro n
  induction n with
  | zero => intro S v1 h; cases h
  | succ n ih => intro S v1 h; exact w_X8_runs_159 X  ih S v1 h
set_option maxRecDepth 20000 in
set_option maxHeartbeats 4000000 in
theorem w_X8_runs_150 {x : tg_X} {Sf : tg_S} {rec45 : tg_S → Int32 → Option (tg_S)} (X : tg_M tauR x cX8_runs 4 RX8 zr_X8_runs none Sf none) (hr45 : ∀ (S : tg_S) (v1 : Int32), rec45 S v1 = some Sf → tg_G tauR x S 45 [(0, .ref (tg_ad x 0)), (1, .int v1)] []) (S : tg_S) (v1 : Int32) (s0 : Int32) (s1 : Int32) (h : f_X8_runs_150 rec45 S v1 s0 s1 = some Sf) : tg_G tauR x S 150 [(0, .ref (tg_ad x 0)), (1, .int v1)] [.int s0, .int s1, .ref (tg_ad x 14)] := by
  unfold f_X8_runs_150 at h
  obtain ⟨S1, eS1, bS1, h⟩ := tg_wrE h
  refine tg_iast X 14 rfl bS1 dX8_runs_150 eS1 ?_
  obtain ⟨y2, ey2⟩ : ∃ z : Int32, z = v1 + 1 := ⟨_, rfl⟩
  have h := tg_nmE ey2 h
  refine tg_iinc (lv2 := [(1, .int y2), (0, .ref (tg_ad x 0))]) X dX8_runs_151 1 rfl tk_i1 ey2 (by decide) rfl ?_
  refine tg_goto (tgt := 45) X dX8_runs_154 (by decide) ?_
  refine tg_re [1, 0] rfl ?_
  exact hr45 S1 y2 h
set_option maxRecDepth 20000 in
set_option maxHeartbeats 4000000 in
theorem w_X8_runs_130 {x : tg_X} {Sf : tg_S} {rec45 : tg_S → Int32 → Option (tg_S)} (X : tg_M tauR x cX8_runs 4 RX8 zr_X8_runs none Sf none) (hr45 : ∀ (S : tg_S) (v1 : Int32), rec45 S v1 = some Sf → tg_G tauR x S 45 [(0, .ref (tg_ad x 0)), (1, .int v1)] []) (S : tg_S) (v1 : Int32) (v2 : Int32) (s0 : Int32) (h : f_X8_runs_130 rec45 S v1 v2 s0 = some Sf) : tg_G tauR x S 130 [(0, .ref (tg_ad x 0)), (1, .int v1), (2, .int v2)] [.int s0] := by
  unfold f_X8_runs_130 at h
  refine tg_istore_n (lv2 := [(3, .int s0), (0, .ref (tg_ad x 0)), (1, .int v1), (2, .int v2)]) X dX8_runs_130 rfl (by decide) rfl ?_
  refine tg_aload_n X dX8_runs_131 rfl 1 rfl ?_
  refine tg_getr X 0 rfl cl_X8 17 (by decide) rfl wf_X8_49 dX8_runs_132 ?_
  refine tg_iload_n X dX8_runs_135 rfl 3 rfl ?_
  refine tg_iload_n X dX8_runs_136 rfl 0 rfl ?_
  refine tg_if_eq (tgt := 144) X dX8_runs_137 (by decide) (fun c1 => ?_) (fun c1 => ?_)
  · have h := tg_ifT c1 h
    refine tg_aload_n X dX8_runs_144 rfl 1 rfl ?_
    refine tg_getr X 0 rfl cl_X8 17 (by decide) rfl wf_X8_49 dX8_runs_145 ?_
    refine tg_iload_n X dX8_runs_148 rfl 3 rfl ?_
    obtain ⟨y2, ey2, by2, h⟩ := tg_rdE h
    refine tg_iald X 14 rfl ey2 by2 dX8_runs_149 ?_
    refine tg_re [1, 2] rfl ?_
    exact w_X8_runs_150 X hr45 S v1 y2 v2 h
  · have h := tg_ifF c1 h
    refine tg_iload_n X dX8_runs_140 rfl 2 rfl ?_
    refine tg_goto (tgt := 150) X dX8_runs_141 (by decide) ?_
    refine tg_re [1, 2] rfl ?_
    exact w_X8_runs_150 X hr45 S v1 v1 v2 h
set_option maxRecDepth 20000 in
set_option maxHeartbeats 4000000 in
theorem w_X8_runs_129 {x : tg_X} {Sf : tg_S} {rec45 : tg_S → Int32 → Option (tg_S)} (X : tg_M tauR x cX8_runs 4 RX8 zr_X8_runs none Sf none) (hr45 : ∀ (S : tg_S) (v1 : Int32), rec45 S v1 = some Sf → tg_G tauR x S 45 [(0, .ref (tg_ad x 0)), (1, .int v1)] []) (S : tg_S) (v1 : Int32) (v2 : Int32) (h : f_X8_runs_129 rec45 S v1 v2 = some Sf) : tg_G tauR x S 129 [(0, .ref (tg_ad x 0)), (1, .int v1), (2, .int v2)] [] := by
  unfold f_X8_runs_129 at h
  refine tg_iconst X dX8_runs_129 tk_i0 ?_
  exact w_X8_runs_130 X hr45 S v1 v2 0 h
set_option maxRecDepth 20000 in
set_option maxHeartbeats 4000000 in
theorem w_X8_runs_125 {x : tg_X} {Sf : tg_S} {rec45 : tg_S → Int32 → Option (tg_S)} (X : tg_M tauR x cX8_runs 4 RX8 zr_X8_runs none Sf none) (hr45 : ∀ (S : tg_S) (v1 : Int32), rec45 S v1 = some Sf → tg_G tauR x S 45 [(0, .ref (tg_ad x 0)), (1, .int v1)] []) (S : tg_S) (v1 : Int32) (v2 : Int32) (h : f_X8_runs_125 rec45 S v1 v2 = some Sf) : tg_G tauR x S 125 [(0, .ref (tg_ad x 0)), (1, .int v1), (2, .int v2)] [] := by
  unfold f_X8_runs_125 at h
  refine tg_iconst X dX8_runs_125 tk_i1 ?_
  refine tg_goto (tgt := 130) X dX8_runs_126 (by decide) ?_
  exact w_X8_runs_130 X hr45 S v1 v2 1 h
set_option maxRecDepth 20000 in
set_option maxHeartbeats 4000000 in
theorem w_X8_runs_79 {x : tg_X} {Sf : tg_S} {rec45 : tg_S → Int32 → Option (tg_S)} (X : tg_M tauR x cX8_runs 4 RX8 zr_X8_runs none Sf none) (hr45 : ∀ (S : tg_S) (v1 : Int32), rec45 S v1 = some Sf → tg_G tauR x S 45 [(0, .ref (tg_ad x 0)), (1, .int v1)] []) (S : tg_S) (v1 : Int32) (v2 : Int32) (s0 : Int32) (s1 : Int32) (h : f_X8_runs_79 rec45 S v1 v2 s0 s1 = some Sf) : tg_G tauR x S 79 [(0, .ref (tg_ad x 0)), (1, .int v1), (2, .int v2)] [.int s0, .int s1, .ref (tg_ad x 15)] := by
  unfold f_X8_runs_79 at h
  obtain ⟨S1, eS1, bS1, h⟩ := tg_wrE h
  refine tg_iast X 15 rfl bS1 dX8_runs_79 eS1 ?_
  refine tg_aload_n X dX8_runs_80 rfl 0 rfl ?_
  refine tg_getr X 0 rfl cl_X8 26 (by decide) rfl wf_X8_55 dX8_runs_81 ?_
  refine tg_iload_n X dX8_runs_84 rfl 1 rfl ?_
  refine tg_iconst X dX8_runs_85 tk_i0 ?_
  obtain ⟨S2, eS2, bS2, h⟩ := tg_wrE h
  refine tg_iast X 16 rfl bS2 dX8_runs_86 eS2 ?_
  refine tg_aload_n X dX8_runs_87 rfl 0 rfl ?_
  refine tg_iload_n X dX8_runs_88 rfl 1 rfl ?_
  obtain ⟨S3, r4, kS3, h⟩ := tg_bdE h
  refine tg_callV (As := [.int v1]) (rest := []) X 0 (cm_X8_isHere _ _ _ _ _ kS3) yy_X8_isHere wv_X8_isHere ws_X8_isHere wm_X8_216 rfl cl_X8.1 ⟨rfl, rfl, Nat.le_of_ble_eq_true rfl, Nat.le_of_ble_eq_true rfl⟩ rfl rfl (Nat.le_of_ble_eq_true rfl) dX8_runs_89 rfl ?_
  refine tg_if_eq (tgt := 129) X dX8_runs_92 (by decide) (fun c5 => ?_) (fun c5 => ?_)
  · have h := tg_ifT c5 h
    exact w_X8_runs_129 X hr45 S3 v1 v2 h
  · have h := tg_ifF c5 h
    refine tg_aload_n X dX8_runs_95 rfl 0 rfl ?_
    refine tg_getr X 0 rfl cl_X8 17 (by decide) rfl wf_X8_49 dX8_runs_96 ?_
    refine tg_iload_n X dX8_runs_99 rfl 2 rfl ?_
    obtain ⟨y6, ey6, by6, h⟩ := tg_rdE h
    refine tg_iald X 14 rfl ey6 by6 dX8_runs_100 ?_
    refine tg_iconst X dX8_runs_101 tk_im1 ?_
    refine tg_icmp_eq (tgt := 125) X dX8_runs_102 (by decide) (fun c7 => ?_) (fun c7 => ?_)
    · have h := tg_ifT c7 h
      exact w_X8_runs_125 X hr45 S3 v1 v2 h
    · have h := tg_ifF c7 h
      refine tg_aload_n X dX8_runs_105 rfl 0 rfl ?_
      refine tg_getr X 0 rfl cl_X8 15 (by decide) rfl wf_X8_46 dX8_runs_106 ?_
      refine tg_iload_n X dX8_runs_109 rfl 1 rfl ?_
      obtain ⟨y8, ey8, by8, h⟩ := tg_rdE h
      refine tg_iald X 13 rfl ey8 by8 dX8_runs_110 ?_
      refine tg_aload_n X dX8_runs_111 rfl 0 rfl ?_
      refine tg_getr X 0 rfl cl_X8 15 (by decide) rfl wf_X8_46 dX8_runs_112 ?_
      refine tg_aload_n X dX8_runs_115 rfl 0 rfl ?_
      refine tg_getr X 0 rfl cl_X8 17 (by decide) rfl wf_X8_49 dX8_runs_116 ?_
      refine tg_iload_n X dX8_runs_119 rfl 2 rfl ?_
      obtain ⟨y9, ey9, by9, h⟩ := tg_rdE h
      refine tg_iald X 14 rfl ey9 by9 dX8_runs_120 ?_
      obtain ⟨y10, ey10, by10, h⟩ := tg_rdE h
      refine tg_iald X 13 rfl ey10 by10 dX8_runs_121 ?_
      refine tg_icmp_le (tgt := 129) X dX8_runs_122 (by decide) (fun c11 => ?_) (fun c11 => ?_)
      · have h := tg_ifT c11 h
        exact w_X8_runs_129 X hr45 S3 v1 v2 h
      · have h := tg_ifF c11 h
        exact w_X8_runs_125 X hr45 S3 v1 v2 h
set_option maxRecDepth 20000 in
set_option maxHeartbeats 4000000 in
theorem w_X8_runs_45 {x : tg_X} {Sf : tg_S} {rec45 : tg_S → Int32 → Option (tg_S)} (X : tg_M tauR x cX8_runs 4 RX8 zr_X8_runs none Sf none) (hr45 : ∀ (S : tg_S) (v1 : Int32), rec45 S v1 = some Sf → tg_G tauR x S 45 [(0, .ref (tg_ad x 0)), (1, .int v1)] []) (S : tg_S) (v1 : Int32) (h : f_X8_runs_45 rec45 S v1 = some Sf) : tg_G tauR x S 45 [(0, .ref (tg_ad x 0)), (1, .int v1)] [] := by
  unfold f_X8_runs_45 at h
  refine tg_iload_n X dX8_runs_45 rfl 1 rfl ?_
  refine tg_bipush X dX8_runs_46 tk_b16 ?_
  refine tg_icmp_ge (tgt := 157) X dX8_runs_48 (by decide) (fun c1 => ?_) (fun c1 => ?_)
  · have h := tg_ifT c1 h
    refine tg_iconst X dX8_runs_157 tk_i0 ?_
    refine tg_istore_n (lv2 := [(1, .int 0), (0, .ref (tg_ad x 0))]) X dX8_runs_158 rfl (by decide) rfl ?_
    refine tg_re [1, 0] rfl ?_
    exact wl_X8_runs_159 X  tg_F S 0 h
  · have h := tg_ifF c1 h
    refine tg_iload_n X dX8_runs_51 rfl 1 rfl ?_
    refine tg_bipush X dX8_runs_52 tk_b8 ?_
    refine tg_idiv X dX8_runs_54 (by decide) ?_
    refine tg_topi (fun y2 ey2 => ?_)
    have h := tg_nmE ey2 h
    refine tg_istore_n (lv2 := [(2, .int y2), (0, .ref (tg_ad x 0)), (1, .int v1)]) X dX8_runs_55 rfl (by decide) rfl ?_
    refine tg_aload_n X dX8_runs_56 rfl 1 rfl ?_
    refine tg_getr X 0 rfl cl_X8 25 (by decide) rfl wf_X8_52 dX8_runs_57 ?_
    refine tg_iload_n X dX8_runs_60 rfl 2 rfl ?_
    refine tg_aload_n X dX8_runs_61 rfl 1 rfl ?_
    refine tg_iload_n X dX8_runs_62 rfl 2 rfl ?_
    obtain ⟨S3, r4, kS3, h⟩ := tg_bdE h
    refine tg_callV (As := [.int v1]) (rest := [.int v1, .ref (tg_ad x 15)]) X 0 (cm_X8_isThereOne _ _ _ _ _ kS3) yy_X8_isThereOne wv_X8_isThereOne ws_X8_isThereOne wm_X8_141 rfl cl_X8.1 ⟨rfl, rfl, Nat.le_of_ble_eq_true rfl, Nat.le_of_ble_eq_true rfl⟩ rfl rfl (Nat.le_of_ble_eq_true rfl) dX8_runs_63 rfl ?_
    refine tg_if_eq (tgt := 78) X dX8_runs_66 (by decide) (fun c5 => ?_) (fun c5 => ?_)
    · have h := tg_ifT c5 h
      refine tg_iconst X dX8_runs_78 tk_i0 ?_
      refine tg_re [1, 2, 0] rfl ?_
      exact w_X8_runs_79 X hr45 S3 v1 y2 0 v1 h
    · have h := tg_ifF c5 h
      refine tg_aload_n X dX8_runs_69 rfl 1 rfl ?_
      refine tg_getr X 0 rfl cl_X8 5 (by decide) rfl wf_X8_25 dX8_runs_70 ?_
      refine tg_iload_n X dX8_runs_73 rfl 2 rfl ?_
      obtain ⟨y6, ey6, by6, h⟩ := tg_rdE h
      refine tg_iald X 6 rfl ey6 by6 dX8_runs_74 ?_
      refine tg_goto (tgt := 79) X dX8_runs_75 (by decide) ?_
      refine tg_re [1, 2, 0] rfl ?_
      exact w_X8_runs_79 X hr45 S3 v1 y2 y6 v1 h
theorem wl_X8_runs_45 {x : tg_X} {Sf : tg_S} (X : tg_M tauR x cX8_runs 4 RX8 zr_X8_runs none Sf none) : ∀ (n : Nat) (S : tg_S) (v1 : Int32) (h : L_X8_runs_45  n S v1 = some Sf), tg_G tauR x S 45 [(0, .ref (tg_ad x 0)), (1, .int v1)] [] := by
  intro n
  induction n with
  | zero => intro S v1 h; cases h
  | succ n ih => intro S v1 h; exact w_X8_runs_45 X  ih S v1 h
set_option maxRecDepth 20000 in
set_option maxHeartbeats 4000000 in
theorem w_X8_runs_0 {x : tg_X} {Sf : tg_S} (X : tg_M tauR x cX8_runs 4 RX8 zr_X8_runs none Sf none) (S : tg_S) (h : f_X8_runs  S  = some Sf) : tg_G tauR x S 0 [(0, .ref (tg_ad x 0))] [] := by
  unfold f_X8_runs at h
  refine tg_aload_n X dX8_runs_0 rfl 0 rfl ?_
  refine tg_aload_n X dX8_runs_1 rfl 0 rfl ?_
  refine tg_geti X 0 rfl cl_X8 8 (by decide) rfl wf_X8_162 dX8_runs_2 ?_
  obtain ⟨S1, eS1, h⟩ := tg_pfE h
  refine tg_puti X 0 rfl cl_X8 18 (by decide) rfl wf_X8_194 rfl rfl rfl dX8_runs_5 eS1 ?_
  refine tg_aload_n X dX8_runs_8 rfl 0 rfl ?_
  refine tg_bipush X dX8_runs_9 tk_b12 ?_
  obtain ⟨S2, eS2, h⟩ := tg_pfE h
  refine tg_puti X 0 rfl cl_X8 21 (by decide) rfl wf_X8_203 rfl rfl rfl dX8_runs_11 eS2 ?_
  refine tg_aload_n X dX8_runs_14 rfl 0 rfl ?_
  refine tg_iconst X dX8_runs_15 tk_im1 ?_
  obtain ⟨S3, eS3, h⟩ := tg_pfE h
  refine tg_puti X 0 rfl cl_X8 22 (by decide) rfl wf_X8_206 rfl rfl rfl dX8_runs_16 eS3 ?_
  refine tg_aload_n X dX8_runs_19 rfl 0 rfl ?_
  refine tg_iconst X dX8_runs_20 tk_im1 ?_
  obtain ⟨S4, eS4, h⟩ := tg_pfE h
  refine tg_puti X 0 rfl cl_X8 23 (by decide) rfl wf_X8_209 rfl rfl rfl dX8_runs_21 eS4 ?_
  refine tg_aload_n X dX8_runs_24 rfl 0 rfl ?_
  refine tg_iconst X dX8_runs_25 tk_i0 ?_
  obtain ⟨S5, eS5, h⟩ := tg_pfE h
  refine tg_puti X 0 rfl cl_X8 24 (by decide) rfl wf_X8_200 rfl rfl rfl dX8_runs_26 eS5 ?_
  refine tg_aload_n X dX8_runs_29 rfl 0 rfl ?_
  refine tg_getr X 0 rfl cl_X8 17 (by decide) rfl wf_X8_49 dX8_runs_30 ?_
  refine tg_iconst X dX8_runs_33 tk_i0 ?_
  refine tg_iconst X dX8_runs_34 tk_im1 ?_
  obtain ⟨S6, eS6, bS6, h⟩ := tg_wrE h
  refine tg_iast X 14 rfl bS6 dX8_runs_35 eS6 ?_
  refine tg_aload_n X dX8_runs_36 rfl 0 rfl ?_
  refine tg_getr X 0 rfl cl_X8 17 (by decide) rfl wf_X8_49 dX8_runs_37 ?_
  refine tg_iconst X dX8_runs_40 tk_i1 ?_
  refine tg_iconst X dX8_runs_41 tk_im1 ?_
  obtain ⟨S7, eS7, bS7, h⟩ := tg_wrE h
  refine tg_iast X 14 rfl bS7 dX8_runs_42 eS7 ?_
  refine tg_iconst X dX8_runs_43 tk_i0 ?_
  refine tg_istore_n (lv2 := [(1, .int 0), (0, .ref (tg_ad x 0))]) X dX8_runs_44 rfl (by decide) rfl ?_
  refine tg_re [1, 0] rfl ?_
  exact wl_X8_runs_45 X  tg_F S7 0 h
theorem cm_X8_runs (l : Launch) (D : va_G) (cy : Bool → ClassId) (ad : Nat → Nat) (tS : Nat) {S Sf : tg_S} (h : f_X8_runs  S  = some Sf) : tg_Met l yX8_runs cX8_runs 4 none zr_X8_runs tauR D cy ad tS S [.ref (ad 0)] Sf none := tg_mk (by decide +kernel) trivial (Nat.le_of_ble_eq_true rfl) (fun p e s m args below meth c Q A X => w_X8_runs_0 X S  h)
-- X8_runsTold
def zr_X8_runsTold : Room := { frames := 6, cells := 0, slots := 0, locals := 140 }
theorem dX8_runsTold_0 : decode cX8_runsTold 0 = .ok (.aload_n 0, 1) := by decide +kernel
theorem dX8_runsTold_1 : decode cX8_runsTold 1 = .ok (.invokevirtual 229, 3) := by decide +kernel
theorem dX8_runsTold_4 : decode cX8_runsTold 4 = .ok (.aload_n 0, 1) := by decide +kernel
theorem dX8_runsTold_5 : decode cX8_runsTold 5 = .ok (.invokevirtual 232, 3) := by decide +kernel
theorem dX8_runsTold_8 : decode cX8_runsTold 8 = .ok (.return_, 1) := by decide +kernel
set_option maxRecDepth 20000 in
set_option maxHeartbeats 4000000 in
theorem w_X8_runsTold_0 {x : tg_X} {Sf : tg_S} (X : tg_M tauR x cX8_runsTold 1 RX8 zr_X8_runsTold none Sf none) (S : tg_S) (h : f_X8_runsTold  S  = some Sf) : tg_G tauR x S 0 [(0, .ref (tg_ad x 0))] [] := by
  unfold f_X8_runsTold at h
  refine tg_aload_n X dX8_runsTold_0 rfl 0 rfl ?_
  obtain ⟨S1, kS1, h⟩ := tg_bvE h
  refine tg_callV (As := []) (rest := []) X 0 (cm_X8_asTold _ _ _ _ _ kS1) yy_X8_asTold wv_X8_asTold ws_X8_asTold wm_X8_229 rfl cl_X8.1 ⟨rfl, rfl, Nat.le_of_ble_eq_true rfl, Nat.le_of_ble_eq_true rfl⟩ rfl rfl (Nat.le_of_ble_eq_true rfl) dX8_runsTold_1 rfl ?_
  refine tg_aload_n X dX8_runsTold_4 rfl 0 rfl ?_
  obtain ⟨S2, kS2, h⟩ := tg_bvE h
  refine tg_callV (As := []) (rest := []) X 0 (cm_X8_runs _ _ _ _ _ kS2) yy_X8_runs wv_X8_runs ws_X8_runs wm_X8_232 rfl cl_X8.1 ⟨rfl, rfl, Nat.le_of_ble_eq_true rfl, Nat.le_of_ble_eq_true rfl⟩ rfl rfl (Nat.le_of_ble_eq_true rfl) dX8_runsTold_5 rfl ?_
  exact tg_vret X h dX8_runsTold_8
theorem cm_X8_runsTold (l : Launch) (D : va_G) (cy : Bool → ClassId) (ad : Nat → Nat) (tS : Nat) {S Sf : tg_S} (h : f_X8_runsTold  S  = some Sf) : tg_Met l yX8_runsTold cX8_runsTold 1 none zr_X8_runsTold tauR D cy ad tS S [.ref (ad 0)] Sf none := tg_mk (by decide +kernel) trivial (Nat.le_of_ble_eq_true rfl) (fun p e s m args below meth c Q A X => w_X8_runsTold_0 X S  h)
-- X8_ropeOf
def zr_X8_ropeOf : Room := { frames := 7, cells := 0, slots := 0, locals := 160 }
theorem dX8_ropeOf_0 : decode cX8_ropeOf 0 = .ok (.aload_n 0, 1) := by decide +kernel
theorem dX8_ropeOf_1 : decode cX8_ropeOf 1 = .ok (.invokevirtual 235, 3) := by decide +kernel
theorem dX8_ropeOf_4 : decode cX8_ropeOf 4 = .ok (.iload_n 2, 1) := by decide +kernel
theorem dX8_ropeOf_5 : decode cX8_ropeOf 5 = .ok (.ifCond .ne 12, 3) := by decide +kernel
theorem dX8_ropeOf_8 : decode cX8_ropeOf 8 = .ok (.aload_n 0, 1) := by decide +kernel
theorem dX8_ropeOf_9 : decode cX8_ropeOf 9 = .ok (.getfield 64, 3) := by decide +kernel
theorem dX8_ropeOf_12 : decode cX8_ropeOf 12 = .ok (.iload_n 1, 1) := by decide +kernel
theorem dX8_ropeOf_13 : decode cX8_ropeOf 13 = .ok (.iaload, 1) := by decide +kernel
theorem dX8_ropeOf_14 : decode cX8_ropeOf 14 = .ok (.goto 29, 3) := by decide +kernel
theorem dX8_ropeOf_17 : decode cX8_ropeOf 17 = .ok (.iload_n 2, 1) := by decide +kernel
theorem dX8_ropeOf_18 : decode cX8_ropeOf 18 = .ok (.iconst 3, 1) := by decide +kernel
theorem dX8_ropeOf_19 : decode cX8_ropeOf 19 = .ok (.if_icmp .ne 12, 3) := by decide +kernel
theorem dX8_ropeOf_22 : decode cX8_ropeOf 22 = .ok (.aload_n 0, 1) := by decide +kernel
theorem dX8_ropeOf_23 : decode cX8_ropeOf 23 = .ok (.getfield 67, 3) := by decide +kernel
theorem dX8_ropeOf_26 : decode cX8_ropeOf 26 = .ok (.iload_n 1, 1) := by decide +kernel
theorem dX8_ropeOf_27 : decode cX8_ropeOf 27 = .ok (.iaload, 1) := by decide +kernel
theorem dX8_ropeOf_28 : decode cX8_ropeOf 28 = .ok (.goto 15, 3) := by decide +kernel
theorem dX8_ropeOf_31 : decode cX8_ropeOf 31 = .ok (.aload_n 0, 1) := by decide +kernel
theorem dX8_ropeOf_32 : decode cX8_ropeOf 32 = .ok (.getfield 70, 3) := by decide +kernel
theorem dX8_ropeOf_35 : decode cX8_ropeOf 35 = .ok (.iconst 2, 1) := by decide +kernel
theorem dX8_ropeOf_36 : decode cX8_ropeOf 36 = .ok (.iload_n 1, 1) := by decide +kernel
theorem dX8_ropeOf_37 : decode cX8_ropeOf 37 = .ok (.imul, 1) := by decide +kernel
theorem dX8_ropeOf_38 : decode cX8_ropeOf 38 = .ok (.iload_n 2, 1) := by decide +kernel
theorem dX8_ropeOf_39 : decode cX8_ropeOf 39 = .ok (.iadd, 1) := by decide +kernel
theorem dX8_ropeOf_40 : decode cX8_ropeOf 40 = .ok (.iconst 1, 1) := by decide +kernel
theorem dX8_ropeOf_41 : decode cX8_ropeOf 41 = .ok (.isub, 1) := by decide +kernel
theorem dX8_ropeOf_42 : decode cX8_ropeOf 42 = .ok (.iaload, 1) := by decide +kernel
theorem dX8_ropeOf_43 : decode cX8_ropeOf 43 = .ok (.ireturn, 1) := by decide +kernel
set_option maxRecDepth 20000 in
set_option maxHeartbeats 4000000 in
theorem w_X8_ropeOf_0 {x : tg_X} {Sf : tg_S} {r : Int32} (X : tg_M tauR x cX8_ropeOf 3 RX8 zr_X8_ropeOf (some .int) Sf (some (.int r))) (S : tg_S) (v1 : Int32) (v2 : Int32) (h : f_X8_ropeOf  S v1 v2 = some (Sf, r)) : tg_G tauR x S 0 [(0, .ref (tg_ad x 0)), (1, .int v1), (2, .int v2)] [] := by
  unfold f_X8_ropeOf at h
  refine tg_aload_n X dX8_ropeOf_0 rfl 0 rfl ?_
  obtain ⟨S1, kS1, h⟩ := tg_bvE h
  refine tg_callV (As := []) (rest := []) X 0 (cm_X8_runsTold _ _ _ _ _ kS1) yy_X8_runsTold wv_X8_runsTold ws_X8_runsTold wm_X8_235 rfl cl_X8.1 ⟨rfl, rfl, Nat.le_of_ble_eq_true rfl, Nat.le_of_ble_eq_true rfl⟩ rfl rfl (Nat.le_of_ble_eq_true rfl) dX8_ropeOf_1 rfl ?_
  refine tg_iload_n X dX8_ropeOf_4 rfl 2 rfl ?_
  refine tg_if_ne (tgt := 17) X dX8_ropeOf_5 (by decide) (fun c2 => ?_) (fun c2 => ?_)
  · have h := tg_ifF c2 h
    refine tg_iload_n X dX8_ropeOf_17 rfl 2 rfl ?_
    refine tg_iconst X dX8_ropeOf_18 tk_i3 ?_
    refine tg_icmp_ne (tgt := 31) X dX8_ropeOf_19 (by decide) (fun c3 => ?_) (fun c3 => ?_)
    · have h := tg_ifF c3 h
      refine tg_aload_n X dX8_ropeOf_31 rfl 0 rfl ?_
      refine tg_getr X 0 rfl cl_X8 31 (by decide) rfl wf_X8_70 dX8_ropeOf_32 ?_
      refine tg_iconst X dX8_ropeOf_35 tk_i2 ?_
      refine tg_iload_n X dX8_ropeOf_36 rfl 1 rfl ?_
      refine tg_imul X dX8_ropeOf_37 ?_
      refine tg_iload_n X dX8_ropeOf_38 rfl 2 rfl ?_
      refine tg_iadd X dX8_ropeOf_39 ?_
      refine tg_iconst X dX8_ropeOf_40 tk_i1 ?_
      refine tg_isub X dX8_ropeOf_41 ?_
      obtain ⟨y4, ey4, by4, h⟩ := tg_rdE h
      refine tg_iald X 21 rfl ey4 by4 dX8_ropeOf_42 ?_
      exact tg_iret X h rfl dX8_ropeOf_43
    · have h := tg_ifT c3 h
      refine tg_aload_n X dX8_ropeOf_22 rfl 0 rfl ?_
      refine tg_getr X 0 rfl cl_X8 30 (by decide) rfl wf_X8_67 dX8_ropeOf_23 ?_
      refine tg_iload_n X dX8_ropeOf_26 rfl 1 rfl ?_
      obtain ⟨y5, ey5, by5, h⟩ := tg_rdE h
      refine tg_iald X 20 rfl ey5 by5 dX8_ropeOf_27 ?_
      refine tg_goto (tgt := 43) X dX8_ropeOf_28 (by decide) ?_
      exact tg_iret X h rfl dX8_ropeOf_43
  · have h := tg_ifT c2 h
    refine tg_aload_n X dX8_ropeOf_8 rfl 0 rfl ?_
    refine tg_getr X 0 rfl cl_X8 29 (by decide) rfl wf_X8_64 dX8_ropeOf_9 ?_
    refine tg_iload_n X dX8_ropeOf_12 rfl 1 rfl ?_
    obtain ⟨y6, ey6, by6, h⟩ := tg_rdE h
    refine tg_iald X 19 rfl ey6 by6 dX8_ropeOf_13 ?_
    refine tg_goto (tgt := 43) X dX8_ropeOf_14 (by decide) ?_
    exact tg_iret X h rfl dX8_ropeOf_43
theorem cm_X8_ropeOf (l : Launch) (D : va_G) (cy : Bool → ClassId) (ad : Nat → Nat) (tS : Nat) {S Sf : tg_S} {v1 : Int32} {v2 : Int32} {r : Int32} (h : f_X8_ropeOf  S v1 v2 = some (Sf, r)) : tg_Met l yX8_ropeOf cX8_ropeOf 3 (some .int) zr_X8_ropeOf tauR D cy ad tS S [.ref (ad 0), .int v1, .int v2] Sf (some (.int r)) := tg_mk (by decide +kernel) trivial (Nat.le_of_ble_eq_true rfl) (fun p e s m args below meth c Q A X => w_X8_ropeOf_0 X S v1 v2 h)
-- X8_rope
def zr_X8_rope : Room := { frames := 8, cells := 0, slots := 0, locals := 182 }
theorem dX8_rope_0 : decode cX8_rope 0 = .ok (.iload_n 1, 1) := by decide +kernel
theorem dX8_rope_1 : decode cX8_rope 1 = .ok (.invokestatic 156, 3) := by decide +kernel
theorem dX8_rope_4 : decode cX8_rope 4 = .ok (.ifCond .eq 21, 3) := by decide +kernel
theorem dX8_rope_7 : decode cX8_rope 7 = .ok (.iload_n 2, 1) := by decide +kernel
theorem dX8_rope_8 : decode cX8_rope 8 = .ok (.iconst 0, 1) := by decide +kernel
theorem dX8_rope_9 : decode cX8_rope 9 = .ok (.iconst 3, 1) := by decide +kernel
theorem dX8_rope_10 : decode cX8_rope 10 = .ok (.invokestatic 109, 3) := by decide +kernel
theorem dX8_rope_13 : decode cX8_rope 13 = .ok (.ifCond .eq 12, 3) := by decide +kernel
theorem dX8_rope_16 : decode cX8_rope 16 = .ok (.aload_n 0, 1) := by decide +kernel
theorem dX8_rope_17 : decode cX8_rope 17 = .ok (.iload_n 1, 1) := by decide +kernel
theorem dX8_rope_18 : decode cX8_rope 18 = .ok (.iload_n 2, 1) := by decide +kernel
theorem dX8_rope_19 : decode cX8_rope 19 = .ok (.invokevirtual 238, 3) := by decide +kernel
theorem dX8_rope_22 : decode cX8_rope 22 = .ok (.goto 5, 3) := by decide +kernel
theorem dX8_rope_25 : decode cX8_rope 25 = .ok (.bipush (-2), 2) := by decide +kernel
theorem dX8_rope_27 : decode cX8_rope 27 = .ok (.ireturn, 1) := by decide +kernel
set_option maxRecDepth 20000 in
set_option maxHeartbeats 4000000 in
theorem w_X8_rope_0 {x : tg_X} {Sf : tg_S} {r : Int32} (X : tg_M tauR x cX8_rope 3 RX8 zr_X8_rope (some .int) Sf (some (.int r))) (S : tg_S) (v1 : Int32) (v2 : Int32) (h : f_X8_rope  S v1 v2 = some (Sf, r)) : tg_G tauR x S 0 [(0, .ref (tg_ad x 0)), (1, .int v1), (2, .int v2)] [] := by
  unfold f_X8_rope at h
  refine tg_iload_n X dX8_rope_0 rfl 1 rfl ?_
  obtain ⟨S1, r2, kS1, h⟩ := tg_bdE h
  refine tg_callS (As := [.int v1]) (rest := []) X (cm_X8_isBeat _ _ _ _ _ kS1) yy_X8_isBeat wt_X8_isBeat wm_X8_156 ⟨rfl, rfl, Nat.le_of_ble_eq_true rfl, Nat.le_of_ble_eq_true rfl⟩ rfl rfl (Nat.le_of_ble_eq_true rfl) dX8_rope_1 rfl ?_
  refine tg_if_eq (tgt := 25) X dX8_rope_4 (by decide) (fun c3 => ?_) (fun c3 => ?_)
  · have h := tg_ifT c3 h
    refine tg_bipush X dX8_rope_25 tk_bm2 ?_
    exact tg_iret X h rfl dX8_rope_27
  · have h := tg_ifF c3 h
    refine tg_iload_n X dX8_rope_7 rfl 2 rfl ?_
    refine tg_iconst X dX8_rope_8 tk_i0 ?_
    refine tg_iconst X dX8_rope_9 tk_i3 ?_
    obtain ⟨S4, r5, kS4, h⟩ := tg_bdE h
    refine tg_callS (As := [.int v2, .int 0, .int 3]) (rest := []) X (cm_X8_in _ _ _ _ _ kS4) yy_X8_in wt_X8_in wm_X8_109 ⟨rfl, rfl, Nat.le_of_ble_eq_true rfl, Nat.le_of_ble_eq_true rfl⟩ rfl rfl (Nat.le_of_ble_eq_true rfl) dX8_rope_10 rfl ?_
    refine tg_if_eq (tgt := 25) X dX8_rope_13 (by decide) (fun c6 => ?_) (fun c6 => ?_)
    · have h := tg_ifT c6 h
      refine tg_bipush X dX8_rope_25 tk_bm2 ?_
      exact tg_iret X h rfl dX8_rope_27
    · have h := tg_ifF c6 h
      refine tg_aload_n X dX8_rope_16 rfl 0 rfl ?_
      refine tg_iload_n X dX8_rope_17 rfl 1 rfl ?_
      refine tg_iload_n X dX8_rope_18 rfl 2 rfl ?_
      obtain ⟨S7, r8, kS7, h⟩ := tg_bdE h
      refine tg_callV (As := [.int v1, .int v2]) (rest := []) X 0 (cm_X8_ropeOf _ _ _ _ _ kS7) yy_X8_ropeOf wv_X8_ropeOf ws_X8_ropeOf wm_X8_238 rfl cl_X8.1 ⟨rfl, rfl, Nat.le_of_ble_eq_true rfl, Nat.le_of_ble_eq_true rfl⟩ rfl rfl (Nat.le_of_ble_eq_true rfl) dX8_rope_19 rfl ?_
      refine tg_goto (tgt := 27) X dX8_rope_22 (by decide) ?_
      exact tg_iret X h rfl dX8_rope_27
theorem cm_X8_rope (l : Launch) (D : va_G) (cy : Bool → ClassId) (ad : Nat → Nat) (tS : Nat) {S Sf : tg_S} {v1 : Int32} {v2 : Int32} {r : Int32} (h : f_X8_rope  S v1 v2 = some (Sf, r)) : tg_Met l yX8_rope cX8_rope 3 (some .int) zr_X8_rope tauR D cy ad tS S [.ref (ad 0), .int v1, .int v2] Sf (some (.int r)) := tg_mk (by decide +kernel) trivial (Nat.le_of_ble_eq_true rfl) (fun p e s m args below meth c Q A X => w_X8_rope_0 X S v1 v2 h)
-- X8_atOf
def zr_X8_atOf : Room := { frames := 7, cells := 0, slots := 0, locals := 160 }
theorem dX8_atOf_0 : decode cX8_atOf 0 = .ok (.aload_n 0, 1) := by decide +kernel
theorem dX8_atOf_1 : decode cX8_atOf 1 = .ok (.invokevirtual 235, 3) := by decide +kernel
theorem dX8_atOf_4 : decode cX8_atOf 4 = .ok (.iload_n 3, 1) := by decide +kernel
theorem dX8_atOf_5 : decode cX8_atOf 5 = .ok (.ifCond .ne 17, 3) := by decide +kernel
theorem dX8_atOf_8 : decode cX8_atOf 8 = .ok (.aload_n 0, 1) := by decide +kernel
theorem dX8_atOf_9 : decode cX8_atOf 9 = .ok (.getfield 73, 3) := by decide +kernel
theorem dX8_atOf_12 : decode cX8_atOf 12 = .ok (.bipush 16, 2) := by decide +kernel
theorem dX8_atOf_14 : decode cX8_atOf 14 = .ok (.iload_n 1, 1) := by decide +kernel
theorem dX8_atOf_15 : decode cX8_atOf 15 = .ok (.imul, 1) := by decide +kernel
theorem dX8_atOf_16 : decode cX8_atOf 16 = .ok (.iload_n 2, 1) := by decide +kernel
theorem dX8_atOf_17 : decode cX8_atOf 17 = .ok (.iadd, 1) := by decide +kernel
theorem dX8_atOf_18 : decode cX8_atOf 18 = .ok (.iaload, 1) := by decide +kernel
theorem dX8_atOf_19 : decode cX8_atOf 19 = .ok (.goto 14, 3) := by decide +kernel
theorem dX8_atOf_22 : decode cX8_atOf 22 = .ok (.aload_n 0, 1) := by decide +kernel
theorem dX8_atOf_23 : decode cX8_atOf 23 = .ok (.getfield 76, 3) := by decide +kernel
theorem dX8_atOf_26 : decode cX8_atOf 26 = .ok (.bipush 16, 2) := by decide +kernel
theorem dX8_atOf_28 : decode cX8_atOf 28 = .ok (.iload_n 1, 1) := by decide +kernel
theorem dX8_atOf_29 : decode cX8_atOf 29 = .ok (.imul, 1) := by decide +kernel
theorem dX8_atOf_30 : decode cX8_atOf 30 = .ok (.iload_n 2, 1) := by decide +kernel
theorem dX8_atOf_31 : decode cX8_atOf 31 = .ok (.iadd, 1) := by decide +kernel
theorem dX8_atOf_32 : decode cX8_atOf 32 = .ok (.iaload, 1) := by decide +kernel
theorem dX8_atOf_33 : decode cX8_atOf 33 = .ok (.ireturn, 1) := by decide +kernel
set_option maxRecDepth 20000 in
set_option maxHeartbeats 4000000 in
theorem w_X8_atOf_0 {x : tg_X} {Sf : tg_S} {r : Int32} (X : tg_M tauR x cX8_atOf 4 RX8 zr_X8_atOf (some .int) Sf (some (.int r))) (S : tg_S) (v1 : Int32) (v2 : Int32) (v3 : Int32) (h : f_X8_atOf  S v1 v2 v3 = some (Sf, r)) : tg_G tauR x S 0 [(0, .ref (tg_ad x 0)), (1, .int v1), (2, .int v2), (3, .int v3)] [] := by
  unfold f_X8_atOf at h
  refine tg_aload_n X dX8_atOf_0 rfl 0 rfl ?_
  obtain ⟨S1, kS1, h⟩ := tg_bvE h
  refine tg_callV (As := []) (rest := []) X 0 (cm_X8_runsTold _ _ _ _ _ kS1) yy_X8_runsTold wv_X8_runsTold ws_X8_runsTold wm_X8_235 rfl cl_X8.1 ⟨rfl, rfl, Nat.le_of_ble_eq_true rfl, Nat.le_of_ble_eq_true rfl⟩ rfl rfl (Nat.le_of_ble_eq_true rfl) dX8_atOf_1 rfl ?_
  refine tg_iload_n X dX8_atOf_4 rfl 3 rfl ?_
  refine tg_if_ne (tgt := 22) X dX8_atOf_5 (by decide) (fun c2 => ?_) (fun c2 => ?_)
  · have h := tg_ifF c2 h
    refine tg_aload_n X dX8_atOf_22 rfl 0 rfl ?_
    refine tg_getr X 0 rfl cl_X8 33 (by decide) rfl wf_X8_76 dX8_atOf_23 ?_
    refine tg_bipush X dX8_atOf_26 tk_b16 ?_
    refine tg_iload_n X dX8_atOf_28 rfl 1 rfl ?_
    refine tg_imul X dX8_atOf_29 ?_
    refine tg_iload_n X dX8_atOf_30 rfl 2 rfl ?_
    refine tg_iadd X dX8_atOf_31 ?_
    obtain ⟨y3, ey3, by3, h⟩ := tg_rdE h
    refine tg_iald X 23 rfl ey3 by3 dX8_atOf_32 ?_
    exact tg_iret X h rfl dX8_atOf_33
  · have h := tg_ifT c2 h
    refine tg_aload_n X dX8_atOf_8 rfl 0 rfl ?_
    refine tg_getr X 0 rfl cl_X8 32 (by decide) rfl wf_X8_73 dX8_atOf_9 ?_
    refine tg_bipush X dX8_atOf_12 tk_b16 ?_
    refine tg_iload_n X dX8_atOf_14 rfl 1 rfl ?_
    refine tg_imul X dX8_atOf_15 ?_
    refine tg_iload_n X dX8_atOf_16 rfl 2 rfl ?_
    refine tg_iadd X dX8_atOf_17 ?_
    obtain ⟨y4, ey4, by4, h⟩ := tg_rdE h
    refine tg_iald X 22 rfl ey4 by4 dX8_atOf_18 ?_
    refine tg_goto (tgt := 33) X dX8_atOf_19 (by decide) ?_
    exact tg_iret X h rfl dX8_atOf_33
theorem cm_X8_atOf (l : Launch) (D : va_G) (cy : Bool → ClassId) (ad : Nat → Nat) (tS : Nat) {S Sf : tg_S} {v1 : Int32} {v2 : Int32} {v3 : Int32} {r : Int32} (h : f_X8_atOf  S v1 v2 v3 = some (Sf, r)) : tg_Met l yX8_atOf cX8_atOf 4 (some .int) zr_X8_atOf tauR D cy ad tS S [.ref (ad 0), .int v1, .int v2, .int v3] Sf (some (.int r)) := tg_mk (by decide +kernel) trivial (Nat.le_of_ble_eq_true rfl) (fun p e s m args below meth c Q A X => w_X8_atOf_0 X S v1 v2 v3 h)
-- X8_at
def zr_X8_at : Room := { frames := 8, cells := 0, slots := 0, locals := 183 }
theorem dX8_at_0 : decode cX8_at 0 = .ok (.iload_n 1, 1) := by decide +kernel
theorem dX8_at_1 : decode cX8_at 1 = .ok (.invokestatic 156, 3) := by decide +kernel
theorem dX8_at_4 : decode cX8_at 4 = .ok (.ifCond .eq 28, 3) := by decide +kernel
theorem dX8_at_7 : decode cX8_at 7 = .ok (.aload_n 0, 1) := by decide +kernel
theorem dX8_at_8 : decode cX8_at 8 = .ok (.iload_n 2, 1) := by decide +kernel
theorem dX8_at_9 : decode cX8_at 9 = .ok (.invokevirtual 144, 3) := by decide +kernel
theorem dX8_at_12 : decode cX8_at 12 = .ok (.ifCond .eq 20, 3) := by decide +kernel
theorem dX8_at_15 : decode cX8_at 15 = .ok (.iload_n 3, 1) := by decide +kernel
theorem dX8_at_16 : decode cX8_at 16 = .ok (.invokestatic 153, 3) := by decide +kernel
theorem dX8_at_19 : decode cX8_at 19 = .ok (.ifCond .eq 13, 3) := by decide +kernel
theorem dX8_at_22 : decode cX8_at 22 = .ok (.aload_n 0, 1) := by decide +kernel
theorem dX8_at_23 : decode cX8_at 23 = .ok (.iload_n 1, 1) := by decide +kernel
theorem dX8_at_24 : decode cX8_at 24 = .ok (.iload_n 2, 1) := by decide +kernel
theorem dX8_at_25 : decode cX8_at 25 = .ok (.iload_n 3, 1) := by decide +kernel
theorem dX8_at_26 : decode cX8_at 26 = .ok (.invokevirtual 241, 3) := by decide +kernel
theorem dX8_at_29 : decode cX8_at 29 = .ok (.goto 5, 3) := by decide +kernel
theorem dX8_at_32 : decode cX8_at 32 = .ok (.bipush (-2), 2) := by decide +kernel
theorem dX8_at_34 : decode cX8_at 34 = .ok (.ireturn, 1) := by decide +kernel
set_option maxRecDepth 20000 in
set_option maxHeartbeats 4000000 in
theorem w_X8_at_0 {x : tg_X} {Sf : tg_S} {r : Int32} (X : tg_M tauR x cX8_at 4 RX8 zr_X8_at (some .int) Sf (some (.int r))) (S : tg_S) (v1 : Int32) (v2 : Int32) (v3 : Int32) (h : f_X8_at  S v1 v2 v3 = some (Sf, r)) : tg_G tauR x S 0 [(0, .ref (tg_ad x 0)), (1, .int v1), (2, .int v2), (3, .int v3)] [] := by
  unfold f_X8_at at h
  refine tg_iload_n X dX8_at_0 rfl 1 rfl ?_
  obtain ⟨S1, r2, kS1, h⟩ := tg_bdE h
  refine tg_callS (As := [.int v1]) (rest := []) X (cm_X8_isBeat _ _ _ _ _ kS1) yy_X8_isBeat wt_X8_isBeat wm_X8_156 ⟨rfl, rfl, Nat.le_of_ble_eq_true rfl, Nat.le_of_ble_eq_true rfl⟩ rfl rfl (Nat.le_of_ble_eq_true rfl) dX8_at_1 rfl ?_
  refine tg_if_eq (tgt := 32) X dX8_at_4 (by decide) (fun c3 => ?_) (fun c3 => ?_)
  · have h := tg_ifT c3 h
    refine tg_bipush X dX8_at_32 tk_bm2 ?_
    exact tg_iret X h rfl dX8_at_34
  · have h := tg_ifF c3 h
    refine tg_aload_n X dX8_at_7 rfl 0 rfl ?_
    refine tg_iload_n X dX8_at_8 rfl 2 rfl ?_
    obtain ⟨S4, r5, kS4, h⟩ := tg_bdE h
    refine tg_callV (As := [.int v2]) (rest := []) X 0 (cm_X8_isPuller _ _ _ _ _ kS4) yy_X8_isPuller wv_X8_isPuller ws_X8_isPuller wm_X8_144 rfl cl_X8.1 ⟨rfl, rfl, Nat.le_of_ble_eq_true rfl, Nat.le_of_ble_eq_true rfl⟩ rfl rfl (Nat.le_of_ble_eq_true rfl) dX8_at_9 rfl ?_
    refine tg_if_eq (tgt := 32) X dX8_at_12 (by decide) (fun c6 => ?_) (fun c6 => ?_)
    · have h := tg_ifT c6 h
      refine tg_bipush X dX8_at_32 tk_bm2 ?_
      exact tg_iret X h rfl dX8_at_34
    · have h := tg_ifF c6 h
      refine tg_iload_n X dX8_at_15 rfl 3 rfl ?_
      obtain ⟨S7, r8, kS7, h⟩ := tg_bdE h
      refine tg_callS (As := [.int v3]) (rest := []) X (cm_X8_isTwo _ _ _ _ _ kS7) yy_X8_isTwo wt_X8_isTwo wm_X8_153 ⟨rfl, rfl, Nat.le_of_ble_eq_true rfl, Nat.le_of_ble_eq_true rfl⟩ rfl rfl (Nat.le_of_ble_eq_true rfl) dX8_at_16 rfl ?_
      refine tg_if_eq (tgt := 32) X dX8_at_19 (by decide) (fun c9 => ?_) (fun c9 => ?_)
      · have h := tg_ifT c9 h
        refine tg_bipush X dX8_at_32 tk_bm2 ?_
        exact tg_iret X h rfl dX8_at_34
      · have h := tg_ifF c9 h
        refine tg_aload_n X dX8_at_22 rfl 0 rfl ?_
        refine tg_iload_n X dX8_at_23 rfl 1 rfl ?_
        refine tg_iload_n X dX8_at_24 rfl 2 rfl ?_
        refine tg_iload_n X dX8_at_25 rfl 3 rfl ?_
        obtain ⟨S10, r11, kS10, h⟩ := tg_bdE h
        refine tg_callV (As := [.int v1, .int v2, .int v3]) (rest := []) X 0 (cm_X8_atOf _ _ _ _ _ kS10) yy_X8_atOf wv_X8_atOf ws_X8_atOf wm_X8_241 rfl cl_X8.1 ⟨rfl, rfl, Nat.le_of_ble_eq_true rfl, Nat.le_of_ble_eq_true rfl⟩ rfl rfl (Nat.le_of_ble_eq_true rfl) dX8_at_26 rfl ?_
        refine tg_goto (tgt := 34) X dX8_at_29 (by decide) ?_
        exact tg_iret X h rfl dX8_at_34
theorem cm_X8_at (l : Launch) (D : va_G) (cy : Bool → ClassId) (ad : Nat → Nat) (tS : Nat) {S Sf : tg_S} {v1 : Int32} {v2 : Int32} {v3 : Int32} {r : Int32} (h : f_X8_at  S v1 v2 v3 = some (Sf, r)) : tg_Met l yX8_at cX8_at 4 (some .int) zr_X8_at tauR D cy ad tS S [.ref (ad 0), .int v1, .int v2, .int v3] Sf (some (.int r)) := tg_mk (by decide +kernel) trivial (Nat.le_of_ble_eq_true rfl) (fun p e s m args below meth c Q A X => w_X8_at_0 X S v1 v2 v3 h)
-- X8_wonOf
def zr_X8_wonOf : Room := { frames := 7, cells := 0, slots := 0, locals := 160 }
theorem dX8_wonOf_0 : decode cX8_wonOf 0 = .ok (.aload_n 0, 1) := by decide +kernel
theorem dX8_wonOf_1 : decode cX8_wonOf 1 = .ok (.invokevirtual 235, 3) := by decide +kernel
theorem dX8_wonOf_4 : decode cX8_wonOf 4 = .ok (.iload_n 1, 1) := by decide +kernel
theorem dX8_wonOf_5 : decode cX8_wonOf 5 = .ok (.ifCond .ne 10, 3) := by decide +kernel
theorem dX8_wonOf_8 : decode cX8_wonOf 8 = .ok (.aload_n 0, 1) := by decide +kernel
theorem dX8_wonOf_9 : decode cX8_wonOf 9 = .ok (.getfield 206, 3) := by decide +kernel
theorem dX8_wonOf_12 : decode cX8_wonOf 12 = .ok (.goto 7, 3) := by decide +kernel
theorem dX8_wonOf_15 : decode cX8_wonOf 15 = .ok (.aload_n 0, 1) := by decide +kernel
theorem dX8_wonOf_16 : decode cX8_wonOf 16 = .ok (.getfield 209, 3) := by decide +kernel
theorem dX8_wonOf_19 : decode cX8_wonOf 19 = .ok (.ireturn, 1) := by decide +kernel
set_option maxRecDepth 20000 in
set_option maxHeartbeats 4000000 in
theorem w_X8_wonOf_0 {x : tg_X} {Sf : tg_S} {r : Int32} (X : tg_M tauR x cX8_wonOf 2 RX8 zr_X8_wonOf (some .int) Sf (some (.int r))) (S : tg_S) (v1 : Int32) (h : f_X8_wonOf  S v1 = some (Sf, r)) : tg_G tauR x S 0 [(0, .ref (tg_ad x 0)), (1, .int v1)] [] := by
  unfold f_X8_wonOf at h
  refine tg_aload_n X dX8_wonOf_0 rfl 0 rfl ?_
  obtain ⟨S1, kS1, h⟩ := tg_bvE h
  refine tg_callV (As := []) (rest := []) X 0 (cm_X8_runsTold _ _ _ _ _ kS1) yy_X8_runsTold wv_X8_runsTold ws_X8_runsTold wm_X8_235 rfl cl_X8.1 ⟨rfl, rfl, Nat.le_of_ble_eq_true rfl, Nat.le_of_ble_eq_true rfl⟩ rfl rfl (Nat.le_of_ble_eq_true rfl) dX8_wonOf_1 rfl ?_
  refine tg_iload_n X dX8_wonOf_4 rfl 1 rfl ?_
  refine tg_if_ne (tgt := 15) X dX8_wonOf_5 (by decide) (fun c2 => ?_) (fun c2 => ?_)
  · have h := tg_ifF c2 h
    refine tg_aload_n X dX8_wonOf_15 rfl 0 rfl ?_
    refine tg_geti X 0 rfl cl_X8 23 (by decide) rfl wf_X8_209 dX8_wonOf_16 ?_
    exact tg_iret X h rfl dX8_wonOf_19
  · have h := tg_ifT c2 h
    refine tg_aload_n X dX8_wonOf_8 rfl 0 rfl ?_
    refine tg_geti X 0 rfl cl_X8 22 (by decide) rfl wf_X8_206 dX8_wonOf_9 ?_
    refine tg_goto (tgt := 19) X dX8_wonOf_12 (by decide) ?_
    exact tg_iret X h rfl dX8_wonOf_19
theorem cm_X8_wonOf (l : Launch) (D : va_G) (cy : Bool → ClassId) (ad : Nat → Nat) (tS : Nat) {S Sf : tg_S} {v1 : Int32} {r : Int32} (h : f_X8_wonOf  S v1 = some (Sf, r)) : tg_Met l yX8_wonOf cX8_wonOf 2 (some .int) zr_X8_wonOf tauR D cy ad tS S [.ref (ad 0), .int v1] Sf (some (.int r)) := tg_mk (by decide +kernel) trivial (Nat.le_of_ble_eq_true rfl) (fun p e s m args below meth c Q A X => w_X8_wonOf_0 X S v1 h)
-- X8_won
def zr_X8_won : Room := { frames := 8, cells := 0, slots := 0, locals := 181 }
theorem dX8_won_0 : decode cX8_won 0 = .ok (.iload_n 1, 1) := by decide +kernel
theorem dX8_won_1 : decode cX8_won 1 = .ok (.invokestatic 153, 3) := by decide +kernel
theorem dX8_won_4 : decode cX8_won 4 = .ok (.ifCond .eq 11, 3) := by decide +kernel
theorem dX8_won_7 : decode cX8_won 7 = .ok (.aload_n 0, 1) := by decide +kernel
theorem dX8_won_8 : decode cX8_won 8 = .ok (.iload_n 1, 1) := by decide +kernel
theorem dX8_won_9 : decode cX8_won 9 = .ok (.invokevirtual 244, 3) := by decide +kernel
theorem dX8_won_12 : decode cX8_won 12 = .ok (.goto 5, 3) := by decide +kernel
theorem dX8_won_15 : decode cX8_won 15 = .ok (.bipush (-2), 2) := by decide +kernel
theorem dX8_won_17 : decode cX8_won 17 = .ok (.ireturn, 1) := by decide +kernel
set_option maxRecDepth 20000 in
set_option maxHeartbeats 4000000 in
theorem w_X8_won_0 {x : tg_X} {Sf : tg_S} {r : Int32} (X : tg_M tauR x cX8_won 2 RX8 zr_X8_won (some .int) Sf (some (.int r))) (S : tg_S) (v1 : Int32) (h : f_X8_won  S v1 = some (Sf, r)) : tg_G tauR x S 0 [(0, .ref (tg_ad x 0)), (1, .int v1)] [] := by
  unfold f_X8_won at h
  refine tg_iload_n X dX8_won_0 rfl 1 rfl ?_
  obtain ⟨S1, r2, kS1, h⟩ := tg_bdE h
  refine tg_callS (As := [.int v1]) (rest := []) X (cm_X8_isTwo _ _ _ _ _ kS1) yy_X8_isTwo wt_X8_isTwo wm_X8_153 ⟨rfl, rfl, Nat.le_of_ble_eq_true rfl, Nat.le_of_ble_eq_true rfl⟩ rfl rfl (Nat.le_of_ble_eq_true rfl) dX8_won_1 rfl ?_
  refine tg_if_eq (tgt := 15) X dX8_won_4 (by decide) (fun c3 => ?_) (fun c3 => ?_)
  · have h := tg_ifT c3 h
    refine tg_bipush X dX8_won_15 tk_bm2 ?_
    exact tg_iret X h rfl dX8_won_17
  · have h := tg_ifF c3 h
    refine tg_aload_n X dX8_won_7 rfl 0 rfl ?_
    refine tg_iload_n X dX8_won_8 rfl 1 rfl ?_
    obtain ⟨S4, r5, kS4, h⟩ := tg_bdE h
    refine tg_callV (As := [.int v1]) (rest := []) X 0 (cm_X8_wonOf _ _ _ _ _ kS4) yy_X8_wonOf wv_X8_wonOf ws_X8_wonOf wm_X8_244 rfl cl_X8.1 ⟨rfl, rfl, Nat.le_of_ble_eq_true rfl, Nat.le_of_ble_eq_true rfl⟩ rfl rfl (Nat.le_of_ble_eq_true rfl) dX8_won_9 rfl ?_
    refine tg_goto (tgt := 17) X dX8_won_12 (by decide) ?_
    exact tg_iret X h rfl dX8_won_17
theorem cm_X8_won (l : Launch) (D : va_G) (cy : Bool → ClassId) (ad : Nat → Nat) (tS : Nat) {S Sf : tg_S} {v1 : Int32} {r : Int32} (h : f_X8_won  S v1 = some (Sf, r)) : tg_Met l yX8_won cX8_won 2 (some .int) zr_X8_won tauR D cy ad tS S [.ref (ad 0), .int v1] Sf (some (.int r)) := tg_mk (by decide +kernel) trivial (Nat.le_of_ble_eq_true rfl) (fun p e s m args below meth c Q A X => w_X8_won_0 X S v1 h)
