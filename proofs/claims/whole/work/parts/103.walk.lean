-- X2_play
def zr_X2_play : Room := { frames := 3, cells := 0, slots := 0, locals := 71 }
theorem dX2_play_0 : decode cX2_play 0 = .ok (.aload_n 0, 1) := by decide +kernel
theorem dX2_play_1 : decode cX2_play 1 = .ok (.iconst (-1), 1) := by decide +kernel
theorem dX2_play_2 : decode cX2_play 2 = .ok (.putfield 27, 3) := by decide +kernel
theorem dX2_play_5 : decode cX2_play 5 = .ok (.aload_n 0, 1) := by decide +kernel
theorem dX2_play_6 : decode cX2_play 6 = .ok (.iconst (-1), 1) := by decide +kernel
theorem dX2_play_7 : decode cX2_play 7 = .ok (.putfield 31, 3) := by decide +kernel
theorem dX2_play_10 : decode cX2_play 10 = .ok (.aload_n 0, 1) := by decide +kernel
theorem dX2_play_11 : decode cX2_play 11 = .ok (.bipush 12, 2) := by decide +kernel
theorem dX2_play_13 : decode cX2_play 13 = .ok (.putfield 37, 3) := by decide +kernel
theorem dX2_play_16 : decode cX2_play 16 = .ok (.aload_n 0, 1) := by decide +kernel
theorem dX2_play_17 : decode cX2_play 17 = .ok (.aload_n 1, 1) := by decide +kernel
theorem dX2_play_18 : decode cX2_play 18 = .ok (.getfield 50, 3) := by decide +kernel
theorem dX2_play_21 : decode cX2_play 21 = .ok (.putfield 40, 3) := by decide +kernel
theorem dX2_play_24 : decode cX2_play 24 = .ok (.aload_n 1, 1) := by decide +kernel
theorem dX2_play_25 : decode cX2_play 25 = .ok (.getfield 55, 3) := by decide +kernel
theorem dX2_play_28 : decode cX2_play 28 = .ok (.iconst 0, 1) := by decide +kernel
theorem dX2_play_29 : decode cX2_play 29 = .ok (.aload_n 0, 1) := by decide +kernel
theorem dX2_play_30 : decode cX2_play 30 = .ok (.getfield 34, 3) := by decide +kernel
theorem dX2_play_33 : decode cX2_play 33 = .ok (.iconst 0, 1) := by decide +kernel
theorem dX2_play_34 : decode cX2_play 34 = .ok (.bipush 16, 2) := by decide +kernel
theorem dX2_play_36 : decode cX2_play 36 = .ok (.invokestatic 58, 3) := by decide +kernel
theorem dX2_play_39 : decode cX2_play 39 = .ok (.iconst 0, 1) := by decide +kernel
theorem dX2_play_40 : decode cX2_play 40 = .ok (.istore_n 2, 1) := by decide +kernel
theorem dX2_play_41 : decode cX2_play 41 = .ok (.iload_n 2, 1) := by decide +kernel
theorem dX2_play_42 : decode cX2_play 42 = .ok (.bipush 24, 2) := by decide +kernel
theorem dX2_play_44 : decode cX2_play 44 = .ok (.if_icmp .ge 127, 3) := by decide +kernel
theorem dX2_play_47 : decode cX2_play 47 = .ok (.aload_n 0, 1) := by decide +kernel
theorem dX2_play_48 : decode cX2_play 48 = .ok (.aload_n 1, 1) := by decide +kernel
theorem dX2_play_49 : decode cX2_play 49 = .ok (.getfield 64, 3) := by decide +kernel
theorem dX2_play_52 : decode cX2_play 52 = .ok (.iload_n 2, 1) := by decide +kernel
theorem dX2_play_53 : decode cX2_play 53 = .ok (.invokevirtual 68, 3) := by decide +kernel
theorem dX2_play_56 : decode cX2_play 56 = .ok (.aload_n 0, 1) := by decide +kernel
theorem dX2_play_57 : decode cX2_play 57 = .ok (.getfield 27, 3) := by decide +kernel
theorem dX2_play_60 : decode cX2_play 60 = .ok (.iconst (-1), 1) := by decide +kernel
theorem dX2_play_61 : decode cX2_play 61 = .ok (.if_icmp .ne 7, 3) := by decide +kernel
theorem dX2_play_64 : decode cX2_play 64 = .ok (.iconst 1, 1) := by decide +kernel
theorem dX2_play_65 : decode cX2_play 65 = .ok (.goto 4, 3) := by decide +kernel
theorem dX2_play_68 : decode cX2_play 68 = .ok (.iconst 0, 1) := by decide +kernel
theorem dX2_play_69 : decode cX2_play 69 = .ok (.istore_n 3, 1) := by decide +kernel
theorem dX2_play_70 : decode cX2_play 70 = .ok (.iload_n 3, 1) := by decide +kernel
theorem dX2_play_71 : decode cX2_play 71 = .ok (.ifCond .eq 13, 3) := by decide +kernel
theorem dX2_play_74 : decode cX2_play 74 = .ok (.aload_n 0, 1) := by decide +kernel
theorem dX2_play_75 : decode cX2_play 75 = .ok (.aload_n 1, 1) := by decide +kernel
theorem dX2_play_76 : decode cX2_play 76 = .ok (.iconst 0, 1) := by decide +kernel
theorem dX2_play_77 : decode cX2_play 77 = .ok (.iload_n 2, 1) := by decide +kernel
theorem dX2_play_78 : decode cX2_play 78 = .ok (.invokevirtual 72, 3) := by decide +kernel
theorem dX2_play_81 : decode cX2_play 81 = .ok (.goto 4, 3) := by decide +kernel
theorem dX2_play_84 : decode cX2_play 84 = .ok (.iconst 0, 1) := by decide +kernel
theorem dX2_play_85 : decode cX2_play 85 = .ok (.istore 4, 2) := by decide +kernel
theorem dX2_play_87 : decode cX2_play 87 = .ok (.iload_n 3, 1) := by decide +kernel
theorem dX2_play_88 : decode cX2_play 88 = .ok (.ifCond .eq 13, 3) := by decide +kernel
theorem dX2_play_91 : decode cX2_play 91 = .ok (.aload_n 0, 1) := by decide +kernel
theorem dX2_play_92 : decode cX2_play 92 = .ok (.aload_n 1, 1) := by decide +kernel
theorem dX2_play_93 : decode cX2_play 93 = .ok (.iconst 1, 1) := by decide +kernel
theorem dX2_play_94 : decode cX2_play 94 = .ok (.iload_n 2, 1) := by decide +kernel
theorem dX2_play_95 : decode cX2_play 95 = .ok (.invokevirtual 72, 3) := by decide +kernel
theorem dX2_play_98 : decode cX2_play 98 = .ok (.goto 4, 3) := by decide +kernel
theorem dX2_play_101 : decode cX2_play 101 = .ok (.iconst 0, 1) := by decide +kernel
theorem dX2_play_102 : decode cX2_play 102 = .ok (.istore 5, 2) := by decide +kernel
theorem dX2_play_104 : decode cX2_play 104 = .ok (.iload_n 3, 1) := by decide +kernel
theorem dX2_play_105 : decode cX2_play 105 = .ok (.ifCond .eq 16, 3) := by decide +kernel
theorem dX2_play_108 : decode cX2_play 108 = .ok (.aload_n 0, 1) := by decide +kernel
theorem dX2_play_109 : decode cX2_play 109 = .ok (.iload 4, 2) := by decide +kernel
theorem dX2_play_111 : decode cX2_play 111 = .ok (.iload 5, 2) := by decide +kernel
theorem dX2_play_113 : decode cX2_play 113 = .ok (.isub, 1) := by decide +kernel
theorem dX2_play_114 : decode cX2_play 114 = .ok (.iload_n 2, 1) := by decide +kernel
theorem dX2_play_115 : decode cX2_play 115 = .ok (.invokevirtual 76, 3) := by decide +kernel
theorem dX2_play_118 : decode cX2_play 118 = .ok (.goto 8, 3) := by decide +kernel
theorem dX2_play_121 : decode cX2_play 121 = .ok (.aload_n 0, 1) := by decide +kernel
theorem dX2_play_122 : decode cX2_play 122 = .ok (.iload_n 2, 1) := by decide +kernel
theorem dX2_play_123 : decode cX2_play 123 = .ok (.invokevirtual 80, 3) := by decide +kernel
theorem dX2_play_126 : decode cX2_play 126 = .ok (.aload_n 0, 1) := by decide +kernel
theorem dX2_play_127 : decode cX2_play 127 = .ok (.getfield 9, 3) := by decide +kernel
theorem dX2_play_130 : decode cX2_play 130 = .ok (.iload_n 2, 1) := by decide +kernel
theorem dX2_play_131 : decode cX2_play 131 = .ok (.aload_n 0, 1) := by decide +kernel
theorem dX2_play_132 : decode cX2_play 132 = .ok (.getfield 37, 3) := by decide +kernel
theorem dX2_play_135 : decode cX2_play 135 = .ok (.iastore, 1) := by decide +kernel
theorem dX2_play_136 : decode cX2_play 136 = .ok (.aload_n 0, 1) := by decide +kernel
theorem dX2_play_137 : decode cX2_play 137 = .ok (.getfield 15, 3) := by decide +kernel
theorem dX2_play_140 : decode cX2_play 140 = .ok (.iload_n 2, 1) := by decide +kernel
theorem dX2_play_141 : decode cX2_play 141 = .ok (.aload_n 0, 1) := by decide +kernel
theorem dX2_play_142 : decode cX2_play 142 = .ok (.getfield 40, 3) := by decide +kernel
theorem dX2_play_145 : decode cX2_play 145 = .ok (.iastore, 1) := by decide +kernel
theorem dX2_play_146 : decode cX2_play 146 = .ok (.aload_n 0, 1) := by decide +kernel
theorem dX2_play_147 : decode cX2_play 147 = .ok (.getfield 18, 3) := by decide +kernel
theorem dX2_play_150 : decode cX2_play 150 = .ok (.iload_n 2, 1) := by decide +kernel
theorem dX2_play_151 : decode cX2_play 151 = .ok (.iload 4, 2) := by decide +kernel
theorem dX2_play_153 : decode cX2_play 153 = .ok (.iastore, 1) := by decide +kernel
theorem dX2_play_154 : decode cX2_play 154 = .ok (.aload_n 0, 1) := by decide +kernel
theorem dX2_play_155 : decode cX2_play 155 = .ok (.getfield 18, 3) := by decide +kernel
theorem dX2_play_158 : decode cX2_play 158 = .ok (.bipush 24, 2) := by decide +kernel
theorem dX2_play_160 : decode cX2_play 160 = .ok (.iload_n 2, 1) := by decide +kernel
theorem dX2_play_161 : decode cX2_play 161 = .ok (.iadd, 1) := by decide +kernel
theorem dX2_play_162 : decode cX2_play 162 = .ok (.iload 5, 2) := by decide +kernel
theorem dX2_play_164 : decode cX2_play 164 = .ok (.iastore, 1) := by decide +kernel
theorem dX2_play_165 : decode cX2_play 165 = .ok (.iinc 2 1, 3) := by decide +kernel
theorem dX2_play_168 : decode cX2_play 168 = .ok (.goto (-127), 3) := by decide +kernel
theorem dX2_play_171 : decode cX2_play 171 = .ok (.aload_n 0, 1) := by decide +kernel
theorem dX2_play_172 : decode cX2_play 172 = .ok (.getfield 37, 3) := by decide +kernel
theorem dX2_play_175 : decode cX2_play 175 = .ok (.ireturn, 1) := by decide +kernel
set_option maxRecDepth 20000 in
set_option maxHeartbeats 4000000 in
theorem w_X2_play_a_126 {x : tg_X} {Sf : tg_S} {r : Int32} {rec41 : tg_S → Int32 → Option (tg_S × Int32)} (X : tg_M tauC x cX2_play 6 RX2 zr_X2_play (some .int) Sf (some (.int r))) (hr41 : ∀ (S : tg_S) (v2 : Int32), rec41 S v2 = some (Sf, r) → tg_G tauC x S 41 [(0, .ref (tg_ad x 35)), (1, .ref (tg_ad x 11)), (2, .int v2)] []) (S : tg_S) (v2 : Int32) (v4 : Int32) (v5 : Int32) (h : f_X2_play_126 35 11 rec41 S v2 v4 v5 = some (Sf, r)) : tg_G tauC x S 126 [(0, .ref (tg_ad x 35)), (1, .ref (tg_ad x 11)), (2, .int v2), (4, .int v4), (5, .int v5)] [] := by
  unfold f_X2_play_126 at h
  refine tg_aload_n X dX2_play_126 rfl 0 rfl ?_
  refine tg_getr X 35 rfl cl_X2 0 (by decide) rfl wf_X2_9 dX2_play_127 ?_
  refine tg_iload_n X dX2_play_130 rfl 2 rfl ?_
  refine tg_aload_n X dX2_play_131 rfl 0 rfl ?_
  refine tg_geti X 35 rfl cl_X2 8 (by decide) rfl wf_X2_37 dX2_play_132 ?_
  obtain ⟨S1, eS1, bS1, h⟩ := tg_wrE h
  refine tg_iast X 36 rfl bS1 dX2_play_135 eS1 ?_
  refine tg_aload_n X dX2_play_136 rfl 0 rfl ?_
  refine tg_getr X 35 rfl cl_X2 1 (by decide) rfl wf_X2_15 dX2_play_137 ?_
  refine tg_iload_n X dX2_play_140 rfl 2 rfl ?_
  refine tg_aload_n X dX2_play_141 rfl 0 rfl ?_
  refine tg_geti X 35 rfl cl_X2 9 (by decide) rfl wf_X2_40 dX2_play_142 ?_
  obtain ⟨S2, eS2, bS2, h⟩ := tg_wrE h
  refine tg_iast X 37 rfl bS2 dX2_play_145 eS2 ?_
  refine tg_aload_n X dX2_play_146 rfl 0 rfl ?_
  refine tg_getr X 35 rfl cl_X2 2 (by decide) rfl wf_X2_18 dX2_play_147 ?_
  refine tg_iload_n X dX2_play_150 rfl 2 rfl ?_
  refine tg_iload X dX2_play_151 3 rfl ?_
  obtain ⟨S3, eS3, bS3, h⟩ := tg_wrE h
  refine tg_iast X 38 rfl bS3 dX2_play_153 eS3 ?_
  refine tg_aload_n X dX2_play_154 rfl 0 rfl ?_
  refine tg_getr X 35 rfl cl_X2 2 (by decide) rfl wf_X2_18 dX2_play_155 ?_
  refine tg_bipush X dX2_play_158 tk_b24 ?_
  refine tg_iload_n X dX2_play_160 rfl 2 rfl ?_
  refine tg_iadd X dX2_play_161 ?_
  refine tg_iload X dX2_play_162 4 rfl ?_
  obtain ⟨S4, eS4, bS4, h⟩ := tg_wrE h
  refine tg_iast X 38 rfl bS4 dX2_play_164 eS4 ?_
  obtain ⟨y5, ey5⟩ : ∃ z : Int32, z = v2 + 1 := ⟨_, rfl⟩
  have h := tg_nmE ey5 h
  refine tg_iinc (lv2 := [(2, .int y5), (0, .ref (tg_ad x 35)), (1, .ref (tg_ad x 11)), (4, .int v4), (5, .int v5)]) X dX2_play_165 2 rfl tk_i1 ey5 (by decide) rfl ?_
  refine tg_goto (tgt := 41) X dX2_play_168 (by decide) ?_
  refine tg_re [1, 2, 0] rfl ?_
  exact hr41 S4 y5 h
set_option maxRecDepth 20000 in
set_option maxHeartbeats 4000000 in
theorem w_X2_play_a_102 {x : tg_X} {Sf : tg_S} {r : Int32} {rec41 : tg_S → Int32 → Option (tg_S × Int32)} (X : tg_M tauC x cX2_play 6 RX2 zr_X2_play (some .int) Sf (some (.int r))) (hr41 : ∀ (S : tg_S) (v2 : Int32), rec41 S v2 = some (Sf, r) → tg_G tauC x S 41 [(0, .ref (tg_ad x 35)), (1, .ref (tg_ad x 11)), (2, .int v2)] []) (S : tg_S) (v2 : Int32) (v3 : Int32) (v4 : Int32) (s0 : Int32) (h : f_X2_play_102 35 11 rec41 S v2 v3 v4 s0 = some (Sf, r)) : tg_G tauC x S 102 [(0, .ref (tg_ad x 35)), (1, .ref (tg_ad x 11)), (2, .int v2), (3, .int v3), (4, .int v4)] [.int s0] := by
  unfold f_X2_play_102 at h
  refine tg_istore (lv2 := [(5, .int s0), (0, .ref (tg_ad x 35)), (1, .ref (tg_ad x 11)), (2, .int v2), (3, .int v3), (4, .int v4)]) X dX2_play_102 (by decide) rfl ?_
  refine tg_iload_n X dX2_play_104 rfl 4 rfl ?_
  refine tg_if_eq (tgt := 121) X dX2_play_105 (by decide) (fun c1 => ?_) (fun c1 => ?_)
  · have h := tg_ifT c1 h
    refine tg_aload_n X dX2_play_121 rfl 1 rfl ?_
    refine tg_iload_n X dX2_play_122 rfl 3 rfl ?_
    obtain ⟨S2, kS2, h⟩ := tg_bvE h
    refine tg_callV (As := [.int v2]) (rest := []) X 35 (cm_X2_standStill_a _ _ _ _ _ kS2) yy_X2_standStill wv_X2_standStill ws_X2_standStill wm_X2_80 rfl cl_X2.1 ⟨rfl, rfl, Nat.le_of_ble_eq_true rfl, Nat.le_of_ble_eq_true rfl⟩ rfl rfl (Nat.le_of_ble_eq_true rfl) dX2_play_123 rfl ?_
    refine tg_re [1, 2, 3, 5, 0] rfl ?_
    exact w_X2_play_a_126 X hr41 S2 v2 v4 s0 h
  · have h := tg_ifF c1 h
    refine tg_aload_n X dX2_play_108 rfl 1 rfl ?_
    refine tg_iload X dX2_play_109 5 rfl ?_
    refine tg_iload X dX2_play_111 0 rfl ?_
    refine tg_isub X dX2_play_113 ?_
    refine tg_iload_n X dX2_play_114 rfl 3 rfl ?_
    obtain ⟨S3, kS3, h⟩ := tg_bvE h
    refine tg_callV (As := [.int (v4 - s0), .int v2]) (rest := []) X 35 (cm_X2_moveRope_a _ _ _ _ _ kS3) yy_X2_moveRope wv_X2_moveRope ws_X2_moveRope wm_X2_76 rfl cl_X2.1 ⟨rfl, rfl, Nat.le_of_ble_eq_true rfl, Nat.le_of_ble_eq_true rfl⟩ rfl rfl (Nat.le_of_ble_eq_true rfl) dX2_play_115 rfl ?_
    refine tg_goto (tgt := 126) X dX2_play_118 (by decide) ?_
    refine tg_re [1, 2, 3, 5, 0] rfl ?_
    exact w_X2_play_a_126 X hr41 S3 v2 v4 s0 h
set_option maxRecDepth 20000 in
set_option maxHeartbeats 4000000 in
theorem w_X2_play_a_85 {x : tg_X} {Sf : tg_S} {r : Int32} {rec41 : tg_S → Int32 → Option (tg_S × Int32)} (X : tg_M tauC x cX2_play 6 RX2 zr_X2_play (some .int) Sf (some (.int r))) (hr41 : ∀ (S : tg_S) (v2 : Int32), rec41 S v2 = some (Sf, r) → tg_G tauC x S 41 [(0, .ref (tg_ad x 35)), (1, .ref (tg_ad x 11)), (2, .int v2)] []) (S : tg_S) (v2 : Int32) (v3 : Int32) (s0 : Int32) (h : f_X2_play_85 35 11 rec41 S v2 v3 s0 = some (Sf, r)) : tg_G tauC x S 85 [(0, .ref (tg_ad x 35)), (1, .ref (tg_ad x 11)), (2, .int v2), (3, .int v3)] [.int s0] := by
  unfold f_X2_play_85 at h
  refine tg_istore (lv2 := [(4, .int s0), (0, .ref (tg_ad x 35)), (1, .ref (tg_ad x 11)), (2, .int v2), (3, .int v3)]) X dX2_play_85 (by decide) rfl ?_
  refine tg_iload_n X dX2_play_87 rfl 4 rfl ?_
  refine tg_if_eq (tgt := 101) X dX2_play_88 (by decide) (fun c1 => ?_) (fun c1 => ?_)
  · have h := tg_ifT c1 h
    refine tg_iconst X dX2_play_101 tk_i0 ?_
    refine tg_re [1, 2, 3, 4, 0] rfl ?_
    exact w_X2_play_a_102 X hr41 S v2 v3 s0 0 h
  · have h := tg_ifF c1 h
    refine tg_aload_n X dX2_play_91 rfl 1 rfl ?_
    refine tg_aload_n X dX2_play_92 rfl 2 rfl ?_
    refine tg_iconst X dX2_play_93 tk_i1 ?_
    refine tg_iload_n X dX2_play_94 rfl 3 rfl ?_
    obtain ⟨S2, r3, kS2, h⟩ := tg_bdE h
    refine tg_callV (As := [.ref (tg_ad x 11), .int 1, .int v2]) (rest := []) X 35 (cm_X2_pullOfTeam_a _ _ _ _ _ kS2) yy_X2_pullOfTeam wv_X2_pullOfTeam ws_X2_pullOfTeam wm_X2_72 rfl cl_X2.1 ⟨rfl, rfl, Nat.le_of_ble_eq_true rfl, Nat.le_of_ble_eq_true rfl⟩ rfl rfl (Nat.le_of_ble_eq_true rfl) dX2_play_95 rfl ?_
    refine tg_goto (tgt := 102) X dX2_play_98 (by decide) ?_
    refine tg_re [1, 2, 3, 4, 0] rfl ?_
    exact w_X2_play_a_102 X hr41 S2 v2 v3 s0 r3 h
set_option maxRecDepth 20000 in
set_option maxHeartbeats 4000000 in
theorem w_X2_play_a_69 {x : tg_X} {Sf : tg_S} {r : Int32} {rec41 : tg_S → Int32 → Option (tg_S × Int32)} (X : tg_M tauC x cX2_play 6 RX2 zr_X2_play (some .int) Sf (some (.int r))) (hr41 : ∀ (S : tg_S) (v2 : Int32), rec41 S v2 = some (Sf, r) → tg_G tauC x S 41 [(0, .ref (tg_ad x 35)), (1, .ref (tg_ad x 11)), (2, .int v2)] []) (S : tg_S) (v2 : Int32) (s0 : Int32) (h : f_X2_play_69 35 11 rec41 S v2 s0 = some (Sf, r)) : tg_G tauC x S 69 [(0, .ref (tg_ad x 35)), (1, .ref (tg_ad x 11)), (2, .int v2)] [.int s0] := by
  unfold f_X2_play_69 at h
  refine tg_istore_n (lv2 := [(3, .int s0), (0, .ref (tg_ad x 35)), (1, .ref (tg_ad x 11)), (2, .int v2)]) X dX2_play_69 rfl (by decide) rfl ?_
  refine tg_iload_n X dX2_play_70 rfl 0 rfl ?_
  refine tg_if_eq (tgt := 84) X dX2_play_71 (by decide) (fun c1 => ?_) (fun c1 => ?_)
  · have h := tg_ifT c1 h
    refine tg_iconst X dX2_play_84 tk_i0 ?_
    refine tg_re [1, 2, 3, 0] rfl ?_
    exact w_X2_play_a_85 X hr41 S v2 s0 0 h
  · have h := tg_ifF c1 h
    refine tg_aload_n X dX2_play_74 rfl 1 rfl ?_
    refine tg_aload_n X dX2_play_75 rfl 2 rfl ?_
    refine tg_iconst X dX2_play_76 tk_i0 ?_
    refine tg_iload_n X dX2_play_77 rfl 3 rfl ?_
    obtain ⟨S2, r3, kS2, h⟩ := tg_bdE h
    refine tg_callV (As := [.ref (tg_ad x 11), .int 0, .int v2]) (rest := []) X 35 (cm_X2_pullOfTeam_a _ _ _ _ _ kS2) yy_X2_pullOfTeam wv_X2_pullOfTeam ws_X2_pullOfTeam wm_X2_72 rfl cl_X2.1 ⟨rfl, rfl, Nat.le_of_ble_eq_true rfl, Nat.le_of_ble_eq_true rfl⟩ rfl rfl (Nat.le_of_ble_eq_true rfl) dX2_play_78 rfl ?_
    refine tg_goto (tgt := 85) X dX2_play_81 (by decide) ?_
    refine tg_re [1, 2, 3, 0] rfl ?_
    exact w_X2_play_a_85 X hr41 S2 v2 s0 r3 h
set_option maxRecDepth 20000 in
set_option maxHeartbeats 4000000 in
theorem w_X2_play_a_41 {x : tg_X} {Sf : tg_S} {r : Int32} {rec41 : tg_S → Int32 → Option (tg_S × Int32)} (X : tg_M tauC x cX2_play 6 RX2 zr_X2_play (some .int) Sf (some (.int r))) (hr41 : ∀ (S : tg_S) (v2 : Int32), rec41 S v2 = some (Sf, r) → tg_G tauC x S 41 [(0, .ref (tg_ad x 35)), (1, .ref (tg_ad x 11)), (2, .int v2)] []) (S : tg_S) (v2 : Int32) (h : f_X2_play_41 35 11 rec41 S v2 = some (Sf, r)) : tg_G tauC x S 41 [(0, .ref (tg_ad x 35)), (1, .ref (tg_ad x 11)), (2, .int v2)] [] := by
  unfold f_X2_play_41 at h
  refine tg_iload_n X dX2_play_41 rfl 2 rfl ?_
  refine tg_bipush X dX2_play_42 tk_b24 ?_
  refine tg_icmp_ge (tgt := 171) X dX2_play_44 (by decide) (fun c1 => ?_) (fun c1 => ?_)
  · have h := tg_ifT c1 h
    refine tg_aload_n X dX2_play_171 rfl 0 rfl ?_
    refine tg_geti X 35 rfl cl_X2 8 (by decide) rfl wf_X2_37 dX2_play_172 ?_
    exact tg_iret X h rfl dX2_play_175
  · have h := tg_ifF c1 h
    refine tg_aload_n X dX2_play_47 rfl 0 rfl ?_
    refine tg_aload_n X dX2_play_48 rfl 1 rfl ?_
    refine tg_getr X 11 rfl cl_X1 7 (by decide) rfl wf_X2_64 dX2_play_49 ?_
    refine tg_iload_n X dX2_play_52 rfl 2 rfl ?_
    obtain ⟨S2, kS2, h⟩ := tg_bvE h
    refine tg_callV (As := [.ref (tg_ad x 19), .int v2]) (rest := []) X 35 (cm_X2_meetEvents_a _ _ _ _ _ kS2) yy_X2_meetEvents wv_X2_meetEvents ws_X2_meetEvents wm_X2_68 rfl cl_X2.1 ⟨rfl, rfl, Nat.le_of_ble_eq_true rfl, Nat.le_of_ble_eq_true rfl⟩ rfl rfl (Nat.le_of_ble_eq_true rfl) dX2_play_53 rfl ?_
    refine tg_aload_n X dX2_play_56 rfl 0 rfl ?_
    refine tg_geti X 35 rfl cl_X2 5 (by decide) rfl wf_X2_27 dX2_play_57 ?_
    refine tg_iconst X dX2_play_60 tk_im1 ?_
    refine tg_icmp_ne (tgt := 68) X dX2_play_61 (by decide) (fun c3 => ?_) (fun c3 => ?_)
    · rw [if_neg c3] at h
      refine tg_iconst X dX2_play_68 tk_i0 ?_
      exact w_X2_play_a_69 X hr41 S2 v2 0 h
    · rw [if_pos c3] at h
      refine tg_iconst X dX2_play_64 tk_i1 ?_
      refine tg_goto (tgt := 69) X dX2_play_65 (by decide) ?_
      exact w_X2_play_a_69 X hr41 S2 v2 1 h
theorem wl_X2_play_a_41 {x : tg_X} {Sf : tg_S} {r : Int32} (X : tg_M tauC x cX2_play 6 RX2 zr_X2_play (some .int) Sf (some (.int r))) : ∀ (n : Nat) (S : tg_S) (v2 : Int32) (h : L_X2_play_41 35 11 n S v2 = some (Sf, r)), tg_G tauC x S 41 [(0, .ref (tg_ad x 35)), (1, .ref (tg_ad x 11)), (2, .int v2)] [] := by
  intro n
  induction n with
  | zero => intro S v2 h; cases h
  | succ n ih => intro S v2 h; exact w_X2_play_a_41 X  ih S v2 h
set_option maxRecDepth 20000 in
set_option maxHeartbeats 4000000 in
theorem w_X2_play_a_0 {x : tg_X} {Sf : tg_S} {r : Int32} (X : tg_M tauC x cX2_play 6 RX2 zr_X2_play (some .int) Sf (some (.int r))) (S : tg_S) (h : f_X2_play 35 11 S  = some (Sf, r)) : tg_G tauC x S 0 [(0, .ref (tg_ad x 35)), (1, .ref (tg_ad x 11))] [] := by
  unfold f_X2_play at h
  refine tg_aload_n X dX2_play_0 rfl 0 rfl ?_
  refine tg_iconst X dX2_play_1 tk_im1 ?_
  obtain ⟨S1, eS1, h⟩ := tg_pfE h
  refine tg_puti X 35 rfl cl_X2 5 (by decide) rfl wf_X2_27 rfl rfl rfl dX2_play_2 eS1 ?_
  refine tg_aload_n X dX2_play_5 rfl 0 rfl ?_
  refine tg_iconst X dX2_play_6 tk_im1 ?_
  obtain ⟨S2, eS2, h⟩ := tg_pfE h
  refine tg_puti X 35 rfl cl_X2 6 (by decide) rfl wf_X2_31 rfl rfl rfl dX2_play_7 eS2 ?_
  refine tg_aload_n X dX2_play_10 rfl 0 rfl ?_
  refine tg_bipush X dX2_play_11 tk_b12 ?_
  obtain ⟨S3, eS3, h⟩ := tg_pfE h
  refine tg_puti X 35 rfl cl_X2 8 (by decide) rfl wf_X2_37 rfl rfl rfl dX2_play_13 eS3 ?_
  refine tg_aload_n X dX2_play_16 rfl 0 rfl ?_
  refine tg_aload_n X dX2_play_17 rfl 1 rfl ?_
  refine tg_geti X 11 rfl cl_X1 8 (by decide) rfl wf_X2_50 dX2_play_18 ?_
  obtain ⟨S4, eS4, h⟩ := tg_pfE h
  refine tg_puti X 35 rfl cl_X2 9 (by decide) rfl wf_X2_40 rfl rfl rfl dX2_play_21 eS4 ?_
  refine tg_aload_n X dX2_play_24 rfl 1 rfl ?_
  refine tg_getr X 11 rfl cl_X1 3 (by decide) rfl wf_X2_55 dX2_play_25 ?_
  refine tg_iconst X dX2_play_28 tk_i0 ?_
  refine tg_aload_n X dX2_play_29 rfl 0 rfl ?_
  refine tg_getr X 35 rfl cl_X2 7 (by decide) rfl wf_X2_34 dX2_play_30 ?_
  refine tg_iconst X dX2_play_33 tk_i0 ?_
  refine tg_bipush X dX2_play_34 tk_b16 ?_
  obtain ⟨S5, eS5, bS5, h⟩ := tg_cpE h
  refine tg_acopy X 15 41 rfl rfl bS5 ⟨wm_X2_58, wn_AC, wt_AC, wi_Sys⟩ ⟨Nat.le_of_ble_eq_true rfl, Nat.le_of_ble_eq_true rfl⟩ dX2_play_36 eS5 ?_
  refine tg_iconst X dX2_play_39 tk_i0 ?_
  refine tg_istore_n (lv2 := [(2, .int 0), (0, .ref (tg_ad x 35)), (1, .ref (tg_ad x 11))]) X dX2_play_40 rfl (by decide) rfl ?_
  refine tg_re [1, 2, 0] rfl ?_
  exact wl_X2_play_a_41 X  tg_F S5 0 h
theorem cm_X2_play_a (l : Launch) (D : va_G) (cy : Bool → ClassId) (ad : Nat → Nat) (tS : Nat) {S Sf : tg_S} {r : Int32} (h : f_X2_play 35 11 S  = some (Sf, r)) : tg_Met l yX2_play cX2_play 6 (some .int) zr_X2_play tauC D cy ad tS S [.ref (ad 35), .ref (ad 11)] Sf (some (.int r)) := tg_mk (by decide +kernel) trivial (Nat.le_of_ble_eq_true rfl) (fun p e s m args below meth c Q A X => w_X2_play_a_0 X S  h)
set_option maxRecDepth 20000 in
set_option maxHeartbeats 4000000 in
theorem w_X2_play_b_126 {x : tg_X} {Sf : tg_S} {r : Int32} {rec41 : tg_S → Int32 → Option (tg_S × Int32)} (X : tg_M tauC x cX2_play 6 RX2 zr_X2_play (some .int) Sf (some (.int r))) (hr41 : ∀ (S : tg_S) (v2 : Int32), rec41 S v2 = some (Sf, r) → tg_G tauC x S 41 [(0, .ref (tg_ad x 42)), (1, .ref (tg_ad x 23)), (2, .int v2)] []) (S : tg_S) (v2 : Int32) (v4 : Int32) (v5 : Int32) (h : f_X2_play_126 42 23 rec41 S v2 v4 v5 = some (Sf, r)) : tg_G tauC x S 126 [(0, .ref (tg_ad x 42)), (1, .ref (tg_ad x 23)), (2, .int v2), (4, .int v4), (5, .int v5)] [] := by
  unfold f_X2_play_126 at h
  refine tg_aload_n X dX2_play_126 rfl 0 rfl ?_
  refine tg_getr X 42 rfl cl_X2 0 (by decide) rfl wf_X2_9 dX2_play_127 ?_
  refine tg_iload_n X dX2_play_130 rfl 2 rfl ?_
  refine tg_aload_n X dX2_play_131 rfl 0 rfl ?_
  refine tg_geti X 42 rfl cl_X2 8 (by decide) rfl wf_X2_37 dX2_play_132 ?_
  obtain ⟨S1, eS1, bS1, h⟩ := tg_wrE h
  refine tg_iast X 43 rfl bS1 dX2_play_135 eS1 ?_
  refine tg_aload_n X dX2_play_136 rfl 0 rfl ?_
  refine tg_getr X 42 rfl cl_X2 1 (by decide) rfl wf_X2_15 dX2_play_137 ?_
  refine tg_iload_n X dX2_play_140 rfl 2 rfl ?_
  refine tg_aload_n X dX2_play_141 rfl 0 rfl ?_
  refine tg_geti X 42 rfl cl_X2 9 (by decide) rfl wf_X2_40 dX2_play_142 ?_
  obtain ⟨S2, eS2, bS2, h⟩ := tg_wrE h
  refine tg_iast X 44 rfl bS2 dX2_play_145 eS2 ?_
  refine tg_aload_n X dX2_play_146 rfl 0 rfl ?_
  refine tg_getr X 42 rfl cl_X2 2 (by decide) rfl wf_X2_18 dX2_play_147 ?_
  refine tg_iload_n X dX2_play_150 rfl 2 rfl ?_
  refine tg_iload X dX2_play_151 3 rfl ?_
  obtain ⟨S3, eS3, bS3, h⟩ := tg_wrE h
  refine tg_iast X 45 rfl bS3 dX2_play_153 eS3 ?_
  refine tg_aload_n X dX2_play_154 rfl 0 rfl ?_
  refine tg_getr X 42 rfl cl_X2 2 (by decide) rfl wf_X2_18 dX2_play_155 ?_
  refine tg_bipush X dX2_play_158 tk_b24 ?_
  refine tg_iload_n X dX2_play_160 rfl 2 rfl ?_
  refine tg_iadd X dX2_play_161 ?_
  refine tg_iload X dX2_play_162 4 rfl ?_
  obtain ⟨S4, eS4, bS4, h⟩ := tg_wrE h
  refine tg_iast X 45 rfl bS4 dX2_play_164 eS4 ?_
  obtain ⟨y5, ey5⟩ : ∃ z : Int32, z = v2 + 1 := ⟨_, rfl⟩
  have h := tg_nmE ey5 h
  refine tg_iinc (lv2 := [(2, .int y5), (0, .ref (tg_ad x 42)), (1, .ref (tg_ad x 23)), (4, .int v4), (5, .int v5)]) X dX2_play_165 2 rfl tk_i1 ey5 (by decide) rfl ?_
  refine tg_goto (tgt := 41) X dX2_play_168 (by decide) ?_
  refine tg_re [1, 2, 0] rfl ?_
  exact hr41 S4 y5 h
set_option maxRecDepth 20000 in
set_option maxHeartbeats 4000000 in
theorem w_X2_play_b_102 {x : tg_X} {Sf : tg_S} {r : Int32} {rec41 : tg_S → Int32 → Option (tg_S × Int32)} (X : tg_M tauC x cX2_play 6 RX2 zr_X2_play (some .int) Sf (some (.int r))) (hr41 : ∀ (S : tg_S) (v2 : Int32), rec41 S v2 = some (Sf, r) → tg_G tauC x S 41 [(0, .ref (tg_ad x 42)), (1, .ref (tg_ad x 23)), (2, .int v2)] []) (S : tg_S) (v2 : Int32) (v3 : Int32) (v4 : Int32) (s0 : Int32) (h : f_X2_play_102 42 23 rec41 S v2 v3 v4 s0 = some (Sf, r)) : tg_G tauC x S 102 [(0, .ref (tg_ad x 42)), (1, .ref (tg_ad x 23)), (2, .int v2), (3, .int v3), (4, .int v4)] [.int s0] := by
  unfold f_X2_play_102 at h
  refine tg_istore (lv2 := [(5, .int s0), (0, .ref (tg_ad x 42)), (1, .ref (tg_ad x 23)), (2, .int v2), (3, .int v3), (4, .int v4)]) X dX2_play_102 (by decide) rfl ?_
  refine tg_iload_n X dX2_play_104 rfl 4 rfl ?_
  refine tg_if_eq (tgt := 121) X dX2_play_105 (by decide) (fun c1 => ?_) (fun c1 => ?_)
  · have h := tg_ifT c1 h
    refine tg_aload_n X dX2_play_121 rfl 1 rfl ?_
    refine tg_iload_n X dX2_play_122 rfl 3 rfl ?_
    obtain ⟨S2, kS2, h⟩ := tg_bvE h
    refine tg_callV (As := [.int v2]) (rest := []) X 42 (cm_X2_standStill_b _ _ _ _ _ kS2) yy_X2_standStill wv_X2_standStill ws_X2_standStill wm_X2_80 rfl cl_X2.1 ⟨rfl, rfl, Nat.le_of_ble_eq_true rfl, Nat.le_of_ble_eq_true rfl⟩ rfl rfl (Nat.le_of_ble_eq_true rfl) dX2_play_123 rfl ?_
    refine tg_re [1, 2, 3, 5, 0] rfl ?_
    exact w_X2_play_b_126 X hr41 S2 v2 v4 s0 h
  · have h := tg_ifF c1 h
    refine tg_aload_n X dX2_play_108 rfl 1 rfl ?_
    refine tg_iload X dX2_play_109 5 rfl ?_
    refine tg_iload X dX2_play_111 0 rfl ?_
    refine tg_isub X dX2_play_113 ?_
    refine tg_iload_n X dX2_play_114 rfl 3 rfl ?_
    obtain ⟨S3, kS3, h⟩ := tg_bvE h
    refine tg_callV (As := [.int (v4 - s0), .int v2]) (rest := []) X 42 (cm_X2_moveRope_b _ _ _ _ _ kS3) yy_X2_moveRope wv_X2_moveRope ws_X2_moveRope wm_X2_76 rfl cl_X2.1 ⟨rfl, rfl, Nat.le_of_ble_eq_true rfl, Nat.le_of_ble_eq_true rfl⟩ rfl rfl (Nat.le_of_ble_eq_true rfl) dX2_play_115 rfl ?_
    refine tg_goto (tgt := 126) X dX2_play_118 (by decide) ?_
    refine tg_re [1, 2, 3, 5, 0] rfl ?_
    exact w_X2_play_b_126 X hr41 S3 v2 v4 s0 h
set_option maxRecDepth 20000 in
set_option maxHeartbeats 4000000 in
theorem w_X2_play_b_85 {x : tg_X} {Sf : tg_S} {r : Int32} {rec41 : tg_S → Int32 → Option (tg_S × Int32)} (X : tg_M tauC x cX2_play 6 RX2 zr_X2_play (some .int) Sf (some (.int r))) (hr41 : ∀ (S : tg_S) (v2 : Int32), rec41 S v2 = some (Sf, r) → tg_G tauC x S 41 [(0, .ref (tg_ad x 42)), (1, .ref (tg_ad x 23)), (2, .int v2)] []) (S : tg_S) (v2 : Int32) (v3 : Int32) (s0 : Int32) (h : f_X2_play_85 42 23 rec41 S v2 v3 s0 = some (Sf, r)) : tg_G tauC x S 85 [(0, .ref (tg_ad x 42)), (1, .ref (tg_ad x 23)), (2, .int v2), (3, .int v3)] [.int s0] := by
  unfold f_X2_play_85 at h
  refine tg_istore (lv2 := [(4, .int s0), (0, .ref (tg_ad x 42)), (1, .ref (tg_ad x 23)), (2, .int v2), (3, .int v3)]) X dX2_play_85 (by decide) rfl ?_
  refine tg_iload_n X dX2_play_87 rfl 4 rfl ?_
  refine tg_if_eq (tgt := 101) X dX2_play_88 (by decide) (fun c1 => ?_) (fun c1 => ?_)
  · have h := tg_ifT c1 h
    refine tg_iconst X dX2_play_101 tk_i0 ?_
    refine tg_re [1, 2, 3, 4, 0] rfl ?_
    exact w_X2_play_b_102 X hr41 S v2 v3 s0 0 h
  · have h := tg_ifF c1 h
    refine tg_aload_n X dX2_play_91 rfl 1 rfl ?_
    refine tg_aload_n X dX2_play_92 rfl 2 rfl ?_
    refine tg_iconst X dX2_play_93 tk_i1 ?_
    refine tg_iload_n X dX2_play_94 rfl 3 rfl ?_
    obtain ⟨S2, r3, kS2, h⟩ := tg_bdE h
    refine tg_callV (As := [.ref (tg_ad x 23), .int 1, .int v2]) (rest := []) X 42 (cm_X2_pullOfTeam_b _ _ _ _ _ kS2) yy_X2_pullOfTeam wv_X2_pullOfTeam ws_X2_pullOfTeam wm_X2_72 rfl cl_X2.1 ⟨rfl, rfl, Nat.le_of_ble_eq_true rfl, Nat.le_of_ble_eq_true rfl⟩ rfl rfl (Nat.le_of_ble_eq_true rfl) dX2_play_95 rfl ?_
    refine tg_goto (tgt := 102) X dX2_play_98 (by decide) ?_
    refine tg_re [1, 2, 3, 4, 0] rfl ?_
    exact w_X2_play_b_102 X hr41 S2 v2 v3 s0 r3 h
set_option maxRecDepth 20000 in
set_option maxHeartbeats 4000000 in
theorem w_X2_play_b_69 {x : tg_X} {Sf : tg_S} {r : Int32} {rec41 : tg_S → Int32 → Option (tg_S × Int32)} (X : tg_M tauC x cX2_play 6 RX2 zr_X2_play (some .int) Sf (some (.int r))) (hr41 : ∀ (S : tg_S) (v2 : Int32), rec41 S v2 = some (Sf, r) → tg_G tauC x S 41 [(0, .ref (tg_ad x 42)), (1, .ref (tg_ad x 23)), (2, .int v2)] []) (S : tg_S) (v2 : Int32) (s0 : Int32) (h : f_X2_play_69 42 23 rec41 S v2 s0 = some (Sf, r)) : tg_G tauC x S 69 [(0, .ref (tg_ad x 42)), (1, .ref (tg_ad x 23)), (2, .int v2)] [.int s0] := by
  unfold f_X2_play_69 at h
  refine tg_istore_n (lv2 := [(3, .int s0), (0, .ref (tg_ad x 42)), (1, .ref (tg_ad x 23)), (2, .int v2)]) X dX2_play_69 rfl (by decide) rfl ?_
  refine tg_iload_n X dX2_play_70 rfl 0 rfl ?_
  refine tg_if_eq (tgt := 84) X dX2_play_71 (by decide) (fun c1 => ?_) (fun c1 => ?_)
  · have h := tg_ifT c1 h
    refine tg_iconst X dX2_play_84 tk_i0 ?_
    refine tg_re [1, 2, 3, 0] rfl ?_
    exact w_X2_play_b_85 X hr41 S v2 s0 0 h
  · have h := tg_ifF c1 h
    refine tg_aload_n X dX2_play_74 rfl 1 rfl ?_
    refine tg_aload_n X dX2_play_75 rfl 2 rfl ?_
    refine tg_iconst X dX2_play_76 tk_i0 ?_
    refine tg_iload_n X dX2_play_77 rfl 3 rfl ?_
    obtain ⟨S2, r3, kS2, h⟩ := tg_bdE h
    refine tg_callV (As := [.ref (tg_ad x 23), .int 0, .int v2]) (rest := []) X 42 (cm_X2_pullOfTeam_b _ _ _ _ _ kS2) yy_X2_pullOfTeam wv_X2_pullOfTeam ws_X2_pullOfTeam wm_X2_72 rfl cl_X2.1 ⟨rfl, rfl, Nat.le_of_ble_eq_true rfl, Nat.le_of_ble_eq_true rfl⟩ rfl rfl (Nat.le_of_ble_eq_true rfl) dX2_play_78 rfl ?_
    refine tg_goto (tgt := 85) X dX2_play_81 (by decide) ?_
    refine tg_re [1, 2, 3, 0] rfl ?_
    exact w_X2_play_b_85 X hr41 S2 v2 s0 r3 h
set_option maxRecDepth 20000 in
set_option maxHeartbeats 4000000 in
theorem w_X2_play_b_41 {x : tg_X} {Sf : tg_S} {r : Int32} {rec41 : tg_S → Int32 → Option (tg_S × Int32)} (X : tg_M tauC x cX2_play 6 RX2 zr_X2_play (some .int) Sf (some (.int r))) (hr41 : ∀ (S : tg_S) (v2 : Int32), rec41 S v2 = some (Sf, r) → tg_G tauC x S 41 [(0, .ref (tg_ad x 42)), (1, .ref (tg_ad x 23)), (2, .int v2)] []) (S : tg_S) (v2 : Int32) (h : f_X2_play_41 42 23 rec41 S v2 = some (Sf, r)) : tg_G tauC x S 41 [(0, .ref (tg_ad x 42)), (1, .ref (tg_ad x 23)), (2, .int v2)] [] := by
  unfold f_X2_play_41 at h
  refine tg_iload_n X dX2_play_41 rfl 2 rfl ?_
  refine tg_bipush X dX2_play_42 tk_b24 ?_
  refine tg_icmp_ge (tgt := 171) X dX2_play_44 (by decide) (fun c1 => ?_) (fun c1 => ?_)
  · have h := tg_ifT c1 h
    refine tg_aload_n X dX2_play_171 rfl 0 rfl ?_
    refine tg_geti X 42 rfl cl_X2 8 (by decide) rfl wf_X2_37 dX2_play_172 ?_
    exact tg_iret X h rfl dX2_play_175
  · have h := tg_ifF c1 h
    refine tg_aload_n X dX2_play_47 rfl 0 rfl ?_
    refine tg_aload_n X dX2_play_48 rfl 1 rfl ?_
    refine tg_getr X 23 rfl cl_X1 7 (by decide) rfl wf_X2_64 dX2_play_49 ?_
    refine tg_iload_n X dX2_play_52 rfl 2 rfl ?_
    obtain ⟨S2, kS2, h⟩ := tg_bvE h
    refine tg_callV (As := [.ref (tg_ad x 31), .int v2]) (rest := []) X 42 (cm_X2_meetEvents_b _ _ _ _ _ kS2) yy_X2_meetEvents wv_X2_meetEvents ws_X2_meetEvents wm_X2_68 rfl cl_X2.1 ⟨rfl, rfl, Nat.le_of_ble_eq_true rfl, Nat.le_of_ble_eq_true rfl⟩ rfl rfl (Nat.le_of_ble_eq_true rfl) dX2_play_53 rfl ?_
    refine tg_aload_n X dX2_play_56 rfl 0 rfl ?_
    refine tg_geti X 42 rfl cl_X2 5 (by decide) rfl wf_X2_27 dX2_play_57 ?_
    refine tg_iconst X dX2_play_60 tk_im1 ?_
    refine tg_icmp_ne (tgt := 68) X dX2_play_61 (by decide) (fun c3 => ?_) (fun c3 => ?_)
    · rw [if_neg c3] at h
      refine tg_iconst X dX2_play_68 tk_i0 ?_
      exact w_X2_play_b_69 X hr41 S2 v2 0 h
    · rw [if_pos c3] at h
      refine tg_iconst X dX2_play_64 tk_i1 ?_
      refine tg_goto (tgt := 69) X dX2_play_65 (by decide) ?_
      exact w_X2_play_b_69 X hr41 S2 v2 1 h
theorem wl_X2_play_b_41 {x : tg_X} {Sf : tg_S} {r : Int32} (X : tg_M tauC x cX2_play 6 RX2 zr_X2_play (some .int) Sf (some (.int r))) : ∀ (n : Nat) (S : tg_S) (v2 : Int32) (h : L_X2_play_41 42 23 n S v2 = some (Sf, r)), tg_G tauC x S 41 [(0, .ref (tg_ad x 42)), (1, .ref (tg_ad x 23)), (2, .int v2)] [] := by
  intro n
  induction n with
  | zero => intro S v2 h; cases h
  | succ n ih => intro S v2 h; exact w_X2_play_b_41 X  ih S v2 h
set_option maxRecDepth 20000 in
set_option maxHeartbeats 4000000 in
theorem w_X2_play_b_0 {x : tg_X} {Sf : tg_S} {r : Int32} (X : tg_M tauC x cX2_play 6 RX2 zr_X2_play (some .int) Sf (some (.int r))) (S : tg_S) (h : f_X2_play 42 23 S  = some (Sf, r)) : tg_G tauC x S 0 [(0, .ref (tg_ad x 42)), (1, .ref (tg_ad x 23))] [] := by
  unfold f_X2_play at h
  refine tg_aload_n X dX2_play_0 rfl 0 rfl ?_
  refine tg_iconst X dX2_play_1 tk_im1 ?_
  obtain ⟨S1, eS1, h⟩ := tg_pfE h
  refine tg_puti X 42 rfl cl_X2 5 (by decide) rfl wf_X2_27 rfl rfl rfl dX2_play_2 eS1 ?_
  refine tg_aload_n X dX2_play_5 rfl 0 rfl ?_
  refine tg_iconst X dX2_play_6 tk_im1 ?_
  obtain ⟨S2, eS2, h⟩ := tg_pfE h
  refine tg_puti X 42 rfl cl_X2 6 (by decide) rfl wf_X2_31 rfl rfl rfl dX2_play_7 eS2 ?_
  refine tg_aload_n X dX2_play_10 rfl 0 rfl ?_
  refine tg_bipush X dX2_play_11 tk_b12 ?_
  obtain ⟨S3, eS3, h⟩ := tg_pfE h
  refine tg_puti X 42 rfl cl_X2 8 (by decide) rfl wf_X2_37 rfl rfl rfl dX2_play_13 eS3 ?_
  refine tg_aload_n X dX2_play_16 rfl 0 rfl ?_
  refine tg_aload_n X dX2_play_17 rfl 1 rfl ?_
  refine tg_geti X 23 rfl cl_X1 8 (by decide) rfl wf_X2_50 dX2_play_18 ?_
  obtain ⟨S4, eS4, h⟩ := tg_pfE h
  refine tg_puti X 42 rfl cl_X2 9 (by decide) rfl wf_X2_40 rfl rfl rfl dX2_play_21 eS4 ?_
  refine tg_aload_n X dX2_play_24 rfl 1 rfl ?_
  refine tg_getr X 23 rfl cl_X1 3 (by decide) rfl wf_X2_55 dX2_play_25 ?_
  refine tg_iconst X dX2_play_28 tk_i0 ?_
  refine tg_aload_n X dX2_play_29 rfl 0 rfl ?_
  refine tg_getr X 42 rfl cl_X2 7 (by decide) rfl wf_X2_34 dX2_play_30 ?_
  refine tg_iconst X dX2_play_33 tk_i0 ?_
  refine tg_bipush X dX2_play_34 tk_b16 ?_
  obtain ⟨S5, eS5, bS5, h⟩ := tg_cpE h
  refine tg_acopy X 27 48 rfl rfl bS5 ⟨wm_X2_58, wn_AC, wt_AC, wi_Sys⟩ ⟨Nat.le_of_ble_eq_true rfl, Nat.le_of_ble_eq_true rfl⟩ dX2_play_36 eS5 ?_
  refine tg_iconst X dX2_play_39 tk_i0 ?_
  refine tg_istore_n (lv2 := [(2, .int 0), (0, .ref (tg_ad x 42)), (1, .ref (tg_ad x 23))]) X dX2_play_40 rfl (by decide) rfl ?_
  refine tg_re [1, 2, 0] rfl ?_
  exact wl_X2_play_b_41 X  tg_F S5 0 h
theorem cm_X2_play_b (l : Launch) (D : va_G) (cy : Bool → ClassId) (ad : Nat → Nat) (tS : Nat) {S Sf : tg_S} {r : Int32} (h : f_X2_play 42 23 S  = some (Sf, r)) : tg_Met l yX2_play cX2_play 6 (some .int) zr_X2_play tauC D cy ad tS S [.ref (ad 42), .ref (ad 23)] Sf (some (.int r)) := tg_mk (by decide +kernel) trivial (Nat.le_of_ble_eq_true rfl) (fun p e s m args below meth c Q A X => w_X2_play_b_0 X S  h)
-- X7_playTold
def zr_X7_playTold : Room := { frames := 4, cells := 0, slots := 0, locals := 96 }
theorem dX7_playTold_0 : decode cX7_playTold 0 = .ok (.aload_n 0, 1) := by decide +kernel
theorem dX7_playTold_1 : decode cX7_playTold 1 = .ok (.getfield 44, 3) := by decide +kernel
theorem dX7_playTold_4 : decode cX7_playTold 4 = .ok (.aload_n 0, 1) := by decide +kernel
theorem dX7_playTold_5 : decode cX7_playTold 5 = .ok (.getfield 37, 3) := by decide +kernel
theorem dX7_playTold_8 : decode cX7_playTold 8 = .ok (.invokevirtual 198, 3) := by decide +kernel
theorem dX7_playTold_11 : decode cX7_playTold 11 = .ok (.pop, 1) := by decide +kernel
theorem dX7_playTold_12 : decode cX7_playTold 12 = .ok (.aload_n 0, 1) := by decide +kernel
theorem dX7_playTold_13 : decode cX7_playTold 13 = .ok (.iconst 0, 1) := by decide +kernel
theorem dX7_playTold_14 : decode cX7_playTold 14 = .ok (.putfield 68, 3) := by decide +kernel
theorem dX7_playTold_17 : decode cX7_playTold 17 = .ok (.return_, 1) := by decide +kernel
set_option maxRecDepth 20000 in
set_option maxHeartbeats 4000000 in
theorem w_X7_playTold_0 {x : tg_X} {Sf : tg_S} (X : tg_M tauC x cX7_playTold 1 RX7 zr_X7_playTold none Sf none) (S : tg_S) (h : f_X7_playTold  S  = some Sf) : tg_G tauC x S 0 [(0, .ref (tg_ad x 0))] [] := by
  unfold f_X7_playTold at h
  refine tg_aload_n X dX7_playTold_0 rfl 0 rfl ?_
  refine tg_getr X 0 rfl cl_X7 5 (by decide) rfl wf_X7_44 dX7_playTold_1 ?_
  refine tg_aload_n X dX7_playTold_4 rfl 0 rfl ?_
  refine tg_getr X 0 rfl cl_X7 4 (by decide) rfl wf_X7_37 dX7_playTold_5 ?_
  obtain ⟨S1, r2, kS1, h⟩ := tg_bdE h
  refine tg_callV (As := [.ref (tg_ad x 11)]) (rest := []) X 35 (cm_X2_play_a _ _ _ _ _ kS1) yy_X2_play wv_X2_play ws_X2_play wm_X7_198 rfl cl_X2.1 ⟨rfl, rfl, Nat.le_of_ble_eq_true rfl, Nat.le_of_ble_eq_true rfl⟩ rfl rfl (Nat.le_of_ble_eq_true rfl) dX7_playTold_8 rfl ?_
  refine tg_pop X dX7_playTold_11 rfl ?_
  refine tg_aload_n X dX7_playTold_12 rfl 0 rfl ?_
  refine tg_iconst X dX7_playTold_13 tk_i0 ?_
  obtain ⟨S3, eS3, h⟩ := tg_pfE h
  refine tg_puti X 0 rfl cl_X7 11 (by decide) rfl wf_X7_68 rfl rfl rfl dX7_playTold_14 eS3 ?_
  exact tg_vret X h dX7_playTold_17
theorem cm_X7_playTold (l : Launch) (D : va_G) (cy : Bool → ClassId) (ad : Nat → Nat) (tS : Nat) {S Sf : tg_S} (h : f_X7_playTold  S  = some Sf) : tg_Met l yX7_playTold cX7_playTold 1 none zr_X7_playTold tauC D cy ad tS S [.ref (ad 0)] Sf none := tg_mk (by decide +kernel) trivial (Nat.le_of_ble_eq_true rfl) (fun p e s m args below meth c Q A X => w_X7_playTold_0 X S  h)
-- X7_playTexts
def zr_X7_playTexts : Room := { frames := 5, cells := 0, slots := 0, locals := 116 }
theorem dX7_playTexts_0 : decode cX7_playTexts 0 = .ok (.aload_n 0, 1) := by decide +kernel
theorem dX7_playTexts_1 : decode cX7_playTexts 1 = .ok (.getfield 37, 3) := by decide +kernel
theorem dX7_playTexts_4 : decode cX7_playTexts 4 = .ok (.aload_n 0, 1) := by decide +kernel
theorem dX7_playTexts_5 : decode cX7_playTexts 5 = .ok (.getfield 10, 3) := by decide +kernel
theorem dX7_playTexts_8 : decode cX7_playTexts 8 = .ok (.invokevirtual 369, 3) := by decide +kernel
theorem dX7_playTexts_11 : decode cX7_playTexts 11 = .ok (.aload_n 0, 1) := by decide +kernel
theorem dX7_playTexts_12 : decode cX7_playTexts 12 = .ok (.invokevirtual 118, 3) := by decide +kernel
theorem dX7_playTexts_15 : decode cX7_playTexts 15 = .ok (.return_, 1) := by decide +kernel
set_option maxRecDepth 20000 in
set_option maxHeartbeats 4000000 in
theorem w_X7_playTexts_0 {x : tg_X} {Sf : tg_S} (X : tg_M tauC x cX7_playTexts 1 RX7 zr_X7_playTexts none Sf none) (S : tg_S) (h : f_X7_playTexts  S  = some Sf) : tg_G tauC x S 0 [(0, .ref (tg_ad x 0))] [] := by
  unfold f_X7_playTexts at h
  refine tg_aload_n X dX7_playTexts_0 rfl 0 rfl ?_
  refine tg_getr X 0 rfl cl_X7 4 (by decide) rfl wf_X7_37 dX7_playTexts_1 ?_
  refine tg_aload_n X dX7_playTexts_4 rfl 0 rfl ?_
  refine tg_getr X 0 rfl cl_X7 0 (by decide) rfl wf_X7_10 dX7_playTexts_5 ?_
  obtain ⟨S1, kS1, h⟩ := tg_bvE h
  refine tg_callV (As := [.ref (tg_ad x 1)]) (rest := []) X 11 (cm_X1_takeTexts _ _ _ _ _ kS1) yy_X1_takeTexts wv_X1_takeTexts ws_X1_takeTexts wm_X7_369 rfl cl_X1.1 ⟨rfl, rfl, Nat.le_of_ble_eq_true rfl, Nat.le_of_ble_eq_true rfl⟩ rfl rfl (Nat.le_of_ble_eq_true rfl) dX7_playTexts_8 rfl ?_
  refine tg_aload_n X dX7_playTexts_11 rfl 0 rfl ?_
  obtain ⟨S2, kS2, h⟩ := tg_bvE h
  refine tg_callV (As := []) (rest := []) X 0 (cm_X7_playTold _ _ _ _ _ kS2) yy_X7_playTold wv_X7_playTold ws_X7_playTold wm_X7_118 rfl cl_X7.1 ⟨rfl, rfl, Nat.le_of_ble_eq_true rfl, Nat.le_of_ble_eq_true rfl⟩ rfl rfl (Nat.le_of_ble_eq_true rfl) dX7_playTexts_12 rfl ?_
  exact tg_vret X h dX7_playTexts_15
theorem cm_X7_playTexts (l : Launch) (D : va_G) (cy : Bool → ClassId) (ad : Nat → Nat) (tS : Nat) {S Sf : tg_S} (h : f_X7_playTexts  S  = some Sf) : tg_Met l yX7_playTexts cX7_playTexts 1 none zr_X7_playTexts tauC D cy ad tS S [.ref (ad 0)] Sf none := tg_mk (by decide +kernel) trivial (Nat.le_of_ble_eq_true rfl) (fun p e s m args below meth c Q A X => w_X7_playTexts_0 X S  h)
-- X7_type
def zr_X7_type : Room := { frames := 6, cells := 0, slots := 0, locals := 136 }
theorem dX7_type_0 : decode cX7_type 0 = .ok (.iload_n 1, 1) := by decide +kernel
theorem dX7_type_1 : decode cX7_type 1 = .ok (.iconst 4, 1) := by decide +kernel
theorem dX7_type_2 : decode cX7_type 2 = .ok (.invokestatic 75, 3) := by decide +kernel
theorem dX7_type_5 : decode cX7_type 5 = .ok (.ifCond .eq 13, 3) := by decide +kernel
theorem dX7_type_8 : decode cX7_type 8 = .ok (.iload_n 2, 1) := by decide +kernel
theorem dX7_type_9 : decode cX7_type 9 = .ok (.sipush 256, 3) := by decide +kernel
theorem dX7_type_12 : decode cX7_type 12 = .ok (.invokestatic 75, 3) := by decide +kernel
theorem dX7_type_15 : decode cX7_type 15 = .ok (.ifCond .ne 6, 3) := by decide +kernel
theorem dX7_type_18 : decode cX7_type 18 = .ok (.bipush (-2), 2) := by decide +kernel
theorem dX7_type_20 : decode cX7_type 20 = .ok (.ireturn, 1) := by decide +kernel
theorem dX7_type_21 : decode cX7_type 21 = .ok (.aload_n 0, 1) := by decide +kernel
theorem dX7_type_22 : decode cX7_type 22 = .ok (.getfield 10, 3) := by decide +kernel
theorem dX7_type_25 : decode cX7_type 25 = .ok (.iload_n 1, 1) := by decide +kernel
theorem dX7_type_26 : decode cX7_type 26 = .ok (.invokevirtual 79, 3) := by decide +kernel
theorem dX7_type_29 : decode cX7_type 29 = .ok (.ifCond .eq 6, 3) := by decide +kernel
theorem dX7_type_32 : decode cX7_type 32 = .ok (.bipush (-4), 2) := by decide +kernel
theorem dX7_type_34 : decode cX7_type 34 = .ok (.ireturn, 1) := by decide +kernel
theorem dX7_type_35 : decode cX7_type 35 = .ok (.aload_n 0, 1) := by decide +kernel
theorem dX7_type_36 : decode cX7_type 36 = .ok (.getfield 10, 3) := by decide +kernel
theorem dX7_type_39 : decode cX7_type 39 = .ok (.iload_n 1, 1) := by decide +kernel
theorem dX7_type_40 : decode cX7_type 40 = .ok (.iload_n 2, 1) := by decide +kernel
theorem dX7_type_41 : decode cX7_type 41 = .ok (.invokevirtual 83, 3) := by decide +kernel
theorem dX7_type_44 : decode cX7_type 44 = .ok (.istore_n 3, 1) := by decide +kernel
theorem dX7_type_45 : decode cX7_type 45 = .ok (.aload_n 0, 1) := by decide +kernel
theorem dX7_type_46 : decode cX7_type 46 = .ok (.invokevirtual 72, 3) := by decide +kernel
theorem dX7_type_49 : decode cX7_type 49 = .ok (.iload_n 3, 1) := by decide +kernel
theorem dX7_type_50 : decode cX7_type 50 = .ok (.ireturn, 1) := by decide +kernel
set_option maxRecDepth 20000 in
set_option maxHeartbeats 4000000 in
theorem w_X7_type_0 {x : tg_X} {Sf : tg_S} {r : Int32} (X : tg_M tauC x cX7_type 4 RX7 zr_X7_type (some .int) Sf (some (.int r))) (S : tg_S) (v1 : Int32) (v2 : Int32) (h : f_X7_type  S v1 v2 = some (Sf, r)) : tg_G tauC x S 0 [(0, .ref (tg_ad x 0)), (1, .int v1), (2, .int v2)] [] := by
  unfold f_X7_type at h
  refine tg_iload_n X dX7_type_0 rfl 1 rfl ?_
  refine tg_iconst X dX7_type_1 tk_i4 ?_
  obtain ⟨S1, r2, kS1, h⟩ := tg_bdE h
  refine tg_callS (As := [.int v1, .int 4]) (rest := []) X (cm_X7_isBelow _ _ _ _ _ kS1) yy_X7_isBelow wt_X7_isBelow wm_X7_75 ⟨rfl, rfl, Nat.le_of_ble_eq_true rfl, Nat.le_of_ble_eq_true rfl⟩ rfl rfl (Nat.le_of_ble_eq_true rfl) dX7_type_2 rfl ?_
  refine tg_if_eq (tgt := 18) X dX7_type_5 (by decide) (fun c3 => ?_) (fun c3 => ?_)
  · have h := tg_ifT c3 h
    refine tg_bipush X dX7_type_18 tk_bm2 ?_
    exact tg_iret X h rfl dX7_type_20
  · have h := tg_ifF c3 h
    refine tg_iload_n X dX7_type_8 rfl 2 rfl ?_
    refine tg_sipush X dX7_type_9 tk_s256 ?_
    obtain ⟨S4, r5, kS4, h⟩ := tg_bdE h
    refine tg_callS (As := [.int v2, .int 256]) (rest := []) X (cm_X7_isBelow _ _ _ _ _ kS4) yy_X7_isBelow wt_X7_isBelow wm_X7_75 ⟨rfl, rfl, Nat.le_of_ble_eq_true rfl, Nat.le_of_ble_eq_true rfl⟩ rfl rfl (Nat.le_of_ble_eq_true rfl) dX7_type_12 rfl ?_
    refine tg_if_ne (tgt := 21) X dX7_type_15 (by decide) (fun c6 => ?_) (fun c6 => ?_)
    · have h := tg_ifF c6 h
      refine tg_aload_n X dX7_type_21 rfl 0 rfl ?_
      refine tg_getr X 0 rfl cl_X7 0 (by decide) rfl wf_X7_10 dX7_type_22 ?_
      refine tg_iload_n X dX7_type_25 rfl 1 rfl ?_
      obtain ⟨S7, r8, kS7, h⟩ := tg_bdE h
      refine tg_callV (As := [.int v1]) (rest := []) X 1 (cm_X6_isFull _ _ _ _ _ kS7) yy_X6_isFull wv_X6_isFull ws_X6_isFull wm_X7_79 rfl cl_X6.1 ⟨rfl, rfl, Nat.le_of_ble_eq_true rfl, Nat.le_of_ble_eq_true rfl⟩ rfl rfl (Nat.le_of_ble_eq_true rfl) dX7_type_26 rfl ?_
      refine tg_if_eq (tgt := 35) X dX7_type_29 (by decide) (fun c9 => ?_) (fun c9 => ?_)
      · have h := tg_ifT c9 h
        refine tg_aload_n X dX7_type_35 rfl 0 rfl ?_
        refine tg_getr X 0 rfl cl_X7 0 (by decide) rfl wf_X7_10 dX7_type_36 ?_
        refine tg_iload_n X dX7_type_39 rfl 1 rfl ?_
        refine tg_iload_n X dX7_type_40 rfl 2 rfl ?_
        obtain ⟨S10, r11, kS10, h⟩ := tg_bdE h
        refine tg_callV (As := [.int v1, .int v2]) (rest := []) X 1 (cm_X6_append _ _ _ _ _ kS10) yy_X6_append wv_X6_append ws_X6_append wm_X7_83 rfl cl_X6.1 ⟨rfl, rfl, Nat.le_of_ble_eq_true rfl, Nat.le_of_ble_eq_true rfl⟩ rfl rfl (Nat.le_of_ble_eq_true rfl) dX7_type_41 rfl ?_
        refine tg_istore_n (lv2 := [(3, .int r11), (0, .ref (tg_ad x 0)), (1, .int v1), (2, .int v2)]) X dX7_type_44 rfl (by decide) rfl ?_
        refine tg_aload_n X dX7_type_45 rfl 1 rfl ?_
        obtain ⟨S12, kS12, h⟩ := tg_bvE h
        refine tg_callV (As := []) (rest := []) X 0 (cm_X7_playTexts _ _ _ _ _ kS12) yy_X7_playTexts wv_X7_playTexts ws_X7_playTexts wm_X7_72 rfl cl_X7.1 ⟨rfl, rfl, Nat.le_of_ble_eq_true rfl, Nat.le_of_ble_eq_true rfl⟩ rfl rfl (Nat.le_of_ble_eq_true rfl) dX7_type_46 rfl ?_
        refine tg_iload_n X dX7_type_49 rfl 0 rfl ?_
        exact tg_iret X h rfl dX7_type_50
      · have h := tg_ifF c9 h
        refine tg_bipush X dX7_type_32 tk_bm4 ?_
        exact tg_iret X h rfl dX7_type_34
    · have h := tg_ifT c6 h
      refine tg_bipush X dX7_type_18 tk_bm2 ?_
      exact tg_iret X h rfl dX7_type_20
theorem cm_X7_type (l : Launch) (D : va_G) (cy : Bool → ClassId) (ad : Nat → Nat) (tS : Nat) {S Sf : tg_S} {v1 : Int32} {v2 : Int32} {r : Int32} (h : f_X7_type  S v1 v2 = some (Sf, r)) : tg_Met l yX7_type cX7_type 4 (some .int) zr_X7_type tauC D cy ad tS S [.ref (ad 0), .int v1, .int v2] Sf (some (.int r)) := tg_mk (by decide +kernel) trivial (Nat.le_of_ble_eq_true rfl) (fun p e s m args below meth c Q A X => w_X7_type_0 X S v1 v2 h)
-- X7_wipe
def zr_X7_wipe : Room := { frames := 6, cells := 0, slots := 0, locals := 136 }
theorem dX7_wipe_0 : decode cX7_wipe 0 = .ok (.iload_n 1, 1) := by decide +kernel
theorem dX7_wipe_1 : decode cX7_wipe 1 = .ok (.iconst 4, 1) := by decide +kernel
theorem dX7_wipe_2 : decode cX7_wipe 2 = .ok (.invokestatic 75, 3) := by decide +kernel
theorem dX7_wipe_5 : decode cX7_wipe 5 = .ok (.ifCond .ne 6, 3) := by decide +kernel
theorem dX7_wipe_8 : decode cX7_wipe 8 = .ok (.bipush (-2), 2) := by decide +kernel
theorem dX7_wipe_10 : decode cX7_wipe 10 = .ok (.ireturn, 1) := by decide +kernel
theorem dX7_wipe_11 : decode cX7_wipe 11 = .ok (.aload_n 0, 1) := by decide +kernel
theorem dX7_wipe_12 : decode cX7_wipe 12 = .ok (.getfield 10, 3) := by decide +kernel
theorem dX7_wipe_15 : decode cX7_wipe 15 = .ok (.iload_n 1, 1) := by decide +kernel
theorem dX7_wipe_16 : decode cX7_wipe 16 = .ok (.invokevirtual 87, 3) := by decide +kernel
theorem dX7_wipe_19 : decode cX7_wipe 19 = .ok (.istore_n 2, 1) := by decide +kernel
theorem dX7_wipe_20 : decode cX7_wipe 20 = .ok (.aload_n 0, 1) := by decide +kernel
theorem dX7_wipe_21 : decode cX7_wipe 21 = .ok (.invokevirtual 72, 3) := by decide +kernel
theorem dX7_wipe_24 : decode cX7_wipe 24 = .ok (.iload_n 2, 1) := by decide +kernel
theorem dX7_wipe_25 : decode cX7_wipe 25 = .ok (.ireturn, 1) := by decide +kernel
set_option maxRecDepth 20000 in
set_option maxHeartbeats 4000000 in
theorem w_X7_wipe_0 {x : tg_X} {Sf : tg_S} {r : Int32} (X : tg_M tauC x cX7_wipe 3 RX7 zr_X7_wipe (some .int) Sf (some (.int r))) (S : tg_S) (v1 : Int32) (h : f_X7_wipe  S v1 = some (Sf, r)) : tg_G tauC x S 0 [(0, .ref (tg_ad x 0)), (1, .int v1)] [] := by
  unfold f_X7_wipe at h
  refine tg_iload_n X dX7_wipe_0 rfl 1 rfl ?_
  refine tg_iconst X dX7_wipe_1 tk_i4 ?_
  obtain ⟨S1, r2, kS1, h⟩ := tg_bdE h
  refine tg_callS (As := [.int v1, .int 4]) (rest := []) X (cm_X7_isBelow _ _ _ _ _ kS1) yy_X7_isBelow wt_X7_isBelow wm_X7_75 ⟨rfl, rfl, Nat.le_of_ble_eq_true rfl, Nat.le_of_ble_eq_true rfl⟩ rfl rfl (Nat.le_of_ble_eq_true rfl) dX7_wipe_2 rfl ?_
  refine tg_if_ne (tgt := 11) X dX7_wipe_5 (by decide) (fun c3 => ?_) (fun c3 => ?_)
  · have h := tg_ifF c3 h
    refine tg_aload_n X dX7_wipe_11 rfl 0 rfl ?_
    refine tg_getr X 0 rfl cl_X7 0 (by decide) rfl wf_X7_10 dX7_wipe_12 ?_
    refine tg_iload_n X dX7_wipe_15 rfl 1 rfl ?_
    obtain ⟨S4, r5, kS4, h⟩ := tg_bdE h
    refine tg_callV (As := [.int v1]) (rest := []) X 1 (cm_X6_clear _ _ _ _ _ kS4) yy_X6_clear wv_X6_clear ws_X6_clear wm_X7_87 rfl cl_X6.1 ⟨rfl, rfl, Nat.le_of_ble_eq_true rfl, Nat.le_of_ble_eq_true rfl⟩ rfl rfl (Nat.le_of_ble_eq_true rfl) dX7_wipe_16 rfl ?_
    refine tg_istore_n (lv2 := [(2, .int r5), (0, .ref (tg_ad x 0)), (1, .int v1)]) X dX7_wipe_19 rfl (by decide) rfl ?_
    refine tg_aload_n X dX7_wipe_20 rfl 1 rfl ?_
    obtain ⟨S6, kS6, h⟩ := tg_bvE h
    refine tg_callV (As := []) (rest := []) X 0 (cm_X7_playTexts _ _ _ _ _ kS6) yy_X7_playTexts wv_X7_playTexts ws_X7_playTexts wm_X7_72 rfl cl_X7.1 ⟨rfl, rfl, Nat.le_of_ble_eq_true rfl, Nat.le_of_ble_eq_true rfl⟩ rfl rfl (Nat.le_of_ble_eq_true rfl) dX7_wipe_21 rfl ?_
    refine tg_iload_n X dX7_wipe_24 rfl 0 rfl ?_
    exact tg_iret X h rfl dX7_wipe_25
  · have h := tg_ifT c3 h
    refine tg_bipush X dX7_wipe_8 tk_bm2 ?_
    exact tg_iret X h rfl dX7_wipe_10
theorem cm_X7_wipe (l : Launch) (D : va_G) (cy : Bool → ClassId) (ad : Nat → Nat) (tS : Nat) {S Sf : tg_S} {v1 : Int32} {r : Int32} (h : f_X7_wipe  S v1 = some (Sf, r)) : tg_Met l yX7_wipe cX7_wipe 3 (some .int) zr_X7_wipe tauC D cy ad tS S [.ref (ad 0), .int v1] Sf (some (.int r)) := tg_mk (by decide +kernel) trivial (Nat.le_of_ble_eq_true rfl) (fun p e s m args below meth c Q A X => w_X7_wipe_0 X S v1 h)
-- X7_undo
def zr_X7_undo : Room := { frames := 6, cells := 0, slots := 0, locals := 136 }
theorem dX7_undo_0 : decode cX7_undo 0 = .ok (.iload_n 1, 1) := by decide +kernel
theorem dX7_undo_1 : decode cX7_undo 1 = .ok (.iconst 4, 1) := by decide +kernel
theorem dX7_undo_2 : decode cX7_undo 2 = .ok (.invokestatic 75, 3) := by decide +kernel
theorem dX7_undo_5 : decode cX7_undo 5 = .ok (.ifCond .ne 6, 3) := by decide +kernel
theorem dX7_undo_8 : decode cX7_undo 8 = .ok (.bipush (-2), 2) := by decide +kernel
theorem dX7_undo_10 : decode cX7_undo 10 = .ok (.ireturn, 1) := by decide +kernel
theorem dX7_undo_11 : decode cX7_undo 11 = .ok (.aload_n 0, 1) := by decide +kernel
theorem dX7_undo_12 : decode cX7_undo 12 = .ok (.getfield 10, 3) := by decide +kernel
theorem dX7_undo_15 : decode cX7_undo 15 = .ok (.iload_n 1, 1) := by decide +kernel
theorem dX7_undo_16 : decode cX7_undo 16 = .ok (.invokevirtual 91, 3) := by decide +kernel
theorem dX7_undo_19 : decode cX7_undo 19 = .ok (.ifCond .ne 6, 3) := by decide +kernel
theorem dX7_undo_22 : decode cX7_undo 22 = .ok (.bipush (-3), 2) := by decide +kernel
theorem dX7_undo_24 : decode cX7_undo 24 = .ok (.ireturn, 1) := by decide +kernel
theorem dX7_undo_25 : decode cX7_undo 25 = .ok (.aload_n 0, 1) := by decide +kernel
theorem dX7_undo_26 : decode cX7_undo 26 = .ok (.getfield 10, 3) := by decide +kernel
theorem dX7_undo_29 : decode cX7_undo 29 = .ok (.iload_n 1, 1) := by decide +kernel
theorem dX7_undo_30 : decode cX7_undo 30 = .ok (.invokevirtual 94, 3) := by decide +kernel
theorem dX7_undo_33 : decode cX7_undo 33 = .ok (.istore_n 2, 1) := by decide +kernel
theorem dX7_undo_34 : decode cX7_undo 34 = .ok (.aload_n 0, 1) := by decide +kernel
theorem dX7_undo_35 : decode cX7_undo 35 = .ok (.invokevirtual 72, 3) := by decide +kernel
theorem dX7_undo_38 : decode cX7_undo 38 = .ok (.iload_n 2, 1) := by decide +kernel
theorem dX7_undo_39 : decode cX7_undo 39 = .ok (.ireturn, 1) := by decide +kernel
set_option maxRecDepth 20000 in
set_option maxHeartbeats 4000000 in
theorem w_X7_undo_0 {x : tg_X} {Sf : tg_S} {r : Int32} (X : tg_M tauC x cX7_undo 3 RX7 zr_X7_undo (some .int) Sf (some (.int r))) (S : tg_S) (v1 : Int32) (h : f_X7_undo  S v1 = some (Sf, r)) : tg_G tauC x S 0 [(0, .ref (tg_ad x 0)), (1, .int v1)] [] := by
  unfold f_X7_undo at h
  refine tg_iload_n X dX7_undo_0 rfl 1 rfl ?_
  refine tg_iconst X dX7_undo_1 tk_i4 ?_
  obtain ⟨S1, r2, kS1, h⟩ := tg_bdE h
  refine tg_callS (As := [.int v1, .int 4]) (rest := []) X (cm_X7_isBelow _ _ _ _ _ kS1) yy_X7_isBelow wt_X7_isBelow wm_X7_75 ⟨rfl, rfl, Nat.le_of_ble_eq_true rfl, Nat.le_of_ble_eq_true rfl⟩ rfl rfl (Nat.le_of_ble_eq_true rfl) dX7_undo_2 rfl ?_
  refine tg_if_ne (tgt := 11) X dX7_undo_5 (by decide) (fun c3 => ?_) (fun c3 => ?_)
  · have h := tg_ifF c3 h
    refine tg_aload_n X dX7_undo_11 rfl 0 rfl ?_
    refine tg_getr X 0 rfl cl_X7 0 (by decide) rfl wf_X7_10 dX7_undo_12 ?_
    refine tg_iload_n X dX7_undo_15 rfl 1 rfl ?_
    obtain ⟨S4, r5, kS4, h⟩ := tg_bdE h
    refine tg_callV (As := [.int v1]) (rest := []) X 1 (cm_X6_length _ _ _ _ _ kS4) yy_X6_length wv_X6_length ws_X6_length wm_X7_91 rfl cl_X6.1 ⟨rfl, rfl, Nat.le_of_ble_eq_true rfl, Nat.le_of_ble_eq_true rfl⟩ rfl rfl (Nat.le_of_ble_eq_true rfl) dX7_undo_16 rfl ?_
    refine tg_if_ne (tgt := 25) X dX7_undo_19 (by decide) (fun c6 => ?_) (fun c6 => ?_)
    · have h := tg_ifF c6 h
      refine tg_aload_n X dX7_undo_25 rfl 0 rfl ?_
      refine tg_getr X 0 rfl cl_X7 0 (by decide) rfl wf_X7_10 dX7_undo_26 ?_
      refine tg_iload_n X dX7_undo_29 rfl 1 rfl ?_
      obtain ⟨S7, r8, kS7, h⟩ := tg_bdE h
      refine tg_callV (As := [.int v1]) (rest := []) X 1 (cm_X6_cutLast _ _ _ _ _ kS7) yy_X6_cutLast wv_X6_cutLast ws_X6_cutLast wm_X7_94 rfl cl_X6.1 ⟨rfl, rfl, Nat.le_of_ble_eq_true rfl, Nat.le_of_ble_eq_true rfl⟩ rfl rfl (Nat.le_of_ble_eq_true rfl) dX7_undo_30 rfl ?_
      refine tg_istore_n (lv2 := [(2, .int r8), (0, .ref (tg_ad x 0)), (1, .int v1)]) X dX7_undo_33 rfl (by decide) rfl ?_
      refine tg_aload_n X dX7_undo_34 rfl 1 rfl ?_
      obtain ⟨S9, kS9, h⟩ := tg_bvE h
      refine tg_callV (As := []) (rest := []) X 0 (cm_X7_playTexts _ _ _ _ _ kS9) yy_X7_playTexts wv_X7_playTexts ws_X7_playTexts wm_X7_72 rfl cl_X7.1 ⟨rfl, rfl, Nat.le_of_ble_eq_true rfl, Nat.le_of_ble_eq_true rfl⟩ rfl rfl (Nat.le_of_ble_eq_true rfl) dX7_undo_35 rfl ?_
      refine tg_iload_n X dX7_undo_38 rfl 0 rfl ?_
      exact tg_iret X h rfl dX7_undo_39
    · have h := tg_ifT c6 h
      refine tg_bipush X dX7_undo_22 tk_bm3 ?_
      exact tg_iret X h rfl dX7_undo_24
  · have h := tg_ifT c3 h
    refine tg_bipush X dX7_undo_8 tk_bm2 ?_
    exact tg_iret X h rfl dX7_undo_10
theorem cm_X7_undo (l : Launch) (D : va_G) (cy : Bool → ClassId) (ad : Nat → Nat) (tS : Nat) {S Sf : tg_S} {v1 : Int32} {r : Int32} (h : f_X7_undo  S v1 = some (Sf, r)) : tg_Met l yX7_undo cX7_undo 3 (some .int) zr_X7_undo tauC D cy ad tS S [.ref (ad 0), .int v1] Sf (some (.int r)) := tg_mk (by decide +kernel) trivial (Nat.le_of_ble_eq_true rfl) (fun p e s m args below meth c Q A X => w_X7_undo_0 X S v1 h)
-- X7_fault
def zr_X7_fault : Room := { frames := 2, cells := 0, slots := 0, locals := 46 }
theorem dX7_fault_0 : decode cX7_fault 0 = .ok (.iload_n 1, 1) := by decide +kernel
theorem dX7_fault_1 : decode cX7_fault 1 = .ok (.iconst 4, 1) := by decide +kernel
theorem dX7_fault_2 : decode cX7_fault 2 = .ok (.invokestatic 75, 3) := by decide +kernel
theorem dX7_fault_5 : decode cX7_fault 5 = .ok (.ifCond .eq 14, 3) := by decide +kernel
theorem dX7_fault_8 : decode cX7_fault 8 = .ok (.aload_n 0, 1) := by decide +kernel
theorem dX7_fault_9 : decode cX7_fault 9 = .ok (.getfield 10, 3) := by decide +kernel
theorem dX7_fault_12 : decode cX7_fault 12 = .ok (.iload_n 1, 1) := by decide +kernel
theorem dX7_fault_13 : decode cX7_fault 13 = .ok (.invokevirtual 97, 3) := by decide +kernel
theorem dX7_fault_16 : decode cX7_fault 16 = .ok (.goto 5, 3) := by decide +kernel
theorem dX7_fault_19 : decode cX7_fault 19 = .ok (.bipush (-2), 2) := by decide +kernel
theorem dX7_fault_21 : decode cX7_fault 21 = .ok (.ireturn, 1) := by decide +kernel
set_option maxRecDepth 20000 in
set_option maxHeartbeats 4000000 in
theorem w_X7_fault_0 {x : tg_X} {Sf : tg_S} {r : Int32} (X : tg_M tauC x cX7_fault 2 RX7 zr_X7_fault (some .int) Sf (some (.int r))) (S : tg_S) (v1 : Int32) (h : f_X7_fault  S v1 = some (Sf, r)) : tg_G tauC x S 0 [(0, .ref (tg_ad x 0)), (1, .int v1)] [] := by
  unfold f_X7_fault at h
  refine tg_iload_n X dX7_fault_0 rfl 1 rfl ?_
  refine tg_iconst X dX7_fault_1 tk_i4 ?_
  obtain ⟨S1, r2, kS1, h⟩ := tg_bdE h
  refine tg_callS (As := [.int v1, .int 4]) (rest := []) X (cm_X7_isBelow _ _ _ _ _ kS1) yy_X7_isBelow wt_X7_isBelow wm_X7_75 ⟨rfl, rfl, Nat.le_of_ble_eq_true rfl, Nat.le_of_ble_eq_true rfl⟩ rfl rfl (Nat.le_of_ble_eq_true rfl) dX7_fault_2 rfl ?_
  refine tg_if_eq (tgt := 19) X dX7_fault_5 (by decide) (fun c3 => ?_) (fun c3 => ?_)
  · have h := tg_ifT c3 h
    refine tg_bipush X dX7_fault_19 tk_bm2 ?_
    exact tg_iret X h rfl dX7_fault_21
  · have h := tg_ifF c3 h
    refine tg_aload_n X dX7_fault_8 rfl 0 rfl ?_
    refine tg_getr X 0 rfl cl_X7 0 (by decide) rfl wf_X7_10 dX7_fault_9 ?_
    refine tg_iload_n X dX7_fault_12 rfl 1 rfl ?_
    obtain ⟨S4, r5, kS4, h⟩ := tg_bdE h
    refine tg_callV (As := [.int v1]) (rest := []) X 1 (cm_X6_firstFault _ _ _ _ _ kS4) yy_X6_firstFault wv_X6_firstFault ws_X6_firstFault wm_X7_97 rfl cl_X6.1 ⟨rfl, rfl, Nat.le_of_ble_eq_true rfl, Nat.le_of_ble_eq_true rfl⟩ rfl rfl (Nat.le_of_ble_eq_true rfl) dX7_fault_13 rfl ?_
    refine tg_goto (tgt := 21) X dX7_fault_16 (by decide) ?_
    exact tg_iret X h rfl dX7_fault_21
theorem cm_X7_fault (l : Launch) (D : va_G) (cy : Bool → ClassId) (ad : Nat → Nat) (tS : Nat) {S Sf : tg_S} {v1 : Int32} {r : Int32} (h : f_X7_fault  S v1 = some (Sf, r)) : tg_Met l yX7_fault cX7_fault 2 (some .int) zr_X7_fault tauC D cy ad tS S [.ref (ad 0), .int v1] Sf (some (.int r)) := tg_mk (by decide +kernel) trivial (Nat.le_of_ble_eq_true rfl) (fun p e s m args below meth c Q A X => w_X7_fault_0 X S v1 h)
-- X7_isPuller
def zr_X7_isPuller : Room := { frames := 1, cells := 0, slots := 0, locals := 21 }
theorem dX7_isPuller_0 : decode cX7_isPuller 0 = .ok (.iload_n 1, 1) := by decide +kernel
theorem dX7_isPuller_1 : decode cX7_isPuller 1 = .ok (.bipush 16, 2) := by decide +kernel
theorem dX7_isPuller_3 : decode cX7_isPuller 3 = .ok (.invokestatic 75, 3) := by decide +kernel
theorem dX7_isPuller_6 : decode cX7_isPuller 6 = .ok (.ifCond .eq 19, 3) := by decide +kernel
theorem dX7_isPuller_9 : decode cX7_isPuller 9 = .ok (.aload_n 0, 1) := by decide +kernel
theorem dX7_isPuller_10 : decode cX7_isPuller 10 = .ok (.getfield 37, 3) := by decide +kernel
theorem dX7_isPuller_13 : decode cX7_isPuller 13 = .ok (.getfield 186, 3) := by decide +kernel
theorem dX7_isPuller_16 : decode cX7_isPuller 16 = .ok (.iload_n 1, 1) := by decide +kernel
theorem dX7_isPuller_17 : decode cX7_isPuller 17 = .ok (.baload, 1) := by decide +kernel
theorem dX7_isPuller_18 : decode cX7_isPuller 18 = .ok (.ifCond .eq 7, 3) := by decide +kernel
theorem dX7_isPuller_21 : decode cX7_isPuller 21 = .ok (.iconst 1, 1) := by decide +kernel
theorem dX7_isPuller_22 : decode cX7_isPuller 22 = .ok (.goto 4, 3) := by decide +kernel
theorem dX7_isPuller_25 : decode cX7_isPuller 25 = .ok (.iconst 0, 1) := by decide +kernel
theorem dX7_isPuller_26 : decode cX7_isPuller 26 = .ok (.ireturn, 1) := by decide +kernel
set_option maxRecDepth 20000 in
set_option maxHeartbeats 4000000 in
theorem w_X7_isPuller_0 {x : tg_X} {Sf : tg_S} {r : Int32} (X : tg_M tauC x cX7_isPuller 2 RX7 zr_X7_isPuller (some .boolean) Sf (some (.int r))) (S : tg_S) (v1 : Int32) (h : f_X7_isPuller  S v1 = some (Sf, r)) : tg_G tauC x S 0 [(0, .ref (tg_ad x 0)), (1, .int v1)] [] := by
  unfold f_X7_isPuller at h
  refine tg_iload_n X dX7_isPuller_0 rfl 1 rfl ?_
  refine tg_bipush X dX7_isPuller_1 tk_b16 ?_
  obtain ⟨S1, r2, kS1, h⟩ := tg_bdE h
  refine tg_callS (As := [.int v1, .int 16]) (rest := []) X (cm_X7_isBelow _ _ _ _ _ kS1) yy_X7_isBelow wt_X7_isBelow wm_X7_75 ⟨rfl, rfl, Nat.le_of_ble_eq_true rfl, Nat.le_of_ble_eq_true rfl⟩ rfl rfl (Nat.le_of_ble_eq_true rfl) dX7_isPuller_3 rfl ?_
  refine tg_if_eq (tgt := 25) X dX7_isPuller_6 (by decide) (fun c3 => ?_) (fun c3 => ?_)
  · have h := tg_ifT c3 h
    refine tg_iconst X dX7_isPuller_25 tk_i0 ?_
    exact tg_iret X h rfl dX7_isPuller_26
  · have h := tg_ifF c3 h
    refine tg_aload_n X dX7_isPuller_9 rfl 0 rfl ?_
    refine tg_getr X 0 rfl cl_X7 4 (by decide) rfl wf_X7_37 dX7_isPuller_10 ?_
    refine tg_getr X 11 rfl cl_X1 0 (by decide) rfl wf_X7_186 dX7_isPuller_13 ?_
    refine tg_iload_n X dX7_isPuller_16 rfl 1 rfl ?_
    obtain ⟨y4, ey4, by4, h⟩ := tg_rdE h
    refine tg_zald X 12 rfl ey4 by4 dX7_isPuller_17 ?_
    refine tg_if_eq (tgt := 25) X dX7_isPuller_18 (by decide) (fun c5 => ?_) (fun c5 => ?_)
    · have h := tg_ifT c5 h
      refine tg_iconst X dX7_isPuller_25 tk_i0 ?_
      exact tg_iret X h rfl dX7_isPuller_26
    · have h := tg_ifF c5 h
      refine tg_iconst X dX7_isPuller_21 tk_i1 ?_
      refine tg_goto (tgt := 26) X dX7_isPuller_22 (by decide) ?_
      exact tg_iret X h rfl dX7_isPuller_26
theorem cm_X7_isPuller (l : Launch) (D : va_G) (cy : Bool → ClassId) (ad : Nat → Nat) (tS : Nat) {S Sf : tg_S} {v1 : Int32} {r : Int32} (h : f_X7_isPuller  S v1 = some (Sf, r)) : tg_Met l yX7_isPuller cX7_isPuller 2 (some .boolean) zr_X7_isPuller tauC D cy ad tS S [.ref (ad 0), .int v1] Sf (some (.int r)) := tg_mk (by decide +kernel) trivial (Nat.le_of_ble_eq_true rfl) (fun p e s m args below meth c Q A X => w_X7_isPuller_0 X S v1 h)
-- X7_puller
def zr_X7_puller : Room := { frames := 2, cells := 0, slots := 0, locals := 42 }
theorem dX7_puller_0 : decode cX7_puller 0 = .ok (.aload_n 0, 1) := by decide +kernel
theorem dX7_puller_1 : decode cX7_puller 1 = .ok (.iload_n 1, 1) := by decide +kernel
theorem dX7_puller_2 : decode cX7_puller 2 = .ok (.invokevirtual 100, 3) := by decide +kernel
theorem dX7_puller_5 : decode cX7_puller 5 = .ok (.ifCond .eq 11, 3) := by decide +kernel
theorem dX7_puller_8 : decode cX7_puller 8 = .ok (.iload_n 2, 1) := by decide +kernel
theorem dX7_puller_9 : decode cX7_puller 9 = .ok (.iconst 3, 1) := by decide +kernel
theorem dX7_puller_10 : decode cX7_puller 10 = .ok (.invokestatic 75, 3) := by decide +kernel
theorem dX7_puller_13 : decode cX7_puller 13 = .ok (.ifCond .ne 6, 3) := by decide +kernel
theorem dX7_puller_16 : decode cX7_puller 16 = .ok (.bipush (-2), 2) := by decide +kernel
theorem dX7_puller_18 : decode cX7_puller 18 = .ok (.ireturn, 1) := by decide +kernel
theorem dX7_puller_19 : decode cX7_puller 19 = .ok (.iload_n 2, 1) := by decide +kernel
theorem dX7_puller_20 : decode cX7_puller 20 = .ok (.ifCond .ne 13, 3) := by decide +kernel
theorem dX7_puller_23 : decode cX7_puller 23 = .ok (.aload_n 0, 1) := by decide +kernel
theorem dX7_puller_24 : decode cX7_puller 24 = .ok (.getfield 37, 3) := by decide +kernel
theorem dX7_puller_27 : decode cX7_puller 27 = .ok (.getfield 103, 3) := by decide +kernel
theorem dX7_puller_30 : decode cX7_puller 30 = .ok (.iload_n 1, 1) := by decide +kernel
theorem dX7_puller_31 : decode cX7_puller 31 = .ok (.iaload, 1) := by decide +kernel
theorem dX7_puller_32 : decode cX7_puller 32 = .ok (.ireturn, 1) := by decide +kernel
theorem dX7_puller_33 : decode cX7_puller 33 = .ok (.iload_n 2, 1) := by decide +kernel
theorem dX7_puller_34 : decode cX7_puller 34 = .ok (.iconst 1, 1) := by decide +kernel
theorem dX7_puller_35 : decode cX7_puller 35 = .ok (.if_icmp .ne 15, 3) := by decide +kernel
theorem dX7_puller_38 : decode cX7_puller 38 = .ok (.aload_n 0, 1) := by decide +kernel
theorem dX7_puller_39 : decode cX7_puller 39 = .ok (.getfield 37, 3) := by decide +kernel
theorem dX7_puller_42 : decode cX7_puller 42 = .ok (.getfield 106, 3) := by decide +kernel
theorem dX7_puller_45 : decode cX7_puller 45 = .ok (.iload_n 1, 1) := by decide +kernel
theorem dX7_puller_46 : decode cX7_puller 46 = .ok (.iaload, 1) := by decide +kernel
theorem dX7_puller_47 : decode cX7_puller 47 = .ok (.goto 12, 3) := by decide +kernel
theorem dX7_puller_50 : decode cX7_puller 50 = .ok (.aload_n 0, 1) := by decide +kernel
theorem dX7_puller_51 : decode cX7_puller 51 = .ok (.getfield 37, 3) := by decide +kernel
theorem dX7_puller_54 : decode cX7_puller 54 = .ok (.getfield 109, 3) := by decide +kernel
theorem dX7_puller_57 : decode cX7_puller 57 = .ok (.iload_n 1, 1) := by decide +kernel
theorem dX7_puller_58 : decode cX7_puller 58 = .ok (.iaload, 1) := by decide +kernel
theorem dX7_puller_59 : decode cX7_puller 59 = .ok (.ireturn, 1) := by decide +kernel
set_option maxRecDepth 20000 in
set_option maxHeartbeats 4000000 in
theorem w_X7_puller_0 {x : tg_X} {Sf : tg_S} {r : Int32} (X : tg_M tauC x cX7_puller 3 RX7 zr_X7_puller (some .int) Sf (some (.int r))) (S : tg_S) (v1 : Int32) (v2 : Int32) (h : f_X7_puller  S v1 v2 = some (Sf, r)) : tg_G tauC x S 0 [(0, .ref (tg_ad x 0)), (1, .int v1), (2, .int v2)] [] := by
  unfold f_X7_puller at h
  refine tg_aload_n X dX7_puller_0 rfl 0 rfl ?_
  refine tg_iload_n X dX7_puller_1 rfl 1 rfl ?_
  obtain ⟨S1, r2, kS1, h⟩ := tg_bdE h
  refine tg_callV (As := [.int v1]) (rest := []) X 0 (cm_X7_isPuller _ _ _ _ _ kS1) yy_X7_isPuller wv_X7_isPuller ws_X7_isPuller wm_X7_100 rfl cl_X7.1 ⟨rfl, rfl, Nat.le_of_ble_eq_true rfl, Nat.le_of_ble_eq_true rfl⟩ rfl rfl (Nat.le_of_ble_eq_true rfl) dX7_puller_2 rfl ?_
  refine tg_if_eq (tgt := 16) X dX7_puller_5 (by decide) (fun c3 => ?_) (fun c3 => ?_)
  · have h := tg_ifT c3 h
    refine tg_bipush X dX7_puller_16 tk_bm2 ?_
    exact tg_iret X h rfl dX7_puller_18
  · have h := tg_ifF c3 h
    refine tg_iload_n X dX7_puller_8 rfl 2 rfl ?_
    refine tg_iconst X dX7_puller_9 tk_i3 ?_
    obtain ⟨S4, r5, kS4, h⟩ := tg_bdE h
    refine tg_callS (As := [.int v2, .int 3]) (rest := []) X (cm_X7_isBelow _ _ _ _ _ kS4) yy_X7_isBelow wt_X7_isBelow wm_X7_75 ⟨rfl, rfl, Nat.le_of_ble_eq_true rfl, Nat.le_of_ble_eq_true rfl⟩ rfl rfl (Nat.le_of_ble_eq_true rfl) dX7_puller_10 rfl ?_
    refine tg_if_ne (tgt := 19) X dX7_puller_13 (by decide) (fun c6 => ?_) (fun c6 => ?_)
    · have h := tg_ifF c6 h
      refine tg_iload_n X dX7_puller_19 rfl 2 rfl ?_
      refine tg_if_ne (tgt := 33) X dX7_puller_20 (by decide) (fun c7 => ?_) (fun c7 => ?_)
      · have h := tg_ifF c7 h
        refine tg_iload_n X dX7_puller_33 rfl 2 rfl ?_
        refine tg_iconst X dX7_puller_34 tk_i1 ?_
        refine tg_icmp_ne (tgt := 50) X dX7_puller_35 (by decide) (fun c8 => ?_) (fun c8 => ?_)
        · have h := tg_ifF c8 h
          refine tg_aload_n X dX7_puller_50 rfl 0 rfl ?_
          refine tg_getr X 0 rfl cl_X7 4 (by decide) rfl wf_X7_37 dX7_puller_51 ?_
          refine tg_getr X 11 rfl cl_X1 3 (by decide) rfl wf_X7_109 dX7_puller_54 ?_
          refine tg_iload_n X dX7_puller_57 rfl 1 rfl ?_
          obtain ⟨y9, ey9, by9, h⟩ := tg_rdE h
          refine tg_iald X 15 rfl ey9 by9 dX7_puller_58 ?_
          exact tg_iret X h rfl dX7_puller_59
        · have h := tg_ifT c8 h
          refine tg_aload_n X dX7_puller_38 rfl 0 rfl ?_
          refine tg_getr X 0 rfl cl_X7 4 (by decide) rfl wf_X7_37 dX7_puller_39 ?_
          refine tg_getr X 11 rfl cl_X1 2 (by decide) rfl wf_X7_106 dX7_puller_42 ?_
          refine tg_iload_n X dX7_puller_45 rfl 1 rfl ?_
          obtain ⟨y10, ey10, by10, h⟩ := tg_rdE h
          refine tg_iald X 14 rfl ey10 by10 dX7_puller_46 ?_
          refine tg_goto (tgt := 59) X dX7_puller_47 (by decide) ?_
          exact tg_iret X h rfl dX7_puller_59
      · have h := tg_ifT c7 h
        refine tg_aload_n X dX7_puller_23 rfl 0 rfl ?_
        refine tg_getr X 0 rfl cl_X7 4 (by decide) rfl wf_X7_37 dX7_puller_24 ?_
        refine tg_getr X 11 rfl cl_X1 1 (by decide) rfl wf_X7_103 dX7_puller_27 ?_
        refine tg_iload_n X dX7_puller_30 rfl 1 rfl ?_
        obtain ⟨y11, ey11, by11, h⟩ := tg_rdE h
        refine tg_iald X 13 rfl ey11 by11 dX7_puller_31 ?_
        exact tg_iret X h rfl dX7_puller_32
    · have h := tg_ifT c6 h
      refine tg_bipush X dX7_puller_16 tk_bm2 ?_
      exact tg_iret X h rfl dX7_puller_18
theorem cm_X7_puller (l : Launch) (D : va_G) (cy : Bool → ClassId) (ad : Nat → Nat) (tS : Nat) {S Sf : tg_S} {v1 : Int32} {v2 : Int32} {r : Int32} (h : f_X7_puller  S v1 v2 = some (Sf, r)) : tg_Met l yX7_puller cX7_puller 3 (some .int) zr_X7_puller tauC D cy ad tS S [.ref (ad 0), .int v1, .int v2] Sf (some (.int r)) := tg_mk (by decide +kernel) trivial (Nat.le_of_ble_eq_true rfl) (fun p e s m args below meth c Q A X => w_X7_puller_0 X S v1 v2 h)
-- X7_call
def zr_X7_call : Room := { frames := 1, cells := 0, slots := 0, locals := 21 }
theorem dX7_call_0 : decode cX7_call 0 = .ok (.iload_n 1, 1) := by decide +kernel
theorem dX7_call_1 : decode cX7_call 1 = .ok (.iconst 2, 1) := by decide +kernel
theorem dX7_call_2 : decode cX7_call 2 = .ok (.invokestatic 75, 3) := by decide +kernel
theorem dX7_call_5 : decode cX7_call 5 = .ok (.ifCond .eq 12, 3) := by decide +kernel
theorem dX7_call_8 : decode cX7_call 8 = .ok (.iload_n 2, 1) := by decide +kernel
theorem dX7_call_9 : decode cX7_call 9 = .ok (.bipush 24, 2) := by decide +kernel
theorem dX7_call_11 : decode cX7_call 11 = .ok (.invokestatic 75, 3) := by decide +kernel
theorem dX7_call_14 : decode cX7_call 14 = .ok (.ifCond .ne 6, 3) := by decide +kernel
theorem dX7_call_17 : decode cX7_call 17 = .ok (.bipush (-2), 2) := by decide +kernel
theorem dX7_call_19 : decode cX7_call 19 = .ok (.ireturn, 1) := by decide +kernel
theorem dX7_call_20 : decode cX7_call 20 = .ok (.aload_n 0, 1) := by decide +kernel
theorem dX7_call_21 : decode cX7_call 21 = .ok (.getfield 37, 3) := by decide +kernel
theorem dX7_call_24 : decode cX7_call 24 = .ok (.getfield 112, 3) := by decide +kernel
theorem dX7_call_27 : decode cX7_call 27 = .ok (.iload_n 1, 1) := by decide +kernel
theorem dX7_call_28 : decode cX7_call 28 = .ok (.bipush 24, 2) := by decide +kernel
theorem dX7_call_30 : decode cX7_call 30 = .ok (.imul, 1) := by decide +kernel
theorem dX7_call_31 : decode cX7_call 31 = .ok (.iload_n 2, 1) := by decide +kernel
theorem dX7_call_32 : decode cX7_call 32 = .ok (.iadd, 1) := by decide +kernel
theorem dX7_call_33 : decode cX7_call 33 = .ok (.iaload, 1) := by decide +kernel
theorem dX7_call_34 : decode cX7_call 34 = .ok (.ireturn, 1) := by decide +kernel
set_option maxRecDepth 20000 in
set_option maxHeartbeats 4000000 in
theorem w_X7_call_0 {x : tg_X} {Sf : tg_S} {r : Int32} (X : tg_M tauC x cX7_call 3 RX7 zr_X7_call (some .int) Sf (some (.int r))) (S : tg_S) (v1 : Int32) (v2 : Int32) (h : f_X7_call  S v1 v2 = some (Sf, r)) : tg_G tauC x S 0 [(0, .ref (tg_ad x 0)), (1, .int v1), (2, .int v2)] [] := by
  unfold f_X7_call at h
  refine tg_iload_n X dX7_call_0 rfl 1 rfl ?_
  refine tg_iconst X dX7_call_1 tk_i2 ?_
  obtain ⟨S1, r2, kS1, h⟩ := tg_bdE h
  refine tg_callS (As := [.int v1, .int 2]) (rest := []) X (cm_X7_isBelow _ _ _ _ _ kS1) yy_X7_isBelow wt_X7_isBelow wm_X7_75 ⟨rfl, rfl, Nat.le_of_ble_eq_true rfl, Nat.le_of_ble_eq_true rfl⟩ rfl rfl (Nat.le_of_ble_eq_true rfl) dX7_call_2 rfl ?_
  refine tg_if_eq (tgt := 17) X dX7_call_5 (by decide) (fun c3 => ?_) (fun c3 => ?_)
  · have h := tg_ifT c3 h
    refine tg_bipush X dX7_call_17 tk_bm2 ?_
    exact tg_iret X h rfl dX7_call_19
  · have h := tg_ifF c3 h
    refine tg_iload_n X dX7_call_8 rfl 2 rfl ?_
    refine tg_bipush X dX7_call_9 tk_b24 ?_
    obtain ⟨S4, r5, kS4, h⟩ := tg_bdE h
    refine tg_callS (As := [.int v2, .int 24]) (rest := []) X (cm_X7_isBelow _ _ _ _ _ kS4) yy_X7_isBelow wt_X7_isBelow wm_X7_75 ⟨rfl, rfl, Nat.le_of_ble_eq_true rfl, Nat.le_of_ble_eq_true rfl⟩ rfl rfl (Nat.le_of_ble_eq_true rfl) dX7_call_11 rfl ?_
    refine tg_if_ne (tgt := 20) X dX7_call_14 (by decide) (fun c6 => ?_) (fun c6 => ?_)
    · have h := tg_ifF c6 h
      refine tg_aload_n X dX7_call_20 rfl 0 rfl ?_
      refine tg_getr X 0 rfl cl_X7 4 (by decide) rfl wf_X7_37 dX7_call_21 ?_
      refine tg_getr X 11 rfl cl_X1 6 (by decide) rfl wf_X7_112 dX7_call_24 ?_
      refine tg_iload_n X dX7_call_27 rfl 1 rfl ?_
      refine tg_bipush X dX7_call_28 tk_b24 ?_
      refine tg_imul X dX7_call_30 ?_
      refine tg_iload_n X dX7_call_31 rfl 2 rfl ?_
      refine tg_iadd X dX7_call_32 ?_
      obtain ⟨y7, ey7, by7, h⟩ := tg_rdE h
      refine tg_iald X 18 rfl ey7 by7 dX7_call_33 ?_
      exact tg_iret X h rfl dX7_call_34
    · have h := tg_ifT c6 h
      refine tg_bipush X dX7_call_17 tk_bm2 ?_
      exact tg_iret X h rfl dX7_call_19
theorem cm_X7_call (l : Launch) (D : va_G) (cy : Bool → ClassId) (ad : Nat → Nat) (tS : Nat) {S Sf : tg_S} {v1 : Int32} {v2 : Int32} {r : Int32} (h : f_X7_call  S v1 v2 = some (Sf, r)) : tg_Met l yX7_call cX7_call 3 (some .int) zr_X7_call tauC D cy ad tS S [.ref (ad 0), .int v1, .int v2] Sf (some (.int r)) := tg_mk (by decide +kernel) trivial (Nat.le_of_ble_eq_true rfl) (fun p e s m args below meth c Q A X => w_X7_call_0 X S v1 v2 h)
-- X7_mud
def zr_X7_mud : Room := { frames := 5, cells := 0, slots := 0, locals := 116 }
theorem dX7_mud_0 : decode cX7_mud 0 = .ok (.iload_n 1, 1) := by decide +kernel
theorem dX7_mud_1 : decode cX7_mud 1 = .ok (.bipush 10, 2) := by decide +kernel
theorem dX7_mud_3 : decode cX7_mud 3 = .ok (.invokestatic 75, 3) := by decide +kernel
theorem dX7_mud_6 : decode cX7_mud 6 = .ok (.ifCond .ne 6, 3) := by decide +kernel
theorem dX7_mud_9 : decode cX7_mud 9 = .ok (.bipush (-2), 2) := by decide +kernel
theorem dX7_mud_11 : decode cX7_mud 11 = .ok (.ireturn, 1) := by decide +kernel
theorem dX7_mud_12 : decode cX7_mud 12 = .ok (.aload_n 0, 1) := by decide +kernel
theorem dX7_mud_13 : decode cX7_mud 13 = .ok (.getfield 37, 3) := by decide +kernel
theorem dX7_mud_16 : decode cX7_mud 16 = .ok (.getfield 115, 3) := by decide +kernel
theorem dX7_mud_19 : decode cX7_mud 19 = .ok (.istore_n 2, 1) := by decide +kernel
theorem dX7_mud_20 : decode cX7_mud 20 = .ok (.aload_n 0, 1) := by decide +kernel
theorem dX7_mud_21 : decode cX7_mud 21 = .ok (.getfield 37, 3) := by decide +kernel
theorem dX7_mud_24 : decode cX7_mud 24 = .ok (.iload_n 1, 1) := by decide +kernel
theorem dX7_mud_25 : decode cX7_mud 25 = .ok (.putfield 115, 3) := by decide +kernel
theorem dX7_mud_28 : decode cX7_mud 28 = .ok (.aload_n 0, 1) := by decide +kernel
theorem dX7_mud_29 : decode cX7_mud 29 = .ok (.invokevirtual 118, 3) := by decide +kernel
theorem dX7_mud_32 : decode cX7_mud 32 = .ok (.iload_n 2, 1) := by decide +kernel
theorem dX7_mud_33 : decode cX7_mud 33 = .ok (.ireturn, 1) := by decide +kernel
set_option maxRecDepth 20000 in
set_option maxHeartbeats 4000000 in
theorem w_X7_mud_0 {x : tg_X} {Sf : tg_S} {r : Int32} (X : tg_M tauC x cX7_mud 3 RX7 zr_X7_mud (some .int) Sf (some (.int r))) (S : tg_S) (v1 : Int32) (h : f_X7_mud  S v1 = some (Sf, r)) : tg_G tauC x S 0 [(0, .ref (tg_ad x 0)), (1, .int v1)] [] := by
  unfold f_X7_mud at h
  refine tg_iload_n X dX7_mud_0 rfl 1 rfl ?_
  refine tg_bipush X dX7_mud_1 tk_b10 ?_
  obtain ⟨S1, r2, kS1, h⟩ := tg_bdE h
  refine tg_callS (As := [.int v1, .int 10]) (rest := []) X (cm_X7_isBelow _ _ _ _ _ kS1) yy_X7_isBelow wt_X7_isBelow wm_X7_75 ⟨rfl, rfl, Nat.le_of_ble_eq_true rfl, Nat.le_of_ble_eq_true rfl⟩ rfl rfl (Nat.le_of_ble_eq_true rfl) dX7_mud_3 rfl ?_
  refine tg_if_ne (tgt := 12) X dX7_mud_6 (by decide) (fun c3 => ?_) (fun c3 => ?_)
  · have h := tg_ifF c3 h
    refine tg_aload_n X dX7_mud_12 rfl 0 rfl ?_
    refine tg_getr X 0 rfl cl_X7 4 (by decide) rfl wf_X7_37 dX7_mud_13 ?_
    refine tg_geti X 11 rfl cl_X1 8 (by decide) rfl wf_X7_115 dX7_mud_16 ?_
    refine tg_topi (fun y4 ey4 => ?_)
    have h := tg_nmE ey4 h
    refine tg_istore_n (lv2 := [(2, .int y4), (0, .ref (tg_ad x 0)), (1, .int v1)]) X dX7_mud_19 rfl (by decide) rfl ?_
    refine tg_aload_n X dX7_mud_20 rfl 1 rfl ?_
    refine tg_getr X 0 rfl cl_X7 4 (by decide) rfl wf_X7_37 dX7_mud_21 ?_
    refine tg_iload_n X dX7_mud_24 rfl 2 rfl ?_
    obtain ⟨S5, eS5, h⟩ := tg_pfE h
    refine tg_puti X 11 rfl cl_X1 8 (by decide) rfl wf_X7_115 rfl rfl rfl dX7_mud_25 eS5 ?_
    refine tg_aload_n X dX7_mud_28 rfl 1 rfl ?_
    obtain ⟨S6, kS6, h⟩ := tg_bvE h
    refine tg_callV (As := []) (rest := []) X 0 (cm_X7_playTold _ _ _ _ _ kS6) yy_X7_playTold wv_X7_playTold ws_X7_playTold wm_X7_118 rfl cl_X7.1 ⟨rfl, rfl, Nat.le_of_ble_eq_true rfl, Nat.le_of_ble_eq_true rfl⟩ rfl rfl (Nat.le_of_ble_eq_true rfl) dX7_mud_29 rfl ?_
    refine tg_iload_n X dX7_mud_32 rfl 0 rfl ?_
    exact tg_iret X h rfl dX7_mud_33
  · have h := tg_ifT c3 h
    refine tg_bipush X dX7_mud_9 tk_bm2 ?_
    exact tg_iret X h rfl dX7_mud_11
theorem cm_X7_mud (l : Launch) (D : va_G) (cy : Bool → ClassId) (ad : Nat → Nat) (tS : Nat) {S Sf : tg_S} {v1 : Int32} {r : Int32} (h : f_X7_mud  S v1 = some (Sf, r)) : tg_Met l yX7_mud cX7_mud 3 (some .int) zr_X7_mud tauC D cy ad tS S [.ref (ad 0), .int v1] Sf (some (.int r)) := tg_mk (by decide +kernel) trivial (Nat.le_of_ble_eq_true rfl) (fun p e s m args below meth c Q A X => w_X7_mud_0 X S v1 h)
-- X3_append
def zr_X3_append : Room := { frames := 0, cells := 0, slots := 0, locals := 0 }
theorem dX3_append_0 : decode cX3_append 0 = .ok (.aload_n 0, 1) := by decide +kernel
theorem dX3_append_1 : decode cX3_append 1 = .ok (.getfield 9, 3) := by decide +kernel
theorem dX3_append_4 : decode cX3_append 4 = .ok (.aload_n 0, 1) := by decide +kernel
theorem dX3_append_5 : decode cX3_append 5 = .ok (.getfield 21, 3) := by decide +kernel
theorem dX3_append_8 : decode cX3_append 8 = .ok (.iload_n 1, 1) := by decide +kernel
theorem dX3_append_9 : decode cX3_append 9 = .ok (.iastore, 1) := by decide +kernel
theorem dX3_append_10 : decode cX3_append 10 = .ok (.aload_n 0, 1) := by decide +kernel
theorem dX3_append_11 : decode cX3_append 11 = .ok (.getfield 15, 3) := by decide +kernel
theorem dX3_append_14 : decode cX3_append 14 = .ok (.aload_n 0, 1) := by decide +kernel
theorem dX3_append_15 : decode cX3_append 15 = .ok (.getfield 21, 3) := by decide +kernel
theorem dX3_append_18 : decode cX3_append 18 = .ok (.iload_n 2, 1) := by decide +kernel
theorem dX3_append_19 : decode cX3_append 19 = .ok (.iastore, 1) := by decide +kernel
theorem dX3_append_20 : decode cX3_append 20 = .ok (.aload_n 0, 1) := by decide +kernel
theorem dX3_append_21 : decode cX3_append 21 = .ok (.getfield 18, 3) := by decide +kernel
theorem dX3_append_24 : decode cX3_append 24 = .ok (.aload_n 0, 1) := by decide +kernel
theorem dX3_append_25 : decode cX3_append 25 = .ok (.getfield 21, 3) := by decide +kernel
theorem dX3_append_28 : decode cX3_append 28 = .ok (.iload_n 3, 1) := by decide +kernel
theorem dX3_append_29 : decode cX3_append 29 = .ok (.iastore, 1) := by decide +kernel
theorem dX3_append_30 : decode cX3_append 30 = .ok (.aload_n 0, 1) := by decide +kernel
theorem dX3_append_31 : decode cX3_append 31 = .ok (.dup, 1) := by decide +kernel
theorem dX3_append_32 : decode cX3_append 32 = .ok (.getfield 21, 3) := by decide +kernel
theorem dX3_append_35 : decode cX3_append 35 = .ok (.iconst 1, 1) := by decide +kernel
theorem dX3_append_36 : decode cX3_append 36 = .ok (.iadd, 1) := by decide +kernel
theorem dX3_append_37 : decode cX3_append 37 = .ok (.putfield 21, 3) := by decide +kernel
theorem dX3_append_40 : decode cX3_append 40 = .ok (.aload_n 0, 1) := by decide +kernel
theorem dX3_append_41 : decode cX3_append 41 = .ok (.getfield 21, 3) := by decide +kernel
theorem dX3_append_44 : decode cX3_append 44 = .ok (.ireturn, 1) := by decide +kernel
set_option maxRecDepth 20000 in
set_option maxHeartbeats 4000000 in
theorem w_X3_append_0 {x : tg_X} {Sf : tg_S} {r : Int32} (X : tg_M tauC x cX3_append 4 RX3 zr_X3_append (some .int) Sf (some (.int r))) (S : tg_S) (v1 : Int32) (v2 : Int32) (v3 : Int32) (h : f_X3_append  S v1 v2 v3 = some (Sf, r)) : tg_G tauC x S 0 [(0, .ref (tg_ad x 19)), (1, .int v1), (2, .int v2), (3, .int v3)] [] := by
  unfold f_X3_append at h
  refine tg_aload_n X dX3_append_0 rfl 0 rfl ?_
  refine tg_getr X 19 rfl cl_X3 0 (by decide) rfl wf_X3_9 dX3_append_1 ?_
  refine tg_aload_n X dX3_append_4 rfl 0 rfl ?_
  refine tg_geti X 19 rfl cl_X3 3 (by decide) rfl wf_X3_21 dX3_append_5 ?_
  refine tg_iload_n X dX3_append_8 rfl 1 rfl ?_
  obtain ⟨S1, eS1, bS1, h⟩ := tg_wrE h
  refine tg_iast X 20 rfl bS1 dX3_append_9 eS1 ?_
  refine tg_aload_n X dX3_append_10 rfl 0 rfl ?_
  refine tg_getr X 19 rfl cl_X3 1 (by decide) rfl wf_X3_15 dX3_append_11 ?_
  refine tg_aload_n X dX3_append_14 rfl 0 rfl ?_
  refine tg_geti X 19 rfl cl_X3 3 (by decide) rfl wf_X3_21 dX3_append_15 ?_
  refine tg_iload_n X dX3_append_18 rfl 2 rfl ?_
  obtain ⟨S2, eS2, bS2, h⟩ := tg_wrE h
  refine tg_iast X 21 rfl bS2 dX3_append_19 eS2 ?_
  refine tg_aload_n X dX3_append_20 rfl 0 rfl ?_
  refine tg_getr X 19 rfl cl_X3 2 (by decide) rfl wf_X3_18 dX3_append_21 ?_
  refine tg_aload_n X dX3_append_24 rfl 0 rfl ?_
  refine tg_geti X 19 rfl cl_X3 3 (by decide) rfl wf_X3_21 dX3_append_25 ?_
  refine tg_iload_n X dX3_append_28 rfl 3 rfl ?_
  obtain ⟨S3, eS3, bS3, h⟩ := tg_wrE h
  refine tg_iast X 22 rfl bS3 dX3_append_29 eS3 ?_
  refine tg_aload_n X dX3_append_30 rfl 0 rfl ?_
  refine tg_dup X dX3_append_31 rfl ?_
  refine tg_geti X 19 rfl cl_X3 3 (by decide) rfl wf_X3_21 dX3_append_32 ?_
  refine tg_iconst X dX3_append_35 tk_i1 ?_
  refine tg_iadd X dX3_append_36 ?_
  obtain ⟨S4, eS4, h⟩ := tg_pfE h
  refine tg_puti X 19 rfl cl_X3 3 (by decide) rfl wf_X3_21 rfl rfl rfl dX3_append_37 eS4 ?_
  refine tg_aload_n X dX3_append_40 rfl 0 rfl ?_
  refine tg_geti X 19 rfl cl_X3 3 (by decide) rfl wf_X3_21 dX3_append_41 ?_
  exact tg_iret X h rfl dX3_append_44
theorem cm_X3_append (l : Launch) (D : va_G) (cy : Bool → ClassId) (ad : Nat → Nat) (tS : Nat) {S Sf : tg_S} {v1 : Int32} {v2 : Int32} {v3 : Int32} {r : Int32} (h : f_X3_append  S v1 v2 v3 = some (Sf, r)) : tg_Met l yX3_append cX3_append 4 (some .int) zr_X3_append tauC D cy ad tS S [.ref (ad 19), .int v1, .int v2, .int v3] Sf (some (.int r)) := tg_mk (by decide +kernel) trivial (Nat.le_of_ble_eq_true rfl) (fun p e s m args below meth c Q A X => w_X3_append_0 X S v1 v2 v3 h)
-- X3_mayBe
def zr_X3_mayBe : Room := { frames := 1, cells := 0, slots := 0, locals := 21 }
theorem dX3_mayBe_0 : decode cX3_mayBe 0 = .ok (.iload_n 0, 1) := by decide +kernel
theorem dX3_mayBe_1 : decode cX3_mayBe 1 = .ok (.iconst 3, 1) := by decide +kernel
theorem dX3_mayBe_2 : decode cX3_mayBe 2 = .ok (.invokestatic 28, 3) := by decide +kernel
theorem dX3_mayBe_5 : decode cX3_mayBe 5 = .ok (.ifCond .eq 25, 3) := by decide +kernel
theorem dX3_mayBe_8 : decode cX3_mayBe 8 = .ok (.iload_n 1, 1) := by decide +kernel
theorem dX3_mayBe_9 : decode cX3_mayBe 9 = .ok (.bipush 24, 2) := by decide +kernel
theorem dX3_mayBe_11 : decode cX3_mayBe 11 = .ok (.invokestatic 28, 3) := by decide +kernel
theorem dX3_mayBe_14 : decode cX3_mayBe 14 = .ok (.ifCond .eq 16, 3) := by decide +kernel
theorem dX3_mayBe_17 : decode cX3_mayBe 17 = .ok (.iload_n 2, 1) := by decide +kernel
theorem dX3_mayBe_18 : decode cX3_mayBe 18 = .ok (.bipush 16, 2) := by decide +kernel
theorem dX3_mayBe_20 : decode cX3_mayBe 20 = .ok (.invokestatic 28, 3) := by decide +kernel
theorem dX3_mayBe_23 : decode cX3_mayBe 23 = .ok (.ifCond .eq 7, 3) := by decide +kernel
theorem dX3_mayBe_26 : decode cX3_mayBe 26 = .ok (.iconst 1, 1) := by decide +kernel
theorem dX3_mayBe_27 : decode cX3_mayBe 27 = .ok (.goto 4, 3) := by decide +kernel
theorem dX3_mayBe_30 : decode cX3_mayBe 30 = .ok (.iconst 0, 1) := by decide +kernel
theorem dX3_mayBe_31 : decode cX3_mayBe 31 = .ok (.ireturn, 1) := by decide +kernel
set_option maxRecDepth 20000 in
set_option maxHeartbeats 4000000 in
theorem w_X3_mayBe_0 {x : tg_X} {Sf : tg_S} {r : Int32} (X : tg_M tauC x cX3_mayBe 3 RX3 zr_X3_mayBe (some .boolean) Sf (some (.int r))) (S : tg_S) (v0 : Int32) (v1 : Int32) (v2 : Int32) (h : f_X3_mayBe  S v0 v1 v2 = some (Sf, r)) : tg_G tauC x S 0 [(0, .int v0), (1, .int v1), (2, .int v2)] [] := by
  unfold f_X3_mayBe at h
  refine tg_iload_n X dX3_mayBe_0 rfl 0 rfl ?_
  refine tg_iconst X dX3_mayBe_1 tk_i3 ?_
  obtain ⟨S1, r2, kS1, h⟩ := tg_bdE h
  refine tg_callSN (As := [.int v0, .int 3]) (rest := []) X (cm_X7_isBelow _ _ _ _ _ kS1) yy_X7_isBelow wt_X7_isBelow (fun h => h.1) ⟨rfl, rfl, Nat.le_of_ble_eq_true rfl, Nat.le_of_ble_eq_true rfl⟩ rfl rfl (Nat.le_of_ble_eq_true rfl) dX3_mayBe_2 rfl ?_
  refine tg_if_eq (tgt := 30) X dX3_mayBe_5 (by decide) (fun c3 => ?_) (fun c3 => ?_)
  · have h := tg_ifT c3 h
    refine tg_iconst X dX3_mayBe_30 tk_i0 ?_
    exact tg_iret X h rfl dX3_mayBe_31
  · have h := tg_ifF c3 h
    refine tg_iload_n X dX3_mayBe_8 rfl 1 rfl ?_
    refine tg_bipush X dX3_mayBe_9 tk_b24 ?_
    obtain ⟨S4, r5, kS4, h⟩ := tg_bdE h
    refine tg_callSN (As := [.int v1, .int 24]) (rest := []) X (cm_X7_isBelow _ _ _ _ _ kS4) yy_X7_isBelow wt_X7_isBelow (fun h => h.1) ⟨rfl, rfl, Nat.le_of_ble_eq_true rfl, Nat.le_of_ble_eq_true rfl⟩ rfl rfl (Nat.le_of_ble_eq_true rfl) dX3_mayBe_11 rfl ?_
    refine tg_if_eq (tgt := 30) X dX3_mayBe_14 (by decide) (fun c6 => ?_) (fun c6 => ?_)
    · have h := tg_ifT c6 h
      refine tg_iconst X dX3_mayBe_30 tk_i0 ?_
      exact tg_iret X h rfl dX3_mayBe_31
    · have h := tg_ifF c6 h
      refine tg_iload_n X dX3_mayBe_17 rfl 2 rfl ?_
      refine tg_bipush X dX3_mayBe_18 tk_b16 ?_
      obtain ⟨S7, r8, kS7, h⟩ := tg_bdE h
      refine tg_callSN (As := [.int v2, .int 16]) (rest := []) X (cm_X7_isBelow _ _ _ _ _ kS7) yy_X7_isBelow wt_X7_isBelow (fun h => h.1) ⟨rfl, rfl, Nat.le_of_ble_eq_true rfl, Nat.le_of_ble_eq_true rfl⟩ rfl rfl (Nat.le_of_ble_eq_true rfl) dX3_mayBe_20 rfl ?_
      refine tg_if_eq (tgt := 30) X dX3_mayBe_23 (by decide) (fun c9 => ?_) (fun c9 => ?_)
      · have h := tg_ifT c9 h
        refine tg_iconst X dX3_mayBe_30 tk_i0 ?_
        exact tg_iret X h rfl dX3_mayBe_31
      · have h := tg_ifF c9 h
        refine tg_iconst X dX3_mayBe_26 tk_i1 ?_
        refine tg_goto (tgt := 31) X dX3_mayBe_27 (by decide) ?_
        exact tg_iret X h rfl dX3_mayBe_31
theorem cm_X3_mayBe (l : Launch) (D : va_G) (cy : Bool → ClassId) (ad : Nat → Nat) (tS : Nat) {S Sf : tg_S} {v0 : Int32} {v1 : Int32} {v2 : Int32} {r : Int32} (h : f_X3_mayBe  S v0 v1 v2 = some (Sf, r)) : tg_Met l yX3_mayBe cX3_mayBe 3 (some .boolean) zr_X3_mayBe tauC D cy ad tS S [.int v0, .int v1, .int v2] Sf (some (.int r)) := tg_mk (by decide +kernel) trivial (Nat.le_of_ble_eq_true rfl) (fun p e s m args below meth c Q A X => w_X3_mayBe_0 X S v0 v1 v2 h)
-- X7_event
def zr_X7_event : Room := { frames := 5, cells := 0, slots := 0, locals := 116 }
theorem dX7_event_0 : decode cX7_event 0 = .ok (.iload_n 1, 1) := by decide +kernel
theorem dX7_event_1 : decode cX7_event 1 = .ok (.iload_n 2, 1) := by decide +kernel
theorem dX7_event_2 : decode cX7_event 2 = .ok (.iload_n 3, 1) := by decide +kernel
theorem dX7_event_3 : decode cX7_event 3 = .ok (.invokestatic 121, 3) := by decide +kernel
theorem dX7_event_6 : decode cX7_event 6 = .ok (.ifCond .ne 6, 3) := by decide +kernel
theorem dX7_event_9 : decode cX7_event 9 = .ok (.bipush (-2), 2) := by decide +kernel
theorem dX7_event_11 : decode cX7_event 11 = .ok (.ireturn, 1) := by decide +kernel
theorem dX7_event_12 : decode cX7_event 12 = .ok (.aload_n 0, 1) := by decide +kernel
theorem dX7_event_13 : decode cX7_event 13 = .ok (.getfield 37, 3) := by decide +kernel
theorem dX7_event_16 : decode cX7_event 16 = .ok (.getfield 127, 3) := by decide +kernel
theorem dX7_event_19 : decode cX7_event 19 = .ok (.getfield 131, 3) := by decide +kernel
theorem dX7_event_22 : decode cX7_event 22 = .ok (.bipush 8, 2) := by decide +kernel
theorem dX7_event_24 : decode cX7_event 24 = .ok (.if_icmp .ne 6, 3) := by decide +kernel
theorem dX7_event_27 : decode cX7_event 27 = .ok (.bipush (-4), 2) := by decide +kernel
theorem dX7_event_29 : decode cX7_event 29 = .ok (.ireturn, 1) := by decide +kernel
theorem dX7_event_30 : decode cX7_event 30 = .ok (.aload_n 0, 1) := by decide +kernel
theorem dX7_event_31 : decode cX7_event 31 = .ok (.getfield 37, 3) := by decide +kernel
theorem dX7_event_34 : decode cX7_event 34 = .ok (.getfield 127, 3) := by decide +kernel
theorem dX7_event_37 : decode cX7_event 37 = .ok (.iload_n 1, 1) := by decide +kernel
theorem dX7_event_38 : decode cX7_event 38 = .ok (.iload_n 2, 1) := by decide +kernel
theorem dX7_event_39 : decode cX7_event 39 = .ok (.iload_n 3, 1) := by decide +kernel
theorem dX7_event_40 : decode cX7_event 40 = .ok (.invokevirtual 134, 3) := by decide +kernel
theorem dX7_event_43 : decode cX7_event 43 = .ok (.istore 4, 2) := by decide +kernel
theorem dX7_event_45 : decode cX7_event 45 = .ok (.aload_n 0, 1) := by decide +kernel
theorem dX7_event_46 : decode cX7_event 46 = .ok (.invokevirtual 118, 3) := by decide +kernel
theorem dX7_event_49 : decode cX7_event 49 = .ok (.iload 4, 2) := by decide +kernel
theorem dX7_event_51 : decode cX7_event 51 = .ok (.ireturn, 1) := by decide +kernel
set_option maxRecDepth 20000 in
set_option maxHeartbeats 4000000 in
theorem w_X7_event_0 {x : tg_X} {Sf : tg_S} {r : Int32} (X : tg_M tauC x cX7_event 5 RX7 zr_X7_event (some .int) Sf (some (.int r))) (S : tg_S) (v1 : Int32) (v2 : Int32) (v3 : Int32) (h : f_X7_event  S v1 v2 v3 = some (Sf, r)) : tg_G tauC x S 0 [(0, .ref (tg_ad x 0)), (1, .int v1), (2, .int v2), (3, .int v3)] [] := by
  unfold f_X7_event at h
  refine tg_iload_n X dX7_event_0 rfl 1 rfl ?_
  refine tg_iload_n X dX7_event_1 rfl 2 rfl ?_
  refine tg_iload_n X dX7_event_2 rfl 3 rfl ?_
  obtain ⟨S1, r2, kS1, h⟩ := tg_bdE h
  refine tg_callS (As := [.int v1, .int v2, .int v3]) (rest := []) X (cm_X3_mayBe _ _ _ _ _ kS1) yy_X3_mayBe wt_X3_mayBe wm_X7_121 ⟨rfl, rfl, Nat.le_of_ble_eq_true rfl, Nat.le_of_ble_eq_true rfl⟩ rfl rfl (Nat.le_of_ble_eq_true rfl) dX7_event_3 rfl ?_
  refine tg_if_ne (tgt := 12) X dX7_event_6 (by decide) (fun c3 => ?_) (fun c3 => ?_)
  · have h := tg_ifF c3 h
    refine tg_aload_n X dX7_event_12 rfl 0 rfl ?_
    refine tg_getr X 0 rfl cl_X7 4 (by decide) rfl wf_X7_37 dX7_event_13 ?_
    refine tg_getr X 11 rfl cl_X1 7 (by decide) rfl wf_X7_127 dX7_event_16 ?_
    refine tg_geti X 19 rfl cl_X3 3 (by decide) rfl wf_X7_131 dX7_event_19 ?_
    refine tg_bipush X dX7_event_22 tk_b8 ?_
    refine tg_icmp_ne (tgt := 30) X dX7_event_24 (by decide) (fun c4 => ?_) (fun c4 => ?_)
    · have h := tg_ifF c4 h
      refine tg_aload_n X dX7_event_30 rfl 0 rfl ?_
      refine tg_getr X 0 rfl cl_X7 4 (by decide) rfl wf_X7_37 dX7_event_31 ?_
      refine tg_getr X 11 rfl cl_X1 7 (by decide) rfl wf_X7_127 dX7_event_34 ?_
      refine tg_iload_n X dX7_event_37 rfl 1 rfl ?_
      refine tg_iload_n X dX7_event_38 rfl 2 rfl ?_
      refine tg_iload_n X dX7_event_39 rfl 3 rfl ?_
      obtain ⟨S5, r6, kS5, h⟩ := tg_bdE h
      refine tg_callV (As := [.int v1, .int v2, .int v3]) (rest := []) X 19 (cm_X3_append _ _ _ _ _ kS5) yy_X3_append wv_X3_append ws_X3_append wm_X7_134 rfl cl_X3.1 ⟨rfl, rfl, Nat.le_of_ble_eq_true rfl, Nat.le_of_ble_eq_true rfl⟩ rfl rfl (Nat.le_of_ble_eq_true rfl) dX7_event_40 rfl ?_
      refine tg_istore (lv2 := [(4, .int r6), (0, .ref (tg_ad x 0)), (1, .int v1), (2, .int v2), (3, .int v3)]) X dX7_event_43 (by decide) rfl ?_
      refine tg_aload_n X dX7_event_45 rfl 1 rfl ?_
      obtain ⟨S7, kS7, h⟩ := tg_bvE h
      refine tg_callV (As := []) (rest := []) X 0 (cm_X7_playTold _ _ _ _ _ kS7) yy_X7_playTold wv_X7_playTold ws_X7_playTold wm_X7_118 rfl cl_X7.1 ⟨rfl, rfl, Nat.le_of_ble_eq_true rfl, Nat.le_of_ble_eq_true rfl⟩ rfl rfl (Nat.le_of_ble_eq_true rfl) dX7_event_46 rfl ?_
      refine tg_iload X dX7_event_49 0 rfl ?_
      exact tg_iret X h rfl dX7_event_51
    · have h := tg_ifT c4 h
      refine tg_bipush X dX7_event_27 tk_bm4 ?_
      exact tg_iret X h rfl dX7_event_29
  · have h := tg_ifT c3 h
    refine tg_bipush X dX7_event_9 tk_bm2 ?_
    exact tg_iret X h rfl dX7_event_11
theorem cm_X7_event (l : Launch) (D : va_G) (cy : Bool → ClassId) (ad : Nat → Nat) (tS : Nat) {S Sf : tg_S} {v1 : Int32} {v2 : Int32} {v3 : Int32} {r : Int32} (h : f_X7_event  S v1 v2 v3 = some (Sf, r)) : tg_Met l yX7_event cX7_event 5 (some .int) zr_X7_event tauC D cy ad tS S [.ref (ad 0), .int v1, .int v2, .int v3] Sf (some (.int r)) := tg_mk (by decide +kernel) trivial (Nat.le_of_ble_eq_true rfl) (fun p e s m args below meth c Q A X => w_X7_event_0 X S v1 v2 v3 h)
-- X3_cutLast
def zr_X3_cutLast : Room := { frames := 0, cells := 0, slots := 0, locals := 0 }
theorem dX3_cutLast_0 : decode cX3_cutLast 0 = .ok (.aload_n 0, 1) := by decide +kernel
theorem dX3_cutLast_1 : decode cX3_cutLast 1 = .ok (.dup, 1) := by decide +kernel
theorem dX3_cutLast_2 : decode cX3_cutLast 2 = .ok (.getfield 21, 3) := by decide +kernel
theorem dX3_cutLast_5 : decode cX3_cutLast 5 = .ok (.iconst 1, 1) := by decide +kernel
theorem dX3_cutLast_6 : decode cX3_cutLast 6 = .ok (.isub, 1) := by decide +kernel
theorem dX3_cutLast_7 : decode cX3_cutLast 7 = .ok (.putfield 21, 3) := by decide +kernel
theorem dX3_cutLast_10 : decode cX3_cutLast 10 = .ok (.aload_n 0, 1) := by decide +kernel
theorem dX3_cutLast_11 : decode cX3_cutLast 11 = .ok (.getfield 21, 3) := by decide +kernel
theorem dX3_cutLast_14 : decode cX3_cutLast 14 = .ok (.ireturn, 1) := by decide +kernel
set_option maxRecDepth 20000 in
set_option maxHeartbeats 4000000 in
theorem w_X3_cutLast_0 {x : tg_X} {Sf : tg_S} {r : Int32} (X : tg_M tauC x cX3_cutLast 1 RX3 zr_X3_cutLast (some .int) Sf (some (.int r))) (S : tg_S) (h : f_X3_cutLast  S  = some (Sf, r)) : tg_G tauC x S 0 [(0, .ref (tg_ad x 19))] [] := by
  unfold f_X3_cutLast at h
  refine tg_aload_n X dX3_cutLast_0 rfl 0 rfl ?_
  refine tg_dup X dX3_cutLast_1 rfl ?_
  refine tg_geti X 19 rfl cl_X3 3 (by decide) rfl wf_X3_21 dX3_cutLast_2 ?_
  refine tg_iconst X dX3_cutLast_5 tk_i1 ?_
  refine tg_isub X dX3_cutLast_6 ?_
  obtain ⟨S1, eS1, h⟩ := tg_pfE h
  refine tg_puti X 19 rfl cl_X3 3 (by decide) rfl wf_X3_21 rfl rfl rfl dX3_cutLast_7 eS1 ?_
  refine tg_aload_n X dX3_cutLast_10 rfl 0 rfl ?_
  refine tg_geti X 19 rfl cl_X3 3 (by decide) rfl wf_X3_21 dX3_cutLast_11 ?_
  exact tg_iret X h rfl dX3_cutLast_14
theorem cm_X3_cutLast (l : Launch) (D : va_G) (cy : Bool → ClassId) (ad : Nat → Nat) (tS : Nat) {S Sf : tg_S} {r : Int32} (h : f_X3_cutLast  S  = some (Sf, r)) : tg_Met l yX3_cutLast cX3_cutLast 1 (some .int) zr_X3_cutLast tauC D cy ad tS S [.ref (ad 19)] Sf (some (.int r)) := tg_mk (by decide +kernel) trivial (Nat.le_of_ble_eq_true rfl) (fun p e s m args below meth c Q A X => w_X3_cutLast_0 X S  h)
-- X7_back
def zr_X7_back : Room := { frames := 5, cells := 0, slots := 0, locals := 116 }
theorem dX7_back_0 : decode cX7_back 0 = .ok (.aload_n 0, 1) := by decide +kernel
theorem dX7_back_1 : decode cX7_back 1 = .ok (.getfield 37, 3) := by decide +kernel
theorem dX7_back_4 : decode cX7_back 4 = .ok (.getfield 127, 3) := by decide +kernel
theorem dX7_back_7 : decode cX7_back 7 = .ok (.getfield 131, 3) := by decide +kernel
theorem dX7_back_10 : decode cX7_back 10 = .ok (.ifCond .ne 6, 3) := by decide +kernel
theorem dX7_back_13 : decode cX7_back 13 = .ok (.bipush (-3), 2) := by decide +kernel
theorem dX7_back_15 : decode cX7_back 15 = .ok (.ireturn, 1) := by decide +kernel
theorem dX7_back_16 : decode cX7_back 16 = .ok (.aload_n 0, 1) := by decide +kernel
theorem dX7_back_17 : decode cX7_back 17 = .ok (.getfield 37, 3) := by decide +kernel
theorem dX7_back_20 : decode cX7_back 20 = .ok (.getfield 127, 3) := by decide +kernel
theorem dX7_back_23 : decode cX7_back 23 = .ok (.invokevirtual 137, 3) := by decide +kernel
theorem dX7_back_26 : decode cX7_back 26 = .ok (.istore_n 1, 1) := by decide +kernel
theorem dX7_back_27 : decode cX7_back 27 = .ok (.aload_n 0, 1) := by decide +kernel
theorem dX7_back_28 : decode cX7_back 28 = .ok (.invokevirtual 118, 3) := by decide +kernel
theorem dX7_back_31 : decode cX7_back 31 = .ok (.iload_n 1, 1) := by decide +kernel
theorem dX7_back_32 : decode cX7_back 32 = .ok (.ireturn, 1) := by decide +kernel
set_option maxRecDepth 20000 in
set_option maxHeartbeats 4000000 in
theorem w_X7_back_0 {x : tg_X} {Sf : tg_S} {r : Int32} (X : tg_M tauC x cX7_back 2 RX7 zr_X7_back (some .int) Sf (some (.int r))) (S : tg_S) (h : f_X7_back  S  = some (Sf, r)) : tg_G tauC x S 0 [(0, .ref (tg_ad x 0))] [] := by
  unfold f_X7_back at h
  refine tg_aload_n X dX7_back_0 rfl 0 rfl ?_
  refine tg_getr X 0 rfl cl_X7 4 (by decide) rfl wf_X7_37 dX7_back_1 ?_
  refine tg_getr X 11 rfl cl_X1 7 (by decide) rfl wf_X7_127 dX7_back_4 ?_
  refine tg_geti X 19 rfl cl_X3 3 (by decide) rfl wf_X7_131 dX7_back_7 ?_
  refine tg_if_ne (tgt := 16) X dX7_back_10 (by decide) (fun c1 => ?_) (fun c1 => ?_)
  · have h := tg_ifF c1 h
    refine tg_aload_n X dX7_back_16 rfl 0 rfl ?_
    refine tg_getr X 0 rfl cl_X7 4 (by decide) rfl wf_X7_37 dX7_back_17 ?_
    refine tg_getr X 11 rfl cl_X1 7 (by decide) rfl wf_X7_127 dX7_back_20 ?_
    obtain ⟨S2, r3, kS2, h⟩ := tg_bdE h
    refine tg_callV (As := []) (rest := []) X 19 (cm_X3_cutLast _ _ _ _ _ kS2) yy_X3_cutLast wv_X3_cutLast ws_X3_cutLast wm_X7_137 rfl cl_X3.1 ⟨rfl, rfl, Nat.le_of_ble_eq_true rfl, Nat.le_of_ble_eq_true rfl⟩ rfl rfl (Nat.le_of_ble_eq_true rfl) dX7_back_23 rfl ?_
    refine tg_istore_n (lv2 := [(1, .int r3), (0, .ref (tg_ad x 0))]) X dX7_back_26 rfl (by decide) rfl ?_
    refine tg_aload_n X dX7_back_27 rfl 1 rfl ?_
    obtain ⟨S4, kS4, h⟩ := tg_bvE h
    refine tg_callV (As := []) (rest := []) X 0 (cm_X7_playTold _ _ _ _ _ kS4) yy_X7_playTold wv_X7_playTold ws_X7_playTold wm_X7_118 rfl cl_X7.1 ⟨rfl, rfl, Nat.le_of_ble_eq_true rfl, Nat.le_of_ble_eq_true rfl⟩ rfl rfl (Nat.le_of_ble_eq_true rfl) dX7_back_28 rfl ?_
    refine tg_iload_n X dX7_back_31 rfl 0 rfl ?_
    exact tg_iret X h rfl dX7_back_32
  · have h := tg_ifT c1 h
    refine tg_bipush X dX7_back_13 tk_bm3 ?_
    exact tg_iret X h rfl dX7_back_15
theorem cm_X7_back (l : Launch) (D : va_G) (cy : Bool → ClassId) (ad : Nat → Nat) (tS : Nat) {S Sf : tg_S} {r : Int32} (h : f_X7_back  S  = some (Sf, r)) : tg_Met l yX7_back cX7_back 2 (some .int) zr_X7_back tauC D cy ad tS S [.ref (ad 0)] Sf (some (.int r)) := tg_mk (by decide +kernel) trivial (Nat.le_of_ble_eq_true rfl) (fun p e s m args below meth c Q A X => w_X7_back_0 X S  h)
-- X7_found
def zr_X7_found : Room := { frames := 0, cells := 0, slots := 0, locals := 0 }
theorem dX7_found_0 : decode cX7_found 0 = .ok (.aload_n 0, 1) := by decide +kernel
theorem dX7_found_1 : decode cX7_found 1 = .ok (.iload_n 1, 1) := by decide +kernel
theorem dX7_found_2 : decode cX7_found 2 = .ok (.putfield 30, 3) := by decide +kernel
theorem dX7_found_5 : decode cX7_found 5 = .ok (.bipush (-10), 2) := by decide +kernel
theorem dX7_found_7 : decode cX7_found 7 = .ok (.iload_n 1, 1) := by decide +kernel
theorem dX7_found_8 : decode cX7_found 8 = .ok (.isub, 1) := by decide +kernel
theorem dX7_found_9 : decode cX7_found 9 = .ok (.ireturn, 1) := by decide +kernel
set_option maxRecDepth 20000 in
set_option maxHeartbeats 4000000 in
theorem w_X7_found_0 {x : tg_X} {Sf : tg_S} {r : Int32} (X : tg_M tauC x cX7_found 2 RX7 zr_X7_found (some .int) Sf (some (.int r))) (S : tg_S) (v1 : Int32) (h : f_X7_found  S v1 = some (Sf, r)) : tg_G tauC x S 0 [(0, .ref (tg_ad x 0)), (1, .int v1)] [] := by
  unfold f_X7_found at h
  refine tg_aload_n X dX7_found_0 rfl 0 rfl ?_
  refine tg_iload_n X dX7_found_1 rfl 1 rfl ?_
  obtain ⟨S1, eS1, h⟩ := tg_pfE h
  refine tg_puti X 0 rfl cl_X7 3 (by decide) rfl wf_X7_30 rfl rfl rfl dX7_found_2 eS1 ?_
  refine tg_bipush X dX7_found_5 tk_bm10 ?_
  refine tg_iload_n X dX7_found_7 rfl 1 rfl ?_
  refine tg_isub X dX7_found_8 ?_
  exact tg_iret X h rfl dX7_found_9
theorem cm_X7_found (l : Launch) (D : va_G) (cy : Bool → ClassId) (ad : Nat → Nat) (tS : Nat) {S Sf : tg_S} {v1 : Int32} {r : Int32} (h : f_X7_found  S v1 = some (Sf, r)) : tg_Met l yX7_found cX7_found 2 (some .int) zr_X7_found tauC D cy ad tS S [.ref (ad 0), .int v1] Sf (some (.int r)) := tg_mk (by decide +kernel) trivial (Nat.le_of_ble_eq_true rfl) (fun p e s m args below meth c Q A X => w_X7_found_0 X S v1 h)
