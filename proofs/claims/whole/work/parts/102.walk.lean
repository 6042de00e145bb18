-- X2_forceOf
def zr_X2_forceOf : Room := { frames := 1, cells := 0, slots := 0, locals := 15 }
theorem dX2_forceOf_0 : decode cX2_forceOf 0 = .ok (.aload_n 1, 1) := by decide +kernel
theorem dX2_forceOf_1 : decode cX2_forceOf 1 = .ok (.getfield 115, 3) := by decide +kernel
theorem dX2_forceOf_4 : decode cX2_forceOf 4 = .ok (.iload_n 2, 1) := by decide +kernel
theorem dX2_forceOf_5 : decode cX2_forceOf 5 = .ok (.iaload, 1) := by decide +kernel
theorem dX2_forceOf_6 : decode cX2_forceOf 6 = .ok (.istore 4, 2) := by decide +kernel
theorem dX2_forceOf_8 : decode cX2_forceOf 8 = .ok (.iload 4, 2) := by decide +kernel
theorem dX2_forceOf_10 : decode cX2_forceOf 10 = .ok (.iconst 2, 1) := by decide +kernel
theorem dX2_forceOf_11 : decode cX2_forceOf 11 = .ok (.if_icmp .ne 32, 3) := by decide +kernel
theorem dX2_forceOf_14 : decode cX2_forceOf 14 = .ok (.iload_n 2, 1) := by decide +kernel
theorem dX2_forceOf_15 : decode cX2_forceOf 15 = .ok (.iload_n 2, 1) := by decide +kernel
theorem dX2_forceOf_16 : decode cX2_forceOf 16 = .ok (.bipush 8, 2) := by decide +kernel
theorem dX2_forceOf_18 : decode cX2_forceOf 18 = .ok (.if_icmp .ge 12, 3) := by decide +kernel
theorem dX2_forceOf_21 : decode cX2_forceOf 21 = .ok (.aload_n 1, 1) := by decide +kernel
theorem dX2_forceOf_22 : decode cX2_forceOf 22 = .ok (.getfield 121, 3) := by decide +kernel
theorem dX2_forceOf_25 : decode cX2_forceOf 25 = .ok (.iconst 0, 1) := by decide +kernel
theorem dX2_forceOf_26 : decode cX2_forceOf 26 = .ok (.iaload, 1) := by decide +kernel
theorem dX2_forceOf_27 : decode cX2_forceOf 27 = .ok (.goto 9, 3) := by decide +kernel
theorem dX2_forceOf_30 : decode cX2_forceOf 30 = .ok (.aload_n 1, 1) := by decide +kernel
theorem dX2_forceOf_31 : decode cX2_forceOf 31 = .ok (.getfield 121, 3) := by decide +kernel
theorem dX2_forceOf_34 : decode cX2_forceOf 34 = .ok (.iconst 1, 1) := by decide +kernel
theorem dX2_forceOf_35 : decode cX2_forceOf 35 = .ok (.iaload, 1) := by decide +kernel
theorem dX2_forceOf_36 : decode cX2_forceOf 36 = .ok (.if_icmp .ne 7, 3) := by decide +kernel
theorem dX2_forceOf_39 : decode cX2_forceOf 39 = .ok (.iconst 1, 1) := by decide +kernel
theorem dX2_forceOf_40 : decode cX2_forceOf 40 = .ok (.goto 4, 3) := by decide +kernel
theorem dX2_forceOf_43 : decode cX2_forceOf 43 = .ok (.iconst 0, 1) := by decide +kernel
theorem dX2_forceOf_44 : decode cX2_forceOf 44 = .ok (.istore 5, 2) := by decide +kernel
theorem dX2_forceOf_46 : decode cX2_forceOf 46 = .ok (.iload_n 3, 1) := by decide +kernel
theorem dX2_forceOf_47 : decode cX2_forceOf 47 = .ok (.ifCond .ne 15, 3) := by decide +kernel
theorem dX2_forceOf_50 : decode cX2_forceOf 50 = .ok (.iload 5, 2) := by decide +kernel
theorem dX2_forceOf_52 : decode cX2_forceOf 52 = .ok (.ifCond .eq 10, 3) := by decide +kernel
theorem dX2_forceOf_55 : decode cX2_forceOf 55 = .ok (.aload_n 1, 1) := by decide +kernel
theorem dX2_forceOf_56 : decode cX2_forceOf 56 = .ok (.getfield 124, 3) := by decide +kernel
theorem dX2_forceOf_59 : decode cX2_forceOf 59 = .ok (.iload_n 2, 1) := by decide +kernel
theorem dX2_forceOf_60 : decode cX2_forceOf 60 = .ok (.iaload, 1) := by decide +kernel
theorem dX2_forceOf_61 : decode cX2_forceOf 61 = .ok (.ireturn, 1) := by decide +kernel
theorem dX2_forceOf_62 : decode cX2_forceOf 62 = .ok (.iload_n 3, 1) := by decide +kernel
theorem dX2_forceOf_63 : decode cX2_forceOf 63 = .ok (.ifCond .ne 38, 3) := by decide +kernel
theorem dX2_forceOf_66 : decode cX2_forceOf 66 = .ok (.aload_n 0, 1) := by decide +kernel
theorem dX2_forceOf_67 : decode cX2_forceOf 67 = .ok (.getfield 34, 3) := by decide +kernel
theorem dX2_forceOf_70 : decode cX2_forceOf 70 = .ok (.iload_n 2, 1) := by decide +kernel
theorem dX2_forceOf_71 : decode cX2_forceOf 71 = .ok (.aload_n 1, 1) := by decide +kernel
theorem dX2_forceOf_72 : decode cX2_forceOf 72 = .ok (.getfield 55, 3) := by decide +kernel
theorem dX2_forceOf_75 : decode cX2_forceOf 75 = .ok (.iload_n 2, 1) := by decide +kernel
theorem dX2_forceOf_76 : decode cX2_forceOf 76 = .ok (.iaload, 1) := by decide +kernel
theorem dX2_forceOf_77 : decode cX2_forceOf 77 = .ok (.aload_n 0, 1) := by decide +kernel
theorem dX2_forceOf_78 : decode cX2_forceOf 78 = .ok (.getfield 34, 3) := by decide +kernel
theorem dX2_forceOf_81 : decode cX2_forceOf 81 = .ok (.iload_n 2, 1) := by decide +kernel
theorem dX2_forceOf_82 : decode cX2_forceOf 82 = .ok (.iaload, 1) := by decide +kernel
theorem dX2_forceOf_83 : decode cX2_forceOf 83 = .ok (.iload 4, 2) := by decide +kernel
theorem dX2_forceOf_85 : decode cX2_forceOf 85 = .ok (.iconst 1, 1) := by decide +kernel
theorem dX2_forceOf_86 : decode cX2_forceOf 86 = .ok (.if_icmp .ne 7, 3) := by decide +kernel
theorem dX2_forceOf_89 : decode cX2_forceOf 89 = .ok (.iconst 2, 1) := by decide +kernel
theorem dX2_forceOf_90 : decode cX2_forceOf 90 = .ok (.goto 4, 3) := by decide +kernel
theorem dX2_forceOf_93 : decode cX2_forceOf 93 = .ok (.iconst 1, 1) := by decide +kernel
theorem dX2_forceOf_94 : decode cX2_forceOf 94 = .ok (.iadd, 1) := by decide +kernel
theorem dX2_forceOf_95 : decode cX2_forceOf 95 = .ok (.invokestatic 99, 3) := by decide +kernel
theorem dX2_forceOf_98 : decode cX2_forceOf 98 = .ok (.iastore, 1) := by decide +kernel
theorem dX2_forceOf_99 : decode cX2_forceOf 99 = .ok (.iconst 0, 1) := by decide +kernel
theorem dX2_forceOf_100 : decode cX2_forceOf 100 = .ok (.ireturn, 1) := by decide +kernel
theorem dX2_forceOf_101 : decode cX2_forceOf 101 = .ok (.aload_n 0, 1) := by decide +kernel
theorem dX2_forceOf_102 : decode cX2_forceOf 102 = .ok (.getfield 34, 3) := by decide +kernel
theorem dX2_forceOf_105 : decode cX2_forceOf 105 = .ok (.iload_n 2, 1) := by decide +kernel
theorem dX2_forceOf_106 : decode cX2_forceOf 106 = .ok (.iaload, 1) := by decide +kernel
theorem dX2_forceOf_107 : decode cX2_forceOf 107 = .ok (.ifCond .ne 5, 3) := by decide +kernel
theorem dX2_forceOf_110 : decode cX2_forceOf 110 = .ok (.iconst 0, 1) := by decide +kernel
theorem dX2_forceOf_111 : decode cX2_forceOf 111 = .ok (.ireturn, 1) := by decide +kernel
theorem dX2_forceOf_112 : decode cX2_forceOf 112 = .ok (.iload 4, 2) := by decide +kernel
theorem dX2_forceOf_114 : decode cX2_forceOf 114 = .ok (.ifCond .ne 7, 3) := by decide +kernel
theorem dX2_forceOf_117 : decode cX2_forceOf 117 = .ok (.iconst 1, 1) := by decide +kernel
theorem dX2_forceOf_118 : decode cX2_forceOf 118 = .ok (.goto 4, 3) := by decide +kernel
theorem dX2_forceOf_121 : decode cX2_forceOf 121 = .ok (.iconst 2, 1) := by decide +kernel
theorem dX2_forceOf_122 : decode cX2_forceOf 122 = .ok (.istore 6, 2) := by decide +kernel
theorem dX2_forceOf_124 : decode cX2_forceOf 124 = .ok (.iload_n 3, 1) := by decide +kernel
theorem dX2_forceOf_125 : decode cX2_forceOf 125 = .ok (.iconst 2, 1) := by decide +kernel
theorem dX2_forceOf_126 : decode cX2_forceOf 126 = .ok (.if_icmp .ne 18, 3) := by decide +kernel
theorem dX2_forceOf_129 : decode cX2_forceOf 129 = .ok (.aload_n 0, 1) := by decide +kernel
theorem dX2_forceOf_130 : decode cX2_forceOf 130 = .ok (.getfield 34, 3) := by decide +kernel
theorem dX2_forceOf_133 : decode cX2_forceOf 133 = .ok (.iload_n 2, 1) := by decide +kernel
theorem dX2_forceOf_134 : decode cX2_forceOf 134 = .ok (.iaload, 1) := by decide +kernel
theorem dX2_forceOf_135 : decode cX2_forceOf 135 = .ok (.iload 6, 2) := by decide +kernel
theorem dX2_forceOf_137 : decode cX2_forceOf 137 = .ok (.if_icmp .lt 7, 3) := by decide +kernel
theorem dX2_forceOf_140 : decode cX2_forceOf 140 = .ok (.iconst 1, 1) := by decide +kernel
theorem dX2_forceOf_141 : decode cX2_forceOf 141 = .ok (.goto 4, 3) := by decide +kernel
theorem dX2_forceOf_144 : decode cX2_forceOf 144 = .ok (.iconst 0, 1) := by decide +kernel
theorem dX2_forceOf_145 : decode cX2_forceOf 145 = .ok (.istore 7, 2) := by decide +kernel
theorem dX2_forceOf_147 : decode cX2_forceOf 147 = .ok (.aload_n 0, 1) := by decide +kernel
theorem dX2_forceOf_148 : decode cX2_forceOf 148 = .ok (.getfield 34, 3) := by decide +kernel
theorem dX2_forceOf_151 : decode cX2_forceOf 151 = .ok (.iload_n 2, 1) := by decide +kernel
theorem dX2_forceOf_152 : decode cX2_forceOf 152 = .ok (.dup2, 1) := by decide +kernel
theorem dX2_forceOf_153 : decode cX2_forceOf 153 = .ok (.iaload, 1) := by decide +kernel
theorem dX2_forceOf_154 : decode cX2_forceOf 154 = .ok (.iload 7, 2) := by decide +kernel
theorem dX2_forceOf_156 : decode cX2_forceOf 156 = .ok (.ifCond .eq 8, 3) := by decide +kernel
theorem dX2_forceOf_159 : decode cX2_forceOf 159 = .ok (.iload 6, 2) := by decide +kernel
theorem dX2_forceOf_161 : decode cX2_forceOf 161 = .ok (.goto 4, 3) := by decide +kernel
theorem dX2_forceOf_164 : decode cX2_forceOf 164 = .ok (.iconst 1, 1) := by decide +kernel
theorem dX2_forceOf_165 : decode cX2_forceOf 165 = .ok (.isub, 1) := by decide +kernel
theorem dX2_forceOf_166 : decode cX2_forceOf 166 = .ok (.iastore, 1) := by decide +kernel
theorem dX2_forceOf_167 : decode cX2_forceOf 167 = .ok (.iload 7, 2) := by decide +kernel
theorem dX2_forceOf_169 : decode cX2_forceOf 169 = .ok (.ifCond .eq 7, 3) := by decide +kernel
theorem dX2_forceOf_172 : decode cX2_forceOf 172 = .ok (.iconst 2, 1) := by decide +kernel
theorem dX2_forceOf_173 : decode cX2_forceOf 173 = .ok (.goto 4, 3) := by decide +kernel
theorem dX2_forceOf_176 : decode cX2_forceOf 176 = .ok (.iconst 1, 1) := by decide +kernel
theorem dX2_forceOf_177 : decode cX2_forceOf 177 = .ok (.aload_n 1, 1) := by decide +kernel
theorem dX2_forceOf_178 : decode cX2_forceOf 178 = .ok (.getfield 124, 3) := by decide +kernel
theorem dX2_forceOf_181 : decode cX2_forceOf 181 = .ok (.iload_n 2, 1) := by decide +kernel
theorem dX2_forceOf_182 : decode cX2_forceOf 182 = .ok (.iaload, 1) := by decide +kernel
theorem dX2_forceOf_183 : decode cX2_forceOf 183 = .ok (.imul, 1) := by decide +kernel
theorem dX2_forceOf_184 : decode cX2_forceOf 184 = .ok (.iload 5, 2) := by decide +kernel
theorem dX2_forceOf_186 : decode cX2_forceOf 186 = .ok (.ifCond .eq 7, 3) := by decide +kernel
theorem dX2_forceOf_189 : decode cX2_forceOf 189 = .ok (.iconst 2, 1) := by decide +kernel
theorem dX2_forceOf_190 : decode cX2_forceOf 190 = .ok (.goto 4, 3) := by decide +kernel
theorem dX2_forceOf_193 : decode cX2_forceOf 193 = .ok (.iconst 0, 1) := by decide +kernel
theorem dX2_forceOf_194 : decode cX2_forceOf 194 = .ok (.iadd, 1) := by decide +kernel
theorem dX2_forceOf_195 : decode cX2_forceOf 195 = .ok (.ireturn, 1) := by decide +kernel
set_option maxRecDepth 20000 in
set_option maxHeartbeats 4000000 in
theorem w_X2_forceOf_a_177 {x : tg_X} {Sf : tg_S} {r : Int32} (X : tg_M tauC x cX2_forceOf 8 RX2 zr_X2_forceOf (some .int) Sf (some (.int r))) (S : tg_S) (v2 : Int32) (v5 : Int32) (s0 : Int32) (h : f_X2_forceOf_177 35 11 S v2 v5 s0 = some (Sf, r)) : tg_G tauC x S 177 [(1, .ref (tg_ad x 11)), (2, .int v2), (5, .int v5)] [.int s0] := by
  unfold f_X2_forceOf_177 at h
  refine tg_aload_n X dX2_forceOf_177 rfl 0 rfl ?_
  refine tg_getr X 11 rfl cl_X1 2 (by decide) rfl wf_X2_124 dX2_forceOf_178 ?_
  refine tg_iload_n X dX2_forceOf_181 rfl 1 rfl ?_
  obtain ⟨y1, ey1, by1, h⟩ := tg_rdE h
  refine tg_iald X 14 rfl ey1 by1 dX2_forceOf_182 ?_
  refine tg_imul X dX2_forceOf_183 ?_
  refine tg_iload X dX2_forceOf_184 2 rfl ?_
  refine tg_if_eq (tgt := 193) X dX2_forceOf_186 (by decide) (fun c2 => ?_) (fun c2 => ?_)
  · have h := tg_ifT c2 h
    refine tg_iconst X dX2_forceOf_193 tk_i0 ?_
    refine tg_iadd X dX2_forceOf_194 ?_
    exact tg_iret X h rfl dX2_forceOf_195
  · have h := tg_ifF c2 h
    refine tg_iconst X dX2_forceOf_189 tk_i2 ?_
    refine tg_goto (tgt := 194) X dX2_forceOf_190 (by decide) ?_
    refine tg_iadd X dX2_forceOf_194 ?_
    exact tg_iret X h rfl dX2_forceOf_195
set_option maxRecDepth 20000 in
set_option maxHeartbeats 4000000 in
theorem w_X2_forceOf_a_165 {x : tg_X} {Sf : tg_S} {r : Int32} (X : tg_M tauC x cX2_forceOf 8 RX2 zr_X2_forceOf (some .int) Sf (some (.int r))) (S : tg_S) (v2 : Int32) (v5 : Int32) (v7 : Int32) (s0 : Int32) (s1 : Int32) (s2 : Int32) (h : f_X2_forceOf_165 35 11 S v2 v5 v7 s0 s1 s2 = some (Sf, r)) : tg_G tauC x S 165 [(1, .ref (tg_ad x 11)), (2, .int v2), (5, .int v5), (7, .int v7)] [.int s0, .int s1, .int s2, .ref (tg_ad x 41)] := by
  unfold f_X2_forceOf_165 at h
  refine tg_isub X dX2_forceOf_165 ?_
  obtain ⟨S1, eS1, bS1, h⟩ := tg_wrE h
  refine tg_iast X 41 rfl bS1 dX2_forceOf_166 eS1 ?_
  refine tg_iload X dX2_forceOf_167 3 rfl ?_
  refine tg_if_eq (tgt := 176) X dX2_forceOf_169 (by decide) (fun c2 => ?_) (fun c2 => ?_)
  · rw [if_pos c2] at h
    refine tg_iconst X dX2_forceOf_176 tk_i1 ?_
    refine tg_re [0, 1, 2] rfl ?_
    exact w_X2_forceOf_a_177 X  S1 v2 v5 1 h
  · rw [if_neg c2] at h
    refine tg_iconst X dX2_forceOf_172 tk_i2 ?_
    refine tg_goto (tgt := 177) X dX2_forceOf_173 (by decide) ?_
    refine tg_re [0, 1, 2] rfl ?_
    exact w_X2_forceOf_a_177 X  S1 v2 v5 2 h
set_option maxRecDepth 20000 in
set_option maxHeartbeats 4000000 in
theorem w_X2_forceOf_a_145 {x : tg_X} {Sf : tg_S} {r : Int32} (X : tg_M tauC x cX2_forceOf 8 RX2 zr_X2_forceOf (some .int) Sf (some (.int r))) (S : tg_S) (v2 : Int32) (v5 : Int32) (v6 : Int32) (s0 : Int32) (h : f_X2_forceOf_145 35 11 S v2 v5 v6 s0 = some (Sf, r)) : tg_G tauC x S 145 [(0, .ref (tg_ad x 35)), (1, .ref (tg_ad x 11)), (2, .int v2), (5, .int v5), (6, .int v6)] [.int s0] := by
  unfold f_X2_forceOf_145 at h
  refine tg_istore (lv2 := [(7, .int s0), (0, .ref (tg_ad x 35)), (1, .ref (tg_ad x 11)), (2, .int v2), (5, .int v5), (6, .int v6)]) X dX2_forceOf_145 (by decide) rfl ?_
  refine tg_aload_n X dX2_forceOf_147 rfl 1 rfl ?_
  refine tg_getr X 35 rfl cl_X2 7 (by decide) rfl wf_X2_34 dX2_forceOf_148 ?_
  refine tg_iload_n X dX2_forceOf_151 rfl 3 rfl ?_
  refine tg_dup2 X dX2_forceOf_152 rfl rfl ?_
  obtain ⟨y1, ey1, by1, h⟩ := tg_rdE h
  refine tg_iald X 41 rfl ey1 by1 dX2_forceOf_153 ?_
  refine tg_iload X dX2_forceOf_154 0 rfl ?_
  refine tg_if_eq (tgt := 164) X dX2_forceOf_156 (by decide) (fun c2 => ?_) (fun c2 => ?_)
  · rw [if_pos c2] at h
    refine tg_iconst X dX2_forceOf_164 tk_i1 ?_
    refine tg_re [2, 3, 4, 0] rfl ?_
    exact w_X2_forceOf_a_165 X  S v2 v5 s0 1 y1 v2 h
  · rw [if_neg c2] at h
    refine tg_iload X dX2_forceOf_159 5 rfl ?_
    refine tg_goto (tgt := 165) X dX2_forceOf_161 (by decide) ?_
    refine tg_re [2, 3, 4, 0] rfl ?_
    exact w_X2_forceOf_a_165 X  S v2 v5 s0 v6 y1 v2 h
set_option maxRecDepth 20000 in
set_option maxHeartbeats 4000000 in
theorem w_X2_forceOf_a_144 {x : tg_X} {Sf : tg_S} {r : Int32} (X : tg_M tauC x cX2_forceOf 8 RX2 zr_X2_forceOf (some .int) Sf (some (.int r))) (S : tg_S) (v2 : Int32) (v5 : Int32) (v6 : Int32) (h : f_X2_forceOf_144 35 11 S v2 v5 v6 = some (Sf, r)) : tg_G tauC x S 144 [(0, .ref (tg_ad x 35)), (1, .ref (tg_ad x 11)), (2, .int v2), (5, .int v5), (6, .int v6)] [] := by
  unfold f_X2_forceOf_144 at h
  refine tg_iconst X dX2_forceOf_144 tk_i0 ?_
  exact w_X2_forceOf_a_145 X  S v2 v5 v6 0 h
set_option maxRecDepth 20000 in
set_option maxHeartbeats 4000000 in
theorem w_X2_forceOf_a_122 {x : tg_X} {Sf : tg_S} {r : Int32} (X : tg_M tauC x cX2_forceOf 8 RX2 zr_X2_forceOf (some .int) Sf (some (.int r))) (S : tg_S) (v2 : Int32) (v3 : Int32) (v5 : Int32) (s0 : Int32) (h : f_X2_forceOf_122 35 11 S v2 v3 v5 s0 = some (Sf, r)) : tg_G tauC x S 122 [(0, .ref (tg_ad x 35)), (1, .ref (tg_ad x 11)), (2, .int v2), (3, .int v3), (5, .int v5)] [.int s0] := by
  unfold f_X2_forceOf_122 at h
  refine tg_istore (lv2 := [(6, .int s0), (0, .ref (tg_ad x 35)), (1, .ref (tg_ad x 11)), (2, .int v2), (3, .int v3), (5, .int v5)]) X dX2_forceOf_122 (by decide) rfl ?_
  refine tg_iload_n X dX2_forceOf_124 rfl 4 rfl ?_
  refine tg_iconst X dX2_forceOf_125 tk_i2 ?_
  refine tg_icmp_ne (tgt := 144) X dX2_forceOf_126 (by decide) (fun c1 => ?_) (fun c1 => ?_)
  · have h := tg_ifF c1 h
    refine tg_re [1, 2, 3, 5, 0] rfl ?_
    exact w_X2_forceOf_a_144 X  S v2 v5 s0 h
  · have h := tg_ifT c1 h
    refine tg_aload_n X dX2_forceOf_129 rfl 1 rfl ?_
    refine tg_getr X 35 rfl cl_X2 7 (by decide) rfl wf_X2_34 dX2_forceOf_130 ?_
    refine tg_iload_n X dX2_forceOf_133 rfl 3 rfl ?_
    obtain ⟨y2, ey2, by2, h⟩ := tg_rdE h
    refine tg_iald X 41 rfl ey2 by2 dX2_forceOf_134 ?_
    refine tg_iload X dX2_forceOf_135 0 rfl ?_
    refine tg_icmp_lt (tgt := 144) X dX2_forceOf_137 (by decide) (fun c3 => ?_) (fun c3 => ?_)
    · have h := tg_ifT c3 h
      refine tg_re [1, 2, 3, 5, 0] rfl ?_
      exact w_X2_forceOf_a_144 X  S v2 v5 s0 h
    · have h := tg_ifF c3 h
      refine tg_iconst X dX2_forceOf_140 tk_i1 ?_
      refine tg_goto (tgt := 145) X dX2_forceOf_141 (by decide) ?_
      refine tg_re [1, 2, 3, 5, 0] rfl ?_
      exact w_X2_forceOf_a_145 X  S v2 v5 s0 1 h
set_option maxRecDepth 20000 in
set_option maxHeartbeats 4000000 in
theorem w_X2_forceOf_a_94 {x : tg_X} {Sf : tg_S} {r : Int32} (X : tg_M tauC x cX2_forceOf 8 RX2 zr_X2_forceOf (some .int) Sf (some (.int r))) (S : tg_S) (s0 : Int32) (s1 : Int32) (s2 : Int32) (s3 : Int32) (h : f_X2_forceOf_94 35 11 S s0 s1 s2 s3 = some (Sf, r)) : tg_G tauC x S 94 [] [.int s0, .int s1, .int s2, .int s3, .ref (tg_ad x 41)] := by
  unfold f_X2_forceOf_94 at h
  refine tg_iadd X dX2_forceOf_94 ?_
  refine tg_mmin X ⟨wm_X2_99, wt_Mmin, wi_Math, wc_Mmin⟩ ⟨Nat.le_of_ble_eq_true rfl, Nat.le_of_ble_eq_true rfl⟩ dX2_forceOf_95 ?_
  obtain ⟨S1, eS1, bS1, h⟩ := tg_wrE h
  refine tg_iast X 41 rfl bS1 dX2_forceOf_98 eS1 ?_
  refine tg_iconst X dX2_forceOf_99 tk_i0 ?_
  exact tg_iret X h rfl dX2_forceOf_100
set_option maxRecDepth 20000 in
set_option maxHeartbeats 4000000 in
theorem w_X2_forceOf_a_62 {x : tg_X} {Sf : tg_S} {r : Int32} (X : tg_M tauC x cX2_forceOf 8 RX2 zr_X2_forceOf (some .int) Sf (some (.int r))) (S : tg_S) (v2 : Int32) (v3 : Int32) (v4 : Int32) (v5 : Int32) (h : f_X2_forceOf_62 35 11 S v2 v3 v4 v5 = some (Sf, r)) : tg_G tauC x S 62 [(0, .ref (tg_ad x 35)), (1, .ref (tg_ad x 11)), (2, .int v2), (3, .int v3), (4, .int v4), (5, .int v5)] [] := by
  unfold f_X2_forceOf_62 at h
  refine tg_iload_n X dX2_forceOf_62 rfl 3 rfl ?_
  refine tg_if_ne (tgt := 101) X dX2_forceOf_63 (by decide) (fun c1 => ?_) (fun c1 => ?_)
  · have h := tg_ifF c1 h
    refine tg_aload_n X dX2_forceOf_101 rfl 0 rfl ?_
    refine tg_getr X 35 rfl cl_X2 7 (by decide) rfl wf_X2_34 dX2_forceOf_102 ?_
    refine tg_iload_n X dX2_forceOf_105 rfl 2 rfl ?_
    obtain ⟨y2, ey2, by2, h⟩ := tg_rdE h
    refine tg_iald X 41 rfl ey2 by2 dX2_forceOf_106 ?_
    refine tg_if_ne (tgt := 112) X dX2_forceOf_107 (by decide) (fun c3 => ?_) (fun c3 => ?_)
    · have h := tg_ifF c3 h
      refine tg_iload X dX2_forceOf_112 4 rfl ?_
      refine tg_if_ne (tgt := 121) X dX2_forceOf_114 (by decide) (fun c4 => ?_) (fun c4 => ?_)
      · rw [if_neg c4] at h
        refine tg_iconst X dX2_forceOf_121 tk_i2 ?_
        refine tg_re [0, 1, 2, 3, 5] rfl ?_
        exact w_X2_forceOf_a_122 X  S v2 v3 v5 2 h
      · rw [if_pos c4] at h
        refine tg_iconst X dX2_forceOf_117 tk_i1 ?_
        refine tg_goto (tgt := 122) X dX2_forceOf_118 (by decide) ?_
        refine tg_re [0, 1, 2, 3, 5] rfl ?_
        exact w_X2_forceOf_a_122 X  S v2 v3 v5 1 h
    · have h := tg_ifT c3 h
      refine tg_iconst X dX2_forceOf_110 tk_i0 ?_
      exact tg_iret X h rfl dX2_forceOf_111
  · have h := tg_ifT c1 h
    refine tg_aload_n X dX2_forceOf_66 rfl 0 rfl ?_
    refine tg_getr X 35 rfl cl_X2 7 (by decide) rfl wf_X2_34 dX2_forceOf_67 ?_
    refine tg_iload_n X dX2_forceOf_70 rfl 2 rfl ?_
    refine tg_aload_n X dX2_forceOf_71 rfl 1 rfl ?_
    refine tg_getr X 11 rfl cl_X1 3 (by decide) rfl wf_X2_55 dX2_forceOf_72 ?_
    refine tg_iload_n X dX2_forceOf_75 rfl 2 rfl ?_
    obtain ⟨y5, ey5, by5, h⟩ := tg_rdE h
    refine tg_iald X 15 rfl ey5 by5 dX2_forceOf_76 ?_
    refine tg_aload_n X dX2_forceOf_77 rfl 0 rfl ?_
    refine tg_getr X 35 rfl cl_X2 7 (by decide) rfl wf_X2_34 dX2_forceOf_78 ?_
    refine tg_iload_n X dX2_forceOf_81 rfl 2 rfl ?_
    obtain ⟨y6, ey6, by6, h⟩ := tg_rdE h
    refine tg_iald X 41 rfl ey6 by6 dX2_forceOf_82 ?_
    refine tg_iload X dX2_forceOf_83 4 rfl ?_
    refine tg_iconst X dX2_forceOf_85 tk_i1 ?_
    refine tg_icmp_ne (tgt := 93) X dX2_forceOf_86 (by decide) (fun c7 => ?_) (fun c7 => ?_)
    · rw [if_neg c7] at h
      refine tg_iconst X dX2_forceOf_93 tk_i1 ?_
      refine tg_re [] rfl ?_
      exact w_X2_forceOf_a_94 X  S 1 y6 y5 v2 h
    · rw [if_pos c7] at h
      refine tg_iconst X dX2_forceOf_89 tk_i2 ?_
      refine tg_goto (tgt := 94) X dX2_forceOf_90 (by decide) ?_
      refine tg_re [] rfl ?_
      exact w_X2_forceOf_a_94 X  S 2 y6 y5 v2 h
set_option maxRecDepth 20000 in
set_option maxHeartbeats 4000000 in
theorem w_X2_forceOf_a_44 {x : tg_X} {Sf : tg_S} {r : Int32} (X : tg_M tauC x cX2_forceOf 8 RX2 zr_X2_forceOf (some .int) Sf (some (.int r))) (S : tg_S) (v2 : Int32) (v3 : Int32) (v4 : Int32) (s0 : Int32) (h : f_X2_forceOf_44 35 11 S v2 v3 v4 s0 = some (Sf, r)) : tg_G tauC x S 44 [(0, .ref (tg_ad x 35)), (1, .ref (tg_ad x 11)), (2, .int v2), (3, .int v3), (4, .int v4)] [.int s0] := by
  unfold f_X2_forceOf_44 at h
  refine tg_istore (lv2 := [(5, .int s0), (0, .ref (tg_ad x 35)), (1, .ref (tg_ad x 11)), (2, .int v2), (3, .int v3), (4, .int v4)]) X dX2_forceOf_44 (by decide) rfl ?_
  refine tg_iload_n X dX2_forceOf_46 rfl 4 rfl ?_
  refine tg_if_ne (tgt := 62) X dX2_forceOf_47 (by decide) (fun c1 => ?_) (fun c1 => ?_)
  · have h := tg_ifF c1 h
    refine tg_re [1, 2, 3, 4, 5, 0] rfl ?_
    exact w_X2_forceOf_a_62 X  S v2 v3 v4 s0 h
  · have h := tg_ifT c1 h
    refine tg_iload X dX2_forceOf_50 0 rfl ?_
    refine tg_if_eq (tgt := 62) X dX2_forceOf_52 (by decide) (fun c2 => ?_) (fun c2 => ?_)
    · have h := tg_ifT c2 h
      refine tg_re [1, 2, 3, 4, 5, 0] rfl ?_
      exact w_X2_forceOf_a_62 X  S v2 v3 v4 s0 h
    · have h := tg_ifF c2 h
      refine tg_aload_n X dX2_forceOf_55 rfl 2 rfl ?_
      refine tg_getr X 11 rfl cl_X1 2 (by decide) rfl wf_X2_124 dX2_forceOf_56 ?_
      refine tg_iload_n X dX2_forceOf_59 rfl 3 rfl ?_
      obtain ⟨y3, ey3, by3, h⟩ := tg_rdE h
      refine tg_iald X 14 rfl ey3 by3 dX2_forceOf_60 ?_
      exact tg_iret X h rfl dX2_forceOf_61
set_option maxRecDepth 20000 in
set_option maxHeartbeats 4000000 in
theorem w_X2_forceOf_a_43 {x : tg_X} {Sf : tg_S} {r : Int32} (X : tg_M tauC x cX2_forceOf 8 RX2 zr_X2_forceOf (some .int) Sf (some (.int r))) (S : tg_S) (v2 : Int32) (v3 : Int32) (v4 : Int32) (h : f_X2_forceOf_43 35 11 S v2 v3 v4 = some (Sf, r)) : tg_G tauC x S 43 [(0, .ref (tg_ad x 35)), (1, .ref (tg_ad x 11)), (2, .int v2), (3, .int v3), (4, .int v4)] [] := by
  unfold f_X2_forceOf_43 at h
  refine tg_iconst X dX2_forceOf_43 tk_i0 ?_
  exact w_X2_forceOf_a_44 X  S v2 v3 v4 0 h
set_option maxRecDepth 20000 in
set_option maxHeartbeats 4000000 in
theorem w_X2_forceOf_a_36 {x : tg_X} {Sf : tg_S} {r : Int32} (X : tg_M tauC x cX2_forceOf 8 RX2 zr_X2_forceOf (some .int) Sf (some (.int r))) (S : tg_S) (v2 : Int32) (v3 : Int32) (v4 : Int32) (s0 : Int32) (s1 : Int32) (h : f_X2_forceOf_36 35 11 S v2 v3 v4 s0 s1 = some (Sf, r)) : tg_G tauC x S 36 [(0, .ref (tg_ad x 35)), (1, .ref (tg_ad x 11)), (2, .int v2), (3, .int v3), (4, .int v4)] [.int s0, .int s1] := by
  unfold f_X2_forceOf_36 at h
  refine tg_icmp_ne (tgt := 43) X dX2_forceOf_36 (by decide) (fun c1 => ?_) (fun c1 => ?_)
  · have h := tg_ifF c1 h
    exact w_X2_forceOf_a_43 X  S v2 v3 v4 h
  · have h := tg_ifT c1 h
    refine tg_iconst X dX2_forceOf_39 tk_i1 ?_
    refine tg_goto (tgt := 44) X dX2_forceOf_40 (by decide) ?_
    exact w_X2_forceOf_a_44 X  S v2 v3 v4 1 h
set_option maxRecDepth 20000 in
set_option maxHeartbeats 4000000 in
theorem w_X2_forceOf_a_0 {x : tg_X} {Sf : tg_S} {r : Int32} (X : tg_M tauC x cX2_forceOf 8 RX2 zr_X2_forceOf (some .int) Sf (some (.int r))) (S : tg_S) (v2 : Int32) (v3 : Int32) (h : f_X2_forceOf 35 11 S v2 v3 = some (Sf, r)) : tg_G tauC x S 0 [(0, .ref (tg_ad x 35)), (1, .ref (tg_ad x 11)), (2, .int v2), (3, .int v3)] [] := by
  unfold f_X2_forceOf at h
  refine tg_aload_n X dX2_forceOf_0 rfl 1 rfl ?_
  refine tg_getr X 11 rfl cl_X1 1 (by decide) rfl wf_X2_115 dX2_forceOf_1 ?_
  refine tg_iload_n X dX2_forceOf_4 rfl 2 rfl ?_
  obtain ⟨y1, ey1, by1, h⟩ := tg_rdE h
  refine tg_iald X 13 rfl ey1 by1 dX2_forceOf_5 ?_
  refine tg_istore (lv2 := [(4, .int y1), (0, .ref (tg_ad x 35)), (1, .ref (tg_ad x 11)), (2, .int v2), (3, .int v3)]) X dX2_forceOf_6 (by decide) rfl ?_
  refine tg_iload X dX2_forceOf_8 0 rfl ?_
  refine tg_iconst X dX2_forceOf_10 tk_i2 ?_
  refine tg_icmp_ne (tgt := 43) X dX2_forceOf_11 (by decide) (fun c2 => ?_) (fun c2 => ?_)
  · have h := tg_ifF c2 h
    refine tg_re [1, 2, 3, 4, 0] rfl ?_
    exact w_X2_forceOf_a_43 X  S v2 v3 y1 h
  · have h := tg_ifT c2 h
    refine tg_iload_n X dX2_forceOf_14 rfl 3 rfl ?_
    refine tg_iload_n X dX2_forceOf_15 rfl 3 rfl ?_
    refine tg_bipush X dX2_forceOf_16 tk_b8 ?_
    refine tg_icmp_ge (tgt := 30) X dX2_forceOf_18 (by decide) (fun c3 => ?_) (fun c3 => ?_)
    · have h := tg_ifT c3 h
      refine tg_aload_n X dX2_forceOf_30 rfl 2 rfl ?_
      refine tg_getr X 11 rfl cl_X1 5 (by decide) rfl wf_X2_121 dX2_forceOf_31 ?_
      refine tg_iconst X dX2_forceOf_34 tk_i1 ?_
      obtain ⟨y4, ey4, by4, h⟩ := tg_rdE h
      refine tg_iald X 17 rfl ey4 by4 dX2_forceOf_35 ?_
      refine tg_re [1, 2, 3, 4, 0] rfl ?_
      exact w_X2_forceOf_a_36 X  S v2 v3 y1 y4 v2 h
    · have h := tg_ifF c3 h
      refine tg_aload_n X dX2_forceOf_21 rfl 2 rfl ?_
      refine tg_getr X 11 rfl cl_X1 5 (by decide) rfl wf_X2_121 dX2_forceOf_22 ?_
      refine tg_iconst X dX2_forceOf_25 tk_i0 ?_
      obtain ⟨y5, ey5, by5, h⟩ := tg_rdE h
      refine tg_iald X 17 rfl ey5 by5 dX2_forceOf_26 ?_
      refine tg_goto (tgt := 36) X dX2_forceOf_27 (by decide) ?_
      refine tg_re [1, 2, 3, 4, 0] rfl ?_
      exact w_X2_forceOf_a_36 X  S v2 v3 y1 y5 v2 h
theorem cm_X2_forceOf_a (l : Launch) (D : va_G) (cy : Bool → ClassId) (ad : Nat → Nat) (tS : Nat) {S Sf : tg_S} {v2 : Int32} {v3 : Int32} {r : Int32} (h : f_X2_forceOf 35 11 S v2 v3 = some (Sf, r)) : tg_Met l yX2_forceOf cX2_forceOf 8 (some .int) zr_X2_forceOf tauC D cy ad tS S [.ref (ad 35), .ref (ad 11), .int v2, .int v3] Sf (some (.int r)) := tg_mk (by decide +kernel) trivial (Nat.le_of_ble_eq_true rfl) (fun p e s m args below meth c Q A X => w_X2_forceOf_a_0 X S v2 v3 h)
set_option maxRecDepth 20000 in
set_option maxHeartbeats 4000000 in
theorem w_X2_forceOf_b_177 {x : tg_X} {Sf : tg_S} {r : Int32} (X : tg_M tauC x cX2_forceOf 8 RX2 zr_X2_forceOf (some .int) Sf (some (.int r))) (S : tg_S) (v2 : Int32) (v5 : Int32) (s0 : Int32) (h : f_X2_forceOf_177 42 23 S v2 v5 s0 = some (Sf, r)) : tg_G tauC x S 177 [(1, .ref (tg_ad x 23)), (2, .int v2), (5, .int v5)] [.int s0] := by
  unfold f_X2_forceOf_177 at h
  refine tg_aload_n X dX2_forceOf_177 rfl 0 rfl ?_
  refine tg_getr X 23 rfl cl_X1 2 (by decide) rfl wf_X2_124 dX2_forceOf_178 ?_
  refine tg_iload_n X dX2_forceOf_181 rfl 1 rfl ?_
  obtain ⟨y1, ey1, by1, h⟩ := tg_rdE h
  refine tg_iald X 26 rfl ey1 by1 dX2_forceOf_182 ?_
  refine tg_imul X dX2_forceOf_183 ?_
  refine tg_iload X dX2_forceOf_184 2 rfl ?_
  refine tg_if_eq (tgt := 193) X dX2_forceOf_186 (by decide) (fun c2 => ?_) (fun c2 => ?_)
  · have h := tg_ifT c2 h
    refine tg_iconst X dX2_forceOf_193 tk_i0 ?_
    refine tg_iadd X dX2_forceOf_194 ?_
    exact tg_iret X h rfl dX2_forceOf_195
  · have h := tg_ifF c2 h
    refine tg_iconst X dX2_forceOf_189 tk_i2 ?_
    refine tg_goto (tgt := 194) X dX2_forceOf_190 (by decide) ?_
    refine tg_iadd X dX2_forceOf_194 ?_
    exact tg_iret X h rfl dX2_forceOf_195
set_option maxRecDepth 20000 in
set_option maxHeartbeats 4000000 in
theorem w_X2_forceOf_b_165 {x : tg_X} {Sf : tg_S} {r : Int32} (X : tg_M tauC x cX2_forceOf 8 RX2 zr_X2_forceOf (some .int) Sf (some (.int r))) (S : tg_S) (v2 : Int32) (v5 : Int32) (v7 : Int32) (s0 : Int32) (s1 : Int32) (s2 : Int32) (h : f_X2_forceOf_165 42 23 S v2 v5 v7 s0 s1 s2 = some (Sf, r)) : tg_G tauC x S 165 [(1, .ref (tg_ad x 23)), (2, .int v2), (5, .int v5), (7, .int v7)] [.int s0, .int s1, .int s2, .ref (tg_ad x 48)] := by
  unfold f_X2_forceOf_165 at h
  refine tg_isub X dX2_forceOf_165 ?_
  obtain ⟨S1, eS1, bS1, h⟩ := tg_wrE h
  refine tg_iast X 48 rfl bS1 dX2_forceOf_166 eS1 ?_
  refine tg_iload X dX2_forceOf_167 3 rfl ?_
  refine tg_if_eq (tgt := 176) X dX2_forceOf_169 (by decide) (fun c2 => ?_) (fun c2 => ?_)
  · rw [if_pos c2] at h
    refine tg_iconst X dX2_forceOf_176 tk_i1 ?_
    refine tg_re [0, 1, 2] rfl ?_
    exact w_X2_forceOf_b_177 X  S1 v2 v5 1 h
  · rw [if_neg c2] at h
    refine tg_iconst X dX2_forceOf_172 tk_i2 ?_
    refine tg_goto (tgt := 177) X dX2_forceOf_173 (by decide) ?_
    refine tg_re [0, 1, 2] rfl ?_
    exact w_X2_forceOf_b_177 X  S1 v2 v5 2 h
set_option maxRecDepth 20000 in
set_option maxHeartbeats 4000000 in
theorem w_X2_forceOf_b_145 {x : tg_X} {Sf : tg_S} {r : Int32} (X : tg_M tauC x cX2_forceOf 8 RX2 zr_X2_forceOf (some .int) Sf (some (.int r))) (S : tg_S) (v2 : Int32) (v5 : Int32) (v6 : Int32) (s0 : Int32) (h : f_X2_forceOf_145 42 23 S v2 v5 v6 s0 = some (Sf, r)) : tg_G tauC x S 145 [(0, .ref (tg_ad x 42)), (1, .ref (tg_ad x 23)), (2, .int v2), (5, .int v5), (6, .int v6)] [.int s0] := by
  unfold f_X2_forceOf_145 at h
  refine tg_istore (lv2 := [(7, .int s0), (0, .ref (tg_ad x 42)), (1, .ref (tg_ad x 23)), (2, .int v2), (5, .int v5), (6, .int v6)]) X dX2_forceOf_145 (by decide) rfl ?_
  refine tg_aload_n X dX2_forceOf_147 rfl 1 rfl ?_
  refine tg_getr X 42 rfl cl_X2 7 (by decide) rfl wf_X2_34 dX2_forceOf_148 ?_
  refine tg_iload_n X dX2_forceOf_151 rfl 3 rfl ?_
  refine tg_dup2 X dX2_forceOf_152 rfl rfl ?_
  obtain ⟨y1, ey1, by1, h⟩ := tg_rdE h
  refine tg_iald X 48 rfl ey1 by1 dX2_forceOf_153 ?_
  refine tg_iload X dX2_forceOf_154 0 rfl ?_
  refine tg_if_eq (tgt := 164) X dX2_forceOf_156 (by decide) (fun c2 => ?_) (fun c2 => ?_)
  · rw [if_pos c2] at h
    refine tg_iconst X dX2_forceOf_164 tk_i1 ?_
    refine tg_re [2, 3, 4, 0] rfl ?_
    exact w_X2_forceOf_b_165 X  S v2 v5 s0 1 y1 v2 h
  · rw [if_neg c2] at h
    refine tg_iload X dX2_forceOf_159 5 rfl ?_
    refine tg_goto (tgt := 165) X dX2_forceOf_161 (by decide) ?_
    refine tg_re [2, 3, 4, 0] rfl ?_
    exact w_X2_forceOf_b_165 X  S v2 v5 s0 v6 y1 v2 h
set_option maxRecDepth 20000 in
set_option maxHeartbeats 4000000 in
theorem w_X2_forceOf_b_144 {x : tg_X} {Sf : tg_S} {r : Int32} (X : tg_M tauC x cX2_forceOf 8 RX2 zr_X2_forceOf (some .int) Sf (some (.int r))) (S : tg_S) (v2 : Int32) (v5 : Int32) (v6 : Int32) (h : f_X2_forceOf_144 42 23 S v2 v5 v6 = some (Sf, r)) : tg_G tauC x S 144 [(0, .ref (tg_ad x 42)), (1, .ref (tg_ad x 23)), (2, .int v2), (5, .int v5), (6, .int v6)] [] := by
  unfold f_X2_forceOf_144 at h
  refine tg_iconst X dX2_forceOf_144 tk_i0 ?_
  exact w_X2_forceOf_b_145 X  S v2 v5 v6 0 h
set_option maxRecDepth 20000 in
set_option maxHeartbeats 4000000 in
theorem w_X2_forceOf_b_122 {x : tg_X} {Sf : tg_S} {r : Int32} (X : tg_M tauC x cX2_forceOf 8 RX2 zr_X2_forceOf (some .int) Sf (some (.int r))) (S : tg_S) (v2 : Int32) (v3 : Int32) (v5 : Int32) (s0 : Int32) (h : f_X2_forceOf_122 42 23 S v2 v3 v5 s0 = some (Sf, r)) : tg_G tauC x S 122 [(0, .ref (tg_ad x 42)), (1, .ref (tg_ad x 23)), (2, .int v2), (3, .int v3), (5, .int v5)] [.int s0] := by
  unfold f_X2_forceOf_122 at h
  refine tg_istore (lv2 := [(6, .int s0), (0, .ref (tg_ad x 42)), (1, .ref (tg_ad x 23)), (2, .int v2), (3, .int v3), (5, .int v5)]) X dX2_forceOf_122 (by decide) rfl ?_
  refine tg_iload_n X dX2_forceOf_124 rfl 4 rfl ?_
  refine tg_iconst X dX2_forceOf_125 tk_i2 ?_
  refine tg_icmp_ne (tgt := 144) X dX2_forceOf_126 (by decide) (fun c1 => ?_) (fun c1 => ?_)
  · have h := tg_ifF c1 h
    refine tg_re [1, 2, 3, 5, 0] rfl ?_
    exact w_X2_forceOf_b_144 X  S v2 v5 s0 h
  · have h := tg_ifT c1 h
    refine tg_aload_n X dX2_forceOf_129 rfl 1 rfl ?_
    refine tg_getr X 42 rfl cl_X2 7 (by decide) rfl wf_X2_34 dX2_forceOf_130 ?_
    refine tg_iload_n X dX2_forceOf_133 rfl 3 rfl ?_
    obtain ⟨y2, ey2, by2, h⟩ := tg_rdE h
    refine tg_iald X 48 rfl ey2 by2 dX2_forceOf_134 ?_
    refine tg_iload X dX2_forceOf_135 0 rfl ?_
    refine tg_icmp_lt (tgt := 144) X dX2_forceOf_137 (by decide) (fun c3 => ?_) (fun c3 => ?_)
    · have h := tg_ifT c3 h
      refine tg_re [1, 2, 3, 5, 0] rfl ?_
      exact w_X2_forceOf_b_144 X  S v2 v5 s0 h
    · have h := tg_ifF c3 h
      refine tg_iconst X dX2_forceOf_140 tk_i1 ?_
      refine tg_goto (tgt := 145) X dX2_forceOf_141 (by decide) ?_
      refine tg_re [1, 2, 3, 5, 0] rfl ?_
      exact w_X2_forceOf_b_145 X  S v2 v5 s0 1 h
set_option maxRecDepth 20000 in
set_option maxHeartbeats 4000000 in
theorem w_X2_forceOf_b_94 {x : tg_X} {Sf : tg_S} {r : Int32} (X : tg_M tauC x cX2_forceOf 8 RX2 zr_X2_forceOf (some .int) Sf (some (.int r))) (S : tg_S) (s0 : Int32) (s1 : Int32) (s2 : Int32) (s3 : Int32) (h : f_X2_forceOf_94 42 23 S s0 s1 s2 s3 = some (Sf, r)) : tg_G tauC x S 94 [] [.int s0, .int s1, .int s2, .int s3, .ref (tg_ad x 48)] := by
  unfold f_X2_forceOf_94 at h
  refine tg_iadd X dX2_forceOf_94 ?_
  refine tg_mmin X ⟨wm_X2_99, wt_Mmin, wi_Math, wc_Mmin⟩ ⟨Nat.le_of_ble_eq_true rfl, Nat.le_of_ble_eq_true rfl⟩ dX2_forceOf_95 ?_
  obtain ⟨S1, eS1, bS1, h⟩ := tg_wrE h
  refine tg_iast X 48 rfl bS1 dX2_forceOf_98 eS1 ?_
  refine tg_iconst X dX2_forceOf_99 tk_i0 ?_
  exact tg_iret X h rfl dX2_forceOf_100
set_option maxRecDepth 20000 in
set_option maxHeartbeats 4000000 in
theorem w_X2_forceOf_b_62 {x : tg_X} {Sf : tg_S} {r : Int32} (X : tg_M tauC x cX2_forceOf 8 RX2 zr_X2_forceOf (some .int) Sf (some (.int r))) (S : tg_S) (v2 : Int32) (v3 : Int32) (v4 : Int32) (v5 : Int32) (h : f_X2_forceOf_62 42 23 S v2 v3 v4 v5 = some (Sf, r)) : tg_G tauC x S 62 [(0, .ref (tg_ad x 42)), (1, .ref (tg_ad x 23)), (2, .int v2), (3, .int v3), (4, .int v4), (5, .int v5)] [] := by
  unfold f_X2_forceOf_62 at h
  refine tg_iload_n X dX2_forceOf_62 rfl 3 rfl ?_
  refine tg_if_ne (tgt := 101) X dX2_forceOf_63 (by decide) (fun c1 => ?_) (fun c1 => ?_)
  · have h := tg_ifF c1 h
    refine tg_aload_n X dX2_forceOf_101 rfl 0 rfl ?_
    refine tg_getr X 42 rfl cl_X2 7 (by decide) rfl wf_X2_34 dX2_forceOf_102 ?_
    refine tg_iload_n X dX2_forceOf_105 rfl 2 rfl ?_
    obtain ⟨y2, ey2, by2, h⟩ := tg_rdE h
    refine tg_iald X 48 rfl ey2 by2 dX2_forceOf_106 ?_
    refine tg_if_ne (tgt := 112) X dX2_forceOf_107 (by decide) (fun c3 => ?_) (fun c3 => ?_)
    · have h := tg_ifF c3 h
      refine tg_iload X dX2_forceOf_112 4 rfl ?_
      refine tg_if_ne (tgt := 121) X dX2_forceOf_114 (by decide) (fun c4 => ?_) (fun c4 => ?_)
      · rw [if_neg c4] at h
        refine tg_iconst X dX2_forceOf_121 tk_i2 ?_
        refine tg_re [0, 1, 2, 3, 5] rfl ?_
        exact w_X2_forceOf_b_122 X  S v2 v3 v5 2 h
      · rw [if_pos c4] at h
        refine tg_iconst X dX2_forceOf_117 tk_i1 ?_
        refine tg_goto (tgt := 122) X dX2_forceOf_118 (by decide) ?_
        refine tg_re [0, 1, 2, 3, 5] rfl ?_
        exact w_X2_forceOf_b_122 X  S v2 v3 v5 1 h
    · have h := tg_ifT c3 h
      refine tg_iconst X dX2_forceOf_110 tk_i0 ?_
      exact tg_iret X h rfl dX2_forceOf_111
  · have h := tg_ifT c1 h
    refine tg_aload_n X dX2_forceOf_66 rfl 0 rfl ?_
    refine tg_getr X 42 rfl cl_X2 7 (by decide) rfl wf_X2_34 dX2_forceOf_67 ?_
    refine tg_iload_n X dX2_forceOf_70 rfl 2 rfl ?_
    refine tg_aload_n X dX2_forceOf_71 rfl 1 rfl ?_
    refine tg_getr X 23 rfl cl_X1 3 (by decide) rfl wf_X2_55 dX2_forceOf_72 ?_
    refine tg_iload_n X dX2_forceOf_75 rfl 2 rfl ?_
    obtain ⟨y5, ey5, by5, h⟩ := tg_rdE h
    refine tg_iald X 27 rfl ey5 by5 dX2_forceOf_76 ?_
    refine tg_aload_n X dX2_forceOf_77 rfl 0 rfl ?_
    refine tg_getr X 42 rfl cl_X2 7 (by decide) rfl wf_X2_34 dX2_forceOf_78 ?_
    refine tg_iload_n X dX2_forceOf_81 rfl 2 rfl ?_
    obtain ⟨y6, ey6, by6, h⟩ := tg_rdE h
    refine tg_iald X 48 rfl ey6 by6 dX2_forceOf_82 ?_
    refine tg_iload X dX2_forceOf_83 4 rfl ?_
    refine tg_iconst X dX2_forceOf_85 tk_i1 ?_
    refine tg_icmp_ne (tgt := 93) X dX2_forceOf_86 (by decide) (fun c7 => ?_) (fun c7 => ?_)
    · rw [if_neg c7] at h
      refine tg_iconst X dX2_forceOf_93 tk_i1 ?_
      refine tg_re [] rfl ?_
      exact w_X2_forceOf_b_94 X  S 1 y6 y5 v2 h
    · rw [if_pos c7] at h
      refine tg_iconst X dX2_forceOf_89 tk_i2 ?_
      refine tg_goto (tgt := 94) X dX2_forceOf_90 (by decide) ?_
      refine tg_re [] rfl ?_
      exact w_X2_forceOf_b_94 X  S 2 y6 y5 v2 h
set_option maxRecDepth 20000 in
set_option maxHeartbeats 4000000 in
theorem w_X2_forceOf_b_44 {x : tg_X} {Sf : tg_S} {r : Int32} (X : tg_M tauC x cX2_forceOf 8 RX2 zr_X2_forceOf (some .int) Sf (some (.int r))) (S : tg_S) (v2 : Int32) (v3 : Int32) (v4 : Int32) (s0 : Int32) (h : f_X2_forceOf_44 42 23 S v2 v3 v4 s0 = some (Sf, r)) : tg_G tauC x S 44 [(0, .ref (tg_ad x 42)), (1, .ref (tg_ad x 23)), (2, .int v2), (3, .int v3), (4, .int v4)] [.int s0] := by
  unfold f_X2_forceOf_44 at h
  refine tg_istore (lv2 := [(5, .int s0), (0, .ref (tg_ad x 42)), (1, .ref (tg_ad x 23)), (2, .int v2), (3, .int v3), (4, .int v4)]) X dX2_forceOf_44 (by decide) rfl ?_
  refine tg_iload_n X dX2_forceOf_46 rfl 4 rfl ?_
  refine tg_if_ne (tgt := 62) X dX2_forceOf_47 (by decide) (fun c1 => ?_) (fun c1 => ?_)
  · have h := tg_ifF c1 h
    refine tg_re [1, 2, 3, 4, 5, 0] rfl ?_
    exact w_X2_forceOf_b_62 X  S v2 v3 v4 s0 h
  · have h := tg_ifT c1 h
    refine tg_iload X dX2_forceOf_50 0 rfl ?_
    refine tg_if_eq (tgt := 62) X dX2_forceOf_52 (by decide) (fun c2 => ?_) (fun c2 => ?_)
    · have h := tg_ifT c2 h
      refine tg_re [1, 2, 3, 4, 5, 0] rfl ?_
      exact w_X2_forceOf_b_62 X  S v2 v3 v4 s0 h
    · have h := tg_ifF c2 h
      refine tg_aload_n X dX2_forceOf_55 rfl 2 rfl ?_
      refine tg_getr X 23 rfl cl_X1 2 (by decide) rfl wf_X2_124 dX2_forceOf_56 ?_
      refine tg_iload_n X dX2_forceOf_59 rfl 3 rfl ?_
      obtain ⟨y3, ey3, by3, h⟩ := tg_rdE h
      refine tg_iald X 26 rfl ey3 by3 dX2_forceOf_60 ?_
      exact tg_iret X h rfl dX2_forceOf_61
set_option maxRecDepth 20000 in
set_option maxHeartbeats 4000000 in
theorem w_X2_forceOf_b_43 {x : tg_X} {Sf : tg_S} {r : Int32} (X : tg_M tauC x cX2_forceOf 8 RX2 zr_X2_forceOf (some .int) Sf (some (.int r))) (S : tg_S) (v2 : Int32) (v3 : Int32) (v4 : Int32) (h : f_X2_forceOf_43 42 23 S v2 v3 v4 = some (Sf, r)) : tg_G tauC x S 43 [(0, .ref (tg_ad x 42)), (1, .ref (tg_ad x 23)), (2, .int v2), (3, .int v3), (4, .int v4)] [] := by
  unfold f_X2_forceOf_43 at h
  refine tg_iconst X dX2_forceOf_43 tk_i0 ?_
  exact w_X2_forceOf_b_44 X  S v2 v3 v4 0 h
set_option maxRecDepth 20000 in
set_option maxHeartbeats 4000000 in
theorem w_X2_forceOf_b_36 {x : tg_X} {Sf : tg_S} {r : Int32} (X : tg_M tauC x cX2_forceOf 8 RX2 zr_X2_forceOf (some .int) Sf (some (.int r))) (S : tg_S) (v2 : Int32) (v3 : Int32) (v4 : Int32) (s0 : Int32) (s1 : Int32) (h : f_X2_forceOf_36 42 23 S v2 v3 v4 s0 s1 = some (Sf, r)) : tg_G tauC x S 36 [(0, .ref (tg_ad x 42)), (1, .ref (tg_ad x 23)), (2, .int v2), (3, .int v3), (4, .int v4)] [.int s0, .int s1] := by
  unfold f_X2_forceOf_36 at h
  refine tg_icmp_ne (tgt := 43) X dX2_forceOf_36 (by decide) (fun c1 => ?_) (fun c1 => ?_)
  · have h := tg_ifF c1 h
    exact w_X2_forceOf_b_43 X  S v2 v3 v4 h
  · have h := tg_ifT c1 h
    refine tg_iconst X dX2_forceOf_39 tk_i1 ?_
    refine tg_goto (tgt := 44) X dX2_forceOf_40 (by decide) ?_
    exact w_X2_forceOf_b_44 X  S v2 v3 v4 1 h
set_option maxRecDepth 20000 in
set_option maxHeartbeats 4000000 in
theorem w_X2_forceOf_b_0 {x : tg_X} {Sf : tg_S} {r : Int32} (X : tg_M tauC x cX2_forceOf 8 RX2 zr_X2_forceOf (some .int) Sf (some (.int r))) (S : tg_S) (v2 : Int32) (v3 : Int32) (h : f_X2_forceOf 42 23 S v2 v3 = some (Sf, r)) : tg_G tauC x S 0 [(0, .ref (tg_ad x 42)), (1, .ref (tg_ad x 23)), (2, .int v2), (3, .int v3)] [] := by
  unfold f_X2_forceOf at h
  refine tg_aload_n X dX2_forceOf_0 rfl 1 rfl ?_
  refine tg_getr X 23 rfl cl_X1 1 (by decide) rfl wf_X2_115 dX2_forceOf_1 ?_
  refine tg_iload_n X dX2_forceOf_4 rfl 2 rfl ?_
  obtain ⟨y1, ey1, by1, h⟩ := tg_rdE h
  refine tg_iald X 25 rfl ey1 by1 dX2_forceOf_5 ?_
  refine tg_istore (lv2 := [(4, .int y1), (0, .ref (tg_ad x 42)), (1, .ref (tg_ad x 23)), (2, .int v2), (3, .int v3)]) X dX2_forceOf_6 (by decide) rfl ?_
  refine tg_iload X dX2_forceOf_8 0 rfl ?_
  refine tg_iconst X dX2_forceOf_10 tk_i2 ?_
  refine tg_icmp_ne (tgt := 43) X dX2_forceOf_11 (by decide) (fun c2 => ?_) (fun c2 => ?_)
  · have h := tg_ifF c2 h
    refine tg_re [1, 2, 3, 4, 0] rfl ?_
    exact w_X2_forceOf_b_43 X  S v2 v3 y1 h
  · have h := tg_ifT c2 h
    refine tg_iload_n X dX2_forceOf_14 rfl 3 rfl ?_
    refine tg_iload_n X dX2_forceOf_15 rfl 3 rfl ?_
    refine tg_bipush X dX2_forceOf_16 tk_b8 ?_
    refine tg_icmp_ge (tgt := 30) X dX2_forceOf_18 (by decide) (fun c3 => ?_) (fun c3 => ?_)
    · have h := tg_ifT c3 h
      refine tg_aload_n X dX2_forceOf_30 rfl 2 rfl ?_
      refine tg_getr X 23 rfl cl_X1 5 (by decide) rfl wf_X2_121 dX2_forceOf_31 ?_
      refine tg_iconst X dX2_forceOf_34 tk_i1 ?_
      obtain ⟨y4, ey4, by4, h⟩ := tg_rdE h
      refine tg_iald X 29 rfl ey4 by4 dX2_forceOf_35 ?_
      refine tg_re [1, 2, 3, 4, 0] rfl ?_
      exact w_X2_forceOf_b_36 X  S v2 v3 y1 y4 v2 h
    · have h := tg_ifF c3 h
      refine tg_aload_n X dX2_forceOf_21 rfl 2 rfl ?_
      refine tg_getr X 23 rfl cl_X1 5 (by decide) rfl wf_X2_121 dX2_forceOf_22 ?_
      refine tg_iconst X dX2_forceOf_25 tk_i0 ?_
      obtain ⟨y5, ey5, by5, h⟩ := tg_rdE h
      refine tg_iald X 29 rfl ey5 by5 dX2_forceOf_26 ?_
      refine tg_goto (tgt := 36) X dX2_forceOf_27 (by decide) ?_
      refine tg_re [1, 2, 3, 4, 0] rfl ?_
      exact w_X2_forceOf_b_36 X  S v2 v3 y1 y5 v2 h
theorem cm_X2_forceOf_b (l : Launch) (D : va_G) (cy : Bool → ClassId) (ad : Nat → Nat) (tS : Nat) {S Sf : tg_S} {v2 : Int32} {v3 : Int32} {r : Int32} (h : f_X2_forceOf 42 23 S v2 v3 = some (Sf, r)) : tg_Met l yX2_forceOf cX2_forceOf 8 (some .int) zr_X2_forceOf tauC D cy ad tS S [.ref (ad 42), .ref (ad 23), .int v2, .int v3] Sf (some (.int r)) := tg_mk (by decide +kernel) trivial (Nat.le_of_ble_eq_true rfl) (fun p e s m args below meth c Q A X => w_X2_forceOf_b_0 X S v2 v3 h)
-- X2_pullOfTeam
def zr_X2_pullOfTeam : Room := { frames := 2, cells := 0, slots := 0, locals := 42 }
theorem dX2_pullOfTeam_0 : decode cX2_pullOfTeam 0 = .ok (.aload_n 0, 1) := by decide +kernel
theorem dX2_pullOfTeam_1 : decode cX2_pullOfTeam 1 = .ok (.getfield 46, 3) := by decide +kernel
theorem dX2_pullOfTeam_4 : decode cX2_pullOfTeam 4 = .ok (.ifCond .eq 7, 3) := by decide +kernel
theorem dX2_pullOfTeam_7 : decode cX2_pullOfTeam 7 = .ok (.iconst 0, 1) := by decide +kernel
theorem dX2_pullOfTeam_8 : decode cX2_pullOfTeam 8 = .ok (.goto 14, 3) := by decide +kernel
theorem dX2_pullOfTeam_11 : decode cX2_pullOfTeam 11 = .ok (.aload_n 1, 1) := by decide +kernel
theorem dX2_pullOfTeam_12 : decode cX2_pullOfTeam 12 = .ok (.getfield 105, 3) := by decide +kernel
theorem dX2_pullOfTeam_15 : decode cX2_pullOfTeam 15 = .ok (.iload_n 2, 1) := by decide +kernel
theorem dX2_pullOfTeam_16 : decode cX2_pullOfTeam 16 = .ok (.bipush 24, 2) := by decide +kernel
theorem dX2_pullOfTeam_18 : decode cX2_pullOfTeam 18 = .ok (.imul, 1) := by decide +kernel
theorem dX2_pullOfTeam_19 : decode cX2_pullOfTeam 19 = .ok (.iload_n 3, 1) := by decide +kernel
theorem dX2_pullOfTeam_20 : decode cX2_pullOfTeam 20 = .ok (.iadd, 1) := by decide +kernel
theorem dX2_pullOfTeam_21 : decode cX2_pullOfTeam 21 = .ok (.iaload, 1) := by decide +kernel
theorem dX2_pullOfTeam_22 : decode cX2_pullOfTeam 22 = .ok (.istore 4, 2) := by decide +kernel
theorem dX2_pullOfTeam_24 : decode cX2_pullOfTeam 24 = .ok (.iconst 0, 1) := by decide +kernel
theorem dX2_pullOfTeam_25 : decode cX2_pullOfTeam 25 = .ok (.istore 5, 2) := by decide +kernel
theorem dX2_pullOfTeam_27 : decode cX2_pullOfTeam 27 = .ok (.iload_n 2, 1) := by decide +kernel
theorem dX2_pullOfTeam_28 : decode cX2_pullOfTeam 28 = .ok (.bipush 8, 2) := by decide +kernel
theorem dX2_pullOfTeam_30 : decode cX2_pullOfTeam 30 = .ok (.imul, 1) := by decide +kernel
theorem dX2_pullOfTeam_31 : decode cX2_pullOfTeam 31 = .ok (.istore 6, 2) := by decide +kernel
theorem dX2_pullOfTeam_33 : decode cX2_pullOfTeam 33 = .ok (.iload 6, 2) := by decide +kernel
theorem dX2_pullOfTeam_35 : decode cX2_pullOfTeam 35 = .ok (.iload_n 2, 1) := by decide +kernel
theorem dX2_pullOfTeam_36 : decode cX2_pullOfTeam 36 = .ok (.bipush 8, 2) := by decide +kernel
theorem dX2_pullOfTeam_38 : decode cX2_pullOfTeam 38 = .ok (.imul, 1) := by decide +kernel
theorem dX2_pullOfTeam_39 : decode cX2_pullOfTeam 39 = .ok (.bipush 8, 2) := by decide +kernel
theorem dX2_pullOfTeam_41 : decode cX2_pullOfTeam 41 = .ok (.iadd, 1) := by decide +kernel
theorem dX2_pullOfTeam_42 : decode cX2_pullOfTeam 42 = .ok (.if_icmp .ge 136, 3) := by decide +kernel
theorem dX2_pullOfTeam_45 : decode cX2_pullOfTeam 45 = .ok (.aload_n 1, 1) := by decide +kernel
theorem dX2_pullOfTeam_46 : decode cX2_pullOfTeam 46 = .ok (.getfield 108, 3) := by decide +kernel
theorem dX2_pullOfTeam_49 : decode cX2_pullOfTeam 49 = .ok (.iload 6, 2) := by decide +kernel
theorem dX2_pullOfTeam_51 : decode cX2_pullOfTeam 51 = .ok (.baload, 1) := by decide +kernel
theorem dX2_pullOfTeam_52 : decode cX2_pullOfTeam 52 = .ok (.ifCond .eq 120, 3) := by decide +kernel
theorem dX2_pullOfTeam_55 : decode cX2_pullOfTeam 55 = .ok (.aload_n 0, 1) := by decide +kernel
theorem dX2_pullOfTeam_56 : decode cX2_pullOfTeam 56 = .ok (.getfield 43, 3) := by decide +kernel
theorem dX2_pullOfTeam_59 : decode cX2_pullOfTeam 59 = .ok (.iload 6, 2) := by decide +kernel
theorem dX2_pullOfTeam_61 : decode cX2_pullOfTeam 61 = .ok (.ishr, 1) := by decide +kernel
theorem dX2_pullOfTeam_62 : decode cX2_pullOfTeam 62 = .ok (.iconst 1, 1) := by decide +kernel
theorem dX2_pullOfTeam_63 : decode cX2_pullOfTeam 63 = .ok (.iand, 1) := by decide +kernel
theorem dX2_pullOfTeam_64 : decode cX2_pullOfTeam 64 = .ok (.ifCond .eq 7, 3) := by decide +kernel
theorem dX2_pullOfTeam_67 : decode cX2_pullOfTeam 67 = .ok (.iconst 1, 1) := by decide +kernel
theorem dX2_pullOfTeam_68 : decode cX2_pullOfTeam 68 = .ok (.goto 4, 3) := by decide +kernel
theorem dX2_pullOfTeam_71 : decode cX2_pullOfTeam 71 = .ok (.iconst 0, 1) := by decide +kernel
theorem dX2_pullOfTeam_72 : decode cX2_pullOfTeam 72 = .ok (.istore 7, 2) := by decide +kernel
theorem dX2_pullOfTeam_74 : decode cX2_pullOfTeam 74 = .ok (.iload 7, 2) := by decide +kernel
theorem dX2_pullOfTeam_76 : decode cX2_pullOfTeam 76 = .ok (.ifCond .eq 7, 3) := by decide +kernel
theorem dX2_pullOfTeam_79 : decode cX2_pullOfTeam 79 = .ok (.iconst 0, 1) := by decide +kernel
theorem dX2_pullOfTeam_80 : decode cX2_pullOfTeam 80 = .ok (.goto 12, 3) := by decide +kernel
theorem dX2_pullOfTeam_83 : decode cX2_pullOfTeam 83 = .ok (.aload_n 0, 1) := by decide +kernel
theorem dX2_pullOfTeam_84 : decode cX2_pullOfTeam 84 = .ok (.aload_n 1, 1) := by decide +kernel
theorem dX2_pullOfTeam_85 : decode cX2_pullOfTeam 85 = .ok (.iload 6, 2) := by decide +kernel
theorem dX2_pullOfTeam_87 : decode cX2_pullOfTeam 87 = .ok (.iload 4, 2) := by decide +kernel
theorem dX2_pullOfTeam_89 : decode cX2_pullOfTeam 89 = .ok (.invokevirtual 112, 3) := by decide +kernel
theorem dX2_pullOfTeam_92 : decode cX2_pullOfTeam 92 = .ok (.istore 8, 2) := by decide +kernel
theorem dX2_pullOfTeam_94 : decode cX2_pullOfTeam 94 = .ok (.aload_n 1, 1) := by decide +kernel
theorem dX2_pullOfTeam_95 : decode cX2_pullOfTeam 95 = .ok (.getfield 115, 3) := by decide +kernel
theorem dX2_pullOfTeam_98 : decode cX2_pullOfTeam 98 = .ok (.iload 6, 2) := by decide +kernel
theorem dX2_pullOfTeam_100 : decode cX2_pullOfTeam 100 = .ok (.iaload, 1) := by decide +kernel
theorem dX2_pullOfTeam_101 : decode cX2_pullOfTeam 101 = .ok (.iconst 2, 1) := by decide +kernel
theorem dX2_pullOfTeam_102 : decode cX2_pullOfTeam 102 = .ok (.if_icmp .ne 7, 3) := by decide +kernel
theorem dX2_pullOfTeam_105 : decode cX2_pullOfTeam 105 = .ok (.iconst 0, 1) := by decide +kernel
theorem dX2_pullOfTeam_106 : decode cX2_pullOfTeam 106 = .ok (.goto 7, 3) := by decide +kernel
theorem dX2_pullOfTeam_109 : decode cX2_pullOfTeam 109 = .ok (.aload_n 0, 1) := by decide +kernel
theorem dX2_pullOfTeam_110 : decode cX2_pullOfTeam 110 = .ok (.getfield 40, 3) := by decide +kernel
theorem dX2_pullOfTeam_113 : decode cX2_pullOfTeam 113 = .ok (.istore 9, 2) := by decide +kernel
theorem dX2_pullOfTeam_115 : decode cX2_pullOfTeam 115 = .ok (.aload_n 0, 1) := by decide +kernel
theorem dX2_pullOfTeam_116 : decode cX2_pullOfTeam 116 = .ok (.getfield 21, 3) := by decide +kernel
theorem dX2_pullOfTeam_119 : decode cX2_pullOfTeam 119 = .ok (.iload 6, 2) := by decide +kernel
theorem dX2_pullOfTeam_121 : decode cX2_pullOfTeam 121 = .ok (.bipush 24, 2) := by decide +kernel
theorem dX2_pullOfTeam_123 : decode cX2_pullOfTeam 123 = .ok (.imul, 1) := by decide +kernel
theorem dX2_pullOfTeam_124 : decode cX2_pullOfTeam 124 = .ok (.iload_n 3, 1) := by decide +kernel
theorem dX2_pullOfTeam_125 : decode cX2_pullOfTeam 125 = .ok (.iadd, 1) := by decide +kernel
theorem dX2_pullOfTeam_126 : decode cX2_pullOfTeam 126 = .ok (.iconst 0, 1) := by decide +kernel
theorem dX2_pullOfTeam_127 : decode cX2_pullOfTeam 127 = .ok (.iload 8, 2) := by decide +kernel
theorem dX2_pullOfTeam_129 : decode cX2_pullOfTeam 129 = .ok (.iload 9, 2) := by decide +kernel
theorem dX2_pullOfTeam_131 : decode cX2_pullOfTeam 131 = .ok (.isub, 1) := by decide +kernel
theorem dX2_pullOfTeam_132 : decode cX2_pullOfTeam 132 = .ok (.invokestatic 118, 3) := by decide +kernel
theorem dX2_pullOfTeam_135 : decode cX2_pullOfTeam 135 = .ok (.iastore, 1) := by decide +kernel
theorem dX2_pullOfTeam_136 : decode cX2_pullOfTeam 136 = .ok (.aload_n 0, 1) := by decide +kernel
theorem dX2_pullOfTeam_137 : decode cX2_pullOfTeam 137 = .ok (.getfield 24, 3) := by decide +kernel
theorem dX2_pullOfTeam_140 : decode cX2_pullOfTeam 140 = .ok (.iload 6, 2) := by decide +kernel
theorem dX2_pullOfTeam_142 : decode cX2_pullOfTeam 142 = .ok (.bipush 24, 2) := by decide +kernel
theorem dX2_pullOfTeam_144 : decode cX2_pullOfTeam 144 = .ok (.imul, 1) := by decide +kernel
theorem dX2_pullOfTeam_145 : decode cX2_pullOfTeam 145 = .ok (.iload_n 3, 1) := by decide +kernel
theorem dX2_pullOfTeam_146 : decode cX2_pullOfTeam 146 = .ok (.iadd, 1) := by decide +kernel
theorem dX2_pullOfTeam_147 : decode cX2_pullOfTeam 147 = .ok (.aload_n 0, 1) := by decide +kernel
theorem dX2_pullOfTeam_148 : decode cX2_pullOfTeam 148 = .ok (.getfield 34, 3) := by decide +kernel
theorem dX2_pullOfTeam_151 : decode cX2_pullOfTeam 151 = .ok (.iload 6, 2) := by decide +kernel
theorem dX2_pullOfTeam_153 : decode cX2_pullOfTeam 153 = .ok (.iaload, 1) := by decide +kernel
theorem dX2_pullOfTeam_154 : decode cX2_pullOfTeam 154 = .ok (.iastore, 1) := by decide +kernel
theorem dX2_pullOfTeam_155 : decode cX2_pullOfTeam 155 = .ok (.iload 5, 2) := by decide +kernel
theorem dX2_pullOfTeam_157 : decode cX2_pullOfTeam 157 = .ok (.aload_n 0, 1) := by decide +kernel
theorem dX2_pullOfTeam_158 : decode cX2_pullOfTeam 158 = .ok (.getfield 21, 3) := by decide +kernel
theorem dX2_pullOfTeam_161 : decode cX2_pullOfTeam 161 = .ok (.iload 6, 2) := by decide +kernel
theorem dX2_pullOfTeam_163 : decode cX2_pullOfTeam 163 = .ok (.bipush 24, 2) := by decide +kernel
theorem dX2_pullOfTeam_165 : decode cX2_pullOfTeam 165 = .ok (.imul, 1) := by decide +kernel
theorem dX2_pullOfTeam_166 : decode cX2_pullOfTeam 166 = .ok (.iload_n 3, 1) := by decide +kernel
theorem dX2_pullOfTeam_167 : decode cX2_pullOfTeam 167 = .ok (.iadd, 1) := by decide +kernel
theorem dX2_pullOfTeam_168 : decode cX2_pullOfTeam 168 = .ok (.iaload, 1) := by decide +kernel
theorem dX2_pullOfTeam_169 : decode cX2_pullOfTeam 169 = .ok (.iadd, 1) := by decide +kernel
theorem dX2_pullOfTeam_170 : decode cX2_pullOfTeam 170 = .ok (.istore 5, 2) := by decide +kernel
theorem dX2_pullOfTeam_172 : decode cX2_pullOfTeam 172 = .ok (.iinc 6 1, 3) := by decide +kernel
theorem dX2_pullOfTeam_175 : decode cX2_pullOfTeam 175 = .ok (.goto (-142), 3) := by decide +kernel
theorem dX2_pullOfTeam_178 : decode cX2_pullOfTeam 178 = .ok (.iload 5, 2) := by decide +kernel
theorem dX2_pullOfTeam_180 : decode cX2_pullOfTeam 180 = .ok (.ireturn, 1) := by decide +kernel
set_option maxRecDepth 20000 in
set_option maxHeartbeats 4000000 in
theorem w_X2_pullOfTeam_a_172 {x : tg_X} {Sf : tg_S} {r : Int32} {rec33 : tg_S → Int32 → Int32 → Int32 → Int32 → Int32 → Option (tg_S × Int32)} (X : tg_M tauC x cX2_pullOfTeam 10 RX2 zr_X2_pullOfTeam (some .int) Sf (some (.int r))) (hr33 : ∀ (S : tg_S) (v2 : Int32) (v3 : Int32) (v4 : Int32) (v5 : Int32) (v6 : Int32), rec33 S v2 v3 v4 v5 v6 = some (Sf, r) → tg_G tauC x S 33 [(0, .ref (tg_ad x 35)), (1, .ref (tg_ad x 11)), (2, .int v2), (3, .int v3), (4, .int v4), (5, .int v5), (6, .int v6)] []) (S : tg_S) (v2 : Int32) (v3 : Int32) (v4 : Int32) (v5 : Int32) (v6 : Int32) (h : f_X2_pullOfTeam_172 35 11 rec33 S v2 v3 v4 v5 v6 = some (Sf, r)) : tg_G tauC x S 172 [(0, .ref (tg_ad x 35)), (1, .ref (tg_ad x 11)), (2, .int v2), (3, .int v3), (4, .int v4), (5, .int v5), (6, .int v6)] [] := by
  unfold f_X2_pullOfTeam_172 at h
  obtain ⟨y1, ey1⟩ : ∃ z : Int32, z = v6 + 1 := ⟨_, rfl⟩
  have h := tg_nmE ey1 h
  refine tg_iinc (lv2 := [(6, .int y1), (0, .ref (tg_ad x 35)), (1, .ref (tg_ad x 11)), (2, .int v2), (3, .int v3), (4, .int v4), (5, .int v5)]) X dX2_pullOfTeam_172 6 rfl tk_i1 ey1 (by decide) rfl ?_
  refine tg_goto (tgt := 33) X dX2_pullOfTeam_175 (by decide) ?_
  refine tg_re [1, 2, 3, 4, 5, 6, 0] rfl ?_
  exact hr33 S v2 v3 v4 v5 y1 h
set_option maxRecDepth 20000 in
set_option maxHeartbeats 4000000 in
theorem w_X2_pullOfTeam_a_113 {x : tg_X} {Sf : tg_S} {r : Int32} {rec33 : tg_S → Int32 → Int32 → Int32 → Int32 → Int32 → Option (tg_S × Int32)} (X : tg_M tauC x cX2_pullOfTeam 10 RX2 zr_X2_pullOfTeam (some .int) Sf (some (.int r))) (hr33 : ∀ (S : tg_S) (v2 : Int32) (v3 : Int32) (v4 : Int32) (v5 : Int32) (v6 : Int32), rec33 S v2 v3 v4 v5 v6 = some (Sf, r) → tg_G tauC x S 33 [(0, .ref (tg_ad x 35)), (1, .ref (tg_ad x 11)), (2, .int v2), (3, .int v3), (4, .int v4), (5, .int v5), (6, .int v6)] []) (S : tg_S) (v2 : Int32) (v3 : Int32) (v4 : Int32) (v5 : Int32) (v6 : Int32) (v8 : Int32) (s0 : Int32) (h : f_X2_pullOfTeam_113 35 11 rec33 S v2 v3 v4 v5 v6 v8 s0 = some (Sf, r)) : tg_G tauC x S 113 [(0, .ref (tg_ad x 35)), (1, .ref (tg_ad x 11)), (2, .int v2), (3, .int v3), (4, .int v4), (5, .int v5), (6, .int v6), (8, .int v8)] [.int s0] := by
  unfold f_X2_pullOfTeam_113 at h
  refine tg_istore (lv2 := [(9, .int s0), (0, .ref (tg_ad x 35)), (1, .ref (tg_ad x 11)), (2, .int v2), (3, .int v3), (4, .int v4), (5, .int v5), (6, .int v6), (8, .int v8)]) X dX2_pullOfTeam_113 (by decide) rfl ?_
  refine tg_aload_n X dX2_pullOfTeam_115 rfl 1 rfl ?_
  refine tg_getr X 35 rfl cl_X2 3 (by decide) rfl wf_X2_21 dX2_pullOfTeam_116 ?_
  refine tg_iload X dX2_pullOfTeam_119 7 rfl ?_
  refine tg_bipush X dX2_pullOfTeam_121 tk_b24 ?_
  refine tg_imul X dX2_pullOfTeam_123 ?_
  refine tg_iload_n X dX2_pullOfTeam_124 rfl 4 rfl ?_
  refine tg_iadd X dX2_pullOfTeam_125 ?_
  refine tg_iconst X dX2_pullOfTeam_126 tk_i0 ?_
  refine tg_iload X dX2_pullOfTeam_127 8 rfl ?_
  refine tg_iload X dX2_pullOfTeam_129 0 rfl ?_
  refine tg_isub X dX2_pullOfTeam_131 ?_
  refine tg_mmax X ⟨wm_X2_118, wt_Mmax, wi_Math, wc_Mmax⟩ ⟨Nat.le_of_ble_eq_true rfl, Nat.le_of_ble_eq_true rfl⟩ dX2_pullOfTeam_132 ?_
  obtain ⟨S1, eS1, bS1, h⟩ := tg_wrE h
  refine tg_iast X 39 rfl bS1 dX2_pullOfTeam_135 eS1 ?_
  refine tg_aload_n X dX2_pullOfTeam_136 rfl 1 rfl ?_
  refine tg_getr X 35 rfl cl_X2 4 (by decide) rfl wf_X2_24 dX2_pullOfTeam_137 ?_
  refine tg_iload X dX2_pullOfTeam_140 7 rfl ?_
  refine tg_bipush X dX2_pullOfTeam_142 tk_b24 ?_
  refine tg_imul X dX2_pullOfTeam_144 ?_
  refine tg_iload_n X dX2_pullOfTeam_145 rfl 4 rfl ?_
  refine tg_iadd X dX2_pullOfTeam_146 ?_
  refine tg_aload_n X dX2_pullOfTeam_147 rfl 1 rfl ?_
  refine tg_getr X 35 rfl cl_X2 7 (by decide) rfl wf_X2_34 dX2_pullOfTeam_148 ?_
  refine tg_iload X dX2_pullOfTeam_151 7 rfl ?_
  obtain ⟨y2, ey2, by2, h⟩ := tg_rdE h
  refine tg_iald X 41 rfl ey2 by2 dX2_pullOfTeam_153 ?_
  obtain ⟨S3, eS3, bS3, h⟩ := tg_wrE h
  refine tg_iast X 40 rfl bS3 dX2_pullOfTeam_154 eS3 ?_
  refine tg_iload X dX2_pullOfTeam_155 6 rfl ?_
  refine tg_aload_n X dX2_pullOfTeam_157 rfl 1 rfl ?_
  refine tg_getr X 35 rfl cl_X2 3 (by decide) rfl wf_X2_21 dX2_pullOfTeam_158 ?_
  refine tg_iload X dX2_pullOfTeam_161 7 rfl ?_
  refine tg_bipush X dX2_pullOfTeam_163 tk_b24 ?_
  refine tg_imul X dX2_pullOfTeam_165 ?_
  refine tg_iload_n X dX2_pullOfTeam_166 rfl 4 rfl ?_
  refine tg_iadd X dX2_pullOfTeam_167 ?_
  obtain ⟨y4, ey4, by4, h⟩ := tg_rdE h
  refine tg_iald X 39 rfl ey4 by4 dX2_pullOfTeam_168 ?_
  refine tg_iadd X dX2_pullOfTeam_169 ?_
  refine tg_topi (fun y5 ey5 => ?_)
  have h := tg_nmE ey5 h
  refine tg_istore (lv2 := [(5, .int y5), (9, .int s0), (0, .ref (tg_ad x 35)), (1, .ref (tg_ad x 11)), (2, .int v2), (3, .int v3), (4, .int v4), (6, .int v6), (8, .int v8)]) X dX2_pullOfTeam_170 (by decide) rfl ?_
  refine tg_re [2, 3, 4, 5, 6, 0, 7] rfl ?_
  exact w_X2_pullOfTeam_a_172 X hr33 S3 v2 v3 v4 y5 v6 h
set_option maxRecDepth 20000 in
set_option maxHeartbeats 4000000 in
theorem w_X2_pullOfTeam_a_92 {x : tg_X} {Sf : tg_S} {r : Int32} {rec33 : tg_S → Int32 → Int32 → Int32 → Int32 → Int32 → Option (tg_S × Int32)} (X : tg_M tauC x cX2_pullOfTeam 10 RX2 zr_X2_pullOfTeam (some .int) Sf (some (.int r))) (hr33 : ∀ (S : tg_S) (v2 : Int32) (v3 : Int32) (v4 : Int32) (v5 : Int32) (v6 : Int32), rec33 S v2 v3 v4 v5 v6 = some (Sf, r) → tg_G tauC x S 33 [(0, .ref (tg_ad x 35)), (1, .ref (tg_ad x 11)), (2, .int v2), (3, .int v3), (4, .int v4), (5, .int v5), (6, .int v6)] []) (S : tg_S) (v2 : Int32) (v3 : Int32) (v4 : Int32) (v5 : Int32) (v6 : Int32) (s0 : Int32) (h : f_X2_pullOfTeam_92 35 11 rec33 S v2 v3 v4 v5 v6 s0 = some (Sf, r)) : tg_G tauC x S 92 [(0, .ref (tg_ad x 35)), (1, .ref (tg_ad x 11)), (2, .int v2), (3, .int v3), (4, .int v4), (5, .int v5), (6, .int v6)] [.int s0] := by
  unfold f_X2_pullOfTeam_92 at h
  refine tg_istore (lv2 := [(8, .int s0), (0, .ref (tg_ad x 35)), (1, .ref (tg_ad x 11)), (2, .int v2), (3, .int v3), (4, .int v4), (5, .int v5), (6, .int v6)]) X dX2_pullOfTeam_92 (by decide) rfl ?_
  refine tg_aload_n X dX2_pullOfTeam_94 rfl 2 rfl ?_
  refine tg_getr X 11 rfl cl_X1 1 (by decide) rfl wf_X2_115 dX2_pullOfTeam_95 ?_
  refine tg_iload X dX2_pullOfTeam_98 7 rfl ?_
  obtain ⟨y1, ey1, by1, h⟩ := tg_rdE h
  refine tg_iald X 13 rfl ey1 by1 dX2_pullOfTeam_100 ?_
  refine tg_iconst X dX2_pullOfTeam_101 tk_i2 ?_
  refine tg_icmp_ne (tgt := 109) X dX2_pullOfTeam_102 (by decide) (fun c2 => ?_) (fun c2 => ?_)
  · rw [if_neg c2] at h
    refine tg_aload_n X dX2_pullOfTeam_109 rfl 1 rfl ?_
    refine tg_geti X 35 rfl cl_X2 9 (by decide) rfl wf_X2_40 dX2_pullOfTeam_110 ?_
    refine tg_re [1, 2, 3, 4, 5, 6, 7, 0] rfl ?_
    exact w_X2_pullOfTeam_a_113 X hr33 S v2 v3 v4 v5 v6 s0 (S 35 9) h
  · rw [if_pos c2] at h
    refine tg_iconst X dX2_pullOfTeam_105 tk_i0 ?_
    refine tg_goto (tgt := 113) X dX2_pullOfTeam_106 (by decide) ?_
    refine tg_re [1, 2, 3, 4, 5, 6, 7, 0] rfl ?_
    exact w_X2_pullOfTeam_a_113 X hr33 S v2 v3 v4 v5 v6 s0 0 h
set_option maxRecDepth 20000 in
set_option maxHeartbeats 4000000 in
theorem w_X2_pullOfTeam_a_72 {x : tg_X} {Sf : tg_S} {r : Int32} {rec33 : tg_S → Int32 → Int32 → Int32 → Int32 → Int32 → Option (tg_S × Int32)} (X : tg_M tauC x cX2_pullOfTeam 10 RX2 zr_X2_pullOfTeam (some .int) Sf (some (.int r))) (hr33 : ∀ (S : tg_S) (v2 : Int32) (v3 : Int32) (v4 : Int32) (v5 : Int32) (v6 : Int32), rec33 S v2 v3 v4 v5 v6 = some (Sf, r) → tg_G tauC x S 33 [(0, .ref (tg_ad x 35)), (1, .ref (tg_ad x 11)), (2, .int v2), (3, .int v3), (4, .int v4), (5, .int v5), (6, .int v6)] []) (S : tg_S) (v2 : Int32) (v3 : Int32) (v4 : Int32) (v5 : Int32) (v6 : Int32) (s0 : Int32) (h : f_X2_pullOfTeam_72 35 11 rec33 S v2 v3 v4 v5 v6 s0 = some (Sf, r)) : tg_G tauC x S 72 [(0, .ref (tg_ad x 35)), (1, .ref (tg_ad x 11)), (2, .int v2), (3, .int v3), (4, .int v4), (5, .int v5), (6, .int v6)] [.int s0] := by
  unfold f_X2_pullOfTeam_72 at h
  refine tg_istore (lv2 := [(7, .int s0), (0, .ref (tg_ad x 35)), (1, .ref (tg_ad x 11)), (2, .int v2), (3, .int v3), (4, .int v4), (5, .int v5), (6, .int v6)]) X dX2_pullOfTeam_72 (by decide) rfl ?_
  refine tg_iload X dX2_pullOfTeam_74 0 rfl ?_
  refine tg_if_eq (tgt := 83) X dX2_pullOfTeam_76 (by decide) (fun c1 => ?_) (fun c1 => ?_)
  · have h := tg_ifT c1 h
    refine tg_aload_n X dX2_pullOfTeam_83 rfl 1 rfl ?_
    refine tg_aload_n X dX2_pullOfTeam_84 rfl 2 rfl ?_
    refine tg_iload X dX2_pullOfTeam_85 7 rfl ?_
    refine tg_iload X dX2_pullOfTeam_87 5 rfl ?_
    obtain ⟨S2, r3, kS2, h⟩ := tg_bdE h
    refine tg_callV (As := [.ref (tg_ad x 11), .int v6, .int v4]) (rest := []) X 35 (cm_X2_forceOf_a _ _ _ _ _ kS2) yy_X2_forceOf wv_X2_forceOf ws_X2_forceOf wm_X2_112 rfl cl_X2.1 ⟨rfl, rfl, Nat.le_of_ble_eq_true rfl, Nat.le_of_ble_eq_true rfl⟩ rfl rfl (Nat.le_of_ble_eq_true rfl) dX2_pullOfTeam_89 rfl ?_
    refine tg_re [1, 2, 3, 4, 5, 6, 7] rfl ?_
    exact w_X2_pullOfTeam_a_92 X hr33 S2 v2 v3 v4 v5 v6 r3 h
  · have h := tg_ifF c1 h
    refine tg_iconst X dX2_pullOfTeam_79 tk_i0 ?_
    refine tg_goto (tgt := 92) X dX2_pullOfTeam_80 (by decide) ?_
    refine tg_re [1, 2, 3, 4, 5, 6, 7] rfl ?_
    exact w_X2_pullOfTeam_a_92 X hr33 S v2 v3 v4 v5 v6 0 h
set_option maxRecDepth 20000 in
set_option maxHeartbeats 4000000 in
theorem w_X2_pullOfTeam_a_33 {x : tg_X} {Sf : tg_S} {r : Int32} {rec33 : tg_S → Int32 → Int32 → Int32 → Int32 → Int32 → Option (tg_S × Int32)} (X : tg_M tauC x cX2_pullOfTeam 10 RX2 zr_X2_pullOfTeam (some .int) Sf (some (.int r))) (hr33 : ∀ (S : tg_S) (v2 : Int32) (v3 : Int32) (v4 : Int32) (v5 : Int32) (v6 : Int32), rec33 S v2 v3 v4 v5 v6 = some (Sf, r) → tg_G tauC x S 33 [(0, .ref (tg_ad x 35)), (1, .ref (tg_ad x 11)), (2, .int v2), (3, .int v3), (4, .int v4), (5, .int v5), (6, .int v6)] []) (S : tg_S) (v2 : Int32) (v3 : Int32) (v4 : Int32) (v5 : Int32) (v6 : Int32) (h : f_X2_pullOfTeam_33 35 11 rec33 S v2 v3 v4 v5 v6 = some (Sf, r)) : tg_G tauC x S 33 [(0, .ref (tg_ad x 35)), (1, .ref (tg_ad x 11)), (2, .int v2), (3, .int v3), (4, .int v4), (5, .int v5), (6, .int v6)] [] := by
  unfold f_X2_pullOfTeam_33 at h
  refine tg_iload X dX2_pullOfTeam_33 6 rfl ?_
  refine tg_iload_n X dX2_pullOfTeam_35 rfl 2 rfl ?_
  refine tg_bipush X dX2_pullOfTeam_36 tk_b8 ?_
  refine tg_imul X dX2_pullOfTeam_38 ?_
  refine tg_bipush X dX2_pullOfTeam_39 tk_b8 ?_
  refine tg_iadd X dX2_pullOfTeam_41 ?_
  refine tg_icmp_ge (tgt := 178) X dX2_pullOfTeam_42 (by decide) (fun c1 => ?_) (fun c1 => ?_)
  · have h := tg_ifT c1 h
    refine tg_iload X dX2_pullOfTeam_178 5 rfl ?_
    exact tg_iret X h rfl dX2_pullOfTeam_180
  · have h := tg_ifF c1 h
    refine tg_aload_n X dX2_pullOfTeam_45 rfl 1 rfl ?_
    refine tg_getr X 11 rfl cl_X1 0 (by decide) rfl wf_X2_108 dX2_pullOfTeam_46 ?_
    refine tg_iload X dX2_pullOfTeam_49 6 rfl ?_
    obtain ⟨y2, ey2, by2, h⟩ := tg_rdE h
    refine tg_zald X 12 rfl ey2 by2 dX2_pullOfTeam_51 ?_
    refine tg_if_eq (tgt := 172) X dX2_pullOfTeam_52 (by decide) (fun c3 => ?_) (fun c3 => ?_)
    · have h := tg_ifT c3 h
      exact w_X2_pullOfTeam_a_172 X hr33 S v2 v3 v4 v5 v6 h
    · have h := tg_ifF c3 h
      refine tg_aload_n X dX2_pullOfTeam_55 rfl 0 rfl ?_
      refine tg_geti X 35 rfl cl_X2 10 (by decide) rfl wf_X2_43 dX2_pullOfTeam_56 ?_
      refine tg_iload X dX2_pullOfTeam_59 6 rfl ?_
      refine tg_ishr X dX2_pullOfTeam_61 ?_
      refine tg_iconst X dX2_pullOfTeam_62 tk_i1 ?_
      refine tg_iand X dX2_pullOfTeam_63 ?_
      refine tg_if_eq (tgt := 71) X dX2_pullOfTeam_64 (by decide) (fun c4 => ?_) (fun c4 => ?_)
      · rw [if_pos c4] at h
        refine tg_iconst X dX2_pullOfTeam_71 tk_i0 ?_
        exact w_X2_pullOfTeam_a_72 X hr33 S v2 v3 v4 v5 v6 0 h
      · rw [if_neg c4] at h
        refine tg_iconst X dX2_pullOfTeam_67 tk_i1 ?_
        refine tg_goto (tgt := 72) X dX2_pullOfTeam_68 (by decide) ?_
        exact w_X2_pullOfTeam_a_72 X hr33 S v2 v3 v4 v5 v6 1 h
theorem wl_X2_pullOfTeam_a_33 {x : tg_X} {Sf : tg_S} {r : Int32} (X : tg_M tauC x cX2_pullOfTeam 10 RX2 zr_X2_pullOfTeam (some .int) Sf (some (.int r))) : ∀ (n : Nat) (S : tg_S) (v2 : Int32) (v3 : Int32) (v4 : Int32) (v5 : Int32) (v6 : Int32) (h : L_X2_pullOfTeam_33 35 11 n S v2 v3 v4 v5 v6 = some (Sf, r)), tg_G tauC x S 33 [(0, .ref (tg_ad x 35)), (1, .ref (tg_ad x 11)), (2, .int v2), (3, .int v3), (4, .int v4), (5, .int v5), (6, .int v6)] [] := by
  intro n
  induction n with
  | zero => intro S v2 v3 v4 v5 v6 h; cases h
  | succ n ih => intro S v2 v3 v4 v5 v6 h; exact w_X2_pullOfTeam_a_33 X  ih S v2 v3 v4 v5 v6 h
set_option maxRecDepth 20000 in
set_option maxHeartbeats 4000000 in
theorem w_X2_pullOfTeam_a_22 {x : tg_X} {Sf : tg_S} {r : Int32} (X : tg_M tauC x cX2_pullOfTeam 10 RX2 zr_X2_pullOfTeam (some .int) Sf (some (.int r))) (S : tg_S) (v2 : Int32) (v3 : Int32) (s0 : Int32) (h : f_X2_pullOfTeam_22 35 11 S v2 v3 s0 = some (Sf, r)) : tg_G tauC x S 22 [(0, .ref (tg_ad x 35)), (1, .ref (tg_ad x 11)), (2, .int v2), (3, .int v3)] [.int s0] := by
  unfold f_X2_pullOfTeam_22 at h
  refine tg_istore (lv2 := [(4, .int s0), (0, .ref (tg_ad x 35)), (1, .ref (tg_ad x 11)), (2, .int v2), (3, .int v3)]) X dX2_pullOfTeam_22 (by decide) rfl ?_
  refine tg_iconst X dX2_pullOfTeam_24 tk_i0 ?_
  refine tg_istore (lv2 := [(5, .int 0), (4, .int s0), (0, .ref (tg_ad x 35)), (1, .ref (tg_ad x 11)), (2, .int v2), (3, .int v3)]) X dX2_pullOfTeam_25 (by decide) rfl ?_
  refine tg_iload_n X dX2_pullOfTeam_27 rfl 4 rfl ?_
  refine tg_bipush X dX2_pullOfTeam_28 tk_b8 ?_
  refine tg_imul X dX2_pullOfTeam_30 ?_
  refine tg_topi (fun y1 ey1 => ?_)
  have h := tg_nmE ey1 h
  refine tg_istore (lv2 := [(6, .int y1), (5, .int 0), (4, .int s0), (0, .ref (tg_ad x 35)), (1, .ref (tg_ad x 11)), (2, .int v2), (3, .int v3)]) X dX2_pullOfTeam_31 (by decide) rfl ?_
  refine tg_re [3, 4, 5, 6, 2, 1, 0] rfl ?_
  exact wl_X2_pullOfTeam_a_33 X  tg_F S v2 v3 s0 0 y1 h
set_option maxRecDepth 20000 in
set_option maxHeartbeats 4000000 in
theorem w_X2_pullOfTeam_a_0 {x : tg_X} {Sf : tg_S} {r : Int32} (X : tg_M tauC x cX2_pullOfTeam 10 RX2 zr_X2_pullOfTeam (some .int) Sf (some (.int r))) (S : tg_S) (v2 : Int32) (v3 : Int32) (h : f_X2_pullOfTeam 35 11 S v2 v3 = some (Sf, r)) : tg_G tauC x S 0 [(0, .ref (tg_ad x 35)), (1, .ref (tg_ad x 11)), (2, .int v2), (3, .int v3)] [] := by
  unfold f_X2_pullOfTeam at h
  refine tg_aload_n X dX2_pullOfTeam_0 rfl 0 rfl ?_
  refine tg_geti X 35 rfl cl_X2 11 (by decide) rfl wf_X2_46 dX2_pullOfTeam_1 ?_
  refine tg_if_eq (tgt := 11) X dX2_pullOfTeam_4 (by decide) (fun c1 => ?_) (fun c1 => ?_)
  · have h := tg_ifT c1 h
    refine tg_aload_n X dX2_pullOfTeam_11 rfl 1 rfl ?_
    refine tg_getr X 11 rfl cl_X1 6 (by decide) rfl wf_X2_105 dX2_pullOfTeam_12 ?_
    refine tg_iload_n X dX2_pullOfTeam_15 rfl 2 rfl ?_
    refine tg_bipush X dX2_pullOfTeam_16 tk_b24 ?_
    refine tg_imul X dX2_pullOfTeam_18 ?_
    refine tg_iload_n X dX2_pullOfTeam_19 rfl 3 rfl ?_
    refine tg_iadd X dX2_pullOfTeam_20 ?_
    obtain ⟨y2, ey2, by2, h⟩ := tg_rdE h
    refine tg_iald X 18 rfl ey2 by2 dX2_pullOfTeam_21 ?_
    exact w_X2_pullOfTeam_a_22 X  S v2 v3 y2 h
  · have h := tg_ifF c1 h
    refine tg_iconst X dX2_pullOfTeam_7 tk_i0 ?_
    refine tg_goto (tgt := 22) X dX2_pullOfTeam_8 (by decide) ?_
    exact w_X2_pullOfTeam_a_22 X  S v2 v3 0 h
theorem cm_X2_pullOfTeam_a (l : Launch) (D : va_G) (cy : Bool → ClassId) (ad : Nat → Nat) (tS : Nat) {S Sf : tg_S} {v2 : Int32} {v3 : Int32} {r : Int32} (h : f_X2_pullOfTeam 35 11 S v2 v3 = some (Sf, r)) : tg_Met l yX2_pullOfTeam cX2_pullOfTeam 10 (some .int) zr_X2_pullOfTeam tauC D cy ad tS S [.ref (ad 35), .ref (ad 11), .int v2, .int v3] Sf (some (.int r)) := tg_mk (by decide +kernel) trivial (Nat.le_of_ble_eq_true rfl) (fun p e s m args below meth c Q A X => w_X2_pullOfTeam_a_0 X S v2 v3 h)
set_option maxRecDepth 20000 in
set_option maxHeartbeats 4000000 in
theorem w_X2_pullOfTeam_b_172 {x : tg_X} {Sf : tg_S} {r : Int32} {rec33 : tg_S → Int32 → Int32 → Int32 → Int32 → Int32 → Option (tg_S × Int32)} (X : tg_M tauC x cX2_pullOfTeam 10 RX2 zr_X2_pullOfTeam (some .int) Sf (some (.int r))) (hr33 : ∀ (S : tg_S) (v2 : Int32) (v3 : Int32) (v4 : Int32) (v5 : Int32) (v6 : Int32), rec33 S v2 v3 v4 v5 v6 = some (Sf, r) → tg_G tauC x S 33 [(0, .ref (tg_ad x 42)), (1, .ref (tg_ad x 23)), (2, .int v2), (3, .int v3), (4, .int v4), (5, .int v5), (6, .int v6)] []) (S : tg_S) (v2 : Int32) (v3 : Int32) (v4 : Int32) (v5 : Int32) (v6 : Int32) (h : f_X2_pullOfTeam_172 42 23 rec33 S v2 v3 v4 v5 v6 = some (Sf, r)) : tg_G tauC x S 172 [(0, .ref (tg_ad x 42)), (1, .ref (tg_ad x 23)), (2, .int v2), (3, .int v3), (4, .int v4), (5, .int v5), (6, .int v6)] [] := by
  unfold f_X2_pullOfTeam_172 at h
  obtain ⟨y1, ey1⟩ : ∃ z : Int32, z = v6 + 1 := ⟨_, rfl⟩
  have h := tg_nmE ey1 h
  refine tg_iinc (lv2 := [(6, .int y1), (0, .ref (tg_ad x 42)), (1, .ref (tg_ad x 23)), (2, .int v2), (3, .int v3), (4, .int v4), (5, .int v5)]) X dX2_pullOfTeam_172 6 rfl tk_i1 ey1 (by decide) rfl ?_
  refine tg_goto (tgt := 33) X dX2_pullOfTeam_175 (by decide) ?_
  refine tg_re [1, 2, 3, 4, 5, 6, 0] rfl ?_
  exact hr33 S v2 v3 v4 v5 y1 h
set_option maxRecDepth 20000 in
set_option maxHeartbeats 4000000 in
theorem w_X2_pullOfTeam_b_113 {x : tg_X} {Sf : tg_S} {r : Int32} {rec33 : tg_S → Int32 → Int32 → Int32 → Int32 → Int32 → Option (tg_S × Int32)} (X : tg_M tauC x cX2_pullOfTeam 10 RX2 zr_X2_pullOfTeam (some .int) Sf (some (.int r))) (hr33 : ∀ (S : tg_S) (v2 : Int32) (v3 : Int32) (v4 : Int32) (v5 : Int32) (v6 : Int32), rec33 S v2 v3 v4 v5 v6 = some (Sf, r) → tg_G tauC x S 33 [(0, .ref (tg_ad x 42)), (1, .ref (tg_ad x 23)), (2, .int v2), (3, .int v3), (4, .int v4), (5, .int v5), (6, .int v6)] []) (S : tg_S) (v2 : Int32) (v3 : Int32) (v4 : Int32) (v5 : Int32) (v6 : Int32) (v8 : Int32) (s0 : Int32) (h : f_X2_pullOfTeam_113 42 23 rec33 S v2 v3 v4 v5 v6 v8 s0 = some (Sf, r)) : tg_G tauC x S 113 [(0, .ref (tg_ad x 42)), (1, .ref (tg_ad x 23)), (2, .int v2), (3, .int v3), (4, .int v4), (5, .int v5), (6, .int v6), (8, .int v8)] [.int s0] := by
  unfold f_X2_pullOfTeam_113 at h
  refine tg_istore (lv2 := [(9, .int s0), (0, .ref (tg_ad x 42)), (1, .ref (tg_ad x 23)), (2, .int v2), (3, .int v3), (4, .int v4), (5, .int v5), (6, .int v6), (8, .int v8)]) X dX2_pullOfTeam_113 (by decide) rfl ?_
  refine tg_aload_n X dX2_pullOfTeam_115 rfl 1 rfl ?_
  refine tg_getr X 42 rfl cl_X2 3 (by decide) rfl wf_X2_21 dX2_pullOfTeam_116 ?_
  refine tg_iload X dX2_pullOfTeam_119 7 rfl ?_
  refine tg_bipush X dX2_pullOfTeam_121 tk_b24 ?_
  refine tg_imul X dX2_pullOfTeam_123 ?_
  refine tg_iload_n X dX2_pullOfTeam_124 rfl 4 rfl ?_
  refine tg_iadd X dX2_pullOfTeam_125 ?_
  refine tg_iconst X dX2_pullOfTeam_126 tk_i0 ?_
  refine tg_iload X dX2_pullOfTeam_127 8 rfl ?_
  refine tg_iload X dX2_pullOfTeam_129 0 rfl ?_
  refine tg_isub X dX2_pullOfTeam_131 ?_
  refine tg_mmax X ⟨wm_X2_118, wt_Mmax, wi_Math, wc_Mmax⟩ ⟨Nat.le_of_ble_eq_true rfl, Nat.le_of_ble_eq_true rfl⟩ dX2_pullOfTeam_132 ?_
  obtain ⟨S1, eS1, bS1, h⟩ := tg_wrE h
  refine tg_iast X 46 rfl bS1 dX2_pullOfTeam_135 eS1 ?_
  refine tg_aload_n X dX2_pullOfTeam_136 rfl 1 rfl ?_
  refine tg_getr X 42 rfl cl_X2 4 (by decide) rfl wf_X2_24 dX2_pullOfTeam_137 ?_
  refine tg_iload X dX2_pullOfTeam_140 7 rfl ?_
  refine tg_bipush X dX2_pullOfTeam_142 tk_b24 ?_
  refine tg_imul X dX2_pullOfTeam_144 ?_
  refine tg_iload_n X dX2_pullOfTeam_145 rfl 4 rfl ?_
  refine tg_iadd X dX2_pullOfTeam_146 ?_
  refine tg_aload_n X dX2_pullOfTeam_147 rfl 1 rfl ?_
  refine tg_getr X 42 rfl cl_X2 7 (by decide) rfl wf_X2_34 dX2_pullOfTeam_148 ?_
  refine tg_iload X dX2_pullOfTeam_151 7 rfl ?_
  obtain ⟨y2, ey2, by2, h⟩ := tg_rdE h
  refine tg_iald X 48 rfl ey2 by2 dX2_pullOfTeam_153 ?_
  obtain ⟨S3, eS3, bS3, h⟩ := tg_wrE h
  refine tg_iast X 47 rfl bS3 dX2_pullOfTeam_154 eS3 ?_
  refine tg_iload X dX2_pullOfTeam_155 6 rfl ?_
  refine tg_aload_n X dX2_pullOfTeam_157 rfl 1 rfl ?_
  refine tg_getr X 42 rfl cl_X2 3 (by decide) rfl wf_X2_21 dX2_pullOfTeam_158 ?_
  refine tg_iload X dX2_pullOfTeam_161 7 rfl ?_
  refine tg_bipush X dX2_pullOfTeam_163 tk_b24 ?_
  refine tg_imul X dX2_pullOfTeam_165 ?_
  refine tg_iload_n X dX2_pullOfTeam_166 rfl 4 rfl ?_
  refine tg_iadd X dX2_pullOfTeam_167 ?_
  obtain ⟨y4, ey4, by4, h⟩ := tg_rdE h
  refine tg_iald X 46 rfl ey4 by4 dX2_pullOfTeam_168 ?_
  refine tg_iadd X dX2_pullOfTeam_169 ?_
  refine tg_topi (fun y5 ey5 => ?_)
  have h := tg_nmE ey5 h
  refine tg_istore (lv2 := [(5, .int y5), (9, .int s0), (0, .ref (tg_ad x 42)), (1, .ref (tg_ad x 23)), (2, .int v2), (3, .int v3), (4, .int v4), (6, .int v6), (8, .int v8)]) X dX2_pullOfTeam_170 (by decide) rfl ?_
  refine tg_re [2, 3, 4, 5, 6, 0, 7] rfl ?_
  exact w_X2_pullOfTeam_b_172 X hr33 S3 v2 v3 v4 y5 v6 h
set_option maxRecDepth 20000 in
set_option maxHeartbeats 4000000 in
theorem w_X2_pullOfTeam_b_92 {x : tg_X} {Sf : tg_S} {r : Int32} {rec33 : tg_S → Int32 → Int32 → Int32 → Int32 → Int32 → Option (tg_S × Int32)} (X : tg_M tauC x cX2_pullOfTeam 10 RX2 zr_X2_pullOfTeam (some .int) Sf (some (.int r))) (hr33 : ∀ (S : tg_S) (v2 : Int32) (v3 : Int32) (v4 : Int32) (v5 : Int32) (v6 : Int32), rec33 S v2 v3 v4 v5 v6 = some (Sf, r) → tg_G tauC x S 33 [(0, .ref (tg_ad x 42)), (1, .ref (tg_ad x 23)), (2, .int v2), (3, .int v3), (4, .int v4), (5, .int v5), (6, .int v6)] []) (S : tg_S) (v2 : Int32) (v3 : Int32) (v4 : Int32) (v5 : Int32) (v6 : Int32) (s0 : Int32) (h : f_X2_pullOfTeam_92 42 23 rec33 S v2 v3 v4 v5 v6 s0 = some (Sf, r)) : tg_G tauC x S 92 [(0, .ref (tg_ad x 42)), (1, .ref (tg_ad x 23)), (2, .int v2), (3, .int v3), (4, .int v4), (5, .int v5), (6, .int v6)] [.int s0] := by
  unfold f_X2_pullOfTeam_92 at h
  refine tg_istore (lv2 := [(8, .int s0), (0, .ref (tg_ad x 42)), (1, .ref (tg_ad x 23)), (2, .int v2), (3, .int v3), (4, .int v4), (5, .int v5), (6, .int v6)]) X dX2_pullOfTeam_92 (by decide) rfl ?_
  refine tg_aload_n X dX2_pullOfTeam_94 rfl 2 rfl ?_
  refine tg_getr X 23 rfl cl_X1 1 (by decide) rfl wf_X2_115 dX2_pullOfTeam_95 ?_
  refine tg_iload X dX2_pullOfTeam_98 7 rfl ?_
  obtain ⟨y1, ey1, by1, h⟩ := tg_rdE h
  refine tg_iald X 25 rfl ey1 by1 dX2_pullOfTeam_100 ?_
  refine tg_iconst X dX2_pullOfTeam_101 tk_i2 ?_
  refine tg_icmp_ne (tgt := 109) X dX2_pullOfTeam_102 (by decide) (fun c2 => ?_) (fun c2 => ?_)
  · rw [if_neg c2] at h
    refine tg_aload_n X dX2_pullOfTeam_109 rfl 1 rfl ?_
    refine tg_geti X 42 rfl cl_X2 9 (by decide) rfl wf_X2_40 dX2_pullOfTeam_110 ?_
    refine tg_re [1, 2, 3, 4, 5, 6, 7, 0] rfl ?_
    exact w_X2_pullOfTeam_b_113 X hr33 S v2 v3 v4 v5 v6 s0 (S 42 9) h
  · rw [if_pos c2] at h
    refine tg_iconst X dX2_pullOfTeam_105 tk_i0 ?_
    refine tg_goto (tgt := 113) X dX2_pullOfTeam_106 (by decide) ?_
    refine tg_re [1, 2, 3, 4, 5, 6, 7, 0] rfl ?_
    exact w_X2_pullOfTeam_b_113 X hr33 S v2 v3 v4 v5 v6 s0 0 h
set_option maxRecDepth 20000 in
set_option maxHeartbeats 4000000 in
theorem w_X2_pullOfTeam_b_72 {x : tg_X} {Sf : tg_S} {r : Int32} {rec33 : tg_S → Int32 → Int32 → Int32 → Int32 → Int32 → Option (tg_S × Int32)} (X : tg_M tauC x cX2_pullOfTeam 10 RX2 zr_X2_pullOfTeam (some .int) Sf (some (.int r))) (hr33 : ∀ (S : tg_S) (v2 : Int32) (v3 : Int32) (v4 : Int32) (v5 : Int32) (v6 : Int32), rec33 S v2 v3 v4 v5 v6 = some (Sf, r) → tg_G tauC x S 33 [(0, .ref (tg_ad x 42)), (1, .ref (tg_ad x 23)), (2, .int v2), (3, .int v3), (4, .int v4), (5, .int v5), (6, .int v6)] []) (S : tg_S) (v2 : Int32) (v3 : Int32) (v4 : Int32) (v5 : Int32) (v6 : Int32) (s0 : Int32) (h : f_X2_pullOfTeam_72 42 23 rec33 S v2 v3 v4 v5 v6 s0 = some (Sf, r)) : tg_G tauC x S 72 [(0, .ref (tg_ad x 42)), (1, .ref (tg_ad x 23)), (2, .int v2), (3, .int v3), (4, .int v4), (5, .int v5), (6, .int v6)] [.int s0] := by
  unfold f_X2_pullOfTeam_72 at h
  refine tg_istore (lv2 := [(7, .int s0), (0, .ref (tg_ad x 42)), (1, .ref (tg_ad x 23)), (2, .int v2), (3, .int v3), (4, .int v4), (5, .int v5), (6, .int v6)]) X dX2_pullOfTeam_72 (by decide) rfl ?_
  refine tg_iload X dX2_pullOfTeam_74 0 rfl ?_
  refine tg_if_eq (tgt := 83) X dX2_pullOfTeam_76 (by decide) (fun c1 => ?_) (fun c1 => ?_)
  · have h := tg_ifT c1 h
    refine tg_aload_n X dX2_pullOfTeam_83 rfl 1 rfl ?_
    refine tg_aload_n X dX2_pullOfTeam_84 rfl 2 rfl ?_
    refine tg_iload X dX2_pullOfTeam_85 7 rfl ?_
    refine tg_iload X dX2_pullOfTeam_87 5 rfl ?_
    obtain ⟨S2, r3, kS2, h⟩ := tg_bdE h
    refine tg_callV (As := [.ref (tg_ad x 23), .int v6, .int v4]) (rest := []) X 42 (cm_X2_forceOf_b _ _ _ _ _ kS2) yy_X2_forceOf wv_X2_forceOf ws_X2_forceOf wm_X2_112 rfl cl_X2.1 ⟨rfl, rfl, Nat.le_of_ble_eq_true rfl, Nat.le_of_ble_eq_true rfl⟩ rfl rfl (Nat.le_of_ble_eq_true rfl) dX2_pullOfTeam_89 rfl ?_
    refine tg_re [1, 2, 3, 4, 5, 6, 7] rfl ?_
    exact w_X2_pullOfTeam_b_92 X hr33 S2 v2 v3 v4 v5 v6 r3 h
  · have h := tg_ifF c1 h
    refine tg_iconst X dX2_pullOfTeam_79 tk_i0 ?_
    refine tg_goto (tgt := 92) X dX2_pullOfTeam_80 (by decide) ?_
    refine tg_re [1, 2, 3, 4, 5, 6, 7] rfl ?_
    exact w_X2_pullOfTeam_b_92 X hr33 S v2 v3 v4 v5 v6 0 h
set_option maxRecDepth 20000 in
set_option maxHeartbeats 4000000 in
theorem w_X2_pullOfTeam_b_33 {x : tg_X} {Sf : tg_S} {r : Int32} {rec33 : tg_S → Int32 → Int32 → Int32 → Int32 → Int32 → Option (tg_S × Int32)} (X : tg_M tauC x cX2_pullOfTeam 10 RX2 zr_X2_pullOfTeam (some .int) Sf (some (.int r))) (hr33 : ∀ (S : tg_S) (v2 : Int32) (v3 : Int32) (v4 : Int32) (v5 : Int32) (v6 : Int32), rec33 S v2 v3 v4 v5 v6 = some (Sf, r) → tg_G tauC x S 33 [(0, .ref (tg_ad x 42)), (1, .ref (tg_ad x 23)), (2, .int v2), (3, .int v3), (4, .int v4), (5, .int v5), (6, .int v6)] []) (S : tg_S) (v2 : Int32) (v3 : Int32) (v4 : Int32) (v5 : Int32) (v6 : Int32) (h : f_X2_pullOfTeam_33 42 23 rec33 S v2 v3 v4 v5 v6 = some (Sf, r)) : tg_G tauC x S 33 [(0, .ref (tg_ad x 42)), (1, .ref (tg_ad x 23)), (2, .int v2), (3, .int v3), (4, .int v4), (5, .int v5), (6, .int v6)] [] := by
  unfold f_X2_pullOfTeam_33 at h
  refine tg_iload X dX2_pullOfTeam_33 6 rfl ?_
  refine tg_iload_n X dX2_pullOfTeam_35 rfl 2 rfl ?_
  refine tg_bipush X dX2_pullOfTeam_36 tk_b8 ?_
  refine tg_imul X dX2_pullOfTeam_38 ?_
  refine tg_bipush X dX2_pullOfTeam_39 tk_b8 ?_
  refine tg_iadd X dX2_pullOfTeam_41 ?_
  refine tg_icmp_ge (tgt := 178) X dX2_pullOfTeam_42 (by decide) (fun c1 => ?_) (fun c1 => ?_)
  · have h := tg_ifT c1 h
    refine tg_iload X dX2_pullOfTeam_178 5 rfl ?_
    exact tg_iret X h rfl dX2_pullOfTeam_180
  · have h := tg_ifF c1 h
    refine tg_aload_n X dX2_pullOfTeam_45 rfl 1 rfl ?_
    refine tg_getr X 23 rfl cl_X1 0 (by decide) rfl wf_X2_108 dX2_pullOfTeam_46 ?_
    refine tg_iload X dX2_pullOfTeam_49 6 rfl ?_
    obtain ⟨y2, ey2, by2, h⟩ := tg_rdE h
    refine tg_zald X 24 rfl ey2 by2 dX2_pullOfTeam_51 ?_
    refine tg_if_eq (tgt := 172) X dX2_pullOfTeam_52 (by decide) (fun c3 => ?_) (fun c3 => ?_)
    · have h := tg_ifT c3 h
      exact w_X2_pullOfTeam_b_172 X hr33 S v2 v3 v4 v5 v6 h
    · have h := tg_ifF c3 h
      refine tg_aload_n X dX2_pullOfTeam_55 rfl 0 rfl ?_
      refine tg_geti X 42 rfl cl_X2 10 (by decide) rfl wf_X2_43 dX2_pullOfTeam_56 ?_
      refine tg_iload X dX2_pullOfTeam_59 6 rfl ?_
      refine tg_ishr X dX2_pullOfTeam_61 ?_
      refine tg_iconst X dX2_pullOfTeam_62 tk_i1 ?_
      refine tg_iand X dX2_pullOfTeam_63 ?_
      refine tg_if_eq (tgt := 71) X dX2_pullOfTeam_64 (by decide) (fun c4 => ?_) (fun c4 => ?_)
      · rw [if_pos c4] at h
        refine tg_iconst X dX2_pullOfTeam_71 tk_i0 ?_
        exact w_X2_pullOfTeam_b_72 X hr33 S v2 v3 v4 v5 v6 0 h
      · rw [if_neg c4] at h
        refine tg_iconst X dX2_pullOfTeam_67 tk_i1 ?_
        refine tg_goto (tgt := 72) X dX2_pullOfTeam_68 (by decide) ?_
        exact w_X2_pullOfTeam_b_72 X hr33 S v2 v3 v4 v5 v6 1 h
theorem wl_X2_pullOfTeam_b_33 {x : tg_X} {Sf : tg_S} {r : Int32} (X : tg_M tauC x cX2_pullOfTeam 10 RX2 zr_X2_pullOfTeam (some .int) Sf (some (.int r))) : ∀ (n : Nat) (S : tg_S) (v2 : Int32) (v3 : Int32) (v4 : Int32) (v5 : Int32) (v6 : Int32) (h : L_X2_pullOfTeam_33 42 23 n S v2 v3 v4 v5 v6 = some (Sf, r)), tg_G tauC x S 33 [(0, .ref (tg_ad x 42)), (1, .ref (tg_ad x 23)), (2, .int v2), (3, .int v3), (4, .int v4), (5, .int v5), (6, .int v6)] [] := by
  intro n
  induction n with
  | zero => intro S v2 v3 v4 v5 v6 h; cases h
  | succ n ih => intro S v2 v3 v4 v5 v6 h; exact w_X2_pullOfTeam_b_33 X  ih S v2 v3 v4 v5 v6 h
set_option maxRecDepth 20000 in
set_option maxHeartbeats 4000000 in
theorem w_X2_pullOfTeam_b_22 {x : tg_X} {Sf : tg_S} {r : Int32} (X : tg_M tauC x cX2_pullOfTeam 10 RX2 zr_X2_pullOfTeam (some .int) Sf (some (.int r))) (S : tg_S) (v2 : Int32) (v3 : Int32) (s0 : Int32) (h : f_X2_pullOfTeam_22 42 23 S v2 v3 s0 = some (Sf, r)) : tg_G tauC x S 22 [(0, .ref (tg_ad x 42)), (1, .ref (tg_ad x 23)), (2, .int v2), (3, .int v3)] [.int s0] := by
  unfold f_X2_pullOfTeam_22 at h
  refine tg_istore (lv2 := [(4, .int s0), (0, .ref (tg_ad x 42)), (1, .ref (tg_ad x 23)), (2, .int v2), (3, .int v3)]) X dX2_pullOfTeam_22 (by decide) rfl ?_
  refine tg_iconst X dX2_pullOfTeam_24 tk_i0 ?_
  refine tg_istore (lv2 := [(5, .int 0), (4, .int s0), (0, .ref (tg_ad x 42)), (1, .ref (tg_ad x 23)), (2, .int v2), (3, .int v3)]) X dX2_pullOfTeam_25 (by decide) rfl ?_
  refine tg_iload_n X dX2_pullOfTeam_27 rfl 4 rfl ?_
  refine tg_bipush X dX2_pullOfTeam_28 tk_b8 ?_
  refine tg_imul X dX2_pullOfTeam_30 ?_
  refine tg_topi (fun y1 ey1 => ?_)
  have h := tg_nmE ey1 h
  refine tg_istore (lv2 := [(6, .int y1), (5, .int 0), (4, .int s0), (0, .ref (tg_ad x 42)), (1, .ref (tg_ad x 23)), (2, .int v2), (3, .int v3)]) X dX2_pullOfTeam_31 (by decide) rfl ?_
  refine tg_re [3, 4, 5, 6, 2, 1, 0] rfl ?_
  exact wl_X2_pullOfTeam_b_33 X  tg_F S v2 v3 s0 0 y1 h
set_option maxRecDepth 20000 in
set_option maxHeartbeats 4000000 in
theorem w_X2_pullOfTeam_b_0 {x : tg_X} {Sf : tg_S} {r : Int32} (X : tg_M tauC x cX2_pullOfTeam 10 RX2 zr_X2_pullOfTeam (some .int) Sf (some (.int r))) (S : tg_S) (v2 : Int32) (v3 : Int32) (h : f_X2_pullOfTeam 42 23 S v2 v3 = some (Sf, r)) : tg_G tauC x S 0 [(0, .ref (tg_ad x 42)), (1, .ref (tg_ad x 23)), (2, .int v2), (3, .int v3)] [] := by
  unfold f_X2_pullOfTeam at h
  refine tg_aload_n X dX2_pullOfTeam_0 rfl 0 rfl ?_
  refine tg_geti X 42 rfl cl_X2 11 (by decide) rfl wf_X2_46 dX2_pullOfTeam_1 ?_
  refine tg_if_eq (tgt := 11) X dX2_pullOfTeam_4 (by decide) (fun c1 => ?_) (fun c1 => ?_)
  · have h := tg_ifT c1 h
    refine tg_aload_n X dX2_pullOfTeam_11 rfl 1 rfl ?_
    refine tg_getr X 23 rfl cl_X1 6 (by decide) rfl wf_X2_105 dX2_pullOfTeam_12 ?_
    refine tg_iload_n X dX2_pullOfTeam_15 rfl 2 rfl ?_
    refine tg_bipush X dX2_pullOfTeam_16 tk_b24 ?_
    refine tg_imul X dX2_pullOfTeam_18 ?_
    refine tg_iload_n X dX2_pullOfTeam_19 rfl 3 rfl ?_
    refine tg_iadd X dX2_pullOfTeam_20 ?_
    obtain ⟨y2, ey2, by2, h⟩ := tg_rdE h
    refine tg_iald X 30 rfl ey2 by2 dX2_pullOfTeam_21 ?_
    exact w_X2_pullOfTeam_b_22 X  S v2 v3 y2 h
  · have h := tg_ifF c1 h
    refine tg_iconst X dX2_pullOfTeam_7 tk_i0 ?_
    refine tg_goto (tgt := 22) X dX2_pullOfTeam_8 (by decide) ?_
    exact w_X2_pullOfTeam_b_22 X  S v2 v3 0 h
theorem cm_X2_pullOfTeam_b (l : Launch) (D : va_G) (cy : Bool → ClassId) (ad : Nat → Nat) (tS : Nat) {S Sf : tg_S} {v2 : Int32} {v3 : Int32} {r : Int32} (h : f_X2_pullOfTeam 42 23 S v2 v3 = some (Sf, r)) : tg_Met l yX2_pullOfTeam cX2_pullOfTeam 10 (some .int) zr_X2_pullOfTeam tauC D cy ad tS S [.ref (ad 42), .ref (ad 23), .int v2, .int v3] Sf (some (.int r)) := tg_mk (by decide +kernel) trivial (Nat.le_of_ble_eq_true rfl) (fun p e s m args below meth c Q A X => w_X2_pullOfTeam_b_0 X S v2 v3 h)
-- X2_standStill
def zr_X2_standStill : Room := { frames := 0, cells := 0, slots := 0, locals := 0 }
theorem dX2_standStill_0 : decode cX2_standStill 0 = .ok (.iconst 0, 1) := by decide +kernel
theorem dX2_standStill_1 : decode cX2_standStill 1 = .ok (.istore_n 2, 1) := by decide +kernel
theorem dX2_standStill_2 : decode cX2_standStill 2 = .ok (.iload_n 2, 1) := by decide +kernel
theorem dX2_standStill_3 : decode cX2_standStill 3 = .ok (.bipush 16, 2) := by decide +kernel
theorem dX2_standStill_5 : decode cX2_standStill 5 = .ok (.if_icmp .ge 38, 3) := by decide +kernel
theorem dX2_standStill_8 : decode cX2_standStill 8 = .ok (.aload_n 0, 1) := by decide +kernel
theorem dX2_standStill_9 : decode cX2_standStill 9 = .ok (.getfield 21, 3) := by decide +kernel
theorem dX2_standStill_12 : decode cX2_standStill 12 = .ok (.iload_n 2, 1) := by decide +kernel
theorem dX2_standStill_13 : decode cX2_standStill 13 = .ok (.bipush 24, 2) := by decide +kernel
theorem dX2_standStill_15 : decode cX2_standStill 15 = .ok (.imul, 1) := by decide +kernel
theorem dX2_standStill_16 : decode cX2_standStill 16 = .ok (.iload_n 1, 1) := by decide +kernel
theorem dX2_standStill_17 : decode cX2_standStill 17 = .ok (.iadd, 1) := by decide +kernel
theorem dX2_standStill_18 : decode cX2_standStill 18 = .ok (.iconst 0, 1) := by decide +kernel
theorem dX2_standStill_19 : decode cX2_standStill 19 = .ok (.iastore, 1) := by decide +kernel
theorem dX2_standStill_20 : decode cX2_standStill 20 = .ok (.aload_n 0, 1) := by decide +kernel
theorem dX2_standStill_21 : decode cX2_standStill 21 = .ok (.getfield 24, 3) := by decide +kernel
theorem dX2_standStill_24 : decode cX2_standStill 24 = .ok (.iload_n 2, 1) := by decide +kernel
theorem dX2_standStill_25 : decode cX2_standStill 25 = .ok (.bipush 24, 2) := by decide +kernel
theorem dX2_standStill_27 : decode cX2_standStill 27 = .ok (.imul, 1) := by decide +kernel
theorem dX2_standStill_28 : decode cX2_standStill 28 = .ok (.iload_n 1, 1) := by decide +kernel
theorem dX2_standStill_29 : decode cX2_standStill 29 = .ok (.iadd, 1) := by decide +kernel
theorem dX2_standStill_30 : decode cX2_standStill 30 = .ok (.aload_n 0, 1) := by decide +kernel
theorem dX2_standStill_31 : decode cX2_standStill 31 = .ok (.getfield 34, 3) := by decide +kernel
theorem dX2_standStill_34 : decode cX2_standStill 34 = .ok (.iload_n 2, 1) := by decide +kernel
theorem dX2_standStill_35 : decode cX2_standStill 35 = .ok (.iaload, 1) := by decide +kernel
theorem dX2_standStill_36 : decode cX2_standStill 36 = .ok (.iastore, 1) := by decide +kernel
theorem dX2_standStill_37 : decode cX2_standStill 37 = .ok (.iinc 2 1, 3) := by decide +kernel
theorem dX2_standStill_40 : decode cX2_standStill 40 = .ok (.goto (-38), 3) := by decide +kernel
theorem dX2_standStill_43 : decode cX2_standStill 43 = .ok (.return_, 1) := by decide +kernel
set_option maxRecDepth 20000 in
set_option maxHeartbeats 4000000 in
theorem w_X2_standStill_a_2 {x : tg_X} {Sf : tg_S} {rec2 : tg_S → Int32 → Int32 → Option (tg_S)} (X : tg_M tauC x cX2_standStill 3 RX2 zr_X2_standStill none Sf none) (hr2 : ∀ (S : tg_S) (v1 : Int32) (v2 : Int32), rec2 S v1 v2 = some Sf → tg_G tauC x S 2 [(0, .ref (tg_ad x 35)), (1, .int v1), (2, .int v2)] []) (S : tg_S) (v1 : Int32) (v2 : Int32) (h : f_X2_standStill_2 35 rec2 S v1 v2 = some Sf) : tg_G tauC x S 2 [(0, .ref (tg_ad x 35)), (1, .int v1), (2, .int v2)] [] := by
  unfold f_X2_standStill_2 at h
  refine tg_iload_n X dX2_standStill_2 rfl 2 rfl ?_
  refine tg_bipush X dX2_standStill_3 tk_b16 ?_
  refine tg_icmp_ge (tgt := 43) X dX2_standStill_5 (by decide) (fun c1 => ?_) (fun c1 => ?_)
  · have h := tg_ifT c1 h
    exact tg_vret X h dX2_standStill_43
  · have h := tg_ifF c1 h
    refine tg_aload_n X dX2_standStill_8 rfl 0 rfl ?_
    refine tg_getr X 35 rfl cl_X2 3 (by decide) rfl wf_X2_21 dX2_standStill_9 ?_
    refine tg_iload_n X dX2_standStill_12 rfl 2 rfl ?_
    refine tg_bipush X dX2_standStill_13 tk_b24 ?_
    refine tg_imul X dX2_standStill_15 ?_
    refine tg_iload_n X dX2_standStill_16 rfl 1 rfl ?_
    refine tg_iadd X dX2_standStill_17 ?_
    refine tg_iconst X dX2_standStill_18 tk_i0 ?_
    obtain ⟨S2, eS2, bS2, h⟩ := tg_wrE h
    refine tg_iast X 39 rfl bS2 dX2_standStill_19 eS2 ?_
    refine tg_aload_n X dX2_standStill_20 rfl 0 rfl ?_
    refine tg_getr X 35 rfl cl_X2 4 (by decide) rfl wf_X2_24 dX2_standStill_21 ?_
    refine tg_iload_n X dX2_standStill_24 rfl 2 rfl ?_
    refine tg_bipush X dX2_standStill_25 tk_b24 ?_
    refine tg_imul X dX2_standStill_27 ?_
    refine tg_iload_n X dX2_standStill_28 rfl 1 rfl ?_
    refine tg_iadd X dX2_standStill_29 ?_
    refine tg_aload_n X dX2_standStill_30 rfl 0 rfl ?_
    refine tg_getr X 35 rfl cl_X2 7 (by decide) rfl wf_X2_34 dX2_standStill_31 ?_
    refine tg_iload_n X dX2_standStill_34 rfl 2 rfl ?_
    obtain ⟨y3, ey3, by3, h⟩ := tg_rdE h
    refine tg_iald X 41 rfl ey3 by3 dX2_standStill_35 ?_
    obtain ⟨S4, eS4, bS4, h⟩ := tg_wrE h
    refine tg_iast X 40 rfl bS4 dX2_standStill_36 eS4 ?_
    obtain ⟨y5, ey5⟩ : ∃ z : Int32, z = v2 + 1 := ⟨_, rfl⟩
    have h := tg_nmE ey5 h
    refine tg_iinc (lv2 := [(2, .int y5), (0, .ref (tg_ad x 35)), (1, .int v1)]) X dX2_standStill_37 2 rfl tk_i1 ey5 (by decide) rfl ?_
    refine tg_goto (tgt := 2) X dX2_standStill_40 (by decide) ?_
    refine tg_re [1, 2, 0] rfl ?_
    exact hr2 S4 v1 y5 h
theorem wl_X2_standStill_a_2 {x : tg_X} {Sf : tg_S} (X : tg_M tauC x cX2_standStill 3 RX2 zr_X2_standStill none Sf none) : ∀ (n : Nat) (S : tg_S) (v1 : Int32) (v2 : Int32) (h : L_X2_standStill_2 35 n S v1 v2 = some Sf), tg_G tauC x S 2 [(0, .ref (tg_ad x 35)), (1, .int v1), (2, .int v2)] [] := by
  intro n
  induction n with
  | zero => intro S v1 v2 h; cases h
  | succ n ih => intro S v1 v2 h; exact w_X2_standStill_a_2 X  ih S v1 v2 h
set_option maxRecDepth 20000 in
set_option maxHeartbeats 4000000 in
theorem w_X2_standStill_a_0 {x : tg_X} {Sf : tg_S} (X : tg_M tauC x cX2_standStill 3 RX2 zr_X2_standStill none Sf none) (S : tg_S) (v1 : Int32) (h : f_X2_standStill 35 S v1 = some Sf) : tg_G tauC x S 0 [(0, .ref (tg_ad x 35)), (1, .int v1)] [] := by
  unfold f_X2_standStill at h
  refine tg_iconst X dX2_standStill_0 tk_i0 ?_
  refine tg_istore_n (lv2 := [(2, .int 0), (0, .ref (tg_ad x 35)), (1, .int v1)]) X dX2_standStill_1 rfl (by decide) rfl ?_
  refine tg_re [1, 2, 0] rfl ?_
  exact wl_X2_standStill_a_2 X  tg_F S v1 0 h
theorem cm_X2_standStill_a (l : Launch) (D : va_G) (cy : Bool → ClassId) (ad : Nat → Nat) (tS : Nat) {S Sf : tg_S} {v1 : Int32} (h : f_X2_standStill 35 S v1 = some Sf) : tg_Met l yX2_standStill cX2_standStill 3 none zr_X2_standStill tauC D cy ad tS S [.ref (ad 35), .int v1] Sf none := tg_mk (by decide +kernel) trivial (Nat.le_of_ble_eq_true rfl) (fun p e s m args below meth c Q A X => w_X2_standStill_a_0 X S v1 h)
set_option maxRecDepth 20000 in
set_option maxHeartbeats 4000000 in
theorem w_X2_standStill_b_2 {x : tg_X} {Sf : tg_S} {rec2 : tg_S → Int32 → Int32 → Option (tg_S)} (X : tg_M tauC x cX2_standStill 3 RX2 zr_X2_standStill none Sf none) (hr2 : ∀ (S : tg_S) (v1 : Int32) (v2 : Int32), rec2 S v1 v2 = some Sf → tg_G tauC x S 2 [(0, .ref (tg_ad x 42)), (1, .int v1), (2, .int v2)] []) (S : tg_S) (v1 : Int32) (v2 : Int32) (h : f_X2_standStill_2 42 rec2 S v1 v2 = some Sf) : tg_G tauC x S 2 [(0, .ref (tg_ad x 42)), (1, .int v1), (2, .int v2)] [] := by
  unfold f_X2_standStill_2 at h
  refine tg_iload_n X dX2_standStill_2 rfl 2 rfl ?_
  refine tg_bipush X dX2_standStill_3 tk_b16 ?_
  refine tg_icmp_ge (tgt := 43) X dX2_standStill_5 (by decide) (fun c1 => ?_) (fun c1 => ?_)
  · have h := tg_ifT c1 h
    exact tg_vret X h dX2_standStill_43
  · have h := tg_ifF c1 h
    refine tg_aload_n X dX2_standStill_8 rfl 0 rfl ?_
    refine tg_getr X 42 rfl cl_X2 3 (by decide) rfl wf_X2_21 dX2_standStill_9 ?_
    refine tg_iload_n X dX2_standStill_12 rfl 2 rfl ?_
    refine tg_bipush X dX2_standStill_13 tk_b24 ?_
    refine tg_imul X dX2_standStill_15 ?_
    refine tg_iload_n X dX2_standStill_16 rfl 1 rfl ?_
    refine tg_iadd X dX2_standStill_17 ?_
    refine tg_iconst X dX2_standStill_18 tk_i0 ?_
    obtain ⟨S2, eS2, bS2, h⟩ := tg_wrE h
    refine tg_iast X 46 rfl bS2 dX2_standStill_19 eS2 ?_
    refine tg_aload_n X dX2_standStill_20 rfl 0 rfl ?_
    refine tg_getr X 42 rfl cl_X2 4 (by decide) rfl wf_X2_24 dX2_standStill_21 ?_
    refine tg_iload_n X dX2_standStill_24 rfl 2 rfl ?_
    refine tg_bipush X dX2_standStill_25 tk_b24 ?_
    refine tg_imul X dX2_standStill_27 ?_
    refine tg_iload_n X dX2_standStill_28 rfl 1 rfl ?_
    refine tg_iadd X dX2_standStill_29 ?_
    refine tg_aload_n X dX2_standStill_30 rfl 0 rfl ?_
    refine tg_getr X 42 rfl cl_X2 7 (by decide) rfl wf_X2_34 dX2_standStill_31 ?_
    refine tg_iload_n X dX2_standStill_34 rfl 2 rfl ?_
    obtain ⟨y3, ey3, by3, h⟩ := tg_rdE h
    refine tg_iald X 48 rfl ey3 by3 dX2_standStill_35 ?_
    obtain ⟨S4, eS4, bS4, h⟩ := tg_wrE h
    refine tg_iast X 47 rfl bS4 dX2_standStill_36 eS4 ?_
    obtain ⟨y5, ey5⟩ : ∃ z : Int32, z = v2 + 1 := ⟨_, rfl⟩
    have h := tg_nmE ey5 h
    refine tg_iinc (lv2 := [(2, .int y5), (0, .ref (tg_ad x 42)), (1, .int v1)]) X dX2_standStill_37 2 rfl tk_i1 ey5 (by decide) rfl ?_
    refine tg_goto (tgt := 2) X dX2_standStill_40 (by decide) ?_
    refine tg_re [1, 2, 0] rfl ?_
    exact hr2 S4 v1 y5 h
theorem wl_X2_standStill_b_2 {x : tg_X} {Sf : tg_S} (X : tg_M tauC x cX2_standStill 3 RX2 zr_X2_standStill none Sf none) : ∀ (n : Nat) (S : tg_S) (v1 : Int32) (v2 : Int32) (h : L_X2_standStill_2 42 n S v1 v2 = some Sf), tg_G tauC x S 2 [(0, .ref (tg_ad x 42)), (1, .int v1), (2, .int v2)] [] := by
  intro n
  induction n with
  | zero => intro S v1 v2 h; cases h
  | succ n ih => intro S v1 v2 h; exact w_X2_standStill_b_2 X  ih S v1 v2 h
set_option maxRecDepth 20000 in
set_option maxHeartbeats 4000000 in
theorem w_X2_standStill_b_0 {x : tg_X} {Sf : tg_S} (X : tg_M tauC x cX2_standStill 3 RX2 zr_X2_standStill none Sf none) (S : tg_S) (v1 : Int32) (h : f_X2_standStill 42 S v1 = some Sf) : tg_G tauC x S 0 [(0, .ref (tg_ad x 42)), (1, .int v1)] [] := by
  unfold f_X2_standStill at h
  refine tg_iconst X dX2_standStill_0 tk_i0 ?_
  refine tg_istore_n (lv2 := [(2, .int 0), (0, .ref (tg_ad x 42)), (1, .int v1)]) X dX2_standStill_1 rfl (by decide) rfl ?_
  refine tg_re [1, 2, 0] rfl ?_
  exact wl_X2_standStill_b_2 X  tg_F S v1 0 h
theorem cm_X2_standStill_b (l : Launch) (D : va_G) (cy : Bool → ClassId) (ad : Nat → Nat) (tS : Nat) {S Sf : tg_S} {v1 : Int32} (h : f_X2_standStill 42 S v1 = some Sf) : tg_Met l yX2_standStill cX2_standStill 3 none zr_X2_standStill tauC D cy ad tS S [.ref (ad 42), .int v1] Sf none := tg_mk (by decide +kernel) trivial (Nat.le_of_ble_eq_true rfl) (fun p e s m args below meth c Q A X => w_X2_standStill_b_0 X S v1 h)
