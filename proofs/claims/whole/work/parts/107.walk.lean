-- X7_write
def zr_X7_write : Room := { frames := 1, cells := 0, slots := 0, locals := 24 }
theorem dX7_write_0 : decode cX7_write 0 = .ok (.iload_n 1, 1) := by decide +kernel
theorem dX7_write_1 : decode cX7_write 1 = .ok (.iconst 4, 1) := by decide +kernel
theorem dX7_write_2 : decode cX7_write 2 = .ok (.invokestatic 75, 3) := by decide +kernel
theorem dX7_write_5 : decode cX7_write 5 = .ok (.ifCond .ne 6, 3) := by decide +kernel
theorem dX7_write_8 : decode cX7_write 8 = .ok (.bipush (-2), 2) := by decide +kernel
theorem dX7_write_10 : decode cX7_write 10 = .ok (.ireturn, 1) := by decide +kernel
theorem dX7_write_11 : decode cX7_write 11 = .ok (.aload_n 0, 1) := by decide +kernel
theorem dX7_write_12 : decode cX7_write 12 = .ok (.getfield 26, 3) := by decide +kernel
theorem dX7_write_15 : decode cX7_write 15 = .ok (.iload_n 1, 1) := by decide +kernel
theorem dX7_write_16 : decode cX7_write 16 = .ok (.invokevirtual 140, 3) := by decide +kernel
theorem dX7_write_19 : decode cX7_write 19 = .ok (.ifCond .eq 9, 3) := by decide +kernel
theorem dX7_write_22 : decode cX7_write 22 = .ok (.aload_n 0, 1) := by decide +kernel
theorem dX7_write_23 : decode cX7_write 23 = .ok (.iconst 1, 1) := by decide +kernel
theorem dX7_write_24 : decode cX7_write 24 = .ok (.invokevirtual 143, 3) := by decide +kernel
theorem dX7_write_27 : decode cX7_write 27 = .ok (.ireturn, 1) := by decide +kernel
theorem dX7_write_28 : decode cX7_write 28 = .ok (.bipush 24, 2) := by decide +kernel
theorem dX7_write_30 : decode cX7_write 30 = .ok (.aload_n 0, 1) := by decide +kernel
theorem dX7_write_31 : decode cX7_write 31 = .ok (.getfield 26, 3) := by decide +kernel
theorem dX7_write_34 : decode cX7_write 34 = .ok (.iload_n 1, 1) := by decide +kernel
theorem dX7_write_35 : decode cX7_write 35 = .ok (.invokevirtual 146, 3) := by decide +kernel
theorem dX7_write_38 : decode cX7_write 38 = .ok (.invokestatic 180, 3) := by decide +kernel
theorem dX7_write_41 : decode cX7_write 41 = .ok (.istore_n 2, 1) := by decide +kernel
theorem dX7_write_42 : decode cX7_write 42 = .ok (.iconst 0, 1) := by decide +kernel
theorem dX7_write_43 : decode cX7_write 43 = .ok (.istore_n 3, 1) := by decide +kernel
theorem dX7_write_44 : decode cX7_write 44 = .ok (.iload_n 3, 1) := by decide +kernel
theorem dX7_write_45 : decode cX7_write 45 = .ok (.iload_n 2, 1) := by decide +kernel
theorem dX7_write_46 : decode cX7_write 46 = .ok (.if_icmp .ge 27, 3) := by decide +kernel
theorem dX7_write_49 : decode cX7_write 49 = .ok (.aload_n 0, 1) := by decide +kernel
theorem dX7_write_50 : decode cX7_write 50 = .ok (.getfield 26, 3) := by decide +kernel
theorem dX7_write_53 : decode cX7_write 53 = .ok (.iload_n 1, 1) := by decide +kernel
theorem dX7_write_54 : decode cX7_write 54 = .ok (.iload_n 3, 1) := by decide +kernel
theorem dX7_write_55 : decode cX7_write 55 = .ok (.aload_n 0, 1) := by decide +kernel
theorem dX7_write_56 : decode cX7_write 56 = .ok (.getfield 44, 3) := by decide +kernel
theorem dX7_write_59 : decode cX7_write 59 = .ok (.getfield 154, 3) := by decide +kernel
theorem dX7_write_62 : decode cX7_write 62 = .ok (.iload_n 3, 1) := by decide +kernel
theorem dX7_write_63 : decode cX7_write 63 = .ok (.iaload, 1) := by decide +kernel
theorem dX7_write_64 : decode cX7_write 64 = .ok (.invokevirtual 265, 3) := by decide +kernel
theorem dX7_write_67 : decode cX7_write 67 = .ok (.iinc 3 1, 3) := by decide +kernel
theorem dX7_write_70 : decode cX7_write 70 = .ok (.goto (-26), 3) := by decide +kernel
theorem dX7_write_73 : decode cX7_write 73 = .ok (.iload_n 2, 1) := by decide +kernel
theorem dX7_write_74 : decode cX7_write 74 = .ok (.ireturn, 1) := by decide +kernel
set_option maxRecDepth 20000 in
set_option maxHeartbeats 4000000 in
theorem w_X7_write_44 {x : tg_X} {Sf : tg_S} {r : Int32} {rec44 : tg_S → Int32 → Int32 → Int32 → Option (tg_S × Int32)} (X : tg_M tauC x cX7_write 4 RX7 zr_X7_write (some .int) Sf (some (.int r))) (hr44 : ∀ (S : tg_S) (v1 : Int32) (v2 : Int32) (v3 : Int32), rec44 S v1 v2 v3 = some (Sf, r) → tg_G tauC x S 44 [(0, .ref (tg_ad x 0)), (1, .int v1), (2, .int v2), (3, .int v3)] []) (S : tg_S) (v1 : Int32) (v2 : Int32) (v3 : Int32) (h : f_X7_write_44 rec44 S v1 v2 v3 = some (Sf, r)) : tg_G tauC x S 44 [(0, .ref (tg_ad x 0)), (1, .int v1), (2, .int v2), (3, .int v3)] [] := by
  unfold f_X7_write_44 at h
  refine tg_iload_n X dX7_write_44 rfl 3 rfl ?_
  refine tg_iload_n X dX7_write_45 rfl 2 rfl ?_
  refine tg_icmp_ge (tgt := 73) X dX7_write_46 (by decide) (fun c1 => ?_) (fun c1 => ?_)
  · have h := tg_ifT c1 h
    refine tg_iload_n X dX7_write_73 rfl 2 rfl ?_
    exact tg_iret X h rfl dX7_write_74
  · have h := tg_ifF c1 h
    refine tg_aload_n X dX7_write_49 rfl 0 rfl ?_
    refine tg_getr X 0 rfl cl_X7 2 (by decide) rfl wf_X7_26 dX7_write_50 ?_
    refine tg_iload_n X dX7_write_53 rfl 1 rfl ?_
    refine tg_iload_n X dX7_write_54 rfl 3 rfl ?_
    refine tg_aload_n X dX7_write_55 rfl 0 rfl ?_
    refine tg_getr X 0 rfl cl_X7 5 (by decide) rfl wf_X7_44 dX7_write_56 ?_
    refine tg_getr X 35 rfl cl_X2 0 (by decide) rfl wf_X7_154 dX7_write_59 ?_
    refine tg_iload_n X dX7_write_62 rfl 3 rfl ?_
    obtain ⟨y2, ey2, by2, h⟩ := tg_rdE h
    refine tg_iald X 36 rfl ey2 by2 dX7_write_63 ?_
    obtain ⟨S3, kS3, h⟩ := tg_bvE h
    refine tg_callV (As := [.int v1, .int v3, .int y2]) (rest := []) X 7 (cm_X5_store _ _ _ _ _ kS3) yy_X5_store wv_X5_store ws_X5_store wm_X7_265 rfl cl_X5.1 ⟨rfl, rfl, Nat.le_of_ble_eq_true rfl, Nat.le_of_ble_eq_true rfl⟩ rfl rfl (Nat.le_of_ble_eq_true rfl) dX7_write_64 rfl ?_
    obtain ⟨y4, ey4⟩ : ∃ z : Int32, z = v3 + 1 := ⟨_, rfl⟩
    have h := tg_nmE ey4 h
    refine tg_iinc (lv2 := [(3, .int y4), (0, .ref (tg_ad x 0)), (1, .int v1), (2, .int v2)]) X dX7_write_67 3 rfl tk_i1 ey4 (by decide) rfl ?_
    refine tg_goto (tgt := 44) X dX7_write_70 (by decide) ?_
    refine tg_re [1, 2, 3, 0] rfl ?_
    exact hr44 S3 v1 v2 y4 h
theorem wl_X7_write_44 {x : tg_X} {Sf : tg_S} {r : Int32} (X : tg_M tauC x cX7_write 4 RX7 zr_X7_write (some .int) Sf (some (.int r))) : ∀ (n : Nat) (S : tg_S) (v1 : Int32) (v2 : Int32) (v3 : Int32) (h : L_X7_write_44  n S v1 v2 v3 = some (Sf, r)), tg_G tauC x S 44 [(0, .ref (tg_ad x 0)), (1, .int v1), (2, .int v2), (3, .int v3)] [] := by
  intro n
  induction n with
  | zero => intro S v1 v2 v3 h; cases h
  | succ n ih => intro S v1 v2 v3 h; exact w_X7_write_44 X  ih S v1 v2 v3 h
set_option maxRecDepth 20000 in
set_option maxHeartbeats 4000000 in
theorem w_X7_write_0 {x : tg_X} {Sf : tg_S} {r : Int32} (X : tg_M tauC x cX7_write 4 RX7 zr_X7_write (some .int) Sf (some (.int r))) (S : tg_S) (v1 : Int32) (h : f_X7_write  S v1 = some (Sf, r)) : tg_G tauC x S 0 [(0, .ref (tg_ad x 0)), (1, .int v1)] [] := by
  unfold f_X7_write at h
  refine tg_iload_n X dX7_write_0 rfl 1 rfl ?_
  refine tg_iconst X dX7_write_1 tk_i4 ?_
  obtain ⟨S1, r2, kS1, h⟩ := tg_bdE h
  refine tg_callS (As := [.int v1, .int 4]) (rest := []) X (cm_X7_isBelow _ _ _ _ _ kS1) yy_X7_isBelow wt_X7_isBelow wm_X7_75 ⟨rfl, rfl, Nat.le_of_ble_eq_true rfl, Nat.le_of_ble_eq_true rfl⟩ rfl rfl (Nat.le_of_ble_eq_true rfl) dX7_write_2 rfl ?_
  refine tg_if_ne (tgt := 11) X dX7_write_5 (by decide) (fun c3 => ?_) (fun c3 => ?_)
  · have h := tg_ifF c3 h
    refine tg_aload_n X dX7_write_11 rfl 0 rfl ?_
    refine tg_getr X 0 rfl cl_X7 2 (by decide) rfl wf_X7_26 dX7_write_12 ?_
    refine tg_iload_n X dX7_write_15 rfl 1 rfl ?_
    obtain ⟨S4, r5, kS4, h⟩ := tg_bdE h
    refine tg_callV (As := [.int v1]) (rest := []) X 7 (cm_X5_isLost _ _ _ _ _ kS4) yy_X5_isLost wv_X5_isLost ws_X5_isLost wm_X7_140 rfl cl_X5.1 ⟨rfl, rfl, Nat.le_of_ble_eq_true rfl, Nat.le_of_ble_eq_true rfl⟩ rfl rfl (Nat.le_of_ble_eq_true rfl) dX7_write_16 rfl ?_
    refine tg_if_eq (tgt := 28) X dX7_write_19 (by decide) (fun c6 => ?_) (fun c6 => ?_)
    · have h := tg_ifT c6 h
      refine tg_bipush X dX7_write_28 tk_b24 ?_
      refine tg_aload_n X dX7_write_30 rfl 0 rfl ?_
      refine tg_getr X 0 rfl cl_X7 2 (by decide) rfl wf_X7_26 dX7_write_31 ?_
      refine tg_iload_n X dX7_write_34 rfl 1 rfl ?_
      obtain ⟨S7, r8, kS7, h⟩ := tg_bdE h
      refine tg_callV (As := [.int v1]) (rest := [.int 24]) X 7 (cm_X5_size _ _ _ _ _ kS7) yy_X5_size wv_X5_size ws_X5_size wm_X7_146 rfl cl_X5.1 ⟨rfl, rfl, Nat.le_of_ble_eq_true rfl, Nat.le_of_ble_eq_true rfl⟩ rfl rfl (Nat.le_of_ble_eq_true rfl) dX7_write_35 rfl ?_
      refine tg_mmin X ⟨wm_X7_180, wt_Mmin, wi_Math, wc_Mmin⟩ ⟨Nat.le_of_ble_eq_true rfl, Nat.le_of_ble_eq_true rfl⟩ dX7_write_38 ?_
      refine tg_topi (fun y9 ey9 => ?_)
      have h := tg_nmE ey9 h
      refine tg_istore_n (lv2 := [(2, .int y9), (0, .ref (tg_ad x 0)), (1, .int v1)]) X dX7_write_41 rfl (by decide) rfl ?_
      refine tg_iconst X dX7_write_42 tk_i0 ?_
      refine tg_istore_n (lv2 := [(3, .int 0), (2, .int y9), (0, .ref (tg_ad x 0)), (1, .int v1)]) X dX7_write_43 rfl (by decide) rfl ?_
      refine tg_re [2, 3, 1, 0] rfl ?_
      exact wl_X7_write_44 X  tg_F S7 v1 y9 0 h
    · have h := tg_ifF c6 h
      refine tg_aload_n X dX7_write_22 rfl 0 rfl ?_
      refine tg_iconst X dX7_write_23 tk_i1 ?_
      obtain ⟨S10, r11, kS10, h⟩ := tg_bdE h
      refine tg_callV (As := [.int 1]) (rest := []) X 0 (cm_X7_found _ _ _ _ _ kS10) yy_X7_found wv_X7_found ws_X7_found wm_X7_143 rfl cl_X7.1 ⟨rfl, rfl, Nat.le_of_ble_eq_true rfl, Nat.le_of_ble_eq_true rfl⟩ rfl rfl (Nat.le_of_ble_eq_true rfl) dX7_write_24 rfl ?_
      exact tg_iret X h rfl dX7_write_27
  · have h := tg_ifT c3 h
    refine tg_bipush X dX7_write_8 tk_bm2 ?_
    exact tg_iret X h rfl dX7_write_10
theorem cm_X7_write (l : Launch) (D : va_G) (cy : Bool → ClassId) (ad : Nat → Nat) (tS : Nat) {S Sf : tg_S} {v1 : Int32} {r : Int32} (h : f_X7_write  S v1 = some (Sf, r)) : tg_Met l yX7_write cX7_write 4 (some .int) zr_X7_write tauC D cy ad tS S [.ref (ad 0), .int v1] Sf (some (.int r)) := tg_mk (by decide +kernel) trivial (Nat.le_of_ble_eq_true rfl) (fun p e s m args below meth c Q A X => w_X7_write_0 X S v1 h)
-- X7_count
def zr_X7_count : Room := { frames := 3, cells := 0, slots := 0, locals := 67 }
theorem dX7_count_0 : decode cX7_count 0 = .ok (.iload_n 1, 1) := by decide +kernel
theorem dX7_count_1 : decode cX7_count 1 = .ok (.tableswitch 113 0 8 #[51, 51, 61, 61, 70, 78, 89, 100, 108], 51) := by decide +kernel
theorem dX7_count_52 : decode cX7_count 52 = .ok (.aload_n 0, 1) := by decide +kernel
theorem dX7_count_53 : decode cX7_count 53 = .ok (.getfield 37, 3) := by decide +kernel
theorem dX7_count_56 : decode cX7_count 56 = .ok (.getfield 281, 3) := by decide +kernel
theorem dX7_count_59 : decode cX7_count 59 = .ok (.iload_n 1, 1) := by decide +kernel
theorem dX7_count_60 : decode cX7_count 60 = .ok (.iaload, 1) := by decide +kernel
theorem dX7_count_61 : decode cX7_count 61 = .ok (.ireturn, 1) := by decide +kernel
theorem dX7_count_62 : decode cX7_count 62 = .ok (.aload_n 0, 1) := by decide +kernel
theorem dX7_count_63 : decode cX7_count 63 = .ok (.getfield 10, 3) := by decide +kernel
theorem dX7_count_66 : decode cX7_count 66 = .ok (.iload_n 1, 1) := by decide +kernel
theorem dX7_count_67 : decode cX7_count 67 = .ok (.invokevirtual 283, 3) := by decide +kernel
theorem dX7_count_70 : decode cX7_count 70 = .ok (.ireturn, 1) := by decide +kernel
theorem dX7_count_71 : decode cX7_count 71 = .ok (.aload_n 0, 1) := by decide +kernel
theorem dX7_count_72 : decode cX7_count 72 = .ok (.getfield 10, 3) := by decide +kernel
theorem dX7_count_75 : decode cX7_count 75 = .ok (.invokevirtual 286, 3) := by decide +kernel
theorem dX7_count_78 : decode cX7_count 78 = .ok (.ireturn, 1) := by decide +kernel
theorem dX7_count_79 : decode cX7_count 79 = .ok (.aload_n 0, 1) := by decide +kernel
theorem dX7_count_80 : decode cX7_count 80 = .ok (.getfield 37, 3) := by decide +kernel
theorem dX7_count_83 : decode cX7_count 83 = .ok (.getfield 127, 3) := by decide +kernel
theorem dX7_count_86 : decode cX7_count 86 = .ok (.getfield 131, 3) := by decide +kernel
theorem dX7_count_89 : decode cX7_count 89 = .ok (.ireturn, 1) := by decide +kernel
theorem dX7_count_90 : decode cX7_count 90 = .ok (.aload_n 0, 1) := by decide +kernel
theorem dX7_count_91 : decode cX7_count 91 = .ok (.getfield 44, 3) := by decide +kernel
theorem dX7_count_94 : decode cX7_count 94 = .ok (.getfield 154, 3) := by decide +kernel
theorem dX7_count_97 : decode cX7_count 97 = .ok (.bipush 23, 2) := by decide +kernel
theorem dX7_count_99 : decode cX7_count 99 = .ok (.iaload, 1) := by decide +kernel
theorem dX7_count_100 : decode cX7_count 100 = .ok (.ireturn, 1) := by decide +kernel
theorem dX7_count_101 : decode cX7_count 101 = .ok (.aload_n 0, 1) := by decide +kernel
theorem dX7_count_102 : decode cX7_count 102 = .ok (.getfield 19, 3) := by decide +kernel
theorem dX7_count_105 : decode cX7_count 105 = .ok (.getfield 224, 3) := by decide +kernel
theorem dX7_count_108 : decode cX7_count 108 = .ok (.ireturn, 1) := by decide +kernel
theorem dX7_count_109 : decode cX7_count 109 = .ok (.aload_n 0, 1) := by decide +kernel
theorem dX7_count_110 : decode cX7_count 110 = .ok (.getfield 30, 3) := by decide +kernel
theorem dX7_count_113 : decode cX7_count 113 = .ok (.ireturn, 1) := by decide +kernel
theorem dX7_count_114 : decode cX7_count 114 = .ok (.bipush (-2), 2) := by decide +kernel
theorem dX7_count_116 : decode cX7_count 116 = .ok (.ireturn, 1) := by decide +kernel
set_option maxRecDepth 20000 in
set_option maxHeartbeats 4000000 in
theorem w_X7_count_0 {x : tg_X} {Sf : tg_S} {r : Int32} (X : tg_M tauC x cX7_count 2 RX7 zr_X7_count (some .int) Sf (some (.int r))) (S : tg_S) (v1 : Int32) (h : f_X7_count  S v1 = some (Sf, r)) : tg_G tauC x S 0 [(0, .ref (tg_ad x 0)), (1, .int v1)] [] := by
  unfold f_X7_count at h
  refine tg_iload_n X dX7_count_0 rfl 1 rfl ?_
  by_cases c1 : v1 = 0
  · have h := tg_ifT c1 h
    refine tg_tsw (tgt := 52) (off := 51) X dX7_count_1 c1 (by decide) (by decide) ?_
    refine tg_aload_n X dX7_count_52 rfl 0 rfl ?_
    refine tg_getr X 0 rfl cl_X7 4 (by decide) rfl wf_X7_37 dX7_count_53 ?_
    refine tg_getr X 11 rfl cl_X1 4 (by decide) rfl wf_X7_281 dX7_count_56 ?_
    refine tg_iload_n X dX7_count_59 rfl 1 rfl ?_
    obtain ⟨y2, ey2, by2, h⟩ := tg_rdE h
    refine tg_iald X 16 rfl ey2 by2 dX7_count_60 ?_
    exact tg_iret X h rfl dX7_count_61
  have h := tg_ifF c1 h
  by_cases c3 : v1 = 1
  · have h := tg_ifT c3 h
    refine tg_tsw (tgt := 52) (off := 51) X dX7_count_1 c3 (by decide) (by decide) ?_
    refine tg_aload_n X dX7_count_52 rfl 0 rfl ?_
    refine tg_getr X 0 rfl cl_X7 4 (by decide) rfl wf_X7_37 dX7_count_53 ?_
    refine tg_getr X 11 rfl cl_X1 4 (by decide) rfl wf_X7_281 dX7_count_56 ?_
    refine tg_iload_n X dX7_count_59 rfl 1 rfl ?_
    obtain ⟨y4, ey4, by4, h⟩ := tg_rdE h
    refine tg_iald X 16 rfl ey4 by4 dX7_count_60 ?_
    exact tg_iret X h rfl dX7_count_61
  have h := tg_ifF c3 h
  by_cases c5 : v1 = 2
  · have h := tg_ifT c5 h
    refine tg_tsw (tgt := 62) (off := 61) X dX7_count_1 c5 (by decide) (by decide) ?_
    refine tg_aload_n X dX7_count_62 rfl 0 rfl ?_
    refine tg_getr X 0 rfl cl_X7 0 (by decide) rfl wf_X7_10 dX7_count_63 ?_
    refine tg_iload_n X dX7_count_66 rfl 1 rfl ?_
    obtain ⟨S6, r7, kS6, h⟩ := tg_bdE h
    refine tg_callV (As := [.int v1]) (rest := []) X 1 (cm_X6_soundLength _ _ _ _ _ kS6) yy_X6_soundLength wv_X6_soundLength ws_X6_soundLength wm_X7_283 rfl cl_X6.1 ⟨rfl, rfl, Nat.le_of_ble_eq_true rfl, Nat.le_of_ble_eq_true rfl⟩ rfl rfl (Nat.le_of_ble_eq_true rfl) dX7_count_67 rfl ?_
    exact tg_iret X h rfl dX7_count_70
  have h := tg_ifF c5 h
  by_cases c8 : v1 = 3
  · have h := tg_ifT c8 h
    refine tg_tsw (tgt := 62) (off := 61) X dX7_count_1 c8 (by decide) (by decide) ?_
    refine tg_aload_n X dX7_count_62 rfl 0 rfl ?_
    refine tg_getr X 0 rfl cl_X7 0 (by decide) rfl wf_X7_10 dX7_count_63 ?_
    refine tg_iload_n X dX7_count_66 rfl 1 rfl ?_
    obtain ⟨S9, r10, kS9, h⟩ := tg_bdE h
    refine tg_callV (As := [.int v1]) (rest := []) X 1 (cm_X6_soundLength _ _ _ _ _ kS9) yy_X6_soundLength wv_X6_soundLength ws_X6_soundLength wm_X7_283 rfl cl_X6.1 ⟨rfl, rfl, Nat.le_of_ble_eq_true rfl, Nat.le_of_ble_eq_true rfl⟩ rfl rfl (Nat.le_of_ble_eq_true rfl) dX7_count_67 rfl ?_
    exact tg_iret X h rfl dX7_count_70
  have h := tg_ifF c8 h
  by_cases c11 : v1 = 4
  · have h := tg_ifT c11 h
    refine tg_tsw (tgt := 71) (off := 70) X dX7_count_1 c11 (by decide) (by decide) ?_
    refine tg_aload_n X dX7_count_71 rfl 0 rfl ?_
    refine tg_getr X 0 rfl cl_X7 0 (by decide) rfl wf_X7_10 dX7_count_72 ?_
    obtain ⟨S12, r13, kS12, h⟩ := tg_bdE h
    refine tg_callV (As := []) (rest := []) X 1 (cm_X6_lengthOfAll _ _ _ _ _ kS12) yy_X6_lengthOfAll wv_X6_lengthOfAll ws_X6_lengthOfAll wm_X7_286 rfl cl_X6.1 ⟨rfl, rfl, Nat.le_of_ble_eq_true rfl, Nat.le_of_ble_eq_true rfl⟩ rfl rfl (Nat.le_of_ble_eq_true rfl) dX7_count_75 rfl ?_
    exact tg_iret X h rfl dX7_count_78
  have h := tg_ifF c11 h
  by_cases c14 : v1 = 5
  · have h := tg_ifT c14 h
    refine tg_tsw (tgt := 79) (off := 78) X dX7_count_1 c14 (by decide) (by decide) ?_
    refine tg_aload_n X dX7_count_79 rfl 0 rfl ?_
    refine tg_getr X 0 rfl cl_X7 4 (by decide) rfl wf_X7_37 dX7_count_80 ?_
    refine tg_getr X 11 rfl cl_X1 7 (by decide) rfl wf_X7_127 dX7_count_83 ?_
    refine tg_geti X 19 rfl cl_X3 3 (by decide) rfl wf_X7_131 dX7_count_86 ?_
    exact tg_iret X h rfl dX7_count_89
  have h := tg_ifF c14 h
  by_cases c15 : v1 = 6
  · have h := tg_ifT c15 h
    refine tg_tsw (tgt := 90) (off := 89) X dX7_count_1 c15 (by decide) (by decide) ?_
    refine tg_aload_n X dX7_count_90 rfl 0 rfl ?_
    refine tg_getr X 0 rfl cl_X7 5 (by decide) rfl wf_X7_44 dX7_count_91 ?_
    refine tg_getr X 35 rfl cl_X2 0 (by decide) rfl wf_X7_154 dX7_count_94 ?_
    refine tg_bipush X dX7_count_97 tk_b23 ?_
    obtain ⟨y16, ey16, by16, h⟩ := tg_rdE h
    refine tg_iald X 36 rfl ey16 by16 dX7_count_99 ?_
    exact tg_iret X h rfl dX7_count_100
  have h := tg_ifF c15 h
  by_cases c17 : v1 = 7
  · have h := tg_ifT c17 h
    refine tg_tsw (tgt := 101) (off := 100) X dX7_count_1 c17 (by decide) (by decide) ?_
    refine tg_aload_n X dX7_count_101 rfl 0 rfl ?_
    refine tg_getr X 0 rfl cl_X7 1 (by decide) rfl wf_X7_19 dX7_count_102 ?_
    refine tg_geti X 4 rfl cl_X4 2 (by decide) rfl wf_X7_224 dX7_count_105 ?_
    exact tg_iret X h rfl dX7_count_108
  have h := tg_ifF c17 h
  by_cases c18 : v1 = 8
  · have h := tg_ifT c18 h
    refine tg_tsw (tgt := 109) (off := 108) X dX7_count_1 c18 (by decide) (by decide) ?_
    refine tg_aload_n X dX7_count_109 rfl 0 rfl ?_
    refine tg_geti X 0 rfl cl_X7 3 (by decide) rfl wf_X7_30 dX7_count_110 ?_
    exact tg_iret X h rfl dX7_count_113
  have h := tg_ifF c18 h
  refine tg_tswD (tgt := 114) X dX7_count_1 (by have q0 := tg_nei (b := 0) (z := 0) rfl c1; have q1 := tg_nei (b := 1) (z := 1) rfl c3; have q2 := tg_nei (b := 2) (z := 2) rfl c5; have q3 := tg_nei (b := 3) (z := 3) rfl c8; have q4 := tg_nei (b := 4) (z := 4) rfl c11; have q5 := tg_nei (b := 5) (z := 5) rfl c14; have q6 := tg_nei (b := 6) (z := 6) rfl c15; have q7 := tg_nei (b := 7) (z := 7) rfl c17; have q8 := tg_nei (b := 8) (z := 8) rfl c18; omega) (by decide) ?_
  refine tg_bipush X dX7_count_114 tk_bm2 ?_
  exact tg_iret X h rfl dX7_count_116
theorem cm_X7_count (l : Launch) (D : va_G) (cy : Bool → ClassId) (ad : Nat → Nat) (tS : Nat) {S Sf : tg_S} {v1 : Int32} {r : Int32} (h : f_X7_count  S v1 = some (Sf, r)) : tg_Met l yX7_count cX7_count 2 (some .int) zr_X7_count tauC D cy ad tS S [.ref (ad 0), .int v1] Sf (some (.int r)) := tg_mk (by decide +kernel) trivial (Nat.le_of_ble_eq_true rfl) (fun p e s m args below meth c Q A X => w_X7_count_0 X S v1 h)
-- X7_withBeat
def zr_X7_withBeat : Room := { frames := 2, cells := 0, slots := 0, locals := 43 }
theorem dX7_withBeat_0 : decode cX7_withBeat 0 = .ok (.lload_n 1, 1) := by decide +kernel
theorem dX7_withBeat_1 : decode cX7_withBeat 1 = .ok (.lstore 4, 2) := by decide +kernel
theorem dX7_withBeat_3 : decode cX7_withBeat 3 = .ok (.ldc2_w 291, 3) := by decide +kernel
theorem dX7_withBeat_6 : decode cX7_withBeat 6 = .ok (.lload 4, 2) := by decide +kernel
theorem dX7_withBeat_8 : decode cX7_withBeat 8 = .ok (.lmul, 1) := by decide +kernel
theorem dX7_withBeat_9 : decode cX7_withBeat 9 = .ok (.aload_n 0, 1) := by decide +kernel
theorem dX7_withBeat_10 : decode cX7_withBeat 10 = .ok (.iconst 0, 1) := by decide +kernel
theorem dX7_withBeat_11 : decode cX7_withBeat 11 = .ok (.iload_n 3, 1) := by decide +kernel
theorem dX7_withBeat_12 : decode cX7_withBeat 12 = .ok (.invokevirtual 333, 3) := by decide +kernel
theorem dX7_withBeat_15 : decode cX7_withBeat 15 = .ok (.i2l, 1) := by decide +kernel
theorem dX7_withBeat_16 : decode cX7_withBeat 16 = .ok (.ladd, 1) := by decide +kernel
theorem dX7_withBeat_17 : decode cX7_withBeat 17 = .ok (.lstore 4, 2) := by decide +kernel
theorem dX7_withBeat_19 : decode cX7_withBeat 19 = .ok (.ldc2_w 291, 3) := by decide +kernel
theorem dX7_withBeat_22 : decode cX7_withBeat 22 = .ok (.lload 4, 2) := by decide +kernel
theorem dX7_withBeat_24 : decode cX7_withBeat 24 = .ok (.lmul, 1) := by decide +kernel
theorem dX7_withBeat_25 : decode cX7_withBeat 25 = .ok (.aload_n 0, 1) := by decide +kernel
theorem dX7_withBeat_26 : decode cX7_withBeat 26 = .ok (.iconst 1, 1) := by decide +kernel
theorem dX7_withBeat_27 : decode cX7_withBeat 27 = .ok (.iload_n 3, 1) := by decide +kernel
theorem dX7_withBeat_28 : decode cX7_withBeat 28 = .ok (.invokevirtual 333, 3) := by decide +kernel
theorem dX7_withBeat_31 : decode cX7_withBeat 31 = .ok (.i2l, 1) := by decide +kernel
theorem dX7_withBeat_32 : decode cX7_withBeat 32 = .ok (.ladd, 1) := by decide +kernel
theorem dX7_withBeat_33 : decode cX7_withBeat 33 = .ok (.lstore 4, 2) := by decide +kernel
theorem dX7_withBeat_35 : decode cX7_withBeat 35 = .ok (.iconst 0, 1) := by decide +kernel
theorem dX7_withBeat_36 : decode cX7_withBeat 36 = .ok (.istore 6, 2) := by decide +kernel
theorem dX7_withBeat_38 : decode cX7_withBeat 38 = .ok (.iload 6, 2) := by decide +kernel
theorem dX7_withBeat_40 : decode cX7_withBeat 40 = .ok (.iconst 4, 1) := by decide +kernel
theorem dX7_withBeat_41 : decode cX7_withBeat 41 = .ok (.if_icmp .ge 26, 3) := by decide +kernel
theorem dX7_withBeat_44 : decode cX7_withBeat 44 = .ok (.ldc2_w 291, 3) := by decide +kernel
theorem dX7_withBeat_47 : decode cX7_withBeat 47 = .ok (.lload 4, 2) := by decide +kernel
theorem dX7_withBeat_49 : decode cX7_withBeat 49 = .ok (.lmul, 1) := by decide +kernel
theorem dX7_withBeat_50 : decode cX7_withBeat 50 = .ok (.aload_n 0, 1) := by decide +kernel
theorem dX7_withBeat_51 : decode cX7_withBeat 51 = .ok (.iload_n 3, 1) := by decide +kernel
theorem dX7_withBeat_52 : decode cX7_withBeat 52 = .ok (.iload 6, 2) := by decide +kernel
theorem dX7_withBeat_54 : decode cX7_withBeat 54 = .ok (.invokevirtual 336, 3) := by decide +kernel
theorem dX7_withBeat_57 : decode cX7_withBeat 57 = .ok (.i2l, 1) := by decide +kernel
theorem dX7_withBeat_58 : decode cX7_withBeat 58 = .ok (.ladd, 1) := by decide +kernel
theorem dX7_withBeat_59 : decode cX7_withBeat 59 = .ok (.lstore 4, 2) := by decide +kernel
theorem dX7_withBeat_61 : decode cX7_withBeat 61 = .ok (.iinc 6 1, 3) := by decide +kernel
theorem dX7_withBeat_64 : decode cX7_withBeat 64 = .ok (.goto (-26), 3) := by decide +kernel
theorem dX7_withBeat_67 : decode cX7_withBeat 67 = .ok (.lload 4, 2) := by decide +kernel
theorem dX7_withBeat_69 : decode cX7_withBeat 69 = .ok (.lreturn, 1) := by decide +kernel
set_option maxRecDepth 20000 in
set_option maxHeartbeats 4000000 in
theorem w_X7_withBeat_38 {x : tg_X} {Sf : tg_S} {r : Int64} {rec38 : tg_S → Int32 → Int64 → Int32 → Option (tg_S × Int64)} (X : tg_M tauC x cX7_withBeat 7 RX7 zr_X7_withBeat (some .long) Sf (some (.long r))) (hr38 : ∀ (S : tg_S) (v3 : Int32) (v4 : Int64) (v6 : Int32), rec38 S v3 v4 v6 = some (Sf, r) → tg_G tauC x S 38 [(0, .ref (tg_ad x 0)), (3, .int v3), (4, .long v4), (6, .int v6)] []) (S : tg_S) (v3 : Int32) (v4 : Int64) (v6 : Int32) (h : f_X7_withBeat_38 rec38 S v3 v4 v6 = some (Sf, r)) : tg_G tauC x S 38 [(0, .ref (tg_ad x 0)), (3, .int v3), (4, .long v4), (6, .int v6)] [] := by
  unfold f_X7_withBeat_38 at h
  refine tg_iload X dX7_withBeat_38 3 rfl ?_
  refine tg_iconst X dX7_withBeat_40 tk_i4 ?_
  refine tg_icmp_ge (tgt := 67) X dX7_withBeat_41 (by decide) (fun c1 => ?_) (fun c1 => ?_)
  · have h := tg_ifT c1 h
    refine tg_lload X dX7_withBeat_67 2 rfl ?_
    exact tg_lret X h rfl dX7_withBeat_69
  · have h := tg_ifF c1 h
    refine tg_ldc2 X wk_X7_291 dX7_withBeat_44 ?_
    refine tg_lload X dX7_withBeat_47 2 rfl ?_
    refine tg_lmul X dX7_withBeat_49 ?_
    refine tg_aload_n X dX7_withBeat_50 rfl 0 rfl ?_
    refine tg_iload_n X dX7_withBeat_51 rfl 1 rfl ?_
    refine tg_iload X dX7_withBeat_52 3 rfl ?_
    obtain ⟨S2, r3, kS2, h⟩ := tg_bdE h
    refine tg_callV (As := [.int v3, .int v6]) (rest := [.long (31 * v4)]) X 0 (cm_X7_rope _ _ _ _ _ kS2) yy_X7_rope wv_X7_rope ws_X7_rope wm_X7_336 rfl cl_X7.1 ⟨rfl, rfl, Nat.le_of_ble_eq_true rfl, Nat.le_of_ble_eq_true rfl⟩ rfl rfl (Nat.le_of_ble_eq_true rfl) dX7_withBeat_54 rfl ?_
    refine tg_i2l X dX7_withBeat_57 ?_
    refine tg_ladd X dX7_withBeat_58 ?_
    refine tg_topl (fun y4 ey4 => ?_)
    have h := tg_nmE ey4 h
    refine tg_lstore (lv2 := [(4, .long y4), (0, .ref (tg_ad x 0)), (3, .int v3), (6, .int v6)]) X dX7_withBeat_59 (by decide) rfl ?_
    obtain ⟨y5, ey5⟩ : ∃ z : Int32, z = v6 + 1 := ⟨_, rfl⟩
    have h := tg_nmE ey5 h
    refine tg_iinc (lv2 := [(6, .int y5), (4, .long y4), (0, .ref (tg_ad x 0)), (3, .int v3)]) X dX7_withBeat_61 3 rfl tk_i1 ey5 (by decide) rfl ?_
    refine tg_goto (tgt := 38) X dX7_withBeat_64 (by decide) ?_
    refine tg_re [2, 3, 1, 0] rfl ?_
    exact hr38 S2 v3 y4 y5 h
theorem wl_X7_withBeat_38 {x : tg_X} {Sf : tg_S} {r : Int64} (X : tg_M tauC x cX7_withBeat 7 RX7 zr_X7_withBeat (some .long) Sf (some (.long r))) : ∀ (n : Nat) (S : tg_S) (v3 : Int32) (v4 : Int64) (v6 : Int32) (h : L_X7_withBeat_38  n S v3 v4 v6 = some (Sf, r)), tg_G tauC x S 38 [(0, .ref (tg_ad x 0)), (3, .int v3), (4, .long v4), (6, .int v6)] [] := by
  intro n
  induction n with
  | zero => intro S v3 v4 v6 h; cases h
  | succ n ih => intro S v3 v4 v6 h; exact w_X7_withBeat_38 X  ih S v3 v4 v6 h
set_option maxRecDepth 20000 in
set_option maxHeartbeats 4000000 in
theorem w_X7_withBeat_0 {x : tg_X} {Sf : tg_S} {r : Int64} (X : tg_M tauC x cX7_withBeat 7 RX7 zr_X7_withBeat (some .long) Sf (some (.long r))) (S : tg_S) (v1 : Int64) (v3 : Int32) (h : f_X7_withBeat  S v1 v3 = some (Sf, r)) : tg_G tauC x S 0 [(0, .ref (tg_ad x 0)), (1, .long v1), (3, .int v3)] [] := by
  unfold f_X7_withBeat at h
  refine tg_lload_n X dX7_withBeat_0 rfl 1 rfl ?_
  refine tg_lstore (lv2 := [(4, .long v1), (0, .ref (tg_ad x 0)), (1, .long v1), (3, .int v3)]) X dX7_withBeat_1 (by decide) rfl ?_
  refine tg_ldc2 X wk_X7_291 dX7_withBeat_3 ?_
  refine tg_lload X dX7_withBeat_6 0 rfl ?_
  refine tg_lmul X dX7_withBeat_8 ?_
  refine tg_aload_n X dX7_withBeat_9 rfl 1 rfl ?_
  refine tg_iconst X dX7_withBeat_10 tk_i0 ?_
  refine tg_iload_n X dX7_withBeat_11 rfl 3 rfl ?_
  obtain ⟨S1, r2, kS1, h⟩ := tg_bdE h
  refine tg_callV (As := [.int 0, .int v3]) (rest := [.long (31 * v1)]) X 0 (cm_X7_call _ _ _ _ _ kS1) yy_X7_call wv_X7_call ws_X7_call wm_X7_333 rfl cl_X7.1 ⟨rfl, rfl, Nat.le_of_ble_eq_true rfl, Nat.le_of_ble_eq_true rfl⟩ rfl rfl (Nat.le_of_ble_eq_true rfl) dX7_withBeat_12 rfl ?_
  refine tg_i2l X dX7_withBeat_15 ?_
  refine tg_ladd X dX7_withBeat_16 ?_
  refine tg_topl (fun y3 ey3 => ?_)
  have h := tg_nmE ey3 h
  refine tg_lstore (lv2 := [(4, .long y3), (0, .ref (tg_ad x 0)), (1, .long v1), (3, .int v3)]) X dX7_withBeat_17 (by decide) rfl ?_
  refine tg_ldc2 X wk_X7_291 dX7_withBeat_19 ?_
  refine tg_lload X dX7_withBeat_22 0 rfl ?_
  refine tg_lmul X dX7_withBeat_24 ?_
  refine tg_aload_n X dX7_withBeat_25 rfl 1 rfl ?_
  refine tg_iconst X dX7_withBeat_26 tk_i1 ?_
  refine tg_iload_n X dX7_withBeat_27 rfl 3 rfl ?_
  obtain ⟨S4, r5, kS4, h⟩ := tg_bdE h
  refine tg_callV (As := [.int 1, .int v3]) (rest := [.long (31 * y3)]) X 0 (cm_X7_call _ _ _ _ _ kS4) yy_X7_call wv_X7_call ws_X7_call wm_X7_333 rfl cl_X7.1 ⟨rfl, rfl, Nat.le_of_ble_eq_true rfl, Nat.le_of_ble_eq_true rfl⟩ rfl rfl (Nat.le_of_ble_eq_true rfl) dX7_withBeat_28 rfl ?_
  refine tg_i2l X dX7_withBeat_31 ?_
  refine tg_ladd X dX7_withBeat_32 ?_
  refine tg_topl (fun y6 ey6 => ?_)
  have h := tg_nmE ey6 h
  refine tg_lstore (lv2 := [(4, .long y6), (0, .ref (tg_ad x 0)), (1, .long v1), (3, .int v3)]) X dX7_withBeat_33 (by decide) rfl ?_
  refine tg_iconst X dX7_withBeat_35 tk_i0 ?_
  refine tg_istore (lv2 := [(6, .int 0), (4, .long y6), (0, .ref (tg_ad x 0)), (1, .long v1), (3, .int v3)]) X dX7_withBeat_36 (by decide) rfl ?_
  refine tg_re [2, 4, 1, 0] rfl ?_
  exact wl_X7_withBeat_38 X  tg_F S4 v3 y6 0 h
theorem cm_X7_withBeat (l : Launch) (D : va_G) (cy : Bool → ClassId) (ad : Nat → Nat) (tS : Nat) {S Sf : tg_S} {v1 : Int64} {v3 : Int32} {r : Int64} (h : f_X7_withBeat  S v1 v3 = some (Sf, r)) : tg_Met l yX7_withBeat cX7_withBeat 7 (some .long) zr_X7_withBeat tauC D cy ad tS S [.ref (ad 0), .long v1, .int v3] Sf (some (.long r)) := tg_mk (by decide +kernel) trivial (Nat.le_of_ble_eq_true rfl) (fun p e s m args below meth c Q A X => w_X7_withBeat_0 X S v1 v3 h)
-- X7_withPuller
def zr_X7_withPuller : Room := { frames := 6, cells := 0, slots := 0, locals := 146 }
theorem dX7_withPuller_0 : decode cX7_withPuller 0 = .ok (.lload_n 1, 1) := by decide +kernel
theorem dX7_withPuller_1 : decode cX7_withPuller 1 = .ok (.lstore 4, 2) := by decide +kernel
theorem dX7_withPuller_3 : decode cX7_withPuller 3 = .ok (.iconst 0, 1) := by decide +kernel
theorem dX7_withPuller_4 : decode cX7_withPuller 4 = .ok (.istore 6, 2) := by decide +kernel
theorem dX7_withPuller_6 : decode cX7_withPuller 6 = .ok (.iload 6, 2) := by decide +kernel
theorem dX7_withPuller_8 : decode cX7_withPuller 8 = .ok (.iconst 3, 1) := by decide +kernel
theorem dX7_withPuller_9 : decode cX7_withPuller 9 = .ok (.if_icmp .ge 26, 3) := by decide +kernel
theorem dX7_withPuller_12 : decode cX7_withPuller 12 = .ok (.ldc2_w 291, 3) := by decide +kernel
theorem dX7_withPuller_15 : decode cX7_withPuller 15 = .ok (.lload 4, 2) := by decide +kernel
theorem dX7_withPuller_17 : decode cX7_withPuller 17 = .ok (.lmul, 1) := by decide +kernel
theorem dX7_withPuller_18 : decode cX7_withPuller 18 = .ok (.aload_n 0, 1) := by decide +kernel
theorem dX7_withPuller_19 : decode cX7_withPuller 19 = .ok (.iload_n 3, 1) := by decide +kernel
theorem dX7_withPuller_20 : decode cX7_withPuller 20 = .ok (.iload 6, 2) := by decide +kernel
theorem dX7_withPuller_22 : decode cX7_withPuller 22 = .ok (.invokevirtual 338, 3) := by decide +kernel
theorem dX7_withPuller_25 : decode cX7_withPuller 25 = .ok (.i2l, 1) := by decide +kernel
theorem dX7_withPuller_26 : decode cX7_withPuller 26 = .ok (.ladd, 1) := by decide +kernel
theorem dX7_withPuller_27 : decode cX7_withPuller 27 = .ok (.lstore 4, 2) := by decide +kernel
theorem dX7_withPuller_29 : decode cX7_withPuller 29 = .ok (.iinc 6 1, 3) := by decide +kernel
theorem dX7_withPuller_32 : decode cX7_withPuller 32 = .ok (.goto (-26), 3) := by decide +kernel
theorem dX7_withPuller_35 : decode cX7_withPuller 35 = .ok (.getstatic 341, 3) := by decide +kernel
theorem dX7_withPuller_38 : decode cX7_withPuller 38 = .ok (.astore 6, 2) := by decide +kernel
theorem dX7_withPuller_40 : decode cX7_withPuller 40 = .ok (.aload 6, 2) := by decide +kernel
theorem dX7_withPuller_42 : decode cX7_withPuller 42 = .ok (.arraylength, 1) := by decide +kernel
theorem dX7_withPuller_43 : decode cX7_withPuller 43 = .ok (.istore 7, 2) := by decide +kernel
theorem dX7_withPuller_45 : decode cX7_withPuller 45 = .ok (.iconst 0, 1) := by decide +kernel
theorem dX7_withPuller_46 : decode cX7_withPuller 46 = .ok (.istore 8, 2) := by decide +kernel
theorem dX7_withPuller_48 : decode cX7_withPuller 48 = .ok (.iload 8, 2) := by decide +kernel
theorem dX7_withPuller_50 : decode cX7_withPuller 50 = .ok (.iload 7, 2) := by decide +kernel
theorem dX7_withPuller_52 : decode cX7_withPuller 52 = .ok (.if_icmp .ge 52, 3) := by decide +kernel
theorem dX7_withPuller_55 : decode cX7_withPuller 55 = .ok (.aload 6, 2) := by decide +kernel
theorem dX7_withPuller_57 : decode cX7_withPuller 57 = .ok (.iload 8, 2) := by decide +kernel
theorem dX7_withPuller_59 : decode cX7_withPuller 59 = .ok (.iaload, 1) := by decide +kernel
theorem dX7_withPuller_60 : decode cX7_withPuller 60 = .ok (.istore 9, 2) := by decide +kernel
theorem dX7_withPuller_62 : decode cX7_withPuller 62 = .ok (.ldc2_w 291, 3) := by decide +kernel
theorem dX7_withPuller_65 : decode cX7_withPuller 65 = .ok (.lload 4, 2) := by decide +kernel
theorem dX7_withPuller_67 : decode cX7_withPuller 67 = .ok (.lmul, 1) := by decide +kernel
theorem dX7_withPuller_68 : decode cX7_withPuller 68 = .ok (.aload_n 0, 1) := by decide +kernel
theorem dX7_withPuller_69 : decode cX7_withPuller 69 = .ok (.iload 9, 2) := by decide +kernel
theorem dX7_withPuller_71 : decode cX7_withPuller 71 = .ok (.iload_n 3, 1) := by decide +kernel
theorem dX7_withPuller_72 : decode cX7_withPuller 72 = .ok (.iconst 0, 1) := by decide +kernel
theorem dX7_withPuller_73 : decode cX7_withPuller 73 = .ok (.invokevirtual 344, 3) := by decide +kernel
theorem dX7_withPuller_76 : decode cX7_withPuller 76 = .ok (.i2l, 1) := by decide +kernel
theorem dX7_withPuller_77 : decode cX7_withPuller 77 = .ok (.ladd, 1) := by decide +kernel
theorem dX7_withPuller_78 : decode cX7_withPuller 78 = .ok (.lstore 4, 2) := by decide +kernel
theorem dX7_withPuller_80 : decode cX7_withPuller 80 = .ok (.ldc2_w 291, 3) := by decide +kernel
theorem dX7_withPuller_83 : decode cX7_withPuller 83 = .ok (.lload 4, 2) := by decide +kernel
theorem dX7_withPuller_85 : decode cX7_withPuller 85 = .ok (.lmul, 1) := by decide +kernel
theorem dX7_withPuller_86 : decode cX7_withPuller 86 = .ok (.aload_n 0, 1) := by decide +kernel
theorem dX7_withPuller_87 : decode cX7_withPuller 87 = .ok (.iload 9, 2) := by decide +kernel
theorem dX7_withPuller_89 : decode cX7_withPuller 89 = .ok (.iload_n 3, 1) := by decide +kernel
theorem dX7_withPuller_90 : decode cX7_withPuller 90 = .ok (.iconst 1, 1) := by decide +kernel
theorem dX7_withPuller_91 : decode cX7_withPuller 91 = .ok (.invokevirtual 344, 3) := by decide +kernel
theorem dX7_withPuller_94 : decode cX7_withPuller 94 = .ok (.i2l, 1) := by decide +kernel
theorem dX7_withPuller_95 : decode cX7_withPuller 95 = .ok (.ladd, 1) := by decide +kernel
theorem dX7_withPuller_96 : decode cX7_withPuller 96 = .ok (.lstore 4, 2) := by decide +kernel
theorem dX7_withPuller_98 : decode cX7_withPuller 98 = .ok (.iinc 8 1, 3) := by decide +kernel
theorem dX7_withPuller_101 : decode cX7_withPuller 101 = .ok (.goto (-53), 3) := by decide +kernel
theorem dX7_withPuller_104 : decode cX7_withPuller 104 = .ok (.ldc2_w 291, 3) := by decide +kernel
theorem dX7_withPuller_107 : decode cX7_withPuller 107 = .ok (.lload 4, 2) := by decide +kernel
theorem dX7_withPuller_109 : decode cX7_withPuller 109 = .ok (.lmul, 1) := by decide +kernel
theorem dX7_withPuller_110 : decode cX7_withPuller 110 = .ok (.aload_n 0, 1) := by decide +kernel
theorem dX7_withPuller_111 : decode cX7_withPuller 111 = .ok (.iload_n 3, 1) := by decide +kernel
theorem dX7_withPuller_112 : decode cX7_withPuller 112 = .ok (.invokevirtual 347, 3) := by decide +kernel
theorem dX7_withPuller_115 : decode cX7_withPuller 115 = .ok (.i2l, 1) := by decide +kernel
theorem dX7_withPuller_116 : decode cX7_withPuller 116 = .ok (.ladd, 1) := by decide +kernel
theorem dX7_withPuller_117 : decode cX7_withPuller 117 = .ok (.lstore 4, 2) := by decide +kernel
theorem dX7_withPuller_119 : decode cX7_withPuller 119 = .ok (.ldc2_w 291, 3) := by decide +kernel
theorem dX7_withPuller_122 : decode cX7_withPuller 122 = .ok (.lload 4, 2) := by decide +kernel
theorem dX7_withPuller_124 : decode cX7_withPuller 124 = .ok (.lmul, 1) := by decide +kernel
theorem dX7_withPuller_125 : decode cX7_withPuller 125 = .ok (.aload_n 0, 1) := by decide +kernel
theorem dX7_withPuller_126 : decode cX7_withPuller 126 = .ok (.iload_n 3, 1) := by decide +kernel
theorem dX7_withPuller_127 : decode cX7_withPuller 127 = .ok (.iconst 0, 1) := by decide +kernel
theorem dX7_withPuller_128 : decode cX7_withPuller 128 = .ok (.invokevirtual 350, 3) := by decide +kernel
theorem dX7_withPuller_131 : decode cX7_withPuller 131 = .ok (.i2l, 1) := by decide +kernel
theorem dX7_withPuller_132 : decode cX7_withPuller 132 = .ok (.ladd, 1) := by decide +kernel
theorem dX7_withPuller_133 : decode cX7_withPuller 133 = .ok (.lstore 4, 2) := by decide +kernel
theorem dX7_withPuller_135 : decode cX7_withPuller 135 = .ok (.ldc2_w 291, 3) := by decide +kernel
theorem dX7_withPuller_138 : decode cX7_withPuller 138 = .ok (.lload 4, 2) := by decide +kernel
theorem dX7_withPuller_140 : decode cX7_withPuller 140 = .ok (.lmul, 1) := by decide +kernel
theorem dX7_withPuller_141 : decode cX7_withPuller 141 = .ok (.aload_n 0, 1) := by decide +kernel
theorem dX7_withPuller_142 : decode cX7_withPuller 142 = .ok (.iload_n 3, 1) := by decide +kernel
theorem dX7_withPuller_143 : decode cX7_withPuller 143 = .ok (.iconst 1, 1) := by decide +kernel
theorem dX7_withPuller_144 : decode cX7_withPuller 144 = .ok (.invokevirtual 350, 3) := by decide +kernel
theorem dX7_withPuller_147 : decode cX7_withPuller 147 = .ok (.i2l, 1) := by decide +kernel
theorem dX7_withPuller_148 : decode cX7_withPuller 148 = .ok (.ladd, 1) := by decide +kernel
theorem dX7_withPuller_149 : decode cX7_withPuller 149 = .ok (.lstore 4, 2) := by decide +kernel
theorem dX7_withPuller_151 : decode cX7_withPuller 151 = .ok (.ldc2_w 291, 3) := by decide +kernel
theorem dX7_withPuller_154 : decode cX7_withPuller 154 = .ok (.lload 4, 2) := by decide +kernel
theorem dX7_withPuller_156 : decode cX7_withPuller 156 = .ok (.lmul, 1) := by decide +kernel
theorem dX7_withPuller_157 : decode cX7_withPuller 157 = .ok (.aload_n 0, 1) := by decide +kernel
theorem dX7_withPuller_158 : decode cX7_withPuller 158 = .ok (.iload_n 3, 1) := by decide +kernel
theorem dX7_withPuller_159 : decode cX7_withPuller 159 = .ok (.invokevirtual 353, 3) := by decide +kernel
theorem dX7_withPuller_162 : decode cX7_withPuller 162 = .ok (.i2l, 1) := by decide +kernel
theorem dX7_withPuller_163 : decode cX7_withPuller 163 = .ok (.ladd, 1) := by decide +kernel
theorem dX7_withPuller_164 : decode cX7_withPuller 164 = .ok (.lreturn, 1) := by decide +kernel
set_option maxRecDepth 20000 in
set_option maxHeartbeats 4000000 in
theorem w_X7_withPuller_48 {x : tg_X} {Sf : tg_S} {r : Int64} {rec48 : tg_S → Int32 → Int64 → Int32 → Int32 → Option (tg_S × Int64)} (X : tg_M tauC x cX7_withPuller 10 RX7 zr_X7_withPuller (some .long) Sf (some (.long r))) (hr48 : ∀ (S : tg_S) (v3 : Int32) (v4 : Int64) (v7 : Int32) (v8 : Int32), rec48 S v3 v4 v7 v8 = some (Sf, r) → tg_G tauC x S 48 [(0, .ref (tg_ad x 0)), (3, .int v3), (4, .long v4), (6, .ref (tg_tS x)), (7, .int v7), (8, .int v8)] []) (S : tg_S) (v3 : Int32) (v4 : Int64) (v7 : Int32) (v8 : Int32) (h : f_X7_withPuller_48 rec48 S v3 v4 v7 v8 = some (Sf, r)) : tg_G tauC x S 48 [(0, .ref (tg_ad x 0)), (3, .int v3), (4, .long v4), (6, .ref (tg_tS x)), (7, .int v7), (8, .int v8)] [] := by
  unfold f_X7_withPuller_48 at h
  refine tg_iload X dX7_withPuller_48 5 rfl ?_
  refine tg_iload X dX7_withPuller_50 4 rfl ?_
  refine tg_icmp_ge (tgt := 104) X dX7_withPuller_52 (by decide) (fun c1 => ?_) (fun c1 => ?_)
  · have h := tg_ifT c1 h
    refine tg_ldc2 X wk_X7_291 dX7_withPuller_104 ?_
    refine tg_lload X dX7_withPuller_107 2 rfl ?_
    refine tg_lmul X dX7_withPuller_109 ?_
    refine tg_aload_n X dX7_withPuller_110 rfl 0 rfl ?_
    refine tg_iload_n X dX7_withPuller_111 rfl 1 rfl ?_
    obtain ⟨S2, r3, kS2, h⟩ := tg_bdE h
    refine tg_callV (As := [.int v3]) (rest := [.long (31 * v4)]) X 0 (cm_X7_done _ _ _ _ _ kS2) yy_X7_done wv_X7_done ws_X7_done wm_X7_347 rfl cl_X7.1 ⟨rfl, rfl, Nat.le_of_ble_eq_true rfl, Nat.le_of_ble_eq_true rfl⟩ rfl rfl (Nat.le_of_ble_eq_true rfl) dX7_withPuller_112 rfl ?_
    refine tg_i2l X dX7_withPuller_115 ?_
    refine tg_ladd X dX7_withPuller_116 ?_
    refine tg_topl (fun y4 ey4 => ?_)
    have h := tg_nmE ey4 h
    refine tg_lstore (lv2 := [(4, .long y4), (0, .ref (tg_ad x 0)), (3, .int v3), (6, .ref (tg_tS x)), (7, .int v7), (8, .int v8)]) X dX7_withPuller_117 (by decide) rfl ?_
    refine tg_ldc2 X wk_X7_291 dX7_withPuller_119 ?_
    refine tg_lload X dX7_withPuller_122 0 rfl ?_
    refine tg_lmul X dX7_withPuller_124 ?_
    refine tg_aload_n X dX7_withPuller_125 rfl 1 rfl ?_
    refine tg_iload_n X dX7_withPuller_126 rfl 2 rfl ?_
    refine tg_iconst X dX7_withPuller_127 tk_i0 ?_
    obtain ⟨S5, r6, kS5, h⟩ := tg_bdE h
    refine tg_callV (As := [.int v3, .int 0]) (rest := [.long (31 * y4)]) X 0 (cm_X7_was _ _ _ _ _ kS5) yy_X7_was wv_X7_was ws_X7_was wm_X7_350 rfl cl_X7.1 ⟨rfl, rfl, Nat.le_of_ble_eq_true rfl, Nat.le_of_ble_eq_true rfl⟩ rfl rfl (Nat.le_of_ble_eq_true rfl) dX7_withPuller_128 rfl ?_
    refine tg_i2l X dX7_withPuller_131 ?_
    refine tg_ladd X dX7_withPuller_132 ?_
    refine tg_topl (fun y7 ey7 => ?_)
    have h := tg_nmE ey7 h
    refine tg_lstore (lv2 := [(4, .long y7), (0, .ref (tg_ad x 0)), (3, .int v3), (6, .ref (tg_tS x)), (7, .int v7), (8, .int v8)]) X dX7_withPuller_133 (by decide) rfl ?_
    refine tg_ldc2 X wk_X7_291 dX7_withPuller_135 ?_
    refine tg_lload X dX7_withPuller_138 0 rfl ?_
    refine tg_lmul X dX7_withPuller_140 ?_
    refine tg_aload_n X dX7_withPuller_141 rfl 1 rfl ?_
    refine tg_iload_n X dX7_withPuller_142 rfl 2 rfl ?_
    refine tg_iconst X dX7_withPuller_143 tk_i1 ?_
    obtain ⟨S8, r9, kS8, h⟩ := tg_bdE h
    refine tg_callV (As := [.int v3, .int 1]) (rest := [.long (31 * y7)]) X 0 (cm_X7_was _ _ _ _ _ kS8) yy_X7_was wv_X7_was ws_X7_was wm_X7_350 rfl cl_X7.1 ⟨rfl, rfl, Nat.le_of_ble_eq_true rfl, Nat.le_of_ble_eq_true rfl⟩ rfl rfl (Nat.le_of_ble_eq_true rfl) dX7_withPuller_144 rfl ?_
    refine tg_i2l X dX7_withPuller_147 ?_
    refine tg_ladd X dX7_withPuller_148 ?_
    refine tg_topl (fun y10 ey10 => ?_)
    have h := tg_nmE ey10 h
    refine tg_lstore (lv2 := [(4, .long y10), (0, .ref (tg_ad x 0)), (3, .int v3), (6, .ref (tg_tS x)), (7, .int v7), (8, .int v8)]) X dX7_withPuller_149 (by decide) rfl ?_
    refine tg_ldc2 X wk_X7_291 dX7_withPuller_151 ?_
    refine tg_lload X dX7_withPuller_154 0 rfl ?_
    refine tg_lmul X dX7_withPuller_156 ?_
    refine tg_aload_n X dX7_withPuller_157 rfl 1 rfl ?_
    refine tg_iload_n X dX7_withPuller_158 rfl 2 rfl ?_
    obtain ⟨S11, r12, kS11, h⟩ := tg_bdE h
    refine tg_callV (As := [.int v3]) (rest := [.long (31 * y10)]) X 0 (cm_X7_ask _ _ _ _ _ kS11) yy_X7_ask wv_X7_ask ws_X7_ask wm_X7_353 rfl cl_X7.1 ⟨rfl, rfl, Nat.le_of_ble_eq_true rfl, Nat.le_of_ble_eq_true rfl⟩ rfl rfl (Nat.le_of_ble_eq_true rfl) dX7_withPuller_159 rfl ?_
    refine tg_i2l X dX7_withPuller_162 ?_
    refine tg_ladd X dX7_withPuller_163 ?_
    exact tg_lret X h rfl dX7_withPuller_164
  · have h := tg_ifF c1 h
    refine tg_aload X dX7_withPuller_55 3 rfl ?_
    refine tg_iload X dX7_withPuller_57 5 rfl ?_
    obtain ⟨y13, ey13, by13, h⟩ := tg_rsE h
    refine tg_tald X ey13 by13 dX7_withPuller_59 ?_
    refine tg_istore (lv2 := [(9, .int y13), (0, .ref (tg_ad x 0)), (3, .int v3), (4, .long v4), (6, .ref (tg_tS x)), (7, .int v7), (8, .int v8)]) X dX7_withPuller_60 (by decide) rfl ?_
    refine tg_ldc2 X wk_X7_291 dX7_withPuller_62 ?_
    refine tg_lload X dX7_withPuller_65 3 rfl ?_
    refine tg_lmul X dX7_withPuller_67 ?_
    refine tg_aload_n X dX7_withPuller_68 rfl 1 rfl ?_
    refine tg_iload X dX7_withPuller_69 0 rfl ?_
    refine tg_iload_n X dX7_withPuller_71 rfl 2 rfl ?_
    refine tg_iconst X dX7_withPuller_72 tk_i0 ?_
    obtain ⟨S14, r15, kS14, h⟩ := tg_bdE h
    refine tg_callV (As := [.int y13, .int v3, .int 0]) (rest := [.long (31 * v4)]) X 0 (cm_X7_at _ _ _ _ _ kS14) yy_X7_at wv_X7_at ws_X7_at wm_X7_344 rfl cl_X7.1 ⟨rfl, rfl, Nat.le_of_ble_eq_true rfl, Nat.le_of_ble_eq_true rfl⟩ rfl rfl (Nat.le_of_ble_eq_true rfl) dX7_withPuller_73 rfl ?_
    refine tg_i2l X dX7_withPuller_76 ?_
    refine tg_ladd X dX7_withPuller_77 ?_
    refine tg_topl (fun y16 ey16 => ?_)
    have h := tg_nmE ey16 h
    refine tg_lstore (lv2 := [(4, .long y16), (9, .int y13), (0, .ref (tg_ad x 0)), (3, .int v3), (6, .ref (tg_tS x)), (7, .int v7), (8, .int v8)]) X dX7_withPuller_78 (by decide) rfl ?_
    refine tg_ldc2 X wk_X7_291 dX7_withPuller_80 ?_
    refine tg_lload X dX7_withPuller_83 0 rfl ?_
    refine tg_lmul X dX7_withPuller_85 ?_
    refine tg_aload_n X dX7_withPuller_86 rfl 2 rfl ?_
    refine tg_iload X dX7_withPuller_87 1 rfl ?_
    refine tg_iload_n X dX7_withPuller_89 rfl 3 rfl ?_
    refine tg_iconst X dX7_withPuller_90 tk_i1 ?_
    obtain ⟨S17, r18, kS17, h⟩ := tg_bdE h
    refine tg_callV (As := [.int y13, .int v3, .int 1]) (rest := [.long (31 * y16)]) X 0 (cm_X7_at _ _ _ _ _ kS17) yy_X7_at wv_X7_at ws_X7_at wm_X7_344 rfl cl_X7.1 ⟨rfl, rfl, Nat.le_of_ble_eq_true rfl, Nat.le_of_ble_eq_true rfl⟩ rfl rfl (Nat.le_of_ble_eq_true rfl) dX7_withPuller_91 rfl ?_
    refine tg_i2l X dX7_withPuller_94 ?_
    refine tg_ladd X dX7_withPuller_95 ?_
    refine tg_topl (fun y19 ey19 => ?_)
    have h := tg_nmE ey19 h
    refine tg_lstore (lv2 := [(4, .long y19), (9, .int y13), (0, .ref (tg_ad x 0)), (3, .int v3), (6, .ref (tg_tS x)), (7, .int v7), (8, .int v8)]) X dX7_withPuller_96 (by decide) rfl ?_
    obtain ⟨y20, ey20⟩ : ∃ z : Int32, z = v8 + 1 := ⟨_, rfl⟩
    have h := tg_nmE ey20 h
    refine tg_iinc (lv2 := [(8, .int y20), (4, .long y19), (9, .int y13), (0, .ref (tg_ad x 0)), (3, .int v3), (6, .ref (tg_tS x)), (7, .int v7)]) X dX7_withPuller_98 6 rfl tk_i1 ey20 (by decide) rfl ?_
    refine tg_goto (tgt := 48) X dX7_withPuller_101 (by decide) ?_
    refine tg_re [3, 4, 1, 5, 6, 0] rfl ?_
    exact hr48 S17 v3 y19 v7 y20 h
theorem wl_X7_withPuller_48 {x : tg_X} {Sf : tg_S} {r : Int64} (X : tg_M tauC x cX7_withPuller 10 RX7 zr_X7_withPuller (some .long) Sf (some (.long r))) : ∀ (n : Nat) (S : tg_S) (v3 : Int32) (v4 : Int64) (v7 : Int32) (v8 : Int32) (h : L_X7_withPuller_48  n S v3 v4 v7 v8 = some (Sf, r)), tg_G tauC x S 48 [(0, .ref (tg_ad x 0)), (3, .int v3), (4, .long v4), (6, .ref (tg_tS x)), (7, .int v7), (8, .int v8)] [] := by
  intro n
  induction n with
  | zero => intro S v3 v4 v7 v8 h; cases h
  | succ n ih => intro S v3 v4 v7 v8 h; exact w_X7_withPuller_48 X  ih S v3 v4 v7 v8 h
set_option maxRecDepth 20000 in
set_option maxHeartbeats 4000000 in
theorem w_X7_withPuller_6 {x : tg_X} {Sf : tg_S} {r : Int64} {rec6 : tg_S → Int32 → Int64 → Int32 → Option (tg_S × Int64)} (X : tg_M tauC x cX7_withPuller 10 RX7 zr_X7_withPuller (some .long) Sf (some (.long r))) (hr6 : ∀ (S : tg_S) (v3 : Int32) (v4 : Int64) (v6 : Int32), rec6 S v3 v4 v6 = some (Sf, r) → tg_G tauC x S 6 [(0, .ref (tg_ad x 0)), (3, .int v3), (4, .long v4), (6, .int v6)] []) (S : tg_S) (v3 : Int32) (v4 : Int64) (v6 : Int32) (h : f_X7_withPuller_6 rec6 S v3 v4 v6 = some (Sf, r)) : tg_G tauC x S 6 [(0, .ref (tg_ad x 0)), (3, .int v3), (4, .long v4), (6, .int v6)] [] := by
  unfold f_X7_withPuller_6 at h
  refine tg_iload X dX7_withPuller_6 3 rfl ?_
  refine tg_iconst X dX7_withPuller_8 tk_i3 ?_
  refine tg_icmp_ge (tgt := 35) X dX7_withPuller_9 (by decide) (fun c1 => ?_) (fun c1 => ?_)
  · have h := tg_ifT c1 h
    refine tg_gets X wf_X7_341 dX7_withPuller_35 ?_
    refine tg_astore (lv2 := [(6, .ref (tg_tS x)), (0, .ref (tg_ad x 0)), (3, .int v3), (4, .long v4)]) X dX7_withPuller_38 (by decide) rfl ?_
    refine tg_aload X dX7_withPuller_40 0 rfl ?_
    refine tg_tlen X dX7_withPuller_42 ?_
    refine tg_istore (lv2 := [(7, .int 4), (6, .ref (tg_tS x)), (0, .ref (tg_ad x 0)), (3, .int v3), (4, .long v4)]) X dX7_withPuller_43 (by decide) rfl ?_
    refine tg_iconst X dX7_withPuller_45 tk_i0 ?_
    refine tg_istore (lv2 := [(8, .int 0), (7, .int 4), (6, .ref (tg_tS x)), (0, .ref (tg_ad x 0)), (3, .int v3), (4, .long v4)]) X dX7_withPuller_46 (by decide) rfl ?_
    refine tg_re [3, 4, 5, 2, 1, 0] rfl ?_
    exact wl_X7_withPuller_48 X  tg_F S v3 v4 4 0 h
  · have h := tg_ifF c1 h
    refine tg_ldc2 X wk_X7_291 dX7_withPuller_12 ?_
    refine tg_lload X dX7_withPuller_15 2 rfl ?_
    refine tg_lmul X dX7_withPuller_17 ?_
    refine tg_aload_n X dX7_withPuller_18 rfl 0 rfl ?_
    refine tg_iload_n X dX7_withPuller_19 rfl 1 rfl ?_
    refine tg_iload X dX7_withPuller_20 3 rfl ?_
    obtain ⟨S2, r3, kS2, h⟩ := tg_bdE h
    refine tg_callV (As := [.int v3, .int v6]) (rest := [.long (31 * v4)]) X 0 (cm_X7_puller _ _ _ _ _ kS2) yy_X7_puller wv_X7_puller ws_X7_puller wm_X7_338 rfl cl_X7.1 ⟨rfl, rfl, Nat.le_of_ble_eq_true rfl, Nat.le_of_ble_eq_true rfl⟩ rfl rfl (Nat.le_of_ble_eq_true rfl) dX7_withPuller_22 rfl ?_
    refine tg_i2l X dX7_withPuller_25 ?_
    refine tg_ladd X dX7_withPuller_26 ?_
    refine tg_topl (fun y4 ey4 => ?_)
    have h := tg_nmE ey4 h
    refine tg_lstore (lv2 := [(4, .long y4), (0, .ref (tg_ad x 0)), (3, .int v3), (6, .int v6)]) X dX7_withPuller_27 (by decide) rfl ?_
    obtain ⟨y5, ey5⟩ : ∃ z : Int32, z = v6 + 1 := ⟨_, rfl⟩
    have h := tg_nmE ey5 h
    refine tg_iinc (lv2 := [(6, .int y5), (4, .long y4), (0, .ref (tg_ad x 0)), (3, .int v3)]) X dX7_withPuller_29 3 rfl tk_i1 ey5 (by decide) rfl ?_
    refine tg_goto (tgt := 6) X dX7_withPuller_32 (by decide) ?_
    refine tg_re [2, 3, 1, 0] rfl ?_
    exact hr6 S2 v3 y4 y5 h
theorem wl_X7_withPuller_6 {x : tg_X} {Sf : tg_S} {r : Int64} (X : tg_M tauC x cX7_withPuller 10 RX7 zr_X7_withPuller (some .long) Sf (some (.long r))) : ∀ (n : Nat) (S : tg_S) (v3 : Int32) (v4 : Int64) (v6 : Int32) (h : L_X7_withPuller_6  n S v3 v4 v6 = some (Sf, r)), tg_G tauC x S 6 [(0, .ref (tg_ad x 0)), (3, .int v3), (4, .long v4), (6, .int v6)] [] := by
  intro n
  induction n with
  | zero => intro S v3 v4 v6 h; cases h
  | succ n ih => intro S v3 v4 v6 h; exact w_X7_withPuller_6 X  ih S v3 v4 v6 h
set_option maxRecDepth 20000 in
set_option maxHeartbeats 4000000 in
theorem w_X7_withPuller_0 {x : tg_X} {Sf : tg_S} {r : Int64} (X : tg_M tauC x cX7_withPuller 10 RX7 zr_X7_withPuller (some .long) Sf (some (.long r))) (S : tg_S) (v1 : Int64) (v3 : Int32) (h : f_X7_withPuller  S v1 v3 = some (Sf, r)) : tg_G tauC x S 0 [(0, .ref (tg_ad x 0)), (1, .long v1), (3, .int v3)] [] := by
  unfold f_X7_withPuller at h
  refine tg_lload_n X dX7_withPuller_0 rfl 1 rfl ?_
  refine tg_lstore (lv2 := [(4, .long v1), (0, .ref (tg_ad x 0)), (1, .long v1), (3, .int v3)]) X dX7_withPuller_1 (by decide) rfl ?_
  refine tg_iconst X dX7_withPuller_3 tk_i0 ?_
  refine tg_istore (lv2 := [(6, .int 0), (4, .long v1), (0, .ref (tg_ad x 0)), (1, .long v1), (3, .int v3)]) X dX7_withPuller_4 (by decide) rfl ?_
  refine tg_re [2, 4, 1, 0] rfl ?_
  exact wl_X7_withPuller_6 X  tg_F S v3 v1 0 h
theorem cm_X7_withPuller (l : Launch) (D : va_G) (cy : Bool → ClassId) (ad : Nat → Nat) (tS : Nat) {S Sf : tg_S} {v1 : Int64} {v3 : Int32} {r : Int64} (h : f_X7_withPuller  S v1 v3 = some (Sf, r)) : tg_Met l yX7_withPuller cX7_withPuller 10 (some .long) zr_X7_withPuller tauC D cy ad tS S [.ref (ad 0), .long v1, .int v3] Sf (some (.long r)) := tg_mk (by decide +kernel) trivial (Nat.le_of_ble_eq_true rfl) (fun p e s m args below meth c Q A X => w_X7_withPuller_0 X S v1 v3 h)
-- X7_withTeam
def zr_X7_withTeam : Room := { frames := 6, cells := 0, slots := 0, locals := 146 }
theorem dX7_withTeam_0 : decode cX7_withTeam 0 = .ok (.lload_n 1, 1) := by decide +kernel
theorem dX7_withTeam_1 : decode cX7_withTeam 1 = .ok (.lstore 4, 2) := by decide +kernel
theorem dX7_withTeam_3 : decode cX7_withTeam 3 = .ok (.ldc2_w 291, 3) := by decide +kernel
theorem dX7_withTeam_6 : decode cX7_withTeam 6 = .ok (.lload 4, 2) := by decide +kernel
theorem dX7_withTeam_8 : decode cX7_withTeam 8 = .ok (.lmul, 1) := by decide +kernel
theorem dX7_withTeam_9 : decode cX7_withTeam 9 = .ok (.aload_n 0, 1) := by decide +kernel
theorem dX7_withTeam_10 : decode cX7_withTeam 10 = .ok (.iload_n 3, 1) := by decide +kernel
theorem dX7_withTeam_11 : decode cX7_withTeam 11 = .ok (.iconst 4, 1) := by decide +kernel
theorem dX7_withTeam_12 : decode cX7_withTeam 12 = .ok (.iconst 0, 1) := by decide +kernel
theorem dX7_withTeam_13 : decode cX7_withTeam 13 = .ok (.invokevirtual 356, 3) := by decide +kernel
theorem dX7_withTeam_16 : decode cX7_withTeam 16 = .ok (.i2l, 1) := by decide +kernel
theorem dX7_withTeam_17 : decode cX7_withTeam 17 = .ok (.ladd, 1) := by decide +kernel
theorem dX7_withTeam_18 : decode cX7_withTeam 18 = .ok (.lstore 4, 2) := by decide +kernel
theorem dX7_withTeam_20 : decode cX7_withTeam 20 = .ok (.ldc2_w 291, 3) := by decide +kernel
theorem dX7_withTeam_23 : decode cX7_withTeam 23 = .ok (.lload 4, 2) := by decide +kernel
theorem dX7_withTeam_25 : decode cX7_withTeam 25 = .ok (.lmul, 1) := by decide +kernel
theorem dX7_withTeam_26 : decode cX7_withTeam 26 = .ok (.aload_n 0, 1) := by decide +kernel
theorem dX7_withTeam_27 : decode cX7_withTeam 27 = .ok (.iload_n 3, 1) := by decide +kernel
theorem dX7_withTeam_28 : decode cX7_withTeam 28 = .ok (.iconst 4, 1) := by decide +kernel
theorem dX7_withTeam_29 : decode cX7_withTeam 29 = .ok (.iconst 1, 1) := by decide +kernel
theorem dX7_withTeam_30 : decode cX7_withTeam 30 = .ok (.invokevirtual 356, 3) := by decide +kernel
theorem dX7_withTeam_33 : decode cX7_withTeam 33 = .ok (.i2l, 1) := by decide +kernel
theorem dX7_withTeam_34 : decode cX7_withTeam 34 = .ok (.ladd, 1) := by decide +kernel
theorem dX7_withTeam_35 : decode cX7_withTeam 35 = .ok (.lstore 4, 2) := by decide +kernel
theorem dX7_withTeam_37 : decode cX7_withTeam 37 = .ok (.iconst 0, 1) := by decide +kernel
theorem dX7_withTeam_38 : decode cX7_withTeam 38 = .ok (.istore 6, 2) := by decide +kernel
theorem dX7_withTeam_40 : decode cX7_withTeam 40 = .ok (.iload 6, 2) := by decide +kernel
theorem dX7_withTeam_42 : decode cX7_withTeam 42 = .ok (.iconst 3, 1) := by decide +kernel
theorem dX7_withTeam_43 : decode cX7_withTeam 43 = .ok (.if_icmp .ge 26, 3) := by decide +kernel
theorem dX7_withTeam_46 : decode cX7_withTeam 46 = .ok (.ldc2_w 291, 3) := by decide +kernel
theorem dX7_withTeam_49 : decode cX7_withTeam 49 = .ok (.lload 4, 2) := by decide +kernel
theorem dX7_withTeam_51 : decode cX7_withTeam 51 = .ok (.lmul, 1) := by decide +kernel
theorem dX7_withTeam_52 : decode cX7_withTeam 52 = .ok (.aload_n 0, 1) := by decide +kernel
theorem dX7_withTeam_53 : decode cX7_withTeam 53 = .ok (.iload_n 3, 1) := by decide +kernel
theorem dX7_withTeam_54 : decode cX7_withTeam 54 = .ok (.iload 6, 2) := by decide +kernel
theorem dX7_withTeam_56 : decode cX7_withTeam 56 = .ok (.invokevirtual 359, 3) := by decide +kernel
theorem dX7_withTeam_59 : decode cX7_withTeam 59 = .ok (.i2l, 1) := by decide +kernel
theorem dX7_withTeam_60 : decode cX7_withTeam 60 = .ok (.ladd, 1) := by decide +kernel
theorem dX7_withTeam_61 : decode cX7_withTeam 61 = .ok (.lstore 4, 2) := by decide +kernel
theorem dX7_withTeam_63 : decode cX7_withTeam 63 = .ok (.iinc 6 1, 3) := by decide +kernel
theorem dX7_withTeam_66 : decode cX7_withTeam 66 = .ok (.goto (-26), 3) := by decide +kernel
theorem dX7_withTeam_69 : decode cX7_withTeam 69 = .ok (.ldc2_w 291, 3) := by decide +kernel
theorem dX7_withTeam_72 : decode cX7_withTeam 72 = .ok (.lload 4, 2) := by decide +kernel
theorem dX7_withTeam_74 : decode cX7_withTeam 74 = .ok (.lmul, 1) := by decide +kernel
theorem dX7_withTeam_75 : decode cX7_withTeam 75 = .ok (.aload_n 0, 1) := by decide +kernel
theorem dX7_withTeam_76 : decode cX7_withTeam 76 = .ok (.iload_n 3, 1) := by decide +kernel
theorem dX7_withTeam_77 : decode cX7_withTeam 77 = .ok (.iconst 0, 1) := by decide +kernel
theorem dX7_withTeam_78 : decode cX7_withTeam 78 = .ok (.invokevirtual 362, 3) := by decide +kernel
theorem dX7_withTeam_81 : decode cX7_withTeam 81 = .ok (.i2l, 1) := by decide +kernel
theorem dX7_withTeam_82 : decode cX7_withTeam 82 = .ok (.ladd, 1) := by decide +kernel
theorem dX7_withTeam_83 : decode cX7_withTeam 83 = .ok (.lstore 4, 2) := by decide +kernel
theorem dX7_withTeam_85 : decode cX7_withTeam 85 = .ok (.ldc2_w 291, 3) := by decide +kernel
theorem dX7_withTeam_88 : decode cX7_withTeam 88 = .ok (.lload 4, 2) := by decide +kernel
theorem dX7_withTeam_90 : decode cX7_withTeam 90 = .ok (.lmul, 1) := by decide +kernel
theorem dX7_withTeam_91 : decode cX7_withTeam 91 = .ok (.aload_n 0, 1) := by decide +kernel
theorem dX7_withTeam_92 : decode cX7_withTeam 92 = .ok (.iload_n 3, 1) := by decide +kernel
theorem dX7_withTeam_93 : decode cX7_withTeam 93 = .ok (.iconst 1, 1) := by decide +kernel
theorem dX7_withTeam_94 : decode cX7_withTeam 94 = .ok (.invokevirtual 362, 3) := by decide +kernel
theorem dX7_withTeam_97 : decode cX7_withTeam 97 = .ok (.i2l, 1) := by decide +kernel
theorem dX7_withTeam_98 : decode cX7_withTeam 98 = .ok (.ladd, 1) := by decide +kernel
theorem dX7_withTeam_99 : decode cX7_withTeam 99 = .ok (.lstore 4, 2) := by decide +kernel
theorem dX7_withTeam_101 : decode cX7_withTeam 101 = .ok (.ldc2_w 291, 3) := by decide +kernel
theorem dX7_withTeam_104 : decode cX7_withTeam 104 = .ok (.lload 4, 2) := by decide +kernel
theorem dX7_withTeam_106 : decode cX7_withTeam 106 = .ok (.lmul, 1) := by decide +kernel
theorem dX7_withTeam_107 : decode cX7_withTeam 107 = .ok (.aload_n 0, 1) := by decide +kernel
theorem dX7_withTeam_108 : decode cX7_withTeam 108 = .ok (.iconst 5, 1) := by decide +kernel
theorem dX7_withTeam_109 : decode cX7_withTeam 109 = .ok (.iload_n 3, 1) := by decide +kernel
theorem dX7_withTeam_110 : decode cX7_withTeam 110 = .ok (.iconst 0, 1) := by decide +kernel
theorem dX7_withTeam_111 : decode cX7_withTeam 111 = .ok (.invokevirtual 365, 3) := by decide +kernel
theorem dX7_withTeam_114 : decode cX7_withTeam 114 = .ok (.ladd, 1) := by decide +kernel
theorem dX7_withTeam_115 : decode cX7_withTeam 115 = .ok (.lstore 4, 2) := by decide +kernel
theorem dX7_withTeam_117 : decode cX7_withTeam 117 = .ok (.ldc2_w 291, 3) := by decide +kernel
theorem dX7_withTeam_120 : decode cX7_withTeam 120 = .ok (.lload 4, 2) := by decide +kernel
theorem dX7_withTeam_122 : decode cX7_withTeam 122 = .ok (.lmul, 1) := by decide +kernel
theorem dX7_withTeam_123 : decode cX7_withTeam 123 = .ok (.aload_n 0, 1) := by decide +kernel
theorem dX7_withTeam_124 : decode cX7_withTeam 124 = .ok (.iconst 5, 1) := by decide +kernel
theorem dX7_withTeam_125 : decode cX7_withTeam 125 = .ok (.iload_n 3, 1) := by decide +kernel
theorem dX7_withTeam_126 : decode cX7_withTeam 126 = .ok (.iconst 1, 1) := by decide +kernel
theorem dX7_withTeam_127 : decode cX7_withTeam 127 = .ok (.invokevirtual 365, 3) := by decide +kernel
theorem dX7_withTeam_130 : decode cX7_withTeam 130 = .ok (.ladd, 1) := by decide +kernel
theorem dX7_withTeam_131 : decode cX7_withTeam 131 = .ok (.lreturn, 1) := by decide +kernel
set_option maxRecDepth 20000 in
set_option maxHeartbeats 4000000 in
theorem w_X7_withTeam_40 {x : tg_X} {Sf : tg_S} {r : Int64} {rec40 : tg_S → Int32 → Int64 → Int32 → Option (tg_S × Int64)} (X : tg_M tauC x cX7_withTeam 7 RX7 zr_X7_withTeam (some .long) Sf (some (.long r))) (hr40 : ∀ (S : tg_S) (v3 : Int32) (v4 : Int64) (v6 : Int32), rec40 S v3 v4 v6 = some (Sf, r) → tg_G tauC x S 40 [(0, .ref (tg_ad x 0)), (3, .int v3), (4, .long v4), (6, .int v6)] []) (S : tg_S) (v3 : Int32) (v4 : Int64) (v6 : Int32) (h : f_X7_withTeam_40 rec40 S v3 v4 v6 = some (Sf, r)) : tg_G tauC x S 40 [(0, .ref (tg_ad x 0)), (3, .int v3), (4, .long v4), (6, .int v6)] [] := by
  unfold f_X7_withTeam_40 at h
  refine tg_iload X dX7_withTeam_40 3 rfl ?_
  refine tg_iconst X dX7_withTeam_42 tk_i3 ?_
  refine tg_icmp_ge (tgt := 69) X dX7_withTeam_43 (by decide) (fun c1 => ?_) (fun c1 => ?_)
  · have h := tg_ifT c1 h
    refine tg_ldc2 X wk_X7_291 dX7_withTeam_69 ?_
    refine tg_lload X dX7_withTeam_72 2 rfl ?_
    refine tg_lmul X dX7_withTeam_74 ?_
    refine tg_aload_n X dX7_withTeam_75 rfl 0 rfl ?_
    refine tg_iload_n X dX7_withTeam_76 rfl 1 rfl ?_
    refine tg_iconst X dX7_withTeam_77 tk_i0 ?_
    obtain ⟨S2, r3, kS2, h⟩ := tg_bdE h
    refine tg_callV (As := [.int v3, .int 0]) (rest := [.long (31 * v4)]) X 0 (cm_X7_out _ _ _ _ _ kS2) yy_X7_out wv_X7_out ws_X7_out wm_X7_362 rfl cl_X7.1 ⟨rfl, rfl, Nat.le_of_ble_eq_true rfl, Nat.le_of_ble_eq_true rfl⟩ rfl rfl (Nat.le_of_ble_eq_true rfl) dX7_withTeam_78 rfl ?_
    refine tg_i2l X dX7_withTeam_81 ?_
    refine tg_ladd X dX7_withTeam_82 ?_
    refine tg_topl (fun y4 ey4 => ?_)
    have h := tg_nmE ey4 h
    refine tg_lstore (lv2 := [(4, .long y4), (0, .ref (tg_ad x 0)), (3, .int v3), (6, .int v6)]) X dX7_withTeam_83 (by decide) rfl ?_
    refine tg_ldc2 X wk_X7_291 dX7_withTeam_85 ?_
    refine tg_lload X dX7_withTeam_88 0 rfl ?_
    refine tg_lmul X dX7_withTeam_90 ?_
    refine tg_aload_n X dX7_withTeam_91 rfl 1 rfl ?_
    refine tg_iload_n X dX7_withTeam_92 rfl 2 rfl ?_
    refine tg_iconst X dX7_withTeam_93 tk_i1 ?_
    obtain ⟨S5, r6, kS5, h⟩ := tg_bdE h
    refine tg_callV (As := [.int v3, .int 1]) (rest := [.long (31 * y4)]) X 0 (cm_X7_out _ _ _ _ _ kS5) yy_X7_out wv_X7_out ws_X7_out wm_X7_362 rfl cl_X7.1 ⟨rfl, rfl, Nat.le_of_ble_eq_true rfl, Nat.le_of_ble_eq_true rfl⟩ rfl rfl (Nat.le_of_ble_eq_true rfl) dX7_withTeam_94 rfl ?_
    refine tg_i2l X dX7_withTeam_97 ?_
    refine tg_ladd X dX7_withTeam_98 ?_
    refine tg_topl (fun y7 ey7 => ?_)
    have h := tg_nmE ey7 h
    refine tg_lstore (lv2 := [(4, .long y7), (0, .ref (tg_ad x 0)), (3, .int v3), (6, .int v6)]) X dX7_withTeam_99 (by decide) rfl ?_
    refine tg_ldc2 X wk_X7_291 dX7_withTeam_101 ?_
    refine tg_lload X dX7_withTeam_104 0 rfl ?_
    refine tg_lmul X dX7_withTeam_106 ?_
    refine tg_aload_n X dX7_withTeam_107 rfl 1 rfl ?_
    refine tg_iconst X dX7_withTeam_108 tk_i5 ?_
    refine tg_iload_n X dX7_withTeam_109 rfl 2 rfl ?_
    refine tg_iconst X dX7_withTeam_110 tk_i0 ?_
    obtain ⟨S8, r9, kS8, h⟩ := tg_bdE h
    refine tg_callV (As := [.int 5, .int v3, .int 0]) (rest := [.long (31 * y7)]) X 0 (cm_X7_chance _ _ _ _ _ kS8) yy_X7_chance wv_X7_chance ws_X7_chance wm_X7_365 rfl cl_X7.1 ⟨rfl, rfl, Nat.le_of_ble_eq_true rfl, Nat.le_of_ble_eq_true rfl⟩ rfl rfl (Nat.le_of_ble_eq_true rfl) dX7_withTeam_111 rfl ?_
    refine tg_ladd X dX7_withTeam_114 ?_
    refine tg_topl (fun y10 ey10 => ?_)
    have h := tg_nmE ey10 h
    refine tg_lstore (lv2 := [(4, .long y10), (0, .ref (tg_ad x 0)), (3, .int v3), (6, .int v6)]) X dX7_withTeam_115 (by decide) rfl ?_
    refine tg_ldc2 X wk_X7_291 dX7_withTeam_117 ?_
    refine tg_lload X dX7_withTeam_120 0 rfl ?_
    refine tg_lmul X dX7_withTeam_122 ?_
    refine tg_aload_n X dX7_withTeam_123 rfl 1 rfl ?_
    refine tg_iconst X dX7_withTeam_124 tk_i5 ?_
    refine tg_iload_n X dX7_withTeam_125 rfl 2 rfl ?_
    refine tg_iconst X dX7_withTeam_126 tk_i1 ?_
    obtain ⟨S11, r12, kS11, h⟩ := tg_bdE h
    refine tg_callV (As := [.int 5, .int v3, .int 1]) (rest := [.long (31 * y10)]) X 0 (cm_X7_chance _ _ _ _ _ kS11) yy_X7_chance wv_X7_chance ws_X7_chance wm_X7_365 rfl cl_X7.1 ⟨rfl, rfl, Nat.le_of_ble_eq_true rfl, Nat.le_of_ble_eq_true rfl⟩ rfl rfl (Nat.le_of_ble_eq_true rfl) dX7_withTeam_127 rfl ?_
    refine tg_ladd X dX7_withTeam_130 ?_
    exact tg_lret X h rfl dX7_withTeam_131
  · have h := tg_ifF c1 h
    refine tg_ldc2 X wk_X7_291 dX7_withTeam_46 ?_
    refine tg_lload X dX7_withTeam_49 2 rfl ?_
    refine tg_lmul X dX7_withTeam_51 ?_
    refine tg_aload_n X dX7_withTeam_52 rfl 0 rfl ?_
    refine tg_iload_n X dX7_withTeam_53 rfl 1 rfl ?_
    refine tg_iload X dX7_withTeam_54 3 rfl ?_
    obtain ⟨S13, r14, kS13, h⟩ := tg_bdE h
    refine tg_callV (As := [.int v3, .int v6]) (rest := [.long (31 * v4)]) X 0 (cm_X7_swap _ _ _ _ _ kS13) yy_X7_swap wv_X7_swap ws_X7_swap wm_X7_359 rfl cl_X7.1 ⟨rfl, rfl, Nat.le_of_ble_eq_true rfl, Nat.le_of_ble_eq_true rfl⟩ rfl rfl (Nat.le_of_ble_eq_true rfl) dX7_withTeam_56 rfl ?_
    refine tg_i2l X dX7_withTeam_59 ?_
    refine tg_ladd X dX7_withTeam_60 ?_
    refine tg_topl (fun y15 ey15 => ?_)
    have h := tg_nmE ey15 h
    refine tg_lstore (lv2 := [(4, .long y15), (0, .ref (tg_ad x 0)), (3, .int v3), (6, .int v6)]) X dX7_withTeam_61 (by decide) rfl ?_
    obtain ⟨y16, ey16⟩ : ∃ z : Int32, z = v6 + 1 := ⟨_, rfl⟩
    have h := tg_nmE ey16 h
    refine tg_iinc (lv2 := [(6, .int y16), (4, .long y15), (0, .ref (tg_ad x 0)), (3, .int v3)]) X dX7_withTeam_63 3 rfl tk_i1 ey16 (by decide) rfl ?_
    refine tg_goto (tgt := 40) X dX7_withTeam_66 (by decide) ?_
    refine tg_re [2, 3, 1, 0] rfl ?_
    exact hr40 S13 v3 y15 y16 h
theorem wl_X7_withTeam_40 {x : tg_X} {Sf : tg_S} {r : Int64} (X : tg_M tauC x cX7_withTeam 7 RX7 zr_X7_withTeam (some .long) Sf (some (.long r))) : ∀ (n : Nat) (S : tg_S) (v3 : Int32) (v4 : Int64) (v6 : Int32) (h : L_X7_withTeam_40  n S v3 v4 v6 = some (Sf, r)), tg_G tauC x S 40 [(0, .ref (tg_ad x 0)), (3, .int v3), (4, .long v4), (6, .int v6)] [] := by
  intro n
  induction n with
  | zero => intro S v3 v4 v6 h; cases h
  | succ n ih => intro S v3 v4 v6 h; exact w_X7_withTeam_40 X  ih S v3 v4 v6 h
set_option maxRecDepth 20000 in
set_option maxHeartbeats 4000000 in
theorem w_X7_withTeam_0 {x : tg_X} {Sf : tg_S} {r : Int64} (X : tg_M tauC x cX7_withTeam 7 RX7 zr_X7_withTeam (some .long) Sf (some (.long r))) (S : tg_S) (v1 : Int64) (v3 : Int32) (h : f_X7_withTeam  S v1 v3 = some (Sf, r)) : tg_G tauC x S 0 [(0, .ref (tg_ad x 0)), (1, .long v1), (3, .int v3)] [] := by
  unfold f_X7_withTeam at h
  refine tg_lload_n X dX7_withTeam_0 rfl 1 rfl ?_
  refine tg_lstore (lv2 := [(4, .long v1), (0, .ref (tg_ad x 0)), (1, .long v1), (3, .int v3)]) X dX7_withTeam_1 (by decide) rfl ?_
  refine tg_ldc2 X wk_X7_291 dX7_withTeam_3 ?_
  refine tg_lload X dX7_withTeam_6 0 rfl ?_
  refine tg_lmul X dX7_withTeam_8 ?_
  refine tg_aload_n X dX7_withTeam_9 rfl 1 rfl ?_
  refine tg_iload_n X dX7_withTeam_10 rfl 3 rfl ?_
  refine tg_iconst X dX7_withTeam_11 tk_i4 ?_
  refine tg_iconst X dX7_withTeam_12 tk_i0 ?_
  obtain ⟨S1, r2, kS1, h⟩ := tg_bdE h
  refine tg_callV (As := [.int v3, .int 4, .int 0]) (rest := [.long (31 * v1)]) X 0 (cm_X7_better _ _ _ _ _ kS1) yy_X7_better wv_X7_better ws_X7_better wm_X7_356 rfl cl_X7.1 ⟨rfl, rfl, Nat.le_of_ble_eq_true rfl, Nat.le_of_ble_eq_true rfl⟩ rfl rfl (Nat.le_of_ble_eq_true rfl) dX7_withTeam_13 rfl ?_
  refine tg_i2l X dX7_withTeam_16 ?_
  refine tg_ladd X dX7_withTeam_17 ?_
  refine tg_topl (fun y3 ey3 => ?_)
  have h := tg_nmE ey3 h
  refine tg_lstore (lv2 := [(4, .long y3), (0, .ref (tg_ad x 0)), (1, .long v1), (3, .int v3)]) X dX7_withTeam_18 (by decide) rfl ?_
  refine tg_ldc2 X wk_X7_291 dX7_withTeam_20 ?_
  refine tg_lload X dX7_withTeam_23 0 rfl ?_
  refine tg_lmul X dX7_withTeam_25 ?_
  refine tg_aload_n X dX7_withTeam_26 rfl 1 rfl ?_
  refine tg_iload_n X dX7_withTeam_27 rfl 3 rfl ?_
  refine tg_iconst X dX7_withTeam_28 tk_i4 ?_
  refine tg_iconst X dX7_withTeam_29 tk_i1 ?_
  obtain ⟨S4, r5, kS4, h⟩ := tg_bdE h
  refine tg_callV (As := [.int v3, .int 4, .int 1]) (rest := [.long (31 * y3)]) X 0 (cm_X7_better _ _ _ _ _ kS4) yy_X7_better wv_X7_better ws_X7_better wm_X7_356 rfl cl_X7.1 ⟨rfl, rfl, Nat.le_of_ble_eq_true rfl, Nat.le_of_ble_eq_true rfl⟩ rfl rfl (Nat.le_of_ble_eq_true rfl) dX7_withTeam_30 rfl ?_
  refine tg_i2l X dX7_withTeam_33 ?_
  refine tg_ladd X dX7_withTeam_34 ?_
  refine tg_topl (fun y6 ey6 => ?_)
  have h := tg_nmE ey6 h
  refine tg_lstore (lv2 := [(4, .long y6), (0, .ref (tg_ad x 0)), (1, .long v1), (3, .int v3)]) X dX7_withTeam_35 (by decide) rfl ?_
  refine tg_iconst X dX7_withTeam_37 tk_i0 ?_
  refine tg_istore (lv2 := [(6, .int 0), (4, .long y6), (0, .ref (tg_ad x 0)), (1, .long v1), (3, .int v3)]) X dX7_withTeam_38 (by decide) rfl ?_
  refine tg_re [2, 4, 1, 0] rfl ?_
  exact wl_X7_withTeam_40 X  tg_F S4 v3 y6 0 h
theorem cm_X7_withTeam (l : Launch) (D : va_G) (cy : Bool → ClassId) (ad : Nat → Nat) (tS : Nat) {S Sf : tg_S} {v1 : Int64} {v3 : Int32} {r : Int64} (h : f_X7_withTeam  S v1 v3 = some (Sf, r)) : tg_Met l yX7_withTeam cX7_withTeam 7 (some .long) zr_X7_withTeam tauC D cy ad tS S [.ref (ad 0), .long v1, .int v3] Sf (some (.long r)) := tg_mk (by decide +kernel) trivial (Nat.le_of_ble_eq_true rfl) (fun p e s m args below meth c Q A X => w_X7_withTeam_0 X S v1 v3 h)
-- X7_digest
def zr_X7_digest : Room := { frames := 7, cells := 0, slots := 0, locals := 175 }
theorem dX7_digest_0 : decode cX7_digest 0 = .ok (.ldc2_w 289, 3) := by decide +kernel
theorem dX7_digest_3 : decode cX7_digest 3 = .ok (.lstore_n 1, 1) := by decide +kernel
theorem dX7_digest_4 : decode cX7_digest 4 = .ok (.iconst 0, 1) := by decide +kernel
theorem dX7_digest_5 : decode cX7_digest 5 = .ok (.istore_n 3, 1) := by decide +kernel
theorem dX7_digest_6 : decode cX7_digest 6 = .ok (.iload_n 3, 1) := by decide +kernel
theorem dX7_digest_7 : decode cX7_digest 7 = .ok (.bipush 8, 2) := by decide +kernel
theorem dX7_digest_9 : decode cX7_digest 9 = .ok (.if_icmp .ge 22, 3) := by decide +kernel
theorem dX7_digest_12 : decode cX7_digest 12 = .ok (.ldc2_w 291, 3) := by decide +kernel
theorem dX7_digest_15 : decode cX7_digest 15 = .ok (.lload_n 1, 1) := by decide +kernel
theorem dX7_digest_16 : decode cX7_digest 16 = .ok (.lmul, 1) := by decide +kernel
theorem dX7_digest_17 : decode cX7_digest 17 = .ok (.aload_n 0, 1) := by decide +kernel
theorem dX7_digest_18 : decode cX7_digest 18 = .ok (.iload_n 3, 1) := by decide +kernel
theorem dX7_digest_19 : decode cX7_digest 19 = .ok (.invokevirtual 293, 3) := by decide +kernel
theorem dX7_digest_22 : decode cX7_digest 22 = .ok (.i2l, 1) := by decide +kernel
theorem dX7_digest_23 : decode cX7_digest 23 = .ok (.ladd, 1) := by decide +kernel
theorem dX7_digest_24 : decode cX7_digest 24 = .ok (.lstore_n 1, 1) := by decide +kernel
theorem dX7_digest_25 : decode cX7_digest 25 = .ok (.iinc 3 1, 3) := by decide +kernel
theorem dX7_digest_28 : decode cX7_digest 28 = .ok (.goto (-22), 3) := by decide +kernel
theorem dX7_digest_31 : decode cX7_digest 31 = .ok (.iconst 0, 1) := by decide +kernel
theorem dX7_digest_32 : decode cX7_digest 32 = .ok (.istore_n 3, 1) := by decide +kernel
theorem dX7_digest_33 : decode cX7_digest 33 = .ok (.iload_n 3, 1) := by decide +kernel
theorem dX7_digest_34 : decode cX7_digest 34 = .ok (.iconst 4, 1) := by decide +kernel
theorem dX7_digest_35 : decode cX7_digest 35 = .ok (.if_icmp .ge 22, 3) := by decide +kernel
theorem dX7_digest_38 : decode cX7_digest 38 = .ok (.ldc2_w 291, 3) := by decide +kernel
theorem dX7_digest_41 : decode cX7_digest 41 = .ok (.lload_n 1, 1) := by decide +kernel
theorem dX7_digest_42 : decode cX7_digest 42 = .ok (.lmul, 1) := by decide +kernel
theorem dX7_digest_43 : decode cX7_digest 43 = .ok (.aload_n 0, 1) := by decide +kernel
theorem dX7_digest_44 : decode cX7_digest 44 = .ok (.iload_n 3, 1) := by decide +kernel
theorem dX7_digest_45 : decode cX7_digest 45 = .ok (.invokevirtual 296, 3) := by decide +kernel
theorem dX7_digest_48 : decode cX7_digest 48 = .ok (.i2l, 1) := by decide +kernel
theorem dX7_digest_49 : decode cX7_digest 49 = .ok (.ladd, 1) := by decide +kernel
theorem dX7_digest_50 : decode cX7_digest 50 = .ok (.lstore_n 1, 1) := by decide +kernel
theorem dX7_digest_51 : decode cX7_digest 51 = .ok (.iinc 3 1, 3) := by decide +kernel
theorem dX7_digest_54 : decode cX7_digest 54 = .ok (.goto (-21), 3) := by decide +kernel
theorem dX7_digest_57 : decode cX7_digest 57 = .ok (.iconst 0, 1) := by decide +kernel
theorem dX7_digest_58 : decode cX7_digest 58 = .ok (.istore_n 3, 1) := by decide +kernel
theorem dX7_digest_59 : decode cX7_digest 59 = .ok (.iload_n 3, 1) := by decide +kernel
theorem dX7_digest_60 : decode cX7_digest 60 = .ok (.bipush 24, 2) := by decide +kernel
theorem dX7_digest_62 : decode cX7_digest 62 = .ok (.if_icmp .ge 16, 3) := by decide +kernel
theorem dX7_digest_65 : decode cX7_digest 65 = .ok (.aload_n 0, 1) := by decide +kernel
theorem dX7_digest_66 : decode cX7_digest 66 = .ok (.lload_n 1, 1) := by decide +kernel
theorem dX7_digest_67 : decode cX7_digest 67 = .ok (.iload_n 3, 1) := by decide +kernel
theorem dX7_digest_68 : decode cX7_digest 68 = .ok (.invokevirtual 299, 3) := by decide +kernel
theorem dX7_digest_71 : decode cX7_digest 71 = .ok (.lstore_n 1, 1) := by decide +kernel
theorem dX7_digest_72 : decode cX7_digest 72 = .ok (.iinc 3 1, 3) := by decide +kernel
theorem dX7_digest_75 : decode cX7_digest 75 = .ok (.goto (-16), 3) := by decide +kernel
theorem dX7_digest_78 : decode cX7_digest 78 = .ok (.iconst 0, 1) := by decide +kernel
theorem dX7_digest_79 : decode cX7_digest 79 = .ok (.istore_n 3, 1) := by decide +kernel
theorem dX7_digest_80 : decode cX7_digest 80 = .ok (.iload_n 3, 1) := by decide +kernel
theorem dX7_digest_81 : decode cX7_digest 81 = .ok (.bipush 16, 2) := by decide +kernel
theorem dX7_digest_83 : decode cX7_digest 83 = .ok (.if_icmp .ge 24, 3) := by decide +kernel
theorem dX7_digest_86 : decode cX7_digest 86 = .ok (.aload_n 0, 1) := by decide +kernel
theorem dX7_digest_87 : decode cX7_digest 87 = .ok (.iload_n 3, 1) := by decide +kernel
theorem dX7_digest_88 : decode cX7_digest 88 = .ok (.invokevirtual 100, 3) := by decide +kernel
theorem dX7_digest_91 : decode cX7_digest 91 = .ok (.ifCond .eq 10, 3) := by decide +kernel
theorem dX7_digest_94 : decode cX7_digest 94 = .ok (.aload_n 0, 1) := by decide +kernel
theorem dX7_digest_95 : decode cX7_digest 95 = .ok (.lload_n 1, 1) := by decide +kernel
theorem dX7_digest_96 : decode cX7_digest 96 = .ok (.iload_n 3, 1) := by decide +kernel
theorem dX7_digest_97 : decode cX7_digest 97 = .ok (.invokevirtual 303, 3) := by decide +kernel
theorem dX7_digest_100 : decode cX7_digest 100 = .ok (.lstore_n 1, 1) := by decide +kernel
theorem dX7_digest_101 : decode cX7_digest 101 = .ok (.iinc 3 1, 3) := by decide +kernel
theorem dX7_digest_104 : decode cX7_digest 104 = .ok (.goto (-24), 3) := by decide +kernel
theorem dX7_digest_107 : decode cX7_digest 107 = .ok (.iconst 0, 1) := by decide +kernel
theorem dX7_digest_108 : decode cX7_digest 108 = .ok (.istore_n 3, 1) := by decide +kernel
theorem dX7_digest_109 : decode cX7_digest 109 = .ok (.iload_n 3, 1) := by decide +kernel
theorem dX7_digest_110 : decode cX7_digest 110 = .ok (.iconst 2, 1) := by decide +kernel
theorem dX7_digest_111 : decode cX7_digest 111 = .ok (.if_icmp .ge 16, 3) := by decide +kernel
theorem dX7_digest_114 : decode cX7_digest 114 = .ok (.aload_n 0, 1) := by decide +kernel
theorem dX7_digest_115 : decode cX7_digest 115 = .ok (.lload_n 1, 1) := by decide +kernel
theorem dX7_digest_116 : decode cX7_digest 116 = .ok (.iload_n 3, 1) := by decide +kernel
theorem dX7_digest_117 : decode cX7_digest 117 = .ok (.invokevirtual 306, 3) := by decide +kernel
theorem dX7_digest_120 : decode cX7_digest 120 = .ok (.lstore_n 1, 1) := by decide +kernel
theorem dX7_digest_121 : decode cX7_digest 121 = .ok (.iinc 3 1, 3) := by decide +kernel
theorem dX7_digest_124 : decode cX7_digest 124 = .ok (.goto (-15), 3) := by decide +kernel
theorem dX7_digest_127 : decode cX7_digest 127 = .ok (.ldc2_w 291, 3) := by decide +kernel
theorem dX7_digest_130 : decode cX7_digest 130 = .ok (.lload_n 1, 1) := by decide +kernel
theorem dX7_digest_131 : decode cX7_digest 131 = .ok (.lmul, 1) := by decide +kernel
theorem dX7_digest_132 : decode cX7_digest 132 = .ok (.aload_n 0, 1) := by decide +kernel
theorem dX7_digest_133 : decode cX7_digest 133 = .ok (.iconst 0, 1) := by decide +kernel
theorem dX7_digest_134 : decode cX7_digest 134 = .ok (.invokevirtual 309, 3) := by decide +kernel
theorem dX7_digest_137 : decode cX7_digest 137 = .ok (.i2l, 1) := by decide +kernel
theorem dX7_digest_138 : decode cX7_digest 138 = .ok (.ladd, 1) := by decide +kernel
theorem dX7_digest_139 : decode cX7_digest 139 = .ok (.lstore_n 1, 1) := by decide +kernel
theorem dX7_digest_140 : decode cX7_digest 140 = .ok (.ldc2_w 291, 3) := by decide +kernel
theorem dX7_digest_143 : decode cX7_digest 143 = .ok (.lload_n 1, 1) := by decide +kernel
theorem dX7_digest_144 : decode cX7_digest 144 = .ok (.lmul, 1) := by decide +kernel
theorem dX7_digest_145 : decode cX7_digest 145 = .ok (.aload_n 0, 1) := by decide +kernel
theorem dX7_digest_146 : decode cX7_digest 146 = .ok (.iconst 1, 1) := by decide +kernel
theorem dX7_digest_147 : decode cX7_digest 147 = .ok (.invokevirtual 309, 3) := by decide +kernel
theorem dX7_digest_150 : decode cX7_digest 150 = .ok (.i2l, 1) := by decide +kernel
theorem dX7_digest_151 : decode cX7_digest 151 = .ok (.ladd, 1) := by decide +kernel
theorem dX7_digest_152 : decode cX7_digest 152 = .ok (.lstore_n 1, 1) := by decide +kernel
theorem dX7_digest_153 : decode cX7_digest 153 = .ok (.ldc2_w 291, 3) := by decide +kernel
theorem dX7_digest_156 : decode cX7_digest 156 = .ok (.lload_n 1, 1) := by decide +kernel
theorem dX7_digest_157 : decode cX7_digest 157 = .ok (.lmul, 1) := by decide +kernel
theorem dX7_digest_158 : decode cX7_digest 158 = .ok (.aload_n 0, 1) := by decide +kernel
theorem dX7_digest_159 : decode cX7_digest 159 = .ok (.iconst 0, 1) := by decide +kernel
theorem dX7_digest_160 : decode cX7_digest 160 = .ok (.invokevirtual 312, 3) := by decide +kernel
theorem dX7_digest_163 : decode cX7_digest 163 = .ok (.i2l, 1) := by decide +kernel
theorem dX7_digest_164 : decode cX7_digest 164 = .ok (.ladd, 1) := by decide +kernel
theorem dX7_digest_165 : decode cX7_digest 165 = .ok (.lstore_n 1, 1) := by decide +kernel
theorem dX7_digest_166 : decode cX7_digest 166 = .ok (.ldc2_w 291, 3) := by decide +kernel
theorem dX7_digest_169 : decode cX7_digest 169 = .ok (.lload_n 1, 1) := by decide +kernel
theorem dX7_digest_170 : decode cX7_digest 170 = .ok (.lmul, 1) := by decide +kernel
theorem dX7_digest_171 : decode cX7_digest 171 = .ok (.aload_n 0, 1) := by decide +kernel
theorem dX7_digest_172 : decode cX7_digest 172 = .ok (.iconst 1, 1) := by decide +kernel
theorem dX7_digest_173 : decode cX7_digest 173 = .ok (.invokevirtual 312, 3) := by decide +kernel
theorem dX7_digest_176 : decode cX7_digest 176 = .ok (.i2l, 1) := by decide +kernel
theorem dX7_digest_177 : decode cX7_digest 177 = .ok (.ladd, 1) := by decide +kernel
theorem dX7_digest_178 : decode cX7_digest 178 = .ok (.lstore_n 1, 1) := by decide +kernel
theorem dX7_digest_179 : decode cX7_digest 179 = .ok (.ldc2_w 291, 3) := by decide +kernel
theorem dX7_digest_182 : decode cX7_digest 182 = .ok (.lload_n 1, 1) := by decide +kernel
theorem dX7_digest_183 : decode cX7_digest 183 = .ok (.lmul, 1) := by decide +kernel
theorem dX7_digest_184 : decode cX7_digest 184 = .ok (.aload_n 0, 1) := by decide +kernel
theorem dX7_digest_185 : decode cX7_digest 185 = .ok (.invokevirtual 315, 3) := by decide +kernel
theorem dX7_digest_188 : decode cX7_digest 188 = .ok (.i2l, 1) := by decide +kernel
theorem dX7_digest_189 : decode cX7_digest 189 = .ok (.ladd, 1) := by decide +kernel
theorem dX7_digest_190 : decode cX7_digest 190 = .ok (.lstore_n 1, 1) := by decide +kernel
theorem dX7_digest_191 : decode cX7_digest 191 = .ok (.ldc2_w 291, 3) := by decide +kernel
theorem dX7_digest_194 : decode cX7_digest 194 = .ok (.lload_n 1, 1) := by decide +kernel
theorem dX7_digest_195 : decode cX7_digest 195 = .ok (.lmul, 1) := by decide +kernel
theorem dX7_digest_196 : decode cX7_digest 196 = .ok (.aload_n 0, 1) := by decide +kernel
theorem dX7_digest_197 : decode cX7_digest 197 = .ok (.invokevirtual 318, 3) := by decide +kernel
theorem dX7_digest_200 : decode cX7_digest 200 = .ok (.i2l, 1) := by decide +kernel
theorem dX7_digest_201 : decode cX7_digest 201 = .ok (.ladd, 1) := by decide +kernel
theorem dX7_digest_202 : decode cX7_digest 202 = .ok (.lstore_n 1, 1) := by decide +kernel
theorem dX7_digest_203 : decode cX7_digest 203 = .ok (.ldc2_w 291, 3) := by decide +kernel
theorem dX7_digest_206 : decode cX7_digest 206 = .ok (.lload_n 1, 1) := by decide +kernel
theorem dX7_digest_207 : decode cX7_digest 207 = .ok (.lmul, 1) := by decide +kernel
theorem dX7_digest_208 : decode cX7_digest 208 = .ok (.aload_n 0, 1) := by decide +kernel
theorem dX7_digest_209 : decode cX7_digest 209 = .ok (.invokevirtual 321, 3) := by decide +kernel
theorem dX7_digest_212 : decode cX7_digest 212 = .ok (.i2l, 1) := by decide +kernel
theorem dX7_digest_213 : decode cX7_digest 213 = .ok (.ladd, 1) := by decide +kernel
theorem dX7_digest_214 : decode cX7_digest 214 = .ok (.lstore_n 1, 1) := by decide +kernel
theorem dX7_digest_215 : decode cX7_digest 215 = .ok (.ldc2_w 291, 3) := by decide +kernel
theorem dX7_digest_218 : decode cX7_digest 218 = .ok (.lload_n 1, 1) := by decide +kernel
theorem dX7_digest_219 : decode cX7_digest 219 = .ok (.lmul, 1) := by decide +kernel
theorem dX7_digest_220 : decode cX7_digest 220 = .ok (.aload_n 0, 1) := by decide +kernel
theorem dX7_digest_221 : decode cX7_digest 221 = .ok (.iconst (-1), 1) := by decide +kernel
theorem dX7_digest_222 : decode cX7_digest 222 = .ok (.invokevirtual 324, 3) := by decide +kernel
theorem dX7_digest_225 : decode cX7_digest 225 = .ok (.i2l, 1) := by decide +kernel
theorem dX7_digest_226 : decode cX7_digest 226 = .ok (.ladd, 1) := by decide +kernel
theorem dX7_digest_227 : decode cX7_digest 227 = .ok (.lstore_n 1, 1) := by decide +kernel
theorem dX7_digest_228 : decode cX7_digest 228 = .ok (.ldc2_w 291, 3) := by decide +kernel
theorem dX7_digest_231 : decode cX7_digest 231 = .ok (.lload_n 1, 1) := by decide +kernel
theorem dX7_digest_232 : decode cX7_digest 232 = .ok (.lmul, 1) := by decide +kernel
theorem dX7_digest_233 : decode cX7_digest 233 = .ok (.aload_n 0, 1) := by decide +kernel
theorem dX7_digest_234 : decode cX7_digest 234 = .ok (.iconst 0, 1) := by decide +kernel
theorem dX7_digest_235 : decode cX7_digest 235 = .ok (.invokevirtual 324, 3) := by decide +kernel
theorem dX7_digest_238 : decode cX7_digest 238 = .ok (.i2l, 1) := by decide +kernel
theorem dX7_digest_239 : decode cX7_digest 239 = .ok (.ladd, 1) := by decide +kernel
theorem dX7_digest_240 : decode cX7_digest 240 = .ok (.lstore_n 1, 1) := by decide +kernel
theorem dX7_digest_241 : decode cX7_digest 241 = .ok (.ldc2_w 291, 3) := by decide +kernel
theorem dX7_digest_244 : decode cX7_digest 244 = .ok (.lload_n 1, 1) := by decide +kernel
theorem dX7_digest_245 : decode cX7_digest 245 = .ok (.lmul, 1) := by decide +kernel
theorem dX7_digest_246 : decode cX7_digest 246 = .ok (.aload_n 0, 1) := by decide +kernel
theorem dX7_digest_247 : decode cX7_digest 247 = .ok (.invokevirtual 327, 3) := by decide +kernel
theorem dX7_digest_250 : decode cX7_digest 250 = .ok (.i2l, 1) := by decide +kernel
theorem dX7_digest_251 : decode cX7_digest 251 = .ok (.ladd, 1) := by decide +kernel
theorem dX7_digest_252 : decode cX7_digest 252 = .ok (.lstore_n 1, 1) := by decide +kernel
theorem dX7_digest_253 : decode cX7_digest 253 = .ok (.ldc2_w 291, 3) := by decide +kernel
theorem dX7_digest_256 : decode cX7_digest 256 = .ok (.lload_n 1, 1) := by decide +kernel
theorem dX7_digest_257 : decode cX7_digest 257 = .ok (.lmul, 1) := by decide +kernel
theorem dX7_digest_258 : decode cX7_digest 258 = .ok (.aload_n 0, 1) := by decide +kernel
theorem dX7_digest_259 : decode cX7_digest 259 = .ok (.bipush 7, 2) := by decide +kernel
theorem dX7_digest_261 : decode cX7_digest 261 = .ok (.bipush 18, 2) := by decide +kernel
theorem dX7_digest_263 : decode cX7_digest 263 = .ok (.iconst 0, 1) := by decide +kernel
theorem dX7_digest_264 : decode cX7_digest 264 = .ok (.invokevirtual 330, 3) := by decide +kernel
theorem dX7_digest_267 : decode cX7_digest 267 = .ok (.i2l, 1) := by decide +kernel
theorem dX7_digest_268 : decode cX7_digest 268 = .ok (.ladd, 1) := by decide +kernel
theorem dX7_digest_269 : decode cX7_digest 269 = .ok (.lstore_n 1, 1) := by decide +kernel
theorem dX7_digest_270 : decode cX7_digest 270 = .ok (.ldc2_w 291, 3) := by decide +kernel
theorem dX7_digest_273 : decode cX7_digest 273 = .ok (.lload_n 1, 1) := by decide +kernel
theorem dX7_digest_274 : decode cX7_digest 274 = .ok (.lmul, 1) := by decide +kernel
theorem dX7_digest_275 : decode cX7_digest 275 = .ok (.aload_n 0, 1) := by decide +kernel
theorem dX7_digest_276 : decode cX7_digest 276 = .ok (.bipush 7, 2) := by decide +kernel
theorem dX7_digest_278 : decode cX7_digest 278 = .ok (.bipush 18, 2) := by decide +kernel
theorem dX7_digest_280 : decode cX7_digest 280 = .ok (.iconst 1, 1) := by decide +kernel
theorem dX7_digest_281 : decode cX7_digest 281 = .ok (.invokevirtual 330, 3) := by decide +kernel
theorem dX7_digest_284 : decode cX7_digest 284 = .ok (.i2l, 1) := by decide +kernel
theorem dX7_digest_285 : decode cX7_digest 285 = .ok (.ladd, 1) := by decide +kernel
theorem dX7_digest_286 : decode cX7_digest 286 = .ok (.lreturn, 1) := by decide +kernel
set_option maxRecDepth 20000 in
set_option maxHeartbeats 4000000 in
theorem w_X7_digest_109 {x : tg_X} {Sf : tg_S} {r : Int64} {rec109 : tg_S → Int64 → Int32 → Option (tg_S × Int64)} (X : tg_M tauC x cX7_digest 4 RX7 zr_X7_digest (some .long) Sf (some (.long r))) (hr109 : ∀ (S : tg_S) (v1 : Int64) (v3 : Int32), rec109 S v1 v3 = some (Sf, r) → tg_G tauC x S 109 [(0, .ref (tg_ad x 0)), (1, .long v1), (3, .int v3)] []) (S : tg_S) (v1 : Int64) (v3 : Int32) (h : f_X7_digest_109 rec109 S v1 v3 = some (Sf, r)) : tg_G tauC x S 109 [(0, .ref (tg_ad x 0)), (1, .long v1), (3, .int v3)] [] := by
  unfold f_X7_digest_109 at h
  refine tg_iload_n X dX7_digest_109 rfl 2 rfl ?_
  refine tg_iconst X dX7_digest_110 tk_i2 ?_
  refine tg_icmp_ge (tgt := 127) X dX7_digest_111 (by decide) (fun c1 => ?_) (fun c1 => ?_)
  · have h := tg_ifT c1 h
    refine tg_ldc2 X wk_X7_291 dX7_digest_127 ?_
    refine tg_lload_n X dX7_digest_130 rfl 1 rfl ?_
    refine tg_lmul X dX7_digest_131 ?_
    refine tg_aload_n X dX7_digest_132 rfl 0 rfl ?_
    refine tg_iconst X dX7_digest_133 tk_i0 ?_
    obtain ⟨S2, r3, kS2, h⟩ := tg_bdE h
    refine tg_callV (As := [.int 0]) (rest := [.long (31 * v1)]) X 0 (cm_X7_won _ _ _ _ _ kS2) yy_X7_won wv_X7_won ws_X7_won wm_X7_309 rfl cl_X7.1 ⟨rfl, rfl, Nat.le_of_ble_eq_true rfl, Nat.le_of_ble_eq_true rfl⟩ rfl rfl (Nat.le_of_ble_eq_true rfl) dX7_digest_134 rfl ?_
    refine tg_i2l X dX7_digest_137 ?_
    refine tg_ladd X dX7_digest_138 ?_
    refine tg_topl (fun y4 ey4 => ?_)
    have h := tg_nmE ey4 h
    refine tg_lstore_n (lv2 := [(1, .long y4), (0, .ref (tg_ad x 0)), (3, .int v3)]) X dX7_digest_139 rfl (by decide) rfl ?_
    refine tg_ldc2 X wk_X7_291 dX7_digest_140 ?_
    refine tg_lload_n X dX7_digest_143 rfl 0 rfl ?_
    refine tg_lmul X dX7_digest_144 ?_
    refine tg_aload_n X dX7_digest_145 rfl 1 rfl ?_
    refine tg_iconst X dX7_digest_146 tk_i1 ?_
    obtain ⟨S5, r6, kS5, h⟩ := tg_bdE h
    refine tg_callV (As := [.int 1]) (rest := [.long (31 * y4)]) X 0 (cm_X7_won _ _ _ _ _ kS5) yy_X7_won wv_X7_won ws_X7_won wm_X7_309 rfl cl_X7.1 ⟨rfl, rfl, Nat.le_of_ble_eq_true rfl, Nat.le_of_ble_eq_true rfl⟩ rfl rfl (Nat.le_of_ble_eq_true rfl) dX7_digest_147 rfl ?_
    refine tg_i2l X dX7_digest_150 ?_
    refine tg_ladd X dX7_digest_151 ?_
    refine tg_topl (fun y7 ey7 => ?_)
    have h := tg_nmE ey7 h
    refine tg_lstore_n (lv2 := [(1, .long y7), (0, .ref (tg_ad x 0)), (3, .int v3)]) X dX7_digest_152 rfl (by decide) rfl ?_
    refine tg_ldc2 X wk_X7_291 dX7_digest_153 ?_
    refine tg_lload_n X dX7_digest_156 rfl 0 rfl ?_
    refine tg_lmul X dX7_digest_157 ?_
    refine tg_aload_n X dX7_digest_158 rfl 1 rfl ?_
    refine tg_iconst X dX7_digest_159 tk_i0 ?_
    obtain ⟨S8, r9, kS8, h⟩ := tg_bdE h
    refine tg_callV (As := [.int 0]) (rest := [.long (31 * y7)]) X 0 (cm_X7_furthest _ _ _ _ _ kS8) yy_X7_furthest wv_X7_furthest ws_X7_furthest wm_X7_312 rfl cl_X7.1 ⟨rfl, rfl, Nat.le_of_ble_eq_true rfl, Nat.le_of_ble_eq_true rfl⟩ rfl rfl (Nat.le_of_ble_eq_true rfl) dX7_digest_160 rfl ?_
    refine tg_i2l X dX7_digest_163 ?_
    refine tg_ladd X dX7_digest_164 ?_
    refine tg_topl (fun y10 ey10 => ?_)
    have h := tg_nmE ey10 h
    refine tg_lstore_n (lv2 := [(1, .long y10), (0, .ref (tg_ad x 0)), (3, .int v3)]) X dX7_digest_165 rfl (by decide) rfl ?_
    refine tg_ldc2 X wk_X7_291 dX7_digest_166 ?_
    refine tg_lload_n X dX7_digest_169 rfl 0 rfl ?_
    refine tg_lmul X dX7_digest_170 ?_
    refine tg_aload_n X dX7_digest_171 rfl 1 rfl ?_
    refine tg_iconst X dX7_digest_172 tk_i1 ?_
    obtain ⟨S11, r12, kS11, h⟩ := tg_bdE h
    refine tg_callV (As := [.int 1]) (rest := [.long (31 * y10)]) X 0 (cm_X7_furthest _ _ _ _ _ kS11) yy_X7_furthest wv_X7_furthest ws_X7_furthest wm_X7_312 rfl cl_X7.1 ⟨rfl, rfl, Nat.le_of_ble_eq_true rfl, Nat.le_of_ble_eq_true rfl⟩ rfl rfl (Nat.le_of_ble_eq_true rfl) dX7_digest_173 rfl ?_
    refine tg_i2l X dX7_digest_176 ?_
    refine tg_ladd X dX7_digest_177 ?_
    refine tg_topl (fun y13 ey13 => ?_)
    have h := tg_nmE ey13 h
    refine tg_lstore_n (lv2 := [(1, .long y13), (0, .ref (tg_ad x 0)), (3, .int v3)]) X dX7_digest_178 rfl (by decide) rfl ?_
    refine tg_ldc2 X wk_X7_291 dX7_digest_179 ?_
    refine tg_lload_n X dX7_digest_182 rfl 0 rfl ?_
    refine tg_lmul X dX7_digest_183 ?_
    refine tg_aload_n X dX7_digest_184 rfl 1 rfl ?_
    obtain ⟨S14, r15, kS14, h⟩ := tg_bdE h
    refine tg_callV (As := []) (rest := [.long (31 * y13)]) X 0 (cm_X7_spent _ _ _ _ _ kS14) yy_X7_spent wv_X7_spent ws_X7_spent wm_X7_315 rfl cl_X7.1 ⟨rfl, rfl, Nat.le_of_ble_eq_true rfl, Nat.le_of_ble_eq_true rfl⟩ rfl rfl (Nat.le_of_ble_eq_true rfl) dX7_digest_185 rfl ?_
    refine tg_i2l X dX7_digest_188 ?_
    refine tg_ladd X dX7_digest_189 ?_
    refine tg_topl (fun y16 ey16 => ?_)
    have h := tg_nmE ey16 h
    refine tg_lstore_n (lv2 := [(1, .long y16), (0, .ref (tg_ad x 0)), (3, .int v3)]) X dX7_digest_190 rfl (by decide) rfl ?_
    refine tg_ldc2 X wk_X7_291 dX7_digest_191 ?_
    refine tg_lload_n X dX7_digest_194 rfl 0 rfl ?_
    refine tg_lmul X dX7_digest_195 ?_
    refine tg_aload_n X dX7_digest_196 rfl 1 rfl ?_
    obtain ⟨S17, r18, kS17, h⟩ := tg_bdE h
    refine tg_callV (As := []) (rest := [.long (31 * y16)]) X 0 (cm_X7_best _ _ _ _ _ kS17) yy_X7_best wv_X7_best ws_X7_best wm_X7_318 rfl cl_X7.1 ⟨rfl, rfl, Nat.le_of_ble_eq_true rfl, Nat.le_of_ble_eq_true rfl⟩ rfl rfl (Nat.le_of_ble_eq_true rfl) dX7_digest_197 rfl ?_
    refine tg_i2l X dX7_digest_200 ?_
    refine tg_ladd X dX7_digest_201 ?_
    refine tg_topl (fun y19 ey19 => ?_)
    have h := tg_nmE ey19 h
    refine tg_lstore_n (lv2 := [(1, .long y19), (0, .ref (tg_ad x 0)), (3, .int v3)]) X dX7_digest_202 rfl (by decide) rfl ?_
    refine tg_ldc2 X wk_X7_291 dX7_digest_203 ?_
    refine tg_lload_n X dX7_digest_206 rfl 0 rfl ?_
    refine tg_lmul X dX7_digest_207 ?_
    refine tg_aload_n X dX7_digest_208 rfl 1 rfl ?_
    obtain ⟨S20, r21, kS20, h⟩ := tg_bdE h
    refine tg_callV (As := []) (rest := [.long (31 * y19)]) X 0 (cm_X7_level _ _ _ _ _ kS20) yy_X7_level wv_X7_level ws_X7_level wm_X7_321 rfl cl_X7.1 ⟨rfl, rfl, Nat.le_of_ble_eq_true rfl, Nat.le_of_ble_eq_true rfl⟩ rfl rfl (Nat.le_of_ble_eq_true rfl) dX7_digest_209 rfl ?_
    refine tg_i2l X dX7_digest_212 ?_
    refine tg_ladd X dX7_digest_213 ?_
    refine tg_topl (fun y22 ey22 => ?_)
    have h := tg_nmE ey22 h
    refine tg_lstore_n (lv2 := [(1, .long y22), (0, .ref (tg_ad x 0)), (3, .int v3)]) X dX7_digest_214 rfl (by decide) rfl ?_
    refine tg_ldc2 X wk_X7_291 dX7_digest_215 ?_
    refine tg_lload_n X dX7_digest_218 rfl 0 rfl ?_
    refine tg_lmul X dX7_digest_219 ?_
    refine tg_aload_n X dX7_digest_220 rfl 1 rfl ?_
    refine tg_iconst X dX7_digest_221 tk_im1 ?_
    obtain ⟨S23, r24, kS23, h⟩ := tg_bdE h
    refine tg_callV (As := [.int (-1)]) (rest := [.long (31 * y22)]) X 0 (cm_X7_spare _ _ _ _ _ kS23) yy_X7_spare wv_X7_spare ws_X7_spare wm_X7_324 rfl cl_X7.1 ⟨rfl, rfl, Nat.le_of_ble_eq_true rfl, Nat.le_of_ble_eq_true rfl⟩ rfl rfl (Nat.le_of_ble_eq_true rfl) dX7_digest_222 rfl ?_
    refine tg_i2l X dX7_digest_225 ?_
    refine tg_ladd X dX7_digest_226 ?_
    refine tg_topl (fun y25 ey25 => ?_)
    have h := tg_nmE ey25 h
    refine tg_lstore_n (lv2 := [(1, .long y25), (0, .ref (tg_ad x 0)), (3, .int v3)]) X dX7_digest_227 rfl (by decide) rfl ?_
    refine tg_ldc2 X wk_X7_291 dX7_digest_228 ?_
    refine tg_lload_n X dX7_digest_231 rfl 0 rfl ?_
    refine tg_lmul X dX7_digest_232 ?_
    refine tg_aload_n X dX7_digest_233 rfl 1 rfl ?_
    refine tg_iconst X dX7_digest_234 tk_i0 ?_
    obtain ⟨S26, r27, kS26, h⟩ := tg_bdE h
    refine tg_callV (As := [.int 0]) (rest := [.long (31 * y25)]) X 0 (cm_X7_spare _ _ _ _ _ kS26) yy_X7_spare wv_X7_spare ws_X7_spare wm_X7_324 rfl cl_X7.1 ⟨rfl, rfl, Nat.le_of_ble_eq_true rfl, Nat.le_of_ble_eq_true rfl⟩ rfl rfl (Nat.le_of_ble_eq_true rfl) dX7_digest_235 rfl ?_
    refine tg_i2l X dX7_digest_238 ?_
    refine tg_ladd X dX7_digest_239 ?_
    refine tg_topl (fun y28 ey28 => ?_)
    have h := tg_nmE ey28 h
    refine tg_lstore_n (lv2 := [(1, .long y28), (0, .ref (tg_ad x 0)), (3, .int v3)]) X dX7_digest_240 rfl (by decide) rfl ?_
    refine tg_ldc2 X wk_X7_291 dX7_digest_241 ?_
    refine tg_lload_n X dX7_digest_244 rfl 0 rfl ?_
    refine tg_lmul X dX7_digest_245 ?_
    refine tg_aload_n X dX7_digest_246 rfl 1 rfl ?_
    obtain ⟨S29, r30, kS29, h⟩ := tg_bdE h
    refine tg_callV (As := []) (rest := [.long (31 * y28)]) X 0 (cm_X7_never _ _ _ _ _ kS29) yy_X7_never wv_X7_never ws_X7_never wm_X7_327 rfl cl_X7.1 ⟨rfl, rfl, Nat.le_of_ble_eq_true rfl, Nat.le_of_ble_eq_true rfl⟩ rfl rfl (Nat.le_of_ble_eq_true rfl) dX7_digest_247 rfl ?_
    refine tg_i2l X dX7_digest_250 ?_
    refine tg_ladd X dX7_digest_251 ?_
    refine tg_topl (fun y31 ey31 => ?_)
    have h := tg_nmE ey31 h
    refine tg_lstore_n (lv2 := [(1, .long y31), (0, .ref (tg_ad x 0)), (3, .int v3)]) X dX7_digest_252 rfl (by decide) rfl ?_
    refine tg_ldc2 X wk_X7_291 dX7_digest_253 ?_
    refine tg_lload_n X dX7_digest_256 rfl 0 rfl ?_
    refine tg_lmul X dX7_digest_257 ?_
    refine tg_aload_n X dX7_digest_258 rfl 1 rfl ?_
    refine tg_bipush X dX7_digest_259 tk_b7 ?_
    refine tg_bipush X dX7_digest_261 tk_b18 ?_
    refine tg_iconst X dX7_digest_263 tk_i0 ?_
    obtain ⟨S32, r33, kS32, h⟩ := tg_bdE h
    refine tg_callV (As := [.int 7, .int 18, .int 0]) (rest := [.long (31 * y31)]) X 0 (cm_X7_years _ _ _ _ _ kS32) yy_X7_years wv_X7_years ws_X7_years wm_X7_330 rfl cl_X7.1 ⟨rfl, rfl, Nat.le_of_ble_eq_true rfl, Nat.le_of_ble_eq_true rfl⟩ rfl rfl (Nat.le_of_ble_eq_true rfl) dX7_digest_264 rfl ?_
    refine tg_i2l X dX7_digest_267 ?_
    refine tg_ladd X dX7_digest_268 ?_
    refine tg_topl (fun y34 ey34 => ?_)
    have h := tg_nmE ey34 h
    refine tg_lstore_n (lv2 := [(1, .long y34), (0, .ref (tg_ad x 0)), (3, .int v3)]) X dX7_digest_269 rfl (by decide) rfl ?_
    refine tg_ldc2 X wk_X7_291 dX7_digest_270 ?_
    refine tg_lload_n X dX7_digest_273 rfl 0 rfl ?_
    refine tg_lmul X dX7_digest_274 ?_
    refine tg_aload_n X dX7_digest_275 rfl 1 rfl ?_
    refine tg_bipush X dX7_digest_276 tk_b7 ?_
    refine tg_bipush X dX7_digest_278 tk_b18 ?_
    refine tg_iconst X dX7_digest_280 tk_i1 ?_
    obtain ⟨S35, r36, kS35, h⟩ := tg_bdE h
    refine tg_callV (As := [.int 7, .int 18, .int 1]) (rest := [.long (31 * y34)]) X 0 (cm_X7_years _ _ _ _ _ kS35) yy_X7_years wv_X7_years ws_X7_years wm_X7_330 rfl cl_X7.1 ⟨rfl, rfl, Nat.le_of_ble_eq_true rfl, Nat.le_of_ble_eq_true rfl⟩ rfl rfl (Nat.le_of_ble_eq_true rfl) dX7_digest_281 rfl ?_
    refine tg_i2l X dX7_digest_284 ?_
    refine tg_ladd X dX7_digest_285 ?_
    exact tg_lret X h rfl dX7_digest_286
  · have h := tg_ifF c1 h
    refine tg_aload_n X dX7_digest_114 rfl 0 rfl ?_
    refine tg_lload_n X dX7_digest_115 rfl 1 rfl ?_
    refine tg_iload_n X dX7_digest_116 rfl 2 rfl ?_
    obtain ⟨S37, r38, kS37, h⟩ := tg_bdE h
    refine tg_callV (As := [.long v1, .int v3]) (rest := []) X 0 (cm_X7_withTeam _ _ _ _ _ kS37) yy_X7_withTeam wv_X7_withTeam ws_X7_withTeam wm_X7_306 rfl cl_X7.1 ⟨rfl, rfl, Nat.le_of_ble_eq_true rfl, Nat.le_of_ble_eq_true rfl⟩ rfl rfl (Nat.le_of_ble_eq_true rfl) dX7_digest_117 rfl ?_
    refine tg_lstore_n (lv2 := [(1, .long r38), (0, .ref (tg_ad x 0)), (3, .int v3)]) X dX7_digest_120 rfl (by decide) rfl ?_
    obtain ⟨y39, ey39⟩ : ∃ z : Int32, z = v3 + 1 := ⟨_, rfl⟩
    have h := tg_nmE ey39 h
    refine tg_iinc (lv2 := [(3, .int y39), (1, .long r38), (0, .ref (tg_ad x 0))]) X dX7_digest_121 2 rfl tk_i1 ey39 (by decide) rfl ?_
    refine tg_goto (tgt := 109) X dX7_digest_124 (by decide) ?_
    refine tg_re [2, 1, 0] rfl ?_
    exact hr109 S37 r38 y39 h
theorem wl_X7_digest_109 {x : tg_X} {Sf : tg_S} {r : Int64} (X : tg_M tauC x cX7_digest 4 RX7 zr_X7_digest (some .long) Sf (some (.long r))) : ∀ (n : Nat) (S : tg_S) (v1 : Int64) (v3 : Int32) (h : L_X7_digest_109  n S v1 v3 = some (Sf, r)), tg_G tauC x S 109 [(0, .ref (tg_ad x 0)), (1, .long v1), (3, .int v3)] [] := by
  intro n
  induction n with
  | zero => intro S v1 v3 h; cases h
  | succ n ih => intro S v1 v3 h; exact w_X7_digest_109 X  ih S v1 v3 h
set_option maxRecDepth 20000 in
set_option maxHeartbeats 4000000 in
theorem w_X7_digest_101 {x : tg_X} {Sf : tg_S} {r : Int64} {rec80 : tg_S → Int64 → Int32 → Option (tg_S × Int64)} (X : tg_M tauC x cX7_digest 4 RX7 zr_X7_digest (some .long) Sf (some (.long r))) (hr80 : ∀ (S : tg_S) (v1 : Int64) (v3 : Int32), rec80 S v1 v3 = some (Sf, r) → tg_G tauC x S 80 [(0, .ref (tg_ad x 0)), (1, .long v1), (3, .int v3)] []) (S : tg_S) (v1 : Int64) (v3 : Int32) (h : f_X7_digest_101 rec80 S v1 v3 = some (Sf, r)) : tg_G tauC x S 101 [(0, .ref (tg_ad x 0)), (1, .long v1), (3, .int v3)] [] := by
  unfold f_X7_digest_101 at h
  obtain ⟨y1, ey1⟩ : ∃ z : Int32, z = v3 + 1 := ⟨_, rfl⟩
  have h := tg_nmE ey1 h
  refine tg_iinc (lv2 := [(3, .int y1), (0, .ref (tg_ad x 0)), (1, .long v1)]) X dX7_digest_101 2 rfl tk_i1 ey1 (by decide) rfl ?_
  refine tg_goto (tgt := 80) X dX7_digest_104 (by decide) ?_
  refine tg_re [1, 2, 0] rfl ?_
  exact hr80 S v1 y1 h
set_option maxRecDepth 20000 in
set_option maxHeartbeats 4000000 in
theorem w_X7_digest_80 {x : tg_X} {Sf : tg_S} {r : Int64} {rec80 : tg_S → Int64 → Int32 → Option (tg_S × Int64)} (X : tg_M tauC x cX7_digest 4 RX7 zr_X7_digest (some .long) Sf (some (.long r))) (hr80 : ∀ (S : tg_S) (v1 : Int64) (v3 : Int32), rec80 S v1 v3 = some (Sf, r) → tg_G tauC x S 80 [(0, .ref (tg_ad x 0)), (1, .long v1), (3, .int v3)] []) (S : tg_S) (v1 : Int64) (v3 : Int32) (h : f_X7_digest_80 rec80 S v1 v3 = some (Sf, r)) : tg_G tauC x S 80 [(0, .ref (tg_ad x 0)), (1, .long v1), (3, .int v3)] [] := by
  unfold f_X7_digest_80 at h
  refine tg_iload_n X dX7_digest_80 rfl 2 rfl ?_
  refine tg_bipush X dX7_digest_81 tk_b16 ?_
  refine tg_icmp_ge (tgt := 107) X dX7_digest_83 (by decide) (fun c1 => ?_) (fun c1 => ?_)
  · have h := tg_ifT c1 h
    refine tg_iconst X dX7_digest_107 tk_i0 ?_
    refine tg_istore_n (lv2 := [(3, .int 0), (0, .ref (tg_ad x 0)), (1, .long v1)]) X dX7_digest_108 rfl (by decide) rfl ?_
    refine tg_re [1, 2, 0] rfl ?_
    exact wl_X7_digest_109 X  tg_F S v1 0 h
  · have h := tg_ifF c1 h
    refine tg_aload_n X dX7_digest_86 rfl 0 rfl ?_
    refine tg_iload_n X dX7_digest_87 rfl 2 rfl ?_
    obtain ⟨S2, r3, kS2, h⟩ := tg_bdE h
    refine tg_callV (As := [.int v3]) (rest := []) X 0 (cm_X7_isPuller _ _ _ _ _ kS2) yy_X7_isPuller wv_X7_isPuller ws_X7_isPuller wm_X7_100 rfl cl_X7.1 ⟨rfl, rfl, Nat.le_of_ble_eq_true rfl, Nat.le_of_ble_eq_true rfl⟩ rfl rfl (Nat.le_of_ble_eq_true rfl) dX7_digest_88 rfl ?_
    refine tg_if_eq (tgt := 101) X dX7_digest_91 (by decide) (fun c4 => ?_) (fun c4 => ?_)
    · have h := tg_ifT c4 h
      exact w_X7_digest_101 X hr80 S2 v1 v3 h
    · have h := tg_ifF c4 h
      refine tg_aload_n X dX7_digest_94 rfl 0 rfl ?_
      refine tg_lload_n X dX7_digest_95 rfl 1 rfl ?_
      refine tg_iload_n X dX7_digest_96 rfl 2 rfl ?_
      obtain ⟨S5, r6, kS5, h⟩ := tg_bdE h
      refine tg_callV (As := [.long v1, .int v3]) (rest := []) X 0 (cm_X7_withPuller _ _ _ _ _ kS5) yy_X7_withPuller wv_X7_withPuller ws_X7_withPuller wm_X7_303 rfl cl_X7.1 ⟨rfl, rfl, Nat.le_of_ble_eq_true rfl, Nat.le_of_ble_eq_true rfl⟩ rfl rfl (Nat.le_of_ble_eq_true rfl) dX7_digest_97 rfl ?_
      refine tg_lstore_n (lv2 := [(1, .long r6), (0, .ref (tg_ad x 0)), (3, .int v3)]) X dX7_digest_100 rfl (by decide) rfl ?_
      refine tg_re [1, 0, 2] rfl ?_
      exact w_X7_digest_101 X hr80 S5 r6 v3 h
theorem wl_X7_digest_80 {x : tg_X} {Sf : tg_S} {r : Int64} (X : tg_M tauC x cX7_digest 4 RX7 zr_X7_digest (some .long) Sf (some (.long r))) : ∀ (n : Nat) (S : tg_S) (v1 : Int64) (v3 : Int32) (h : L_X7_digest_80  n S v1 v3 = some (Sf, r)), tg_G tauC x S 80 [(0, .ref (tg_ad x 0)), (1, .long v1), (3, .int v3)] [] := by
  intro n
  induction n with
  | zero => intro S v1 v3 h; cases h
  | succ n ih => intro S v1 v3 h; exact w_X7_digest_80 X  ih S v1 v3 h
set_option maxRecDepth 20000 in
set_option maxHeartbeats 4000000 in
theorem w_X7_digest_59 {x : tg_X} {Sf : tg_S} {r : Int64} {rec59 : tg_S → Int64 → Int32 → Option (tg_S × Int64)} (X : tg_M tauC x cX7_digest 4 RX7 zr_X7_digest (some .long) Sf (some (.long r))) (hr59 : ∀ (S : tg_S) (v1 : Int64) (v3 : Int32), rec59 S v1 v3 = some (Sf, r) → tg_G tauC x S 59 [(0, .ref (tg_ad x 0)), (1, .long v1), (3, .int v3)] []) (S : tg_S) (v1 : Int64) (v3 : Int32) (h : f_X7_digest_59 rec59 S v1 v3 = some (Sf, r)) : tg_G tauC x S 59 [(0, .ref (tg_ad x 0)), (1, .long v1), (3, .int v3)] [] := by
  unfold f_X7_digest_59 at h
  refine tg_iload_n X dX7_digest_59 rfl 2 rfl ?_
  refine tg_bipush X dX7_digest_60 tk_b24 ?_
  refine tg_icmp_ge (tgt := 78) X dX7_digest_62 (by decide) (fun c1 => ?_) (fun c1 => ?_)
  · have h := tg_ifT c1 h
    refine tg_iconst X dX7_digest_78 tk_i0 ?_
    refine tg_istore_n (lv2 := [(3, .int 0), (0, .ref (tg_ad x 0)), (1, .long v1)]) X dX7_digest_79 rfl (by decide) rfl ?_
    refine tg_re [1, 2, 0] rfl ?_
    exact wl_X7_digest_80 X  tg_F S v1 0 h
  · have h := tg_ifF c1 h
    refine tg_aload_n X dX7_digest_65 rfl 0 rfl ?_
    refine tg_lload_n X dX7_digest_66 rfl 1 rfl ?_
    refine tg_iload_n X dX7_digest_67 rfl 2 rfl ?_
    obtain ⟨S2, r3, kS2, h⟩ := tg_bdE h
    refine tg_callV (As := [.long v1, .int v3]) (rest := []) X 0 (cm_X7_withBeat _ _ _ _ _ kS2) yy_X7_withBeat wv_X7_withBeat ws_X7_withBeat wm_X7_299 rfl cl_X7.1 ⟨rfl, rfl, Nat.le_of_ble_eq_true rfl, Nat.le_of_ble_eq_true rfl⟩ rfl rfl (Nat.le_of_ble_eq_true rfl) dX7_digest_68 rfl ?_
    refine tg_lstore_n (lv2 := [(1, .long r3), (0, .ref (tg_ad x 0)), (3, .int v3)]) X dX7_digest_71 rfl (by decide) rfl ?_
    obtain ⟨y4, ey4⟩ : ∃ z : Int32, z = v3 + 1 := ⟨_, rfl⟩
    have h := tg_nmE ey4 h
    refine tg_iinc (lv2 := [(3, .int y4), (1, .long r3), (0, .ref (tg_ad x 0))]) X dX7_digest_72 2 rfl tk_i1 ey4 (by decide) rfl ?_
    refine tg_goto (tgt := 59) X dX7_digest_75 (by decide) ?_
    refine tg_re [2, 1, 0] rfl ?_
    exact hr59 S2 r3 y4 h
theorem wl_X7_digest_59 {x : tg_X} {Sf : tg_S} {r : Int64} (X : tg_M tauC x cX7_digest 4 RX7 zr_X7_digest (some .long) Sf (some (.long r))) : ∀ (n : Nat) (S : tg_S) (v1 : Int64) (v3 : Int32) (h : L_X7_digest_59  n S v1 v3 = some (Sf, r)), tg_G tauC x S 59 [(0, .ref (tg_ad x 0)), (1, .long v1), (3, .int v3)] [] := by
  intro n
  induction n with
  | zero => intro S v1 v3 h; cases h
  | succ n ih => intro S v1 v3 h; exact w_X7_digest_59 X  ih S v1 v3 h
set_option maxRecDepth 20000 in
set_option maxHeartbeats 4000000 in
theorem w_X7_digest_33 {x : tg_X} {Sf : tg_S} {r : Int64} {rec33 : tg_S → Int64 → Int32 → Option (tg_S × Int64)} (X : tg_M tauC x cX7_digest 4 RX7 zr_X7_digest (some .long) Sf (some (.long r))) (hr33 : ∀ (S : tg_S) (v1 : Int64) (v3 : Int32), rec33 S v1 v3 = some (Sf, r) → tg_G tauC x S 33 [(0, .ref (tg_ad x 0)), (1, .long v1), (3, .int v3)] []) (S : tg_S) (v1 : Int64) (v3 : Int32) (h : f_X7_digest_33 rec33 S v1 v3 = some (Sf, r)) : tg_G tauC x S 33 [(0, .ref (tg_ad x 0)), (1, .long v1), (3, .int v3)] [] := by
  unfold f_X7_digest_33 at h
  refine tg_iload_n X dX7_digest_33 rfl 2 rfl ?_
  refine tg_iconst X dX7_digest_34 tk_i4 ?_
  refine tg_icmp_ge (tgt := 57) X dX7_digest_35 (by decide) (fun c1 => ?_) (fun c1 => ?_)
  · have h := tg_ifT c1 h
    refine tg_iconst X dX7_digest_57 tk_i0 ?_
    refine tg_istore_n (lv2 := [(3, .int 0), (0, .ref (tg_ad x 0)), (1, .long v1)]) X dX7_digest_58 rfl (by decide) rfl ?_
    refine tg_re [1, 2, 0] rfl ?_
    exact wl_X7_digest_59 X  tg_F S v1 0 h
  · have h := tg_ifF c1 h
    refine tg_ldc2 X wk_X7_291 dX7_digest_38 ?_
    refine tg_lload_n X dX7_digest_41 rfl 1 rfl ?_
    refine tg_lmul X dX7_digest_42 ?_
    refine tg_aload_n X dX7_digest_43 rfl 0 rfl ?_
    refine tg_iload_n X dX7_digest_44 rfl 2 rfl ?_
    obtain ⟨S2, r3, kS2, h⟩ := tg_bdE h
    refine tg_callV (As := [.int v3]) (rest := [.long (31 * v1)]) X 0 (cm_X7_fault _ _ _ _ _ kS2) yy_X7_fault wv_X7_fault ws_X7_fault wm_X7_296 rfl cl_X7.1 ⟨rfl, rfl, Nat.le_of_ble_eq_true rfl, Nat.le_of_ble_eq_true rfl⟩ rfl rfl (Nat.le_of_ble_eq_true rfl) dX7_digest_45 rfl ?_
    refine tg_i2l X dX7_digest_48 ?_
    refine tg_ladd X dX7_digest_49 ?_
    refine tg_topl (fun y4 ey4 => ?_)
    have h := tg_nmE ey4 h
    refine tg_lstore_n (lv2 := [(1, .long y4), (0, .ref (tg_ad x 0)), (3, .int v3)]) X dX7_digest_50 rfl (by decide) rfl ?_
    obtain ⟨y5, ey5⟩ : ∃ z : Int32, z = v3 + 1 := ⟨_, rfl⟩
    have h := tg_nmE ey5 h
    refine tg_iinc (lv2 := [(3, .int y5), (1, .long y4), (0, .ref (tg_ad x 0))]) X dX7_digest_51 2 rfl tk_i1 ey5 (by decide) rfl ?_
    refine tg_goto (tgt := 33) X dX7_digest_54 (by decide) ?_
    refine tg_re [2, 1, 0] rfl ?_
    exact hr33 S2 y4 y5 h
theorem wl_X7_digest_33 {x : tg_X} {Sf : tg_S} {r : Int64} (X : tg_M tauC x cX7_digest 4 RX7 zr_X7_digest (some .long) Sf (some (.long r))) : ∀ (n : Nat) (S : tg_S) (v1 : Int64) (v3 : Int32) (h : L_X7_digest_33  n S v1 v3 = some (Sf, r)), tg_G tauC x S 33 [(0, .ref (tg_ad x 0)), (1, .long v1), (3, .int v3)] [] := by
  intro n
  induction n with
  | zero => intro S v1 v3 h; cases h
  | succ n ih => intro S v1 v3 h; exact w_X7_digest_33 X  ih S v1 v3 h
set_option maxRecDepth 20000 in
set_option maxHeartbeats 4000000 in
theorem w_X7_digest_6 {x : tg_X} {Sf : tg_S} {r : Int64} {rec6 : tg_S → Int64 → Int32 → Option (tg_S × Int64)} (X : tg_M tauC x cX7_digest 4 RX7 zr_X7_digest (some .long) Sf (some (.long r))) (hr6 : ∀ (S : tg_S) (v1 : Int64) (v3 : Int32), rec6 S v1 v3 = some (Sf, r) → tg_G tauC x S 6 [(0, .ref (tg_ad x 0)), (1, .long v1), (3, .int v3)] []) (S : tg_S) (v1 : Int64) (v3 : Int32) (h : f_X7_digest_6 rec6 S v1 v3 = some (Sf, r)) : tg_G tauC x S 6 [(0, .ref (tg_ad x 0)), (1, .long v1), (3, .int v3)] [] := by
  unfold f_X7_digest_6 at h
  refine tg_iload_n X dX7_digest_6 rfl 2 rfl ?_
  refine tg_bipush X dX7_digest_7 tk_b8 ?_
  refine tg_icmp_ge (tgt := 31) X dX7_digest_9 (by decide) (fun c1 => ?_) (fun c1 => ?_)
  · have h := tg_ifT c1 h
    refine tg_iconst X dX7_digest_31 tk_i0 ?_
    refine tg_istore_n (lv2 := [(3, .int 0), (0, .ref (tg_ad x 0)), (1, .long v1)]) X dX7_digest_32 rfl (by decide) rfl ?_
    refine tg_re [1, 2, 0] rfl ?_
    exact wl_X7_digest_33 X  tg_F S v1 0 h
  · have h := tg_ifF c1 h
    refine tg_ldc2 X wk_X7_291 dX7_digest_12 ?_
    refine tg_lload_n X dX7_digest_15 rfl 1 rfl ?_
    refine tg_lmul X dX7_digest_16 ?_
    refine tg_aload_n X dX7_digest_17 rfl 0 rfl ?_
    refine tg_iload_n X dX7_digest_18 rfl 2 rfl ?_
    obtain ⟨S2, r3, kS2, h⟩ := tg_bdE h
    refine tg_callV (As := [.int v3]) (rest := [.long (31 * v1)]) X 0 (cm_X7_count _ _ _ _ _ kS2) yy_X7_count wv_X7_count ws_X7_count wm_X7_293 rfl cl_X7.1 ⟨rfl, rfl, Nat.le_of_ble_eq_true rfl, Nat.le_of_ble_eq_true rfl⟩ rfl rfl (Nat.le_of_ble_eq_true rfl) dX7_digest_19 rfl ?_
    refine tg_i2l X dX7_digest_22 ?_
    refine tg_ladd X dX7_digest_23 ?_
    refine tg_topl (fun y4 ey4 => ?_)
    have h := tg_nmE ey4 h
    refine tg_lstore_n (lv2 := [(1, .long y4), (0, .ref (tg_ad x 0)), (3, .int v3)]) X dX7_digest_24 rfl (by decide) rfl ?_
    obtain ⟨y5, ey5⟩ : ∃ z : Int32, z = v3 + 1 := ⟨_, rfl⟩
    have h := tg_nmE ey5 h
    refine tg_iinc (lv2 := [(3, .int y5), (1, .long y4), (0, .ref (tg_ad x 0))]) X dX7_digest_25 2 rfl tk_i1 ey5 (by decide) rfl ?_
    refine tg_goto (tgt := 6) X dX7_digest_28 (by decide) ?_
    refine tg_re [2, 1, 0] rfl ?_
    exact hr6 S2 y4 y5 h
theorem wl_X7_digest_6 {x : tg_X} {Sf : tg_S} {r : Int64} (X : tg_M tauC x cX7_digest 4 RX7 zr_X7_digest (some .long) Sf (some (.long r))) : ∀ (n : Nat) (S : tg_S) (v1 : Int64) (v3 : Int32) (h : L_X7_digest_6  n S v1 v3 = some (Sf, r)), tg_G tauC x S 6 [(0, .ref (tg_ad x 0)), (1, .long v1), (3, .int v3)] [] := by
  intro n
  induction n with
  | zero => intro S v1 v3 h; cases h
  | succ n ih => intro S v1 v3 h; exact w_X7_digest_6 X  ih S v1 v3 h
set_option maxRecDepth 20000 in
set_option maxHeartbeats 4000000 in
theorem w_X7_digest_0 {x : tg_X} {Sf : tg_S} {r : Int64} (X : tg_M tauC x cX7_digest 4 RX7 zr_X7_digest (some .long) Sf (some (.long r))) (S : tg_S) (h : f_X7_digest  S  = some (Sf, r)) : tg_G tauC x S 0 [(0, .ref (tg_ad x 0))] [] := by
  unfold f_X7_digest at h
  refine tg_ldc2 X wk_X7_289 dX7_digest_0 ?_
  refine tg_lstore_n (lv2 := [(1, .long 17), (0, .ref (tg_ad x 0))]) X dX7_digest_3 rfl (by decide) rfl ?_
  refine tg_iconst X dX7_digest_4 tk_i0 ?_
  refine tg_istore_n (lv2 := [(3, .int 0), (1, .long 17), (0, .ref (tg_ad x 0))]) X dX7_digest_5 rfl (by decide) rfl ?_
  refine tg_re [2, 1, 0] rfl ?_
  exact wl_X7_digest_6 X  tg_F S 17 0 h
theorem cm_X7_digest (l : Launch) (D : va_G) (cy : Bool → ClassId) (ad : Nat → Nat) (tS : Nat) {S Sf : tg_S} {r : Int64} (h : f_X7_digest  S  = some (Sf, r)) : tg_Met l yX7_digest cX7_digest 4 (some .long) zr_X7_digest tauC D cy ad tS S [.ref (ad 0)] Sf (some (.long r)) := tg_mk (by decide +kernel) trivial (Nat.le_of_ble_eq_true rfl) (fun p e s m args below meth c Q A X => w_X7_digest_0 X S  h)
-- X8_in
def zr_X8_in : Room := { frames := 0, cells := 0, slots := 0, locals := 0 }
theorem dX8_in_0 : decode cX8_in 0 = .ok (.iload_n 0, 1) := by decide +kernel
theorem dX8_in_1 : decode cX8_in 1 = .ok (.iload_n 1, 1) := by decide +kernel
theorem dX8_in_2 : decode cX8_in 2 = .ok (.if_icmp .lt 12, 3) := by decide +kernel
theorem dX8_in_5 : decode cX8_in 5 = .ok (.iload_n 0, 1) := by decide +kernel
theorem dX8_in_6 : decode cX8_in 6 = .ok (.iload_n 2, 1) := by decide +kernel
theorem dX8_in_7 : decode cX8_in 7 = .ok (.if_icmp .gt 7, 3) := by decide +kernel
theorem dX8_in_10 : decode cX8_in 10 = .ok (.iconst 1, 1) := by decide +kernel
theorem dX8_in_11 : decode cX8_in 11 = .ok (.goto 4, 3) := by decide +kernel
theorem dX8_in_14 : decode cX8_in 14 = .ok (.iconst 0, 1) := by decide +kernel
theorem dX8_in_15 : decode cX8_in 15 = .ok (.ireturn, 1) := by decide +kernel
set_option maxRecDepth 20000 in
set_option maxHeartbeats 4000000 in
theorem w_X8_in_0 {x : tg_X} {Sf : tg_S} {r : Int32} (X : tg_M tauR x cX8_in 3 RX8 zr_X8_in (some .boolean) Sf (some (.int r))) (S : tg_S) (v0 : Int32) (v1 : Int32) (v2 : Int32) (h : f_X8_in  S v0 v1 v2 = some (Sf, r)) : tg_G tauR x S 0 [(0, .int v0), (1, .int v1), (2, .int v2)] [] := by
  unfold f_X8_in at h
  refine tg_iload_n X dX8_in_0 rfl 0 rfl ?_
  refine tg_iload_n X dX8_in_1 rfl 1 rfl ?_
  refine tg_icmp_lt (tgt := 14) X dX8_in_2 (by decide) (fun c1 => ?_) (fun c1 => ?_)
  · have h := tg_ifT c1 h
    refine tg_iconst X dX8_in_14 tk_i0 ?_
    exact tg_iret X h rfl dX8_in_15
  · have h := tg_ifF c1 h
    refine tg_iload_n X dX8_in_5 rfl 0 rfl ?_
    refine tg_iload_n X dX8_in_6 rfl 2 rfl ?_
    refine tg_icmp_gt (tgt := 14) X dX8_in_7 (by decide) (fun c2 => ?_) (fun c2 => ?_)
    · have h := tg_ifT c2 h
      refine tg_iconst X dX8_in_14 tk_i0 ?_
      exact tg_iret X h rfl dX8_in_15
    · have h := tg_ifF c2 h
      refine tg_iconst X dX8_in_10 tk_i1 ?_
      refine tg_goto (tgt := 15) X dX8_in_11 (by decide) ?_
      exact tg_iret X h rfl dX8_in_15
theorem cm_X8_in (l : Launch) (D : va_G) (cy : Bool → ClassId) (ad : Nat → Nat) (tS : Nat) {S Sf : tg_S} {v0 : Int32} {v1 : Int32} {v2 : Int32} {r : Int32} (h : f_X8_in  S v0 v1 v2 = some (Sf, r)) : tg_Met l yX8_in cX8_in 3 (some .boolean) zr_X8_in tauR D cy ad tS S [.int v0, .int v1, .int v2] Sf (some (.int r)) := tg_mk (by decide +kernel) trivial (Nat.le_of_ble_eq_true rfl) (fun p e s m args below meth c Q A X => w_X8_in_0 X S v0 v1 v2 h)
-- X8_isIn
def zr_X8_isIn : Room := { frames := 0, cells := 0, slots := 0, locals := 0 }
theorem dX8_isIn_0 : decode cX8_isIn 0 = .ok (.iload_n 0, 1) := by decide +kernel
theorem dX8_isIn_1 : decode cX8_isIn 1 = .ok (.iload_n 1, 1) := by decide +kernel
theorem dX8_isIn_2 : decode cX8_isIn 2 = .ok (.ishr, 1) := by decide +kernel
theorem dX8_isIn_3 : decode cX8_isIn 3 = .ok (.iconst 1, 1) := by decide +kernel
theorem dX8_isIn_4 : decode cX8_isIn 4 = .ok (.iand, 1) := by decide +kernel
theorem dX8_isIn_5 : decode cX8_isIn 5 = .ok (.iconst 1, 1) := by decide +kernel
theorem dX8_isIn_6 : decode cX8_isIn 6 = .ok (.if_icmp .ne 7, 3) := by decide +kernel
theorem dX8_isIn_9 : decode cX8_isIn 9 = .ok (.iconst 1, 1) := by decide +kernel
theorem dX8_isIn_10 : decode cX8_isIn 10 = .ok (.goto 4, 3) := by decide +kernel
theorem dX8_isIn_13 : decode cX8_isIn 13 = .ok (.iconst 0, 1) := by decide +kernel
theorem dX8_isIn_14 : decode cX8_isIn 14 = .ok (.ireturn, 1) := by decide +kernel
set_option maxRecDepth 20000 in
set_option maxHeartbeats 4000000 in
theorem w_X8_isIn_0 {x : tg_X} {Sf : tg_S} {r : Int32} (X : tg_M tauR x cX8_isIn 2 RX8 zr_X8_isIn (some .boolean) Sf (some (.int r))) (S : tg_S) (v0 : Int32) (v1 : Int32) (h : f_X8_isIn  S v0 v1 = some (Sf, r)) : tg_G tauR x S 0 [(0, .int v0), (1, .int v1)] [] := by
  unfold f_X8_isIn at h
  refine tg_iload_n X dX8_isIn_0 rfl 0 rfl ?_
  refine tg_iload_n X dX8_isIn_1 rfl 1 rfl ?_
  refine tg_ishr X dX8_isIn_2 ?_
  refine tg_iconst X dX8_isIn_3 tk_i1 ?_
  refine tg_iand X dX8_isIn_4 ?_
  refine tg_iconst X dX8_isIn_5 tk_i1 ?_
  refine tg_icmp_ne (tgt := 13) X dX8_isIn_6 (by decide) (fun c1 => ?_) (fun c1 => ?_)
  · have h := tg_ifF c1 h
    refine tg_iconst X dX8_isIn_13 tk_i0 ?_
    exact tg_iret X h rfl dX8_isIn_14
  · have h := tg_ifT c1 h
    refine tg_iconst X dX8_isIn_9 tk_i1 ?_
    refine tg_goto (tgt := 14) X dX8_isIn_10 (by decide) ?_
    exact tg_iret X h rfl dX8_isIn_14
theorem cm_X8_isIn (l : Launch) (D : va_G) (cy : Bool → ClassId) (ad : Nat → Nat) (tS : Nat) {S Sf : tg_S} {v0 : Int32} {v1 : Int32} {r : Int32} (h : f_X8_isIn  S v0 v1 = some (Sf, r)) : tg_Met l yX8_isIn cX8_isIn 2 (some .boolean) zr_X8_isIn tauR D cy ad tS S [.int v0, .int v1] Sf (some (.int r)) := tg_mk (by decide +kernel) trivial (Nat.le_of_ble_eq_true rfl) (fun p e s m args below meth c Q A X => w_X8_isIn_0 X S v0 v1 h)
