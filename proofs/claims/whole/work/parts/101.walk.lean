-- X1_takeCalls
def zr_X1_takeCalls : Room := { frames := 3, cells := 0, slots := 0, locals := 67 }
theorem dX1_takeCalls_0 : decode cX1_takeCalls 0 = .ok (.iconst 2, 1) := by decide +kernel
theorem dX1_takeCalls_1 : decode cX1_takeCalls 1 = .ok (.iload_n 2, 1) := by decide +kernel
theorem dX1_takeCalls_2 : decode cX1_takeCalls 2 = .ok (.iadd, 1) := by decide +kernel
theorem dX1_takeCalls_3 : decode cX1_takeCalls 3 = .ok (.istore_n 3, 1) := by decide +kernel
theorem dX1_takeCalls_4 : decode cX1_takeCalls 4 = .ok (.aload_n 1, 1) := by decide +kernel
theorem dX1_takeCalls_5 : decode cX1_takeCalls 5 = .ok (.iload_n 3, 1) := by decide +kernel
theorem dX1_takeCalls_6 : decode cX1_takeCalls 6 = .ok (.invokevirtual 52, 3) := by decide +kernel
theorem dX1_takeCalls_9 : decode cX1_takeCalls 9 = .ok (.istore 4, 2) := by decide +kernel
theorem dX1_takeCalls_11 : decode cX1_takeCalls 11 = .ok (.iconst 0, 1) := by decide +kernel
theorem dX1_takeCalls_12 : decode cX1_takeCalls 12 = .ok (.istore 5, 2) := by decide +kernel
theorem dX1_takeCalls_14 : decode cX1_takeCalls 14 = .ok (.iload 5, 2) := by decide +kernel
theorem dX1_takeCalls_16 : decode cX1_takeCalls 16 = .ok (.bipush 24, 2) := by decide +kernel
theorem dX1_takeCalls_18 : decode cX1_takeCalls 18 = .ok (.if_icmp .ge 42, 3) := by decide +kernel
theorem dX1_takeCalls_21 : decode cX1_takeCalls 21 = .ok (.aload_n 0, 1) := by decide +kernel
theorem dX1_takeCalls_22 : decode cX1_takeCalls 22 = .ok (.getfield 31, 3) := by decide +kernel
theorem dX1_takeCalls_25 : decode cX1_takeCalls 25 = .ok (.iload_n 2, 1) := by decide +kernel
theorem dX1_takeCalls_26 : decode cX1_takeCalls 26 = .ok (.bipush 24, 2) := by decide +kernel
theorem dX1_takeCalls_28 : decode cX1_takeCalls 28 = .ok (.imul, 1) := by decide +kernel
theorem dX1_takeCalls_29 : decode cX1_takeCalls 29 = .ok (.iload 5, 2) := by decide +kernel
theorem dX1_takeCalls_31 : decode cX1_takeCalls 31 = .ok (.iadd, 1) := by decide +kernel
theorem dX1_takeCalls_32 : decode cX1_takeCalls 32 = .ok (.iload 5, 2) := by decide +kernel
theorem dX1_takeCalls_34 : decode cX1_takeCalls 34 = .ok (.iload 4, 2) := by decide +kernel
theorem dX1_takeCalls_36 : decode cX1_takeCalls 36 = .ok (.if_icmp .ge 16, 3) := by decide +kernel
theorem dX1_takeCalls_39 : decode cX1_takeCalls 39 = .ok (.aload_n 1, 1) := by decide +kernel
theorem dX1_takeCalls_40 : decode cX1_takeCalls 40 = .ok (.iload_n 3, 1) := by decide +kernel
theorem dX1_takeCalls_41 : decode cX1_takeCalls 41 = .ok (.iload 5, 2) := by decide +kernel
theorem dX1_takeCalls_43 : decode cX1_takeCalls 43 = .ok (.invokevirtual 58, 3) := by decide +kernel
theorem dX1_takeCalls_46 : decode cX1_takeCalls 46 = .ok (.invokestatic 65, 3) := by decide +kernel
theorem dX1_takeCalls_49 : decode cX1_takeCalls 49 = .ok (.goto 4, 3) := by decide +kernel
theorem dX1_takeCalls_52 : decode cX1_takeCalls 52 = .ok (.iconst 1, 1) := by decide +kernel
theorem dX1_takeCalls_53 : decode cX1_takeCalls 53 = .ok (.iastore, 1) := by decide +kernel
theorem dX1_takeCalls_54 : decode cX1_takeCalls 54 = .ok (.iinc 5 1, 3) := by decide +kernel
theorem dX1_takeCalls_57 : decode cX1_takeCalls 57 = .ok (.goto (-43), 3) := by decide +kernel
theorem dX1_takeCalls_60 : decode cX1_takeCalls 60 = .ok (.return_, 1) := by decide +kernel
set_option maxRecDepth 20000 in
set_option maxHeartbeats 4000000 in
theorem w_X1_takeCalls_53 {x : tg_X} {Sf : tg_S} {rec14 : tg_S → Int32 → Int32 → Int32 → Int32 → Option (tg_S)} (X : tg_M tauC x cX1_takeCalls 6 RX1 zr_X1_takeCalls none Sf none) (hr14 : ∀ (S : tg_S) (v2 : Int32) (v3 : Int32) (v4 : Int32) (v5 : Int32), rec14 S v2 v3 v4 v5 = some Sf → tg_G tauC x S 14 [(0, .ref (tg_ad x 11)), (1, .ref (tg_ad x 1)), (2, .int v2), (3, .int v3), (4, .int v4), (5, .int v5)] []) (S : tg_S) (v2 : Int32) (v3 : Int32) (v4 : Int32) (v5 : Int32) (s0 : Int32) (s1 : Int32) (h : f_X1_takeCalls_53 rec14 S v2 v3 v4 v5 s0 s1 = some Sf) : tg_G tauC x S 53 [(0, .ref (tg_ad x 11)), (1, .ref (tg_ad x 1)), (2, .int v2), (3, .int v3), (4, .int v4), (5, .int v5)] [.int s0, .int s1, .ref (tg_ad x 18)] := by
  unfold f_X1_takeCalls_53 at h
  obtain ⟨S1, eS1, bS1, h⟩ := tg_wrE h
  refine tg_iast X 18 rfl bS1 dX1_takeCalls_53 eS1 ?_
  obtain ⟨y2, ey2⟩ : ∃ z : Int32, z = v5 + 1 := ⟨_, rfl⟩
  have h := tg_nmE ey2 h
  refine tg_iinc (lv2 := [(5, .int y2), (0, .ref (tg_ad x 11)), (1, .ref (tg_ad x 1)), (2, .int v2), (3, .int v3), (4, .int v4)]) X dX1_takeCalls_54 5 rfl tk_i1 ey2 (by decide) rfl ?_
  refine tg_goto (tgt := 14) X dX1_takeCalls_57 (by decide) ?_
  refine tg_re [1, 2, 3, 4, 5, 0] rfl ?_
  exact hr14 S1 v2 v3 v4 y2 h
set_option maxRecDepth 20000 in
set_option maxHeartbeats 4000000 in
theorem w_X1_takeCalls_14 {x : tg_X} {Sf : tg_S} {rec14 : tg_S → Int32 → Int32 → Int32 → Int32 → Option (tg_S)} (X : tg_M tauC x cX1_takeCalls 6 RX1 zr_X1_takeCalls none Sf none) (hr14 : ∀ (S : tg_S) (v2 : Int32) (v3 : Int32) (v4 : Int32) (v5 : Int32), rec14 S v2 v3 v4 v5 = some Sf → tg_G tauC x S 14 [(0, .ref (tg_ad x 11)), (1, .ref (tg_ad x 1)), (2, .int v2), (3, .int v3), (4, .int v4), (5, .int v5)] []) (S : tg_S) (v2 : Int32) (v3 : Int32) (v4 : Int32) (v5 : Int32) (h : f_X1_takeCalls_14 rec14 S v2 v3 v4 v5 = some Sf) : tg_G tauC x S 14 [(0, .ref (tg_ad x 11)), (1, .ref (tg_ad x 1)), (2, .int v2), (3, .int v3), (4, .int v4), (5, .int v5)] [] := by
  unfold f_X1_takeCalls_14 at h
  refine tg_iload X dX1_takeCalls_14 5 rfl ?_
  refine tg_bipush X dX1_takeCalls_16 tk_b24 ?_
  refine tg_icmp_ge (tgt := 60) X dX1_takeCalls_18 (by decide) (fun c1 => ?_) (fun c1 => ?_)
  · have h := tg_ifT c1 h
    exact tg_vret X h dX1_takeCalls_60
  · have h := tg_ifF c1 h
    refine tg_aload_n X dX1_takeCalls_21 rfl 0 rfl ?_
    refine tg_getr X 11 rfl cl_X1 6 (by decide) rfl wf_X1_31 dX1_takeCalls_22 ?_
    refine tg_iload_n X dX1_takeCalls_25 rfl 2 rfl ?_
    refine tg_bipush X dX1_takeCalls_26 tk_b24 ?_
    refine tg_imul X dX1_takeCalls_28 ?_
    refine tg_iload X dX1_takeCalls_29 5 rfl ?_
    refine tg_iadd X dX1_takeCalls_31 ?_
    refine tg_iload X dX1_takeCalls_32 5 rfl ?_
    refine tg_iload X dX1_takeCalls_34 4 rfl ?_
    refine tg_icmp_ge (tgt := 52) X dX1_takeCalls_36 (by decide) (fun c2 => ?_) (fun c2 => ?_)
    · have h := tg_ifT c2 h
      refine tg_iconst X dX1_takeCalls_52 tk_i1 ?_
      exact w_X1_takeCalls_53 X hr14 S v2 v3 v4 v5 1 ((v2 * 24) + v5) h
    · have h := tg_ifF c2 h
      refine tg_aload_n X dX1_takeCalls_39 rfl 1 rfl ?_
      refine tg_iload_n X dX1_takeCalls_40 rfl 3 rfl ?_
      refine tg_iload X dX1_takeCalls_41 5 rfl ?_
      obtain ⟨S3, r4, kS3, h⟩ := tg_bdE h
      refine tg_callV (As := [.int v3, .int v5]) (rest := [.int ((v2 * 24) + v5), .ref (tg_ad x 18)]) X 1 (cm_X6_byteAt _ _ _ _ _ kS3) yy_X6_byteAt wv_X6_byteAt ws_X6_byteAt wm_X1_58 rfl cl_X6.1 ⟨rfl, rfl, Nat.le_of_ble_eq_true rfl, Nat.le_of_ble_eq_true rfl⟩ rfl rfl (Nat.le_of_ble_eq_true rfl) dX1_takeCalls_43 rfl ?_
      obtain ⟨S5, r6, kS5, h⟩ := tg_bdE h
      refine tg_callS (As := [.int r4]) (rest := [.int ((v2 * 24) + v5), .ref (tg_ad x 18)]) X (cm_X6_callOf _ _ _ _ _ kS5) yy_X6_callOf wt_X6_callOf wm_X1_65 ⟨rfl, rfl, Nat.le_of_ble_eq_true rfl, Nat.le_of_ble_eq_true rfl⟩ rfl rfl (Nat.le_of_ble_eq_true rfl) dX1_takeCalls_46 rfl ?_
      refine tg_goto (tgt := 53) X dX1_takeCalls_49 (by decide) ?_
      exact w_X1_takeCalls_53 X hr14 S5 v2 v3 v4 v5 r6 ((v2 * 24) + v5) h
theorem wl_X1_takeCalls_14 {x : tg_X} {Sf : tg_S} (X : tg_M tauC x cX1_takeCalls 6 RX1 zr_X1_takeCalls none Sf none) : ∀ (n : Nat) (S : tg_S) (v2 : Int32) (v3 : Int32) (v4 : Int32) (v5 : Int32) (h : L_X1_takeCalls_14  n S v2 v3 v4 v5 = some Sf), tg_G tauC x S 14 [(0, .ref (tg_ad x 11)), (1, .ref (tg_ad x 1)), (2, .int v2), (3, .int v3), (4, .int v4), (5, .int v5)] [] := by
  intro n
  induction n with
  | zero => intro S v2 v3 v4 v5 h; cases h
  | succ n ih => intro S v2 v3 v4 v5 h; exact w_X1_takeCalls_14 X  ih S v2 v3 v4 v5 h
set_option maxRecDepth 20000 in
set_option maxHeartbeats 4000000 in
theorem w_X1_takeCalls_0 {x : tg_X} {Sf : tg_S} (X : tg_M tauC x cX1_takeCalls 6 RX1 zr_X1_takeCalls none Sf none) (S : tg_S) (v2 : Int32) (h : f_X1_takeCalls  S v2 = some Sf) : tg_G tauC x S 0 [(0, .ref (tg_ad x 11)), (1, .ref (tg_ad x 1)), (2, .int v2)] [] := by
  unfold f_X1_takeCalls at h
  refine tg_iconst X dX1_takeCalls_0 tk_i2 ?_
  refine tg_iload_n X dX1_takeCalls_1 rfl 2 rfl ?_
  refine tg_iadd X dX1_takeCalls_2 ?_
  refine tg_topi (fun y1 ey1 => ?_)
  have h := tg_nmE ey1 h
  refine tg_istore_n (lv2 := [(3, .int y1), (0, .ref (tg_ad x 11)), (1, .ref (tg_ad x 1)), (2, .int v2)]) X dX1_takeCalls_3 rfl (by decide) rfl ?_
  refine tg_aload_n X dX1_takeCalls_4 rfl 2 rfl ?_
  refine tg_iload_n X dX1_takeCalls_5 rfl 0 rfl ?_
  obtain ⟨S2, r3, kS2, h⟩ := tg_bdE h
  refine tg_callV (As := [.int y1]) (rest := []) X 1 (cm_X6_soundLength _ _ _ _ _ kS2) yy_X6_soundLength wv_X6_soundLength ws_X6_soundLength wm_X1_52 rfl cl_X6.1 ⟨rfl, rfl, Nat.le_of_ble_eq_true rfl, Nat.le_of_ble_eq_true rfl⟩ rfl rfl (Nat.le_of_ble_eq_true rfl) dX1_takeCalls_6 rfl ?_
  refine tg_istore (lv2 := [(4, .int r3), (3, .int y1), (0, .ref (tg_ad x 11)), (1, .ref (tg_ad x 1)), (2, .int v2)]) X dX1_takeCalls_9 (by decide) rfl ?_
  refine tg_iconst X dX1_takeCalls_11 tk_i0 ?_
  refine tg_istore (lv2 := [(5, .int 0), (4, .int r3), (3, .int y1), (0, .ref (tg_ad x 11)), (1, .ref (tg_ad x 1)), (2, .int v2)]) X dX1_takeCalls_12 (by decide) rfl ?_
  refine tg_re [3, 4, 5, 2, 1, 0] rfl ?_
  exact wl_X1_takeCalls_14 X  tg_F S2 v2 y1 r3 0 h
theorem cm_X1_takeCalls (l : Launch) (D : va_G) (cy : Bool → ClassId) (ad : Nat → Nat) (tS : Nat) {S Sf : tg_S} {v2 : Int32} (h : f_X1_takeCalls  S v2 = some Sf) : tg_Met l yX1_takeCalls cX1_takeCalls 6 none zr_X1_takeCalls tauC D cy ad tS S [.ref (ad 11), .ref (ad 1), .int v2] Sf none := tg_mk (by decide +kernel) trivial (Nat.le_of_ble_eq_true rfl) (fun p e s m args below meth c Q A X => w_X1_takeCalls_0 X S v2 h)
-- X1_takeTeam
def zr_X1_takeTeam : Room := { frames := 3, cells := 0, slots := 0, locals := 67 }
theorem dX1_takeTeam_0 : decode cX1_takeTeam 0 = .ok (.aload_n 0, 1) := by decide +kernel
theorem dX1_takeTeam_1 : decode cX1_takeTeam 1 = .ok (.getfield 25, 3) := by decide +kernel
theorem dX1_takeTeam_4 : decode cX1_takeTeam 4 = .ok (.iload_n 2, 1) := by decide +kernel
theorem dX1_takeTeam_5 : decode cX1_takeTeam 5 = .ok (.aload_n 1, 1) := by decide +kernel
theorem dX1_takeTeam_6 : decode cX1_takeTeam 6 = .ok (.iload_n 2, 1) := by decide +kernel
theorem dX1_takeTeam_7 : decode cX1_takeTeam 7 = .ok (.invokevirtual 52, 3) := by decide +kernel
theorem dX1_takeTeam_10 : decode cX1_takeTeam 10 = .ok (.iconst 1, 1) := by decide +kernel
theorem dX1_takeTeam_11 : decode cX1_takeTeam 11 = .ok (.iadd, 1) := by decide +kernel
theorem dX1_takeTeam_12 : decode cX1_takeTeam 12 = .ok (.iconst 4, 1) := by decide +kernel
theorem dX1_takeTeam_13 : decode cX1_takeTeam 13 = .ok (.idiv, 1) := by decide +kernel
theorem dX1_takeTeam_14 : decode cX1_takeTeam 14 = .ok (.iastore, 1) := by decide +kernel
theorem dX1_takeTeam_15 : decode cX1_takeTeam 15 = .ok (.aload_n 0, 1) := by decide +kernel
theorem dX1_takeTeam_16 : decode cX1_takeTeam 16 = .ok (.getfield 28, 3) := by decide +kernel
theorem dX1_takeTeam_19 : decode cX1_takeTeam 19 = .ok (.iload_n 2, 1) := by decide +kernel
theorem dX1_takeTeam_20 : decode cX1_takeTeam 20 = .ok (.iload_n 2, 1) := by decide +kernel
theorem dX1_takeTeam_21 : decode cX1_takeTeam 21 = .ok (.bipush 8, 2) := by decide +kernel
theorem dX1_takeTeam_23 : decode cX1_takeTeam 23 = .ok (.imul, 1) := by decide +kernel
theorem dX1_takeTeam_24 : decode cX1_takeTeam 24 = .ok (.aload_n 0, 1) := by decide +kernel
theorem dX1_takeTeam_25 : decode cX1_takeTeam 25 = .ok (.getfield 25, 3) := by decide +kernel
theorem dX1_takeTeam_28 : decode cX1_takeTeam 28 = .ok (.iload_n 2, 1) := by decide +kernel
theorem dX1_takeTeam_29 : decode cX1_takeTeam 29 = .ok (.iaload, 1) := by decide +kernel
theorem dX1_takeTeam_30 : decode cX1_takeTeam 30 = .ok (.iadd, 1) := by decide +kernel
theorem dX1_takeTeam_31 : decode cX1_takeTeam 31 = .ok (.iconst 1, 1) := by decide +kernel
theorem dX1_takeTeam_32 : decode cX1_takeTeam 32 = .ok (.isub, 1) := by decide +kernel
theorem dX1_takeTeam_33 : decode cX1_takeTeam 33 = .ok (.iastore, 1) := by decide +kernel
theorem dX1_takeTeam_34 : decode cX1_takeTeam 34 = .ok (.iconst 0, 1) := by decide +kernel
theorem dX1_takeTeam_35 : decode cX1_takeTeam 35 = .ok (.istore_n 3, 1) := by decide +kernel
theorem dX1_takeTeam_36 : decode cX1_takeTeam 36 = .ok (.iload_n 3, 1) := by decide +kernel
theorem dX1_takeTeam_37 : decode cX1_takeTeam 37 = .ok (.bipush 8, 2) := by decide +kernel
theorem dX1_takeTeam_39 : decode cX1_takeTeam 39 = .ok (.if_icmp .ge 107, 3) := by decide +kernel
theorem dX1_takeTeam_42 : decode cX1_takeTeam 42 = .ok (.iload_n 2, 1) := by decide +kernel
theorem dX1_takeTeam_43 : decode cX1_takeTeam 43 = .ok (.bipush 8, 2) := by decide +kernel
theorem dX1_takeTeam_45 : decode cX1_takeTeam 45 = .ok (.imul, 1) := by decide +kernel
theorem dX1_takeTeam_46 : decode cX1_takeTeam 46 = .ok (.iload_n 3, 1) := by decide +kernel
theorem dX1_takeTeam_47 : decode cX1_takeTeam 47 = .ok (.iadd, 1) := by decide +kernel
theorem dX1_takeTeam_48 : decode cX1_takeTeam 48 = .ok (.istore 4, 2) := by decide +kernel
theorem dX1_takeTeam_50 : decode cX1_takeTeam 50 = .ok (.aload_n 0, 1) := by decide +kernel
theorem dX1_takeTeam_51 : decode cX1_takeTeam 51 = .ok (.getfield 9, 3) := by decide +kernel
theorem dX1_takeTeam_54 : decode cX1_takeTeam 54 = .ok (.iload 4, 2) := by decide +kernel
theorem dX1_takeTeam_56 : decode cX1_takeTeam 56 = .ok (.iload_n 3, 1) := by decide +kernel
theorem dX1_takeTeam_57 : decode cX1_takeTeam 57 = .ok (.aload_n 0, 1) := by decide +kernel
theorem dX1_takeTeam_58 : decode cX1_takeTeam 58 = .ok (.getfield 25, 3) := by decide +kernel
theorem dX1_takeTeam_61 : decode cX1_takeTeam 61 = .ok (.iload_n 2, 1) := by decide +kernel
theorem dX1_takeTeam_62 : decode cX1_takeTeam 62 = .ok (.iaload, 1) := by decide +kernel
theorem dX1_takeTeam_63 : decode cX1_takeTeam 63 = .ok (.if_icmp .ge 7, 3) := by decide +kernel
theorem dX1_takeTeam_66 : decode cX1_takeTeam 66 = .ok (.iconst 1, 1) := by decide +kernel
theorem dX1_takeTeam_67 : decode cX1_takeTeam 67 = .ok (.goto 4, 3) := by decide +kernel
theorem dX1_takeTeam_70 : decode cX1_takeTeam 70 = .ok (.iconst 0, 1) := by decide +kernel
theorem dX1_takeTeam_71 : decode cX1_takeTeam 71 = .ok (.bastore, 1) := by decide +kernel
theorem dX1_takeTeam_72 : decode cX1_takeTeam 72 = .ok (.aload_n 0, 1) := by decide +kernel
theorem dX1_takeTeam_73 : decode cX1_takeTeam 73 = .ok (.getfield 9, 3) := by decide +kernel
theorem dX1_takeTeam_76 : decode cX1_takeTeam 76 = .ok (.iload 4, 2) := by decide +kernel
theorem dX1_takeTeam_78 : decode cX1_takeTeam 78 = .ok (.baload, 1) := by decide +kernel
theorem dX1_takeTeam_79 : decode cX1_takeTeam 79 = .ok (.ifCond .eq 61, 3) := by decide +kernel
theorem dX1_takeTeam_82 : decode cX1_takeTeam 82 = .ok (.aload_n 0, 1) := by decide +kernel
theorem dX1_takeTeam_83 : decode cX1_takeTeam 83 = .ok (.getfield 15, 3) := by decide +kernel
theorem dX1_takeTeam_86 : decode cX1_takeTeam 86 = .ok (.iload 4, 2) := by decide +kernel
theorem dX1_takeTeam_88 : decode cX1_takeTeam 88 = .ok (.aload_n 1, 1) := by decide +kernel
theorem dX1_takeTeam_89 : decode cX1_takeTeam 89 = .ok (.iload_n 2, 1) := by decide +kernel
theorem dX1_takeTeam_90 : decode cX1_takeTeam 90 = .ok (.iconst 4, 1) := by decide +kernel
theorem dX1_takeTeam_91 : decode cX1_takeTeam 91 = .ok (.iload_n 3, 1) := by decide +kernel
theorem dX1_takeTeam_92 : decode cX1_takeTeam 92 = .ok (.imul, 1) := by decide +kernel
theorem dX1_takeTeam_93 : decode cX1_takeTeam 93 = .ok (.invokevirtual 58, 3) := by decide +kernel
theorem dX1_takeTeam_96 : decode cX1_takeTeam 96 = .ok (.invokestatic 62, 3) := by decide +kernel
theorem dX1_takeTeam_99 : decode cX1_takeTeam 99 = .ok (.iastore, 1) := by decide +kernel
theorem dX1_takeTeam_100 : decode cX1_takeTeam 100 = .ok (.aload_n 0, 1) := by decide +kernel
theorem dX1_takeTeam_101 : decode cX1_takeTeam 101 = .ok (.getfield 19, 3) := by decide +kernel
theorem dX1_takeTeam_104 : decode cX1_takeTeam 104 = .ok (.iload 4, 2) := by decide +kernel
theorem dX1_takeTeam_106 : decode cX1_takeTeam 106 = .ok (.aload_n 1, 1) := by decide +kernel
theorem dX1_takeTeam_107 : decode cX1_takeTeam 107 = .ok (.iload_n 2, 1) := by decide +kernel
theorem dX1_takeTeam_108 : decode cX1_takeTeam 108 = .ok (.iconst 4, 1) := by decide +kernel
theorem dX1_takeTeam_109 : decode cX1_takeTeam 109 = .ok (.iload_n 3, 1) := by decide +kernel
theorem dX1_takeTeam_110 : decode cX1_takeTeam 110 = .ok (.imul, 1) := by decide +kernel
theorem dX1_takeTeam_111 : decode cX1_takeTeam 111 = .ok (.iconst 1, 1) := by decide +kernel
theorem dX1_takeTeam_112 : decode cX1_takeTeam 112 = .ok (.iadd, 1) := by decide +kernel
theorem dX1_takeTeam_113 : decode cX1_takeTeam 113 = .ok (.invokevirtual 58, 3) := by decide +kernel
theorem dX1_takeTeam_116 : decode cX1_takeTeam 116 = .ok (.bipush 48, 2) := by decide +kernel
theorem dX1_takeTeam_118 : decode cX1_takeTeam 118 = .ok (.isub, 1) := by decide +kernel
theorem dX1_takeTeam_119 : decode cX1_takeTeam 119 = .ok (.iastore, 1) := by decide +kernel
theorem dX1_takeTeam_120 : decode cX1_takeTeam 120 = .ok (.aload_n 0, 1) := by decide +kernel
theorem dX1_takeTeam_121 : decode cX1_takeTeam 121 = .ok (.getfield 22, 3) := by decide +kernel
theorem dX1_takeTeam_124 : decode cX1_takeTeam 124 = .ok (.iload 4, 2) := by decide +kernel
theorem dX1_takeTeam_126 : decode cX1_takeTeam 126 = .ok (.aload_n 1, 1) := by decide +kernel
theorem dX1_takeTeam_127 : decode cX1_takeTeam 127 = .ok (.iload_n 2, 1) := by decide +kernel
theorem dX1_takeTeam_128 : decode cX1_takeTeam 128 = .ok (.iconst 4, 1) := by decide +kernel
theorem dX1_takeTeam_129 : decode cX1_takeTeam 129 = .ok (.iload_n 3, 1) := by decide +kernel
theorem dX1_takeTeam_130 : decode cX1_takeTeam 130 = .ok (.imul, 1) := by decide +kernel
theorem dX1_takeTeam_131 : decode cX1_takeTeam 131 = .ok (.iconst 2, 1) := by decide +kernel
theorem dX1_takeTeam_132 : decode cX1_takeTeam 132 = .ok (.iadd, 1) := by decide +kernel
theorem dX1_takeTeam_133 : decode cX1_takeTeam 133 = .ok (.invokevirtual 58, 3) := by decide +kernel
theorem dX1_takeTeam_136 : decode cX1_takeTeam 136 = .ok (.bipush 48, 2) := by decide +kernel
theorem dX1_takeTeam_138 : decode cX1_takeTeam 138 = .ok (.isub, 1) := by decide +kernel
theorem dX1_takeTeam_139 : decode cX1_takeTeam 139 = .ok (.iastore, 1) := by decide +kernel
theorem dX1_takeTeam_140 : decode cX1_takeTeam 140 = .ok (.iinc 3 1, 3) := by decide +kernel
theorem dX1_takeTeam_143 : decode cX1_takeTeam 143 = .ok (.goto (-107), 3) := by decide +kernel
theorem dX1_takeTeam_146 : decode cX1_takeTeam 146 = .ok (.return_, 1) := by decide +kernel
set_option maxRecDepth 20000 in
set_option maxHeartbeats 4000000 in
theorem w_X1_takeTeam_140 {x : tg_X} {Sf : tg_S} {rec36 : tg_S → Int32 → Int32 → Option (tg_S)} (X : tg_M tauC x cX1_takeTeam 5 RX1 zr_X1_takeTeam none Sf none) (hr36 : ∀ (S : tg_S) (v2 : Int32) (v3 : Int32), rec36 S v2 v3 = some Sf → tg_G tauC x S 36 [(0, .ref (tg_ad x 11)), (1, .ref (tg_ad x 1)), (2, .int v2), (3, .int v3)] []) (S : tg_S) (v2 : Int32) (v3 : Int32) (h : f_X1_takeTeam_140 rec36 S v2 v3 = some Sf) : tg_G tauC x S 140 [(0, .ref (tg_ad x 11)), (1, .ref (tg_ad x 1)), (2, .int v2), (3, .int v3)] [] := by
  unfold f_X1_takeTeam_140 at h
  obtain ⟨y1, ey1⟩ : ∃ z : Int32, z = v3 + 1 := ⟨_, rfl⟩
  have h := tg_nmE ey1 h
  refine tg_iinc (lv2 := [(3, .int y1), (0, .ref (tg_ad x 11)), (1, .ref (tg_ad x 1)), (2, .int v2)]) X dX1_takeTeam_140 3 rfl tk_i1 ey1 (by decide) rfl ?_
  refine tg_goto (tgt := 36) X dX1_takeTeam_143 (by decide) ?_
  refine tg_re [1, 2, 3, 0] rfl ?_
  exact hr36 S v2 y1 h
set_option maxRecDepth 20000 in
set_option maxHeartbeats 4000000 in
theorem w_X1_takeTeam_71 {x : tg_X} {Sf : tg_S} {rec36 : tg_S → Int32 → Int32 → Option (tg_S)} (X : tg_M tauC x cX1_takeTeam 5 RX1 zr_X1_takeTeam none Sf none) (hr36 : ∀ (S : tg_S) (v2 : Int32) (v3 : Int32), rec36 S v2 v3 = some Sf → tg_G tauC x S 36 [(0, .ref (tg_ad x 11)), (1, .ref (tg_ad x 1)), (2, .int v2), (3, .int v3)] []) (S : tg_S) (v2 : Int32) (v3 : Int32) (v4 : Int32) (s0 : Int32) (s1 : Int32) (h : f_X1_takeTeam_71 rec36 S v2 v3 v4 s0 s1 = some Sf) : tg_G tauC x S 71 [(0, .ref (tg_ad x 11)), (1, .ref (tg_ad x 1)), (2, .int v2), (3, .int v3), (4, .int v4)] [.int s0, .int s1, .ref (tg_ad x 12)] := by
  unfold f_X1_takeTeam_71 at h
  obtain ⟨S1, eS1, bS1, h⟩ := tg_wzE h
  refine tg_zast X 12 rfl bS1 dX1_takeTeam_71 eS1 ?_
  refine tg_aload_n X dX1_takeTeam_72 rfl 0 rfl ?_
  refine tg_getr X 11 rfl cl_X1 0 (by decide) rfl wf_X1_9 dX1_takeTeam_73 ?_
  refine tg_iload X dX1_takeTeam_76 4 rfl ?_
  obtain ⟨y2, ey2, by2, h⟩ := tg_rdE h
  refine tg_zald X 12 rfl ey2 by2 dX1_takeTeam_78 ?_
  refine tg_if_eq (tgt := 140) X dX1_takeTeam_79 (by decide) (fun c3 => ?_) (fun c3 => ?_)
  · have h := tg_ifT c3 h
    refine tg_re [0, 1, 2, 3] rfl ?_
    exact w_X1_takeTeam_140 X hr36 S1 v2 v3 h
  · have h := tg_ifF c3 h
    refine tg_aload_n X dX1_takeTeam_82 rfl 0 rfl ?_
    refine tg_getr X 11 rfl cl_X1 1 (by decide) rfl wf_X1_15 dX1_takeTeam_83 ?_
    refine tg_iload X dX1_takeTeam_86 4 rfl ?_
    refine tg_aload_n X dX1_takeTeam_88 rfl 1 rfl ?_
    refine tg_iload_n X dX1_takeTeam_89 rfl 2 rfl ?_
    refine tg_iconst X dX1_takeTeam_90 tk_i4 ?_
    refine tg_iload_n X dX1_takeTeam_91 rfl 3 rfl ?_
    refine tg_imul X dX1_takeTeam_92 ?_
    obtain ⟨S4, r5, kS4, h⟩ := tg_bdE h
    refine tg_callV (As := [.int v2, .int (4 * v3)]) (rest := [.int v4, .ref (tg_ad x 13)]) X 1 (cm_X6_byteAt _ _ _ _ _ kS4) yy_X6_byteAt wv_X6_byteAt ws_X6_byteAt wm_X1_58 rfl cl_X6.1 ⟨rfl, rfl, Nat.le_of_ble_eq_true rfl, Nat.le_of_ble_eq_true rfl⟩ rfl rfl (Nat.le_of_ble_eq_true rfl) dX1_takeTeam_93 rfl ?_
    obtain ⟨S6, r7, kS6, h⟩ := tg_bdE h
    refine tg_callS (As := [.int r5]) (rest := [.int v4, .ref (tg_ad x 13)]) X (cm_X6_sortOf _ _ _ _ _ kS6) yy_X6_sortOf wt_X6_sortOf wm_X1_62 ⟨rfl, rfl, Nat.le_of_ble_eq_true rfl, Nat.le_of_ble_eq_true rfl⟩ rfl rfl (Nat.le_of_ble_eq_true rfl) dX1_takeTeam_96 rfl ?_
    obtain ⟨S8, eS8, bS8, h⟩ := tg_wrE h
    refine tg_iast X 13 rfl bS8 dX1_takeTeam_99 eS8 ?_
    refine tg_aload_n X dX1_takeTeam_100 rfl 0 rfl ?_
    refine tg_getr X 11 rfl cl_X1 2 (by decide) rfl wf_X1_19 dX1_takeTeam_101 ?_
    refine tg_iload X dX1_takeTeam_104 4 rfl ?_
    refine tg_aload_n X dX1_takeTeam_106 rfl 1 rfl ?_
    refine tg_iload_n X dX1_takeTeam_107 rfl 2 rfl ?_
    refine tg_iconst X dX1_takeTeam_108 tk_i4 ?_
    refine tg_iload_n X dX1_takeTeam_109 rfl 3 rfl ?_
    refine tg_imul X dX1_takeTeam_110 ?_
    refine tg_iconst X dX1_takeTeam_111 tk_i1 ?_
    refine tg_iadd X dX1_takeTeam_112 ?_
    obtain ⟨S9, r10, kS9, h⟩ := tg_bdE h
    refine tg_callV (As := [.int v2, .int ((4 * v3) + 1)]) (rest := [.int v4, .ref (tg_ad x 14)]) X 1 (cm_X6_byteAt _ _ _ _ _ kS9) yy_X6_byteAt wv_X6_byteAt ws_X6_byteAt wm_X1_58 rfl cl_X6.1 ⟨rfl, rfl, Nat.le_of_ble_eq_true rfl, Nat.le_of_ble_eq_true rfl⟩ rfl rfl (Nat.le_of_ble_eq_true rfl) dX1_takeTeam_113 rfl ?_
    refine tg_bipush X dX1_takeTeam_116 tk_b48 ?_
    refine tg_isub X dX1_takeTeam_118 ?_
    obtain ⟨S11, eS11, bS11, h⟩ := tg_wrE h
    refine tg_iast X 14 rfl bS11 dX1_takeTeam_119 eS11 ?_
    refine tg_aload_n X dX1_takeTeam_120 rfl 0 rfl ?_
    refine tg_getr X 11 rfl cl_X1 3 (by decide) rfl wf_X1_22 dX1_takeTeam_121 ?_
    refine tg_iload X dX1_takeTeam_124 4 rfl ?_
    refine tg_aload_n X dX1_takeTeam_126 rfl 1 rfl ?_
    refine tg_iload_n X dX1_takeTeam_127 rfl 2 rfl ?_
    refine tg_iconst X dX1_takeTeam_128 tk_i4 ?_
    refine tg_iload_n X dX1_takeTeam_129 rfl 3 rfl ?_
    refine tg_imul X dX1_takeTeam_130 ?_
    refine tg_iconst X dX1_takeTeam_131 tk_i2 ?_
    refine tg_iadd X dX1_takeTeam_132 ?_
    obtain ⟨S12, r13, kS12, h⟩ := tg_bdE h
    refine tg_callV (As := [.int v2, .int ((4 * v3) + 2)]) (rest := [.int v4, .ref (tg_ad x 15)]) X 1 (cm_X6_byteAt _ _ _ _ _ kS12) yy_X6_byteAt wv_X6_byteAt ws_X6_byteAt wm_X1_58 rfl cl_X6.1 ⟨rfl, rfl, Nat.le_of_ble_eq_true rfl, Nat.le_of_ble_eq_true rfl⟩ rfl rfl (Nat.le_of_ble_eq_true rfl) dX1_takeTeam_133 rfl ?_
    refine tg_bipush X dX1_takeTeam_136 tk_b48 ?_
    refine tg_isub X dX1_takeTeam_138 ?_
    obtain ⟨S14, eS14, bS14, h⟩ := tg_wrE h
    refine tg_iast X 15 rfl bS14 dX1_takeTeam_139 eS14 ?_
    refine tg_re [0, 1, 2, 3] rfl ?_
    exact w_X1_takeTeam_140 X hr36 S14 v2 v3 h
set_option maxRecDepth 20000 in
set_option maxHeartbeats 4000000 in
theorem w_X1_takeTeam_36 {x : tg_X} {Sf : tg_S} {rec36 : tg_S → Int32 → Int32 → Option (tg_S)} (X : tg_M tauC x cX1_takeTeam 5 RX1 zr_X1_takeTeam none Sf none) (hr36 : ∀ (S : tg_S) (v2 : Int32) (v3 : Int32), rec36 S v2 v3 = some Sf → tg_G tauC x S 36 [(0, .ref (tg_ad x 11)), (1, .ref (tg_ad x 1)), (2, .int v2), (3, .int v3)] []) (S : tg_S) (v2 : Int32) (v3 : Int32) (h : f_X1_takeTeam_36 rec36 S v2 v3 = some Sf) : tg_G tauC x S 36 [(0, .ref (tg_ad x 11)), (1, .ref (tg_ad x 1)), (2, .int v2), (3, .int v3)] [] := by
  unfold f_X1_takeTeam_36 at h
  refine tg_iload_n X dX1_takeTeam_36 rfl 3 rfl ?_
  refine tg_bipush X dX1_takeTeam_37 tk_b8 ?_
  refine tg_icmp_ge (tgt := 146) X dX1_takeTeam_39 (by decide) (fun c1 => ?_) (fun c1 => ?_)
  · have h := tg_ifT c1 h
    exact tg_vret X h dX1_takeTeam_146
  · have h := tg_ifF c1 h
    refine tg_iload_n X dX1_takeTeam_42 rfl 2 rfl ?_
    refine tg_bipush X dX1_takeTeam_43 tk_b8 ?_
    refine tg_imul X dX1_takeTeam_45 ?_
    refine tg_iload_n X dX1_takeTeam_46 rfl 3 rfl ?_
    refine tg_iadd X dX1_takeTeam_47 ?_
    refine tg_topi (fun y2 ey2 => ?_)
    have h := tg_nmE ey2 h
    refine tg_istore (lv2 := [(4, .int y2), (0, .ref (tg_ad x 11)), (1, .ref (tg_ad x 1)), (2, .int v2), (3, .int v3)]) X dX1_takeTeam_48 (by decide) rfl ?_
    refine tg_aload_n X dX1_takeTeam_50 rfl 1 rfl ?_
    refine tg_getr X 11 rfl cl_X1 0 (by decide) rfl wf_X1_9 dX1_takeTeam_51 ?_
    refine tg_iload X dX1_takeTeam_54 0 rfl ?_
    refine tg_iload_n X dX1_takeTeam_56 rfl 4 rfl ?_
    refine tg_aload_n X dX1_takeTeam_57 rfl 1 rfl ?_
    refine tg_getr X 11 rfl cl_X1 4 (by decide) rfl wf_X1_25 dX1_takeTeam_58 ?_
    refine tg_iload_n X dX1_takeTeam_61 rfl 3 rfl ?_
    obtain ⟨y3, ey3, by3, h⟩ := tg_rdE h
    refine tg_iald X 16 rfl ey3 by3 dX1_takeTeam_62 ?_
    refine tg_icmp_ge (tgt := 70) X dX1_takeTeam_63 (by decide) (fun c4 => ?_) (fun c4 => ?_)
    · rw [if_pos c4] at h
      refine tg_iconst X dX1_takeTeam_70 tk_i0 ?_
      refine tg_re [1, 2, 3, 4, 0] rfl ?_
      exact w_X1_takeTeam_71 X hr36 S v2 v3 y2 0 y2 h
    · rw [if_neg c4] at h
      refine tg_iconst X dX1_takeTeam_66 tk_i1 ?_
      refine tg_goto (tgt := 71) X dX1_takeTeam_67 (by decide) ?_
      refine tg_re [1, 2, 3, 4, 0] rfl ?_
      exact w_X1_takeTeam_71 X hr36 S v2 v3 y2 1 y2 h
theorem wl_X1_takeTeam_36 {x : tg_X} {Sf : tg_S} (X : tg_M tauC x cX1_takeTeam 5 RX1 zr_X1_takeTeam none Sf none) : ∀ (n : Nat) (S : tg_S) (v2 : Int32) (v3 : Int32) (h : L_X1_takeTeam_36  n S v2 v3 = some Sf), tg_G tauC x S 36 [(0, .ref (tg_ad x 11)), (1, .ref (tg_ad x 1)), (2, .int v2), (3, .int v3)] [] := by
  intro n
  induction n with
  | zero => intro S v2 v3 h; cases h
  | succ n ih => intro S v2 v3 h; exact w_X1_takeTeam_36 X  ih S v2 v3 h
set_option maxRecDepth 20000 in
set_option maxHeartbeats 4000000 in
theorem w_X1_takeTeam_0 {x : tg_X} {Sf : tg_S} (X : tg_M tauC x cX1_takeTeam 5 RX1 zr_X1_takeTeam none Sf none) (S : tg_S) (v2 : Int32) (h : f_X1_takeTeam  S v2 = some Sf) : tg_G tauC x S 0 [(0, .ref (tg_ad x 11)), (1, .ref (tg_ad x 1)), (2, .int v2)] [] := by
  unfold f_X1_takeTeam at h
  refine tg_aload_n X dX1_takeTeam_0 rfl 0 rfl ?_
  refine tg_getr X 11 rfl cl_X1 4 (by decide) rfl wf_X1_25 dX1_takeTeam_1 ?_
  refine tg_iload_n X dX1_takeTeam_4 rfl 2 rfl ?_
  refine tg_aload_n X dX1_takeTeam_5 rfl 1 rfl ?_
  refine tg_iload_n X dX1_takeTeam_6 rfl 2 rfl ?_
  obtain ⟨S1, r2, kS1, h⟩ := tg_bdE h
  refine tg_callV (As := [.int v2]) (rest := [.int v2, .ref (tg_ad x 16)]) X 1 (cm_X6_soundLength _ _ _ _ _ kS1) yy_X6_soundLength wv_X6_soundLength ws_X6_soundLength wm_X1_52 rfl cl_X6.1 ⟨rfl, rfl, Nat.le_of_ble_eq_true rfl, Nat.le_of_ble_eq_true rfl⟩ rfl rfl (Nat.le_of_ble_eq_true rfl) dX1_takeTeam_7 rfl ?_
  refine tg_iconst X dX1_takeTeam_10 tk_i1 ?_
  refine tg_iadd X dX1_takeTeam_11 ?_
  refine tg_iconst X dX1_takeTeam_12 tk_i4 ?_
  refine tg_idiv X dX1_takeTeam_13 (by decide) ?_
  obtain ⟨S3, eS3, bS3, h⟩ := tg_wrE h
  refine tg_iast X 16 rfl bS3 dX1_takeTeam_14 eS3 ?_
  refine tg_aload_n X dX1_takeTeam_15 rfl 0 rfl ?_
  refine tg_getr X 11 rfl cl_X1 5 (by decide) rfl wf_X1_28 dX1_takeTeam_16 ?_
  refine tg_iload_n X dX1_takeTeam_19 rfl 2 rfl ?_
  refine tg_iload_n X dX1_takeTeam_20 rfl 2 rfl ?_
  refine tg_bipush X dX1_takeTeam_21 tk_b8 ?_
  refine tg_imul X dX1_takeTeam_23 ?_
  refine tg_aload_n X dX1_takeTeam_24 rfl 0 rfl ?_
  refine tg_getr X 11 rfl cl_X1 4 (by decide) rfl wf_X1_25 dX1_takeTeam_25 ?_
  refine tg_iload_n X dX1_takeTeam_28 rfl 2 rfl ?_
  obtain ⟨y4, ey4, by4, h⟩ := tg_rdE h
  refine tg_iald X 16 rfl ey4 by4 dX1_takeTeam_29 ?_
  refine tg_iadd X dX1_takeTeam_30 ?_
  refine tg_iconst X dX1_takeTeam_31 tk_i1 ?_
  refine tg_isub X dX1_takeTeam_32 ?_
  obtain ⟨S5, eS5, bS5, h⟩ := tg_wrE h
  refine tg_iast X 17 rfl bS5 dX1_takeTeam_33 eS5 ?_
  refine tg_iconst X dX1_takeTeam_34 tk_i0 ?_
  refine tg_istore_n (lv2 := [(3, .int 0), (0, .ref (tg_ad x 11)), (1, .ref (tg_ad x 1)), (2, .int v2)]) X dX1_takeTeam_35 rfl (by decide) rfl ?_
  refine tg_re [1, 2, 3, 0] rfl ?_
  exact wl_X1_takeTeam_36 X  tg_F S5 v2 0 h
theorem cm_X1_takeTeam (l : Launch) (D : va_G) (cy : Bool → ClassId) (ad : Nat → Nat) (tS : Nat) {S Sf : tg_S} {v2 : Int32} (h : f_X1_takeTeam  S v2 = some Sf) : tg_Met l yX1_takeTeam cX1_takeTeam 5 none zr_X1_takeTeam tauC D cy ad tS S [.ref (ad 11), .ref (ad 1), .int v2] Sf none := tg_mk (by decide +kernel) trivial (Nat.le_of_ble_eq_true rfl) (fun p e s m args below meth c Q A X => w_X1_takeTeam_0 X S v2 h)
-- X1_takeTexts
def zr_X1_takeTexts : Room := { frames := 4, cells := 0, slots := 0, locals := 92 }
theorem dX1_takeTexts_0 : decode cX1_takeTexts 0 = .ok (.iconst 0, 1) := by decide +kernel
theorem dX1_takeTexts_1 : decode cX1_takeTexts 1 = .ok (.istore_n 2, 1) := by decide +kernel
theorem dX1_takeTexts_2 : decode cX1_takeTexts 2 = .ok (.iload_n 2, 1) := by decide +kernel
theorem dX1_takeTexts_3 : decode cX1_takeTexts 3 = .ok (.iconst 2, 1) := by decide +kernel
theorem dX1_takeTexts_4 : decode cX1_takeTexts 4 = .ok (.if_icmp .ge 21, 3) := by decide +kernel
theorem dX1_takeTexts_7 : decode cX1_takeTexts 7 = .ok (.aload_n 0, 1) := by decide +kernel
theorem dX1_takeTexts_8 : decode cX1_takeTexts 8 = .ok (.aload_n 1, 1) := by decide +kernel
theorem dX1_takeTexts_9 : decode cX1_takeTexts 9 = .ok (.iload_n 2, 1) := by decide +kernel
theorem dX1_takeTexts_10 : decode cX1_takeTexts 10 = .ok (.invokevirtual 45, 3) := by decide +kernel
theorem dX1_takeTexts_13 : decode cX1_takeTexts 13 = .ok (.aload_n 0, 1) := by decide +kernel
theorem dX1_takeTexts_14 : decode cX1_takeTexts 14 = .ok (.aload_n 1, 1) := by decide +kernel
theorem dX1_takeTexts_15 : decode cX1_takeTexts 15 = .ok (.iload_n 2, 1) := by decide +kernel
theorem dX1_takeTexts_16 : decode cX1_takeTexts 16 = .ok (.invokevirtual 49, 3) := by decide +kernel
theorem dX1_takeTexts_19 : decode cX1_takeTexts 19 = .ok (.iinc 2 1, 3) := by decide +kernel
theorem dX1_takeTexts_22 : decode cX1_takeTexts 22 = .ok (.goto (-20), 3) := by decide +kernel
theorem dX1_takeTexts_25 : decode cX1_takeTexts 25 = .ok (.return_, 1) := by decide +kernel
set_option maxRecDepth 20000 in
set_option maxHeartbeats 4000000 in
theorem w_X1_takeTexts_2 {x : tg_X} {Sf : tg_S} {rec2 : tg_S → Int32 → Option (tg_S)} (X : tg_M tauC x cX1_takeTexts 3 RX1 zr_X1_takeTexts none Sf none) (hr2 : ∀ (S : tg_S) (v2 : Int32), rec2 S v2 = some Sf → tg_G tauC x S 2 [(0, .ref (tg_ad x 11)), (1, .ref (tg_ad x 1)), (2, .int v2)] []) (S : tg_S) (v2 : Int32) (h : f_X1_takeTexts_2 rec2 S v2 = some Sf) : tg_G tauC x S 2 [(0, .ref (tg_ad x 11)), (1, .ref (tg_ad x 1)), (2, .int v2)] [] := by
  unfold f_X1_takeTexts_2 at h
  refine tg_iload_n X dX1_takeTexts_2 rfl 2 rfl ?_
  refine tg_iconst X dX1_takeTexts_3 tk_i2 ?_
  refine tg_icmp_ge (tgt := 25) X dX1_takeTexts_4 (by decide) (fun c1 => ?_) (fun c1 => ?_)
  · have h := tg_ifT c1 h
    exact tg_vret X h dX1_takeTexts_25
  · have h := tg_ifF c1 h
    refine tg_aload_n X dX1_takeTexts_7 rfl 0 rfl ?_
    refine tg_aload_n X dX1_takeTexts_8 rfl 1 rfl ?_
    refine tg_iload_n X dX1_takeTexts_9 rfl 2 rfl ?_
    obtain ⟨S2, kS2, h⟩ := tg_bvE h
    refine tg_callV (As := [.ref (tg_ad x 1), .int v2]) (rest := []) X 11 (cm_X1_takeTeam _ _ _ _ _ kS2) yy_X1_takeTeam wv_X1_takeTeam ws_X1_takeTeam wm_X1_45 rfl cl_X1.1 ⟨rfl, rfl, Nat.le_of_ble_eq_true rfl, Nat.le_of_ble_eq_true rfl⟩ rfl rfl (Nat.le_of_ble_eq_true rfl) dX1_takeTexts_10 rfl ?_
    refine tg_aload_n X dX1_takeTexts_13 rfl 0 rfl ?_
    refine tg_aload_n X dX1_takeTexts_14 rfl 1 rfl ?_
    refine tg_iload_n X dX1_takeTexts_15 rfl 2 rfl ?_
    obtain ⟨S3, kS3, h⟩ := tg_bvE h
    refine tg_callV (As := [.ref (tg_ad x 1), .int v2]) (rest := []) X 11 (cm_X1_takeCalls _ _ _ _ _ kS3) yy_X1_takeCalls wv_X1_takeCalls ws_X1_takeCalls wm_X1_49 rfl cl_X1.1 ⟨rfl, rfl, Nat.le_of_ble_eq_true rfl, Nat.le_of_ble_eq_true rfl⟩ rfl rfl (Nat.le_of_ble_eq_true rfl) dX1_takeTexts_16 rfl ?_
    obtain ⟨y4, ey4⟩ : ∃ z : Int32, z = v2 + 1 := ⟨_, rfl⟩
    have h := tg_nmE ey4 h
    refine tg_iinc (lv2 := [(2, .int y4), (0, .ref (tg_ad x 11)), (1, .ref (tg_ad x 1))]) X dX1_takeTexts_19 2 rfl tk_i1 ey4 (by decide) rfl ?_
    refine tg_goto (tgt := 2) X dX1_takeTexts_22 (by decide) ?_
    refine tg_re [1, 2, 0] rfl ?_
    exact hr2 S3 y4 h
theorem wl_X1_takeTexts_2 {x : tg_X} {Sf : tg_S} (X : tg_M tauC x cX1_takeTexts 3 RX1 zr_X1_takeTexts none Sf none) : ∀ (n : Nat) (S : tg_S) (v2 : Int32) (h : L_X1_takeTexts_2  n S v2 = some Sf), tg_G tauC x S 2 [(0, .ref (tg_ad x 11)), (1, .ref (tg_ad x 1)), (2, .int v2)] [] := by
  intro n
  induction n with
  | zero => intro S v2 h; cases h
  | succ n ih => intro S v2 h; exact w_X1_takeTexts_2 X  ih S v2 h
set_option maxRecDepth 20000 in
set_option maxHeartbeats 4000000 in
theorem w_X1_takeTexts_0 {x : tg_X} {Sf : tg_S} (X : tg_M tauC x cX1_takeTexts 3 RX1 zr_X1_takeTexts none Sf none) (S : tg_S) (h : f_X1_takeTexts  S  = some Sf) : tg_G tauC x S 0 [(0, .ref (tg_ad x 11)), (1, .ref (tg_ad x 1))] [] := by
  unfold f_X1_takeTexts at h
  refine tg_iconst X dX1_takeTexts_0 tk_i0 ?_
  refine tg_istore_n (lv2 := [(2, .int 0), (0, .ref (tg_ad x 11)), (1, .ref (tg_ad x 1))]) X dX1_takeTexts_1 rfl (by decide) rfl ?_
  refine tg_re [1, 2, 0] rfl ?_
  exact wl_X1_takeTexts_2 X  tg_F S 0 h
theorem cm_X1_takeTexts (l : Launch) (D : va_G) (cy : Bool → ClassId) (ad : Nat → Nat) (tS : Nat) {S Sf : tg_S} (h : f_X1_takeTexts  S  = some Sf) : tg_Met l yX1_takeTexts cX1_takeTexts 3 none zr_X1_takeTexts tauC D cy ad tS S [.ref (ad 11), .ref (ad 1)] Sf none := tg_mk (by decide +kernel) trivial (Nat.le_of_ble_eq_true rfl) (fun p e s m args below meth c Q A X => w_X1_takeTexts_0 X S  h)
-- X3_happens
def zr_X3_happens : Room := { frames := 0, cells := 0, slots := 0, locals := 0 }
theorem dX3_happens_0 : decode cX3_happens 0 = .ok (.aload_n 0, 1) := by decide +kernel
theorem dX3_happens_1 : decode cX3_happens 1 = .ok (.getfield 15, 3) := by decide +kernel
theorem dX3_happens_4 : decode cX3_happens 4 = .ok (.iload_n 1, 1) := by decide +kernel
theorem dX3_happens_5 : decode cX3_happens 5 = .ok (.iaload, 1) := by decide +kernel
theorem dX3_happens_6 : decode cX3_happens 6 = .ok (.iload_n 2, 1) := by decide +kernel
theorem dX3_happens_7 : decode cX3_happens 7 = .ok (.if_icmp .ne 18, 3) := by decide +kernel
theorem dX3_happens_10 : decode cX3_happens 10 = .ok (.aload_n 0, 1) := by decide +kernel
theorem dX3_happens_11 : decode cX3_happens 11 = .ok (.getfield 25, 3) := by decide +kernel
theorem dX3_happens_14 : decode cX3_happens 14 = .ok (.iload_n 1, 1) := by decide +kernel
theorem dX3_happens_15 : decode cX3_happens 15 = .ok (.ishr, 1) := by decide +kernel
theorem dX3_happens_16 : decode cX3_happens 16 = .ok (.iconst 1, 1) := by decide +kernel
theorem dX3_happens_17 : decode cX3_happens 17 = .ok (.iand, 1) := by decide +kernel
theorem dX3_happens_18 : decode cX3_happens 18 = .ok (.ifCond .ne 7, 3) := by decide +kernel
theorem dX3_happens_21 : decode cX3_happens 21 = .ok (.iconst 1, 1) := by decide +kernel
theorem dX3_happens_22 : decode cX3_happens 22 = .ok (.goto 4, 3) := by decide +kernel
theorem dX3_happens_25 : decode cX3_happens 25 = .ok (.iconst 0, 1) := by decide +kernel
theorem dX3_happens_26 : decode cX3_happens 26 = .ok (.ireturn, 1) := by decide +kernel
set_option maxRecDepth 20000 in
set_option maxHeartbeats 4000000 in
theorem w_X3_happens_a_0 {x : tg_X} {Sf : tg_S} {r : Int32} (X : tg_M tauC x cX3_happens 3 RX3 zr_X3_happens (some .boolean) Sf (some (.int r))) (S : tg_S) (v1 : Int32) (v2 : Int32) (h : f_X3_happens 19 S v1 v2 = some (Sf, r)) : tg_G tauC x S 0 [(0, .ref (tg_ad x 19)), (1, .int v1), (2, .int v2)] [] := by
  unfold f_X3_happens at h
  refine tg_aload_n X dX3_happens_0 rfl 0 rfl ?_
  refine tg_getr X 19 rfl cl_X3 1 (by decide) rfl wf_X3_15 dX3_happens_1 ?_
  refine tg_iload_n X dX3_happens_4 rfl 1 rfl ?_
  obtain ⟨y1, ey1, by1, h⟩ := tg_rdE h
  refine tg_iald X 21 rfl ey1 by1 dX3_happens_5 ?_
  refine tg_iload_n X dX3_happens_6 rfl 2 rfl ?_
  refine tg_icmp_ne (tgt := 25) X dX3_happens_7 (by decide) (fun c2 => ?_) (fun c2 => ?_)
  · have h := tg_ifF c2 h
    refine tg_iconst X dX3_happens_25 tk_i0 ?_
    exact tg_iret X h rfl dX3_happens_26
  · have h := tg_ifT c2 h
    refine tg_aload_n X dX3_happens_10 rfl 0 rfl ?_
    refine tg_geti X 19 rfl cl_X3 4 (by decide) rfl wf_X3_25 dX3_happens_11 ?_
    refine tg_iload_n X dX3_happens_14 rfl 1 rfl ?_
    refine tg_ishr X dX3_happens_15 ?_
    refine tg_iconst X dX3_happens_16 tk_i1 ?_
    refine tg_iand X dX3_happens_17 ?_
    refine tg_if_ne (tgt := 25) X dX3_happens_18 (by decide) (fun c3 => ?_) (fun c3 => ?_)
    · have h := tg_ifF c3 h
      refine tg_iconst X dX3_happens_25 tk_i0 ?_
      exact tg_iret X h rfl dX3_happens_26
    · have h := tg_ifT c3 h
      refine tg_iconst X dX3_happens_21 tk_i1 ?_
      refine tg_goto (tgt := 26) X dX3_happens_22 (by decide) ?_
      exact tg_iret X h rfl dX3_happens_26
theorem cm_X3_happens_a (l : Launch) (D : va_G) (cy : Bool → ClassId) (ad : Nat → Nat) (tS : Nat) {S Sf : tg_S} {v1 : Int32} {v2 : Int32} {r : Int32} (h : f_X3_happens 19 S v1 v2 = some (Sf, r)) : tg_Met l yX3_happens cX3_happens 3 (some .boolean) zr_X3_happens tauC D cy ad tS S [.ref (ad 19), .int v1, .int v2] Sf (some (.int r)) := tg_mk (by decide +kernel) trivial (Nat.le_of_ble_eq_true rfl) (fun p e s m args below meth c Q A X => w_X3_happens_a_0 X S v1 v2 h)
set_option maxRecDepth 20000 in
set_option maxHeartbeats 4000000 in
theorem w_X3_happens_b_0 {x : tg_X} {Sf : tg_S} {r : Int32} (X : tg_M tauC x cX3_happens 3 RX3 zr_X3_happens (some .boolean) Sf (some (.int r))) (S : tg_S) (v1 : Int32) (v2 : Int32) (h : f_X3_happens 31 S v1 v2 = some (Sf, r)) : tg_G tauC x S 0 [(0, .ref (tg_ad x 31)), (1, .int v1), (2, .int v2)] [] := by
  unfold f_X3_happens at h
  refine tg_aload_n X dX3_happens_0 rfl 0 rfl ?_
  refine tg_getr X 31 rfl cl_X3 1 (by decide) rfl wf_X3_15 dX3_happens_1 ?_
  refine tg_iload_n X dX3_happens_4 rfl 1 rfl ?_
  obtain ⟨y1, ey1, by1, h⟩ := tg_rdE h
  refine tg_iald X 33 rfl ey1 by1 dX3_happens_5 ?_
  refine tg_iload_n X dX3_happens_6 rfl 2 rfl ?_
  refine tg_icmp_ne (tgt := 25) X dX3_happens_7 (by decide) (fun c2 => ?_) (fun c2 => ?_)
  · have h := tg_ifF c2 h
    refine tg_iconst X dX3_happens_25 tk_i0 ?_
    exact tg_iret X h rfl dX3_happens_26
  · have h := tg_ifT c2 h
    refine tg_aload_n X dX3_happens_10 rfl 0 rfl ?_
    refine tg_geti X 31 rfl cl_X3 4 (by decide) rfl wf_X3_25 dX3_happens_11 ?_
    refine tg_iload_n X dX3_happens_14 rfl 1 rfl ?_
    refine tg_ishr X dX3_happens_15 ?_
    refine tg_iconst X dX3_happens_16 tk_i1 ?_
    refine tg_iand X dX3_happens_17 ?_
    refine tg_if_ne (tgt := 25) X dX3_happens_18 (by decide) (fun c3 => ?_) (fun c3 => ?_)
    · have h := tg_ifF c3 h
      refine tg_iconst X dX3_happens_25 tk_i0 ?_
      exact tg_iret X h rfl dX3_happens_26
    · have h := tg_ifT c3 h
      refine tg_iconst X dX3_happens_21 tk_i1 ?_
      refine tg_goto (tgt := 26) X dX3_happens_22 (by decide) ?_
      exact tg_iret X h rfl dX3_happens_26
theorem cm_X3_happens_b (l : Launch) (D : va_G) (cy : Bool → ClassId) (ad : Nat → Nat) (tS : Nat) {S Sf : tg_S} {v1 : Int32} {v2 : Int32} {r : Int32} (h : f_X3_happens 31 S v1 v2 = some (Sf, r)) : tg_Met l yX3_happens cX3_happens 3 (some .boolean) zr_X3_happens tauC D cy ad tS S [.ref (ad 31), .int v1, .int v2] Sf (some (.int r)) := tg_mk (by decide +kernel) trivial (Nat.le_of_ble_eq_true rfl) (fun p e s m args below meth c Q A X => w_X3_happens_b_0 X S v1 v2 h)
-- X2_meetEvents
def zr_X2_meetEvents : Room := { frames := 1, cells := 0, slots := 0, locals := 22 }
theorem dX2_meetEvents_0 : decode cX2_meetEvents 0 = .ok (.aload_n 0, 1) := by decide +kernel
theorem dX2_meetEvents_1 : decode cX2_meetEvents 1 = .ok (.iconst 0, 1) := by decide +kernel
theorem dX2_meetEvents_2 : decode cX2_meetEvents 2 = .ok (.putfield 43, 3) := by decide +kernel
theorem dX2_meetEvents_5 : decode cX2_meetEvents 5 = .ok (.aload_n 0, 1) := by decide +kernel
theorem dX2_meetEvents_6 : decode cX2_meetEvents 6 = .ok (.iconst 0, 1) := by decide +kernel
theorem dX2_meetEvents_7 : decode cX2_meetEvents 7 = .ok (.putfield 46, 3) := by decide +kernel
theorem dX2_meetEvents_10 : decode cX2_meetEvents 10 = .ok (.iconst 0, 1) := by decide +kernel
theorem dX2_meetEvents_11 : decode cX2_meetEvents 11 = .ok (.istore_n 3, 1) := by decide +kernel
theorem dX2_meetEvents_12 : decode cX2_meetEvents 12 = .ok (.iload_n 3, 1) := by decide +kernel
theorem dX2_meetEvents_13 : decode cX2_meetEvents 13 = .ok (.aload_n 1, 1) := by decide +kernel
theorem dX2_meetEvents_14 : decode cX2_meetEvents 14 = .ok (.getfield 84, 3) := by decide +kernel
theorem dX2_meetEvents_17 : decode cX2_meetEvents 17 = .ok (.if_icmp .ge 86, 3) := by decide +kernel
theorem dX2_meetEvents_20 : decode cX2_meetEvents 20 = .ok (.aload_n 1, 1) := by decide +kernel
theorem dX2_meetEvents_21 : decode cX2_meetEvents 21 = .ok (.iload_n 3, 1) := by decide +kernel
theorem dX2_meetEvents_22 : decode cX2_meetEvents 22 = .ok (.iload_n 2, 1) := by decide +kernel
theorem dX2_meetEvents_23 : decode cX2_meetEvents 23 = .ok (.invokevirtual 89, 3) := by decide +kernel
theorem dX2_meetEvents_26 : decode cX2_meetEvents 26 = .ok (.ifCond .eq 71, 3) := by decide +kernel
theorem dX2_meetEvents_29 : decode cX2_meetEvents 29 = .ok (.aload_n 1, 1) := by decide +kernel
theorem dX2_meetEvents_30 : decode cX2_meetEvents 30 = .ok (.getfield 93, 3) := by decide +kernel
theorem dX2_meetEvents_33 : decode cX2_meetEvents 33 = .ok (.iload_n 3, 1) := by decide +kernel
theorem dX2_meetEvents_34 : decode cX2_meetEvents 34 = .ok (.iaload, 1) := by decide +kernel
theorem dX2_meetEvents_35 : decode cX2_meetEvents 35 = .ok (.istore 4, 2) := by decide +kernel
theorem dX2_meetEvents_37 : decode cX2_meetEvents 37 = .ok (.iload 4, 2) := by decide +kernel
theorem dX2_meetEvents_39 : decode cX2_meetEvents 39 = .ok (.ifCond .ne 23, 3) := by decide +kernel
theorem dX2_meetEvents_42 : decode cX2_meetEvents 42 = .ok (.aload_n 0, 1) := by decide +kernel
theorem dX2_meetEvents_43 : decode cX2_meetEvents 43 = .ok (.dup, 1) := by decide +kernel
theorem dX2_meetEvents_44 : decode cX2_meetEvents 44 = .ok (.getfield 43, 3) := by decide +kernel
theorem dX2_meetEvents_47 : decode cX2_meetEvents 47 = .ok (.iconst 1, 1) := by decide +kernel
theorem dX2_meetEvents_48 : decode cX2_meetEvents 48 = .ok (.aload_n 1, 1) := by decide +kernel
theorem dX2_meetEvents_49 : decode cX2_meetEvents 49 = .ok (.getfield 96, 3) := by decide +kernel
theorem dX2_meetEvents_52 : decode cX2_meetEvents 52 = .ok (.iload_n 3, 1) := by decide +kernel
theorem dX2_meetEvents_53 : decode cX2_meetEvents 53 = .ok (.iaload, 1) := by decide +kernel
theorem dX2_meetEvents_54 : decode cX2_meetEvents 54 = .ok (.ishl, 1) := by decide +kernel
theorem dX2_meetEvents_55 : decode cX2_meetEvents 55 = .ok (.ior, 1) := by decide +kernel
theorem dX2_meetEvents_56 : decode cX2_meetEvents 56 = .ok (.putfield 43, 3) := by decide +kernel
theorem dX2_meetEvents_59 : decode cX2_meetEvents 59 = .ok (.goto 38, 3) := by decide +kernel
theorem dX2_meetEvents_62 : decode cX2_meetEvents 62 = .ok (.iload 4, 2) := by decide +kernel
theorem dX2_meetEvents_64 : decode cX2_meetEvents 64 = .ok (.iconst 1, 1) := by decide +kernel
theorem dX2_meetEvents_65 : decode cX2_meetEvents 65 = .ok (.if_icmp .ne 21, 3) := by decide +kernel
theorem dX2_meetEvents_68 : decode cX2_meetEvents 68 = .ok (.aload_n 0, 1) := by decide +kernel
theorem dX2_meetEvents_69 : decode cX2_meetEvents 69 = .ok (.bipush 9, 2) := by decide +kernel
theorem dX2_meetEvents_71 : decode cX2_meetEvents 71 = .ok (.aload_n 0, 1) := by decide +kernel
theorem dX2_meetEvents_72 : decode cX2_meetEvents 72 = .ok (.getfield 40, 3) := by decide +kernel
theorem dX2_meetEvents_75 : decode cX2_meetEvents 75 = .ok (.iconst 1, 1) := by decide +kernel
theorem dX2_meetEvents_76 : decode cX2_meetEvents 76 = .ok (.iadd, 1) := by decide +kernel
theorem dX2_meetEvents_77 : decode cX2_meetEvents 77 = .ok (.invokestatic 99, 3) := by decide +kernel
theorem dX2_meetEvents_80 : decode cX2_meetEvents 80 = .ok (.putfield 40, 3) := by decide +kernel
theorem dX2_meetEvents_83 : decode cX2_meetEvents 83 = .ok (.goto 14, 3) := by decide +kernel
theorem dX2_meetEvents_86 : decode cX2_meetEvents 86 = .ok (.iload 4, 2) := by decide +kernel
theorem dX2_meetEvents_88 : decode cX2_meetEvents 88 = .ok (.iconst 2, 1) := by decide +kernel
theorem dX2_meetEvents_89 : decode cX2_meetEvents 89 = .ok (.if_icmp .ne 8, 3) := by decide +kernel
theorem dX2_meetEvents_92 : decode cX2_meetEvents 92 = .ok (.aload_n 0, 1) := by decide +kernel
theorem dX2_meetEvents_93 : decode cX2_meetEvents 93 = .ok (.iconst 1, 1) := by decide +kernel
theorem dX2_meetEvents_94 : decode cX2_meetEvents 94 = .ok (.putfield 46, 3) := by decide +kernel
theorem dX2_meetEvents_97 : decode cX2_meetEvents 97 = .ok (.iinc 3 1, 3) := by decide +kernel
theorem dX2_meetEvents_100 : decode cX2_meetEvents 100 = .ok (.goto (-88), 3) := by decide +kernel
theorem dX2_meetEvents_103 : decode cX2_meetEvents 103 = .ok (.return_, 1) := by decide +kernel
set_option maxRecDepth 20000 in
set_option maxHeartbeats 4000000 in
theorem w_X2_meetEvents_a_97 {x : tg_X} {Sf : tg_S} {rec12 : tg_S → Int32 → Int32 → Option (tg_S)} (X : tg_M tauC x cX2_meetEvents 5 RX2 zr_X2_meetEvents none Sf none) (hr12 : ∀ (S : tg_S) (v2 : Int32) (v3 : Int32), rec12 S v2 v3 = some Sf → tg_G tauC x S 12 [(0, .ref (tg_ad x 35)), (1, .ref (tg_ad x 19)), (2, .int v2), (3, .int v3)] []) (S : tg_S) (v2 : Int32) (v3 : Int32) (h : f_X2_meetEvents_97 35 19 rec12 S v2 v3 = some Sf) : tg_G tauC x S 97 [(0, .ref (tg_ad x 35)), (1, .ref (tg_ad x 19)), (2, .int v2), (3, .int v3)] [] := by
  unfold f_X2_meetEvents_97 at h
  obtain ⟨y1, ey1⟩ : ∃ z : Int32, z = v3 + 1 := ⟨_, rfl⟩
  have h := tg_nmE ey1 h
  refine tg_iinc (lv2 := [(3, .int y1), (0, .ref (tg_ad x 35)), (1, .ref (tg_ad x 19)), (2, .int v2)]) X dX2_meetEvents_97 3 rfl tk_i1 ey1 (by decide) rfl ?_
  refine tg_goto (tgt := 12) X dX2_meetEvents_100 (by decide) ?_
  refine tg_re [1, 2, 3, 0] rfl ?_
  exact hr12 S v2 y1 h
set_option maxRecDepth 20000 in
set_option maxHeartbeats 4000000 in
theorem w_X2_meetEvents_a_12 {x : tg_X} {Sf : tg_S} {rec12 : tg_S → Int32 → Int32 → Option (tg_S)} (X : tg_M tauC x cX2_meetEvents 5 RX2 zr_X2_meetEvents none Sf none) (hr12 : ∀ (S : tg_S) (v2 : Int32) (v3 : Int32), rec12 S v2 v3 = some Sf → tg_G tauC x S 12 [(0, .ref (tg_ad x 35)), (1, .ref (tg_ad x 19)), (2, .int v2), (3, .int v3)] []) (S : tg_S) (v2 : Int32) (v3 : Int32) (h : f_X2_meetEvents_12 35 19 rec12 S v2 v3 = some Sf) : tg_G tauC x S 12 [(0, .ref (tg_ad x 35)), (1, .ref (tg_ad x 19)), (2, .int v2), (3, .int v3)] [] := by
  unfold f_X2_meetEvents_12 at h
  refine tg_iload_n X dX2_meetEvents_12 rfl 3 rfl ?_
  refine tg_aload_n X dX2_meetEvents_13 rfl 1 rfl ?_
  refine tg_geti X 19 rfl cl_X3 3 (by decide) rfl wf_X2_84 dX2_meetEvents_14 ?_
  refine tg_icmp_ge (tgt := 103) X dX2_meetEvents_17 (by decide) (fun c1 => ?_) (fun c1 => ?_)
  · have h := tg_ifT c1 h
    exact tg_vret X h dX2_meetEvents_103
  · have h := tg_ifF c1 h
    refine tg_aload_n X dX2_meetEvents_20 rfl 1 rfl ?_
    refine tg_iload_n X dX2_meetEvents_21 rfl 3 rfl ?_
    refine tg_iload_n X dX2_meetEvents_22 rfl 2 rfl ?_
    obtain ⟨S2, r3, kS2, h⟩ := tg_bdE h
    refine tg_callV (As := [.int v3, .int v2]) (rest := []) X 19 (cm_X3_happens_a _ _ _ _ _ kS2) yy_X3_happens wv_X3_happens ws_X3_happens wm_X2_89 rfl cl_X3.1 ⟨rfl, rfl, Nat.le_of_ble_eq_true rfl, Nat.le_of_ble_eq_true rfl⟩ rfl rfl (Nat.le_of_ble_eq_true rfl) dX2_meetEvents_23 rfl ?_
    refine tg_if_eq (tgt := 97) X dX2_meetEvents_26 (by decide) (fun c4 => ?_) (fun c4 => ?_)
    · have h := tg_ifT c4 h
      exact w_X2_meetEvents_a_97 X hr12 S2 v2 v3 h
    · have h := tg_ifF c4 h
      refine tg_aload_n X dX2_meetEvents_29 rfl 1 rfl ?_
      refine tg_getr X 19 rfl cl_X3 0 (by decide) rfl wf_X2_93 dX2_meetEvents_30 ?_
      refine tg_iload_n X dX2_meetEvents_33 rfl 3 rfl ?_
      obtain ⟨y5, ey5, by5, h⟩ := tg_rdE h
      refine tg_iald X 20 rfl ey5 by5 dX2_meetEvents_34 ?_
      refine tg_istore (lv2 := [(4, .int y5), (0, .ref (tg_ad x 35)), (1, .ref (tg_ad x 19)), (2, .int v2), (3, .int v3)]) X dX2_meetEvents_35 (by decide) rfl ?_
      refine tg_iload X dX2_meetEvents_37 0 rfl ?_
      refine tg_if_ne (tgt := 62) X dX2_meetEvents_39 (by decide) (fun c6 => ?_) (fun c6 => ?_)
      · have h := tg_ifF c6 h
        refine tg_iload X dX2_meetEvents_62 0 rfl ?_
        refine tg_iconst X dX2_meetEvents_64 tk_i1 ?_
        refine tg_icmp_ne (tgt := 86) X dX2_meetEvents_65 (by decide) (fun c7 => ?_) (fun c7 => ?_)
        · have h := tg_ifF c7 h
          refine tg_iload X dX2_meetEvents_86 0 rfl ?_
          refine tg_iconst X dX2_meetEvents_88 tk_i2 ?_
          refine tg_icmp_ne (tgt := 97) X dX2_meetEvents_89 (by decide) (fun c8 => ?_) (fun c8 => ?_)
          · have h := tg_ifF c8 h
            refine tg_re [1, 2, 3, 4] rfl ?_
            exact w_X2_meetEvents_a_97 X hr12 S2 v2 v3 h
          · have h := tg_ifT c8 h
            refine tg_aload_n X dX2_meetEvents_92 rfl 1 rfl ?_
            refine tg_iconst X dX2_meetEvents_93 tk_i1 ?_
            obtain ⟨S9, eS9, h⟩ := tg_pfE h
            refine tg_puti X 35 rfl cl_X2 11 (by decide) rfl wf_X2_46 rfl rfl rfl dX2_meetEvents_94 eS9 ?_
            refine tg_re [1, 2, 3, 4] rfl ?_
            exact w_X2_meetEvents_a_97 X hr12 S9 v2 v3 h
        · have h := tg_ifT c7 h
          refine tg_aload_n X dX2_meetEvents_68 rfl 1 rfl ?_
          refine tg_bipush X dX2_meetEvents_69 tk_b9 ?_
          refine tg_aload_n X dX2_meetEvents_71 rfl 1 rfl ?_
          refine tg_geti X 35 rfl cl_X2 9 (by decide) rfl wf_X2_40 dX2_meetEvents_72 ?_
          refine tg_iconst X dX2_meetEvents_75 tk_i1 ?_
          refine tg_iadd X dX2_meetEvents_76 ?_
          refine tg_mmin X ⟨wm_X2_99, wt_Mmin, wi_Math, wc_Mmin⟩ ⟨Nat.le_of_ble_eq_true rfl, Nat.le_of_ble_eq_true rfl⟩ dX2_meetEvents_77 ?_
          obtain ⟨S10, eS10, h⟩ := tg_pfE h
          refine tg_puti X 35 rfl cl_X2 9 (by decide) rfl wf_X2_40 rfl rfl rfl dX2_meetEvents_80 eS10 ?_
          refine tg_goto (tgt := 97) X dX2_meetEvents_83 (by decide) ?_
          refine tg_re [1, 2, 3, 4] rfl ?_
          exact w_X2_meetEvents_a_97 X hr12 S10 v2 v3 h
      · have h := tg_ifT c6 h
        refine tg_aload_n X dX2_meetEvents_42 rfl 1 rfl ?_
        refine tg_dup X dX2_meetEvents_43 rfl ?_
        refine tg_geti X 35 rfl cl_X2 10 (by decide) rfl wf_X2_43 dX2_meetEvents_44 ?_
        refine tg_iconst X dX2_meetEvents_47 tk_i1 ?_
        refine tg_aload_n X dX2_meetEvents_48 rfl 2 rfl ?_
        refine tg_getr X 19 rfl cl_X3 2 (by decide) rfl wf_X2_96 dX2_meetEvents_49 ?_
        refine tg_iload_n X dX2_meetEvents_52 rfl 4 rfl ?_
        obtain ⟨y11, ey11, by11, h⟩ := tg_rdE h
        refine tg_iald X 22 rfl ey11 by11 dX2_meetEvents_53 ?_
        refine tg_ishl X dX2_meetEvents_54 ?_
        refine tg_ior X dX2_meetEvents_55 ?_
        obtain ⟨S12, eS12, h⟩ := tg_pfE h
        refine tg_puti X 35 rfl cl_X2 10 (by decide) rfl wf_X2_43 rfl rfl rfl dX2_meetEvents_56 eS12 ?_
        refine tg_goto (tgt := 97) X dX2_meetEvents_59 (by decide) ?_
        refine tg_re [1, 2, 3, 4] rfl ?_
        exact w_X2_meetEvents_a_97 X hr12 S12 v2 v3 h
theorem wl_X2_meetEvents_a_12 {x : tg_X} {Sf : tg_S} (X : tg_M tauC x cX2_meetEvents 5 RX2 zr_X2_meetEvents none Sf none) : ∀ (n : Nat) (S : tg_S) (v2 : Int32) (v3 : Int32) (h : L_X2_meetEvents_12 35 19 n S v2 v3 = some Sf), tg_G tauC x S 12 [(0, .ref (tg_ad x 35)), (1, .ref (tg_ad x 19)), (2, .int v2), (3, .int v3)] [] := by
  intro n
  induction n with
  | zero => intro S v2 v3 h; cases h
  | succ n ih => intro S v2 v3 h; exact w_X2_meetEvents_a_12 X  ih S v2 v3 h
set_option maxRecDepth 20000 in
set_option maxHeartbeats 4000000 in
theorem w_X2_meetEvents_a_0 {x : tg_X} {Sf : tg_S} (X : tg_M tauC x cX2_meetEvents 5 RX2 zr_X2_meetEvents none Sf none) (S : tg_S) (v2 : Int32) (h : f_X2_meetEvents 35 19 S v2 = some Sf) : tg_G tauC x S 0 [(0, .ref (tg_ad x 35)), (1, .ref (tg_ad x 19)), (2, .int v2)] [] := by
  unfold f_X2_meetEvents at h
  refine tg_aload_n X dX2_meetEvents_0 rfl 0 rfl ?_
  refine tg_iconst X dX2_meetEvents_1 tk_i0 ?_
  obtain ⟨S1, eS1, h⟩ := tg_pfE h
  refine tg_puti X 35 rfl cl_X2 10 (by decide) rfl wf_X2_43 rfl rfl rfl dX2_meetEvents_2 eS1 ?_
  refine tg_aload_n X dX2_meetEvents_5 rfl 0 rfl ?_
  refine tg_iconst X dX2_meetEvents_6 tk_i0 ?_
  obtain ⟨S2, eS2, h⟩ := tg_pfE h
  refine tg_puti X 35 rfl cl_X2 11 (by decide) rfl wf_X2_46 rfl rfl rfl dX2_meetEvents_7 eS2 ?_
  refine tg_iconst X dX2_meetEvents_10 tk_i0 ?_
  refine tg_istore_n (lv2 := [(3, .int 0), (0, .ref (tg_ad x 35)), (1, .ref (tg_ad x 19)), (2, .int v2)]) X dX2_meetEvents_11 rfl (by decide) rfl ?_
  refine tg_re [1, 2, 3, 0] rfl ?_
  exact wl_X2_meetEvents_a_12 X  tg_F S2 v2 0 h
theorem cm_X2_meetEvents_a (l : Launch) (D : va_G) (cy : Bool → ClassId) (ad : Nat → Nat) (tS : Nat) {S Sf : tg_S} {v2 : Int32} (h : f_X2_meetEvents 35 19 S v2 = some Sf) : tg_Met l yX2_meetEvents cX2_meetEvents 5 none zr_X2_meetEvents tauC D cy ad tS S [.ref (ad 35), .ref (ad 19), .int v2] Sf none := tg_mk (by decide +kernel) trivial (Nat.le_of_ble_eq_true rfl) (fun p e s m args below meth c Q A X => w_X2_meetEvents_a_0 X S v2 h)
set_option maxRecDepth 20000 in
set_option maxHeartbeats 4000000 in
theorem w_X2_meetEvents_b_97 {x : tg_X} {Sf : tg_S} {rec12 : tg_S → Int32 → Int32 → Option (tg_S)} (X : tg_M tauC x cX2_meetEvents 5 RX2 zr_X2_meetEvents none Sf none) (hr12 : ∀ (S : tg_S) (v2 : Int32) (v3 : Int32), rec12 S v2 v3 = some Sf → tg_G tauC x S 12 [(0, .ref (tg_ad x 42)), (1, .ref (tg_ad x 31)), (2, .int v2), (3, .int v3)] []) (S : tg_S) (v2 : Int32) (v3 : Int32) (h : f_X2_meetEvents_97 42 31 rec12 S v2 v3 = some Sf) : tg_G tauC x S 97 [(0, .ref (tg_ad x 42)), (1, .ref (tg_ad x 31)), (2, .int v2), (3, .int v3)] [] := by
  unfold f_X2_meetEvents_97 at h
  obtain ⟨y1, ey1⟩ : ∃ z : Int32, z = v3 + 1 := ⟨_, rfl⟩
  have h := tg_nmE ey1 h
  refine tg_iinc (lv2 := [(3, .int y1), (0, .ref (tg_ad x 42)), (1, .ref (tg_ad x 31)), (2, .int v2)]) X dX2_meetEvents_97 3 rfl tk_i1 ey1 (by decide) rfl ?_
  refine tg_goto (tgt := 12) X dX2_meetEvents_100 (by decide) ?_
  refine tg_re [1, 2, 3, 0] rfl ?_
  exact hr12 S v2 y1 h
set_option maxRecDepth 20000 in
set_option maxHeartbeats 4000000 in
theorem w_X2_meetEvents_b_12 {x : tg_X} {Sf : tg_S} {rec12 : tg_S → Int32 → Int32 → Option (tg_S)} (X : tg_M tauC x cX2_meetEvents 5 RX2 zr_X2_meetEvents none Sf none) (hr12 : ∀ (S : tg_S) (v2 : Int32) (v3 : Int32), rec12 S v2 v3 = some Sf → tg_G tauC x S 12 [(0, .ref (tg_ad x 42)), (1, .ref (tg_ad x 31)), (2, .int v2), (3, .int v3)] []) (S : tg_S) (v2 : Int32) (v3 : Int32) (h : f_X2_meetEvents_12 42 31 rec12 S v2 v3 = some Sf) : tg_G tauC x S 12 [(0, .ref (tg_ad x 42)), (1, .ref (tg_ad x 31)), (2, .int v2), (3, .int v3)] [] := by
  unfold f_X2_meetEvents_12 at h
  refine tg_iload_n X dX2_meetEvents_12 rfl 3 rfl ?_
  refine tg_aload_n X dX2_meetEvents_13 rfl 1 rfl ?_
  refine tg_geti X 31 rfl cl_X3 3 (by decide) rfl wf_X2_84 dX2_meetEvents_14 ?_
  refine tg_icmp_ge (tgt := 103) X dX2_meetEvents_17 (by decide) (fun c1 => ?_) (fun c1 => ?_)
  · have h := tg_ifT c1 h
    exact tg_vret X h dX2_meetEvents_103
  · have h := tg_ifF c1 h
    refine tg_aload_n X dX2_meetEvents_20 rfl 1 rfl ?_
    refine tg_iload_n X dX2_meetEvents_21 rfl 3 rfl ?_
    refine tg_iload_n X dX2_meetEvents_22 rfl 2 rfl ?_
    obtain ⟨S2, r3, kS2, h⟩ := tg_bdE h
    refine tg_callV (As := [.int v3, .int v2]) (rest := []) X 31 (cm_X3_happens_b _ _ _ _ _ kS2) yy_X3_happens wv_X3_happens ws_X3_happens wm_X2_89 rfl cl_X3.1 ⟨rfl, rfl, Nat.le_of_ble_eq_true rfl, Nat.le_of_ble_eq_true rfl⟩ rfl rfl (Nat.le_of_ble_eq_true rfl) dX2_meetEvents_23 rfl ?_
    refine tg_if_eq (tgt := 97) X dX2_meetEvents_26 (by decide) (fun c4 => ?_) (fun c4 => ?_)
    · have h := tg_ifT c4 h
      exact w_X2_meetEvents_b_97 X hr12 S2 v2 v3 h
    · have h := tg_ifF c4 h
      refine tg_aload_n X dX2_meetEvents_29 rfl 1 rfl ?_
      refine tg_getr X 31 rfl cl_X3 0 (by decide) rfl wf_X2_93 dX2_meetEvents_30 ?_
      refine tg_iload_n X dX2_meetEvents_33 rfl 3 rfl ?_
      obtain ⟨y5, ey5, by5, h⟩ := tg_rdE h
      refine tg_iald X 32 rfl ey5 by5 dX2_meetEvents_34 ?_
      refine tg_istore (lv2 := [(4, .int y5), (0, .ref (tg_ad x 42)), (1, .ref (tg_ad x 31)), (2, .int v2), (3, .int v3)]) X dX2_meetEvents_35 (by decide) rfl ?_
      refine tg_iload X dX2_meetEvents_37 0 rfl ?_
      refine tg_if_ne (tgt := 62) X dX2_meetEvents_39 (by decide) (fun c6 => ?_) (fun c6 => ?_)
      · have h := tg_ifF c6 h
        refine tg_iload X dX2_meetEvents_62 0 rfl ?_
        refine tg_iconst X dX2_meetEvents_64 tk_i1 ?_
        refine tg_icmp_ne (tgt := 86) X dX2_meetEvents_65 (by decide) (fun c7 => ?_) (fun c7 => ?_)
        · have h := tg_ifF c7 h
          refine tg_iload X dX2_meetEvents_86 0 rfl ?_
          refine tg_iconst X dX2_meetEvents_88 tk_i2 ?_
          refine tg_icmp_ne (tgt := 97) X dX2_meetEvents_89 (by decide) (fun c8 => ?_) (fun c8 => ?_)
          · have h := tg_ifF c8 h
            refine tg_re [1, 2, 3, 4] rfl ?_
            exact w_X2_meetEvents_b_97 X hr12 S2 v2 v3 h
          · have h := tg_ifT c8 h
            refine tg_aload_n X dX2_meetEvents_92 rfl 1 rfl ?_
            refine tg_iconst X dX2_meetEvents_93 tk_i1 ?_
            obtain ⟨S9, eS9, h⟩ := tg_pfE h
            refine tg_puti X 42 rfl cl_X2 11 (by decide) rfl wf_X2_46 rfl rfl rfl dX2_meetEvents_94 eS9 ?_
            refine tg_re [1, 2, 3, 4] rfl ?_
            exact w_X2_meetEvents_b_97 X hr12 S9 v2 v3 h
        · have h := tg_ifT c7 h
          refine tg_aload_n X dX2_meetEvents_68 rfl 1 rfl ?_
          refine tg_bipush X dX2_meetEvents_69 tk_b9 ?_
          refine tg_aload_n X dX2_meetEvents_71 rfl 1 rfl ?_
          refine tg_geti X 42 rfl cl_X2 9 (by decide) rfl wf_X2_40 dX2_meetEvents_72 ?_
          refine tg_iconst X dX2_meetEvents_75 tk_i1 ?_
          refine tg_iadd X dX2_meetEvents_76 ?_
          refine tg_mmin X ⟨wm_X2_99, wt_Mmin, wi_Math, wc_Mmin⟩ ⟨Nat.le_of_ble_eq_true rfl, Nat.le_of_ble_eq_true rfl⟩ dX2_meetEvents_77 ?_
          obtain ⟨S10, eS10, h⟩ := tg_pfE h
          refine tg_puti X 42 rfl cl_X2 9 (by decide) rfl wf_X2_40 rfl rfl rfl dX2_meetEvents_80 eS10 ?_
          refine tg_goto (tgt := 97) X dX2_meetEvents_83 (by decide) ?_
          refine tg_re [1, 2, 3, 4] rfl ?_
          exact w_X2_meetEvents_b_97 X hr12 S10 v2 v3 h
      · have h := tg_ifT c6 h
        refine tg_aload_n X dX2_meetEvents_42 rfl 1 rfl ?_
        refine tg_dup X dX2_meetEvents_43 rfl ?_
        refine tg_geti X 42 rfl cl_X2 10 (by decide) rfl wf_X2_43 dX2_meetEvents_44 ?_
        refine tg_iconst X dX2_meetEvents_47 tk_i1 ?_
        refine tg_aload_n X dX2_meetEvents_48 rfl 2 rfl ?_
        refine tg_getr X 31 rfl cl_X3 2 (by decide) rfl wf_X2_96 dX2_meetEvents_49 ?_
        refine tg_iload_n X dX2_meetEvents_52 rfl 4 rfl ?_
        obtain ⟨y11, ey11, by11, h⟩ := tg_rdE h
        refine tg_iald X 34 rfl ey11 by11 dX2_meetEvents_53 ?_
        refine tg_ishl X dX2_meetEvents_54 ?_
        refine tg_ior X dX2_meetEvents_55 ?_
        obtain ⟨S12, eS12, h⟩ := tg_pfE h
        refine tg_puti X 42 rfl cl_X2 10 (by decide) rfl wf_X2_43 rfl rfl rfl dX2_meetEvents_56 eS12 ?_
        refine tg_goto (tgt := 97) X dX2_meetEvents_59 (by decide) ?_
        refine tg_re [1, 2, 3, 4] rfl ?_
        exact w_X2_meetEvents_b_97 X hr12 S12 v2 v3 h
theorem wl_X2_meetEvents_b_12 {x : tg_X} {Sf : tg_S} (X : tg_M tauC x cX2_meetEvents 5 RX2 zr_X2_meetEvents none Sf none) : ∀ (n : Nat) (S : tg_S) (v2 : Int32) (v3 : Int32) (h : L_X2_meetEvents_12 42 31 n S v2 v3 = some Sf), tg_G tauC x S 12 [(0, .ref (tg_ad x 42)), (1, .ref (tg_ad x 31)), (2, .int v2), (3, .int v3)] [] := by
  intro n
  induction n with
  | zero => intro S v2 v3 h; cases h
  | succ n ih => intro S v2 v3 h; exact w_X2_meetEvents_b_12 X  ih S v2 v3 h
set_option maxRecDepth 20000 in
set_option maxHeartbeats 4000000 in
theorem w_X2_meetEvents_b_0 {x : tg_X} {Sf : tg_S} (X : tg_M tauC x cX2_meetEvents 5 RX2 zr_X2_meetEvents none Sf none) (S : tg_S) (v2 : Int32) (h : f_X2_meetEvents 42 31 S v2 = some Sf) : tg_G tauC x S 0 [(0, .ref (tg_ad x 42)), (1, .ref (tg_ad x 31)), (2, .int v2)] [] := by
  unfold f_X2_meetEvents at h
  refine tg_aload_n X dX2_meetEvents_0 rfl 0 rfl ?_
  refine tg_iconst X dX2_meetEvents_1 tk_i0 ?_
  obtain ⟨S1, eS1, h⟩ := tg_pfE h
  refine tg_puti X 42 rfl cl_X2 10 (by decide) rfl wf_X2_43 rfl rfl rfl dX2_meetEvents_2 eS1 ?_
  refine tg_aload_n X dX2_meetEvents_5 rfl 0 rfl ?_
  refine tg_iconst X dX2_meetEvents_6 tk_i0 ?_
  obtain ⟨S2, eS2, h⟩ := tg_pfE h
  refine tg_puti X 42 rfl cl_X2 11 (by decide) rfl wf_X2_46 rfl rfl rfl dX2_meetEvents_7 eS2 ?_
  refine tg_iconst X dX2_meetEvents_10 tk_i0 ?_
  refine tg_istore_n (lv2 := [(3, .int 0), (0, .ref (tg_ad x 42)), (1, .ref (tg_ad x 31)), (2, .int v2)]) X dX2_meetEvents_11 rfl (by decide) rfl ?_
  refine tg_re [1, 2, 3, 0] rfl ?_
  exact wl_X2_meetEvents_b_12 X  tg_F S2 v2 0 h
theorem cm_X2_meetEvents_b (l : Launch) (D : va_G) (cy : Bool → ClassId) (ad : Nat → Nat) (tS : Nat) {S Sf : tg_S} {v2 : Int32} (h : f_X2_meetEvents 42 31 S v2 = some Sf) : tg_Met l yX2_meetEvents cX2_meetEvents 5 none zr_X2_meetEvents tauC D cy ad tS S [.ref (ad 42), .ref (ad 31), .int v2] Sf none := tg_mk (by decide +kernel) trivial (Nat.le_of_ble_eq_true rfl) (fun p e s m args below meth c Q A X => w_X2_meetEvents_b_0 X S v2 h)
-- X2_moveRope
def zr_X2_moveRope : Room := { frames := 1, cells := 0, slots := 0, locals := 16 }
theorem dX2_moveRope_0 : decode cX2_moveRope 0 = .ok (.aload_n 0, 1) := by decide +kernel
theorem dX2_moveRope_1 : decode cX2_moveRope 1 = .ok (.dup, 1) := by decide +kernel
theorem dX2_moveRope_2 : decode cX2_moveRope 2 = .ok (.getfield 37, 3) := by decide +kernel
theorem dX2_moveRope_5 : decode cX2_moveRope 5 = .ok (.bipush (-3), 2) := by decide +kernel
theorem dX2_moveRope_7 : decode cX2_moveRope 7 = .ok (.iconst 3, 1) := by decide +kernel
theorem dX2_moveRope_8 : decode cX2_moveRope 8 = .ok (.iload_n 1, 1) := by decide +kernel
theorem dX2_moveRope_9 : decode cX2_moveRope 9 = .ok (.iconst 3, 1) := by decide +kernel
theorem dX2_moveRope_10 : decode cX2_moveRope 10 = .ok (.idiv, 1) := by decide +kernel
theorem dX2_moveRope_11 : decode cX2_moveRope 11 = .ok (.invokestatic 99, 3) := by decide +kernel
theorem dX2_moveRope_14 : decode cX2_moveRope 14 = .ok (.invokestatic 118, 3) := by decide +kernel
theorem dX2_moveRope_17 : decode cX2_moveRope 17 = .ok (.iadd, 1) := by decide +kernel
theorem dX2_moveRope_18 : decode cX2_moveRope 18 = .ok (.putfield 37, 3) := by decide +kernel
theorem dX2_moveRope_21 : decode cX2_moveRope 21 = .ok (.aload_n 0, 1) := by decide +kernel
theorem dX2_moveRope_22 : decode cX2_moveRope 22 = .ok (.getfield 37, 3) := by decide +kernel
theorem dX2_moveRope_25 : decode cX2_moveRope 25 = .ok (.bipush 22, 2) := by decide +kernel
theorem dX2_moveRope_27 : decode cX2_moveRope 27 = .ok (.if_icmp .lt 16, 3) := by decide +kernel
theorem dX2_moveRope_30 : decode cX2_moveRope 30 = .ok (.aload_n 0, 1) := by decide +kernel
theorem dX2_moveRope_31 : decode cX2_moveRope 31 = .ok (.iconst 0, 1) := by decide +kernel
theorem dX2_moveRope_32 : decode cX2_moveRope 32 = .ok (.putfield 27, 3) := by decide +kernel
theorem dX2_moveRope_35 : decode cX2_moveRope 35 = .ok (.aload_n 0, 1) := by decide +kernel
theorem dX2_moveRope_36 : decode cX2_moveRope 36 = .ok (.iload_n 2, 1) := by decide +kernel
theorem dX2_moveRope_37 : decode cX2_moveRope 37 = .ok (.putfield 31, 3) := by decide +kernel
theorem dX2_moveRope_40 : decode cX2_moveRope 40 = .ok (.goto 21, 3) := by decide +kernel
theorem dX2_moveRope_43 : decode cX2_moveRope 43 = .ok (.aload_n 0, 1) := by decide +kernel
theorem dX2_moveRope_44 : decode cX2_moveRope 44 = .ok (.getfield 37, 3) := by decide +kernel
theorem dX2_moveRope_47 : decode cX2_moveRope 47 = .ok (.iconst 2, 1) := by decide +kernel
theorem dX2_moveRope_48 : decode cX2_moveRope 48 = .ok (.if_icmp .gt 13, 3) := by decide +kernel
theorem dX2_moveRope_51 : decode cX2_moveRope 51 = .ok (.aload_n 0, 1) := by decide +kernel
theorem dX2_moveRope_52 : decode cX2_moveRope 52 = .ok (.iconst 1, 1) := by decide +kernel
theorem dX2_moveRope_53 : decode cX2_moveRope 53 = .ok (.putfield 27, 3) := by decide +kernel
theorem dX2_moveRope_56 : decode cX2_moveRope 56 = .ok (.aload_n 0, 1) := by decide +kernel
theorem dX2_moveRope_57 : decode cX2_moveRope 57 = .ok (.iload_n 2, 1) := by decide +kernel
theorem dX2_moveRope_58 : decode cX2_moveRope 58 = .ok (.putfield 31, 3) := by decide +kernel
theorem dX2_moveRope_61 : decode cX2_moveRope 61 = .ok (.return_, 1) := by decide +kernel
set_option maxRecDepth 20000 in
set_option maxHeartbeats 4000000 in
theorem w_X2_moveRope_a_0 {x : tg_X} {Sf : tg_S} (X : tg_M tauC x cX2_moveRope 3 RX2 zr_X2_moveRope none Sf none) (S : tg_S) (v1 : Int32) (v2 : Int32) (h : f_X2_moveRope 35 S v1 v2 = some Sf) : tg_G tauC x S 0 [(0, .ref (tg_ad x 35)), (1, .int v1), (2, .int v2)] [] := by
  unfold f_X2_moveRope at h
  refine tg_aload_n X dX2_moveRope_0 rfl 0 rfl ?_
  refine tg_dup X dX2_moveRope_1 rfl ?_
  refine tg_geti X 35 rfl cl_X2 8 (by decide) rfl wf_X2_37 dX2_moveRope_2 ?_
  refine tg_bipush X dX2_moveRope_5 tk_bm3 ?_
  refine tg_iconst X dX2_moveRope_7 tk_i3 ?_
  refine tg_iload_n X dX2_moveRope_8 rfl 1 rfl ?_
  refine tg_iconst X dX2_moveRope_9 tk_i3 ?_
  refine tg_idiv X dX2_moveRope_10 (by decide) ?_
  refine tg_mmin X ⟨wm_X2_99, wt_Mmin, wi_Math, wc_Mmin⟩ ⟨Nat.le_of_ble_eq_true rfl, Nat.le_of_ble_eq_true rfl⟩ dX2_moveRope_11 ?_
  refine tg_mmax X ⟨wm_X2_118, wt_Mmax, wi_Math, wc_Mmax⟩ ⟨Nat.le_of_ble_eq_true rfl, Nat.le_of_ble_eq_true rfl⟩ dX2_moveRope_14 ?_
  refine tg_iadd X dX2_moveRope_17 ?_
  obtain ⟨S1, eS1, h⟩ := tg_pfE h
  refine tg_puti X 35 rfl cl_X2 8 (by decide) rfl wf_X2_37 rfl rfl rfl dX2_moveRope_18 eS1 ?_
  refine tg_aload_n X dX2_moveRope_21 rfl 0 rfl ?_
  refine tg_geti X 35 rfl cl_X2 8 (by decide) rfl wf_X2_37 dX2_moveRope_22 ?_
  refine tg_bipush X dX2_moveRope_25 tk_b22 ?_
  refine tg_icmp_lt (tgt := 43) X dX2_moveRope_27 (by decide) (fun c2 => ?_) (fun c2 => ?_)
  · have h := tg_ifT c2 h
    refine tg_aload_n X dX2_moveRope_43 rfl 0 rfl ?_
    refine tg_geti X 35 rfl cl_X2 8 (by decide) rfl wf_X2_37 dX2_moveRope_44 ?_
    refine tg_iconst X dX2_moveRope_47 tk_i2 ?_
    refine tg_icmp_gt (tgt := 61) X dX2_moveRope_48 (by decide) (fun c3 => ?_) (fun c3 => ?_)
    · have h := tg_ifT c3 h
      exact tg_vret X h dX2_moveRope_61
    · have h := tg_ifF c3 h
      refine tg_aload_n X dX2_moveRope_51 rfl 0 rfl ?_
      refine tg_iconst X dX2_moveRope_52 tk_i1 ?_
      obtain ⟨S4, eS4, h⟩ := tg_pfE h
      refine tg_puti X 35 rfl cl_X2 5 (by decide) rfl wf_X2_27 rfl rfl rfl dX2_moveRope_53 eS4 ?_
      refine tg_aload_n X dX2_moveRope_56 rfl 0 rfl ?_
      refine tg_iload_n X dX2_moveRope_57 rfl 2 rfl ?_
      obtain ⟨S5, eS5, h⟩ := tg_pfE h
      refine tg_puti X 35 rfl cl_X2 6 (by decide) rfl wf_X2_31 rfl rfl rfl dX2_moveRope_58 eS5 ?_
      exact tg_vret X h dX2_moveRope_61
  · have h := tg_ifF c2 h
    refine tg_aload_n X dX2_moveRope_30 rfl 0 rfl ?_
    refine tg_iconst X dX2_moveRope_31 tk_i0 ?_
    obtain ⟨S6, eS6, h⟩ := tg_pfE h
    refine tg_puti X 35 rfl cl_X2 5 (by decide) rfl wf_X2_27 rfl rfl rfl dX2_moveRope_32 eS6 ?_
    refine tg_aload_n X dX2_moveRope_35 rfl 0 rfl ?_
    refine tg_iload_n X dX2_moveRope_36 rfl 2 rfl ?_
    obtain ⟨S7, eS7, h⟩ := tg_pfE h
    refine tg_puti X 35 rfl cl_X2 6 (by decide) rfl wf_X2_31 rfl rfl rfl dX2_moveRope_37 eS7 ?_
    refine tg_goto (tgt := 61) X dX2_moveRope_40 (by decide) ?_
    exact tg_vret X h dX2_moveRope_61
theorem cm_X2_moveRope_a (l : Launch) (D : va_G) (cy : Bool → ClassId) (ad : Nat → Nat) (tS : Nat) {S Sf : tg_S} {v1 : Int32} {v2 : Int32} (h : f_X2_moveRope 35 S v1 v2 = some Sf) : tg_Met l yX2_moveRope cX2_moveRope 3 none zr_X2_moveRope tauC D cy ad tS S [.ref (ad 35), .int v1, .int v2] Sf none := tg_mk (by decide +kernel) trivial (Nat.le_of_ble_eq_true rfl) (fun p e s m args below meth c Q A X => w_X2_moveRope_a_0 X S v1 v2 h)
set_option maxRecDepth 20000 in
set_option maxHeartbeats 4000000 in
theorem w_X2_moveRope_b_0 {x : tg_X} {Sf : tg_S} (X : tg_M tauC x cX2_moveRope 3 RX2 zr_X2_moveRope none Sf none) (S : tg_S) (v1 : Int32) (v2 : Int32) (h : f_X2_moveRope 42 S v1 v2 = some Sf) : tg_G tauC x S 0 [(0, .ref (tg_ad x 42)), (1, .int v1), (2, .int v2)] [] := by
  unfold f_X2_moveRope at h
  refine tg_aload_n X dX2_moveRope_0 rfl 0 rfl ?_
  refine tg_dup X dX2_moveRope_1 rfl ?_
  refine tg_geti X 42 rfl cl_X2 8 (by decide) rfl wf_X2_37 dX2_moveRope_2 ?_
  refine tg_bipush X dX2_moveRope_5 tk_bm3 ?_
  refine tg_iconst X dX2_moveRope_7 tk_i3 ?_
  refine tg_iload_n X dX2_moveRope_8 rfl 1 rfl ?_
  refine tg_iconst X dX2_moveRope_9 tk_i3 ?_
  refine tg_idiv X dX2_moveRope_10 (by decide) ?_
  refine tg_mmin X ⟨wm_X2_99, wt_Mmin, wi_Math, wc_Mmin⟩ ⟨Nat.le_of_ble_eq_true rfl, Nat.le_of_ble_eq_true rfl⟩ dX2_moveRope_11 ?_
  refine tg_mmax X ⟨wm_X2_118, wt_Mmax, wi_Math, wc_Mmax⟩ ⟨Nat.le_of_ble_eq_true rfl, Nat.le_of_ble_eq_true rfl⟩ dX2_moveRope_14 ?_
  refine tg_iadd X dX2_moveRope_17 ?_
  obtain ⟨S1, eS1, h⟩ := tg_pfE h
  refine tg_puti X 42 rfl cl_X2 8 (by decide) rfl wf_X2_37 rfl rfl rfl dX2_moveRope_18 eS1 ?_
  refine tg_aload_n X dX2_moveRope_21 rfl 0 rfl ?_
  refine tg_geti X 42 rfl cl_X2 8 (by decide) rfl wf_X2_37 dX2_moveRope_22 ?_
  refine tg_bipush X dX2_moveRope_25 tk_b22 ?_
  refine tg_icmp_lt (tgt := 43) X dX2_moveRope_27 (by decide) (fun c2 => ?_) (fun c2 => ?_)
  · have h := tg_ifT c2 h
    refine tg_aload_n X dX2_moveRope_43 rfl 0 rfl ?_
    refine tg_geti X 42 rfl cl_X2 8 (by decide) rfl wf_X2_37 dX2_moveRope_44 ?_
    refine tg_iconst X dX2_moveRope_47 tk_i2 ?_
    refine tg_icmp_gt (tgt := 61) X dX2_moveRope_48 (by decide) (fun c3 => ?_) (fun c3 => ?_)
    · have h := tg_ifT c3 h
      exact tg_vret X h dX2_moveRope_61
    · have h := tg_ifF c3 h
      refine tg_aload_n X dX2_moveRope_51 rfl 0 rfl ?_
      refine tg_iconst X dX2_moveRope_52 tk_i1 ?_
      obtain ⟨S4, eS4, h⟩ := tg_pfE h
      refine tg_puti X 42 rfl cl_X2 5 (by decide) rfl wf_X2_27 rfl rfl rfl dX2_moveRope_53 eS4 ?_
      refine tg_aload_n X dX2_moveRope_56 rfl 0 rfl ?_
      refine tg_iload_n X dX2_moveRope_57 rfl 2 rfl ?_
      obtain ⟨S5, eS5, h⟩ := tg_pfE h
      refine tg_puti X 42 rfl cl_X2 6 (by decide) rfl wf_X2_31 rfl rfl rfl dX2_moveRope_58 eS5 ?_
      exact tg_vret X h dX2_moveRope_61
  · have h := tg_ifF c2 h
    refine tg_aload_n X dX2_moveRope_30 rfl 0 rfl ?_
    refine tg_iconst X dX2_moveRope_31 tk_i0 ?_
    obtain ⟨S6, eS6, h⟩ := tg_pfE h
    refine tg_puti X 42 rfl cl_X2 5 (by decide) rfl wf_X2_27 rfl rfl rfl dX2_moveRope_32 eS6 ?_
    refine tg_aload_n X dX2_moveRope_35 rfl 0 rfl ?_
    refine tg_iload_n X dX2_moveRope_36 rfl 2 rfl ?_
    obtain ⟨S7, eS7, h⟩ := tg_pfE h
    refine tg_puti X 42 rfl cl_X2 6 (by decide) rfl wf_X2_31 rfl rfl rfl dX2_moveRope_37 eS7 ?_
    refine tg_goto (tgt := 61) X dX2_moveRope_40 (by decide) ?_
    exact tg_vret X h dX2_moveRope_61
theorem cm_X2_moveRope_b (l : Launch) (D : va_G) (cy : Bool → ClassId) (ad : Nat → Nat) (tS : Nat) {S Sf : tg_S} {v1 : Int32} {v2 : Int32} (h : f_X2_moveRope 42 S v1 v2 = some Sf) : tg_Met l yX2_moveRope cX2_moveRope 3 none zr_X2_moveRope tauC D cy ad tS S [.ref (ad 42), .int v1, .int v2] Sf none := tg_mk (by decide +kernel) trivial (Nat.le_of_ble_eq_true rfl) (fun p e s m args below meth c Q A X => w_X2_moveRope_b_0 X S v1 v2 h)
