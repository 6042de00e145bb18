-- X8_spare
def zr_X8_spare : Room := { frames := 7, cells := 0, slots := 0, locals := 162 }
theorem dX8_spare_0 : decode cX8_spare 0 = .ok (.iload_n 1, 1) := by decide +kernel
theorem dX8_spare_1 : decode cX8_spare 1 = .ok (.iconst (-1), 1) := by decide +kernel
theorem dX8_spare_2 : decode cX8_spare 2 = .ok (.iconst 1, 1) := by decide +kernel
theorem dX8_spare_3 : decode cX8_spare 3 = .ok (.invokestatic 109, 3) := by decide +kernel
theorem dX8_spare_6 : decode cX8_spare 6 = .ok (.ifCond .eq 15, 3) := by decide +kernel
theorem dX8_spare_9 : decode cX8_spare 9 = .ok (.aload_n 0, 1) := by decide +kernel
theorem dX8_spare_10 : decode cX8_spare 10 = .ok (.aload_n 0, 1) := by decide +kernel
theorem dX8_spare_11 : decode cX8_spare 11 = .ok (.invokevirtual 287, 3) := by decide +kernel
theorem dX8_spare_14 : decode cX8_spare 14 = .ok (.iload_n 1, 1) := by decide +kernel
theorem dX8_spare_15 : decode cX8_spare 15 = .ok (.invokevirtual 290, 3) := by decide +kernel
theorem dX8_spare_18 : decode cX8_spare 18 = .ok (.goto 5, 3) := by decide +kernel
theorem dX8_spare_21 : decode cX8_spare 21 = .ok (.bipush (-2), 2) := by decide +kernel
theorem dX8_spare_23 : decode cX8_spare 23 = .ok (.ireturn, 1) := by decide +kernel
set_option maxRecDepth 20000 in
set_option maxHeartbeats 4000000 in
theorem w_X8_spare_0 {x : tg_X} {Sf : tg_S} {r : Int32} (X : tg_M tauR x cX8_spare 2 RX8 zr_X8_spare (some .int) Sf (some (.int r))) (S : tg_S) (v1 : Int32) (h : f_X8_spare  S v1 = some (Sf, r)) : tg_G tauR x S 0 [(0, .ref (tg_ad x 0)), (1, .int v1)] [] := by
  unfold f_X8_spare at h
  refine tg_iload_n X dX8_spare_0 rfl 1 rfl ?_
  refine tg_iconst X dX8_spare_1 tk_im1 ?_
  refine tg_iconst X dX8_spare_2 tk_i1 ?_
  obtain ⟨S1, r2, kS1, h⟩ := tg_bdE h
  refine tg_callS (As := [.int v1, .int (-1), .int 1]) (rest := []) X (cm_X8_in _ _ _ _ _ kS1) yy_X8_in wt_X8_in wm_X8_109 ⟨rfl, rfl, Nat.le_of_ble_eq_true rfl, Nat.le_of_ble_eq_true rfl⟩ rfl rfl (Nat.le_of_ble_eq_true rfl) dX8_spare_3 rfl ?_
  refine tg_if_eq (tgt := 21) X dX8_spare_6 (by decide) (fun c3 => ?_) (fun c3 => ?_)
  · have h := tg_ifT c3 h
    refine tg_bipush X dX8_spare_21 tk_bm2 ?_
    exact tg_iret X h rfl dX8_spare_23
  · have h := tg_ifF c3 h
    refine tg_aload_n X dX8_spare_9 rfl 0 rfl ?_
    refine tg_aload_n X dX8_spare_10 rfl 0 rfl ?_
    obtain ⟨S4, r5, kS4, h⟩ := tg_bdE h
    refine tg_callV (As := []) (rest := [.ref (tg_ad x 0)]) X 0 (cm_X8_spareBy _ _ _ _ _ kS4) yy_X8_spareBy wv_X8_spareBy ws_X8_spareBy wm_X8_287 rfl cl_X8.1 ⟨rfl, rfl, Nat.le_of_ble_eq_true rfl, Nat.le_of_ble_eq_true rfl⟩ rfl rfl (Nat.le_of_ble_eq_true rfl) dX8_spare_11 rfl ?_
    refine tg_iload_n X dX8_spare_14 rfl 1 rfl ?_
    obtain ⟨S6, r7, kS6, h⟩ := tg_bdE h
    refine tg_callV (As := [.int r5, .int v1]) (rest := []) X 0 (cm_X8_ofRow _ _ _ _ _ kS6) yy_X8_ofRow wv_X8_ofRow ws_X8_ofRow wm_X8_290 rfl cl_X8.1 ⟨rfl, rfl, Nat.le_of_ble_eq_true rfl, Nat.le_of_ble_eq_true rfl⟩ rfl rfl (Nat.le_of_ble_eq_true rfl) dX8_spare_15 rfl ?_
    refine tg_goto (tgt := 23) X dX8_spare_18 (by decide) ?_
    exact tg_iret X h rfl dX8_spare_23
theorem cm_X8_spare (l : Launch) (D : va_G) (cy : Bool → ClassId) (ad : Nat → Nat) (tS : Nat) {S Sf : tg_S} {v1 : Int32} {r : Int32} (h : f_X8_spare  S v1 = some (Sf, r)) : tg_Met l yX8_spare cX8_spare 2 (some .int) zr_X8_spare tauR D cy ad tS S [.ref (ad 0), .int v1] Sf (some (.int r)) := tg_mk (by decide +kernel) trivial (Nat.le_of_ble_eq_true rfl) (fun p e s m args below meth c Q A X => w_X8_spare_0 X S v1 h)
-- X8_seen
def zr_X8_seen : Room := { frames := 2, cells := 0, slots := 0, locals := 42 }
theorem dX8_seen_0 : decode cX8_seen 0 = .ok (.iload_n 1, 1) := by decide +kernel
theorem dX8_seen_1 : decode cX8_seen 1 = .ok (.invokestatic 156, 3) := by decide +kernel
theorem dX8_seen_4 : decode cX8_seen 4 = .ok (.ifCond .eq 13, 3) := by decide +kernel
theorem dX8_seen_7 : decode cX8_seen 7 = .ok (.iload_n 2, 1) := by decide +kernel
theorem dX8_seen_8 : decode cX8_seen 8 = .ok (.iconst 0, 1) := by decide +kernel
theorem dX8_seen_9 : decode cX8_seen 9 = .ok (.bipush 24, 2) := by decide +kernel
theorem dX8_seen_11 : decode cX8_seen 11 = .ok (.invokestatic 109, 3) := by decide +kernel
theorem dX8_seen_14 : decode cX8_seen 14 = .ok (.ifCond .ne 6, 3) := by decide +kernel
theorem dX8_seen_17 : decode cX8_seen 17 = .ok (.bipush (-2), 2) := by decide +kernel
theorem dX8_seen_19 : decode cX8_seen 19 = .ok (.ireturn, 1) := by decide +kernel
theorem dX8_seen_20 : decode cX8_seen 20 = .ok (.aload_n 0, 1) := by decide +kernel
theorem dX8_seen_21 : decode cX8_seen 21 = .ok (.getfield 293, 3) := by decide +kernel
theorem dX8_seen_24 : decode cX8_seen 24 = .ok (.bipush 8, 2) := by decide +kernel
theorem dX8_seen_26 : decode cX8_seen 26 = .ok (.if_icmp .ne 6, 3) := by decide +kernel
theorem dX8_seen_29 : decode cX8_seen 29 = .ok (.bipush (-4), 2) := by decide +kernel
theorem dX8_seen_31 : decode cX8_seen 31 = .ok (.ireturn, 1) := by decide +kernel
theorem dX8_seen_32 : decode cX8_seen 32 = .ok (.aload_n 0, 1) := by decide +kernel
theorem dX8_seen_33 : decode cX8_seen 33 = .ok (.getfield 82, 3) := by decide +kernel
theorem dX8_seen_36 : decode cX8_seen 36 = .ok (.aload_n 0, 1) := by decide +kernel
theorem dX8_seen_37 : decode cX8_seen 37 = .ok (.getfield 293, 3) := by decide +kernel
theorem dX8_seen_40 : decode cX8_seen 40 = .ok (.iload_n 1, 1) := by decide +kernel
theorem dX8_seen_41 : decode cX8_seen 41 = .ok (.iastore, 1) := by decide +kernel
theorem dX8_seen_42 : decode cX8_seen 42 = .ok (.aload_n 0, 1) := by decide +kernel
theorem dX8_seen_43 : decode cX8_seen 43 = .ok (.getfield 85, 3) := by decide +kernel
theorem dX8_seen_46 : decode cX8_seen 46 = .ok (.aload_n 0, 1) := by decide +kernel
theorem dX8_seen_47 : decode cX8_seen 47 = .ok (.getfield 293, 3) := by decide +kernel
theorem dX8_seen_50 : decode cX8_seen 50 = .ok (.iload_n 2, 1) := by decide +kernel
theorem dX8_seen_51 : decode cX8_seen 51 = .ok (.iastore, 1) := by decide +kernel
theorem dX8_seen_52 : decode cX8_seen 52 = .ok (.aload_n 0, 1) := by decide +kernel
theorem dX8_seen_53 : decode cX8_seen 53 = .ok (.dup, 1) := by decide +kernel
theorem dX8_seen_54 : decode cX8_seen 54 = .ok (.getfield 293, 3) := by decide +kernel
theorem dX8_seen_57 : decode cX8_seen 57 = .ok (.iconst 1, 1) := by decide +kernel
theorem dX8_seen_58 : decode cX8_seen 58 = .ok (.iadd, 1) := by decide +kernel
theorem dX8_seen_59 : decode cX8_seen 59 = .ok (.putfield 293, 3) := by decide +kernel
theorem dX8_seen_62 : decode cX8_seen 62 = .ok (.aload_n 0, 1) := by decide +kernel
theorem dX8_seen_63 : decode cX8_seen 63 = .ok (.getfield 293, 3) := by decide +kernel
theorem dX8_seen_66 : decode cX8_seen 66 = .ok (.ireturn, 1) := by decide +kernel
set_option maxRecDepth 20000 in
set_option maxHeartbeats 4000000 in
theorem w_X8_seen_0 {x : tg_X} {Sf : tg_S} {r : Int32} (X : tg_M tauR x cX8_seen 3 RX8 zr_X8_seen (some .int) Sf (some (.int r))) (S : tg_S) (v1 : Int32) (v2 : Int32) (h : f_X8_seen  S v1 v2 = some (Sf, r)) : tg_G tauR x S 0 [(0, .ref (tg_ad x 0)), (1, .int v1), (2, .int v2)] [] := by
  unfold f_X8_seen at h
  refine tg_iload_n X dX8_seen_0 rfl 1 rfl ?_
  obtain ⟨S1, r2, kS1, h⟩ := tg_bdE h
  refine tg_callS (As := [.int v1]) (rest := []) X (cm_X8_isBeat _ _ _ _ _ kS1) yy_X8_isBeat wt_X8_isBeat wm_X8_156 ⟨rfl, rfl, Nat.le_of_ble_eq_true rfl, Nat.le_of_ble_eq_true rfl⟩ rfl rfl (Nat.le_of_ble_eq_true rfl) dX8_seen_1 rfl ?_
  refine tg_if_eq (tgt := 17) X dX8_seen_4 (by decide) (fun c3 => ?_) (fun c3 => ?_)
  · have h := tg_ifT c3 h
    refine tg_bipush X dX8_seen_17 tk_bm2 ?_
    exact tg_iret X h rfl dX8_seen_19
  · have h := tg_ifF c3 h
    refine tg_iload_n X dX8_seen_7 rfl 2 rfl ?_
    refine tg_iconst X dX8_seen_8 tk_i0 ?_
    refine tg_bipush X dX8_seen_9 tk_b24 ?_
    obtain ⟨S4, r5, kS4, h⟩ := tg_bdE h
    refine tg_callS (As := [.int v2, .int 0, .int 24]) (rest := []) X (cm_X8_in _ _ _ _ _ kS4) yy_X8_in wt_X8_in wm_X8_109 ⟨rfl, rfl, Nat.le_of_ble_eq_true rfl, Nat.le_of_ble_eq_true rfl⟩ rfl rfl (Nat.le_of_ble_eq_true rfl) dX8_seen_11 rfl ?_
    refine tg_if_ne (tgt := 20) X dX8_seen_14 (by decide) (fun c6 => ?_) (fun c6 => ?_)
    · have h := tg_ifF c6 h
      refine tg_aload_n X dX8_seen_20 rfl 0 rfl ?_
      refine tg_geti X 0 rfl cl_X8 37 (by decide) rfl wf_X8_293 dX8_seen_21 ?_
      refine tg_bipush X dX8_seen_24 tk_b8 ?_
      refine tg_icmp_ne (tgt := 32) X dX8_seen_26 (by decide) (fun c7 => ?_) (fun c7 => ?_)
      · have h := tg_ifF c7 h
        refine tg_aload_n X dX8_seen_32 rfl 0 rfl ?_
        refine tg_getr X 0 rfl cl_X8 38 (by decide) rfl wf_X8_82 dX8_seen_33 ?_
        refine tg_aload_n X dX8_seen_36 rfl 0 rfl ?_
        refine tg_geti X 0 rfl cl_X8 37 (by decide) rfl wf_X8_293 dX8_seen_37 ?_
        refine tg_iload_n X dX8_seen_40 rfl 1 rfl ?_
        obtain ⟨S8, eS8, bS8, h⟩ := tg_wrE h
        refine tg_iast X 25 rfl bS8 dX8_seen_41 eS8 ?_
        refine tg_aload_n X dX8_seen_42 rfl 0 rfl ?_
        refine tg_getr X 0 rfl cl_X8 39 (by decide) rfl wf_X8_85 dX8_seen_43 ?_
        refine tg_aload_n X dX8_seen_46 rfl 0 rfl ?_
        refine tg_geti X 0 rfl cl_X8 37 (by decide) rfl wf_X8_293 dX8_seen_47 ?_
        refine tg_iload_n X dX8_seen_50 rfl 2 rfl ?_
        obtain ⟨S9, eS9, bS9, h⟩ := tg_wrE h
        refine tg_iast X 26 rfl bS9 dX8_seen_51 eS9 ?_
        refine tg_aload_n X dX8_seen_52 rfl 0 rfl ?_
        refine tg_dup X dX8_seen_53 rfl ?_
        refine tg_geti X 0 rfl cl_X8 37 (by decide) rfl wf_X8_293 dX8_seen_54 ?_
        refine tg_iconst X dX8_seen_57 tk_i1 ?_
        refine tg_iadd X dX8_seen_58 ?_
        obtain ⟨S10, eS10, h⟩ := tg_pfE h
        refine tg_puti X 0 rfl cl_X8 37 (by decide) rfl wf_X8_293 rfl rfl rfl dX8_seen_59 eS10 ?_
        refine tg_aload_n X dX8_seen_62 rfl 0 rfl ?_
        refine tg_geti X 0 rfl cl_X8 37 (by decide) rfl wf_X8_293 dX8_seen_63 ?_
        exact tg_iret X h rfl dX8_seen_66
      · have h := tg_ifT c7 h
        refine tg_bipush X dX8_seen_29 tk_bm4 ?_
        exact tg_iret X h rfl dX8_seen_31
    · have h := tg_ifT c6 h
      refine tg_bipush X dX8_seen_17 tk_bm2 ?_
      exact tg_iret X h rfl dX8_seen_19
theorem cm_X8_seen (l : Launch) (D : va_G) (cy : Bool → ClassId) (ad : Nat → Nat) (tS : Nat) {S Sf : tg_S} {v1 : Int32} {v2 : Int32} {r : Int32} (h : f_X8_seen  S v1 v2 = some (Sf, r)) : tg_Met l yX8_seen cX8_seen 3 (some .int) zr_X8_seen tauR D cy ad tS S [.ref (ad 0), .int v1, .int v2] Sf (some (.int r)) := tg_mk (by decide +kernel) trivial (Nat.le_of_ble_eq_true rfl) (fun p e s m args below meth c Q A X => w_X8_seen_0 X S v1 v2 h)
-- X8_forget
def zr_X8_forget : Room := { frames := 0, cells := 0, slots := 0, locals := 0 }
theorem dX8_forget_0 : decode cX8_forget 0 = .ok (.aload_n 0, 1) := by decide +kernel
theorem dX8_forget_1 : decode cX8_forget 1 = .ok (.getfield 293, 3) := by decide +kernel
theorem dX8_forget_4 : decode cX8_forget 4 = .ok (.istore_n 1, 1) := by decide +kernel
theorem dX8_forget_5 : decode cX8_forget 5 = .ok (.aload_n 0, 1) := by decide +kernel
theorem dX8_forget_6 : decode cX8_forget 6 = .ok (.iconst 0, 1) := by decide +kernel
theorem dX8_forget_7 : decode cX8_forget 7 = .ok (.putfield 293, 3) := by decide +kernel
theorem dX8_forget_10 : decode cX8_forget 10 = .ok (.iload_n 1, 1) := by decide +kernel
theorem dX8_forget_11 : decode cX8_forget 11 = .ok (.ireturn, 1) := by decide +kernel
set_option maxRecDepth 20000 in
set_option maxHeartbeats 4000000 in
theorem w_X8_forget_0 {x : tg_X} {Sf : tg_S} {r : Int32} (X : tg_M tauR x cX8_forget 2 RX8 zr_X8_forget (some .int) Sf (some (.int r))) (S : tg_S) (h : f_X8_forget  S  = some (Sf, r)) : tg_G tauR x S 0 [(0, .ref (tg_ad x 0))] [] := by
  unfold f_X8_forget at h
  refine tg_aload_n X dX8_forget_0 rfl 0 rfl ?_
  refine tg_geti X 0 rfl cl_X8 37 (by decide) rfl wf_X8_293 dX8_forget_1 ?_
  refine tg_topi (fun y1 ey1 => ?_)
  have h := tg_nmE ey1 h
  refine tg_istore_n (lv2 := [(1, .int y1), (0, .ref (tg_ad x 0))]) X dX8_forget_4 rfl (by decide) rfl ?_
  refine tg_aload_n X dX8_forget_5 rfl 1 rfl ?_
  refine tg_iconst X dX8_forget_6 tk_i0 ?_
  obtain ⟨S2, eS2, h⟩ := tg_pfE h
  refine tg_puti X 0 rfl cl_X8 37 (by decide) rfl wf_X8_293 rfl rfl rfl dX8_forget_7 eS2 ?_
  refine tg_iload_n X dX8_forget_10 rfl 0 rfl ?_
  exact tg_iret X h rfl dX8_forget_11
theorem cm_X8_forget (l : Launch) (D : va_G) (cy : Bool → ClassId) (ad : Nat → Nat) (tS : Nat) {S Sf : tg_S} {r : Int32} (h : f_X8_forget  S  = some (Sf, r)) : tg_Met l yX8_forget cX8_forget 2 (some .int) zr_X8_forget tauR D cy ad tS S [.ref (ad 0)] Sf (some (.int r)) := tg_mk (by decide +kernel) trivial (Nat.le_of_ble_eq_true rfl) (fun p e s m args below meth c Q A X => w_X8_forget_0 X S  h)
-- X8_isSeen
def zr_X8_isSeen : Room := { frames := 5, cells := 0, slots := 0, locals := 109 }
theorem dX8_isSeen_0 : decode cX8_isSeen 0 = .ok (.aload_n 0, 1) := by decide +kernel
theorem dX8_isSeen_1 : decode cX8_isSeen 1 = .ok (.invokevirtual 232, 3) := by decide +kernel
theorem dX8_isSeen_4 : decode cX8_isSeen 4 = .ok (.iconst 1, 1) := by decide +kernel
theorem dX8_isSeen_5 : decode cX8_isSeen 5 = .ok (.istore_n 1, 1) := by decide +kernel
theorem dX8_isSeen_6 : decode cX8_isSeen 6 = .ok (.iconst 0, 1) := by decide +kernel
theorem dX8_isSeen_7 : decode cX8_isSeen 7 = .ok (.istore_n 2, 1) := by decide +kernel
theorem dX8_isSeen_8 : decode cX8_isSeen 8 = .ok (.iload_n 2, 1) := by decide +kernel
theorem dX8_isSeen_9 : decode cX8_isSeen 9 = .ok (.aload_n 0, 1) := by decide +kernel
theorem dX8_isSeen_10 : decode cX8_isSeen 10 = .ok (.getfield 293, 3) := by decide +kernel
theorem dX8_isSeen_13 : decode cX8_isSeen 13 = .ok (.if_icmp .ge 39, 3) := by decide +kernel
theorem dX8_isSeen_16 : decode cX8_isSeen 16 = .ok (.iload_n 1, 1) := by decide +kernel
theorem dX8_isSeen_17 : decode cX8_isSeen 17 = .ok (.ifCond .eq 35, 3) := by decide +kernel
theorem dX8_isSeen_20 : decode cX8_isSeen 20 = .ok (.aload_n 0, 1) := by decide +kernel
theorem dX8_isSeen_21 : decode cX8_isSeen 21 = .ok (.getfield 64, 3) := by decide +kernel
theorem dX8_isSeen_24 : decode cX8_isSeen 24 = .ok (.aload_n 0, 1) := by decide +kernel
theorem dX8_isSeen_25 : decode cX8_isSeen 25 = .ok (.getfield 82, 3) := by decide +kernel
theorem dX8_isSeen_28 : decode cX8_isSeen 28 = .ok (.iload_n 2, 1) := by decide +kernel
theorem dX8_isSeen_29 : decode cX8_isSeen 29 = .ok (.iaload, 1) := by decide +kernel
theorem dX8_isSeen_30 : decode cX8_isSeen 30 = .ok (.iaload, 1) := by decide +kernel
theorem dX8_isSeen_31 : decode cX8_isSeen 31 = .ok (.aload_n 0, 1) := by decide +kernel
theorem dX8_isSeen_32 : decode cX8_isSeen 32 = .ok (.getfield 85, 3) := by decide +kernel
theorem dX8_isSeen_35 : decode cX8_isSeen 35 = .ok (.iload_n 2, 1) := by decide +kernel
theorem dX8_isSeen_36 : decode cX8_isSeen 36 = .ok (.iaload, 1) := by decide +kernel
theorem dX8_isSeen_37 : decode cX8_isSeen 37 = .ok (.if_icmp .ne 7, 3) := by decide +kernel
theorem dX8_isSeen_40 : decode cX8_isSeen 40 = .ok (.iconst 1, 1) := by decide +kernel
theorem dX8_isSeen_41 : decode cX8_isSeen 41 = .ok (.goto 4, 3) := by decide +kernel
theorem dX8_isSeen_44 : decode cX8_isSeen 44 = .ok (.iconst 0, 1) := by decide +kernel
theorem dX8_isSeen_45 : decode cX8_isSeen 45 = .ok (.istore_n 1, 1) := by decide +kernel
theorem dX8_isSeen_46 : decode cX8_isSeen 46 = .ok (.iinc 2 1, 3) := by decide +kernel
theorem dX8_isSeen_49 : decode cX8_isSeen 49 = .ok (.goto (-41), 3) := by decide +kernel
theorem dX8_isSeen_52 : decode cX8_isSeen 52 = .ok (.iload_n 1, 1) := by decide +kernel
theorem dX8_isSeen_53 : decode cX8_isSeen 53 = .ok (.ireturn, 1) := by decide +kernel
set_option maxRecDepth 20000 in
set_option maxHeartbeats 4000000 in
theorem w_X8_isSeen_45 {x : tg_X} {Sf : tg_S} {r : Int32} {rec8 : tg_S → Int32 → Int32 → Option (tg_S × Int32)} (X : tg_M tauR x cX8_isSeen 3 RX8 zr_X8_isSeen (some .boolean) Sf (some (.int r))) (hr8 : ∀ (S : tg_S) (v1 : Int32) (v2 : Int32), rec8 S v1 v2 = some (Sf, r) → tg_G tauR x S 8 [(0, .ref (tg_ad x 0)), (1, .int v1), (2, .int v2)] []) (S : tg_S) (v2 : Int32) (s0 : Int32) (h : f_X8_isSeen_45 rec8 S v2 s0 = some (Sf, r)) : tg_G tauR x S 45 [(0, .ref (tg_ad x 0)), (2, .int v2)] [.int s0] := by
  unfold f_X8_isSeen_45 at h
  refine tg_istore_n (lv2 := [(1, .int s0), (0, .ref (tg_ad x 0)), (2, .int v2)]) X dX8_isSeen_45 rfl (by decide) rfl ?_
  obtain ⟨y1, ey1⟩ : ∃ z : Int32, z = v2 + 1 := ⟨_, rfl⟩
  have h := tg_nmE ey1 h
  refine tg_iinc (lv2 := [(2, .int y1), (1, .int s0), (0, .ref (tg_ad x 0))]) X dX8_isSeen_46 2 rfl tk_i1 ey1 (by decide) rfl ?_
  refine tg_goto (tgt := 8) X dX8_isSeen_49 (by decide) ?_
  refine tg_re [2, 1, 0] rfl ?_
  exact hr8 S s0 y1 h
set_option maxRecDepth 20000 in
set_option maxHeartbeats 4000000 in
theorem w_X8_isSeen_8 {x : tg_X} {Sf : tg_S} {r : Int32} {rec8 : tg_S → Int32 → Int32 → Option (tg_S × Int32)} (X : tg_M tauR x cX8_isSeen 3 RX8 zr_X8_isSeen (some .boolean) Sf (some (.int r))) (hr8 : ∀ (S : tg_S) (v1 : Int32) (v2 : Int32), rec8 S v1 v2 = some (Sf, r) → tg_G tauR x S 8 [(0, .ref (tg_ad x 0)), (1, .int v1), (2, .int v2)] []) (S : tg_S) (v1 : Int32) (v2 : Int32) (h : f_X8_isSeen_8 rec8 S v1 v2 = some (Sf, r)) : tg_G tauR x S 8 [(0, .ref (tg_ad x 0)), (1, .int v1), (2, .int v2)] [] := by
  unfold f_X8_isSeen_8 at h
  refine tg_iload_n X dX8_isSeen_8 rfl 2 rfl ?_
  refine tg_aload_n X dX8_isSeen_9 rfl 0 rfl ?_
  refine tg_geti X 0 rfl cl_X8 37 (by decide) rfl wf_X8_293 dX8_isSeen_10 ?_
  refine tg_icmp_ge (tgt := 52) X dX8_isSeen_13 (by decide) (fun c1 => ?_) (fun c1 => ?_)
  · have h := tg_ifT c1 h
    refine tg_iload_n X dX8_isSeen_52 rfl 1 rfl ?_
    obtain ⟨hz, h⟩ := tg_bzE h
    exact tg_iret X h hz dX8_isSeen_53
  · have h := tg_ifF c1 h
    refine tg_iload_n X dX8_isSeen_16 rfl 1 rfl ?_
    refine tg_if_eq (tgt := 52) X dX8_isSeen_17 (by decide) (fun c2 => ?_) (fun c2 => ?_)
    · have h := tg_ifT c2 h
      refine tg_iload_n X dX8_isSeen_52 rfl 1 rfl ?_
      obtain ⟨hz, h⟩ := tg_bzE h
      exact tg_iret X h hz dX8_isSeen_53
    · have h := tg_ifF c2 h
      refine tg_aload_n X dX8_isSeen_20 rfl 0 rfl ?_
      refine tg_getr X 0 rfl cl_X8 29 (by decide) rfl wf_X8_64 dX8_isSeen_21 ?_
      refine tg_aload_n X dX8_isSeen_24 rfl 0 rfl ?_
      refine tg_getr X 0 rfl cl_X8 38 (by decide) rfl wf_X8_82 dX8_isSeen_25 ?_
      refine tg_iload_n X dX8_isSeen_28 rfl 2 rfl ?_
      obtain ⟨y3, ey3, by3, h⟩ := tg_rdE h
      refine tg_iald X 25 rfl ey3 by3 dX8_isSeen_29 ?_
      obtain ⟨y4, ey4, by4, h⟩ := tg_rdE h
      refine tg_iald X 19 rfl ey4 by4 dX8_isSeen_30 ?_
      refine tg_aload_n X dX8_isSeen_31 rfl 0 rfl ?_
      refine tg_getr X 0 rfl cl_X8 39 (by decide) rfl wf_X8_85 dX8_isSeen_32 ?_
      refine tg_iload_n X dX8_isSeen_35 rfl 2 rfl ?_
      obtain ⟨y5, ey5, by5, h⟩ := tg_rdE h
      refine tg_iald X 26 rfl ey5 by5 dX8_isSeen_36 ?_
      refine tg_icmp_ne (tgt := 44) X dX8_isSeen_37 (by decide) (fun c6 => ?_) (fun c6 => ?_)
      · rw [if_neg c6] at h
        refine tg_iconst X dX8_isSeen_44 tk_i0 ?_
        refine tg_re [0, 2] rfl ?_
        exact w_X8_isSeen_45 X hr8 S v2 0 h
      · rw [if_pos c6] at h
        refine tg_iconst X dX8_isSeen_40 tk_i1 ?_
        refine tg_goto (tgt := 45) X dX8_isSeen_41 (by decide) ?_
        refine tg_re [0, 2] rfl ?_
        exact w_X8_isSeen_45 X hr8 S v2 1 h
theorem wl_X8_isSeen_8 {x : tg_X} {Sf : tg_S} {r : Int32} (X : tg_M tauR x cX8_isSeen 3 RX8 zr_X8_isSeen (some .boolean) Sf (some (.int r))) : ∀ (n : Nat) (S : tg_S) (v1 : Int32) (v2 : Int32) (h : L_X8_isSeen_8  n S v1 v2 = some (Sf, r)), tg_G tauR x S 8 [(0, .ref (tg_ad x 0)), (1, .int v1), (2, .int v2)] [] := by
  intro n
  induction n with
  | zero => intro S v1 v2 h; cases h
  | succ n ih => intro S v1 v2 h; exact w_X8_isSeen_8 X  ih S v1 v2 h
set_option maxRecDepth 20000 in
set_option maxHeartbeats 4000000 in
theorem w_X8_isSeen_0 {x : tg_X} {Sf : tg_S} {r : Int32} (X : tg_M tauR x cX8_isSeen 3 RX8 zr_X8_isSeen (some .boolean) Sf (some (.int r))) (S : tg_S) (h : f_X8_isSeen  S  = some (Sf, r)) : tg_G tauR x S 0 [(0, .ref (tg_ad x 0))] [] := by
  unfold f_X8_isSeen at h
  refine tg_aload_n X dX8_isSeen_0 rfl 0 rfl ?_
  obtain ⟨S1, kS1, h⟩ := tg_bvE h
  refine tg_callV (As := []) (rest := []) X 0 (cm_X8_runs _ _ _ _ _ kS1) yy_X8_runs wv_X8_runs ws_X8_runs wm_X8_232 rfl cl_X8.1 ⟨rfl, rfl, Nat.le_of_ble_eq_true rfl, Nat.le_of_ble_eq_true rfl⟩ rfl rfl (Nat.le_of_ble_eq_true rfl) dX8_isSeen_1 rfl ?_
  refine tg_iconst X dX8_isSeen_4 tk_i1 ?_
  refine tg_istore_n (lv2 := [(1, .int 1), (0, .ref (tg_ad x 0))]) X dX8_isSeen_5 rfl (by decide) rfl ?_
  refine tg_iconst X dX8_isSeen_6 tk_i0 ?_
  refine tg_istore_n (lv2 := [(2, .int 0), (1, .int 1), (0, .ref (tg_ad x 0))]) X dX8_isSeen_7 rfl (by decide) rfl ?_
  refine tg_re [2, 1, 0] rfl ?_
  exact wl_X8_isSeen_8 X  tg_F S1 1 0 h
theorem cm_X8_isSeen (l : Launch) (D : va_G) (cy : Bool → ClassId) (ad : Nat → Nat) (tS : Nat) {S Sf : tg_S} {r : Int32} (h : f_X8_isSeen  S  = some (Sf, r)) : tg_Met l yX8_isSeen cX8_isSeen 3 (some .boolean) zr_X8_isSeen tauR D cy ad tS S [.ref (ad 0)] Sf (some (.int r)) := tg_mk (by decide +kernel) trivial (Nat.le_of_ble_eq_true rfl) (fun p e s m args below meth c Q A X => w_X8_isSeen_0 X S  h)
-- X8_neverNow
def zr_X8_neverNow : Room := { frames := 6, cells := 0, slots := 0, locals := 140 }
theorem dX8_neverNow_0 : decode cX8_neverNow 0 = .ok (.aload_n 0, 1) := by decide +kernel
theorem dX8_neverNow_1 : decode cX8_neverNow 1 = .ok (.invokevirtual 229, 3) := by decide +kernel
theorem dX8_neverNow_4 : decode cX8_neverNow 4 = .ok (.iconst 0, 1) := by decide +kernel
theorem dX8_neverNow_5 : decode cX8_neverNow 5 = .ok (.istore_n 1, 1) := by decide +kernel
theorem dX8_neverNow_6 : decode cX8_neverNow 6 = .ok (.iconst 0, 1) := by decide +kernel
theorem dX8_neverNow_7 : decode cX8_neverNow 7 = .ok (.istore_n 2, 1) := by decide +kernel
theorem dX8_neverNow_8 : decode cX8_neverNow 8 = .ok (.iload_n 2, 1) := by decide +kernel
theorem dX8_neverNow_9 : decode cX8_neverNow 9 = .ok (.aload_n 0, 1) := by decide +kernel
theorem dX8_neverNow_10 : decode cX8_neverNow 10 = .ok (.getfield 166, 3) := by decide +kernel
theorem dX8_neverNow_13 : decode cX8_neverNow 13 = .ok (.if_icmp .ge 33, 3) := by decide +kernel
theorem dX8_neverNow_16 : decode cX8_neverNow 16 = .ok (.aload_n 0, 1) := by decide +kernel
theorem dX8_neverNow_17 : decode cX8_neverNow 17 = .ok (.iconst 1, 1) := by decide +kernel
theorem dX8_neverNow_18 : decode cX8_neverNow 18 = .ok (.iload_n 2, 1) := by decide +kernel
theorem dX8_neverNow_19 : decode cX8_neverNow 19 = .ok (.ishl, 1) := by decide +kernel
theorem dX8_neverNow_20 : decode cX8_neverNow 20 = .ok (.putfield 178, 3) := by decide +kernel
theorem dX8_neverNow_23 : decode cX8_neverNow 23 = .ok (.iload_n 1, 1) := by decide +kernel
theorem dX8_neverNow_24 : decode cX8_neverNow 24 = .ok (.aload_n 0, 1) := by decide +kernel
theorem dX8_neverNow_25 : decode cX8_neverNow 25 = .ok (.invokevirtual 296, 3) := by decide +kernel
theorem dX8_neverNow_28 : decode cX8_neverNow 28 = .ok (.ifCond .eq 9, 3) := by decide +kernel
theorem dX8_neverNow_31 : decode cX8_neverNow 31 = .ok (.iconst 1, 1) := by decide +kernel
theorem dX8_neverNow_32 : decode cX8_neverNow 32 = .ok (.iload_n 2, 1) := by decide +kernel
theorem dX8_neverNow_33 : decode cX8_neverNow 33 = .ok (.ishl, 1) := by decide +kernel
theorem dX8_neverNow_34 : decode cX8_neverNow 34 = .ok (.goto 4, 3) := by decide +kernel
theorem dX8_neverNow_37 : decode cX8_neverNow 37 = .ok (.iconst 0, 1) := by decide +kernel
theorem dX8_neverNow_38 : decode cX8_neverNow 38 = .ok (.ior, 1) := by decide +kernel
theorem dX8_neverNow_39 : decode cX8_neverNow 39 = .ok (.istore_n 1, 1) := by decide +kernel
theorem dX8_neverNow_40 : decode cX8_neverNow 40 = .ok (.iinc 2 1, 3) := by decide +kernel
theorem dX8_neverNow_43 : decode cX8_neverNow 43 = .ok (.goto (-35), 3) := by decide +kernel
theorem dX8_neverNow_46 : decode cX8_neverNow 46 = .ok (.iload_n 1, 1) := by decide +kernel
theorem dX8_neverNow_47 : decode cX8_neverNow 47 = .ok (.ireturn, 1) := by decide +kernel
set_option maxRecDepth 20000 in
set_option maxHeartbeats 4000000 in
theorem w_X8_neverNow_38 {x : tg_X} {Sf : tg_S} {r : Int32} {rec8 : tg_S → Int32 → Int32 → Option (tg_S × Int32)} (X : tg_M tauR x cX8_neverNow 3 RX8 zr_X8_neverNow (some .int) Sf (some (.int r))) (hr8 : ∀ (S : tg_S) (v1 : Int32) (v2 : Int32), rec8 S v1 v2 = some (Sf, r) → tg_G tauR x S 8 [(0, .ref (tg_ad x 0)), (1, .int v1), (2, .int v2)] []) (S : tg_S) (v2 : Int32) (s0 : Int32) (s1 : Int32) (h : f_X8_neverNow_38 rec8 S v2 s0 s1 = some (Sf, r)) : tg_G tauR x S 38 [(0, .ref (tg_ad x 0)), (2, .int v2)] [.int s0, .int s1] := by
  unfold f_X8_neverNow_38 at h
  refine tg_ior X dX8_neverNow_38 ?_
  refine tg_topi (fun y1 ey1 => ?_)
  have h := tg_nmE ey1 h
  refine tg_istore_n (lv2 := [(1, .int y1), (0, .ref (tg_ad x 0)), (2, .int v2)]) X dX8_neverNow_39 rfl (by decide) rfl ?_
  obtain ⟨y2, ey2⟩ : ∃ z : Int32, z = v2 + 1 := ⟨_, rfl⟩
  have h := tg_nmE ey2 h
  refine tg_iinc (lv2 := [(2, .int y2), (1, .int y1), (0, .ref (tg_ad x 0))]) X dX8_neverNow_40 2 rfl tk_i1 ey2 (by decide) rfl ?_
  refine tg_goto (tgt := 8) X dX8_neverNow_43 (by decide) ?_
  refine tg_re [2, 1, 0] rfl ?_
  exact hr8 S y1 y2 h
set_option maxRecDepth 20000 in
set_option maxHeartbeats 4000000 in
theorem w_X8_neverNow_8 {x : tg_X} {Sf : tg_S} {r : Int32} {rec8 : tg_S → Int32 → Int32 → Option (tg_S × Int32)} (X : tg_M tauR x cX8_neverNow 3 RX8 zr_X8_neverNow (some .int) Sf (some (.int r))) (hr8 : ∀ (S : tg_S) (v1 : Int32) (v2 : Int32), rec8 S v1 v2 = some (Sf, r) → tg_G tauR x S 8 [(0, .ref (tg_ad x 0)), (1, .int v1), (2, .int v2)] []) (S : tg_S) (v1 : Int32) (v2 : Int32) (h : f_X8_neverNow_8 rec8 S v1 v2 = some (Sf, r)) : tg_G tauR x S 8 [(0, .ref (tg_ad x 0)), (1, .int v1), (2, .int v2)] [] := by
  unfold f_X8_neverNow_8 at h
  refine tg_iload_n X dX8_neverNow_8 rfl 2 rfl ?_
  refine tg_aload_n X dX8_neverNow_9 rfl 0 rfl ?_
  refine tg_geti X 0 rfl cl_X8 9 (by decide) rfl wf_X8_166 dX8_neverNow_10 ?_
  refine tg_icmp_ge (tgt := 46) X dX8_neverNow_13 (by decide) (fun c1 => ?_) (fun c1 => ?_)
  · have h := tg_ifT c1 h
    refine tg_iload_n X dX8_neverNow_46 rfl 1 rfl ?_
    exact tg_iret X h rfl dX8_neverNow_47
  · have h := tg_ifF c1 h
    refine tg_aload_n X dX8_neverNow_16 rfl 0 rfl ?_
    refine tg_iconst X dX8_neverNow_17 tk_i1 ?_
    refine tg_iload_n X dX8_neverNow_18 rfl 2 rfl ?_
    refine tg_ishl X dX8_neverNow_19 ?_
    obtain ⟨S2, eS2, h⟩ := tg_pfE h
    refine tg_puti X 0 rfl cl_X8 14 (by decide) rfl wf_X8_178 rfl rfl rfl dX8_neverNow_20 eS2 ?_
    refine tg_iload_n X dX8_neverNow_23 rfl 1 rfl ?_
    refine tg_aload_n X dX8_neverNow_24 rfl 0 rfl ?_
    obtain ⟨S3, r4, kS3, h⟩ := tg_bdE h
    refine tg_callV (As := []) (rest := [.int v1]) X 0 (cm_X8_isSeen _ _ _ _ _ kS3) yy_X8_isSeen wv_X8_isSeen ws_X8_isSeen wm_X8_296 rfl cl_X8.1 ⟨rfl, rfl, Nat.le_of_ble_eq_true rfl, Nat.le_of_ble_eq_true rfl⟩ rfl rfl (Nat.le_of_ble_eq_true rfl) dX8_neverNow_25 rfl ?_
    refine tg_if_eq (tgt := 37) X dX8_neverNow_28 (by decide) (fun c5 => ?_) (fun c5 => ?_)
    · rw [if_pos c5] at h
      refine tg_iconst X dX8_neverNow_37 tk_i0 ?_
      refine tg_re [0, 2] rfl ?_
      exact w_X8_neverNow_38 X hr8 S3 v2 0 v1 h
    · rw [if_neg c5] at h
      refine tg_iconst X dX8_neverNow_31 tk_i1 ?_
      refine tg_iload_n X dX8_neverNow_32 rfl 2 rfl ?_
      refine tg_ishl X dX8_neverNow_33 ?_
      refine tg_goto (tgt := 38) X dX8_neverNow_34 (by decide) ?_
      refine tg_re [0, 2] rfl ?_
      exact w_X8_neverNow_38 X hr8 S3 v2 (1 <<< (v2 &&& 31)) v1 h
theorem wl_X8_neverNow_8 {x : tg_X} {Sf : tg_S} {r : Int32} (X : tg_M tauR x cX8_neverNow 3 RX8 zr_X8_neverNow (some .int) Sf (some (.int r))) : ∀ (n : Nat) (S : tg_S) (v1 : Int32) (v2 : Int32) (h : L_X8_neverNow_8  n S v1 v2 = some (Sf, r)), tg_G tauR x S 8 [(0, .ref (tg_ad x 0)), (1, .int v1), (2, .int v2)] [] := by
  intro n
  induction n with
  | zero => intro S v1 v2 h; cases h
  | succ n ih => intro S v1 v2 h; exact w_X8_neverNow_8 X  ih S v1 v2 h
set_option maxRecDepth 20000 in
set_option maxHeartbeats 4000000 in
theorem w_X8_neverNow_0 {x : tg_X} {Sf : tg_S} {r : Int32} (X : tg_M tauR x cX8_neverNow 3 RX8 zr_X8_neverNow (some .int) Sf (some (.int r))) (S : tg_S) (h : f_X8_neverNow  S  = some (Sf, r)) : tg_G tauR x S 0 [(0, .ref (tg_ad x 0))] [] := by
  unfold f_X8_neverNow at h
  refine tg_aload_n X dX8_neverNow_0 rfl 0 rfl ?_
  obtain ⟨S1, kS1, h⟩ := tg_bvE h
  refine tg_callV (As := []) (rest := []) X 0 (cm_X8_asTold _ _ _ _ _ kS1) yy_X8_asTold wv_X8_asTold ws_X8_asTold wm_X8_229 rfl cl_X8.1 ⟨rfl, rfl, Nat.le_of_ble_eq_true rfl, Nat.le_of_ble_eq_true rfl⟩ rfl rfl (Nat.le_of_ble_eq_true rfl) dX8_neverNow_1 rfl ?_
  refine tg_iconst X dX8_neverNow_4 tk_i0 ?_
  refine tg_istore_n (lv2 := [(1, .int 0), (0, .ref (tg_ad x 0))]) X dX8_neverNow_5 rfl (by decide) rfl ?_
  refine tg_iconst X dX8_neverNow_6 tk_i0 ?_
  refine tg_istore_n (lv2 := [(2, .int 0), (1, .int 0), (0, .ref (tg_ad x 0))]) X dX8_neverNow_7 rfl (by decide) rfl ?_
  refine tg_re [2, 1, 0] rfl ?_
  exact wl_X8_neverNow_8 X  tg_F S1 0 0 h
theorem cm_X8_neverNow (l : Launch) (D : va_G) (cy : Bool → ClassId) (ad : Nat → Nat) (tS : Nat) {S Sf : tg_S} {r : Int32} (h : f_X8_neverNow  S  = some (Sf, r)) : tg_Met l yX8_neverNow cX8_neverNow 3 (some .int) zr_X8_neverNow tauR D cy ad tS S [.ref (ad 0)] Sf (some (.int r)) := tg_mk (by decide +kernel) trivial (Nat.le_of_ble_eq_true rfl) (fun p e s m args below meth c Q A X => w_X8_neverNow_0 X S  h)
-- X8_never
def zr_X8_never : Room := { frames := 7, cells := 0, slots := 0, locals := 162 }
theorem dX8_never_0 : decode cX8_never 0 = .ok (.aload_n 0, 1) := by decide +kernel
theorem dX8_never_1 : decode cX8_never 1 = .ok (.invokevirtual 300, 3) := by decide +kernel
theorem dX8_never_4 : decode cX8_never 4 = .ok (.ireturn, 1) := by decide +kernel
set_option maxRecDepth 20000 in
set_option maxHeartbeats 4000000 in
theorem w_X8_never_0 {x : tg_X} {Sf : tg_S} {r : Int32} (X : tg_M tauR x cX8_never 1 RX8 zr_X8_never (some .int) Sf (some (.int r))) (S : tg_S) (h : f_X8_never  S  = some (Sf, r)) : tg_G tauR x S 0 [(0, .ref (tg_ad x 0))] [] := by
  unfold f_X8_never at h
  refine tg_aload_n X dX8_never_0 rfl 0 rfl ?_
  obtain ⟨S1, r2, kS1, h⟩ := tg_bdE h
  refine tg_callV (As := []) (rest := []) X 0 (cm_X8_neverNow _ _ _ _ _ kS1) yy_X8_neverNow wv_X8_neverNow ws_X8_neverNow wm_X8_300 rfl cl_X8.1 ⟨rfl, rfl, Nat.le_of_ble_eq_true rfl, Nat.le_of_ble_eq_true rfl⟩ rfl rfl (Nat.le_of_ble_eq_true rfl) dX8_never_1 rfl ?_
  exact tg_iret X h rfl dX8_never_4
theorem cm_X8_never (l : Launch) (D : va_G) (cy : Bool → ClassId) (ad : Nat → Nat) (tS : Nat) {S Sf : tg_S} {r : Int32} (h : f_X8_never  S  = some (Sf, r)) : tg_Met l yX8_never cX8_never 1 (some .int) zr_X8_never tauR D cy ad tS S [.ref (ad 0)] Sf (some (.int r)) := tg_mk (by decide +kernel) trivial (Nat.le_of_ble_eq_true rfl) (fun p e s m args below meth c Q A X => w_X8_never_0 X S  h)
-- X8_weightsBy
def zr_X8_weightsBy : Room := { frames := 6, cells := 0, slots := 0, locals := 140 }
theorem dX8_weightsBy_0 : decode cX8_weightsBy 0 = .ok (.aload_n 0, 1) := by decide +kernel
theorem dX8_weightsBy_1 : decode cX8_weightsBy 1 = .ok (.invokevirtual 229, 3) := by decide +kernel
theorem dX8_weightsBy_4 : decode cX8_weightsBy 4 = .ok (.aload_n 0, 1) := by decide +kernel
theorem dX8_weightsBy_5 : decode cX8_weightsBy 5 = .ok (.getfield 22, 3) := by decide +kernel
theorem dX8_weightsBy_8 : decode cX8_weightsBy 8 = .ok (.iload_n 1, 1) := by decide +kernel
theorem dX8_weightsBy_9 : decode cX8_weightsBy 9 = .ok (.iaload, 1) := by decide +kernel
theorem dX8_weightsBy_10 : decode cX8_weightsBy 10 = .ok (.istore_n 2, 1) := by decide +kernel
theorem dX8_weightsBy_11 : decode cX8_weightsBy 11 = .ok (.iconst 0, 1) := by decide +kernel
theorem dX8_weightsBy_12 : decode cX8_weightsBy 12 = .ok (.istore_n 3, 1) := by decide +kernel
theorem dX8_weightsBy_13 : decode cX8_weightsBy 13 = .ok (.iconst 1, 1) := by decide +kernel
theorem dX8_weightsBy_14 : decode cX8_weightsBy 14 = .ok (.istore 4, 2) := by decide +kernel
theorem dX8_weightsBy_16 : decode cX8_weightsBy 16 = .ok (.iload 4, 2) := by decide +kernel
theorem dX8_weightsBy_18 : decode cX8_weightsBy 18 = .ok (.bipush 10, 2) := by decide +kernel
theorem dX8_weightsBy_20 : decode cX8_weightsBy 20 = .ok (.if_icmp .ge 71, 3) := by decide +kernel
theorem dX8_weightsBy_23 : decode cX8_weightsBy 23 = .ok (.aload_n 0, 1) := by decide +kernel
theorem dX8_weightsBy_24 : decode cX8_weightsBy 24 = .ok (.getfield 22, 3) := by decide +kernel
theorem dX8_weightsBy_27 : decode cX8_weightsBy 27 = .ok (.iload_n 1, 1) := by decide +kernel
theorem dX8_weightsBy_28 : decode cX8_weightsBy 28 = .ok (.iload 4, 2) := by decide +kernel
theorem dX8_weightsBy_30 : decode cX8_weightsBy 30 = .ok (.iastore, 1) := by decide +kernel
theorem dX8_weightsBy_31 : decode cX8_weightsBy 31 = .ok (.iload_n 3, 1) := by decide +kernel
theorem dX8_weightsBy_32 : decode cX8_weightsBy 32 = .ok (.aload_n 0, 1) := by decide +kernel
theorem dX8_weightsBy_33 : decode cX8_weightsBy 33 = .ok (.invokevirtual 296, 3) := by decide +kernel
theorem dX8_weightsBy_36 : decode cX8_weightsBy 36 = .ok (.ifCond .eq 10, 3) := by decide +kernel
theorem dX8_weightsBy_39 : decode cX8_weightsBy 39 = .ok (.iconst 1, 1) := by decide +kernel
theorem dX8_weightsBy_40 : decode cX8_weightsBy 40 = .ok (.iload 4, 2) := by decide +kernel
theorem dX8_weightsBy_42 : decode cX8_weightsBy 42 = .ok (.ishl, 1) := by decide +kernel
theorem dX8_weightsBy_43 : decode cX8_weightsBy 43 = .ok (.goto 4, 3) := by decide +kernel
theorem dX8_weightsBy_46 : decode cX8_weightsBy 46 = .ok (.iconst 0, 1) := by decide +kernel
theorem dX8_weightsBy_47 : decode cX8_weightsBy 47 = .ok (.ior, 1) := by decide +kernel
theorem dX8_weightsBy_48 : decode cX8_weightsBy 48 = .ok (.istore_n 3, 1) := by decide +kernel
theorem dX8_weightsBy_49 : decode cX8_weightsBy 49 = .ok (.iconst 0, 1) := by decide +kernel
theorem dX8_weightsBy_50 : decode cX8_weightsBy 50 = .ok (.istore 5, 2) := by decide +kernel
theorem dX8_weightsBy_52 : decode cX8_weightsBy 52 = .ok (.iload 5, 2) := by decide +kernel
theorem dX8_weightsBy_54 : decode cX8_weightsBy 54 = .ok (.bipush 24, 2) := by decide +kernel
theorem dX8_weightsBy_56 : decode cX8_weightsBy 56 = .ok (.if_icmp .ge 29, 3) := by decide +kernel
theorem dX8_weightsBy_59 : decode cX8_weightsBy 59 = .ok (.aload_n 0, 1) := by decide +kernel
theorem dX8_weightsBy_60 : decode cX8_weightsBy 60 = .ok (.getfield 88, 3) := by decide +kernel
theorem dX8_weightsBy_63 : decode cX8_weightsBy 63 = .ok (.bipush 24, 2) := by decide +kernel
theorem dX8_weightsBy_65 : decode cX8_weightsBy 65 = .ok (.iload 4, 2) := by decide +kernel
theorem dX8_weightsBy_67 : decode cX8_weightsBy 67 = .ok (.imul, 1) := by decide +kernel
theorem dX8_weightsBy_68 : decode cX8_weightsBy 68 = .ok (.iload 5, 2) := by decide +kernel
theorem dX8_weightsBy_70 : decode cX8_weightsBy 70 = .ok (.iadd, 1) := by decide +kernel
theorem dX8_weightsBy_71 : decode cX8_weightsBy 71 = .ok (.aload_n 0, 1) := by decide +kernel
theorem dX8_weightsBy_72 : decode cX8_weightsBy 72 = .ok (.getfield 64, 3) := by decide +kernel
theorem dX8_weightsBy_75 : decode cX8_weightsBy 75 = .ok (.iload 5, 2) := by decide +kernel
theorem dX8_weightsBy_77 : decode cX8_weightsBy 77 = .ok (.iaload, 1) := by decide +kernel
theorem dX8_weightsBy_78 : decode cX8_weightsBy 78 = .ok (.iastore, 1) := by decide +kernel
theorem dX8_weightsBy_79 : decode cX8_weightsBy 79 = .ok (.iinc 5 1, 3) := by decide +kernel
theorem dX8_weightsBy_82 : decode cX8_weightsBy 82 = .ok (.goto (-30), 3) := by decide +kernel
theorem dX8_weightsBy_85 : decode cX8_weightsBy 85 = .ok (.iinc 4 1, 3) := by decide +kernel
theorem dX8_weightsBy_88 : decode cX8_weightsBy 88 = .ok (.goto (-72), 3) := by decide +kernel
theorem dX8_weightsBy_91 : decode cX8_weightsBy 91 = .ok (.aload_n 0, 1) := by decide +kernel
theorem dX8_weightsBy_92 : decode cX8_weightsBy 92 = .ok (.getfield 22, 3) := by decide +kernel
theorem dX8_weightsBy_95 : decode cX8_weightsBy 95 = .ok (.iload_n 1, 1) := by decide +kernel
theorem dX8_weightsBy_96 : decode cX8_weightsBy 96 = .ok (.iload_n 2, 1) := by decide +kernel
theorem dX8_weightsBy_97 : decode cX8_weightsBy 97 = .ok (.iastore, 1) := by decide +kernel
theorem dX8_weightsBy_98 : decode cX8_weightsBy 98 = .ok (.iload_n 3, 1) := by decide +kernel
theorem dX8_weightsBy_99 : decode cX8_weightsBy 99 = .ok (.ireturn, 1) := by decide +kernel
set_option maxRecDepth 20000 in
set_option maxHeartbeats 4000000 in
theorem w_X8_weightsBy_52 {x : tg_X} {Sf : tg_S} {r : Int32} {rec16 : tg_S → Int32 → Int32 → Int32 → Int32 → Option (tg_S × Int32)} {rec52 : tg_S → Int32 → Int32 → Int32 → Int32 → Int32 → Option (tg_S × Int32)} (X : tg_M tauR x cX8_weightsBy 6 RX8 zr_X8_weightsBy (some .int) Sf (some (.int r))) (hr16 : ∀ (S : tg_S) (v1 : Int32) (v2 : Int32) (v3 : Int32) (v4 : Int32), rec16 S v1 v2 v3 v4 = some (Sf, r) → tg_G tauR x S 16 [(0, .ref (tg_ad x 0)), (1, .int v1), (2, .int v2), (3, .int v3), (4, .int v4)] []) (hr52 : ∀ (S : tg_S) (v1 : Int32) (v2 : Int32) (v3 : Int32) (v4 : Int32) (v5 : Int32), rec52 S v1 v2 v3 v4 v5 = some (Sf, r) → tg_G tauR x S 52 [(0, .ref (tg_ad x 0)), (1, .int v1), (2, .int v2), (3, .int v3), (4, .int v4), (5, .int v5)] []) (S : tg_S) (v1 : Int32) (v2 : Int32) (v3 : Int32) (v4 : Int32) (v5 : Int32) (h : f_X8_weightsBy_52 rec16 rec52 S v1 v2 v3 v4 v5 = some (Sf, r)) : tg_G tauR x S 52 [(0, .ref (tg_ad x 0)), (1, .int v1), (2, .int v2), (3, .int v3), (4, .int v4), (5, .int v5)] [] := by
  unfold f_X8_weightsBy_52 at h
  refine tg_iload X dX8_weightsBy_52 5 rfl ?_
  refine tg_bipush X dX8_weightsBy_54 tk_b24 ?_
  refine tg_icmp_ge (tgt := 85) X dX8_weightsBy_56 (by decide) (fun c1 => ?_) (fun c1 => ?_)
  · have h := tg_ifT c1 h
    obtain ⟨y2, ey2⟩ : ∃ z : Int32, z = v4 + 1 := ⟨_, rfl⟩
    have h := tg_nmE ey2 h
    refine tg_iinc (lv2 := [(4, .int y2), (0, .ref (tg_ad x 0)), (1, .int v1), (2, .int v2), (3, .int v3), (5, .int v5)]) X dX8_weightsBy_85 4 rfl tk_i1 ey2 (by decide) rfl ?_
    refine tg_goto (tgt := 16) X dX8_weightsBy_88 (by decide) ?_
    refine tg_re [1, 2, 3, 4, 0] rfl ?_
    exact hr16 S v1 v2 v3 y2 h
  · have h := tg_ifF c1 h
    refine tg_aload_n X dX8_weightsBy_59 rfl 0 rfl ?_
    refine tg_getr X 0 rfl cl_X8 40 (by decide) rfl wf_X8_88 dX8_weightsBy_60 ?_
    refine tg_bipush X dX8_weightsBy_63 tk_b24 ?_
    refine tg_iload X dX8_weightsBy_65 4 rfl ?_
    refine tg_imul X dX8_weightsBy_67 ?_
    refine tg_iload X dX8_weightsBy_68 5 rfl ?_
    refine tg_iadd X dX8_weightsBy_70 ?_
    refine tg_aload_n X dX8_weightsBy_71 rfl 0 rfl ?_
    refine tg_getr X 0 rfl cl_X8 29 (by decide) rfl wf_X8_64 dX8_weightsBy_72 ?_
    refine tg_iload X dX8_weightsBy_75 5 rfl ?_
    obtain ⟨y3, ey3, by3, h⟩ := tg_rdE h
    refine tg_iald X 19 rfl ey3 by3 dX8_weightsBy_77 ?_
    obtain ⟨S4, eS4, bS4, h⟩ := tg_wrE h
    refine tg_iast X 27 rfl bS4 dX8_weightsBy_78 eS4 ?_
    obtain ⟨y5, ey5⟩ : ∃ z : Int32, z = v5 + 1 := ⟨_, rfl⟩
    have h := tg_nmE ey5 h
    refine tg_iinc (lv2 := [(5, .int y5), (0, .ref (tg_ad x 0)), (1, .int v1), (2, .int v2), (3, .int v3), (4, .int v4)]) X dX8_weightsBy_79 5 rfl tk_i1 ey5 (by decide) rfl ?_
    refine tg_goto (tgt := 52) X dX8_weightsBy_82 (by decide) ?_
    refine tg_re [1, 2, 3, 4, 5, 0] rfl ?_
    exact hr52 S4 v1 v2 v3 v4 y5 h
theorem wl_X8_weightsBy_52 {x : tg_X} {Sf : tg_S} {r : Int32} {rec16 : tg_S → Int32 → Int32 → Int32 → Int32 → Option (tg_S × Int32)} (X : tg_M tauR x cX8_weightsBy 6 RX8 zr_X8_weightsBy (some .int) Sf (some (.int r))) (hr16 : ∀ (S : tg_S) (v1 : Int32) (v2 : Int32) (v3 : Int32) (v4 : Int32), rec16 S v1 v2 v3 v4 = some (Sf, r) → tg_G tauR x S 16 [(0, .ref (tg_ad x 0)), (1, .int v1), (2, .int v2), (3, .int v3), (4, .int v4)] []) : ∀ (n : Nat) (S : tg_S) (v1 : Int32) (v2 : Int32) (v3 : Int32) (v4 : Int32) (v5 : Int32) (h : L_X8_weightsBy_52 rec16 n S v1 v2 v3 v4 v5 = some (Sf, r)), tg_G tauR x S 52 [(0, .ref (tg_ad x 0)), (1, .int v1), (2, .int v2), (3, .int v3), (4, .int v4), (5, .int v5)] [] := by
  intro n
  induction n with
  | zero => intro S v1 v2 v3 v4 v5 h; cases h
  | succ n ih => intro S v1 v2 v3 v4 v5 h; exact w_X8_weightsBy_52 X hr16 ih S v1 v2 v3 v4 v5 h
set_option maxRecDepth 20000 in
set_option maxHeartbeats 4000000 in
theorem w_X8_weightsBy_47 {x : tg_X} {Sf : tg_S} {r : Int32} {rec16 : tg_S → Int32 → Int32 → Int32 → Int32 → Option (tg_S × Int32)} (X : tg_M tauR x cX8_weightsBy 6 RX8 zr_X8_weightsBy (some .int) Sf (some (.int r))) (hr16 : ∀ (S : tg_S) (v1 : Int32) (v2 : Int32) (v3 : Int32) (v4 : Int32), rec16 S v1 v2 v3 v4 = some (Sf, r) → tg_G tauR x S 16 [(0, .ref (tg_ad x 0)), (1, .int v1), (2, .int v2), (3, .int v3), (4, .int v4)] []) (S : tg_S) (v1 : Int32) (v2 : Int32) (v4 : Int32) (s0 : Int32) (s1 : Int32) (h : f_X8_weightsBy_47 rec16 S v1 v2 v4 s0 s1 = some (Sf, r)) : tg_G tauR x S 47 [(0, .ref (tg_ad x 0)), (1, .int v1), (2, .int v2), (4, .int v4)] [.int s0, .int s1] := by
  unfold f_X8_weightsBy_47 at h
  refine tg_ior X dX8_weightsBy_47 ?_
  refine tg_topi (fun y1 ey1 => ?_)
  have h := tg_nmE ey1 h
  refine tg_istore_n (lv2 := [(3, .int y1), (0, .ref (tg_ad x 0)), (1, .int v1), (2, .int v2), (4, .int v4)]) X dX8_weightsBy_48 rfl (by decide) rfl ?_
  refine tg_iconst X dX8_weightsBy_49 tk_i0 ?_
  refine tg_istore (lv2 := [(5, .int 0), (3, .int y1), (0, .ref (tg_ad x 0)), (1, .int v1), (2, .int v2), (4, .int v4)]) X dX8_weightsBy_50 (by decide) rfl ?_
  refine tg_re [2, 3, 4, 1, 5, 0] rfl ?_
  exact wl_X8_weightsBy_52 X hr16 tg_F S v1 v2 y1 v4 0 h
set_option maxRecDepth 20000 in
set_option maxHeartbeats 4000000 in
theorem w_X8_weightsBy_16 {x : tg_X} {Sf : tg_S} {r : Int32} {rec16 : tg_S → Int32 → Int32 → Int32 → Int32 → Option (tg_S × Int32)} (X : tg_M tauR x cX8_weightsBy 6 RX8 zr_X8_weightsBy (some .int) Sf (some (.int r))) (hr16 : ∀ (S : tg_S) (v1 : Int32) (v2 : Int32) (v3 : Int32) (v4 : Int32), rec16 S v1 v2 v3 v4 = some (Sf, r) → tg_G tauR x S 16 [(0, .ref (tg_ad x 0)), (1, .int v1), (2, .int v2), (3, .int v3), (4, .int v4)] []) (S : tg_S) (v1 : Int32) (v2 : Int32) (v3 : Int32) (v4 : Int32) (h : f_X8_weightsBy_16 rec16 S v1 v2 v3 v4 = some (Sf, r)) : tg_G tauR x S 16 [(0, .ref (tg_ad x 0)), (1, .int v1), (2, .int v2), (3, .int v3), (4, .int v4)] [] := by
  unfold f_X8_weightsBy_16 at h
  refine tg_iload X dX8_weightsBy_16 4 rfl ?_
  refine tg_bipush X dX8_weightsBy_18 tk_b10 ?_
  refine tg_icmp_ge (tgt := 91) X dX8_weightsBy_20 (by decide) (fun c1 => ?_) (fun c1 => ?_)
  · have h := tg_ifT c1 h
    refine tg_aload_n X dX8_weightsBy_91 rfl 0 rfl ?_
    refine tg_getr X 0 rfl cl_X8 4 (by decide) rfl wf_X8_22 dX8_weightsBy_92 ?_
    refine tg_iload_n X dX8_weightsBy_95 rfl 1 rfl ?_
    refine tg_iload_n X dX8_weightsBy_96 rfl 2 rfl ?_
    obtain ⟨S2, eS2, bS2, h⟩ := tg_wrE h
    refine tg_iast X 5 rfl bS2 dX8_weightsBy_97 eS2 ?_
    refine tg_iload_n X dX8_weightsBy_98 rfl 3 rfl ?_
    exact tg_iret X h rfl dX8_weightsBy_99
  · have h := tg_ifF c1 h
    refine tg_aload_n X dX8_weightsBy_23 rfl 0 rfl ?_
    refine tg_getr X 0 rfl cl_X8 4 (by decide) rfl wf_X8_22 dX8_weightsBy_24 ?_
    refine tg_iload_n X dX8_weightsBy_27 rfl 1 rfl ?_
    refine tg_iload X dX8_weightsBy_28 4 rfl ?_
    obtain ⟨S3, eS3, bS3, h⟩ := tg_wrE h
    refine tg_iast X 5 rfl bS3 dX8_weightsBy_30 eS3 ?_
    refine tg_iload_n X dX8_weightsBy_31 rfl 3 rfl ?_
    refine tg_aload_n X dX8_weightsBy_32 rfl 0 rfl ?_
    obtain ⟨S4, r5, kS4, h⟩ := tg_bdE h
    refine tg_callV (As := []) (rest := [.int v3]) X 0 (cm_X8_isSeen _ _ _ _ _ kS4) yy_X8_isSeen wv_X8_isSeen ws_X8_isSeen wm_X8_296 rfl cl_X8.1 ⟨rfl, rfl, Nat.le_of_ble_eq_true rfl, Nat.le_of_ble_eq_true rfl⟩ rfl rfl (Nat.le_of_ble_eq_true rfl) dX8_weightsBy_33 rfl ?_
    refine tg_if_eq (tgt := 46) X dX8_weightsBy_36 (by decide) (fun c6 => ?_) (fun c6 => ?_)
    · rw [if_pos c6] at h
      refine tg_iconst X dX8_weightsBy_46 tk_i0 ?_
      refine tg_re [0, 1, 2, 4] rfl ?_
      exact w_X8_weightsBy_47 X hr16 S4 v1 v2 v4 0 v3 h
    · rw [if_neg c6] at h
      refine tg_iconst X dX8_weightsBy_39 tk_i1 ?_
      refine tg_iload X dX8_weightsBy_40 4 rfl ?_
      refine tg_ishl X dX8_weightsBy_42 ?_
      refine tg_goto (tgt := 47) X dX8_weightsBy_43 (by decide) ?_
      refine tg_re [0, 1, 2, 4] rfl ?_
      exact w_X8_weightsBy_47 X hr16 S4 v1 v2 v4 (1 <<< (v4 &&& 31)) v3 h
theorem wl_X8_weightsBy_16 {x : tg_X} {Sf : tg_S} {r : Int32} (X : tg_M tauR x cX8_weightsBy 6 RX8 zr_X8_weightsBy (some .int) Sf (some (.int r))) : ∀ (n : Nat) (S : tg_S) (v1 : Int32) (v2 : Int32) (v3 : Int32) (v4 : Int32) (h : L_X8_weightsBy_16  n S v1 v2 v3 v4 = some (Sf, r)), tg_G tauR x S 16 [(0, .ref (tg_ad x 0)), (1, .int v1), (2, .int v2), (3, .int v3), (4, .int v4)] [] := by
  intro n
  induction n with
  | zero => intro S v1 v2 v3 v4 h; cases h
  | succ n ih => intro S v1 v2 v3 v4 h; exact w_X8_weightsBy_16 X  ih S v1 v2 v3 v4 h
set_option maxRecDepth 20000 in
set_option maxHeartbeats 4000000 in
theorem w_X8_weightsBy_0 {x : tg_X} {Sf : tg_S} {r : Int32} (X : tg_M tauR x cX8_weightsBy 6 RX8 zr_X8_weightsBy (some .int) Sf (some (.int r))) (S : tg_S) (v1 : Int32) (h : f_X8_weightsBy  S v1 = some (Sf, r)) : tg_G tauR x S 0 [(0, .ref (tg_ad x 0)), (1, .int v1)] [] := by
  unfold f_X8_weightsBy at h
  refine tg_aload_n X dX8_weightsBy_0 rfl 0 rfl ?_
  obtain ⟨S1, kS1, h⟩ := tg_bvE h
  refine tg_callV (As := []) (rest := []) X 0 (cm_X8_asTold _ _ _ _ _ kS1) yy_X8_asTold wv_X8_asTold ws_X8_asTold wm_X8_229 rfl cl_X8.1 ⟨rfl, rfl, Nat.le_of_ble_eq_true rfl, Nat.le_of_ble_eq_true rfl⟩ rfl rfl (Nat.le_of_ble_eq_true rfl) dX8_weightsBy_1 rfl ?_
  refine tg_aload_n X dX8_weightsBy_4 rfl 0 rfl ?_
  refine tg_getr X 0 rfl cl_X8 4 (by decide) rfl wf_X8_22 dX8_weightsBy_5 ?_
  refine tg_iload_n X dX8_weightsBy_8 rfl 1 rfl ?_
  obtain ⟨y2, ey2, by2, h⟩ := tg_rdE h
  refine tg_iald X 5 rfl ey2 by2 dX8_weightsBy_9 ?_
  refine tg_istore_n (lv2 := [(2, .int y2), (0, .ref (tg_ad x 0)), (1, .int v1)]) X dX8_weightsBy_10 rfl (by decide) rfl ?_
  refine tg_iconst X dX8_weightsBy_11 tk_i0 ?_
  refine tg_istore_n (lv2 := [(3, .int 0), (2, .int y2), (0, .ref (tg_ad x 0)), (1, .int v1)]) X dX8_weightsBy_12 rfl (by decide) rfl ?_
  refine tg_iconst X dX8_weightsBy_13 tk_i1 ?_
  refine tg_istore (lv2 := [(4, .int 1), (3, .int 0), (2, .int y2), (0, .ref (tg_ad x 0)), (1, .int v1)]) X dX8_weightsBy_14 (by decide) rfl ?_
  refine tg_re [3, 4, 2, 1, 0] rfl ?_
  exact wl_X8_weightsBy_16 X  tg_F S1 v1 y2 0 1 h
theorem cm_X8_weightsBy (l : Launch) (D : va_G) (cy : Bool → ClassId) (ad : Nat → Nat) (tS : Nat) {S Sf : tg_S} {v1 : Int32} {r : Int32} (h : f_X8_weightsBy  S v1 = some (Sf, r)) : tg_Met l yX8_weightsBy cX8_weightsBy 6 (some .int) zr_X8_weightsBy tauR D cy ad tS S [.ref (ad 0), .int v1] Sf (some (.int r)) := tg_mk (by decide +kernel) trivial (Nat.le_of_ble_eq_true rfl) (fun p e s m args below meth c Q A X => w_X8_weightsBy_0 X S v1 h)
-- X8_sortsBy
def zr_X8_sortsBy : Room := { frames := 6, cells := 0, slots := 0, locals := 140 }
theorem dX8_sortsBy_0 : decode cX8_sortsBy 0 = .ok (.aload_n 0, 1) := by decide +kernel
theorem dX8_sortsBy_1 : decode cX8_sortsBy 1 = .ok (.invokevirtual 229, 3) := by decide +kernel
theorem dX8_sortsBy_4 : decode cX8_sortsBy 4 = .ok (.aload_n 0, 1) := by decide +kernel
theorem dX8_sortsBy_5 : decode cX8_sortsBy 5 = .ok (.getfield 19, 3) := by decide +kernel
theorem dX8_sortsBy_8 : decode cX8_sortsBy 8 = .ok (.iload_n 1, 1) := by decide +kernel
theorem dX8_sortsBy_9 : decode cX8_sortsBy 9 = .ok (.iaload, 1) := by decide +kernel
theorem dX8_sortsBy_10 : decode cX8_sortsBy 10 = .ok (.istore_n 2, 1) := by decide +kernel
theorem dX8_sortsBy_11 : decode cX8_sortsBy 11 = .ok (.iconst 0, 1) := by decide +kernel
theorem dX8_sortsBy_12 : decode cX8_sortsBy 12 = .ok (.istore_n 3, 1) := by decide +kernel
theorem dX8_sortsBy_13 : decode cX8_sortsBy 13 = .ok (.iconst 0, 1) := by decide +kernel
theorem dX8_sortsBy_14 : decode cX8_sortsBy 14 = .ok (.istore 4, 2) := by decide +kernel
theorem dX8_sortsBy_16 : decode cX8_sortsBy 16 = .ok (.iload 4, 2) := by decide +kernel
theorem dX8_sortsBy_18 : decode cX8_sortsBy 18 = .ok (.iconst 3, 1) := by decide +kernel
theorem dX8_sortsBy_19 : decode cX8_sortsBy 19 = .ok (.if_icmp .ge 35, 3) := by decide +kernel
theorem dX8_sortsBy_22 : decode cX8_sortsBy 22 = .ok (.aload_n 0, 1) := by decide +kernel
theorem dX8_sortsBy_23 : decode cX8_sortsBy 23 = .ok (.getfield 19, 3) := by decide +kernel
theorem dX8_sortsBy_26 : decode cX8_sortsBy 26 = .ok (.iload_n 1, 1) := by decide +kernel
theorem dX8_sortsBy_27 : decode cX8_sortsBy 27 = .ok (.iload 4, 2) := by decide +kernel
theorem dX8_sortsBy_29 : decode cX8_sortsBy 29 = .ok (.iastore, 1) := by decide +kernel
theorem dX8_sortsBy_30 : decode cX8_sortsBy 30 = .ok (.iload_n 3, 1) := by decide +kernel
theorem dX8_sortsBy_31 : decode cX8_sortsBy 31 = .ok (.aload_n 0, 1) := by decide +kernel
theorem dX8_sortsBy_32 : decode cX8_sortsBy 32 = .ok (.invokevirtual 296, 3) := by decide +kernel
theorem dX8_sortsBy_35 : decode cX8_sortsBy 35 = .ok (.ifCond .eq 10, 3) := by decide +kernel
theorem dX8_sortsBy_38 : decode cX8_sortsBy 38 = .ok (.iconst 1, 1) := by decide +kernel
theorem dX8_sortsBy_39 : decode cX8_sortsBy 39 = .ok (.iload 4, 2) := by decide +kernel
theorem dX8_sortsBy_41 : decode cX8_sortsBy 41 = .ok (.ishl, 1) := by decide +kernel
theorem dX8_sortsBy_42 : decode cX8_sortsBy 42 = .ok (.goto 4, 3) := by decide +kernel
theorem dX8_sortsBy_45 : decode cX8_sortsBy 45 = .ok (.iconst 0, 1) := by decide +kernel
theorem dX8_sortsBy_46 : decode cX8_sortsBy 46 = .ok (.ior, 1) := by decide +kernel
theorem dX8_sortsBy_47 : decode cX8_sortsBy 47 = .ok (.istore_n 3, 1) := by decide +kernel
theorem dX8_sortsBy_48 : decode cX8_sortsBy 48 = .ok (.iinc 4 1, 3) := by decide +kernel
theorem dX8_sortsBy_51 : decode cX8_sortsBy 51 = .ok (.goto (-35), 3) := by decide +kernel
theorem dX8_sortsBy_54 : decode cX8_sortsBy 54 = .ok (.aload_n 0, 1) := by decide +kernel
theorem dX8_sortsBy_55 : decode cX8_sortsBy 55 = .ok (.getfield 19, 3) := by decide +kernel
theorem dX8_sortsBy_58 : decode cX8_sortsBy 58 = .ok (.iload_n 1, 1) := by decide +kernel
theorem dX8_sortsBy_59 : decode cX8_sortsBy 59 = .ok (.iload_n 2, 1) := by decide +kernel
theorem dX8_sortsBy_60 : decode cX8_sortsBy 60 = .ok (.iastore, 1) := by decide +kernel
theorem dX8_sortsBy_61 : decode cX8_sortsBy 61 = .ok (.iload_n 3, 1) := by decide +kernel
theorem dX8_sortsBy_62 : decode cX8_sortsBy 62 = .ok (.ireturn, 1) := by decide +kernel
set_option maxRecDepth 20000 in
set_option maxHeartbeats 4000000 in
theorem w_X8_sortsBy_46 {x : tg_X} {Sf : tg_S} {r : Int32} {rec16 : tg_S → Int32 → Int32 → Int32 → Int32 → Option (tg_S × Int32)} (X : tg_M tauR x cX8_sortsBy 5 RX8 zr_X8_sortsBy (some .int) Sf (some (.int r))) (hr16 : ∀ (S : tg_S) (v1 : Int32) (v2 : Int32) (v3 : Int32) (v4 : Int32), rec16 S v1 v2 v3 v4 = some (Sf, r) → tg_G tauR x S 16 [(0, .ref (tg_ad x 0)), (1, .int v1), (2, .int v2), (3, .int v3), (4, .int v4)] []) (S : tg_S) (v1 : Int32) (v2 : Int32) (v4 : Int32) (s0 : Int32) (s1 : Int32) (h : f_X8_sortsBy_46 rec16 S v1 v2 v4 s0 s1 = some (Sf, r)) : tg_G tauR x S 46 [(0, .ref (tg_ad x 0)), (1, .int v1), (2, .int v2), (4, .int v4)] [.int s0, .int s1] := by
  unfold f_X8_sortsBy_46 at h
  refine tg_ior X dX8_sortsBy_46 ?_
  refine tg_topi (fun y1 ey1 => ?_)
  have h := tg_nmE ey1 h
  refine tg_istore_n (lv2 := [(3, .int y1), (0, .ref (tg_ad x 0)), (1, .int v1), (2, .int v2), (4, .int v4)]) X dX8_sortsBy_47 rfl (by decide) rfl ?_
  obtain ⟨y2, ey2⟩ : ∃ z : Int32, z = v4 + 1 := ⟨_, rfl⟩
  have h := tg_nmE ey2 h
  refine tg_iinc (lv2 := [(4, .int y2), (3, .int y1), (0, .ref (tg_ad x 0)), (1, .int v1), (2, .int v2)]) X dX8_sortsBy_48 4 rfl tk_i1 ey2 (by decide) rfl ?_
  refine tg_goto (tgt := 16) X dX8_sortsBy_51 (by decide) ?_
  refine tg_re [2, 3, 4, 1, 0] rfl ?_
  exact hr16 S v1 v2 y1 y2 h
set_option maxRecDepth 20000 in
set_option maxHeartbeats 4000000 in
theorem w_X8_sortsBy_16 {x : tg_X} {Sf : tg_S} {r : Int32} {rec16 : tg_S → Int32 → Int32 → Int32 → Int32 → Option (tg_S × Int32)} (X : tg_M tauR x cX8_sortsBy 5 RX8 zr_X8_sortsBy (some .int) Sf (some (.int r))) (hr16 : ∀ (S : tg_S) (v1 : Int32) (v2 : Int32) (v3 : Int32) (v4 : Int32), rec16 S v1 v2 v3 v4 = some (Sf, r) → tg_G tauR x S 16 [(0, .ref (tg_ad x 0)), (1, .int v1), (2, .int v2), (3, .int v3), (4, .int v4)] []) (S : tg_S) (v1 : Int32) (v2 : Int32) (v3 : Int32) (v4 : Int32) (h : f_X8_sortsBy_16 rec16 S v1 v2 v3 v4 = some (Sf, r)) : tg_G tauR x S 16 [(0, .ref (tg_ad x 0)), (1, .int v1), (2, .int v2), (3, .int v3), (4, .int v4)] [] := by
  unfold f_X8_sortsBy_16 at h
  refine tg_iload X dX8_sortsBy_16 4 rfl ?_
  refine tg_iconst X dX8_sortsBy_18 tk_i3 ?_
  refine tg_icmp_ge (tgt := 54) X dX8_sortsBy_19 (by decide) (fun c1 => ?_) (fun c1 => ?_)
  · have h := tg_ifT c1 h
    refine tg_aload_n X dX8_sortsBy_54 rfl 0 rfl ?_
    refine tg_getr X 0 rfl cl_X8 3 (by decide) rfl wf_X8_19 dX8_sortsBy_55 ?_
    refine tg_iload_n X dX8_sortsBy_58 rfl 1 rfl ?_
    refine tg_iload_n X dX8_sortsBy_59 rfl 2 rfl ?_
    obtain ⟨S2, eS2, bS2, h⟩ := tg_wrE h
    refine tg_iast X 4 rfl bS2 dX8_sortsBy_60 eS2 ?_
    refine tg_iload_n X dX8_sortsBy_61 rfl 3 rfl ?_
    exact tg_iret X h rfl dX8_sortsBy_62
  · have h := tg_ifF c1 h
    refine tg_aload_n X dX8_sortsBy_22 rfl 0 rfl ?_
    refine tg_getr X 0 rfl cl_X8 3 (by decide) rfl wf_X8_19 dX8_sortsBy_23 ?_
    refine tg_iload_n X dX8_sortsBy_26 rfl 1 rfl ?_
    refine tg_iload X dX8_sortsBy_27 4 rfl ?_
    obtain ⟨S3, eS3, bS3, h⟩ := tg_wrE h
    refine tg_iast X 4 rfl bS3 dX8_sortsBy_29 eS3 ?_
    refine tg_iload_n X dX8_sortsBy_30 rfl 3 rfl ?_
    refine tg_aload_n X dX8_sortsBy_31 rfl 0 rfl ?_
    obtain ⟨S4, r5, kS4, h⟩ := tg_bdE h
    refine tg_callV (As := []) (rest := [.int v3]) X 0 (cm_X8_isSeen _ _ _ _ _ kS4) yy_X8_isSeen wv_X8_isSeen ws_X8_isSeen wm_X8_296 rfl cl_X8.1 ⟨rfl, rfl, Nat.le_of_ble_eq_true rfl, Nat.le_of_ble_eq_true rfl⟩ rfl rfl (Nat.le_of_ble_eq_true rfl) dX8_sortsBy_32 rfl ?_
    refine tg_if_eq (tgt := 45) X dX8_sortsBy_35 (by decide) (fun c6 => ?_) (fun c6 => ?_)
    · rw [if_pos c6] at h
      refine tg_iconst X dX8_sortsBy_45 tk_i0 ?_
      refine tg_re [0, 1, 2, 4] rfl ?_
      exact w_X8_sortsBy_46 X hr16 S4 v1 v2 v4 0 v3 h
    · rw [if_neg c6] at h
      refine tg_iconst X dX8_sortsBy_38 tk_i1 ?_
      refine tg_iload X dX8_sortsBy_39 4 rfl ?_
      refine tg_ishl X dX8_sortsBy_41 ?_
      refine tg_goto (tgt := 46) X dX8_sortsBy_42 (by decide) ?_
      refine tg_re [0, 1, 2, 4] rfl ?_
      exact w_X8_sortsBy_46 X hr16 S4 v1 v2 v4 (1 <<< (v4 &&& 31)) v3 h
theorem wl_X8_sortsBy_16 {x : tg_X} {Sf : tg_S} {r : Int32} (X : tg_M tauR x cX8_sortsBy 5 RX8 zr_X8_sortsBy (some .int) Sf (some (.int r))) : ∀ (n : Nat) (S : tg_S) (v1 : Int32) (v2 : Int32) (v3 : Int32) (v4 : Int32) (h : L_X8_sortsBy_16  n S v1 v2 v3 v4 = some (Sf, r)), tg_G tauR x S 16 [(0, .ref (tg_ad x 0)), (1, .int v1), (2, .int v2), (3, .int v3), (4, .int v4)] [] := by
  intro n
  induction n with
  | zero => intro S v1 v2 v3 v4 h; cases h
  | succ n ih => intro S v1 v2 v3 v4 h; exact w_X8_sortsBy_16 X  ih S v1 v2 v3 v4 h
set_option maxRecDepth 20000 in
set_option maxHeartbeats 4000000 in
theorem w_X8_sortsBy_0 {x : tg_X} {Sf : tg_S} {r : Int32} (X : tg_M tauR x cX8_sortsBy 5 RX8 zr_X8_sortsBy (some .int) Sf (some (.int r))) (S : tg_S) (v1 : Int32) (h : f_X8_sortsBy  S v1 = some (Sf, r)) : tg_G tauR x S 0 [(0, .ref (tg_ad x 0)), (1, .int v1)] [] := by
  unfold f_X8_sortsBy at h
  refine tg_aload_n X dX8_sortsBy_0 rfl 0 rfl ?_
  obtain ⟨S1, kS1, h⟩ := tg_bvE h
  refine tg_callV (As := []) (rest := []) X 0 (cm_X8_asTold _ _ _ _ _ kS1) yy_X8_asTold wv_X8_asTold ws_X8_asTold wm_X8_229 rfl cl_X8.1 ⟨rfl, rfl, Nat.le_of_ble_eq_true rfl, Nat.le_of_ble_eq_true rfl⟩ rfl rfl (Nat.le_of_ble_eq_true rfl) dX8_sortsBy_1 rfl ?_
  refine tg_aload_n X dX8_sortsBy_4 rfl 0 rfl ?_
  refine tg_getr X 0 rfl cl_X8 3 (by decide) rfl wf_X8_19 dX8_sortsBy_5 ?_
  refine tg_iload_n X dX8_sortsBy_8 rfl 1 rfl ?_
  obtain ⟨y2, ey2, by2, h⟩ := tg_rdE h
  refine tg_iald X 4 rfl ey2 by2 dX8_sortsBy_9 ?_
  refine tg_istore_n (lv2 := [(2, .int y2), (0, .ref (tg_ad x 0)), (1, .int v1)]) X dX8_sortsBy_10 rfl (by decide) rfl ?_
  refine tg_iconst X dX8_sortsBy_11 tk_i0 ?_
  refine tg_istore_n (lv2 := [(3, .int 0), (2, .int y2), (0, .ref (tg_ad x 0)), (1, .int v1)]) X dX8_sortsBy_12 rfl (by decide) rfl ?_
  refine tg_iconst X dX8_sortsBy_13 tk_i0 ?_
  refine tg_istore (lv2 := [(4, .int 0), (3, .int 0), (2, .int y2), (0, .ref (tg_ad x 0)), (1, .int v1)]) X dX8_sortsBy_14 (by decide) rfl ?_
  refine tg_re [3, 4, 2, 1, 0] rfl ?_
  exact wl_X8_sortsBy_16 X  tg_F S1 v1 y2 0 0 h
theorem cm_X8_sortsBy (l : Launch) (D : va_G) (cy : Bool → ClassId) (ad : Nat → Nat) (tS : Nat) {S Sf : tg_S} {v1 : Int32} {r : Int32} (h : f_X8_sortsBy  S v1 = some (Sf, r)) : tg_Met l yX8_sortsBy cX8_sortsBy 5 (some .int) zr_X8_sortsBy tauR D cy ad tS S [.ref (ad 0), .int v1] Sf (some (.int r)) := tg_mk (by decide +kernel) trivial (Nat.le_of_ble_eq_true rfl) (fun p e s m args below meth c Q A X => w_X8_sortsBy_0 X S v1 h)
-- X8_was
def zr_X8_was : Room := { frames := 7, cells := 0, slots := 0, locals := 165 }
theorem dX8_was_0 : decode cX8_was 0 = .ok (.aload_n 0, 1) := by decide +kernel
theorem dX8_was_1 : decode cX8_was 1 = .ok (.iload_n 1, 1) := by decide +kernel
theorem dX8_was_2 : decode cX8_was 2 = .ok (.invokevirtual 144, 3) := by decide +kernel
theorem dX8_was_5 : decode cX8_was 5 = .ok (.ifCond .eq 30, 3) := by decide +kernel
theorem dX8_was_8 : decode cX8_was 8 = .ok (.iload_n 2, 1) := by decide +kernel
theorem dX8_was_9 : decode cX8_was 9 = .ok (.invokestatic 153, 3) := by decide +kernel
theorem dX8_was_12 : decode cX8_was 12 = .ok (.ifCond .eq 23, 3) := by decide +kernel
theorem dX8_was_15 : decode cX8_was 15 = .ok (.iload_n 2, 1) := by decide +kernel
theorem dX8_was_16 : decode cX8_was 16 = .ok (.ifCond .ne 11, 3) := by decide +kernel
theorem dX8_was_19 : decode cX8_was 19 = .ok (.aload_n 0, 1) := by decide +kernel
theorem dX8_was_20 : decode cX8_was 20 = .ok (.iload_n 1, 1) := by decide +kernel
theorem dX8_was_21 : decode cX8_was 21 = .ok (.invokevirtual 303, 3) := by decide +kernel
theorem dX8_was_24 : decode cX8_was 24 = .ok (.goto 13, 3) := by decide +kernel
theorem dX8_was_27 : decode cX8_was 27 = .ok (.aload_n 0, 1) := by decide +kernel
theorem dX8_was_28 : decode cX8_was 28 = .ok (.iload_n 1, 1) := by decide +kernel
theorem dX8_was_29 : decode cX8_was 29 = .ok (.invokevirtual 306, 3) := by decide +kernel
theorem dX8_was_32 : decode cX8_was 32 = .ok (.goto 5, 3) := by decide +kernel
theorem dX8_was_35 : decode cX8_was 35 = .ok (.bipush (-2), 2) := by decide +kernel
theorem dX8_was_37 : decode cX8_was 37 = .ok (.ireturn, 1) := by decide +kernel
set_option maxRecDepth 20000 in
set_option maxHeartbeats 4000000 in
theorem w_X8_was_0 {x : tg_X} {Sf : tg_S} {r : Int32} (X : tg_M tauR x cX8_was 3 RX8 zr_X8_was (some .int) Sf (some (.int r))) (S : tg_S) (v1 : Int32) (v2 : Int32) (h : f_X8_was  S v1 v2 = some (Sf, r)) : tg_G tauR x S 0 [(0, .ref (tg_ad x 0)), (1, .int v1), (2, .int v2)] [] := by
  unfold f_X8_was at h
  refine tg_aload_n X dX8_was_0 rfl 0 rfl ?_
  refine tg_iload_n X dX8_was_1 rfl 1 rfl ?_
  obtain ⟨S1, r2, kS1, h⟩ := tg_bdE h
  refine tg_callV (As := [.int v1]) (rest := []) X 0 (cm_X8_isPuller _ _ _ _ _ kS1) yy_X8_isPuller wv_X8_isPuller ws_X8_isPuller wm_X8_144 rfl cl_X8.1 ⟨rfl, rfl, Nat.le_of_ble_eq_true rfl, Nat.le_of_ble_eq_true rfl⟩ rfl rfl (Nat.le_of_ble_eq_true rfl) dX8_was_2 rfl ?_
  refine tg_if_eq (tgt := 35) X dX8_was_5 (by decide) (fun c3 => ?_) (fun c3 => ?_)
  · have h := tg_ifT c3 h
    refine tg_bipush X dX8_was_35 tk_bm2 ?_
    exact tg_iret X h rfl dX8_was_37
  · have h := tg_ifF c3 h
    refine tg_iload_n X dX8_was_8 rfl 2 rfl ?_
    obtain ⟨S4, r5, kS4, h⟩ := tg_bdE h
    refine tg_callS (As := [.int v2]) (rest := []) X (cm_X8_isTwo _ _ _ _ _ kS4) yy_X8_isTwo wt_X8_isTwo wm_X8_153 ⟨rfl, rfl, Nat.le_of_ble_eq_true rfl, Nat.le_of_ble_eq_true rfl⟩ rfl rfl (Nat.le_of_ble_eq_true rfl) dX8_was_9 rfl ?_
    refine tg_if_eq (tgt := 35) X dX8_was_12 (by decide) (fun c6 => ?_) (fun c6 => ?_)
    · have h := tg_ifT c6 h
      refine tg_bipush X dX8_was_35 tk_bm2 ?_
      exact tg_iret X h rfl dX8_was_37
    · have h := tg_ifF c6 h
      refine tg_iload_n X dX8_was_15 rfl 2 rfl ?_
      refine tg_if_ne (tgt := 27) X dX8_was_16 (by decide) (fun c7 => ?_) (fun c7 => ?_)
      · have h := tg_ifF c7 h
        refine tg_aload_n X dX8_was_27 rfl 0 rfl ?_
        refine tg_iload_n X dX8_was_28 rfl 1 rfl ?_
        obtain ⟨S8, r9, kS8, h⟩ := tg_bdE h
        refine tg_callV (As := [.int v1]) (rest := []) X 0 (cm_X8_sortsBy _ _ _ _ _ kS8) yy_X8_sortsBy wv_X8_sortsBy ws_X8_sortsBy wm_X8_306 rfl cl_X8.1 ⟨rfl, rfl, Nat.le_of_ble_eq_true rfl, Nat.le_of_ble_eq_true rfl⟩ rfl rfl (Nat.le_of_ble_eq_true rfl) dX8_was_29 rfl ?_
        refine tg_goto (tgt := 37) X dX8_was_32 (by decide) ?_
        exact tg_iret X h rfl dX8_was_37
      · have h := tg_ifT c7 h
        refine tg_aload_n X dX8_was_19 rfl 0 rfl ?_
        refine tg_iload_n X dX8_was_20 rfl 1 rfl ?_
        obtain ⟨S10, r11, kS10, h⟩ := tg_bdE h
        refine tg_callV (As := [.int v1]) (rest := []) X 0 (cm_X8_weightsBy _ _ _ _ _ kS10) yy_X8_weightsBy wv_X8_weightsBy ws_X8_weightsBy wm_X8_303 rfl cl_X8.1 ⟨rfl, rfl, Nat.le_of_ble_eq_true rfl, Nat.le_of_ble_eq_true rfl⟩ rfl rfl (Nat.le_of_ble_eq_true rfl) dX8_was_21 rfl ?_
        refine tg_goto (tgt := 37) X dX8_was_24 (by decide) ?_
        exact tg_iret X h rfl dX8_was_37
theorem cm_X8_was (l : Launch) (D : va_G) (cy : Bool → ClassId) (ad : Nat → Nat) (tS : Nat) {S Sf : tg_S} {v1 : Int32} {v2 : Int32} {r : Int32} (h : f_X8_was  S v1 v2 = some (Sf, r)) : tg_Met l yX8_was cX8_was 3 (some .int) zr_X8_was tauR D cy ad tS S [.ref (ad 0), .int v1, .int v2] Sf (some (.int r)) := tg_mk (by decide +kernel) trivial (Nat.le_of_ble_eq_true rfl) (fun p e s m args below meth c Q A X => w_X8_was_0 X S v1 v2 h)
-- X8_askOf
def zr_X8_askOf : Room := { frames := 7, cells := 0, slots := 0, locals := 165 }
theorem dX8_askOf_0 : decode cX8_askOf 0 = .ok (.aload_n 0, 1) := by decide +kernel
theorem dX8_askOf_1 : decode cX8_askOf 1 = .ok (.iload_n 1, 1) := by decide +kernel
theorem dX8_askOf_2 : decode cX8_askOf 2 = .ok (.invokevirtual 303, 3) := by decide +kernel
theorem dX8_askOf_5 : decode cX8_askOf 5 = .ok (.istore_n 2, 1) := by decide +kernel
theorem dX8_askOf_6 : decode cX8_askOf 6 = .ok (.iconst (-1), 1) := by decide +kernel
theorem dX8_askOf_7 : decode cX8_askOf 7 = .ok (.istore_n 3, 1) := by decide +kernel
theorem dX8_askOf_8 : decode cX8_askOf 8 = .ok (.iconst 0, 1) := by decide +kernel
theorem dX8_askOf_9 : decode cX8_askOf 9 = .ok (.istore 4, 2) := by decide +kernel
theorem dX8_askOf_11 : decode cX8_askOf 11 = .ok (.iconst 0, 1) := by decide +kernel
theorem dX8_askOf_12 : decode cX8_askOf 12 = .ok (.istore 5, 2) := by decide +kernel
theorem dX8_askOf_14 : decode cX8_askOf 14 = .ok (.iload 5, 2) := by decide +kernel
theorem dX8_askOf_16 : decode cX8_askOf 16 = .ok (.bipush 24, 2) := by decide +kernel
theorem dX8_askOf_18 : decode cX8_askOf 18 = .ok (.if_icmp .ge 165, 3) := by decide +kernel
theorem dX8_askOf_21 : decode cX8_askOf 21 = .ok (.iconst 0, 1) := by decide +kernel
theorem dX8_askOf_22 : decode cX8_askOf 22 = .ok (.istore 6, 2) := by decide +kernel
theorem dX8_askOf_24 : decode cX8_askOf 24 = .ok (.iconst 1, 1) := by decide +kernel
theorem dX8_askOf_25 : decode cX8_askOf 25 = .ok (.istore 7, 2) := by decide +kernel
theorem dX8_askOf_27 : decode cX8_askOf 27 = .ok (.iload 7, 2) := by decide +kernel
theorem dX8_askOf_29 : decode cX8_askOf 29 = .ok (.bipush 10, 2) := by decide +kernel
theorem dX8_askOf_31 : decode cX8_askOf 31 = .ok (.if_icmp .ge 101, 3) := by decide +kernel
theorem dX8_askOf_34 : decode cX8_askOf 34 = .ok (.iconst 0, 1) := by decide +kernel
theorem dX8_askOf_35 : decode cX8_askOf 35 = .ok (.istore 8, 2) := by decide +kernel
theorem dX8_askOf_37 : decode cX8_askOf 37 = .ok (.iconst 1, 1) := by decide +kernel
theorem dX8_askOf_38 : decode cX8_askOf 38 = .ok (.istore 9, 2) := by decide +kernel
theorem dX8_askOf_40 : decode cX8_askOf 40 = .ok (.iload 9, 2) := by decide +kernel
theorem dX8_askOf_42 : decode cX8_askOf 42 = .ok (.bipush 10, 2) := by decide +kernel
theorem dX8_askOf_44 : decode cX8_askOf 44 = .ok (.if_icmp .ge 66, 3) := by decide +kernel
theorem dX8_askOf_47 : decode cX8_askOf 47 = .ok (.iload 8, 2) := by decide +kernel
theorem dX8_askOf_49 : decode cX8_askOf 49 = .ok (.iload_n 2, 1) := by decide +kernel
theorem dX8_askOf_50 : decode cX8_askOf 50 = .ok (.iload 7, 2) := by decide +kernel
theorem dX8_askOf_52 : decode cX8_askOf 52 = .ok (.invokestatic 190, 3) := by decide +kernel
theorem dX8_askOf_55 : decode cX8_askOf 55 = .ok (.ifCond .eq 45, 3) := by decide +kernel
theorem dX8_askOf_58 : decode cX8_askOf 58 = .ok (.iload_n 2, 1) := by decide +kernel
theorem dX8_askOf_59 : decode cX8_askOf 59 = .ok (.iload 9, 2) := by decide +kernel
theorem dX8_askOf_61 : decode cX8_askOf 61 = .ok (.invokestatic 190, 3) := by decide +kernel
theorem dX8_askOf_64 : decode cX8_askOf 64 = .ok (.ifCond .eq 36, 3) := by decide +kernel
theorem dX8_askOf_67 : decode cX8_askOf 67 = .ok (.aload_n 0, 1) := by decide +kernel
theorem dX8_askOf_68 : decode cX8_askOf 68 = .ok (.getfield 88, 3) := by decide +kernel
theorem dX8_askOf_71 : decode cX8_askOf 71 = .ok (.bipush 24, 2) := by decide +kernel
theorem dX8_askOf_73 : decode cX8_askOf 73 = .ok (.iload 7, 2) := by decide +kernel
theorem dX8_askOf_75 : decode cX8_askOf 75 = .ok (.imul, 1) := by decide +kernel
theorem dX8_askOf_76 : decode cX8_askOf 76 = .ok (.iload 5, 2) := by decide +kernel
theorem dX8_askOf_78 : decode cX8_askOf 78 = .ok (.iadd, 1) := by decide +kernel
theorem dX8_askOf_79 : decode cX8_askOf 79 = .ok (.iaload, 1) := by decide +kernel
theorem dX8_askOf_80 : decode cX8_askOf 80 = .ok (.aload_n 0, 1) := by decide +kernel
theorem dX8_askOf_81 : decode cX8_askOf 81 = .ok (.getfield 88, 3) := by decide +kernel
theorem dX8_askOf_84 : decode cX8_askOf 84 = .ok (.bipush 24, 2) := by decide +kernel
theorem dX8_askOf_86 : decode cX8_askOf 86 = .ok (.iload 9, 2) := by decide +kernel
theorem dX8_askOf_88 : decode cX8_askOf 88 = .ok (.imul, 1) := by decide +kernel
theorem dX8_askOf_89 : decode cX8_askOf 89 = .ok (.iload 5, 2) := by decide +kernel
theorem dX8_askOf_91 : decode cX8_askOf 91 = .ok (.iadd, 1) := by decide +kernel
theorem dX8_askOf_92 : decode cX8_askOf 92 = .ok (.iaload, 1) := by decide +kernel
theorem dX8_askOf_93 : decode cX8_askOf 93 = .ok (.if_icmp .ne 7, 3) := by decide +kernel
theorem dX8_askOf_96 : decode cX8_askOf 96 = .ok (.iconst 1, 1) := by decide +kernel
theorem dX8_askOf_97 : decode cX8_askOf 97 = .ok (.goto 4, 3) := by decide +kernel
theorem dX8_askOf_100 : decode cX8_askOf 100 = .ok (.iconst 0, 1) := by decide +kernel
theorem dX8_askOf_101 : decode cX8_askOf 101 = .ok (.iadd, 1) := by decide +kernel
theorem dX8_askOf_102 : decode cX8_askOf 102 = .ok (.istore 8, 2) := by decide +kernel
theorem dX8_askOf_104 : decode cX8_askOf 104 = .ok (.iinc 9 1, 3) := by decide +kernel
theorem dX8_askOf_107 : decode cX8_askOf 107 = .ok (.goto (-67), 3) := by decide +kernel
theorem dX8_askOf_110 : decode cX8_askOf 110 = .ok (.iload 8, 2) := by decide +kernel
theorem dX8_askOf_112 : decode cX8_askOf 112 = .ok (.iload 6, 2) := by decide +kernel
theorem dX8_askOf_114 : decode cX8_askOf 114 = .ok (.if_icmp .le 8, 3) := by decide +kernel
theorem dX8_askOf_117 : decode cX8_askOf 117 = .ok (.iload 8, 2) := by decide +kernel
theorem dX8_askOf_119 : decode cX8_askOf 119 = .ok (.goto 5, 3) := by decide +kernel
theorem dX8_askOf_122 : decode cX8_askOf 122 = .ok (.iload 6, 2) := by decide +kernel
theorem dX8_askOf_124 : decode cX8_askOf 124 = .ok (.istore 6, 2) := by decide +kernel
theorem dX8_askOf_126 : decode cX8_askOf 126 = .ok (.iinc 7 1, 3) := by decide +kernel
theorem dX8_askOf_129 : decode cX8_askOf 129 = .ok (.goto (-102), 3) := by decide +kernel
theorem dX8_askOf_132 : decode cX8_askOf 132 = .ok (.iload_n 3, 1) := by decide +kernel
theorem dX8_askOf_133 : decode cX8_askOf 133 = .ok (.iconst (-1), 1) := by decide +kernel
theorem dX8_askOf_134 : decode cX8_askOf 134 = .ok (.if_icmp .eq 10, 3) := by decide +kernel
theorem dX8_askOf_137 : decode cX8_askOf 137 = .ok (.iload 6, 2) := by decide +kernel
theorem dX8_askOf_139 : decode cX8_askOf 139 = .ok (.iload 4, 2) := by decide +kernel
theorem dX8_askOf_141 : decode cX8_askOf 141 = .ok (.if_icmp .ge 7, 3) := by decide +kernel
theorem dX8_askOf_144 : decode cX8_askOf 144 = .ok (.iconst 1, 1) := by decide +kernel
theorem dX8_askOf_145 : decode cX8_askOf 145 = .ok (.goto 4, 3) := by decide +kernel
theorem dX8_askOf_148 : decode cX8_askOf 148 = .ok (.iconst 0, 1) := by decide +kernel
theorem dX8_askOf_149 : decode cX8_askOf 149 = .ok (.istore 7, 2) := by decide +kernel
theorem dX8_askOf_151 : decode cX8_askOf 151 = .ok (.iload 7, 2) := by decide +kernel
theorem dX8_askOf_153 : decode cX8_askOf 153 = .ok (.ifCond .eq 8, 3) := by decide +kernel
theorem dX8_askOf_156 : decode cX8_askOf 156 = .ok (.iload 5, 2) := by decide +kernel
theorem dX8_askOf_158 : decode cX8_askOf 158 = .ok (.goto 4, 3) := by decide +kernel
theorem dX8_askOf_161 : decode cX8_askOf 161 = .ok (.iload_n 3, 1) := by decide +kernel
theorem dX8_askOf_162 : decode cX8_askOf 162 = .ok (.istore_n 3, 1) := by decide +kernel
theorem dX8_askOf_163 : decode cX8_askOf 163 = .ok (.iload 7, 2) := by decide +kernel
theorem dX8_askOf_165 : decode cX8_askOf 165 = .ok (.ifCond .eq 8, 3) := by decide +kernel
theorem dX8_askOf_168 : decode cX8_askOf 168 = .ok (.iload 6, 2) := by decide +kernel
theorem dX8_askOf_170 : decode cX8_askOf 170 = .ok (.goto 5, 3) := by decide +kernel
theorem dX8_askOf_173 : decode cX8_askOf 173 = .ok (.iload 4, 2) := by decide +kernel
theorem dX8_askOf_175 : decode cX8_askOf 175 = .ok (.istore 4, 2) := by decide +kernel
theorem dX8_askOf_177 : decode cX8_askOf 177 = .ok (.iinc 5 1, 3) := by decide +kernel
theorem dX8_askOf_180 : decode cX8_askOf 180 = .ok (.goto (-166), 3) := by decide +kernel
theorem dX8_askOf_183 : decode cX8_askOf 183 = .ok (.iload_n 3, 1) := by decide +kernel
theorem dX8_askOf_184 : decode cX8_askOf 184 = .ok (.ireturn, 1) := by decide +kernel
set_option maxRecDepth 20000 in
set_option maxHeartbeats 4000000 in
theorem w_X8_askOf_175 {x : tg_X} {Sf : tg_S} {r : Int32} {rec14 : tg_S → Int32 → Int32 → Int32 → Int32 → Option (tg_S × Int32)} (X : tg_M tauR x cX8_askOf 10 RX8 zr_X8_askOf (some .int) Sf (some (.int r))) (hr14 : ∀ (S : tg_S) (v2 : Int32) (v3 : Int32) (v4 : Int32) (v5 : Int32), rec14 S v2 v3 v4 v5 = some (Sf, r) → tg_G tauR x S 14 [(0, .ref (tg_ad x 0)), (2, .int v2), (3, .int v3), (4, .int v4), (5, .int v5)] []) (S : tg_S) (v2 : Int32) (v3 : Int32) (v5 : Int32) (s0 : Int32) (h : f_X8_askOf_175 rec14 S v2 v3 v5 s0 = some (Sf, r)) : tg_G tauR x S 175 [(0, .ref (tg_ad x 0)), (2, .int v2), (3, .int v3), (5, .int v5)] [.int s0] := by
  unfold f_X8_askOf_175 at h
  refine tg_istore (lv2 := [(4, .int s0), (0, .ref (tg_ad x 0)), (2, .int v2), (3, .int v3), (5, .int v5)]) X dX8_askOf_175 (by decide) rfl ?_
  obtain ⟨y1, ey1⟩ : ∃ z : Int32, z = v5 + 1 := ⟨_, rfl⟩
  have h := tg_nmE ey1 h
  refine tg_iinc (lv2 := [(5, .int y1), (4, .int s0), (0, .ref (tg_ad x 0)), (2, .int v2), (3, .int v3)]) X dX8_askOf_177 4 rfl tk_i1 ey1 (by decide) rfl ?_
  refine tg_goto (tgt := 14) X dX8_askOf_180 (by decide) ?_
  refine tg_re [2, 3, 4, 1, 0] rfl ?_
  exact hr14 S v2 v3 s0 y1 h
set_option maxRecDepth 20000 in
set_option maxHeartbeats 4000000 in
theorem w_X8_askOf_162 {x : tg_X} {Sf : tg_S} {r : Int32} {rec14 : tg_S → Int32 → Int32 → Int32 → Int32 → Option (tg_S × Int32)} (X : tg_M tauR x cX8_askOf 10 RX8 zr_X8_askOf (some .int) Sf (some (.int r))) (hr14 : ∀ (S : tg_S) (v2 : Int32) (v3 : Int32) (v4 : Int32) (v5 : Int32), rec14 S v2 v3 v4 v5 = some (Sf, r) → tg_G tauR x S 14 [(0, .ref (tg_ad x 0)), (2, .int v2), (3, .int v3), (4, .int v4), (5, .int v5)] []) (S : tg_S) (v2 : Int32) (v4 : Int32) (v5 : Int32) (v6 : Int32) (v7 : Int32) (s0 : Int32) (h : f_X8_askOf_162 rec14 S v2 v4 v5 v6 v7 s0 = some (Sf, r)) : tg_G tauR x S 162 [(0, .ref (tg_ad x 0)), (2, .int v2), (4, .int v4), (5, .int v5), (6, .int v6), (7, .int v7)] [.int s0] := by
  unfold f_X8_askOf_162 at h
  refine tg_istore_n (lv2 := [(3, .int s0), (0, .ref (tg_ad x 0)), (2, .int v2), (4, .int v4), (5, .int v5), (6, .int v6), (7, .int v7)]) X dX8_askOf_162 rfl (by decide) rfl ?_
  refine tg_iload X dX8_askOf_163 6 rfl ?_
  refine tg_if_eq (tgt := 173) X dX8_askOf_165 (by decide) (fun c1 => ?_) (fun c1 => ?_)
  · rw [if_pos c1] at h
    refine tg_iload X dX8_askOf_173 3 rfl ?_
    refine tg_re [1, 2, 0, 4] rfl ?_
    exact w_X8_askOf_175 X hr14 S v2 s0 v5 v4 h
  · rw [if_neg c1] at h
    refine tg_iload X dX8_askOf_168 5 rfl ?_
    refine tg_goto (tgt := 175) X dX8_askOf_170 (by decide) ?_
    refine tg_re [1, 2, 0, 4] rfl ?_
    exact w_X8_askOf_175 X hr14 S v2 s0 v5 v6 h
set_option maxRecDepth 20000 in
set_option maxHeartbeats 4000000 in
theorem w_X8_askOf_149 {x : tg_X} {Sf : tg_S} {r : Int32} {rec14 : tg_S → Int32 → Int32 → Int32 → Int32 → Option (tg_S × Int32)} (X : tg_M tauR x cX8_askOf 10 RX8 zr_X8_askOf (some .int) Sf (some (.int r))) (hr14 : ∀ (S : tg_S) (v2 : Int32) (v3 : Int32) (v4 : Int32) (v5 : Int32), rec14 S v2 v3 v4 v5 = some (Sf, r) → tg_G tauR x S 14 [(0, .ref (tg_ad x 0)), (2, .int v2), (3, .int v3), (4, .int v4), (5, .int v5)] []) (S : tg_S) (v2 : Int32) (v3 : Int32) (v4 : Int32) (v5 : Int32) (v6 : Int32) (s0 : Int32) (h : f_X8_askOf_149 rec14 S v2 v3 v4 v5 v6 s0 = some (Sf, r)) : tg_G tauR x S 149 [(0, .ref (tg_ad x 0)), (2, .int v2), (3, .int v3), (4, .int v4), (5, .int v5), (6, .int v6)] [.int s0] := by
  unfold f_X8_askOf_149 at h
  refine tg_istore (lv2 := [(7, .int s0), (0, .ref (tg_ad x 0)), (2, .int v2), (3, .int v3), (4, .int v4), (5, .int v5), (6, .int v6)]) X dX8_askOf_149 (by decide) rfl ?_
  refine tg_iload X dX8_askOf_151 0 rfl ?_
  refine tg_if_eq (tgt := 161) X dX8_askOf_153 (by decide) (fun c1 => ?_) (fun c1 => ?_)
  · rw [if_pos c1] at h
    refine tg_iload_n X dX8_askOf_161 rfl 3 rfl ?_
    refine tg_re [1, 2, 4, 5, 6, 0] rfl ?_
    exact w_X8_askOf_162 X hr14 S v2 v4 v5 v6 s0 v3 h
  · rw [if_neg c1] at h
    refine tg_iload X dX8_askOf_156 5 rfl ?_
    refine tg_goto (tgt := 162) X dX8_askOf_158 (by decide) ?_
    refine tg_re [1, 2, 4, 5, 6, 0] rfl ?_
    exact w_X8_askOf_162 X hr14 S v2 v4 v5 v6 s0 v5 h
set_option maxRecDepth 20000 in
set_option maxHeartbeats 4000000 in
theorem w_X8_askOf_144 {x : tg_X} {Sf : tg_S} {r : Int32} {rec14 : tg_S → Int32 → Int32 → Int32 → Int32 → Option (tg_S × Int32)} (X : tg_M tauR x cX8_askOf 10 RX8 zr_X8_askOf (some .int) Sf (some (.int r))) (hr14 : ∀ (S : tg_S) (v2 : Int32) (v3 : Int32) (v4 : Int32) (v5 : Int32), rec14 S v2 v3 v4 v5 = some (Sf, r) → tg_G tauR x S 14 [(0, .ref (tg_ad x 0)), (2, .int v2), (3, .int v3), (4, .int v4), (5, .int v5)] []) (S : tg_S) (v2 : Int32) (v3 : Int32) (v4 : Int32) (v5 : Int32) (v6 : Int32) (h : f_X8_askOf_144 rec14 S v2 v3 v4 v5 v6 = some (Sf, r)) : tg_G tauR x S 144 [(0, .ref (tg_ad x 0)), (2, .int v2), (3, .int v3), (4, .int v4), (5, .int v5), (6, .int v6)] [] := by
  unfold f_X8_askOf_144 at h
  refine tg_iconst X dX8_askOf_144 tk_i1 ?_
  refine tg_goto (tgt := 149) X dX8_askOf_145 (by decide) ?_
  exact w_X8_askOf_149 X hr14 S v2 v3 v4 v5 v6 1 h
set_option maxRecDepth 20000 in
set_option maxHeartbeats 4000000 in
theorem w_X8_askOf_124 {x : tg_X} {Sf : tg_S} {r : Int32} {rec14 : tg_S → Int32 → Int32 → Int32 → Int32 → Option (tg_S × Int32)} {rec27 : tg_S → Int32 → Int32 → Int32 → Int32 → Int32 → Int32 → Option (tg_S × Int32)} (X : tg_M tauR x cX8_askOf 10 RX8 zr_X8_askOf (some .int) Sf (some (.int r))) (hr14 : ∀ (S : tg_S) (v2 : Int32) (v3 : Int32) (v4 : Int32) (v5 : Int32), rec14 S v2 v3 v4 v5 = some (Sf, r) → tg_G tauR x S 14 [(0, .ref (tg_ad x 0)), (2, .int v2), (3, .int v3), (4, .int v4), (5, .int v5)] []) (hr27 : ∀ (S : tg_S) (v2 : Int32) (v3 : Int32) (v4 : Int32) (v5 : Int32) (v6 : Int32) (v7 : Int32), rec27 S v2 v3 v4 v5 v6 v7 = some (Sf, r) → tg_G tauR x S 27 [(0, .ref (tg_ad x 0)), (2, .int v2), (3, .int v3), (4, .int v4), (5, .int v5), (6, .int v6), (7, .int v7)] []) (S : tg_S) (v2 : Int32) (v3 : Int32) (v4 : Int32) (v5 : Int32) (v7 : Int32) (s0 : Int32) (h : f_X8_askOf_124 rec14 rec27 S v2 v3 v4 v5 v7 s0 = some (Sf, r)) : tg_G tauR x S 124 [(0, .ref (tg_ad x 0)), (2, .int v2), (3, .int v3), (4, .int v4), (5, .int v5), (7, .int v7)] [.int s0] := by
  unfold f_X8_askOf_124 at h
  refine tg_istore (lv2 := [(6, .int s0), (0, .ref (tg_ad x 0)), (2, .int v2), (3, .int v3), (4, .int v4), (5, .int v5), (7, .int v7)]) X dX8_askOf_124 (by decide) rfl ?_
  obtain ⟨y1, ey1⟩ : ∃ z : Int32, z = v7 + 1 := ⟨_, rfl⟩
  have h := tg_nmE ey1 h
  refine tg_iinc (lv2 := [(7, .int y1), (6, .int s0), (0, .ref (tg_ad x 0)), (2, .int v2), (3, .int v3), (4, .int v4), (5, .int v5)]) X dX8_askOf_126 6 rfl tk_i1 ey1 (by decide) rfl ?_
  refine tg_goto (tgt := 27) X dX8_askOf_129 (by decide) ?_
  refine tg_re [2, 3, 4, 5, 6, 1, 0] rfl ?_
  exact hr27 S v2 v3 v4 v5 s0 y1 h
set_option maxRecDepth 20000 in
set_option maxHeartbeats 4000000 in
theorem w_X8_askOf_101 {x : tg_X} {Sf : tg_S} {r : Int32} {rec14 : tg_S → Int32 → Int32 → Int32 → Int32 → Option (tg_S × Int32)} {rec27 : tg_S → Int32 → Int32 → Int32 → Int32 → Int32 → Int32 → Option (tg_S × Int32)} {rec40 : tg_S → Int32 → Int32 → Int32 → Int32 → Int32 → Int32 → Int32 → Int32 → Option (tg_S × Int32)} (X : tg_M tauR x cX8_askOf 10 RX8 zr_X8_askOf (some .int) Sf (some (.int r))) (hr14 : ∀ (S : tg_S) (v2 : Int32) (v3 : Int32) (v4 : Int32) (v5 : Int32), rec14 S v2 v3 v4 v5 = some (Sf, r) → tg_G tauR x S 14 [(0, .ref (tg_ad x 0)), (2, .int v2), (3, .int v3), (4, .int v4), (5, .int v5)] []) (hr27 : ∀ (S : tg_S) (v2 : Int32) (v3 : Int32) (v4 : Int32) (v5 : Int32) (v6 : Int32) (v7 : Int32), rec27 S v2 v3 v4 v5 v6 v7 = some (Sf, r) → tg_G tauR x S 27 [(0, .ref (tg_ad x 0)), (2, .int v2), (3, .int v3), (4, .int v4), (5, .int v5), (6, .int v6), (7, .int v7)] []) (hr40 : ∀ (S : tg_S) (v2 : Int32) (v3 : Int32) (v4 : Int32) (v5 : Int32) (v6 : Int32) (v7 : Int32) (v8 : Int32) (v9 : Int32), rec40 S v2 v3 v4 v5 v6 v7 v8 v9 = some (Sf, r) → tg_G tauR x S 40 [(0, .ref (tg_ad x 0)), (2, .int v2), (3, .int v3), (4, .int v4), (5, .int v5), (6, .int v6), (7, .int v7), (8, .int v8), (9, .int v9)] []) (S : tg_S) (v2 : Int32) (v3 : Int32) (v4 : Int32) (v5 : Int32) (v6 : Int32) (v7 : Int32) (v9 : Int32) (s0 : Int32) (s1 : Int32) (h : f_X8_askOf_101 rec14 rec27 rec40 S v2 v3 v4 v5 v6 v7 v9 s0 s1 = some (Sf, r)) : tg_G tauR x S 101 [(0, .ref (tg_ad x 0)), (2, .int v2), (3, .int v3), (4, .int v4), (5, .int v5), (6, .int v6), (7, .int v7), (9, .int v9)] [.int s0, .int s1] := by
  unfold f_X8_askOf_101 at h
  refine tg_iadd X dX8_askOf_101 ?_
  refine tg_topi (fun y1 ey1 => ?_)
  have h := tg_nmE ey1 h
  refine tg_istore (lv2 := [(8, .int y1), (0, .ref (tg_ad x 0)), (2, .int v2), (3, .int v3), (4, .int v4), (5, .int v5), (6, .int v6), (7, .int v7), (9, .int v9)]) X dX8_askOf_102 (by decide) rfl ?_
  obtain ⟨y2, ey2⟩ : ∃ z : Int32, z = v9 + 1 := ⟨_, rfl⟩
  have h := tg_nmE ey2 h
  refine tg_iinc (lv2 := [(9, .int y2), (8, .int y1), (0, .ref (tg_ad x 0)), (2, .int v2), (3, .int v3), (4, .int v4), (5, .int v5), (6, .int v6), (7, .int v7)]) X dX8_askOf_104 8 rfl tk_i1 ey2 (by decide) rfl ?_
  refine tg_goto (tgt := 40) X dX8_askOf_107 (by decide) ?_
  refine tg_re [2, 3, 4, 5, 6, 7, 8, 1, 0] rfl ?_
  exact hr40 S v2 v3 v4 v5 v6 v7 y1 y2 h
set_option maxRecDepth 20000 in
set_option maxHeartbeats 4000000 in
theorem w_X8_askOf_100 {x : tg_X} {Sf : tg_S} {r : Int32} {rec14 : tg_S → Int32 → Int32 → Int32 → Int32 → Option (tg_S × Int32)} {rec27 : tg_S → Int32 → Int32 → Int32 → Int32 → Int32 → Int32 → Option (tg_S × Int32)} {rec40 : tg_S → Int32 → Int32 → Int32 → Int32 → Int32 → Int32 → Int32 → Int32 → Option (tg_S × Int32)} (X : tg_M tauR x cX8_askOf 10 RX8 zr_X8_askOf (some .int) Sf (some (.int r))) (hr14 : ∀ (S : tg_S) (v2 : Int32) (v3 : Int32) (v4 : Int32) (v5 : Int32), rec14 S v2 v3 v4 v5 = some (Sf, r) → tg_G tauR x S 14 [(0, .ref (tg_ad x 0)), (2, .int v2), (3, .int v3), (4, .int v4), (5, .int v5)] []) (hr27 : ∀ (S : tg_S) (v2 : Int32) (v3 : Int32) (v4 : Int32) (v5 : Int32) (v6 : Int32) (v7 : Int32), rec27 S v2 v3 v4 v5 v6 v7 = some (Sf, r) → tg_G tauR x S 27 [(0, .ref (tg_ad x 0)), (2, .int v2), (3, .int v3), (4, .int v4), (5, .int v5), (6, .int v6), (7, .int v7)] []) (hr40 : ∀ (S : tg_S) (v2 : Int32) (v3 : Int32) (v4 : Int32) (v5 : Int32) (v6 : Int32) (v7 : Int32) (v8 : Int32) (v9 : Int32), rec40 S v2 v3 v4 v5 v6 v7 v8 v9 = some (Sf, r) → tg_G tauR x S 40 [(0, .ref (tg_ad x 0)), (2, .int v2), (3, .int v3), (4, .int v4), (5, .int v5), (6, .int v6), (7, .int v7), (8, .int v8), (9, .int v9)] []) (S : tg_S) (v2 : Int32) (v3 : Int32) (v4 : Int32) (v5 : Int32) (v6 : Int32) (v7 : Int32) (v9 : Int32) (s0 : Int32) (h : f_X8_askOf_100 rec14 rec27 rec40 S v2 v3 v4 v5 v6 v7 v9 s0 = some (Sf, r)) : tg_G tauR x S 100 [(0, .ref (tg_ad x 0)), (2, .int v2), (3, .int v3), (4, .int v4), (5, .int v5), (6, .int v6), (7, .int v7), (9, .int v9)] [.int s0] := by
  unfold f_X8_askOf_100 at h
  refine tg_iconst X dX8_askOf_100 tk_i0 ?_
  exact w_X8_askOf_101 X hr14 hr27 hr40 S v2 v3 v4 v5 v6 v7 v9 0 s0 h
set_option maxRecDepth 20000 in
set_option maxHeartbeats 4000000 in
theorem w_X8_askOf_40 {x : tg_X} {Sf : tg_S} {r : Int32} {rec14 : tg_S → Int32 → Int32 → Int32 → Int32 → Option (tg_S × Int32)} {rec27 : tg_S → Int32 → Int32 → Int32 → Int32 → Int32 → Int32 → Option (tg_S × Int32)} {rec40 : tg_S → Int32 → Int32 → Int32 → Int32 → Int32 → Int32 → Int32 → Int32 → Option (tg_S × Int32)} (X : tg_M tauR x cX8_askOf 10 RX8 zr_X8_askOf (some .int) Sf (some (.int r))) (hr14 : ∀ (S : tg_S) (v2 : Int32) (v3 : Int32) (v4 : Int32) (v5 : Int32), rec14 S v2 v3 v4 v5 = some (Sf, r) → tg_G tauR x S 14 [(0, .ref (tg_ad x 0)), (2, .int v2), (3, .int v3), (4, .int v4), (5, .int v5)] []) (hr27 : ∀ (S : tg_S) (v2 : Int32) (v3 : Int32) (v4 : Int32) (v5 : Int32) (v6 : Int32) (v7 : Int32), rec27 S v2 v3 v4 v5 v6 v7 = some (Sf, r) → tg_G tauR x S 27 [(0, .ref (tg_ad x 0)), (2, .int v2), (3, .int v3), (4, .int v4), (5, .int v5), (6, .int v6), (7, .int v7)] []) (hr40 : ∀ (S : tg_S) (v2 : Int32) (v3 : Int32) (v4 : Int32) (v5 : Int32) (v6 : Int32) (v7 : Int32) (v8 : Int32) (v9 : Int32), rec40 S v2 v3 v4 v5 v6 v7 v8 v9 = some (Sf, r) → tg_G tauR x S 40 [(0, .ref (tg_ad x 0)), (2, .int v2), (3, .int v3), (4, .int v4), (5, .int v5), (6, .int v6), (7, .int v7), (8, .int v8), (9, .int v9)] []) (S : tg_S) (v2 : Int32) (v3 : Int32) (v4 : Int32) (v5 : Int32) (v6 : Int32) (v7 : Int32) (v8 : Int32) (v9 : Int32) (h : f_X8_askOf_40 rec14 rec27 rec40 S v2 v3 v4 v5 v6 v7 v8 v9 = some (Sf, r)) : tg_G tauR x S 40 [(0, .ref (tg_ad x 0)), (2, .int v2), (3, .int v3), (4, .int v4), (5, .int v5), (6, .int v6), (7, .int v7), (8, .int v8), (9, .int v9)] [] := by
  unfold f_X8_askOf_40 at h
  refine tg_iload X dX8_askOf_40 8 rfl ?_
  refine tg_bipush X dX8_askOf_42 tk_b10 ?_
  refine tg_icmp_ge (tgt := 110) X dX8_askOf_44 (by decide) (fun c1 => ?_) (fun c1 => ?_)
  · have h := tg_ifT c1 h
    refine tg_iload X dX8_askOf_110 7 rfl ?_
    refine tg_iload X dX8_askOf_112 5 rfl ?_
    refine tg_icmp_le (tgt := 122) X dX8_askOf_114 (by decide) (fun c2 => ?_) (fun c2 => ?_)
    · rw [if_pos c2] at h
      refine tg_iload X dX8_askOf_122 5 rfl ?_
      refine tg_re [0, 1, 2, 3, 4, 6] rfl ?_
      exact w_X8_askOf_124 X hr14 hr27 S v2 v3 v4 v5 v7 v6 h
    · rw [if_neg c2] at h
      refine tg_iload X dX8_askOf_117 7 rfl ?_
      refine tg_goto (tgt := 124) X dX8_askOf_119 (by decide) ?_
      refine tg_re [0, 1, 2, 3, 4, 6] rfl ?_
      exact w_X8_askOf_124 X hr14 hr27 S v2 v3 v4 v5 v7 v8 h
  · have h := tg_ifF c1 h
    refine tg_iload X dX8_askOf_47 7 rfl ?_
    refine tg_iload_n X dX8_askOf_49 rfl 1 rfl ?_
    refine tg_iload X dX8_askOf_50 6 rfl ?_
    obtain ⟨S3, r4, kS3, h⟩ := tg_bdE h
    refine tg_callS (As := [.int v2, .int v7]) (rest := [.int v8]) X (cm_X8_isIn _ _ _ _ _ kS3) yy_X8_isIn wt_X8_isIn wm_X8_190 ⟨rfl, rfl, Nat.le_of_ble_eq_true rfl, Nat.le_of_ble_eq_true rfl⟩ rfl rfl (Nat.le_of_ble_eq_true rfl) dX8_askOf_52 rfl ?_
    refine tg_if_eq (tgt := 100) X dX8_askOf_55 (by decide) (fun c5 => ?_) (fun c5 => ?_)
    · have h := tg_ifT c5 h
      refine tg_re [0, 1, 2, 3, 4, 5, 6, 8] rfl ?_
      exact w_X8_askOf_100 X hr14 hr27 hr40 S3 v2 v3 v4 v5 v6 v7 v9 v8 h
    · have h := tg_ifF c5 h
      refine tg_iload_n X dX8_askOf_58 rfl 1 rfl ?_
      refine tg_iload X dX8_askOf_59 8 rfl ?_
      obtain ⟨S6, r7, kS6, h⟩ := tg_bdE h
      refine tg_callS (As := [.int v2, .int v9]) (rest := [.int v8]) X (cm_X8_isIn _ _ _ _ _ kS6) yy_X8_isIn wt_X8_isIn wm_X8_190 ⟨rfl, rfl, Nat.le_of_ble_eq_true rfl, Nat.le_of_ble_eq_true rfl⟩ rfl rfl (Nat.le_of_ble_eq_true rfl) dX8_askOf_61 rfl ?_
      refine tg_if_eq (tgt := 100) X dX8_askOf_64 (by decide) (fun c8 => ?_) (fun c8 => ?_)
      · have h := tg_ifT c8 h
        refine tg_re [0, 1, 2, 3, 4, 5, 6, 8] rfl ?_
        exact w_X8_askOf_100 X hr14 hr27 hr40 S6 v2 v3 v4 v5 v6 v7 v9 v8 h
      · have h := tg_ifF c8 h
        refine tg_aload_n X dX8_askOf_67 rfl 0 rfl ?_
        refine tg_getr X 0 rfl cl_X8 40 (by decide) rfl wf_X8_88 dX8_askOf_68 ?_
        refine tg_bipush X dX8_askOf_71 tk_b24 ?_
        refine tg_iload X dX8_askOf_73 6 rfl ?_
        refine tg_imul X dX8_askOf_75 ?_
        refine tg_iload X dX8_askOf_76 4 rfl ?_
        refine tg_iadd X dX8_askOf_78 ?_
        obtain ⟨y9, ey9, by9, h⟩ := tg_rdE h
        refine tg_iald X 27 rfl ey9 by9 dX8_askOf_79 ?_
        refine tg_aload_n X dX8_askOf_80 rfl 0 rfl ?_
        refine tg_getr X 0 rfl cl_X8 40 (by decide) rfl wf_X8_88 dX8_askOf_81 ?_
        refine tg_bipush X dX8_askOf_84 tk_b24 ?_
        refine tg_iload X dX8_askOf_86 8 rfl ?_
        refine tg_imul X dX8_askOf_88 ?_
        refine tg_iload X dX8_askOf_89 4 rfl ?_
        refine tg_iadd X dX8_askOf_91 ?_
        obtain ⟨y10, ey10, by10, h⟩ := tg_rdE h
        refine tg_iald X 27 rfl ey10 by10 dX8_askOf_92 ?_
        refine tg_icmp_ne (tgt := 100) X dX8_askOf_93 (by decide) (fun c11 => ?_) (fun c11 => ?_)
        · have h := tg_ifF c11 h
          refine tg_re [0, 1, 2, 3, 4, 5, 6, 8] rfl ?_
          exact w_X8_askOf_100 X hr14 hr27 hr40 S6 v2 v3 v4 v5 v6 v7 v9 v8 h
        · have h := tg_ifT c11 h
          refine tg_iconst X dX8_askOf_96 tk_i1 ?_
          refine tg_goto (tgt := 101) X dX8_askOf_97 (by decide) ?_
          refine tg_re [0, 1, 2, 3, 4, 5, 6, 8] rfl ?_
          exact w_X8_askOf_101 X hr14 hr27 hr40 S6 v2 v3 v4 v5 v6 v7 v9 1 v8 h
theorem wl_X8_askOf_40 {x : tg_X} {Sf : tg_S} {r : Int32} {rec14 : tg_S → Int32 → Int32 → Int32 → Int32 → Option (tg_S × Int32)} {rec27 : tg_S → Int32 → Int32 → Int32 → Int32 → Int32 → Int32 → Option (tg_S × Int32)} (X : tg_M tauR x cX8_askOf 10 RX8 zr_X8_askOf (some .int) Sf (some (.int r))) (hr14 : ∀ (S : tg_S) (v2 : Int32) (v3 : Int32) (v4 : Int32) (v5 : Int32), rec14 S v2 v3 v4 v5 = some (Sf, r) → tg_G tauR x S 14 [(0, .ref (tg_ad x 0)), (2, .int v2), (3, .int v3), (4, .int v4), (5, .int v5)] []) (hr27 : ∀ (S : tg_S) (v2 : Int32) (v3 : Int32) (v4 : Int32) (v5 : Int32) (v6 : Int32) (v7 : Int32), rec27 S v2 v3 v4 v5 v6 v7 = some (Sf, r) → tg_G tauR x S 27 [(0, .ref (tg_ad x 0)), (2, .int v2), (3, .int v3), (4, .int v4), (5, .int v5), (6, .int v6), (7, .int v7)] []) : ∀ (n : Nat) (S : tg_S) (v2 : Int32) (v3 : Int32) (v4 : Int32) (v5 : Int32) (v6 : Int32) (v7 : Int32) (v8 : Int32) (v9 : Int32) (h : L_X8_askOf_40 rec14 rec27 n S v2 v3 v4 v5 v6 v7 v8 v9 = some (Sf, r)), tg_G tauR x S 40 [(0, .ref (tg_ad x 0)), (2, .int v2), (3, .int v3), (4, .int v4), (5, .int v5), (6, .int v6), (7, .int v7), (8, .int v8), (9, .int v9)] [] := by
  intro n
  induction n with
  | zero => intro S v2 v3 v4 v5 v6 v7 v8 v9 h; cases h
  | succ n ih => intro S v2 v3 v4 v5 v6 v7 v8 v9 h; exact w_X8_askOf_40 X hr14 hr27 ih S v2 v3 v4 v5 v6 v7 v8 v9 h
set_option maxRecDepth 20000 in
set_option maxHeartbeats 4000000 in
theorem w_X8_askOf_27 {x : tg_X} {Sf : tg_S} {r : Int32} {rec14 : tg_S → Int32 → Int32 → Int32 → Int32 → Option (tg_S × Int32)} {rec27 : tg_S → Int32 → Int32 → Int32 → Int32 → Int32 → Int32 → Option (tg_S × Int32)} (X : tg_M tauR x cX8_askOf 10 RX8 zr_X8_askOf (some .int) Sf (some (.int r))) (hr14 : ∀ (S : tg_S) (v2 : Int32) (v3 : Int32) (v4 : Int32) (v5 : Int32), rec14 S v2 v3 v4 v5 = some (Sf, r) → tg_G tauR x S 14 [(0, .ref (tg_ad x 0)), (2, .int v2), (3, .int v3), (4, .int v4), (5, .int v5)] []) (hr27 : ∀ (S : tg_S) (v2 : Int32) (v3 : Int32) (v4 : Int32) (v5 : Int32) (v6 : Int32) (v7 : Int32), rec27 S v2 v3 v4 v5 v6 v7 = some (Sf, r) → tg_G tauR x S 27 [(0, .ref (tg_ad x 0)), (2, .int v2), (3, .int v3), (4, .int v4), (5, .int v5), (6, .int v6), (7, .int v7)] []) (S : tg_S) (v2 : Int32) (v3 : Int32) (v4 : Int32) (v5 : Int32) (v6 : Int32) (v7 : Int32) (h : f_X8_askOf_27 rec14 rec27 S v2 v3 v4 v5 v6 v7 = some (Sf, r)) : tg_G tauR x S 27 [(0, .ref (tg_ad x 0)), (2, .int v2), (3, .int v3), (4, .int v4), (5, .int v5), (6, .int v6), (7, .int v7)] [] := by
  unfold f_X8_askOf_27 at h
  refine tg_iload X dX8_askOf_27 6 rfl ?_
  refine tg_bipush X dX8_askOf_29 tk_b10 ?_
  refine tg_icmp_ge (tgt := 132) X dX8_askOf_31 (by decide) (fun c1 => ?_) (fun c1 => ?_)
  · have h := tg_ifT c1 h
    refine tg_iload_n X dX8_askOf_132 rfl 2 rfl ?_
    refine tg_iconst X dX8_askOf_133 tk_im1 ?_
    refine tg_icmp_eq (tgt := 144) X dX8_askOf_134 (by decide) (fun c2 => ?_) (fun c2 => ?_)
    · have h := tg_ifT c2 h
      refine tg_re [0, 1, 2, 3, 4, 5] rfl ?_
      exact w_X8_askOf_144 X hr14 S v2 v3 v4 v5 v6 h
    · have h := tg_ifF c2 h
      refine tg_iload X dX8_askOf_137 5 rfl ?_
      refine tg_iload X dX8_askOf_139 3 rfl ?_
      refine tg_icmp_ge (tgt := 148) X dX8_askOf_141 (by decide) (fun c3 => ?_) (fun c3 => ?_)
      · have h := tg_ifT c3 h
        refine tg_iconst X dX8_askOf_148 tk_i0 ?_
        refine tg_re [0, 1, 2, 3, 4, 5] rfl ?_
        exact w_X8_askOf_149 X hr14 S v2 v3 v4 v5 v6 0 h
      · have h := tg_ifF c3 h
        refine tg_re [0, 1, 2, 3, 4, 5] rfl ?_
        exact w_X8_askOf_144 X hr14 S v2 v3 v4 v5 v6 h
  · have h := tg_ifF c1 h
    refine tg_iconst X dX8_askOf_34 tk_i0 ?_
    refine tg_istore (lv2 := [(8, .int 0), (0, .ref (tg_ad x 0)), (2, .int v2), (3, .int v3), (4, .int v4), (5, .int v5), (6, .int v6), (7, .int v7)]) X dX8_askOf_35 (by decide) rfl ?_
    refine tg_iconst X dX8_askOf_37 tk_i1 ?_
    refine tg_istore (lv2 := [(9, .int 1), (8, .int 0), (0, .ref (tg_ad x 0)), (2, .int v2), (3, .int v3), (4, .int v4), (5, .int v5), (6, .int v6), (7, .int v7)]) X dX8_askOf_38 (by decide) rfl ?_
    refine tg_re [2, 3, 4, 5, 6, 7, 8, 1, 0] rfl ?_
    exact wl_X8_askOf_40 X hr14 hr27 tg_F S v2 v3 v4 v5 v6 v7 0 1 h
theorem wl_X8_askOf_27 {x : tg_X} {Sf : tg_S} {r : Int32} {rec14 : tg_S → Int32 → Int32 → Int32 → Int32 → Option (tg_S × Int32)} (X : tg_M tauR x cX8_askOf 10 RX8 zr_X8_askOf (some .int) Sf (some (.int r))) (hr14 : ∀ (S : tg_S) (v2 : Int32) (v3 : Int32) (v4 : Int32) (v5 : Int32), rec14 S v2 v3 v4 v5 = some (Sf, r) → tg_G tauR x S 14 [(0, .ref (tg_ad x 0)), (2, .int v2), (3, .int v3), (4, .int v4), (5, .int v5)] []) : ∀ (n : Nat) (S : tg_S) (v2 : Int32) (v3 : Int32) (v4 : Int32) (v5 : Int32) (v6 : Int32) (v7 : Int32) (h : L_X8_askOf_27 rec14 n S v2 v3 v4 v5 v6 v7 = some (Sf, r)), tg_G tauR x S 27 [(0, .ref (tg_ad x 0)), (2, .int v2), (3, .int v3), (4, .int v4), (5, .int v5), (6, .int v6), (7, .int v7)] [] := by
  intro n
  induction n with
  | zero => intro S v2 v3 v4 v5 v6 v7 h; cases h
  | succ n ih => intro S v2 v3 v4 v5 v6 v7 h; exact w_X8_askOf_27 X hr14 ih S v2 v3 v4 v5 v6 v7 h
set_option maxRecDepth 20000 in
set_option maxHeartbeats 4000000 in
theorem w_X8_askOf_14 {x : tg_X} {Sf : tg_S} {r : Int32} {rec14 : tg_S → Int32 → Int32 → Int32 → Int32 → Option (tg_S × Int32)} (X : tg_M tauR x cX8_askOf 10 RX8 zr_X8_askOf (some .int) Sf (some (.int r))) (hr14 : ∀ (S : tg_S) (v2 : Int32) (v3 : Int32) (v4 : Int32) (v5 : Int32), rec14 S v2 v3 v4 v5 = some (Sf, r) → tg_G tauR x S 14 [(0, .ref (tg_ad x 0)), (2, .int v2), (3, .int v3), (4, .int v4), (5, .int v5)] []) (S : tg_S) (v2 : Int32) (v3 : Int32) (v4 : Int32) (v5 : Int32) (h : f_X8_askOf_14 rec14 S v2 v3 v4 v5 = some (Sf, r)) : tg_G tauR x S 14 [(0, .ref (tg_ad x 0)), (2, .int v2), (3, .int v3), (4, .int v4), (5, .int v5)] [] := by
  unfold f_X8_askOf_14 at h
  refine tg_iload X dX8_askOf_14 4 rfl ?_
  refine tg_bipush X dX8_askOf_16 tk_b24 ?_
  refine tg_icmp_ge (tgt := 183) X dX8_askOf_18 (by decide) (fun c1 => ?_) (fun c1 => ?_)
  · have h := tg_ifT c1 h
    refine tg_iload_n X dX8_askOf_183 rfl 2 rfl ?_
    exact tg_iret X h rfl dX8_askOf_184
  · have h := tg_ifF c1 h
    refine tg_iconst X dX8_askOf_21 tk_i0 ?_
    refine tg_istore (lv2 := [(6, .int 0), (0, .ref (tg_ad x 0)), (2, .int v2), (3, .int v3), (4, .int v4), (5, .int v5)]) X dX8_askOf_22 (by decide) rfl ?_
    refine tg_iconst X dX8_askOf_24 tk_i1 ?_
    refine tg_istore (lv2 := [(7, .int 1), (6, .int 0), (0, .ref (tg_ad x 0)), (2, .int v2), (3, .int v3), (4, .int v4), (5, .int v5)]) X dX8_askOf_25 (by decide) rfl ?_
    refine tg_re [2, 3, 4, 5, 6, 1, 0] rfl ?_
    exact wl_X8_askOf_27 X hr14 tg_F S v2 v3 v4 v5 0 1 h
theorem wl_X8_askOf_14 {x : tg_X} {Sf : tg_S} {r : Int32} (X : tg_M tauR x cX8_askOf 10 RX8 zr_X8_askOf (some .int) Sf (some (.int r))) : ∀ (n : Nat) (S : tg_S) (v2 : Int32) (v3 : Int32) (v4 : Int32) (v5 : Int32) (h : L_X8_askOf_14  n S v2 v3 v4 v5 = some (Sf, r)), tg_G tauR x S 14 [(0, .ref (tg_ad x 0)), (2, .int v2), (3, .int v3), (4, .int v4), (5, .int v5)] [] := by
  intro n
  induction n with
  | zero => intro S v2 v3 v4 v5 h; cases h
  | succ n ih => intro S v2 v3 v4 v5 h; exact w_X8_askOf_14 X  ih S v2 v3 v4 v5 h
set_option maxRecDepth 20000 in
set_option maxHeartbeats 4000000 in
theorem w_X8_askOf_0 {x : tg_X} {Sf : tg_S} {r : Int32} (X : tg_M tauR x cX8_askOf 10 RX8 zr_X8_askOf (some .int) Sf (some (.int r))) (S : tg_S) (v1 : Int32) (h : f_X8_askOf  S v1 = some (Sf, r)) : tg_G tauR x S 0 [(0, .ref (tg_ad x 0)), (1, .int v1)] [] := by
  unfold f_X8_askOf at h
  refine tg_aload_n X dX8_askOf_0 rfl 0 rfl ?_
  refine tg_iload_n X dX8_askOf_1 rfl 1 rfl ?_
  obtain ⟨S1, r2, kS1, h⟩ := tg_bdE h
  refine tg_callV (As := [.int v1]) (rest := []) X 0 (cm_X8_weightsBy _ _ _ _ _ kS1) yy_X8_weightsBy wv_X8_weightsBy ws_X8_weightsBy wm_X8_303 rfl cl_X8.1 ⟨rfl, rfl, Nat.le_of_ble_eq_true rfl, Nat.le_of_ble_eq_true rfl⟩ rfl rfl (Nat.le_of_ble_eq_true rfl) dX8_askOf_2 rfl ?_
  refine tg_istore_n (lv2 := [(2, .int r2), (0, .ref (tg_ad x 0)), (1, .int v1)]) X dX8_askOf_5 rfl (by decide) rfl ?_
  refine tg_iconst X dX8_askOf_6 tk_im1 ?_
  refine tg_topi (fun y3 ey3 => ?_)
  have h := tg_nmE ey3 h
  refine tg_istore_n (lv2 := [(3, .int y3), (2, .int r2), (0, .ref (tg_ad x 0)), (1, .int v1)]) X dX8_askOf_7 rfl (by decide) rfl ?_
  refine tg_iconst X dX8_askOf_8 tk_i0 ?_
  refine tg_istore (lv2 := [(4, .int 0), (3, .int y3), (2, .int r2), (0, .ref (tg_ad x 0)), (1, .int v1)]) X dX8_askOf_9 (by decide) rfl ?_
  refine tg_iconst X dX8_askOf_11 tk_i0 ?_
  refine tg_istore (lv2 := [(5, .int 0), (4, .int 0), (3, .int y3), (2, .int r2), (0, .ref (tg_ad x 0)), (1, .int v1)]) X dX8_askOf_12 (by decide) rfl ?_
  refine tg_re [4, 3, 2, 1, 0] rfl ?_
  exact wl_X8_askOf_14 X  tg_F S1 r2 y3 0 0 h
theorem cm_X8_askOf (l : Launch) (D : va_G) (cy : Bool → ClassId) (ad : Nat → Nat) (tS : Nat) {S Sf : tg_S} {v1 : Int32} {r : Int32} (h : f_X8_askOf  S v1 = some (Sf, r)) : tg_Met l yX8_askOf cX8_askOf 10 (some .int) zr_X8_askOf tauR D cy ad tS S [.ref (ad 0), .int v1] Sf (some (.int r)) := tg_mk (by decide +kernel) trivial (Nat.le_of_ble_eq_true rfl) (fun p e s m args below meth c Q A X => w_X8_askOf_0 X S v1 h)
-- X8_ask
def zr_X8_ask : Room := { frames := 8, cells := 0, slots := 0, locals := 194 }
theorem dX8_ask_0 : decode cX8_ask 0 = .ok (.aload_n 0, 1) := by decide +kernel
theorem dX8_ask_1 : decode cX8_ask 1 = .ok (.iload_n 1, 1) := by decide +kernel
theorem dX8_ask_2 : decode cX8_ask 2 = .ok (.invokevirtual 144, 3) := by decide +kernel
theorem dX8_ask_5 : decode cX8_ask 5 = .ok (.ifCond .eq 11, 3) := by decide +kernel
theorem dX8_ask_8 : decode cX8_ask 8 = .ok (.aload_n 0, 1) := by decide +kernel
theorem dX8_ask_9 : decode cX8_ask 9 = .ok (.iload_n 1, 1) := by decide +kernel
theorem dX8_ask_10 : decode cX8_ask 10 = .ok (.invokevirtual 309, 3) := by decide +kernel
theorem dX8_ask_13 : decode cX8_ask 13 = .ok (.goto 5, 3) := by decide +kernel
theorem dX8_ask_16 : decode cX8_ask 16 = .ok (.bipush (-2), 2) := by decide +kernel
theorem dX8_ask_18 : decode cX8_ask 18 = .ok (.ireturn, 1) := by decide +kernel
set_option maxRecDepth 20000 in
set_option maxHeartbeats 4000000 in
theorem w_X8_ask_0 {x : tg_X} {Sf : tg_S} {r : Int32} (X : tg_M tauR x cX8_ask 2 RX8 zr_X8_ask (some .int) Sf (some (.int r))) (S : tg_S) (v1 : Int32) (h : f_X8_ask  S v1 = some (Sf, r)) : tg_G tauR x S 0 [(0, .ref (tg_ad x 0)), (1, .int v1)] [] := by
  unfold f_X8_ask at h
  refine tg_aload_n X dX8_ask_0 rfl 0 rfl ?_
  refine tg_iload_n X dX8_ask_1 rfl 1 rfl ?_
  obtain ⟨S1, r2, kS1, h⟩ := tg_bdE h
  refine tg_callV (As := [.int v1]) (rest := []) X 0 (cm_X8_isPuller _ _ _ _ _ kS1) yy_X8_isPuller wv_X8_isPuller ws_X8_isPuller wm_X8_144 rfl cl_X8.1 ⟨rfl, rfl, Nat.le_of_ble_eq_true rfl, Nat.le_of_ble_eq_true rfl⟩ rfl rfl (Nat.le_of_ble_eq_true rfl) dX8_ask_2 rfl ?_
  refine tg_if_eq (tgt := 16) X dX8_ask_5 (by decide) (fun c3 => ?_) (fun c3 => ?_)
  · have h := tg_ifT c3 h
    refine tg_bipush X dX8_ask_16 tk_bm2 ?_
    exact tg_iret X h rfl dX8_ask_18
  · have h := tg_ifF c3 h
    refine tg_aload_n X dX8_ask_8 rfl 0 rfl ?_
    refine tg_iload_n X dX8_ask_9 rfl 1 rfl ?_
    obtain ⟨S4, r5, kS4, h⟩ := tg_bdE h
    refine tg_callV (As := [.int v1]) (rest := []) X 0 (cm_X8_askOf _ _ _ _ _ kS4) yy_X8_askOf wv_X8_askOf ws_X8_askOf wm_X8_309 rfl cl_X8.1 ⟨rfl, rfl, Nat.le_of_ble_eq_true rfl, Nat.le_of_ble_eq_true rfl⟩ rfl rfl (Nat.le_of_ble_eq_true rfl) dX8_ask_10 rfl ?_
    refine tg_goto (tgt := 18) X dX8_ask_13 (by decide) ?_
    exact tg_iret X h rfl dX8_ask_18
theorem cm_X8_ask (l : Launch) (D : va_G) (cy : Bool → ClassId) (ad : Nat → Nat) (tS : Nat) {S Sf : tg_S} {v1 : Int32} {r : Int32} (h : f_X8_ask  S v1 = some (Sf, r)) : tg_Met l yX8_ask cX8_ask 2 (some .int) zr_X8_ask tauR D cy ad tS S [.ref (ad 0), .int v1] Sf (some (.int r)) := tg_mk (by decide +kernel) trivial (Nat.le_of_ble_eq_true rfl) (fun p e s m args below meth c Q A X => w_X8_ask_0 X S v1 h)
-- X8_chanceOf
def zr_X8_chanceOf : Room := { frames := 6, cells := 0, slots := 0, locals := 140 }
theorem dX8_chanceOf_0 : decode cX8_chanceOf 0 = .ok (.aload_n 0, 1) := by decide +kernel
theorem dX8_chanceOf_1 : decode cX8_chanceOf 1 = .ok (.invokevirtual 229, 3) := by decide +kernel
theorem dX8_chanceOf_4 : decode cX8_chanceOf 4 = .ok (.lconst 0, 1) := by decide +kernel
theorem dX8_chanceOf_5 : decode cX8_chanceOf 5 = .ok (.lstore 4, 2) := by decide +kernel
theorem dX8_chanceOf_7 : decode cX8_chanceOf 7 = .ok (.iconst 0, 1) := by decide +kernel
theorem dX8_chanceOf_8 : decode cX8_chanceOf 8 = .ok (.istore 6, 2) := by decide +kernel
theorem dX8_chanceOf_10 : decode cX8_chanceOf 10 = .ok (.iload 6, 2) := by decide +kernel
theorem dX8_chanceOf_12 : decode cX8_chanceOf 12 = .ok (.iconst 1, 1) := by decide +kernel
theorem dX8_chanceOf_13 : decode cX8_chanceOf 13 = .ok (.aload_n 0, 1) := by decide +kernel
theorem dX8_chanceOf_14 : decode cX8_chanceOf 14 = .ok (.getfield 166, 3) := by decide +kernel
theorem dX8_chanceOf_17 : decode cX8_chanceOf 17 = .ok (.ishl, 1) := by decide +kernel
theorem dX8_chanceOf_18 : decode cX8_chanceOf 18 = .ok (.if_icmp .ge 91, 3) := by decide +kernel
theorem dX8_chanceOf_21 : decode cX8_chanceOf 21 = .ok (.lconst 1, 1) := by decide +kernel
theorem dX8_chanceOf_22 : decode cX8_chanceOf 22 = .ok (.lstore 7, 2) := by decide +kernel
theorem dX8_chanceOf_24 : decode cX8_chanceOf 24 = .ok (.iconst 0, 1) := by decide +kernel
theorem dX8_chanceOf_25 : decode cX8_chanceOf 25 = .ok (.istore 9, 2) := by decide +kernel
theorem dX8_chanceOf_27 : decode cX8_chanceOf 27 = .ok (.iload 9, 2) := by decide +kernel
theorem dX8_chanceOf_29 : decode cX8_chanceOf 29 = .ok (.aload_n 0, 1) := by decide +kernel
theorem dX8_chanceOf_30 : decode cX8_chanceOf 30 = .ok (.getfield 166, 3) := by decide +kernel
theorem dX8_chanceOf_33 : decode cX8_chanceOf 33 = .ok (.if_icmp .ge 34, 3) := by decide +kernel
theorem dX8_chanceOf_36 : decode cX8_chanceOf 36 = .ok (.lload 7, 2) := by decide +kernel
theorem dX8_chanceOf_38 : decode cX8_chanceOf 38 = .ok (.iload 6, 2) := by decide +kernel
theorem dX8_chanceOf_40 : decode cX8_chanceOf 40 = .ok (.iload 9, 2) := by decide +kernel
theorem dX8_chanceOf_42 : decode cX8_chanceOf 42 = .ok (.invokestatic 190, 3) := by decide +kernel
theorem dX8_chanceOf_45 : decode cX8_chanceOf 45 = .ok (.ifCond .eq 11, 3) := by decide +kernel
theorem dX8_chanceOf_48 : decode cX8_chanceOf 48 = .ok (.bipush 16, 2) := by decide +kernel
theorem dX8_chanceOf_50 : decode cX8_chanceOf 50 = .ok (.iload_n 1, 1) := by decide +kernel
theorem dX8_chanceOf_51 : decode cX8_chanceOf 51 = .ok (.isub, 1) := by decide +kernel
theorem dX8_chanceOf_52 : decode cX8_chanceOf 52 = .ok (.i2l, 1) := by decide +kernel
theorem dX8_chanceOf_53 : decode cX8_chanceOf 53 = .ok (.goto 5, 3) := by decide +kernel
theorem dX8_chanceOf_56 : decode cX8_chanceOf 56 = .ok (.iload_n 1, 1) := by decide +kernel
theorem dX8_chanceOf_57 : decode cX8_chanceOf 57 = .ok (.i2l, 1) := by decide +kernel
theorem dX8_chanceOf_58 : decode cX8_chanceOf 58 = .ok (.lmul, 1) := by decide +kernel
theorem dX8_chanceOf_59 : decode cX8_chanceOf 59 = .ok (.lstore 7, 2) := by decide +kernel
theorem dX8_chanceOf_61 : decode cX8_chanceOf 61 = .ok (.iinc 9 1, 3) := by decide +kernel
theorem dX8_chanceOf_64 : decode cX8_chanceOf 64 = .ok (.goto (-37), 3) := by decide +kernel
theorem dX8_chanceOf_67 : decode cX8_chanceOf 67 = .ok (.lload 7, 2) := by decide +kernel
theorem dX8_chanceOf_69 : decode cX8_chanceOf 69 = .ok (.lconst 0, 1) := by decide +kernel
theorem dX8_chanceOf_70 : decode cX8_chanceOf 70 = .ok (.lcmp, 1) := by decide +kernel
theorem dX8_chanceOf_71 : decode cX8_chanceOf 71 = .ok (.ifCond .le 32, 3) := by decide +kernel
theorem dX8_chanceOf_74 : decode cX8_chanceOf 74 = .ok (.aload_n 0, 1) := by decide +kernel
theorem dX8_chanceOf_75 : decode cX8_chanceOf 75 = .ok (.iload 6, 2) := by decide +kernel
theorem dX8_chanceOf_77 : decode cX8_chanceOf 77 = .ok (.putfield 178, 3) := by decide +kernel
theorem dX8_chanceOf_80 : decode cX8_chanceOf 80 = .ok (.aload_n 0, 1) := by decide +kernel
theorem dX8_chanceOf_81 : decode cX8_chanceOf 81 = .ok (.invokevirtual 232, 3) := by decide +kernel
theorem dX8_chanceOf_84 : decode cX8_chanceOf 84 = .ok (.lload 4, 2) := by decide +kernel
theorem dX8_chanceOf_86 : decode cX8_chanceOf 86 = .ok (.aload_n 0, 1) := by decide +kernel
theorem dX8_chanceOf_87 : decode cX8_chanceOf 87 = .ok (.getfield 206, 3) := by decide +kernel
theorem dX8_chanceOf_90 : decode cX8_chanceOf 90 = .ok (.iload_n 2, 1) := by decide +kernel
theorem dX8_chanceOf_91 : decode cX8_chanceOf 91 = .ok (.if_icmp .ne 8, 3) := by decide +kernel
theorem dX8_chanceOf_94 : decode cX8_chanceOf 94 = .ok (.lload 7, 2) := by decide +kernel
theorem dX8_chanceOf_96 : decode cX8_chanceOf 96 = .ok (.goto 4, 3) := by decide +kernel
theorem dX8_chanceOf_99 : decode cX8_chanceOf 99 = .ok (.lconst 0, 1) := by decide +kernel
theorem dX8_chanceOf_100 : decode cX8_chanceOf 100 = .ok (.ladd, 1) := by decide +kernel
theorem dX8_chanceOf_101 : decode cX8_chanceOf 101 = .ok (.lstore 4, 2) := by decide +kernel
theorem dX8_chanceOf_103 : decode cX8_chanceOf 103 = .ok (.iinc 6 1, 3) := by decide +kernel
theorem dX8_chanceOf_106 : decode cX8_chanceOf 106 = .ok (.goto (-96), 3) := by decide +kernel
theorem dX8_chanceOf_109 : decode cX8_chanceOf 109 = .ok (.lload 4, 2) := by decide +kernel
theorem dX8_chanceOf_111 : decode cX8_chanceOf 111 = .ok (.lconst 1, 1) := by decide +kernel
theorem dX8_chanceOf_112 : decode cX8_chanceOf 112 = .ok (.iconst 4, 1) := by decide +kernel
theorem dX8_chanceOf_113 : decode cX8_chanceOf 113 = .ok (.aload_n 0, 1) := by decide +kernel
theorem dX8_chanceOf_114 : decode cX8_chanceOf 114 = .ok (.getfield 166, 3) := by decide +kernel
theorem dX8_chanceOf_117 : decode cX8_chanceOf 117 = .ok (.imul, 1) := by decide +kernel
theorem dX8_chanceOf_118 : decode cX8_chanceOf 118 = .ok (.lshl, 1) := by decide +kernel
theorem dX8_chanceOf_119 : decode cX8_chanceOf 119 = .ok (.iload_n 3, 1) := by decide +kernel
theorem dX8_chanceOf_120 : decode cX8_chanceOf 120 = .ok (.invokestatic 312, 3) := by decide +kernel
theorem dX8_chanceOf_123 : decode cX8_chanceOf 123 = .ok (.lreturn, 1) := by decide +kernel
set_option maxRecDepth 20000 in
set_option maxHeartbeats 4000000 in
theorem w_X8_chanceOf_103 {x : tg_X} {Sf : tg_S} {r : Int64} {rec10 : tg_S → Int32 → Int32 → Int32 → Int64 → Int32 → Option (tg_S × Int64)} (X : tg_M tauR x cX8_chanceOf 10 RX8 zr_X8_chanceOf (some .long) Sf (some (.long r))) (hr10 : ∀ (S : tg_S) (v1 : Int32) (v2 : Int32) (v3 : Int32) (v4 : Int64) (v6 : Int32), rec10 S v1 v2 v3 v4 v6 = some (Sf, r) → tg_G tauR x S 10 [(0, .ref (tg_ad x 0)), (1, .int v1), (2, .int v2), (3, .int v3), (4, .long v4), (6, .int v6)] []) (S : tg_S) (v1 : Int32) (v2 : Int32) (v3 : Int32) (v4 : Int64) (v6 : Int32) (h : f_X8_chanceOf_103 rec10 S v1 v2 v3 v4 v6 = some (Sf, r)) : tg_G tauR x S 103 [(0, .ref (tg_ad x 0)), (1, .int v1), (2, .int v2), (3, .int v3), (4, .long v4), (6, .int v6)] [] := by
  unfold f_X8_chanceOf_103 at h
  obtain ⟨y1, ey1⟩ : ∃ z : Int32, z = v6 + 1 := ⟨_, rfl⟩
  have h := tg_nmE ey1 h
  refine tg_iinc (lv2 := [(6, .int y1), (0, .ref (tg_ad x 0)), (1, .int v1), (2, .int v2), (3, .int v3), (4, .long v4)]) X dX8_chanceOf_103 5 rfl tk_i1 ey1 (by decide) rfl ?_
  refine tg_goto (tgt := 10) X dX8_chanceOf_106 (by decide) ?_
  refine tg_re [1, 2, 3, 4, 5, 0] rfl ?_
  exact hr10 S v1 v2 v3 v4 y1 h
set_option maxRecDepth 20000 in
set_option maxHeartbeats 4000000 in
theorem w_X8_chanceOf_100 {x : tg_X} {Sf : tg_S} {r : Int64} {rec10 : tg_S → Int32 → Int32 → Int32 → Int64 → Int32 → Option (tg_S × Int64)} (X : tg_M tauR x cX8_chanceOf 10 RX8 zr_X8_chanceOf (some .long) Sf (some (.long r))) (hr10 : ∀ (S : tg_S) (v1 : Int32) (v2 : Int32) (v3 : Int32) (v4 : Int64) (v6 : Int32), rec10 S v1 v2 v3 v4 v6 = some (Sf, r) → tg_G tauR x S 10 [(0, .ref (tg_ad x 0)), (1, .int v1), (2, .int v2), (3, .int v3), (4, .long v4), (6, .int v6)] []) (S : tg_S) (v1 : Int32) (v2 : Int32) (v3 : Int32) (v6 : Int32) (s0 : Int64) (s1 : Int64) (h : f_X8_chanceOf_100 rec10 S v1 v2 v3 v6 s0 s1 = some (Sf, r)) : tg_G tauR x S 100 [(0, .ref (tg_ad x 0)), (1, .int v1), (2, .int v2), (3, .int v3), (6, .int v6)] [.long s0, .long s1] := by
  unfold f_X8_chanceOf_100 at h
  refine tg_ladd X dX8_chanceOf_100 ?_
  refine tg_topl (fun y1 ey1 => ?_)
  have h := tg_nmE ey1 h
  refine tg_lstore (lv2 := [(4, .long y1), (0, .ref (tg_ad x 0)), (1, .int v1), (2, .int v2), (3, .int v3), (6, .int v6)]) X dX8_chanceOf_101 (by decide) rfl ?_
  refine tg_re [1, 2, 3, 4, 0, 5] rfl ?_
  exact w_X8_chanceOf_103 X hr10 S v1 v2 v3 y1 v6 h
set_option maxRecDepth 20000 in
set_option maxHeartbeats 4000000 in
theorem w_X8_chanceOf_58 {x : tg_X} {Sf : tg_S} {r : Int64} {rec10 : tg_S → Int32 → Int32 → Int32 → Int64 → Int32 → Option (tg_S × Int64)} {rec27 : tg_S → Int32 → Int32 → Int32 → Int64 → Int32 → Int64 → Int32 → Option (tg_S × Int64)} (X : tg_M tauR x cX8_chanceOf 10 RX8 zr_X8_chanceOf (some .long) Sf (some (.long r))) (hr10 : ∀ (S : tg_S) (v1 : Int32) (v2 : Int32) (v3 : Int32) (v4 : Int64) (v6 : Int32), rec10 S v1 v2 v3 v4 v6 = some (Sf, r) → tg_G tauR x S 10 [(0, .ref (tg_ad x 0)), (1, .int v1), (2, .int v2), (3, .int v3), (4, .long v4), (6, .int v6)] []) (hr27 : ∀ (S : tg_S) (v1 : Int32) (v2 : Int32) (v3 : Int32) (v4 : Int64) (v6 : Int32) (v7 : Int64) (v9 : Int32), rec27 S v1 v2 v3 v4 v6 v7 v9 = some (Sf, r) → tg_G tauR x S 27 [(0, .ref (tg_ad x 0)), (1, .int v1), (2, .int v2), (3, .int v3), (4, .long v4), (6, .int v6), (7, .long v7), (9, .int v9)] []) (S : tg_S) (v1 : Int32) (v2 : Int32) (v3 : Int32) (v4 : Int64) (v6 : Int32) (v9 : Int32) (s0 : Int64) (s1 : Int64) (h : f_X8_chanceOf_58 rec10 rec27 S v1 v2 v3 v4 v6 v9 s0 s1 = some (Sf, r)) : tg_G tauR x S 58 [(0, .ref (tg_ad x 0)), (1, .int v1), (2, .int v2), (3, .int v3), (4, .long v4), (6, .int v6), (9, .int v9)] [.long s0, .long s1] := by
  unfold f_X8_chanceOf_58 at h
  refine tg_lmul X dX8_chanceOf_58 ?_
  refine tg_topl (fun y1 ey1 => ?_)
  have h := tg_nmE ey1 h
  refine tg_lstore (lv2 := [(7, .long y1), (0, .ref (tg_ad x 0)), (1, .int v1), (2, .int v2), (3, .int v3), (4, .long v4), (6, .int v6), (9, .int v9)]) X dX8_chanceOf_59 (by decide) rfl ?_
  obtain ⟨y2, ey2⟩ : ∃ z : Int32, z = v9 + 1 := ⟨_, rfl⟩
  have h := tg_nmE ey2 h
  refine tg_iinc (lv2 := [(9, .int y2), (7, .long y1), (0, .ref (tg_ad x 0)), (1, .int v1), (2, .int v2), (3, .int v3), (4, .long v4), (6, .int v6)]) X dX8_chanceOf_61 7 rfl tk_i1 ey2 (by decide) rfl ?_
  refine tg_goto (tgt := 27) X dX8_chanceOf_64 (by decide) ?_
  refine tg_re [2, 3, 4, 5, 6, 7, 1, 0] rfl ?_
  exact hr27 S v1 v2 v3 v4 v6 y1 y2 h
set_option maxRecDepth 20000 in
set_option maxHeartbeats 4000000 in
theorem w_X8_chanceOf_27 {x : tg_X} {Sf : tg_S} {r : Int64} {rec10 : tg_S → Int32 → Int32 → Int32 → Int64 → Int32 → Option (tg_S × Int64)} {rec27 : tg_S → Int32 → Int32 → Int32 → Int64 → Int32 → Int64 → Int32 → Option (tg_S × Int64)} (X : tg_M tauR x cX8_chanceOf 10 RX8 zr_X8_chanceOf (some .long) Sf (some (.long r))) (hr10 : ∀ (S : tg_S) (v1 : Int32) (v2 : Int32) (v3 : Int32) (v4 : Int64) (v6 : Int32), rec10 S v1 v2 v3 v4 v6 = some (Sf, r) → tg_G tauR x S 10 [(0, .ref (tg_ad x 0)), (1, .int v1), (2, .int v2), (3, .int v3), (4, .long v4), (6, .int v6)] []) (hr27 : ∀ (S : tg_S) (v1 : Int32) (v2 : Int32) (v3 : Int32) (v4 : Int64) (v6 : Int32) (v7 : Int64) (v9 : Int32), rec27 S v1 v2 v3 v4 v6 v7 v9 = some (Sf, r) → tg_G tauR x S 27 [(0, .ref (tg_ad x 0)), (1, .int v1), (2, .int v2), (3, .int v3), (4, .long v4), (6, .int v6), (7, .long v7), (9, .int v9)] []) (S : tg_S) (v1 : Int32) (v2 : Int32) (v3 : Int32) (v4 : Int64) (v6 : Int32) (v7 : Int64) (v9 : Int32) (h : f_X8_chanceOf_27 rec10 rec27 S v1 v2 v3 v4 v6 v7 v9 = some (Sf, r)) : tg_G tauR x S 27 [(0, .ref (tg_ad x 0)), (1, .int v1), (2, .int v2), (3, .int v3), (4, .long v4), (6, .int v6), (7, .long v7), (9, .int v9)] [] := by
  unfold f_X8_chanceOf_27 at h
  refine tg_iload X dX8_chanceOf_27 7 rfl ?_
  refine tg_aload_n X dX8_chanceOf_29 rfl 0 rfl ?_
  refine tg_geti X 0 rfl cl_X8 9 (by decide) rfl wf_X8_166 dX8_chanceOf_30 ?_
  refine tg_icmp_ge (tgt := 67) X dX8_chanceOf_33 (by decide) (fun c1 => ?_) (fun c1 => ?_)
  · have h := tg_ifT c1 h
    refine tg_lload X dX8_chanceOf_67 6 rfl ?_
    refine tg_lconst X dX8_chanceOf_69 (v := 0) rfl ?_
    refine tg_lcmp X dX8_chanceOf_70 ?_
    refine tg_if_le (tgt := 103) X dX8_chanceOf_71 (by decide) (fun c2 => ?_) (fun c2 => ?_)
    · have h := tg_ifT c2 h
      refine tg_re [0, 1, 2, 3, 4, 5] rfl ?_
      exact w_X8_chanceOf_103 X hr10 S v1 v2 v3 v4 v6 h
    · have h := tg_ifF c2 h
      refine tg_aload_n X dX8_chanceOf_74 rfl 0 rfl ?_
      refine tg_iload X dX8_chanceOf_75 5 rfl ?_
      obtain ⟨S3, eS3, h⟩ := tg_pfE h
      refine tg_puti X 0 rfl cl_X8 14 (by decide) rfl wf_X8_178 rfl rfl rfl dX8_chanceOf_77 eS3 ?_
      refine tg_aload_n X dX8_chanceOf_80 rfl 0 rfl ?_
      obtain ⟨S4, kS4, h⟩ := tg_bvE h
      refine tg_callV (As := []) (rest := []) X 0 (cm_X8_runs _ _ _ _ _ kS4) yy_X8_runs wv_X8_runs ws_X8_runs wm_X8_232 rfl cl_X8.1 ⟨rfl, rfl, Nat.le_of_ble_eq_true rfl, Nat.le_of_ble_eq_true rfl⟩ rfl rfl (Nat.le_of_ble_eq_true rfl) dX8_chanceOf_81 rfl ?_
      refine tg_lload X dX8_chanceOf_84 4 rfl ?_
      refine tg_aload_n X dX8_chanceOf_86 rfl 0 rfl ?_
      refine tg_geti X 0 rfl cl_X8 22 (by decide) rfl wf_X8_206 dX8_chanceOf_87 ?_
      refine tg_iload_n X dX8_chanceOf_90 rfl 2 rfl ?_
      refine tg_icmp_ne (tgt := 99) X dX8_chanceOf_91 (by decide) (fun c5 => ?_) (fun c5 => ?_)
      · rw [if_neg c5] at h
        refine tg_lconst X dX8_chanceOf_99 (v := 0) rfl ?_
        refine tg_re [0, 1, 2, 3, 5] rfl ?_
        exact w_X8_chanceOf_100 X hr10 S4 v1 v2 v3 v6 0 v4 h
      · rw [if_pos c5] at h
        refine tg_lload X dX8_chanceOf_94 6 rfl ?_
        refine tg_goto (tgt := 100) X dX8_chanceOf_96 (by decide) ?_
        refine tg_re [0, 1, 2, 3, 5] rfl ?_
        exact w_X8_chanceOf_100 X hr10 S4 v1 v2 v3 v6 v7 v4 h
  · have h := tg_ifF c1 h
    refine tg_lload X dX8_chanceOf_36 6 rfl ?_
    refine tg_iload X dX8_chanceOf_38 5 rfl ?_
    refine tg_iload X dX8_chanceOf_40 7 rfl ?_
    obtain ⟨S6, r7, kS6, h⟩ := tg_bdE h
    refine tg_callS (As := [.int v6, .int v9]) (rest := [.long v7]) X (cm_X8_isIn _ _ _ _ _ kS6) yy_X8_isIn wt_X8_isIn wm_X8_190 ⟨rfl, rfl, Nat.le_of_ble_eq_true rfl, Nat.le_of_ble_eq_true rfl⟩ rfl rfl (Nat.le_of_ble_eq_true rfl) dX8_chanceOf_42 rfl ?_
    refine tg_if_eq (tgt := 56) X dX8_chanceOf_45 (by decide) (fun c8 => ?_) (fun c8 => ?_)
    · rw [if_pos c8] at h
      refine tg_iload_n X dX8_chanceOf_56 rfl 1 rfl ?_
      refine tg_i2l X dX8_chanceOf_57 ?_
      refine tg_re [0, 1, 2, 3, 4, 5, 7] rfl ?_
      exact w_X8_chanceOf_58 X hr10 hr27 S6 v1 v2 v3 v4 v6 v9 (v1.toInt64) v7 h
    · rw [if_neg c8] at h
      refine tg_bipush X dX8_chanceOf_48 tk_b16 ?_
      refine tg_iload_n X dX8_chanceOf_50 rfl 1 rfl ?_
      refine tg_isub X dX8_chanceOf_51 ?_
      refine tg_i2l X dX8_chanceOf_52 ?_
      refine tg_goto (tgt := 58) X dX8_chanceOf_53 (by decide) ?_
      refine tg_re [0, 1, 2, 3, 4, 5, 7] rfl ?_
      exact w_X8_chanceOf_58 X hr10 hr27 S6 v1 v2 v3 v4 v6 v9 ((16 - v1).toInt64) v7 h
theorem wl_X8_chanceOf_27 {x : tg_X} {Sf : tg_S} {r : Int64} {rec10 : tg_S → Int32 → Int32 → Int32 → Int64 → Int32 → Option (tg_S × Int64)} (X : tg_M tauR x cX8_chanceOf 10 RX8 zr_X8_chanceOf (some .long) Sf (some (.long r))) (hr10 : ∀ (S : tg_S) (v1 : Int32) (v2 : Int32) (v3 : Int32) (v4 : Int64) (v6 : Int32), rec10 S v1 v2 v3 v4 v6 = some (Sf, r) → tg_G tauR x S 10 [(0, .ref (tg_ad x 0)), (1, .int v1), (2, .int v2), (3, .int v3), (4, .long v4), (6, .int v6)] []) : ∀ (n : Nat) (S : tg_S) (v1 : Int32) (v2 : Int32) (v3 : Int32) (v4 : Int64) (v6 : Int32) (v7 : Int64) (v9 : Int32) (h : L_X8_chanceOf_27 rec10 n S v1 v2 v3 v4 v6 v7 v9 = some (Sf, r)), tg_G tauR x S 27 [(0, .ref (tg_ad x 0)), (1, .int v1), (2, .int v2), (3, .int v3), (4, .long v4), (6, .int v6), (7, .long v7), (9, .int v9)] [] := by
  intro n
  induction n with
  | zero => intro S v1 v2 v3 v4 v6 v7 v9 h; cases h
  | succ n ih => intro S v1 v2 v3 v4 v6 v7 v9 h; exact w_X8_chanceOf_27 X hr10 ih S v1 v2 v3 v4 v6 v7 v9 h
set_option maxRecDepth 20000 in
set_option maxHeartbeats 4000000 in
theorem w_X8_chanceOf_10 {x : tg_X} {Sf : tg_S} {r : Int64} {rec10 : tg_S → Int32 → Int32 → Int32 → Int64 → Int32 → Option (tg_S × Int64)} (X : tg_M tauR x cX8_chanceOf 10 RX8 zr_X8_chanceOf (some .long) Sf (some (.long r))) (hr10 : ∀ (S : tg_S) (v1 : Int32) (v2 : Int32) (v3 : Int32) (v4 : Int64) (v6 : Int32), rec10 S v1 v2 v3 v4 v6 = some (Sf, r) → tg_G tauR x S 10 [(0, .ref (tg_ad x 0)), (1, .int v1), (2, .int v2), (3, .int v3), (4, .long v4), (6, .int v6)] []) (S : tg_S) (v1 : Int32) (v2 : Int32) (v3 : Int32) (v4 : Int64) (v6 : Int32) (h : f_X8_chanceOf_10 rec10 S v1 v2 v3 v4 v6 = some (Sf, r)) : tg_G tauR x S 10 [(0, .ref (tg_ad x 0)), (1, .int v1), (2, .int v2), (3, .int v3), (4, .long v4), (6, .int v6)] [] := by
  unfold f_X8_chanceOf_10 at h
  refine tg_iload X dX8_chanceOf_10 5 rfl ?_
  refine tg_iconst X dX8_chanceOf_12 tk_i1 ?_
  refine tg_aload_n X dX8_chanceOf_13 rfl 0 rfl ?_
  refine tg_geti X 0 rfl cl_X8 9 (by decide) rfl wf_X8_166 dX8_chanceOf_14 ?_
  refine tg_ishl X dX8_chanceOf_17 ?_
  refine tg_icmp_ge (tgt := 109) X dX8_chanceOf_18 (by decide) (fun c1 => ?_) (fun c1 => ?_)
  · have h := tg_ifT c1 h
    refine tg_lload X dX8_chanceOf_109 4 rfl ?_
    refine tg_lconst X dX8_chanceOf_111 (v := 1) rfl ?_
    refine tg_iconst X dX8_chanceOf_112 tk_i4 ?_
    refine tg_aload_n X dX8_chanceOf_113 rfl 0 rfl ?_
    refine tg_geti X 0 rfl cl_X8 9 (by decide) rfl wf_X8_166 dX8_chanceOf_114 ?_
    refine tg_imul X dX8_chanceOf_117 ?_
    refine tg_lshl X dX8_chanceOf_118 ?_
    refine tg_iload_n X dX8_chanceOf_119 rfl 3 rfl ?_
    obtain ⟨S2, r3, kS2, h⟩ := tg_bdE h
    refine tg_callS (As := [.long v4, .long (1 <<< ((4 * (S 0 9) : Int32).toInt64 &&& 63)), .int v3]) (rest := []) X (cm_X8_lowest _ _ _ _ _ kS2) yy_X8_lowest wt_X8_lowest wm_X8_312 ⟨rfl, rfl, Nat.le_of_ble_eq_true rfl, Nat.le_of_ble_eq_true rfl⟩ rfl rfl (Nat.le_of_ble_eq_true rfl) dX8_chanceOf_120 rfl ?_
    exact tg_lret X h rfl dX8_chanceOf_123
  · have h := tg_ifF c1 h
    refine tg_lconst X dX8_chanceOf_21 (v := 1) rfl ?_
    refine tg_lstore (lv2 := [(7, .long 1), (0, .ref (tg_ad x 0)), (1, .int v1), (2, .int v2), (3, .int v3), (4, .long v4), (6, .int v6)]) X dX8_chanceOf_22 (by decide) rfl ?_
    refine tg_iconst X dX8_chanceOf_24 tk_i0 ?_
    refine tg_istore (lv2 := [(9, .int 0), (7, .long 1), (0, .ref (tg_ad x 0)), (1, .int v1), (2, .int v2), (3, .int v3), (4, .long v4), (6, .int v6)]) X dX8_chanceOf_25 (by decide) rfl ?_
    refine tg_re [2, 3, 4, 5, 6, 7, 1, 0] rfl ?_
    exact wl_X8_chanceOf_27 X hr10 tg_F S v1 v2 v3 v4 v6 1 0 h
theorem wl_X8_chanceOf_10 {x : tg_X} {Sf : tg_S} {r : Int64} (X : tg_M tauR x cX8_chanceOf 10 RX8 zr_X8_chanceOf (some .long) Sf (some (.long r))) : ∀ (n : Nat) (S : tg_S) (v1 : Int32) (v2 : Int32) (v3 : Int32) (v4 : Int64) (v6 : Int32) (h : L_X8_chanceOf_10  n S v1 v2 v3 v4 v6 = some (Sf, r)), tg_G tauR x S 10 [(0, .ref (tg_ad x 0)), (1, .int v1), (2, .int v2), (3, .int v3), (4, .long v4), (6, .int v6)] [] := by
  intro n
  induction n with
  | zero => intro S v1 v2 v3 v4 v6 h; cases h
  | succ n ih => intro S v1 v2 v3 v4 v6 h; exact w_X8_chanceOf_10 X  ih S v1 v2 v3 v4 v6 h
set_option maxRecDepth 20000 in
set_option maxHeartbeats 4000000 in
theorem w_X8_chanceOf_0 {x : tg_X} {Sf : tg_S} {r : Int64} (X : tg_M tauR x cX8_chanceOf 10 RX8 zr_X8_chanceOf (some .long) Sf (some (.long r))) (S : tg_S) (v1 : Int32) (v2 : Int32) (v3 : Int32) (h : f_X8_chanceOf  S v1 v2 v3 = some (Sf, r)) : tg_G tauR x S 0 [(0, .ref (tg_ad x 0)), (1, .int v1), (2, .int v2), (3, .int v3)] [] := by
  unfold f_X8_chanceOf at h
  refine tg_aload_n X dX8_chanceOf_0 rfl 0 rfl ?_
  obtain ⟨S1, kS1, h⟩ := tg_bvE h
  refine tg_callV (As := []) (rest := []) X 0 (cm_X8_asTold _ _ _ _ _ kS1) yy_X8_asTold wv_X8_asTold ws_X8_asTold wm_X8_229 rfl cl_X8.1 ⟨rfl, rfl, Nat.le_of_ble_eq_true rfl, Nat.le_of_ble_eq_true rfl⟩ rfl rfl (Nat.le_of_ble_eq_true rfl) dX8_chanceOf_1 rfl ?_
  refine tg_lconst X dX8_chanceOf_4 (v := 0) rfl ?_
  refine tg_lstore (lv2 := [(4, .long 0), (0, .ref (tg_ad x 0)), (1, .int v1), (2, .int v2), (3, .int v3)]) X dX8_chanceOf_5 (by decide) rfl ?_
  refine tg_iconst X dX8_chanceOf_7 tk_i0 ?_
  refine tg_istore (lv2 := [(6, .int 0), (4, .long 0), (0, .ref (tg_ad x 0)), (1, .int v1), (2, .int v2), (3, .int v3)]) X dX8_chanceOf_8 (by decide) rfl ?_
  refine tg_re [2, 3, 4, 5, 1, 0] rfl ?_
  exact wl_X8_chanceOf_10 X  tg_F S1 v1 v2 v3 0 0 h
theorem cm_X8_chanceOf (l : Launch) (D : va_G) (cy : Bool → ClassId) (ad : Nat → Nat) (tS : Nat) {S Sf : tg_S} {v1 : Int32} {v2 : Int32} {v3 : Int32} {r : Int64} (h : f_X8_chanceOf  S v1 v2 v3 = some (Sf, r)) : tg_Met l yX8_chanceOf cX8_chanceOf 10 (some .long) zr_X8_chanceOf tauR D cy ad tS S [.ref (ad 0), .int v1, .int v2, .int v3] Sf (some (.long r)) := tg_mk (by decide +kernel) trivial (Nat.le_of_ble_eq_true rfl) (fun p e s m args below meth c Q A X => w_X8_chanceOf_0 X S v1 v2 v3 h)
-- X8_chance
def zr_X8_chance : Room := { frames := 7, cells := 0, slots := 0, locals := 169 }
theorem dX8_chance_0 : decode cX8_chance 0 = .ok (.iload_n 1, 1) := by decide +kernel
theorem dX8_chance_1 : decode cX8_chance 1 = .ok (.iconst 0, 1) := by decide +kernel
theorem dX8_chance_2 : decode cX8_chance 2 = .ok (.bipush 16, 2) := by decide +kernel
theorem dX8_chance_4 : decode cX8_chance 4 = .ok (.invokestatic 109, 3) := by decide +kernel
theorem dX8_chance_7 : decode cX8_chance 7 = .ok (.ifCond .eq 27, 3) := by decide +kernel
theorem dX8_chance_10 : decode cX8_chance 10 = .ok (.iload_n 2, 1) := by decide +kernel
theorem dX8_chance_11 : decode cX8_chance 11 = .ok (.invokestatic 153, 3) := by decide +kernel
theorem dX8_chance_14 : decode cX8_chance 14 = .ok (.ifCond .eq 20, 3) := by decide +kernel
theorem dX8_chance_17 : decode cX8_chance 17 = .ok (.iload_n 3, 1) := by decide +kernel
theorem dX8_chance_18 : decode cX8_chance 18 = .ok (.invokestatic 153, 3) := by decide +kernel
theorem dX8_chance_21 : decode cX8_chance 21 = .ok (.ifCond .eq 13, 3) := by decide +kernel
theorem dX8_chance_24 : decode cX8_chance 24 = .ok (.aload_n 0, 1) := by decide +kernel
theorem dX8_chance_25 : decode cX8_chance 25 = .ok (.iload_n 1, 1) := by decide +kernel
theorem dX8_chance_26 : decode cX8_chance 26 = .ok (.iload_n 2, 1) := by decide +kernel
theorem dX8_chance_27 : decode cX8_chance 27 = .ok (.iload_n 3, 1) := by decide +kernel
theorem dX8_chance_28 : decode cX8_chance 28 = .ok (.invokevirtual 316, 3) := by decide +kernel
theorem dX8_chance_31 : decode cX8_chance 31 = .ok (.goto 8, 3) := by decide +kernel
theorem dX8_chance_34 : decode cX8_chance 34 = .ok (.bipush (-2), 2) := by decide +kernel
theorem dX8_chance_36 : decode cX8_chance 36 = .ok (.invokestatic 320, 3) := by decide +kernel
theorem dX8_chance_39 : decode cX8_chance 39 = .ok (.lreturn, 1) := by decide +kernel
set_option maxRecDepth 20000 in
set_option maxHeartbeats 4000000 in
theorem w_X8_chance_0 {x : tg_X} {Sf : tg_S} {r : Int64} (X : tg_M tauR x cX8_chance 4 RX8 zr_X8_chance (some .long) Sf (some (.long r))) (S : tg_S) (v1 : Int32) (v2 : Int32) (v3 : Int32) (h : f_X8_chance  S v1 v2 v3 = some (Sf, r)) : tg_G tauR x S 0 [(0, .ref (tg_ad x 0)), (1, .int v1), (2, .int v2), (3, .int v3)] [] := by
  unfold f_X8_chance at h
  refine tg_iload_n X dX8_chance_0 rfl 1 rfl ?_
  refine tg_iconst X dX8_chance_1 tk_i0 ?_
  refine tg_bipush X dX8_chance_2 tk_b16 ?_
  obtain ⟨S1, r2, kS1, h⟩ := tg_bdE h
  refine tg_callS (As := [.int v1, .int 0, .int 16]) (rest := []) X (cm_X8_in _ _ _ _ _ kS1) yy_X8_in wt_X8_in wm_X8_109 ⟨rfl, rfl, Nat.le_of_ble_eq_true rfl, Nat.le_of_ble_eq_true rfl⟩ rfl rfl (Nat.le_of_ble_eq_true rfl) dX8_chance_4 rfl ?_
  refine tg_if_eq (tgt := 34) X dX8_chance_7 (by decide) (fun c3 => ?_) (fun c3 => ?_)
  · have h := tg_ifT c3 h
    refine tg_bipush X dX8_chance_34 tk_bm2 ?_
    obtain ⟨S4, r5, kS4, h⟩ := tg_bdE h
    refine tg_callS (As := [.int (-2)]) (rest := []) X (cm_X8_no _ _ _ _ _ kS4) yy_X8_no wt_X8_no wm_X8_320 ⟨rfl, rfl, Nat.le_of_ble_eq_true rfl, Nat.le_of_ble_eq_true rfl⟩ rfl rfl (Nat.le_of_ble_eq_true rfl) dX8_chance_36 rfl ?_
    exact tg_lret X h rfl dX8_chance_39
  · have h := tg_ifF c3 h
    refine tg_iload_n X dX8_chance_10 rfl 2 rfl ?_
    obtain ⟨S6, r7, kS6, h⟩ := tg_bdE h
    refine tg_callS (As := [.int v2]) (rest := []) X (cm_X8_isTwo _ _ _ _ _ kS6) yy_X8_isTwo wt_X8_isTwo wm_X8_153 ⟨rfl, rfl, Nat.le_of_ble_eq_true rfl, Nat.le_of_ble_eq_true rfl⟩ rfl rfl (Nat.le_of_ble_eq_true rfl) dX8_chance_11 rfl ?_
    refine tg_if_eq (tgt := 34) X dX8_chance_14 (by decide) (fun c8 => ?_) (fun c8 => ?_)
    · have h := tg_ifT c8 h
      refine tg_bipush X dX8_chance_34 tk_bm2 ?_
      obtain ⟨S9, r10, kS9, h⟩ := tg_bdE h
      refine tg_callS (As := [.int (-2)]) (rest := []) X (cm_X8_no _ _ _ _ _ kS9) yy_X8_no wt_X8_no wm_X8_320 ⟨rfl, rfl, Nat.le_of_ble_eq_true rfl, Nat.le_of_ble_eq_true rfl⟩ rfl rfl (Nat.le_of_ble_eq_true rfl) dX8_chance_36 rfl ?_
      exact tg_lret X h rfl dX8_chance_39
    · have h := tg_ifF c8 h
      refine tg_iload_n X dX8_chance_17 rfl 3 rfl ?_
      obtain ⟨S11, r12, kS11, h⟩ := tg_bdE h
      refine tg_callS (As := [.int v3]) (rest := []) X (cm_X8_isTwo _ _ _ _ _ kS11) yy_X8_isTwo wt_X8_isTwo wm_X8_153 ⟨rfl, rfl, Nat.le_of_ble_eq_true rfl, Nat.le_of_ble_eq_true rfl⟩ rfl rfl (Nat.le_of_ble_eq_true rfl) dX8_chance_18 rfl ?_
      refine tg_if_eq (tgt := 34) X dX8_chance_21 (by decide) (fun c13 => ?_) (fun c13 => ?_)
      · have h := tg_ifT c13 h
        refine tg_bipush X dX8_chance_34 tk_bm2 ?_
        obtain ⟨S14, r15, kS14, h⟩ := tg_bdE h
        refine tg_callS (As := [.int (-2)]) (rest := []) X (cm_X8_no _ _ _ _ _ kS14) yy_X8_no wt_X8_no wm_X8_320 ⟨rfl, rfl, Nat.le_of_ble_eq_true rfl, Nat.le_of_ble_eq_true rfl⟩ rfl rfl (Nat.le_of_ble_eq_true rfl) dX8_chance_36 rfl ?_
        exact tg_lret X h rfl dX8_chance_39
      · have h := tg_ifF c13 h
        refine tg_aload_n X dX8_chance_24 rfl 0 rfl ?_
        refine tg_iload_n X dX8_chance_25 rfl 1 rfl ?_
        refine tg_iload_n X dX8_chance_26 rfl 2 rfl ?_
        refine tg_iload_n X dX8_chance_27 rfl 3 rfl ?_
        obtain ⟨S16, r17, kS16, h⟩ := tg_bdE h
        refine tg_callV (As := [.int v1, .int v2, .int v3]) (rest := []) X 0 (cm_X8_chanceOf _ _ _ _ _ kS16) yy_X8_chanceOf wv_X8_chanceOf ws_X8_chanceOf wm_X8_316 rfl cl_X8.1 ⟨rfl, rfl, Nat.le_of_ble_eq_true rfl, Nat.le_of_ble_eq_true rfl⟩ rfl rfl (Nat.le_of_ble_eq_true rfl) dX8_chance_28 rfl ?_
        refine tg_goto (tgt := 39) X dX8_chance_31 (by decide) ?_
        exact tg_lret X h rfl dX8_chance_39
theorem cm_X8_chance (l : Launch) (D : va_G) (cy : Bool → ClassId) (ad : Nat → Nat) (tS : Nat) {S Sf : tg_S} {v1 : Int32} {v2 : Int32} {v3 : Int32} {r : Int64} (h : f_X8_chance  S v1 v2 v3 = some (Sf, r)) : tg_Met l yX8_chance cX8_chance 4 (some .long) zr_X8_chance tauR D cy ad tS S [.ref (ad 0), .int v1, .int v2, .int v3] Sf (some (.long r)) := tg_mk (by decide +kernel) trivial (Nat.le_of_ble_eq_true rfl) (fun p e s m args below meth c Q A X => w_X8_chance_0 X S v1 v2 v3 h)
-- X8_yearsOf
def zr_X8_yearsOf : Room := { frames := 6, cells := 0, slots := 0, locals := 140 }
theorem dX8_yearsOf_0 : decode cX8_yearsOf 0 = .ok (.aload_n 0, 1) := by decide +kernel
theorem dX8_yearsOf_1 : decode cX8_yearsOf 1 = .ok (.invokevirtual 229, 3) := by decide +kernel
theorem dX8_yearsOf_4 : decode cX8_yearsOf 4 = .ok (.iload_n 1, 1) := by decide +kernel
theorem dX8_yearsOf_5 : decode cX8_yearsOf 5 = .ok (.istore 4, 2) := by decide +kernel
theorem dX8_yearsOf_7 : decode cX8_yearsOf 7 = .ok (.iconst 0, 1) := by decide +kernel
theorem dX8_yearsOf_8 : decode cX8_yearsOf 8 = .ok (.istore 5, 2) := by decide +kernel
theorem dX8_yearsOf_10 : decode cX8_yearsOf 10 = .ok (.iload 5, 2) := by decide +kernel
theorem dX8_yearsOf_12 : decode cX8_yearsOf 12 = .ok (.bipush 24, 2) := by decide +kernel
theorem dX8_yearsOf_14 : decode cX8_yearsOf 14 = .ok (.if_icmp .ge 59, 3) := by decide +kernel
theorem dX8_yearsOf_17 : decode cX8_yearsOf 17 = .ok (.iload 5, 2) := by decide +kernel
theorem dX8_yearsOf_19 : decode cX8_yearsOf 19 = .ok (.iload_n 2, 1) := by decide +kernel
theorem dX8_yearsOf_20 : decode cX8_yearsOf 20 = .ok (.if_icmp .ge 16, 3) := by decide +kernel
theorem dX8_yearsOf_23 : decode cX8_yearsOf 23 = .ok (.ldc_w 324, 3) := by decide +kernel
theorem dX8_yearsOf_26 : decode cX8_yearsOf 26 = .ok (.iload 4, 2) := by decide +kernel
theorem dX8_yearsOf_28 : decode cX8_yearsOf 28 = .ok (.imul, 1) := by decide +kernel
theorem dX8_yearsOf_29 : decode cX8_yearsOf 29 = .ok (.sipush 12345, 3) := by decide +kernel
theorem dX8_yearsOf_32 : decode cX8_yearsOf 32 = .ok (.iadd, 1) := by decide +kernel
theorem dX8_yearsOf_33 : decode cX8_yearsOf 33 = .ok (.goto 5, 3) := by decide +kernel
theorem dX8_yearsOf_36 : decode cX8_yearsOf 36 = .ok (.iload 4, 2) := by decide +kernel
theorem dX8_yearsOf_38 : decode cX8_yearsOf 38 = .ok (.istore 4, 2) := by decide +kernel
theorem dX8_yearsOf_40 : decode cX8_yearsOf 40 = .ok (.aload_n 0, 1) := by decide +kernel
theorem dX8_yearsOf_41 : decode cX8_yearsOf 41 = .ok (.getfield 43, 3) := by decide +kernel
theorem dX8_yearsOf_44 : decode cX8_yearsOf 44 = .ok (.bipush 24, 2) := by decide +kernel
theorem dX8_yearsOf_46 : decode cX8_yearsOf 46 = .ok (.iload 5, 2) := by decide +kernel
theorem dX8_yearsOf_48 : decode cX8_yearsOf 48 = .ok (.iadd, 1) := by decide +kernel
theorem dX8_yearsOf_49 : decode cX8_yearsOf 49 = .ok (.iload 5, 2) := by decide +kernel
theorem dX8_yearsOf_51 : decode cX8_yearsOf 51 = .ok (.iload_n 2, 1) := by decide +kernel
theorem dX8_yearsOf_52 : decode cX8_yearsOf 52 = .ok (.if_icmp .ge 13, 3) := by decide +kernel
theorem dX8_yearsOf_55 : decode cX8_yearsOf 55 = .ok (.iload 4, 2) := by decide +kernel
theorem dX8_yearsOf_57 : decode cX8_yearsOf 57 = .ok (.bipush 16, 2) := by decide +kernel
theorem dX8_yearsOf_59 : decode cX8_yearsOf 59 = .ok (.iushr, 1) := by decide +kernel
theorem dX8_yearsOf_60 : decode cX8_yearsOf 60 = .ok (.iconst 3, 1) := by decide +kernel
theorem dX8_yearsOf_61 : decode cX8_yearsOf 61 = .ok (.irem, 1) := by decide +kernel
theorem dX8_yearsOf_62 : decode cX8_yearsOf 62 = .ok (.goto 4, 3) := by decide +kernel
theorem dX8_yearsOf_65 : decode cX8_yearsOf 65 = .ok (.iconst 1, 1) := by decide +kernel
theorem dX8_yearsOf_66 : decode cX8_yearsOf 66 = .ok (.iastore, 1) := by decide +kernel
theorem dX8_yearsOf_67 : decode cX8_yearsOf 67 = .ok (.iinc 5 1, 3) := by decide +kernel
theorem dX8_yearsOf_70 : decode cX8_yearsOf 70 = .ok (.goto (-60), 3) := by decide +kernel
theorem dX8_yearsOf_73 : decode cX8_yearsOf 73 = .ok (.aload_n 0, 1) := by decide +kernel
theorem dX8_yearsOf_74 : decode cX8_yearsOf 74 = .ok (.invokevirtual 232, 3) := by decide +kernel
theorem dX8_yearsOf_77 : decode cX8_yearsOf 77 = .ok (.iload_n 3, 1) := by decide +kernel
theorem dX8_yearsOf_78 : decode cX8_yearsOf 78 = .ok (.ifCond .ne 10, 3) := by decide +kernel
theorem dX8_yearsOf_81 : decode cX8_yearsOf 81 = .ok (.aload_n 0, 1) := by decide +kernel
theorem dX8_yearsOf_82 : decode cX8_yearsOf 82 = .ok (.getfield 203, 3) := by decide +kernel
theorem dX8_yearsOf_85 : decode cX8_yearsOf 85 = .ok (.goto 7, 3) := by decide +kernel
theorem dX8_yearsOf_88 : decode cX8_yearsOf 88 = .ok (.aload_n 0, 1) := by decide +kernel
theorem dX8_yearsOf_89 : decode cX8_yearsOf 89 = .ok (.getfield 206, 3) := by decide +kernel
theorem dX8_yearsOf_92 : decode cX8_yearsOf 92 = .ok (.ireturn, 1) := by decide +kernel
set_option maxRecDepth 20000 in
set_option maxHeartbeats 4000000 in
theorem w_X8_yearsOf_66 {x : tg_X} {Sf : tg_S} {r : Int32} {rec10 : tg_S → Int32 → Int32 → Int32 → Int32 → Option (tg_S × Int32)} (X : tg_M tauR x cX8_yearsOf 6 RX8 zr_X8_yearsOf (some .int) Sf (some (.int r))) (hr10 : ∀ (S : tg_S) (v2 : Int32) (v3 : Int32) (v4 : Int32) (v5 : Int32), rec10 S v2 v3 v4 v5 = some (Sf, r) → tg_G tauR x S 10 [(0, .ref (tg_ad x 0)), (2, .int v2), (3, .int v3), (4, .int v4), (5, .int v5)] []) (S : tg_S) (v2 : Int32) (v3 : Int32) (v4 : Int32) (v5 : Int32) (s0 : Int32) (s1 : Int32) (h : f_X8_yearsOf_66 rec10 S v2 v3 v4 v5 s0 s1 = some (Sf, r)) : tg_G tauR x S 66 [(0, .ref (tg_ad x 0)), (2, .int v2), (3, .int v3), (4, .int v4), (5, .int v5)] [.int s0, .int s1, .ref (tg_ad x 12)] := by
  unfold f_X8_yearsOf_66 at h
  obtain ⟨S1, eS1, bS1, h⟩ := tg_wrE h
  refine tg_iast X 12 rfl bS1 dX8_yearsOf_66 eS1 ?_
  obtain ⟨y2, ey2⟩ : ∃ z : Int32, z = v5 + 1 := ⟨_, rfl⟩
  have h := tg_nmE ey2 h
  refine tg_iinc (lv2 := [(5, .int y2), (0, .ref (tg_ad x 0)), (2, .int v2), (3, .int v3), (4, .int v4)]) X dX8_yearsOf_67 4 rfl tk_i1 ey2 (by decide) rfl ?_
  refine tg_goto (tgt := 10) X dX8_yearsOf_70 (by decide) ?_
  refine tg_re [1, 2, 3, 4, 0] rfl ?_
  exact hr10 S1 v2 v3 v4 y2 h
set_option maxRecDepth 20000 in
set_option maxHeartbeats 4000000 in
theorem w_X8_yearsOf_38 {x : tg_X} {Sf : tg_S} {r : Int32} {rec10 : tg_S → Int32 → Int32 → Int32 → Int32 → Option (tg_S × Int32)} (X : tg_M tauR x cX8_yearsOf 6 RX8 zr_X8_yearsOf (some .int) Sf (some (.int r))) (hr10 : ∀ (S : tg_S) (v2 : Int32) (v3 : Int32) (v4 : Int32) (v5 : Int32), rec10 S v2 v3 v4 v5 = some (Sf, r) → tg_G tauR x S 10 [(0, .ref (tg_ad x 0)), (2, .int v2), (3, .int v3), (4, .int v4), (5, .int v5)] []) (S : tg_S) (v2 : Int32) (v3 : Int32) (v5 : Int32) (s0 : Int32) (h : f_X8_yearsOf_38 rec10 S v2 v3 v5 s0 = some (Sf, r)) : tg_G tauR x S 38 [(0, .ref (tg_ad x 0)), (2, .int v2), (3, .int v3), (5, .int v5)] [.int s0] := by
  unfold f_X8_yearsOf_38 at h
  refine tg_istore (lv2 := [(4, .int s0), (0, .ref (tg_ad x 0)), (2, .int v2), (3, .int v3), (5, .int v5)]) X dX8_yearsOf_38 (by decide) rfl ?_
  refine tg_aload_n X dX8_yearsOf_40 rfl 1 rfl ?_
  refine tg_getr X 0 rfl cl_X8 13 (by decide) rfl wf_X8_43 dX8_yearsOf_41 ?_
  refine tg_bipush X dX8_yearsOf_44 tk_b24 ?_
  refine tg_iload X dX8_yearsOf_46 4 rfl ?_
  refine tg_iadd X dX8_yearsOf_48 ?_
  refine tg_iload X dX8_yearsOf_49 4 rfl ?_
  refine tg_iload_n X dX8_yearsOf_51 rfl 2 rfl ?_
  refine tg_icmp_ge (tgt := 65) X dX8_yearsOf_52 (by decide) (fun c1 => ?_) (fun c1 => ?_)
  · rw [if_pos c1] at h
    refine tg_iconst X dX8_yearsOf_65 tk_i1 ?_
    refine tg_re [1, 2, 3, 0, 4] rfl ?_
    exact w_X8_yearsOf_66 X hr10 S v2 v3 s0 v5 1 (24 + v5) h
  · rw [if_neg c1] at h
    refine tg_iload X dX8_yearsOf_55 0 rfl ?_
    refine tg_bipush X dX8_yearsOf_57 tk_b16 ?_
    refine tg_iushr X dX8_yearsOf_59 ?_
    refine tg_iconst X dX8_yearsOf_60 tk_i3 ?_
    refine tg_irem X dX8_yearsOf_61 (by decide) ?_
    refine tg_goto (tgt := 66) X dX8_yearsOf_62 (by decide) ?_
    refine tg_re [1, 2, 3, 0, 4] rfl ?_
    exact w_X8_yearsOf_66 X hr10 S v2 v3 s0 v5 ((((s0).toUInt32 >>> ((16 : Int32).toUInt32 &&& Int32.toUInt32 31)).toInt32) - (((s0).toUInt32 >>> ((16 : Int32).toUInt32 &&& Int32.toUInt32 31)).toInt32) / 3 * 3) (24 + v5) h
set_option maxRecDepth 20000 in
set_option maxHeartbeats 4000000 in
theorem w_X8_yearsOf_10 {x : tg_X} {Sf : tg_S} {r : Int32} {rec10 : tg_S → Int32 → Int32 → Int32 → Int32 → Option (tg_S × Int32)} (X : tg_M tauR x cX8_yearsOf 6 RX8 zr_X8_yearsOf (some .int) Sf (some (.int r))) (hr10 : ∀ (S : tg_S) (v2 : Int32) (v3 : Int32) (v4 : Int32) (v5 : Int32), rec10 S v2 v3 v4 v5 = some (Sf, r) → tg_G tauR x S 10 [(0, .ref (tg_ad x 0)), (2, .int v2), (3, .int v3), (4, .int v4), (5, .int v5)] []) (S : tg_S) (v2 : Int32) (v3 : Int32) (v4 : Int32) (v5 : Int32) (h : f_X8_yearsOf_10 rec10 S v2 v3 v4 v5 = some (Sf, r)) : tg_G tauR x S 10 [(0, .ref (tg_ad x 0)), (2, .int v2), (3, .int v3), (4, .int v4), (5, .int v5)] [] := by
  unfold f_X8_yearsOf_10 at h
  refine tg_iload X dX8_yearsOf_10 4 rfl ?_
  refine tg_bipush X dX8_yearsOf_12 tk_b24 ?_
  refine tg_icmp_ge (tgt := 73) X dX8_yearsOf_14 (by decide) (fun c1 => ?_) (fun c1 => ?_)
  · have h := tg_ifT c1 h
    refine tg_aload_n X dX8_yearsOf_73 rfl 0 rfl ?_
    obtain ⟨S2, kS2, h⟩ := tg_bvE h
    refine tg_callV (As := []) (rest := []) X 0 (cm_X8_runs _ _ _ _ _ kS2) yy_X8_runs wv_X8_runs ws_X8_runs wm_X8_232 rfl cl_X8.1 ⟨rfl, rfl, Nat.le_of_ble_eq_true rfl, Nat.le_of_ble_eq_true rfl⟩ rfl rfl (Nat.le_of_ble_eq_true rfl) dX8_yearsOf_74 rfl ?_
    refine tg_iload_n X dX8_yearsOf_77 rfl 2 rfl ?_
    refine tg_if_ne (tgt := 88) X dX8_yearsOf_78 (by decide) (fun c3 => ?_) (fun c3 => ?_)
    · have h := tg_ifF c3 h
      refine tg_aload_n X dX8_yearsOf_88 rfl 0 rfl ?_
      refine tg_geti X 0 rfl cl_X8 22 (by decide) rfl wf_X8_206 dX8_yearsOf_89 ?_
      exact tg_iret X h rfl dX8_yearsOf_92
    · have h := tg_ifT c3 h
      refine tg_aload_n X dX8_yearsOf_81 rfl 0 rfl ?_
      refine tg_geti X 0 rfl cl_X8 21 (by decide) rfl wf_X8_203 dX8_yearsOf_82 ?_
      refine tg_goto (tgt := 92) X dX8_yearsOf_85 (by decide) ?_
      exact tg_iret X h rfl dX8_yearsOf_92
  · have h := tg_ifF c1 h
    refine tg_iload X dX8_yearsOf_17 4 rfl ?_
    refine tg_iload_n X dX8_yearsOf_19 rfl 1 rfl ?_
    refine tg_icmp_ge (tgt := 36) X dX8_yearsOf_20 (by decide) (fun c4 => ?_) (fun c4 => ?_)
    · rw [if_pos c4] at h
      refine tg_iload X dX8_yearsOf_36 3 rfl ?_
      refine tg_re [0, 1, 2, 4] rfl ?_
      exact w_X8_yearsOf_38 X hr10 S v2 v3 v5 v4 h
    · rw [if_neg c4] at h
      refine tg_ldcw X wk_X8_324 dX8_yearsOf_23 ?_
      refine tg_iload X dX8_yearsOf_26 3 rfl ?_
      refine tg_imul X dX8_yearsOf_28 ?_
      refine tg_sipush X dX8_yearsOf_29 tk_s12345 ?_
      refine tg_iadd X dX8_yearsOf_32 ?_
      refine tg_goto (tgt := 38) X dX8_yearsOf_33 (by decide) ?_
      refine tg_re [0, 1, 2, 4] rfl ?_
      exact w_X8_yearsOf_38 X hr10 S v2 v3 v5 ((1103515245 * v4) + 12345) h
theorem wl_X8_yearsOf_10 {x : tg_X} {Sf : tg_S} {r : Int32} (X : tg_M tauR x cX8_yearsOf 6 RX8 zr_X8_yearsOf (some .int) Sf (some (.int r))) : ∀ (n : Nat) (S : tg_S) (v2 : Int32) (v3 : Int32) (v4 : Int32) (v5 : Int32) (h : L_X8_yearsOf_10  n S v2 v3 v4 v5 = some (Sf, r)), tg_G tauR x S 10 [(0, .ref (tg_ad x 0)), (2, .int v2), (3, .int v3), (4, .int v4), (5, .int v5)] [] := by
  intro n
  induction n with
  | zero => intro S v2 v3 v4 v5 h; cases h
  | succ n ih => intro S v2 v3 v4 v5 h; exact w_X8_yearsOf_10 X  ih S v2 v3 v4 v5 h
set_option maxRecDepth 20000 in
set_option maxHeartbeats 4000000 in
theorem w_X8_yearsOf_0 {x : tg_X} {Sf : tg_S} {r : Int32} (X : tg_M tauR x cX8_yearsOf 6 RX8 zr_X8_yearsOf (some .int) Sf (some (.int r))) (S : tg_S) (v1 : Int32) (v2 : Int32) (v3 : Int32) (h : f_X8_yearsOf  S v1 v2 v3 = some (Sf, r)) : tg_G tauR x S 0 [(0, .ref (tg_ad x 0)), (1, .int v1), (2, .int v2), (3, .int v3)] [] := by
  unfold f_X8_yearsOf at h
  refine tg_aload_n X dX8_yearsOf_0 rfl 0 rfl ?_
  obtain ⟨S1, kS1, h⟩ := tg_bvE h
  refine tg_callV (As := []) (rest := []) X 0 (cm_X8_asTold _ _ _ _ _ kS1) yy_X8_asTold wv_X8_asTold ws_X8_asTold wm_X8_229 rfl cl_X8.1 ⟨rfl, rfl, Nat.le_of_ble_eq_true rfl, Nat.le_of_ble_eq_true rfl⟩ rfl rfl (Nat.le_of_ble_eq_true rfl) dX8_yearsOf_1 rfl ?_
  refine tg_iload_n X dX8_yearsOf_4 rfl 1 rfl ?_
  refine tg_istore (lv2 := [(4, .int v1), (0, .ref (tg_ad x 0)), (1, .int v1), (2, .int v2), (3, .int v3)]) X dX8_yearsOf_5 (by decide) rfl ?_
  refine tg_iconst X dX8_yearsOf_7 tk_i0 ?_
  refine tg_istore (lv2 := [(5, .int 0), (4, .int v1), (0, .ref (tg_ad x 0)), (1, .int v1), (2, .int v2), (3, .int v3)]) X dX8_yearsOf_8 (by decide) rfl ?_
  refine tg_re [2, 4, 5, 1, 0] rfl ?_
  exact wl_X8_yearsOf_10 X  tg_F S1 v2 v3 v1 0 h
theorem cm_X8_yearsOf (l : Launch) (D : va_G) (cy : Bool → ClassId) (ad : Nat → Nat) (tS : Nat) {S Sf : tg_S} {v1 : Int32} {v2 : Int32} {v3 : Int32} {r : Int32} (h : f_X8_yearsOf  S v1 v2 v3 = some (Sf, r)) : tg_Met l yX8_yearsOf cX8_yearsOf 6 (some .int) zr_X8_yearsOf tauR D cy ad tS S [.ref (ad 0), .int v1, .int v2, .int v3] Sf (some (.int r)) := tg_mk (by decide +kernel) trivial (Nat.le_of_ble_eq_true rfl) (fun p e s m args below meth c Q A X => w_X8_yearsOf_0 X S v1 v2 v3 h)
-- X8_years
def zr_X8_years : Room := { frames := 7, cells := 0, slots := 0, locals := 165 }
theorem dX8_years_0 : decode cX8_years 0 = .ok (.iload_n 2, 1) := by decide +kernel
theorem dX8_years_1 : decode cX8_years 1 = .ok (.iconst 0, 1) := by decide +kernel
theorem dX8_years_2 : decode cX8_years 2 = .ok (.bipush 24, 2) := by decide +kernel
theorem dX8_years_4 : decode cX8_years 4 = .ok (.invokestatic 109, 3) := by decide +kernel
theorem dX8_years_7 : decode cX8_years 7 = .ok (.ifCond .eq 20, 3) := by decide +kernel
theorem dX8_years_10 : decode cX8_years 10 = .ok (.iload_n 3, 1) := by decide +kernel
theorem dX8_years_11 : decode cX8_years 11 = .ok (.invokestatic 153, 3) := by decide +kernel
theorem dX8_years_14 : decode cX8_years 14 = .ok (.ifCond .eq 13, 3) := by decide +kernel
theorem dX8_years_17 : decode cX8_years 17 = .ok (.aload_n 0, 1) := by decide +kernel
theorem dX8_years_18 : decode cX8_years 18 = .ok (.iload_n 1, 1) := by decide +kernel
theorem dX8_years_19 : decode cX8_years 19 = .ok (.iload_n 2, 1) := by decide +kernel
theorem dX8_years_20 : decode cX8_years 20 = .ok (.iload_n 3, 1) := by decide +kernel
theorem dX8_years_21 : decode cX8_years 21 = .ok (.invokevirtual 325, 3) := by decide +kernel
theorem dX8_years_24 : decode cX8_years 24 = .ok (.goto 5, 3) := by decide +kernel
theorem dX8_years_27 : decode cX8_years 27 = .ok (.bipush (-2), 2) := by decide +kernel
theorem dX8_years_29 : decode cX8_years 29 = .ok (.ireturn, 1) := by decide +kernel
set_option maxRecDepth 20000 in
set_option maxHeartbeats 4000000 in
theorem w_X8_years_0 {x : tg_X} {Sf : tg_S} {r : Int32} (X : tg_M tauR x cX8_years 4 RX8 zr_X8_years (some .int) Sf (some (.int r))) (S : tg_S) (v1 : Int32) (v2 : Int32) (v3 : Int32) (h : f_X8_years  S v1 v2 v3 = some (Sf, r)) : tg_G tauR x S 0 [(0, .ref (tg_ad x 0)), (1, .int v1), (2, .int v2), (3, .int v3)] [] := by
  unfold f_X8_years at h
  refine tg_iload_n X dX8_years_0 rfl 2 rfl ?_
  refine tg_iconst X dX8_years_1 tk_i0 ?_
  refine tg_bipush X dX8_years_2 tk_b24 ?_
  obtain ⟨S1, r2, kS1, h⟩ := tg_bdE h
  refine tg_callS (As := [.int v2, .int 0, .int 24]) (rest := []) X (cm_X8_in _ _ _ _ _ kS1) yy_X8_in wt_X8_in wm_X8_109 ⟨rfl, rfl, Nat.le_of_ble_eq_true rfl, Nat.le_of_ble_eq_true rfl⟩ rfl rfl (Nat.le_of_ble_eq_true rfl) dX8_years_4 rfl ?_
  refine tg_if_eq (tgt := 27) X dX8_years_7 (by decide) (fun c3 => ?_) (fun c3 => ?_)
  · have h := tg_ifT c3 h
    refine tg_bipush X dX8_years_27 tk_bm2 ?_
    exact tg_iret X h rfl dX8_years_29
  · have h := tg_ifF c3 h
    refine tg_iload_n X dX8_years_10 rfl 3 rfl ?_
    obtain ⟨S4, r5, kS4, h⟩ := tg_bdE h
    refine tg_callS (As := [.int v3]) (rest := []) X (cm_X8_isTwo _ _ _ _ _ kS4) yy_X8_isTwo wt_X8_isTwo wm_X8_153 ⟨rfl, rfl, Nat.le_of_ble_eq_true rfl, Nat.le_of_ble_eq_true rfl⟩ rfl rfl (Nat.le_of_ble_eq_true rfl) dX8_years_11 rfl ?_
    refine tg_if_eq (tgt := 27) X dX8_years_14 (by decide) (fun c6 => ?_) (fun c6 => ?_)
    · have h := tg_ifT c6 h
      refine tg_bipush X dX8_years_27 tk_bm2 ?_
      exact tg_iret X h rfl dX8_years_29
    · have h := tg_ifF c6 h
      refine tg_aload_n X dX8_years_17 rfl 0 rfl ?_
      refine tg_iload_n X dX8_years_18 rfl 1 rfl ?_
      refine tg_iload_n X dX8_years_19 rfl 2 rfl ?_
      refine tg_iload_n X dX8_years_20 rfl 3 rfl ?_
      obtain ⟨S7, r8, kS7, h⟩ := tg_bdE h
      refine tg_callV (As := [.int v1, .int v2, .int v3]) (rest := []) X 0 (cm_X8_yearsOf _ _ _ _ _ kS7) yy_X8_yearsOf wv_X8_yearsOf ws_X8_yearsOf wm_X8_325 rfl cl_X8.1 ⟨rfl, rfl, Nat.le_of_ble_eq_true rfl, Nat.le_of_ble_eq_true rfl⟩ rfl rfl (Nat.le_of_ble_eq_true rfl) dX8_years_21 rfl ?_
      refine tg_goto (tgt := 29) X dX8_years_24 (by decide) ?_
      exact tg_iret X h rfl dX8_years_29
theorem cm_X8_years (l : Launch) (D : va_G) (cy : Bool → ClassId) (ad : Nat → Nat) (tS : Nat) {S Sf : tg_S} {v1 : Int32} {v2 : Int32} {v3 : Int32} {r : Int32} (h : f_X8_years  S v1 v2 v3 = some (Sf, r)) : tg_Met l yX8_years cX8_years 4 (some .int) zr_X8_years tauR D cy ad tS S [.ref (ad 0), .int v1, .int v2, .int v3] Sf (some (.int r)) := tg_mk (by decide +kernel) trivial (Nat.le_of_ble_eq_true rfl) (fun p e s m args below meth c Q A X => w_X8_years_0 X S v1 v2 v3 h)
