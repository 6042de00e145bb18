-- X8_sheet
def zr_X8_sheet : Room := { frames := 2, cells := 0, slots := 0, locals := 42 }
theorem dX8_sheet_0 : decode cX8_sheet 0 = .ok (.iload_n 1, 1) := by decide +kernel
theorem dX8_sheet_1 : decode cX8_sheet 1 = .ok (.invokestatic 169, 3) := by decide +kernel
theorem dX8_sheet_4 : decode cX8_sheet 4 = .ok (.ifCond .eq 18, 3) := by decide +kernel
theorem dX8_sheet_7 : decode cX8_sheet 7 = .ok (.iload_n 2, 1) := by decide +kernel
theorem dX8_sheet_8 : decode cX8_sheet 8 = .ok (.iconst 0, 1) := by decide +kernel
theorem dX8_sheet_9 : decode cX8_sheet 9 = .ok (.iconst 2, 1) := by decide +kernel
theorem dX8_sheet_10 : decode cX8_sheet 10 = .ok (.invokestatic 109, 3) := by decide +kernel
theorem dX8_sheet_13 : decode cX8_sheet 13 = .ok (.ifCond .eq 9, 3) := by decide +kernel
theorem dX8_sheet_16 : decode cX8_sheet 16 = .ok (.iload_n 3, 1) := by decide +kernel
theorem dX8_sheet_17 : decode cX8_sheet 17 = .ok (.bipush 60, 2) := by decide +kernel
theorem dX8_sheet_19 : decode cX8_sheet 19 = .ok (.if_icmp .le 6, 3) := by decide +kernel
theorem dX8_sheet_22 : decode cX8_sheet 22 = .ok (.bipush (-2), 2) := by decide +kernel
theorem dX8_sheet_24 : decode cX8_sheet 24 = .ok (.ireturn, 1) := by decide +kernel
theorem dX8_sheet_25 : decode cX8_sheet 25 = .ok (.iload_n 3, 1) := by decide +kernel
theorem dX8_sheet_26 : decode cX8_sheet 26 = .ok (.ifCond .ge 9, 3) := by decide +kernel
theorem dX8_sheet_29 : decode cX8_sheet 29 = .ok (.aload_n 0, 1) := by decide +kernel
theorem dX8_sheet_30 : decode cX8_sheet 30 = .ok (.iconst 5, 1) := by decide +kernel
theorem dX8_sheet_31 : decode cX8_sheet 31 = .ok (.invokevirtual 172, 3) := by decide +kernel
theorem dX8_sheet_34 : decode cX8_sheet 34 = .ok (.ireturn, 1) := by decide +kernel
theorem dX8_sheet_35 : decode cX8_sheet 35 = .ok (.aload_n 0, 1) := by decide +kernel
theorem dX8_sheet_36 : decode cX8_sheet 36 = .ok (.getfield 91, 3) := by decide +kernel
theorem dX8_sheet_39 : decode cX8_sheet 39 = .ok (.iload_n 1, 1) := by decide +kernel
theorem dX8_sheet_40 : decode cX8_sheet 40 = .ok (.iconst 1, 1) := by decide +kernel
theorem dX8_sheet_41 : decode cX8_sheet 41 = .ok (.bastore, 1) := by decide +kernel
theorem dX8_sheet_42 : decode cX8_sheet 42 = .ok (.aload_n 0, 1) := by decide +kernel
theorem dX8_sheet_43 : decode cX8_sheet 43 = .ok (.getfield 95, 3) := by decide +kernel
theorem dX8_sheet_46 : decode cX8_sheet 46 = .ok (.iload_n 1, 1) := by decide +kernel
theorem dX8_sheet_47 : decode cX8_sheet 47 = .ok (.iload_n 2, 1) := by decide +kernel
theorem dX8_sheet_48 : decode cX8_sheet 48 = .ok (.iastore, 1) := by decide +kernel
theorem dX8_sheet_49 : decode cX8_sheet 49 = .ok (.aload_n 0, 1) := by decide +kernel
theorem dX8_sheet_50 : decode cX8_sheet 50 = .ok (.getfield 98, 3) := by decide +kernel
theorem dX8_sheet_53 : decode cX8_sheet 53 = .ok (.iload_n 1, 1) := by decide +kernel
theorem dX8_sheet_54 : decode cX8_sheet 54 = .ok (.iload_n 3, 1) := by decide +kernel
theorem dX8_sheet_55 : decode cX8_sheet 55 = .ok (.iastore, 1) := by decide +kernel
theorem dX8_sheet_56 : decode cX8_sheet 56 = .ok (.iconst 0, 1) := by decide +kernel
theorem dX8_sheet_57 : decode cX8_sheet 57 = .ok (.istore 4, 2) := by decide +kernel
theorem dX8_sheet_59 : decode cX8_sheet 59 = .ok (.iload 4, 2) := by decide +kernel
theorem dX8_sheet_61 : decode cX8_sheet 61 = .ok (.bipush 60, 2) := by decide +kernel
theorem dX8_sheet_63 : decode cX8_sheet 63 = .ok (.if_icmp .ge 22, 3) := by decide +kernel
theorem dX8_sheet_66 : decode cX8_sheet 66 = .ok (.aload_n 0, 1) := by decide +kernel
theorem dX8_sheet_67 : decode cX8_sheet 67 = .ok (.getfield 101, 3) := by decide +kernel
theorem dX8_sheet_70 : decode cX8_sheet 70 = .ok (.bipush 60, 2) := by decide +kernel
theorem dX8_sheet_72 : decode cX8_sheet 72 = .ok (.iload_n 1, 1) := by decide +kernel
theorem dX8_sheet_73 : decode cX8_sheet 73 = .ok (.imul, 1) := by decide +kernel
theorem dX8_sheet_74 : decode cX8_sheet 74 = .ok (.iload 4, 2) := by decide +kernel
theorem dX8_sheet_76 : decode cX8_sheet 76 = .ok (.iadd, 1) := by decide +kernel
theorem dX8_sheet_77 : decode cX8_sheet 77 = .ok (.iconst 0, 1) := by decide +kernel
theorem dX8_sheet_78 : decode cX8_sheet 78 = .ok (.iastore, 1) := by decide +kernel
theorem dX8_sheet_79 : decode cX8_sheet 79 = .ok (.iinc 4 1, 3) := by decide +kernel
theorem dX8_sheet_82 : decode cX8_sheet 82 = .ok (.goto (-23), 3) := by decide +kernel
theorem dX8_sheet_85 : decode cX8_sheet 85 = .ok (.iload_n 3, 1) := by decide +kernel
theorem dX8_sheet_86 : decode cX8_sheet 86 = .ok (.ireturn, 1) := by decide +kernel
set_option maxRecDepth 20000 in
set_option maxHeartbeats 4000000 in
theorem w_X8_sheet_59 {x : tg_X} {Sf : tg_S} {r : Int32} {rec59 : tg_S → Int32 → Int32 → Int32 → Option (tg_S × Int32)} (X : tg_M tauR x cX8_sheet 5 RX8 zr_X8_sheet (some .int) Sf (some (.int r))) (hr59 : ∀ (S : tg_S) (v1 : Int32) (v3 : Int32) (v4 : Int32), rec59 S v1 v3 v4 = some (Sf, r) → tg_G tauR x S 59 [(0, .ref (tg_ad x 0)), (1, .int v1), (3, .int v3), (4, .int v4)] []) (S : tg_S) (v1 : Int32) (v3 : Int32) (v4 : Int32) (h : f_X8_sheet_59 rec59 S v1 v3 v4 = some (Sf, r)) : tg_G tauR x S 59 [(0, .ref (tg_ad x 0)), (1, .int v1), (3, .int v3), (4, .int v4)] [] := by
  unfold f_X8_sheet_59 at h
  refine tg_iload X dX8_sheet_59 3 rfl ?_
  refine tg_bipush X dX8_sheet_61 tk_b60 ?_
  refine tg_icmp_ge (tgt := 85) X dX8_sheet_63 (by decide) (fun c1 => ?_) (fun c1 => ?_)
  · have h := tg_ifT c1 h
    refine tg_iload_n X dX8_sheet_85 rfl 2 rfl ?_
    exact tg_iret X h rfl dX8_sheet_86
  · have h := tg_ifF c1 h
    refine tg_aload_n X dX8_sheet_66 rfl 0 rfl ?_
    refine tg_getr X 0 rfl cl_X8 44 (by decide) rfl wf_X8_101 dX8_sheet_67 ?_
    refine tg_bipush X dX8_sheet_70 tk_b60 ?_
    refine tg_iload_n X dX8_sheet_72 rfl 1 rfl ?_
    refine tg_imul X dX8_sheet_73 ?_
    refine tg_iload X dX8_sheet_74 3 rfl ?_
    refine tg_iadd X dX8_sheet_76 ?_
    refine tg_iconst X dX8_sheet_77 tk_i0 ?_
    obtain ⟨S2, eS2, bS2, h⟩ := tg_wrE h
    refine tg_iast X 31 rfl bS2 dX8_sheet_78 eS2 ?_
    obtain ⟨y3, ey3⟩ : ∃ z : Int32, z = v4 + 1 := ⟨_, rfl⟩
    have h := tg_nmE ey3 h
    refine tg_iinc (lv2 := [(4, .int y3), (0, .ref (tg_ad x 0)), (1, .int v1), (3, .int v3)]) X dX8_sheet_79 3 rfl tk_i1 ey3 (by decide) rfl ?_
    refine tg_goto (tgt := 59) X dX8_sheet_82 (by decide) ?_
    refine tg_re [1, 2, 3, 0] rfl ?_
    exact hr59 S2 v1 v3 y3 h
theorem wl_X8_sheet_59 {x : tg_X} {Sf : tg_S} {r : Int32} (X : tg_M tauR x cX8_sheet 5 RX8 zr_X8_sheet (some .int) Sf (some (.int r))) : ∀ (n : Nat) (S : tg_S) (v1 : Int32) (v3 : Int32) (v4 : Int32) (h : L_X8_sheet_59  n S v1 v3 v4 = some (Sf, r)), tg_G tauR x S 59 [(0, .ref (tg_ad x 0)), (1, .int v1), (3, .int v3), (4, .int v4)] [] := by
  intro n
  induction n with
  | zero => intro S v1 v3 v4 h; cases h
  | succ n ih => intro S v1 v3 v4 h; exact w_X8_sheet_59 X  ih S v1 v3 v4 h
set_option maxRecDepth 20000 in
set_option maxHeartbeats 4000000 in
theorem w_X8_sheet_0 {x : tg_X} {Sf : tg_S} {r : Int32} (X : tg_M tauR x cX8_sheet 5 RX8 zr_X8_sheet (some .int) Sf (some (.int r))) (S : tg_S) (v1 : Int32) (v2 : Int32) (v3 : Int32) (h : f_X8_sheet  S v1 v2 v3 = some (Sf, r)) : tg_G tauR x S 0 [(0, .ref (tg_ad x 0)), (1, .int v1), (2, .int v2), (3, .int v3)] [] := by
  unfold f_X8_sheet at h
  refine tg_iload_n X dX8_sheet_0 rfl 1 rfl ?_
  obtain ⟨S1, r2, kS1, h⟩ := tg_bdE h
  refine tg_callS (As := [.int v1]) (rest := []) X (cm_X8_isSheet _ _ _ _ _ kS1) yy_X8_isSheet wt_X8_isSheet wm_X8_169 ⟨rfl, rfl, Nat.le_of_ble_eq_true rfl, Nat.le_of_ble_eq_true rfl⟩ rfl rfl (Nat.le_of_ble_eq_true rfl) dX8_sheet_1 rfl ?_
  refine tg_if_eq (tgt := 22) X dX8_sheet_4 (by decide) (fun c3 => ?_) (fun c3 => ?_)
  · have h := tg_ifT c3 h
    refine tg_bipush X dX8_sheet_22 tk_bm2 ?_
    exact tg_iret X h rfl dX8_sheet_24
  · have h := tg_ifF c3 h
    refine tg_iload_n X dX8_sheet_7 rfl 2 rfl ?_
    refine tg_iconst X dX8_sheet_8 tk_i0 ?_
    refine tg_iconst X dX8_sheet_9 tk_i2 ?_
    obtain ⟨S4, r5, kS4, h⟩ := tg_bdE h
    refine tg_callS (As := [.int v2, .int 0, .int 2]) (rest := []) X (cm_X8_in _ _ _ _ _ kS4) yy_X8_in wt_X8_in wm_X8_109 ⟨rfl, rfl, Nat.le_of_ble_eq_true rfl, Nat.le_of_ble_eq_true rfl⟩ rfl rfl (Nat.le_of_ble_eq_true rfl) dX8_sheet_10 rfl ?_
    refine tg_if_eq (tgt := 22) X dX8_sheet_13 (by decide) (fun c6 => ?_) (fun c6 => ?_)
    · have h := tg_ifT c6 h
      refine tg_bipush X dX8_sheet_22 tk_bm2 ?_
      exact tg_iret X h rfl dX8_sheet_24
    · have h := tg_ifF c6 h
      refine tg_iload_n X dX8_sheet_16 rfl 3 rfl ?_
      refine tg_bipush X dX8_sheet_17 tk_b60 ?_
      refine tg_icmp_le (tgt := 25) X dX8_sheet_19 (by decide) (fun c7 => ?_) (fun c7 => ?_)
      · have h := tg_ifT c7 h
        refine tg_iload_n X dX8_sheet_25 rfl 3 rfl ?_
        refine tg_if_ge (tgt := 35) X dX8_sheet_26 (by decide) (fun c8 => ?_) (fun c8 => ?_)
        · have h := tg_ifT c8 h
          refine tg_aload_n X dX8_sheet_35 rfl 0 rfl ?_
          refine tg_getr X 0 rfl cl_X8 41 (by decide) rfl wf_X8_91 dX8_sheet_36 ?_
          refine tg_iload_n X dX8_sheet_39 rfl 1 rfl ?_
          refine tg_iconst X dX8_sheet_40 tk_i1 ?_
          obtain ⟨S9, eS9, bS9, h⟩ := tg_wzE h
          refine tg_zast X 28 rfl bS9 dX8_sheet_41 eS9 ?_
          refine tg_aload_n X dX8_sheet_42 rfl 0 rfl ?_
          refine tg_getr X 0 rfl cl_X8 42 (by decide) rfl wf_X8_95 dX8_sheet_43 ?_
          refine tg_iload_n X dX8_sheet_46 rfl 1 rfl ?_
          refine tg_iload_n X dX8_sheet_47 rfl 2 rfl ?_
          obtain ⟨S10, eS10, bS10, h⟩ := tg_wrE h
          refine tg_iast X 29 rfl bS10 dX8_sheet_48 eS10 ?_
          refine tg_aload_n X dX8_sheet_49 rfl 0 rfl ?_
          refine tg_getr X 0 rfl cl_X8 43 (by decide) rfl wf_X8_98 dX8_sheet_50 ?_
          refine tg_iload_n X dX8_sheet_53 rfl 1 rfl ?_
          refine tg_iload_n X dX8_sheet_54 rfl 3 rfl ?_
          obtain ⟨S11, eS11, bS11, h⟩ := tg_wrE h
          refine tg_iast X 30 rfl bS11 dX8_sheet_55 eS11 ?_
          refine tg_iconst X dX8_sheet_56 tk_i0 ?_
          refine tg_istore (lv2 := [(4, .int 0), (0, .ref (tg_ad x 0)), (1, .int v1), (2, .int v2), (3, .int v3)]) X dX8_sheet_57 (by decide) rfl ?_
          refine tg_re [1, 2, 4, 0] rfl ?_
          exact wl_X8_sheet_59 X  tg_F S11 v1 v3 0 h
        · have h := tg_ifF c8 h
          refine tg_aload_n X dX8_sheet_29 rfl 0 rfl ?_
          refine tg_iconst X dX8_sheet_30 tk_i5 ?_
          obtain ⟨S12, r13, kS12, h⟩ := tg_bdE h
          refine tg_callV (As := [.int 5]) (rest := []) X 0 (cm_X8_meets _ _ _ _ _ kS12) yy_X8_meets wv_X8_meets ws_X8_meets wm_X8_172 rfl cl_X8.1 ⟨rfl, rfl, Nat.le_of_ble_eq_true rfl, Nat.le_of_ble_eq_true rfl⟩ rfl rfl (Nat.le_of_ble_eq_true rfl) dX8_sheet_31 rfl ?_
          exact tg_iret X h rfl dX8_sheet_34
      · have h := tg_ifF c7 h
        refine tg_bipush X dX8_sheet_22 tk_bm2 ?_
        exact tg_iret X h rfl dX8_sheet_24
theorem cm_X8_sheet (l : Launch) (D : va_G) (cy : Bool → ClassId) (ad : Nat → Nat) (tS : Nat) {S Sf : tg_S} {v1 : Int32} {v2 : Int32} {v3 : Int32} {r : Int32} (h : f_X8_sheet  S v1 v2 v3 = some (Sf, r)) : tg_Met l yX8_sheet cX8_sheet 5 (some .int) zr_X8_sheet tauR D cy ad tS S [.ref (ad 0), .int v1, .int v2, .int v3] Sf (some (.int r)) := tg_mk (by decide +kernel) trivial (Nat.le_of_ble_eq_true rfl) (fun p e s m args below meth c Q A X => w_X8_sheet_0 X S v1 v2 v3 h)
-- X8_lose
def zr_X8_lose : Room := { frames := 2, cells := 0, slots := 0, locals := 42 }
theorem dX8_lose_0 : decode cX8_lose 0 = .ok (.iload_n 1, 1) := by decide +kernel
theorem dX8_lose_1 : decode cX8_lose 1 = .ok (.invokestatic 169, 3) := by decide +kernel
theorem dX8_lose_4 : decode cX8_lose 4 = .ok (.ifCond .ne 6, 3) := by decide +kernel
theorem dX8_lose_7 : decode cX8_lose 7 = .ok (.bipush (-2), 2) := by decide +kernel
theorem dX8_lose_9 : decode cX8_lose 9 = .ok (.ireturn, 1) := by decide +kernel
theorem dX8_lose_10 : decode cX8_lose 10 = .ok (.aload_n 0, 1) := by decide +kernel
theorem dX8_lose_11 : decode cX8_lose 11 = .ok (.getfield 91, 3) := by decide +kernel
theorem dX8_lose_14 : decode cX8_lose 14 = .ok (.iload_n 1, 1) := by decide +kernel
theorem dX8_lose_15 : decode cX8_lose 15 = .ok (.baload, 1) := by decide +kernel
theorem dX8_lose_16 : decode cX8_lose 16 = .ok (.ifCond .ne 9, 3) := by decide +kernel
theorem dX8_lose_19 : decode cX8_lose 19 = .ok (.aload_n 0, 1) := by decide +kernel
theorem dX8_lose_20 : decode cX8_lose 20 = .ok (.iconst 1, 1) := by decide +kernel
theorem dX8_lose_21 : decode cX8_lose 21 = .ok (.invokevirtual 172, 3) := by decide +kernel
theorem dX8_lose_24 : decode cX8_lose 24 = .ok (.ireturn, 1) := by decide +kernel
theorem dX8_lose_25 : decode cX8_lose 25 = .ok (.aload_n 0, 1) := by decide +kernel
theorem dX8_lose_26 : decode cX8_lose 26 = .ok (.getfield 91, 3) := by decide +kernel
theorem dX8_lose_29 : decode cX8_lose 29 = .ok (.iload_n 1, 1) := by decide +kernel
theorem dX8_lose_30 : decode cX8_lose 30 = .ok (.iconst 0, 1) := by decide +kernel
theorem dX8_lose_31 : decode cX8_lose 31 = .ok (.bastore, 1) := by decide +kernel
theorem dX8_lose_32 : decode cX8_lose 32 = .ok (.aload_n 0, 1) := by decide +kernel
theorem dX8_lose_33 : decode cX8_lose 33 = .ok (.getfield 98, 3) := by decide +kernel
theorem dX8_lose_36 : decode cX8_lose 36 = .ok (.iload_n 1, 1) := by decide +kernel
theorem dX8_lose_37 : decode cX8_lose 37 = .ok (.iaload, 1) := by decide +kernel
theorem dX8_lose_38 : decode cX8_lose 38 = .ok (.ireturn, 1) := by decide +kernel
set_option maxRecDepth 20000 in
set_option maxHeartbeats 4000000 in
theorem w_X8_lose_0 {x : tg_X} {Sf : tg_S} {r : Int32} (X : tg_M tauR x cX8_lose 2 RX8 zr_X8_lose (some .int) Sf (some (.int r))) (S : tg_S) (v1 : Int32) (h : f_X8_lose  S v1 = some (Sf, r)) : tg_G tauR x S 0 [(0, .ref (tg_ad x 0)), (1, .int v1)] [] := by
  unfold f_X8_lose at h
  refine tg_iload_n X dX8_lose_0 rfl 1 rfl ?_
  obtain ⟨S1, r2, kS1, h⟩ := tg_bdE h
  refine tg_callS (As := [.int v1]) (rest := []) X (cm_X8_isSheet _ _ _ _ _ kS1) yy_X8_isSheet wt_X8_isSheet wm_X8_169 ⟨rfl, rfl, Nat.le_of_ble_eq_true rfl, Nat.le_of_ble_eq_true rfl⟩ rfl rfl (Nat.le_of_ble_eq_true rfl) dX8_lose_1 rfl ?_
  refine tg_if_ne (tgt := 10) X dX8_lose_4 (by decide) (fun c3 => ?_) (fun c3 => ?_)
  · have h := tg_ifF c3 h
    refine tg_aload_n X dX8_lose_10 rfl 0 rfl ?_
    refine tg_getr X 0 rfl cl_X8 41 (by decide) rfl wf_X8_91 dX8_lose_11 ?_
    refine tg_iload_n X dX8_lose_14 rfl 1 rfl ?_
    obtain ⟨y4, ey4, by4, h⟩ := tg_rdE h
    refine tg_zald X 28 rfl ey4 by4 dX8_lose_15 ?_
    refine tg_if_ne (tgt := 25) X dX8_lose_16 (by decide) (fun c5 => ?_) (fun c5 => ?_)
    · have h := tg_ifF c5 h
      refine tg_aload_n X dX8_lose_25 rfl 0 rfl ?_
      refine tg_getr X 0 rfl cl_X8 41 (by decide) rfl wf_X8_91 dX8_lose_26 ?_
      refine tg_iload_n X dX8_lose_29 rfl 1 rfl ?_
      refine tg_iconst X dX8_lose_30 tk_i0 ?_
      obtain ⟨S6, eS6, bS6, h⟩ := tg_wzE h
      refine tg_zast X 28 rfl bS6 dX8_lose_31 eS6 ?_
      refine tg_aload_n X dX8_lose_32 rfl 0 rfl ?_
      refine tg_getr X 0 rfl cl_X8 43 (by decide) rfl wf_X8_98 dX8_lose_33 ?_
      refine tg_iload_n X dX8_lose_36 rfl 1 rfl ?_
      obtain ⟨y7, ey7, by7, h⟩ := tg_rdE h
      refine tg_iald X 30 rfl ey7 by7 dX8_lose_37 ?_
      exact tg_iret X h rfl dX8_lose_38
    · have h := tg_ifT c5 h
      refine tg_aload_n X dX8_lose_19 rfl 0 rfl ?_
      refine tg_iconst X dX8_lose_20 tk_i1 ?_
      obtain ⟨S8, r9, kS8, h⟩ := tg_bdE h
      refine tg_callV (As := [.int 1]) (rest := []) X 0 (cm_X8_meets _ _ _ _ _ kS8) yy_X8_meets wv_X8_meets ws_X8_meets wm_X8_172 rfl cl_X8.1 ⟨rfl, rfl, Nat.le_of_ble_eq_true rfl, Nat.le_of_ble_eq_true rfl⟩ rfl rfl (Nat.le_of_ble_eq_true rfl) dX8_lose_21 rfl ?_
      exact tg_iret X h rfl dX8_lose_24
  · have h := tg_ifT c3 h
    refine tg_bipush X dX8_lose_7 tk_bm2 ?_
    exact tg_iret X h rfl dX8_lose_9
theorem cm_X8_lose (l : Launch) (D : va_G) (cy : Bool → ClassId) (ad : Nat → Nat) (tS : Nat) {S Sf : tg_S} {v1 : Int32} {r : Int32} (h : f_X8_lose  S v1 = some (Sf, r)) : tg_Met l yX8_lose cX8_lose 2 (some .int) zr_X8_lose tauR D cy ad tS S [.ref (ad 0), .int v1] Sf (some (.int r)) := tg_mk (by decide +kernel) trivial (Nat.le_of_ble_eq_true rfl) (fun p e s m args below meth c Q A X => w_X8_lose_0 X S v1 h)
-- X8_lacks
def zr_X8_lacks : Room := { frames := 1, cells := 0, slots := 0, locals := 22 }
theorem dX8_lacks_0 : decode cX8_lacks 0 = .ok (.aload_n 0, 1) := by decide +kernel
theorem dX8_lacks_1 : decode cX8_lacks 1 = .ok (.getfield 91, 3) := by decide +kernel
theorem dX8_lacks_4 : decode cX8_lacks 4 = .ok (.iload_n 1, 1) := by decide +kernel
theorem dX8_lacks_5 : decode cX8_lacks 5 = .ok (.baload, 1) := by decide +kernel
theorem dX8_lacks_6 : decode cX8_lacks 6 = .ok (.ifCond .ne 7, 3) := by decide +kernel
theorem dX8_lacks_9 : decode cX8_lacks 9 = .ok (.iconst 1, 1) := by decide +kernel
theorem dX8_lacks_10 : decode cX8_lacks 10 = .ok (.goto 38, 3) := by decide +kernel
theorem dX8_lacks_13 : decode cX8_lacks 13 = .ok (.aload_n 0, 1) := by decide +kernel
theorem dX8_lacks_14 : decode cX8_lacks 14 = .ok (.getfield 95, 3) := by decide +kernel
theorem dX8_lacks_17 : decode cX8_lacks 17 = .ok (.iload_n 1, 1) := by decide +kernel
theorem dX8_lacks_18 : decode cX8_lacks 18 = .ok (.iaload, 1) := by decide +kernel
theorem dX8_lacks_19 : decode cX8_lacks 19 = .ok (.iload_n 2, 1) := by decide +kernel
theorem dX8_lacks_20 : decode cX8_lacks 20 = .ok (.if_icmp .eq 7, 3) := by decide +kernel
theorem dX8_lacks_23 : decode cX8_lacks 23 = .ok (.iconst 3, 1) := by decide +kernel
theorem dX8_lacks_24 : decode cX8_lacks 24 = .ok (.goto 24, 3) := by decide +kernel
theorem dX8_lacks_27 : decode cX8_lacks 27 = .ok (.iload_n 3, 1) := by decide +kernel
theorem dX8_lacks_28 : decode cX8_lacks 28 = .ok (.iconst 0, 1) := by decide +kernel
theorem dX8_lacks_29 : decode cX8_lacks 29 = .ok (.aload_n 0, 1) := by decide +kernel
theorem dX8_lacks_30 : decode cX8_lacks 30 = .ok (.getfield 98, 3) := by decide +kernel
theorem dX8_lacks_33 : decode cX8_lacks 33 = .ok (.iload_n 1, 1) := by decide +kernel
theorem dX8_lacks_34 : decode cX8_lacks 34 = .ok (.iaload, 1) := by decide +kernel
theorem dX8_lacks_35 : decode cX8_lacks 35 = .ok (.iconst 1, 1) := by decide +kernel
theorem dX8_lacks_36 : decode cX8_lacks 36 = .ok (.isub, 1) := by decide +kernel
theorem dX8_lacks_37 : decode cX8_lacks 37 = .ok (.invokestatic 109, 3) := by decide +kernel
theorem dX8_lacks_40 : decode cX8_lacks 40 = .ok (.ifCond .eq 7, 3) := by decide +kernel
theorem dX8_lacks_43 : decode cX8_lacks 43 = .ok (.iconst 0, 1) := by decide +kernel
theorem dX8_lacks_44 : decode cX8_lacks 44 = .ok (.goto 4, 3) := by decide +kernel
theorem dX8_lacks_47 : decode cX8_lacks 47 = .ok (.iconst 2, 1) := by decide +kernel
theorem dX8_lacks_48 : decode cX8_lacks 48 = .ok (.ireturn, 1) := by decide +kernel
set_option maxRecDepth 20000 in
set_option maxHeartbeats 4000000 in
theorem w_X8_lacks_0 {x : tg_X} {Sf : tg_S} {r : Int32} (X : tg_M tauR x cX8_lacks 4 RX8 zr_X8_lacks (some .int) Sf (some (.int r))) (S : tg_S) (v1 : Int32) (v2 : Int32) (v3 : Int32) (h : f_X8_lacks  S v1 v2 v3 = some (Sf, r)) : tg_G tauR x S 0 [(0, .ref (tg_ad x 0)), (1, .int v1), (2, .int v2), (3, .int v3)] [] := by
  unfold f_X8_lacks at h
  refine tg_aload_n X dX8_lacks_0 rfl 0 rfl ?_
  refine tg_getr X 0 rfl cl_X8 41 (by decide) rfl wf_X8_91 dX8_lacks_1 ?_
  refine tg_iload_n X dX8_lacks_4 rfl 1 rfl ?_
  obtain ⟨y1, ey1, by1, h⟩ := tg_rdE h
  refine tg_zald X 28 rfl ey1 by1 dX8_lacks_5 ?_
  refine tg_if_ne (tgt := 13) X dX8_lacks_6 (by decide) (fun c2 => ?_) (fun c2 => ?_)
  · have h := tg_ifF c2 h
    refine tg_aload_n X dX8_lacks_13 rfl 0 rfl ?_
    refine tg_getr X 0 rfl cl_X8 42 (by decide) rfl wf_X8_95 dX8_lacks_14 ?_
    refine tg_iload_n X dX8_lacks_17 rfl 1 rfl ?_
    obtain ⟨y3, ey3, by3, h⟩ := tg_rdE h
    refine tg_iald X 29 rfl ey3 by3 dX8_lacks_18 ?_
    refine tg_iload_n X dX8_lacks_19 rfl 2 rfl ?_
    refine tg_icmp_eq (tgt := 27) X dX8_lacks_20 (by decide) (fun c4 => ?_) (fun c4 => ?_)
    · have h := tg_ifT c4 h
      refine tg_iload_n X dX8_lacks_27 rfl 3 rfl ?_
      refine tg_iconst X dX8_lacks_28 tk_i0 ?_
      refine tg_aload_n X dX8_lacks_29 rfl 0 rfl ?_
      refine tg_getr X 0 rfl cl_X8 43 (by decide) rfl wf_X8_98 dX8_lacks_30 ?_
      refine tg_iload_n X dX8_lacks_33 rfl 1 rfl ?_
      obtain ⟨y5, ey5, by5, h⟩ := tg_rdE h
      refine tg_iald X 30 rfl ey5 by5 dX8_lacks_34 ?_
      refine tg_iconst X dX8_lacks_35 tk_i1 ?_
      refine tg_isub X dX8_lacks_36 ?_
      obtain ⟨S6, r7, kS6, h⟩ := tg_bdE h
      refine tg_callS (As := [.int v3, .int 0, .int (y5 - 1)]) (rest := []) X (cm_X8_in _ _ _ _ _ kS6) yy_X8_in wt_X8_in wm_X8_109 ⟨rfl, rfl, Nat.le_of_ble_eq_true rfl, Nat.le_of_ble_eq_true rfl⟩ rfl rfl (Nat.le_of_ble_eq_true rfl) dX8_lacks_37 rfl ?_
      refine tg_if_eq (tgt := 47) X dX8_lacks_40 (by decide) (fun c8 => ?_) (fun c8 => ?_)
      · have h := tg_ifT c8 h
        refine tg_iconst X dX8_lacks_47 tk_i2 ?_
        exact tg_iret X h rfl dX8_lacks_48
      · have h := tg_ifF c8 h
        refine tg_iconst X dX8_lacks_43 tk_i0 ?_
        refine tg_goto (tgt := 48) X dX8_lacks_44 (by decide) ?_
        exact tg_iret X h rfl dX8_lacks_48
    · have h := tg_ifF c4 h
      refine tg_iconst X dX8_lacks_23 tk_i3 ?_
      refine tg_goto (tgt := 48) X dX8_lacks_24 (by decide) ?_
      exact tg_iret X h rfl dX8_lacks_48
  · have h := tg_ifT c2 h
    refine tg_iconst X dX8_lacks_9 tk_i1 ?_
    refine tg_goto (tgt := 48) X dX8_lacks_10 (by decide) ?_
    exact tg_iret X h rfl dX8_lacks_48
theorem cm_X8_lacks (l : Launch) (D : va_G) (cy : Bool → ClassId) (ad : Nat → Nat) (tS : Nat) {S Sf : tg_S} {v1 : Int32} {v2 : Int32} {v3 : Int32} {r : Int32} (h : f_X8_lacks  S v1 v2 v3 = some (Sf, r)) : tg_Met l yX8_lacks cX8_lacks 4 (some .int) zr_X8_lacks tauR D cy ad tS S [.ref (ad 0), .int v1, .int v2, .int v3] Sf (some (.int r)) := tg_mk (by decide +kernel) trivial (Nat.le_of_ble_eq_true rfl) (fun p e s m args below meth c Q A X => w_X8_lacks_0 X S v1 v2 v3 h)
-- X8_keep
def zr_X8_keep : Room := { frames := 0, cells := 0, slots := 0, locals := 0 }
theorem dX8_keep_0 : decode cX8_keep 0 = .ok (.aload_n 0, 1) := by decide +kernel
theorem dX8_keep_1 : decode cX8_keep 1 = .ok (.getfield 101, 3) := by decide +kernel
theorem dX8_keep_4 : decode cX8_keep 4 = .ok (.bipush 60, 2) := by decide +kernel
theorem dX8_keep_6 : decode cX8_keep 6 = .ok (.iload_n 1, 1) := by decide +kernel
theorem dX8_keep_7 : decode cX8_keep 7 = .ok (.imul, 1) := by decide +kernel
theorem dX8_keep_8 : decode cX8_keep 8 = .ok (.iload_n 2, 1) := by decide +kernel
theorem dX8_keep_9 : decode cX8_keep 9 = .ok (.iadd, 1) := by decide +kernel
theorem dX8_keep_10 : decode cX8_keep 10 = .ok (.aload_n 0, 1) := by decide +kernel
theorem dX8_keep_11 : decode cX8_keep 11 = .ok (.getfield 95, 3) := by decide +kernel
theorem dX8_keep_14 : decode cX8_keep 14 = .ok (.iload_n 1, 1) := by decide +kernel
theorem dX8_keep_15 : decode cX8_keep 15 = .ok (.iaload, 1) := by decide +kernel
theorem dX8_keep_16 : decode cX8_keep 16 = .ok (.ifCond .ne 8, 3) := by decide +kernel
theorem dX8_keep_19 : decode cX8_keep 19 = .ok (.iload_n 3, 1) := by decide +kernel
theorem dX8_keep_20 : decode cX8_keep 20 = .ok (.i2b, 1) := by decide +kernel
theorem dX8_keep_21 : decode cX8_keep 21 = .ok (.goto 19, 3) := by decide +kernel
theorem dX8_keep_24 : decode cX8_keep 24 = .ok (.aload_n 0, 1) := by decide +kernel
theorem dX8_keep_25 : decode cX8_keep 25 = .ok (.getfield 95, 3) := by decide +kernel
theorem dX8_keep_28 : decode cX8_keep 28 = .ok (.iload_n 1, 1) := by decide +kernel
theorem dX8_keep_29 : decode cX8_keep 29 = .ok (.iaload, 1) := by decide +kernel
theorem dX8_keep_30 : decode cX8_keep 30 = .ok (.iconst 1, 1) := by decide +kernel
theorem dX8_keep_31 : decode cX8_keep 31 = .ok (.if_icmp .ne 8, 3) := by decide +kernel
theorem dX8_keep_34 : decode cX8_keep 34 = .ok (.iload_n 3, 1) := by decide +kernel
theorem dX8_keep_35 : decode cX8_keep 35 = .ok (.i2s, 1) := by decide +kernel
theorem dX8_keep_36 : decode cX8_keep 36 = .ok (.goto 4, 3) := by decide +kernel
theorem dX8_keep_39 : decode cX8_keep 39 = .ok (.iload_n 3, 1) := by decide +kernel
theorem dX8_keep_40 : decode cX8_keep 40 = .ok (.iastore, 1) := by decide +kernel
theorem dX8_keep_41 : decode cX8_keep 41 = .ok (.return_, 1) := by decide +kernel
set_option maxRecDepth 20000 in
set_option maxHeartbeats 4000000 in
theorem w_X8_keep_0 {x : tg_X} {Sf : tg_S} (X : tg_M tauR x cX8_keep 4 RX8 zr_X8_keep none Sf none) (S : tg_S) (v1 : Int32) (v2 : Int32) (v3 : Int32) (h : f_X8_keep  S v1 v2 v3 = some Sf) : tg_G tauR x S 0 [(0, .ref (tg_ad x 0)), (1, .int v1), (2, .int v2), (3, .int v3)] [] := by
  unfold f_X8_keep at h
  refine tg_aload_n X dX8_keep_0 rfl 0 rfl ?_
  refine tg_getr X 0 rfl cl_X8 44 (by decide) rfl wf_X8_101 dX8_keep_1 ?_
  refine tg_bipush X dX8_keep_4 tk_b60 ?_
  refine tg_iload_n X dX8_keep_6 rfl 1 rfl ?_
  refine tg_imul X dX8_keep_7 ?_
  refine tg_iload_n X dX8_keep_8 rfl 2 rfl ?_
  refine tg_iadd X dX8_keep_9 ?_
  refine tg_aload_n X dX8_keep_10 rfl 0 rfl ?_
  refine tg_getr X 0 rfl cl_X8 42 (by decide) rfl wf_X8_95 dX8_keep_11 ?_
  refine tg_iload_n X dX8_keep_14 rfl 1 rfl ?_
  obtain ⟨y1, ey1, by1, h⟩ := tg_rdE h
  refine tg_iald X 29 rfl ey1 by1 dX8_keep_15 ?_
  refine tg_if_ne (tgt := 24) X dX8_keep_16 (by decide) (fun c2 => ?_) (fun c2 => ?_)
  · have h := tg_ifF c2 h
    refine tg_aload_n X dX8_keep_24 rfl 0 rfl ?_
    refine tg_getr X 0 rfl cl_X8 42 (by decide) rfl wf_X8_95 dX8_keep_25 ?_
    refine tg_iload_n X dX8_keep_28 rfl 1 rfl ?_
    obtain ⟨y3, ey3, by3, h⟩ := tg_rdE h
    refine tg_iald X 29 rfl ey3 by3 dX8_keep_29 ?_
    refine tg_iconst X dX8_keep_30 tk_i1 ?_
    refine tg_icmp_ne (tgt := 39) X dX8_keep_31 (by decide) (fun c4 => ?_) (fun c4 => ?_)
    · have h := tg_ifF c4 h
      refine tg_iload_n X dX8_keep_39 rfl 3 rfl ?_
      obtain ⟨S5, eS5, bS5, h⟩ := tg_wrE h
      refine tg_iast X 31 rfl bS5 dX8_keep_40 eS5 ?_
      exact tg_vret X h dX8_keep_41
    · have h := tg_ifT c4 h
      refine tg_iload_n X dX8_keep_34 rfl 3 rfl ?_
      refine tg_i2s X dX8_keep_35 ?_
      refine tg_goto (tgt := 40) X dX8_keep_36 (by decide) ?_
      obtain ⟨S6, eS6, bS6, h⟩ := tg_wrE h
      refine tg_iast X 31 rfl bS6 dX8_keep_40 eS6 ?_
      exact tg_vret X h dX8_keep_41
  · have h := tg_ifT c2 h
    refine tg_iload_n X dX8_keep_19 rfl 3 rfl ?_
    refine tg_i2b X dX8_keep_20 ?_
    refine tg_goto (tgt := 40) X dX8_keep_21 (by decide) ?_
    obtain ⟨S7, eS7, bS7, h⟩ := tg_wrE h
    refine tg_iast X 31 rfl bS7 dX8_keep_40 eS7 ?_
    exact tg_vret X h dX8_keep_41
theorem cm_X8_keep (l : Launch) (D : va_G) (cy : Bool → ClassId) (ad : Nat → Nat) (tS : Nat) {S Sf : tg_S} {v1 : Int32} {v2 : Int32} {v3 : Int32} (h : f_X8_keep  S v1 v2 v3 = some Sf) : tg_Met l yX8_keep cX8_keep 4 none zr_X8_keep tauR D cy ad tS S [.ref (ad 0), .int v1, .int v2, .int v3] Sf none := tg_mk (by decide +kernel) trivial (Nat.le_of_ble_eq_true rfl) (fun p e s m args below meth c Q A X => w_X8_keep_0 X S v1 v2 v3 h)
-- X8_put
def zr_X8_put : Room := { frames := 2, cells := 0, slots := 0, locals := 45 }
theorem dX8_put_0 : decode cX8_put 0 = .ok (.iload_n 1, 1) := by decide +kernel
theorem dX8_put_1 : decode cX8_put 1 = .ok (.invokestatic 169, 3) := by decide +kernel
theorem dX8_put_4 : decode cX8_put 4 = .ok (.ifCond .eq 12, 3) := by decide +kernel
theorem dX8_put_7 : decode cX8_put 7 = .ok (.iload_n 2, 1) := by decide +kernel
theorem dX8_put_8 : decode cX8_put 8 = .ok (.iconst 0, 1) := by decide +kernel
theorem dX8_put_9 : decode cX8_put 9 = .ok (.iconst 2, 1) := by decide +kernel
theorem dX8_put_10 : decode cX8_put 10 = .ok (.invokestatic 109, 3) := by decide +kernel
theorem dX8_put_13 : decode cX8_put 13 = .ok (.ifCond .ne 6, 3) := by decide +kernel
theorem dX8_put_16 : decode cX8_put 16 = .ok (.bipush (-2), 2) := by decide +kernel
theorem dX8_put_18 : decode cX8_put 18 = .ok (.ireturn, 1) := by decide +kernel
theorem dX8_put_19 : decode cX8_put 19 = .ok (.aload_n 0, 1) := by decide +kernel
theorem dX8_put_20 : decode cX8_put 20 = .ok (.iload_n 1, 1) := by decide +kernel
theorem dX8_put_21 : decode cX8_put 21 = .ok (.iload_n 2, 1) := by decide +kernel
theorem dX8_put_22 : decode cX8_put 22 = .ok (.iload_n 3, 1) := by decide +kernel
theorem dX8_put_23 : decode cX8_put 23 = .ok (.invokevirtual 331, 3) := by decide +kernel
theorem dX8_put_26 : decode cX8_put 26 = .ok (.istore 5, 2) := by decide +kernel
theorem dX8_put_28 : decode cX8_put 28 = .ok (.iload 5, 2) := by decide +kernel
theorem dX8_put_30 : decode cX8_put 30 = .ok (.ifCond .le 10, 3) := by decide +kernel
theorem dX8_put_33 : decode cX8_put 33 = .ok (.aload_n 0, 1) := by decide +kernel
theorem dX8_put_34 : decode cX8_put 34 = .ok (.iload 5, 2) := by decide +kernel
theorem dX8_put_36 : decode cX8_put 36 = .ok (.invokevirtual 172, 3) := by decide +kernel
theorem dX8_put_39 : decode cX8_put 39 = .ok (.ireturn, 1) := by decide +kernel
theorem dX8_put_40 : decode cX8_put 40 = .ok (.aload_n 0, 1) := by decide +kernel
theorem dX8_put_41 : decode cX8_put 41 = .ok (.iload_n 1, 1) := by decide +kernel
theorem dX8_put_42 : decode cX8_put 42 = .ok (.iload_n 3, 1) := by decide +kernel
theorem dX8_put_43 : decode cX8_put 43 = .ok (.iload 4, 2) := by decide +kernel
theorem dX8_put_45 : decode cX8_put 45 = .ok (.invokevirtual 334, 3) := by decide +kernel
theorem dX8_put_48 : decode cX8_put 48 = .ok (.iconst 1, 1) := by decide +kernel
theorem dX8_put_49 : decode cX8_put 49 = .ok (.ireturn, 1) := by decide +kernel
set_option maxRecDepth 20000 in
set_option maxHeartbeats 4000000 in
theorem w_X8_put_0 {x : tg_X} {Sf : tg_S} {r : Int32} (X : tg_M tauR x cX8_put 6 RX8 zr_X8_put (some .int) Sf (some (.int r))) (S : tg_S) (v1 : Int32) (v2 : Int32) (v3 : Int32) (v4 : Int32) (h : f_X8_put  S v1 v2 v3 v4 = some (Sf, r)) : tg_G tauR x S 0 [(0, .ref (tg_ad x 0)), (1, .int v1), (2, .int v2), (3, .int v3), (4, .int v4)] [] := by
  unfold f_X8_put at h
  refine tg_iload_n X dX8_put_0 rfl 1 rfl ?_
  obtain ⟨S1, r2, kS1, h⟩ := tg_bdE h
  refine tg_callS (As := [.int v1]) (rest := []) X (cm_X8_isSheet _ _ _ _ _ kS1) yy_X8_isSheet wt_X8_isSheet wm_X8_169 ⟨rfl, rfl, Nat.le_of_ble_eq_true rfl, Nat.le_of_ble_eq_true rfl⟩ rfl rfl (Nat.le_of_ble_eq_true rfl) dX8_put_1 rfl ?_
  refine tg_if_eq (tgt := 16) X dX8_put_4 (by decide) (fun c3 => ?_) (fun c3 => ?_)
  · have h := tg_ifT c3 h
    refine tg_bipush X dX8_put_16 tk_bm2 ?_
    exact tg_iret X h rfl dX8_put_18
  · have h := tg_ifF c3 h
    refine tg_iload_n X dX8_put_7 rfl 2 rfl ?_
    refine tg_iconst X dX8_put_8 tk_i0 ?_
    refine tg_iconst X dX8_put_9 tk_i2 ?_
    obtain ⟨S4, r5, kS4, h⟩ := tg_bdE h
    refine tg_callS (As := [.int v2, .int 0, .int 2]) (rest := []) X (cm_X8_in _ _ _ _ _ kS4) yy_X8_in wt_X8_in wm_X8_109 ⟨rfl, rfl, Nat.le_of_ble_eq_true rfl, Nat.le_of_ble_eq_true rfl⟩ rfl rfl (Nat.le_of_ble_eq_true rfl) dX8_put_10 rfl ?_
    refine tg_if_ne (tgt := 19) X dX8_put_13 (by decide) (fun c6 => ?_) (fun c6 => ?_)
    · have h := tg_ifF c6 h
      refine tg_aload_n X dX8_put_19 rfl 0 rfl ?_
      refine tg_iload_n X dX8_put_20 rfl 1 rfl ?_
      refine tg_iload_n X dX8_put_21 rfl 2 rfl ?_
      refine tg_iload_n X dX8_put_22 rfl 3 rfl ?_
      obtain ⟨S7, r8, kS7, h⟩ := tg_bdE h
      refine tg_callV (As := [.int v1, .int v2, .int v3]) (rest := []) X 0 (cm_X8_lacks _ _ _ _ _ kS7) yy_X8_lacks wv_X8_lacks ws_X8_lacks wm_X8_331 rfl cl_X8.1 ⟨rfl, rfl, Nat.le_of_ble_eq_true rfl, Nat.le_of_ble_eq_true rfl⟩ rfl rfl (Nat.le_of_ble_eq_true rfl) dX8_put_23 rfl ?_
      refine tg_istore (lv2 := [(5, .int r8), (0, .ref (tg_ad x 0)), (1, .int v1), (2, .int v2), (3, .int v3), (4, .int v4)]) X dX8_put_26 (by decide) rfl ?_
      refine tg_iload X dX8_put_28 0 rfl ?_
      refine tg_if_le (tgt := 40) X dX8_put_30 (by decide) (fun c9 => ?_) (fun c9 => ?_)
      · have h := tg_ifT c9 h
        refine tg_aload_n X dX8_put_40 rfl 1 rfl ?_
        refine tg_iload_n X dX8_put_41 rfl 2 rfl ?_
        refine tg_iload_n X dX8_put_42 rfl 4 rfl ?_
        refine tg_iload X dX8_put_43 5 rfl ?_
        obtain ⟨S10, kS10, h⟩ := tg_bvE h
        refine tg_callV (As := [.int v1, .int v3, .int v4]) (rest := []) X 0 (cm_X8_keep _ _ _ _ _ kS10) yy_X8_keep wv_X8_keep ws_X8_keep wm_X8_334 rfl cl_X8.1 ⟨rfl, rfl, Nat.le_of_ble_eq_true rfl, Nat.le_of_ble_eq_true rfl⟩ rfl rfl (Nat.le_of_ble_eq_true rfl) dX8_put_45 rfl ?_
        refine tg_iconst X dX8_put_48 tk_i1 ?_
        exact tg_iret X h rfl dX8_put_49
      · have h := tg_ifF c9 h
        refine tg_aload_n X dX8_put_33 rfl 1 rfl ?_
        refine tg_iload X dX8_put_34 0 rfl ?_
        obtain ⟨S11, r12, kS11, h⟩ := tg_bdE h
        refine tg_callV (As := [.int r8]) (rest := []) X 0 (cm_X8_meets _ _ _ _ _ kS11) yy_X8_meets wv_X8_meets ws_X8_meets wm_X8_172 rfl cl_X8.1 ⟨rfl, rfl, Nat.le_of_ble_eq_true rfl, Nat.le_of_ble_eq_true rfl⟩ rfl rfl (Nat.le_of_ble_eq_true rfl) dX8_put_36 rfl ?_
        exact tg_iret X h rfl dX8_put_39
    · have h := tg_ifT c6 h
      refine tg_bipush X dX8_put_16 tk_bm2 ?_
      exact tg_iret X h rfl dX8_put_18
theorem cm_X8_put (l : Launch) (D : va_G) (cy : Bool → ClassId) (ad : Nat → Nat) (tS : Nat) {S Sf : tg_S} {v1 : Int32} {v2 : Int32} {v3 : Int32} {v4 : Int32} {r : Int32} (h : f_X8_put  S v1 v2 v3 v4 = some (Sf, r)) : tg_Met l yX8_put cX8_put 6 (some .int) zr_X8_put tauR D cy ad tS S [.ref (ad 0), .int v1, .int v2, .int v3, .int v4] Sf (some (.int r)) := tg_mk (by decide +kernel) trivial (Nat.le_of_ble_eq_true rfl) (fun p e s m args below meth c Q A X => w_X8_put_0 X S v1 v2 v3 v4 h)
-- X8_get
def zr_X8_get : Room := { frames := 2, cells := 0, slots := 0, locals := 45 }
theorem dX8_get_0 : decode cX8_get 0 = .ok (.iload_n 1, 1) := by decide +kernel
theorem dX8_get_1 : decode cX8_get 1 = .ok (.invokestatic 169, 3) := by decide +kernel
theorem dX8_get_4 : decode cX8_get 4 = .ok (.ifCond .eq 12, 3) := by decide +kernel
theorem dX8_get_7 : decode cX8_get 7 = .ok (.iload_n 2, 1) := by decide +kernel
theorem dX8_get_8 : decode cX8_get 8 = .ok (.iconst 0, 1) := by decide +kernel
theorem dX8_get_9 : decode cX8_get 9 = .ok (.iconst 2, 1) := by decide +kernel
theorem dX8_get_10 : decode cX8_get 10 = .ok (.invokestatic 109, 3) := by decide +kernel
theorem dX8_get_13 : decode cX8_get 13 = .ok (.ifCond .ne 7, 3) := by decide +kernel
theorem dX8_get_16 : decode cX8_get 16 = .ok (.ldc_w 338, 3) := by decide +kernel
theorem dX8_get_19 : decode cX8_get 19 = .ok (.ireturn, 1) := by decide +kernel
theorem dX8_get_20 : decode cX8_get 20 = .ok (.aload_n 0, 1) := by decide +kernel
theorem dX8_get_21 : decode cX8_get 21 = .ok (.iload_n 1, 1) := by decide +kernel
theorem dX8_get_22 : decode cX8_get 22 = .ok (.iload_n 2, 1) := by decide +kernel
theorem dX8_get_23 : decode cX8_get 23 = .ok (.iload_n 3, 1) := by decide +kernel
theorem dX8_get_24 : decode cX8_get 24 = .ok (.invokevirtual 331, 3) := by decide +kernel
theorem dX8_get_27 : decode cX8_get 27 = .ok (.istore 4, 2) := by decide +kernel
theorem dX8_get_29 : decode cX8_get 29 = .ok (.iload 4, 2) := by decide +kernel
theorem dX8_get_31 : decode cX8_get 31 = .ok (.ifCond .le 13, 3) := by decide +kernel
theorem dX8_get_34 : decode cX8_get 34 = .ok (.aload_n 0, 1) := by decide +kernel
theorem dX8_get_35 : decode cX8_get 35 = .ok (.iload 4, 2) := by decide +kernel
theorem dX8_get_37 : decode cX8_get 37 = .ok (.putfield 328, 3) := by decide +kernel
theorem dX8_get_40 : decode cX8_get 40 = .ok (.ldc_w 338, 3) := by decide +kernel
theorem dX8_get_43 : decode cX8_get 43 = .ok (.ireturn, 1) := by decide +kernel
theorem dX8_get_44 : decode cX8_get 44 = .ok (.aload_n 0, 1) := by decide +kernel
theorem dX8_get_45 : decode cX8_get 45 = .ok (.getfield 101, 3) := by decide +kernel
theorem dX8_get_48 : decode cX8_get 48 = .ok (.bipush 60, 2) := by decide +kernel
theorem dX8_get_50 : decode cX8_get 50 = .ok (.iload_n 1, 1) := by decide +kernel
theorem dX8_get_51 : decode cX8_get 51 = .ok (.imul, 1) := by decide +kernel
theorem dX8_get_52 : decode cX8_get 52 = .ok (.iload_n 3, 1) := by decide +kernel
theorem dX8_get_53 : decode cX8_get 53 = .ok (.iadd, 1) := by decide +kernel
theorem dX8_get_54 : decode cX8_get 54 = .ok (.iaload, 1) := by decide +kernel
theorem dX8_get_55 : decode cX8_get 55 = .ok (.ireturn, 1) := by decide +kernel
set_option maxRecDepth 20000 in
set_option maxHeartbeats 4000000 in
theorem w_X8_get_0 {x : tg_X} {Sf : tg_S} {r : Int32} (X : tg_M tauR x cX8_get 5 RX8 zr_X8_get (some .int) Sf (some (.int r))) (S : tg_S) (v1 : Int32) (v2 : Int32) (v3 : Int32) (h : f_X8_get  S v1 v2 v3 = some (Sf, r)) : tg_G tauR x S 0 [(0, .ref (tg_ad x 0)), (1, .int v1), (2, .int v2), (3, .int v3)] [] := by
  unfold f_X8_get at h
  refine tg_iload_n X dX8_get_0 rfl 1 rfl ?_
  obtain ⟨S1, r2, kS1, h⟩ := tg_bdE h
  refine tg_callS (As := [.int v1]) (rest := []) X (cm_X8_isSheet _ _ _ _ _ kS1) yy_X8_isSheet wt_X8_isSheet wm_X8_169 ⟨rfl, rfl, Nat.le_of_ble_eq_true rfl, Nat.le_of_ble_eq_true rfl⟩ rfl rfl (Nat.le_of_ble_eq_true rfl) dX8_get_1 rfl ?_
  refine tg_if_eq (tgt := 16) X dX8_get_4 (by decide) (fun c3 => ?_) (fun c3 => ?_)
  · have h := tg_ifT c3 h
    refine tg_ldcw X wk_X8_338 dX8_get_16 ?_
    exact tg_iret X h rfl dX8_get_19
  · have h := tg_ifF c3 h
    refine tg_iload_n X dX8_get_7 rfl 2 rfl ?_
    refine tg_iconst X dX8_get_8 tk_i0 ?_
    refine tg_iconst X dX8_get_9 tk_i2 ?_
    obtain ⟨S4, r5, kS4, h⟩ := tg_bdE h
    refine tg_callS (As := [.int v2, .int 0, .int 2]) (rest := []) X (cm_X8_in _ _ _ _ _ kS4) yy_X8_in wt_X8_in wm_X8_109 ⟨rfl, rfl, Nat.le_of_ble_eq_true rfl, Nat.le_of_ble_eq_true rfl⟩ rfl rfl (Nat.le_of_ble_eq_true rfl) dX8_get_10 rfl ?_
    refine tg_if_ne (tgt := 20) X dX8_get_13 (by decide) (fun c6 => ?_) (fun c6 => ?_)
    · have h := tg_ifF c6 h
      refine tg_aload_n X dX8_get_20 rfl 0 rfl ?_
      refine tg_iload_n X dX8_get_21 rfl 1 rfl ?_
      refine tg_iload_n X dX8_get_22 rfl 2 rfl ?_
      refine tg_iload_n X dX8_get_23 rfl 3 rfl ?_
      obtain ⟨S7, r8, kS7, h⟩ := tg_bdE h
      refine tg_callV (As := [.int v1, .int v2, .int v3]) (rest := []) X 0 (cm_X8_lacks _ _ _ _ _ kS7) yy_X8_lacks wv_X8_lacks ws_X8_lacks wm_X8_331 rfl cl_X8.1 ⟨rfl, rfl, Nat.le_of_ble_eq_true rfl, Nat.le_of_ble_eq_true rfl⟩ rfl rfl (Nat.le_of_ble_eq_true rfl) dX8_get_24 rfl ?_
      refine tg_istore (lv2 := [(4, .int r8), (0, .ref (tg_ad x 0)), (1, .int v1), (2, .int v2), (3, .int v3)]) X dX8_get_27 (by decide) rfl ?_
      refine tg_iload X dX8_get_29 0 rfl ?_
      refine tg_if_le (tgt := 44) X dX8_get_31 (by decide) (fun c9 => ?_) (fun c9 => ?_)
      · have h := tg_ifT c9 h
        refine tg_aload_n X dX8_get_44 rfl 1 rfl ?_
        refine tg_getr X 0 rfl cl_X8 44 (by decide) rfl wf_X8_101 dX8_get_45 ?_
        refine tg_bipush X dX8_get_48 tk_b60 ?_
        refine tg_iload_n X dX8_get_50 rfl 2 rfl ?_
        refine tg_imul X dX8_get_51 ?_
        refine tg_iload_n X dX8_get_52 rfl 4 rfl ?_
        refine tg_iadd X dX8_get_53 ?_
        obtain ⟨y10, ey10, by10, h⟩ := tg_rdE h
        refine tg_iald X 31 rfl ey10 by10 dX8_get_54 ?_
        exact tg_iret X h rfl dX8_get_55
      · have h := tg_ifF c9 h
        refine tg_aload_n X dX8_get_34 rfl 1 rfl ?_
        refine tg_iload X dX8_get_35 0 rfl ?_
        obtain ⟨S11, eS11, h⟩ := tg_pfE h
        refine tg_puti X 0 rfl cl_X8 46 (by decide) rfl wf_X8_328 rfl rfl rfl dX8_get_37 eS11 ?_
        refine tg_ldcw X wk_X8_338 dX8_get_40 ?_
        exact tg_iret X h rfl dX8_get_43
    · have h := tg_ifT c6 h
      refine tg_ldcw X wk_X8_338 dX8_get_16 ?_
      exact tg_iret X h rfl dX8_get_19
theorem cm_X8_get (l : Launch) (D : va_G) (cy : Bool → ClassId) (ad : Nat → Nat) (tS : Nat) {S Sf : tg_S} {v1 : Int32} {v2 : Int32} {v3 : Int32} {r : Int32} (h : f_X8_get  S v1 v2 v3 = some (Sf, r)) : tg_Met l yX8_get cX8_get 5 (some .int) zr_X8_get tauR D cy ad tS S [.ref (ad 0), .int v1, .int v2, .int v3] Sf (some (.int r)) := tg_mk (by decide +kernel) trivial (Nat.le_of_ble_eq_true rfl) (fun p e s m args below meth c Q A X => w_X8_get_0 X S v1 v2 v3 h)
-- X8_copy
def zr_X8_copy : Room := { frames := 2, cells := 0, slots := 0, locals := 42 }
theorem dX8_copy_0 : decode cX8_copy 0 = .ok (.iload_n 1, 1) := by decide +kernel
theorem dX8_copy_1 : decode cX8_copy 1 = .ok (.invokestatic 169, 3) := by decide +kernel
theorem dX8_copy_4 : decode cX8_copy 4 = .ok (.ifCond .eq 10, 3) := by decide +kernel
theorem dX8_copy_7 : decode cX8_copy 7 = .ok (.iload_n 3, 1) := by decide +kernel
theorem dX8_copy_8 : decode cX8_copy 8 = .ok (.invokestatic 169, 3) := by decide +kernel
theorem dX8_copy_11 : decode cX8_copy 11 = .ok (.ifCond .ne 6, 3) := by decide +kernel
theorem dX8_copy_14 : decode cX8_copy 14 = .ok (.bipush (-2), 2) := by decide +kernel
theorem dX8_copy_16 : decode cX8_copy 16 = .ok (.ireturn, 1) := by decide +kernel
theorem dX8_copy_17 : decode cX8_copy 17 = .ok (.aload_n 0, 1) := by decide +kernel
theorem dX8_copy_18 : decode cX8_copy 18 = .ok (.getfield 91, 3) := by decide +kernel
theorem dX8_copy_21 : decode cX8_copy 21 = .ok (.iload_n 1, 1) := by decide +kernel
theorem dX8_copy_22 : decode cX8_copy 22 = .ok (.baload, 1) := by decide +kernel
theorem dX8_copy_23 : decode cX8_copy 23 = .ok (.ifCond .eq 12, 3) := by decide +kernel
theorem dX8_copy_26 : decode cX8_copy 26 = .ok (.aload_n 0, 1) := by decide +kernel
theorem dX8_copy_27 : decode cX8_copy 27 = .ok (.getfield 91, 3) := by decide +kernel
theorem dX8_copy_30 : decode cX8_copy 30 = .ok (.iload_n 3, 1) := by decide +kernel
theorem dX8_copy_31 : decode cX8_copy 31 = .ok (.baload, 1) := by decide +kernel
theorem dX8_copy_32 : decode cX8_copy 32 = .ok (.ifCond .ne 9, 3) := by decide +kernel
theorem dX8_copy_35 : decode cX8_copy 35 = .ok (.aload_n 0, 1) := by decide +kernel
theorem dX8_copy_36 : decode cX8_copy 36 = .ok (.iconst 1, 1) := by decide +kernel
theorem dX8_copy_37 : decode cX8_copy 37 = .ok (.invokevirtual 172, 3) := by decide +kernel
theorem dX8_copy_40 : decode cX8_copy 40 = .ok (.ireturn, 1) := by decide +kernel
theorem dX8_copy_41 : decode cX8_copy 41 = .ok (.aload_n 0, 1) := by decide +kernel
theorem dX8_copy_42 : decode cX8_copy 42 = .ok (.getfield 95, 3) := by decide +kernel
theorem dX8_copy_45 : decode cX8_copy 45 = .ok (.iload_n 1, 1) := by decide +kernel
theorem dX8_copy_46 : decode cX8_copy 46 = .ok (.iaload, 1) := by decide +kernel
theorem dX8_copy_47 : decode cX8_copy 47 = .ok (.aload_n 0, 1) := by decide +kernel
theorem dX8_copy_48 : decode cX8_copy 48 = .ok (.getfield 95, 3) := by decide +kernel
theorem dX8_copy_51 : decode cX8_copy 51 = .ok (.iload_n 3, 1) := by decide +kernel
theorem dX8_copy_52 : decode cX8_copy 52 = .ok (.iaload, 1) := by decide +kernel
theorem dX8_copy_53 : decode cX8_copy 53 = .ok (.if_icmp .eq 9, 3) := by decide +kernel
theorem dX8_copy_56 : decode cX8_copy 56 = .ok (.aload_n 0, 1) := by decide +kernel
theorem dX8_copy_57 : decode cX8_copy 57 = .ok (.iconst 4, 1) := by decide +kernel
theorem dX8_copy_58 : decode cX8_copy 58 = .ok (.invokevirtual 172, 3) := by decide +kernel
theorem dX8_copy_61 : decode cX8_copy 61 = .ok (.ireturn, 1) := by decide +kernel
theorem dX8_copy_62 : decode cX8_copy 62 = .ok (.iload_n 2, 1) := by decide +kernel
theorem dX8_copy_63 : decode cX8_copy 63 = .ok (.ifCond .lt 48, 3) := by decide +kernel
theorem dX8_copy_66 : decode cX8_copy 66 = .ok (.iload 4, 2) := by decide +kernel
theorem dX8_copy_68 : decode cX8_copy 68 = .ok (.ifCond .lt 43, 3) := by decide +kernel
theorem dX8_copy_71 : decode cX8_copy 71 = .ok (.iload 5, 2) := by decide +kernel
theorem dX8_copy_73 : decode cX8_copy 73 = .ok (.ifCond .lt 38, 3) := by decide +kernel
theorem dX8_copy_76 : decode cX8_copy 76 = .ok (.iload_n 2, 1) := by decide +kernel
theorem dX8_copy_77 : decode cX8_copy 77 = .ok (.i2l, 1) := by decide +kernel
theorem dX8_copy_78 : decode cX8_copy 78 = .ok (.iload 5, 2) := by decide +kernel
theorem dX8_copy_80 : decode cX8_copy 80 = .ok (.i2l, 1) := by decide +kernel
theorem dX8_copy_81 : decode cX8_copy 81 = .ok (.ladd, 1) := by decide +kernel
theorem dX8_copy_82 : decode cX8_copy 82 = .ok (.aload_n 0, 1) := by decide +kernel
theorem dX8_copy_83 : decode cX8_copy 83 = .ok (.getfield 98, 3) := by decide +kernel
theorem dX8_copy_86 : decode cX8_copy 86 = .ok (.iload_n 1, 1) := by decide +kernel
theorem dX8_copy_87 : decode cX8_copy 87 = .ok (.iaload, 1) := by decide +kernel
theorem dX8_copy_88 : decode cX8_copy 88 = .ok (.i2l, 1) := by decide +kernel
theorem dX8_copy_89 : decode cX8_copy 89 = .ok (.lcmp, 1) := by decide +kernel
theorem dX8_copy_90 : decode cX8_copy 90 = .ok (.ifCond .gt 21, 3) := by decide +kernel
theorem dX8_copy_93 : decode cX8_copy 93 = .ok (.iload 4, 2) := by decide +kernel
theorem dX8_copy_95 : decode cX8_copy 95 = .ok (.i2l, 1) := by decide +kernel
theorem dX8_copy_96 : decode cX8_copy 96 = .ok (.iload 5, 2) := by decide +kernel
theorem dX8_copy_98 : decode cX8_copy 98 = .ok (.i2l, 1) := by decide +kernel
theorem dX8_copy_99 : decode cX8_copy 99 = .ok (.ladd, 1) := by decide +kernel
theorem dX8_copy_100 : decode cX8_copy 100 = .ok (.aload_n 0, 1) := by decide +kernel
theorem dX8_copy_101 : decode cX8_copy 101 = .ok (.getfield 98, 3) := by decide +kernel
theorem dX8_copy_104 : decode cX8_copy 104 = .ok (.iload_n 3, 1) := by decide +kernel
theorem dX8_copy_105 : decode cX8_copy 105 = .ok (.iaload, 1) := by decide +kernel
theorem dX8_copy_106 : decode cX8_copy 106 = .ok (.i2l, 1) := by decide +kernel
theorem dX8_copy_107 : decode cX8_copy 107 = .ok (.lcmp, 1) := by decide +kernel
theorem dX8_copy_108 : decode cX8_copy 108 = .ok (.ifCond .le 9, 3) := by decide +kernel
theorem dX8_copy_111 : decode cX8_copy 111 = .ok (.aload_n 0, 1) := by decide +kernel
theorem dX8_copy_112 : decode cX8_copy 112 = .ok (.iconst 2, 1) := by decide +kernel
theorem dX8_copy_113 : decode cX8_copy 113 = .ok (.invokevirtual 172, 3) := by decide +kernel
theorem dX8_copy_116 : decode cX8_copy 116 = .ok (.ireturn, 1) := by decide +kernel
theorem dX8_copy_117 : decode cX8_copy 117 = .ok (.iconst 0, 1) := by decide +kernel
theorem dX8_copy_118 : decode cX8_copy 118 = .ok (.istore 6, 2) := by decide +kernel
theorem dX8_copy_120 : decode cX8_copy 120 = .ok (.iload 6, 2) := by decide +kernel
theorem dX8_copy_122 : decode cX8_copy 122 = .ok (.iload 5, 2) := by decide +kernel
theorem dX8_copy_124 : decode cX8_copy 124 = .ok (.if_icmp .ge 30, 3) := by decide +kernel
theorem dX8_copy_127 : decode cX8_copy 127 = .ok (.aload_n 0, 1) := by decide +kernel
theorem dX8_copy_128 : decode cX8_copy 128 = .ok (.getfield 104, 3) := by decide +kernel
theorem dX8_copy_131 : decode cX8_copy 131 = .ok (.iload 6, 2) := by decide +kernel
theorem dX8_copy_133 : decode cX8_copy 133 = .ok (.aload_n 0, 1) := by decide +kernel
theorem dX8_copy_134 : decode cX8_copy 134 = .ok (.getfield 101, 3) := by decide +kernel
theorem dX8_copy_137 : decode cX8_copy 137 = .ok (.bipush 60, 2) := by decide +kernel
theorem dX8_copy_139 : decode cX8_copy 139 = .ok (.iload_n 1, 1) := by decide +kernel
theorem dX8_copy_140 : decode cX8_copy 140 = .ok (.imul, 1) := by decide +kernel
theorem dX8_copy_141 : decode cX8_copy 141 = .ok (.iload_n 2, 1) := by decide +kernel
theorem dX8_copy_142 : decode cX8_copy 142 = .ok (.iadd, 1) := by decide +kernel
theorem dX8_copy_143 : decode cX8_copy 143 = .ok (.iload 6, 2) := by decide +kernel
theorem dX8_copy_145 : decode cX8_copy 145 = .ok (.iadd, 1) := by decide +kernel
theorem dX8_copy_146 : decode cX8_copy 146 = .ok (.iaload, 1) := by decide +kernel
theorem dX8_copy_147 : decode cX8_copy 147 = .ok (.iastore, 1) := by decide +kernel
theorem dX8_copy_148 : decode cX8_copy 148 = .ok (.iinc 6 1, 3) := by decide +kernel
theorem dX8_copy_151 : decode cX8_copy 151 = .ok (.goto (-31), 3) := by decide +kernel
theorem dX8_copy_154 : decode cX8_copy 154 = .ok (.iconst 0, 1) := by decide +kernel
theorem dX8_copy_155 : decode cX8_copy 155 = .ok (.istore 6, 2) := by decide +kernel
theorem dX8_copy_157 : decode cX8_copy 157 = .ok (.iload 6, 2) := by decide +kernel
theorem dX8_copy_159 : decode cX8_copy 159 = .ok (.iload 5, 2) := by decide +kernel
theorem dX8_copy_161 : decode cX8_copy 161 = .ok (.if_icmp .ge 31, 3) := by decide +kernel
theorem dX8_copy_164 : decode cX8_copy 164 = .ok (.aload_n 0, 1) := by decide +kernel
theorem dX8_copy_165 : decode cX8_copy 165 = .ok (.getfield 101, 3) := by decide +kernel
theorem dX8_copy_168 : decode cX8_copy 168 = .ok (.bipush 60, 2) := by decide +kernel
theorem dX8_copy_170 : decode cX8_copy 170 = .ok (.iload_n 3, 1) := by decide +kernel
theorem dX8_copy_171 : decode cX8_copy 171 = .ok (.imul, 1) := by decide +kernel
theorem dX8_copy_172 : decode cX8_copy 172 = .ok (.iload 4, 2) := by decide +kernel
theorem dX8_copy_174 : decode cX8_copy 174 = .ok (.iadd, 1) := by decide +kernel
theorem dX8_copy_175 : decode cX8_copy 175 = .ok (.iload 6, 2) := by decide +kernel
theorem dX8_copy_177 : decode cX8_copy 177 = .ok (.iadd, 1) := by decide +kernel
theorem dX8_copy_178 : decode cX8_copy 178 = .ok (.aload_n 0, 1) := by decide +kernel
theorem dX8_copy_179 : decode cX8_copy 179 = .ok (.getfield 104, 3) := by decide +kernel
theorem dX8_copy_182 : decode cX8_copy 182 = .ok (.iload 6, 2) := by decide +kernel
theorem dX8_copy_184 : decode cX8_copy 184 = .ok (.iaload, 1) := by decide +kernel
theorem dX8_copy_185 : decode cX8_copy 185 = .ok (.iastore, 1) := by decide +kernel
theorem dX8_copy_186 : decode cX8_copy 186 = .ok (.iinc 6 1, 3) := by decide +kernel
theorem dX8_copy_189 : decode cX8_copy 189 = .ok (.goto (-32), 3) := by decide +kernel
theorem dX8_copy_192 : decode cX8_copy 192 = .ok (.iconst 1, 1) := by decide +kernel
theorem dX8_copy_193 : decode cX8_copy 193 = .ok (.ireturn, 1) := by decide +kernel
set_option maxRecDepth 20000 in
set_option maxHeartbeats 4000000 in
theorem w_X8_copy_157 {x : tg_X} {Sf : tg_S} {r : Int32} {rec157 : tg_S → Int32 → Int32 → Int32 → Int32 → Option (tg_S × Int32)} (X : tg_M tauR x cX8_copy 7 RX8 zr_X8_copy (some .int) Sf (some (.int r))) (hr157 : ∀ (S : tg_S) (v3 : Int32) (v4 : Int32) (v5 : Int32) (v6 : Int32), rec157 S v3 v4 v5 v6 = some (Sf, r) → tg_G tauR x S 157 [(0, .ref (tg_ad x 0)), (3, .int v3), (4, .int v4), (5, .int v5), (6, .int v6)] []) (S : tg_S) (v3 : Int32) (v4 : Int32) (v5 : Int32) (v6 : Int32) (h : f_X8_copy_157 rec157 S v3 v4 v5 v6 = some (Sf, r)) : tg_G tauR x S 157 [(0, .ref (tg_ad x 0)), (3, .int v3), (4, .int v4), (5, .int v5), (6, .int v6)] [] := by
  unfold f_X8_copy_157 at h
  refine tg_iload X dX8_copy_157 4 rfl ?_
  refine tg_iload X dX8_copy_159 3 rfl ?_
  refine tg_icmp_ge (tgt := 192) X dX8_copy_161 (by decide) (fun c1 => ?_) (fun c1 => ?_)
  · have h := tg_ifT c1 h
    refine tg_iconst X dX8_copy_192 tk_i1 ?_
    exact tg_iret X h rfl dX8_copy_193
  · have h := tg_ifF c1 h
    refine tg_aload_n X dX8_copy_164 rfl 0 rfl ?_
    refine tg_getr X 0 rfl cl_X8 44 (by decide) rfl wf_X8_101 dX8_copy_165 ?_
    refine tg_bipush X dX8_copy_168 tk_b60 ?_
    refine tg_iload_n X dX8_copy_170 rfl 1 rfl ?_
    refine tg_imul X dX8_copy_171 ?_
    refine tg_iload X dX8_copy_172 2 rfl ?_
    refine tg_iadd X dX8_copy_174 ?_
    refine tg_iload X dX8_copy_175 4 rfl ?_
    refine tg_iadd X dX8_copy_177 ?_
    refine tg_aload_n X dX8_copy_178 rfl 0 rfl ?_
    refine tg_getr X 0 rfl cl_X8 45 (by decide) rfl wf_X8_104 dX8_copy_179 ?_
    refine tg_iload X dX8_copy_182 4 rfl ?_
    obtain ⟨y2, ey2, by2, h⟩ := tg_rdE h
    refine tg_iald X 32 rfl ey2 by2 dX8_copy_184 ?_
    obtain ⟨S3, eS3, bS3, h⟩ := tg_wrE h
    refine tg_iast X 31 rfl bS3 dX8_copy_185 eS3 ?_
    obtain ⟨y4, ey4⟩ : ∃ z : Int32, z = v6 + 1 := ⟨_, rfl⟩
    have h := tg_nmE ey4 h
    refine tg_iinc (lv2 := [(6, .int y4), (0, .ref (tg_ad x 0)), (3, .int v3), (4, .int v4), (5, .int v5)]) X dX8_copy_186 4 rfl tk_i1 ey4 (by decide) rfl ?_
    refine tg_goto (tgt := 157) X dX8_copy_189 (by decide) ?_
    refine tg_re [1, 2, 3, 4, 0] rfl ?_
    exact hr157 S3 v3 v4 v5 y4 h
theorem wl_X8_copy_157 {x : tg_X} {Sf : tg_S} {r : Int32} (X : tg_M tauR x cX8_copy 7 RX8 zr_X8_copy (some .int) Sf (some (.int r))) : ∀ (n : Nat) (S : tg_S) (v3 : Int32) (v4 : Int32) (v5 : Int32) (v6 : Int32) (h : L_X8_copy_157  n S v3 v4 v5 v6 = some (Sf, r)), tg_G tauR x S 157 [(0, .ref (tg_ad x 0)), (3, .int v3), (4, .int v4), (5, .int v5), (6, .int v6)] [] := by
  intro n
  induction n with
  | zero => intro S v3 v4 v5 v6 h; cases h
  | succ n ih => intro S v3 v4 v5 v6 h; exact w_X8_copy_157 X  ih S v3 v4 v5 v6 h
set_option maxRecDepth 20000 in
set_option maxHeartbeats 4000000 in
theorem w_X8_copy_120 {x : tg_X} {Sf : tg_S} {r : Int32} {rec120 : tg_S → Int32 → Int32 → Int32 → Int32 → Int32 → Int32 → Option (tg_S × Int32)} (X : tg_M tauR x cX8_copy 7 RX8 zr_X8_copy (some .int) Sf (some (.int r))) (hr120 : ∀ (S : tg_S) (v1 : Int32) (v2 : Int32) (v3 : Int32) (v4 : Int32) (v5 : Int32) (v6 : Int32), rec120 S v1 v2 v3 v4 v5 v6 = some (Sf, r) → tg_G tauR x S 120 [(0, .ref (tg_ad x 0)), (1, .int v1), (2, .int v2), (3, .int v3), (4, .int v4), (5, .int v5), (6, .int v6)] []) (S : tg_S) (v1 : Int32) (v2 : Int32) (v3 : Int32) (v4 : Int32) (v5 : Int32) (v6 : Int32) (h : f_X8_copy_120 rec120 S v1 v2 v3 v4 v5 v6 = some (Sf, r)) : tg_G tauR x S 120 [(0, .ref (tg_ad x 0)), (1, .int v1), (2, .int v2), (3, .int v3), (4, .int v4), (5, .int v5), (6, .int v6)] [] := by
  unfold f_X8_copy_120 at h
  refine tg_iload X dX8_copy_120 6 rfl ?_
  refine tg_iload X dX8_copy_122 5 rfl ?_
  refine tg_icmp_ge (tgt := 154) X dX8_copy_124 (by decide) (fun c1 => ?_) (fun c1 => ?_)
  · have h := tg_ifT c1 h
    refine tg_iconst X dX8_copy_154 tk_i0 ?_
    refine tg_istore (lv2 := [(6, .int 0), (0, .ref (tg_ad x 0)), (1, .int v1), (2, .int v2), (3, .int v3), (4, .int v4), (5, .int v5)]) X dX8_copy_155 (by decide) rfl ?_
    refine tg_re [1, 4, 5, 6, 0] rfl ?_
    exact wl_X8_copy_157 X  tg_F S v3 v4 v5 0 h
  · have h := tg_ifF c1 h
    refine tg_aload_n X dX8_copy_127 rfl 0 rfl ?_
    refine tg_getr X 0 rfl cl_X8 45 (by decide) rfl wf_X8_104 dX8_copy_128 ?_
    refine tg_iload X dX8_copy_131 6 rfl ?_
    refine tg_aload_n X dX8_copy_133 rfl 0 rfl ?_
    refine tg_getr X 0 rfl cl_X8 44 (by decide) rfl wf_X8_101 dX8_copy_134 ?_
    refine tg_bipush X dX8_copy_137 tk_b60 ?_
    refine tg_iload_n X dX8_copy_139 rfl 1 rfl ?_
    refine tg_imul X dX8_copy_140 ?_
    refine tg_iload_n X dX8_copy_141 rfl 2 rfl ?_
    refine tg_iadd X dX8_copy_142 ?_
    refine tg_iload X dX8_copy_143 6 rfl ?_
    refine tg_iadd X dX8_copy_145 ?_
    obtain ⟨y2, ey2, by2, h⟩ := tg_rdE h
    refine tg_iald X 31 rfl ey2 by2 dX8_copy_146 ?_
    obtain ⟨S3, eS3, bS3, h⟩ := tg_wrE h
    refine tg_iast X 32 rfl bS3 dX8_copy_147 eS3 ?_
    obtain ⟨y4, ey4⟩ : ∃ z : Int32, z = v6 + 1 := ⟨_, rfl⟩
    have h := tg_nmE ey4 h
    refine tg_iinc (lv2 := [(6, .int y4), (0, .ref (tg_ad x 0)), (1, .int v1), (2, .int v2), (3, .int v3), (4, .int v4), (5, .int v5)]) X dX8_copy_148 6 rfl tk_i1 ey4 (by decide) rfl ?_
    refine tg_goto (tgt := 120) X dX8_copy_151 (by decide) ?_
    refine tg_re [1, 2, 3, 4, 5, 6, 0] rfl ?_
    exact hr120 S3 v1 v2 v3 v4 v5 y4 h
theorem wl_X8_copy_120 {x : tg_X} {Sf : tg_S} {r : Int32} (X : tg_M tauR x cX8_copy 7 RX8 zr_X8_copy (some .int) Sf (some (.int r))) : ∀ (n : Nat) (S : tg_S) (v1 : Int32) (v2 : Int32) (v3 : Int32) (v4 : Int32) (v5 : Int32) (v6 : Int32) (h : L_X8_copy_120  n S v1 v2 v3 v4 v5 v6 = some (Sf, r)), tg_G tauR x S 120 [(0, .ref (tg_ad x 0)), (1, .int v1), (2, .int v2), (3, .int v3), (4, .int v4), (5, .int v5), (6, .int v6)] [] := by
  intro n
  induction n with
  | zero => intro S v1 v2 v3 v4 v5 v6 h; cases h
  | succ n ih => intro S v1 v2 v3 v4 v5 v6 h; exact w_X8_copy_120 X  ih S v1 v2 v3 v4 v5 v6 h
set_option maxRecDepth 20000 in
set_option maxHeartbeats 4000000 in
theorem w_X8_copy_111 {x : tg_X} {Sf : tg_S} {r : Int32} (X : tg_M tauR x cX8_copy 7 RX8 zr_X8_copy (some .int) Sf (some (.int r))) (S : tg_S) (h : f_X8_copy_111  S  = some (Sf, r)) : tg_G tauR x S 111 [(0, .ref (tg_ad x 0))] [] := by
  unfold f_X8_copy_111 at h
  refine tg_aload_n X dX8_copy_111 rfl 0 rfl ?_
  refine tg_iconst X dX8_copy_112 tk_i2 ?_
  obtain ⟨S1, r2, kS1, h⟩ := tg_bdE h
  refine tg_callV (As := [.int 2]) (rest := []) X 0 (cm_X8_meets _ _ _ _ _ kS1) yy_X8_meets wv_X8_meets ws_X8_meets wm_X8_172 rfl cl_X8.1 ⟨rfl, rfl, Nat.le_of_ble_eq_true rfl, Nat.le_of_ble_eq_true rfl⟩ rfl rfl (Nat.le_of_ble_eq_true rfl) dX8_copy_113 rfl ?_
  exact tg_iret X h rfl dX8_copy_116
set_option maxRecDepth 20000 in
set_option maxHeartbeats 4000000 in
theorem w_X8_copy_35 {x : tg_X} {Sf : tg_S} {r : Int32} (X : tg_M tauR x cX8_copy 7 RX8 zr_X8_copy (some .int) Sf (some (.int r))) (S : tg_S) (h : f_X8_copy_35  S  = some (Sf, r)) : tg_G tauR x S 35 [(0, .ref (tg_ad x 0))] [] := by
  unfold f_X8_copy_35 at h
  refine tg_aload_n X dX8_copy_35 rfl 0 rfl ?_
  refine tg_iconst X dX8_copy_36 tk_i1 ?_
  obtain ⟨S1, r2, kS1, h⟩ := tg_bdE h
  refine tg_callV (As := [.int 1]) (rest := []) X 0 (cm_X8_meets _ _ _ _ _ kS1) yy_X8_meets wv_X8_meets ws_X8_meets wm_X8_172 rfl cl_X8.1 ⟨rfl, rfl, Nat.le_of_ble_eq_true rfl, Nat.le_of_ble_eq_true rfl⟩ rfl rfl (Nat.le_of_ble_eq_true rfl) dX8_copy_37 rfl ?_
  exact tg_iret X h rfl dX8_copy_40
set_option maxRecDepth 20000 in
set_option maxHeartbeats 4000000 in
theorem w_X8_copy_0 {x : tg_X} {Sf : tg_S} {r : Int32} (X : tg_M tauR x cX8_copy 7 RX8 zr_X8_copy (some .int) Sf (some (.int r))) (S : tg_S) (v1 : Int32) (v2 : Int32) (v3 : Int32) (v4 : Int32) (v5 : Int32) (h : f_X8_copy  S v1 v2 v3 v4 v5 = some (Sf, r)) : tg_G tauR x S 0 [(0, .ref (tg_ad x 0)), (1, .int v1), (2, .int v2), (3, .int v3), (4, .int v4), (5, .int v5)] [] := by
  unfold f_X8_copy at h
  refine tg_iload_n X dX8_copy_0 rfl 1 rfl ?_
  obtain ⟨S1, r2, kS1, h⟩ := tg_bdE h
  refine tg_callS (As := [.int v1]) (rest := []) X (cm_X8_isSheet _ _ _ _ _ kS1) yy_X8_isSheet wt_X8_isSheet wm_X8_169 ⟨rfl, rfl, Nat.le_of_ble_eq_true rfl, Nat.le_of_ble_eq_true rfl⟩ rfl rfl (Nat.le_of_ble_eq_true rfl) dX8_copy_1 rfl ?_
  refine tg_if_eq (tgt := 14) X dX8_copy_4 (by decide) (fun c3 => ?_) (fun c3 => ?_)
  · have h := tg_ifT c3 h
    refine tg_bipush X dX8_copy_14 tk_bm2 ?_
    exact tg_iret X h rfl dX8_copy_16
  · have h := tg_ifF c3 h
    refine tg_iload_n X dX8_copy_7 rfl 3 rfl ?_
    obtain ⟨S4, r5, kS4, h⟩ := tg_bdE h
    refine tg_callS (As := [.int v3]) (rest := []) X (cm_X8_isSheet _ _ _ _ _ kS4) yy_X8_isSheet wt_X8_isSheet wm_X8_169 ⟨rfl, rfl, Nat.le_of_ble_eq_true rfl, Nat.le_of_ble_eq_true rfl⟩ rfl rfl (Nat.le_of_ble_eq_true rfl) dX8_copy_8 rfl ?_
    refine tg_if_ne (tgt := 17) X dX8_copy_11 (by decide) (fun c6 => ?_) (fun c6 => ?_)
    · have h := tg_ifF c6 h
      refine tg_aload_n X dX8_copy_17 rfl 0 rfl ?_
      refine tg_getr X 0 rfl cl_X8 41 (by decide) rfl wf_X8_91 dX8_copy_18 ?_
      refine tg_iload_n X dX8_copy_21 rfl 1 rfl ?_
      obtain ⟨y7, ey7, by7, h⟩ := tg_rdE h
      refine tg_zald X 28 rfl ey7 by7 dX8_copy_22 ?_
      refine tg_if_eq (tgt := 35) X dX8_copy_23 (by decide) (fun c8 => ?_) (fun c8 => ?_)
      · have h := tg_ifT c8 h
        refine tg_re [0] rfl ?_
        exact w_X8_copy_35 X  S4  h
      · have h := tg_ifF c8 h
        refine tg_aload_n X dX8_copy_26 rfl 0 rfl ?_
        refine tg_getr X 0 rfl cl_X8 41 (by decide) rfl wf_X8_91 dX8_copy_27 ?_
        refine tg_iload_n X dX8_copy_30 rfl 3 rfl ?_
        obtain ⟨y9, ey9, by9, h⟩ := tg_rdE h
        refine tg_zald X 28 rfl ey9 by9 dX8_copy_31 ?_
        refine tg_if_ne (tgt := 41) X dX8_copy_32 (by decide) (fun c10 => ?_) (fun c10 => ?_)
        · have h := tg_ifF c10 h
          refine tg_aload_n X dX8_copy_41 rfl 0 rfl ?_
          refine tg_getr X 0 rfl cl_X8 42 (by decide) rfl wf_X8_95 dX8_copy_42 ?_
          refine tg_iload_n X dX8_copy_45 rfl 1 rfl ?_
          obtain ⟨y11, ey11, by11, h⟩ := tg_rdE h
          refine tg_iald X 29 rfl ey11 by11 dX8_copy_46 ?_
          refine tg_aload_n X dX8_copy_47 rfl 0 rfl ?_
          refine tg_getr X 0 rfl cl_X8 42 (by decide) rfl wf_X8_95 dX8_copy_48 ?_
          refine tg_iload_n X dX8_copy_51 rfl 3 rfl ?_
          obtain ⟨y12, ey12, by12, h⟩ := tg_rdE h
          refine tg_iald X 29 rfl ey12 by12 dX8_copy_52 ?_
          refine tg_icmp_eq (tgt := 62) X dX8_copy_53 (by decide) (fun c13 => ?_) (fun c13 => ?_)
          · have h := tg_ifT c13 h
            refine tg_iload_n X dX8_copy_62 rfl 2 rfl ?_
            refine tg_if_lt (tgt := 111) X dX8_copy_63 (by decide) (fun c14 => ?_) (fun c14 => ?_)
            · have h := tg_ifT c14 h
              refine tg_re [0] rfl ?_
              exact w_X8_copy_111 X  S4  h
            · have h := tg_ifF c14 h
              refine tg_iload X dX8_copy_66 4 rfl ?_
              refine tg_if_lt (tgt := 111) X dX8_copy_68 (by decide) (fun c15 => ?_) (fun c15 => ?_)
              · have h := tg_ifT c15 h
                refine tg_re [0] rfl ?_
                exact w_X8_copy_111 X  S4  h
              · have h := tg_ifF c15 h
                refine tg_iload X dX8_copy_71 5 rfl ?_
                refine tg_if_lt (tgt := 111) X dX8_copy_73 (by decide) (fun c16 => ?_) (fun c16 => ?_)
                · have h := tg_ifT c16 h
                  refine tg_re [0] rfl ?_
                  exact w_X8_copy_111 X  S4  h
                · have h := tg_ifF c16 h
                  refine tg_iload_n X dX8_copy_76 rfl 2 rfl ?_
                  refine tg_i2l X dX8_copy_77 ?_
                  refine tg_iload X dX8_copy_78 5 rfl ?_
                  refine tg_i2l X dX8_copy_80 ?_
                  refine tg_ladd X dX8_copy_81 ?_
                  refine tg_aload_n X dX8_copy_82 rfl 0 rfl ?_
                  refine tg_getr X 0 rfl cl_X8 43 (by decide) rfl wf_X8_98 dX8_copy_83 ?_
                  refine tg_iload_n X dX8_copy_86 rfl 1 rfl ?_
                  obtain ⟨y17, ey17, by17, h⟩ := tg_rdE h
                  refine tg_iald X 30 rfl ey17 by17 dX8_copy_87 ?_
                  refine tg_i2l X dX8_copy_88 ?_
                  refine tg_lcmp X dX8_copy_89 ?_
                  refine tg_if_gt (tgt := 111) X dX8_copy_90 (by decide) (fun c18 => ?_) (fun c18 => ?_)
                  · have h := tg_ifT c18 h
                    refine tg_re [0] rfl ?_
                    exact w_X8_copy_111 X  S4  h
                  · have h := tg_ifF c18 h
                    refine tg_iload X dX8_copy_93 4 rfl ?_
                    refine tg_i2l X dX8_copy_95 ?_
                    refine tg_iload X dX8_copy_96 5 rfl ?_
                    refine tg_i2l X dX8_copy_98 ?_
                    refine tg_ladd X dX8_copy_99 ?_
                    refine tg_aload_n X dX8_copy_100 rfl 0 rfl ?_
                    refine tg_getr X 0 rfl cl_X8 43 (by decide) rfl wf_X8_98 dX8_copy_101 ?_
                    refine tg_iload_n X dX8_copy_104 rfl 3 rfl ?_
                    obtain ⟨y19, ey19, by19, h⟩ := tg_rdE h
                    refine tg_iald X 30 rfl ey19 by19 dX8_copy_105 ?_
                    refine tg_i2l X dX8_copy_106 ?_
                    refine tg_lcmp X dX8_copy_107 ?_
                    refine tg_if_le (tgt := 117) X dX8_copy_108 (by decide) (fun c20 => ?_) (fun c20 => ?_)
                    · have h := tg_ifT c20 h
                      refine tg_iconst X dX8_copy_117 tk_i0 ?_
                      refine tg_istore (lv2 := [(6, .int 0), (0, .ref (tg_ad x 0)), (1, .int v1), (2, .int v2), (3, .int v3), (4, .int v4), (5, .int v5)]) X dX8_copy_118 (by decide) rfl ?_
                      refine tg_re [1, 2, 3, 4, 5, 6, 0] rfl ?_
                      exact wl_X8_copy_120 X  tg_F S4 v1 v2 v3 v4 v5 0 h
                    · have h := tg_ifF c20 h
                      refine tg_re [0] rfl ?_
                      exact w_X8_copy_111 X  S4  h
          · have h := tg_ifF c13 h
            refine tg_aload_n X dX8_copy_56 rfl 0 rfl ?_
            refine tg_iconst X dX8_copy_57 tk_i4 ?_
            obtain ⟨S21, r22, kS21, h⟩ := tg_bdE h
            refine tg_callV (As := [.int 4]) (rest := []) X 0 (cm_X8_meets _ _ _ _ _ kS21) yy_X8_meets wv_X8_meets ws_X8_meets wm_X8_172 rfl cl_X8.1 ⟨rfl, rfl, Nat.le_of_ble_eq_true rfl, Nat.le_of_ble_eq_true rfl⟩ rfl rfl (Nat.le_of_ble_eq_true rfl) dX8_copy_58 rfl ?_
            exact tg_iret X h rfl dX8_copy_61
        · have h := tg_ifT c10 h
          refine tg_re [0] rfl ?_
          exact w_X8_copy_35 X  S4  h
    · have h := tg_ifT c6 h
      refine tg_bipush X dX8_copy_14 tk_bm2 ?_
      exact tg_iret X h rfl dX8_copy_16
theorem cm_X8_copy (l : Launch) (D : va_G) (cy : Bool → ClassId) (ad : Nat → Nat) (tS : Nat) {S Sf : tg_S} {v1 : Int32} {v2 : Int32} {v3 : Int32} {v4 : Int32} {v5 : Int32} {r : Int32} (h : f_X8_copy  S v1 v2 v3 v4 v5 = some (Sf, r)) : tg_Met l yX8_copy cX8_copy 7 (some .int) zr_X8_copy tauR D cy ad tS S [.ref (ad 0), .int v1, .int v2, .int v3, .int v4, .int v5] Sf (some (.int r)) := tg_mk (by decide +kernel) trivial (Nat.le_of_ble_eq_true rfl) (fun p e s m args below meth c Q A X => w_X8_copy_0 X S v1 v2 v3 v4 v5 h)
-- X8_write
def zr_X8_write : Room := { frames := 7, cells := 0, slots := 0, locals := 160 }
theorem dX8_write_0 : decode cX8_write 0 = .ok (.iload_n 1, 1) := by decide +kernel
theorem dX8_write_1 : decode cX8_write 1 = .ok (.invokestatic 169, 3) := by decide +kernel
theorem dX8_write_4 : decode cX8_write 4 = .ok (.ifCond .ne 6, 3) := by decide +kernel
theorem dX8_write_7 : decode cX8_write 7 = .ok (.bipush (-2), 2) := by decide +kernel
theorem dX8_write_9 : decode cX8_write 9 = .ok (.ireturn, 1) := by decide +kernel
theorem dX8_write_10 : decode cX8_write 10 = .ok (.aload_n 0, 1) := by decide +kernel
theorem dX8_write_11 : decode cX8_write 11 = .ok (.getfield 91, 3) := by decide +kernel
theorem dX8_write_14 : decode cX8_write 14 = .ok (.iload_n 1, 1) := by decide +kernel
theorem dX8_write_15 : decode cX8_write 15 = .ok (.baload, 1) := by decide +kernel
theorem dX8_write_16 : decode cX8_write 16 = .ok (.ifCond .ne 9, 3) := by decide +kernel
theorem dX8_write_19 : decode cX8_write 19 = .ok (.aload_n 0, 1) := by decide +kernel
theorem dX8_write_20 : decode cX8_write 20 = .ok (.iconst 1, 1) := by decide +kernel
theorem dX8_write_21 : decode cX8_write 21 = .ok (.invokevirtual 172, 3) := by decide +kernel
theorem dX8_write_24 : decode cX8_write 24 = .ok (.ireturn, 1) := by decide +kernel
theorem dX8_write_25 : decode cX8_write 25 = .ok (.aload_n 0, 1) := by decide +kernel
theorem dX8_write_26 : decode cX8_write 26 = .ok (.invokevirtual 235, 3) := by decide +kernel
theorem dX8_write_29 : decode cX8_write 29 = .ok (.iconst 0, 1) := by decide +kernel
theorem dX8_write_30 : decode cX8_write 30 = .ok (.istore_n 2, 1) := by decide +kernel
theorem dX8_write_31 : decode cX8_write 31 = .ok (.iload_n 2, 1) := by decide +kernel
theorem dX8_write_32 : decode cX8_write 32 = .ok (.aload_n 0, 1) := by decide +kernel
theorem dX8_write_33 : decode cX8_write 33 = .ok (.getfield 98, 3) := by decide +kernel
theorem dX8_write_36 : decode cX8_write 36 = .ok (.iload_n 1, 1) := by decide +kernel
theorem dX8_write_37 : decode cX8_write 37 = .ok (.iaload, 1) := by decide +kernel
theorem dX8_write_38 : decode cX8_write 38 = .ok (.if_icmp .ge 27, 3) := by decide +kernel
theorem dX8_write_41 : decode cX8_write 41 = .ok (.iload_n 2, 1) := by decide +kernel
theorem dX8_write_42 : decode cX8_write 42 = .ok (.bipush 24, 2) := by decide +kernel
theorem dX8_write_44 : decode cX8_write 44 = .ok (.if_icmp .ge 21, 3) := by decide +kernel
theorem dX8_write_47 : decode cX8_write 47 = .ok (.aload_n 0, 1) := by decide +kernel
theorem dX8_write_48 : decode cX8_write 48 = .ok (.iload_n 1, 1) := by decide +kernel
theorem dX8_write_49 : decode cX8_write 49 = .ok (.iload_n 2, 1) := by decide +kernel
theorem dX8_write_50 : decode cX8_write 50 = .ok (.aload_n 0, 1) := by decide +kernel
theorem dX8_write_51 : decode cX8_write 51 = .ok (.getfield 64, 3) := by decide +kernel
theorem dX8_write_54 : decode cX8_write 54 = .ok (.iload_n 2, 1) := by decide +kernel
theorem dX8_write_55 : decode cX8_write 55 = .ok (.iaload, 1) := by decide +kernel
theorem dX8_write_56 : decode cX8_write 56 = .ok (.invokevirtual 334, 3) := by decide +kernel
theorem dX8_write_59 : decode cX8_write 59 = .ok (.iinc 2 1, 3) := by decide +kernel
theorem dX8_write_62 : decode cX8_write 62 = .ok (.goto (-31), 3) := by decide +kernel
theorem dX8_write_65 : decode cX8_write 65 = .ok (.iload_n 2, 1) := by decide +kernel
theorem dX8_write_66 : decode cX8_write 66 = .ok (.ireturn, 1) := by decide +kernel
set_option maxRecDepth 20000 in
set_option maxHeartbeats 4000000 in
theorem w_X8_write_31 {x : tg_X} {Sf : tg_S} {r : Int32} {rec31 : tg_S → Int32 → Int32 → Option (tg_S × Int32)} (X : tg_M tauR x cX8_write 3 RX8 zr_X8_write (some .int) Sf (some (.int r))) (hr31 : ∀ (S : tg_S) (v1 : Int32) (v2 : Int32), rec31 S v1 v2 = some (Sf, r) → tg_G tauR x S 31 [(0, .ref (tg_ad x 0)), (1, .int v1), (2, .int v2)] []) (S : tg_S) (v1 : Int32) (v2 : Int32) (h : f_X8_write_31 rec31 S v1 v2 = some (Sf, r)) : tg_G tauR x S 31 [(0, .ref (tg_ad x 0)), (1, .int v1), (2, .int v2)] [] := by
  unfold f_X8_write_31 at h
  refine tg_iload_n X dX8_write_31 rfl 2 rfl ?_
  refine tg_aload_n X dX8_write_32 rfl 0 rfl ?_
  refine tg_getr X 0 rfl cl_X8 43 (by decide) rfl wf_X8_98 dX8_write_33 ?_
  refine tg_iload_n X dX8_write_36 rfl 1 rfl ?_
  obtain ⟨y1, ey1, by1, h⟩ := tg_rdE h
  refine tg_iald X 30 rfl ey1 by1 dX8_write_37 ?_
  refine tg_icmp_ge (tgt := 65) X dX8_write_38 (by decide) (fun c2 => ?_) (fun c2 => ?_)
  · have h := tg_ifT c2 h
    refine tg_iload_n X dX8_write_65 rfl 2 rfl ?_
    exact tg_iret X h rfl dX8_write_66
  · have h := tg_ifF c2 h
    refine tg_iload_n X dX8_write_41 rfl 2 rfl ?_
    refine tg_bipush X dX8_write_42 tk_b24 ?_
    refine tg_icmp_ge (tgt := 65) X dX8_write_44 (by decide) (fun c3 => ?_) (fun c3 => ?_)
    · have h := tg_ifT c3 h
      refine tg_iload_n X dX8_write_65 rfl 2 rfl ?_
      exact tg_iret X h rfl dX8_write_66
    · have h := tg_ifF c3 h
      refine tg_aload_n X dX8_write_47 rfl 0 rfl ?_
      refine tg_iload_n X dX8_write_48 rfl 1 rfl ?_
      refine tg_iload_n X dX8_write_49 rfl 2 rfl ?_
      refine tg_aload_n X dX8_write_50 rfl 0 rfl ?_
      refine tg_getr X 0 rfl cl_X8 29 (by decide) rfl wf_X8_64 dX8_write_51 ?_
      refine tg_iload_n X dX8_write_54 rfl 2 rfl ?_
      obtain ⟨y4, ey4, by4, h⟩ := tg_rdE h
      refine tg_iald X 19 rfl ey4 by4 dX8_write_55 ?_
      obtain ⟨S5, kS5, h⟩ := tg_bvE h
      refine tg_callV (As := [.int v1, .int v2, .int y4]) (rest := []) X 0 (cm_X8_keep _ _ _ _ _ kS5) yy_X8_keep wv_X8_keep ws_X8_keep wm_X8_334 rfl cl_X8.1 ⟨rfl, rfl, Nat.le_of_ble_eq_true rfl, Nat.le_of_ble_eq_true rfl⟩ rfl rfl (Nat.le_of_ble_eq_true rfl) dX8_write_56 rfl ?_
      obtain ⟨y6, ey6⟩ : ∃ z : Int32, z = v2 + 1 := ⟨_, rfl⟩
      have h := tg_nmE ey6 h
      refine tg_iinc (lv2 := [(2, .int y6), (0, .ref (tg_ad x 0)), (1, .int v1)]) X dX8_write_59 2 rfl tk_i1 ey6 (by decide) rfl ?_
      refine tg_goto (tgt := 31) X dX8_write_62 (by decide) ?_
      refine tg_re [1, 2, 0] rfl ?_
      exact hr31 S5 v1 y6 h
theorem wl_X8_write_31 {x : tg_X} {Sf : tg_S} {r : Int32} (X : tg_M tauR x cX8_write 3 RX8 zr_X8_write (some .int) Sf (some (.int r))) : ∀ (n : Nat) (S : tg_S) (v1 : Int32) (v2 : Int32) (h : L_X8_write_31  n S v1 v2 = some (Sf, r)), tg_G tauR x S 31 [(0, .ref (tg_ad x 0)), (1, .int v1), (2, .int v2)] [] := by
  intro n
  induction n with
  | zero => intro S v1 v2 h; cases h
  | succ n ih => intro S v1 v2 h; exact w_X8_write_31 X  ih S v1 v2 h
set_option maxRecDepth 20000 in
set_option maxHeartbeats 4000000 in
theorem w_X8_write_0 {x : tg_X} {Sf : tg_S} {r : Int32} (X : tg_M tauR x cX8_write 3 RX8 zr_X8_write (some .int) Sf (some (.int r))) (S : tg_S) (v1 : Int32) (h : f_X8_write  S v1 = some (Sf, r)) : tg_G tauR x S 0 [(0, .ref (tg_ad x 0)), (1, .int v1)] [] := by
  unfold f_X8_write at h
  refine tg_iload_n X dX8_write_0 rfl 1 rfl ?_
  obtain ⟨S1, r2, kS1, h⟩ := tg_bdE h
  refine tg_callS (As := [.int v1]) (rest := []) X (cm_X8_isSheet _ _ _ _ _ kS1) yy_X8_isSheet wt_X8_isSheet wm_X8_169 ⟨rfl, rfl, Nat.le_of_ble_eq_true rfl, Nat.le_of_ble_eq_true rfl⟩ rfl rfl (Nat.le_of_ble_eq_true rfl) dX8_write_1 rfl ?_
  refine tg_if_ne (tgt := 10) X dX8_write_4 (by decide) (fun c3 => ?_) (fun c3 => ?_)
  · have h := tg_ifF c3 h
    refine tg_aload_n X dX8_write_10 rfl 0 rfl ?_
    refine tg_getr X 0 rfl cl_X8 41 (by decide) rfl wf_X8_91 dX8_write_11 ?_
    refine tg_iload_n X dX8_write_14 rfl 1 rfl ?_
    obtain ⟨y4, ey4, by4, h⟩ := tg_rdE h
    refine tg_zald X 28 rfl ey4 by4 dX8_write_15 ?_
    refine tg_if_ne (tgt := 25) X dX8_write_16 (by decide) (fun c5 => ?_) (fun c5 => ?_)
    · have h := tg_ifF c5 h
      refine tg_aload_n X dX8_write_25 rfl 0 rfl ?_
      obtain ⟨S6, kS6, h⟩ := tg_bvE h
      refine tg_callV (As := []) (rest := []) X 0 (cm_X8_runsTold _ _ _ _ _ kS6) yy_X8_runsTold wv_X8_runsTold ws_X8_runsTold wm_X8_235 rfl cl_X8.1 ⟨rfl, rfl, Nat.le_of_ble_eq_true rfl, Nat.le_of_ble_eq_true rfl⟩ rfl rfl (Nat.le_of_ble_eq_true rfl) dX8_write_26 rfl ?_
      refine tg_iconst X dX8_write_29 tk_i0 ?_
      refine tg_istore_n (lv2 := [(2, .int 0), (0, .ref (tg_ad x 0)), (1, .int v1)]) X dX8_write_30 rfl (by decide) rfl ?_
      refine tg_re [1, 2, 0] rfl ?_
      exact wl_X8_write_31 X  tg_F S6 v1 0 h
    · have h := tg_ifT c5 h
      refine tg_aload_n X dX8_write_19 rfl 0 rfl ?_
      refine tg_iconst X dX8_write_20 tk_i1 ?_
      obtain ⟨S7, r8, kS7, h⟩ := tg_bdE h
      refine tg_callV (As := [.int 1]) (rest := []) X 0 (cm_X8_meets _ _ _ _ _ kS7) yy_X8_meets wv_X8_meets ws_X8_meets wm_X8_172 rfl cl_X8.1 ⟨rfl, rfl, Nat.le_of_ble_eq_true rfl, Nat.le_of_ble_eq_true rfl⟩ rfl rfl (Nat.le_of_ble_eq_true rfl) dX8_write_21 rfl ?_
      exact tg_iret X h rfl dX8_write_24
  · have h := tg_ifT c3 h
    refine tg_bipush X dX8_write_7 tk_bm2 ?_
    exact tg_iret X h rfl dX8_write_9
theorem cm_X8_write (l : Launch) (D : va_G) (cy : Bool → ClassId) (ad : Nat → Nat) (tS : Nat) {S Sf : tg_S} {v1 : Int32} {r : Int32} (h : f_X8_write  S v1 = some (Sf, r)) : tg_Met l yX8_write cX8_write 3 (some .int) zr_X8_write tauR D cy ad tS S [.ref (ad 0), .int v1] Sf (some (.int r)) := tg_mk (by decide +kernel) trivial (Nat.le_of_ble_eq_true rfl) (fun p e s m args below meth c Q A X => w_X8_write_0 X S v1 h)
-- X8_tellOf
def zr_X8_tellOf : Room := { frames := 7, cells := 0, slots := 0, locals := 160 }
theorem dX8_tellOf_0 : decode cX8_tellOf 0 = .ok (.aload_n 0, 1) := by decide +kernel
theorem dX8_tellOf_1 : decode cX8_tellOf 1 = .ok (.invokevirtual 235, 3) := by decide +kernel
theorem dX8_tellOf_4 : decode cX8_tellOf 4 = .ok (.iload_n 1, 1) := by decide +kernel
theorem dX8_tellOf_5 : decode cX8_tellOf 5 = .ok (.iconst 2, 1) := by decide +kernel
theorem dX8_tellOf_6 : decode cX8_tellOf 6 = .ok (.if_icmp .ge 12, 3) := by decide +kernel
theorem dX8_tellOf_9 : decode cX8_tellOf 9 = .ok (.aload_n 0, 1) := by decide +kernel
theorem dX8_tellOf_10 : decode cX8_tellOf 10 = .ok (.getfield 16, 3) := by decide +kernel
theorem dX8_tellOf_13 : decode cX8_tellOf 13 = .ok (.iload_n 1, 1) := by decide +kernel
theorem dX8_tellOf_14 : decode cX8_tellOf 14 = .ok (.iaload, 1) := by decide +kernel
theorem dX8_tellOf_15 : decode cX8_tellOf 15 = .ok (.goto 23, 3) := by decide +kernel
theorem dX8_tellOf_18 : decode cX8_tellOf 18 = .ok (.iload_n 1, 1) := by decide +kernel
theorem dX8_tellOf_19 : decode cX8_tellOf 19 = .ok (.iconst 4, 1) := by decide +kernel
theorem dX8_tellOf_20 : decode cX8_tellOf 20 = .ok (.if_icmp .ge 14, 3) := by decide +kernel
theorem dX8_tellOf_23 : decode cX8_tellOf 23 = .ok (.aload_n 0, 1) := by decide +kernel
theorem dX8_tellOf_24 : decode cX8_tellOf 24 = .ok (.getfield 28, 3) := by decide +kernel
theorem dX8_tellOf_27 : decode cX8_tellOf 27 = .ok (.iload_n 1, 1) := by decide +kernel
theorem dX8_tellOf_28 : decode cX8_tellOf 28 = .ok (.iconst 2, 1) := by decide +kernel
theorem dX8_tellOf_29 : decode cX8_tellOf 29 = .ok (.isub, 1) := by decide +kernel
theorem dX8_tellOf_30 : decode cX8_tellOf 30 = .ok (.iaload, 1) := by decide +kernel
theorem dX8_tellOf_31 : decode cX8_tellOf 31 = .ok (.goto 7, 3) := by decide +kernel
theorem dX8_tellOf_34 : decode cX8_tellOf 34 = .ok (.aload_n 0, 1) := by decide +kernel
theorem dX8_tellOf_35 : decode cX8_tellOf 35 = .ok (.getfield 203, 3) := by decide +kernel
theorem dX8_tellOf_38 : decode cX8_tellOf 38 = .ok (.ireturn, 1) := by decide +kernel
set_option maxRecDepth 20000 in
set_option maxHeartbeats 4000000 in
theorem w_X8_tellOf_0 {x : tg_X} {Sf : tg_S} {r : Int32} (X : tg_M tauR x cX8_tellOf 2 RX8 zr_X8_tellOf (some .int) Sf (some (.int r))) (S : tg_S) (v1 : Int32) (h : f_X8_tellOf  S v1 = some (Sf, r)) : tg_G tauR x S 0 [(0, .ref (tg_ad x 0)), (1, .int v1)] [] := by
  unfold f_X8_tellOf at h
  refine tg_aload_n X dX8_tellOf_0 rfl 0 rfl ?_
  obtain ⟨S1, kS1, h⟩ := tg_bvE h
  refine tg_callV (As := []) (rest := []) X 0 (cm_X8_runsTold _ _ _ _ _ kS1) yy_X8_runsTold wv_X8_runsTold ws_X8_runsTold wm_X8_235 rfl cl_X8.1 ⟨rfl, rfl, Nat.le_of_ble_eq_true rfl, Nat.le_of_ble_eq_true rfl⟩ rfl rfl (Nat.le_of_ble_eq_true rfl) dX8_tellOf_1 rfl ?_
  refine tg_iload_n X dX8_tellOf_4 rfl 1 rfl ?_
  refine tg_iconst X dX8_tellOf_5 tk_i2 ?_
  refine tg_icmp_ge (tgt := 18) X dX8_tellOf_6 (by decide) (fun c2 => ?_) (fun c2 => ?_)
  · have h := tg_ifT c2 h
    refine tg_iload_n X dX8_tellOf_18 rfl 1 rfl ?_
    refine tg_iconst X dX8_tellOf_19 tk_i4 ?_
    refine tg_icmp_ge (tgt := 34) X dX8_tellOf_20 (by decide) (fun c3 => ?_) (fun c3 => ?_)
    · have h := tg_ifT c3 h
      refine tg_aload_n X dX8_tellOf_34 rfl 0 rfl ?_
      refine tg_geti X 0 rfl cl_X8 21 (by decide) rfl wf_X8_203 dX8_tellOf_35 ?_
      exact tg_iret X h rfl dX8_tellOf_38
    · have h := tg_ifF c3 h
      refine tg_aload_n X dX8_tellOf_23 rfl 0 rfl ?_
      refine tg_getr X 0 rfl cl_X8 6 (by decide) rfl wf_X8_28 dX8_tellOf_24 ?_
      refine tg_iload_n X dX8_tellOf_27 rfl 1 rfl ?_
      refine tg_iconst X dX8_tellOf_28 tk_i2 ?_
      refine tg_isub X dX8_tellOf_29 ?_
      obtain ⟨y4, ey4, by4, h⟩ := tg_rdE h
      refine tg_iald X 7 rfl ey4 by4 dX8_tellOf_30 ?_
      refine tg_goto (tgt := 38) X dX8_tellOf_31 (by decide) ?_
      exact tg_iret X h rfl dX8_tellOf_38
  · have h := tg_ifF c2 h
    refine tg_aload_n X dX8_tellOf_9 rfl 0 rfl ?_
    refine tg_getr X 0 rfl cl_X8 2 (by decide) rfl wf_X8_16 dX8_tellOf_10 ?_
    refine tg_iload_n X dX8_tellOf_13 rfl 1 rfl ?_
    obtain ⟨y5, ey5, by5, h⟩ := tg_rdE h
    refine tg_iald X 3 rfl ey5 by5 dX8_tellOf_14 ?_
    refine tg_goto (tgt := 38) X dX8_tellOf_15 (by decide) ?_
    exact tg_iret X h rfl dX8_tellOf_38
theorem cm_X8_tellOf (l : Launch) (D : va_G) (cy : Bool → ClassId) (ad : Nat → Nat) (tS : Nat) {S Sf : tg_S} {v1 : Int32} {r : Int32} (h : f_X8_tellOf  S v1 = some (Sf, r)) : tg_Met l yX8_tellOf cX8_tellOf 2 (some .int) zr_X8_tellOf tauR D cy ad tS S [.ref (ad 0), .int v1] Sf (some (.int r)) := tg_mk (by decide +kernel) trivial (Nat.le_of_ble_eq_true rfl) (fun p e s m args below meth c Q A X => w_X8_tellOf_0 X S v1 h)
-- X8_count
def zr_X8_count : Room := { frames := 8, cells := 0, slots := 0, locals := 181 }
theorem dX8_count_0 : decode cX8_count 0 = .ok (.iload_n 1, 1) := by decide +kernel
theorem dX8_count_1 : decode cX8_count 1 = .ok (.tableswitch 100 0 8 #[51, 51, 51, 51, 57, 85, 51, 90, 95], 51) := by decide +kernel
theorem dX8_count_52 : decode cX8_count 52 = .ok (.aload_n 0, 1) := by decide +kernel
theorem dX8_count_53 : decode cX8_count 53 = .ok (.iload_n 1, 1) := by decide +kernel
theorem dX8_count_54 : decode cX8_count 54 = .ok (.invokevirtual 339, 3) := by decide +kernel
theorem dX8_count_57 : decode cX8_count 57 = .ok (.ireturn, 1) := by decide +kernel
theorem dX8_count_58 : decode cX8_count 58 = .ok (.aload_n 0, 1) := by decide +kernel
theorem dX8_count_59 : decode cX8_count 59 = .ok (.getfield 7, 3) := by decide +kernel
theorem dX8_count_62 : decode cX8_count 62 = .ok (.iconst 0, 1) := by decide +kernel
theorem dX8_count_63 : decode cX8_count 63 = .ok (.iaload, 1) := by decide +kernel
theorem dX8_count_64 : decode cX8_count 64 = .ok (.aload_n 0, 1) := by decide +kernel
theorem dX8_count_65 : decode cX8_count 65 = .ok (.getfield 7, 3) := by decide +kernel
theorem dX8_count_68 : decode cX8_count 68 = .ok (.iconst 1, 1) := by decide +kernel
theorem dX8_count_69 : decode cX8_count 69 = .ok (.iaload, 1) := by decide +kernel
theorem dX8_count_70 : decode cX8_count 70 = .ok (.iadd, 1) := by decide +kernel
theorem dX8_count_71 : decode cX8_count 71 = .ok (.aload_n 0, 1) := by decide +kernel
theorem dX8_count_72 : decode cX8_count 72 = .ok (.getfield 7, 3) := by decide +kernel
theorem dX8_count_75 : decode cX8_count 75 = .ok (.iconst 2, 1) := by decide +kernel
theorem dX8_count_76 : decode cX8_count 76 = .ok (.iaload, 1) := by decide +kernel
theorem dX8_count_77 : decode cX8_count 77 = .ok (.iadd, 1) := by decide +kernel
theorem dX8_count_78 : decode cX8_count 78 = .ok (.aload_n 0, 1) := by decide +kernel
theorem dX8_count_79 : decode cX8_count 79 = .ok (.getfield 7, 3) := by decide +kernel
theorem dX8_count_82 : decode cX8_count 82 = .ok (.iconst 3, 1) := by decide +kernel
theorem dX8_count_83 : decode cX8_count 83 = .ok (.iaload, 1) := by decide +kernel
theorem dX8_count_84 : decode cX8_count 84 = .ok (.iadd, 1) := by decide +kernel
theorem dX8_count_85 : decode cX8_count 85 = .ok (.ireturn, 1) := by decide +kernel
theorem dX8_count_86 : decode cX8_count 86 = .ok (.aload_n 0, 1) := by decide +kernel
theorem dX8_count_87 : decode cX8_count 87 = .ok (.getfield 166, 3) := by decide +kernel
theorem dX8_count_90 : decode cX8_count 90 = .ok (.ireturn, 1) := by decide +kernel
theorem dX8_count_91 : decode cX8_count 91 = .ok (.aload_n 0, 1) := by decide +kernel
theorem dX8_count_92 : decode cX8_count 92 = .ok (.getfield 293, 3) := by decide +kernel
theorem dX8_count_95 : decode cX8_count 95 = .ok (.ireturn, 1) := by decide +kernel
theorem dX8_count_96 : decode cX8_count 96 = .ok (.aload_n 0, 1) := by decide +kernel
theorem dX8_count_97 : decode cX8_count 97 = .ok (.getfield 328, 3) := by decide +kernel
theorem dX8_count_100 : decode cX8_count 100 = .ok (.ireturn, 1) := by decide +kernel
theorem dX8_count_101 : decode cX8_count 101 = .ok (.bipush (-2), 2) := by decide +kernel
theorem dX8_count_103 : decode cX8_count 103 = .ok (.ireturn, 1) := by decide +kernel
set_option maxRecDepth 20000 in
set_option maxHeartbeats 4000000 in
theorem w_X8_count_0 {x : tg_X} {Sf : tg_S} {r : Int32} (X : tg_M tauR x cX8_count 2 RX8 zr_X8_count (some .int) Sf (some (.int r))) (S : tg_S) (v1 : Int32) (h : f_X8_count  S v1 = some (Sf, r)) : tg_G tauR x S 0 [(0, .ref (tg_ad x 0)), (1, .int v1)] [] := by
  unfold f_X8_count at h
  refine tg_iload_n X dX8_count_0 rfl 1 rfl ?_
  by_cases c1 : v1 = 0
  · have h := tg_ifT c1 h
    refine tg_tsw (tgt := 52) (off := 51) X dX8_count_1 c1 (by decide) (by decide) ?_
    refine tg_aload_n X dX8_count_52 rfl 0 rfl ?_
    refine tg_iload_n X dX8_count_53 rfl 1 rfl ?_
    obtain ⟨S2, r3, kS2, h⟩ := tg_bdE h
    refine tg_callV (As := [.int v1]) (rest := []) X 0 (cm_X8_tellOf _ _ _ _ _ kS2) yy_X8_tellOf wv_X8_tellOf ws_X8_tellOf wm_X8_339 rfl cl_X8.1 ⟨rfl, rfl, Nat.le_of_ble_eq_true rfl, Nat.le_of_ble_eq_true rfl⟩ rfl rfl (Nat.le_of_ble_eq_true rfl) dX8_count_54 rfl ?_
    exact tg_iret X h rfl dX8_count_57
  have h := tg_ifF c1 h
  by_cases c4 : v1 = 1
  · have h := tg_ifT c4 h
    refine tg_tsw (tgt := 52) (off := 51) X dX8_count_1 c4 (by decide) (by decide) ?_
    refine tg_aload_n X dX8_count_52 rfl 0 rfl ?_
    refine tg_iload_n X dX8_count_53 rfl 1 rfl ?_
    obtain ⟨S5, r6, kS5, h⟩ := tg_bdE h
    refine tg_callV (As := [.int v1]) (rest := []) X 0 (cm_X8_tellOf _ _ _ _ _ kS5) yy_X8_tellOf wv_X8_tellOf ws_X8_tellOf wm_X8_339 rfl cl_X8.1 ⟨rfl, rfl, Nat.le_of_ble_eq_true rfl, Nat.le_of_ble_eq_true rfl⟩ rfl rfl (Nat.le_of_ble_eq_true rfl) dX8_count_54 rfl ?_
    exact tg_iret X h rfl dX8_count_57
  have h := tg_ifF c4 h
  by_cases c7 : v1 = 2
  · have h := tg_ifT c7 h
    refine tg_tsw (tgt := 52) (off := 51) X dX8_count_1 c7 (by decide) (by decide) ?_
    refine tg_aload_n X dX8_count_52 rfl 0 rfl ?_
    refine tg_iload_n X dX8_count_53 rfl 1 rfl ?_
    obtain ⟨S8, r9, kS8, h⟩ := tg_bdE h
    refine tg_callV (As := [.int v1]) (rest := []) X 0 (cm_X8_tellOf _ _ _ _ _ kS8) yy_X8_tellOf wv_X8_tellOf ws_X8_tellOf wm_X8_339 rfl cl_X8.1 ⟨rfl, rfl, Nat.le_of_ble_eq_true rfl, Nat.le_of_ble_eq_true rfl⟩ rfl rfl (Nat.le_of_ble_eq_true rfl) dX8_count_54 rfl ?_
    exact tg_iret X h rfl dX8_count_57
  have h := tg_ifF c7 h
  by_cases c10 : v1 = 3
  · have h := tg_ifT c10 h
    refine tg_tsw (tgt := 52) (off := 51) X dX8_count_1 c10 (by decide) (by decide) ?_
    refine tg_aload_n X dX8_count_52 rfl 0 rfl ?_
    refine tg_iload_n X dX8_count_53 rfl 1 rfl ?_
    obtain ⟨S11, r12, kS11, h⟩ := tg_bdE h
    refine tg_callV (As := [.int v1]) (rest := []) X 0 (cm_X8_tellOf _ _ _ _ _ kS11) yy_X8_tellOf wv_X8_tellOf ws_X8_tellOf wm_X8_339 rfl cl_X8.1 ⟨rfl, rfl, Nat.le_of_ble_eq_true rfl, Nat.le_of_ble_eq_true rfl⟩ rfl rfl (Nat.le_of_ble_eq_true rfl) dX8_count_54 rfl ?_
    exact tg_iret X h rfl dX8_count_57
  have h := tg_ifF c10 h
  by_cases c13 : v1 = 4
  · have h := tg_ifT c13 h
    refine tg_tsw (tgt := 58) (off := 57) X dX8_count_1 c13 (by decide) (by decide) ?_
    refine tg_aload_n X dX8_count_58 rfl 0 rfl ?_
    refine tg_getr X 0 rfl cl_X8 0 (by decide) rfl wf_X8_7 dX8_count_59 ?_
    refine tg_iconst X dX8_count_62 tk_i0 ?_
    obtain ⟨y14, ey14, by14, h⟩ := tg_rdE h
    refine tg_iald X 1 rfl ey14 by14 dX8_count_63 ?_
    refine tg_aload_n X dX8_count_64 rfl 0 rfl ?_
    refine tg_getr X 0 rfl cl_X8 0 (by decide) rfl wf_X8_7 dX8_count_65 ?_
    refine tg_iconst X dX8_count_68 tk_i1 ?_
    obtain ⟨y15, ey15, by15, h⟩ := tg_rdE h
    refine tg_iald X 1 rfl ey15 by15 dX8_count_69 ?_
    refine tg_iadd X dX8_count_70 ?_
    refine tg_aload_n X dX8_count_71 rfl 0 rfl ?_
    refine tg_getr X 0 rfl cl_X8 0 (by decide) rfl wf_X8_7 dX8_count_72 ?_
    refine tg_iconst X dX8_count_75 tk_i2 ?_
    obtain ⟨y16, ey16, by16, h⟩ := tg_rdE h
    refine tg_iald X 1 rfl ey16 by16 dX8_count_76 ?_
    refine tg_iadd X dX8_count_77 ?_
    refine tg_aload_n X dX8_count_78 rfl 0 rfl ?_
    refine tg_getr X 0 rfl cl_X8 0 (by decide) rfl wf_X8_7 dX8_count_79 ?_
    refine tg_iconst X dX8_count_82 tk_i3 ?_
    obtain ⟨y17, ey17, by17, h⟩ := tg_rdE h
    refine tg_iald X 1 rfl ey17 by17 dX8_count_83 ?_
    refine tg_iadd X dX8_count_84 ?_
    exact tg_iret X h rfl dX8_count_85
  have h := tg_ifF c13 h
  by_cases c18 : v1 = 5
  · have h := tg_ifT c18 h
    refine tg_tsw (tgt := 86) (off := 85) X dX8_count_1 c18 (by decide) (by decide) ?_
    refine tg_aload_n X dX8_count_86 rfl 0 rfl ?_
    refine tg_geti X 0 rfl cl_X8 9 (by decide) rfl wf_X8_166 dX8_count_87 ?_
    exact tg_iret X h rfl dX8_count_90
  have h := tg_ifF c18 h
  by_cases c19 : v1 = 6
  · have h := tg_ifT c19 h
    refine tg_tsw (tgt := 52) (off := 51) X dX8_count_1 c19 (by decide) (by decide) ?_
    refine tg_aload_n X dX8_count_52 rfl 0 rfl ?_
    refine tg_iload_n X dX8_count_53 rfl 1 rfl ?_
    obtain ⟨S20, r21, kS20, h⟩ := tg_bdE h
    refine tg_callV (As := [.int v1]) (rest := []) X 0 (cm_X8_tellOf _ _ _ _ _ kS20) yy_X8_tellOf wv_X8_tellOf ws_X8_tellOf wm_X8_339 rfl cl_X8.1 ⟨rfl, rfl, Nat.le_of_ble_eq_true rfl, Nat.le_of_ble_eq_true rfl⟩ rfl rfl (Nat.le_of_ble_eq_true rfl) dX8_count_54 rfl ?_
    exact tg_iret X h rfl dX8_count_57
  have h := tg_ifF c19 h
  by_cases c22 : v1 = 7
  · have h := tg_ifT c22 h
    refine tg_tsw (tgt := 91) (off := 90) X dX8_count_1 c22 (by decide) (by decide) ?_
    refine tg_aload_n X dX8_count_91 rfl 0 rfl ?_
    refine tg_geti X 0 rfl cl_X8 37 (by decide) rfl wf_X8_293 dX8_count_92 ?_
    exact tg_iret X h rfl dX8_count_95
  have h := tg_ifF c22 h
  by_cases c23 : v1 = 8
  · have h := tg_ifT c23 h
    refine tg_tsw (tgt := 96) (off := 95) X dX8_count_1 c23 (by decide) (by decide) ?_
    refine tg_aload_n X dX8_count_96 rfl 0 rfl ?_
    refine tg_geti X 0 rfl cl_X8 46 (by decide) rfl wf_X8_328 dX8_count_97 ?_
    exact tg_iret X h rfl dX8_count_100
  have h := tg_ifF c23 h
  refine tg_tswD (tgt := 101) X dX8_count_1 (by have q0 := tg_nei (b := 0) (z := 0) rfl c1; have q1 := tg_nei (b := 1) (z := 1) rfl c4; have q2 := tg_nei (b := 2) (z := 2) rfl c7; have q3 := tg_nei (b := 3) (z := 3) rfl c10; have q4 := tg_nei (b := 4) (z := 4) rfl c13; have q5 := tg_nei (b := 5) (z := 5) rfl c18; have q6 := tg_nei (b := 6) (z := 6) rfl c19; have q7 := tg_nei (b := 7) (z := 7) rfl c22; have q8 := tg_nei (b := 8) (z := 8) rfl c23; omega) (by decide) ?_
  refine tg_bipush X dX8_count_101 tk_bm2 ?_
  exact tg_iret X h rfl dX8_count_103
theorem cm_X8_count (l : Launch) (D : va_G) (cy : Bool → ClassId) (ad : Nat → Nat) (tS : Nat) {S Sf : tg_S} {v1 : Int32} {r : Int32} (h : f_X8_count  S v1 = some (Sf, r)) : tg_Met l yX8_count cX8_count 2 (some .int) zr_X8_count tauR D cy ad tS S [.ref (ad 0), .int v1] Sf (some (.int r)) := tg_mk (by decide +kernel) trivial (Nat.le_of_ble_eq_true rfl) (fun p e s m args below meth c Q A X => w_X8_count_0 X S v1 h)
-- X8_beatDigest
def zr_X8_beatDigest : Room := { frames := 8, cells := 0, slots := 0, locals := 183 }
theorem dX8_beatDigest_0 : decode cX8_beatDigest 0 = .ok (.ldc2_w 342, 3) := by decide +kernel
theorem dX8_beatDigest_3 : decode cX8_beatDigest 3 = .ok (.lload_n 1, 1) := by decide +kernel
theorem dX8_beatDigest_4 : decode cX8_beatDigest 4 = .ok (.lmul, 1) := by decide +kernel
theorem dX8_beatDigest_5 : decode cX8_beatDigest 5 = .ok (.aload_n 0, 1) := by decide +kernel
theorem dX8_beatDigest_6 : decode cX8_beatDigest 6 = .ok (.iload_n 3, 1) := by decide +kernel
theorem dX8_beatDigest_7 : decode cX8_beatDigest 7 = .ok (.iload 4, 2) := by decide +kernel
theorem dX8_beatDigest_9 : decode cX8_beatDigest 9 = .ok (.iconst 0, 1) := by decide +kernel
theorem dX8_beatDigest_10 : decode cX8_beatDigest 10 = .ok (.invokevirtual 241, 3) := by decide +kernel
theorem dX8_beatDigest_13 : decode cX8_beatDigest 13 = .ok (.i2l, 1) := by decide +kernel
theorem dX8_beatDigest_14 : decode cX8_beatDigest 14 = .ok (.ladd, 1) := by decide +kernel
theorem dX8_beatDigest_15 : decode cX8_beatDigest 15 = .ok (.lstore 5, 2) := by decide +kernel
theorem dX8_beatDigest_17 : decode cX8_beatDigest 17 = .ok (.ldc2_w 342, 3) := by decide +kernel
theorem dX8_beatDigest_20 : decode cX8_beatDigest 20 = .ok (.lload 5, 2) := by decide +kernel
theorem dX8_beatDigest_22 : decode cX8_beatDigest 22 = .ok (.lmul, 1) := by decide +kernel
theorem dX8_beatDigest_23 : decode cX8_beatDigest 23 = .ok (.aload_n 0, 1) := by decide +kernel
theorem dX8_beatDigest_24 : decode cX8_beatDigest 24 = .ok (.iload_n 3, 1) := by decide +kernel
theorem dX8_beatDigest_25 : decode cX8_beatDigest 25 = .ok (.iload 4, 2) := by decide +kernel
theorem dX8_beatDigest_27 : decode cX8_beatDigest 27 = .ok (.iconst 1, 1) := by decide +kernel
theorem dX8_beatDigest_28 : decode cX8_beatDigest 28 = .ok (.invokevirtual 241, 3) := by decide +kernel
theorem dX8_beatDigest_31 : decode cX8_beatDigest 31 = .ok (.i2l, 1) := by decide +kernel
theorem dX8_beatDigest_32 : decode cX8_beatDigest 32 = .ok (.ladd, 1) := by decide +kernel
theorem dX8_beatDigest_33 : decode cX8_beatDigest 33 = .ok (.lreturn, 1) := by decide +kernel
set_option maxRecDepth 20000 in
set_option maxHeartbeats 4000000 in
theorem w_X8_beatDigest_0 {x : tg_X} {Sf : tg_S} {r : Int64} (X : tg_M tauR x cX8_beatDigest 7 RX8 zr_X8_beatDigest (some .long) Sf (some (.long r))) (S : tg_S) (v1 : Int64) (v3 : Int32) (v4 : Int32) (h : f_X8_beatDigest  S v1 v3 v4 = some (Sf, r)) : tg_G tauR x S 0 [(0, .ref (tg_ad x 0)), (1, .long v1), (3, .int v3), (4, .int v4)] [] := by
  unfold f_X8_beatDigest at h
  refine tg_ldc2 X wk_X8_342 dX8_beatDigest_0 ?_
  refine tg_lload_n X dX8_beatDigest_3 rfl 1 rfl ?_
  refine tg_lmul X dX8_beatDigest_4 ?_
  refine tg_aload_n X dX8_beatDigest_5 rfl 0 rfl ?_
  refine tg_iload_n X dX8_beatDigest_6 rfl 2 rfl ?_
  refine tg_iload X dX8_beatDigest_7 3 rfl ?_
  refine tg_iconst X dX8_beatDigest_9 tk_i0 ?_
  obtain ⟨S1, r2, kS1, h⟩ := tg_bdE h
  refine tg_callV (As := [.int v3, .int v4, .int 0]) (rest := [.long (31 * v1)]) X 0 (cm_X8_atOf _ _ _ _ _ kS1) yy_X8_atOf wv_X8_atOf ws_X8_atOf wm_X8_241 rfl cl_X8.1 ⟨rfl, rfl, Nat.le_of_ble_eq_true rfl, Nat.le_of_ble_eq_true rfl⟩ rfl rfl (Nat.le_of_ble_eq_true rfl) dX8_beatDigest_10 rfl ?_
  refine tg_i2l X dX8_beatDigest_13 ?_
  refine tg_ladd X dX8_beatDigest_14 ?_
  refine tg_topl (fun y3 ey3 => ?_)
  have h := tg_nmE ey3 h
  refine tg_lstore (lv2 := [(5, .long y3), (0, .ref (tg_ad x 0)), (1, .long v1), (3, .int v3), (4, .int v4)]) X dX8_beatDigest_15 (by decide) rfl ?_
  refine tg_ldc2 X wk_X8_342 dX8_beatDigest_17 ?_
  refine tg_lload X dX8_beatDigest_20 0 rfl ?_
  refine tg_lmul X dX8_beatDigest_22 ?_
  refine tg_aload_n X dX8_beatDigest_23 rfl 1 rfl ?_
  refine tg_iload_n X dX8_beatDigest_24 rfl 3 rfl ?_
  refine tg_iload X dX8_beatDigest_25 4 rfl ?_
  refine tg_iconst X dX8_beatDigest_27 tk_i1 ?_
  obtain ⟨S4, r5, kS4, h⟩ := tg_bdE h
  refine tg_callV (As := [.int v3, .int v4, .int 1]) (rest := [.long (31 * y3)]) X 0 (cm_X8_atOf _ _ _ _ _ kS4) yy_X8_atOf wv_X8_atOf ws_X8_atOf wm_X8_241 rfl cl_X8.1 ⟨rfl, rfl, Nat.le_of_ble_eq_true rfl, Nat.le_of_ble_eq_true rfl⟩ rfl rfl (Nat.le_of_ble_eq_true rfl) dX8_beatDigest_28 rfl ?_
  refine tg_i2l X dX8_beatDigest_31 ?_
  refine tg_ladd X dX8_beatDigest_32 ?_
  exact tg_lret X h rfl dX8_beatDigest_33
theorem cm_X8_beatDigest (l : Launch) (D : va_G) (cy : Bool → ClassId) (ad : Nat → Nat) (tS : Nat) {S Sf : tg_S} {v1 : Int64} {v3 : Int32} {v4 : Int32} {r : Int64} (h : f_X8_beatDigest  S v1 v3 v4 = some (Sf, r)) : tg_Met l yX8_beatDigest cX8_beatDigest 7 (some .long) zr_X8_beatDigest tauR D cy ad tS S [.ref (ad 0), .long v1, .int v3, .int v4] Sf (some (.long r)) := tg_mk (by decide +kernel) trivial (Nat.le_of_ble_eq_true rfl) (fun p e s m args below meth c Q A X => w_X8_beatDigest_0 X S v1 v3 v4 h)
