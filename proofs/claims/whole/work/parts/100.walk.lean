-- X6_byteAt
def zr_X6_byteAt : Room := { frames := 0, cells := 0, slots := 0, locals := 0 }
theorem dX6_byteAt_0 : decode cX6_byteAt 0 = .ok (.aload_n 0, 1) := by decide +kernel
theorem dX6_byteAt_1 : decode cX6_byteAt 1 = .ok (.getfield 9, 3) := by decide +kernel
theorem dX6_byteAt_4 : decode cX6_byteAt 4 = .ok (.iload_n 1, 1) := by decide +kernel
theorem dX6_byteAt_5 : decode cX6_byteAt 5 = .ok (.bipush 31, 2) := by decide +kernel
theorem dX6_byteAt_7 : decode cX6_byteAt 7 = .ok (.imul, 1) := by decide +kernel
theorem dX6_byteAt_8 : decode cX6_byteAt 8 = .ok (.iload_n 2, 1) := by decide +kernel
theorem dX6_byteAt_9 : decode cX6_byteAt 9 = .ok (.iadd, 1) := by decide +kernel
theorem dX6_byteAt_10 : decode cX6_byteAt 10 = .ok (.iaload, 1) := by decide +kernel
theorem dX6_byteAt_11 : decode cX6_byteAt 11 = .ok (.ireturn, 1) := by decide +kernel
set_option maxRecDepth 20000 in
set_option maxHeartbeats 4000000 in
theorem w_X6_byteAt_0 {x : tg_X} {Sf : tg_S} {r : Int32} (X : tg_M tauC x cX6_byteAt 3 RX6 zr_X6_byteAt (some .int) Sf (some (.int r))) (S : tg_S) (v1 : Int32) (v2 : Int32) (h : f_X6_byteAt  S v1 v2 = some (Sf, r)) : tg_G tauC x S 0 [(0, .ref (tg_ad x 1)), (1, .int v1), (2, .int v2)] [] := by
  unfold f_X6_byteAt at h
  refine tg_aload_n X dX6_byteAt_0 rfl 0 rfl ?_
  refine tg_getr X 1 rfl cl_X6 0 (by decide) rfl wf_X6_9 dX6_byteAt_1 ?_
  refine tg_iload_n X dX6_byteAt_4 rfl 1 rfl ?_
  refine tg_bipush X dX6_byteAt_5 tk_b31 ?_
  refine tg_imul X dX6_byteAt_7 ?_
  refine tg_iload_n X dX6_byteAt_8 rfl 2 rfl ?_
  refine tg_iadd X dX6_byteAt_9 ?_
  obtain ⟨y1, ey1, by1, h⟩ := tg_rdE h
  refine tg_iald X 2 rfl ey1 by1 dX6_byteAt_10 ?_
  exact tg_iret X h rfl dX6_byteAt_11
theorem cm_X6_byteAt (l : Launch) (D : va_G) (cy : Bool → ClassId) (ad : Nat → Nat) (tS : Nat) {S Sf : tg_S} {v1 : Int32} {v2 : Int32} {r : Int32} (h : f_X6_byteAt  S v1 v2 = some (Sf, r)) : tg_Met l yX6_byteAt cX6_byteAt 3 (some .int) zr_X6_byteAt tauC D cy ad tS S [.ref (ad 1), .int v1, .int v2] Sf (some (.int r)) := tg_mk (by decide +kernel) trivial (Nat.le_of_ble_eq_true rfl) (fun p e s m args below meth c Q A X => w_X6_byteAt_0 X S v1 v2 h)
-- X6_callOf
def zr_X6_callOf : Room := { frames := 0, cells := 0, slots := 0, locals := 0 }
theorem dX6_callOf_0 : decode cX6_callOf 0 = .ok (.iload_n 0, 1) := by decide +kernel
theorem dX6_callOf_1 : decode cX6_callOf 1 = .ok (.lookupswitch 41 #[(104, 39), (112, 37), (114, 35)], 35) := by decide +kernel
theorem dX6_callOf_36 : decode cX6_callOf 36 = .ok (.iconst 0, 1) := by decide +kernel
theorem dX6_callOf_37 : decode cX6_callOf 37 = .ok (.ireturn, 1) := by decide +kernel
theorem dX6_callOf_38 : decode cX6_callOf 38 = .ok (.iconst 1, 1) := by decide +kernel
theorem dX6_callOf_39 : decode cX6_callOf 39 = .ok (.ireturn, 1) := by decide +kernel
theorem dX6_callOf_40 : decode cX6_callOf 40 = .ok (.iconst 2, 1) := by decide +kernel
theorem dX6_callOf_41 : decode cX6_callOf 41 = .ok (.ireturn, 1) := by decide +kernel
theorem dX6_callOf_42 : decode cX6_callOf 42 = .ok (.iconst (-1), 1) := by decide +kernel
theorem dX6_callOf_43 : decode cX6_callOf 43 = .ok (.ireturn, 1) := by decide +kernel
set_option maxRecDepth 20000 in
set_option maxHeartbeats 4000000 in
theorem w_X6_callOf_0 {x : tg_X} {Sf : tg_S} {r : Int32} (X : tg_M tauC x cX6_callOf 1 RX6 zr_X6_callOf (some .int) Sf (some (.int r))) (S : tg_S) (v0 : Int32) (h : f_X6_callOf  S v0 = some (Sf, r)) : tg_G tauC x S 0 [(0, .int v0)] [] := by
  unfold f_X6_callOf at h
  refine tg_iload_n X dX6_callOf_0 rfl 0 rfl ?_
  by_cases c1 : v0 = 104
  · have h := tg_ifT c1 h
    refine tg_lsw (tgt := 40) (off := 39) X dX6_callOf_1 (by decide) (by rw [c1]; decide) (by decide) ?_
    refine tg_iconst X dX6_callOf_40 tk_i2 ?_
    exact tg_iret X h rfl dX6_callOf_41
  have h := tg_ifF c1 h
  by_cases c2 : v0 = 112
  · have h := tg_ifT c2 h
    refine tg_lsw (tgt := 38) (off := 37) X dX6_callOf_1 (by decide) (by rw [c2]; decide) (by decide) ?_
    refine tg_iconst X dX6_callOf_38 tk_i1 ?_
    exact tg_iret X h rfl dX6_callOf_39
  have h := tg_ifF c2 h
  by_cases c3 : v0 = 114
  · have h := tg_ifT c3 h
    refine tg_lsw (tgt := 36) (off := 35) X dX6_callOf_1 (by decide) (by rw [c3]; decide) (by decide) ?_
    refine tg_iconst X dX6_callOf_36 tk_i0 ?_
    exact tg_iret X h rfl dX6_callOf_37
  have h := tg_ifF c3 h
  refine tg_lsw (tgt := 42) (off := 41) X dX6_callOf_1 (by decide) (by have q104 := tg_nei (b := 104) (z := 104) rfl c1; have q112 := tg_nei (b := 112) (z := 112) rfl c2; have q114 := tg_nei (b := 114) (z := 114) rfl c3; exact tg_lsD3 q104 q112 q114) (by decide) ?_
  refine tg_iconst X dX6_callOf_42 tk_im1 ?_
  exact tg_iret X h rfl dX6_callOf_43
theorem cm_X6_callOf (l : Launch) (D : va_G) (cy : Bool → ClassId) (ad : Nat → Nat) (tS : Nat) {S Sf : tg_S} {v0 : Int32} {r : Int32} (h : f_X6_callOf  S v0 = some (Sf, r)) : tg_Met l yX6_callOf cX6_callOf 1 (some .int) zr_X6_callOf tauC D cy ad tS S [.int v0] Sf (some (.int r)) := tg_mk (by decide +kernel) trivial (Nat.le_of_ble_eq_true rfl) (fun p e s m args below meth c Q A X => w_X6_callOf_0 X S v0 h)
-- X6_teamGoesOn
def zr_X6_teamGoesOn : Room := { frames := 0, cells := 0, slots := 0, locals := 0 }
theorem dX6_teamGoesOn_0 : decode cX6_teamGoesOn 0 = .ok (.iload_n 0, 1) := by decide +kernel
theorem dX6_teamGoesOn_1 : decode cX6_teamGoesOn 1 = .ok (.lookupswitch 63 #[(0, 27), (3, 51)], 27) := by decide +kernel
theorem dX6_teamGoesOn_28 : decode cX6_teamGoesOn 28 = .ok (.iload_n 1, 1) := by decide +kernel
theorem dX6_teamGoesOn_29 : decode cX6_teamGoesOn 29 = .ok (.bipush 104, 2) := by decide +kernel
theorem dX6_teamGoesOn_31 : decode cX6_teamGoesOn 31 = .ok (.if_icmp .eq 15, 3) := by decide +kernel
theorem dX6_teamGoesOn_34 : decode cX6_teamGoesOn 34 = .ok (.iload_n 1, 1) := by decide +kernel
theorem dX6_teamGoesOn_35 : decode cX6_teamGoesOn 35 = .ok (.bipush 108, 2) := by decide +kernel
theorem dX6_teamGoesOn_37 : decode cX6_teamGoesOn 37 = .ok (.if_icmp .eq 9, 3) := by decide +kernel
theorem dX6_teamGoesOn_40 : decode cX6_teamGoesOn 40 = .ok (.iload_n 1, 1) := by decide +kernel
theorem dX6_teamGoesOn_41 : decode cX6_teamGoesOn 41 = .ok (.bipush 97, 2) := by decide +kernel
theorem dX6_teamGoesOn_43 : decode cX6_teamGoesOn 43 = .ok (.if_icmp .ne 7, 3) := by decide +kernel
theorem dX6_teamGoesOn_46 : decode cX6_teamGoesOn 46 = .ok (.iconst 1, 1) := by decide +kernel
theorem dX6_teamGoesOn_47 : decode cX6_teamGoesOn 47 = .ok (.goto 4, 3) := by decide +kernel
theorem dX6_teamGoesOn_50 : decode cX6_teamGoesOn 50 = .ok (.iconst 0, 1) := by decide +kernel
theorem dX6_teamGoesOn_51 : decode cX6_teamGoesOn 51 = .ok (.ireturn, 1) := by decide +kernel
theorem dX6_teamGoesOn_52 : decode cX6_teamGoesOn 52 = .ok (.iload_n 1, 1) := by decide +kernel
theorem dX6_teamGoesOn_53 : decode cX6_teamGoesOn 53 = .ok (.bipush 59, 2) := by decide +kernel
theorem dX6_teamGoesOn_55 : decode cX6_teamGoesOn 55 = .ok (.if_icmp .ne 7, 3) := by decide +kernel
theorem dX6_teamGoesOn_58 : decode cX6_teamGoesOn 58 = .ok (.iconst 1, 1) := by decide +kernel
theorem dX6_teamGoesOn_59 : decode cX6_teamGoesOn 59 = .ok (.goto 4, 3) := by decide +kernel
theorem dX6_teamGoesOn_62 : decode cX6_teamGoesOn 62 = .ok (.iconst 0, 1) := by decide +kernel
theorem dX6_teamGoesOn_63 : decode cX6_teamGoesOn 63 = .ok (.ireturn, 1) := by decide +kernel
theorem dX6_teamGoesOn_64 : decode cX6_teamGoesOn 64 = .ok (.iload_n 1, 1) := by decide +kernel
theorem dX6_teamGoesOn_65 : decode cX6_teamGoesOn 65 = .ok (.bipush 49, 2) := by decide +kernel
theorem dX6_teamGoesOn_67 : decode cX6_teamGoesOn 67 = .ok (.if_icmp .lt 13, 3) := by decide +kernel
theorem dX6_teamGoesOn_70 : decode cX6_teamGoesOn 70 = .ok (.iload_n 1, 1) := by decide +kernel
theorem dX6_teamGoesOn_71 : decode cX6_teamGoesOn 71 = .ok (.bipush 57, 2) := by decide +kernel
theorem dX6_teamGoesOn_73 : decode cX6_teamGoesOn 73 = .ok (.if_icmp .gt 7, 3) := by decide +kernel
theorem dX6_teamGoesOn_76 : decode cX6_teamGoesOn 76 = .ok (.iconst 1, 1) := by decide +kernel
theorem dX6_teamGoesOn_77 : decode cX6_teamGoesOn 77 = .ok (.goto 4, 3) := by decide +kernel
theorem dX6_teamGoesOn_80 : decode cX6_teamGoesOn 80 = .ok (.iconst 0, 1) := by decide +kernel
theorem dX6_teamGoesOn_81 : decode cX6_teamGoesOn 81 = .ok (.ireturn, 1) := by decide +kernel
set_option maxRecDepth 20000 in
set_option maxHeartbeats 4000000 in
theorem w_X6_teamGoesOn_0 {x : tg_X} {Sf : tg_S} {r : Int32} (X : tg_M tauC x cX6_teamGoesOn 2 RX6 zr_X6_teamGoesOn (some .boolean) Sf (some (.int r))) (S : tg_S) (v0 : Int32) (v1 : Int32) (h : f_X6_teamGoesOn  S v0 v1 = some (Sf, r)) : tg_G tauC x S 0 [(0, .int v0), (1, .int v1)] [] := by
  unfold f_X6_teamGoesOn at h
  refine tg_iload_n X dX6_teamGoesOn_0 rfl 0 rfl ?_
  by_cases c1 : v0 = 0
  · have h := tg_ifT c1 h
    refine tg_lsw (tgt := 28) (off := 27) X dX6_teamGoesOn_1 (by decide) (by rw [c1]; decide) (by decide) ?_
    refine tg_iload_n X dX6_teamGoesOn_28 rfl 1 rfl ?_
    refine tg_bipush X dX6_teamGoesOn_29 tk_b104 ?_
    refine tg_icmp_eq (tgt := 46) X dX6_teamGoesOn_31 (by decide) (fun c2 => ?_) (fun c2 => ?_)
    · have h := tg_ifT c2 h
      refine tg_iconst X dX6_teamGoesOn_46 tk_i1 ?_
      refine tg_goto (tgt := 51) X dX6_teamGoesOn_47 (by decide) ?_
      exact tg_iret X h rfl dX6_teamGoesOn_51
    · have h := tg_ifF c2 h
      refine tg_iload_n X dX6_teamGoesOn_34 rfl 1 rfl ?_
      refine tg_bipush X dX6_teamGoesOn_35 tk_b108 ?_
      refine tg_icmp_eq (tgt := 46) X dX6_teamGoesOn_37 (by decide) (fun c3 => ?_) (fun c3 => ?_)
      · have h := tg_ifT c3 h
        refine tg_iconst X dX6_teamGoesOn_46 tk_i1 ?_
        refine tg_goto (tgt := 51) X dX6_teamGoesOn_47 (by decide) ?_
        exact tg_iret X h rfl dX6_teamGoesOn_51
      · have h := tg_ifF c3 h
        refine tg_iload_n X dX6_teamGoesOn_40 rfl 1 rfl ?_
        refine tg_bipush X dX6_teamGoesOn_41 tk_b97 ?_
        refine tg_icmp_ne (tgt := 50) X dX6_teamGoesOn_43 (by decide) (fun c4 => ?_) (fun c4 => ?_)
        · have h := tg_ifF c4 h
          refine tg_iconst X dX6_teamGoesOn_50 tk_i0 ?_
          exact tg_iret X h rfl dX6_teamGoesOn_51
        · have h := tg_ifT c4 h
          refine tg_iconst X dX6_teamGoesOn_46 tk_i1 ?_
          refine tg_goto (tgt := 51) X dX6_teamGoesOn_47 (by decide) ?_
          exact tg_iret X h rfl dX6_teamGoesOn_51
  have h := tg_ifF c1 h
  by_cases c5 : v0 = 3
  · have h := tg_ifT c5 h
    refine tg_lsw (tgt := 52) (off := 51) X dX6_teamGoesOn_1 (by decide) (by rw [c5]; decide) (by decide) ?_
    refine tg_iload_n X dX6_teamGoesOn_52 rfl 1 rfl ?_
    refine tg_bipush X dX6_teamGoesOn_53 tk_b59 ?_
    refine tg_icmp_ne (tgt := 62) X dX6_teamGoesOn_55 (by decide) (fun c6 => ?_) (fun c6 => ?_)
    · have h := tg_ifF c6 h
      refine tg_iconst X dX6_teamGoesOn_62 tk_i0 ?_
      exact tg_iret X h rfl dX6_teamGoesOn_63
    · have h := tg_ifT c6 h
      refine tg_iconst X dX6_teamGoesOn_58 tk_i1 ?_
      refine tg_goto (tgt := 63) X dX6_teamGoesOn_59 (by decide) ?_
      exact tg_iret X h rfl dX6_teamGoesOn_63
  have h := tg_ifF c5 h
  refine tg_lsw (tgt := 64) (off := 63) X dX6_teamGoesOn_1 (by decide) (by have q0 := tg_nei (b := 0) (z := 0) rfl c1; have q3 := tg_nei (b := 3) (z := 3) rfl c5; exact tg_lsD2 q0 q3) (by decide) ?_
  refine tg_iload_n X dX6_teamGoesOn_64 rfl 1 rfl ?_
  refine tg_bipush X dX6_teamGoesOn_65 tk_b49 ?_
  refine tg_icmp_lt (tgt := 80) X dX6_teamGoesOn_67 (by decide) (fun c7 => ?_) (fun c7 => ?_)
  · have h := tg_ifT c7 h
    refine tg_iconst X dX6_teamGoesOn_80 tk_i0 ?_
    exact tg_iret X h rfl dX6_teamGoesOn_81
  · have h := tg_ifF c7 h
    refine tg_iload_n X dX6_teamGoesOn_70 rfl 1 rfl ?_
    refine tg_bipush X dX6_teamGoesOn_71 tk_b57 ?_
    refine tg_icmp_gt (tgt := 80) X dX6_teamGoesOn_73 (by decide) (fun c8 => ?_) (fun c8 => ?_)
    · have h := tg_ifT c8 h
      refine tg_iconst X dX6_teamGoesOn_80 tk_i0 ?_
      exact tg_iret X h rfl dX6_teamGoesOn_81
    · have h := tg_ifF c8 h
      refine tg_iconst X dX6_teamGoesOn_76 tk_i1 ?_
      refine tg_goto (tgt := 81) X dX6_teamGoesOn_77 (by decide) ?_
      exact tg_iret X h rfl dX6_teamGoesOn_81
theorem cm_X6_teamGoesOn (l : Launch) (D : va_G) (cy : Bool → ClassId) (ad : Nat → Nat) (tS : Nat) {S Sf : tg_S} {v0 : Int32} {v1 : Int32} {r : Int32} (h : f_X6_teamGoesOn  S v0 v1 = some (Sf, r)) : tg_Met l yX6_teamGoesOn cX6_teamGoesOn 2 (some .boolean) zr_X6_teamGoesOn tauC D cy ad tS S [.int v0, .int v1] Sf (some (.int r)) := tg_mk (by decide +kernel) trivial (Nat.le_of_ble_eq_true rfl) (fun p e s m args below meth c Q A X => w_X6_teamGoesOn_0 X S v0 v1 h)
-- X6_firstFault
def zr_X6_firstFault : Room := { frames := 1, cells := 0, slots := 0, locals := 22 }
theorem dX6_firstFault_0 : decode cX6_firstFault 0 = .ok (.aload_n 0, 1) := by decide +kernel
theorem dX6_firstFault_1 : decode cX6_firstFault 1 = .ok (.getfield 15, 3) := by decide +kernel
theorem dX6_firstFault_4 : decode cX6_firstFault 4 = .ok (.iload_n 1, 1) := by decide +kernel
theorem dX6_firstFault_5 : decode cX6_firstFault 5 = .ok (.iaload, 1) := by decide +kernel
theorem dX6_firstFault_6 : decode cX6_firstFault 6 = .ok (.istore_n 2, 1) := by decide +kernel
theorem dX6_firstFault_7 : decode cX6_firstFault 7 = .ok (.iconst 0, 1) := by decide +kernel
theorem dX6_firstFault_8 : decode cX6_firstFault 8 = .ok (.istore_n 3, 1) := by decide +kernel
theorem dX6_firstFault_9 : decode cX6_firstFault 9 = .ok (.iload_n 3, 1) := by decide +kernel
theorem dX6_firstFault_10 : decode cX6_firstFault 10 = .ok (.iload_n 2, 1) := by decide +kernel
theorem dX6_firstFault_11 : decode cX6_firstFault 11 = .ok (.if_icmp .ge 47, 3) := by decide +kernel
theorem dX6_firstFault_14 : decode cX6_firstFault 14 = .ok (.aload_n 0, 1) := by decide +kernel
theorem dX6_firstFault_15 : decode cX6_firstFault 15 = .ok (.iload_n 1, 1) := by decide +kernel
theorem dX6_firstFault_16 : decode cX6_firstFault 16 = .ok (.iload_n 3, 1) := by decide +kernel
theorem dX6_firstFault_17 : decode cX6_firstFault 17 = .ok (.invokevirtual 22, 3) := by decide +kernel
theorem dX6_firstFault_20 : decode cX6_firstFault 20 = .ok (.istore 4, 2) := by decide +kernel
theorem dX6_firstFault_22 : decode cX6_firstFault 22 = .ok (.iload_n 1, 1) := by decide +kernel
theorem dX6_firstFault_23 : decode cX6_firstFault 23 = .ok (.iconst 2, 1) := by decide +kernel
theorem dX6_firstFault_24 : decode cX6_firstFault 24 = .ok (.if_icmp .ge 17, 3) := by decide +kernel
theorem dX6_firstFault_27 : decode cX6_firstFault 27 = .ok (.iload_n 3, 1) := by decide +kernel
theorem dX6_firstFault_28 : decode cX6_firstFault 28 = .ok (.iconst 4, 1) := by decide +kernel
theorem dX6_firstFault_29 : decode cX6_firstFault 29 = .ok (.irem, 1) := by decide +kernel
theorem dX6_firstFault_30 : decode cX6_firstFault 30 = .ok (.iload 4, 2) := by decide +kernel
theorem dX6_firstFault_32 : decode cX6_firstFault 32 = .ok (.invokestatic 26, 3) := by decide +kernel
theorem dX6_firstFault_35 : decode cX6_firstFault 35 = .ok (.ifCond .ne 17, 3) := by decide +kernel
theorem dX6_firstFault_38 : decode cX6_firstFault 38 = .ok (.goto 12, 3) := by decide +kernel
theorem dX6_firstFault_41 : decode cX6_firstFault 41 = .ok (.iload 4, 2) := by decide +kernel
theorem dX6_firstFault_43 : decode cX6_firstFault 43 = .ok (.invokestatic 30, 3) := by decide +kernel
theorem dX6_firstFault_46 : decode cX6_firstFault 46 = .ok (.iconst (-1), 1) := by decide +kernel
theorem dX6_firstFault_47 : decode cX6_firstFault 47 = .ok (.if_icmp .ne 5, 3) := by decide +kernel
theorem dX6_firstFault_50 : decode cX6_firstFault 50 = .ok (.iload_n 3, 1) := by decide +kernel
theorem dX6_firstFault_51 : decode cX6_firstFault 51 = .ok (.ireturn, 1) := by decide +kernel
theorem dX6_firstFault_52 : decode cX6_firstFault 52 = .ok (.iinc 3 1, 3) := by decide +kernel
theorem dX6_firstFault_55 : decode cX6_firstFault 55 = .ok (.goto (-46), 3) := by decide +kernel
theorem dX6_firstFault_58 : decode cX6_firstFault 58 = .ok (.iload_n 1, 1) := by decide +kernel
theorem dX6_firstFault_59 : decode cX6_firstFault 59 = .ok (.iconst 2, 1) := by decide +kernel
theorem dX6_firstFault_60 : decode cX6_firstFault 60 = .ok (.if_icmp .ge 14, 3) := by decide +kernel
theorem dX6_firstFault_63 : decode cX6_firstFault 63 = .ok (.iload_n 2, 1) := by decide +kernel
theorem dX6_firstFault_64 : decode cX6_firstFault 64 = .ok (.ifCond .eq 10, 3) := by decide +kernel
theorem dX6_firstFault_67 : decode cX6_firstFault 67 = .ok (.iload_n 2, 1) := by decide +kernel
theorem dX6_firstFault_68 : decode cX6_firstFault 68 = .ok (.iconst 4, 1) := by decide +kernel
theorem dX6_firstFault_69 : decode cX6_firstFault 69 = .ok (.irem, 1) := by decide +kernel
theorem dX6_firstFault_70 : decode cX6_firstFault 70 = .ok (.iconst 3, 1) := by decide +kernel
theorem dX6_firstFault_71 : decode cX6_firstFault 71 = .ok (.if_icmp .ne 7, 3) := by decide +kernel
theorem dX6_firstFault_74 : decode cX6_firstFault 74 = .ok (.iconst 1, 1) := by decide +kernel
theorem dX6_firstFault_75 : decode cX6_firstFault 75 = .ok (.goto 4, 3) := by decide +kernel
theorem dX6_firstFault_78 : decode cX6_firstFault 78 = .ok (.iconst 0, 1) := by decide +kernel
theorem dX6_firstFault_79 : decode cX6_firstFault 79 = .ok (.istore_n 3, 1) := by decide +kernel
theorem dX6_firstFault_80 : decode cX6_firstFault 80 = .ok (.iload_n 3, 1) := by decide +kernel
theorem dX6_firstFault_81 : decode cX6_firstFault 81 = .ok (.ifCond .eq 7, 3) := by decide +kernel
theorem dX6_firstFault_84 : decode cX6_firstFault 84 = .ok (.iconst (-1), 1) := by decide +kernel
theorem dX6_firstFault_85 : decode cX6_firstFault 85 = .ok (.goto 4, 3) := by decide +kernel
theorem dX6_firstFault_88 : decode cX6_firstFault 88 = .ok (.iload_n 2, 1) := by decide +kernel
theorem dX6_firstFault_89 : decode cX6_firstFault 89 = .ok (.ireturn, 1) := by decide +kernel
set_option maxRecDepth 20000 in
set_option maxHeartbeats 4000000 in
theorem w_X6_firstFault_79 {x : tg_X} {Sf : tg_S} {r : Int32} (X : tg_M tauC x cX6_firstFault 5 RX6 zr_X6_firstFault (some .int) Sf (some (.int r))) (S : tg_S) (v2 : Int32) (s0 : Int32) (h : f_X6_firstFault_79  S v2 s0 = some (Sf, r)) : tg_G tauC x S 79 [(2, .int v2)] [.int s0] := by
  unfold f_X6_firstFault_79 at h
  refine tg_istore_n (lv2 := [(3, .int s0), (2, .int v2)]) X dX6_firstFault_79 rfl (by decide) rfl ?_
  refine tg_iload_n X dX6_firstFault_80 rfl 0 rfl ?_
  refine tg_if_eq (tgt := 88) X dX6_firstFault_81 (by decide) (fun c1 => ?_) (fun c1 => ?_)
  · have h := tg_ifT c1 h
    refine tg_iload_n X dX6_firstFault_88 rfl 1 rfl ?_
    exact tg_iret X h rfl dX6_firstFault_89
  · have h := tg_ifF c1 h
    refine tg_iconst X dX6_firstFault_84 tk_im1 ?_
    refine tg_goto (tgt := 89) X dX6_firstFault_85 (by decide) ?_
    exact tg_iret X h rfl dX6_firstFault_89
set_option maxRecDepth 20000 in
set_option maxHeartbeats 4000000 in
theorem w_X6_firstFault_74 {x : tg_X} {Sf : tg_S} {r : Int32} (X : tg_M tauC x cX6_firstFault 5 RX6 zr_X6_firstFault (some .int) Sf (some (.int r))) (S : tg_S) (v2 : Int32) (h : f_X6_firstFault_74  S v2 = some (Sf, r)) : tg_G tauC x S 74 [(2, .int v2)] [] := by
  unfold f_X6_firstFault_74 at h
  refine tg_iconst X dX6_firstFault_74 tk_i1 ?_
  refine tg_goto (tgt := 79) X dX6_firstFault_75 (by decide) ?_
  exact w_X6_firstFault_79 X  S v2 1 h
set_option maxRecDepth 20000 in
set_option maxHeartbeats 4000000 in
theorem w_X6_firstFault_52 {x : tg_X} {Sf : tg_S} {r : Int32} {rec9 : tg_S → Int32 → Int32 → Int32 → Option (tg_S × Int32)} (X : tg_M tauC x cX6_firstFault 5 RX6 zr_X6_firstFault (some .int) Sf (some (.int r))) (hr9 : ∀ (S : tg_S) (v1 : Int32) (v2 : Int32) (v3 : Int32), rec9 S v1 v2 v3 = some (Sf, r) → tg_G tauC x S 9 [(0, .ref (tg_ad x 1)), (1, .int v1), (2, .int v2), (3, .int v3)] []) (S : tg_S) (v1 : Int32) (v2 : Int32) (v3 : Int32) (h : f_X6_firstFault_52 rec9 S v1 v2 v3 = some (Sf, r)) : tg_G tauC x S 52 [(0, .ref (tg_ad x 1)), (1, .int v1), (2, .int v2), (3, .int v3)] [] := by
  unfold f_X6_firstFault_52 at h
  obtain ⟨y1, ey1⟩ : ∃ z : Int32, z = v3 + 1 := ⟨_, rfl⟩
  have h := tg_nmE ey1 h
  refine tg_iinc (lv2 := [(3, .int y1), (0, .ref (tg_ad x 1)), (1, .int v1), (2, .int v2)]) X dX6_firstFault_52 3 rfl tk_i1 ey1 (by decide) rfl ?_
  refine tg_goto (tgt := 9) X dX6_firstFault_55 (by decide) ?_
  refine tg_re [1, 2, 3, 0] rfl ?_
  exact hr9 S v1 v2 y1 h
set_option maxRecDepth 20000 in
set_option maxHeartbeats 4000000 in
theorem w_X6_firstFault_9 {x : tg_X} {Sf : tg_S} {r : Int32} {rec9 : tg_S → Int32 → Int32 → Int32 → Option (tg_S × Int32)} (X : tg_M tauC x cX6_firstFault 5 RX6 zr_X6_firstFault (some .int) Sf (some (.int r))) (hr9 : ∀ (S : tg_S) (v1 : Int32) (v2 : Int32) (v3 : Int32), rec9 S v1 v2 v3 = some (Sf, r) → tg_G tauC x S 9 [(0, .ref (tg_ad x 1)), (1, .int v1), (2, .int v2), (3, .int v3)] []) (S : tg_S) (v1 : Int32) (v2 : Int32) (v3 : Int32) (h : f_X6_firstFault_9 rec9 S v1 v2 v3 = some (Sf, r)) : tg_G tauC x S 9 [(0, .ref (tg_ad x 1)), (1, .int v1), (2, .int v2), (3, .int v3)] [] := by
  unfold f_X6_firstFault_9 at h
  refine tg_iload_n X dX6_firstFault_9 rfl 3 rfl ?_
  refine tg_iload_n X dX6_firstFault_10 rfl 2 rfl ?_
  refine tg_icmp_ge (tgt := 58) X dX6_firstFault_11 (by decide) (fun c1 => ?_) (fun c1 => ?_)
  · have h := tg_ifT c1 h
    refine tg_iload_n X dX6_firstFault_58 rfl 1 rfl ?_
    refine tg_iconst X dX6_firstFault_59 tk_i2 ?_
    refine tg_icmp_ge (tgt := 74) X dX6_firstFault_60 (by decide) (fun c2 => ?_) (fun c2 => ?_)
    · have h := tg_ifT c2 h
      refine tg_re [2] rfl ?_
      exact w_X6_firstFault_74 X  S v2 h
    · have h := tg_ifF c2 h
      refine tg_iload_n X dX6_firstFault_63 rfl 2 rfl ?_
      refine tg_if_eq (tgt := 74) X dX6_firstFault_64 (by decide) (fun c3 => ?_) (fun c3 => ?_)
      · have h := tg_ifT c3 h
        refine tg_re [2] rfl ?_
        exact w_X6_firstFault_74 X  S v2 h
      · have h := tg_ifF c3 h
        refine tg_iload_n X dX6_firstFault_67 rfl 2 rfl ?_
        refine tg_iconst X dX6_firstFault_68 tk_i4 ?_
        refine tg_irem X dX6_firstFault_69 (by decide) ?_
        refine tg_iconst X dX6_firstFault_70 tk_i3 ?_
        refine tg_icmp_ne (tgt := 78) X dX6_firstFault_71 (by decide) (fun c4 => ?_) (fun c4 => ?_)
        · have h := tg_ifF c4 h
          refine tg_iconst X dX6_firstFault_78 tk_i0 ?_
          refine tg_re [2] rfl ?_
          exact w_X6_firstFault_79 X  S v2 0 h
        · have h := tg_ifT c4 h
          refine tg_re [2] rfl ?_
          exact w_X6_firstFault_74 X  S v2 h
  · have h := tg_ifF c1 h
    refine tg_aload_n X dX6_firstFault_14 rfl 0 rfl ?_
    refine tg_iload_n X dX6_firstFault_15 rfl 1 rfl ?_
    refine tg_iload_n X dX6_firstFault_16 rfl 3 rfl ?_
    obtain ⟨S5, r6, kS5, h⟩ := tg_bdE h
    refine tg_callV (As := [.int v1, .int v3]) (rest := []) X 1 (cm_X6_byteAt _ _ _ _ _ kS5) yy_X6_byteAt wv_X6_byteAt ws_X6_byteAt wm_X6_22 rfl cl_X6.1 ⟨rfl, rfl, Nat.le_of_ble_eq_true rfl, Nat.le_of_ble_eq_true rfl⟩ rfl rfl (Nat.le_of_ble_eq_true rfl) dX6_firstFault_17 rfl ?_
    refine tg_istore (lv2 := [(4, .int r6), (0, .ref (tg_ad x 1)), (1, .int v1), (2, .int v2), (3, .int v3)]) X dX6_firstFault_20 (by decide) rfl ?_
    refine tg_iload_n X dX6_firstFault_22 rfl 2 rfl ?_
    refine tg_iconst X dX6_firstFault_23 tk_i2 ?_
    refine tg_icmp_ge (tgt := 41) X dX6_firstFault_24 (by decide) (fun c7 => ?_) (fun c7 => ?_)
    · have h := tg_ifT c7 h
      refine tg_iload X dX6_firstFault_41 0 rfl ?_
      obtain ⟨S8, r9, kS8, h⟩ := tg_bdE h
      refine tg_callS (As := [.int r6]) (rest := []) X (cm_X6_callOf _ _ _ _ _ kS8) yy_X6_callOf wt_X6_callOf wm_X6_30 ⟨rfl, rfl, Nat.le_of_ble_eq_true rfl, Nat.le_of_ble_eq_true rfl⟩ rfl rfl (Nat.le_of_ble_eq_true rfl) dX6_firstFault_43 rfl ?_
      refine tg_iconst X dX6_firstFault_46 tk_im1 ?_
      refine tg_icmp_ne (tgt := 52) X dX6_firstFault_47 (by decide) (fun c10 => ?_) (fun c10 => ?_)
      · have h := tg_ifF c10 h
        refine tg_re [1, 2, 3, 4] rfl ?_
        exact w_X6_firstFault_52 X hr9 S8 v1 v2 v3 h
      · have h := tg_ifT c10 h
        refine tg_iload_n X dX6_firstFault_50 rfl 4 rfl ?_
        exact tg_iret X h rfl dX6_firstFault_51
    · have h := tg_ifF c7 h
      refine tg_iload_n X dX6_firstFault_27 rfl 4 rfl ?_
      refine tg_iconst X dX6_firstFault_28 tk_i4 ?_
      refine tg_irem X dX6_firstFault_29 (by decide) ?_
      refine tg_iload X dX6_firstFault_30 0 rfl ?_
      obtain ⟨S11, r12, kS11, h⟩ := tg_bdE h
      refine tg_callS (As := [.int (v3 - v3 / 4 * 4), .int r6]) (rest := []) X (cm_X6_teamGoesOn _ _ _ _ _ kS11) yy_X6_teamGoesOn wt_X6_teamGoesOn wm_X6_26 ⟨rfl, rfl, Nat.le_of_ble_eq_true rfl, Nat.le_of_ble_eq_true rfl⟩ rfl rfl (Nat.le_of_ble_eq_true rfl) dX6_firstFault_32 rfl ?_
      refine tg_if_ne (tgt := 52) X dX6_firstFault_35 (by decide) (fun c13 => ?_) (fun c13 => ?_)
      · have h := tg_ifF c13 h
        refine tg_re [1, 2, 3, 4] rfl ?_
        exact w_X6_firstFault_52 X hr9 S11 v1 v2 v3 h
      · have h := tg_ifT c13 h
        refine tg_goto (tgt := 50) X dX6_firstFault_38 (by decide) ?_
        refine tg_iload_n X dX6_firstFault_50 rfl 4 rfl ?_
        exact tg_iret X h rfl dX6_firstFault_51
theorem wl_X6_firstFault_9 {x : tg_X} {Sf : tg_S} {r : Int32} (X : tg_M tauC x cX6_firstFault 5 RX6 zr_X6_firstFault (some .int) Sf (some (.int r))) : ∀ (n : Nat) (S : tg_S) (v1 : Int32) (v2 : Int32) (v3 : Int32) (h : L_X6_firstFault_9  n S v1 v2 v3 = some (Sf, r)), tg_G tauC x S 9 [(0, .ref (tg_ad x 1)), (1, .int v1), (2, .int v2), (3, .int v3)] [] := by
  intro n
  induction n with
  | zero => intro S v1 v2 v3 h; cases h
  | succ n ih => intro S v1 v2 v3 h; exact w_X6_firstFault_9 X  ih S v1 v2 v3 h
set_option maxRecDepth 20000 in
set_option maxHeartbeats 4000000 in
theorem w_X6_firstFault_0 {x : tg_X} {Sf : tg_S} {r : Int32} (X : tg_M tauC x cX6_firstFault 5 RX6 zr_X6_firstFault (some .int) Sf (some (.int r))) (S : tg_S) (v1 : Int32) (h : f_X6_firstFault  S v1 = some (Sf, r)) : tg_G tauC x S 0 [(0, .ref (tg_ad x 1)), (1, .int v1)] [] := by
  unfold f_X6_firstFault at h
  refine tg_aload_n X dX6_firstFault_0 rfl 0 rfl ?_
  refine tg_getr X 1 rfl cl_X6 1 (by decide) rfl wf_X6_15 dX6_firstFault_1 ?_
  refine tg_iload_n X dX6_firstFault_4 rfl 1 rfl ?_
  obtain ⟨y1, ey1, by1, h⟩ := tg_rdE h
  refine tg_iald X 3 rfl ey1 by1 dX6_firstFault_5 ?_
  refine tg_istore_n (lv2 := [(2, .int y1), (0, .ref (tg_ad x 1)), (1, .int v1)]) X dX6_firstFault_6 rfl (by decide) rfl ?_
  refine tg_iconst X dX6_firstFault_7 tk_i0 ?_
  refine tg_istore_n (lv2 := [(3, .int 0), (2, .int y1), (0, .ref (tg_ad x 1)), (1, .int v1)]) X dX6_firstFault_8 rfl (by decide) rfl ?_
  refine tg_re [2, 3, 1, 0] rfl ?_
  exact wl_X6_firstFault_9 X  tg_F S v1 y1 0 h
theorem cm_X6_firstFault (l : Launch) (D : va_G) (cy : Bool → ClassId) (ad : Nat → Nat) (tS : Nat) {S Sf : tg_S} {v1 : Int32} {r : Int32} (h : f_X6_firstFault  S v1 = some (Sf, r)) : tg_Met l yX6_firstFault cX6_firstFault 5 (some .int) zr_X6_firstFault tauC D cy ad tS S [.ref (ad 1), .int v1] Sf (some (.int r)) := tg_mk (by decide +kernel) trivial (Nat.le_of_ble_eq_true rfl) (fun p e s m args below meth c Q A X => w_X6_firstFault_0 X S v1 h)
