-- X0_startFor
def zr_X0_startFor : Room := { frames := 0, cells := 0, slots := 0, locals := 0 }
theorem dX0_startFor_0 : decode cX0_startFor 0 = .ok (.aload_n 0, 1) := by decide +kernel
theorem dX0_startFor_1 : decode cX0_startFor 1 = .ok (.iload_n 1, 1) := by decide +kernel
theorem dX0_startFor_2 : decode cX0_startFor 2 = .ok (.putfield 21, 3) := by decide +kernel
theorem dX0_startFor_5 : decode cX0_startFor 5 = .ok (.aload_n 0, 1) := by decide +kernel
theorem dX0_startFor_6 : decode cX0_startFor 6 = .ok (.iconst (-1), 1) := by decide +kernel
theorem dX0_startFor_7 : decode cX0_startFor 7 = .ok (.putfield 9, 3) := by decide +kernel
theorem dX0_startFor_10 : decode cX0_startFor 10 = .ok (.aload_n 0, 1) := by decide +kernel
theorem dX0_startFor_11 : decode cX0_startFor 11 = .ok (.iconst (-1), 1) := by decide +kernel
theorem dX0_startFor_12 : decode cX0_startFor 12 = .ok (.putfield 15, 3) := by decide +kernel
theorem dX0_startFor_15 : decode cX0_startFor 15 = .ok (.aload_n 0, 1) := by decide +kernel
theorem dX0_startFor_16 : decode cX0_startFor 16 = .ok (.iconst (-1), 1) := by decide +kernel
theorem dX0_startFor_17 : decode cX0_startFor 17 = .ok (.putfield 18, 3) := by decide +kernel
theorem dX0_startFor_20 : decode cX0_startFor 20 = .ok (.return_, 1) := by decide +kernel
set_option maxRecDepth 20000 in
set_option maxHeartbeats 4000000 in
theorem w_X0_startFor_0 {x : tg_X} {Sf : tg_S} (X : tg_M tauC x cX0_startFor 2 RX0 zr_X0_startFor none Sf none) (S : tg_S) (v1 : Int32) (h : f_X0_startFor  S v1 = some Sf) : tg_G tauC x S 0 [(0, .ref (tg_ad x 49)), (1, .int v1)] [] := by
  unfold f_X0_startFor at h
  refine tg_aload_n X dX0_startFor_0 rfl 0 rfl ?_
  refine tg_iload_n X dX0_startFor_1 rfl 1 rfl ?_
  obtain ⟨S1, eS1, h⟩ := tg_pfE h
  refine tg_puti X 49 rfl cl_X0 3 (by decide) rfl wf_X0_21 rfl rfl rfl dX0_startFor_2 eS1 ?_
  refine tg_aload_n X dX0_startFor_5 rfl 0 rfl ?_
  refine tg_iconst X dX0_startFor_6 tk_im1 ?_
  obtain ⟨S2, eS2, h⟩ := tg_pfE h
  refine tg_puti X 49 rfl cl_X0 0 (by decide) rfl wf_X0_9 rfl rfl rfl dX0_startFor_7 eS2 ?_
  refine tg_aload_n X dX0_startFor_10 rfl 0 rfl ?_
  refine tg_iconst X dX0_startFor_11 tk_im1 ?_
  obtain ⟨S3, eS3, h⟩ := tg_pfE h
  refine tg_puti X 49 rfl cl_X0 1 (by decide) rfl wf_X0_15 rfl rfl rfl dX0_startFor_12 eS3 ?_
  refine tg_aload_n X dX0_startFor_15 rfl 0 rfl ?_
  refine tg_iconst X dX0_startFor_16 tk_im1 ?_
  obtain ⟨S4, eS4, h⟩ := tg_pfE h
  refine tg_puti X 49 rfl cl_X0 2 (by decide) rfl wf_X0_18 rfl rfl rfl dX0_startFor_17 eS4 ?_
  exact tg_vret X h dX0_startFor_20
theorem cm_X0_startFor (l : Launch) (D : va_G) (cy : Bool → ClassId) (ad : Nat → Nat) (tS : Nat) {S Sf : tg_S} {v1 : Int32} (h : f_X0_startFor  S v1 = some Sf) : tg_Met l yX0_startFor cX0_startFor 2 none zr_X0_startFor tauC D cy ad tS S [.ref (ad 49), .int v1] Sf none := tg_mk (by decide +kernel) trivial (Nat.le_of_ble_eq_true rfl) (fun p e s m args below meth c Q A X => w_X0_startFor_0 X S v1 h)
-- X0_offer
def zr_X0_offer : Room := { frames := 0, cells := 0, slots := 0, locals := 0 }
theorem dX0_offer_0 : decode cX0_offer 0 = .ok (.aload_n 0, 1) := by decide +kernel
theorem dX0_offer_1 : decode cX0_offer 1 = .ok (.getfield 21, 3) := by decide +kernel
theorem dX0_offer_4 : decode cX0_offer 4 = .ok (.ifCond .ne 19, 3) := by decide +kernel
theorem dX0_offer_7 : decode cX0_offer 7 = .ok (.iload_n 3, 1) := by decide +kernel
theorem dX0_offer_8 : decode cX0_offer 8 = .ok (.aload_n 0, 1) := by decide +kernel
theorem dX0_offer_9 : decode cX0_offer 9 = .ok (.getfield 18, 3) := by decide +kernel
theorem dX0_offer_12 : decode cX0_offer 12 = .ok (.if_icmp .le 7, 3) := by decide +kernel
theorem dX0_offer_15 : decode cX0_offer 15 = .ok (.iconst 1, 1) := by decide +kernel
theorem dX0_offer_16 : decode cX0_offer 16 = .ok (.goto 20, 3) := by decide +kernel
theorem dX0_offer_19 : decode cX0_offer 19 = .ok (.iconst 0, 1) := by decide +kernel
theorem dX0_offer_20 : decode cX0_offer 20 = .ok (.goto 16, 3) := by decide +kernel
theorem dX0_offer_23 : decode cX0_offer 23 = .ok (.iload_n 3, 1) := by decide +kernel
theorem dX0_offer_24 : decode cX0_offer 24 = .ok (.aload_n 0, 1) := by decide +kernel
theorem dX0_offer_25 : decode cX0_offer 25 = .ok (.getfield 18, 3) := by decide +kernel
theorem dX0_offer_28 : decode cX0_offer 28 = .ok (.if_icmp .ge 7, 3) := by decide +kernel
theorem dX0_offer_31 : decode cX0_offer 31 = .ok (.iconst 1, 1) := by decide +kernel
theorem dX0_offer_32 : decode cX0_offer 32 = .ok (.goto 4, 3) := by decide +kernel
theorem dX0_offer_35 : decode cX0_offer 35 = .ok (.iconst 0, 1) := by decide +kernel
theorem dX0_offer_36 : decode cX0_offer 36 = .ok (.istore 4, 2) := by decide +kernel
theorem dX0_offer_38 : decode cX0_offer 38 = .ok (.aload_n 0, 1) := by decide +kernel
theorem dX0_offer_39 : decode cX0_offer 39 = .ok (.getfield 9, 3) := by decide +kernel
theorem dX0_offer_42 : decode cX0_offer 42 = .ok (.iconst (-1), 1) := by decide +kernel
theorem dX0_offer_43 : decode cX0_offer 43 = .ok (.if_icmp .eq 8, 3) := by decide +kernel
theorem dX0_offer_46 : decode cX0_offer 46 = .ok (.iload 4, 2) := by decide +kernel
theorem dX0_offer_48 : decode cX0_offer 48 = .ok (.ifCond .eq 18, 3) := by decide +kernel
theorem dX0_offer_51 : decode cX0_offer 51 = .ok (.aload_n 0, 1) := by decide +kernel
theorem dX0_offer_52 : decode cX0_offer 52 = .ok (.iload_n 1, 1) := by decide +kernel
theorem dX0_offer_53 : decode cX0_offer 53 = .ok (.putfield 9, 3) := by decide +kernel
theorem dX0_offer_56 : decode cX0_offer 56 = .ok (.aload_n 0, 1) := by decide +kernel
theorem dX0_offer_57 : decode cX0_offer 57 = .ok (.iload_n 2, 1) := by decide +kernel
theorem dX0_offer_58 : decode cX0_offer 58 = .ok (.putfield 15, 3) := by decide +kernel
theorem dX0_offer_61 : decode cX0_offer 61 = .ok (.aload_n 0, 1) := by decide +kernel
theorem dX0_offer_62 : decode cX0_offer 62 = .ok (.iload_n 3, 1) := by decide +kernel
theorem dX0_offer_63 : decode cX0_offer 63 = .ok (.putfield 18, 3) := by decide +kernel
theorem dX0_offer_66 : decode cX0_offer 66 = .ok (.return_, 1) := by decide +kernel
set_option maxRecDepth 20000 in
set_option maxHeartbeats 4000000 in
theorem w_X0_offer_51 {x : tg_X} {Sf : tg_S} (X : tg_M tauC x cX0_offer 5 RX0 zr_X0_offer none Sf none) (S : tg_S) (v1 : Int32) (v2 : Int32) (v3 : Int32) (h : f_X0_offer_51  S v1 v2 v3 = some Sf) : tg_G tauC x S 51 [(0, .ref (tg_ad x 49)), (1, .int v1), (2, .int v2), (3, .int v3)] [] := by
  unfold f_X0_offer_51 at h
  refine tg_aload_n X dX0_offer_51 rfl 0 rfl ?_
  refine tg_iload_n X dX0_offer_52 rfl 1 rfl ?_
  obtain ⟨S1, eS1, h⟩ := tg_pfE h
  refine tg_puti X 49 rfl cl_X0 0 (by decide) rfl wf_X0_9 rfl rfl rfl dX0_offer_53 eS1 ?_
  refine tg_aload_n X dX0_offer_56 rfl 0 rfl ?_
  refine tg_iload_n X dX0_offer_57 rfl 2 rfl ?_
  obtain ⟨S2, eS2, h⟩ := tg_pfE h
  refine tg_puti X 49 rfl cl_X0 1 (by decide) rfl wf_X0_15 rfl rfl rfl dX0_offer_58 eS2 ?_
  refine tg_aload_n X dX0_offer_61 rfl 0 rfl ?_
  refine tg_iload_n X dX0_offer_62 rfl 3 rfl ?_
  obtain ⟨S3, eS3, h⟩ := tg_pfE h
  refine tg_puti X 49 rfl cl_X0 2 (by decide) rfl wf_X0_18 rfl rfl rfl dX0_offer_63 eS3 ?_
  exact tg_vret X h dX0_offer_66
set_option maxRecDepth 20000 in
set_option maxHeartbeats 4000000 in
theorem w_X0_offer_36 {x : tg_X} {Sf : tg_S} (X : tg_M tauC x cX0_offer 5 RX0 zr_X0_offer none Sf none) (S : tg_S) (v1 : Int32) (v2 : Int32) (v3 : Int32) (s0 : Int32) (h : f_X0_offer_36  S v1 v2 v3 s0 = some Sf) : tg_G tauC x S 36 [(0, .ref (tg_ad x 49)), (1, .int v1), (2, .int v2), (3, .int v3)] [.int s0] := by
  unfold f_X0_offer_36 at h
  refine tg_istore (lv2 := [(4, .int s0), (0, .ref (tg_ad x 49)), (1, .int v1), (2, .int v2), (3, .int v3)]) X dX0_offer_36 (by decide) rfl ?_
  refine tg_aload_n X dX0_offer_38 rfl 1 rfl ?_
  refine tg_geti X 49 rfl cl_X0 0 (by decide) rfl wf_X0_9 dX0_offer_39 ?_
  refine tg_iconst X dX0_offer_42 tk_im1 ?_
  refine tg_icmp_eq (tgt := 51) X dX0_offer_43 (by decide) (fun c1 => ?_) (fun c1 => ?_)
  · have h := tg_ifT c1 h
    refine tg_re [1, 2, 3, 4] rfl ?_
    exact w_X0_offer_51 X  S v1 v2 v3 h
  · have h := tg_ifF c1 h
    refine tg_iload X dX0_offer_46 0 rfl ?_
    refine tg_if_eq (tgt := 66) X dX0_offer_48 (by decide) (fun c2 => ?_) (fun c2 => ?_)
    · have h := tg_ifT c2 h
      exact tg_vret X h dX0_offer_66
    · have h := tg_ifF c2 h
      refine tg_re [1, 2, 3, 4] rfl ?_
      exact w_X0_offer_51 X  S v1 v2 v3 h
set_option maxRecDepth 20000 in
set_option maxHeartbeats 4000000 in
theorem w_X0_offer_0 {x : tg_X} {Sf : tg_S} (X : tg_M tauC x cX0_offer 5 RX0 zr_X0_offer none Sf none) (S : tg_S) (v1 : Int32) (v2 : Int32) (v3 : Int32) (h : f_X0_offer  S v1 v2 v3 = some Sf) : tg_G tauC x S 0 [(0, .ref (tg_ad x 49)), (1, .int v1), (2, .int v2), (3, .int v3)] [] := by
  unfold f_X0_offer at h
  refine tg_aload_n X dX0_offer_0 rfl 0 rfl ?_
  refine tg_geti X 49 rfl cl_X0 3 (by decide) rfl wf_X0_21 dX0_offer_1 ?_
  refine tg_if_ne (tgt := 23) X dX0_offer_4 (by decide) (fun c1 => ?_) (fun c1 => ?_)
  · rw [if_neg c1] at h
    refine tg_iload_n X dX0_offer_23 rfl 3 rfl ?_
    refine tg_aload_n X dX0_offer_24 rfl 0 rfl ?_
    refine tg_geti X 49 rfl cl_X0 2 (by decide) rfl wf_X0_18 dX0_offer_25 ?_
    refine tg_icmp_ge (tgt := 35) X dX0_offer_28 (by decide) (fun c2 => ?_) (fun c2 => ?_)
    · rw [if_pos c2] at h
      refine tg_iconst X dX0_offer_35 tk_i0 ?_
      exact w_X0_offer_36 X  S v1 v2 v3 0 h
    · rw [if_neg c2] at h
      refine tg_iconst X dX0_offer_31 tk_i1 ?_
      refine tg_goto (tgt := 36) X dX0_offer_32 (by decide) ?_
      exact w_X0_offer_36 X  S v1 v2 v3 1 h
  · rw [if_pos c1] at h
    refine tg_iload_n X dX0_offer_7 rfl 3 rfl ?_
    refine tg_aload_n X dX0_offer_8 rfl 0 rfl ?_
    refine tg_geti X 49 rfl cl_X0 2 (by decide) rfl wf_X0_18 dX0_offer_9 ?_
    refine tg_icmp_le (tgt := 19) X dX0_offer_12 (by decide) (fun c3 => ?_) (fun c3 => ?_)
    · rw [if_pos c3] at h
      refine tg_iconst X dX0_offer_19 tk_i0 ?_
      refine tg_goto (tgt := 36) X dX0_offer_20 (by decide) ?_
      exact w_X0_offer_36 X  S v1 v2 v3 0 h
    · rw [if_neg c3] at h
      refine tg_iconst X dX0_offer_15 tk_i1 ?_
      refine tg_goto (tgt := 36) X dX0_offer_16 (by decide) ?_
      exact w_X0_offer_36 X  S v1 v2 v3 1 h
theorem cm_X0_offer (l : Launch) (D : va_G) (cy : Bool → ClassId) (ad : Nat → Nat) (tS : Nat) {S Sf : tg_S} {v1 : Int32} {v2 : Int32} {v3 : Int32} (h : f_X0_offer  S v1 v2 v3 = some Sf) : tg_Met l yX0_offer cX0_offer 5 none zr_X0_offer tauC D cy ad tS S [.ref (ad 49), .int v1, .int v2, .int v3] Sf none := tg_mk (by decide +kernel) trivial (Nat.le_of_ble_eq_true rfl) (fun p e s m args below meth c Q A X => w_X0_offer_0 X S v1 v2 v3 h)
-- X4_append
def zr_X4_append : Room := { frames := 0, cells := 0, slots := 0, locals := 0 }
theorem dX4_append_0 : decode cX4_append 0 = .ok (.aload_n 0, 1) := by decide +kernel
theorem dX4_append_1 : decode cX4_append 1 = .ok (.getfield 9, 3) := by decide +kernel
theorem dX4_append_4 : decode cX4_append 4 = .ok (.aload_n 0, 1) := by decide +kernel
theorem dX4_append_5 : decode cX4_append 5 = .ok (.getfield 18, 3) := by decide +kernel
theorem dX4_append_8 : decode cX4_append 8 = .ok (.iload_n 1, 1) := by decide +kernel
theorem dX4_append_9 : decode cX4_append 9 = .ok (.iastore, 1) := by decide +kernel
theorem dX4_append_10 : decode cX4_append 10 = .ok (.aload_n 0, 1) := by decide +kernel
theorem dX4_append_11 : decode cX4_append 11 = .ok (.getfield 15, 3) := by decide +kernel
theorem dX4_append_14 : decode cX4_append 14 = .ok (.aload_n 0, 1) := by decide +kernel
theorem dX4_append_15 : decode cX4_append 15 = .ok (.getfield 18, 3) := by decide +kernel
theorem dX4_append_18 : decode cX4_append 18 = .ok (.iload_n 2, 1) := by decide +kernel
theorem dX4_append_19 : decode cX4_append 19 = .ok (.iastore, 1) := by decide +kernel
theorem dX4_append_20 : decode cX4_append 20 = .ok (.aload_n 0, 1) := by decide +kernel
theorem dX4_append_21 : decode cX4_append 21 = .ok (.dup, 1) := by decide +kernel
theorem dX4_append_22 : decode cX4_append 22 = .ok (.getfield 18, 3) := by decide +kernel
theorem dX4_append_25 : decode cX4_append 25 = .ok (.iconst 1, 1) := by decide +kernel
theorem dX4_append_26 : decode cX4_append 26 = .ok (.iadd, 1) := by decide +kernel
theorem dX4_append_27 : decode cX4_append 27 = .ok (.putfield 18, 3) := by decide +kernel
theorem dX4_append_30 : decode cX4_append 30 = .ok (.aload_n 0, 1) := by decide +kernel
theorem dX4_append_31 : decode cX4_append 31 = .ok (.getfield 18, 3) := by decide +kernel
theorem dX4_append_34 : decode cX4_append 34 = .ok (.ireturn, 1) := by decide +kernel
set_option maxRecDepth 20000 in
set_option maxHeartbeats 4000000 in
theorem w_X4_append_0 {x : tg_X} {Sf : tg_S} {r : Int32} (X : tg_M tauC x cX4_append 3 RX4 zr_X4_append (some .int) Sf (some (.int r))) (S : tg_S) (v1 : Int32) (v2 : Int32) (h : f_X4_append  S v1 v2 = some (Sf, r)) : tg_G tauC x S 0 [(0, .ref (tg_ad x 4)), (1, .int v1), (2, .int v2)] [] := by
  unfold f_X4_append at h
  refine tg_aload_n X dX4_append_0 rfl 0 rfl ?_
  refine tg_getr X 4 rfl cl_X4 0 (by decide) rfl wf_X4_9 dX4_append_1 ?_
  refine tg_aload_n X dX4_append_4 rfl 0 rfl ?_
  refine tg_geti X 4 rfl cl_X4 2 (by decide) rfl wf_X4_18 dX4_append_5 ?_
  refine tg_iload_n X dX4_append_8 rfl 1 rfl ?_
  obtain ⟨S1, eS1, bS1, h⟩ := tg_wrE h
  refine tg_iast X 5 rfl bS1 dX4_append_9 eS1 ?_
  refine tg_aload_n X dX4_append_10 rfl 0 rfl ?_
  refine tg_getr X 4 rfl cl_X4 1 (by decide) rfl wf_X4_15 dX4_append_11 ?_
  refine tg_aload_n X dX4_append_14 rfl 0 rfl ?_
  refine tg_geti X 4 rfl cl_X4 2 (by decide) rfl wf_X4_18 dX4_append_15 ?_
  refine tg_iload_n X dX4_append_18 rfl 2 rfl ?_
  obtain ⟨S2, eS2, bS2, h⟩ := tg_wrE h
  refine tg_iast X 6 rfl bS2 dX4_append_19 eS2 ?_
  refine tg_aload_n X dX4_append_20 rfl 0 rfl ?_
  refine tg_dup X dX4_append_21 rfl ?_
  refine tg_geti X 4 rfl cl_X4 2 (by decide) rfl wf_X4_18 dX4_append_22 ?_
  refine tg_iconst X dX4_append_25 tk_i1 ?_
  refine tg_iadd X dX4_append_26 ?_
  obtain ⟨S3, eS3, h⟩ := tg_pfE h
  refine tg_puti X 4 rfl cl_X4 2 (by decide) rfl wf_X4_18 rfl rfl rfl dX4_append_27 eS3 ?_
  refine tg_aload_n X dX4_append_30 rfl 0 rfl ?_
  refine tg_geti X 4 rfl cl_X4 2 (by decide) rfl wf_X4_18 dX4_append_31 ?_
  exact tg_iret X h rfl dX4_append_34
theorem cm_X4_append (l : Launch) (D : va_G) (cy : Bool → ClassId) (ad : Nat → Nat) (tS : Nat) {S Sf : tg_S} {v1 : Int32} {v2 : Int32} {r : Int32} (h : f_X4_append  S v1 v2 = some (Sf, r)) : tg_Met l yX4_append cX4_append 3 (some .int) zr_X4_append tauC D cy ad tS S [.ref (ad 4), .int v1, .int v2] Sf (some (.int r)) := tg_mk (by decide +kernel) trivial (Nat.le_of_ble_eq_true rfl) (fun p e s m args below meth c Q A X => w_X4_append_0 X S v1 v2 h)
-- X4_fit
def zr_X4_fit : Room := { frames := 0, cells := 0, slots := 0, locals := 0 }
theorem dX4_fit_0 : decode cX4_fit 0 = .ok (.iconst 0, 1) := by decide +kernel
theorem dX4_fit_1 : decode cX4_fit 1 = .ok (.istore_n 2, 1) := by decide +kernel
theorem dX4_fit_2 : decode cX4_fit 2 = .ok (.iload_n 2, 1) := by decide +kernel
theorem dX4_fit_3 : decode cX4_fit 3 = .ok (.aload_n 0, 1) := by decide +kernel
theorem dX4_fit_4 : decode cX4_fit 4 = .ok (.getfield 18, 3) := by decide +kernel
theorem dX4_fit_7 : decode cX4_fit 7 = .ok (.if_icmp .ge 31, 3) := by decide +kernel
theorem dX4_fit_10 : decode cX4_fit 10 = .ok (.aload_n 1, 1) := by decide +kernel
theorem dX4_fit_11 : decode cX4_fit 11 = .ok (.getfield 22, 3) := by decide +kernel
theorem dX4_fit_14 : decode cX4_fit 14 = .ok (.aload_n 0, 1) := by decide +kernel
theorem dX4_fit_15 : decode cX4_fit 15 = .ok (.getfield 9, 3) := by decide +kernel
theorem dX4_fit_18 : decode cX4_fit 18 = .ok (.iload_n 2, 1) := by decide +kernel
theorem dX4_fit_19 : decode cX4_fit 19 = .ok (.iaload, 1) := by decide +kernel
theorem dX4_fit_20 : decode cX4_fit 20 = .ok (.iaload, 1) := by decide +kernel
theorem dX4_fit_21 : decode cX4_fit 21 = .ok (.aload_n 0, 1) := by decide +kernel
theorem dX4_fit_22 : decode cX4_fit 22 = .ok (.getfield 15, 3) := by decide +kernel
theorem dX4_fit_25 : decode cX4_fit 25 = .ok (.iload_n 2, 1) := by decide +kernel
theorem dX4_fit_26 : decode cX4_fit 26 = .ok (.iaload, 1) := by decide +kernel
theorem dX4_fit_27 : decode cX4_fit 27 = .ok (.if_icmp .eq 5, 3) := by decide +kernel
theorem dX4_fit_30 : decode cX4_fit 30 = .ok (.iconst 0, 1) := by decide +kernel
theorem dX4_fit_31 : decode cX4_fit 31 = .ok (.ireturn, 1) := by decide +kernel
theorem dX4_fit_32 : decode cX4_fit 32 = .ok (.iinc 2 1, 3) := by decide +kernel
theorem dX4_fit_35 : decode cX4_fit 35 = .ok (.goto (-33), 3) := by decide +kernel
theorem dX4_fit_38 : decode cX4_fit 38 = .ok (.iconst 1, 1) := by decide +kernel
theorem dX4_fit_39 : decode cX4_fit 39 = .ok (.ireturn, 1) := by decide +kernel
set_option maxRecDepth 20000 in
set_option maxHeartbeats 4000000 in
theorem w_X4_fit_2 {x : tg_X} {Sf : tg_S} {r : Int32} {rec2 : tg_S → Int32 → Option (tg_S × Int32)} (X : tg_M tauC x cX4_fit 3 RX4 zr_X4_fit (some .boolean) Sf (some (.int r))) (hr2 : ∀ (S : tg_S) (v2 : Int32), rec2 S v2 = some (Sf, r) → tg_G tauC x S 2 [(0, .ref (tg_ad x 4)), (1, .ref (tg_ad x 42)), (2, .int v2)] []) (S : tg_S) (v2 : Int32) (h : f_X4_fit_2 rec2 S v2 = some (Sf, r)) : tg_G tauC x S 2 [(0, .ref (tg_ad x 4)), (1, .ref (tg_ad x 42)), (2, .int v2)] [] := by
  unfold f_X4_fit_2 at h
  refine tg_iload_n X dX4_fit_2 rfl 2 rfl ?_
  refine tg_aload_n X dX4_fit_3 rfl 0 rfl ?_
  refine tg_geti X 4 rfl cl_X4 2 (by decide) rfl wf_X4_18 dX4_fit_4 ?_
  refine tg_icmp_ge (tgt := 38) X dX4_fit_7 (by decide) (fun c1 => ?_) (fun c1 => ?_)
  · have h := tg_ifT c1 h
    refine tg_iconst X dX4_fit_38 tk_i1 ?_
    exact tg_iret X h rfl dX4_fit_39
  · have h := tg_ifF c1 h
    refine tg_aload_n X dX4_fit_10 rfl 1 rfl ?_
    refine tg_getr X 42 rfl cl_X2 0 (by decide) rfl wf_X4_22 dX4_fit_11 ?_
    refine tg_aload_n X dX4_fit_14 rfl 0 rfl ?_
    refine tg_getr X 4 rfl cl_X4 0 (by decide) rfl wf_X4_9 dX4_fit_15 ?_
    refine tg_iload_n X dX4_fit_18 rfl 2 rfl ?_
    obtain ⟨y2, ey2, by2, h⟩ := tg_rdE h
    refine tg_iald X 5 rfl ey2 by2 dX4_fit_19 ?_
    obtain ⟨y3, ey3, by3, h⟩ := tg_rdE h
    refine tg_iald X 43 rfl ey3 by3 dX4_fit_20 ?_
    refine tg_aload_n X dX4_fit_21 rfl 0 rfl ?_
    refine tg_getr X 4 rfl cl_X4 1 (by decide) rfl wf_X4_15 dX4_fit_22 ?_
    refine tg_iload_n X dX4_fit_25 rfl 2 rfl ?_
    obtain ⟨y4, ey4, by4, h⟩ := tg_rdE h
    refine tg_iald X 6 rfl ey4 by4 dX4_fit_26 ?_
    refine tg_icmp_eq (tgt := 32) X dX4_fit_27 (by decide) (fun c5 => ?_) (fun c5 => ?_)
    · have h := tg_ifT c5 h
      obtain ⟨y6, ey6⟩ : ∃ z : Int32, z = v2 + 1 := ⟨_, rfl⟩
      have h := tg_nmE ey6 h
      refine tg_iinc (lv2 := [(2, .int y6), (0, .ref (tg_ad x 4)), (1, .ref (tg_ad x 42))]) X dX4_fit_32 2 rfl tk_i1 ey6 (by decide) rfl ?_
      refine tg_goto (tgt := 2) X dX4_fit_35 (by decide) ?_
      refine tg_re [1, 2, 0] rfl ?_
      exact hr2 S y6 h
    · have h := tg_ifF c5 h
      refine tg_iconst X dX4_fit_30 tk_i0 ?_
      exact tg_iret X h rfl dX4_fit_31
theorem wl_X4_fit_2 {x : tg_X} {Sf : tg_S} {r : Int32} (X : tg_M tauC x cX4_fit 3 RX4 zr_X4_fit (some .boolean) Sf (some (.int r))) : ∀ (n : Nat) (S : tg_S) (v2 : Int32) (h : L_X4_fit_2  n S v2 = some (Sf, r)), tg_G tauC x S 2 [(0, .ref (tg_ad x 4)), (1, .ref (tg_ad x 42)), (2, .int v2)] [] := by
  intro n
  induction n with
  | zero => intro S v2 h; cases h
  | succ n ih => intro S v2 h; exact w_X4_fit_2 X  ih S v2 h
set_option maxRecDepth 20000 in
set_option maxHeartbeats 4000000 in
theorem w_X4_fit_0 {x : tg_X} {Sf : tg_S} {r : Int32} (X : tg_M tauC x cX4_fit 3 RX4 zr_X4_fit (some .boolean) Sf (some (.int r))) (S : tg_S) (h : f_X4_fit  S  = some (Sf, r)) : tg_G tauC x S 0 [(0, .ref (tg_ad x 4)), (1, .ref (tg_ad x 42))] [] := by
  unfold f_X4_fit at h
  refine tg_iconst X dX4_fit_0 tk_i0 ?_
  refine tg_istore_n (lv2 := [(2, .int 0), (0, .ref (tg_ad x 4)), (1, .ref (tg_ad x 42))]) X dX4_fit_1 rfl (by decide) rfl ?_
  refine tg_re [1, 2, 0] rfl ?_
  exact wl_X4_fit_2 X  tg_F S 0 h
theorem cm_X4_fit (l : Launch) (D : va_G) (cy : Bool → ClassId) (ad : Nat → Nat) (tS : Nat) {S Sf : tg_S} {r : Int32} (h : f_X4_fit  S  = some (Sf, r)) : tg_Met l yX4_fit cX4_fit 3 (some .boolean) zr_X4_fit tauC D cy ad tS S [.ref (ad 4), .ref (ad 42)] Sf (some (.int r)) := tg_mk (by decide +kernel) trivial (Nat.le_of_ble_eq_true rfl) (fun p e s m args below meth c Q A X => w_X4_fit_0 X S  h)
-- X5_isLost
def zr_X5_isLost : Room := { frames := 0, cells := 0, slots := 0, locals := 0 }
theorem dX5_isLost_0 : decode cX5_isLost 0 = .ok (.aload_n 0, 1) := by decide +kernel
theorem dX5_isLost_1 : decode cX5_isLost 1 = .ok (.getfield 18, 3) := by decide +kernel
theorem dX5_isLost_4 : decode cX5_isLost 4 = .ok (.iload_n 1, 1) := by decide +kernel
theorem dX5_isLost_5 : decode cX5_isLost 5 = .ok (.iaload, 1) := by decide +kernel
theorem dX5_isLost_6 : decode cX5_isLost 6 = .ok (.iconst (-1), 1) := by decide +kernel
theorem dX5_isLost_7 : decode cX5_isLost 7 = .ok (.if_icmp .ne 7, 3) := by decide +kernel
theorem dX5_isLost_10 : decode cX5_isLost 10 = .ok (.iconst 1, 1) := by decide +kernel
theorem dX5_isLost_11 : decode cX5_isLost 11 = .ok (.goto 4, 3) := by decide +kernel
theorem dX5_isLost_14 : decode cX5_isLost 14 = .ok (.iconst 0, 1) := by decide +kernel
theorem dX5_isLost_15 : decode cX5_isLost 15 = .ok (.ireturn, 1) := by decide +kernel
set_option maxRecDepth 20000 in
set_option maxHeartbeats 4000000 in
theorem w_X5_isLost_0 {x : tg_X} {Sf : tg_S} {r : Int32} (X : tg_M tauC x cX5_isLost 2 RX5 zr_X5_isLost (some .boolean) Sf (some (.int r))) (S : tg_S) (v1 : Int32) (h : f_X5_isLost  S v1 = some (Sf, r)) : tg_G tauC x S 0 [(0, .ref (tg_ad x 7)), (1, .int v1)] [] := by
  unfold f_X5_isLost at h
  refine tg_aload_n X dX5_isLost_0 rfl 0 rfl ?_
  refine tg_getr X 7 rfl cl_X5 2 (by decide) rfl wf_X5_18 dX5_isLost_1 ?_
  refine tg_iload_n X dX5_isLost_4 rfl 1 rfl ?_
  obtain ⟨y1, ey1, by1, h⟩ := tg_rdE h
  refine tg_iald X 10 rfl ey1 by1 dX5_isLost_5 ?_
  refine tg_iconst X dX5_isLost_6 tk_im1 ?_
  refine tg_icmp_ne (tgt := 14) X dX5_isLost_7 (by decide) (fun c2 => ?_) (fun c2 => ?_)
  · have h := tg_ifF c2 h
    refine tg_iconst X dX5_isLost_14 tk_i0 ?_
    exact tg_iret X h rfl dX5_isLost_15
  · have h := tg_ifT c2 h
    refine tg_iconst X dX5_isLost_10 tk_i1 ?_
    refine tg_goto (tgt := 15) X dX5_isLost_11 (by decide) ?_
    exact tg_iret X h rfl dX5_isLost_15
theorem cm_X5_isLost (l : Launch) (D : va_G) (cy : Bool → ClassId) (ad : Nat → Nat) (tS : Nat) {S Sf : tg_S} {v1 : Int32} {r : Int32} (h : f_X5_isLost  S v1 = some (Sf, r)) : tg_Met l yX5_isLost cX5_isLost 2 (some .boolean) zr_X5_isLost tauC D cy ad tS S [.ref (ad 7), .int v1] Sf (some (.int r)) := tg_mk (by decide +kernel) trivial (Nat.le_of_ble_eq_true rfl) (fun p e s m args below meth c Q A X => w_X5_isLost_0 X S v1 h)
-- X5_size
def zr_X5_size : Room := { frames := 0, cells := 0, slots := 0, locals := 0 }
theorem dX5_size_0 : decode cX5_size 0 = .ok (.aload_n 0, 1) := by decide +kernel
theorem dX5_size_1 : decode cX5_size 1 = .ok (.getfield 18, 3) := by decide +kernel
theorem dX5_size_4 : decode cX5_size 4 = .ok (.iload_n 1, 1) := by decide +kernel
theorem dX5_size_5 : decode cX5_size 5 = .ok (.iaload, 1) := by decide +kernel
theorem dX5_size_6 : decode cX5_size 6 = .ok (.ireturn, 1) := by decide +kernel
set_option maxRecDepth 20000 in
set_option maxHeartbeats 4000000 in
theorem w_X5_size_0 {x : tg_X} {Sf : tg_S} {r : Int32} (X : tg_M tauC x cX5_size 2 RX5 zr_X5_size (some .int) Sf (some (.int r))) (S : tg_S) (v1 : Int32) (h : f_X5_size  S v1 = some (Sf, r)) : tg_G tauC x S 0 [(0, .ref (tg_ad x 7)), (1, .int v1)] [] := by
  unfold f_X5_size at h
  refine tg_aload_n X dX5_size_0 rfl 0 rfl ?_
  refine tg_getr X 7 rfl cl_X5 2 (by decide) rfl wf_X5_18 dX5_size_1 ?_
  refine tg_iload_n X dX5_size_4 rfl 1 rfl ?_
  obtain ⟨y1, ey1, by1, h⟩ := tg_rdE h
  refine tg_iald X 10 rfl ey1 by1 dX5_size_5 ?_
  exact tg_iret X h rfl dX5_size_6
theorem cm_X5_size (l : Launch) (D : va_G) (cy : Bool → ClassId) (ad : Nat → Nat) (tS : Nat) {S Sf : tg_S} {v1 : Int32} {r : Int32} (h : f_X5_size  S v1 = some (Sf, r)) : tg_Met l yX5_size cX5_size 2 (some .int) zr_X5_size tauC D cy ad tS S [.ref (ad 7), .int v1] Sf (some (.int r)) := tg_mk (by decide +kernel) trivial (Nat.le_of_ble_eq_true rfl) (fun p e s m args below meth c Q A X => w_X5_size_0 X S v1 h)
-- X5_renew
def zr_X5_renew : Room := { frames := 0, cells := 0, slots := 0, locals := 0 }
theorem dX5_renew_0 : decode cX5_renew 0 = .ok (.aload_n 0, 1) := by decide +kernel
theorem dX5_renew_1 : decode cX5_renew 1 = .ok (.getfield 15, 3) := by decide +kernel
theorem dX5_renew_4 : decode cX5_renew 4 = .ok (.iload_n 1, 1) := by decide +kernel
theorem dX5_renew_5 : decode cX5_renew 5 = .ok (.iload_n 2, 1) := by decide +kernel
theorem dX5_renew_6 : decode cX5_renew 6 = .ok (.iastore, 1) := by decide +kernel
theorem dX5_renew_7 : decode cX5_renew 7 = .ok (.aload_n 0, 1) := by decide +kernel
theorem dX5_renew_8 : decode cX5_renew 8 = .ok (.getfield 18, 3) := by decide +kernel
theorem dX5_renew_11 : decode cX5_renew 11 = .ok (.iload_n 1, 1) := by decide +kernel
theorem dX5_renew_12 : decode cX5_renew 12 = .ok (.iload_n 3, 1) := by decide +kernel
theorem dX5_renew_13 : decode cX5_renew 13 = .ok (.iastore, 1) := by decide +kernel
theorem dX5_renew_14 : decode cX5_renew 14 = .ok (.iconst 0, 1) := by decide +kernel
theorem dX5_renew_15 : decode cX5_renew 15 = .ok (.istore 4, 2) := by decide +kernel
theorem dX5_renew_17 : decode cX5_renew 17 = .ok (.iload 4, 2) := by decide +kernel
theorem dX5_renew_19 : decode cX5_renew 19 = .ok (.iload_n 3, 1) := by decide +kernel
theorem dX5_renew_20 : decode cX5_renew 20 = .ok (.if_icmp .ge 22, 3) := by decide +kernel
theorem dX5_renew_23 : decode cX5_renew 23 = .ok (.aload_n 0, 1) := by decide +kernel
theorem dX5_renew_24 : decode cX5_renew 24 = .ok (.getfield 9, 3) := by decide +kernel
theorem dX5_renew_27 : decode cX5_renew 27 = .ok (.iload_n 1, 1) := by decide +kernel
theorem dX5_renew_28 : decode cX5_renew 28 = .ok (.bipush 60, 2) := by decide +kernel
theorem dX5_renew_30 : decode cX5_renew 30 = .ok (.imul, 1) := by decide +kernel
theorem dX5_renew_31 : decode cX5_renew 31 = .ok (.iload 4, 2) := by decide +kernel
theorem dX5_renew_33 : decode cX5_renew 33 = .ok (.iadd, 1) := by decide +kernel
theorem dX5_renew_34 : decode cX5_renew 34 = .ok (.iconst 0, 1) := by decide +kernel
theorem dX5_renew_35 : decode cX5_renew 35 = .ok (.iastore, 1) := by decide +kernel
theorem dX5_renew_36 : decode cX5_renew 36 = .ok (.iinc 4 1, 3) := by decide +kernel
theorem dX5_renew_39 : decode cX5_renew 39 = .ok (.goto (-22), 3) := by decide +kernel
theorem dX5_renew_42 : decode cX5_renew 42 = .ok (.return_, 1) := by decide +kernel
set_option maxRecDepth 20000 in
set_option maxHeartbeats 4000000 in
theorem w_X5_renew_17 {x : tg_X} {Sf : tg_S} {rec17 : tg_S → Int32 → Int32 → Int32 → Option (tg_S)} (X : tg_M tauC x cX5_renew 5 RX5 zr_X5_renew none Sf none) (hr17 : ∀ (S : tg_S) (v1 : Int32) (v3 : Int32) (v4 : Int32), rec17 S v1 v3 v4 = some Sf → tg_G tauC x S 17 [(0, .ref (tg_ad x 7)), (1, .int v1), (3, .int v3), (4, .int v4)] []) (S : tg_S) (v1 : Int32) (v3 : Int32) (v4 : Int32) (h : f_X5_renew_17 rec17 S v1 v3 v4 = some Sf) : tg_G tauC x S 17 [(0, .ref (tg_ad x 7)), (1, .int v1), (3, .int v3), (4, .int v4)] [] := by
  unfold f_X5_renew_17 at h
  refine tg_iload X dX5_renew_17 3 rfl ?_
  refine tg_iload_n X dX5_renew_19 rfl 2 rfl ?_
  refine tg_icmp_ge (tgt := 42) X dX5_renew_20 (by decide) (fun c1 => ?_) (fun c1 => ?_)
  · have h := tg_ifT c1 h
    exact tg_vret X h dX5_renew_42
  · have h := tg_ifF c1 h
    refine tg_aload_n X dX5_renew_23 rfl 0 rfl ?_
    refine tg_getr X 7 rfl cl_X5 0 (by decide) rfl wf_X5_9 dX5_renew_24 ?_
    refine tg_iload_n X dX5_renew_27 rfl 1 rfl ?_
    refine tg_bipush X dX5_renew_28 tk_b60 ?_
    refine tg_imul X dX5_renew_30 ?_
    refine tg_iload X dX5_renew_31 3 rfl ?_
    refine tg_iadd X dX5_renew_33 ?_
    refine tg_iconst X dX5_renew_34 tk_i0 ?_
    obtain ⟨S2, eS2, bS2, h⟩ := tg_wrE h
    refine tg_iast X 8 rfl bS2 dX5_renew_35 eS2 ?_
    obtain ⟨y3, ey3⟩ : ∃ z : Int32, z = v4 + 1 := ⟨_, rfl⟩
    have h := tg_nmE ey3 h
    refine tg_iinc (lv2 := [(4, .int y3), (0, .ref (tg_ad x 7)), (1, .int v1), (3, .int v3)]) X dX5_renew_36 3 rfl tk_i1 ey3 (by decide) rfl ?_
    refine tg_goto (tgt := 17) X dX5_renew_39 (by decide) ?_
    refine tg_re [1, 2, 3, 0] rfl ?_
    exact hr17 S2 v1 v3 y3 h
theorem wl_X5_renew_17 {x : tg_X} {Sf : tg_S} (X : tg_M tauC x cX5_renew 5 RX5 zr_X5_renew none Sf none) : ∀ (n : Nat) (S : tg_S) (v1 : Int32) (v3 : Int32) (v4 : Int32) (h : L_X5_renew_17  n S v1 v3 v4 = some Sf), tg_G tauC x S 17 [(0, .ref (tg_ad x 7)), (1, .int v1), (3, .int v3), (4, .int v4)] [] := by
  intro n
  induction n with
  | zero => intro S v1 v3 v4 h; cases h
  | succ n ih => intro S v1 v3 v4 h; exact w_X5_renew_17 X  ih S v1 v3 v4 h
set_option maxRecDepth 20000 in
set_option maxHeartbeats 4000000 in
theorem w_X5_renew_0 {x : tg_X} {Sf : tg_S} (X : tg_M tauC x cX5_renew 5 RX5 zr_X5_renew none Sf none) (S : tg_S) (v1 : Int32) (v2 : Int32) (v3 : Int32) (h : f_X5_renew  S v1 v2 v3 = some Sf) : tg_G tauC x S 0 [(0, .ref (tg_ad x 7)), (1, .int v1), (2, .int v2), (3, .int v3)] [] := by
  unfold f_X5_renew at h
  refine tg_aload_n X dX5_renew_0 rfl 0 rfl ?_
  refine tg_getr X 7 rfl cl_X5 1 (by decide) rfl wf_X5_15 dX5_renew_1 ?_
  refine tg_iload_n X dX5_renew_4 rfl 1 rfl ?_
  refine tg_iload_n X dX5_renew_5 rfl 2 rfl ?_
  obtain ⟨S1, eS1, bS1, h⟩ := tg_wrE h
  refine tg_iast X 9 rfl bS1 dX5_renew_6 eS1 ?_
  refine tg_aload_n X dX5_renew_7 rfl 0 rfl ?_
  refine tg_getr X 7 rfl cl_X5 2 (by decide) rfl wf_X5_18 dX5_renew_8 ?_
  refine tg_iload_n X dX5_renew_11 rfl 1 rfl ?_
  refine tg_iload_n X dX5_renew_12 rfl 3 rfl ?_
  obtain ⟨S2, eS2, bS2, h⟩ := tg_wrE h
  refine tg_iast X 10 rfl bS2 dX5_renew_13 eS2 ?_
  refine tg_iconst X dX5_renew_14 tk_i0 ?_
  refine tg_istore (lv2 := [(4, .int 0), (0, .ref (tg_ad x 7)), (1, .int v1), (2, .int v2), (3, .int v3)]) X dX5_renew_15 (by decide) rfl ?_
  refine tg_re [1, 2, 4, 0] rfl ?_
  exact wl_X5_renew_17 X  tg_F S2 v1 v3 0 h
theorem cm_X5_renew (l : Launch) (D : va_G) (cy : Bool → ClassId) (ad : Nat → Nat) (tS : Nat) {S Sf : tg_S} {v1 : Int32} {v2 : Int32} {v3 : Int32} (h : f_X5_renew  S v1 v2 v3 = some Sf) : tg_Met l yX5_renew cX5_renew 5 none zr_X5_renew tauC D cy ad tS S [.ref (ad 7), .int v1, .int v2, .int v3] Sf none := tg_mk (by decide +kernel) trivial (Nat.le_of_ble_eq_true rfl) (fun p e s m args below meth c Q A X => w_X5_renew_0 X S v1 v2 v3 h)
-- X5_drop
def zr_X5_drop : Room := { frames := 0, cells := 0, slots := 0, locals := 0 }
theorem dX5_drop_0 : decode cX5_drop 0 = .ok (.aload_n 0, 1) := by decide +kernel
theorem dX5_drop_1 : decode cX5_drop 1 = .ok (.getfield 18, 3) := by decide +kernel
theorem dX5_drop_4 : decode cX5_drop 4 = .ok (.iload_n 1, 1) := by decide +kernel
theorem dX5_drop_5 : decode cX5_drop 5 = .ok (.iaload, 1) := by decide +kernel
theorem dX5_drop_6 : decode cX5_drop 6 = .ok (.istore_n 2, 1) := by decide +kernel
theorem dX5_drop_7 : decode cX5_drop 7 = .ok (.aload_n 0, 1) := by decide +kernel
theorem dX5_drop_8 : decode cX5_drop 8 = .ok (.getfield 18, 3) := by decide +kernel
theorem dX5_drop_11 : decode cX5_drop 11 = .ok (.iload_n 1, 1) := by decide +kernel
theorem dX5_drop_12 : decode cX5_drop 12 = .ok (.iconst (-1), 1) := by decide +kernel
theorem dX5_drop_13 : decode cX5_drop 13 = .ok (.iastore, 1) := by decide +kernel
theorem dX5_drop_14 : decode cX5_drop 14 = .ok (.iload_n 2, 1) := by decide +kernel
theorem dX5_drop_15 : decode cX5_drop 15 = .ok (.ireturn, 1) := by decide +kernel
set_option maxRecDepth 20000 in
set_option maxHeartbeats 4000000 in
theorem w_X5_drop_0 {x : tg_X} {Sf : tg_S} {r : Int32} (X : tg_M tauC x cX5_drop 3 RX5 zr_X5_drop (some .int) Sf (some (.int r))) (S : tg_S) (v1 : Int32) (h : f_X5_drop  S v1 = some (Sf, r)) : tg_G tauC x S 0 [(0, .ref (tg_ad x 7)), (1, .int v1)] [] := by
  unfold f_X5_drop at h
  refine tg_aload_n X dX5_drop_0 rfl 0 rfl ?_
  refine tg_getr X 7 rfl cl_X5 2 (by decide) rfl wf_X5_18 dX5_drop_1 ?_
  refine tg_iload_n X dX5_drop_4 rfl 1 rfl ?_
  obtain ⟨y1, ey1, by1, h⟩ := tg_rdE h
  refine tg_iald X 10 rfl ey1 by1 dX5_drop_5 ?_
  refine tg_istore_n (lv2 := [(2, .int y1), (0, .ref (tg_ad x 7)), (1, .int v1)]) X dX5_drop_6 rfl (by decide) rfl ?_
  refine tg_aload_n X dX5_drop_7 rfl 1 rfl ?_
  refine tg_getr X 7 rfl cl_X5 2 (by decide) rfl wf_X5_18 dX5_drop_8 ?_
  refine tg_iload_n X dX5_drop_11 rfl 2 rfl ?_
  refine tg_iconst X dX5_drop_12 tk_im1 ?_
  obtain ⟨S2, eS2, bS2, h⟩ := tg_wrE h
  refine tg_iast X 10 rfl bS2 dX5_drop_13 eS2 ?_
  refine tg_iload_n X dX5_drop_14 rfl 0 rfl ?_
  exact tg_iret X h rfl dX5_drop_15
theorem cm_X5_drop (l : Launch) (D : va_G) (cy : Bool → ClassId) (ad : Nat → Nat) (tS : Nat) {S Sf : tg_S} {v1 : Int32} {r : Int32} (h : f_X5_drop  S v1 = some (Sf, r)) : tg_Met l yX5_drop cX5_drop 3 (some .int) zr_X5_drop tauC D cy ad tS S [.ref (ad 7), .int v1] Sf (some (.int r)) := tg_mk (by decide +kernel) trivial (Nat.le_of_ble_eq_true rfl) (fun p e s m args below meth c Q A X => w_X5_drop_0 X S v1 h)
-- X7_isBelow
def zr_X7_isBelow : Room := { frames := 0, cells := 0, slots := 0, locals := 0 }
theorem dX7_isBelow_0 : decode cX7_isBelow 0 = .ok (.iload_n 0, 1) := by decide +kernel
theorem dX7_isBelow_1 : decode cX7_isBelow 1 = .ok (.ifCond .lt 12, 3) := by decide +kernel
theorem dX7_isBelow_4 : decode cX7_isBelow 4 = .ok (.iload_n 0, 1) := by decide +kernel
theorem dX7_isBelow_5 : decode cX7_isBelow 5 = .ok (.iload_n 1, 1) := by decide +kernel
theorem dX7_isBelow_6 : decode cX7_isBelow 6 = .ok (.if_icmp .ge 7, 3) := by decide +kernel
theorem dX7_isBelow_9 : decode cX7_isBelow 9 = .ok (.iconst 1, 1) := by decide +kernel
theorem dX7_isBelow_10 : decode cX7_isBelow 10 = .ok (.goto 4, 3) := by decide +kernel
theorem dX7_isBelow_13 : decode cX7_isBelow 13 = .ok (.iconst 0, 1) := by decide +kernel
theorem dX7_isBelow_14 : decode cX7_isBelow 14 = .ok (.ireturn, 1) := by decide +kernel
set_option maxRecDepth 20000 in
set_option maxHeartbeats 4000000 in
theorem w_X7_isBelow_0 {x : tg_X} {Sf : tg_S} {r : Int32} (X : tg_M tauC x cX7_isBelow 2 RX7 zr_X7_isBelow (some .boolean) Sf (some (.int r))) (S : tg_S) (v0 : Int32) (v1 : Int32) (h : f_X7_isBelow  S v0 v1 = some (Sf, r)) : tg_G tauC x S 0 [(0, .int v0), (1, .int v1)] [] := by
  unfold f_X7_isBelow at h
  refine tg_iload_n X dX7_isBelow_0 rfl 0 rfl ?_
  refine tg_if_lt (tgt := 13) X dX7_isBelow_1 (by decide) (fun c1 => ?_) (fun c1 => ?_)
  · have h := tg_ifT c1 h
    refine tg_iconst X dX7_isBelow_13 tk_i0 ?_
    exact tg_iret X h rfl dX7_isBelow_14
  · have h := tg_ifF c1 h
    refine tg_iload_n X dX7_isBelow_4 rfl 0 rfl ?_
    refine tg_iload_n X dX7_isBelow_5 rfl 1 rfl ?_
    refine tg_icmp_ge (tgt := 13) X dX7_isBelow_6 (by decide) (fun c2 => ?_) (fun c2 => ?_)
    · have h := tg_ifT c2 h
      refine tg_iconst X dX7_isBelow_13 tk_i0 ?_
      exact tg_iret X h rfl dX7_isBelow_14
    · have h := tg_ifF c2 h
      refine tg_iconst X dX7_isBelow_9 tk_i1 ?_
      refine tg_goto (tgt := 14) X dX7_isBelow_10 (by decide) ?_
      exact tg_iret X h rfl dX7_isBelow_14
theorem cm_X7_isBelow (l : Launch) (D : va_G) (cy : Bool → ClassId) (ad : Nat → Nat) (tS : Nat) {S Sf : tg_S} {v0 : Int32} {v1 : Int32} {r : Int32} (h : f_X7_isBelow  S v0 v1 = some (Sf, r)) : tg_Met l yX7_isBelow cX7_isBelow 2 (some .boolean) zr_X7_isBelow tauC D cy ad tS S [.int v0, .int v1] Sf (some (.int r)) := tg_mk (by decide +kernel) trivial (Nat.le_of_ble_eq_true rfl) (fun p e s m args below meth c Q A X => w_X7_isBelow_0 X S v0 v1 h)
-- X5_whatIsWrong
def zr_X5_whatIsWrong : Room := { frames := 1, cells := 0, slots := 0, locals := 21 }
theorem dX5_whatIsWrong_0 : decode cX5_whatIsWrong 0 = .ok (.aload_n 0, 1) := by decide +kernel
theorem dX5_whatIsWrong_1 : decode cX5_whatIsWrong 1 = .ok (.iload_n 1, 1) := by decide +kernel
theorem dX5_whatIsWrong_2 : decode cX5_whatIsWrong 2 = .ok (.invokevirtual 21, 3) := by decide +kernel
theorem dX5_whatIsWrong_5 : decode cX5_whatIsWrong 5 = .ok (.ifCond .eq 5, 3) := by decide +kernel
theorem dX5_whatIsWrong_8 : decode cX5_whatIsWrong 8 = .ok (.iconst 1, 1) := by decide +kernel
theorem dX5_whatIsWrong_9 : decode cX5_whatIsWrong 9 = .ok (.ireturn, 1) := by decide +kernel
theorem dX5_whatIsWrong_10 : decode cX5_whatIsWrong 10 = .ok (.aload_n 0, 1) := by decide +kernel
theorem dX5_whatIsWrong_11 : decode cX5_whatIsWrong 11 = .ok (.getfield 15, 3) := by decide +kernel
theorem dX5_whatIsWrong_14 : decode cX5_whatIsWrong 14 = .ok (.iload_n 1, 1) := by decide +kernel
theorem dX5_whatIsWrong_15 : decode cX5_whatIsWrong 15 = .ok (.iaload, 1) := by decide +kernel
theorem dX5_whatIsWrong_16 : decode cX5_whatIsWrong 16 = .ok (.iload_n 2, 1) := by decide +kernel
theorem dX5_whatIsWrong_17 : decode cX5_whatIsWrong 17 = .ok (.if_icmp .eq 5, 3) := by decide +kernel
theorem dX5_whatIsWrong_20 : decode cX5_whatIsWrong 20 = .ok (.iconst 3, 1) := by decide +kernel
theorem dX5_whatIsWrong_21 : decode cX5_whatIsWrong 21 = .ok (.ireturn, 1) := by decide +kernel
theorem dX5_whatIsWrong_22 : decode cX5_whatIsWrong 22 = .ok (.iload_n 3, 1) := by decide +kernel
theorem dX5_whatIsWrong_23 : decode cX5_whatIsWrong 23 = .ok (.aload_n 0, 1) := by decide +kernel
theorem dX5_whatIsWrong_24 : decode cX5_whatIsWrong 24 = .ok (.getfield 18, 3) := by decide +kernel
theorem dX5_whatIsWrong_27 : decode cX5_whatIsWrong 27 = .ok (.iload_n 1, 1) := by decide +kernel
theorem dX5_whatIsWrong_28 : decode cX5_whatIsWrong 28 = .ok (.iaload, 1) := by decide +kernel
theorem dX5_whatIsWrong_29 : decode cX5_whatIsWrong 29 = .ok (.invokestatic 25, 3) := by decide +kernel
theorem dX5_whatIsWrong_32 : decode cX5_whatIsWrong 32 = .ok (.ifCond .eq 7, 3) := by decide +kernel
theorem dX5_whatIsWrong_35 : decode cX5_whatIsWrong 35 = .ok (.iconst 0, 1) := by decide +kernel
theorem dX5_whatIsWrong_36 : decode cX5_whatIsWrong 36 = .ok (.goto 4, 3) := by decide +kernel
theorem dX5_whatIsWrong_39 : decode cX5_whatIsWrong 39 = .ok (.iconst 2, 1) := by decide +kernel
theorem dX5_whatIsWrong_40 : decode cX5_whatIsWrong 40 = .ok (.ireturn, 1) := by decide +kernel
set_option maxRecDepth 20000 in
set_option maxHeartbeats 4000000 in
theorem w_X5_whatIsWrong_0 {x : tg_X} {Sf : tg_S} {r : Int32} (X : tg_M tauC x cX5_whatIsWrong 4 RX5 zr_X5_whatIsWrong (some .int) Sf (some (.int r))) (S : tg_S) (v1 : Int32) (v2 : Int32) (v3 : Int32) (h : f_X5_whatIsWrong  S v1 v2 v3 = some (Sf, r)) : tg_G tauC x S 0 [(0, .ref (tg_ad x 7)), (1, .int v1), (2, .int v2), (3, .int v3)] [] := by
  unfold f_X5_whatIsWrong at h
  refine tg_aload_n X dX5_whatIsWrong_0 rfl 0 rfl ?_
  refine tg_iload_n X dX5_whatIsWrong_1 rfl 1 rfl ?_
  obtain ⟨S1, r2, kS1, h⟩ := tg_bdE h
  refine tg_callV (As := [.int v1]) (rest := []) X 7 (cm_X5_isLost _ _ _ _ _ kS1) yy_X5_isLost wv_X5_isLost ws_X5_isLost wm_X5_21 rfl cl_X5.1 ⟨rfl, rfl, Nat.le_of_ble_eq_true rfl, Nat.le_of_ble_eq_true rfl⟩ rfl rfl (Nat.le_of_ble_eq_true rfl) dX5_whatIsWrong_2 rfl ?_
  refine tg_if_eq (tgt := 10) X dX5_whatIsWrong_5 (by decide) (fun c3 => ?_) (fun c3 => ?_)
  · have h := tg_ifT c3 h
    refine tg_aload_n X dX5_whatIsWrong_10 rfl 0 rfl ?_
    refine tg_getr X 7 rfl cl_X5 1 (by decide) rfl wf_X5_15 dX5_whatIsWrong_11 ?_
    refine tg_iload_n X dX5_whatIsWrong_14 rfl 1 rfl ?_
    obtain ⟨y4, ey4, by4, h⟩ := tg_rdE h
    refine tg_iald X 9 rfl ey4 by4 dX5_whatIsWrong_15 ?_
    refine tg_iload_n X dX5_whatIsWrong_16 rfl 2 rfl ?_
    refine tg_icmp_eq (tgt := 22) X dX5_whatIsWrong_17 (by decide) (fun c5 => ?_) (fun c5 => ?_)
    · have h := tg_ifT c5 h
      refine tg_iload_n X dX5_whatIsWrong_22 rfl 3 rfl ?_
      refine tg_aload_n X dX5_whatIsWrong_23 rfl 0 rfl ?_
      refine tg_getr X 7 rfl cl_X5 2 (by decide) rfl wf_X5_18 dX5_whatIsWrong_24 ?_
      refine tg_iload_n X dX5_whatIsWrong_27 rfl 1 rfl ?_
      obtain ⟨y6, ey6, by6, h⟩ := tg_rdE h
      refine tg_iald X 10 rfl ey6 by6 dX5_whatIsWrong_28 ?_
      obtain ⟨S7, r8, kS7, h⟩ := tg_bdE h
      refine tg_callSN (As := [.int v3, .int y6]) (rest := []) X (cm_X7_isBelow _ _ _ _ _ kS7) yy_X7_isBelow wt_X7_isBelow (fun h => h.2.1) ⟨rfl, rfl, Nat.le_of_ble_eq_true rfl, Nat.le_of_ble_eq_true rfl⟩ rfl rfl (Nat.le_of_ble_eq_true rfl) dX5_whatIsWrong_29 rfl ?_
      refine tg_if_eq (tgt := 39) X dX5_whatIsWrong_32 (by decide) (fun c9 => ?_) (fun c9 => ?_)
      · have h := tg_ifT c9 h
        refine tg_iconst X dX5_whatIsWrong_39 tk_i2 ?_
        exact tg_iret X h rfl dX5_whatIsWrong_40
      · have h := tg_ifF c9 h
        refine tg_iconst X dX5_whatIsWrong_35 tk_i0 ?_
        refine tg_goto (tgt := 40) X dX5_whatIsWrong_36 (by decide) ?_
        exact tg_iret X h rfl dX5_whatIsWrong_40
    · have h := tg_ifF c5 h
      refine tg_iconst X dX5_whatIsWrong_20 tk_i3 ?_
      exact tg_iret X h rfl dX5_whatIsWrong_21
  · have h := tg_ifF c3 h
    refine tg_iconst X dX5_whatIsWrong_8 tk_i1 ?_
    exact tg_iret X h rfl dX5_whatIsWrong_9
theorem cm_X5_whatIsWrong (l : Launch) (D : va_G) (cy : Bool → ClassId) (ad : Nat → Nat) (tS : Nat) {S Sf : tg_S} {v1 : Int32} {v2 : Int32} {v3 : Int32} {r : Int32} (h : f_X5_whatIsWrong  S v1 v2 v3 = some (Sf, r)) : tg_Met l yX5_whatIsWrong cX5_whatIsWrong 4 (some .int) zr_X5_whatIsWrong tauC D cy ad tS S [.ref (ad 7), .int v1, .int v2, .int v3] Sf (some (.int r)) := tg_mk (by decide +kernel) trivial (Nat.le_of_ble_eq_true rfl) (fun p e s m args below meth c Q A X => w_X5_whatIsWrong_0 X S v1 v2 v3 h)
-- X5_areAlike
def zr_X5_areAlike : Room := { frames := 0, cells := 0, slots := 0, locals := 0 }
theorem dX5_areAlike_0 : decode cX5_areAlike 0 = .ok (.aload_n 0, 1) := by decide +kernel
theorem dX5_areAlike_1 : decode cX5_areAlike 1 = .ok (.getfield 15, 3) := by decide +kernel
theorem dX5_areAlike_4 : decode cX5_areAlike 4 = .ok (.iload_n 1, 1) := by decide +kernel
theorem dX5_areAlike_5 : decode cX5_areAlike 5 = .ok (.iaload, 1) := by decide +kernel
theorem dX5_areAlike_6 : decode cX5_areAlike 6 = .ok (.aload_n 0, 1) := by decide +kernel
theorem dX5_areAlike_7 : decode cX5_areAlike 7 = .ok (.getfield 15, 3) := by decide +kernel
theorem dX5_areAlike_10 : decode cX5_areAlike 10 = .ok (.iload_n 2, 1) := by decide +kernel
theorem dX5_areAlike_11 : decode cX5_areAlike 11 = .ok (.iaload, 1) := by decide +kernel
theorem dX5_areAlike_12 : decode cX5_areAlike 12 = .ok (.if_icmp .ne 7, 3) := by decide +kernel
theorem dX5_areAlike_15 : decode cX5_areAlike 15 = .ok (.iconst 1, 1) := by decide +kernel
theorem dX5_areAlike_16 : decode cX5_areAlike 16 = .ok (.goto 4, 3) := by decide +kernel
theorem dX5_areAlike_19 : decode cX5_areAlike 19 = .ok (.iconst 0, 1) := by decide +kernel
theorem dX5_areAlike_20 : decode cX5_areAlike 20 = .ok (.ireturn, 1) := by decide +kernel
set_option maxRecDepth 20000 in
set_option maxHeartbeats 4000000 in
theorem w_X5_areAlike_0 {x : tg_X} {Sf : tg_S} {r : Int32} (X : tg_M tauC x cX5_areAlike 3 RX5 zr_X5_areAlike (some .boolean) Sf (some (.int r))) (S : tg_S) (v1 : Int32) (v2 : Int32) (h : f_X5_areAlike  S v1 v2 = some (Sf, r)) : tg_G tauC x S 0 [(0, .ref (tg_ad x 7)), (1, .int v1), (2, .int v2)] [] := by
  unfold f_X5_areAlike at h
  refine tg_aload_n X dX5_areAlike_0 rfl 0 rfl ?_
  refine tg_getr X 7 rfl cl_X5 1 (by decide) rfl wf_X5_15 dX5_areAlike_1 ?_
  refine tg_iload_n X dX5_areAlike_4 rfl 1 rfl ?_
  obtain ⟨y1, ey1, by1, h⟩ := tg_rdE h
  refine tg_iald X 9 rfl ey1 by1 dX5_areAlike_5 ?_
  refine tg_aload_n X dX5_areAlike_6 rfl 0 rfl ?_
  refine tg_getr X 7 rfl cl_X5 1 (by decide) rfl wf_X5_15 dX5_areAlike_7 ?_
  refine tg_iload_n X dX5_areAlike_10 rfl 2 rfl ?_
  obtain ⟨y2, ey2, by2, h⟩ := tg_rdE h
  refine tg_iald X 9 rfl ey2 by2 dX5_areAlike_11 ?_
  refine tg_icmp_ne (tgt := 19) X dX5_areAlike_12 (by decide) (fun c3 => ?_) (fun c3 => ?_)
  · have h := tg_ifF c3 h
    refine tg_iconst X dX5_areAlike_19 tk_i0 ?_
    exact tg_iret X h rfl dX5_areAlike_20
  · have h := tg_ifT c3 h
    refine tg_iconst X dX5_areAlike_15 tk_i1 ?_
    refine tg_goto (tgt := 20) X dX5_areAlike_16 (by decide) ?_
    exact tg_iret X h rfl dX5_areAlike_20
theorem cm_X5_areAlike (l : Launch) (D : va_G) (cy : Bool → ClassId) (ad : Nat → Nat) (tS : Nat) {S Sf : tg_S} {v1 : Int32} {v2 : Int32} {r : Int32} (h : f_X5_areAlike  S v1 v2 = some (Sf, r)) : tg_Met l yX5_areAlike cX5_areAlike 3 (some .boolean) zr_X5_areAlike tauC D cy ad tS S [.ref (ad 7), .int v1, .int v2] Sf (some (.int r)) := tg_mk (by decide +kernel) trivial (Nat.le_of_ble_eq_true rfl) (fun p e s m args below meth c Q A X => w_X5_areAlike_0 X S v1 v2 h)
-- X5_holds
def zr_X5_holds : Room := { frames := 0, cells := 0, slots := 0, locals := 0 }
theorem dX5_holds_0 : decode cX5_holds 0 = .ok (.iload_n 2, 1) := by decide +kernel
theorem dX5_holds_1 : decode cX5_holds 1 = .ok (.ifCond .lt 29, 3) := by decide +kernel
theorem dX5_holds_4 : decode cX5_holds 4 = .ok (.iload_n 2, 1) := by decide +kernel
theorem dX5_holds_5 : decode cX5_holds 5 = .ok (.aload_n 0, 1) := by decide +kernel
theorem dX5_holds_6 : decode cX5_holds 6 = .ok (.getfield 18, 3) := by decide +kernel
theorem dX5_holds_9 : decode cX5_holds 9 = .ok (.iload_n 1, 1) := by decide +kernel
theorem dX5_holds_10 : decode cX5_holds 10 = .ok (.iaload, 1) := by decide +kernel
theorem dX5_holds_11 : decode cX5_holds 11 = .ok (.if_icmp .gt 19, 3) := by decide +kernel
theorem dX5_holds_14 : decode cX5_holds 14 = .ok (.iload_n 3, 1) := by decide +kernel
theorem dX5_holds_15 : decode cX5_holds 15 = .ok (.aload_n 0, 1) := by decide +kernel
theorem dX5_holds_16 : decode cX5_holds 16 = .ok (.getfield 18, 3) := by decide +kernel
theorem dX5_holds_19 : decode cX5_holds 19 = .ok (.iload_n 1, 1) := by decide +kernel
theorem dX5_holds_20 : decode cX5_holds 20 = .ok (.iaload, 1) := by decide +kernel
theorem dX5_holds_21 : decode cX5_holds 21 = .ok (.iload_n 2, 1) := by decide +kernel
theorem dX5_holds_22 : decode cX5_holds 22 = .ok (.isub, 1) := by decide +kernel
theorem dX5_holds_23 : decode cX5_holds 23 = .ok (.if_icmp .gt 7, 3) := by decide +kernel
theorem dX5_holds_26 : decode cX5_holds 26 = .ok (.iconst 1, 1) := by decide +kernel
theorem dX5_holds_27 : decode cX5_holds 27 = .ok (.goto 4, 3) := by decide +kernel
theorem dX5_holds_30 : decode cX5_holds 30 = .ok (.iconst 0, 1) := by decide +kernel
theorem dX5_holds_31 : decode cX5_holds 31 = .ok (.ireturn, 1) := by decide +kernel
set_option maxRecDepth 20000 in
set_option maxHeartbeats 4000000 in
theorem w_X5_holds_0 {x : tg_X} {Sf : tg_S} {r : Int32} (X : tg_M tauC x cX5_holds 4 RX5 zr_X5_holds (some .boolean) Sf (some (.int r))) (S : tg_S) (v1 : Int32) (v2 : Int32) (v3 : Int32) (h : f_X5_holds  S v1 v2 v3 = some (Sf, r)) : tg_G tauC x S 0 [(0, .ref (tg_ad x 7)), (1, .int v1), (2, .int v2), (3, .int v3)] [] := by
  unfold f_X5_holds at h
  refine tg_iload_n X dX5_holds_0 rfl 2 rfl ?_
  refine tg_if_lt (tgt := 30) X dX5_holds_1 (by decide) (fun c1 => ?_) (fun c1 => ?_)
  · have h := tg_ifT c1 h
    refine tg_iconst X dX5_holds_30 tk_i0 ?_
    exact tg_iret X h rfl dX5_holds_31
  · have h := tg_ifF c1 h
    refine tg_iload_n X dX5_holds_4 rfl 2 rfl ?_
    refine tg_aload_n X dX5_holds_5 rfl 0 rfl ?_
    refine tg_getr X 7 rfl cl_X5 2 (by decide) rfl wf_X5_18 dX5_holds_6 ?_
    refine tg_iload_n X dX5_holds_9 rfl 1 rfl ?_
    obtain ⟨y2, ey2, by2, h⟩ := tg_rdE h
    refine tg_iald X 10 rfl ey2 by2 dX5_holds_10 ?_
    refine tg_icmp_gt (tgt := 30) X dX5_holds_11 (by decide) (fun c3 => ?_) (fun c3 => ?_)
    · have h := tg_ifT c3 h
      refine tg_iconst X dX5_holds_30 tk_i0 ?_
      exact tg_iret X h rfl dX5_holds_31
    · have h := tg_ifF c3 h
      refine tg_iload_n X dX5_holds_14 rfl 3 rfl ?_
      refine tg_aload_n X dX5_holds_15 rfl 0 rfl ?_
      refine tg_getr X 7 rfl cl_X5 2 (by decide) rfl wf_X5_18 dX5_holds_16 ?_
      refine tg_iload_n X dX5_holds_19 rfl 1 rfl ?_
      obtain ⟨y4, ey4, by4, h⟩ := tg_rdE h
      refine tg_iald X 10 rfl ey4 by4 dX5_holds_20 ?_
      refine tg_iload_n X dX5_holds_21 rfl 2 rfl ?_
      refine tg_isub X dX5_holds_22 ?_
      refine tg_icmp_gt (tgt := 30) X dX5_holds_23 (by decide) (fun c5 => ?_) (fun c5 => ?_)
      · have h := tg_ifT c5 h
        refine tg_iconst X dX5_holds_30 tk_i0 ?_
        exact tg_iret X h rfl dX5_holds_31
      · have h := tg_ifF c5 h
        refine tg_iconst X dX5_holds_26 tk_i1 ?_
        refine tg_goto (tgt := 31) X dX5_holds_27 (by decide) ?_
        exact tg_iret X h rfl dX5_holds_31
theorem cm_X5_holds (l : Launch) (D : va_G) (cy : Bool → ClassId) (ad : Nat → Nat) (tS : Nat) {S Sf : tg_S} {v1 : Int32} {v2 : Int32} {v3 : Int32} {r : Int32} (h : f_X5_holds  S v1 v2 v3 = some (Sf, r)) : tg_Met l yX5_holds cX5_holds 4 (some .boolean) zr_X5_holds tauC D cy ad tS S [.ref (ad 7), .int v1, .int v2, .int v3] Sf (some (.int r)) := tg_mk (by decide +kernel) trivial (Nat.le_of_ble_eq_true rfl) (fun p e s m args below meth c Q A X => w_X5_holds_0 X S v1 v2 v3 h)
-- X5_item
def zr_X5_item : Room := { frames := 0, cells := 0, slots := 0, locals := 0 }
theorem dX5_item_0 : decode cX5_item 0 = .ok (.aload_n 0, 1) := by decide +kernel
theorem dX5_item_1 : decode cX5_item 1 = .ok (.getfield 9, 3) := by decide +kernel
theorem dX5_item_4 : decode cX5_item 4 = .ok (.iload_n 1, 1) := by decide +kernel
theorem dX5_item_5 : decode cX5_item 5 = .ok (.bipush 60, 2) := by decide +kernel
theorem dX5_item_7 : decode cX5_item 7 = .ok (.imul, 1) := by decide +kernel
theorem dX5_item_8 : decode cX5_item 8 = .ok (.iload_n 2, 1) := by decide +kernel
theorem dX5_item_9 : decode cX5_item 9 = .ok (.iadd, 1) := by decide +kernel
theorem dX5_item_10 : decode cX5_item 10 = .ok (.iaload, 1) := by decide +kernel
theorem dX5_item_11 : decode cX5_item 11 = .ok (.ireturn, 1) := by decide +kernel
set_option maxRecDepth 20000 in
set_option maxHeartbeats 4000000 in
theorem w_X5_item_0 {x : tg_X} {Sf : tg_S} {r : Int32} (X : tg_M tauC x cX5_item 3 RX5 zr_X5_item (some .int) Sf (some (.int r))) (S : tg_S) (v1 : Int32) (v2 : Int32) (h : f_X5_item  S v1 v2 = some (Sf, r)) : tg_G tauC x S 0 [(0, .ref (tg_ad x 7)), (1, .int v1), (2, .int v2)] [] := by
  unfold f_X5_item at h
  refine tg_aload_n X dX5_item_0 rfl 0 rfl ?_
  refine tg_getr X 7 rfl cl_X5 0 (by decide) rfl wf_X5_9 dX5_item_1 ?_
  refine tg_iload_n X dX5_item_4 rfl 1 rfl ?_
  refine tg_bipush X dX5_item_5 tk_b60 ?_
  refine tg_imul X dX5_item_7 ?_
  refine tg_iload_n X dX5_item_8 rfl 2 rfl ?_
  refine tg_iadd X dX5_item_9 ?_
  obtain ⟨y1, ey1, by1, h⟩ := tg_rdE h
  refine tg_iald X 8 rfl ey1 by1 dX5_item_10 ?_
  exact tg_iret X h rfl dX5_item_11
theorem cm_X5_item (l : Launch) (D : va_G) (cy : Bool → ClassId) (ad : Nat → Nat) (tS : Nat) {S Sf : tg_S} {v1 : Int32} {v2 : Int32} {r : Int32} (h : f_X5_item  S v1 v2 = some (Sf, r)) : tg_Met l yX5_item cX5_item 3 (some .int) zr_X5_item tauC D cy ad tS S [.ref (ad 7), .int v1, .int v2] Sf (some (.int r)) := tg_mk (by decide +kernel) trivial (Nat.le_of_ble_eq_true rfl) (fun p e s m args below meth c Q A X => w_X5_item_0 X S v1 v2 h)
-- X5_store
def zr_X5_store : Room := { frames := 0, cells := 0, slots := 0, locals := 0 }
theorem dX5_store_0 : decode cX5_store 0 = .ok (.iload_n 3, 1) := by decide +kernel
theorem dX5_store_1 : decode cX5_store 1 = .ok (.istore 4, 2) := by decide +kernel
theorem dX5_store_3 : decode cX5_store 3 = .ok (.aload_n 0, 1) := by decide +kernel
theorem dX5_store_4 : decode cX5_store 4 = .ok (.getfield 15, 3) := by decide +kernel
theorem dX5_store_7 : decode cX5_store 7 = .ok (.iload_n 1, 1) := by decide +kernel
theorem dX5_store_8 : decode cX5_store 8 = .ok (.iaload, 1) := by decide +kernel
theorem dX5_store_9 : decode cX5_store 9 = .ok (.ifCond .ne 10, 3) := by decide +kernel
theorem dX5_store_12 : decode cX5_store 12 = .ok (.iload_n 3, 1) := by decide +kernel
theorem dX5_store_13 : decode cX5_store 13 = .ok (.i2b, 1) := by decide +kernel
theorem dX5_store_14 : decode cX5_store 14 = .ok (.istore 4, 2) := by decide +kernel
theorem dX5_store_16 : decode cX5_store 16 = .ok (.goto 17, 3) := by decide +kernel
theorem dX5_store_19 : decode cX5_store 19 = .ok (.aload_n 0, 1) := by decide +kernel
theorem dX5_store_20 : decode cX5_store 20 = .ok (.getfield 15, 3) := by decide +kernel
theorem dX5_store_23 : decode cX5_store 23 = .ok (.iload_n 1, 1) := by decide +kernel
theorem dX5_store_24 : decode cX5_store 24 = .ok (.iaload, 1) := by decide +kernel
theorem dX5_store_25 : decode cX5_store 25 = .ok (.iconst 1, 1) := by decide +kernel
theorem dX5_store_26 : decode cX5_store 26 = .ok (.if_icmp .ne 7, 3) := by decide +kernel
theorem dX5_store_29 : decode cX5_store 29 = .ok (.iload_n 3, 1) := by decide +kernel
theorem dX5_store_30 : decode cX5_store 30 = .ok (.i2s, 1) := by decide +kernel
theorem dX5_store_31 : decode cX5_store 31 = .ok (.istore 4, 2) := by decide +kernel
theorem dX5_store_33 : decode cX5_store 33 = .ok (.aload_n 0, 1) := by decide +kernel
theorem dX5_store_34 : decode cX5_store 34 = .ok (.getfield 9, 3) := by decide +kernel
theorem dX5_store_37 : decode cX5_store 37 = .ok (.iload_n 1, 1) := by decide +kernel
theorem dX5_store_38 : decode cX5_store 38 = .ok (.bipush 60, 2) := by decide +kernel
theorem dX5_store_40 : decode cX5_store 40 = .ok (.imul, 1) := by decide +kernel
theorem dX5_store_41 : decode cX5_store 41 = .ok (.iload_n 2, 1) := by decide +kernel
theorem dX5_store_42 : decode cX5_store 42 = .ok (.iadd, 1) := by decide +kernel
theorem dX5_store_43 : decode cX5_store 43 = .ok (.iload 4, 2) := by decide +kernel
theorem dX5_store_45 : decode cX5_store 45 = .ok (.iastore, 1) := by decide +kernel
theorem dX5_store_46 : decode cX5_store 46 = .ok (.return_, 1) := by decide +kernel
set_option maxRecDepth 20000 in
set_option maxHeartbeats 4000000 in
theorem w_X5_store_33 {x : tg_X} {Sf : tg_S} (X : tg_M tauC x cX5_store 5 RX5 zr_X5_store none Sf none) (S : tg_S) (v1 : Int32) (v2 : Int32) (v4 : Int32) (h : f_X5_store_33  S v1 v2 v4 = some Sf) : tg_G tauC x S 33 [(0, .ref (tg_ad x 7)), (1, .int v1), (2, .int v2), (4, .int v4)] [] := by
  unfold f_X5_store_33 at h
  refine tg_aload_n X dX5_store_33 rfl 0 rfl ?_
  refine tg_getr X 7 rfl cl_X5 0 (by decide) rfl wf_X5_9 dX5_store_34 ?_
  refine tg_iload_n X dX5_store_37 rfl 1 rfl ?_
  refine tg_bipush X dX5_store_38 tk_b60 ?_
  refine tg_imul X dX5_store_40 ?_
  refine tg_iload_n X dX5_store_41 rfl 2 rfl ?_
  refine tg_iadd X dX5_store_42 ?_
  refine tg_iload X dX5_store_43 3 rfl ?_
  obtain ⟨S1, eS1, bS1, h⟩ := tg_wrE h
  refine tg_iast X 8 rfl bS1 dX5_store_45 eS1 ?_
  exact tg_vret X h dX5_store_46
set_option maxRecDepth 20000 in
set_option maxHeartbeats 4000000 in
theorem w_X5_store_0 {x : tg_X} {Sf : tg_S} (X : tg_M tauC x cX5_store 5 RX5 zr_X5_store none Sf none) (S : tg_S) (v1 : Int32) (v2 : Int32) (v3 : Int32) (h : f_X5_store  S v1 v2 v3 = some Sf) : tg_G tauC x S 0 [(0, .ref (tg_ad x 7)), (1, .int v1), (2, .int v2), (3, .int v3)] [] := by
  unfold f_X5_store at h
  refine tg_iload_n X dX5_store_0 rfl 3 rfl ?_
  refine tg_istore (lv2 := [(4, .int v3), (0, .ref (tg_ad x 7)), (1, .int v1), (2, .int v2), (3, .int v3)]) X dX5_store_1 (by decide) rfl ?_
  refine tg_aload_n X dX5_store_3 rfl 1 rfl ?_
  refine tg_getr X 7 rfl cl_X5 1 (by decide) rfl wf_X5_15 dX5_store_4 ?_
  refine tg_iload_n X dX5_store_7 rfl 2 rfl ?_
  obtain ⟨y1, ey1, by1, h⟩ := tg_rdE h
  refine tg_iald X 9 rfl ey1 by1 dX5_store_8 ?_
  refine tg_if_ne (tgt := 19) X dX5_store_9 (by decide) (fun c2 => ?_) (fun c2 => ?_)
  · have h := tg_ifF c2 h
    refine tg_aload_n X dX5_store_19 rfl 1 rfl ?_
    refine tg_getr X 7 rfl cl_X5 1 (by decide) rfl wf_X5_15 dX5_store_20 ?_
    refine tg_iload_n X dX5_store_23 rfl 2 rfl ?_
    obtain ⟨y3, ey3, by3, h⟩ := tg_rdE h
    refine tg_iald X 9 rfl ey3 by3 dX5_store_24 ?_
    refine tg_iconst X dX5_store_25 tk_i1 ?_
    refine tg_icmp_ne (tgt := 33) X dX5_store_26 (by decide) (fun c4 => ?_) (fun c4 => ?_)
    · have h := tg_ifF c4 h
      refine tg_re [1, 2, 3, 0] rfl ?_
      exact w_X5_store_33 X  S v1 v2 v3 h
    · have h := tg_ifT c4 h
      refine tg_iload_n X dX5_store_29 rfl 4 rfl ?_
      refine tg_i2s X dX5_store_30 ?_
      refine tg_topi (fun y5 ey5 => ?_)
      have h := tg_nmE ey5 h
      refine tg_istore (lv2 := [(4, .int y5), (0, .ref (tg_ad x 7)), (1, .int v1), (2, .int v2), (3, .int v3)]) X dX5_store_31 (by decide) rfl ?_
      refine tg_re [1, 2, 3, 0] rfl ?_
      exact w_X5_store_33 X  S v1 v2 y5 h
  · have h := tg_ifT c2 h
    refine tg_iload_n X dX5_store_12 rfl 4 rfl ?_
    refine tg_i2b X dX5_store_13 ?_
    refine tg_topi (fun y6 ey6 => ?_)
    have h := tg_nmE ey6 h
    refine tg_istore (lv2 := [(4, .int y6), (0, .ref (tg_ad x 7)), (1, .int v1), (2, .int v2), (3, .int v3)]) X dX5_store_14 (by decide) rfl ?_
    refine tg_goto (tgt := 33) X dX5_store_16 (by decide) ?_
    refine tg_re [1, 2, 3, 0] rfl ?_
    exact w_X5_store_33 X  S v1 v2 y6 h
theorem cm_X5_store (l : Launch) (D : va_G) (cy : Bool → ClassId) (ad : Nat → Nat) (tS : Nat) {S Sf : tg_S} {v1 : Int32} {v2 : Int32} {v3 : Int32} (h : f_X5_store  S v1 v2 v3 = some Sf) : tg_Met l yX5_store cX5_store 5 none zr_X5_store tauC D cy ad tS S [.ref (ad 7), .int v1, .int v2, .int v3] Sf none := tg_mk (by decide +kernel) trivial (Nat.le_of_ble_eq_true rfl) (fun p e s m args below meth c Q A X => w_X5_store_0 X S v1 v2 v3 h)
-- X5_move
def zr_X5_move : Room := { frames := 1, cells := 0, slots := 0, locals := 18 }
theorem dX5_move_0 : decode cX5_move 0 = .ok (.aload_n 0, 1) := by decide +kernel
theorem dX5_move_1 : decode cX5_move 1 = .ok (.getfield 9, 3) := by decide +kernel
theorem dX5_move_4 : decode cX5_move 4 = .ok (.iload_n 1, 1) := by decide +kernel
theorem dX5_move_5 : decode cX5_move 5 = .ok (.bipush 60, 2) := by decide +kernel
theorem dX5_move_7 : decode cX5_move 7 = .ok (.imul, 1) := by decide +kernel
theorem dX5_move_8 : decode cX5_move 8 = .ok (.iload_n 2, 1) := by decide +kernel
theorem dX5_move_9 : decode cX5_move 9 = .ok (.iadd, 1) := by decide +kernel
theorem dX5_move_10 : decode cX5_move 10 = .ok (.aload_n 0, 1) := by decide +kernel
theorem dX5_move_11 : decode cX5_move 11 = .ok (.getfield 9, 3) := by decide +kernel
theorem dX5_move_14 : decode cX5_move 14 = .ok (.iload_n 3, 1) := by decide +kernel
theorem dX5_move_15 : decode cX5_move 15 = .ok (.bipush 60, 2) := by decide +kernel
theorem dX5_move_17 : decode cX5_move 17 = .ok (.imul, 1) := by decide +kernel
theorem dX5_move_18 : decode cX5_move 18 = .ok (.iload 4, 2) := by decide +kernel
theorem dX5_move_20 : decode cX5_move 20 = .ok (.iadd, 1) := by decide +kernel
theorem dX5_move_21 : decode cX5_move 21 = .ok (.iload 5, 2) := by decide +kernel
theorem dX5_move_23 : decode cX5_move 23 = .ok (.invokestatic 29, 3) := by decide +kernel
theorem dX5_move_26 : decode cX5_move 26 = .ok (.return_, 1) := by decide +kernel
set_option maxRecDepth 20000 in
set_option maxHeartbeats 4000000 in
theorem w_X5_move_0 {x : tg_X} {Sf : tg_S} (X : tg_M tauC x cX5_move 6 RX5 zr_X5_move none Sf none) (S : tg_S) (v1 : Int32) (v2 : Int32) (v3 : Int32) (v4 : Int32) (v5 : Int32) (h : f_X5_move  S v1 v2 v3 v4 v5 = some Sf) : tg_G tauC x S 0 [(0, .ref (tg_ad x 7)), (1, .int v1), (2, .int v2), (3, .int v3), (4, .int v4), (5, .int v5)] [] := by
  unfold f_X5_move at h
  refine tg_aload_n X dX5_move_0 rfl 0 rfl ?_
  refine tg_getr X 7 rfl cl_X5 0 (by decide) rfl wf_X5_9 dX5_move_1 ?_
  refine tg_iload_n X dX5_move_4 rfl 1 rfl ?_
  refine tg_bipush X dX5_move_5 tk_b60 ?_
  refine tg_imul X dX5_move_7 ?_
  refine tg_iload_n X dX5_move_8 rfl 2 rfl ?_
  refine tg_iadd X dX5_move_9 ?_
  refine tg_aload_n X dX5_move_10 rfl 0 rfl ?_
  refine tg_getr X 7 rfl cl_X5 0 (by decide) rfl wf_X5_9 dX5_move_11 ?_
  refine tg_iload_n X dX5_move_14 rfl 3 rfl ?_
  refine tg_bipush X dX5_move_15 tk_b60 ?_
  refine tg_imul X dX5_move_17 ?_
  refine tg_iload X dX5_move_18 4 rfl ?_
  refine tg_iadd X dX5_move_20 ?_
  refine tg_iload X dX5_move_21 5 rfl ?_
  obtain ⟨S1, eS1, bS1, h⟩ := tg_cpE h
  refine tg_acopy X 8 8 rfl rfl bS1 ⟨wm_X5_29, wn_AC, wt_AC, wi_Sys⟩ ⟨Nat.le_of_ble_eq_true rfl, Nat.le_of_ble_eq_true rfl⟩ dX5_move_23 eS1 ?_
  exact tg_vret X h dX5_move_26
theorem cm_X5_move (l : Launch) (D : va_G) (cy : Bool → ClassId) (ad : Nat → Nat) (tS : Nat) {S Sf : tg_S} {v1 : Int32} {v2 : Int32} {v3 : Int32} {v4 : Int32} {v5 : Int32} (h : f_X5_move  S v1 v2 v3 v4 v5 = some Sf) : tg_Met l yX5_move cX5_move 6 none zr_X5_move tauC D cy ad tS S [.ref (ad 7), .int v1, .int v2, .int v3, .int v4, .int v5] Sf none := tg_mk (by decide +kernel) trivial (Nat.le_of_ble_eq_true rfl) (fun p e s m args below meth c Q A X => w_X5_move_0 X S v1 v2 v3 v4 v5 h)
-- X6_isFull
def zr_X6_isFull : Room := { frames := 0, cells := 0, slots := 0, locals := 0 }
theorem dX6_isFull_0 : decode cX6_isFull 0 = .ok (.aload_n 0, 1) := by decide +kernel
theorem dX6_isFull_1 : decode cX6_isFull 1 = .ok (.getfield 15, 3) := by decide +kernel
theorem dX6_isFull_4 : decode cX6_isFull 4 = .ok (.iload_n 1, 1) := by decide +kernel
theorem dX6_isFull_5 : decode cX6_isFull 5 = .ok (.iaload, 1) := by decide +kernel
theorem dX6_isFull_6 : decode cX6_isFull 6 = .ok (.iload_n 1, 1) := by decide +kernel
theorem dX6_isFull_7 : decode cX6_isFull 7 = .ok (.iconst 2, 1) := by decide +kernel
theorem dX6_isFull_8 : decode cX6_isFull 8 = .ok (.if_icmp .ge 8, 3) := by decide +kernel
theorem dX6_isFull_11 : decode cX6_isFull 11 = .ok (.bipush 31, 2) := by decide +kernel
theorem dX6_isFull_13 : decode cX6_isFull 13 = .ok (.goto 5, 3) := by decide +kernel
theorem dX6_isFull_16 : decode cX6_isFull 16 = .ok (.bipush 24, 2) := by decide +kernel
theorem dX6_isFull_18 : decode cX6_isFull 18 = .ok (.if_icmp .lt 7, 3) := by decide +kernel
theorem dX6_isFull_21 : decode cX6_isFull 21 = .ok (.iconst 1, 1) := by decide +kernel
theorem dX6_isFull_22 : decode cX6_isFull 22 = .ok (.goto 4, 3) := by decide +kernel
theorem dX6_isFull_25 : decode cX6_isFull 25 = .ok (.iconst 0, 1) := by decide +kernel
theorem dX6_isFull_26 : decode cX6_isFull 26 = .ok (.ireturn, 1) := by decide +kernel
set_option maxRecDepth 20000 in
set_option maxHeartbeats 4000000 in
theorem w_X6_isFull_18 {x : tg_X} {Sf : tg_S} {r : Int32} (X : tg_M tauC x cX6_isFull 2 RX6 zr_X6_isFull (some .boolean) Sf (some (.int r))) (S : tg_S) (s0 : Int32) (s1 : Int32) (h : f_X6_isFull_18  S s0 s1 = some (Sf, r)) : tg_G tauC x S 18 [] [.int s0, .int s1] := by
  unfold f_X6_isFull_18 at h
  refine tg_icmp_lt (tgt := 25) X dX6_isFull_18 (by decide) (fun c1 => ?_) (fun c1 => ?_)
  · have h := tg_ifT c1 h
    refine tg_iconst X dX6_isFull_25 tk_i0 ?_
    exact tg_iret X h rfl dX6_isFull_26
  · have h := tg_ifF c1 h
    refine tg_iconst X dX6_isFull_21 tk_i1 ?_
    refine tg_goto (tgt := 26) X dX6_isFull_22 (by decide) ?_
    exact tg_iret X h rfl dX6_isFull_26
set_option maxRecDepth 20000 in
set_option maxHeartbeats 4000000 in
theorem w_X6_isFull_0 {x : tg_X} {Sf : tg_S} {r : Int32} (X : tg_M tauC x cX6_isFull 2 RX6 zr_X6_isFull (some .boolean) Sf (some (.int r))) (S : tg_S) (v1 : Int32) (h : f_X6_isFull  S v1 = some (Sf, r)) : tg_G tauC x S 0 [(0, .ref (tg_ad x 1)), (1, .int v1)] [] := by
  unfold f_X6_isFull at h
  refine tg_aload_n X dX6_isFull_0 rfl 0 rfl ?_
  refine tg_getr X 1 rfl cl_X6 1 (by decide) rfl wf_X6_15 dX6_isFull_1 ?_
  refine tg_iload_n X dX6_isFull_4 rfl 1 rfl ?_
  obtain ⟨y1, ey1, by1, h⟩ := tg_rdE h
  refine tg_iald X 3 rfl ey1 by1 dX6_isFull_5 ?_
  refine tg_iload_n X dX6_isFull_6 rfl 1 rfl ?_
  refine tg_iconst X dX6_isFull_7 tk_i2 ?_
  refine tg_icmp_ge (tgt := 16) X dX6_isFull_8 (by decide) (fun c2 => ?_) (fun c2 => ?_)
  · rw [if_pos c2] at h
    refine tg_bipush X dX6_isFull_16 tk_b24 ?_
    refine tg_re [] rfl ?_
    exact w_X6_isFull_18 X  S 24 y1 h
  · rw [if_neg c2] at h
    refine tg_bipush X dX6_isFull_11 tk_b31 ?_
    refine tg_goto (tgt := 18) X dX6_isFull_13 (by decide) ?_
    refine tg_re [] rfl ?_
    exact w_X6_isFull_18 X  S 31 y1 h
theorem cm_X6_isFull (l : Launch) (D : va_G) (cy : Bool → ClassId) (ad : Nat → Nat) (tS : Nat) {S Sf : tg_S} {v1 : Int32} {r : Int32} (h : f_X6_isFull  S v1 = some (Sf, r)) : tg_Met l yX6_isFull cX6_isFull 2 (some .boolean) zr_X6_isFull tauC D cy ad tS S [.ref (ad 1), .int v1] Sf (some (.int r)) := tg_mk (by decide +kernel) trivial (Nat.le_of_ble_eq_true rfl) (fun p e s m args below meth c Q A X => w_X6_isFull_0 X S v1 h)
-- X6_append
def zr_X6_append : Room := { frames := 0, cells := 0, slots := 0, locals := 0 }
theorem dX6_append_0 : decode cX6_append 0 = .ok (.aload_n 0, 1) := by decide +kernel
theorem dX6_append_1 : decode cX6_append 1 = .ok (.getfield 9, 3) := by decide +kernel
theorem dX6_append_4 : decode cX6_append 4 = .ok (.iload_n 1, 1) := by decide +kernel
theorem dX6_append_5 : decode cX6_append 5 = .ok (.bipush 31, 2) := by decide +kernel
theorem dX6_append_7 : decode cX6_append 7 = .ok (.imul, 1) := by decide +kernel
theorem dX6_append_8 : decode cX6_append 8 = .ok (.aload_n 0, 1) := by decide +kernel
theorem dX6_append_9 : decode cX6_append 9 = .ok (.getfield 15, 3) := by decide +kernel
theorem dX6_append_12 : decode cX6_append 12 = .ok (.iload_n 1, 1) := by decide +kernel
theorem dX6_append_13 : decode cX6_append 13 = .ok (.iaload, 1) := by decide +kernel
theorem dX6_append_14 : decode cX6_append 14 = .ok (.iadd, 1) := by decide +kernel
theorem dX6_append_15 : decode cX6_append 15 = .ok (.iload_n 2, 1) := by decide +kernel
theorem dX6_append_16 : decode cX6_append 16 = .ok (.iastore, 1) := by decide +kernel
theorem dX6_append_17 : decode cX6_append 17 = .ok (.aload_n 0, 1) := by decide +kernel
theorem dX6_append_18 : decode cX6_append 18 = .ok (.getfield 15, 3) := by decide +kernel
theorem dX6_append_21 : decode cX6_append 21 = .ok (.iload_n 1, 1) := by decide +kernel
theorem dX6_append_22 : decode cX6_append 22 = .ok (.dup2, 1) := by decide +kernel
theorem dX6_append_23 : decode cX6_append 23 = .ok (.iaload, 1) := by decide +kernel
theorem dX6_append_24 : decode cX6_append 24 = .ok (.iconst 1, 1) := by decide +kernel
theorem dX6_append_25 : decode cX6_append 25 = .ok (.iadd, 1) := by decide +kernel
theorem dX6_append_26 : decode cX6_append 26 = .ok (.iastore, 1) := by decide +kernel
theorem dX6_append_27 : decode cX6_append 27 = .ok (.aload_n 0, 1) := by decide +kernel
theorem dX6_append_28 : decode cX6_append 28 = .ok (.getfield 15, 3) := by decide +kernel
theorem dX6_append_31 : decode cX6_append 31 = .ok (.iload_n 1, 1) := by decide +kernel
theorem dX6_append_32 : decode cX6_append 32 = .ok (.iaload, 1) := by decide +kernel
theorem dX6_append_33 : decode cX6_append 33 = .ok (.ireturn, 1) := by decide +kernel
set_option maxRecDepth 20000 in
set_option maxHeartbeats 4000000 in
theorem w_X6_append_0 {x : tg_X} {Sf : tg_S} {r : Int32} (X : tg_M tauC x cX6_append 3 RX6 zr_X6_append (some .int) Sf (some (.int r))) (S : tg_S) (v1 : Int32) (v2 : Int32) (h : f_X6_append  S v1 v2 = some (Sf, r)) : tg_G tauC x S 0 [(0, .ref (tg_ad x 1)), (1, .int v1), (2, .int v2)] [] := by
  unfold f_X6_append at h
  refine tg_aload_n X dX6_append_0 rfl 0 rfl ?_
  refine tg_getr X 1 rfl cl_X6 0 (by decide) rfl wf_X6_9 dX6_append_1 ?_
  refine tg_iload_n X dX6_append_4 rfl 1 rfl ?_
  refine tg_bipush X dX6_append_5 tk_b31 ?_
  refine tg_imul X dX6_append_7 ?_
  refine tg_aload_n X dX6_append_8 rfl 0 rfl ?_
  refine tg_getr X 1 rfl cl_X6 1 (by decide) rfl wf_X6_15 dX6_append_9 ?_
  refine tg_iload_n X dX6_append_12 rfl 1 rfl ?_
  obtain ⟨y1, ey1, by1, h⟩ := tg_rdE h
  refine tg_iald X 3 rfl ey1 by1 dX6_append_13 ?_
  refine tg_iadd X dX6_append_14 ?_
  refine tg_iload_n X dX6_append_15 rfl 2 rfl ?_
  obtain ⟨S2, eS2, bS2, h⟩ := tg_wrE h
  refine tg_iast X 2 rfl bS2 dX6_append_16 eS2 ?_
  refine tg_aload_n X dX6_append_17 rfl 0 rfl ?_
  refine tg_getr X 1 rfl cl_X6 1 (by decide) rfl wf_X6_15 dX6_append_18 ?_
  refine tg_iload_n X dX6_append_21 rfl 1 rfl ?_
  refine tg_dup2 X dX6_append_22 rfl rfl ?_
  obtain ⟨y3, ey3, by3, h⟩ := tg_rdE h
  refine tg_iald X 3 rfl ey3 by3 dX6_append_23 ?_
  refine tg_iconst X dX6_append_24 tk_i1 ?_
  refine tg_iadd X dX6_append_25 ?_
  obtain ⟨S4, eS4, bS4, h⟩ := tg_wrE h
  refine tg_iast X 3 rfl bS4 dX6_append_26 eS4 ?_
  refine tg_aload_n X dX6_append_27 rfl 0 rfl ?_
  refine tg_getr X 1 rfl cl_X6 1 (by decide) rfl wf_X6_15 dX6_append_28 ?_
  refine tg_iload_n X dX6_append_31 rfl 1 rfl ?_
  obtain ⟨y5, ey5, by5, h⟩ := tg_rdE h
  refine tg_iald X 3 rfl ey5 by5 dX6_append_32 ?_
  exact tg_iret X h rfl dX6_append_33
theorem cm_X6_append (l : Launch) (D : va_G) (cy : Bool → ClassId) (ad : Nat → Nat) (tS : Nat) {S Sf : tg_S} {v1 : Int32} {v2 : Int32} {r : Int32} (h : f_X6_append  S v1 v2 = some (Sf, r)) : tg_Met l yX6_append cX6_append 3 (some .int) zr_X6_append tauC D cy ad tS S [.ref (ad 1), .int v1, .int v2] Sf (some (.int r)) := tg_mk (by decide +kernel) trivial (Nat.le_of_ble_eq_true rfl) (fun p e s m args below meth c Q A X => w_X6_append_0 X S v1 v2 h)
-- X6_clear
def zr_X6_clear : Room := { frames := 0, cells := 0, slots := 0, locals := 0 }
theorem dX6_clear_0 : decode cX6_clear 0 = .ok (.aload_n 0, 1) := by decide +kernel
theorem dX6_clear_1 : decode cX6_clear 1 = .ok (.getfield 15, 3) := by decide +kernel
theorem dX6_clear_4 : decode cX6_clear 4 = .ok (.iload_n 1, 1) := by decide +kernel
theorem dX6_clear_5 : decode cX6_clear 5 = .ok (.iaload, 1) := by decide +kernel
theorem dX6_clear_6 : decode cX6_clear 6 = .ok (.istore_n 2, 1) := by decide +kernel
theorem dX6_clear_7 : decode cX6_clear 7 = .ok (.aload_n 0, 1) := by decide +kernel
theorem dX6_clear_8 : decode cX6_clear 8 = .ok (.getfield 15, 3) := by decide +kernel
theorem dX6_clear_11 : decode cX6_clear 11 = .ok (.iload_n 1, 1) := by decide +kernel
theorem dX6_clear_12 : decode cX6_clear 12 = .ok (.iconst 0, 1) := by decide +kernel
theorem dX6_clear_13 : decode cX6_clear 13 = .ok (.iastore, 1) := by decide +kernel
theorem dX6_clear_14 : decode cX6_clear 14 = .ok (.iload_n 2, 1) := by decide +kernel
theorem dX6_clear_15 : decode cX6_clear 15 = .ok (.ireturn, 1) := by decide +kernel
set_option maxRecDepth 20000 in
set_option maxHeartbeats 4000000 in
theorem w_X6_clear_0 {x : tg_X} {Sf : tg_S} {r : Int32} (X : tg_M tauC x cX6_clear 3 RX6 zr_X6_clear (some .int) Sf (some (.int r))) (S : tg_S) (v1 : Int32) (h : f_X6_clear  S v1 = some (Sf, r)) : tg_G tauC x S 0 [(0, .ref (tg_ad x 1)), (1, .int v1)] [] := by
  unfold f_X6_clear at h
  refine tg_aload_n X dX6_clear_0 rfl 0 rfl ?_
  refine tg_getr X 1 rfl cl_X6 1 (by decide) rfl wf_X6_15 dX6_clear_1 ?_
  refine tg_iload_n X dX6_clear_4 rfl 1 rfl ?_
  obtain ⟨y1, ey1, by1, h⟩ := tg_rdE h
  refine tg_iald X 3 rfl ey1 by1 dX6_clear_5 ?_
  refine tg_istore_n (lv2 := [(2, .int y1), (0, .ref (tg_ad x 1)), (1, .int v1)]) X dX6_clear_6 rfl (by decide) rfl ?_
  refine tg_aload_n X dX6_clear_7 rfl 1 rfl ?_
  refine tg_getr X 1 rfl cl_X6 1 (by decide) rfl wf_X6_15 dX6_clear_8 ?_
  refine tg_iload_n X dX6_clear_11 rfl 2 rfl ?_
  refine tg_iconst X dX6_clear_12 tk_i0 ?_
  obtain ⟨S2, eS2, bS2, h⟩ := tg_wrE h
  refine tg_iast X 3 rfl bS2 dX6_clear_13 eS2 ?_
  refine tg_iload_n X dX6_clear_14 rfl 0 rfl ?_
  exact tg_iret X h rfl dX6_clear_15
theorem cm_X6_clear (l : Launch) (D : va_G) (cy : Bool → ClassId) (ad : Nat → Nat) (tS : Nat) {S Sf : tg_S} {v1 : Int32} {r : Int32} (h : f_X6_clear  S v1 = some (Sf, r)) : tg_Met l yX6_clear cX6_clear 3 (some .int) zr_X6_clear tauC D cy ad tS S [.ref (ad 1), .int v1] Sf (some (.int r)) := tg_mk (by decide +kernel) trivial (Nat.le_of_ble_eq_true rfl) (fun p e s m args below meth c Q A X => w_X6_clear_0 X S v1 h)
-- X6_cutLast
def zr_X6_cutLast : Room := { frames := 0, cells := 0, slots := 0, locals := 0 }
theorem dX6_cutLast_0 : decode cX6_cutLast 0 = .ok (.aload_n 0, 1) := by decide +kernel
theorem dX6_cutLast_1 : decode cX6_cutLast 1 = .ok (.getfield 15, 3) := by decide +kernel
theorem dX6_cutLast_4 : decode cX6_cutLast 4 = .ok (.iload_n 1, 1) := by decide +kernel
theorem dX6_cutLast_5 : decode cX6_cutLast 5 = .ok (.dup2, 1) := by decide +kernel
theorem dX6_cutLast_6 : decode cX6_cutLast 6 = .ok (.iaload, 1) := by decide +kernel
theorem dX6_cutLast_7 : decode cX6_cutLast 7 = .ok (.iconst 1, 1) := by decide +kernel
theorem dX6_cutLast_8 : decode cX6_cutLast 8 = .ok (.isub, 1) := by decide +kernel
theorem dX6_cutLast_9 : decode cX6_cutLast 9 = .ok (.iastore, 1) := by decide +kernel
theorem dX6_cutLast_10 : decode cX6_cutLast 10 = .ok (.aload_n 0, 1) := by decide +kernel
theorem dX6_cutLast_11 : decode cX6_cutLast 11 = .ok (.getfield 15, 3) := by decide +kernel
theorem dX6_cutLast_14 : decode cX6_cutLast 14 = .ok (.iload_n 1, 1) := by decide +kernel
theorem dX6_cutLast_15 : decode cX6_cutLast 15 = .ok (.iaload, 1) := by decide +kernel
theorem dX6_cutLast_16 : decode cX6_cutLast 16 = .ok (.ireturn, 1) := by decide +kernel
set_option maxRecDepth 20000 in
set_option maxHeartbeats 4000000 in
theorem w_X6_cutLast_0 {x : tg_X} {Sf : tg_S} {r : Int32} (X : tg_M tauC x cX6_cutLast 2 RX6 zr_X6_cutLast (some .int) Sf (some (.int r))) (S : tg_S) (v1 : Int32) (h : f_X6_cutLast  S v1 = some (Sf, r)) : tg_G tauC x S 0 [(0, .ref (tg_ad x 1)), (1, .int v1)] [] := by
  unfold f_X6_cutLast at h
  refine tg_aload_n X dX6_cutLast_0 rfl 0 rfl ?_
  refine tg_getr X 1 rfl cl_X6 1 (by decide) rfl wf_X6_15 dX6_cutLast_1 ?_
  refine tg_iload_n X dX6_cutLast_4 rfl 1 rfl ?_
  refine tg_dup2 X dX6_cutLast_5 rfl rfl ?_
  obtain ⟨y1, ey1, by1, h⟩ := tg_rdE h
  refine tg_iald X 3 rfl ey1 by1 dX6_cutLast_6 ?_
  refine tg_iconst X dX6_cutLast_7 tk_i1 ?_
  refine tg_isub X dX6_cutLast_8 ?_
  obtain ⟨S2, eS2, bS2, h⟩ := tg_wrE h
  refine tg_iast X 3 rfl bS2 dX6_cutLast_9 eS2 ?_
  refine tg_aload_n X dX6_cutLast_10 rfl 0 rfl ?_
  refine tg_getr X 1 rfl cl_X6 1 (by decide) rfl wf_X6_15 dX6_cutLast_11 ?_
  refine tg_iload_n X dX6_cutLast_14 rfl 1 rfl ?_
  obtain ⟨y3, ey3, by3, h⟩ := tg_rdE h
  refine tg_iald X 3 rfl ey3 by3 dX6_cutLast_15 ?_
  exact tg_iret X h rfl dX6_cutLast_16
theorem cm_X6_cutLast (l : Launch) (D : va_G) (cy : Bool → ClassId) (ad : Nat → Nat) (tS : Nat) {S Sf : tg_S} {v1 : Int32} {r : Int32} (h : f_X6_cutLast  S v1 = some (Sf, r)) : tg_Met l yX6_cutLast cX6_cutLast 2 (some .int) zr_X6_cutLast tauC D cy ad tS S [.ref (ad 1), .int v1] Sf (some (.int r)) := tg_mk (by decide +kernel) trivial (Nat.le_of_ble_eq_true rfl) (fun p e s m args below meth c Q A X => w_X6_cutLast_0 X S v1 h)
-- X6_length
def zr_X6_length : Room := { frames := 0, cells := 0, slots := 0, locals := 0 }
theorem dX6_length_0 : decode cX6_length 0 = .ok (.aload_n 0, 1) := by decide +kernel
theorem dX6_length_1 : decode cX6_length 1 = .ok (.getfield 15, 3) := by decide +kernel
theorem dX6_length_4 : decode cX6_length 4 = .ok (.iload_n 1, 1) := by decide +kernel
theorem dX6_length_5 : decode cX6_length 5 = .ok (.iaload, 1) := by decide +kernel
theorem dX6_length_6 : decode cX6_length 6 = .ok (.ireturn, 1) := by decide +kernel
set_option maxRecDepth 20000 in
set_option maxHeartbeats 4000000 in
theorem w_X6_length_0 {x : tg_X} {Sf : tg_S} {r : Int32} (X : tg_M tauC x cX6_length 2 RX6 zr_X6_length (some .int) Sf (some (.int r))) (S : tg_S) (v1 : Int32) (h : f_X6_length  S v1 = some (Sf, r)) : tg_G tauC x S 0 [(0, .ref (tg_ad x 1)), (1, .int v1)] [] := by
  unfold f_X6_length at h
  refine tg_aload_n X dX6_length_0 rfl 0 rfl ?_
  refine tg_getr X 1 rfl cl_X6 1 (by decide) rfl wf_X6_15 dX6_length_1 ?_
  refine tg_iload_n X dX6_length_4 rfl 1 rfl ?_
  obtain ⟨y1, ey1, by1, h⟩ := tg_rdE h
  refine tg_iald X 3 rfl ey1 by1 dX6_length_5 ?_
  exact tg_iret X h rfl dX6_length_6
theorem cm_X6_length (l : Launch) (D : va_G) (cy : Bool → ClassId) (ad : Nat → Nat) (tS : Nat) {S Sf : tg_S} {v1 : Int32} {r : Int32} (h : f_X6_length  S v1 = some (Sf, r)) : tg_Met l yX6_length cX6_length 2 (some .int) zr_X6_length tauC D cy ad tS S [.ref (ad 1), .int v1] Sf (some (.int r)) := tg_mk (by decide +kernel) trivial (Nat.le_of_ble_eq_true rfl) (fun p e s m args below meth c Q A X => w_X6_length_0 X S v1 h)
-- X6_lengthOfAll
def zr_X6_lengthOfAll : Room := { frames := 0, cells := 0, slots := 0, locals := 0 }
theorem dX6_lengthOfAll_0 : decode cX6_lengthOfAll 0 = .ok (.iconst 0, 1) := by decide +kernel
theorem dX6_lengthOfAll_1 : decode cX6_lengthOfAll 1 = .ok (.istore_n 1, 1) := by decide +kernel
theorem dX6_lengthOfAll_2 : decode cX6_lengthOfAll 2 = .ok (.iconst 0, 1) := by decide +kernel
theorem dX6_lengthOfAll_3 : decode cX6_lengthOfAll 3 = .ok (.istore_n 2, 1) := by decide +kernel
theorem dX6_lengthOfAll_4 : decode cX6_lengthOfAll 4 = .ok (.iload_n 2, 1) := by decide +kernel
theorem dX6_lengthOfAll_5 : decode cX6_lengthOfAll 5 = .ok (.iconst 4, 1) := by decide +kernel
theorem dX6_lengthOfAll_6 : decode cX6_lengthOfAll 6 = .ok (.if_icmp .ge 18, 3) := by decide +kernel
theorem dX6_lengthOfAll_9 : decode cX6_lengthOfAll 9 = .ok (.iload_n 1, 1) := by decide +kernel
theorem dX6_lengthOfAll_10 : decode cX6_lengthOfAll 10 = .ok (.aload_n 0, 1) := by decide +kernel
theorem dX6_lengthOfAll_11 : decode cX6_lengthOfAll 11 = .ok (.getfield 15, 3) := by decide +kernel
theorem dX6_lengthOfAll_14 : decode cX6_lengthOfAll 14 = .ok (.iload_n 2, 1) := by decide +kernel
theorem dX6_lengthOfAll_15 : decode cX6_lengthOfAll 15 = .ok (.iaload, 1) := by decide +kernel
theorem dX6_lengthOfAll_16 : decode cX6_lengthOfAll 16 = .ok (.iadd, 1) := by decide +kernel
theorem dX6_lengthOfAll_17 : decode cX6_lengthOfAll 17 = .ok (.istore_n 1, 1) := by decide +kernel
theorem dX6_lengthOfAll_18 : decode cX6_lengthOfAll 18 = .ok (.iinc 2 1, 3) := by decide +kernel
theorem dX6_lengthOfAll_21 : decode cX6_lengthOfAll 21 = .ok (.goto (-17), 3) := by decide +kernel
theorem dX6_lengthOfAll_24 : decode cX6_lengthOfAll 24 = .ok (.iload_n 1, 1) := by decide +kernel
theorem dX6_lengthOfAll_25 : decode cX6_lengthOfAll 25 = .ok (.ireturn, 1) := by decide +kernel
set_option maxRecDepth 20000 in
set_option maxHeartbeats 4000000 in
theorem w_X6_lengthOfAll_4 {x : tg_X} {Sf : tg_S} {r : Int32} {rec4 : tg_S → Int32 → Int32 → Option (tg_S × Int32)} (X : tg_M tauC x cX6_lengthOfAll 3 RX6 zr_X6_lengthOfAll (some .int) Sf (some (.int r))) (hr4 : ∀ (S : tg_S) (v1 : Int32) (v2 : Int32), rec4 S v1 v2 = some (Sf, r) → tg_G tauC x S 4 [(0, .ref (tg_ad x 1)), (1, .int v1), (2, .int v2)] []) (S : tg_S) (v1 : Int32) (v2 : Int32) (h : f_X6_lengthOfAll_4 rec4 S v1 v2 = some (Sf, r)) : tg_G tauC x S 4 [(0, .ref (tg_ad x 1)), (1, .int v1), (2, .int v2)] [] := by
  unfold f_X6_lengthOfAll_4 at h
  refine tg_iload_n X dX6_lengthOfAll_4 rfl 2 rfl ?_
  refine tg_iconst X dX6_lengthOfAll_5 tk_i4 ?_
  refine tg_icmp_ge (tgt := 24) X dX6_lengthOfAll_6 (by decide) (fun c1 => ?_) (fun c1 => ?_)
  · have h := tg_ifT c1 h
    refine tg_iload_n X dX6_lengthOfAll_24 rfl 1 rfl ?_
    exact tg_iret X h rfl dX6_lengthOfAll_25
  · have h := tg_ifF c1 h
    refine tg_iload_n X dX6_lengthOfAll_9 rfl 1 rfl ?_
    refine tg_aload_n X dX6_lengthOfAll_10 rfl 0 rfl ?_
    refine tg_getr X 1 rfl cl_X6 1 (by decide) rfl wf_X6_15 dX6_lengthOfAll_11 ?_
    refine tg_iload_n X dX6_lengthOfAll_14 rfl 2 rfl ?_
    obtain ⟨y2, ey2, by2, h⟩ := tg_rdE h
    refine tg_iald X 3 rfl ey2 by2 dX6_lengthOfAll_15 ?_
    refine tg_iadd X dX6_lengthOfAll_16 ?_
    refine tg_topi (fun y3 ey3 => ?_)
    have h := tg_nmE ey3 h
    refine tg_istore_n (lv2 := [(1, .int y3), (0, .ref (tg_ad x 1)), (2, .int v2)]) X dX6_lengthOfAll_17 rfl (by decide) rfl ?_
    obtain ⟨y4, ey4⟩ : ∃ z : Int32, z = v2 + 1 := ⟨_, rfl⟩
    have h := tg_nmE ey4 h
    refine tg_iinc (lv2 := [(2, .int y4), (1, .int y3), (0, .ref (tg_ad x 1))]) X dX6_lengthOfAll_18 2 rfl tk_i1 ey4 (by decide) rfl ?_
    refine tg_goto (tgt := 4) X dX6_lengthOfAll_21 (by decide) ?_
    refine tg_re [2, 1, 0] rfl ?_
    exact hr4 S y3 y4 h
theorem wl_X6_lengthOfAll_4 {x : tg_X} {Sf : tg_S} {r : Int32} (X : tg_M tauC x cX6_lengthOfAll 3 RX6 zr_X6_lengthOfAll (some .int) Sf (some (.int r))) : ∀ (n : Nat) (S : tg_S) (v1 : Int32) (v2 : Int32) (h : L_X6_lengthOfAll_4  n S v1 v2 = some (Sf, r)), tg_G tauC x S 4 [(0, .ref (tg_ad x 1)), (1, .int v1), (2, .int v2)] [] := by
  intro n
  induction n with
  | zero => intro S v1 v2 h; cases h
  | succ n ih => intro S v1 v2 h; exact w_X6_lengthOfAll_4 X  ih S v1 v2 h
set_option maxRecDepth 20000 in
set_option maxHeartbeats 4000000 in
theorem w_X6_lengthOfAll_0 {x : tg_X} {Sf : tg_S} {r : Int32} (X : tg_M tauC x cX6_lengthOfAll 3 RX6 zr_X6_lengthOfAll (some .int) Sf (some (.int r))) (S : tg_S) (h : f_X6_lengthOfAll  S  = some (Sf, r)) : tg_G tauC x S 0 [(0, .ref (tg_ad x 1))] [] := by
  unfold f_X6_lengthOfAll at h
  refine tg_iconst X dX6_lengthOfAll_0 tk_i0 ?_
  refine tg_istore_n (lv2 := [(1, .int 0), (0, .ref (tg_ad x 1))]) X dX6_lengthOfAll_1 rfl (by decide) rfl ?_
  refine tg_iconst X dX6_lengthOfAll_2 tk_i0 ?_
  refine tg_istore_n (lv2 := [(2, .int 0), (1, .int 0), (0, .ref (tg_ad x 1))]) X dX6_lengthOfAll_3 rfl (by decide) rfl ?_
  refine tg_re [2, 1, 0] rfl ?_
  exact wl_X6_lengthOfAll_4 X  tg_F S 0 0 h
theorem cm_X6_lengthOfAll (l : Launch) (D : va_G) (cy : Bool → ClassId) (ad : Nat → Nat) (tS : Nat) {S Sf : tg_S} {r : Int32} (h : f_X6_lengthOfAll  S  = some (Sf, r)) : tg_Met l yX6_lengthOfAll cX6_lengthOfAll 3 (some .int) zr_X6_lengthOfAll tauC D cy ad tS S [.ref (ad 1)] Sf (some (.int r)) := tg_mk (by decide +kernel) trivial (Nat.le_of_ble_eq_true rfl) (fun p e s m args below meth c Q A X => w_X6_lengthOfAll_0 X S  h)
-- X6_byteAt
def zr_X6_byteAt : Room := { frames := 0, cells := 0, slots := 0, locals := 0 }
theorem dX6_byteAt_0 : decode cX6_byteAt 0 = .ok (.aload_n 0, 1) := by decide +kernel
theorem dX6_byteAt_1 : decode cX6_byteAt 1 = .ok (.getfield 9, 3) := by decide +kernel
theorem dX6_byteAt_4 : decode cX6_byteAt 4 = .ok (.iload_n 1, 1) := by decide +kernel
theorem dX6_byteAt_5 : decode cX6_byteAt 5 = .ok (.bipush 31, 2) := by decide +kernel
theorem dX6_byteAt_7 : decode cX6_byteAt 7 = .ok (.imul, 1) := by decide +kernel
theorem dX6_byteAt_8 : decode cX6_byteAt 8 = .ok (.iload_n 2, 1) := by decide +kernel
theorem dX6_byteAt_9 : decode cX6_byteAt 9 = .ok (.iadd, 1) := by decide +kernel
theorem dX6_byteAt_10 : decode cX6_byteAt 10 = .ok (.iaload, 1) := by decide +kernel
theorem dX6_byteAt_11 : decode cX6_byteAt 11 = .ok (.ireturn, 1) := by decide +kernel
set_option maxRecDepth 20000 in
set_option maxHeartbeats 4000000 in
theorem w_X6_byteAt_0 {x : tg_X} {Sf : tg_S} {r : Int32} (X : tg_M tauC x cX6_byteAt 3 RX6 zr_X6_byteAt (some .int) Sf (some (.int r))) (S : tg_S) (v1 : Int32) (v2 : Int32) (h : f_X6_byteAt  S v1 v2 = some (Sf, r)) : tg_G tauC x S 0 [(0, .ref (tg_ad x 1)), (1, .int v1), (2, .int v2)] [] := by
  unfold f_X6_byteAt at h
  refine tg_aload_n X dX6_byteAt_0 rfl 0 rfl ?_
  refine tg_getr X 1 rfl cl_X6 0 (by decide) rfl wf_X6_9 dX6_byteAt_1 ?_
  refine tg_iload_n X dX6_byteAt_4 rfl 1 rfl ?_
  refine tg_bipush X dX6_byteAt_5 tk_b31 ?_
  refine tg_imul X dX6_byteAt_7 ?_
  refine tg_iload_n X dX6_byteAt_8 rfl 2 rfl ?_
  refine tg_iadd X dX6_byteAt_9 ?_
  obtain ⟨y1, ey1, by1, h⟩ := tg_rdE h
  refine tg_iald X 2 rfl ey1 by1 dX6_byteAt_10 ?_
  exact tg_iret X h rfl dX6_byteAt_11
theorem cm_X6_byteAt (l : Launch) (D : va_G) (cy : Bool → ClassId) (ad : Nat → Nat) (tS : Nat) {S Sf : tg_S} {v1 : Int32} {v2 : Int32} {r : Int32} (h : f_X6_byteAt  S v1 v2 = some (Sf, r)) : tg_Met l yX6_byteAt cX6_byteAt 3 (some .int) zr_X6_byteAt tauC D cy ad tS S [.ref (ad 1), .int v1, .int v2] Sf (some (.int r)) := tg_mk (by decide +kernel) trivial (Nat.le_of_ble_eq_true rfl) (fun p e s m args below meth c Q A X => w_X6_byteAt_0 X S v1 v2 h)
-- X6_callOf
def zr_X6_callOf : Room := { frames := 0, cells := 0, slots := 0, locals := 0 }
theorem dX6_callOf_0 : decode cX6_callOf 0 = .ok (.iload_n 0, 1) := by decide +kernel
theorem dX6_callOf_1 : decode cX6_callOf 1 = .ok (.lookupswitch 41 #[(104, 39), (112, 37), (114, 35)], 35) := by decide +kernel
theorem dX6_callOf_36 : decode cX6_callOf 36 = .ok (.iconst 0, 1) := by decide +kernel
theorem dX6_callOf_37 : decode cX6_callOf 37 = .ok (.ireturn, 1) := by decide +kernel
theorem dX6_callOf_38 : decode cX6_callOf 38 = .ok (.iconst 1, 1) := by decide +kernel
theorem dX6_callOf_39 : decode cX6_callOf 39 = .ok (.ireturn, 1) := by decide +kernel
theorem dX6_callOf_40 : decode cX6_callOf 40 = .ok (.iconst 2, 1) := by decide +kernel
theorem dX6_callOf_41 : decode cX6_callOf 41 = .ok (.ireturn, 1) := by decide +kernel
theorem dX6_callOf_42 : decode cX6_callOf 42 = .ok (.iconst (-1), 1) := by decide +kernel
theorem dX6_callOf_43 : decode cX6_callOf 43 = .ok (.ireturn, 1) := by decide +kernel
set_option maxRecDepth 20000 in
set_option maxHeartbeats 4000000 in
theorem w_X6_callOf_0 {x : tg_X} {Sf : tg_S} {r : Int32} (X : tg_M tauC x cX6_callOf 1 RX6 zr_X6_callOf (some .int) Sf (some (.int r))) (S : tg_S) (v0 : Int32) (h : f_X6_callOf  S v0 = some (Sf, r)) : tg_G tauC x S 0 [(0, .int v0)] [] := by
  unfold f_X6_callOf at h
  refine tg_iload_n X dX6_callOf_0 rfl 0 rfl ?_
  by_cases c1 : v0 = 104
  · have h := tg_ifT c1 h
    refine tg_lsw (tgt := 40) (off := 39) X dX6_callOf_1 (by decide) (by rw [c1]; decide) (by decide) ?_
    refine tg_iconst X dX6_callOf_40 tk_i2 ?_
    exact tg_iret X h rfl dX6_callOf_41
  have h := tg_ifF c1 h
  by_cases c2 : v0 = 112
  · have h := tg_ifT c2 h
    refine tg_lsw (tgt := 38) (off := 37) X dX6_callOf_1 (by decide) (by rw [c2]; decide) (by decide) ?_
    refine tg_iconst X dX6_callOf_38 tk_i1 ?_
    exact tg_iret X h rfl dX6_callOf_39
  have h := tg_ifF c2 h
  by_cases c3 : v0 = 114
  · have h := tg_ifT c3 h
    refine tg_lsw (tgt := 36) (off := 35) X dX6_callOf_1 (by decide) (by rw [c3]; decide) (by decide) ?_
    refine tg_iconst X dX6_callOf_36 tk_i0 ?_
    exact tg_iret X h rfl dX6_callOf_37
  have h := tg_ifF c3 h
  refine tg_lsw (tgt := 42) (off := 41) X dX6_callOf_1 (by decide) (by have q104 := tg_nei (b := 104) (z := 104) rfl c1; have q112 := tg_nei (b := 112) (z := 112) rfl c2; have q114 := tg_nei (b := 114) (z := 114) rfl c3; exact tg_lsD3 q104 q112 q114) (by decide) ?_
  refine tg_iconst X dX6_callOf_42 tk_im1 ?_
  exact tg_iret X h rfl dX6_callOf_43
theorem cm_X6_callOf (l : Launch) (D : va_G) (cy : Bool → ClassId) (ad : Nat → Nat) (tS : Nat) {S Sf : tg_S} {v0 : Int32} {r : Int32} (h : f_X6_callOf  S v0 = some (Sf, r)) : tg_Met l yX6_callOf cX6_callOf 1 (some .int) zr_X6_callOf tauC D cy ad tS S [.int v0] Sf (some (.int r)) := tg_mk (by decide +kernel) trivial (Nat.le_of_ble_eq_true rfl) (fun p e s m args below meth c Q A X => w_X6_callOf_0 X S v0 h)
-- X6_teamGoesOn
def zr_X6_teamGoesOn : Room := { frames := 0, cells := 0, slots := 0, locals := 0 }
theorem dX6_teamGoesOn_0 : decode cX6_teamGoesOn 0 = .ok (.iload_n 0, 1) := by decide +kernel
theorem dX6_teamGoesOn_1 : decode cX6_teamGoesOn 1 = .ok (.lookupswitch 63 #[(0, 27), (3, 51)], 27) := by decide +kernel
theorem dX6_teamGoesOn_28 : decode cX6_teamGoesOn 28 = .ok (.iload_n 1, 1) := by decide +kernel
theorem dX6_teamGoesOn_29 : decode cX6_teamGoesOn 29 = .ok (.bipush 104, 2) := by decide +kernel
theorem dX6_teamGoesOn_31 : decode cX6_teamGoesOn 31 = .ok (.if_icmp .eq 15, 3) := by decide +kernel
theorem dX6_teamGoesOn_34 : decode cX6_teamGoesOn 34 = .ok (.iload_n 1, 1) := by decide +kernel
theorem dX6_teamGoesOn_35 : decode cX6_teamGoesOn 35 = .ok (.bipush 108, 2) := by decide +kernel
theorem dX6_teamGoesOn_37 : decode cX6_teamGoesOn 37 = .ok (.if_icmp .eq 9, 3) := by decide +kernel
theorem dX6_teamGoesOn_40 : decode cX6_teamGoesOn 40 = .ok (.iload_n 1, 1) := by decide +kernel
theorem dX6_teamGoesOn_41 : decode cX6_teamGoesOn 41 = .ok (.bipush 97, 2) := by decide +kernel
theorem dX6_teamGoesOn_43 : decode cX6_teamGoesOn 43 = .ok (.if_icmp .ne 7, 3) := by decide +kernel
theorem dX6_teamGoesOn_46 : decode cX6_teamGoesOn 46 = .ok (.iconst 1, 1) := by decide +kernel
theorem dX6_teamGoesOn_47 : decode cX6_teamGoesOn 47 = .ok (.goto 4, 3) := by decide +kernel
theorem dX6_teamGoesOn_50 : decode cX6_teamGoesOn 50 = .ok (.iconst 0, 1) := by decide +kernel
theorem dX6_teamGoesOn_51 : decode cX6_teamGoesOn 51 = .ok (.ireturn, 1) := by decide +kernel
theorem dX6_teamGoesOn_52 : decode cX6_teamGoesOn 52 = .ok (.iload_n 1, 1) := by decide +kernel
theorem dX6_teamGoesOn_53 : decode cX6_teamGoesOn 53 = .ok (.bipush 59, 2) := by decide +kernel
theorem dX6_teamGoesOn_55 : decode cX6_teamGoesOn 55 = .ok (.if_icmp .ne 7, 3) := by decide +kernel
theorem dX6_teamGoesOn_58 : decode cX6_teamGoesOn 58 = .ok (.iconst 1, 1) := by decide +kernel
theorem dX6_teamGoesOn_59 : decode cX6_teamGoesOn 59 = .ok (.goto 4, 3) := by decide +kernel
theorem dX6_teamGoesOn_62 : decode cX6_teamGoesOn 62 = .ok (.iconst 0, 1) := by decide +kernel
theorem dX6_teamGoesOn_63 : decode cX6_teamGoesOn 63 = .ok (.ireturn, 1) := by decide +kernel
theorem dX6_teamGoesOn_64 : decode cX6_teamGoesOn 64 = .ok (.iload_n 1, 1) := by decide +kernel
theorem dX6_teamGoesOn_65 : decode cX6_teamGoesOn 65 = .ok (.bipush 49, 2) := by decide +kernel
theorem dX6_teamGoesOn_67 : decode cX6_teamGoesOn 67 = .ok (.if_icmp .lt 13, 3) := by decide +kernel
theorem dX6_teamGoesOn_70 : decode cX6_teamGoesOn 70 = .ok (.iload_n 1, 1) := by decide +kernel
theorem dX6_teamGoesOn_71 : decode cX6_teamGoesOn 71 = .ok (.bipush 57, 2) := by decide +kernel
theorem dX6_teamGoesOn_73 : decode cX6_teamGoesOn 73 = .ok (.if_icmp .gt 7, 3) := by decide +kernel
theorem dX6_teamGoesOn_76 : decode cX6_teamGoesOn 76 = .ok (.iconst 1, 1) := by decide +kernel
theorem dX6_teamGoesOn_77 : decode cX6_teamGoesOn 77 = .ok (.goto 4, 3) := by decide +kernel
theorem dX6_teamGoesOn_80 : decode cX6_teamGoesOn 80 = .ok (.iconst 0, 1) := by decide +kernel
theorem dX6_teamGoesOn_81 : decode cX6_teamGoesOn 81 = .ok (.ireturn, 1) := by decide +kernel
set_option maxRecDepth 20000 in
set_option maxHeartbeats 4000000 in
theorem w_X6_teamGoesOn_0 {x : tg_X} {Sf : tg_S} {r : Int32} (X : tg_M tauC x cX6_teamGoesOn 2 RX6 zr_X6_teamGoesOn (some .boolean) Sf (some (.int r))) (S : tg_S) (v0 : Int32) (v1 : Int32) (h : f_X6_teamGoesOn  S v0 v1 = some (Sf, r)) : tg_G tauC x S 0 [(0, .int v0), (1, .int v1)] [] := by
  unfold f_X6_teamGoesOn at h
  refine tg_iload_n X dX6_teamGoesOn_0 rfl 0 rfl ?_
  by_cases c1 : v0 = 0
  · have h := tg_ifT c1 h
    refine tg_lsw (tgt := 28) (off := 27) X dX6_teamGoesOn_1 (by decide) (by rw [c1]; decide) (by decide) ?_
    refine tg_iload_n X dX6_teamGoesOn_28 rfl 1 rfl ?_
    refine tg_bipush X dX6_teamGoesOn_29 tk_b104 ?_
    refine tg_icmp_eq (tgt := 46) X dX6_teamGoesOn_31 (by decide) (fun c2 => ?_) (fun c2 => ?_)
    · have h := tg_ifT c2 h
      refine tg_iconst X dX6_teamGoesOn_46 tk_i1 ?_
      refine tg_goto (tgt := 51) X dX6_teamGoesOn_47 (by decide) ?_
      exact tg_iret X h rfl dX6_teamGoesOn_51
    · have h := tg_ifF c2 h
      refine tg_iload_n X dX6_teamGoesOn_34 rfl 1 rfl ?_
      refine tg_bipush X dX6_teamGoesOn_35 tk_b108 ?_
      refine tg_icmp_eq (tgt := 46) X dX6_teamGoesOn_37 (by decide) (fun c3 => ?_) (fun c3 => ?_)
      · have h := tg_ifT c3 h
        refine tg_iconst X dX6_teamGoesOn_46 tk_i1 ?_
        refine tg_goto (tgt := 51) X dX6_teamGoesOn_47 (by decide) ?_
        exact tg_iret X h rfl dX6_teamGoesOn_51
      · have h := tg_ifF c3 h
        refine tg_iload_n X dX6_teamGoesOn_40 rfl 1 rfl ?_
        refine tg_bipush X dX6_teamGoesOn_41 tk_b97 ?_
        refine tg_icmp_ne (tgt := 50) X dX6_teamGoesOn_43 (by decide) (fun c4 => ?_) (fun c4 => ?_)
        · have h := tg_ifF c4 h
          refine tg_iconst X dX6_teamGoesOn_50 tk_i0 ?_
          exact tg_iret X h rfl dX6_teamGoesOn_51
        · have h := tg_ifT c4 h
          refine tg_iconst X dX6_teamGoesOn_46 tk_i1 ?_
          refine tg_goto (tgt := 51) X dX6_teamGoesOn_47 (by decide) ?_
          exact tg_iret X h rfl dX6_teamGoesOn_51
  have h := tg_ifF c1 h
  by_cases c5 : v0 = 3
  · have h := tg_ifT c5 h
    refine tg_lsw (tgt := 52) (off := 51) X dX6_teamGoesOn_1 (by decide) (by rw [c5]; decide) (by decide) ?_
    refine tg_iload_n X dX6_teamGoesOn_52 rfl 1 rfl ?_
    refine tg_bipush X dX6_teamGoesOn_53 tk_b59 ?_
    refine tg_icmp_ne (tgt := 62) X dX6_teamGoesOn_55 (by decide) (fun c6 => ?_) (fun c6 => ?_)
    · have h := tg_ifF c6 h
      refine tg_iconst X dX6_teamGoesOn_62 tk_i0 ?_
      exact tg_iret X h rfl dX6_teamGoesOn_63
    · have h := tg_ifT c6 h
      refine tg_iconst X dX6_teamGoesOn_58 tk_i1 ?_
      refine tg_goto (tgt := 63) X dX6_teamGoesOn_59 (by decide) ?_
      exact tg_iret X h rfl dX6_teamGoesOn_63
  have h := tg_ifF c5 h
  refine tg_lsw (tgt := 64) (off := 63) X dX6_teamGoesOn_1 (by decide) (by have q0 := tg_nei (b := 0) (z := 0) rfl c1; have q3 := tg_nei (b := 3) (z := 3) rfl c5; exact tg_lsD2 q0 q3) (by decide) ?_
  refine tg_iload_n X dX6_teamGoesOn_64 rfl 1 rfl ?_
  refine tg_bipush X dX6_teamGoesOn_65 tk_b49 ?_
  refine tg_icmp_lt (tgt := 80) X dX6_teamGoesOn_67 (by decide) (fun c7 => ?_) (fun c7 => ?_)
  · have h := tg_ifT c7 h
    refine tg_iconst X dX6_teamGoesOn_80 tk_i0 ?_
    exact tg_iret X h rfl dX6_teamGoesOn_81
  · have h := tg_ifF c7 h
    refine tg_iload_n X dX6_teamGoesOn_70 rfl 1 rfl ?_
    refine tg_bipush X dX6_teamGoesOn_71 tk_b57 ?_
    refine tg_icmp_gt (tgt := 80) X dX6_teamGoesOn_73 (by decide) (fun c8 => ?_) (fun c8 => ?_)
    · have h := tg_ifT c8 h
      refine tg_iconst X dX6_teamGoesOn_80 tk_i0 ?_
      exact tg_iret X h rfl dX6_teamGoesOn_81
    · have h := tg_ifF c8 h
      refine tg_iconst X dX6_teamGoesOn_76 tk_i1 ?_
      refine tg_goto (tgt := 81) X dX6_teamGoesOn_77 (by decide) ?_
      exact tg_iret X h rfl dX6_teamGoesOn_81
theorem cm_X6_teamGoesOn (l : Launch) (D : va_G) (cy : Bool → ClassId) (ad : Nat → Nat) (tS : Nat) {S Sf : tg_S} {v0 : Int32} {v1 : Int32} {r : Int32} (h : f_X6_teamGoesOn  S v0 v1 = some (Sf, r)) : tg_Met l yX6_teamGoesOn cX6_teamGoesOn 2 (some .boolean) zr_X6_teamGoesOn tauC D cy ad tS S [.int v0, .int v1] Sf (some (.int r)) := tg_mk (by decide +kernel) trivial (Nat.le_of_ble_eq_true rfl) (fun p e s m args below meth c Q A X => w_X6_teamGoesOn_0 X S v0 v1 h)
-- X6_firstFault
def zr_X6_firstFault : Room := { frames := 1, cells := 0, slots := 0, locals := 22 }
theorem dX6_firstFault_0 : decode cX6_firstFault 0 = .ok (.aload_n 0, 1) := by decide +kernel
theorem dX6_firstFault_1 : decode cX6_firstFault 1 = .ok (.getfield 15, 3) := by decide +kernel
theorem dX6_firstFault_4 : decode cX6_firstFault 4 = .ok (.iload_n 1, 1) := by decide +kernel
theorem dX6_firstFault_5 : decode cX6_firstFault 5 = .ok (.iaload, 1) := by decide +kernel
theorem dX6_firstFault_6 : decode cX6_firstFault 6 = .ok (.istore_n 2, 1) := by decide +kernel
theorem dX6_firstFault_7 : decode cX6_firstFault 7 = .ok (.iconst 0, 1) := by decide +kernel
theorem dX6_firstFault_8 : decode cX6_firstFault 8 = .ok (.istore_n 3, 1) := by decide +kernel
theorem dX6_firstFault_9 : decode cX6_firstFault 9 = .ok (.iload_n 3, 1) := by decide +kernel
theorem dX6_firstFault_10 : decode cX6_firstFault 10 = .ok (.iload_n 2, 1) := by decide +kernel
theorem dX6_firstFault_11 : decode cX6_firstFault 11 = .ok (.if_icmp .ge 47, 3) := by decide +kernel
theorem dX6_firstFault_14 : decode cX6_firstFault 14 = .ok (.aload_n 0, 1) := by decide +kernel
theorem dX6_firstFault_15 : decode cX6_firstFault 15 = .ok (.iload_n 1, 1) := by decide +kernel
theorem dX6_firstFault_16 : decode cX6_firstFault 16 = .ok (.iload_n 3, 1) := by decide +kernel
theorem dX6_firstFault_17 : decode cX6_firstFault 17 = .ok (.invokevirtual 22, 3) := by decide +kernel
theorem dX6_firstFault_20 : decode cX6_firstFault 20 = .ok (.istore 4, 2) := by decide +kernel
theorem dX6_firstFault_22 : decode cX6_firstFault 22 = .ok (.iload_n 1, 1) := by decide +kernel
theorem dX6_firstFault_23 : decode cX6_firstFault 23 = .ok (.iconst 2, 1) := by decide +kernel
theorem dX6_firstFault_24 : decode cX6_firstFault 24 = .ok (.if_icmp .ge 17, 3) := by decide +kernel
theorem dX6_firstFault_27 : decode cX6_firstFault 27 = .ok (.iload_n 3, 1) := by decide +kernel
theorem dX6_firstFault_28 : decode cX6_firstFault 28 = .ok (.iconst 4, 1) := by decide +kernel
theorem dX6_firstFault_29 : decode cX6_firstFault 29 = .ok (.irem, 1) := by decide +kernel
theorem dX6_firstFault_30 : decode cX6_firstFault 30 = .ok (.iload 4, 2) := by decide +kernel
theorem dX6_firstFault_32 : decode cX6_firstFault 32 = .ok (.invokestatic 26, 3) := by decide +kernel
theorem dX6_firstFault_35 : decode cX6_firstFault 35 = .ok (.ifCond .ne 17, 3) := by decide +kernel
theorem dX6_firstFault_38 : decode cX6_firstFault 38 = .ok (.goto 12, 3) := by decide +kernel
theorem dX6_firstFault_41 : decode cX6_firstFault 41 = .ok (.iload 4, 2) := by decide +kernel
theorem dX6_firstFault_43 : decode cX6_firstFault 43 = .ok (.invokestatic 30, 3) := by decide +kernel
theorem dX6_firstFault_46 : decode cX6_firstFault 46 = .ok (.iconst (-1), 1) := by decide +kernel
theorem dX6_firstFault_47 : decode cX6_firstFault 47 = .ok (.if_icmp .ne 5, 3) := by decide +kernel
theorem dX6_firstFault_50 : decode cX6_firstFault 50 = .ok (.iload_n 3, 1) := by decide +kernel
theorem dX6_firstFault_51 : decode cX6_firstFault 51 = .ok (.ireturn, 1) := by decide +kernel
theorem dX6_firstFault_52 : decode cX6_firstFault 52 = .ok (.iinc 3 1, 3) := by decide +kernel
theorem dX6_firstFault_55 : decode cX6_firstFault 55 = .ok (.goto (-46), 3) := by decide +kernel
theorem dX6_firstFault_58 : decode cX6_firstFault 58 = .ok (.iload_n 1, 1) := by decide +kernel
theorem dX6_firstFault_59 : decode cX6_firstFault 59 = .ok (.iconst 2, 1) := by decide +kernel
theorem dX6_firstFault_60 : decode cX6_firstFault 60 = .ok (.if_icmp .ge 14, 3) := by decide +kernel
theorem dX6_firstFault_63 : decode cX6_firstFault 63 = .ok (.iload_n 2, 1) := by decide +kernel
theorem dX6_firstFault_64 : decode cX6_firstFault 64 = .ok (.ifCond .eq 10, 3) := by decide +kernel
theorem dX6_firstFault_67 : decode cX6_firstFault 67 = .ok (.iload_n 2, 1) := by decide +kernel
theorem dX6_firstFault_68 : decode cX6_firstFault 68 = .ok (.iconst 4, 1) := by decide +kernel
theorem dX6_firstFault_69 : decode cX6_firstFault 69 = .ok (.irem, 1) := by decide +kernel
theorem dX6_firstFault_70 : decode cX6_firstFault 70 = .ok (.iconst 3, 1) := by decide +kernel
theorem dX6_firstFault_71 : decode cX6_firstFault 71 = .ok (.if_icmp .ne 7, 3) := by decide +kernel
theorem dX6_firstFault_74 : decode cX6_firstFault 74 = .ok (.iconst 1, 1) := by decide +kernel
theorem dX6_firstFault_75 : decode cX6_firstFault 75 = .ok (.goto 4, 3) := by decide +kernel
theorem dX6_firstFault_78 : decode cX6_firstFault 78 = .ok (.iconst 0, 1) := by decide +kernel
theorem dX6_firstFault_79 : decode cX6_firstFault 79 = .ok (.istore_n 3, 1) := by decide +kernel
theorem dX6_firstFault_80 : decode cX6_firstFault 80 = .ok (.iload_n 3, 1) := by decide +kernel
theorem dX6_firstFault_81 : decode cX6_firstFault 81 = .ok (.ifCond .eq 7, 3) := by decide +kernel
theorem dX6_firstFault_84 : decode cX6_firstFault 84 = .ok (.iconst (-1), 1) := by decide +kernel
theorem dX6_firstFault_85 : decode cX6_firstFault 85 = .ok (.goto 4, 3) := by decide +kernel
theorem dX6_firstFault_88 : decode cX6_firstFault 88 = .ok (.iload_n 2, 1) := by decide +kernel
theorem dX6_firstFault_89 : decode cX6_firstFault 89 = .ok (.ireturn, 1) := by decide +kernel
set_option maxRecDepth 20000 in
set_option maxHeartbeats 4000000 in
theorem w_X6_firstFault_79 {x : tg_X} {Sf : tg_S} {r : Int32} (X : tg_M tauC x cX6_firstFault 5 RX6 zr_X6_firstFault (some .int) Sf (some (.int r))) (S : tg_S) (v2 : Int32) (s0 : Int32) (h : f_X6_firstFault_79  S v2 s0 = some (Sf, r)) : tg_G tauC x S 79 [(2, .int v2)] [.int s0] := by
  unfold f_X6_firstFault_79 at h
  refine tg_istore_n (lv2 := [(3, .int s0), (2, .int v2)]) X dX6_firstFault_79 rfl (by decide) rfl ?_
  refine tg_iload_n X dX6_firstFault_80 rfl 0 rfl ?_
  refine tg_if_eq (tgt := 88) X dX6_firstFault_81 (by decide) (fun c1 => ?_) (fun c1 => ?_)
  · have h := tg_ifT c1 h
    refine tg_iload_n X dX6_firstFault_88 rfl 1 rfl ?_
    exact tg_iret X h rfl dX6_firstFault_89
  · have h := tg_ifF c1 h
    refine tg_iconst X dX6_firstFault_84 tk_im1 ?_
    refine tg_goto (tgt := 89) X dX6_firstFault_85 (by decide) ?_
    exact tg_iret X h rfl dX6_firstFault_89
set_option maxRecDepth 20000 in
set_option maxHeartbeats 4000000 in
theorem w_X6_firstFault_74 {x : tg_X} {Sf : tg_S} {r : Int32} (X : tg_M tauC x cX6_firstFault 5 RX6 zr_X6_firstFault (some .int) Sf (some (.int r))) (S : tg_S) (v2 : Int32) (h : f_X6_firstFault_74  S v2 = some (Sf, r)) : tg_G tauC x S 74 [(2, .int v2)] [] := by
  unfold f_X6_firstFault_74 at h
  refine tg_iconst X dX6_firstFault_74 tk_i1 ?_
  refine tg_goto (tgt := 79) X dX6_firstFault_75 (by decide) ?_
  exact w_X6_firstFault_79 X  S v2 1 h
set_option maxRecDepth 20000 in
set_option maxHeartbeats 4000000 in
theorem w_X6_firstFault_52 {x : tg_X} {Sf : tg_S} {r : Int32} {rec9 : tg_S → Int32 → Int32 → Int32 → Option (tg_S × Int32)} (X : tg_M tauC x cX6_firstFault 5 RX6 zr_X6_firstFault (some .int) Sf (some (.int r))) (hr9 : ∀ (S : tg_S) (v1 : Int32) (v2 : Int32) (v3 : Int32), rec9 S v1 v2 v3 = some (Sf, r) → tg_G tauC x S 9 [(0, .ref (tg_ad x 1)), (1, .int v1), (2, .int v2), (3, .int v3)] []) (S : tg_S) (v1 : Int32) (v2 : Int32) (v3 : Int32) (h : f_X6_firstFault_52 rec9 S v1 v2 v3 = some (Sf, r)) : tg_G tauC x S 52 [(0, .ref (tg_ad x 1)), (1, .int v1), (2, .int v2), (3, .int v3)] [] := by
  unfold f_X6_firstFault_52 at h
  obtain ⟨y1, ey1⟩ : ∃ z : Int32, z = v3 + 1 := ⟨_, rfl⟩
  have h := tg_nmE ey1 h
  refine tg_iinc (lv2 := [(3, .int y1), (0, .ref (tg_ad x 1)), (1, .int v1), (2, .int v2)]) X dX6_firstFault_52 3 rfl tk_i1 ey1 (by decide) rfl ?_
  refine tg_goto (tgt := 9) X dX6_firstFault_55 (by decide) ?_
  refine tg_re [1, 2, 3, 0] rfl ?_
  exact hr9 S v1 v2 y1 h
set_option maxRecDepth 20000 in
set_option maxHeartbeats 4000000 in
theorem w_X6_firstFault_9 {x : tg_X} {Sf : tg_S} {r : Int32} {rec9 : tg_S → Int32 → Int32 → Int32 → Option (tg_S × Int32)} (X : tg_M tauC x cX6_firstFault 5 RX6 zr_X6_firstFault (some .int) Sf (some (.int r))) (hr9 : ∀ (S : tg_S) (v1 : Int32) (v2 : Int32) (v3 : Int32), rec9 S v1 v2 v3 = some (Sf, r) → tg_G tauC x S 9 [(0, .ref (tg_ad x 1)), (1, .int v1), (2, .int v2), (3, .int v3)] []) (S : tg_S) (v1 : Int32) (v2 : Int32) (v3 : Int32) (h : f_X6_firstFault_9 rec9 S v1 v2 v3 = some (Sf, r)) : tg_G tauC x S 9 [(0, .ref (tg_ad x 1)), (1, .int v1), (2, .int v2), (3, .int v3)] [] := by
  unfold f_X6_firstFault_9 at h
  refine tg_iload_n X dX6_firstFault_9 rfl 3 rfl ?_
  refine tg_iload_n X dX6_firstFault_10 rfl 2 rfl ?_
  refine tg_icmp_ge (tgt := 58) X dX6_firstFault_11 (by decide) (fun c1 => ?_) (fun c1 => ?_)
  · have h := tg_ifT c1 h
    refine tg_iload_n X dX6_firstFault_58 rfl 1 rfl ?_
    refine tg_iconst X dX6_firstFault_59 tk_i2 ?_
    refine tg_icmp_ge (tgt := 74) X dX6_firstFault_60 (by decide) (fun c2 => ?_) (fun c2 => ?_)
    · have h := tg_ifT c2 h
      refine tg_re [2] rfl ?_
      exact w_X6_firstFault_74 X  S v2 h
    · have h := tg_ifF c2 h
      refine tg_iload_n X dX6_firstFault_63 rfl 2 rfl ?_
      refine tg_if_eq (tgt := 74) X dX6_firstFault_64 (by decide) (fun c3 => ?_) (fun c3 => ?_)
      · have h := tg_ifT c3 h
        refine tg_re [2] rfl ?_
        exact w_X6_firstFault_74 X  S v2 h
      · have h := tg_ifF c3 h
        refine tg_iload_n X dX6_firstFault_67 rfl 2 rfl ?_
        refine tg_iconst X dX6_firstFault_68 tk_i4 ?_
        refine tg_irem X dX6_firstFault_69 (by decide) ?_
        refine tg_iconst X dX6_firstFault_70 tk_i3 ?_
        refine tg_icmp_ne (tgt := 78) X dX6_firstFault_71 (by decide) (fun c4 => ?_) (fun c4 => ?_)
        · have h := tg_ifF c4 h
          refine tg_iconst X dX6_firstFault_78 tk_i0 ?_
          refine tg_re [2] rfl ?_
          exact w_X6_firstFault_79 X  S v2 0 h
        · have h := tg_ifT c4 h
          refine tg_re [2] rfl ?_
          exact w_X6_firstFault_74 X  S v2 h
  · have h := tg_ifF c1 h
    refine tg_aload_n X dX6_firstFault_14 rfl 0 rfl ?_
    refine tg_iload_n X dX6_firstFault_15 rfl 1 rfl ?_
    refine tg_iload_n X dX6_firstFault_16 rfl 3 rfl ?_
    obtain ⟨S5, r6, kS5, h⟩ := tg_bdE h
    refine tg_callV (As := [.int v1, .int v3]) (rest := []) X 1 (cm_X6_byteAt _ _ _ _ _ kS5) yy_X6_byteAt wv_X6_byteAt ws_X6_byteAt wm_X6_22 rfl cl_X6.1 ⟨rfl, rfl, Nat.le_of_ble_eq_true rfl, Nat.le_of_ble_eq_true rfl⟩ rfl rfl (Nat.le_of_ble_eq_true rfl) dX6_firstFault_17 rfl ?_
    refine tg_istore (lv2 := [(4, .int r6), (0, .ref (tg_ad x 1)), (1, .int v1), (2, .int v2), (3, .int v3)]) X dX6_firstFault_20 (by decide) rfl ?_
    refine tg_iload_n X dX6_firstFault_22 rfl 2 rfl ?_
    refine tg_iconst X dX6_firstFault_23 tk_i2 ?_
    refine tg_icmp_ge (tgt := 41) X dX6_firstFault_24 (by decide) (fun c7 => ?_) (fun c7 => ?_)
    · have h := tg_ifT c7 h
      refine tg_iload X dX6_firstFault_41 0 rfl ?_
      obtain ⟨S8, r9, kS8, h⟩ := tg_bdE h
      refine tg_callS (As := [.int r6]) (rest := []) X (cm_X6_callOf _ _ _ _ _ kS8) yy_X6_callOf wt_X6_callOf wm_X6_30 ⟨rfl, rfl, Nat.le_of_ble_eq_true rfl, Nat.le_of_ble_eq_true rfl⟩ rfl rfl (Nat.le_of_ble_eq_true rfl) dX6_firstFault_43 rfl ?_
      refine tg_iconst X dX6_firstFault_46 tk_im1 ?_
      refine tg_icmp_ne (tgt := 52) X dX6_firstFault_47 (by decide) (fun c10 => ?_) (fun c10 => ?_)
      · have h := tg_ifF c10 h
        refine tg_re [1, 2, 3, 4] rfl ?_
        exact w_X6_firstFault_52 X hr9 S8 v1 v2 v3 h
      · have h := tg_ifT c10 h
        refine tg_iload_n X dX6_firstFault_50 rfl 4 rfl ?_
        exact tg_iret X h rfl dX6_firstFault_51
    · have h := tg_ifF c7 h
      refine tg_iload_n X dX6_firstFault_27 rfl 4 rfl ?_
      refine tg_iconst X dX6_firstFault_28 tk_i4 ?_
      refine tg_irem X dX6_firstFault_29 (by decide) ?_
      refine tg_iload X dX6_firstFault_30 0 rfl ?_
      obtain ⟨S11, r12, kS11, h⟩ := tg_bdE h
      refine tg_callS (As := [.int (v3 - v3 / 4 * 4), .int r6]) (rest := []) X (cm_X6_teamGoesOn _ _ _ _ _ kS11) yy_X6_teamGoesOn wt_X6_teamGoesOn wm_X6_26 ⟨rfl, rfl, Nat.le_of_ble_eq_true rfl, Nat.le_of_ble_eq_true rfl⟩ rfl rfl (Nat.le_of_ble_eq_true rfl) dX6_firstFault_32 rfl ?_
      refine tg_if_ne (tgt := 52) X dX6_firstFault_35 (by decide) (fun c13 => ?_) (fun c13 => ?_)
      · have h := tg_ifF c13 h
        refine tg_re [1, 2, 3, 4] rfl ?_
        exact w_X6_firstFault_52 X hr9 S11 v1 v2 v3 h
      · have h := tg_ifT c13 h
        refine tg_goto (tgt := 50) X dX6_firstFault_38 (by decide) ?_
        refine tg_iload_n X dX6_firstFault_50 rfl 4 rfl ?_
        exact tg_iret X h rfl dX6_firstFault_51
theorem wl_X6_firstFault_9 {x : tg_X} {Sf : tg_S} {r : Int32} (X : tg_M tauC x cX6_firstFault 5 RX6 zr_X6_firstFault (some .int) Sf (some (.int r))) : ∀ (n : Nat) (S : tg_S) (v1 : Int32) (v2 : Int32) (v3 : Int32) (h : L_X6_firstFault_9  n S v1 v2 v3 = some (Sf, r)), tg_G tauC x S 9 [(0, .ref (tg_ad x 1)), (1, .int v1), (2, .int v2), (3, .int v3)] [] := by
  intro n
  induction n with
  | zero => intro S v1 v2 v3 h; cases h
  | succ n ih => intro S v1 v2 v3 h; exact w_X6_firstFault_9 X  ih S v1 v2 v3 h
set_option maxRecDepth 20000 in
set_option maxHeartbeats 4000000 in
theorem w_X6_firstFault_0 {x : tg_X} {Sf : tg_S} {r : Int32} (X : tg_M tauC x cX6_firstFault 5 RX6 zr_X6_firstFault (some .int) Sf (some (.int r))) (S : tg_S) (v1 : Int32) (h : f_X6_firstFault  S v1 = some (Sf, r)) : tg_G tauC x S 0 [(0, .ref (tg_ad x 1)), (1, .int v1)] [] := by
  unfold f_X6_firstFault at h
  refine tg_aload_n X dX6_firstFault_0 rfl 0 rfl ?_
  refine tg_getr X 1 rfl cl_X6 1 (by decide) rfl wf_X6_15 dX6_firstFault_1 ?_
  refine tg_iload_n X dX6_firstFault_4 rfl 1 rfl ?_
  obtain ⟨y1, ey1, by1, h⟩ := tg_rdE h
  refine tg_iald X 3 rfl ey1 by1 dX6_firstFault_5 ?_
  refine tg_istore_n (lv2 := [(2, .int y1), (0, .ref (tg_ad x 1)), (1, .int v1)]) X dX6_firstFault_6 rfl (by decide) rfl ?_
  refine tg_iconst X dX6_firstFault_7 tk_i0 ?_
  refine tg_istore_n (lv2 := [(3, .int 0), (2, .int y1), (0, .ref (tg_ad x 1)), (1, .int v1)]) X dX6_firstFault_8 rfl (by decide) rfl ?_
  refine tg_re [2, 3, 1, 0] rfl ?_
  exact wl_X6_firstFault_9 X  tg_F S v1 y1 0 h
theorem cm_X6_firstFault (l : Launch) (D : va_G) (cy : Bool → ClassId) (ad : Nat → Nat) (tS : Nat) {S Sf : tg_S} {v1 : Int32} {r : Int32} (h : f_X6_firstFault  S v1 = some (Sf, r)) : tg_Met l yX6_firstFault cX6_firstFault 5 (some .int) zr_X6_firstFault tauC D cy ad tS S [.ref (ad 1), .int v1] Sf (some (.int r)) := tg_mk (by decide +kernel) trivial (Nat.le_of_ble_eq_true rfl) (fun p e s m args below meth c Q A X => w_X6_firstFault_0 X S v1 h)
-- X6_soundLength
def zr_X6_soundLength : Room := { frames := 2, cells := 0, slots := 0, locals := 46 }
theorem dX6_soundLength_0 : decode cX6_soundLength 0 = .ok (.aload_n 0, 1) := by decide +kernel
theorem dX6_soundLength_1 : decode cX6_soundLength 1 = .ok (.iload_n 1, 1) := by decide +kernel
theorem dX6_soundLength_2 : decode cX6_soundLength 2 = .ok (.invokevirtual 18, 3) := by decide +kernel
theorem dX6_soundLength_5 : decode cX6_soundLength 5 = .ok (.iconst (-1), 1) := by decide +kernel
theorem dX6_soundLength_6 : decode cX6_soundLength 6 = .ok (.if_icmp .ne 12, 3) := by decide +kernel
theorem dX6_soundLength_9 : decode cX6_soundLength 9 = .ok (.aload_n 0, 1) := by decide +kernel
theorem dX6_soundLength_10 : decode cX6_soundLength 10 = .ok (.getfield 15, 3) := by decide +kernel
theorem dX6_soundLength_13 : decode cX6_soundLength 13 = .ok (.iload_n 1, 1) := by decide +kernel
theorem dX6_soundLength_14 : decode cX6_soundLength 14 = .ok (.iaload, 1) := by decide +kernel
theorem dX6_soundLength_15 : decode cX6_soundLength 15 = .ok (.goto 4, 3) := by decide +kernel
theorem dX6_soundLength_18 : decode cX6_soundLength 18 = .ok (.iconst 0, 1) := by decide +kernel
theorem dX6_soundLength_19 : decode cX6_soundLength 19 = .ok (.ireturn, 1) := by decide +kernel
set_option maxRecDepth 20000 in
set_option maxHeartbeats 4000000 in
theorem w_X6_soundLength_0 {x : tg_X} {Sf : tg_S} {r : Int32} (X : tg_M tauC x cX6_soundLength 2 RX6 zr_X6_soundLength (some .int) Sf (some (.int r))) (S : tg_S) (v1 : Int32) (h : f_X6_soundLength  S v1 = some (Sf, r)) : tg_G tauC x S 0 [(0, .ref (tg_ad x 1)), (1, .int v1)] [] := by
  unfold f_X6_soundLength at h
  refine tg_aload_n X dX6_soundLength_0 rfl 0 rfl ?_
  refine tg_iload_n X dX6_soundLength_1 rfl 1 rfl ?_
  obtain ⟨S1, r2, kS1, h⟩ := tg_bdE h
  refine tg_callV (As := [.int v1]) (rest := []) X 1 (cm_X6_firstFault _ _ _ _ _ kS1) yy_X6_firstFault wv_X6_firstFault ws_X6_firstFault wm_X6_18 rfl cl_X6.1 ⟨rfl, rfl, Nat.le_of_ble_eq_true rfl, Nat.le_of_ble_eq_true rfl⟩ rfl rfl (Nat.le_of_ble_eq_true rfl) dX6_soundLength_2 rfl ?_
  refine tg_iconst X dX6_soundLength_5 tk_im1 ?_
  refine tg_icmp_ne (tgt := 18) X dX6_soundLength_6 (by decide) (fun c3 => ?_) (fun c3 => ?_)
  · have h := tg_ifF c3 h
    refine tg_iconst X dX6_soundLength_18 tk_i0 ?_
    exact tg_iret X h rfl dX6_soundLength_19
  · have h := tg_ifT c3 h
    refine tg_aload_n X dX6_soundLength_9 rfl 0 rfl ?_
    refine tg_getr X 1 rfl cl_X6 1 (by decide) rfl wf_X6_15 dX6_soundLength_10 ?_
    refine tg_iload_n X dX6_soundLength_13 rfl 1 rfl ?_
    obtain ⟨y4, ey4, by4, h⟩ := tg_rdE h
    refine tg_iald X 3 rfl ey4 by4 dX6_soundLength_14 ?_
    refine tg_goto (tgt := 19) X dX6_soundLength_15 (by decide) ?_
    exact tg_iret X h rfl dX6_soundLength_19
theorem cm_X6_soundLength (l : Launch) (D : va_G) (cy : Bool → ClassId) (ad : Nat → Nat) (tS : Nat) {S Sf : tg_S} {v1 : Int32} {r : Int32} (h : f_X6_soundLength  S v1 = some (Sf, r)) : tg_Met l yX6_soundLength cX6_soundLength 2 (some .int) zr_X6_soundLength tauC D cy ad tS S [.ref (ad 1), .int v1] Sf (some (.int r)) := tg_mk (by decide +kernel) trivial (Nat.le_of_ble_eq_true rfl) (fun p e s m args below meth c Q A X => w_X6_soundLength_0 X S v1 h)
-- X6_sortOf
def zr_X6_sortOf : Room := { frames := 0, cells := 0, slots := 0, locals := 0 }
theorem dX6_sortOf_0 : decode cX6_sortOf 0 = .ok (.iload_n 0, 1) := by decide +kernel
theorem dX6_sortOf_1 : decode cX6_sortOf 1 = .ok (.lookupswitch 41 #[(97, 39), (104, 35), (108, 37)], 35) := by decide +kernel
theorem dX6_sortOf_36 : decode cX6_sortOf 36 = .ok (.iconst 0, 1) := by decide +kernel
theorem dX6_sortOf_37 : decode cX6_sortOf 37 = .ok (.ireturn, 1) := by decide +kernel
theorem dX6_sortOf_38 : decode cX6_sortOf 38 = .ok (.iconst 1, 1) := by decide +kernel
theorem dX6_sortOf_39 : decode cX6_sortOf 39 = .ok (.ireturn, 1) := by decide +kernel
theorem dX6_sortOf_40 : decode cX6_sortOf 40 = .ok (.iconst 2, 1) := by decide +kernel
theorem dX6_sortOf_41 : decode cX6_sortOf 41 = .ok (.ireturn, 1) := by decide +kernel
theorem dX6_sortOf_42 : decode cX6_sortOf 42 = .ok (.iconst (-1), 1) := by decide +kernel
theorem dX6_sortOf_43 : decode cX6_sortOf 43 = .ok (.ireturn, 1) := by decide +kernel
set_option maxRecDepth 20000 in
set_option maxHeartbeats 4000000 in
theorem w_X6_sortOf_0 {x : tg_X} {Sf : tg_S} {r : Int32} (X : tg_M tauC x cX6_sortOf 1 RX6 zr_X6_sortOf (some .int) Sf (some (.int r))) (S : tg_S) (v0 : Int32) (h : f_X6_sortOf  S v0 = some (Sf, r)) : tg_G tauC x S 0 [(0, .int v0)] [] := by
  unfold f_X6_sortOf at h
  refine tg_iload_n X dX6_sortOf_0 rfl 0 rfl ?_
  by_cases c1 : v0 = 97
  · have h := tg_ifT c1 h
    refine tg_lsw (tgt := 40) (off := 39) X dX6_sortOf_1 (by decide) (by rw [c1]; decide) (by decide) ?_
    refine tg_iconst X dX6_sortOf_40 tk_i2 ?_
    exact tg_iret X h rfl dX6_sortOf_41
  have h := tg_ifF c1 h
  by_cases c2 : v0 = 104
  · have h := tg_ifT c2 h
    refine tg_lsw (tgt := 36) (off := 35) X dX6_sortOf_1 (by decide) (by rw [c2]; decide) (by decide) ?_
    refine tg_iconst X dX6_sortOf_36 tk_i0 ?_
    exact tg_iret X h rfl dX6_sortOf_37
  have h := tg_ifF c2 h
  by_cases c3 : v0 = 108
  · have h := tg_ifT c3 h
    refine tg_lsw (tgt := 38) (off := 37) X dX6_sortOf_1 (by decide) (by rw [c3]; decide) (by decide) ?_
    refine tg_iconst X dX6_sortOf_38 tk_i1 ?_
    exact tg_iret X h rfl dX6_sortOf_39
  have h := tg_ifF c3 h
  refine tg_lsw (tgt := 42) (off := 41) X dX6_sortOf_1 (by decide) (by have q97 := tg_nei (b := 97) (z := 97) rfl c1; have q104 := tg_nei (b := 104) (z := 104) rfl c2; have q108 := tg_nei (b := 108) (z := 108) rfl c3; exact tg_lsD3 q97 q104 q108) (by decide) ?_
  refine tg_iconst X dX6_sortOf_42 tk_im1 ?_
  exact tg_iret X h rfl dX6_sortOf_43
theorem cm_X6_sortOf (l : Launch) (D : va_G) (cy : Bool → ClassId) (ad : Nat → Nat) (tS : Nat) {S Sf : tg_S} {v0 : Int32} {r : Int32} (h : f_X6_sortOf  S v0 = some (Sf, r)) : tg_Met l yX6_sortOf cX6_sortOf 1 (some .int) zr_X6_sortOf tauC D cy ad tS S [.int v0] Sf (some (.int r)) := tg_mk (by decide +kernel) trivial (Nat.le_of_ble_eq_true rfl) (fun p e s m args below meth c Q A X => w_X6_sortOf_0 X S v0 h)
