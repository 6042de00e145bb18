-- X7_greatestLikeness
def zr_X7_greatestLikeness : Room := { frames := 1, cells := 0, slots := 0, locals := 13 }
theorem dX7_greatestLikeness_0 : decode cX7_greatestLikeness 0 = .ok (.iconst 0, 1) := by decide +kernel
theorem dX7_greatestLikeness_1 : decode cX7_greatestLikeness 1 = .ok (.istore_n 3, 1) := by decide +kernel
theorem dX7_greatestLikeness_2 : decode cX7_greatestLikeness 2 = .ok (.iconst 1, 1) := by decide +kernel
theorem dX7_greatestLikeness_3 : decode cX7_greatestLikeness 3 = .ok (.istore 4, 2) := by decide +kernel
theorem dX7_greatestLikeness_5 : decode cX7_greatestLikeness 5 = .ok (.iload 4, 2) := by decide +kernel
theorem dX7_greatestLikeness_7 : decode cX7_greatestLikeness 7 = .ok (.bipush 9, 2) := by decide +kernel
theorem dX7_greatestLikeness_9 : decode cX7_greatestLikeness 9 = .ok (.if_icmp .gt 91, 3) := by decide +kernel
theorem dX7_greatestLikeness_12 : decode cX7_greatestLikeness 12 = .ok (.iconst 0, 1) := by decide +kernel
theorem dX7_greatestLikeness_13 : decode cX7_greatestLikeness 13 = .ok (.istore 5, 2) := by decide +kernel
theorem dX7_greatestLikeness_15 : decode cX7_greatestLikeness 15 = .ok (.iconst 1, 1) := by decide +kernel
theorem dX7_greatestLikeness_16 : decode cX7_greatestLikeness 16 = .ok (.istore 6, 2) := by decide +kernel
theorem dX7_greatestLikeness_18 : decode cX7_greatestLikeness 18 = .ok (.iload 6, 2) := by decide +kernel
theorem dX7_greatestLikeness_20 : decode cX7_greatestLikeness 20 = .ok (.bipush 9, 2) := by decide +kernel
theorem dX7_greatestLikeness_22 : decode cX7_greatestLikeness 22 = .ok (.if_icmp .gt 65, 3) := by decide +kernel
theorem dX7_greatestLikeness_25 : decode cX7_greatestLikeness 25 = .ok (.iload_n 1, 1) := by decide +kernel
theorem dX7_greatestLikeness_26 : decode cX7_greatestLikeness 26 = .ok (.iload 4, 2) := by decide +kernel
theorem dX7_greatestLikeness_28 : decode cX7_greatestLikeness 28 = .ok (.ishr, 1) := by decide +kernel
theorem dX7_greatestLikeness_29 : decode cX7_greatestLikeness 29 = .ok (.iload_n 1, 1) := by decide +kernel
theorem dX7_greatestLikeness_30 : decode cX7_greatestLikeness 30 = .ok (.iload 6, 2) := by decide +kernel
theorem dX7_greatestLikeness_32 : decode cX7_greatestLikeness 32 = .ok (.ishr, 1) := by decide +kernel
theorem dX7_greatestLikeness_33 : decode cX7_greatestLikeness 33 = .ok (.iand, 1) := by decide +kernel
theorem dX7_greatestLikeness_34 : decode cX7_greatestLikeness 34 = .ok (.iconst 1, 1) := by decide +kernel
theorem dX7_greatestLikeness_35 : decode cX7_greatestLikeness 35 = .ok (.iand, 1) := by decide +kernel
theorem dX7_greatestLikeness_36 : decode cX7_greatestLikeness 36 = .ok (.ifCond .eq 7, 3) := by decide +kernel
theorem dX7_greatestLikeness_39 : decode cX7_greatestLikeness 39 = .ok (.iconst 1, 1) := by decide +kernel
theorem dX7_greatestLikeness_40 : decode cX7_greatestLikeness 40 = .ok (.goto 4, 3) := by decide +kernel
theorem dX7_greatestLikeness_43 : decode cX7_greatestLikeness 43 = .ok (.iconst 0, 1) := by decide +kernel
theorem dX7_greatestLikeness_44 : decode cX7_greatestLikeness 44 = .ok (.istore 7, 2) := by decide +kernel
theorem dX7_greatestLikeness_46 : decode cX7_greatestLikeness 46 = .ok (.iload 7, 2) := by decide +kernel
theorem dX7_greatestLikeness_48 : decode cX7_greatestLikeness 48 = .ok (.ifCond .eq 33, 3) := by decide +kernel
theorem dX7_greatestLikeness_51 : decode cX7_greatestLikeness 51 = .ok (.aload_n 0, 1) := by decide +kernel
theorem dX7_greatestLikeness_52 : decode cX7_greatestLikeness 52 = .ok (.getfield 61, 3) := by decide +kernel
theorem dX7_greatestLikeness_55 : decode cX7_greatestLikeness 55 = .ok (.iload 4, 2) := by decide +kernel
theorem dX7_greatestLikeness_57 : decode cX7_greatestLikeness 57 = .ok (.bipush 24, 2) := by decide +kernel
theorem dX7_greatestLikeness_59 : decode cX7_greatestLikeness 59 = .ok (.imul, 1) := by decide +kernel
theorem dX7_greatestLikeness_60 : decode cX7_greatestLikeness 60 = .ok (.iload_n 2, 1) := by decide +kernel
theorem dX7_greatestLikeness_61 : decode cX7_greatestLikeness 61 = .ok (.iadd, 1) := by decide +kernel
theorem dX7_greatestLikeness_62 : decode cX7_greatestLikeness 62 = .ok (.iaload, 1) := by decide +kernel
theorem dX7_greatestLikeness_63 : decode cX7_greatestLikeness 63 = .ok (.aload_n 0, 1) := by decide +kernel
theorem dX7_greatestLikeness_64 : decode cX7_greatestLikeness 64 = .ok (.getfield 61, 3) := by decide +kernel
theorem dX7_greatestLikeness_67 : decode cX7_greatestLikeness 67 = .ok (.iload 6, 2) := by decide +kernel
theorem dX7_greatestLikeness_69 : decode cX7_greatestLikeness 69 = .ok (.bipush 24, 2) := by decide +kernel
theorem dX7_greatestLikeness_71 : decode cX7_greatestLikeness 71 = .ok (.imul, 1) := by decide +kernel
theorem dX7_greatestLikeness_72 : decode cX7_greatestLikeness 72 = .ok (.iload_n 2, 1) := by decide +kernel
theorem dX7_greatestLikeness_73 : decode cX7_greatestLikeness 73 = .ok (.iadd, 1) := by decide +kernel
theorem dX7_greatestLikeness_74 : decode cX7_greatestLikeness 74 = .ok (.iaload, 1) := by decide +kernel
theorem dX7_greatestLikeness_75 : decode cX7_greatestLikeness 75 = .ok (.if_icmp .ne 6, 3) := by decide +kernel
theorem dX7_greatestLikeness_78 : decode cX7_greatestLikeness 78 = .ok (.iinc 5 1, 3) := by decide +kernel
theorem dX7_greatestLikeness_81 : decode cX7_greatestLikeness 81 = .ok (.iinc 6 1, 3) := by decide +kernel
theorem dX7_greatestLikeness_84 : decode cX7_greatestLikeness 84 = .ok (.goto (-66), 3) := by decide +kernel
theorem dX7_greatestLikeness_87 : decode cX7_greatestLikeness 87 = .ok (.iload_n 3, 1) := by decide +kernel
theorem dX7_greatestLikeness_88 : decode cX7_greatestLikeness 88 = .ok (.iload 5, 2) := by decide +kernel
theorem dX7_greatestLikeness_90 : decode cX7_greatestLikeness 90 = .ok (.invokestatic 175, 3) := by decide +kernel
theorem dX7_greatestLikeness_93 : decode cX7_greatestLikeness 93 = .ok (.istore_n 3, 1) := by decide +kernel
theorem dX7_greatestLikeness_94 : decode cX7_greatestLikeness 94 = .ok (.iinc 4 1, 3) := by decide +kernel
theorem dX7_greatestLikeness_97 : decode cX7_greatestLikeness 97 = .ok (.goto (-92), 3) := by decide +kernel
theorem dX7_greatestLikeness_100 : decode cX7_greatestLikeness 100 = .ok (.iload_n 3, 1) := by decide +kernel
theorem dX7_greatestLikeness_101 : decode cX7_greatestLikeness 101 = .ok (.ireturn, 1) := by decide +kernel
set_option maxRecDepth 20000 in
set_option maxHeartbeats 4000000 in
theorem w_X7_greatestLikeness_81 {x : tg_X} {Sf : tg_S} {r : Int32} {rec5 : tg_S → Int32 → Int32 → Int32 → Int32 → Option (tg_S × Int32)} {rec18 : tg_S → Int32 → Int32 → Int32 → Int32 → Int32 → Int32 → Option (tg_S × Int32)} (X : tg_M tauC x cX7_greatestLikeness 8 RX7 zr_X7_greatestLikeness (some .int) Sf (some (.int r))) (hr5 : ∀ (S : tg_S) (v1 : Int32) (v2 : Int32) (v3 : Int32) (v4 : Int32), rec5 S v1 v2 v3 v4 = some (Sf, r) → tg_G tauC x S 5 [(0, .ref (tg_ad x 0)), (1, .int v1), (2, .int v2), (3, .int v3), (4, .int v4)] []) (hr18 : ∀ (S : tg_S) (v1 : Int32) (v2 : Int32) (v3 : Int32) (v4 : Int32) (v5 : Int32) (v6 : Int32), rec18 S v1 v2 v3 v4 v5 v6 = some (Sf, r) → tg_G tauC x S 18 [(0, .ref (tg_ad x 0)), (1, .int v1), (2, .int v2), (3, .int v3), (4, .int v4), (5, .int v5), (6, .int v6)] []) (S : tg_S) (v1 : Int32) (v2 : Int32) (v3 : Int32) (v4 : Int32) (v5 : Int32) (v6 : Int32) (h : f_X7_greatestLikeness_81 rec5 rec18 S v1 v2 v3 v4 v5 v6 = some (Sf, r)) : tg_G tauC x S 81 [(0, .ref (tg_ad x 0)), (1, .int v1), (2, .int v2), (3, .int v3), (4, .int v4), (5, .int v5), (6, .int v6)] [] := by
  unfold f_X7_greatestLikeness_81 at h
  obtain ⟨y1, ey1⟩ : ∃ z : Int32, z = v6 + 1 := ⟨_, rfl⟩
  have h := tg_nmE ey1 h
  refine tg_iinc (lv2 := [(6, .int y1), (0, .ref (tg_ad x 0)), (1, .int v1), (2, .int v2), (3, .int v3), (4, .int v4), (5, .int v5)]) X dX7_greatestLikeness_81 6 rfl tk_i1 ey1 (by decide) rfl ?_
  refine tg_goto (tgt := 18) X dX7_greatestLikeness_84 (by decide) ?_
  refine tg_re [1, 2, 3, 4, 5, 6, 0] rfl ?_
  exact hr18 S v1 v2 v3 v4 v5 y1 h
set_option maxRecDepth 20000 in
set_option maxHeartbeats 4000000 in
theorem w_X7_greatestLikeness_44 {x : tg_X} {Sf : tg_S} {r : Int32} {rec5 : tg_S → Int32 → Int32 → Int32 → Int32 → Option (tg_S × Int32)} {rec18 : tg_S → Int32 → Int32 → Int32 → Int32 → Int32 → Int32 → Option (tg_S × Int32)} (X : tg_M tauC x cX7_greatestLikeness 8 RX7 zr_X7_greatestLikeness (some .int) Sf (some (.int r))) (hr5 : ∀ (S : tg_S) (v1 : Int32) (v2 : Int32) (v3 : Int32) (v4 : Int32), rec5 S v1 v2 v3 v4 = some (Sf, r) → tg_G tauC x S 5 [(0, .ref (tg_ad x 0)), (1, .int v1), (2, .int v2), (3, .int v3), (4, .int v4)] []) (hr18 : ∀ (S : tg_S) (v1 : Int32) (v2 : Int32) (v3 : Int32) (v4 : Int32) (v5 : Int32) (v6 : Int32), rec18 S v1 v2 v3 v4 v5 v6 = some (Sf, r) → tg_G tauC x S 18 [(0, .ref (tg_ad x 0)), (1, .int v1), (2, .int v2), (3, .int v3), (4, .int v4), (5, .int v5), (6, .int v6)] []) (S : tg_S) (v1 : Int32) (v2 : Int32) (v3 : Int32) (v4 : Int32) (v5 : Int32) (v6 : Int32) (s0 : Int32) (h : f_X7_greatestLikeness_44 rec5 rec18 S v1 v2 v3 v4 v5 v6 s0 = some (Sf, r)) : tg_G tauC x S 44 [(0, .ref (tg_ad x 0)), (1, .int v1), (2, .int v2), (3, .int v3), (4, .int v4), (5, .int v5), (6, .int v6)] [.int s0] := by
  unfold f_X7_greatestLikeness_44 at h
  refine tg_istore (lv2 := [(7, .int s0), (0, .ref (tg_ad x 0)), (1, .int v1), (2, .int v2), (3, .int v3), (4, .int v4), (5, .int v5), (6, .int v6)]) X dX7_greatestLikeness_44 (by decide) rfl ?_
  refine tg_iload X dX7_greatestLikeness_46 0 rfl ?_
  refine tg_if_eq (tgt := 81) X dX7_greatestLikeness_48 (by decide) (fun c1 => ?_) (fun c1 => ?_)
  · have h := tg_ifT c1 h
    refine tg_re [1, 2, 3, 4, 5, 6, 7] rfl ?_
    exact w_X7_greatestLikeness_81 X hr5 hr18 S v1 v2 v3 v4 v5 v6 h
  · have h := tg_ifF c1 h
    refine tg_aload_n X dX7_greatestLikeness_51 rfl 1 rfl ?_
    refine tg_getr X 0 rfl cl_X7 9 (by decide) rfl wf_X7_61 dX7_greatestLikeness_52 ?_
    refine tg_iload X dX7_greatestLikeness_55 5 rfl ?_
    refine tg_bipush X dX7_greatestLikeness_57 tk_b24 ?_
    refine tg_imul X dX7_greatestLikeness_59 ?_
    refine tg_iload_n X dX7_greatestLikeness_60 rfl 3 rfl ?_
    refine tg_iadd X dX7_greatestLikeness_61 ?_
    obtain ⟨y2, ey2, by2, h⟩ := tg_rdE h
    refine tg_iald X 50 rfl ey2 by2 dX7_greatestLikeness_62 ?_
    refine tg_aload_n X dX7_greatestLikeness_63 rfl 1 rfl ?_
    refine tg_getr X 0 rfl cl_X7 9 (by decide) rfl wf_X7_61 dX7_greatestLikeness_64 ?_
    refine tg_iload X dX7_greatestLikeness_67 7 rfl ?_
    refine tg_bipush X dX7_greatestLikeness_69 tk_b24 ?_
    refine tg_imul X dX7_greatestLikeness_71 ?_
    refine tg_iload_n X dX7_greatestLikeness_72 rfl 3 rfl ?_
    refine tg_iadd X dX7_greatestLikeness_73 ?_
    obtain ⟨y3, ey3, by3, h⟩ := tg_rdE h
    refine tg_iald X 50 rfl ey3 by3 dX7_greatestLikeness_74 ?_
    refine tg_icmp_ne (tgt := 81) X dX7_greatestLikeness_75 (by decide) (fun c4 => ?_) (fun c4 => ?_)
    · have h := tg_ifF c4 h
      refine tg_re [1, 2, 3, 4, 5, 6, 7] rfl ?_
      exact w_X7_greatestLikeness_81 X hr5 hr18 S v1 v2 v3 v4 v5 v6 h
    · have h := tg_ifT c4 h
      obtain ⟨y5, ey5⟩ : ∃ z : Int32, z = v5 + 1 := ⟨_, rfl⟩
      have h := tg_nmE ey5 h
      refine tg_iinc (lv2 := [(5, .int y5), (7, .int s0), (0, .ref (tg_ad x 0)), (1, .int v1), (2, .int v2), (3, .int v3), (4, .int v4), (6, .int v6)]) X dX7_greatestLikeness_78 6 rfl tk_i1 ey5 (by decide) rfl ?_
      refine tg_re [2, 3, 4, 5, 6, 0, 7] rfl ?_
      exact w_X7_greatestLikeness_81 X hr5 hr18 S v1 v2 v3 v4 y5 v6 h
set_option maxRecDepth 20000 in
set_option maxHeartbeats 4000000 in
theorem w_X7_greatestLikeness_18 {x : tg_X} {Sf : tg_S} {r : Int32} {rec5 : tg_S → Int32 → Int32 → Int32 → Int32 → Option (tg_S × Int32)} {rec18 : tg_S → Int32 → Int32 → Int32 → Int32 → Int32 → Int32 → Option (tg_S × Int32)} (X : tg_M tauC x cX7_greatestLikeness 8 RX7 zr_X7_greatestLikeness (some .int) Sf (some (.int r))) (hr5 : ∀ (S : tg_S) (v1 : Int32) (v2 : Int32) (v3 : Int32) (v4 : Int32), rec5 S v1 v2 v3 v4 = some (Sf, r) → tg_G tauC x S 5 [(0, .ref (tg_ad x 0)), (1, .int v1), (2, .int v2), (3, .int v3), (4, .int v4)] []) (hr18 : ∀ (S : tg_S) (v1 : Int32) (v2 : Int32) (v3 : Int32) (v4 : Int32) (v5 : Int32) (v6 : Int32), rec18 S v1 v2 v3 v4 v5 v6 = some (Sf, r) → tg_G tauC x S 18 [(0, .ref (tg_ad x 0)), (1, .int v1), (2, .int v2), (3, .int v3), (4, .int v4), (5, .int v5), (6, .int v6)] []) (S : tg_S) (v1 : Int32) (v2 : Int32) (v3 : Int32) (v4 : Int32) (v5 : Int32) (v6 : Int32) (h : f_X7_greatestLikeness_18 rec5 rec18 S v1 v2 v3 v4 v5 v6 = some (Sf, r)) : tg_G tauC x S 18 [(0, .ref (tg_ad x 0)), (1, .int v1), (2, .int v2), (3, .int v3), (4, .int v4), (5, .int v5), (6, .int v6)] [] := by
  unfold f_X7_greatestLikeness_18 at h
  refine tg_iload X dX7_greatestLikeness_18 6 rfl ?_
  refine tg_bipush X dX7_greatestLikeness_20 tk_b9 ?_
  refine tg_icmp_gt (tgt := 87) X dX7_greatestLikeness_22 (by decide) (fun c1 => ?_) (fun c1 => ?_)
  · have h := tg_ifT c1 h
    refine tg_iload_n X dX7_greatestLikeness_87 rfl 3 rfl ?_
    refine tg_iload X dX7_greatestLikeness_88 5 rfl ?_
    refine tg_mmax X ⟨wm_X7_175, wt_Mmax, wi_Math, wc_Mmax⟩ ⟨Nat.le_of_ble_eq_true rfl, Nat.le_of_ble_eq_true rfl⟩ dX7_greatestLikeness_90 ?_
    refine tg_topi (fun y2 ey2 => ?_)
    have h := tg_nmE ey2 h
    refine tg_istore_n (lv2 := [(3, .int y2), (0, .ref (tg_ad x 0)), (1, .int v1), (2, .int v2), (4, .int v4), (5, .int v5), (6, .int v6)]) X dX7_greatestLikeness_93 rfl (by decide) rfl ?_
    obtain ⟨y3, ey3⟩ : ∃ z : Int32, z = v4 + 1 := ⟨_, rfl⟩
    have h := tg_nmE ey3 h
    refine tg_iinc (lv2 := [(4, .int y3), (3, .int y2), (0, .ref (tg_ad x 0)), (1, .int v1), (2, .int v2), (5, .int v5), (6, .int v6)]) X dX7_greatestLikeness_94 4 rfl tk_i1 ey3 (by decide) rfl ?_
    refine tg_goto (tgt := 5) X dX7_greatestLikeness_97 (by decide) ?_
    refine tg_re [2, 3, 4, 1, 0] rfl ?_
    exact hr5 S v1 v2 y2 y3 h
  · have h := tg_ifF c1 h
    refine tg_iload_n X dX7_greatestLikeness_25 rfl 1 rfl ?_
    refine tg_iload X dX7_greatestLikeness_26 4 rfl ?_
    refine tg_ishr X dX7_greatestLikeness_28 ?_
    refine tg_iload_n X dX7_greatestLikeness_29 rfl 1 rfl ?_
    refine tg_iload X dX7_greatestLikeness_30 6 rfl ?_
    refine tg_ishr X dX7_greatestLikeness_32 ?_
    refine tg_iand X dX7_greatestLikeness_33 ?_
    refine tg_iconst X dX7_greatestLikeness_34 tk_i1 ?_
    refine tg_iand X dX7_greatestLikeness_35 ?_
    refine tg_if_eq (tgt := 43) X dX7_greatestLikeness_36 (by decide) (fun c4 => ?_) (fun c4 => ?_)
    · rw [if_pos c4] at h
      refine tg_iconst X dX7_greatestLikeness_43 tk_i0 ?_
      exact w_X7_greatestLikeness_44 X hr5 hr18 S v1 v2 v3 v4 v5 v6 0 h
    · rw [if_neg c4] at h
      refine tg_iconst X dX7_greatestLikeness_39 tk_i1 ?_
      refine tg_goto (tgt := 44) X dX7_greatestLikeness_40 (by decide) ?_
      exact w_X7_greatestLikeness_44 X hr5 hr18 S v1 v2 v3 v4 v5 v6 1 h
theorem wl_X7_greatestLikeness_18 {x : tg_X} {Sf : tg_S} {r : Int32} {rec5 : tg_S → Int32 → Int32 → Int32 → Int32 → Option (tg_S × Int32)} (X : tg_M tauC x cX7_greatestLikeness 8 RX7 zr_X7_greatestLikeness (some .int) Sf (some (.int r))) (hr5 : ∀ (S : tg_S) (v1 : Int32) (v2 : Int32) (v3 : Int32) (v4 : Int32), rec5 S v1 v2 v3 v4 = some (Sf, r) → tg_G tauC x S 5 [(0, .ref (tg_ad x 0)), (1, .int v1), (2, .int v2), (3, .int v3), (4, .int v4)] []) : ∀ (n : Nat) (S : tg_S) (v1 : Int32) (v2 : Int32) (v3 : Int32) (v4 : Int32) (v5 : Int32) (v6 : Int32) (h : L_X7_greatestLikeness_18 rec5 n S v1 v2 v3 v4 v5 v6 = some (Sf, r)), tg_G tauC x S 18 [(0, .ref (tg_ad x 0)), (1, .int v1), (2, .int v2), (3, .int v3), (4, .int v4), (5, .int v5), (6, .int v6)] [] := by
  intro n
  induction n with
  | zero => intro S v1 v2 v3 v4 v5 v6 h; cases h
  | succ n ih => intro S v1 v2 v3 v4 v5 v6 h; exact w_X7_greatestLikeness_18 X hr5 ih S v1 v2 v3 v4 v5 v6 h
set_option maxRecDepth 20000 in
set_option maxHeartbeats 4000000 in
theorem w_X7_greatestLikeness_5 {x : tg_X} {Sf : tg_S} {r : Int32} {rec5 : tg_S → Int32 → Int32 → Int32 → Int32 → Option (tg_S × Int32)} (X : tg_M tauC x cX7_greatestLikeness 8 RX7 zr_X7_greatestLikeness (some .int) Sf (some (.int r))) (hr5 : ∀ (S : tg_S) (v1 : Int32) (v2 : Int32) (v3 : Int32) (v4 : Int32), rec5 S v1 v2 v3 v4 = some (Sf, r) → tg_G tauC x S 5 [(0, .ref (tg_ad x 0)), (1, .int v1), (2, .int v2), (3, .int v3), (4, .int v4)] []) (S : tg_S) (v1 : Int32) (v2 : Int32) (v3 : Int32) (v4 : Int32) (h : f_X7_greatestLikeness_5 rec5 S v1 v2 v3 v4 = some (Sf, r)) : tg_G tauC x S 5 [(0, .ref (tg_ad x 0)), (1, .int v1), (2, .int v2), (3, .int v3), (4, .int v4)] [] := by
  unfold f_X7_greatestLikeness_5 at h
  refine tg_iload X dX7_greatestLikeness_5 4 rfl ?_
  refine tg_bipush X dX7_greatestLikeness_7 tk_b9 ?_
  refine tg_icmp_gt (tgt := 100) X dX7_greatestLikeness_9 (by decide) (fun c1 => ?_) (fun c1 => ?_)
  · have h := tg_ifT c1 h
    refine tg_iload_n X dX7_greatestLikeness_100 rfl 3 rfl ?_
    exact tg_iret X h rfl dX7_greatestLikeness_101
  · have h := tg_ifF c1 h
    refine tg_iconst X dX7_greatestLikeness_12 tk_i0 ?_
    refine tg_istore (lv2 := [(5, .int 0), (0, .ref (tg_ad x 0)), (1, .int v1), (2, .int v2), (3, .int v3), (4, .int v4)]) X dX7_greatestLikeness_13 (by decide) rfl ?_
    refine tg_iconst X dX7_greatestLikeness_15 tk_i1 ?_
    refine tg_istore (lv2 := [(6, .int 1), (5, .int 0), (0, .ref (tg_ad x 0)), (1, .int v1), (2, .int v2), (3, .int v3), (4, .int v4)]) X dX7_greatestLikeness_16 (by decide) rfl ?_
    refine tg_re [2, 3, 4, 5, 6, 1, 0] rfl ?_
    exact wl_X7_greatestLikeness_18 X hr5 tg_F S v1 v2 v3 v4 0 1 h
theorem wl_X7_greatestLikeness_5 {x : tg_X} {Sf : tg_S} {r : Int32} (X : tg_M tauC x cX7_greatestLikeness 8 RX7 zr_X7_greatestLikeness (some .int) Sf (some (.int r))) : ∀ (n : Nat) (S : tg_S) (v1 : Int32) (v2 : Int32) (v3 : Int32) (v4 : Int32) (h : L_X7_greatestLikeness_5  n S v1 v2 v3 v4 = some (Sf, r)), tg_G tauC x S 5 [(0, .ref (tg_ad x 0)), (1, .int v1), (2, .int v2), (3, .int v3), (4, .int v4)] [] := by
  intro n
  induction n with
  | zero => intro S v1 v2 v3 v4 h; cases h
  | succ n ih => intro S v1 v2 v3 v4 h; exact w_X7_greatestLikeness_5 X  ih S v1 v2 v3 v4 h
set_option maxRecDepth 20000 in
set_option maxHeartbeats 4000000 in
theorem w_X7_greatestLikeness_0 {x : tg_X} {Sf : tg_S} {r : Int32} (X : tg_M tauC x cX7_greatestLikeness 8 RX7 zr_X7_greatestLikeness (some .int) Sf (some (.int r))) (S : tg_S) (v1 : Int32) (v2 : Int32) (h : f_X7_greatestLikeness  S v1 v2 = some (Sf, r)) : tg_G tauC x S 0 [(0, .ref (tg_ad x 0)), (1, .int v1), (2, .int v2)] [] := by
  unfold f_X7_greatestLikeness at h
  refine tg_iconst X dX7_greatestLikeness_0 tk_i0 ?_
  refine tg_istore_n (lv2 := [(3, .int 0), (0, .ref (tg_ad x 0)), (1, .int v1), (2, .int v2)]) X dX7_greatestLikeness_1 rfl (by decide) rfl ?_
  refine tg_iconst X dX7_greatestLikeness_2 tk_i1 ?_
  refine tg_istore (lv2 := [(4, .int 1), (3, .int 0), (0, .ref (tg_ad x 0)), (1, .int v1), (2, .int v2)]) X dX7_greatestLikeness_3 (by decide) rfl ?_
  refine tg_re [2, 3, 4, 1, 0] rfl ?_
  exact wl_X7_greatestLikeness_5 X  tg_F S v1 v2 0 1 h
theorem cm_X7_greatestLikeness (l : Launch) (D : va_G) (cy : Bool → ClassId) (ad : Nat → Nat) (tS : Nat) {S Sf : tg_S} {v1 : Int32} {v2 : Int32} {r : Int32} (h : f_X7_greatestLikeness  S v1 v2 = some (Sf, r)) : tg_Met l yX7_greatestLikeness cX7_greatestLikeness 8 (some .int) zr_X7_greatestLikeness tauC D cy ad tS S [.ref (ad 0), .int v1, .int v2] Sf (some (.int r)) := tg_mk (by decide +kernel) trivial (Nat.le_of_ble_eq_true rfl) (fun p e s m args below meth c Q A X => w_X7_greatestLikeness_0 X S v1 v2 h)
-- X7_ask
def zr_X7_ask : Room := { frames := 5, cells := 0, slots := 0, locals := 120 }
theorem dX7_ask_0 : decode cX7_ask 0 = .ok (.aload_n 0, 1) := by decide +kernel
theorem dX7_ask_1 : decode cX7_ask 1 = .ok (.iload_n 1, 1) := by decide +kernel
theorem dX7_ask_2 : decode cX7_ask 2 = .ok (.invokevirtual 100, 3) := by decide +kernel
theorem dX7_ask_5 : decode cX7_ask 5 = .ok (.ifCond .ne 6, 3) := by decide +kernel
theorem dX7_ask_8 : decode cX7_ask 8 = .ok (.bipush (-2), 2) := by decide +kernel
theorem dX7_ask_10 : decode cX7_ask 10 = .ok (.ireturn, 1) := by decide +kernel
theorem dX7_ask_11 : decode cX7_ask 11 = .ok (.aload_n 0, 1) := by decide +kernel
theorem dX7_ask_12 : decode cX7_ask 12 = .ok (.iload_n 1, 1) := by decide +kernel
theorem dX7_ask_13 : decode cX7_ask 13 = .ok (.invokevirtual 233, 3) := by decide +kernel
theorem dX7_ask_16 : decode cX7_ask 16 = .ok (.istore_n 2, 1) := by decide +kernel
theorem dX7_ask_17 : decode cX7_ask 17 = .ok (.iconst 0, 1) := by decide +kernel
theorem dX7_ask_18 : decode cX7_ask 18 = .ok (.istore_n 3, 1) := by decide +kernel
theorem dX7_ask_19 : decode cX7_ask 19 = .ok (.aload_n 0, 1) := by decide +kernel
theorem dX7_ask_20 : decode cX7_ask 20 = .ok (.iload_n 2, 1) := by decide +kernel
theorem dX7_ask_21 : decode cX7_ask 21 = .ok (.iconst 0, 1) := by decide +kernel
theorem dX7_ask_22 : decode cX7_ask 22 = .ok (.invokevirtual 239, 3) := by decide +kernel
theorem dX7_ask_25 : decode cX7_ask 25 = .ok (.istore 4, 2) := by decide +kernel
theorem dX7_ask_27 : decode cX7_ask 27 = .ok (.iconst 1, 1) := by decide +kernel
theorem dX7_ask_28 : decode cX7_ask 28 = .ok (.istore 5, 2) := by decide +kernel
theorem dX7_ask_30 : decode cX7_ask 30 = .ok (.iload 5, 2) := by decide +kernel
theorem dX7_ask_32 : decode cX7_ask 32 = .ok (.bipush 24, 2) := by decide +kernel
theorem dX7_ask_34 : decode cX7_ask 34 = .ok (.if_icmp .ge 32, 3) := by decide +kernel
theorem dX7_ask_37 : decode cX7_ask 37 = .ok (.aload_n 0, 1) := by decide +kernel
theorem dX7_ask_38 : decode cX7_ask 38 = .ok (.iload_n 2, 1) := by decide +kernel
theorem dX7_ask_39 : decode cX7_ask 39 = .ok (.iload 5, 2) := by decide +kernel
theorem dX7_ask_41 : decode cX7_ask 41 = .ok (.invokevirtual 239, 3) := by decide +kernel
theorem dX7_ask_44 : decode cX7_ask 44 = .ok (.istore 6, 2) := by decide +kernel
theorem dX7_ask_46 : decode cX7_ask 46 = .ok (.iload 6, 2) := by decide +kernel
theorem dX7_ask_48 : decode cX7_ask 48 = .ok (.iload 4, 2) := by decide +kernel
theorem dX7_ask_50 : decode cX7_ask 50 = .ok (.if_icmp .ge 10, 3) := by decide +kernel
theorem dX7_ask_53 : decode cX7_ask 53 = .ok (.iload 5, 2) := by decide +kernel
theorem dX7_ask_55 : decode cX7_ask 55 = .ok (.istore_n 3, 1) := by decide +kernel
theorem dX7_ask_56 : decode cX7_ask 56 = .ok (.iload 6, 2) := by decide +kernel
theorem dX7_ask_58 : decode cX7_ask 58 = .ok (.istore 4, 2) := by decide +kernel
theorem dX7_ask_60 : decode cX7_ask 60 = .ok (.iinc 5 1, 3) := by decide +kernel
theorem dX7_ask_63 : decode cX7_ask 63 = .ok (.goto (-33), 3) := by decide +kernel
theorem dX7_ask_66 : decode cX7_ask 66 = .ok (.iload_n 3, 1) := by decide +kernel
theorem dX7_ask_67 : decode cX7_ask 67 = .ok (.ireturn, 1) := by decide +kernel
set_option maxRecDepth 20000 in
set_option maxHeartbeats 4000000 in
theorem w_X7_ask_60 {x : tg_X} {Sf : tg_S} {r : Int32} {rec30 : tg_S → Int32 → Int32 → Int32 → Int32 → Option (tg_S × Int32)} (X : tg_M tauC x cX7_ask 7 RX7 zr_X7_ask (some .int) Sf (some (.int r))) (hr30 : ∀ (S : tg_S) (v2 : Int32) (v3 : Int32) (v4 : Int32) (v5 : Int32), rec30 S v2 v3 v4 v5 = some (Sf, r) → tg_G tauC x S 30 [(0, .ref (tg_ad x 0)), (2, .int v2), (3, .int v3), (4, .int v4), (5, .int v5)] []) (S : tg_S) (v2 : Int32) (v3 : Int32) (v4 : Int32) (v5 : Int32) (h : f_X7_ask_60 rec30 S v2 v3 v4 v5 = some (Sf, r)) : tg_G tauC x S 60 [(0, .ref (tg_ad x 0)), (2, .int v2), (3, .int v3), (4, .int v4), (5, .int v5)] [] := by
  unfold f_X7_ask_60 at h
  obtain ⟨y1, ey1⟩ : ∃ z : Int32, z = v5 + 1 := ⟨_, rfl⟩
  have h := tg_nmE ey1 h
  refine tg_iinc (lv2 := [(5, .int y1), (0, .ref (tg_ad x 0)), (2, .int v2), (3, .int v3), (4, .int v4)]) X dX7_ask_60 4 rfl tk_i1 ey1 (by decide) rfl ?_
  refine tg_goto (tgt := 30) X dX7_ask_63 (by decide) ?_
  refine tg_re [1, 2, 3, 4, 0] rfl ?_
  exact hr30 S v2 v3 v4 y1 h
set_option maxRecDepth 20000 in
set_option maxHeartbeats 4000000 in
theorem w_X7_ask_30 {x : tg_X} {Sf : tg_S} {r : Int32} {rec30 : tg_S → Int32 → Int32 → Int32 → Int32 → Option (tg_S × Int32)} (X : tg_M tauC x cX7_ask 7 RX7 zr_X7_ask (some .int) Sf (some (.int r))) (hr30 : ∀ (S : tg_S) (v2 : Int32) (v3 : Int32) (v4 : Int32) (v5 : Int32), rec30 S v2 v3 v4 v5 = some (Sf, r) → tg_G tauC x S 30 [(0, .ref (tg_ad x 0)), (2, .int v2), (3, .int v3), (4, .int v4), (5, .int v5)] []) (S : tg_S) (v2 : Int32) (v3 : Int32) (v4 : Int32) (v5 : Int32) (h : f_X7_ask_30 rec30 S v2 v3 v4 v5 = some (Sf, r)) : tg_G tauC x S 30 [(0, .ref (tg_ad x 0)), (2, .int v2), (3, .int v3), (4, .int v4), (5, .int v5)] [] := by
  unfold f_X7_ask_30 at h
  refine tg_iload X dX7_ask_30 4 rfl ?_
  refine tg_bipush X dX7_ask_32 tk_b24 ?_
  refine tg_icmp_ge (tgt := 66) X dX7_ask_34 (by decide) (fun c1 => ?_) (fun c1 => ?_)
  · have h := tg_ifT c1 h
    refine tg_iload_n X dX7_ask_66 rfl 2 rfl ?_
    exact tg_iret X h rfl dX7_ask_67
  · have h := tg_ifF c1 h
    refine tg_aload_n X dX7_ask_37 rfl 0 rfl ?_
    refine tg_iload_n X dX7_ask_38 rfl 1 rfl ?_
    refine tg_iload X dX7_ask_39 4 rfl ?_
    obtain ⟨S2, r3, kS2, h⟩ := tg_bdE h
    refine tg_callV (As := [.int v2, .int v5]) (rest := []) X 0 (cm_X7_greatestLikeness _ _ _ _ _ kS2) yy_X7_greatestLikeness wv_X7_greatestLikeness ws_X7_greatestLikeness wm_X7_239 rfl cl_X7.1 ⟨rfl, rfl, Nat.le_of_ble_eq_true rfl, Nat.le_of_ble_eq_true rfl⟩ rfl rfl (Nat.le_of_ble_eq_true rfl) dX7_ask_41 rfl ?_
    refine tg_istore (lv2 := [(6, .int r3), (0, .ref (tg_ad x 0)), (2, .int v2), (3, .int v3), (4, .int v4), (5, .int v5)]) X dX7_ask_44 (by decide) rfl ?_
    refine tg_iload X dX7_ask_46 0 rfl ?_
    refine tg_iload X dX7_ask_48 4 rfl ?_
    refine tg_icmp_ge (tgt := 60) X dX7_ask_50 (by decide) (fun c4 => ?_) (fun c4 => ?_)
    · simp only [if_pos c4] at h
      refine tg_re [1, 2, 3, 4, 5] rfl ?_
      exact w_X7_ask_60 X hr30 S2 v2 v3 v4 v5 h
    · simp only [if_neg c4] at h
      refine tg_iload X dX7_ask_53 5 rfl ?_
      refine tg_istore_n (lv2 := [(3, .int v5), (6, .int r3), (0, .ref (tg_ad x 0)), (2, .int v2), (4, .int v4), (5, .int v5)]) X dX7_ask_55 rfl (by decide) rfl ?_
      refine tg_iload X dX7_ask_56 1 rfl ?_
      refine tg_istore (lv2 := [(4, .int r3), (3, .int v5), (6, .int r3), (0, .ref (tg_ad x 0)), (2, .int v2), (5, .int v5)]) X dX7_ask_58 (by decide) rfl ?_
      refine tg_re [3, 4, 1, 0, 5] rfl ?_
      exact w_X7_ask_60 X hr30 S2 v2 v5 r3 v5 h
theorem wl_X7_ask_30 {x : tg_X} {Sf : tg_S} {r : Int32} (X : tg_M tauC x cX7_ask 7 RX7 zr_X7_ask (some .int) Sf (some (.int r))) : ∀ (n : Nat) (S : tg_S) (v2 : Int32) (v3 : Int32) (v4 : Int32) (v5 : Int32) (h : L_X7_ask_30  n S v2 v3 v4 v5 = some (Sf, r)), tg_G tauC x S 30 [(0, .ref (tg_ad x 0)), (2, .int v2), (3, .int v3), (4, .int v4), (5, .int v5)] [] := by
  intro n
  induction n with
  | zero => intro S v2 v3 v4 v5 h; cases h
  | succ n ih => intro S v2 v3 v4 v5 h; exact w_X7_ask_30 X  ih S v2 v3 v4 v5 h
set_option maxRecDepth 20000 in
set_option maxHeartbeats 4000000 in
theorem w_X7_ask_0 {x : tg_X} {Sf : tg_S} {r : Int32} (X : tg_M tauC x cX7_ask 7 RX7 zr_X7_ask (some .int) Sf (some (.int r))) (S : tg_S) (v1 : Int32) (h : f_X7_ask  S v1 = some (Sf, r)) : tg_G tauC x S 0 [(0, .ref (tg_ad x 0)), (1, .int v1)] [] := by
  unfold f_X7_ask at h
  refine tg_aload_n X dX7_ask_0 rfl 0 rfl ?_
  refine tg_iload_n X dX7_ask_1 rfl 1 rfl ?_
  obtain ⟨S1, r2, kS1, h⟩ := tg_bdE h
  refine tg_callV (As := [.int v1]) (rest := []) X 0 (cm_X7_isPuller _ _ _ _ _ kS1) yy_X7_isPuller wv_X7_isPuller ws_X7_isPuller wm_X7_100 rfl cl_X7.1 ⟨rfl, rfl, Nat.le_of_ble_eq_true rfl, Nat.le_of_ble_eq_true rfl⟩ rfl rfl (Nat.le_of_ble_eq_true rfl) dX7_ask_2 rfl ?_
  refine tg_if_ne (tgt := 11) X dX7_ask_5 (by decide) (fun c3 => ?_) (fun c3 => ?_)
  · have h := tg_ifF c3 h
    refine tg_aload_n X dX7_ask_11 rfl 0 rfl ?_
    refine tg_iload_n X dX7_ask_12 rfl 1 rfl ?_
    obtain ⟨S4, r5, kS4, h⟩ := tg_bdE h
    refine tg_callV (As := [.int v1]) (rest := []) X 0 (cm_X7_weightsThatFit _ _ _ _ _ kS4) yy_X7_weightsThatFit wv_X7_weightsThatFit ws_X7_weightsThatFit wm_X7_233 rfl cl_X7.1 ⟨rfl, rfl, Nat.le_of_ble_eq_true rfl, Nat.le_of_ble_eq_true rfl⟩ rfl rfl (Nat.le_of_ble_eq_true rfl) dX7_ask_13 rfl ?_
    refine tg_istore_n (lv2 := [(2, .int r5), (0, .ref (tg_ad x 0)), (1, .int v1)]) X dX7_ask_16 rfl (by decide) rfl ?_
    refine tg_iconst X dX7_ask_17 tk_i0 ?_
    refine tg_istore_n (lv2 := [(3, .int 0), (2, .int r5), (0, .ref (tg_ad x 0)), (1, .int v1)]) X dX7_ask_18 rfl (by decide) rfl ?_
    refine tg_aload_n X dX7_ask_19 rfl 2 rfl ?_
    refine tg_iload_n X dX7_ask_20 rfl 1 rfl ?_
    refine tg_iconst X dX7_ask_21 tk_i0 ?_
    obtain ⟨S6, r7, kS6, h⟩ := tg_bdE h
    refine tg_callV (As := [.int r5, .int 0]) (rest := []) X 0 (cm_X7_greatestLikeness _ _ _ _ _ kS6) yy_X7_greatestLikeness wv_X7_greatestLikeness ws_X7_greatestLikeness wm_X7_239 rfl cl_X7.1 ⟨rfl, rfl, Nat.le_of_ble_eq_true rfl, Nat.le_of_ble_eq_true rfl⟩ rfl rfl (Nat.le_of_ble_eq_true rfl) dX7_ask_22 rfl ?_
    refine tg_istore (lv2 := [(4, .int r7), (3, .int 0), (2, .int r5), (0, .ref (tg_ad x 0)), (1, .int v1)]) X dX7_ask_25 (by decide) rfl ?_
    refine tg_iconst X dX7_ask_27 tk_i1 ?_
    refine tg_istore (lv2 := [(5, .int 1), (4, .int r7), (3, .int 0), (2, .int r5), (0, .ref (tg_ad x 0)), (1, .int v1)]) X dX7_ask_28 (by decide) rfl ?_
    refine tg_re [4, 3, 2, 1, 0] rfl ?_
    exact wl_X7_ask_30 X  tg_F S6 r5 0 r7 1 h
  · have h := tg_ifT c3 h
    refine tg_bipush X dX7_ask_8 tk_bm2 ?_
    exact tg_iret X h rfl dX7_ask_10
theorem cm_X7_ask (l : Launch) (D : va_G) (cy : Bool → ClassId) (ad : Nat → Nat) (tS : Nat) {S Sf : tg_S} {v1 : Int32} {r : Int32} (h : f_X7_ask  S v1 = some (Sf, r)) : tg_Met l yX7_ask cX7_ask 7 (some .int) zr_X7_ask tauC D cy ad tS S [.ref (ad 0), .int v1] Sf (some (.int r)) := tg_mk (by decide +kernel) trivial (Nat.le_of_ble_eq_true rfl) (fun p e s m args below meth c Q A X => w_X7_ask_0 X S v1 h)
-- X7_refreshWinners
def zr_X7_refreshWinners : Room := { frames := 4, cells := 0, slots := 0, locals := 96 }
theorem dX7_refreshWinners_0 : decode cX7_refreshWinners 0 = .ok (.aload_n 0, 1) := by decide +kernel
theorem dX7_refreshWinners_1 : decode cX7_refreshWinners 1 = .ok (.getfield 68, 3) := by decide +kernel
theorem dX7_refreshWinners_4 : decode cX7_refreshWinners 4 = .ok (.ifCond .ne 79, 3) := by decide +kernel
theorem dX7_refreshWinners_7 : decode cX7_refreshWinners 7 = .ok (.aload_n 0, 1) := by decide +kernel
theorem dX7_refreshWinners_8 : decode cX7_refreshWinners 8 = .ok (.getfield 48, 3) := by decide +kernel
theorem dX7_refreshWinners_11 : decode cX7_refreshWinners 11 = .ok (.aload_n 0, 1) := by decide +kernel
theorem dX7_refreshWinners_12 : decode cX7_refreshWinners 12 = .ok (.getfield 37, 3) := by decide +kernel
theorem dX7_refreshWinners_15 : decode cX7_refreshWinners 15 = .ok (.invokevirtual 190, 3) := by decide +kernel
theorem dX7_refreshWinners_18 : decode cX7_refreshWinners 18 = .ok (.iconst 0, 1) := by decide +kernel
theorem dX7_refreshWinners_19 : decode cX7_refreshWinners 19 = .ok (.istore_n 1, 1) := by decide +kernel
theorem dX7_refreshWinners_20 : decode cX7_refreshWinners 20 = .ok (.iload_n 1, 1) := by decide +kernel
theorem dX7_refreshWinners_21 : decode cX7_refreshWinners 21 = .ok (.iconst 1, 1) := by decide +kernel
theorem dX7_refreshWinners_22 : decode cX7_refreshWinners 22 = .ok (.aload_n 0, 1) := by decide +kernel
theorem dX7_refreshWinners_23 : decode cX7_refreshWinners 23 = .ok (.getfield 48, 3) := by decide +kernel
theorem dX7_refreshWinners_26 : decode cX7_refreshWinners 26 = .ok (.getfield 127, 3) := by decide +kernel
theorem dX7_refreshWinners_29 : decode cX7_refreshWinners 29 = .ok (.getfield 131, 3) := by decide +kernel
theorem dX7_refreshWinners_32 : decode cX7_refreshWinners 32 = .ok (.ishl, 1) := by decide +kernel
theorem dX7_refreshWinners_33 : decode cX7_refreshWinners 33 = .ok (.if_icmp .ge 45, 3) := by decide +kernel
theorem dX7_refreshWinners_36 : decode cX7_refreshWinners 36 = .ok (.aload_n 0, 1) := by decide +kernel
theorem dX7_refreshWinners_37 : decode cX7_refreshWinners 37 = .ok (.getfield 48, 3) := by decide +kernel
theorem dX7_refreshWinners_40 : decode cX7_refreshWinners 40 = .ok (.getfield 127, 3) := by decide +kernel
theorem dX7_refreshWinners_43 : decode cX7_refreshWinners 43 = .ok (.iload_n 1, 1) := by decide +kernel
theorem dX7_refreshWinners_44 : decode cX7_refreshWinners 44 = .ok (.putfield 226, 3) := by decide +kernel
theorem dX7_refreshWinners_47 : decode cX7_refreshWinners 47 = .ok (.aload_n 0, 1) := by decide +kernel
theorem dX7_refreshWinners_48 : decode cX7_refreshWinners 48 = .ok (.getfield 51, 3) := by decide +kernel
theorem dX7_refreshWinners_51 : decode cX7_refreshWinners 51 = .ok (.aload_n 0, 1) := by decide +kernel
theorem dX7_refreshWinners_52 : decode cX7_refreshWinners 52 = .ok (.getfield 48, 3) := by decide +kernel
theorem dX7_refreshWinners_55 : decode cX7_refreshWinners 55 = .ok (.invokevirtual 198, 3) := by decide +kernel
theorem dX7_refreshWinners_58 : decode cX7_refreshWinners 58 = .ok (.pop, 1) := by decide +kernel
theorem dX7_refreshWinners_59 : decode cX7_refreshWinners 59 = .ok (.aload_n 0, 1) := by decide +kernel
theorem dX7_refreshWinners_60 : decode cX7_refreshWinners 60 = .ok (.getfield 65, 3) := by decide +kernel
theorem dX7_refreshWinners_63 : decode cX7_refreshWinners 63 = .ok (.iload_n 1, 1) := by decide +kernel
theorem dX7_refreshWinners_64 : decode cX7_refreshWinners 64 = .ok (.aload_n 0, 1) := by decide +kernel
theorem dX7_refreshWinners_65 : decode cX7_refreshWinners 65 = .ok (.getfield 51, 3) := by decide +kernel
theorem dX7_refreshWinners_68 : decode cX7_refreshWinners 68 = .ok (.getfield 169, 3) := by decide +kernel
theorem dX7_refreshWinners_71 : decode cX7_refreshWinners 71 = .ok (.iastore, 1) := by decide +kernel
theorem dX7_refreshWinners_72 : decode cX7_refreshWinners 72 = .ok (.iinc 1 1, 3) := by decide +kernel
theorem dX7_refreshWinners_75 : decode cX7_refreshWinners 75 = .ok (.goto (-55), 3) := by decide +kernel
theorem dX7_refreshWinners_78 : decode cX7_refreshWinners 78 = .ok (.aload_n 0, 1) := by decide +kernel
theorem dX7_refreshWinners_79 : decode cX7_refreshWinners 79 = .ok (.iconst 1, 1) := by decide +kernel
theorem dX7_refreshWinners_80 : decode cX7_refreshWinners 80 = .ok (.putfield 68, 3) := by decide +kernel
theorem dX7_refreshWinners_83 : decode cX7_refreshWinners 83 = .ok (.return_, 1) := by decide +kernel
set_option maxRecDepth 20000 in
set_option maxHeartbeats 4000000 in
theorem w_X7_refreshWinners_20 {x : tg_X} {Sf : tg_S} {rec20 : tg_S → Int32 → Option (tg_S)} (X : tg_M tauC x cX7_refreshWinners 2 RX7 zr_X7_refreshWinners none Sf none) (hr20 : ∀ (S : tg_S) (v1 : Int32), rec20 S v1 = some Sf → tg_G tauC x S 20 [(0, .ref (tg_ad x 0)), (1, .int v1)] []) (S : tg_S) (v1 : Int32) (h : f_X7_refreshWinners_20 rec20 S v1 = some Sf) : tg_G tauC x S 20 [(0, .ref (tg_ad x 0)), (1, .int v1)] [] := by
  unfold f_X7_refreshWinners_20 at h
  refine tg_iload_n X dX7_refreshWinners_20 rfl 1 rfl ?_
  refine tg_iconst X dX7_refreshWinners_21 tk_i1 ?_
  refine tg_aload_n X dX7_refreshWinners_22 rfl 0 rfl ?_
  refine tg_getr X 0 rfl cl_X7 6 (by decide) rfl wf_X7_48 dX7_refreshWinners_23 ?_
  refine tg_getr X 23 rfl cl_X1 7 (by decide) rfl wf_X7_127 dX7_refreshWinners_26 ?_
  refine tg_geti X 31 rfl cl_X3 3 (by decide) rfl wf_X7_131 dX7_refreshWinners_29 ?_
  refine tg_ishl X dX7_refreshWinners_32 ?_
  refine tg_icmp_ge (tgt := 78) X dX7_refreshWinners_33 (by decide) (fun c1 => ?_) (fun c1 => ?_)
  · have h := tg_ifT c1 h
    refine tg_aload_n X dX7_refreshWinners_78 rfl 0 rfl ?_
    refine tg_iconst X dX7_refreshWinners_79 tk_i1 ?_
    obtain ⟨S2, eS2, h⟩ := tg_pfE h
    refine tg_puti X 0 rfl cl_X7 11 (by decide) rfl wf_X7_68 rfl rfl rfl dX7_refreshWinners_80 eS2 ?_
    exact tg_vret X h dX7_refreshWinners_83
  · have h := tg_ifF c1 h
    refine tg_aload_n X dX7_refreshWinners_36 rfl 0 rfl ?_
    refine tg_getr X 0 rfl cl_X7 6 (by decide) rfl wf_X7_48 dX7_refreshWinners_37 ?_
    refine tg_getr X 23 rfl cl_X1 7 (by decide) rfl wf_X7_127 dX7_refreshWinners_40 ?_
    refine tg_iload_n X dX7_refreshWinners_43 rfl 1 rfl ?_
    obtain ⟨S3, eS3, h⟩ := tg_pfE h
    refine tg_puti X 31 rfl cl_X3 4 (by decide) rfl wf_X7_226 rfl rfl rfl dX7_refreshWinners_44 eS3 ?_
    refine tg_aload_n X dX7_refreshWinners_47 rfl 0 rfl ?_
    refine tg_getr X 0 rfl cl_X7 7 (by decide) rfl wf_X7_51 dX7_refreshWinners_48 ?_
    refine tg_aload_n X dX7_refreshWinners_51 rfl 0 rfl ?_
    refine tg_getr X 0 rfl cl_X7 6 (by decide) rfl wf_X7_48 dX7_refreshWinners_52 ?_
    obtain ⟨S4, r5, kS4, h⟩ := tg_bdE h
    refine tg_callV (As := [.ref (tg_ad x 23)]) (rest := []) X 42 (cm_X2_play_b _ _ _ _ _ kS4) yy_X2_play wv_X2_play ws_X2_play wm_X7_198 rfl cl_X2.1 ⟨rfl, rfl, Nat.le_of_ble_eq_true rfl, Nat.le_of_ble_eq_true rfl⟩ rfl rfl (Nat.le_of_ble_eq_true rfl) dX7_refreshWinners_55 rfl ?_
    refine tg_pop X dX7_refreshWinners_58 rfl ?_
    refine tg_aload_n X dX7_refreshWinners_59 rfl 0 rfl ?_
    refine tg_getr X 0 rfl cl_X7 10 (by decide) rfl wf_X7_65 dX7_refreshWinners_60 ?_
    refine tg_iload_n X dX7_refreshWinners_63 rfl 1 rfl ?_
    refine tg_aload_n X dX7_refreshWinners_64 rfl 0 rfl ?_
    refine tg_getr X 0 rfl cl_X7 7 (by decide) rfl wf_X7_51 dX7_refreshWinners_65 ?_
    refine tg_geti X 42 rfl cl_X2 5 (by decide) rfl wf_X7_169 dX7_refreshWinners_68 ?_
    obtain ⟨S6, eS6, bS6, h⟩ := tg_wrE h
    refine tg_iast X 51 rfl bS6 dX7_refreshWinners_71 eS6 ?_
    obtain ⟨y7, ey7⟩ : ∃ z : Int32, z = v1 + 1 := ⟨_, rfl⟩
    have h := tg_nmE ey7 h
    refine tg_iinc (lv2 := [(1, .int y7), (0, .ref (tg_ad x 0))]) X dX7_refreshWinners_72 1 rfl tk_i1 ey7 (by decide) rfl ?_
    refine tg_goto (tgt := 20) X dX7_refreshWinners_75 (by decide) ?_
    refine tg_re [1, 0] rfl ?_
    exact hr20 S6 y7 h
theorem wl_X7_refreshWinners_20 {x : tg_X} {Sf : tg_S} (X : tg_M tauC x cX7_refreshWinners 2 RX7 zr_X7_refreshWinners none Sf none) : ∀ (n : Nat) (S : tg_S) (v1 : Int32) (h : L_X7_refreshWinners_20  n S v1 = some Sf), tg_G tauC x S 20 [(0, .ref (tg_ad x 0)), (1, .int v1)] [] := by
  intro n
  induction n with
  | zero => intro S v1 h; cases h
  | succ n ih => intro S v1 h; exact w_X7_refreshWinners_20 X  ih S v1 h
set_option maxRecDepth 20000 in
set_option maxHeartbeats 4000000 in
theorem w_X7_refreshWinners_0 {x : tg_X} {Sf : tg_S} (X : tg_M tauC x cX7_refreshWinners 2 RX7 zr_X7_refreshWinners none Sf none) (S : tg_S) (h : f_X7_refreshWinners  S  = some Sf) : tg_G tauC x S 0 [(0, .ref (tg_ad x 0))] [] := by
  unfold f_X7_refreshWinners at h
  refine tg_aload_n X dX7_refreshWinners_0 rfl 0 rfl ?_
  refine tg_geti X 0 rfl cl_X7 11 (by decide) rfl wf_X7_68 dX7_refreshWinners_1 ?_
  refine tg_if_ne (tgt := 83) X dX7_refreshWinners_4 (by decide) (fun c1 => ?_) (fun c1 => ?_)
  · have h := tg_ifF c1 h
    exact tg_vret X h dX7_refreshWinners_83
  · have h := tg_ifT c1 h
    refine tg_aload_n X dX7_refreshWinners_7 rfl 0 rfl ?_
    refine tg_getr X 0 rfl cl_X7 6 (by decide) rfl wf_X7_48 dX7_refreshWinners_8 ?_
    refine tg_aload_n X dX7_refreshWinners_11 rfl 0 rfl ?_
    refine tg_getr X 0 rfl cl_X7 4 (by decide) rfl wf_X7_37 dX7_refreshWinners_12 ?_
    obtain ⟨S2, kS2, h⟩ := tg_bvE h
    refine tg_callV (As := [.ref (tg_ad x 11)]) (rest := []) X 23 (cm_X1_becomeLike _ _ _ _ _ kS2) yy_X1_becomeLike wv_X1_becomeLike ws_X1_becomeLike wm_X7_190 rfl cl_X1.1 ⟨rfl, rfl, Nat.le_of_ble_eq_true rfl, Nat.le_of_ble_eq_true rfl⟩ rfl rfl (Nat.le_of_ble_eq_true rfl) dX7_refreshWinners_15 rfl ?_
    refine tg_iconst X dX7_refreshWinners_18 tk_i0 ?_
    refine tg_istore_n (lv2 := [(1, .int 0), (0, .ref (tg_ad x 0))]) X dX7_refreshWinners_19 rfl (by decide) rfl ?_
    refine tg_re [1, 0] rfl ?_
    exact wl_X7_refreshWinners_20 X  tg_F S2 0 h
theorem cm_X7_refreshWinners (l : Launch) (D : va_G) (cy : Bool → ClassId) (ad : Nat → Nat) (tS : Nat) {S Sf : tg_S} (h : f_X7_refreshWinners  S  = some Sf) : tg_Met l yX7_refreshWinners cX7_refreshWinners 2 none zr_X7_refreshWinners tauC D cy ad tS S [.ref (ad 0)] Sf none := tg_mk (by decide +kernel) trivial (Nat.le_of_ble_eq_true rfl) (fun p e s m args below meth c Q A X => w_X7_refreshWinners_0 X S  h)
-- X7_waysToMiss
def zr_X7_waysToMiss : Room := { frames := 0, cells := 0, slots := 0, locals := 0 }
theorem dX7_waysToMiss_0 : decode cX7_waysToMiss 0 = .ok (.lconst 1, 1) := by decide +kernel
theorem dX7_waysToMiss_1 : decode cX7_waysToMiss 1 = .ok (.lstore_n 3, 1) := by decide +kernel
theorem dX7_waysToMiss_2 : decode cX7_waysToMiss 2 = .ok (.iconst 0, 1) := by decide +kernel
theorem dX7_waysToMiss_3 : decode cX7_waysToMiss 3 = .ok (.istore 5, 2) := by decide +kernel
theorem dX7_waysToMiss_5 : decode cX7_waysToMiss 5 = .ok (.iload 5, 2) := by decide +kernel
theorem dX7_waysToMiss_7 : decode cX7_waysToMiss 7 = .ok (.aload_n 0, 1) := by decide +kernel
theorem dX7_waysToMiss_8 : decode cX7_waysToMiss 8 = .ok (.getfield 37, 3) := by decide +kernel
theorem dX7_waysToMiss_11 : decode cX7_waysToMiss 11 = .ok (.getfield 127, 3) := by decide +kernel
theorem dX7_waysToMiss_14 : decode cX7_waysToMiss 14 = .ok (.getfield 131, 3) := by decide +kernel
theorem dX7_waysToMiss_17 : decode cX7_waysToMiss 17 = .ok (.if_icmp .ge 31, 3) := by decide +kernel
theorem dX7_waysToMiss_20 : decode cX7_waysToMiss 20 = .ok (.lload_n 3, 1) := by decide +kernel
theorem dX7_waysToMiss_21 : decode cX7_waysToMiss 21 = .ok (.iload_n 2, 1) := by decide +kernel
theorem dX7_waysToMiss_22 : decode cX7_waysToMiss 22 = .ok (.iload 5, 2) := by decide +kernel
theorem dX7_waysToMiss_24 : decode cX7_waysToMiss 24 = .ok (.ishr, 1) := by decide +kernel
theorem dX7_waysToMiss_25 : decode cX7_waysToMiss 25 = .ok (.iconst 1, 1) := by decide +kernel
theorem dX7_waysToMiss_26 : decode cX7_waysToMiss 26 = .ok (.iand, 1) := by decide +kernel
theorem dX7_waysToMiss_27 : decode cX7_waysToMiss 27 = .ok (.ifCond .eq 11, 3) := by decide +kernel
theorem dX7_waysToMiss_30 : decode cX7_waysToMiss 30 = .ok (.bipush 16, 2) := by decide +kernel
theorem dX7_waysToMiss_32 : decode cX7_waysToMiss 32 = .ok (.iload_n 1, 1) := by decide +kernel
theorem dX7_waysToMiss_33 : decode cX7_waysToMiss 33 = .ok (.isub, 1) := by decide +kernel
theorem dX7_waysToMiss_34 : decode cX7_waysToMiss 34 = .ok (.i2l, 1) := by decide +kernel
theorem dX7_waysToMiss_35 : decode cX7_waysToMiss 35 = .ok (.goto 5, 3) := by decide +kernel
theorem dX7_waysToMiss_38 : decode cX7_waysToMiss 38 = .ok (.iload_n 1, 1) := by decide +kernel
theorem dX7_waysToMiss_39 : decode cX7_waysToMiss 39 = .ok (.i2l, 1) := by decide +kernel
theorem dX7_waysToMiss_40 : decode cX7_waysToMiss 40 = .ok (.lmul, 1) := by decide +kernel
theorem dX7_waysToMiss_41 : decode cX7_waysToMiss 41 = .ok (.lstore_n 3, 1) := by decide +kernel
theorem dX7_waysToMiss_42 : decode cX7_waysToMiss 42 = .ok (.iinc 5 1, 3) := by decide +kernel
theorem dX7_waysToMiss_45 : decode cX7_waysToMiss 45 = .ok (.goto (-40), 3) := by decide +kernel
theorem dX7_waysToMiss_48 : decode cX7_waysToMiss 48 = .ok (.lload_n 3, 1) := by decide +kernel
theorem dX7_waysToMiss_49 : decode cX7_waysToMiss 49 = .ok (.lreturn, 1) := by decide +kernel
set_option maxRecDepth 20000 in
set_option maxHeartbeats 4000000 in
theorem w_X7_waysToMiss_40 {x : tg_X} {Sf : tg_S} {r : Int64} {rec5 : tg_S → Int32 → Int32 → Int64 → Int32 → Option (tg_S × Int64)} (X : tg_M tauC x cX7_waysToMiss 6 RX7 zr_X7_waysToMiss (some .long) Sf (some (.long r))) (hr5 : ∀ (S : tg_S) (v1 : Int32) (v2 : Int32) (v3 : Int64) (v5 : Int32), rec5 S v1 v2 v3 v5 = some (Sf, r) → tg_G tauC x S 5 [(0, .ref (tg_ad x 0)), (1, .int v1), (2, .int v2), (3, .long v3), (5, .int v5)] []) (S : tg_S) (v1 : Int32) (v2 : Int32) (v5 : Int32) (s0 : Int64) (s1 : Int64) (h : f_X7_waysToMiss_40 rec5 S v1 v2 v5 s0 s1 = some (Sf, r)) : tg_G tauC x S 40 [(0, .ref (tg_ad x 0)), (1, .int v1), (2, .int v2), (5, .int v5)] [.long s0, .long s1] := by
  unfold f_X7_waysToMiss_40 at h
  refine tg_lmul X dX7_waysToMiss_40 ?_
  refine tg_topl (fun y1 ey1 => ?_)
  have h := tg_nmE ey1 h
  refine tg_lstore_n (lv2 := [(3, .long y1), (0, .ref (tg_ad x 0)), (1, .int v1), (2, .int v2), (5, .int v5)]) X dX7_waysToMiss_41 rfl (by decide) rfl ?_
  obtain ⟨y2, ey2⟩ : ∃ z : Int32, z = v5 + 1 := ⟨_, rfl⟩
  have h := tg_nmE ey2 h
  refine tg_iinc (lv2 := [(5, .int y2), (3, .long y1), (0, .ref (tg_ad x 0)), (1, .int v1), (2, .int v2)]) X dX7_waysToMiss_42 4 rfl tk_i1 ey2 (by decide) rfl ?_
  refine tg_goto (tgt := 5) X dX7_waysToMiss_45 (by decide) ?_
  refine tg_re [2, 3, 4, 1, 0] rfl ?_
  exact hr5 S v1 v2 y1 y2 h
set_option maxRecDepth 20000 in
set_option maxHeartbeats 4000000 in
theorem w_X7_waysToMiss_5 {x : tg_X} {Sf : tg_S} {r : Int64} {rec5 : tg_S → Int32 → Int32 → Int64 → Int32 → Option (tg_S × Int64)} (X : tg_M tauC x cX7_waysToMiss 6 RX7 zr_X7_waysToMiss (some .long) Sf (some (.long r))) (hr5 : ∀ (S : tg_S) (v1 : Int32) (v2 : Int32) (v3 : Int64) (v5 : Int32), rec5 S v1 v2 v3 v5 = some (Sf, r) → tg_G tauC x S 5 [(0, .ref (tg_ad x 0)), (1, .int v1), (2, .int v2), (3, .long v3), (5, .int v5)] []) (S : tg_S) (v1 : Int32) (v2 : Int32) (v3 : Int64) (v5 : Int32) (h : f_X7_waysToMiss_5 rec5 S v1 v2 v3 v5 = some (Sf, r)) : tg_G tauC x S 5 [(0, .ref (tg_ad x 0)), (1, .int v1), (2, .int v2), (3, .long v3), (5, .int v5)] [] := by
  unfold f_X7_waysToMiss_5 at h
  refine tg_iload X dX7_waysToMiss_5 4 rfl ?_
  refine tg_aload_n X dX7_waysToMiss_7 rfl 0 rfl ?_
  refine tg_getr X 0 rfl cl_X7 4 (by decide) rfl wf_X7_37 dX7_waysToMiss_8 ?_
  refine tg_getr X 11 rfl cl_X1 7 (by decide) rfl wf_X7_127 dX7_waysToMiss_11 ?_
  refine tg_geti X 19 rfl cl_X3 3 (by decide) rfl wf_X7_131 dX7_waysToMiss_14 ?_
  refine tg_icmp_ge (tgt := 48) X dX7_waysToMiss_17 (by decide) (fun c1 => ?_) (fun c1 => ?_)
  · have h := tg_ifT c1 h
    refine tg_lload_n X dX7_waysToMiss_48 rfl 3 rfl ?_
    exact tg_lret X h rfl dX7_waysToMiss_49
  · have h := tg_ifF c1 h
    refine tg_lload_n X dX7_waysToMiss_20 rfl 3 rfl ?_
    refine tg_iload_n X dX7_waysToMiss_21 rfl 2 rfl ?_
    refine tg_iload X dX7_waysToMiss_22 4 rfl ?_
    refine tg_ishr X dX7_waysToMiss_24 ?_
    refine tg_iconst X dX7_waysToMiss_25 tk_i1 ?_
    refine tg_iand X dX7_waysToMiss_26 ?_
    refine tg_if_eq (tgt := 38) X dX7_waysToMiss_27 (by decide) (fun c2 => ?_) (fun c2 => ?_)
    · rw [if_pos c2] at h
      refine tg_iload_n X dX7_waysToMiss_38 rfl 1 rfl ?_
      refine tg_i2l X dX7_waysToMiss_39 ?_
      refine tg_re [0, 1, 2, 4] rfl ?_
      exact w_X7_waysToMiss_40 X hr5 S v1 v2 v5 (v1.toInt64) v3 h
    · rw [if_neg c2] at h
      refine tg_bipush X dX7_waysToMiss_30 tk_b16 ?_
      refine tg_iload_n X dX7_waysToMiss_32 rfl 1 rfl ?_
      refine tg_isub X dX7_waysToMiss_33 ?_
      refine tg_i2l X dX7_waysToMiss_34 ?_
      refine tg_goto (tgt := 40) X dX7_waysToMiss_35 (by decide) ?_
      refine tg_re [0, 1, 2, 4] rfl ?_
      exact w_X7_waysToMiss_40 X hr5 S v1 v2 v5 ((16 - v1).toInt64) v3 h
theorem wl_X7_waysToMiss_5 {x : tg_X} {Sf : tg_S} {r : Int64} (X : tg_M tauC x cX7_waysToMiss 6 RX7 zr_X7_waysToMiss (some .long) Sf (some (.long r))) : ∀ (n : Nat) (S : tg_S) (v1 : Int32) (v2 : Int32) (v3 : Int64) (v5 : Int32) (h : L_X7_waysToMiss_5  n S v1 v2 v3 v5 = some (Sf, r)), tg_G tauC x S 5 [(0, .ref (tg_ad x 0)), (1, .int v1), (2, .int v2), (3, .long v3), (5, .int v5)] [] := by
  intro n
  induction n with
  | zero => intro S v1 v2 v3 v5 h; cases h
  | succ n ih => intro S v1 v2 v3 v5 h; exact w_X7_waysToMiss_5 X  ih S v1 v2 v3 v5 h
set_option maxRecDepth 20000 in
set_option maxHeartbeats 4000000 in
theorem w_X7_waysToMiss_0 {x : tg_X} {Sf : tg_S} {r : Int64} (X : tg_M tauC x cX7_waysToMiss 6 RX7 zr_X7_waysToMiss (some .long) Sf (some (.long r))) (S : tg_S) (v1 : Int32) (v2 : Int32) (h : f_X7_waysToMiss  S v1 v2 = some (Sf, r)) : tg_G tauC x S 0 [(0, .ref (tg_ad x 0)), (1, .int v1), (2, .int v2)] [] := by
  unfold f_X7_waysToMiss at h
  refine tg_lconst X dX7_waysToMiss_0 (v := 1) rfl ?_
  refine tg_lstore_n (lv2 := [(3, .long 1), (0, .ref (tg_ad x 0)), (1, .int v1), (2, .int v2)]) X dX7_waysToMiss_1 rfl (by decide) rfl ?_
  refine tg_iconst X dX7_waysToMiss_2 tk_i0 ?_
  refine tg_istore (lv2 := [(5, .int 0), (3, .long 1), (0, .ref (tg_ad x 0)), (1, .int v1), (2, .int v2)]) X dX7_waysToMiss_3 (by decide) rfl ?_
  refine tg_re [2, 3, 4, 1, 0] rfl ?_
  exact wl_X7_waysToMiss_5 X  tg_F S v1 v2 1 0 h
theorem cm_X7_waysToMiss (l : Launch) (D : va_G) (cy : Bool → ClassId) (ad : Nat → Nat) (tS : Nat) {S Sf : tg_S} {v1 : Int32} {v2 : Int32} {r : Int64} (h : f_X7_waysToMiss  S v1 v2 = some (Sf, r)) : tg_Met l yX7_waysToMiss cX7_waysToMiss 6 (some .long) zr_X7_waysToMiss tauC D cy ad tS S [.ref (ad 0), .int v1, .int v2] Sf (some (.long r)) := tg_mk (by decide +kernel) trivial (Nat.le_of_ble_eq_true rfl) (fun p e s m args below meth c Q A X => w_X7_waysToMiss_0 X S v1 v2 h)
-- X7_waysToWin
def zr_X7_waysToWin : Room := { frames := 1, cells := 0, slots := 0, locals := 25 }
theorem dX7_waysToWin_0 : decode cX7_waysToWin 0 = .ok (.lconst 0, 1) := by decide +kernel
theorem dX7_waysToWin_1 : decode cX7_waysToWin 1 = .ok (.lstore_n 3, 1) := by decide +kernel
theorem dX7_waysToWin_2 : decode cX7_waysToWin 2 = .ok (.iconst 0, 1) := by decide +kernel
theorem dX7_waysToWin_3 : decode cX7_waysToWin 3 = .ok (.istore 5, 2) := by decide +kernel
theorem dX7_waysToWin_5 : decode cX7_waysToWin 5 = .ok (.iload 5, 2) := by decide +kernel
theorem dX7_waysToWin_7 : decode cX7_waysToWin 7 = .ok (.iconst 1, 1) := by decide +kernel
theorem dX7_waysToWin_8 : decode cX7_waysToWin 8 = .ok (.aload_n 0, 1) := by decide +kernel
theorem dX7_waysToWin_9 : decode cX7_waysToWin 9 = .ok (.getfield 37, 3) := by decide +kernel
theorem dX7_waysToWin_12 : decode cX7_waysToWin 12 = .ok (.getfield 127, 3) := by decide +kernel
theorem dX7_waysToWin_15 : decode cX7_waysToWin 15 = .ok (.getfield 131, 3) := by decide +kernel
theorem dX7_waysToWin_18 : decode cX7_waysToWin 18 = .ok (.ishl, 1) := by decide +kernel
theorem dX7_waysToWin_19 : decode cX7_waysToWin 19 = .ok (.if_icmp .ge 30, 3) := by decide +kernel
theorem dX7_waysToWin_22 : decode cX7_waysToWin 22 = .ok (.aload_n 0, 1) := by decide +kernel
theorem dX7_waysToWin_23 : decode cX7_waysToWin 23 = .ok (.getfield 65, 3) := by decide +kernel
theorem dX7_waysToWin_26 : decode cX7_waysToWin 26 = .ok (.iload 5, 2) := by decide +kernel
theorem dX7_waysToWin_28 : decode cX7_waysToWin 28 = .ok (.iaload, 1) := by decide +kernel
theorem dX7_waysToWin_29 : decode cX7_waysToWin 29 = .ok (.iload_n 2, 1) := by decide +kernel
theorem dX7_waysToWin_30 : decode cX7_waysToWin 30 = .ok (.if_icmp .ne 13, 3) := by decide +kernel
theorem dX7_waysToWin_33 : decode cX7_waysToWin 33 = .ok (.lload_n 3, 1) := by decide +kernel
theorem dX7_waysToWin_34 : decode cX7_waysToWin 34 = .ok (.aload_n 0, 1) := by decide +kernel
theorem dX7_waysToWin_35 : decode cX7_waysToWin 35 = .ok (.iload_n 1, 1) := by decide +kernel
theorem dX7_waysToWin_36 : decode cX7_waysToWin 36 = .ok (.iload 5, 2) := by decide +kernel
theorem dX7_waysToWin_38 : decode cX7_waysToWin 38 = .ok (.invokevirtual 383, 3) := by decide +kernel
theorem dX7_waysToWin_41 : decode cX7_waysToWin 41 = .ok (.ladd, 1) := by decide +kernel
theorem dX7_waysToWin_42 : decode cX7_waysToWin 42 = .ok (.lstore_n 3, 1) := by decide +kernel
theorem dX7_waysToWin_43 : decode cX7_waysToWin 43 = .ok (.iinc 5 1, 3) := by decide +kernel
theorem dX7_waysToWin_46 : decode cX7_waysToWin 46 = .ok (.goto (-41), 3) := by decide +kernel
theorem dX7_waysToWin_49 : decode cX7_waysToWin 49 = .ok (.lload_n 3, 1) := by decide +kernel
theorem dX7_waysToWin_50 : decode cX7_waysToWin 50 = .ok (.lreturn, 1) := by decide +kernel
set_option maxRecDepth 20000 in
set_option maxHeartbeats 4000000 in
theorem w_X7_waysToWin_43 {x : tg_X} {Sf : tg_S} {r : Int64} {rec5 : tg_S → Int32 → Int32 → Int64 → Int32 → Option (tg_S × Int64)} (X : tg_M tauC x cX7_waysToWin 6 RX7 zr_X7_waysToWin (some .long) Sf (some (.long r))) (hr5 : ∀ (S : tg_S) (v1 : Int32) (v2 : Int32) (v3 : Int64) (v5 : Int32), rec5 S v1 v2 v3 v5 = some (Sf, r) → tg_G tauC x S 5 [(0, .ref (tg_ad x 0)), (1, .int v1), (2, .int v2), (3, .long v3), (5, .int v5)] []) (S : tg_S) (v1 : Int32) (v2 : Int32) (v3 : Int64) (v5 : Int32) (h : f_X7_waysToWin_43 rec5 S v1 v2 v3 v5 = some (Sf, r)) : tg_G tauC x S 43 [(0, .ref (tg_ad x 0)), (1, .int v1), (2, .int v2), (3, .long v3), (5, .int v5)] [] := by
  unfold f_X7_waysToWin_43 at h
  obtain ⟨y1, ey1⟩ : ∃ z : Int32, z = v5 + 1 := ⟨_, rfl⟩
  have h := tg_nmE ey1 h
  refine tg_iinc (lv2 := [(5, .int y1), (0, .ref (tg_ad x 0)), (1, .int v1), (2, .int v2), (3, .long v3)]) X dX7_waysToWin_43 4 rfl tk_i1 ey1 (by decide) rfl ?_
  refine tg_goto (tgt := 5) X dX7_waysToWin_46 (by decide) ?_
  refine tg_re [1, 2, 3, 4, 0] rfl ?_
  exact hr5 S v1 v2 v3 y1 h
set_option maxRecDepth 20000 in
set_option maxHeartbeats 4000000 in
theorem w_X7_waysToWin_5 {x : tg_X} {Sf : tg_S} {r : Int64} {rec5 : tg_S → Int32 → Int32 → Int64 → Int32 → Option (tg_S × Int64)} (X : tg_M tauC x cX7_waysToWin 6 RX7 zr_X7_waysToWin (some .long) Sf (some (.long r))) (hr5 : ∀ (S : tg_S) (v1 : Int32) (v2 : Int32) (v3 : Int64) (v5 : Int32), rec5 S v1 v2 v3 v5 = some (Sf, r) → tg_G tauC x S 5 [(0, .ref (tg_ad x 0)), (1, .int v1), (2, .int v2), (3, .long v3), (5, .int v5)] []) (S : tg_S) (v1 : Int32) (v2 : Int32) (v3 : Int64) (v5 : Int32) (h : f_X7_waysToWin_5 rec5 S v1 v2 v3 v5 = some (Sf, r)) : tg_G tauC x S 5 [(0, .ref (tg_ad x 0)), (1, .int v1), (2, .int v2), (3, .long v3), (5, .int v5)] [] := by
  unfold f_X7_waysToWin_5 at h
  refine tg_iload X dX7_waysToWin_5 4 rfl ?_
  refine tg_iconst X dX7_waysToWin_7 tk_i1 ?_
  refine tg_aload_n X dX7_waysToWin_8 rfl 0 rfl ?_
  refine tg_getr X 0 rfl cl_X7 4 (by decide) rfl wf_X7_37 dX7_waysToWin_9 ?_
  refine tg_getr X 11 rfl cl_X1 7 (by decide) rfl wf_X7_127 dX7_waysToWin_12 ?_
  refine tg_geti X 19 rfl cl_X3 3 (by decide) rfl wf_X7_131 dX7_waysToWin_15 ?_
  refine tg_ishl X dX7_waysToWin_18 ?_
  refine tg_icmp_ge (tgt := 49) X dX7_waysToWin_19 (by decide) (fun c1 => ?_) (fun c1 => ?_)
  · have h := tg_ifT c1 h
    refine tg_lload_n X dX7_waysToWin_49 rfl 3 rfl ?_
    exact tg_lret X h rfl dX7_waysToWin_50
  · have h := tg_ifF c1 h
    refine tg_aload_n X dX7_waysToWin_22 rfl 0 rfl ?_
    refine tg_getr X 0 rfl cl_X7 10 (by decide) rfl wf_X7_65 dX7_waysToWin_23 ?_
    refine tg_iload X dX7_waysToWin_26 4 rfl ?_
    obtain ⟨y2, ey2, by2, h⟩ := tg_rdE h
    refine tg_iald X 51 rfl ey2 by2 dX7_waysToWin_28 ?_
    refine tg_iload_n X dX7_waysToWin_29 rfl 2 rfl ?_
    refine tg_icmp_ne (tgt := 43) X dX7_waysToWin_30 (by decide) (fun c3 => ?_) (fun c3 => ?_)
    · have h := tg_ifF c3 h
      exact w_X7_waysToWin_43 X hr5 S v1 v2 v3 v5 h
    · have h := tg_ifT c3 h
      refine tg_lload_n X dX7_waysToWin_33 rfl 3 rfl ?_
      refine tg_aload_n X dX7_waysToWin_34 rfl 0 rfl ?_
      refine tg_iload_n X dX7_waysToWin_35 rfl 1 rfl ?_
      refine tg_iload X dX7_waysToWin_36 4 rfl ?_
      obtain ⟨S4, r5, kS4, h⟩ := tg_bdE h
      refine tg_callV (As := [.int v1, .int v5]) (rest := [.long v3]) X 0 (cm_X7_waysToMiss _ _ _ _ _ kS4) yy_X7_waysToMiss wv_X7_waysToMiss ws_X7_waysToMiss wm_X7_383 rfl cl_X7.1 ⟨rfl, rfl, Nat.le_of_ble_eq_true rfl, Nat.le_of_ble_eq_true rfl⟩ rfl rfl (Nat.le_of_ble_eq_true rfl) dX7_waysToWin_38 rfl ?_
      refine tg_ladd X dX7_waysToWin_41 ?_
      refine tg_topl (fun y6 ey6 => ?_)
      have h := tg_nmE ey6 h
      refine tg_lstore_n (lv2 := [(3, .long y6), (0, .ref (tg_ad x 0)), (1, .int v1), (2, .int v2), (5, .int v5)]) X dX7_waysToWin_42 rfl (by decide) rfl ?_
      refine tg_re [1, 2, 3, 0, 4] rfl ?_
      exact w_X7_waysToWin_43 X hr5 S4 v1 v2 y6 v5 h
theorem wl_X7_waysToWin_5 {x : tg_X} {Sf : tg_S} {r : Int64} (X : tg_M tauC x cX7_waysToWin 6 RX7 zr_X7_waysToWin (some .long) Sf (some (.long r))) : ∀ (n : Nat) (S : tg_S) (v1 : Int32) (v2 : Int32) (v3 : Int64) (v5 : Int32) (h : L_X7_waysToWin_5  n S v1 v2 v3 v5 = some (Sf, r)), tg_G tauC x S 5 [(0, .ref (tg_ad x 0)), (1, .int v1), (2, .int v2), (3, .long v3), (5, .int v5)] [] := by
  intro n
  induction n with
  | zero => intro S v1 v2 v3 v5 h; cases h
  | succ n ih => intro S v1 v2 v3 v5 h; exact w_X7_waysToWin_5 X  ih S v1 v2 v3 v5 h
set_option maxRecDepth 20000 in
set_option maxHeartbeats 4000000 in
theorem w_X7_waysToWin_0 {x : tg_X} {Sf : tg_S} {r : Int64} (X : tg_M tauC x cX7_waysToWin 6 RX7 zr_X7_waysToWin (some .long) Sf (some (.long r))) (S : tg_S) (v1 : Int32) (v2 : Int32) (h : f_X7_waysToWin  S v1 v2 = some (Sf, r)) : tg_G tauC x S 0 [(0, .ref (tg_ad x 0)), (1, .int v1), (2, .int v2)] [] := by
  unfold f_X7_waysToWin at h
  refine tg_lconst X dX7_waysToWin_0 (v := 0) rfl ?_
  refine tg_lstore_n (lv2 := [(3, .long 0), (0, .ref (tg_ad x 0)), (1, .int v1), (2, .int v2)]) X dX7_waysToWin_1 rfl (by decide) rfl ?_
  refine tg_iconst X dX7_waysToWin_2 tk_i0 ?_
  refine tg_istore (lv2 := [(5, .int 0), (3, .long 0), (0, .ref (tg_ad x 0)), (1, .int v1), (2, .int v2)]) X dX7_waysToWin_3 (by decide) rfl ?_
  refine tg_re [2, 3, 4, 1, 0] rfl ?_
  exact wl_X7_waysToWin_5 X  tg_F S v1 v2 0 0 h
theorem cm_X7_waysToWin (l : Launch) (D : va_G) (cy : Bool → ClassId) (ad : Nat → Nat) (tS : Nat) {S Sf : tg_S} {v1 : Int32} {v2 : Int32} {r : Int64} (h : f_X7_waysToWin  S v1 v2 = some (Sf, r)) : tg_Met l yX7_waysToWin cX7_waysToWin 6 (some .long) zr_X7_waysToWin tauC D cy ad tS S [.ref (ad 0), .int v1, .int v2] Sf (some (.long r)) := tg_mk (by decide +kernel) trivial (Nat.le_of_ble_eq_true rfl) (fun p e s m args below meth c Q A X => w_X7_waysToWin_0 X S v1 v2 h)
-- X7_chance
def zr_X7_chance : Room := { frames := 5, cells := 0, slots := 0, locals := 117 }
theorem dX7_chance_0 : decode cX7_chance 0 = .ok (.iload_n 1, 1) := by decide +kernel
theorem dX7_chance_1 : decode cX7_chance 1 = .ok (.bipush 17, 2) := by decide +kernel
theorem dX7_chance_3 : decode cX7_chance 3 = .ok (.invokestatic 75, 3) := by decide +kernel
theorem dX7_chance_6 : decode cX7_chance 6 = .ok (.ifCond .eq 19, 3) := by decide +kernel
theorem dX7_chance_9 : decode cX7_chance 9 = .ok (.iload_n 2, 1) := by decide +kernel
theorem dX7_chance_10 : decode cX7_chance 10 = .ok (.iconst 2, 1) := by decide +kernel
theorem dX7_chance_11 : decode cX7_chance 11 = .ok (.invokestatic 75, 3) := by decide +kernel
theorem dX7_chance_14 : decode cX7_chance 14 = .ok (.ifCond .eq 11, 3) := by decide +kernel
theorem dX7_chance_17 : decode cX7_chance 17 = .ok (.iload_n 3, 1) := by decide +kernel
theorem dX7_chance_18 : decode cX7_chance 18 = .ok (.iconst 2, 1) := by decide +kernel
theorem dX7_chance_19 : decode cX7_chance 19 = .ok (.invokestatic 75, 3) := by decide +kernel
theorem dX7_chance_22 : decode cX7_chance 22 = .ok (.ifCond .ne 7, 3) := by decide +kernel
theorem dX7_chance_25 : decode cX7_chance 25 = .ok (.ldc2_w 244, 3) := by decide +kernel
theorem dX7_chance_28 : decode cX7_chance 28 = .ok (.lreturn, 1) := by decide +kernel
theorem dX7_chance_29 : decode cX7_chance 29 = .ok (.aload_n 0, 1) := by decide +kernel
theorem dX7_chance_30 : decode cX7_chance 30 = .ok (.invokevirtual 246, 3) := by decide +kernel
theorem dX7_chance_33 : decode cX7_chance 33 = .ok (.iconst 4, 1) := by decide +kernel
theorem dX7_chance_34 : decode cX7_chance 34 = .ok (.aload_n 0, 1) := by decide +kernel
theorem dX7_chance_35 : decode cX7_chance 35 = .ok (.getfield 37, 3) := by decide +kernel
theorem dX7_chance_38 : decode cX7_chance 38 = .ok (.getfield 127, 3) := by decide +kernel
theorem dX7_chance_41 : decode cX7_chance 41 = .ok (.getfield 131, 3) := by decide +kernel
theorem dX7_chance_44 : decode cX7_chance 44 = .ok (.imul, 1) := by decide +kernel
theorem dX7_chance_45 : decode cX7_chance 45 = .ok (.istore 4, 2) := by decide +kernel
theorem dX7_chance_47 : decode cX7_chance 47 = .ok (.aload_n 0, 1) := by decide +kernel
theorem dX7_chance_48 : decode cX7_chance 48 = .ok (.iload_n 1, 1) := by decide +kernel
theorem dX7_chance_49 : decode cX7_chance 49 = .ok (.iload_n 2, 1) := by decide +kernel
theorem dX7_chance_50 : decode cX7_chance 50 = .ok (.invokevirtual 249, 3) := by decide +kernel
theorem dX7_chance_53 : decode cX7_chance 53 = .ok (.lstore 5, 2) := by decide +kernel
theorem dX7_chance_55 : decode cX7_chance 55 = .ok (.lconst 1, 1) := by decide +kernel
theorem dX7_chance_56 : decode cX7_chance 56 = .ok (.iload 4, 2) := by decide +kernel
theorem dX7_chance_58 : decode cX7_chance 58 = .ok (.lshl, 1) := by decide +kernel
theorem dX7_chance_59 : decode cX7_chance 59 = .ok (.lstore 7, 2) := by decide +kernel
theorem dX7_chance_61 : decode cX7_chance 61 = .ok (.iconst 0, 1) := by decide +kernel
theorem dX7_chance_62 : decode cX7_chance 62 = .ok (.istore 9, 2) := by decide +kernel
theorem dX7_chance_64 : decode cX7_chance 64 = .ok (.iload 9, 2) := by decide +kernel
theorem dX7_chance_66 : decode cX7_chance 66 = .ok (.iload 4, 2) := by decide +kernel
theorem dX7_chance_68 : decode cX7_chance 68 = .ok (.if_icmp .ge 36, 3) := by decide +kernel
theorem dX7_chance_71 : decode cX7_chance 71 = .ok (.lload 5, 2) := by decide +kernel
theorem dX7_chance_73 : decode cX7_chance 73 = .ok (.ldc2_w 253, 3) := by decide +kernel
theorem dX7_chance_76 : decode cX7_chance 76 = .ok (.lrem, 1) := by decide +kernel
theorem dX7_chance_77 : decode cX7_chance 77 = .ok (.lconst 0, 1) := by decide +kernel
theorem dX7_chance_78 : decode cX7_chance 78 = .ok (.lcmp, 1) := by decide +kernel
theorem dX7_chance_79 : decode cX7_chance 79 = .ok (.ifCond .ne 25, 3) := by decide +kernel
theorem dX7_chance_82 : decode cX7_chance 82 = .ok (.lload 5, 2) := by decide +kernel
theorem dX7_chance_84 : decode cX7_chance 84 = .ok (.ldc2_w 253, 3) := by decide +kernel
theorem dX7_chance_87 : decode cX7_chance 87 = .ok (.ldiv, 1) := by decide +kernel
theorem dX7_chance_88 : decode cX7_chance 88 = .ok (.lstore 5, 2) := by decide +kernel
theorem dX7_chance_90 : decode cX7_chance 90 = .ok (.lload 7, 2) := by decide +kernel
theorem dX7_chance_92 : decode cX7_chance 92 = .ok (.ldc2_w 253, 3) := by decide +kernel
theorem dX7_chance_95 : decode cX7_chance 95 = .ok (.ldiv, 1) := by decide +kernel
theorem dX7_chance_96 : decode cX7_chance 96 = .ok (.lstore 7, 2) := by decide +kernel
theorem dX7_chance_98 : decode cX7_chance 98 = .ok (.iinc 9 1, 3) := by decide +kernel
theorem dX7_chance_101 : decode cX7_chance 101 = .ok (.goto (-37), 3) := by decide +kernel
theorem dX7_chance_104 : decode cX7_chance 104 = .ok (.iload_n 3, 1) := by decide +kernel
theorem dX7_chance_105 : decode cX7_chance 105 = .ok (.ifCond .ne 8, 3) := by decide +kernel
theorem dX7_chance_108 : decode cX7_chance 108 = .ok (.lload 5, 2) := by decide +kernel
theorem dX7_chance_110 : decode cX7_chance 110 = .ok (.goto 5, 3) := by decide +kernel
theorem dX7_chance_113 : decode cX7_chance 113 = .ok (.lload 7, 2) := by decide +kernel
theorem dX7_chance_115 : decode cX7_chance 115 = .ok (.lreturn, 1) := by decide +kernel
set_option maxRecDepth 20000 in
set_option maxHeartbeats 4000000 in
theorem w_X7_chance_104 {x : tg_X} {Sf : tg_S} {r : Int64} (X : tg_M tauC x cX7_chance 10 RX7 zr_X7_chance (some .long) Sf (some (.long r))) (S : tg_S) (v3 : Int32) (v5 : Int64) (v7 : Int64) (h : f_X7_chance_104  S v3 v5 v7 = some (Sf, r)) : tg_G tauC x S 104 [(3, .int v3), (5, .long v5), (7, .long v7)] [] := by
  unfold f_X7_chance_104 at h
  refine tg_iload_n X dX7_chance_104 rfl 0 rfl ?_
  refine tg_if_ne (tgt := 113) X dX7_chance_105 (by decide) (fun c1 => ?_) (fun c1 => ?_)
  · have h := tg_ifF c1 h
    refine tg_lload X dX7_chance_113 2 rfl ?_
    exact tg_lret X h rfl dX7_chance_115
  · have h := tg_ifT c1 h
    refine tg_lload X dX7_chance_108 1 rfl ?_
    refine tg_goto (tgt := 115) X dX7_chance_110 (by decide) ?_
    exact tg_lret X h rfl dX7_chance_115
set_option maxRecDepth 20000 in
set_option maxHeartbeats 4000000 in
theorem w_X7_chance_64 {x : tg_X} {Sf : tg_S} {r : Int64} {rec64 : tg_S → Int32 → Int32 → Int64 → Int64 → Int32 → Option (tg_S × Int64)} (X : tg_M tauC x cX7_chance 10 RX7 zr_X7_chance (some .long) Sf (some (.long r))) (hr64 : ∀ (S : tg_S) (v3 : Int32) (v4 : Int32) (v5 : Int64) (v7 : Int64) (v9 : Int32), rec64 S v3 v4 v5 v7 v9 = some (Sf, r) → tg_G tauC x S 64 [(3, .int v3), (4, .int v4), (5, .long v5), (7, .long v7), (9, .int v9)] []) (S : tg_S) (v3 : Int32) (v4 : Int32) (v5 : Int64) (v7 : Int64) (v9 : Int32) (h : f_X7_chance_64 rec64 S v3 v4 v5 v7 v9 = some (Sf, r)) : tg_G tauC x S 64 [(3, .int v3), (4, .int v4), (5, .long v5), (7, .long v7), (9, .int v9)] [] := by
  unfold f_X7_chance_64 at h
  refine tg_iload X dX7_chance_64 4 rfl ?_
  refine tg_iload X dX7_chance_66 1 rfl ?_
  refine tg_icmp_ge (tgt := 104) X dX7_chance_68 (by decide) (fun c1 => ?_) (fun c1 => ?_)
  · have h := tg_ifT c1 h
    refine tg_re [0, 2, 3] rfl ?_
    exact w_X7_chance_104 X  S v3 v5 v7 h
  · have h := tg_ifF c1 h
    refine tg_lload X dX7_chance_71 2 rfl ?_
    refine tg_ldc2 X wk_X7_253 dX7_chance_73 ?_
    refine tg_lrem X dX7_chance_76 (by decide) ?_
    refine tg_lconst X dX7_chance_77 (v := 0) rfl ?_
    refine tg_lcmp X dX7_chance_78 ?_
    refine tg_if_ne (tgt := 104) X dX7_chance_79 (by decide) (fun c2 => ?_) (fun c2 => ?_)
    · have h := tg_ifF c2 h
      refine tg_re [0, 2, 3] rfl ?_
      exact w_X7_chance_104 X  S v3 v5 v7 h
    · have h := tg_ifT c2 h
      refine tg_lload X dX7_chance_82 2 rfl ?_
      refine tg_ldc2 X wk_X7_253 dX7_chance_84 ?_
      refine tg_ldiv X dX7_chance_87 (by decide) ?_
      refine tg_topl (fun y3 ey3 => ?_)
      have h := tg_nmE ey3 h
      refine tg_lstore (lv2 := [(5, .long y3), (3, .int v3), (4, .int v4), (7, .long v7), (9, .int v9)]) X dX7_chance_88 (by decide) rfl ?_
      refine tg_lload X dX7_chance_90 3 rfl ?_
      refine tg_ldc2 X wk_X7_253 dX7_chance_92 ?_
      refine tg_ldiv X dX7_chance_95 (by decide) ?_
      refine tg_topl (fun y4 ey4 => ?_)
      have h := tg_nmE ey4 h
      refine tg_lstore (lv2 := [(7, .long y4), (5, .long y3), (3, .int v3), (4, .int v4), (9, .int v9)]) X dX7_chance_96 (by decide) rfl ?_
      obtain ⟨y5, ey5⟩ : ∃ z : Int32, z = v9 + 1 := ⟨_, rfl⟩
      have h := tg_nmE ey5 h
      refine tg_iinc (lv2 := [(9, .int y5), (7, .long y4), (5, .long y3), (3, .int v3), (4, .int v4)]) X dX7_chance_98 4 rfl tk_i1 ey5 (by decide) rfl ?_
      refine tg_goto (tgt := 64) X dX7_chance_101 (by decide) ?_
      refine tg_re [3, 4, 2, 1, 0] rfl ?_
      exact hr64 S v3 v4 y3 y4 y5 h
theorem wl_X7_chance_64 {x : tg_X} {Sf : tg_S} {r : Int64} (X : tg_M tauC x cX7_chance 10 RX7 zr_X7_chance (some .long) Sf (some (.long r))) : ∀ (n : Nat) (S : tg_S) (v3 : Int32) (v4 : Int32) (v5 : Int64) (v7 : Int64) (v9 : Int32) (h : L_X7_chance_64  n S v3 v4 v5 v7 v9 = some (Sf, r)), tg_G tauC x S 64 [(3, .int v3), (4, .int v4), (5, .long v5), (7, .long v7), (9, .int v9)] [] := by
  intro n
  induction n with
  | zero => intro S v3 v4 v5 v7 v9 h; cases h
  | succ n ih => intro S v3 v4 v5 v7 v9 h; exact w_X7_chance_64 X  ih S v3 v4 v5 v7 v9 h
set_option maxRecDepth 20000 in
set_option maxHeartbeats 4000000 in
theorem w_X7_chance_0 {x : tg_X} {Sf : tg_S} {r : Int64} (X : tg_M tauC x cX7_chance 10 RX7 zr_X7_chance (some .long) Sf (some (.long r))) (S : tg_S) (v1 : Int32) (v2 : Int32) (v3 : Int32) (h : f_X7_chance  S v1 v2 v3 = some (Sf, r)) : tg_G tauC x S 0 [(0, .ref (tg_ad x 0)), (1, .int v1), (2, .int v2), (3, .int v3)] [] := by
  unfold f_X7_chance at h
  refine tg_iload_n X dX7_chance_0 rfl 1 rfl ?_
  refine tg_bipush X dX7_chance_1 tk_b17 ?_
  obtain ⟨S1, r2, kS1, h⟩ := tg_bdE h
  refine tg_callS (As := [.int v1, .int 17]) (rest := []) X (cm_X7_isBelow _ _ _ _ _ kS1) yy_X7_isBelow wt_X7_isBelow wm_X7_75 ⟨rfl, rfl, Nat.le_of_ble_eq_true rfl, Nat.le_of_ble_eq_true rfl⟩ rfl rfl (Nat.le_of_ble_eq_true rfl) dX7_chance_3 rfl ?_
  refine tg_if_eq (tgt := 25) X dX7_chance_6 (by decide) (fun c3 => ?_) (fun c3 => ?_)
  · have h := tg_ifT c3 h
    refine tg_ldc2 X wk_X7_244 dX7_chance_25 ?_
    exact tg_lret X h rfl dX7_chance_28
  · have h := tg_ifF c3 h
    refine tg_iload_n X dX7_chance_9 rfl 2 rfl ?_
    refine tg_iconst X dX7_chance_10 tk_i2 ?_
    obtain ⟨S4, r5, kS4, h⟩ := tg_bdE h
    refine tg_callS (As := [.int v2, .int 2]) (rest := []) X (cm_X7_isBelow _ _ _ _ _ kS4) yy_X7_isBelow wt_X7_isBelow wm_X7_75 ⟨rfl, rfl, Nat.le_of_ble_eq_true rfl, Nat.le_of_ble_eq_true rfl⟩ rfl rfl (Nat.le_of_ble_eq_true rfl) dX7_chance_11 rfl ?_
    refine tg_if_eq (tgt := 25) X dX7_chance_14 (by decide) (fun c6 => ?_) (fun c6 => ?_)
    · have h := tg_ifT c6 h
      refine tg_ldc2 X wk_X7_244 dX7_chance_25 ?_
      exact tg_lret X h rfl dX7_chance_28
    · have h := tg_ifF c6 h
      refine tg_iload_n X dX7_chance_17 rfl 3 rfl ?_
      refine tg_iconst X dX7_chance_18 tk_i2 ?_
      obtain ⟨S7, r8, kS7, h⟩ := tg_bdE h
      refine tg_callS (As := [.int v3, .int 2]) (rest := []) X (cm_X7_isBelow _ _ _ _ _ kS7) yy_X7_isBelow wt_X7_isBelow wm_X7_75 ⟨rfl, rfl, Nat.le_of_ble_eq_true rfl, Nat.le_of_ble_eq_true rfl⟩ rfl rfl (Nat.le_of_ble_eq_true rfl) dX7_chance_19 rfl ?_
      refine tg_if_ne (tgt := 29) X dX7_chance_22 (by decide) (fun c9 => ?_) (fun c9 => ?_)
      · have h := tg_ifF c9 h
        refine tg_aload_n X dX7_chance_29 rfl 0 rfl ?_
        obtain ⟨S10, kS10, h⟩ := tg_bvE h
        refine tg_callV (As := []) (rest := []) X 0 (cm_X7_refreshWinners _ _ _ _ _ kS10) yy_X7_refreshWinners wv_X7_refreshWinners ws_X7_refreshWinners wm_X7_246 rfl cl_X7.1 ⟨rfl, rfl, Nat.le_of_ble_eq_true rfl, Nat.le_of_ble_eq_true rfl⟩ rfl rfl (Nat.le_of_ble_eq_true rfl) dX7_chance_30 rfl ?_
        refine tg_iconst X dX7_chance_33 tk_i4 ?_
        refine tg_aload_n X dX7_chance_34 rfl 0 rfl ?_
        refine tg_getr X 0 rfl cl_X7 4 (by decide) rfl wf_X7_37 dX7_chance_35 ?_
        refine tg_getr X 11 rfl cl_X1 7 (by decide) rfl wf_X7_127 dX7_chance_38 ?_
        refine tg_geti X 19 rfl cl_X3 3 (by decide) rfl wf_X7_131 dX7_chance_41 ?_
        refine tg_imul X dX7_chance_44 ?_
        refine tg_topi (fun y11 ey11 => ?_)
        have h := tg_nmE ey11 h
        refine tg_istore (lv2 := [(4, .int y11), (0, .ref (tg_ad x 0)), (1, .int v1), (2, .int v2), (3, .int v3)]) X dX7_chance_45 (by decide) rfl ?_
        refine tg_aload_n X dX7_chance_47 rfl 1 rfl ?_
        refine tg_iload_n X dX7_chance_48 rfl 2 rfl ?_
        refine tg_iload_n X dX7_chance_49 rfl 3 rfl ?_
        obtain ⟨S12, r13, kS12, h⟩ := tg_bdE h
        refine tg_callV (As := [.int v1, .int v2]) (rest := []) X 0 (cm_X7_waysToWin _ _ _ _ _ kS12) yy_X7_waysToWin wv_X7_waysToWin ws_X7_waysToWin wm_X7_249 rfl cl_X7.1 ⟨rfl, rfl, Nat.le_of_ble_eq_true rfl, Nat.le_of_ble_eq_true rfl⟩ rfl rfl (Nat.le_of_ble_eq_true rfl) dX7_chance_50 rfl ?_
        refine tg_lstore (lv2 := [(5, .long r13), (4, .int y11), (0, .ref (tg_ad x 0)), (1, .int v1), (2, .int v2), (3, .int v3)]) X dX7_chance_53 (by decide) rfl ?_
        refine tg_lconst X dX7_chance_55 (v := 1) rfl ?_
        refine tg_iload X dX7_chance_56 1 rfl ?_
        refine tg_lshl X dX7_chance_58 ?_
        refine tg_topl (fun y14 ey14 => ?_)
        have h := tg_nmE ey14 h
        refine tg_lstore (lv2 := [(7, .long y14), (5, .long r13), (4, .int y11), (0, .ref (tg_ad x 0)), (1, .int v1), (2, .int v2), (3, .int v3)]) X dX7_chance_59 (by decide) rfl ?_
        refine tg_iconst X dX7_chance_61 tk_i0 ?_
        refine tg_istore (lv2 := [(9, .int 0), (7, .long y14), (5, .long r13), (4, .int y11), (0, .ref (tg_ad x 0)), (1, .int v1), (2, .int v2), (3, .int v3)]) X dX7_chance_62 (by decide) rfl ?_
        refine tg_re [7, 3, 2, 1, 0] rfl ?_
        exact wl_X7_chance_64 X  tg_F S12 v3 y11 r13 y14 0 h
      · have h := tg_ifT c9 h
        refine tg_ldc2 X wk_X7_244 dX7_chance_25 ?_
        exact tg_lret X h rfl dX7_chance_28
theorem cm_X7_chance (l : Launch) (D : va_G) (cy : Bool → ClassId) (ad : Nat → Nat) (tS : Nat) {S Sf : tg_S} {v1 : Int32} {v2 : Int32} {v3 : Int32} {r : Int64} (h : f_X7_chance  S v1 v2 v3 = some (Sf, r)) : tg_Met l yX7_chance cX7_chance 10 (some .long) zr_X7_chance tauC D cy ad tS S [.ref (ad 0), .int v1, .int v2, .int v3] Sf (some (.long r)) := tg_mk (by decide +kernel) trivial (Nat.le_of_ble_eq_true rfl) (fun p e s m args below meth c Q A X => w_X7_chance_0 X S v1 v2 v3 h)
-- X7_years
def zr_X7_years : Room := { frames := 4, cells := 0, slots := 0, locals := 96 }
theorem dX7_years_0 : decode cX7_years 0 = .ok (.iload_n 2, 1) := by decide +kernel
theorem dX7_years_1 : decode cX7_years 1 = .ok (.bipush 25, 2) := by decide +kernel
theorem dX7_years_3 : decode cX7_years 3 = .ok (.invokestatic 75, 3) := by decide +kernel
theorem dX7_years_6 : decode cX7_years 6 = .ok (.ifCond .eq 11, 3) := by decide +kernel
theorem dX7_years_9 : decode cX7_years 9 = .ok (.iload_n 3, 1) := by decide +kernel
theorem dX7_years_10 : decode cX7_years 10 = .ok (.iconst 2, 1) := by decide +kernel
theorem dX7_years_11 : decode cX7_years 11 = .ok (.invokestatic 75, 3) := by decide +kernel
theorem dX7_years_14 : decode cX7_years 14 = .ok (.ifCond .ne 6, 3) := by decide +kernel
theorem dX7_years_17 : decode cX7_years 17 = .ok (.bipush (-2), 2) := by decide +kernel
theorem dX7_years_19 : decode cX7_years 19 = .ok (.ireturn, 1) := by decide +kernel
theorem dX7_years_20 : decode cX7_years 20 = .ok (.aload_n 0, 1) := by decide +kernel
theorem dX7_years_21 : decode cX7_years 21 = .ok (.getfield 48, 3) := by decide +kernel
theorem dX7_years_24 : decode cX7_years 24 = .ok (.aload_n 0, 1) := by decide +kernel
theorem dX7_years_25 : decode cX7_years 25 = .ok (.getfield 37, 3) := by decide +kernel
theorem dX7_years_28 : decode cX7_years 28 = .ok (.invokevirtual 190, 3) := by decide +kernel
theorem dX7_years_31 : decode cX7_years 31 = .ok (.iload_n 1, 1) := by decide +kernel
theorem dX7_years_32 : decode cX7_years 32 = .ok (.istore 4, 2) := by decide +kernel
theorem dX7_years_34 : decode cX7_years 34 = .ok (.iconst 0, 1) := by decide +kernel
theorem dX7_years_35 : decode cX7_years 35 = .ok (.istore 5, 2) := by decide +kernel
theorem dX7_years_37 : decode cX7_years 37 = .ok (.iload 5, 2) := by decide +kernel
theorem dX7_years_39 : decode cX7_years 39 = .ok (.bipush 24, 2) := by decide +kernel
theorem dX7_years_41 : decode cX7_years 41 = .ok (.if_icmp .ge 50, 3) := by decide +kernel
theorem dX7_years_44 : decode cX7_years 44 = .ok (.ldc 255, 2) := by decide +kernel
theorem dX7_years_46 : decode cX7_years 46 = .ok (.iload 4, 2) := by decide +kernel
theorem dX7_years_48 : decode cX7_years 48 = .ok (.imul, 1) := by decide +kernel
theorem dX7_years_49 : decode cX7_years 49 = .ok (.sipush 12345, 3) := by decide +kernel
theorem dX7_years_52 : decode cX7_years 52 = .ok (.iadd, 1) := by decide +kernel
theorem dX7_years_53 : decode cX7_years 53 = .ok (.istore 4, 2) := by decide +kernel
theorem dX7_years_55 : decode cX7_years 55 = .ok (.aload_n 0, 1) := by decide +kernel
theorem dX7_years_56 : decode cX7_years 56 = .ok (.getfield 48, 3) := by decide +kernel
theorem dX7_years_59 : decode cX7_years 59 = .ok (.getfield 112, 3) := by decide +kernel
theorem dX7_years_62 : decode cX7_years 62 = .ok (.bipush 24, 2) := by decide +kernel
theorem dX7_years_64 : decode cX7_years 64 = .ok (.iload 5, 2) := by decide +kernel
theorem dX7_years_66 : decode cX7_years 66 = .ok (.iadd, 1) := by decide +kernel
theorem dX7_years_67 : decode cX7_years 67 = .ok (.iload 5, 2) := by decide +kernel
theorem dX7_years_69 : decode cX7_years 69 = .ok (.iload_n 2, 1) := by decide +kernel
theorem dX7_years_70 : decode cX7_years 70 = .ok (.if_icmp .ge 13, 3) := by decide +kernel
theorem dX7_years_73 : decode cX7_years 73 = .ok (.iload 4, 2) := by decide +kernel
theorem dX7_years_75 : decode cX7_years 75 = .ok (.bipush 16, 2) := by decide +kernel
theorem dX7_years_77 : decode cX7_years 77 = .ok (.iushr, 1) := by decide +kernel
theorem dX7_years_78 : decode cX7_years 78 = .ok (.iconst 3, 1) := by decide +kernel
theorem dX7_years_79 : decode cX7_years 79 = .ok (.irem, 1) := by decide +kernel
theorem dX7_years_80 : decode cX7_years 80 = .ok (.goto 4, 3) := by decide +kernel
theorem dX7_years_83 : decode cX7_years 83 = .ok (.iconst 1, 1) := by decide +kernel
theorem dX7_years_84 : decode cX7_years 84 = .ok (.iastore, 1) := by decide +kernel
theorem dX7_years_85 : decode cX7_years 85 = .ok (.iinc 5 1, 3) := by decide +kernel
theorem dX7_years_88 : decode cX7_years 88 = .ok (.goto (-51), 3) := by decide +kernel
theorem dX7_years_91 : decode cX7_years 91 = .ok (.aload_n 0, 1) := by decide +kernel
theorem dX7_years_92 : decode cX7_years 92 = .ok (.getfield 51, 3) := by decide +kernel
theorem dX7_years_95 : decode cX7_years 95 = .ok (.aload_n 0, 1) := by decide +kernel
theorem dX7_years_96 : decode cX7_years 96 = .ok (.getfield 48, 3) := by decide +kernel
theorem dX7_years_99 : decode cX7_years 99 = .ok (.invokevirtual 198, 3) := by decide +kernel
theorem dX7_years_102 : decode cX7_years 102 = .ok (.istore 5, 2) := by decide +kernel
theorem dX7_years_104 : decode cX7_years 104 = .ok (.iload_n 3, 1) := by decide +kernel
theorem dX7_years_105 : decode cX7_years 105 = .ok (.ifCond .ne 8, 3) := by decide +kernel
theorem dX7_years_108 : decode cX7_years 108 = .ok (.iload 5, 2) := by decide +kernel
theorem dX7_years_110 : decode cX7_years 110 = .ok (.goto 10, 3) := by decide +kernel
theorem dX7_years_113 : decode cX7_years 113 = .ok (.aload_n 0, 1) := by decide +kernel
theorem dX7_years_114 : decode cX7_years 114 = .ok (.getfield 51, 3) := by decide +kernel
theorem dX7_years_117 : decode cX7_years 117 = .ok (.getfield 169, 3) := by decide +kernel
theorem dX7_years_120 : decode cX7_years 120 = .ok (.ireturn, 1) := by decide +kernel
set_option maxRecDepth 20000 in
set_option maxHeartbeats 4000000 in
theorem w_X7_years_84 {x : tg_X} {Sf : tg_S} {r : Int32} {rec37 : tg_S → Int32 → Int32 → Int32 → Int32 → Option (tg_S × Int32)} (X : tg_M tauC x cX7_years 6 RX7 zr_X7_years (some .int) Sf (some (.int r))) (hr37 : ∀ (S : tg_S) (v2 : Int32) (v3 : Int32) (v4 : Int32) (v5 : Int32), rec37 S v2 v3 v4 v5 = some (Sf, r) → tg_G tauC x S 37 [(0, .ref (tg_ad x 0)), (2, .int v2), (3, .int v3), (4, .int v4), (5, .int v5)] []) (S : tg_S) (v2 : Int32) (v3 : Int32) (v4 : Int32) (v5 : Int32) (s0 : Int32) (s1 : Int32) (h : f_X7_years_84 rec37 S v2 v3 v4 v5 s0 s1 = some (Sf, r)) : tg_G tauC x S 84 [(0, .ref (tg_ad x 0)), (2, .int v2), (3, .int v3), (4, .int v4), (5, .int v5)] [.int s0, .int s1, .ref (tg_ad x 30)] := by
  unfold f_X7_years_84 at h
  obtain ⟨S1, eS1, bS1, h⟩ := tg_wrE h
  refine tg_iast X 30 rfl bS1 dX7_years_84 eS1 ?_
  obtain ⟨y2, ey2⟩ : ∃ z : Int32, z = v5 + 1 := ⟨_, rfl⟩
  have h := tg_nmE ey2 h
  refine tg_iinc (lv2 := [(5, .int y2), (0, .ref (tg_ad x 0)), (2, .int v2), (3, .int v3), (4, .int v4)]) X dX7_years_85 4 rfl tk_i1 ey2 (by decide) rfl ?_
  refine tg_goto (tgt := 37) X dX7_years_88 (by decide) ?_
  refine tg_re [1, 2, 3, 4, 0] rfl ?_
  exact hr37 S1 v2 v3 v4 y2 h
set_option maxRecDepth 20000 in
set_option maxHeartbeats 4000000 in
theorem w_X7_years_37 {x : tg_X} {Sf : tg_S} {r : Int32} {rec37 : tg_S → Int32 → Int32 → Int32 → Int32 → Option (tg_S × Int32)} (X : tg_M tauC x cX7_years 6 RX7 zr_X7_years (some .int) Sf (some (.int r))) (hr37 : ∀ (S : tg_S) (v2 : Int32) (v3 : Int32) (v4 : Int32) (v5 : Int32), rec37 S v2 v3 v4 v5 = some (Sf, r) → tg_G tauC x S 37 [(0, .ref (tg_ad x 0)), (2, .int v2), (3, .int v3), (4, .int v4), (5, .int v5)] []) (S : tg_S) (v2 : Int32) (v3 : Int32) (v4 : Int32) (v5 : Int32) (h : f_X7_years_37 rec37 S v2 v3 v4 v5 = some (Sf, r)) : tg_G tauC x S 37 [(0, .ref (tg_ad x 0)), (2, .int v2), (3, .int v3), (4, .int v4), (5, .int v5)] [] := by
  unfold f_X7_years_37 at h
  refine tg_iload X dX7_years_37 4 rfl ?_
  refine tg_bipush X dX7_years_39 tk_b24 ?_
  refine tg_icmp_ge (tgt := 91) X dX7_years_41 (by decide) (fun c1 => ?_) (fun c1 => ?_)
  · have h := tg_ifT c1 h
    refine tg_aload_n X dX7_years_91 rfl 0 rfl ?_
    refine tg_getr X 0 rfl cl_X7 7 (by decide) rfl wf_X7_51 dX7_years_92 ?_
    refine tg_aload_n X dX7_years_95 rfl 0 rfl ?_
    refine tg_getr X 0 rfl cl_X7 6 (by decide) rfl wf_X7_48 dX7_years_96 ?_
    obtain ⟨S2, r3, kS2, h⟩ := tg_bdE h
    refine tg_callV (As := [.ref (tg_ad x 23)]) (rest := []) X 42 (cm_X2_play_b _ _ _ _ _ kS2) yy_X2_play wv_X2_play ws_X2_play wm_X7_198 rfl cl_X2.1 ⟨rfl, rfl, Nat.le_of_ble_eq_true rfl, Nat.le_of_ble_eq_true rfl⟩ rfl rfl (Nat.le_of_ble_eq_true rfl) dX7_years_99 rfl ?_
    refine tg_istore (lv2 := [(5, .int r3), (0, .ref (tg_ad x 0)), (2, .int v2), (3, .int v3), (4, .int v4)]) X dX7_years_102 (by decide) rfl ?_
    refine tg_iload_n X dX7_years_104 rfl 3 rfl ?_
    refine tg_if_ne (tgt := 113) X dX7_years_105 (by decide) (fun c4 => ?_) (fun c4 => ?_)
    · have h := tg_ifF c4 h
      refine tg_aload_n X dX7_years_113 rfl 1 rfl ?_
      refine tg_getr X 0 rfl cl_X7 7 (by decide) rfl wf_X7_51 dX7_years_114 ?_
      refine tg_geti X 42 rfl cl_X2 5 (by decide) rfl wf_X7_169 dX7_years_117 ?_
      exact tg_iret X h rfl dX7_years_120
    · have h := tg_ifT c4 h
      refine tg_iload X dX7_years_108 0 rfl ?_
      refine tg_goto (tgt := 120) X dX7_years_110 (by decide) ?_
      exact tg_iret X h rfl dX7_years_120
  · have h := tg_ifF c1 h
    refine tg_ldc X wk_X7_255 dX7_years_44 ?_
    refine tg_iload X dX7_years_46 3 rfl ?_
    refine tg_imul X dX7_years_48 ?_
    refine tg_sipush X dX7_years_49 tk_s12345 ?_
    refine tg_iadd X dX7_years_52 ?_
    refine tg_topi (fun y5 ey5 => ?_)
    have h := tg_nmE ey5 h
    refine tg_istore (lv2 := [(4, .int y5), (0, .ref (tg_ad x 0)), (2, .int v2), (3, .int v3), (5, .int v5)]) X dX7_years_53 (by decide) rfl ?_
    refine tg_aload_n X dX7_years_55 rfl 1 rfl ?_
    refine tg_getr X 0 rfl cl_X7 6 (by decide) rfl wf_X7_48 dX7_years_56 ?_
    refine tg_getr X 23 rfl cl_X1 6 (by decide) rfl wf_X7_112 dX7_years_59 ?_
    refine tg_bipush X dX7_years_62 tk_b24 ?_
    refine tg_iload X dX7_years_64 4 rfl ?_
    refine tg_iadd X dX7_years_66 ?_
    refine tg_iload X dX7_years_67 4 rfl ?_
    refine tg_iload_n X dX7_years_69 rfl 2 rfl ?_
    refine tg_icmp_ge (tgt := 83) X dX7_years_70 (by decide) (fun c6 => ?_) (fun c6 => ?_)
    · rw [if_pos c6] at h
      refine tg_iconst X dX7_years_83 tk_i1 ?_
      refine tg_re [1, 2, 3, 0, 4] rfl ?_
      exact w_X7_years_84 X hr37 S v2 v3 y5 v5 1 (24 + v5) h
    · rw [if_neg c6] at h
      refine tg_iload X dX7_years_73 0 rfl ?_
      refine tg_bipush X dX7_years_75 tk_b16 ?_
      refine tg_iushr X dX7_years_77 ?_
      refine tg_iconst X dX7_years_78 tk_i3 ?_
      refine tg_irem X dX7_years_79 (by decide) ?_
      refine tg_goto (tgt := 84) X dX7_years_80 (by decide) ?_
      refine tg_re [1, 2, 3, 0, 4] rfl ?_
      exact w_X7_years_84 X hr37 S v2 v3 y5 v5 ((((y5).toUInt32 >>> ((16 : Int32).toUInt32 &&& Int32.toUInt32 31)).toInt32) - (((y5).toUInt32 >>> ((16 : Int32).toUInt32 &&& Int32.toUInt32 31)).toInt32) / 3 * 3) (24 + v5) h
theorem wl_X7_years_37 {x : tg_X} {Sf : tg_S} {r : Int32} (X : tg_M tauC x cX7_years 6 RX7 zr_X7_years (some .int) Sf (some (.int r))) : ∀ (n : Nat) (S : tg_S) (v2 : Int32) (v3 : Int32) (v4 : Int32) (v5 : Int32) (h : L_X7_years_37  n S v2 v3 v4 v5 = some (Sf, r)), tg_G tauC x S 37 [(0, .ref (tg_ad x 0)), (2, .int v2), (3, .int v3), (4, .int v4), (5, .int v5)] [] := by
  intro n
  induction n with
  | zero => intro S v2 v3 v4 v5 h; cases h
  | succ n ih => intro S v2 v3 v4 v5 h; exact w_X7_years_37 X  ih S v2 v3 v4 v5 h
set_option maxRecDepth 20000 in
set_option maxHeartbeats 4000000 in
theorem w_X7_years_0 {x : tg_X} {Sf : tg_S} {r : Int32} (X : tg_M tauC x cX7_years 6 RX7 zr_X7_years (some .int) Sf (some (.int r))) (S : tg_S) (v1 : Int32) (v2 : Int32) (v3 : Int32) (h : f_X7_years  S v1 v2 v3 = some (Sf, r)) : tg_G tauC x S 0 [(0, .ref (tg_ad x 0)), (1, .int v1), (2, .int v2), (3, .int v3)] [] := by
  unfold f_X7_years at h
  refine tg_iload_n X dX7_years_0 rfl 2 rfl ?_
  refine tg_bipush X dX7_years_1 tk_b25 ?_
  obtain ⟨S1, r2, kS1, h⟩ := tg_bdE h
  refine tg_callS (As := [.int v2, .int 25]) (rest := []) X (cm_X7_isBelow _ _ _ _ _ kS1) yy_X7_isBelow wt_X7_isBelow wm_X7_75 ⟨rfl, rfl, Nat.le_of_ble_eq_true rfl, Nat.le_of_ble_eq_true rfl⟩ rfl rfl (Nat.le_of_ble_eq_true rfl) dX7_years_3 rfl ?_
  refine tg_if_eq (tgt := 17) X dX7_years_6 (by decide) (fun c3 => ?_) (fun c3 => ?_)
  · have h := tg_ifT c3 h
    refine tg_bipush X dX7_years_17 tk_bm2 ?_
    exact tg_iret X h rfl dX7_years_19
  · have h := tg_ifF c3 h
    refine tg_iload_n X dX7_years_9 rfl 3 rfl ?_
    refine tg_iconst X dX7_years_10 tk_i2 ?_
    obtain ⟨S4, r5, kS4, h⟩ := tg_bdE h
    refine tg_callS (As := [.int v3, .int 2]) (rest := []) X (cm_X7_isBelow _ _ _ _ _ kS4) yy_X7_isBelow wt_X7_isBelow wm_X7_75 ⟨rfl, rfl, Nat.le_of_ble_eq_true rfl, Nat.le_of_ble_eq_true rfl⟩ rfl rfl (Nat.le_of_ble_eq_true rfl) dX7_years_11 rfl ?_
    refine tg_if_ne (tgt := 20) X dX7_years_14 (by decide) (fun c6 => ?_) (fun c6 => ?_)
    · have h := tg_ifF c6 h
      refine tg_aload_n X dX7_years_20 rfl 0 rfl ?_
      refine tg_getr X 0 rfl cl_X7 6 (by decide) rfl wf_X7_48 dX7_years_21 ?_
      refine tg_aload_n X dX7_years_24 rfl 0 rfl ?_
      refine tg_getr X 0 rfl cl_X7 4 (by decide) rfl wf_X7_37 dX7_years_25 ?_
      obtain ⟨S7, kS7, h⟩ := tg_bvE h
      refine tg_callV (As := [.ref (tg_ad x 11)]) (rest := []) X 23 (cm_X1_becomeLike _ _ _ _ _ kS7) yy_X1_becomeLike wv_X1_becomeLike ws_X1_becomeLike wm_X7_190 rfl cl_X1.1 ⟨rfl, rfl, Nat.le_of_ble_eq_true rfl, Nat.le_of_ble_eq_true rfl⟩ rfl rfl (Nat.le_of_ble_eq_true rfl) dX7_years_28 rfl ?_
      refine tg_iload_n X dX7_years_31 rfl 1 rfl ?_
      refine tg_istore (lv2 := [(4, .int v1), (0, .ref (tg_ad x 0)), (1, .int v1), (2, .int v2), (3, .int v3)]) X dX7_years_32 (by decide) rfl ?_
      refine tg_iconst X dX7_years_34 tk_i0 ?_
      refine tg_istore (lv2 := [(5, .int 0), (4, .int v1), (0, .ref (tg_ad x 0)), (1, .int v1), (2, .int v2), (3, .int v3)]) X dX7_years_35 (by decide) rfl ?_
      refine tg_re [2, 4, 5, 1, 0] rfl ?_
      exact wl_X7_years_37 X  tg_F S7 v2 v3 v1 0 h
    · have h := tg_ifT c6 h
      refine tg_bipush X dX7_years_17 tk_bm2 ?_
      exact tg_iret X h rfl dX7_years_19
theorem cm_X7_years (l : Launch) (D : va_G) (cy : Bool → ClassId) (ad : Nat → Nat) (tS : Nat) {S Sf : tg_S} {v1 : Int32} {v2 : Int32} {v3 : Int32} {r : Int32} (h : f_X7_years  S v1 v2 v3 = some (Sf, r)) : tg_Met l yX7_years cX7_years 6 (some .int) zr_X7_years tauC D cy ad tS S [.ref (ad 0), .int v1, .int v2, .int v3] Sf (some (.int r)) := tg_mk (by decide +kernel) trivial (Nat.le_of_ble_eq_true rfl) (fun p e s m args below meth c Q A X => w_X7_years_0 X S v1 v2 v3 h)
-- X7_sheet
def zr_X7_sheet : Room := { frames := 1, cells := 0, slots := 0, locals := 24 }
theorem dX7_sheet_0 : decode cX7_sheet 0 = .ok (.iload_n 1, 1) := by decide +kernel
theorem dX7_sheet_1 : decode cX7_sheet 1 = .ok (.iconst 4, 1) := by decide +kernel
theorem dX7_sheet_2 : decode cX7_sheet 2 = .ok (.invokestatic 75, 3) := by decide +kernel
theorem dX7_sheet_5 : decode cX7_sheet 5 = .ok (.ifCond .eq 17, 3) := by decide +kernel
theorem dX7_sheet_8 : decode cX7_sheet 8 = .ok (.iload_n 2, 1) := by decide +kernel
theorem dX7_sheet_9 : decode cX7_sheet 9 = .ok (.iconst 3, 1) := by decide +kernel
theorem dX7_sheet_10 : decode cX7_sheet 10 = .ok (.invokestatic 75, 3) := by decide +kernel
theorem dX7_sheet_13 : decode cX7_sheet 13 = .ok (.ifCond .eq 9, 3) := by decide +kernel
theorem dX7_sheet_16 : decode cX7_sheet 16 = .ok (.iload_n 3, 1) := by decide +kernel
theorem dX7_sheet_17 : decode cX7_sheet 17 = .ok (.bipush 60, 2) := by decide +kernel
theorem dX7_sheet_19 : decode cX7_sheet 19 = .ok (.if_icmp .le 6, 3) := by decide +kernel
theorem dX7_sheet_22 : decode cX7_sheet 22 = .ok (.bipush (-2), 2) := by decide +kernel
theorem dX7_sheet_24 : decode cX7_sheet 24 = .ok (.ireturn, 1) := by decide +kernel
theorem dX7_sheet_25 : decode cX7_sheet 25 = .ok (.iload_n 3, 1) := by decide +kernel
theorem dX7_sheet_26 : decode cX7_sheet 26 = .ok (.ifCond .ge 9, 3) := by decide +kernel
theorem dX7_sheet_29 : decode cX7_sheet 29 = .ok (.aload_n 0, 1) := by decide +kernel
theorem dX7_sheet_30 : decode cX7_sheet 30 = .ok (.iconst 5, 1) := by decide +kernel
theorem dX7_sheet_31 : decode cX7_sheet 31 = .ok (.invokevirtual 143, 3) := by decide +kernel
theorem dX7_sheet_34 : decode cX7_sheet 34 = .ok (.ireturn, 1) := by decide +kernel
theorem dX7_sheet_35 : decode cX7_sheet 35 = .ok (.aload_n 0, 1) := by decide +kernel
theorem dX7_sheet_36 : decode cX7_sheet 36 = .ok (.getfield 26, 3) := by decide +kernel
theorem dX7_sheet_39 : decode cX7_sheet 39 = .ok (.iload_n 1, 1) := by decide +kernel
theorem dX7_sheet_40 : decode cX7_sheet 40 = .ok (.iload_n 2, 1) := by decide +kernel
theorem dX7_sheet_41 : decode cX7_sheet 41 = .ok (.iload_n 3, 1) := by decide +kernel
theorem dX7_sheet_42 : decode cX7_sheet 42 = .ok (.invokevirtual 256, 3) := by decide +kernel
theorem dX7_sheet_45 : decode cX7_sheet 45 = .ok (.iload_n 3, 1) := by decide +kernel
theorem dX7_sheet_46 : decode cX7_sheet 46 = .ok (.ireturn, 1) := by decide +kernel
set_option maxRecDepth 20000 in
set_option maxHeartbeats 4000000 in
theorem w_X7_sheet_0 {x : tg_X} {Sf : tg_S} {r : Int32} (X : tg_M tauC x cX7_sheet 4 RX7 zr_X7_sheet (some .int) Sf (some (.int r))) (S : tg_S) (v1 : Int32) (v2 : Int32) (v3 : Int32) (h : f_X7_sheet  S v1 v2 v3 = some (Sf, r)) : tg_G tauC x S 0 [(0, .ref (tg_ad x 0)), (1, .int v1), (2, .int v2), (3, .int v3)] [] := by
  unfold f_X7_sheet at h
  refine tg_iload_n X dX7_sheet_0 rfl 1 rfl ?_
  refine tg_iconst X dX7_sheet_1 tk_i4 ?_
  obtain ⟨S1, r2, kS1, h⟩ := tg_bdE h
  refine tg_callS (As := [.int v1, .int 4]) (rest := []) X (cm_X7_isBelow _ _ _ _ _ kS1) yy_X7_isBelow wt_X7_isBelow wm_X7_75 ⟨rfl, rfl, Nat.le_of_ble_eq_true rfl, Nat.le_of_ble_eq_true rfl⟩ rfl rfl (Nat.le_of_ble_eq_true rfl) dX7_sheet_2 rfl ?_
  refine tg_if_eq (tgt := 22) X dX7_sheet_5 (by decide) (fun c3 => ?_) (fun c3 => ?_)
  · have h := tg_ifT c3 h
    refine tg_bipush X dX7_sheet_22 tk_bm2 ?_
    exact tg_iret X h rfl dX7_sheet_24
  · have h := tg_ifF c3 h
    refine tg_iload_n X dX7_sheet_8 rfl 2 rfl ?_
    refine tg_iconst X dX7_sheet_9 tk_i3 ?_
    obtain ⟨S4, r5, kS4, h⟩ := tg_bdE h
    refine tg_callS (As := [.int v2, .int 3]) (rest := []) X (cm_X7_isBelow _ _ _ _ _ kS4) yy_X7_isBelow wt_X7_isBelow wm_X7_75 ⟨rfl, rfl, Nat.le_of_ble_eq_true rfl, Nat.le_of_ble_eq_true rfl⟩ rfl rfl (Nat.le_of_ble_eq_true rfl) dX7_sheet_10 rfl ?_
    refine tg_if_eq (tgt := 22) X dX7_sheet_13 (by decide) (fun c6 => ?_) (fun c6 => ?_)
    · have h := tg_ifT c6 h
      refine tg_bipush X dX7_sheet_22 tk_bm2 ?_
      exact tg_iret X h rfl dX7_sheet_24
    · have h := tg_ifF c6 h
      refine tg_iload_n X dX7_sheet_16 rfl 3 rfl ?_
      refine tg_bipush X dX7_sheet_17 tk_b60 ?_
      refine tg_icmp_le (tgt := 25) X dX7_sheet_19 (by decide) (fun c7 => ?_) (fun c7 => ?_)
      · have h := tg_ifT c7 h
        refine tg_iload_n X dX7_sheet_25 rfl 3 rfl ?_
        refine tg_if_ge (tgt := 35) X dX7_sheet_26 (by decide) (fun c8 => ?_) (fun c8 => ?_)
        · have h := tg_ifT c8 h
          refine tg_aload_n X dX7_sheet_35 rfl 0 rfl ?_
          refine tg_getr X 0 rfl cl_X7 2 (by decide) rfl wf_X7_26 dX7_sheet_36 ?_
          refine tg_iload_n X dX7_sheet_39 rfl 1 rfl ?_
          refine tg_iload_n X dX7_sheet_40 rfl 2 rfl ?_
          refine tg_iload_n X dX7_sheet_41 rfl 3 rfl ?_
          obtain ⟨S9, kS9, h⟩ := tg_bvE h
          refine tg_callV (As := [.int v1, .int v2, .int v3]) (rest := []) X 7 (cm_X5_renew _ _ _ _ _ kS9) yy_X5_renew wv_X5_renew ws_X5_renew wm_X7_256 rfl cl_X5.1 ⟨rfl, rfl, Nat.le_of_ble_eq_true rfl, Nat.le_of_ble_eq_true rfl⟩ rfl rfl (Nat.le_of_ble_eq_true rfl) dX7_sheet_42 rfl ?_
          refine tg_iload_n X dX7_sheet_45 rfl 3 rfl ?_
          exact tg_iret X h rfl dX7_sheet_46
        · have h := tg_ifF c8 h
          refine tg_aload_n X dX7_sheet_29 rfl 0 rfl ?_
          refine tg_iconst X dX7_sheet_30 tk_i5 ?_
          obtain ⟨S10, r11, kS10, h⟩ := tg_bdE h
          refine tg_callV (As := [.int 5]) (rest := []) X 0 (cm_X7_found _ _ _ _ _ kS10) yy_X7_found wv_X7_found ws_X7_found wm_X7_143 rfl cl_X7.1 ⟨rfl, rfl, Nat.le_of_ble_eq_true rfl, Nat.le_of_ble_eq_true rfl⟩ rfl rfl (Nat.le_of_ble_eq_true rfl) dX7_sheet_31 rfl ?_
          exact tg_iret X h rfl dX7_sheet_34
      · have h := tg_ifF c7 h
        refine tg_bipush X dX7_sheet_22 tk_bm2 ?_
        exact tg_iret X h rfl dX7_sheet_24
theorem cm_X7_sheet (l : Launch) (D : va_G) (cy : Bool → ClassId) (ad : Nat → Nat) (tS : Nat) {S Sf : tg_S} {v1 : Int32} {v2 : Int32} {v3 : Int32} {r : Int32} (h : f_X7_sheet  S v1 v2 v3 = some (Sf, r)) : tg_Met l yX7_sheet cX7_sheet 4 (some .int) zr_X7_sheet tauC D cy ad tS S [.ref (ad 0), .int v1, .int v2, .int v3] Sf (some (.int r)) := tg_mk (by decide +kernel) trivial (Nat.le_of_ble_eq_true rfl) (fun p e s m args below meth c Q A X => w_X7_sheet_0 X S v1 v2 v3 h)
-- X7_lose
def zr_X7_lose : Room := { frames := 1, cells := 0, slots := 0, locals := 22 }
theorem dX7_lose_0 : decode cX7_lose 0 = .ok (.iload_n 1, 1) := by decide +kernel
theorem dX7_lose_1 : decode cX7_lose 1 = .ok (.iconst 4, 1) := by decide +kernel
theorem dX7_lose_2 : decode cX7_lose 2 = .ok (.invokestatic 75, 3) := by decide +kernel
theorem dX7_lose_5 : decode cX7_lose 5 = .ok (.ifCond .ne 6, 3) := by decide +kernel
theorem dX7_lose_8 : decode cX7_lose 8 = .ok (.bipush (-2), 2) := by decide +kernel
theorem dX7_lose_10 : decode cX7_lose 10 = .ok (.ireturn, 1) := by decide +kernel
theorem dX7_lose_11 : decode cX7_lose 11 = .ok (.aload_n 0, 1) := by decide +kernel
theorem dX7_lose_12 : decode cX7_lose 12 = .ok (.getfield 26, 3) := by decide +kernel
theorem dX7_lose_15 : decode cX7_lose 15 = .ok (.iload_n 1, 1) := by decide +kernel
theorem dX7_lose_16 : decode cX7_lose 16 = .ok (.invokevirtual 140, 3) := by decide +kernel
theorem dX7_lose_19 : decode cX7_lose 19 = .ok (.ifCond .eq 9, 3) := by decide +kernel
theorem dX7_lose_22 : decode cX7_lose 22 = .ok (.aload_n 0, 1) := by decide +kernel
theorem dX7_lose_23 : decode cX7_lose 23 = .ok (.iconst 1, 1) := by decide +kernel
theorem dX7_lose_24 : decode cX7_lose 24 = .ok (.invokevirtual 143, 3) := by decide +kernel
theorem dX7_lose_27 : decode cX7_lose 27 = .ok (.ireturn, 1) := by decide +kernel
theorem dX7_lose_28 : decode cX7_lose 28 = .ok (.aload_n 0, 1) := by decide +kernel
theorem dX7_lose_29 : decode cX7_lose 29 = .ok (.getfield 26, 3) := by decide +kernel
theorem dX7_lose_32 : decode cX7_lose 32 = .ok (.iload_n 1, 1) := by decide +kernel
theorem dX7_lose_33 : decode cX7_lose 33 = .ok (.invokevirtual 259, 3) := by decide +kernel
theorem dX7_lose_36 : decode cX7_lose 36 = .ok (.ireturn, 1) := by decide +kernel
set_option maxRecDepth 20000 in
set_option maxHeartbeats 4000000 in
theorem w_X7_lose_0 {x : tg_X} {Sf : tg_S} {r : Int32} (X : tg_M tauC x cX7_lose 2 RX7 zr_X7_lose (some .int) Sf (some (.int r))) (S : tg_S) (v1 : Int32) (h : f_X7_lose  S v1 = some (Sf, r)) : tg_G tauC x S 0 [(0, .ref (tg_ad x 0)), (1, .int v1)] [] := by
  unfold f_X7_lose at h
  refine tg_iload_n X dX7_lose_0 rfl 1 rfl ?_
  refine tg_iconst X dX7_lose_1 tk_i4 ?_
  obtain ⟨S1, r2, kS1, h⟩ := tg_bdE h
  refine tg_callS (As := [.int v1, .int 4]) (rest := []) X (cm_X7_isBelow _ _ _ _ _ kS1) yy_X7_isBelow wt_X7_isBelow wm_X7_75 ⟨rfl, rfl, Nat.le_of_ble_eq_true rfl, Nat.le_of_ble_eq_true rfl⟩ rfl rfl (Nat.le_of_ble_eq_true rfl) dX7_lose_2 rfl ?_
  refine tg_if_ne (tgt := 11) X dX7_lose_5 (by decide) (fun c3 => ?_) (fun c3 => ?_)
  · have h := tg_ifF c3 h
    refine tg_aload_n X dX7_lose_11 rfl 0 rfl ?_
    refine tg_getr X 0 rfl cl_X7 2 (by decide) rfl wf_X7_26 dX7_lose_12 ?_
    refine tg_iload_n X dX7_lose_15 rfl 1 rfl ?_
    obtain ⟨S4, r5, kS4, h⟩ := tg_bdE h
    refine tg_callV (As := [.int v1]) (rest := []) X 7 (cm_X5_isLost _ _ _ _ _ kS4) yy_X5_isLost wv_X5_isLost ws_X5_isLost wm_X7_140 rfl cl_X5.1 ⟨rfl, rfl, Nat.le_of_ble_eq_true rfl, Nat.le_of_ble_eq_true rfl⟩ rfl rfl (Nat.le_of_ble_eq_true rfl) dX7_lose_16 rfl ?_
    refine tg_if_eq (tgt := 28) X dX7_lose_19 (by decide) (fun c6 => ?_) (fun c6 => ?_)
    · have h := tg_ifT c6 h
      refine tg_aload_n X dX7_lose_28 rfl 0 rfl ?_
      refine tg_getr X 0 rfl cl_X7 2 (by decide) rfl wf_X7_26 dX7_lose_29 ?_
      refine tg_iload_n X dX7_lose_32 rfl 1 rfl ?_
      obtain ⟨S7, r8, kS7, h⟩ := tg_bdE h
      refine tg_callV (As := [.int v1]) (rest := []) X 7 (cm_X5_drop _ _ _ _ _ kS7) yy_X5_drop wv_X5_drop ws_X5_drop wm_X7_259 rfl cl_X5.1 ⟨rfl, rfl, Nat.le_of_ble_eq_true rfl, Nat.le_of_ble_eq_true rfl⟩ rfl rfl (Nat.le_of_ble_eq_true rfl) dX7_lose_33 rfl ?_
      exact tg_iret X h rfl dX7_lose_36
    · have h := tg_ifF c6 h
      refine tg_aload_n X dX7_lose_22 rfl 0 rfl ?_
      refine tg_iconst X dX7_lose_23 tk_i1 ?_
      obtain ⟨S9, r10, kS9, h⟩ := tg_bdE h
      refine tg_callV (As := [.int 1]) (rest := []) X 0 (cm_X7_found _ _ _ _ _ kS9) yy_X7_found wv_X7_found ws_X7_found wm_X7_143 rfl cl_X7.1 ⟨rfl, rfl, Nat.le_of_ble_eq_true rfl, Nat.le_of_ble_eq_true rfl⟩ rfl rfl (Nat.le_of_ble_eq_true rfl) dX7_lose_24 rfl ?_
      exact tg_iret X h rfl dX7_lose_27
  · have h := tg_ifT c3 h
    refine tg_bipush X dX7_lose_8 tk_bm2 ?_
    exact tg_iret X h rfl dX7_lose_10
theorem cm_X7_lose (l : Launch) (D : va_G) (cy : Bool → ClassId) (ad : Nat → Nat) (tS : Nat) {S Sf : tg_S} {v1 : Int32} {r : Int32} (h : f_X7_lose  S v1 = some (Sf, r)) : tg_Met l yX7_lose cX7_lose 2 (some .int) zr_X7_lose tauC D cy ad tS S [.ref (ad 0), .int v1] Sf (some (.int r)) := tg_mk (by decide +kernel) trivial (Nat.le_of_ble_eq_true rfl) (fun p e s m args below meth c Q A X => w_X7_lose_0 X S v1 h)
-- X7_put
def zr_X7_put : Room := { frames := 2, cells := 0, slots := 0, locals := 44 }
theorem dX7_put_0 : decode cX7_put 0 = .ok (.iload_n 1, 1) := by decide +kernel
theorem dX7_put_1 : decode cX7_put 1 = .ok (.iconst 4, 1) := by decide +kernel
theorem dX7_put_2 : decode cX7_put 2 = .ok (.invokestatic 75, 3) := by decide +kernel
theorem dX7_put_5 : decode cX7_put 5 = .ok (.ifCond .eq 11, 3) := by decide +kernel
theorem dX7_put_8 : decode cX7_put 8 = .ok (.iload_n 2, 1) := by decide +kernel
theorem dX7_put_9 : decode cX7_put 9 = .ok (.iconst 3, 1) := by decide +kernel
theorem dX7_put_10 : decode cX7_put 10 = .ok (.invokestatic 75, 3) := by decide +kernel
theorem dX7_put_13 : decode cX7_put 13 = .ok (.ifCond .ne 6, 3) := by decide +kernel
theorem dX7_put_16 : decode cX7_put 16 = .ok (.bipush (-2), 2) := by decide +kernel
theorem dX7_put_18 : decode cX7_put 18 = .ok (.ireturn, 1) := by decide +kernel
theorem dX7_put_19 : decode cX7_put 19 = .ok (.aload_n 0, 1) := by decide +kernel
theorem dX7_put_20 : decode cX7_put 20 = .ok (.getfield 26, 3) := by decide +kernel
theorem dX7_put_23 : decode cX7_put 23 = .ok (.iload_n 1, 1) := by decide +kernel
theorem dX7_put_24 : decode cX7_put 24 = .ok (.iload_n 2, 1) := by decide +kernel
theorem dX7_put_25 : decode cX7_put 25 = .ok (.iload_n 3, 1) := by decide +kernel
theorem dX7_put_26 : decode cX7_put 26 = .ok (.invokevirtual 262, 3) := by decide +kernel
theorem dX7_put_29 : decode cX7_put 29 = .ok (.istore 5, 2) := by decide +kernel
theorem dX7_put_31 : decode cX7_put 31 = .ok (.iload 5, 2) := by decide +kernel
theorem dX7_put_33 : decode cX7_put 33 = .ok (.ifCond .eq 10, 3) := by decide +kernel
theorem dX7_put_36 : decode cX7_put 36 = .ok (.aload_n 0, 1) := by decide +kernel
theorem dX7_put_37 : decode cX7_put 37 = .ok (.iload 5, 2) := by decide +kernel
theorem dX7_put_39 : decode cX7_put 39 = .ok (.invokevirtual 143, 3) := by decide +kernel
theorem dX7_put_42 : decode cX7_put 42 = .ok (.ireturn, 1) := by decide +kernel
theorem dX7_put_43 : decode cX7_put 43 = .ok (.aload_n 0, 1) := by decide +kernel
theorem dX7_put_44 : decode cX7_put 44 = .ok (.getfield 26, 3) := by decide +kernel
theorem dX7_put_47 : decode cX7_put 47 = .ok (.iload_n 1, 1) := by decide +kernel
theorem dX7_put_48 : decode cX7_put 48 = .ok (.iload_n 3, 1) := by decide +kernel
theorem dX7_put_49 : decode cX7_put 49 = .ok (.iload 4, 2) := by decide +kernel
theorem dX7_put_51 : decode cX7_put 51 = .ok (.invokevirtual 265, 3) := by decide +kernel
theorem dX7_put_54 : decode cX7_put 54 = .ok (.iconst 1, 1) := by decide +kernel
theorem dX7_put_55 : decode cX7_put 55 = .ok (.ireturn, 1) := by decide +kernel
set_option maxRecDepth 20000 in
set_option maxHeartbeats 4000000 in
theorem w_X7_put_0 {x : tg_X} {Sf : tg_S} {r : Int32} (X : tg_M tauC x cX7_put 6 RX7 zr_X7_put (some .int) Sf (some (.int r))) (S : tg_S) (v1 : Int32) (v2 : Int32) (v3 : Int32) (v4 : Int32) (h : f_X7_put  S v1 v2 v3 v4 = some (Sf, r)) : tg_G tauC x S 0 [(0, .ref (tg_ad x 0)), (1, .int v1), (2, .int v2), (3, .int v3), (4, .int v4)] [] := by
  unfold f_X7_put at h
  refine tg_iload_n X dX7_put_0 rfl 1 rfl ?_
  refine tg_iconst X dX7_put_1 tk_i4 ?_
  obtain ⟨S1, r2, kS1, h⟩ := tg_bdE h
  refine tg_callS (As := [.int v1, .int 4]) (rest := []) X (cm_X7_isBelow _ _ _ _ _ kS1) yy_X7_isBelow wt_X7_isBelow wm_X7_75 ⟨rfl, rfl, Nat.le_of_ble_eq_true rfl, Nat.le_of_ble_eq_true rfl⟩ rfl rfl (Nat.le_of_ble_eq_true rfl) dX7_put_2 rfl ?_
  refine tg_if_eq (tgt := 16) X dX7_put_5 (by decide) (fun c3 => ?_) (fun c3 => ?_)
  · have h := tg_ifT c3 h
    refine tg_bipush X dX7_put_16 tk_bm2 ?_
    exact tg_iret X h rfl dX7_put_18
  · have h := tg_ifF c3 h
    refine tg_iload_n X dX7_put_8 rfl 2 rfl ?_
    refine tg_iconst X dX7_put_9 tk_i3 ?_
    obtain ⟨S4, r5, kS4, h⟩ := tg_bdE h
    refine tg_callS (As := [.int v2, .int 3]) (rest := []) X (cm_X7_isBelow _ _ _ _ _ kS4) yy_X7_isBelow wt_X7_isBelow wm_X7_75 ⟨rfl, rfl, Nat.le_of_ble_eq_true rfl, Nat.le_of_ble_eq_true rfl⟩ rfl rfl (Nat.le_of_ble_eq_true rfl) dX7_put_10 rfl ?_
    refine tg_if_ne (tgt := 19) X dX7_put_13 (by decide) (fun c6 => ?_) (fun c6 => ?_)
    · have h := tg_ifF c6 h
      refine tg_aload_n X dX7_put_19 rfl 0 rfl ?_
      refine tg_getr X 0 rfl cl_X7 2 (by decide) rfl wf_X7_26 dX7_put_20 ?_
      refine tg_iload_n X dX7_put_23 rfl 1 rfl ?_
      refine tg_iload_n X dX7_put_24 rfl 2 rfl ?_
      refine tg_iload_n X dX7_put_25 rfl 3 rfl ?_
      obtain ⟨S7, r8, kS7, h⟩ := tg_bdE h
      refine tg_callV (As := [.int v1, .int v2, .int v3]) (rest := []) X 7 (cm_X5_whatIsWrong _ _ _ _ _ kS7) yy_X5_whatIsWrong wv_X5_whatIsWrong ws_X5_whatIsWrong wm_X7_262 rfl cl_X5.1 ⟨rfl, rfl, Nat.le_of_ble_eq_true rfl, Nat.le_of_ble_eq_true rfl⟩ rfl rfl (Nat.le_of_ble_eq_true rfl) dX7_put_26 rfl ?_
      refine tg_istore (lv2 := [(5, .int r8), (0, .ref (tg_ad x 0)), (1, .int v1), (2, .int v2), (3, .int v3), (4, .int v4)]) X dX7_put_29 (by decide) rfl ?_
      refine tg_iload X dX7_put_31 0 rfl ?_
      refine tg_if_eq (tgt := 43) X dX7_put_33 (by decide) (fun c9 => ?_) (fun c9 => ?_)
      · have h := tg_ifT c9 h
        refine tg_aload_n X dX7_put_43 rfl 1 rfl ?_
        refine tg_getr X 0 rfl cl_X7 2 (by decide) rfl wf_X7_26 dX7_put_44 ?_
        refine tg_iload_n X dX7_put_47 rfl 2 rfl ?_
        refine tg_iload_n X dX7_put_48 rfl 4 rfl ?_
        refine tg_iload X dX7_put_49 5 rfl ?_
        obtain ⟨S10, kS10, h⟩ := tg_bvE h
        refine tg_callV (As := [.int v1, .int v3, .int v4]) (rest := []) X 7 (cm_X5_store _ _ _ _ _ kS10) yy_X5_store wv_X5_store ws_X5_store wm_X7_265 rfl cl_X5.1 ⟨rfl, rfl, Nat.le_of_ble_eq_true rfl, Nat.le_of_ble_eq_true rfl⟩ rfl rfl (Nat.le_of_ble_eq_true rfl) dX7_put_51 rfl ?_
        refine tg_iconst X dX7_put_54 tk_i1 ?_
        exact tg_iret X h rfl dX7_put_55
      · have h := tg_ifF c9 h
        refine tg_aload_n X dX7_put_36 rfl 1 rfl ?_
        refine tg_iload X dX7_put_37 0 rfl ?_
        obtain ⟨S11, r12, kS11, h⟩ := tg_bdE h
        refine tg_callV (As := [.int r8]) (rest := []) X 0 (cm_X7_found _ _ _ _ _ kS11) yy_X7_found wv_X7_found ws_X7_found wm_X7_143 rfl cl_X7.1 ⟨rfl, rfl, Nat.le_of_ble_eq_true rfl, Nat.le_of_ble_eq_true rfl⟩ rfl rfl (Nat.le_of_ble_eq_true rfl) dX7_put_39 rfl ?_
        exact tg_iret X h rfl dX7_put_42
    · have h := tg_ifT c6 h
      refine tg_bipush X dX7_put_16 tk_bm2 ?_
      exact tg_iret X h rfl dX7_put_18
theorem cm_X7_put (l : Launch) (D : va_G) (cy : Bool → ClassId) (ad : Nat → Nat) (tS : Nat) {S Sf : tg_S} {v1 : Int32} {v2 : Int32} {v3 : Int32} {v4 : Int32} {r : Int32} (h : f_X7_put  S v1 v2 v3 v4 = some (Sf, r)) : tg_Met l yX7_put cX7_put 6 (some .int) zr_X7_put tauC D cy ad tS S [.ref (ad 0), .int v1, .int v2, .int v3, .int v4] Sf (some (.int r)) := tg_mk (by decide +kernel) trivial (Nat.le_of_ble_eq_true rfl) (fun p e s m args below meth c Q A X => w_X7_put_0 X S v1 v2 v3 v4 h)
-- X7_get
def zr_X7_get : Room := { frames := 2, cells := 0, slots := 0, locals := 44 }
theorem dX7_get_0 : decode cX7_get 0 = .ok (.iload_n 1, 1) := by decide +kernel
theorem dX7_get_1 : decode cX7_get 1 = .ok (.iconst 4, 1) := by decide +kernel
theorem dX7_get_2 : decode cX7_get 2 = .ok (.invokestatic 75, 3) := by decide +kernel
theorem dX7_get_5 : decode cX7_get 5 = .ok (.ifCond .eq 11, 3) := by decide +kernel
theorem dX7_get_8 : decode cX7_get 8 = .ok (.iload_n 2, 1) := by decide +kernel
theorem dX7_get_9 : decode cX7_get 9 = .ok (.iconst 3, 1) := by decide +kernel
theorem dX7_get_10 : decode cX7_get 10 = .ok (.invokestatic 75, 3) := by decide +kernel
theorem dX7_get_13 : decode cX7_get 13 = .ok (.ifCond .ne 7, 3) := by decide +kernel
theorem dX7_get_16 : decode cX7_get 16 = .ok (.ldc_w 270, 3) := by decide +kernel
theorem dX7_get_19 : decode cX7_get 19 = .ok (.ireturn, 1) := by decide +kernel
theorem dX7_get_20 : decode cX7_get 20 = .ok (.aload_n 0, 1) := by decide +kernel
theorem dX7_get_21 : decode cX7_get 21 = .ok (.getfield 26, 3) := by decide +kernel
theorem dX7_get_24 : decode cX7_get 24 = .ok (.iload_n 1, 1) := by decide +kernel
theorem dX7_get_25 : decode cX7_get 25 = .ok (.iload_n 2, 1) := by decide +kernel
theorem dX7_get_26 : decode cX7_get 26 = .ok (.iload_n 3, 1) := by decide +kernel
theorem dX7_get_27 : decode cX7_get 27 = .ok (.invokevirtual 262, 3) := by decide +kernel
theorem dX7_get_30 : decode cX7_get 30 = .ok (.istore 4, 2) := by decide +kernel
theorem dX7_get_32 : decode cX7_get 32 = .ok (.iload 4, 2) := by decide +kernel
theorem dX7_get_34 : decode cX7_get 34 = .ok (.ifCond .eq 14, 3) := by decide +kernel
theorem dX7_get_37 : decode cX7_get 37 = .ok (.aload_n 0, 1) := by decide +kernel
theorem dX7_get_38 : decode cX7_get 38 = .ok (.iload 4, 2) := by decide +kernel
theorem dX7_get_40 : decode cX7_get 40 = .ok (.invokevirtual 143, 3) := by decide +kernel
theorem dX7_get_43 : decode cX7_get 43 = .ok (.pop, 1) := by decide +kernel
theorem dX7_get_44 : decode cX7_get 44 = .ok (.ldc_w 270, 3) := by decide +kernel
theorem dX7_get_47 : decode cX7_get 47 = .ok (.ireturn, 1) := by decide +kernel
theorem dX7_get_48 : decode cX7_get 48 = .ok (.aload_n 0, 1) := by decide +kernel
theorem dX7_get_49 : decode cX7_get 49 = .ok (.getfield 26, 3) := by decide +kernel
theorem dX7_get_52 : decode cX7_get 52 = .ok (.iload_n 1, 1) := by decide +kernel
theorem dX7_get_53 : decode cX7_get 53 = .ok (.iload_n 3, 1) := by decide +kernel
theorem dX7_get_54 : decode cX7_get 54 = .ok (.invokevirtual 148, 3) := by decide +kernel
theorem dX7_get_57 : decode cX7_get 57 = .ok (.ireturn, 1) := by decide +kernel
set_option maxRecDepth 20000 in
set_option maxHeartbeats 4000000 in
theorem w_X7_get_0 {x : tg_X} {Sf : tg_S} {r : Int32} (X : tg_M tauC x cX7_get 5 RX7 zr_X7_get (some .int) Sf (some (.int r))) (S : tg_S) (v1 : Int32) (v2 : Int32) (v3 : Int32) (h : f_X7_get  S v1 v2 v3 = some (Sf, r)) : tg_G tauC x S 0 [(0, .ref (tg_ad x 0)), (1, .int v1), (2, .int v2), (3, .int v3)] [] := by
  unfold f_X7_get at h
  refine tg_iload_n X dX7_get_0 rfl 1 rfl ?_
  refine tg_iconst X dX7_get_1 tk_i4 ?_
  obtain ⟨S1, r2, kS1, h⟩ := tg_bdE h
  refine tg_callS (As := [.int v1, .int 4]) (rest := []) X (cm_X7_isBelow _ _ _ _ _ kS1) yy_X7_isBelow wt_X7_isBelow wm_X7_75 ⟨rfl, rfl, Nat.le_of_ble_eq_true rfl, Nat.le_of_ble_eq_true rfl⟩ rfl rfl (Nat.le_of_ble_eq_true rfl) dX7_get_2 rfl ?_
  refine tg_if_eq (tgt := 16) X dX7_get_5 (by decide) (fun c3 => ?_) (fun c3 => ?_)
  · have h := tg_ifT c3 h
    refine tg_ldcw X wk_X7_270 dX7_get_16 ?_
    exact tg_iret X h rfl dX7_get_19
  · have h := tg_ifF c3 h
    refine tg_iload_n X dX7_get_8 rfl 2 rfl ?_
    refine tg_iconst X dX7_get_9 tk_i3 ?_
    obtain ⟨S4, r5, kS4, h⟩ := tg_bdE h
    refine tg_callS (As := [.int v2, .int 3]) (rest := []) X (cm_X7_isBelow _ _ _ _ _ kS4) yy_X7_isBelow wt_X7_isBelow wm_X7_75 ⟨rfl, rfl, Nat.le_of_ble_eq_true rfl, Nat.le_of_ble_eq_true rfl⟩ rfl rfl (Nat.le_of_ble_eq_true rfl) dX7_get_10 rfl ?_
    refine tg_if_ne (tgt := 20) X dX7_get_13 (by decide) (fun c6 => ?_) (fun c6 => ?_)
    · have h := tg_ifF c6 h
      refine tg_aload_n X dX7_get_20 rfl 0 rfl ?_
      refine tg_getr X 0 rfl cl_X7 2 (by decide) rfl wf_X7_26 dX7_get_21 ?_
      refine tg_iload_n X dX7_get_24 rfl 1 rfl ?_
      refine tg_iload_n X dX7_get_25 rfl 2 rfl ?_
      refine tg_iload_n X dX7_get_26 rfl 3 rfl ?_
      obtain ⟨S7, r8, kS7, h⟩ := tg_bdE h
      refine tg_callV (As := [.int v1, .int v2, .int v3]) (rest := []) X 7 (cm_X5_whatIsWrong _ _ _ _ _ kS7) yy_X5_whatIsWrong wv_X5_whatIsWrong ws_X5_whatIsWrong wm_X7_262 rfl cl_X5.1 ⟨rfl, rfl, Nat.le_of_ble_eq_true rfl, Nat.le_of_ble_eq_true rfl⟩ rfl rfl (Nat.le_of_ble_eq_true rfl) dX7_get_27 rfl ?_
      refine tg_istore (lv2 := [(4, .int r8), (0, .ref (tg_ad x 0)), (1, .int v1), (2, .int v2), (3, .int v3)]) X dX7_get_30 (by decide) rfl ?_
      refine tg_iload X dX7_get_32 0 rfl ?_
      refine tg_if_eq (tgt := 48) X dX7_get_34 (by decide) (fun c9 => ?_) (fun c9 => ?_)
      · have h := tg_ifT c9 h
        refine tg_aload_n X dX7_get_48 rfl 1 rfl ?_
        refine tg_getr X 0 rfl cl_X7 2 (by decide) rfl wf_X7_26 dX7_get_49 ?_
        refine tg_iload_n X dX7_get_52 rfl 2 rfl ?_
        refine tg_iload_n X dX7_get_53 rfl 4 rfl ?_
        obtain ⟨S10, r11, kS10, h⟩ := tg_bdE h
        refine tg_callV (As := [.int v1, .int v3]) (rest := []) X 7 (cm_X5_item _ _ _ _ _ kS10) yy_X5_item wv_X5_item ws_X5_item wm_X7_148 rfl cl_X5.1 ⟨rfl, rfl, Nat.le_of_ble_eq_true rfl, Nat.le_of_ble_eq_true rfl⟩ rfl rfl (Nat.le_of_ble_eq_true rfl) dX7_get_54 rfl ?_
        exact tg_iret X h rfl dX7_get_57
      · have h := tg_ifF c9 h
        refine tg_aload_n X dX7_get_37 rfl 1 rfl ?_
        refine tg_iload X dX7_get_38 0 rfl ?_
        obtain ⟨S12, r13, kS12, h⟩ := tg_bdE h
        refine tg_callV (As := [.int r8]) (rest := []) X 0 (cm_X7_found _ _ _ _ _ kS12) yy_X7_found wv_X7_found ws_X7_found wm_X7_143 rfl cl_X7.1 ⟨rfl, rfl, Nat.le_of_ble_eq_true rfl, Nat.le_of_ble_eq_true rfl⟩ rfl rfl (Nat.le_of_ble_eq_true rfl) dX7_get_40 rfl ?_
        refine tg_pop X dX7_get_43 rfl ?_
        refine tg_ldcw X wk_X7_270 dX7_get_44 ?_
        exact tg_iret X h rfl dX7_get_47
    · have h := tg_ifT c6 h
      refine tg_ldcw X wk_X7_270 dX7_get_16 ?_
      exact tg_iret X h rfl dX7_get_19
theorem cm_X7_get (l : Launch) (D : va_G) (cy : Bool → ClassId) (ad : Nat → Nat) (tS : Nat) {S Sf : tg_S} {v1 : Int32} {v2 : Int32} {v3 : Int32} {r : Int32} (h : f_X7_get  S v1 v2 v3 = some (Sf, r)) : tg_Met l yX7_get cX7_get 5 (some .int) zr_X7_get tauC D cy ad tS S [.ref (ad 0), .int v1, .int v2, .int v3] Sf (some (.int r)) := tg_mk (by decide +kernel) trivial (Nat.le_of_ble_eq_true rfl) (fun p e s m args below meth c Q A X => w_X7_get_0 X S v1 v2 v3 h)
-- X7_copy
def zr_X7_copy : Room := { frames := 2, cells := 0, slots := 0, locals := 43 }
theorem dX7_copy_0 : decode cX7_copy 0 = .ok (.iload_n 1, 1) := by decide +kernel
theorem dX7_copy_1 : decode cX7_copy 1 = .ok (.iconst 4, 1) := by decide +kernel
theorem dX7_copy_2 : decode cX7_copy 2 = .ok (.invokestatic 75, 3) := by decide +kernel
theorem dX7_copy_5 : decode cX7_copy 5 = .ok (.ifCond .eq 11, 3) := by decide +kernel
theorem dX7_copy_8 : decode cX7_copy 8 = .ok (.iload_n 3, 1) := by decide +kernel
theorem dX7_copy_9 : decode cX7_copy 9 = .ok (.iconst 4, 1) := by decide +kernel
theorem dX7_copy_10 : decode cX7_copy 10 = .ok (.invokestatic 75, 3) := by decide +kernel
theorem dX7_copy_13 : decode cX7_copy 13 = .ok (.ifCond .ne 6, 3) := by decide +kernel
theorem dX7_copy_16 : decode cX7_copy 16 = .ok (.bipush (-2), 2) := by decide +kernel
theorem dX7_copy_18 : decode cX7_copy 18 = .ok (.ireturn, 1) := by decide +kernel
theorem dX7_copy_19 : decode cX7_copy 19 = .ok (.aload_n 0, 1) := by decide +kernel
theorem dX7_copy_20 : decode cX7_copy 20 = .ok (.getfield 26, 3) := by decide +kernel
theorem dX7_copy_23 : decode cX7_copy 23 = .ok (.iload_n 1, 1) := by decide +kernel
theorem dX7_copy_24 : decode cX7_copy 24 = .ok (.invokevirtual 140, 3) := by decide +kernel
theorem dX7_copy_27 : decode cX7_copy 27 = .ok (.ifCond .ne 14, 3) := by decide +kernel
theorem dX7_copy_30 : decode cX7_copy 30 = .ok (.aload_n 0, 1) := by decide +kernel
theorem dX7_copy_31 : decode cX7_copy 31 = .ok (.getfield 26, 3) := by decide +kernel
theorem dX7_copy_34 : decode cX7_copy 34 = .ok (.iload_n 3, 1) := by decide +kernel
theorem dX7_copy_35 : decode cX7_copy 35 = .ok (.invokevirtual 140, 3) := by decide +kernel
theorem dX7_copy_38 : decode cX7_copy 38 = .ok (.ifCond .eq 9, 3) := by decide +kernel
theorem dX7_copy_41 : decode cX7_copy 41 = .ok (.aload_n 0, 1) := by decide +kernel
theorem dX7_copy_42 : decode cX7_copy 42 = .ok (.iconst 1, 1) := by decide +kernel
theorem dX7_copy_43 : decode cX7_copy 43 = .ok (.invokevirtual 143, 3) := by decide +kernel
theorem dX7_copy_46 : decode cX7_copy 46 = .ok (.ireturn, 1) := by decide +kernel
theorem dX7_copy_47 : decode cX7_copy 47 = .ok (.aload_n 0, 1) := by decide +kernel
theorem dX7_copy_48 : decode cX7_copy 48 = .ok (.getfield 26, 3) := by decide +kernel
theorem dX7_copy_51 : decode cX7_copy 51 = .ok (.iload_n 1, 1) := by decide +kernel
theorem dX7_copy_52 : decode cX7_copy 52 = .ok (.iload_n 3, 1) := by decide +kernel
theorem dX7_copy_53 : decode cX7_copy 53 = .ok (.invokevirtual 271, 3) := by decide +kernel
theorem dX7_copy_56 : decode cX7_copy 56 = .ok (.ifCond .ne 9, 3) := by decide +kernel
theorem dX7_copy_59 : decode cX7_copy 59 = .ok (.aload_n 0, 1) := by decide +kernel
theorem dX7_copy_60 : decode cX7_copy 60 = .ok (.iconst 4, 1) := by decide +kernel
theorem dX7_copy_61 : decode cX7_copy 61 = .ok (.invokevirtual 143, 3) := by decide +kernel
theorem dX7_copy_64 : decode cX7_copy 64 = .ok (.ireturn, 1) := by decide +kernel
theorem dX7_copy_65 : decode cX7_copy 65 = .ok (.iload 5, 2) := by decide +kernel
theorem dX7_copy_67 : decode cX7_copy 67 = .ok (.ifCond .lt 32, 3) := by decide +kernel
theorem dX7_copy_70 : decode cX7_copy 70 = .ok (.aload_n 0, 1) := by decide +kernel
theorem dX7_copy_71 : decode cX7_copy 71 = .ok (.getfield 26, 3) := by decide +kernel
theorem dX7_copy_74 : decode cX7_copy 74 = .ok (.iload_n 1, 1) := by decide +kernel
theorem dX7_copy_75 : decode cX7_copy 75 = .ok (.iload_n 2, 1) := by decide +kernel
theorem dX7_copy_76 : decode cX7_copy 76 = .ok (.iload 5, 2) := by decide +kernel
theorem dX7_copy_78 : decode cX7_copy 78 = .ok (.invokevirtual 274, 3) := by decide +kernel
theorem dX7_copy_81 : decode cX7_copy 81 = .ok (.ifCond .eq 18, 3) := by decide +kernel
theorem dX7_copy_84 : decode cX7_copy 84 = .ok (.aload_n 0, 1) := by decide +kernel
theorem dX7_copy_85 : decode cX7_copy 85 = .ok (.getfield 26, 3) := by decide +kernel
theorem dX7_copy_88 : decode cX7_copy 88 = .ok (.iload_n 3, 1) := by decide +kernel
theorem dX7_copy_89 : decode cX7_copy 89 = .ok (.iload 4, 2) := by decide +kernel
theorem dX7_copy_91 : decode cX7_copy 91 = .ok (.iload 5, 2) := by decide +kernel
theorem dX7_copy_93 : decode cX7_copy 93 = .ok (.invokevirtual 274, 3) := by decide +kernel
theorem dX7_copy_96 : decode cX7_copy 96 = .ok (.ifCond .ne 9, 3) := by decide +kernel
theorem dX7_copy_99 : decode cX7_copy 99 = .ok (.aload_n 0, 1) := by decide +kernel
theorem dX7_copy_100 : decode cX7_copy 100 = .ok (.iconst 2, 1) := by decide +kernel
theorem dX7_copy_101 : decode cX7_copy 101 = .ok (.invokevirtual 143, 3) := by decide +kernel
theorem dX7_copy_104 : decode cX7_copy 104 = .ok (.ireturn, 1) := by decide +kernel
theorem dX7_copy_105 : decode cX7_copy 105 = .ok (.aload_n 0, 1) := by decide +kernel
theorem dX7_copy_106 : decode cX7_copy 106 = .ok (.getfield 26, 3) := by decide +kernel
theorem dX7_copy_109 : decode cX7_copy 109 = .ok (.iload_n 1, 1) := by decide +kernel
theorem dX7_copy_110 : decode cX7_copy 110 = .ok (.iload_n 2, 1) := by decide +kernel
theorem dX7_copy_111 : decode cX7_copy 111 = .ok (.iload_n 3, 1) := by decide +kernel
theorem dX7_copy_112 : decode cX7_copy 112 = .ok (.iload 4, 2) := by decide +kernel
theorem dX7_copy_114 : decode cX7_copy 114 = .ok (.iload 5, 2) := by decide +kernel
theorem dX7_copy_116 : decode cX7_copy 116 = .ok (.invokevirtual 277, 3) := by decide +kernel
theorem dX7_copy_119 : decode cX7_copy 119 = .ok (.iconst 1, 1) := by decide +kernel
theorem dX7_copy_120 : decode cX7_copy 120 = .ok (.ireturn, 1) := by decide +kernel
set_option maxRecDepth 20000 in
set_option maxHeartbeats 4000000 in
theorem w_X7_copy_99 {x : tg_X} {Sf : tg_S} {r : Int32} (X : tg_M tauC x cX7_copy 6 RX7 zr_X7_copy (some .int) Sf (some (.int r))) (S : tg_S) (h : f_X7_copy_99  S  = some (Sf, r)) : tg_G tauC x S 99 [(0, .ref (tg_ad x 0))] [] := by
  unfold f_X7_copy_99 at h
  refine tg_aload_n X dX7_copy_99 rfl 0 rfl ?_
  refine tg_iconst X dX7_copy_100 tk_i2 ?_
  obtain ⟨S1, r2, kS1, h⟩ := tg_bdE h
  refine tg_callV (As := [.int 2]) (rest := []) X 0 (cm_X7_found _ _ _ _ _ kS1) yy_X7_found wv_X7_found ws_X7_found wm_X7_143 rfl cl_X7.1 ⟨rfl, rfl, Nat.le_of_ble_eq_true rfl, Nat.le_of_ble_eq_true rfl⟩ rfl rfl (Nat.le_of_ble_eq_true rfl) dX7_copy_101 rfl ?_
  exact tg_iret X h rfl dX7_copy_104
set_option maxRecDepth 20000 in
set_option maxHeartbeats 4000000 in
theorem w_X7_copy_41 {x : tg_X} {Sf : tg_S} {r : Int32} (X : tg_M tauC x cX7_copy 6 RX7 zr_X7_copy (some .int) Sf (some (.int r))) (S : tg_S) (h : f_X7_copy_41  S  = some (Sf, r)) : tg_G tauC x S 41 [(0, .ref (tg_ad x 0))] [] := by
  unfold f_X7_copy_41 at h
  refine tg_aload_n X dX7_copy_41 rfl 0 rfl ?_
  refine tg_iconst X dX7_copy_42 tk_i1 ?_
  obtain ⟨S1, r2, kS1, h⟩ := tg_bdE h
  refine tg_callV (As := [.int 1]) (rest := []) X 0 (cm_X7_found _ _ _ _ _ kS1) yy_X7_found wv_X7_found ws_X7_found wm_X7_143 rfl cl_X7.1 ⟨rfl, rfl, Nat.le_of_ble_eq_true rfl, Nat.le_of_ble_eq_true rfl⟩ rfl rfl (Nat.le_of_ble_eq_true rfl) dX7_copy_43 rfl ?_
  exact tg_iret X h rfl dX7_copy_46
set_option maxRecDepth 20000 in
set_option maxHeartbeats 4000000 in
theorem w_X7_copy_0 {x : tg_X} {Sf : tg_S} {r : Int32} (X : tg_M tauC x cX7_copy 6 RX7 zr_X7_copy (some .int) Sf (some (.int r))) (S : tg_S) (v1 : Int32) (v2 : Int32) (v3 : Int32) (v4 : Int32) (v5 : Int32) (h : f_X7_copy  S v1 v2 v3 v4 v5 = some (Sf, r)) : tg_G tauC x S 0 [(0, .ref (tg_ad x 0)), (1, .int v1), (2, .int v2), (3, .int v3), (4, .int v4), (5, .int v5)] [] := by
  unfold f_X7_copy at h
  refine tg_iload_n X dX7_copy_0 rfl 1 rfl ?_
  refine tg_iconst X dX7_copy_1 tk_i4 ?_
  obtain ⟨S1, r2, kS1, h⟩ := tg_bdE h
  refine tg_callS (As := [.int v1, .int 4]) (rest := []) X (cm_X7_isBelow _ _ _ _ _ kS1) yy_X7_isBelow wt_X7_isBelow wm_X7_75 ⟨rfl, rfl, Nat.le_of_ble_eq_true rfl, Nat.le_of_ble_eq_true rfl⟩ rfl rfl (Nat.le_of_ble_eq_true rfl) dX7_copy_2 rfl ?_
  refine tg_if_eq (tgt := 16) X dX7_copy_5 (by decide) (fun c3 => ?_) (fun c3 => ?_)
  · have h := tg_ifT c3 h
    refine tg_bipush X dX7_copy_16 tk_bm2 ?_
    exact tg_iret X h rfl dX7_copy_18
  · have h := tg_ifF c3 h
    refine tg_iload_n X dX7_copy_8 rfl 3 rfl ?_
    refine tg_iconst X dX7_copy_9 tk_i4 ?_
    obtain ⟨S4, r5, kS4, h⟩ := tg_bdE h
    refine tg_callS (As := [.int v3, .int 4]) (rest := []) X (cm_X7_isBelow _ _ _ _ _ kS4) yy_X7_isBelow wt_X7_isBelow wm_X7_75 ⟨rfl, rfl, Nat.le_of_ble_eq_true rfl, Nat.le_of_ble_eq_true rfl⟩ rfl rfl (Nat.le_of_ble_eq_true rfl) dX7_copy_10 rfl ?_
    refine tg_if_ne (tgt := 19) X dX7_copy_13 (by decide) (fun c6 => ?_) (fun c6 => ?_)
    · have h := tg_ifF c6 h
      refine tg_aload_n X dX7_copy_19 rfl 0 rfl ?_
      refine tg_getr X 0 rfl cl_X7 2 (by decide) rfl wf_X7_26 dX7_copy_20 ?_
      refine tg_iload_n X dX7_copy_23 rfl 1 rfl ?_
      obtain ⟨S7, r8, kS7, h⟩ := tg_bdE h
      refine tg_callV (As := [.int v1]) (rest := []) X 7 (cm_X5_isLost _ _ _ _ _ kS7) yy_X5_isLost wv_X5_isLost ws_X5_isLost wm_X7_140 rfl cl_X5.1 ⟨rfl, rfl, Nat.le_of_ble_eq_true rfl, Nat.le_of_ble_eq_true rfl⟩ rfl rfl (Nat.le_of_ble_eq_true rfl) dX7_copy_24 rfl ?_
      refine tg_if_ne (tgt := 41) X dX7_copy_27 (by decide) (fun c9 => ?_) (fun c9 => ?_)
      · have h := tg_ifF c9 h
        refine tg_re [0] rfl ?_
        exact w_X7_copy_41 X  S7  h
      · have h := tg_ifT c9 h
        refine tg_aload_n X dX7_copy_30 rfl 0 rfl ?_
        refine tg_getr X 0 rfl cl_X7 2 (by decide) rfl wf_X7_26 dX7_copy_31 ?_
        refine tg_iload_n X dX7_copy_34 rfl 3 rfl ?_
        obtain ⟨S10, r11, kS10, h⟩ := tg_bdE h
        refine tg_callV (As := [.int v3]) (rest := []) X 7 (cm_X5_isLost _ _ _ _ _ kS10) yy_X5_isLost wv_X5_isLost ws_X5_isLost wm_X7_140 rfl cl_X5.1 ⟨rfl, rfl, Nat.le_of_ble_eq_true rfl, Nat.le_of_ble_eq_true rfl⟩ rfl rfl (Nat.le_of_ble_eq_true rfl) dX7_copy_35 rfl ?_
        refine tg_if_eq (tgt := 47) X dX7_copy_38 (by decide) (fun c12 => ?_) (fun c12 => ?_)
        · have h := tg_ifT c12 h
          refine tg_aload_n X dX7_copy_47 rfl 0 rfl ?_
          refine tg_getr X 0 rfl cl_X7 2 (by decide) rfl wf_X7_26 dX7_copy_48 ?_
          refine tg_iload_n X dX7_copy_51 rfl 1 rfl ?_
          refine tg_iload_n X dX7_copy_52 rfl 3 rfl ?_
          obtain ⟨S13, r14, kS13, h⟩ := tg_bdE h
          refine tg_callV (As := [.int v1, .int v3]) (rest := []) X 7 (cm_X5_areAlike _ _ _ _ _ kS13) yy_X5_areAlike wv_X5_areAlike ws_X5_areAlike wm_X7_271 rfl cl_X5.1 ⟨rfl, rfl, Nat.le_of_ble_eq_true rfl, Nat.le_of_ble_eq_true rfl⟩ rfl rfl (Nat.le_of_ble_eq_true rfl) dX7_copy_53 rfl ?_
          refine tg_if_ne (tgt := 65) X dX7_copy_56 (by decide) (fun c15 => ?_) (fun c15 => ?_)
          · have h := tg_ifF c15 h
            refine tg_iload X dX7_copy_65 5 rfl ?_
            refine tg_if_lt (tgt := 99) X dX7_copy_67 (by decide) (fun c16 => ?_) (fun c16 => ?_)
            · have h := tg_ifT c16 h
              refine tg_re [0] rfl ?_
              exact w_X7_copy_99 X  S13  h
            · have h := tg_ifF c16 h
              refine tg_aload_n X dX7_copy_70 rfl 0 rfl ?_
              refine tg_getr X 0 rfl cl_X7 2 (by decide) rfl wf_X7_26 dX7_copy_71 ?_
              refine tg_iload_n X dX7_copy_74 rfl 1 rfl ?_
              refine tg_iload_n X dX7_copy_75 rfl 2 rfl ?_
              refine tg_iload X dX7_copy_76 5 rfl ?_
              obtain ⟨S17, r18, kS17, h⟩ := tg_bdE h
              refine tg_callV (As := [.int v1, .int v2, .int v5]) (rest := []) X 7 (cm_X5_holds _ _ _ _ _ kS17) yy_X5_holds wv_X5_holds ws_X5_holds wm_X7_274 rfl cl_X5.1 ⟨rfl, rfl, Nat.le_of_ble_eq_true rfl, Nat.le_of_ble_eq_true rfl⟩ rfl rfl (Nat.le_of_ble_eq_true rfl) dX7_copy_78 rfl ?_
              refine tg_if_eq (tgt := 99) X dX7_copy_81 (by decide) (fun c19 => ?_) (fun c19 => ?_)
              · have h := tg_ifT c19 h
                refine tg_re [0] rfl ?_
                exact w_X7_copy_99 X  S17  h
              · have h := tg_ifF c19 h
                refine tg_aload_n X dX7_copy_84 rfl 0 rfl ?_
                refine tg_getr X 0 rfl cl_X7 2 (by decide) rfl wf_X7_26 dX7_copy_85 ?_
                refine tg_iload_n X dX7_copy_88 rfl 3 rfl ?_
                refine tg_iload X dX7_copy_89 4 rfl ?_
                refine tg_iload X dX7_copy_91 5 rfl ?_
                obtain ⟨S20, r21, kS20, h⟩ := tg_bdE h
                refine tg_callV (As := [.int v3, .int v4, .int v5]) (rest := []) X 7 (cm_X5_holds _ _ _ _ _ kS20) yy_X5_holds wv_X5_holds ws_X5_holds wm_X7_274 rfl cl_X5.1 ⟨rfl, rfl, Nat.le_of_ble_eq_true rfl, Nat.le_of_ble_eq_true rfl⟩ rfl rfl (Nat.le_of_ble_eq_true rfl) dX7_copy_93 rfl ?_
                refine tg_if_ne (tgt := 105) X dX7_copy_96 (by decide) (fun c22 => ?_) (fun c22 => ?_)
                · have h := tg_ifF c22 h
                  refine tg_aload_n X dX7_copy_105 rfl 0 rfl ?_
                  refine tg_getr X 0 rfl cl_X7 2 (by decide) rfl wf_X7_26 dX7_copy_106 ?_
                  refine tg_iload_n X dX7_copy_109 rfl 1 rfl ?_
                  refine tg_iload_n X dX7_copy_110 rfl 2 rfl ?_
                  refine tg_iload_n X dX7_copy_111 rfl 3 rfl ?_
                  refine tg_iload X dX7_copy_112 4 rfl ?_
                  refine tg_iload X dX7_copy_114 5 rfl ?_
                  obtain ⟨S23, kS23, h⟩ := tg_bvE h
                  refine tg_callV (As := [.int v1, .int v2, .int v3, .int v4, .int v5]) (rest := []) X 7 (cm_X5_move _ _ _ _ _ kS23) yy_X5_move wv_X5_move ws_X5_move wm_X7_277 rfl cl_X5.1 ⟨rfl, rfl, Nat.le_of_ble_eq_true rfl, Nat.le_of_ble_eq_true rfl⟩ rfl rfl (Nat.le_of_ble_eq_true rfl) dX7_copy_116 rfl ?_
                  refine tg_iconst X dX7_copy_119 tk_i1 ?_
                  exact tg_iret X h rfl dX7_copy_120
                · have h := tg_ifT c22 h
                  refine tg_re [0] rfl ?_
                  exact w_X7_copy_99 X  S20  h
          · have h := tg_ifT c15 h
            refine tg_aload_n X dX7_copy_59 rfl 0 rfl ?_
            refine tg_iconst X dX7_copy_60 tk_i4 ?_
            obtain ⟨S24, r25, kS24, h⟩ := tg_bdE h
            refine tg_callV (As := [.int 4]) (rest := []) X 0 (cm_X7_found _ _ _ _ _ kS24) yy_X7_found wv_X7_found ws_X7_found wm_X7_143 rfl cl_X7.1 ⟨rfl, rfl, Nat.le_of_ble_eq_true rfl, Nat.le_of_ble_eq_true rfl⟩ rfl rfl (Nat.le_of_ble_eq_true rfl) dX7_copy_61 rfl ?_
            exact tg_iret X h rfl dX7_copy_64
        · have h := tg_ifF c12 h
          refine tg_re [0] rfl ?_
          exact w_X7_copy_41 X  S10  h
    · have h := tg_ifT c6 h
      refine tg_bipush X dX7_copy_16 tk_bm2 ?_
      exact tg_iret X h rfl dX7_copy_18
theorem cm_X7_copy (l : Launch) (D : va_G) (cy : Bool → ClassId) (ad : Nat → Nat) (tS : Nat) {S Sf : tg_S} {v1 : Int32} {v2 : Int32} {v3 : Int32} {v4 : Int32} {v5 : Int32} {r : Int32} (h : f_X7_copy  S v1 v2 v3 v4 v5 = some (Sf, r)) : tg_Met l yX7_copy cX7_copy 6 (some .int) zr_X7_copy tauC D cy ad tS S [.ref (ad 0), .int v1, .int v2, .int v3, .int v4, .int v5] Sf (some (.int r)) := tg_mk (by decide +kernel) trivial (Nat.le_of_ble_eq_true rfl) (fun p e s m args below meth c Q A X => w_X7_copy_0 X S v1 v2 v3 v4 v5 h)
