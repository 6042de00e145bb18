-- X7_chooseSwap
def zr_X7_chooseSwap : Room := { frames := 4, cells := 0, slots := 0, locals := 96 }
theorem dX7_chooseSwap_0 : decode cX7_chooseSwap 0 = .ok (.aload_n 0, 1) := by decide +kernel
theorem dX7_chooseSwap_1 : decode cX7_chooseSwap 1 = .ok (.getfield 48, 3) := by decide +kernel
theorem dX7_chooseSwap_4 : decode cX7_chooseSwap 4 = .ok (.aload_n 0, 1) := by decide +kernel
theorem dX7_chooseSwap_5 : decode cX7_chooseSwap 5 = .ok (.getfield 37, 3) := by decide +kernel
theorem dX7_chooseSwap_8 : decode cX7_chooseSwap 8 = .ok (.invokevirtual 190, 3) := by decide +kernel
theorem dX7_chooseSwap_11 : decode cX7_chooseSwap 11 = .ok (.aload_n 0, 1) := by decide +kernel
theorem dX7_chooseSwap_12 : decode cX7_chooseSwap 12 = .ok (.getfield 57, 3) := by decide +kernel
theorem dX7_chooseSwap_15 : decode cX7_chooseSwap 15 = .ok (.iload_n 1, 1) := by decide +kernel
theorem dX7_chooseSwap_16 : decode cX7_chooseSwap 16 = .ok (.invokevirtual 194, 3) := by decide +kernel
theorem dX7_chooseSwap_19 : decode cX7_chooseSwap 19 = .ok (.iload_n 1, 1) := by decide +kernel
theorem dX7_chooseSwap_20 : decode cX7_chooseSwap 20 = .ok (.bipush 8, 2) := by decide +kernel
theorem dX7_chooseSwap_22 : decode cX7_chooseSwap 22 = .ok (.imul, 1) := by decide +kernel
theorem dX7_chooseSwap_23 : decode cX7_chooseSwap 23 = .ok (.istore_n 2, 1) := by decide +kernel
theorem dX7_chooseSwap_24 : decode cX7_chooseSwap 24 = .ok (.iload_n 2, 1) := by decide +kernel
theorem dX7_chooseSwap_25 : decode cX7_chooseSwap 25 = .ok (.aload_n 0, 1) := by decide +kernel
theorem dX7_chooseSwap_26 : decode cX7_chooseSwap 26 = .ok (.getfield 37, 3) := by decide +kernel
theorem dX7_chooseSwap_29 : decode cX7_chooseSwap 29 = .ok (.getfield 281, 3) := by decide +kernel
theorem dX7_chooseSwap_32 : decode cX7_chooseSwap 32 = .ok (.iload_n 1, 1) := by decide +kernel
theorem dX7_chooseSwap_33 : decode cX7_chooseSwap 33 = .ok (.iaload, 1) := by decide +kernel
theorem dX7_chooseSwap_34 : decode cX7_chooseSwap 34 = .ok (.iadd, 1) := by decide +kernel
theorem dX7_chooseSwap_35 : decode cX7_chooseSwap 35 = .ok (.istore_n 3, 1) := by decide +kernel
theorem dX7_chooseSwap_36 : decode cX7_chooseSwap 36 = .ok (.iload_n 2, 1) := by decide +kernel
theorem dX7_chooseSwap_37 : decode cX7_chooseSwap 37 = .ok (.istore 4, 2) := by decide +kernel
theorem dX7_chooseSwap_39 : decode cX7_chooseSwap 39 = .ok (.iload 4, 2) := by decide +kernel
theorem dX7_chooseSwap_41 : decode cX7_chooseSwap 41 = .ok (.iload_n 3, 1) := by decide +kernel
theorem dX7_chooseSwap_42 : decode cX7_chooseSwap 42 = .ok (.if_icmp .ge 74, 3) := by decide +kernel
theorem dX7_chooseSwap_45 : decode cX7_chooseSwap 45 = .ok (.iload 4, 2) := by decide +kernel
theorem dX7_chooseSwap_47 : decode cX7_chooseSwap 47 = .ok (.iconst 1, 1) := by decide +kernel
theorem dX7_chooseSwap_48 : decode cX7_chooseSwap 48 = .ok (.iadd, 1) := by decide +kernel
theorem dX7_chooseSwap_49 : decode cX7_chooseSwap 49 = .ok (.istore 5, 2) := by decide +kernel
theorem dX7_chooseSwap_51 : decode cX7_chooseSwap 51 = .ok (.iload 5, 2) := by decide +kernel
theorem dX7_chooseSwap_53 : decode cX7_chooseSwap 53 = .ok (.iload_n 3, 1) := by decide +kernel
theorem dX7_chooseSwap_54 : decode cX7_chooseSwap 54 = .ok (.if_icmp .ge 56, 3) := by decide +kernel
theorem dX7_chooseSwap_57 : decode cX7_chooseSwap 57 = .ok (.aload_n 0, 1) := by decide +kernel
theorem dX7_chooseSwap_58 : decode cX7_chooseSwap 58 = .ok (.getfield 48, 3) := by decide +kernel
theorem dX7_chooseSwap_61 : decode cX7_chooseSwap 61 = .ok (.getfield 373, 3) := by decide +kernel
theorem dX7_chooseSwap_64 : decode cX7_chooseSwap 64 = .ok (.iload_n 1, 1) := by decide +kernel
theorem dX7_chooseSwap_65 : decode cX7_chooseSwap 65 = .ok (.iload 5, 2) := by decide +kernel
theorem dX7_chooseSwap_67 : decode cX7_chooseSwap 67 = .ok (.iload_n 3, 1) := by decide +kernel
theorem dX7_chooseSwap_68 : decode cX7_chooseSwap 68 = .ok (.iconst 1, 1) := by decide +kernel
theorem dX7_chooseSwap_69 : decode cX7_chooseSwap 69 = .ok (.isub, 1) := by decide +kernel
theorem dX7_chooseSwap_70 : decode cX7_chooseSwap 70 = .ok (.if_icmp .ne 8, 3) := by decide +kernel
theorem dX7_chooseSwap_73 : decode cX7_chooseSwap 73 = .ok (.iload 4, 2) := by decide +kernel
theorem dX7_chooseSwap_75 : decode cX7_chooseSwap 75 = .ok (.goto 6, 3) := by decide +kernel
theorem dX7_chooseSwap_78 : decode cX7_chooseSwap 78 = .ok (.iload_n 3, 1) := by decide +kernel
theorem dX7_chooseSwap_79 : decode cX7_chooseSwap 79 = .ok (.iconst 1, 1) := by decide +kernel
theorem dX7_chooseSwap_80 : decode cX7_chooseSwap 80 = .ok (.isub, 1) := by decide +kernel
theorem dX7_chooseSwap_81 : decode cX7_chooseSwap 81 = .ok (.iastore, 1) := by decide +kernel
theorem dX7_chooseSwap_82 : decode cX7_chooseSwap 82 = .ok (.aload_n 0, 1) := by decide +kernel
theorem dX7_chooseSwap_83 : decode cX7_chooseSwap 83 = .ok (.getfield 57, 3) := by decide +kernel
theorem dX7_chooseSwap_86 : decode cX7_chooseSwap 86 = .ok (.iload 4, 2) := by decide +kernel
theorem dX7_chooseSwap_88 : decode cX7_chooseSwap 88 = .ok (.iload 5, 2) := by decide +kernel
theorem dX7_chooseSwap_90 : decode cX7_chooseSwap 90 = .ok (.aload_n 0, 1) := by decide +kernel
theorem dX7_chooseSwap_91 : decode cX7_chooseSwap 91 = .ok (.getfield 51, 3) := by decide +kernel
theorem dX7_chooseSwap_94 : decode cX7_chooseSwap 94 = .ok (.aload_n 0, 1) := by decide +kernel
theorem dX7_chooseSwap_95 : decode cX7_chooseSwap 95 = .ok (.getfield 48, 3) := by decide +kernel
theorem dX7_chooseSwap_98 : decode cX7_chooseSwap 98 = .ok (.invokevirtual 198, 3) := by decide +kernel
theorem dX7_chooseSwap_101 : decode cX7_chooseSwap 101 = .ok (.invokevirtual 202, 3) := by decide +kernel
theorem dX7_chooseSwap_104 : decode cX7_chooseSwap 104 = .ok (.iinc 5 1, 3) := by decide +kernel
theorem dX7_chooseSwap_107 : decode cX7_chooseSwap 107 = .ok (.goto (-56), 3) := by decide +kernel
theorem dX7_chooseSwap_110 : decode cX7_chooseSwap 110 = .ok (.iinc 4 1, 3) := by decide +kernel
theorem dX7_chooseSwap_113 : decode cX7_chooseSwap 113 = .ok (.goto (-74), 3) := by decide +kernel
theorem dX7_chooseSwap_116 : decode cX7_chooseSwap 116 = .ok (.return_, 1) := by decide +kernel
set_option maxRecDepth 20000 in
set_option maxHeartbeats 4000000 in
theorem w_X7_chooseSwap_81 {x : tg_X} {Sf : tg_S} {rec39 : tg_S → Int32 → Int32 → Int32 → Option (tg_S)} {rec51 : tg_S → Int32 → Int32 → Int32 → Int32 → Option (tg_S)} (X : tg_M tauC x cX7_chooseSwap 6 RX7 zr_X7_chooseSwap none Sf none) (hr39 : ∀ (S : tg_S) (v1 : Int32) (v3 : Int32) (v4 : Int32), rec39 S v1 v3 v4 = some Sf → tg_G tauC x S 39 [(0, .ref (tg_ad x 0)), (1, .int v1), (3, .int v3), (4, .int v4)] []) (hr51 : ∀ (S : tg_S) (v1 : Int32) (v3 : Int32) (v4 : Int32) (v5 : Int32), rec51 S v1 v3 v4 v5 = some Sf → tg_G tauC x S 51 [(0, .ref (tg_ad x 0)), (1, .int v1), (3, .int v3), (4, .int v4), (5, .int v5)] []) (S : tg_S) (v1 : Int32) (v3 : Int32) (v4 : Int32) (v5 : Int32) (s0 : Int32) (s1 : Int32) (h : f_X7_chooseSwap_81 rec39 rec51 S v1 v3 v4 v5 s0 s1 = some Sf) : tg_G tauC x S 81 [(0, .ref (tg_ad x 0)), (1, .int v1), (3, .int v3), (4, .int v4), (5, .int v5)] [.int s0, .int s1, .ref (tg_ad x 29)] := by
  unfold f_X7_chooseSwap_81 at h
  obtain ⟨S1, eS1, bS1, h⟩ := tg_wrE h
  refine tg_iast X 29 rfl bS1 dX7_chooseSwap_81 eS1 ?_
  refine tg_aload_n X dX7_chooseSwap_82 rfl 0 rfl ?_
  refine tg_getr X 0 rfl cl_X7 8 (by decide) rfl wf_X7_57 dX7_chooseSwap_83 ?_
  refine tg_iload X dX7_chooseSwap_86 3 rfl ?_
  refine tg_iload X dX7_chooseSwap_88 4 rfl ?_
  refine tg_aload_n X dX7_chooseSwap_90 rfl 0 rfl ?_
  refine tg_getr X 0 rfl cl_X7 7 (by decide) rfl wf_X7_51 dX7_chooseSwap_91 ?_
  refine tg_aload_n X dX7_chooseSwap_94 rfl 0 rfl ?_
  refine tg_getr X 0 rfl cl_X7 6 (by decide) rfl wf_X7_48 dX7_chooseSwap_95 ?_
  obtain ⟨S2, r3, kS2, h⟩ := tg_bdE h
  refine tg_callV (As := [.ref (tg_ad x 23)]) (rest := [.int v5, .int v4, .ref (tg_ad x 49)]) X 42 (cm_X2_play_b _ _ _ _ _ kS2) yy_X2_play wv_X2_play ws_X2_play wm_X7_198 rfl cl_X2.1 ⟨rfl, rfl, Nat.le_of_ble_eq_true rfl, Nat.le_of_ble_eq_true rfl⟩ rfl rfl (Nat.le_of_ble_eq_true rfl) dX7_chooseSwap_98 rfl ?_
  obtain ⟨S4, kS4, h⟩ := tg_bvE h
  refine tg_callV (As := [.int v4, .int v5, .int r3]) (rest := []) X 49 (cm_X0_offer _ _ _ _ _ kS4) yy_X0_offer wv_X0_offer ws_X0_offer wm_X7_202 rfl cl_X0.1 ⟨rfl, rfl, Nat.le_of_ble_eq_true rfl, Nat.le_of_ble_eq_true rfl⟩ rfl rfl (Nat.le_of_ble_eq_true rfl) dX7_chooseSwap_101 rfl ?_
  obtain ⟨y5, ey5⟩ : ∃ z : Int32, z = v5 + 1 := ⟨_, rfl⟩
  have h := tg_nmE ey5 h
  refine tg_iinc (lv2 := [(5, .int y5), (0, .ref (tg_ad x 0)), (1, .int v1), (3, .int v3), (4, .int v4)]) X dX7_chooseSwap_104 4 rfl tk_i1 ey5 (by decide) rfl ?_
  refine tg_goto (tgt := 51) X dX7_chooseSwap_107 (by decide) ?_
  refine tg_re [1, 2, 3, 4, 0] rfl ?_
  exact hr51 S4 v1 v3 v4 y5 h
set_option maxRecDepth 20000 in
set_option maxHeartbeats 4000000 in
theorem w_X7_chooseSwap_51 {x : tg_X} {Sf : tg_S} {rec39 : tg_S → Int32 → Int32 → Int32 → Option (tg_S)} {rec51 : tg_S → Int32 → Int32 → Int32 → Int32 → Option (tg_S)} (X : tg_M tauC x cX7_chooseSwap 6 RX7 zr_X7_chooseSwap none Sf none) (hr39 : ∀ (S : tg_S) (v1 : Int32) (v3 : Int32) (v4 : Int32), rec39 S v1 v3 v4 = some Sf → tg_G tauC x S 39 [(0, .ref (tg_ad x 0)), (1, .int v1), (3, .int v3), (4, .int v4)] []) (hr51 : ∀ (S : tg_S) (v1 : Int32) (v3 : Int32) (v4 : Int32) (v5 : Int32), rec51 S v1 v3 v4 v5 = some Sf → tg_G tauC x S 51 [(0, .ref (tg_ad x 0)), (1, .int v1), (3, .int v3), (4, .int v4), (5, .int v5)] []) (S : tg_S) (v1 : Int32) (v3 : Int32) (v4 : Int32) (v5 : Int32) (h : f_X7_chooseSwap_51 rec39 rec51 S v1 v3 v4 v5 = some Sf) : tg_G tauC x S 51 [(0, .ref (tg_ad x 0)), (1, .int v1), (3, .int v3), (4, .int v4), (5, .int v5)] [] := by
  unfold f_X7_chooseSwap_51 at h
  refine tg_iload X dX7_chooseSwap_51 4 rfl ?_
  refine tg_iload_n X dX7_chooseSwap_53 rfl 2 rfl ?_
  refine tg_icmp_ge (tgt := 110) X dX7_chooseSwap_54 (by decide) (fun c1 => ?_) (fun c1 => ?_)
  · have h := tg_ifT c1 h
    obtain ⟨y2, ey2⟩ : ∃ z : Int32, z = v4 + 1 := ⟨_, rfl⟩
    have h := tg_nmE ey2 h
    refine tg_iinc (lv2 := [(4, .int y2), (0, .ref (tg_ad x 0)), (1, .int v1), (3, .int v3), (5, .int v5)]) X dX7_chooseSwap_110 3 rfl tk_i1 ey2 (by decide) rfl ?_
    refine tg_goto (tgt := 39) X dX7_chooseSwap_113 (by decide) ?_
    refine tg_re [1, 2, 3, 0] rfl ?_
    exact hr39 S v1 v3 y2 h
  · have h := tg_ifF c1 h
    refine tg_aload_n X dX7_chooseSwap_57 rfl 0 rfl ?_
    refine tg_getr X 0 rfl cl_X7 6 (by decide) rfl wf_X7_48 dX7_chooseSwap_58 ?_
    refine tg_getr X 23 rfl cl_X1 5 (by decide) rfl wf_X7_373 dX7_chooseSwap_61 ?_
    refine tg_iload_n X dX7_chooseSwap_64 rfl 1 rfl ?_
    refine tg_iload X dX7_chooseSwap_65 4 rfl ?_
    refine tg_iload_n X dX7_chooseSwap_67 rfl 2 rfl ?_
    refine tg_iconst X dX7_chooseSwap_68 tk_i1 ?_
    refine tg_isub X dX7_chooseSwap_69 ?_
    refine tg_icmp_ne (tgt := 78) X dX7_chooseSwap_70 (by decide) (fun c3 => ?_) (fun c3 => ?_)
    · rw [if_neg c3] at h
      refine tg_iload_n X dX7_chooseSwap_78 rfl 2 rfl ?_
      refine tg_iconst X dX7_chooseSwap_79 tk_i1 ?_
      refine tg_isub X dX7_chooseSwap_80 ?_
      exact w_X7_chooseSwap_81 X hr39 hr51 S v1 v3 v4 v5 (v3 - 1) v1 h
    · rw [if_pos c3] at h
      refine tg_iload X dX7_chooseSwap_73 3 rfl ?_
      refine tg_goto (tgt := 81) X dX7_chooseSwap_75 (by decide) ?_
      exact w_X7_chooseSwap_81 X hr39 hr51 S v1 v3 v4 v5 v4 v1 h
theorem wl_X7_chooseSwap_51 {x : tg_X} {Sf : tg_S} {rec39 : tg_S → Int32 → Int32 → Int32 → Option (tg_S)} (X : tg_M tauC x cX7_chooseSwap 6 RX7 zr_X7_chooseSwap none Sf none) (hr39 : ∀ (S : tg_S) (v1 : Int32) (v3 : Int32) (v4 : Int32), rec39 S v1 v3 v4 = some Sf → tg_G tauC x S 39 [(0, .ref (tg_ad x 0)), (1, .int v1), (3, .int v3), (4, .int v4)] []) : ∀ (n : Nat) (S : tg_S) (v1 : Int32) (v3 : Int32) (v4 : Int32) (v5 : Int32) (h : L_X7_chooseSwap_51 rec39 n S v1 v3 v4 v5 = some Sf), tg_G tauC x S 51 [(0, .ref (tg_ad x 0)), (1, .int v1), (3, .int v3), (4, .int v4), (5, .int v5)] [] := by
  intro n
  induction n with
  | zero => intro S v1 v3 v4 v5 h; cases h
  | succ n ih => intro S v1 v3 v4 v5 h; exact w_X7_chooseSwap_51 X hr39 ih S v1 v3 v4 v5 h
set_option maxRecDepth 20000 in
set_option maxHeartbeats 4000000 in
theorem w_X7_chooseSwap_39 {x : tg_X} {Sf : tg_S} {rec39 : tg_S → Int32 → Int32 → Int32 → Option (tg_S)} (X : tg_M tauC x cX7_chooseSwap 6 RX7 zr_X7_chooseSwap none Sf none) (hr39 : ∀ (S : tg_S) (v1 : Int32) (v3 : Int32) (v4 : Int32), rec39 S v1 v3 v4 = some Sf → tg_G tauC x S 39 [(0, .ref (tg_ad x 0)), (1, .int v1), (3, .int v3), (4, .int v4)] []) (S : tg_S) (v1 : Int32) (v3 : Int32) (v4 : Int32) (h : f_X7_chooseSwap_39 rec39 S v1 v3 v4 = some Sf) : tg_G tauC x S 39 [(0, .ref (tg_ad x 0)), (1, .int v1), (3, .int v3), (4, .int v4)] [] := by
  unfold f_X7_chooseSwap_39 at h
  refine tg_iload X dX7_chooseSwap_39 3 rfl ?_
  refine tg_iload_n X dX7_chooseSwap_41 rfl 2 rfl ?_
  refine tg_icmp_ge (tgt := 116) X dX7_chooseSwap_42 (by decide) (fun c1 => ?_) (fun c1 => ?_)
  · have h := tg_ifT c1 h
    exact tg_vret X h dX7_chooseSwap_116
  · have h := tg_ifF c1 h
    refine tg_iload X dX7_chooseSwap_45 3 rfl ?_
    refine tg_iconst X dX7_chooseSwap_47 tk_i1 ?_
    refine tg_iadd X dX7_chooseSwap_48 ?_
    refine tg_topi (fun y2 ey2 => ?_)
    have h := tg_nmE ey2 h
    refine tg_istore (lv2 := [(5, .int y2), (0, .ref (tg_ad x 0)), (1, .int v1), (3, .int v3), (4, .int v4)]) X dX7_chooseSwap_49 (by decide) rfl ?_
    refine tg_re [1, 2, 3, 4, 0] rfl ?_
    exact wl_X7_chooseSwap_51 X hr39 tg_F S v1 v3 v4 y2 h
theorem wl_X7_chooseSwap_39 {x : tg_X} {Sf : tg_S} (X : tg_M tauC x cX7_chooseSwap 6 RX7 zr_X7_chooseSwap none Sf none) : ∀ (n : Nat) (S : tg_S) (v1 : Int32) (v3 : Int32) (v4 : Int32) (h : L_X7_chooseSwap_39  n S v1 v3 v4 = some Sf), tg_G tauC x S 39 [(0, .ref (tg_ad x 0)), (1, .int v1), (3, .int v3), (4, .int v4)] [] := by
  intro n
  induction n with
  | zero => intro S v1 v3 v4 h; cases h
  | succ n ih => intro S v1 v3 v4 h; exact w_X7_chooseSwap_39 X  ih S v1 v3 v4 h
set_option maxRecDepth 20000 in
set_option maxHeartbeats 4000000 in
theorem w_X7_chooseSwap_0 {x : tg_X} {Sf : tg_S} (X : tg_M tauC x cX7_chooseSwap 6 RX7 zr_X7_chooseSwap none Sf none) (S : tg_S) (v1 : Int32) (h : f_X7_chooseSwap  S v1 = some Sf) : tg_G tauC x S 0 [(0, .ref (tg_ad x 0)), (1, .int v1)] [] := by
  unfold f_X7_chooseSwap at h
  refine tg_aload_n X dX7_chooseSwap_0 rfl 0 rfl ?_
  refine tg_getr X 0 rfl cl_X7 6 (by decide) rfl wf_X7_48 dX7_chooseSwap_1 ?_
  refine tg_aload_n X dX7_chooseSwap_4 rfl 0 rfl ?_
  refine tg_getr X 0 rfl cl_X7 4 (by decide) rfl wf_X7_37 dX7_chooseSwap_5 ?_
  obtain ⟨S1, kS1, h⟩ := tg_bvE h
  refine tg_callV (As := [.ref (tg_ad x 11)]) (rest := []) X 23 (cm_X1_becomeLike _ _ _ _ _ kS1) yy_X1_becomeLike wv_X1_becomeLike ws_X1_becomeLike wm_X7_190 rfl cl_X1.1 ⟨rfl, rfl, Nat.le_of_ble_eq_true rfl, Nat.le_of_ble_eq_true rfl⟩ rfl rfl (Nat.le_of_ble_eq_true rfl) dX7_chooseSwap_8 rfl ?_
  refine tg_aload_n X dX7_chooseSwap_11 rfl 0 rfl ?_
  refine tg_getr X 0 rfl cl_X7 8 (by decide) rfl wf_X7_57 dX7_chooseSwap_12 ?_
  refine tg_iload_n X dX7_chooseSwap_15 rfl 1 rfl ?_
  obtain ⟨S2, kS2, h⟩ := tg_bvE h
  refine tg_callV (As := [.int v1]) (rest := []) X 49 (cm_X0_startFor _ _ _ _ _ kS2) yy_X0_startFor wv_X0_startFor ws_X0_startFor wm_X7_194 rfl cl_X0.1 ⟨rfl, rfl, Nat.le_of_ble_eq_true rfl, Nat.le_of_ble_eq_true rfl⟩ rfl rfl (Nat.le_of_ble_eq_true rfl) dX7_chooseSwap_16 rfl ?_
  refine tg_iload_n X dX7_chooseSwap_19 rfl 1 rfl ?_
  refine tg_bipush X dX7_chooseSwap_20 tk_b8 ?_
  refine tg_imul X dX7_chooseSwap_22 ?_
  refine tg_topi (fun y3 ey3 => ?_)
  have h := tg_nmE ey3 h
  refine tg_istore_n (lv2 := [(2, .int y3), (0, .ref (tg_ad x 0)), (1, .int v1)]) X dX7_chooseSwap_23 rfl (by decide) rfl ?_
  refine tg_iload_n X dX7_chooseSwap_24 rfl 0 rfl ?_
  refine tg_aload_n X dX7_chooseSwap_25 rfl 1 rfl ?_
  refine tg_getr X 0 rfl cl_X7 4 (by decide) rfl wf_X7_37 dX7_chooseSwap_26 ?_
  refine tg_getr X 11 rfl cl_X1 4 (by decide) rfl wf_X7_281 dX7_chooseSwap_29 ?_
  refine tg_iload_n X dX7_chooseSwap_32 rfl 2 rfl ?_
  obtain ⟨y4, ey4, by4, h⟩ := tg_rdE h
  refine tg_iald X 16 rfl ey4 by4 dX7_chooseSwap_33 ?_
  refine tg_iadd X dX7_chooseSwap_34 ?_
  refine tg_topi (fun y5 ey5 => ?_)
  have h := tg_nmE ey5 h
  refine tg_istore_n (lv2 := [(3, .int y5), (2, .int y3), (0, .ref (tg_ad x 0)), (1, .int v1)]) X dX7_chooseSwap_35 rfl (by decide) rfl ?_
  refine tg_iload_n X dX7_chooseSwap_36 rfl 1 rfl ?_
  refine tg_istore (lv2 := [(4, .int y3), (3, .int y5), (2, .int y3), (0, .ref (tg_ad x 0)), (1, .int v1)]) X dX7_chooseSwap_37 (by decide) rfl ?_
  refine tg_re [3, 4, 1, 0] rfl ?_
  exact wl_X7_chooseSwap_39 X  tg_F S2 v1 y5 y3 h
theorem cm_X7_chooseSwap (l : Launch) (D : va_G) (cy : Bool → ClassId) (ad : Nat → Nat) (tS : Nat) {S Sf : tg_S} {v1 : Int32} (h : f_X7_chooseSwap  S v1 = some Sf) : tg_Met l yX7_chooseSwap cX7_chooseSwap 6 none zr_X7_chooseSwap tauC D cy ad tS S [.ref (ad 0), .int v1] Sf none := tg_mk (by decide +kernel) trivial (Nat.le_of_ble_eq_true rfl) (fun p e s m args below meth c Q A X => w_X7_chooseSwap_0 X S v1 h)
-- X7_swap
def zr_X7_swap : Room := { frames := 5, cells := 0, slots := 0, locals := 121 }
theorem dX7_swap_0 : decode cX7_swap 0 = .ok (.iload_n 1, 1) := by decide +kernel
theorem dX7_swap_1 : decode cX7_swap 1 = .ok (.iconst 2, 1) := by decide +kernel
theorem dX7_swap_2 : decode cX7_swap 2 = .ok (.invokestatic 75, 3) := by decide +kernel
theorem dX7_swap_5 : decode cX7_swap 5 = .ok (.ifCond .eq 11, 3) := by decide +kernel
theorem dX7_swap_8 : decode cX7_swap 8 = .ok (.iload_n 2, 1) := by decide +kernel
theorem dX7_swap_9 : decode cX7_swap 9 = .ok (.iconst 3, 1) := by decide +kernel
theorem dX7_swap_10 : decode cX7_swap 10 = .ok (.invokestatic 75, 3) := by decide +kernel
theorem dX7_swap_13 : decode cX7_swap 13 = .ok (.ifCond .ne 6, 3) := by decide +kernel
theorem dX7_swap_16 : decode cX7_swap 16 = .ok (.bipush (-2), 2) := by decide +kernel
theorem dX7_swap_18 : decode cX7_swap 18 = .ok (.ireturn, 1) := by decide +kernel
theorem dX7_swap_19 : decode cX7_swap 19 = .ok (.aload_n 0, 1) := by decide +kernel
theorem dX7_swap_20 : decode cX7_swap 20 = .ok (.iload_n 1, 1) := by decide +kernel
theorem dX7_swap_21 : decode cX7_swap 21 = .ok (.invokevirtual 212, 3) := by decide +kernel
theorem dX7_swap_24 : decode cX7_swap 24 = .ok (.iload_n 2, 1) := by decide +kernel
theorem dX7_swap_25 : decode cX7_swap 25 = .ok (.ifCond .ne 11, 3) := by decide +kernel
theorem dX7_swap_28 : decode cX7_swap 28 = .ok (.aload_n 0, 1) := by decide +kernel
theorem dX7_swap_29 : decode cX7_swap 29 = .ok (.getfield 57, 3) := by decide +kernel
theorem dX7_swap_32 : decode cX7_swap 32 = .ok (.getfield 206, 3) := by decide +kernel
theorem dX7_swap_35 : decode cX7_swap 35 = .ok (.ireturn, 1) := by decide +kernel
theorem dX7_swap_36 : decode cX7_swap 36 = .ok (.iload_n 2, 1) := by decide +kernel
theorem dX7_swap_37 : decode cX7_swap 37 = .ok (.iconst 1, 1) := by decide +kernel
theorem dX7_swap_38 : decode cX7_swap 38 = .ok (.if_icmp .ne 13, 3) := by decide +kernel
theorem dX7_swap_41 : decode cX7_swap 41 = .ok (.aload_n 0, 1) := by decide +kernel
theorem dX7_swap_42 : decode cX7_swap 42 = .ok (.getfield 57, 3) := by decide +kernel
theorem dX7_swap_45 : decode cX7_swap 45 = .ok (.getfield 215, 3) := by decide +kernel
theorem dX7_swap_48 : decode cX7_swap 48 = .ok (.goto 10, 3) := by decide +kernel
theorem dX7_swap_51 : decode cX7_swap 51 = .ok (.aload_n 0, 1) := by decide +kernel
theorem dX7_swap_52 : decode cX7_swap 52 = .ok (.getfield 57, 3) := by decide +kernel
theorem dX7_swap_55 : decode cX7_swap 55 = .ok (.getfield 209, 3) := by decide +kernel
theorem dX7_swap_58 : decode cX7_swap 58 = .ok (.ireturn, 1) := by decide +kernel
set_option maxRecDepth 20000 in
set_option maxHeartbeats 4000000 in
theorem w_X7_swap_0 {x : tg_X} {Sf : tg_S} {r : Int32} (X : tg_M tauC x cX7_swap 3 RX7 zr_X7_swap (some .int) Sf (some (.int r))) (S : tg_S) (v1 : Int32) (v2 : Int32) (h : f_X7_swap  S v1 v2 = some (Sf, r)) : tg_G tauC x S 0 [(0, .ref (tg_ad x 0)), (1, .int v1), (2, .int v2)] [] := by
  unfold f_X7_swap at h
  refine tg_iload_n X dX7_swap_0 rfl 1 rfl ?_
  refine tg_iconst X dX7_swap_1 tk_i2 ?_
  obtain ⟨S1, r2, kS1, h⟩ := tg_bdE h
  refine tg_callS (As := [.int v1, .int 2]) (rest := []) X (cm_X7_isBelow _ _ _ _ _ kS1) yy_X7_isBelow wt_X7_isBelow wm_X7_75 ⟨rfl, rfl, Nat.le_of_ble_eq_true rfl, Nat.le_of_ble_eq_true rfl⟩ rfl rfl (Nat.le_of_ble_eq_true rfl) dX7_swap_2 rfl ?_
  refine tg_if_eq (tgt := 16) X dX7_swap_5 (by decide) (fun c3 => ?_) (fun c3 => ?_)
  · have h := tg_ifT c3 h
    refine tg_bipush X dX7_swap_16 tk_bm2 ?_
    exact tg_iret X h rfl dX7_swap_18
  · have h := tg_ifF c3 h
    refine tg_iload_n X dX7_swap_8 rfl 2 rfl ?_
    refine tg_iconst X dX7_swap_9 tk_i3 ?_
    obtain ⟨S4, r5, kS4, h⟩ := tg_bdE h
    refine tg_callS (As := [.int v2, .int 3]) (rest := []) X (cm_X7_isBelow _ _ _ _ _ kS4) yy_X7_isBelow wt_X7_isBelow wm_X7_75 ⟨rfl, rfl, Nat.le_of_ble_eq_true rfl, Nat.le_of_ble_eq_true rfl⟩ rfl rfl (Nat.le_of_ble_eq_true rfl) dX7_swap_10 rfl ?_
    refine tg_if_ne (tgt := 19) X dX7_swap_13 (by decide) (fun c6 => ?_) (fun c6 => ?_)
    · have h := tg_ifF c6 h
      refine tg_aload_n X dX7_swap_19 rfl 0 rfl ?_
      refine tg_iload_n X dX7_swap_20 rfl 1 rfl ?_
      obtain ⟨S7, kS7, h⟩ := tg_bvE h
      refine tg_callV (As := [.int v1]) (rest := []) X 0 (cm_X7_chooseSwap _ _ _ _ _ kS7) yy_X7_chooseSwap wv_X7_chooseSwap ws_X7_chooseSwap wm_X7_212 rfl cl_X7.1 ⟨rfl, rfl, Nat.le_of_ble_eq_true rfl, Nat.le_of_ble_eq_true rfl⟩ rfl rfl (Nat.le_of_ble_eq_true rfl) dX7_swap_21 rfl ?_
      refine tg_iload_n X dX7_swap_24 rfl 2 rfl ?_
      refine tg_if_ne (tgt := 36) X dX7_swap_25 (by decide) (fun c8 => ?_) (fun c8 => ?_)
      · have h := tg_ifF c8 h
        refine tg_iload_n X dX7_swap_36 rfl 2 rfl ?_
        refine tg_iconst X dX7_swap_37 tk_i1 ?_
        refine tg_icmp_ne (tgt := 51) X dX7_swap_38 (by decide) (fun c9 => ?_) (fun c9 => ?_)
        · have h := tg_ifF c9 h
          refine tg_aload_n X dX7_swap_51 rfl 0 rfl ?_
          refine tg_getr X 0 rfl cl_X7 8 (by decide) rfl wf_X7_57 dX7_swap_52 ?_
          refine tg_geti X 49 rfl cl_X0 2 (by decide) rfl wf_X7_209 dX7_swap_55 ?_
          exact tg_iret X h rfl dX7_swap_58
        · have h := tg_ifT c9 h
          refine tg_aload_n X dX7_swap_41 rfl 0 rfl ?_
          refine tg_getr X 0 rfl cl_X7 8 (by decide) rfl wf_X7_57 dX7_swap_42 ?_
          refine tg_geti X 49 rfl cl_X0 1 (by decide) rfl wf_X7_215 dX7_swap_45 ?_
          refine tg_goto (tgt := 58) X dX7_swap_48 (by decide) ?_
          exact tg_iret X h rfl dX7_swap_58
      · have h := tg_ifT c8 h
        refine tg_aload_n X dX7_swap_28 rfl 0 rfl ?_
        refine tg_getr X 0 rfl cl_X7 8 (by decide) rfl wf_X7_57 dX7_swap_29 ?_
        refine tg_geti X 49 rfl cl_X0 0 (by decide) rfl wf_X7_206 dX7_swap_32 ?_
        exact tg_iret X h rfl dX7_swap_35
    · have h := tg_ifT c6 h
      refine tg_bipush X dX7_swap_16 tk_bm2 ?_
      exact tg_iret X h rfl dX7_swap_18
theorem cm_X7_swap (l : Launch) (D : va_G) (cy : Bool → ClassId) (ad : Nat → Nat) (tS : Nat) {S Sf : tg_S} {v1 : Int32} {v2 : Int32} {r : Int32} (h : f_X7_swap  S v1 v2 = some (Sf, r)) : tg_Met l yX7_swap cX7_swap 3 (some .int) zr_X7_swap tauC D cy ad tS S [.ref (ad 0), .int v1, .int v2] Sf (some (.int r)) := tg_mk (by decide +kernel) trivial (Nat.le_of_ble_eq_true rfl) (fun p e s m args below meth c Q A X => w_X7_swap_0 X S v1 v2 h)
-- X1_leaveOut
def zr_X1_leaveOut : Room := { frames := 0, cells := 0, slots := 0, locals := 0 }
theorem dX1_leaveOut_0 : decode cX1_leaveOut 0 = .ok (.aload_n 0, 1) := by decide +kernel
theorem dX1_leaveOut_1 : decode cX1_leaveOut 1 = .ok (.getfield 9, 3) := by decide +kernel
theorem dX1_leaveOut_4 : decode cX1_leaveOut 4 = .ok (.iload_n 1, 1) := by decide +kernel
theorem dX1_leaveOut_5 : decode cX1_leaveOut 5 = .ok (.iconst 0, 1) := by decide +kernel
theorem dX1_leaveOut_6 : decode cX1_leaveOut 6 = .ok (.bastore, 1) := by decide +kernel
theorem dX1_leaveOut_7 : decode cX1_leaveOut 7 = .ok (.aload_n 0, 1) := by decide +kernel
theorem dX1_leaveOut_8 : decode cX1_leaveOut 8 = .ok (.getfield 28, 3) := by decide +kernel
theorem dX1_leaveOut_11 : decode cX1_leaveOut 11 = .ok (.iload_n 2, 1) := by decide +kernel
theorem dX1_leaveOut_12 : decode cX1_leaveOut 12 = .ok (.iaload, 1) := by decide +kernel
theorem dX1_leaveOut_13 : decode cX1_leaveOut 13 = .ok (.iload_n 1, 1) := by decide +kernel
theorem dX1_leaveOut_14 : decode cX1_leaveOut 14 = .ok (.if_icmp .ne 12, 3) := by decide +kernel
theorem dX1_leaveOut_17 : decode cX1_leaveOut 17 = .ok (.aload_n 0, 1) := by decide +kernel
theorem dX1_leaveOut_18 : decode cX1_leaveOut 18 = .ok (.getfield 28, 3) := by decide +kernel
theorem dX1_leaveOut_21 : decode cX1_leaveOut 21 = .ok (.iload_n 2, 1) := by decide +kernel
theorem dX1_leaveOut_22 : decode cX1_leaveOut 22 = .ok (.iload_n 1, 1) := by decide +kernel
theorem dX1_leaveOut_23 : decode cX1_leaveOut 23 = .ok (.iconst 1, 1) := by decide +kernel
theorem dX1_leaveOut_24 : decode cX1_leaveOut 24 = .ok (.isub, 1) := by decide +kernel
theorem dX1_leaveOut_25 : decode cX1_leaveOut 25 = .ok (.iastore, 1) := by decide +kernel
theorem dX1_leaveOut_26 : decode cX1_leaveOut 26 = .ok (.return_, 1) := by decide +kernel
set_option maxRecDepth 20000 in
set_option maxHeartbeats 4000000 in
theorem w_X1_leaveOut_0 {x : tg_X} {Sf : tg_S} (X : tg_M tauC x cX1_leaveOut 3 RX1 zr_X1_leaveOut none Sf none) (S : tg_S) (v1 : Int32) (v2 : Int32) (h : f_X1_leaveOut  S v1 v2 = some Sf) : tg_G tauC x S 0 [(0, .ref (tg_ad x 23)), (1, .int v1), (2, .int v2)] [] := by
  unfold f_X1_leaveOut at h
  refine tg_aload_n X dX1_leaveOut_0 rfl 0 rfl ?_
  refine tg_getr X 23 rfl cl_X1 0 (by decide) rfl wf_X1_9 dX1_leaveOut_1 ?_
  refine tg_iload_n X dX1_leaveOut_4 rfl 1 rfl ?_
  refine tg_iconst X dX1_leaveOut_5 tk_i0 ?_
  obtain ⟨S1, eS1, bS1, h⟩ := tg_wzE h
  refine tg_zast X 24 rfl bS1 dX1_leaveOut_6 eS1 ?_
  refine tg_aload_n X dX1_leaveOut_7 rfl 0 rfl ?_
  refine tg_getr X 23 rfl cl_X1 5 (by decide) rfl wf_X1_28 dX1_leaveOut_8 ?_
  refine tg_iload_n X dX1_leaveOut_11 rfl 2 rfl ?_
  obtain ⟨y2, ey2, by2, h⟩ := tg_rdE h
  refine tg_iald X 29 rfl ey2 by2 dX1_leaveOut_12 ?_
  refine tg_iload_n X dX1_leaveOut_13 rfl 1 rfl ?_
  refine tg_icmp_ne (tgt := 26) X dX1_leaveOut_14 (by decide) (fun c3 => ?_) (fun c3 => ?_)
  · have h := tg_ifF c3 h
    exact tg_vret X h dX1_leaveOut_26
  · have h := tg_ifT c3 h
    refine tg_aload_n X dX1_leaveOut_17 rfl 0 rfl ?_
    refine tg_getr X 23 rfl cl_X1 5 (by decide) rfl wf_X1_28 dX1_leaveOut_18 ?_
    refine tg_iload_n X dX1_leaveOut_21 rfl 2 rfl ?_
    refine tg_iload_n X dX1_leaveOut_22 rfl 1 rfl ?_
    refine tg_iconst X dX1_leaveOut_23 tk_i1 ?_
    refine tg_isub X dX1_leaveOut_24 ?_
    obtain ⟨S4, eS4, bS4, h⟩ := tg_wrE h
    refine tg_iast X 29 rfl bS4 dX1_leaveOut_25 eS4 ?_
    exact tg_vret X h dX1_leaveOut_26
theorem cm_X1_leaveOut (l : Launch) (D : va_G) (cy : Bool → ClassId) (ad : Nat → Nat) (tS : Nat) {S Sf : tg_S} {v1 : Int32} {v2 : Int32} (h : f_X1_leaveOut  S v1 v2 = some Sf) : tg_Met l yX1_leaveOut cX1_leaveOut 3 none zr_X1_leaveOut tauC D cy ad tS S [.ref (ad 23), .int v1, .int v2] Sf none := tg_mk (by decide +kernel) trivial (Nat.le_of_ble_eq_true rfl) (fun p e s m args below meth c Q A X => w_X1_leaveOut_0 X S v1 v2 h)
-- X7_chooseOut
def zr_X7_chooseOut : Room := { frames := 4, cells := 0, slots := 0, locals := 96 }
theorem dX7_chooseOut_0 : decode cX7_chooseOut 0 = .ok (.aload_n 0, 1) := by decide +kernel
theorem dX7_chooseOut_1 : decode cX7_chooseOut 1 = .ok (.getfield 57, 3) := by decide +kernel
theorem dX7_chooseOut_4 : decode cX7_chooseOut 4 = .ok (.iload_n 1, 1) := by decide +kernel
theorem dX7_chooseOut_5 : decode cX7_chooseOut 5 = .ok (.invokevirtual 194, 3) := by decide +kernel
theorem dX7_chooseOut_8 : decode cX7_chooseOut 8 = .ok (.iload_n 1, 1) := by decide +kernel
theorem dX7_chooseOut_9 : decode cX7_chooseOut 9 = .ok (.bipush 8, 2) := by decide +kernel
theorem dX7_chooseOut_11 : decode cX7_chooseOut 11 = .ok (.imul, 1) := by decide +kernel
theorem dX7_chooseOut_12 : decode cX7_chooseOut 12 = .ok (.istore_n 2, 1) := by decide +kernel
theorem dX7_chooseOut_13 : decode cX7_chooseOut 13 = .ok (.iload_n 2, 1) := by decide +kernel
theorem dX7_chooseOut_14 : decode cX7_chooseOut 14 = .ok (.aload_n 0, 1) := by decide +kernel
theorem dX7_chooseOut_15 : decode cX7_chooseOut 15 = .ok (.getfield 37, 3) := by decide +kernel
theorem dX7_chooseOut_18 : decode cX7_chooseOut 18 = .ok (.getfield 281, 3) := by decide +kernel
theorem dX7_chooseOut_21 : decode cX7_chooseOut 21 = .ok (.iload_n 1, 1) := by decide +kernel
theorem dX7_chooseOut_22 : decode cX7_chooseOut 22 = .ok (.iaload, 1) := by decide +kernel
theorem dX7_chooseOut_23 : decode cX7_chooseOut 23 = .ok (.iadd, 1) := by decide +kernel
theorem dX7_chooseOut_24 : decode cX7_chooseOut 24 = .ok (.istore_n 3, 1) := by decide +kernel
theorem dX7_chooseOut_25 : decode cX7_chooseOut 25 = .ok (.iload_n 2, 1) := by decide +kernel
theorem dX7_chooseOut_26 : decode cX7_chooseOut 26 = .ok (.istore 4, 2) := by decide +kernel
theorem dX7_chooseOut_28 : decode cX7_chooseOut 28 = .ok (.iload 4, 2) := by decide +kernel
theorem dX7_chooseOut_30 : decode cX7_chooseOut 30 = .ok (.iload_n 3, 1) := by decide +kernel
theorem dX7_chooseOut_31 : decode cX7_chooseOut 31 = .ok (.if_icmp .ge 51, 3) := by decide +kernel
theorem dX7_chooseOut_34 : decode cX7_chooseOut 34 = .ok (.aload_n 0, 1) := by decide +kernel
theorem dX7_chooseOut_35 : decode cX7_chooseOut 35 = .ok (.getfield 48, 3) := by decide +kernel
theorem dX7_chooseOut_38 : decode cX7_chooseOut 38 = .ok (.aload_n 0, 1) := by decide +kernel
theorem dX7_chooseOut_39 : decode cX7_chooseOut 39 = .ok (.getfield 37, 3) := by decide +kernel
theorem dX7_chooseOut_42 : decode cX7_chooseOut 42 = .ok (.invokevirtual 190, 3) := by decide +kernel
theorem dX7_chooseOut_45 : decode cX7_chooseOut 45 = .ok (.aload_n 0, 1) := by decide +kernel
theorem dX7_chooseOut_46 : decode cX7_chooseOut 46 = .ok (.getfield 48, 3) := by decide +kernel
theorem dX7_chooseOut_49 : decode cX7_chooseOut 49 = .ok (.iload 4, 2) := by decide +kernel
theorem dX7_chooseOut_51 : decode cX7_chooseOut 51 = .ok (.iload_n 1, 1) := by decide +kernel
theorem dX7_chooseOut_52 : decode cX7_chooseOut 52 = .ok (.invokevirtual 376, 3) := by decide +kernel
theorem dX7_chooseOut_55 : decode cX7_chooseOut 55 = .ok (.aload_n 0, 1) := by decide +kernel
theorem dX7_chooseOut_56 : decode cX7_chooseOut 56 = .ok (.getfield 57, 3) := by decide +kernel
theorem dX7_chooseOut_59 : decode cX7_chooseOut 59 = .ok (.iload 4, 2) := by decide +kernel
theorem dX7_chooseOut_61 : decode cX7_chooseOut 61 = .ok (.iconst (-1), 1) := by decide +kernel
theorem dX7_chooseOut_62 : decode cX7_chooseOut 62 = .ok (.aload_n 0, 1) := by decide +kernel
theorem dX7_chooseOut_63 : decode cX7_chooseOut 63 = .ok (.getfield 51, 3) := by decide +kernel
theorem dX7_chooseOut_66 : decode cX7_chooseOut 66 = .ok (.aload_n 0, 1) := by decide +kernel
theorem dX7_chooseOut_67 : decode cX7_chooseOut 67 = .ok (.getfield 48, 3) := by decide +kernel
theorem dX7_chooseOut_70 : decode cX7_chooseOut 70 = .ok (.invokevirtual 198, 3) := by decide +kernel
theorem dX7_chooseOut_73 : decode cX7_chooseOut 73 = .ok (.invokevirtual 202, 3) := by decide +kernel
theorem dX7_chooseOut_76 : decode cX7_chooseOut 76 = .ok (.iinc 4 1, 3) := by decide +kernel
theorem dX7_chooseOut_79 : decode cX7_chooseOut 79 = .ok (.goto (-51), 3) := by decide +kernel
theorem dX7_chooseOut_82 : decode cX7_chooseOut 82 = .ok (.return_, 1) := by decide +kernel
set_option maxRecDepth 20000 in
set_option maxHeartbeats 4000000 in
theorem w_X7_chooseOut_28 {x : tg_X} {Sf : tg_S} {rec28 : tg_S → Int32 → Int32 → Int32 → Option (tg_S)} (X : tg_M tauC x cX7_chooseOut 5 RX7 zr_X7_chooseOut none Sf none) (hr28 : ∀ (S : tg_S) (v1 : Int32) (v3 : Int32) (v4 : Int32), rec28 S v1 v3 v4 = some Sf → tg_G tauC x S 28 [(0, .ref (tg_ad x 0)), (1, .int v1), (3, .int v3), (4, .int v4)] []) (S : tg_S) (v1 : Int32) (v3 : Int32) (v4 : Int32) (h : f_X7_chooseOut_28 rec28 S v1 v3 v4 = some Sf) : tg_G tauC x S 28 [(0, .ref (tg_ad x 0)), (1, .int v1), (3, .int v3), (4, .int v4)] [] := by
  unfold f_X7_chooseOut_28 at h
  refine tg_iload X dX7_chooseOut_28 3 rfl ?_
  refine tg_iload_n X dX7_chooseOut_30 rfl 2 rfl ?_
  refine tg_icmp_ge (tgt := 82) X dX7_chooseOut_31 (by decide) (fun c1 => ?_) (fun c1 => ?_)
  · have h := tg_ifT c1 h
    exact tg_vret X h dX7_chooseOut_82
  · have h := tg_ifF c1 h
    refine tg_aload_n X dX7_chooseOut_34 rfl 0 rfl ?_
    refine tg_getr X 0 rfl cl_X7 6 (by decide) rfl wf_X7_48 dX7_chooseOut_35 ?_
    refine tg_aload_n X dX7_chooseOut_38 rfl 0 rfl ?_
    refine tg_getr X 0 rfl cl_X7 4 (by decide) rfl wf_X7_37 dX7_chooseOut_39 ?_
    obtain ⟨S2, kS2, h⟩ := tg_bvE h
    refine tg_callV (As := [.ref (tg_ad x 11)]) (rest := []) X 23 (cm_X1_becomeLike _ _ _ _ _ kS2) yy_X1_becomeLike wv_X1_becomeLike ws_X1_becomeLike wm_X7_190 rfl cl_X1.1 ⟨rfl, rfl, Nat.le_of_ble_eq_true rfl, Nat.le_of_ble_eq_true rfl⟩ rfl rfl (Nat.le_of_ble_eq_true rfl) dX7_chooseOut_42 rfl ?_
    refine tg_aload_n X dX7_chooseOut_45 rfl 0 rfl ?_
    refine tg_getr X 0 rfl cl_X7 6 (by decide) rfl wf_X7_48 dX7_chooseOut_46 ?_
    refine tg_iload X dX7_chooseOut_49 3 rfl ?_
    refine tg_iload_n X dX7_chooseOut_51 rfl 1 rfl ?_
    obtain ⟨S3, kS3, h⟩ := tg_bvE h
    refine tg_callV (As := [.int v4, .int v1]) (rest := []) X 23 (cm_X1_leaveOut _ _ _ _ _ kS3) yy_X1_leaveOut wv_X1_leaveOut ws_X1_leaveOut wm_X7_376 rfl cl_X1.1 ⟨rfl, rfl, Nat.le_of_ble_eq_true rfl, Nat.le_of_ble_eq_true rfl⟩ rfl rfl (Nat.le_of_ble_eq_true rfl) dX7_chooseOut_52 rfl ?_
    refine tg_aload_n X dX7_chooseOut_55 rfl 0 rfl ?_
    refine tg_getr X 0 rfl cl_X7 8 (by decide) rfl wf_X7_57 dX7_chooseOut_56 ?_
    refine tg_iload X dX7_chooseOut_59 3 rfl ?_
    refine tg_iconst X dX7_chooseOut_61 tk_im1 ?_
    refine tg_aload_n X dX7_chooseOut_62 rfl 0 rfl ?_
    refine tg_getr X 0 rfl cl_X7 7 (by decide) rfl wf_X7_51 dX7_chooseOut_63 ?_
    refine tg_aload_n X dX7_chooseOut_66 rfl 0 rfl ?_
    refine tg_getr X 0 rfl cl_X7 6 (by decide) rfl wf_X7_48 dX7_chooseOut_67 ?_
    obtain ⟨S4, r5, kS4, h⟩ := tg_bdE h
    refine tg_callV (As := [.ref (tg_ad x 23)]) (rest := [.int (-1), .int v4, .ref (tg_ad x 49)]) X 42 (cm_X2_play_b _ _ _ _ _ kS4) yy_X2_play wv_X2_play ws_X2_play wm_X7_198 rfl cl_X2.1 ⟨rfl, rfl, Nat.le_of_ble_eq_true rfl, Nat.le_of_ble_eq_true rfl⟩ rfl rfl (Nat.le_of_ble_eq_true rfl) dX7_chooseOut_70 rfl ?_
    obtain ⟨S6, kS6, h⟩ := tg_bvE h
    refine tg_callV (As := [.int v4, .int (-1), .int r5]) (rest := []) X 49 (cm_X0_offer _ _ _ _ _ kS6) yy_X0_offer wv_X0_offer ws_X0_offer wm_X7_202 rfl cl_X0.1 ⟨rfl, rfl, Nat.le_of_ble_eq_true rfl, Nat.le_of_ble_eq_true rfl⟩ rfl rfl (Nat.le_of_ble_eq_true rfl) dX7_chooseOut_73 rfl ?_
    obtain ⟨y7, ey7⟩ : ∃ z : Int32, z = v4 + 1 := ⟨_, rfl⟩
    have h := tg_nmE ey7 h
    refine tg_iinc (lv2 := [(4, .int y7), (0, .ref (tg_ad x 0)), (1, .int v1), (3, .int v3)]) X dX7_chooseOut_76 3 rfl tk_i1 ey7 (by decide) rfl ?_
    refine tg_goto (tgt := 28) X dX7_chooseOut_79 (by decide) ?_
    refine tg_re [1, 2, 3, 0] rfl ?_
    exact hr28 S6 v1 v3 y7 h
theorem wl_X7_chooseOut_28 {x : tg_X} {Sf : tg_S} (X : tg_M tauC x cX7_chooseOut 5 RX7 zr_X7_chooseOut none Sf none) : ∀ (n : Nat) (S : tg_S) (v1 : Int32) (v3 : Int32) (v4 : Int32) (h : L_X7_chooseOut_28  n S v1 v3 v4 = some Sf), tg_G tauC x S 28 [(0, .ref (tg_ad x 0)), (1, .int v1), (3, .int v3), (4, .int v4)] [] := by
  intro n
  induction n with
  | zero => intro S v1 v3 v4 h; cases h
  | succ n ih => intro S v1 v3 v4 h; exact w_X7_chooseOut_28 X  ih S v1 v3 v4 h
set_option maxRecDepth 20000 in
set_option maxHeartbeats 4000000 in
theorem w_X7_chooseOut_0 {x : tg_X} {Sf : tg_S} (X : tg_M tauC x cX7_chooseOut 5 RX7 zr_X7_chooseOut none Sf none) (S : tg_S) (v1 : Int32) (h : f_X7_chooseOut  S v1 = some Sf) : tg_G tauC x S 0 [(0, .ref (tg_ad x 0)), (1, .int v1)] [] := by
  unfold f_X7_chooseOut at h
  refine tg_aload_n X dX7_chooseOut_0 rfl 0 rfl ?_
  refine tg_getr X 0 rfl cl_X7 8 (by decide) rfl wf_X7_57 dX7_chooseOut_1 ?_
  refine tg_iload_n X dX7_chooseOut_4 rfl 1 rfl ?_
  obtain ⟨S1, kS1, h⟩ := tg_bvE h
  refine tg_callV (As := [.int v1]) (rest := []) X 49 (cm_X0_startFor _ _ _ _ _ kS1) yy_X0_startFor wv_X0_startFor ws_X0_startFor wm_X7_194 rfl cl_X0.1 ⟨rfl, rfl, Nat.le_of_ble_eq_true rfl, Nat.le_of_ble_eq_true rfl⟩ rfl rfl (Nat.le_of_ble_eq_true rfl) dX7_chooseOut_5 rfl ?_
  refine tg_iload_n X dX7_chooseOut_8 rfl 1 rfl ?_
  refine tg_bipush X dX7_chooseOut_9 tk_b8 ?_
  refine tg_imul X dX7_chooseOut_11 ?_
  refine tg_topi (fun y2 ey2 => ?_)
  have h := tg_nmE ey2 h
  refine tg_istore_n (lv2 := [(2, .int y2), (0, .ref (tg_ad x 0)), (1, .int v1)]) X dX7_chooseOut_12 rfl (by decide) rfl ?_
  refine tg_iload_n X dX7_chooseOut_13 rfl 0 rfl ?_
  refine tg_aload_n X dX7_chooseOut_14 rfl 1 rfl ?_
  refine tg_getr X 0 rfl cl_X7 4 (by decide) rfl wf_X7_37 dX7_chooseOut_15 ?_
  refine tg_getr X 11 rfl cl_X1 4 (by decide) rfl wf_X7_281 dX7_chooseOut_18 ?_
  refine tg_iload_n X dX7_chooseOut_21 rfl 2 rfl ?_
  obtain ⟨y3, ey3, by3, h⟩ := tg_rdE h
  refine tg_iald X 16 rfl ey3 by3 dX7_chooseOut_22 ?_
  refine tg_iadd X dX7_chooseOut_23 ?_
  refine tg_topi (fun y4 ey4 => ?_)
  have h := tg_nmE ey4 h
  refine tg_istore_n (lv2 := [(3, .int y4), (2, .int y2), (0, .ref (tg_ad x 0)), (1, .int v1)]) X dX7_chooseOut_24 rfl (by decide) rfl ?_
  refine tg_iload_n X dX7_chooseOut_25 rfl 1 rfl ?_
  refine tg_istore (lv2 := [(4, .int y2), (3, .int y4), (2, .int y2), (0, .ref (tg_ad x 0)), (1, .int v1)]) X dX7_chooseOut_26 (by decide) rfl ?_
  refine tg_re [3, 4, 1, 0] rfl ?_
  exact wl_X7_chooseOut_28 X  tg_F S1 v1 y4 y2 h
theorem cm_X7_chooseOut (l : Launch) (D : va_G) (cy : Bool → ClassId) (ad : Nat → Nat) (tS : Nat) {S Sf : tg_S} {v1 : Int32} (h : f_X7_chooseOut  S v1 = some Sf) : tg_Met l yX7_chooseOut cX7_chooseOut 5 none zr_X7_chooseOut tauC D cy ad tS S [.ref (ad 0), .int v1] Sf none := tg_mk (by decide +kernel) trivial (Nat.le_of_ble_eq_true rfl) (fun p e s m args below meth c Q A X => w_X7_chooseOut_0 X S v1 h)
-- X7_out
def zr_X7_out : Room := { frames := 5, cells := 0, slots := 0, locals := 120 }
theorem dX7_out_0 : decode cX7_out 0 = .ok (.iload_n 1, 1) := by decide +kernel
theorem dX7_out_1 : decode cX7_out 1 = .ok (.iconst 2, 1) := by decide +kernel
theorem dX7_out_2 : decode cX7_out 2 = .ok (.invokestatic 75, 3) := by decide +kernel
theorem dX7_out_5 : decode cX7_out 5 = .ok (.ifCond .eq 11, 3) := by decide +kernel
theorem dX7_out_8 : decode cX7_out 8 = .ok (.iload_n 2, 1) := by decide +kernel
theorem dX7_out_9 : decode cX7_out 9 = .ok (.iconst 2, 1) := by decide +kernel
theorem dX7_out_10 : decode cX7_out 10 = .ok (.invokestatic 75, 3) := by decide +kernel
theorem dX7_out_13 : decode cX7_out 13 = .ok (.ifCond .ne 6, 3) := by decide +kernel
theorem dX7_out_16 : decode cX7_out 16 = .ok (.bipush (-2), 2) := by decide +kernel
theorem dX7_out_18 : decode cX7_out 18 = .ok (.ireturn, 1) := by decide +kernel
theorem dX7_out_19 : decode cX7_out 19 = .ok (.aload_n 0, 1) := by decide +kernel
theorem dX7_out_20 : decode cX7_out 20 = .ok (.iload_n 1, 1) := by decide +kernel
theorem dX7_out_21 : decode cX7_out 21 = .ok (.invokevirtual 218, 3) := by decide +kernel
theorem dX7_out_24 : decode cX7_out 24 = .ok (.iload_n 2, 1) := by decide +kernel
theorem dX7_out_25 : decode cX7_out 25 = .ok (.ifCond .ne 13, 3) := by decide +kernel
theorem dX7_out_28 : decode cX7_out 28 = .ok (.aload_n 0, 1) := by decide +kernel
theorem dX7_out_29 : decode cX7_out 29 = .ok (.getfield 57, 3) := by decide +kernel
theorem dX7_out_32 : decode cX7_out 32 = .ok (.getfield 206, 3) := by decide +kernel
theorem dX7_out_35 : decode cX7_out 35 = .ok (.goto 10, 3) := by decide +kernel
theorem dX7_out_38 : decode cX7_out 38 = .ok (.aload_n 0, 1) := by decide +kernel
theorem dX7_out_39 : decode cX7_out 39 = .ok (.getfield 57, 3) := by decide +kernel
theorem dX7_out_42 : decode cX7_out 42 = .ok (.getfield 209, 3) := by decide +kernel
theorem dX7_out_45 : decode cX7_out 45 = .ok (.ireturn, 1) := by decide +kernel
set_option maxRecDepth 20000 in
set_option maxHeartbeats 4000000 in
theorem w_X7_out_0 {x : tg_X} {Sf : tg_S} {r : Int32} (X : tg_M tauC x cX7_out 3 RX7 zr_X7_out (some .int) Sf (some (.int r))) (S : tg_S) (v1 : Int32) (v2 : Int32) (h : f_X7_out  S v1 v2 = some (Sf, r)) : tg_G tauC x S 0 [(0, .ref (tg_ad x 0)), (1, .int v1), (2, .int v2)] [] := by
  unfold f_X7_out at h
  refine tg_iload_n X dX7_out_0 rfl 1 rfl ?_
  refine tg_iconst X dX7_out_1 tk_i2 ?_
  obtain ⟨S1, r2, kS1, h⟩ := tg_bdE h
  refine tg_callS (As := [.int v1, .int 2]) (rest := []) X (cm_X7_isBelow _ _ _ _ _ kS1) yy_X7_isBelow wt_X7_isBelow wm_X7_75 ⟨rfl, rfl, Nat.le_of_ble_eq_true rfl, Nat.le_of_ble_eq_true rfl⟩ rfl rfl (Nat.le_of_ble_eq_true rfl) dX7_out_2 rfl ?_
  refine tg_if_eq (tgt := 16) X dX7_out_5 (by decide) (fun c3 => ?_) (fun c3 => ?_)
  · have h := tg_ifT c3 h
    refine tg_bipush X dX7_out_16 tk_bm2 ?_
    exact tg_iret X h rfl dX7_out_18
  · have h := tg_ifF c3 h
    refine tg_iload_n X dX7_out_8 rfl 2 rfl ?_
    refine tg_iconst X dX7_out_9 tk_i2 ?_
    obtain ⟨S4, r5, kS4, h⟩ := tg_bdE h
    refine tg_callS (As := [.int v2, .int 2]) (rest := []) X (cm_X7_isBelow _ _ _ _ _ kS4) yy_X7_isBelow wt_X7_isBelow wm_X7_75 ⟨rfl, rfl, Nat.le_of_ble_eq_true rfl, Nat.le_of_ble_eq_true rfl⟩ rfl rfl (Nat.le_of_ble_eq_true rfl) dX7_out_10 rfl ?_
    refine tg_if_ne (tgt := 19) X dX7_out_13 (by decide) (fun c6 => ?_) (fun c6 => ?_)
    · have h := tg_ifF c6 h
      refine tg_aload_n X dX7_out_19 rfl 0 rfl ?_
      refine tg_iload_n X dX7_out_20 rfl 1 rfl ?_
      obtain ⟨S7, kS7, h⟩ := tg_bvE h
      refine tg_callV (As := [.int v1]) (rest := []) X 0 (cm_X7_chooseOut _ _ _ _ _ kS7) yy_X7_chooseOut wv_X7_chooseOut ws_X7_chooseOut wm_X7_218 rfl cl_X7.1 ⟨rfl, rfl, Nat.le_of_ble_eq_true rfl, Nat.le_of_ble_eq_true rfl⟩ rfl rfl (Nat.le_of_ble_eq_true rfl) dX7_out_21 rfl ?_
      refine tg_iload_n X dX7_out_24 rfl 2 rfl ?_
      refine tg_if_ne (tgt := 38) X dX7_out_25 (by decide) (fun c8 => ?_) (fun c8 => ?_)
      · have h := tg_ifF c8 h
        refine tg_aload_n X dX7_out_38 rfl 0 rfl ?_
        refine tg_getr X 0 rfl cl_X7 8 (by decide) rfl wf_X7_57 dX7_out_39 ?_
        refine tg_geti X 49 rfl cl_X0 2 (by decide) rfl wf_X7_209 dX7_out_42 ?_
        exact tg_iret X h rfl dX7_out_45
      · have h := tg_ifT c8 h
        refine tg_aload_n X dX7_out_28 rfl 0 rfl ?_
        refine tg_getr X 0 rfl cl_X7 8 (by decide) rfl wf_X7_57 dX7_out_29 ?_
        refine tg_geti X 49 rfl cl_X0 0 (by decide) rfl wf_X7_206 dX7_out_32 ?_
        refine tg_goto (tgt := 45) X dX7_out_35 (by decide) ?_
        exact tg_iret X h rfl dX7_out_45
    · have h := tg_ifT c6 h
      refine tg_bipush X dX7_out_16 tk_bm2 ?_
      exact tg_iret X h rfl dX7_out_18
theorem cm_X7_out (l : Launch) (D : va_G) (cy : Bool → ClassId) (ad : Nat → Nat) (tS : Nat) {S Sf : tg_S} {v1 : Int32} {v2 : Int32} {r : Int32} (h : f_X7_out  S v1 v2 = some (Sf, r)) : tg_Met l yX7_out cX7_out 3 (some .int) zr_X7_out tauC D cy ad tS S [.ref (ad 0), .int v1, .int v2] Sf (some (.int r)) := tg_mk (by decide +kernel) trivial (Nat.le_of_ble_eq_true rfl) (fun p e s m args below meth c Q A X => w_X7_out_0 X S v1 v2 h)
-- X7_winnerWithout
def zr_X7_winnerWithout : Room := { frames := 4, cells := 0, slots := 0, locals := 96 }
theorem dX7_winnerWithout_0 : decode cX7_winnerWithout 0 = .ok (.aload_n 0, 1) := by decide +kernel
theorem dX7_winnerWithout_1 : decode cX7_winnerWithout 1 = .ok (.getfield 48, 3) := by decide +kernel
theorem dX7_winnerWithout_4 : decode cX7_winnerWithout 4 = .ok (.getfield 127, 3) := by decide +kernel
theorem dX7_winnerWithout_7 : decode cX7_winnerWithout 7 = .ok (.iload_n 1, 1) := by decide +kernel
theorem dX7_winnerWithout_8 : decode cX7_winnerWithout 8 = .ok (.putfield 226, 3) := by decide +kernel
theorem dX7_winnerWithout_11 : decode cX7_winnerWithout 11 = .ok (.aload_n 0, 1) := by decide +kernel
theorem dX7_winnerWithout_12 : decode cX7_winnerWithout 12 = .ok (.getfield 51, 3) := by decide +kernel
theorem dX7_winnerWithout_15 : decode cX7_winnerWithout 15 = .ok (.aload_n 0, 1) := by decide +kernel
theorem dX7_winnerWithout_16 : decode cX7_winnerWithout 16 = .ok (.getfield 48, 3) := by decide +kernel
theorem dX7_winnerWithout_19 : decode cX7_winnerWithout 19 = .ok (.invokevirtual 198, 3) := by decide +kernel
theorem dX7_winnerWithout_22 : decode cX7_winnerWithout 22 = .ok (.pop, 1) := by decide +kernel
theorem dX7_winnerWithout_23 : decode cX7_winnerWithout 23 = .ok (.aload_n 0, 1) := by decide +kernel
theorem dX7_winnerWithout_24 : decode cX7_winnerWithout 24 = .ok (.getfield 51, 3) := by decide +kernel
theorem dX7_winnerWithout_27 : decode cX7_winnerWithout 27 = .ok (.getfield 169, 3) := by decide +kernel
theorem dX7_winnerWithout_30 : decode cX7_winnerWithout 30 = .ok (.ireturn, 1) := by decide +kernel
set_option maxRecDepth 20000 in
set_option maxHeartbeats 4000000 in
theorem w_X7_winnerWithout_0 {x : tg_X} {Sf : tg_S} {r : Int32} (X : tg_M tauC x cX7_winnerWithout 2 RX7 zr_X7_winnerWithout (some .int) Sf (some (.int r))) (S : tg_S) (v1 : Int32) (h : f_X7_winnerWithout  S v1 = some (Sf, r)) : tg_G tauC x S 0 [(0, .ref (tg_ad x 0)), (1, .int v1)] [] := by
  unfold f_X7_winnerWithout at h
  refine tg_aload_n X dX7_winnerWithout_0 rfl 0 rfl ?_
  refine tg_getr X 0 rfl cl_X7 6 (by decide) rfl wf_X7_48 dX7_winnerWithout_1 ?_
  refine tg_getr X 23 rfl cl_X1 7 (by decide) rfl wf_X7_127 dX7_winnerWithout_4 ?_
  refine tg_iload_n X dX7_winnerWithout_7 rfl 1 rfl ?_
  obtain ⟨S1, eS1, h⟩ := tg_pfE h
  refine tg_puti X 31 rfl cl_X3 4 (by decide) rfl wf_X7_226 rfl rfl rfl dX7_winnerWithout_8 eS1 ?_
  refine tg_aload_n X dX7_winnerWithout_11 rfl 0 rfl ?_
  refine tg_getr X 0 rfl cl_X7 7 (by decide) rfl wf_X7_51 dX7_winnerWithout_12 ?_
  refine tg_aload_n X dX7_winnerWithout_15 rfl 0 rfl ?_
  refine tg_getr X 0 rfl cl_X7 6 (by decide) rfl wf_X7_48 dX7_winnerWithout_16 ?_
  obtain ⟨S2, r3, kS2, h⟩ := tg_bdE h
  refine tg_callV (As := [.ref (tg_ad x 23)]) (rest := []) X 42 (cm_X2_play_b _ _ _ _ _ kS2) yy_X2_play wv_X2_play ws_X2_play wm_X7_198 rfl cl_X2.1 ⟨rfl, rfl, Nat.le_of_ble_eq_true rfl, Nat.le_of_ble_eq_true rfl⟩ rfl rfl (Nat.le_of_ble_eq_true rfl) dX7_winnerWithout_19 rfl ?_
  refine tg_pop X dX7_winnerWithout_22 rfl ?_
  refine tg_aload_n X dX7_winnerWithout_23 rfl 0 rfl ?_
  refine tg_getr X 0 rfl cl_X7 7 (by decide) rfl wf_X7_51 dX7_winnerWithout_24 ?_
  refine tg_geti X 42 rfl cl_X2 5 (by decide) rfl wf_X7_169 dX7_winnerWithout_27 ?_
  exact tg_iret X h rfl dX7_winnerWithout_30
theorem cm_X7_winnerWithout (l : Launch) (D : va_G) (cy : Bool → ClassId) (ad : Nat → Nat) (tS : Nat) {S Sf : tg_S} {v1 : Int32} {r : Int32} (h : f_X7_winnerWithout  S v1 = some (Sf, r)) : tg_Met l yX7_winnerWithout cX7_winnerWithout 2 (some .int) zr_X7_winnerWithout tauC D cy ad tS S [.ref (ad 0), .int v1] Sf (some (.int r)) := tg_mk (by decide +kernel) trivial (Nat.le_of_ble_eq_true rfl) (fun p e s m args below meth c Q A X => w_X7_winnerWithout_0 X S v1 h)
-- X7_chooseSpare
def zr_X7_chooseSpare : Room := { frames := 5, cells := 0, slots := 0, locals := 117 }
theorem dX7_chooseSpare_0 : decode cX7_chooseSpare 0 = .ok (.aload_n 0, 1) := by decide +kernel
theorem dX7_chooseSpare_1 : decode cX7_chooseSpare 1 = .ok (.getfield 57, 3) := by decide +kernel
theorem dX7_chooseSpare_4 : decode cX7_chooseSpare 4 = .ok (.iconst 0, 1) := by decide +kernel
theorem dX7_chooseSpare_5 : decode cX7_chooseSpare 5 = .ok (.invokevirtual 194, 3) := by decide +kernel
theorem dX7_chooseSpare_8 : decode cX7_chooseSpare 8 = .ok (.aload_n 0, 1) := by decide +kernel
theorem dX7_chooseSpare_9 : decode cX7_chooseSpare 9 = .ok (.getfield 44, 3) := by decide +kernel
theorem dX7_chooseSpare_12 : decode cX7_chooseSpare 12 = .ok (.getfield 169, 3) := by decide +kernel
theorem dX7_chooseSpare_15 : decode cX7_chooseSpare 15 = .ok (.iconst 1, 1) := by decide +kernel
theorem dX7_chooseSpare_16 : decode cX7_chooseSpare 16 = .ok (.if_icmp .eq 5, 3) := by decide +kernel
theorem dX7_chooseSpare_19 : decode cX7_chooseSpare 19 = .ok (.iconst 0, 1) := by decide +kernel
theorem dX7_chooseSpare_20 : decode cX7_chooseSpare 20 = .ok (.ireturn, 1) := by decide +kernel
theorem dX7_chooseSpare_21 : decode cX7_chooseSpare 21 = .ok (.aload_n 0, 1) := by decide +kernel
theorem dX7_chooseSpare_22 : decode cX7_chooseSpare 22 = .ok (.getfield 48, 3) := by decide +kernel
theorem dX7_chooseSpare_25 : decode cX7_chooseSpare 25 = .ok (.aload_n 0, 1) := by decide +kernel
theorem dX7_chooseSpare_26 : decode cX7_chooseSpare 26 = .ok (.getfield 37, 3) := by decide +kernel
theorem dX7_chooseSpare_29 : decode cX7_chooseSpare 29 = .ok (.invokevirtual 190, 3) := by decide +kernel
theorem dX7_chooseSpare_32 : decode cX7_chooseSpare 32 = .ok (.aload_n 0, 1) := by decide +kernel
theorem dX7_chooseSpare_33 : decode cX7_chooseSpare 33 = .ok (.getfield 48, 3) := by decide +kernel
theorem dX7_chooseSpare_36 : decode cX7_chooseSpare 36 = .ok (.getfield 127, 3) := by decide +kernel
theorem dX7_chooseSpare_39 : decode cX7_chooseSpare 39 = .ok (.getfield 131, 3) := by decide +kernel
theorem dX7_chooseSpare_42 : decode cX7_chooseSpare 42 = .ok (.istore_n 1, 1) := by decide +kernel
theorem dX7_chooseSpare_43 : decode cX7_chooseSpare 43 = .ok (.iconst 0, 1) := by decide +kernel
theorem dX7_chooseSpare_44 : decode cX7_chooseSpare 44 = .ok (.istore_n 2, 1) := by decide +kernel
theorem dX7_chooseSpare_45 : decode cX7_chooseSpare 45 = .ok (.iload_n 2, 1) := by decide +kernel
theorem dX7_chooseSpare_46 : decode cX7_chooseSpare 46 = .ok (.iload_n 1, 1) := by decide +kernel
theorem dX7_chooseSpare_47 : decode cX7_chooseSpare 47 = .ok (.if_icmp .ge 30, 3) := by decide +kernel
theorem dX7_chooseSpare_50 : decode cX7_chooseSpare 50 = .ok (.aload_n 0, 1) := by decide +kernel
theorem dX7_chooseSpare_51 : decode cX7_chooseSpare 51 = .ok (.iconst 1, 1) := by decide +kernel
theorem dX7_chooseSpare_52 : decode cX7_chooseSpare 52 = .ok (.iload_n 2, 1) := by decide +kernel
theorem dX7_chooseSpare_53 : decode cX7_chooseSpare 53 = .ok (.ishl, 1) := by decide +kernel
theorem dX7_chooseSpare_54 : decode cX7_chooseSpare 54 = .ok (.invokevirtual 380, 3) := by decide +kernel
theorem dX7_chooseSpare_57 : decode cX7_chooseSpare 57 = .ok (.iconst 1, 1) := by decide +kernel
theorem dX7_chooseSpare_58 : decode cX7_chooseSpare 58 = .ok (.if_icmp .eq 13, 3) := by decide +kernel
theorem dX7_chooseSpare_61 : decode cX7_chooseSpare 61 = .ok (.aload_n 0, 1) := by decide +kernel
theorem dX7_chooseSpare_62 : decode cX7_chooseSpare 62 = .ok (.getfield 57, 3) := by decide +kernel
theorem dX7_chooseSpare_65 : decode cX7_chooseSpare 65 = .ok (.iload_n 2, 1) := by decide +kernel
theorem dX7_chooseSpare_66 : decode cX7_chooseSpare 66 = .ok (.putfield 206, 3) := by decide +kernel
theorem dX7_chooseSpare_69 : decode cX7_chooseSpare 69 = .ok (.iconst 1, 1) := by decide +kernel
theorem dX7_chooseSpare_70 : decode cX7_chooseSpare 70 = .ok (.ireturn, 1) := by decide +kernel
theorem dX7_chooseSpare_71 : decode cX7_chooseSpare 71 = .ok (.iinc 2 1, 3) := by decide +kernel
theorem dX7_chooseSpare_74 : decode cX7_chooseSpare 74 = .ok (.goto (-29), 3) := by decide +kernel
theorem dX7_chooseSpare_77 : decode cX7_chooseSpare 77 = .ok (.iconst 0, 1) := by decide +kernel
theorem dX7_chooseSpare_78 : decode cX7_chooseSpare 78 = .ok (.istore_n 2, 1) := by decide +kernel
theorem dX7_chooseSpare_79 : decode cX7_chooseSpare 79 = .ok (.iload_n 2, 1) := by decide +kernel
theorem dX7_chooseSpare_80 : decode cX7_chooseSpare 80 = .ok (.iload_n 1, 1) := by decide +kernel
theorem dX7_chooseSpare_81 : decode cX7_chooseSpare 81 = .ok (.if_icmp .ge 57, 3) := by decide +kernel
theorem dX7_chooseSpare_84 : decode cX7_chooseSpare 84 = .ok (.iload_n 2, 1) := by decide +kernel
theorem dX7_chooseSpare_85 : decode cX7_chooseSpare 85 = .ok (.iconst 1, 1) := by decide +kernel
theorem dX7_chooseSpare_86 : decode cX7_chooseSpare 86 = .ok (.iadd, 1) := by decide +kernel
theorem dX7_chooseSpare_87 : decode cX7_chooseSpare 87 = .ok (.istore_n 3, 1) := by decide +kernel
theorem dX7_chooseSpare_88 : decode cX7_chooseSpare 88 = .ok (.iload_n 3, 1) := by decide +kernel
theorem dX7_chooseSpare_89 : decode cX7_chooseSpare 89 = .ok (.iload_n 1, 1) := by decide +kernel
theorem dX7_chooseSpare_90 : decode cX7_chooseSpare 90 = .ok (.if_icmp .ge 42, 3) := by decide +kernel
theorem dX7_chooseSpare_93 : decode cX7_chooseSpare 93 = .ok (.aload_n 0, 1) := by decide +kernel
theorem dX7_chooseSpare_94 : decode cX7_chooseSpare 94 = .ok (.iconst 1, 1) := by decide +kernel
theorem dX7_chooseSpare_95 : decode cX7_chooseSpare 95 = .ok (.iload_n 2, 1) := by decide +kernel
theorem dX7_chooseSpare_96 : decode cX7_chooseSpare 96 = .ok (.ishl, 1) := by decide +kernel
theorem dX7_chooseSpare_97 : decode cX7_chooseSpare 97 = .ok (.iconst 1, 1) := by decide +kernel
theorem dX7_chooseSpare_98 : decode cX7_chooseSpare 98 = .ok (.iload_n 3, 1) := by decide +kernel
theorem dX7_chooseSpare_99 : decode cX7_chooseSpare 99 = .ok (.ishl, 1) := by decide +kernel
theorem dX7_chooseSpare_100 : decode cX7_chooseSpare 100 = .ok (.ior, 1) := by decide +kernel
theorem dX7_chooseSpare_101 : decode cX7_chooseSpare 101 = .ok (.invokevirtual 380, 3) := by decide +kernel
theorem dX7_chooseSpare_104 : decode cX7_chooseSpare 104 = .ok (.iconst 1, 1) := by decide +kernel
theorem dX7_chooseSpare_105 : decode cX7_chooseSpare 105 = .ok (.if_icmp .eq 21, 3) := by decide +kernel
theorem dX7_chooseSpare_108 : decode cX7_chooseSpare 108 = .ok (.aload_n 0, 1) := by decide +kernel
theorem dX7_chooseSpare_109 : decode cX7_chooseSpare 109 = .ok (.getfield 57, 3) := by decide +kernel
theorem dX7_chooseSpare_112 : decode cX7_chooseSpare 112 = .ok (.iload_n 2, 1) := by decide +kernel
theorem dX7_chooseSpare_113 : decode cX7_chooseSpare 113 = .ok (.putfield 206, 3) := by decide +kernel
theorem dX7_chooseSpare_116 : decode cX7_chooseSpare 116 = .ok (.aload_n 0, 1) := by decide +kernel
theorem dX7_chooseSpare_117 : decode cX7_chooseSpare 117 = .ok (.getfield 57, 3) := by decide +kernel
theorem dX7_chooseSpare_120 : decode cX7_chooseSpare 120 = .ok (.iload_n 3, 1) := by decide +kernel
theorem dX7_chooseSpare_121 : decode cX7_chooseSpare 121 = .ok (.putfield 215, 3) := by decide +kernel
theorem dX7_chooseSpare_124 : decode cX7_chooseSpare 124 = .ok (.iconst 2, 1) := by decide +kernel
theorem dX7_chooseSpare_125 : decode cX7_chooseSpare 125 = .ok (.ireturn, 1) := by decide +kernel
theorem dX7_chooseSpare_126 : decode cX7_chooseSpare 126 = .ok (.iinc 3 1, 3) := by decide +kernel
theorem dX7_chooseSpare_129 : decode cX7_chooseSpare 129 = .ok (.goto (-41), 3) := by decide +kernel
theorem dX7_chooseSpare_132 : decode cX7_chooseSpare 132 = .ok (.iinc 2 1, 3) := by decide +kernel
theorem dX7_chooseSpare_135 : decode cX7_chooseSpare 135 = .ok (.goto (-56), 3) := by decide +kernel
theorem dX7_chooseSpare_138 : decode cX7_chooseSpare 138 = .ok (.iconst (-1), 1) := by decide +kernel
theorem dX7_chooseSpare_139 : decode cX7_chooseSpare 139 = .ok (.ireturn, 1) := by decide +kernel
set_option maxRecDepth 20000 in
set_option maxHeartbeats 4000000 in
theorem w_X7_chooseSpare_88 {x : tg_X} {Sf : tg_S} {r : Int32} {rec79 : tg_S → Int32 → Int32 → Option (tg_S × Int32)} {rec88 : tg_S → Int32 → Int32 → Int32 → Option (tg_S × Int32)} (X : tg_M tauC x cX7_chooseSpare 4 RX7 zr_X7_chooseSpare (some .int) Sf (some (.int r))) (hr79 : ∀ (S : tg_S) (v1 : Int32) (v2 : Int32), rec79 S v1 v2 = some (Sf, r) → tg_G tauC x S 79 [(0, .ref (tg_ad x 0)), (1, .int v1), (2, .int v2)] []) (hr88 : ∀ (S : tg_S) (v1 : Int32) (v2 : Int32) (v3 : Int32), rec88 S v1 v2 v3 = some (Sf, r) → tg_G tauC x S 88 [(0, .ref (tg_ad x 0)), (1, .int v1), (2, .int v2), (3, .int v3)] []) (S : tg_S) (v1 : Int32) (v2 : Int32) (v3 : Int32) (h : f_X7_chooseSpare_88 rec79 rec88 S v1 v2 v3 = some (Sf, r)) : tg_G tauC x S 88 [(0, .ref (tg_ad x 0)), (1, .int v1), (2, .int v2), (3, .int v3)] [] := by
  unfold f_X7_chooseSpare_88 at h
  refine tg_iload_n X dX7_chooseSpare_88 rfl 3 rfl ?_
  refine tg_iload_n X dX7_chooseSpare_89 rfl 1 rfl ?_
  refine tg_icmp_ge (tgt := 132) X dX7_chooseSpare_90 (by decide) (fun c1 => ?_) (fun c1 => ?_)
  · have h := tg_ifT c1 h
    obtain ⟨y2, ey2⟩ : ∃ z : Int32, z = v2 + 1 := ⟨_, rfl⟩
    have h := tg_nmE ey2 h
    refine tg_iinc (lv2 := [(2, .int y2), (0, .ref (tg_ad x 0)), (1, .int v1), (3, .int v3)]) X dX7_chooseSpare_132 2 rfl tk_i1 ey2 (by decide) rfl ?_
    refine tg_goto (tgt := 79) X dX7_chooseSpare_135 (by decide) ?_
    refine tg_re [1, 2, 0] rfl ?_
    exact hr79 S v1 y2 h
  · have h := tg_ifF c1 h
    refine tg_aload_n X dX7_chooseSpare_93 rfl 0 rfl ?_
    refine tg_iconst X dX7_chooseSpare_94 tk_i1 ?_
    refine tg_iload_n X dX7_chooseSpare_95 rfl 2 rfl ?_
    refine tg_ishl X dX7_chooseSpare_96 ?_
    refine tg_iconst X dX7_chooseSpare_97 tk_i1 ?_
    refine tg_iload_n X dX7_chooseSpare_98 rfl 3 rfl ?_
    refine tg_ishl X dX7_chooseSpare_99 ?_
    refine tg_ior X dX7_chooseSpare_100 ?_
    obtain ⟨S3, r4, kS3, h⟩ := tg_bdE h
    refine tg_callV (As := [.int ((1 <<< (v2 &&& 31)) ||| (1 <<< (v3 &&& 31)))]) (rest := []) X 0 (cm_X7_winnerWithout _ _ _ _ _ kS3) yy_X7_winnerWithout wv_X7_winnerWithout ws_X7_winnerWithout wm_X7_380 rfl cl_X7.1 ⟨rfl, rfl, Nat.le_of_ble_eq_true rfl, Nat.le_of_ble_eq_true rfl⟩ rfl rfl (Nat.le_of_ble_eq_true rfl) dX7_chooseSpare_101 rfl ?_
    refine tg_iconst X dX7_chooseSpare_104 tk_i1 ?_
    refine tg_icmp_eq (tgt := 126) X dX7_chooseSpare_105 (by decide) (fun c5 => ?_) (fun c5 => ?_)
    · have h := tg_ifT c5 h
      obtain ⟨y6, ey6⟩ : ∃ z : Int32, z = v3 + 1 := ⟨_, rfl⟩
      have h := tg_nmE ey6 h
      refine tg_iinc (lv2 := [(3, .int y6), (0, .ref (tg_ad x 0)), (1, .int v1), (2, .int v2)]) X dX7_chooseSpare_126 3 rfl tk_i1 ey6 (by decide) rfl ?_
      refine tg_goto (tgt := 88) X dX7_chooseSpare_129 (by decide) ?_
      refine tg_re [1, 2, 3, 0] rfl ?_
      exact hr88 S3 v1 v2 y6 h
    · have h := tg_ifF c5 h
      refine tg_aload_n X dX7_chooseSpare_108 rfl 0 rfl ?_
      refine tg_getr X 0 rfl cl_X7 8 (by decide) rfl wf_X7_57 dX7_chooseSpare_109 ?_
      refine tg_iload_n X dX7_chooseSpare_112 rfl 2 rfl ?_
      obtain ⟨S7, eS7, h⟩ := tg_pfE h
      refine tg_puti X 49 rfl cl_X0 0 (by decide) rfl wf_X7_206 rfl rfl rfl dX7_chooseSpare_113 eS7 ?_
      refine tg_aload_n X dX7_chooseSpare_116 rfl 0 rfl ?_
      refine tg_getr X 0 rfl cl_X7 8 (by decide) rfl wf_X7_57 dX7_chooseSpare_117 ?_
      refine tg_iload_n X dX7_chooseSpare_120 rfl 3 rfl ?_
      obtain ⟨S8, eS8, h⟩ := tg_pfE h
      refine tg_puti X 49 rfl cl_X0 1 (by decide) rfl wf_X7_215 rfl rfl rfl dX7_chooseSpare_121 eS8 ?_
      refine tg_iconst X dX7_chooseSpare_124 tk_i2 ?_
      exact tg_iret X h rfl dX7_chooseSpare_125
theorem wl_X7_chooseSpare_88 {x : tg_X} {Sf : tg_S} {r : Int32} {rec79 : tg_S → Int32 → Int32 → Option (tg_S × Int32)} (X : tg_M tauC x cX7_chooseSpare 4 RX7 zr_X7_chooseSpare (some .int) Sf (some (.int r))) (hr79 : ∀ (S : tg_S) (v1 : Int32) (v2 : Int32), rec79 S v1 v2 = some (Sf, r) → tg_G tauC x S 79 [(0, .ref (tg_ad x 0)), (1, .int v1), (2, .int v2)] []) : ∀ (n : Nat) (S : tg_S) (v1 : Int32) (v2 : Int32) (v3 : Int32) (h : L_X7_chooseSpare_88 rec79 n S v1 v2 v3 = some (Sf, r)), tg_G tauC x S 88 [(0, .ref (tg_ad x 0)), (1, .int v1), (2, .int v2), (3, .int v3)] [] := by
  intro n
  induction n with
  | zero => intro S v1 v2 v3 h; cases h
  | succ n ih => intro S v1 v2 v3 h; exact w_X7_chooseSpare_88 X hr79 ih S v1 v2 v3 h
set_option maxRecDepth 20000 in
set_option maxHeartbeats 4000000 in
theorem w_X7_chooseSpare_79 {x : tg_X} {Sf : tg_S} {r : Int32} {rec79 : tg_S → Int32 → Int32 → Option (tg_S × Int32)} (X : tg_M tauC x cX7_chooseSpare 4 RX7 zr_X7_chooseSpare (some .int) Sf (some (.int r))) (hr79 : ∀ (S : tg_S) (v1 : Int32) (v2 : Int32), rec79 S v1 v2 = some (Sf, r) → tg_G tauC x S 79 [(0, .ref (tg_ad x 0)), (1, .int v1), (2, .int v2)] []) (S : tg_S) (v1 : Int32) (v2 : Int32) (h : f_X7_chooseSpare_79 rec79 S v1 v2 = some (Sf, r)) : tg_G tauC x S 79 [(0, .ref (tg_ad x 0)), (1, .int v1), (2, .int v2)] [] := by
  unfold f_X7_chooseSpare_79 at h
  refine tg_iload_n X dX7_chooseSpare_79 rfl 2 rfl ?_
  refine tg_iload_n X dX7_chooseSpare_80 rfl 1 rfl ?_
  refine tg_icmp_ge (tgt := 138) X dX7_chooseSpare_81 (by decide) (fun c1 => ?_) (fun c1 => ?_)
  · have h := tg_ifT c1 h
    refine tg_iconst X dX7_chooseSpare_138 tk_im1 ?_
    exact tg_iret X h rfl dX7_chooseSpare_139
  · have h := tg_ifF c1 h
    refine tg_iload_n X dX7_chooseSpare_84 rfl 2 rfl ?_
    refine tg_iconst X dX7_chooseSpare_85 tk_i1 ?_
    refine tg_iadd X dX7_chooseSpare_86 ?_
    refine tg_topi (fun y2 ey2 => ?_)
    have h := tg_nmE ey2 h
    refine tg_istore_n (lv2 := [(3, .int y2), (0, .ref (tg_ad x 0)), (1, .int v1), (2, .int v2)]) X dX7_chooseSpare_87 rfl (by decide) rfl ?_
    refine tg_re [1, 2, 3, 0] rfl ?_
    exact wl_X7_chooseSpare_88 X hr79 tg_F S v1 v2 y2 h
theorem wl_X7_chooseSpare_79 {x : tg_X} {Sf : tg_S} {r : Int32} (X : tg_M tauC x cX7_chooseSpare 4 RX7 zr_X7_chooseSpare (some .int) Sf (some (.int r))) : ∀ (n : Nat) (S : tg_S) (v1 : Int32) (v2 : Int32) (h : L_X7_chooseSpare_79  n S v1 v2 = some (Sf, r)), tg_G tauC x S 79 [(0, .ref (tg_ad x 0)), (1, .int v1), (2, .int v2)] [] := by
  intro n
  induction n with
  | zero => intro S v1 v2 h; cases h
  | succ n ih => intro S v1 v2 h; exact w_X7_chooseSpare_79 X  ih S v1 v2 h
set_option maxRecDepth 20000 in
set_option maxHeartbeats 4000000 in
theorem w_X7_chooseSpare_45 {x : tg_X} {Sf : tg_S} {r : Int32} {rec45 : tg_S → Int32 → Int32 → Option (tg_S × Int32)} (X : tg_M tauC x cX7_chooseSpare 4 RX7 zr_X7_chooseSpare (some .int) Sf (some (.int r))) (hr45 : ∀ (S : tg_S) (v1 : Int32) (v2 : Int32), rec45 S v1 v2 = some (Sf, r) → tg_G tauC x S 45 [(0, .ref (tg_ad x 0)), (1, .int v1), (2, .int v2)] []) (S : tg_S) (v1 : Int32) (v2 : Int32) (h : f_X7_chooseSpare_45 rec45 S v1 v2 = some (Sf, r)) : tg_G tauC x S 45 [(0, .ref (tg_ad x 0)), (1, .int v1), (2, .int v2)] [] := by
  unfold f_X7_chooseSpare_45 at h
  refine tg_iload_n X dX7_chooseSpare_45 rfl 2 rfl ?_
  refine tg_iload_n X dX7_chooseSpare_46 rfl 1 rfl ?_
  refine tg_icmp_ge (tgt := 77) X dX7_chooseSpare_47 (by decide) (fun c1 => ?_) (fun c1 => ?_)
  · have h := tg_ifT c1 h
    refine tg_iconst X dX7_chooseSpare_77 tk_i0 ?_
    refine tg_istore_n (lv2 := [(2, .int 0), (0, .ref (tg_ad x 0)), (1, .int v1)]) X dX7_chooseSpare_78 rfl (by decide) rfl ?_
    refine tg_re [1, 2, 0] rfl ?_
    exact wl_X7_chooseSpare_79 X  tg_F S v1 0 h
  · have h := tg_ifF c1 h
    refine tg_aload_n X dX7_chooseSpare_50 rfl 0 rfl ?_
    refine tg_iconst X dX7_chooseSpare_51 tk_i1 ?_
    refine tg_iload_n X dX7_chooseSpare_52 rfl 2 rfl ?_
    refine tg_ishl X dX7_chooseSpare_53 ?_
    obtain ⟨S2, r3, kS2, h⟩ := tg_bdE h
    refine tg_callV (As := [.int (1 <<< (v2 &&& 31))]) (rest := []) X 0 (cm_X7_winnerWithout _ _ _ _ _ kS2) yy_X7_winnerWithout wv_X7_winnerWithout ws_X7_winnerWithout wm_X7_380 rfl cl_X7.1 ⟨rfl, rfl, Nat.le_of_ble_eq_true rfl, Nat.le_of_ble_eq_true rfl⟩ rfl rfl (Nat.le_of_ble_eq_true rfl) dX7_chooseSpare_54 rfl ?_
    refine tg_iconst X dX7_chooseSpare_57 tk_i1 ?_
    refine tg_icmp_eq (tgt := 71) X dX7_chooseSpare_58 (by decide) (fun c4 => ?_) (fun c4 => ?_)
    · have h := tg_ifT c4 h
      obtain ⟨y5, ey5⟩ : ∃ z : Int32, z = v2 + 1 := ⟨_, rfl⟩
      have h := tg_nmE ey5 h
      refine tg_iinc (lv2 := [(2, .int y5), (0, .ref (tg_ad x 0)), (1, .int v1)]) X dX7_chooseSpare_71 2 rfl tk_i1 ey5 (by decide) rfl ?_
      refine tg_goto (tgt := 45) X dX7_chooseSpare_74 (by decide) ?_
      refine tg_re [1, 2, 0] rfl ?_
      exact hr45 S2 v1 y5 h
    · have h := tg_ifF c4 h
      refine tg_aload_n X dX7_chooseSpare_61 rfl 0 rfl ?_
      refine tg_getr X 0 rfl cl_X7 8 (by decide) rfl wf_X7_57 dX7_chooseSpare_62 ?_
      refine tg_iload_n X dX7_chooseSpare_65 rfl 2 rfl ?_
      obtain ⟨S6, eS6, h⟩ := tg_pfE h
      refine tg_puti X 49 rfl cl_X0 0 (by decide) rfl wf_X7_206 rfl rfl rfl dX7_chooseSpare_66 eS6 ?_
      refine tg_iconst X dX7_chooseSpare_69 tk_i1 ?_
      exact tg_iret X h rfl dX7_chooseSpare_70
theorem wl_X7_chooseSpare_45 {x : tg_X} {Sf : tg_S} {r : Int32} (X : tg_M tauC x cX7_chooseSpare 4 RX7 zr_X7_chooseSpare (some .int) Sf (some (.int r))) : ∀ (n : Nat) (S : tg_S) (v1 : Int32) (v2 : Int32) (h : L_X7_chooseSpare_45  n S v1 v2 = some (Sf, r)), tg_G tauC x S 45 [(0, .ref (tg_ad x 0)), (1, .int v1), (2, .int v2)] [] := by
  intro n
  induction n with
  | zero => intro S v1 v2 h; cases h
  | succ n ih => intro S v1 v2 h; exact w_X7_chooseSpare_45 X  ih S v1 v2 h
set_option maxRecDepth 20000 in
set_option maxHeartbeats 4000000 in
theorem w_X7_chooseSpare_0 {x : tg_X} {Sf : tg_S} {r : Int32} (X : tg_M tauC x cX7_chooseSpare 4 RX7 zr_X7_chooseSpare (some .int) Sf (some (.int r))) (S : tg_S) (h : f_X7_chooseSpare  S  = some (Sf, r)) : tg_G tauC x S 0 [(0, .ref (tg_ad x 0))] [] := by
  unfold f_X7_chooseSpare at h
  refine tg_aload_n X dX7_chooseSpare_0 rfl 0 rfl ?_
  refine tg_getr X 0 rfl cl_X7 8 (by decide) rfl wf_X7_57 dX7_chooseSpare_1 ?_
  refine tg_iconst X dX7_chooseSpare_4 tk_i0 ?_
  obtain ⟨S1, kS1, h⟩ := tg_bvE h
  refine tg_callV (As := [.int 0]) (rest := []) X 49 (cm_X0_startFor _ _ _ _ _ kS1) yy_X0_startFor wv_X0_startFor ws_X0_startFor wm_X7_194 rfl cl_X0.1 ⟨rfl, rfl, Nat.le_of_ble_eq_true rfl, Nat.le_of_ble_eq_true rfl⟩ rfl rfl (Nat.le_of_ble_eq_true rfl) dX7_chooseSpare_5 rfl ?_
  refine tg_aload_n X dX7_chooseSpare_8 rfl 0 rfl ?_
  refine tg_getr X 0 rfl cl_X7 5 (by decide) rfl wf_X7_44 dX7_chooseSpare_9 ?_
  refine tg_geti X 35 rfl cl_X2 5 (by decide) rfl wf_X7_169 dX7_chooseSpare_12 ?_
  refine tg_iconst X dX7_chooseSpare_15 tk_i1 ?_
  refine tg_icmp_eq (tgt := 21) X dX7_chooseSpare_16 (by decide) (fun c2 => ?_) (fun c2 => ?_)
  · have h := tg_ifT c2 h
    refine tg_aload_n X dX7_chooseSpare_21 rfl 0 rfl ?_
    refine tg_getr X 0 rfl cl_X7 6 (by decide) rfl wf_X7_48 dX7_chooseSpare_22 ?_
    refine tg_aload_n X dX7_chooseSpare_25 rfl 0 rfl ?_
    refine tg_getr X 0 rfl cl_X7 4 (by decide) rfl wf_X7_37 dX7_chooseSpare_26 ?_
    obtain ⟨S3, kS3, h⟩ := tg_bvE h
    refine tg_callV (As := [.ref (tg_ad x 11)]) (rest := []) X 23 (cm_X1_becomeLike _ _ _ _ _ kS3) yy_X1_becomeLike wv_X1_becomeLike ws_X1_becomeLike wm_X7_190 rfl cl_X1.1 ⟨rfl, rfl, Nat.le_of_ble_eq_true rfl, Nat.le_of_ble_eq_true rfl⟩ rfl rfl (Nat.le_of_ble_eq_true rfl) dX7_chooseSpare_29 rfl ?_
    refine tg_aload_n X dX7_chooseSpare_32 rfl 0 rfl ?_
    refine tg_getr X 0 rfl cl_X7 6 (by decide) rfl wf_X7_48 dX7_chooseSpare_33 ?_
    refine tg_getr X 23 rfl cl_X1 7 (by decide) rfl wf_X7_127 dX7_chooseSpare_36 ?_
    refine tg_geti X 31 rfl cl_X3 3 (by decide) rfl wf_X7_131 dX7_chooseSpare_39 ?_
    refine tg_topi (fun y4 ey4 => ?_)
    have h := tg_nmE ey4 h
    refine tg_istore_n (lv2 := [(1, .int y4), (0, .ref (tg_ad x 0))]) X dX7_chooseSpare_42 rfl (by decide) rfl ?_
    refine tg_iconst X dX7_chooseSpare_43 tk_i0 ?_
    refine tg_istore_n (lv2 := [(2, .int 0), (1, .int y4), (0, .ref (tg_ad x 0))]) X dX7_chooseSpare_44 rfl (by decide) rfl ?_
    refine tg_re [2, 1, 0] rfl ?_
    exact wl_X7_chooseSpare_45 X  tg_F S3 y4 0 h
  · have h := tg_ifF c2 h
    refine tg_iconst X dX7_chooseSpare_19 tk_i0 ?_
    exact tg_iret X h rfl dX7_chooseSpare_20
theorem cm_X7_chooseSpare (l : Launch) (D : va_G) (cy : Bool → ClassId) (ad : Nat → Nat) (tS : Nat) {S Sf : tg_S} {r : Int32} (h : f_X7_chooseSpare  S  = some (Sf, r)) : tg_Met l yX7_chooseSpare cX7_chooseSpare 4 (some .int) zr_X7_chooseSpare tauC D cy ad tS S [.ref (ad 0)] Sf (some (.int r)) := tg_mk (by decide +kernel) trivial (Nat.le_of_ble_eq_true rfl) (fun p e s m args below meth c Q A X => w_X7_chooseSpare_0 X S  h)
-- X7_spare
def zr_X7_spare : Room := { frames := 6, cells := 0, slots := 0, locals := 140 }
theorem dX7_spare_0 : decode cX7_spare 0 = .ok (.iload_n 1, 1) := by decide +kernel
theorem dX7_spare_1 : decode cX7_spare 1 = .ok (.iconst (-1), 1) := by decide +kernel
theorem dX7_spare_2 : decode cX7_spare 2 = .ok (.if_icmp .lt 8, 3) := by decide +kernel
theorem dX7_spare_5 : decode cX7_spare 5 = .ok (.iload_n 1, 1) := by decide +kernel
theorem dX7_spare_6 : decode cX7_spare 6 = .ok (.iconst 1, 1) := by decide +kernel
theorem dX7_spare_7 : decode cX7_spare 7 = .ok (.if_icmp .le 6, 3) := by decide +kernel
theorem dX7_spare_10 : decode cX7_spare 10 = .ok (.bipush (-2), 2) := by decide +kernel
theorem dX7_spare_12 : decode cX7_spare 12 = .ok (.ireturn, 1) := by decide +kernel
theorem dX7_spare_13 : decode cX7_spare 13 = .ok (.aload_n 0, 1) := by decide +kernel
theorem dX7_spare_14 : decode cX7_spare 14 = .ok (.invokevirtual 221, 3) := by decide +kernel
theorem dX7_spare_17 : decode cX7_spare 17 = .ok (.istore_n 2, 1) := by decide +kernel
theorem dX7_spare_18 : decode cX7_spare 18 = .ok (.iload_n 1, 1) := by decide +kernel
theorem dX7_spare_19 : decode cX7_spare 19 = .ok (.iconst (-1), 1) := by decide +kernel
theorem dX7_spare_20 : decode cX7_spare 20 = .ok (.if_icmp .ne 5, 3) := by decide +kernel
theorem dX7_spare_23 : decode cX7_spare 23 = .ok (.iload_n 2, 1) := by decide +kernel
theorem dX7_spare_24 : decode cX7_spare 24 = .ok (.ireturn, 1) := by decide +kernel
theorem dX7_spare_25 : decode cX7_spare 25 = .ok (.iload_n 1, 1) := by decide +kernel
theorem dX7_spare_26 : decode cX7_spare 26 = .ok (.ifCond .ne 13, 3) := by decide +kernel
theorem dX7_spare_29 : decode cX7_spare 29 = .ok (.aload_n 0, 1) := by decide +kernel
theorem dX7_spare_30 : decode cX7_spare 30 = .ok (.getfield 57, 3) := by decide +kernel
theorem dX7_spare_33 : decode cX7_spare 33 = .ok (.getfield 206, 3) := by decide +kernel
theorem dX7_spare_36 : decode cX7_spare 36 = .ok (.goto 10, 3) := by decide +kernel
theorem dX7_spare_39 : decode cX7_spare 39 = .ok (.aload_n 0, 1) := by decide +kernel
theorem dX7_spare_40 : decode cX7_spare 40 = .ok (.getfield 57, 3) := by decide +kernel
theorem dX7_spare_43 : decode cX7_spare 43 = .ok (.getfield 215, 3) := by decide +kernel
theorem dX7_spare_46 : decode cX7_spare 46 = .ok (.ireturn, 1) := by decide +kernel
set_option maxRecDepth 20000 in
set_option maxHeartbeats 4000000 in
theorem w_X7_spare_0 {x : tg_X} {Sf : tg_S} {r : Int32} (X : tg_M tauC x cX7_spare 3 RX7 zr_X7_spare (some .int) Sf (some (.int r))) (S : tg_S) (v1 : Int32) (h : f_X7_spare  S v1 = some (Sf, r)) : tg_G tauC x S 0 [(0, .ref (tg_ad x 0)), (1, .int v1)] [] := by
  unfold f_X7_spare at h
  refine tg_iload_n X dX7_spare_0 rfl 1 rfl ?_
  refine tg_iconst X dX7_spare_1 tk_im1 ?_
  refine tg_icmp_lt (tgt := 10) X dX7_spare_2 (by decide) (fun c1 => ?_) (fun c1 => ?_)
  · have h := tg_ifT c1 h
    refine tg_bipush X dX7_spare_10 tk_bm2 ?_
    exact tg_iret X h rfl dX7_spare_12
  · have h := tg_ifF c1 h
    refine tg_iload_n X dX7_spare_5 rfl 1 rfl ?_
    refine tg_iconst X dX7_spare_6 tk_i1 ?_
    refine tg_icmp_le (tgt := 13) X dX7_spare_7 (by decide) (fun c2 => ?_) (fun c2 => ?_)
    · have h := tg_ifT c2 h
      refine tg_aload_n X dX7_spare_13 rfl 0 rfl ?_
      obtain ⟨S3, r4, kS3, h⟩ := tg_bdE h
      refine tg_callV (As := []) (rest := []) X 0 (cm_X7_chooseSpare _ _ _ _ _ kS3) yy_X7_chooseSpare wv_X7_chooseSpare ws_X7_chooseSpare wm_X7_221 rfl cl_X7.1 ⟨rfl, rfl, Nat.le_of_ble_eq_true rfl, Nat.le_of_ble_eq_true rfl⟩ rfl rfl (Nat.le_of_ble_eq_true rfl) dX7_spare_14 rfl ?_
      refine tg_istore_n (lv2 := [(2, .int r4), (0, .ref (tg_ad x 0)), (1, .int v1)]) X dX7_spare_17 rfl (by decide) rfl ?_
      refine tg_iload_n X dX7_spare_18 rfl 2 rfl ?_
      refine tg_iconst X dX7_spare_19 tk_im1 ?_
      refine tg_icmp_ne (tgt := 25) X dX7_spare_20 (by decide) (fun c5 => ?_) (fun c5 => ?_)
      · have h := tg_ifF c5 h
        refine tg_iload_n X dX7_spare_25 rfl 2 rfl ?_
        refine tg_if_ne (tgt := 39) X dX7_spare_26 (by decide) (fun c6 => ?_) (fun c6 => ?_)
        · have h := tg_ifF c6 h
          refine tg_aload_n X dX7_spare_39 rfl 1 rfl ?_
          refine tg_getr X 0 rfl cl_X7 8 (by decide) rfl wf_X7_57 dX7_spare_40 ?_
          refine tg_geti X 49 rfl cl_X0 1 (by decide) rfl wf_X7_215 dX7_spare_43 ?_
          exact tg_iret X h rfl dX7_spare_46
        · have h := tg_ifT c6 h
          refine tg_aload_n X dX7_spare_29 rfl 1 rfl ?_
          refine tg_getr X 0 rfl cl_X7 8 (by decide) rfl wf_X7_57 dX7_spare_30 ?_
          refine tg_geti X 49 rfl cl_X0 0 (by decide) rfl wf_X7_206 dX7_spare_33 ?_
          refine tg_goto (tgt := 46) X dX7_spare_36 (by decide) ?_
          exact tg_iret X h rfl dX7_spare_46
      · have h := tg_ifT c5 h
        refine tg_iload_n X dX7_spare_23 rfl 0 rfl ?_
        exact tg_iret X h rfl dX7_spare_24
    · have h := tg_ifF c2 h
      refine tg_bipush X dX7_spare_10 tk_bm2 ?_
      exact tg_iret X h rfl dX7_spare_12
theorem cm_X7_spare (l : Launch) (D : va_G) (cy : Bool → ClassId) (ad : Nat → Nat) (tS : Nat) {S Sf : tg_S} {v1 : Int32} {r : Int32} (h : f_X7_spare  S v1 = some (Sf, r)) : tg_Met l yX7_spare cX7_spare 3 (some .int) zr_X7_spare tauC D cy ad tS S [.ref (ad 0), .int v1] Sf (some (.int r)) := tg_mk (by decide +kernel) trivial (Nat.le_of_ble_eq_true rfl) (fun p e s m args below meth c Q A X => w_X7_spare_0 X S v1 h)
-- X7_seen
def zr_X7_seen : Room := { frames := 1, cells := 0, slots := 0, locals := 22 }
theorem dX7_seen_0 : decode cX7_seen 0 = .ok (.iload_n 1, 1) := by decide +kernel
theorem dX7_seen_1 : decode cX7_seen 1 = .ok (.bipush 24, 2) := by decide +kernel
theorem dX7_seen_3 : decode cX7_seen 3 = .ok (.invokestatic 75, 3) := by decide +kernel
theorem dX7_seen_6 : decode cX7_seen 6 = .ok (.ifCond .eq 12, 3) := by decide +kernel
theorem dX7_seen_9 : decode cX7_seen 9 = .ok (.iload_n 2, 1) := by decide +kernel
theorem dX7_seen_10 : decode cX7_seen 10 = .ok (.bipush 25, 2) := by decide +kernel
theorem dX7_seen_12 : decode cX7_seen 12 = .ok (.invokestatic 75, 3) := by decide +kernel
theorem dX7_seen_15 : decode cX7_seen 15 = .ok (.ifCond .ne 6, 3) := by decide +kernel
theorem dX7_seen_18 : decode cX7_seen 18 = .ok (.bipush (-2), 2) := by decide +kernel
theorem dX7_seen_20 : decode cX7_seen 20 = .ok (.ireturn, 1) := by decide +kernel
theorem dX7_seen_21 : decode cX7_seen 21 = .ok (.aload_n 0, 1) := by decide +kernel
theorem dX7_seen_22 : decode cX7_seen 22 = .ok (.getfield 19, 3) := by decide +kernel
theorem dX7_seen_25 : decode cX7_seen 25 = .ok (.getfield 224, 3) := by decide +kernel
theorem dX7_seen_28 : decode cX7_seen 28 = .ok (.bipush 8, 2) := by decide +kernel
theorem dX7_seen_30 : decode cX7_seen 30 = .ok (.if_icmp .ne 8, 3) := by decide +kernel
theorem dX7_seen_33 : decode cX7_seen 33 = .ok (.bipush (-4), 2) := by decide +kernel
theorem dX7_seen_35 : decode cX7_seen 35 = .ok (.goto 12, 3) := by decide +kernel
theorem dX7_seen_38 : decode cX7_seen 38 = .ok (.aload_n 0, 1) := by decide +kernel
theorem dX7_seen_39 : decode cX7_seen 39 = .ok (.getfield 19, 3) := by decide +kernel
theorem dX7_seen_42 : decode cX7_seen 42 = .ok (.iload_n 1, 1) := by decide +kernel
theorem dX7_seen_43 : decode cX7_seen 43 = .ok (.iload_n 2, 1) := by decide +kernel
theorem dX7_seen_44 : decode cX7_seen 44 = .ok (.invokevirtual 225, 3) := by decide +kernel
theorem dX7_seen_47 : decode cX7_seen 47 = .ok (.ireturn, 1) := by decide +kernel
set_option maxRecDepth 20000 in
set_option maxHeartbeats 4000000 in
theorem w_X7_seen_0 {x : tg_X} {Sf : tg_S} {r : Int32} (X : tg_M tauC x cX7_seen 3 RX7 zr_X7_seen (some .int) Sf (some (.int r))) (S : tg_S) (v1 : Int32) (v2 : Int32) (h : f_X7_seen  S v1 v2 = some (Sf, r)) : tg_G tauC x S 0 [(0, .ref (tg_ad x 0)), (1, .int v1), (2, .int v2)] [] := by
  unfold f_X7_seen at h
  refine tg_iload_n X dX7_seen_0 rfl 1 rfl ?_
  refine tg_bipush X dX7_seen_1 tk_b24 ?_
  obtain ⟨S1, r2, kS1, h⟩ := tg_bdE h
  refine tg_callS (As := [.int v1, .int 24]) (rest := []) X (cm_X7_isBelow _ _ _ _ _ kS1) yy_X7_isBelow wt_X7_isBelow wm_X7_75 ⟨rfl, rfl, Nat.le_of_ble_eq_true rfl, Nat.le_of_ble_eq_true rfl⟩ rfl rfl (Nat.le_of_ble_eq_true rfl) dX7_seen_3 rfl ?_
  refine tg_if_eq (tgt := 18) X dX7_seen_6 (by decide) (fun c3 => ?_) (fun c3 => ?_)
  · have h := tg_ifT c3 h
    refine tg_bipush X dX7_seen_18 tk_bm2 ?_
    exact tg_iret X h rfl dX7_seen_20
  · have h := tg_ifF c3 h
    refine tg_iload_n X dX7_seen_9 rfl 2 rfl ?_
    refine tg_bipush X dX7_seen_10 tk_b25 ?_
    obtain ⟨S4, r5, kS4, h⟩ := tg_bdE h
    refine tg_callS (As := [.int v2, .int 25]) (rest := []) X (cm_X7_isBelow _ _ _ _ _ kS4) yy_X7_isBelow wt_X7_isBelow wm_X7_75 ⟨rfl, rfl, Nat.le_of_ble_eq_true rfl, Nat.le_of_ble_eq_true rfl⟩ rfl rfl (Nat.le_of_ble_eq_true rfl) dX7_seen_12 rfl ?_
    refine tg_if_ne (tgt := 21) X dX7_seen_15 (by decide) (fun c6 => ?_) (fun c6 => ?_)
    · have h := tg_ifF c6 h
      refine tg_aload_n X dX7_seen_21 rfl 0 rfl ?_
      refine tg_getr X 0 rfl cl_X7 1 (by decide) rfl wf_X7_19 dX7_seen_22 ?_
      refine tg_geti X 4 rfl cl_X4 2 (by decide) rfl wf_X7_224 dX7_seen_25 ?_
      refine tg_bipush X dX7_seen_28 tk_b8 ?_
      refine tg_icmp_ne (tgt := 38) X dX7_seen_30 (by decide) (fun c7 => ?_) (fun c7 => ?_)
      · have h := tg_ifF c7 h
        refine tg_aload_n X dX7_seen_38 rfl 0 rfl ?_
        refine tg_getr X 0 rfl cl_X7 1 (by decide) rfl wf_X7_19 dX7_seen_39 ?_
        refine tg_iload_n X dX7_seen_42 rfl 1 rfl ?_
        refine tg_iload_n X dX7_seen_43 rfl 2 rfl ?_
        obtain ⟨S8, r9, kS8, h⟩ := tg_bdE h
        refine tg_callV (As := [.int v1, .int v2]) (rest := []) X 4 (cm_X4_append _ _ _ _ _ kS8) yy_X4_append wv_X4_append ws_X4_append wm_X7_225 rfl cl_X4.1 ⟨rfl, rfl, Nat.le_of_ble_eq_true rfl, Nat.le_of_ble_eq_true rfl⟩ rfl rfl (Nat.le_of_ble_eq_true rfl) dX7_seen_44 rfl ?_
        exact tg_iret X h rfl dX7_seen_47
      · have h := tg_ifT c7 h
        refine tg_bipush X dX7_seen_33 tk_bm4 ?_
        refine tg_goto (tgt := 47) X dX7_seen_35 (by decide) ?_
        exact tg_iret X h rfl dX7_seen_47
    · have h := tg_ifT c6 h
      refine tg_bipush X dX7_seen_18 tk_bm2 ?_
      exact tg_iret X h rfl dX7_seen_20
theorem cm_X7_seen (l : Launch) (D : va_G) (cy : Bool → ClassId) (ad : Nat → Nat) (tS : Nat) {S Sf : tg_S} {v1 : Int32} {v2 : Int32} {r : Int32} (h : f_X7_seen  S v1 v2 = some (Sf, r)) : tg_Met l yX7_seen cX7_seen 3 (some .int) zr_X7_seen tauC D cy ad tS S [.ref (ad 0), .int v1, .int v2] Sf (some (.int r)) := tg_mk (by decide +kernel) trivial (Nat.le_of_ble_eq_true rfl) (fun p e s m args below meth c Q A X => w_X7_seen_0 X S v1 v2 h)
-- X7_forget
def zr_X7_forget : Room := { frames := 0, cells := 0, slots := 0, locals := 0 }
theorem dX7_forget_0 : decode cX7_forget 0 = .ok (.aload_n 0, 1) := by decide +kernel
theorem dX7_forget_1 : decode cX7_forget 1 = .ok (.getfield 19, 3) := by decide +kernel
theorem dX7_forget_4 : decode cX7_forget 4 = .ok (.getfield 224, 3) := by decide +kernel
theorem dX7_forget_7 : decode cX7_forget 7 = .ok (.istore_n 1, 1) := by decide +kernel
theorem dX7_forget_8 : decode cX7_forget 8 = .ok (.aload_n 0, 1) := by decide +kernel
theorem dX7_forget_9 : decode cX7_forget 9 = .ok (.getfield 19, 3) := by decide +kernel
theorem dX7_forget_12 : decode cX7_forget 12 = .ok (.iconst 0, 1) := by decide +kernel
theorem dX7_forget_13 : decode cX7_forget 13 = .ok (.putfield 224, 3) := by decide +kernel
theorem dX7_forget_16 : decode cX7_forget 16 = .ok (.iload_n 1, 1) := by decide +kernel
theorem dX7_forget_17 : decode cX7_forget 17 = .ok (.ireturn, 1) := by decide +kernel
set_option maxRecDepth 20000 in
set_option maxHeartbeats 4000000 in
theorem w_X7_forget_0 {x : tg_X} {Sf : tg_S} {r : Int32} (X : tg_M tauC x cX7_forget 2 RX7 zr_X7_forget (some .int) Sf (some (.int r))) (S : tg_S) (h : f_X7_forget  S  = some (Sf, r)) : tg_G tauC x S 0 [(0, .ref (tg_ad x 0))] [] := by
  unfold f_X7_forget at h
  refine tg_aload_n X dX7_forget_0 rfl 0 rfl ?_
  refine tg_getr X 0 rfl cl_X7 1 (by decide) rfl wf_X7_19 dX7_forget_1 ?_
  refine tg_geti X 4 rfl cl_X4 2 (by decide) rfl wf_X7_224 dX7_forget_4 ?_
  refine tg_topi (fun y1 ey1 => ?_)
  have h := tg_nmE ey1 h
  refine tg_istore_n (lv2 := [(1, .int y1), (0, .ref (tg_ad x 0))]) X dX7_forget_7 rfl (by decide) rfl ?_
  refine tg_aload_n X dX7_forget_8 rfl 1 rfl ?_
  refine tg_getr X 0 rfl cl_X7 1 (by decide) rfl wf_X7_19 dX7_forget_9 ?_
  refine tg_iconst X dX7_forget_12 tk_i0 ?_
  obtain ⟨S2, eS2, h⟩ := tg_pfE h
  refine tg_puti X 4 rfl cl_X4 2 (by decide) rfl wf_X7_224 rfl rfl rfl dX7_forget_13 eS2 ?_
  refine tg_iload_n X dX7_forget_16 rfl 0 rfl ?_
  exact tg_iret X h rfl dX7_forget_17
theorem cm_X7_forget (l : Launch) (D : va_G) (cy : Bool → ClassId) (ad : Nat → Nat) (tS : Nat) {S Sf : tg_S} {r : Int32} (h : f_X7_forget  S  = some (Sf, r)) : tg_Met l yX7_forget cX7_forget 2 (some .int) zr_X7_forget tauC D cy ad tS S [.ref (ad 0)] Sf (some (.int r)) := tg_mk (by decide +kernel) trivial (Nat.le_of_ble_eq_true rfl) (fun p e s m args below meth c Q A X => w_X7_forget_0 X S  h)
-- X7_never
def zr_X7_never : Room := { frames := 4, cells := 0, slots := 0, locals := 96 }
theorem dX7_never_0 : decode cX7_never 0 = .ok (.aload_n 0, 1) := by decide +kernel
theorem dX7_never_1 : decode cX7_never 1 = .ok (.getfield 48, 3) := by decide +kernel
theorem dX7_never_4 : decode cX7_never 4 = .ok (.aload_n 0, 1) := by decide +kernel
theorem dX7_never_5 : decode cX7_never 5 = .ok (.getfield 37, 3) := by decide +kernel
theorem dX7_never_8 : decode cX7_never 8 = .ok (.invokevirtual 190, 3) := by decide +kernel
theorem dX7_never_11 : decode cX7_never 11 = .ok (.iconst 0, 1) := by decide +kernel
theorem dX7_never_12 : decode cX7_never 12 = .ok (.istore_n 1, 1) := by decide +kernel
theorem dX7_never_13 : decode cX7_never 13 = .ok (.iconst 0, 1) := by decide +kernel
theorem dX7_never_14 : decode cX7_never 14 = .ok (.istore_n 2, 1) := by decide +kernel
theorem dX7_never_15 : decode cX7_never 15 = .ok (.iload_n 2, 1) := by decide +kernel
theorem dX7_never_16 : decode cX7_never 16 = .ok (.aload_n 0, 1) := by decide +kernel
theorem dX7_never_17 : decode cX7_never 17 = .ok (.getfield 48, 3) := by decide +kernel
theorem dX7_never_20 : decode cX7_never 20 = .ok (.getfield 127, 3) := by decide +kernel
theorem dX7_never_23 : decode cX7_never 23 = .ok (.getfield 131, 3) := by decide +kernel
theorem dX7_never_26 : decode cX7_never 26 = .ok (.if_icmp .ge 54, 3) := by decide +kernel
theorem dX7_never_29 : decode cX7_never 29 = .ok (.aload_n 0, 1) := by decide +kernel
theorem dX7_never_30 : decode cX7_never 30 = .ok (.getfield 48, 3) := by decide +kernel
theorem dX7_never_33 : decode cX7_never 33 = .ok (.getfield 127, 3) := by decide +kernel
theorem dX7_never_36 : decode cX7_never 36 = .ok (.iconst 1, 1) := by decide +kernel
theorem dX7_never_37 : decode cX7_never 37 = .ok (.iload_n 2, 1) := by decide +kernel
theorem dX7_never_38 : decode cX7_never 38 = .ok (.ishl, 1) := by decide +kernel
theorem dX7_never_39 : decode cX7_never 39 = .ok (.putfield 226, 3) := by decide +kernel
theorem dX7_never_42 : decode cX7_never 42 = .ok (.aload_n 0, 1) := by decide +kernel
theorem dX7_never_43 : decode cX7_never 43 = .ok (.getfield 51, 3) := by decide +kernel
theorem dX7_never_46 : decode cX7_never 46 = .ok (.aload_n 0, 1) := by decide +kernel
theorem dX7_never_47 : decode cX7_never 47 = .ok (.getfield 48, 3) := by decide +kernel
theorem dX7_never_50 : decode cX7_never 50 = .ok (.invokevirtual 198, 3) := by decide +kernel
theorem dX7_never_53 : decode cX7_never 53 = .ok (.pop, 1) := by decide +kernel
theorem dX7_never_54 : decode cX7_never 54 = .ok (.aload_n 0, 1) := by decide +kernel
theorem dX7_never_55 : decode cX7_never 55 = .ok (.getfield 19, 3) := by decide +kernel
theorem dX7_never_58 : decode cX7_never 58 = .ok (.aload_n 0, 1) := by decide +kernel
theorem dX7_never_59 : decode cX7_never 59 = .ok (.getfield 51, 3) := by decide +kernel
theorem dX7_never_62 : decode cX7_never 62 = .ok (.invokevirtual 229, 3) := by decide +kernel
theorem dX7_never_65 : decode cX7_never 65 = .ok (.ifCond .eq 9, 3) := by decide +kernel
theorem dX7_never_68 : decode cX7_never 68 = .ok (.iload_n 1, 1) := by decide +kernel
theorem dX7_never_69 : decode cX7_never 69 = .ok (.iconst 1, 1) := by decide +kernel
theorem dX7_never_70 : decode cX7_never 70 = .ok (.iload_n 2, 1) := by decide +kernel
theorem dX7_never_71 : decode cX7_never 71 = .ok (.ishl, 1) := by decide +kernel
theorem dX7_never_72 : decode cX7_never 72 = .ok (.ior, 1) := by decide +kernel
theorem dX7_never_73 : decode cX7_never 73 = .ok (.istore_n 1, 1) := by decide +kernel
theorem dX7_never_74 : decode cX7_never 74 = .ok (.iinc 2 1, 3) := by decide +kernel
theorem dX7_never_77 : decode cX7_never 77 = .ok (.goto (-62), 3) := by decide +kernel
theorem dX7_never_80 : decode cX7_never 80 = .ok (.iload_n 1, 1) := by decide +kernel
theorem dX7_never_81 : decode cX7_never 81 = .ok (.ireturn, 1) := by decide +kernel
set_option maxRecDepth 20000 in
set_option maxHeartbeats 4000000 in
theorem w_X7_never_74 {x : tg_X} {Sf : tg_S} {r : Int32} {rec15 : tg_S → Int32 → Int32 → Option (tg_S × Int32)} (X : tg_M tauC x cX7_never 3 RX7 zr_X7_never (some .int) Sf (some (.int r))) (hr15 : ∀ (S : tg_S) (v1 : Int32) (v2 : Int32), rec15 S v1 v2 = some (Sf, r) → tg_G tauC x S 15 [(0, .ref (tg_ad x 0)), (1, .int v1), (2, .int v2)] []) (S : tg_S) (v1 : Int32) (v2 : Int32) (h : f_X7_never_74 rec15 S v1 v2 = some (Sf, r)) : tg_G tauC x S 74 [(0, .ref (tg_ad x 0)), (1, .int v1), (2, .int v2)] [] := by
  unfold f_X7_never_74 at h
  obtain ⟨y1, ey1⟩ : ∃ z : Int32, z = v2 + 1 := ⟨_, rfl⟩
  have h := tg_nmE ey1 h
  refine tg_iinc (lv2 := [(2, .int y1), (0, .ref (tg_ad x 0)), (1, .int v1)]) X dX7_never_74 2 rfl tk_i1 ey1 (by decide) rfl ?_
  refine tg_goto (tgt := 15) X dX7_never_77 (by decide) ?_
  refine tg_re [1, 2, 0] rfl ?_
  exact hr15 S v1 y1 h
set_option maxRecDepth 20000 in
set_option maxHeartbeats 4000000 in
theorem w_X7_never_15 {x : tg_X} {Sf : tg_S} {r : Int32} {rec15 : tg_S → Int32 → Int32 → Option (tg_S × Int32)} (X : tg_M tauC x cX7_never 3 RX7 zr_X7_never (some .int) Sf (some (.int r))) (hr15 : ∀ (S : tg_S) (v1 : Int32) (v2 : Int32), rec15 S v1 v2 = some (Sf, r) → tg_G tauC x S 15 [(0, .ref (tg_ad x 0)), (1, .int v1), (2, .int v2)] []) (S : tg_S) (v1 : Int32) (v2 : Int32) (h : f_X7_never_15 rec15 S v1 v2 = some (Sf, r)) : tg_G tauC x S 15 [(0, .ref (tg_ad x 0)), (1, .int v1), (2, .int v2)] [] := by
  unfold f_X7_never_15 at h
  refine tg_iload_n X dX7_never_15 rfl 2 rfl ?_
  refine tg_aload_n X dX7_never_16 rfl 0 rfl ?_
  refine tg_getr X 0 rfl cl_X7 6 (by decide) rfl wf_X7_48 dX7_never_17 ?_
  refine tg_getr X 23 rfl cl_X1 7 (by decide) rfl wf_X7_127 dX7_never_20 ?_
  refine tg_geti X 31 rfl cl_X3 3 (by decide) rfl wf_X7_131 dX7_never_23 ?_
  refine tg_icmp_ge (tgt := 80) X dX7_never_26 (by decide) (fun c1 => ?_) (fun c1 => ?_)
  · have h := tg_ifT c1 h
    refine tg_iload_n X dX7_never_80 rfl 1 rfl ?_
    exact tg_iret X h rfl dX7_never_81
  · have h := tg_ifF c1 h
    refine tg_aload_n X dX7_never_29 rfl 0 rfl ?_
    refine tg_getr X 0 rfl cl_X7 6 (by decide) rfl wf_X7_48 dX7_never_30 ?_
    refine tg_getr X 23 rfl cl_X1 7 (by decide) rfl wf_X7_127 dX7_never_33 ?_
    refine tg_iconst X dX7_never_36 tk_i1 ?_
    refine tg_iload_n X dX7_never_37 rfl 2 rfl ?_
    refine tg_ishl X dX7_never_38 ?_
    obtain ⟨S2, eS2, h⟩ := tg_pfE h
    refine tg_puti X 31 rfl cl_X3 4 (by decide) rfl wf_X7_226 rfl rfl rfl dX7_never_39 eS2 ?_
    refine tg_aload_n X dX7_never_42 rfl 0 rfl ?_
    refine tg_getr X 0 rfl cl_X7 7 (by decide) rfl wf_X7_51 dX7_never_43 ?_
    refine tg_aload_n X dX7_never_46 rfl 0 rfl ?_
    refine tg_getr X 0 rfl cl_X7 6 (by decide) rfl wf_X7_48 dX7_never_47 ?_
    obtain ⟨S3, r4, kS3, h⟩ := tg_bdE h
    refine tg_callV (As := [.ref (tg_ad x 23)]) (rest := []) X 42 (cm_X2_play_b _ _ _ _ _ kS3) yy_X2_play wv_X2_play ws_X2_play wm_X7_198 rfl cl_X2.1 ⟨rfl, rfl, Nat.le_of_ble_eq_true rfl, Nat.le_of_ble_eq_true rfl⟩ rfl rfl (Nat.le_of_ble_eq_true rfl) dX7_never_50 rfl ?_
    refine tg_pop X dX7_never_53 rfl ?_
    refine tg_aload_n X dX7_never_54 rfl 0 rfl ?_
    refine tg_getr X 0 rfl cl_X7 1 (by decide) rfl wf_X7_19 dX7_never_55 ?_
    refine tg_aload_n X dX7_never_58 rfl 0 rfl ?_
    refine tg_getr X 0 rfl cl_X7 7 (by decide) rfl wf_X7_51 dX7_never_59 ?_
    obtain ⟨S5, r6, kS5, h⟩ := tg_bdE h
    refine tg_callV (As := [.ref (tg_ad x 42)]) (rest := []) X 4 (cm_X4_fit _ _ _ _ _ kS5) yy_X4_fit wv_X4_fit ws_X4_fit wm_X7_229 rfl cl_X4.1 ⟨rfl, rfl, Nat.le_of_ble_eq_true rfl, Nat.le_of_ble_eq_true rfl⟩ rfl rfl (Nat.le_of_ble_eq_true rfl) dX7_never_62 rfl ?_
    refine tg_if_eq (tgt := 74) X dX7_never_65 (by decide) (fun c7 => ?_) (fun c7 => ?_)
    · have h := tg_ifT c7 h
      exact w_X7_never_74 X hr15 S5 v1 v2 h
    · have h := tg_ifF c7 h
      refine tg_iload_n X dX7_never_68 rfl 1 rfl ?_
      refine tg_iconst X dX7_never_69 tk_i1 ?_
      refine tg_iload_n X dX7_never_70 rfl 2 rfl ?_
      refine tg_ishl X dX7_never_71 ?_
      refine tg_ior X dX7_never_72 ?_
      refine tg_topi (fun y8 ey8 => ?_)
      have h := tg_nmE ey8 h
      refine tg_istore_n (lv2 := [(1, .int y8), (0, .ref (tg_ad x 0)), (2, .int v2)]) X dX7_never_73 rfl (by decide) rfl ?_
      refine tg_re [1, 0, 2] rfl ?_
      exact w_X7_never_74 X hr15 S5 y8 v2 h
theorem wl_X7_never_15 {x : tg_X} {Sf : tg_S} {r : Int32} (X : tg_M tauC x cX7_never 3 RX7 zr_X7_never (some .int) Sf (some (.int r))) : ∀ (n : Nat) (S : tg_S) (v1 : Int32) (v2 : Int32) (h : L_X7_never_15  n S v1 v2 = some (Sf, r)), tg_G tauC x S 15 [(0, .ref (tg_ad x 0)), (1, .int v1), (2, .int v2)] [] := by
  intro n
  induction n with
  | zero => intro S v1 v2 h; cases h
  | succ n ih => intro S v1 v2 h; exact w_X7_never_15 X  ih S v1 v2 h
set_option maxRecDepth 20000 in
set_option maxHeartbeats 4000000 in
theorem w_X7_never_0 {x : tg_X} {Sf : tg_S} {r : Int32} (X : tg_M tauC x cX7_never 3 RX7 zr_X7_never (some .int) Sf (some (.int r))) (S : tg_S) (h : f_X7_never  S  = some (Sf, r)) : tg_G tauC x S 0 [(0, .ref (tg_ad x 0))] [] := by
  unfold f_X7_never at h
  refine tg_aload_n X dX7_never_0 rfl 0 rfl ?_
  refine tg_getr X 0 rfl cl_X7 6 (by decide) rfl wf_X7_48 dX7_never_1 ?_
  refine tg_aload_n X dX7_never_4 rfl 0 rfl ?_
  refine tg_getr X 0 rfl cl_X7 4 (by decide) rfl wf_X7_37 dX7_never_5 ?_
  obtain ⟨S1, kS1, h⟩ := tg_bvE h
  refine tg_callV (As := [.ref (tg_ad x 11)]) (rest := []) X 23 (cm_X1_becomeLike _ _ _ _ _ kS1) yy_X1_becomeLike wv_X1_becomeLike ws_X1_becomeLike wm_X7_190 rfl cl_X1.1 ⟨rfl, rfl, Nat.le_of_ble_eq_true rfl, Nat.le_of_ble_eq_true rfl⟩ rfl rfl (Nat.le_of_ble_eq_true rfl) dX7_never_8 rfl ?_
  refine tg_iconst X dX7_never_11 tk_i0 ?_
  refine tg_istore_n (lv2 := [(1, .int 0), (0, .ref (tg_ad x 0))]) X dX7_never_12 rfl (by decide) rfl ?_
  refine tg_iconst X dX7_never_13 tk_i0 ?_
  refine tg_istore_n (lv2 := [(2, .int 0), (1, .int 0), (0, .ref (tg_ad x 0))]) X dX7_never_14 rfl (by decide) rfl ?_
  refine tg_re [2, 1, 0] rfl ?_
  exact wl_X7_never_15 X  tg_F S1 0 0 h
theorem cm_X7_never (l : Launch) (D : va_G) (cy : Bool → ClassId) (ad : Nat → Nat) (tS : Nat) {S Sf : tg_S} {r : Int32} (h : f_X7_never  S  = some (Sf, r)) : tg_Met l yX7_never cX7_never 3 (some .int) zr_X7_never tauC D cy ad tS S [.ref (ad 0)] Sf (some (.int r)) := tg_mk (by decide +kernel) trivial (Nat.le_of_ble_eq_true rfl) (fun p e s m args below meth c Q A X => w_X7_never_0 X S  h)
-- X7_sortsThatFit
def zr_X7_sortsThatFit : Room := { frames := 4, cells := 0, slots := 0, locals := 96 }
theorem dX7_sortsThatFit_0 : decode cX7_sortsThatFit 0 = .ok (.aload_n 0, 1) := by decide +kernel
theorem dX7_sortsThatFit_1 : decode cX7_sortsThatFit 1 = .ok (.getfield 48, 3) := by decide +kernel
theorem dX7_sortsThatFit_4 : decode cX7_sortsThatFit 4 = .ok (.aload_n 0, 1) := by decide +kernel
theorem dX7_sortsThatFit_5 : decode cX7_sortsThatFit 5 = .ok (.getfield 37, 3) := by decide +kernel
theorem dX7_sortsThatFit_8 : decode cX7_sortsThatFit 8 = .ok (.invokevirtual 190, 3) := by decide +kernel
theorem dX7_sortsThatFit_11 : decode cX7_sortsThatFit 11 = .ok (.iconst 0, 1) := by decide +kernel
theorem dX7_sortsThatFit_12 : decode cX7_sortsThatFit 12 = .ok (.istore_n 2, 1) := by decide +kernel
theorem dX7_sortsThatFit_13 : decode cX7_sortsThatFit 13 = .ok (.iconst 0, 1) := by decide +kernel
theorem dX7_sortsThatFit_14 : decode cX7_sortsThatFit 14 = .ok (.istore_n 3, 1) := by decide +kernel
theorem dX7_sortsThatFit_15 : decode cX7_sortsThatFit 15 = .ok (.iload_n 3, 1) := by decide +kernel
theorem dX7_sortsThatFit_16 : decode cX7_sortsThatFit 16 = .ok (.iconst 3, 1) := by decide +kernel
theorem dX7_sortsThatFit_17 : decode cX7_sortsThatFit 17 = .ok (.if_icmp .ge 51, 3) := by decide +kernel
theorem dX7_sortsThatFit_20 : decode cX7_sortsThatFit 20 = .ok (.aload_n 0, 1) := by decide +kernel
theorem dX7_sortsThatFit_21 : decode cX7_sortsThatFit 21 = .ok (.getfield 48, 3) := by decide +kernel
theorem dX7_sortsThatFit_24 : decode cX7_sortsThatFit 24 = .ok (.getfield 103, 3) := by decide +kernel
theorem dX7_sortsThatFit_27 : decode cX7_sortsThatFit 27 = .ok (.iload_n 1, 1) := by decide +kernel
theorem dX7_sortsThatFit_28 : decode cX7_sortsThatFit 28 = .ok (.iload_n 3, 1) := by decide +kernel
theorem dX7_sortsThatFit_29 : decode cX7_sortsThatFit 29 = .ok (.iastore, 1) := by decide +kernel
theorem dX7_sortsThatFit_30 : decode cX7_sortsThatFit 30 = .ok (.aload_n 0, 1) := by decide +kernel
theorem dX7_sortsThatFit_31 : decode cX7_sortsThatFit 31 = .ok (.getfield 51, 3) := by decide +kernel
theorem dX7_sortsThatFit_34 : decode cX7_sortsThatFit 34 = .ok (.aload_n 0, 1) := by decide +kernel
theorem dX7_sortsThatFit_35 : decode cX7_sortsThatFit 35 = .ok (.getfield 48, 3) := by decide +kernel
theorem dX7_sortsThatFit_38 : decode cX7_sortsThatFit 38 = .ok (.invokevirtual 198, 3) := by decide +kernel
theorem dX7_sortsThatFit_41 : decode cX7_sortsThatFit 41 = .ok (.pop, 1) := by decide +kernel
theorem dX7_sortsThatFit_42 : decode cX7_sortsThatFit 42 = .ok (.aload_n 0, 1) := by decide +kernel
theorem dX7_sortsThatFit_43 : decode cX7_sortsThatFit 43 = .ok (.getfield 19, 3) := by decide +kernel
theorem dX7_sortsThatFit_46 : decode cX7_sortsThatFit 46 = .ok (.aload_n 0, 1) := by decide +kernel
theorem dX7_sortsThatFit_47 : decode cX7_sortsThatFit 47 = .ok (.getfield 51, 3) := by decide +kernel
theorem dX7_sortsThatFit_50 : decode cX7_sortsThatFit 50 = .ok (.invokevirtual 229, 3) := by decide +kernel
theorem dX7_sortsThatFit_53 : decode cX7_sortsThatFit 53 = .ok (.ifCond .eq 9, 3) := by decide +kernel
theorem dX7_sortsThatFit_56 : decode cX7_sortsThatFit 56 = .ok (.iload_n 2, 1) := by decide +kernel
theorem dX7_sortsThatFit_57 : decode cX7_sortsThatFit 57 = .ok (.iconst 1, 1) := by decide +kernel
theorem dX7_sortsThatFit_58 : decode cX7_sortsThatFit 58 = .ok (.iload_n 3, 1) := by decide +kernel
theorem dX7_sortsThatFit_59 : decode cX7_sortsThatFit 59 = .ok (.ishl, 1) := by decide +kernel
theorem dX7_sortsThatFit_60 : decode cX7_sortsThatFit 60 = .ok (.ior, 1) := by decide +kernel
theorem dX7_sortsThatFit_61 : decode cX7_sortsThatFit 61 = .ok (.istore_n 2, 1) := by decide +kernel
theorem dX7_sortsThatFit_62 : decode cX7_sortsThatFit 62 = .ok (.iinc 3 1, 3) := by decide +kernel
theorem dX7_sortsThatFit_65 : decode cX7_sortsThatFit 65 = .ok (.goto (-50), 3) := by decide +kernel
theorem dX7_sortsThatFit_68 : decode cX7_sortsThatFit 68 = .ok (.iload_n 2, 1) := by decide +kernel
theorem dX7_sortsThatFit_69 : decode cX7_sortsThatFit 69 = .ok (.ireturn, 1) := by decide +kernel
set_option maxRecDepth 20000 in
set_option maxHeartbeats 4000000 in
theorem w_X7_sortsThatFit_62 {x : tg_X} {Sf : tg_S} {r : Int32} {rec15 : tg_S → Int32 → Int32 → Int32 → Option (tg_S × Int32)} (X : tg_M tauC x cX7_sortsThatFit 4 RX7 zr_X7_sortsThatFit (some .int) Sf (some (.int r))) (hr15 : ∀ (S : tg_S) (v1 : Int32) (v2 : Int32) (v3 : Int32), rec15 S v1 v2 v3 = some (Sf, r) → tg_G tauC x S 15 [(0, .ref (tg_ad x 0)), (1, .int v1), (2, .int v2), (3, .int v3)] []) (S : tg_S) (v1 : Int32) (v2 : Int32) (v3 : Int32) (h : f_X7_sortsThatFit_62 rec15 S v1 v2 v3 = some (Sf, r)) : tg_G tauC x S 62 [(0, .ref (tg_ad x 0)), (1, .int v1), (2, .int v2), (3, .int v3)] [] := by
  unfold f_X7_sortsThatFit_62 at h
  obtain ⟨y1, ey1⟩ : ∃ z : Int32, z = v3 + 1 := ⟨_, rfl⟩
  have h := tg_nmE ey1 h
  refine tg_iinc (lv2 := [(3, .int y1), (0, .ref (tg_ad x 0)), (1, .int v1), (2, .int v2)]) X dX7_sortsThatFit_62 3 rfl tk_i1 ey1 (by decide) rfl ?_
  refine tg_goto (tgt := 15) X dX7_sortsThatFit_65 (by decide) ?_
  refine tg_re [1, 2, 3, 0] rfl ?_
  exact hr15 S v1 v2 y1 h
set_option maxRecDepth 20000 in
set_option maxHeartbeats 4000000 in
theorem w_X7_sortsThatFit_15 {x : tg_X} {Sf : tg_S} {r : Int32} {rec15 : tg_S → Int32 → Int32 → Int32 → Option (tg_S × Int32)} (X : tg_M tauC x cX7_sortsThatFit 4 RX7 zr_X7_sortsThatFit (some .int) Sf (some (.int r))) (hr15 : ∀ (S : tg_S) (v1 : Int32) (v2 : Int32) (v3 : Int32), rec15 S v1 v2 v3 = some (Sf, r) → tg_G tauC x S 15 [(0, .ref (tg_ad x 0)), (1, .int v1), (2, .int v2), (3, .int v3)] []) (S : tg_S) (v1 : Int32) (v2 : Int32) (v3 : Int32) (h : f_X7_sortsThatFit_15 rec15 S v1 v2 v3 = some (Sf, r)) : tg_G tauC x S 15 [(0, .ref (tg_ad x 0)), (1, .int v1), (2, .int v2), (3, .int v3)] [] := by
  unfold f_X7_sortsThatFit_15 at h
  refine tg_iload_n X dX7_sortsThatFit_15 rfl 3 rfl ?_
  refine tg_iconst X dX7_sortsThatFit_16 tk_i3 ?_
  refine tg_icmp_ge (tgt := 68) X dX7_sortsThatFit_17 (by decide) (fun c1 => ?_) (fun c1 => ?_)
  · have h := tg_ifT c1 h
    refine tg_iload_n X dX7_sortsThatFit_68 rfl 2 rfl ?_
    exact tg_iret X h rfl dX7_sortsThatFit_69
  · have h := tg_ifF c1 h
    refine tg_aload_n X dX7_sortsThatFit_20 rfl 0 rfl ?_
    refine tg_getr X 0 rfl cl_X7 6 (by decide) rfl wf_X7_48 dX7_sortsThatFit_21 ?_
    refine tg_getr X 23 rfl cl_X1 1 (by decide) rfl wf_X7_103 dX7_sortsThatFit_24 ?_
    refine tg_iload_n X dX7_sortsThatFit_27 rfl 1 rfl ?_
    refine tg_iload_n X dX7_sortsThatFit_28 rfl 3 rfl ?_
    obtain ⟨S2, eS2, bS2, h⟩ := tg_wrE h
    refine tg_iast X 25 rfl bS2 dX7_sortsThatFit_29 eS2 ?_
    refine tg_aload_n X dX7_sortsThatFit_30 rfl 0 rfl ?_
    refine tg_getr X 0 rfl cl_X7 7 (by decide) rfl wf_X7_51 dX7_sortsThatFit_31 ?_
    refine tg_aload_n X dX7_sortsThatFit_34 rfl 0 rfl ?_
    refine tg_getr X 0 rfl cl_X7 6 (by decide) rfl wf_X7_48 dX7_sortsThatFit_35 ?_
    obtain ⟨S3, r4, kS3, h⟩ := tg_bdE h
    refine tg_callV (As := [.ref (tg_ad x 23)]) (rest := []) X 42 (cm_X2_play_b _ _ _ _ _ kS3) yy_X2_play wv_X2_play ws_X2_play wm_X7_198 rfl cl_X2.1 ⟨rfl, rfl, Nat.le_of_ble_eq_true rfl, Nat.le_of_ble_eq_true rfl⟩ rfl rfl (Nat.le_of_ble_eq_true rfl) dX7_sortsThatFit_38 rfl ?_
    refine tg_pop X dX7_sortsThatFit_41 rfl ?_
    refine tg_aload_n X dX7_sortsThatFit_42 rfl 0 rfl ?_
    refine tg_getr X 0 rfl cl_X7 1 (by decide) rfl wf_X7_19 dX7_sortsThatFit_43 ?_
    refine tg_aload_n X dX7_sortsThatFit_46 rfl 0 rfl ?_
    refine tg_getr X 0 rfl cl_X7 7 (by decide) rfl wf_X7_51 dX7_sortsThatFit_47 ?_
    obtain ⟨S5, r6, kS5, h⟩ := tg_bdE h
    refine tg_callV (As := [.ref (tg_ad x 42)]) (rest := []) X 4 (cm_X4_fit _ _ _ _ _ kS5) yy_X4_fit wv_X4_fit ws_X4_fit wm_X7_229 rfl cl_X4.1 ⟨rfl, rfl, Nat.le_of_ble_eq_true rfl, Nat.le_of_ble_eq_true rfl⟩ rfl rfl (Nat.le_of_ble_eq_true rfl) dX7_sortsThatFit_50 rfl ?_
    refine tg_if_eq (tgt := 62) X dX7_sortsThatFit_53 (by decide) (fun c7 => ?_) (fun c7 => ?_)
    · have h := tg_ifT c7 h
      exact w_X7_sortsThatFit_62 X hr15 S5 v1 v2 v3 h
    · have h := tg_ifF c7 h
      refine tg_iload_n X dX7_sortsThatFit_56 rfl 2 rfl ?_
      refine tg_iconst X dX7_sortsThatFit_57 tk_i1 ?_
      refine tg_iload_n X dX7_sortsThatFit_58 rfl 3 rfl ?_
      refine tg_ishl X dX7_sortsThatFit_59 ?_
      refine tg_ior X dX7_sortsThatFit_60 ?_
      refine tg_topi (fun y8 ey8 => ?_)
      have h := tg_nmE ey8 h
      refine tg_istore_n (lv2 := [(2, .int y8), (0, .ref (tg_ad x 0)), (1, .int v1), (3, .int v3)]) X dX7_sortsThatFit_61 rfl (by decide) rfl ?_
      refine tg_re [1, 2, 0, 3] rfl ?_
      exact w_X7_sortsThatFit_62 X hr15 S5 v1 y8 v3 h
theorem wl_X7_sortsThatFit_15 {x : tg_X} {Sf : tg_S} {r : Int32} (X : tg_M tauC x cX7_sortsThatFit 4 RX7 zr_X7_sortsThatFit (some .int) Sf (some (.int r))) : ∀ (n : Nat) (S : tg_S) (v1 : Int32) (v2 : Int32) (v3 : Int32) (h : L_X7_sortsThatFit_15  n S v1 v2 v3 = some (Sf, r)), tg_G tauC x S 15 [(0, .ref (tg_ad x 0)), (1, .int v1), (2, .int v2), (3, .int v3)] [] := by
  intro n
  induction n with
  | zero => intro S v1 v2 v3 h; cases h
  | succ n ih => intro S v1 v2 v3 h; exact w_X7_sortsThatFit_15 X  ih S v1 v2 v3 h
set_option maxRecDepth 20000 in
set_option maxHeartbeats 4000000 in
theorem w_X7_sortsThatFit_0 {x : tg_X} {Sf : tg_S} {r : Int32} (X : tg_M tauC x cX7_sortsThatFit 4 RX7 zr_X7_sortsThatFit (some .int) Sf (some (.int r))) (S : tg_S) (v1 : Int32) (h : f_X7_sortsThatFit  S v1 = some (Sf, r)) : tg_G tauC x S 0 [(0, .ref (tg_ad x 0)), (1, .int v1)] [] := by
  unfold f_X7_sortsThatFit at h
  refine tg_aload_n X dX7_sortsThatFit_0 rfl 0 rfl ?_
  refine tg_getr X 0 rfl cl_X7 6 (by decide) rfl wf_X7_48 dX7_sortsThatFit_1 ?_
  refine tg_aload_n X dX7_sortsThatFit_4 rfl 0 rfl ?_
  refine tg_getr X 0 rfl cl_X7 4 (by decide) rfl wf_X7_37 dX7_sortsThatFit_5 ?_
  obtain ⟨S1, kS1, h⟩ := tg_bvE h
  refine tg_callV (As := [.ref (tg_ad x 11)]) (rest := []) X 23 (cm_X1_becomeLike _ _ _ _ _ kS1) yy_X1_becomeLike wv_X1_becomeLike ws_X1_becomeLike wm_X7_190 rfl cl_X1.1 ⟨rfl, rfl, Nat.le_of_ble_eq_true rfl, Nat.le_of_ble_eq_true rfl⟩ rfl rfl (Nat.le_of_ble_eq_true rfl) dX7_sortsThatFit_8 rfl ?_
  refine tg_iconst X dX7_sortsThatFit_11 tk_i0 ?_
  refine tg_istore_n (lv2 := [(2, .int 0), (0, .ref (tg_ad x 0)), (1, .int v1)]) X dX7_sortsThatFit_12 rfl (by decide) rfl ?_
  refine tg_iconst X dX7_sortsThatFit_13 tk_i0 ?_
  refine tg_istore_n (lv2 := [(3, .int 0), (2, .int 0), (0, .ref (tg_ad x 0)), (1, .int v1)]) X dX7_sortsThatFit_14 rfl (by decide) rfl ?_
  refine tg_re [2, 3, 1, 0] rfl ?_
  exact wl_X7_sortsThatFit_15 X  tg_F S1 v1 0 0 h
theorem cm_X7_sortsThatFit (l : Launch) (D : va_G) (cy : Bool → ClassId) (ad : Nat → Nat) (tS : Nat) {S Sf : tg_S} {v1 : Int32} {r : Int32} (h : f_X7_sortsThatFit  S v1 = some (Sf, r)) : tg_Met l yX7_sortsThatFit cX7_sortsThatFit 4 (some .int) zr_X7_sortsThatFit tauC D cy ad tS S [.ref (ad 0), .int v1] Sf (some (.int r)) := tg_mk (by decide +kernel) trivial (Nat.le_of_ble_eq_true rfl) (fun p e s m args below meth c Q A X => w_X7_sortsThatFit_0 X S v1 h)
-- X7_weightsThatFit
def zr_X7_weightsThatFit : Room := { frames := 4, cells := 0, slots := 0, locals := 96 }
theorem dX7_weightsThatFit_0 : decode cX7_weightsThatFit 0 = .ok (.aload_n 0, 1) := by decide +kernel
theorem dX7_weightsThatFit_1 : decode cX7_weightsThatFit 1 = .ok (.getfield 48, 3) := by decide +kernel
theorem dX7_weightsThatFit_4 : decode cX7_weightsThatFit 4 = .ok (.aload_n 0, 1) := by decide +kernel
theorem dX7_weightsThatFit_5 : decode cX7_weightsThatFit 5 = .ok (.getfield 37, 3) := by decide +kernel
theorem dX7_weightsThatFit_8 : decode cX7_weightsThatFit 8 = .ok (.invokevirtual 190, 3) := by decide +kernel
theorem dX7_weightsThatFit_11 : decode cX7_weightsThatFit 11 = .ok (.iconst 0, 1) := by decide +kernel
theorem dX7_weightsThatFit_12 : decode cX7_weightsThatFit 12 = .ok (.istore_n 2, 1) := by decide +kernel
theorem dX7_weightsThatFit_13 : decode cX7_weightsThatFit 13 = .ok (.iconst 1, 1) := by decide +kernel
theorem dX7_weightsThatFit_14 : decode cX7_weightsThatFit 14 = .ok (.istore_n 3, 1) := by decide +kernel
theorem dX7_weightsThatFit_15 : decode cX7_weightsThatFit 15 = .ok (.iload_n 3, 1) := by decide +kernel
theorem dX7_weightsThatFit_16 : decode cX7_weightsThatFit 16 = .ok (.bipush 9, 2) := by decide +kernel
theorem dX7_weightsThatFit_18 : decode cX7_weightsThatFit 18 = .ok (.if_icmp .gt 89, 3) := by decide +kernel
theorem dX7_weightsThatFit_21 : decode cX7_weightsThatFit 21 = .ok (.aload_n 0, 1) := by decide +kernel
theorem dX7_weightsThatFit_22 : decode cX7_weightsThatFit 22 = .ok (.getfield 48, 3) := by decide +kernel
theorem dX7_weightsThatFit_25 : decode cX7_weightsThatFit 25 = .ok (.getfield 106, 3) := by decide +kernel
theorem dX7_weightsThatFit_28 : decode cX7_weightsThatFit 28 = .ok (.iload_n 1, 1) := by decide +kernel
theorem dX7_weightsThatFit_29 : decode cX7_weightsThatFit 29 = .ok (.iload_n 3, 1) := by decide +kernel
theorem dX7_weightsThatFit_30 : decode cX7_weightsThatFit 30 = .ok (.iastore, 1) := by decide +kernel
theorem dX7_weightsThatFit_31 : decode cX7_weightsThatFit 31 = .ok (.aload_n 0, 1) := by decide +kernel
theorem dX7_weightsThatFit_32 : decode cX7_weightsThatFit 32 = .ok (.getfield 51, 3) := by decide +kernel
theorem dX7_weightsThatFit_35 : decode cX7_weightsThatFit 35 = .ok (.aload_n 0, 1) := by decide +kernel
theorem dX7_weightsThatFit_36 : decode cX7_weightsThatFit 36 = .ok (.getfield 48, 3) := by decide +kernel
theorem dX7_weightsThatFit_39 : decode cX7_weightsThatFit 39 = .ok (.invokevirtual 198, 3) := by decide +kernel
theorem dX7_weightsThatFit_42 : decode cX7_weightsThatFit 42 = .ok (.pop, 1) := by decide +kernel
theorem dX7_weightsThatFit_43 : decode cX7_weightsThatFit 43 = .ok (.iconst 0, 1) := by decide +kernel
theorem dX7_weightsThatFit_44 : decode cX7_weightsThatFit 44 = .ok (.istore 4, 2) := by decide +kernel
theorem dX7_weightsThatFit_46 : decode cX7_weightsThatFit 46 = .ok (.iload 4, 2) := by decide +kernel
theorem dX7_weightsThatFit_48 : decode cX7_weightsThatFit 48 = .ok (.bipush 24, 2) := by decide +kernel
theorem dX7_weightsThatFit_50 : decode cX7_weightsThatFit 50 = .ok (.if_icmp .ge 31, 3) := by decide +kernel
theorem dX7_weightsThatFit_53 : decode cX7_weightsThatFit 53 = .ok (.aload_n 0, 1) := by decide +kernel
theorem dX7_weightsThatFit_54 : decode cX7_weightsThatFit 54 = .ok (.getfield 61, 3) := by decide +kernel
theorem dX7_weightsThatFit_57 : decode cX7_weightsThatFit 57 = .ok (.iload_n 3, 1) := by decide +kernel
theorem dX7_weightsThatFit_58 : decode cX7_weightsThatFit 58 = .ok (.bipush 24, 2) := by decide +kernel
theorem dX7_weightsThatFit_60 : decode cX7_weightsThatFit 60 = .ok (.imul, 1) := by decide +kernel
theorem dX7_weightsThatFit_61 : decode cX7_weightsThatFit 61 = .ok (.iload 4, 2) := by decide +kernel
theorem dX7_weightsThatFit_63 : decode cX7_weightsThatFit 63 = .ok (.iadd, 1) := by decide +kernel
theorem dX7_weightsThatFit_64 : decode cX7_weightsThatFit 64 = .ok (.aload_n 0, 1) := by decide +kernel
theorem dX7_weightsThatFit_65 : decode cX7_weightsThatFit 65 = .ok (.getfield 51, 3) := by decide +kernel
theorem dX7_weightsThatFit_68 : decode cX7_weightsThatFit 68 = .ok (.getfield 154, 3) := by decide +kernel
theorem dX7_weightsThatFit_71 : decode cX7_weightsThatFit 71 = .ok (.iload 4, 2) := by decide +kernel
theorem dX7_weightsThatFit_73 : decode cX7_weightsThatFit 73 = .ok (.iaload, 1) := by decide +kernel
theorem dX7_weightsThatFit_74 : decode cX7_weightsThatFit 74 = .ok (.iastore, 1) := by decide +kernel
theorem dX7_weightsThatFit_75 : decode cX7_weightsThatFit 75 = .ok (.iinc 4 1, 3) := by decide +kernel
theorem dX7_weightsThatFit_78 : decode cX7_weightsThatFit 78 = .ok (.goto (-32), 3) := by decide +kernel
theorem dX7_weightsThatFit_81 : decode cX7_weightsThatFit 81 = .ok (.aload_n 0, 1) := by decide +kernel
theorem dX7_weightsThatFit_82 : decode cX7_weightsThatFit 82 = .ok (.getfield 19, 3) := by decide +kernel
theorem dX7_weightsThatFit_85 : decode cX7_weightsThatFit 85 = .ok (.aload_n 0, 1) := by decide +kernel
theorem dX7_weightsThatFit_86 : decode cX7_weightsThatFit 86 = .ok (.getfield 51, 3) := by decide +kernel
theorem dX7_weightsThatFit_89 : decode cX7_weightsThatFit 89 = .ok (.invokevirtual 229, 3) := by decide +kernel
theorem dX7_weightsThatFit_92 : decode cX7_weightsThatFit 92 = .ok (.ifCond .eq 9, 3) := by decide +kernel
theorem dX7_weightsThatFit_95 : decode cX7_weightsThatFit 95 = .ok (.iload_n 2, 1) := by decide +kernel
theorem dX7_weightsThatFit_96 : decode cX7_weightsThatFit 96 = .ok (.iconst 1, 1) := by decide +kernel
theorem dX7_weightsThatFit_97 : decode cX7_weightsThatFit 97 = .ok (.iload_n 3, 1) := by decide +kernel
theorem dX7_weightsThatFit_98 : decode cX7_weightsThatFit 98 = .ok (.ishl, 1) := by decide +kernel
theorem dX7_weightsThatFit_99 : decode cX7_weightsThatFit 99 = .ok (.ior, 1) := by decide +kernel
theorem dX7_weightsThatFit_100 : decode cX7_weightsThatFit 100 = .ok (.istore_n 2, 1) := by decide +kernel
theorem dX7_weightsThatFit_101 : decode cX7_weightsThatFit 101 = .ok (.iinc 3 1, 3) := by decide +kernel
theorem dX7_weightsThatFit_104 : decode cX7_weightsThatFit 104 = .ok (.goto (-89), 3) := by decide +kernel
theorem dX7_weightsThatFit_107 : decode cX7_weightsThatFit 107 = .ok (.iload_n 2, 1) := by decide +kernel
theorem dX7_weightsThatFit_108 : decode cX7_weightsThatFit 108 = .ok (.ireturn, 1) := by decide +kernel
set_option maxRecDepth 20000 in
set_option maxHeartbeats 4000000 in
theorem w_X7_weightsThatFit_101 {x : tg_X} {Sf : tg_S} {r : Int32} {rec15 : tg_S → Int32 → Int32 → Int32 → Option (tg_S × Int32)} (X : tg_M tauC x cX7_weightsThatFit 5 RX7 zr_X7_weightsThatFit (some .int) Sf (some (.int r))) (hr15 : ∀ (S : tg_S) (v1 : Int32) (v2 : Int32) (v3 : Int32), rec15 S v1 v2 v3 = some (Sf, r) → tg_G tauC x S 15 [(0, .ref (tg_ad x 0)), (1, .int v1), (2, .int v2), (3, .int v3)] []) (S : tg_S) (v1 : Int32) (v2 : Int32) (v3 : Int32) (h : f_X7_weightsThatFit_101 rec15 S v1 v2 v3 = some (Sf, r)) : tg_G tauC x S 101 [(0, .ref (tg_ad x 0)), (1, .int v1), (2, .int v2), (3, .int v3)] [] := by
  unfold f_X7_weightsThatFit_101 at h
  obtain ⟨y1, ey1⟩ : ∃ z : Int32, z = v3 + 1 := ⟨_, rfl⟩
  have h := tg_nmE ey1 h
  refine tg_iinc (lv2 := [(3, .int y1), (0, .ref (tg_ad x 0)), (1, .int v1), (2, .int v2)]) X dX7_weightsThatFit_101 3 rfl tk_i1 ey1 (by decide) rfl ?_
  refine tg_goto (tgt := 15) X dX7_weightsThatFit_104 (by decide) ?_
  refine tg_re [1, 2, 3, 0] rfl ?_
  exact hr15 S v1 v2 y1 h
set_option maxRecDepth 20000 in
set_option maxHeartbeats 4000000 in
theorem w_X7_weightsThatFit_46 {x : tg_X} {Sf : tg_S} {r : Int32} {rec15 : tg_S → Int32 → Int32 → Int32 → Option (tg_S × Int32)} {rec46 : tg_S → Int32 → Int32 → Int32 → Int32 → Option (tg_S × Int32)} (X : tg_M tauC x cX7_weightsThatFit 5 RX7 zr_X7_weightsThatFit (some .int) Sf (some (.int r))) (hr15 : ∀ (S : tg_S) (v1 : Int32) (v2 : Int32) (v3 : Int32), rec15 S v1 v2 v3 = some (Sf, r) → tg_G tauC x S 15 [(0, .ref (tg_ad x 0)), (1, .int v1), (2, .int v2), (3, .int v3)] []) (hr46 : ∀ (S : tg_S) (v1 : Int32) (v2 : Int32) (v3 : Int32) (v4 : Int32), rec46 S v1 v2 v3 v4 = some (Sf, r) → tg_G tauC x S 46 [(0, .ref (tg_ad x 0)), (1, .int v1), (2, .int v2), (3, .int v3), (4, .int v4)] []) (S : tg_S) (v1 : Int32) (v2 : Int32) (v3 : Int32) (v4 : Int32) (h : f_X7_weightsThatFit_46 rec15 rec46 S v1 v2 v3 v4 = some (Sf, r)) : tg_G tauC x S 46 [(0, .ref (tg_ad x 0)), (1, .int v1), (2, .int v2), (3, .int v3), (4, .int v4)] [] := by
  unfold f_X7_weightsThatFit_46 at h
  refine tg_iload X dX7_weightsThatFit_46 4 rfl ?_
  refine tg_bipush X dX7_weightsThatFit_48 tk_b24 ?_
  refine tg_icmp_ge (tgt := 81) X dX7_weightsThatFit_50 (by decide) (fun c1 => ?_) (fun c1 => ?_)
  · have h := tg_ifT c1 h
    refine tg_aload_n X dX7_weightsThatFit_81 rfl 0 rfl ?_
    refine tg_getr X 0 rfl cl_X7 1 (by decide) rfl wf_X7_19 dX7_weightsThatFit_82 ?_
    refine tg_aload_n X dX7_weightsThatFit_85 rfl 0 rfl ?_
    refine tg_getr X 0 rfl cl_X7 7 (by decide) rfl wf_X7_51 dX7_weightsThatFit_86 ?_
    obtain ⟨S2, r3, kS2, h⟩ := tg_bdE h
    refine tg_callV (As := [.ref (tg_ad x 42)]) (rest := []) X 4 (cm_X4_fit _ _ _ _ _ kS2) yy_X4_fit wv_X4_fit ws_X4_fit wm_X7_229 rfl cl_X4.1 ⟨rfl, rfl, Nat.le_of_ble_eq_true rfl, Nat.le_of_ble_eq_true rfl⟩ rfl rfl (Nat.le_of_ble_eq_true rfl) dX7_weightsThatFit_89 rfl ?_
    refine tg_if_eq (tgt := 101) X dX7_weightsThatFit_92 (by decide) (fun c4 => ?_) (fun c4 => ?_)
    · have h := tg_ifT c4 h
      refine tg_re [0, 1, 2, 3] rfl ?_
      exact w_X7_weightsThatFit_101 X hr15 S2 v1 v2 v3 h
    · have h := tg_ifF c4 h
      refine tg_iload_n X dX7_weightsThatFit_95 rfl 2 rfl ?_
      refine tg_iconst X dX7_weightsThatFit_96 tk_i1 ?_
      refine tg_iload_n X dX7_weightsThatFit_97 rfl 3 rfl ?_
      refine tg_ishl X dX7_weightsThatFit_98 ?_
      refine tg_ior X dX7_weightsThatFit_99 ?_
      refine tg_topi (fun y5 ey5 => ?_)
      have h := tg_nmE ey5 h
      refine tg_istore_n (lv2 := [(2, .int y5), (0, .ref (tg_ad x 0)), (1, .int v1), (3, .int v3), (4, .int v4)]) X dX7_weightsThatFit_100 rfl (by decide) rfl ?_
      refine tg_re [1, 2, 0, 3] rfl ?_
      exact w_X7_weightsThatFit_101 X hr15 S2 v1 y5 v3 h
  · have h := tg_ifF c1 h
    refine tg_aload_n X dX7_weightsThatFit_53 rfl 0 rfl ?_
    refine tg_getr X 0 rfl cl_X7 9 (by decide) rfl wf_X7_61 dX7_weightsThatFit_54 ?_
    refine tg_iload_n X dX7_weightsThatFit_57 rfl 3 rfl ?_
    refine tg_bipush X dX7_weightsThatFit_58 tk_b24 ?_
    refine tg_imul X dX7_weightsThatFit_60 ?_
    refine tg_iload X dX7_weightsThatFit_61 4 rfl ?_
    refine tg_iadd X dX7_weightsThatFit_63 ?_
    refine tg_aload_n X dX7_weightsThatFit_64 rfl 0 rfl ?_
    refine tg_getr X 0 rfl cl_X7 7 (by decide) rfl wf_X7_51 dX7_weightsThatFit_65 ?_
    refine tg_getr X 42 rfl cl_X2 0 (by decide) rfl wf_X7_154 dX7_weightsThatFit_68 ?_
    refine tg_iload X dX7_weightsThatFit_71 4 rfl ?_
    obtain ⟨y6, ey6, by6, h⟩ := tg_rdE h
    refine tg_iald X 43 rfl ey6 by6 dX7_weightsThatFit_73 ?_
    obtain ⟨S7, eS7, bS7, h⟩ := tg_wrE h
    refine tg_iast X 50 rfl bS7 dX7_weightsThatFit_74 eS7 ?_
    obtain ⟨y8, ey8⟩ : ∃ z : Int32, z = v4 + 1 := ⟨_, rfl⟩
    have h := tg_nmE ey8 h
    refine tg_iinc (lv2 := [(4, .int y8), (0, .ref (tg_ad x 0)), (1, .int v1), (2, .int v2), (3, .int v3)]) X dX7_weightsThatFit_75 4 rfl tk_i1 ey8 (by decide) rfl ?_
    refine tg_goto (tgt := 46) X dX7_weightsThatFit_78 (by decide) ?_
    refine tg_re [1, 2, 3, 4, 0] rfl ?_
    exact hr46 S7 v1 v2 v3 y8 h
theorem wl_X7_weightsThatFit_46 {x : tg_X} {Sf : tg_S} {r : Int32} {rec15 : tg_S → Int32 → Int32 → Int32 → Option (tg_S × Int32)} (X : tg_M tauC x cX7_weightsThatFit 5 RX7 zr_X7_weightsThatFit (some .int) Sf (some (.int r))) (hr15 : ∀ (S : tg_S) (v1 : Int32) (v2 : Int32) (v3 : Int32), rec15 S v1 v2 v3 = some (Sf, r) → tg_G tauC x S 15 [(0, .ref (tg_ad x 0)), (1, .int v1), (2, .int v2), (3, .int v3)] []) : ∀ (n : Nat) (S : tg_S) (v1 : Int32) (v2 : Int32) (v3 : Int32) (v4 : Int32) (h : L_X7_weightsThatFit_46 rec15 n S v1 v2 v3 v4 = some (Sf, r)), tg_G tauC x S 46 [(0, .ref (tg_ad x 0)), (1, .int v1), (2, .int v2), (3, .int v3), (4, .int v4)] [] := by
  intro n
  induction n with
  | zero => intro S v1 v2 v3 v4 h; cases h
  | succ n ih => intro S v1 v2 v3 v4 h; exact w_X7_weightsThatFit_46 X hr15 ih S v1 v2 v3 v4 h
set_option maxRecDepth 20000 in
set_option maxHeartbeats 4000000 in
theorem w_X7_weightsThatFit_15 {x : tg_X} {Sf : tg_S} {r : Int32} {rec15 : tg_S → Int32 → Int32 → Int32 → Option (tg_S × Int32)} (X : tg_M tauC x cX7_weightsThatFit 5 RX7 zr_X7_weightsThatFit (some .int) Sf (some (.int r))) (hr15 : ∀ (S : tg_S) (v1 : Int32) (v2 : Int32) (v3 : Int32), rec15 S v1 v2 v3 = some (Sf, r) → tg_G tauC x S 15 [(0, .ref (tg_ad x 0)), (1, .int v1), (2, .int v2), (3, .int v3)] []) (S : tg_S) (v1 : Int32) (v2 : Int32) (v3 : Int32) (h : f_X7_weightsThatFit_15 rec15 S v1 v2 v3 = some (Sf, r)) : tg_G tauC x S 15 [(0, .ref (tg_ad x 0)), (1, .int v1), (2, .int v2), (3, .int v3)] [] := by
  unfold f_X7_weightsThatFit_15 at h
  refine tg_iload_n X dX7_weightsThatFit_15 rfl 3 rfl ?_
  refine tg_bipush X dX7_weightsThatFit_16 tk_b9 ?_
  refine tg_icmp_gt (tgt := 107) X dX7_weightsThatFit_18 (by decide) (fun c1 => ?_) (fun c1 => ?_)
  · have h := tg_ifT c1 h
    refine tg_iload_n X dX7_weightsThatFit_107 rfl 2 rfl ?_
    exact tg_iret X h rfl dX7_weightsThatFit_108
  · have h := tg_ifF c1 h
    refine tg_aload_n X dX7_weightsThatFit_21 rfl 0 rfl ?_
    refine tg_getr X 0 rfl cl_X7 6 (by decide) rfl wf_X7_48 dX7_weightsThatFit_22 ?_
    refine tg_getr X 23 rfl cl_X1 2 (by decide) rfl wf_X7_106 dX7_weightsThatFit_25 ?_
    refine tg_iload_n X dX7_weightsThatFit_28 rfl 1 rfl ?_
    refine tg_iload_n X dX7_weightsThatFit_29 rfl 3 rfl ?_
    obtain ⟨S2, eS2, bS2, h⟩ := tg_wrE h
    refine tg_iast X 26 rfl bS2 dX7_weightsThatFit_30 eS2 ?_
    refine tg_aload_n X dX7_weightsThatFit_31 rfl 0 rfl ?_
    refine tg_getr X 0 rfl cl_X7 7 (by decide) rfl wf_X7_51 dX7_weightsThatFit_32 ?_
    refine tg_aload_n X dX7_weightsThatFit_35 rfl 0 rfl ?_
    refine tg_getr X 0 rfl cl_X7 6 (by decide) rfl wf_X7_48 dX7_weightsThatFit_36 ?_
    obtain ⟨S3, r4, kS3, h⟩ := tg_bdE h
    refine tg_callV (As := [.ref (tg_ad x 23)]) (rest := []) X 42 (cm_X2_play_b _ _ _ _ _ kS3) yy_X2_play wv_X2_play ws_X2_play wm_X7_198 rfl cl_X2.1 ⟨rfl, rfl, Nat.le_of_ble_eq_true rfl, Nat.le_of_ble_eq_true rfl⟩ rfl rfl (Nat.le_of_ble_eq_true rfl) dX7_weightsThatFit_39 rfl ?_
    refine tg_pop X dX7_weightsThatFit_42 rfl ?_
    refine tg_iconst X dX7_weightsThatFit_43 tk_i0 ?_
    refine tg_istore (lv2 := [(4, .int 0), (0, .ref (tg_ad x 0)), (1, .int v1), (2, .int v2), (3, .int v3)]) X dX7_weightsThatFit_44 (by decide) rfl ?_
    refine tg_re [1, 2, 3, 4, 0] rfl ?_
    exact wl_X7_weightsThatFit_46 X hr15 tg_F S3 v1 v2 v3 0 h
theorem wl_X7_weightsThatFit_15 {x : tg_X} {Sf : tg_S} {r : Int32} (X : tg_M tauC x cX7_weightsThatFit 5 RX7 zr_X7_weightsThatFit (some .int) Sf (some (.int r))) : ∀ (n : Nat) (S : tg_S) (v1 : Int32) (v2 : Int32) (v3 : Int32) (h : L_X7_weightsThatFit_15  n S v1 v2 v3 = some (Sf, r)), tg_G tauC x S 15 [(0, .ref (tg_ad x 0)), (1, .int v1), (2, .int v2), (3, .int v3)] [] := by
  intro n
  induction n with
  | zero => intro S v1 v2 v3 h; cases h
  | succ n ih => intro S v1 v2 v3 h; exact w_X7_weightsThatFit_15 X  ih S v1 v2 v3 h
set_option maxRecDepth 20000 in
set_option maxHeartbeats 4000000 in
theorem w_X7_weightsThatFit_0 {x : tg_X} {Sf : tg_S} {r : Int32} (X : tg_M tauC x cX7_weightsThatFit 5 RX7 zr_X7_weightsThatFit (some .int) Sf (some (.int r))) (S : tg_S) (v1 : Int32) (h : f_X7_weightsThatFit  S v1 = some (Sf, r)) : tg_G tauC x S 0 [(0, .ref (tg_ad x 0)), (1, .int v1)] [] := by
  unfold f_X7_weightsThatFit at h
  refine tg_aload_n X dX7_weightsThatFit_0 rfl 0 rfl ?_
  refine tg_getr X 0 rfl cl_X7 6 (by decide) rfl wf_X7_48 dX7_weightsThatFit_1 ?_
  refine tg_aload_n X dX7_weightsThatFit_4 rfl 0 rfl ?_
  refine tg_getr X 0 rfl cl_X7 4 (by decide) rfl wf_X7_37 dX7_weightsThatFit_5 ?_
  obtain ⟨S1, kS1, h⟩ := tg_bvE h
  refine tg_callV (As := [.ref (tg_ad x 11)]) (rest := []) X 23 (cm_X1_becomeLike _ _ _ _ _ kS1) yy_X1_becomeLike wv_X1_becomeLike ws_X1_becomeLike wm_X7_190 rfl cl_X1.1 ⟨rfl, rfl, Nat.le_of_ble_eq_true rfl, Nat.le_of_ble_eq_true rfl⟩ rfl rfl (Nat.le_of_ble_eq_true rfl) dX7_weightsThatFit_8 rfl ?_
  refine tg_iconst X dX7_weightsThatFit_11 tk_i0 ?_
  refine tg_istore_n (lv2 := [(2, .int 0), (0, .ref (tg_ad x 0)), (1, .int v1)]) X dX7_weightsThatFit_12 rfl (by decide) rfl ?_
  refine tg_iconst X dX7_weightsThatFit_13 tk_i1 ?_
  refine tg_istore_n (lv2 := [(3, .int 1), (2, .int 0), (0, .ref (tg_ad x 0)), (1, .int v1)]) X dX7_weightsThatFit_14 rfl (by decide) rfl ?_
  refine tg_re [2, 3, 1, 0] rfl ?_
  exact wl_X7_weightsThatFit_15 X  tg_F S1 v1 0 1 h
theorem cm_X7_weightsThatFit (l : Launch) (D : va_G) (cy : Bool → ClassId) (ad : Nat → Nat) (tS : Nat) {S Sf : tg_S} {v1 : Int32} {r : Int32} (h : f_X7_weightsThatFit  S v1 = some (Sf, r)) : tg_Met l yX7_weightsThatFit cX7_weightsThatFit 5 (some .int) zr_X7_weightsThatFit tauC D cy ad tS S [.ref (ad 0), .int v1] Sf (some (.int r)) := tg_mk (by decide +kernel) trivial (Nat.le_of_ble_eq_true rfl) (fun p e s m args below meth c Q A X => w_X7_weightsThatFit_0 X S v1 h)
-- X7_was
def zr_X7_was : Room := { frames := 5, cells := 0, slots := 0, locals := 120 }
theorem dX7_was_0 : decode cX7_was 0 = .ok (.aload_n 0, 1) := by decide +kernel
theorem dX7_was_1 : decode cX7_was 1 = .ok (.iload_n 1, 1) := by decide +kernel
theorem dX7_was_2 : decode cX7_was 2 = .ok (.invokevirtual 100, 3) := by decide +kernel
theorem dX7_was_5 : decode cX7_was 5 = .ok (.ifCond .eq 11, 3) := by decide +kernel
theorem dX7_was_8 : decode cX7_was 8 = .ok (.iload_n 2, 1) := by decide +kernel
theorem dX7_was_9 : decode cX7_was 9 = .ok (.iconst 2, 1) := by decide +kernel
theorem dX7_was_10 : decode cX7_was 10 = .ok (.invokestatic 75, 3) := by decide +kernel
theorem dX7_was_13 : decode cX7_was 13 = .ok (.ifCond .ne 6, 3) := by decide +kernel
theorem dX7_was_16 : decode cX7_was 16 = .ok (.bipush (-2), 2) := by decide +kernel
theorem dX7_was_18 : decode cX7_was 18 = .ok (.ireturn, 1) := by decide +kernel
theorem dX7_was_19 : decode cX7_was 19 = .ok (.iload_n 2, 1) := by decide +kernel
theorem dX7_was_20 : decode cX7_was 20 = .ok (.ifCond .ne 11, 3) := by decide +kernel
theorem dX7_was_23 : decode cX7_was 23 = .ok (.aload_n 0, 1) := by decide +kernel
theorem dX7_was_24 : decode cX7_was 24 = .ok (.iload_n 1, 1) := by decide +kernel
theorem dX7_was_25 : decode cX7_was 25 = .ok (.invokevirtual 233, 3) := by decide +kernel
theorem dX7_was_28 : decode cX7_was 28 = .ok (.goto 8, 3) := by decide +kernel
theorem dX7_was_31 : decode cX7_was 31 = .ok (.aload_n 0, 1) := by decide +kernel
theorem dX7_was_32 : decode cX7_was 32 = .ok (.iload_n 1, 1) := by decide +kernel
theorem dX7_was_33 : decode cX7_was 33 = .ok (.invokevirtual 236, 3) := by decide +kernel
theorem dX7_was_36 : decode cX7_was 36 = .ok (.ireturn, 1) := by decide +kernel
set_option maxRecDepth 20000 in
set_option maxHeartbeats 4000000 in
theorem w_X7_was_0 {x : tg_X} {Sf : tg_S} {r : Int32} (X : tg_M tauC x cX7_was 3 RX7 zr_X7_was (some .int) Sf (some (.int r))) (S : tg_S) (v1 : Int32) (v2 : Int32) (h : f_X7_was  S v1 v2 = some (Sf, r)) : tg_G tauC x S 0 [(0, .ref (tg_ad x 0)), (1, .int v1), (2, .int v2)] [] := by
  unfold f_X7_was at h
  refine tg_aload_n X dX7_was_0 rfl 0 rfl ?_
  refine tg_iload_n X dX7_was_1 rfl 1 rfl ?_
  obtain ⟨S1, r2, kS1, h⟩ := tg_bdE h
  refine tg_callV (As := [.int v1]) (rest := []) X 0 (cm_X7_isPuller _ _ _ _ _ kS1) yy_X7_isPuller wv_X7_isPuller ws_X7_isPuller wm_X7_100 rfl cl_X7.1 ⟨rfl, rfl, Nat.le_of_ble_eq_true rfl, Nat.le_of_ble_eq_true rfl⟩ rfl rfl (Nat.le_of_ble_eq_true rfl) dX7_was_2 rfl ?_
  refine tg_if_eq (tgt := 16) X dX7_was_5 (by decide) (fun c3 => ?_) (fun c3 => ?_)
  · have h := tg_ifT c3 h
    refine tg_bipush X dX7_was_16 tk_bm2 ?_
    exact tg_iret X h rfl dX7_was_18
  · have h := tg_ifF c3 h
    refine tg_iload_n X dX7_was_8 rfl 2 rfl ?_
    refine tg_iconst X dX7_was_9 tk_i2 ?_
    obtain ⟨S4, r5, kS4, h⟩ := tg_bdE h
    refine tg_callS (As := [.int v2, .int 2]) (rest := []) X (cm_X7_isBelow _ _ _ _ _ kS4) yy_X7_isBelow wt_X7_isBelow wm_X7_75 ⟨rfl, rfl, Nat.le_of_ble_eq_true rfl, Nat.le_of_ble_eq_true rfl⟩ rfl rfl (Nat.le_of_ble_eq_true rfl) dX7_was_10 rfl ?_
    refine tg_if_ne (tgt := 19) X dX7_was_13 (by decide) (fun c6 => ?_) (fun c6 => ?_)
    · have h := tg_ifF c6 h
      refine tg_iload_n X dX7_was_19 rfl 2 rfl ?_
      refine tg_if_ne (tgt := 31) X dX7_was_20 (by decide) (fun c7 => ?_) (fun c7 => ?_)
      · have h := tg_ifF c7 h
        refine tg_aload_n X dX7_was_31 rfl 0 rfl ?_
        refine tg_iload_n X dX7_was_32 rfl 1 rfl ?_
        obtain ⟨S8, r9, kS8, h⟩ := tg_bdE h
        refine tg_callV (As := [.int v1]) (rest := []) X 0 (cm_X7_sortsThatFit _ _ _ _ _ kS8) yy_X7_sortsThatFit wv_X7_sortsThatFit ws_X7_sortsThatFit wm_X7_236 rfl cl_X7.1 ⟨rfl, rfl, Nat.le_of_ble_eq_true rfl, Nat.le_of_ble_eq_true rfl⟩ rfl rfl (Nat.le_of_ble_eq_true rfl) dX7_was_33 rfl ?_
        exact tg_iret X h rfl dX7_was_36
      · have h := tg_ifT c7 h
        refine tg_aload_n X dX7_was_23 rfl 0 rfl ?_
        refine tg_iload_n X dX7_was_24 rfl 1 rfl ?_
        obtain ⟨S10, r11, kS10, h⟩ := tg_bdE h
        refine tg_callV (As := [.int v1]) (rest := []) X 0 (cm_X7_weightsThatFit _ _ _ _ _ kS10) yy_X7_weightsThatFit wv_X7_weightsThatFit ws_X7_weightsThatFit wm_X7_233 rfl cl_X7.1 ⟨rfl, rfl, Nat.le_of_ble_eq_true rfl, Nat.le_of_ble_eq_true rfl⟩ rfl rfl (Nat.le_of_ble_eq_true rfl) dX7_was_25 rfl ?_
        refine tg_goto (tgt := 36) X dX7_was_28 (by decide) ?_
        exact tg_iret X h rfl dX7_was_36
    · have h := tg_ifT c6 h
      refine tg_bipush X dX7_was_16 tk_bm2 ?_
      exact tg_iret X h rfl dX7_was_18
theorem cm_X7_was (l : Launch) (D : va_G) (cy : Bool → ClassId) (ad : Nat → Nat) (tS : Nat) {S Sf : tg_S} {v1 : Int32} {v2 : Int32} {r : Int32} (h : f_X7_was  S v1 v2 = some (Sf, r)) : tg_Met l yX7_was cX7_was 3 (some .int) zr_X7_was tauC D cy ad tS S [.ref (ad 0), .int v1, .int v2] Sf (some (.int r)) := tg_mk (by decide +kernel) trivial (Nat.le_of_ble_eq_true rfl) (fun p e s m args below meth c Q A X => w_X7_was_0 X S v1 v2 h)
