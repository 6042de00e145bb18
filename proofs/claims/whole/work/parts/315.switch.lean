theorem dL_law_0 : decode cL_law 0 = .ok (.new 7, 3) := by decide +kernel
theorem dL_law_3 : decode cL_law 3 = .ok (.dup, 1) := by decide +kernel
theorem dL_law_4 : decode cL_law 4 = .ok (.invokespecial 9, 3) := by decide +kernel
theorem dL_law_7 : decode cL_law 7 = .ok (.astore_n 1, 1) := by decide +kernel
theorem dL_law_8 : decode cL_law 8 = .ok (.new 10, 3) := by decide +kernel
theorem dL_law_11 : decode cL_law 11 = .ok (.dup, 1) := by decide +kernel
theorem dL_law_12 : decode cL_law 12 = .ok (.invokespecial 12, 3) := by decide +kernel
theorem dL_law_15 : decode cL_law 15 = .ok (.astore_n 2, 1) := by decide +kernel
theorem dL_law_16 : decode cL_law 16 = .ok (.iconst 0, 1) := by decide +kernel
theorem dL_law_17 : decode cL_law 17 = .ok (.istore_n 3, 1) := by decide +kernel
theorem dL_law_18 : decode cL_law 18 = .ok (.iload_n 3, 1) := by decide +kernel
theorem dL_law_19 : decode cL_law 19 = .ok (.aload_n 0, 1) := by decide +kernel
theorem dL_law_20 : decode cL_law 20 = .ok (.arraylength, 1) := by decide +kernel
theorem dL_law_21 : decode cL_law 21 = .ok (.bipush 6, 2) := by decide +kernel
theorem dL_law_23 : decode cL_law 23 = .ok (.isub, 1) := by decide +kernel
theorem dL_law_24 : decode cL_law 24 = .ok (.if_icmp .gt 1251, 3) := by decide +kernel
theorem dL_law_27 : decode cL_law 27 = .ok (.aload_n 0, 1) := by decide +kernel
theorem dL_law_28 : decode cL_law 28 = .ok (.iload_n 3, 1) := by decide +kernel
theorem dL_law_29 : decode cL_law 29 = .ok (.iaload, 1) := by decide +kernel
theorem dL_law_30 : decode cL_law 30 = .ok (.bipush 63, 2) := by decide +kernel
theorem dL_law_32 : decode cL_law 32 = .ok (.iand, 1) := by decide +kernel
theorem dL_law_33 : decode cL_law 33 = .ok (.tableswitch 1236 0 36 #[163, 196, 219, 242, 265, 298, 331, 354, 397, 410, 433, 466, 509, 532, 555, 578, 591, 604, 617, 660, 693, 726, 749, 782, 795, 808, 841, 864, 908, 951, 994, 1017, 1070, 1113, 1176, 1199, 1222], 163) := by decide +kernel
theorem dL_law_1269 : decode cL_law 1269 = .ok (.iinc 3 6, 3) := by decide +kernel
theorem dL_law_1272 : decode cL_law 1272 = .ok (.goto (-1254), 3) := by decide +kernel
theorem dL_law_1275 : decode cL_law 1275 = .ok (.iconst 1, 1) := by decide +kernel
theorem dL_law_1276 : decode cL_law 1276 = .ok (.ireturn, 1) := by decide +kernel
theorem lq_switch {x : tg_X} {b L : Nat} {xs : Nat → Int32} {bd : Nat → Nat} {S T : tg_S} {A : Nat → Nat → Nat} {i : Nat} (X : lq_M x b L xs) (hI : z_I S T A) (hi : i + 6 ≤ L) (k : ∀ S T A, z_I S T A → lq_G x b bd S T i 1269 []) (v : Int32) : lq_G x b bd S T i 33 [.int v] := by
  intro H locs ls h hl
  by_cases hv : v.toInt < 0 ∨ 36 < v.toInt
  · exact lv_tableOut X.1 X.2.1 dL_law_33 hv (by decide) (k S T A hI H locs ls h hl)
  obtain ⟨c, hc, rfl⟩ : ∃ c, c < 37 ∧ v = nI c := by
    refine ⟨v.toInt.toNat, by omega, Int32.toInt_inj.mp ?_⟩
    rw [nI_toInt (by omega)]
    omega
  clear hv
  rcases (show c = 0 ∨ c = 1 ∨ c = 2 ∨ c = 3 ∨ c = 4 ∨ c = 5 ∨ c = 6 ∨ c = 7 ∨ c = 8 ∨ c = 9 ∨ c = 10 ∨ c = 11 ∨ c = 12 ∨ c = 13 ∨ c = 14 ∨ c = 15 ∨ c = 16 ∨ c = 17 ∨ c = 18 ∨ c = 19 ∨ c = 20 ∨ c = 21 ∨ c = 22 ∨ c = 23 ∨ c = 24 ∨ c = 25 ∨ c = 26 ∨ c = 27 ∨ c = 28 ∨ c = 29 ∨ c = 30 ∨ c = 31 ∨ c = 32 ∨ c = 33 ∨ c = 34 ∨ c = 35 ∨ c = 36 by omega) with rfl | rfl | rfl | rfl | rfl | rfl | rfl | rfl | rfl | rfl | rfl | rfl | rfl | rfl | rfl | rfl | rfl | rfl | rfl | rfl | rfl | rfl | rfl | rfl | rfl | rfl | rfl | rfl | rfl | rfl | rfl | rfl | rfl | rfl | rfl | rfl | rfl
  · exact lv_tableIn X.1 X.2.1 dL_law_33 (by decide) (by decide) rfl (by decide) (lc_0 X hI hi k H locs ls h hl)
  · exact lv_tableIn X.1 X.2.1 dL_law_33 (by decide) (by decide) rfl (by decide) (lc_1 X hI hi k H locs ls h hl)
  · exact lv_tableIn X.1 X.2.1 dL_law_33 (by decide) (by decide) rfl (by decide) (lc_2 X hI hi k H locs ls h hl)
  · exact lv_tableIn X.1 X.2.1 dL_law_33 (by decide) (by decide) rfl (by decide) (lc_3 X hI hi k H locs ls h hl)
  · exact lv_tableIn X.1 X.2.1 dL_law_33 (by decide) (by decide) rfl (by decide) (lc_4 X hI hi k H locs ls h hl)
  · exact lv_tableIn X.1 X.2.1 dL_law_33 (by decide) (by decide) rfl (by decide) (lc_5 X hI hi k H locs ls h hl)
  · exact lv_tableIn X.1 X.2.1 dL_law_33 (by decide) (by decide) rfl (by decide) (lc_6 X hI hi k H locs ls h hl)
  · exact lv_tableIn X.1 X.2.1 dL_law_33 (by decide) (by decide) rfl (by decide) (lc_7 X hI hi k H locs ls h hl)
  · exact lv_tableIn X.1 X.2.1 dL_law_33 (by decide) (by decide) rfl (by decide) (lc_8 X hI hi k H locs ls h hl)
  · exact lv_tableIn X.1 X.2.1 dL_law_33 (by decide) (by decide) rfl (by decide) (lc_9 X hI hi k H locs ls h hl)
  · exact lv_tableIn X.1 X.2.1 dL_law_33 (by decide) (by decide) rfl (by decide) (lc_10 X hI hi k H locs ls h hl)
  · exact lv_tableIn X.1 X.2.1 dL_law_33 (by decide) (by decide) rfl (by decide) (lc_11 X hI hi k H locs ls h hl)
  · exact lv_tableIn X.1 X.2.1 dL_law_33 (by decide) (by decide) rfl (by decide) (lc_12 X hI hi k H locs ls h hl)
  · exact lv_tableIn X.1 X.2.1 dL_law_33 (by decide) (by decide) rfl (by decide) (lc_13 X hI hi k H locs ls h hl)
  · exact lv_tableIn X.1 X.2.1 dL_law_33 (by decide) (by decide) rfl (by decide) (lc_14 X hI hi k H locs ls h hl)
  · exact lv_tableIn X.1 X.2.1 dL_law_33 (by decide) (by decide) rfl (by decide) (lc_15 X hI hi k H locs ls h hl)
  · exact lv_tableIn X.1 X.2.1 dL_law_33 (by decide) (by decide) rfl (by decide) (lc_16 X hI hi k H locs ls h hl)
  · exact lv_tableIn X.1 X.2.1 dL_law_33 (by decide) (by decide) rfl (by decide) (lc_17 X hI hi k H locs ls h hl)
  · exact lv_tableIn X.1 X.2.1 dL_law_33 (by decide) (by decide) rfl (by decide) (lc_18 X hI hi k H locs ls h hl)
  · exact lv_tableIn X.1 X.2.1 dL_law_33 (by decide) (by decide) rfl (by decide) (lc_19 X hI hi k H locs ls h hl)
  · exact lv_tableIn X.1 X.2.1 dL_law_33 (by decide) (by decide) rfl (by decide) (lc_20 X hI hi k H locs ls h hl)
  · exact lv_tableIn X.1 X.2.1 dL_law_33 (by decide) (by decide) rfl (by decide) (lc_21 X hI hi k H locs ls h hl)
  · exact lv_tableIn X.1 X.2.1 dL_law_33 (by decide) (by decide) rfl (by decide) (lc_22 X hI hi k H locs ls h hl)
  · exact lv_tableIn X.1 X.2.1 dL_law_33 (by decide) (by decide) rfl (by decide) (lc_23 X hI hi k H locs ls h hl)
  · exact lv_tableIn X.1 X.2.1 dL_law_33 (by decide) (by decide) rfl (by decide) (lc_24 X hI hi k H locs ls h hl)
  · exact lv_tableIn X.1 X.2.1 dL_law_33 (by decide) (by decide) rfl (by decide) (lc_25 X hI hi k H locs ls h hl)
  · exact lv_tableIn X.1 X.2.1 dL_law_33 (by decide) (by decide) rfl (by decide) (lc_26 X hI hi k H locs ls h hl)
  · exact lv_tableIn X.1 X.2.1 dL_law_33 (by decide) (by decide) rfl (by decide) (lc_27 X hI hi k H locs ls h hl)
  · exact lv_tableIn X.1 X.2.1 dL_law_33 (by decide) (by decide) rfl (by decide) (lc_28 X hI hi k H locs ls h hl)
  · exact lv_tableIn X.1 X.2.1 dL_law_33 (by decide) (by decide) rfl (by decide) (lc_29 X hI hi k H locs ls h hl)
  · exact lv_tableIn X.1 X.2.1 dL_law_33 (by decide) (by decide) rfl (by decide) (lc_30 X hI hi k H locs ls h hl)
  · exact lv_tableIn X.1 X.2.1 dL_law_33 (by decide) (by decide) rfl (by decide) (lc_31 X hI hi k H locs ls h hl)
  · exact lv_tableIn X.1 X.2.1 dL_law_33 (by decide) (by decide) rfl (by decide) (lc_32 X hI hi k H locs ls h hl)
  · exact lv_tableIn X.1 X.2.1 dL_law_33 (by decide) (by decide) rfl (by decide) (lc_33 X hI hi k H locs ls h hl)
  · exact lv_tableIn X.1 X.2.1 dL_law_33 (by decide) (by decide) rfl (by decide) (lc_34 X hI hi k H locs ls h hl)
  · exact lv_tableIn X.1 X.2.1 dL_law_33 (by decide) (by decide) rfl (by decide) (lc_35 X hI hi k H locs ls h hl)
  · exact lv_tableIn X.1 X.2.1 dL_law_33 (by decide) (by decide) rfl (by decide) (lc_36 X hI hi k H locs ls h hl)
