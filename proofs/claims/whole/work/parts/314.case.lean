theorem dL_law_941 : decode cL_law 941 = .ok (.aload_n 1, 1) := by decide +kernel
theorem dL_law_942 : decode cL_law 942 = .ok (.aload_n 0, 1) := by decide +kernel
theorem dL_law_943 : decode cL_law 943 = .ok (.iload_n 3, 1) := by decide +kernel
theorem dL_law_944 : decode cL_law 944 = .ok (.iconst 1, 1) := by decide +kernel
theorem dL_law_945 : decode cL_law 945 = .ok (.iadd, 1) := by decide +kernel
theorem dL_law_946 : decode cL_law 946 = .ok (.iaload, 1) := by decide +kernel
theorem dL_law_947 : decode cL_law 947 = .ok (.aload_n 0, 1) := by decide +kernel
theorem dL_law_948 : decode cL_law 948 = .ok (.iload_n 3, 1) := by decide +kernel
theorem dL_law_949 : decode cL_law 949 = .ok (.iconst 2, 1) := by decide +kernel
theorem dL_law_950 : decode cL_law 950 = .ok (.iadd, 1) := by decide +kernel
theorem dL_law_951 : decode cL_law 951 = .ok (.iaload, 1) := by decide +kernel
theorem dL_law_952 : decode cL_law 952 = .ok (.aload_n 0, 1) := by decide +kernel
theorem dL_law_953 : decode cL_law 953 = .ok (.iload_n 3, 1) := by decide +kernel
theorem dL_law_954 : decode cL_law 954 = .ok (.iconst 3, 1) := by decide +kernel
theorem dL_law_955 : decode cL_law 955 = .ok (.iadd, 1) := by decide +kernel
theorem dL_law_956 : decode cL_law 956 = .ok (.iaload, 1) := by decide +kernel
theorem dL_law_957 : decode cL_law 957 = .ok (.invokevirtual 130, 3) := by decide +kernel
theorem dL_law_960 : decode cL_law 960 = .ok (.aload_n 2, 1) := by decide +kernel
theorem dL_law_961 : decode cL_law 961 = .ok (.aload_n 0, 1) := by decide +kernel
theorem dL_law_962 : decode cL_law 962 = .ok (.iload_n 3, 1) := by decide +kernel
theorem dL_law_963 : decode cL_law 963 = .ok (.iconst 1, 1) := by decide +kernel
theorem dL_law_964 : decode cL_law 964 = .ok (.iadd, 1) := by decide +kernel
theorem dL_law_965 : decode cL_law 965 = .ok (.iaload, 1) := by decide +kernel
theorem dL_law_966 : decode cL_law 966 = .ok (.aload_n 0, 1) := by decide +kernel
theorem dL_law_967 : decode cL_law 967 = .ok (.iload_n 3, 1) := by decide +kernel
theorem dL_law_968 : decode cL_law 968 = .ok (.iconst 2, 1) := by decide +kernel
theorem dL_law_969 : decode cL_law 969 = .ok (.iadd, 1) := by decide +kernel
theorem dL_law_970 : decode cL_law 970 = .ok (.iaload, 1) := by decide +kernel
theorem dL_law_971 : decode cL_law 971 = .ok (.aload_n 0, 1) := by decide +kernel
theorem dL_law_972 : decode cL_law 972 = .ok (.iload_n 3, 1) := by decide +kernel
theorem dL_law_973 : decode cL_law 973 = .ok (.iconst 3, 1) := by decide +kernel
theorem dL_law_974 : decode cL_law 974 = .ok (.iadd, 1) := by decide +kernel
theorem dL_law_975 : decode cL_law 975 = .ok (.iaload, 1) := by decide +kernel
theorem dL_law_976 : decode cL_law 976 = .ok (.invokevirtual 133, 3) := by decide +kernel
theorem dL_law_979 : decode cL_law 979 = .ok (.if_icmp .eq 290, 3) := by decide +kernel
theorem dL_law_982 : decode cL_law 982 = .ok (.iconst 0, 1) := by decide +kernel
theorem dL_law_983 : decode cL_law 983 = .ok (.ireturn, 1) := by decide +kernel
theorem wq_X7_years : tg_Y0 yX7_years cX7_years 6 (some .int) 3 ∧ Cond.instanceMethod yX7_years ∈ tg_gG ∧ Cond.selects yX7_years.cls yX7_years yX7_years ∈ tg_gG ∧ Cond.methodLink RL 130 yX7_years ∈ tg_gG := ⟨⟨tg_mem (List.mem_of_getElem? (i := 660) (by decide +kernel)) (by decide +kernel), wi_X7, by decide +kernel, by decide +kernel, by decide +kernel⟩, tg_mem (List.mem_of_getElem? (i := 658) (by decide +kernel)) (by decide +kernel), tg_mem (List.mem_of_getElem? (i := 659) (by decide +kernel)) (by decide +kernel), tg_mem (List.mem_of_getElem? (i := 657) (by decide +kernel)) (by decide +kernel)⟩
theorem wq_X8_years : tg_Y0 yX8_years cX8_years 4 (some .int) 3 ∧ Cond.instanceMethod yX8_years ∈ tg_gG ∧ Cond.selects yX8_years.cls yX8_years yX8_years ∈ tg_gG ∧ Cond.methodLink RL 133 yX8_years ∈ tg_gG := ⟨⟨tg_mem (List.mem_of_getElem? (i := 1231) (by decide +kernel)) (by decide +kernel), wi_X8, by decide +kernel, by decide +kernel, by decide +kernel⟩, tg_mem (List.mem_of_getElem? (i := 1229) (by decide +kernel)) (by decide +kernel), tg_mem (List.mem_of_getElem? (i := 1230) (by decide +kernel)) (by decide +kernel), tg_mem (List.mem_of_getElem? (i := 1228) (by decide +kernel)) (by decide +kernel)⟩
theorem lc_28 {x : tg_X} {b L : Nat} {xs : Nat → Int32} {bd : Nat → Nat} {S T : tg_S} {A : Nat → Nat → Nat} {i : Nat} (X : lq_M x b L xs) (hI : z_I S T A) (hi : i + 6 ≤ L) (k : ∀ S T A, z_I S T A → lq_G x b bd S T i 1269 []) : lq_G x b bd S T i 941 [] := by
  obtain ⟨S1, T1, r, A1, h1, h2, h3⟩ := e_years S T A hI (xs (i + 1)) (xs (i + 2)) (xs (i + 3))
  refine lq_x1 X dL_law_941 ?_
  refine lq_arg X (j := 1) (by decide) (by decide) hi dL_law_942 dL_law_943 dL_law_944 dL_law_945 dL_law_946 ?_
  refine lq_arg X (j := 2) (by decide) (by decide) hi dL_law_947 dL_law_948 dL_law_949 dL_law_950 dL_law_951 ?_
  refine lq_arg X (j := 3) (by decide) (by decide) hi dL_law_952 dL_law_953 dL_law_954 dL_law_955 dL_law_956 ?_
  refine lq_C (st := []) X (cm_X7_years _ _ _ _ _ h1) wq_X7_years.1 wq_X7_years.2.1 wq_X7_years.2.2.1 wq_X7_years.2.2.2 rfl ⟨rfl, rfl, Nat.le_of_ble_eq_true rfl, Nat.le_of_ble_eq_true rfl⟩ rfl rfl (Nat.le_of_ble_eq_true rfl) dL_law_957 rfl ?_
  refine lq_x2 X dL_law_960 ?_
  refine lq_arg X (j := 1) (by decide) (by decide) hi dL_law_961 dL_law_962 dL_law_963 dL_law_964 dL_law_965 ?_
  refine lq_arg X (j := 2) (by decide) (by decide) hi dL_law_966 dL_law_967 dL_law_968 dL_law_969 dL_law_970 ?_
  refine lq_arg X (j := 3) (by decide) (by decide) hi dL_law_971 dL_law_972 dL_law_973 dL_law_974 dL_law_975 ?_
  refine lq_R (st := [.int r]) X (cm_X8_years _ _ _ _ _ h2) wq_X8_years.1 wq_X8_years.2.1 wq_X8_years.2.2.1 wq_X8_years.2.2.2 rfl ⟨rfl, rfl, Nat.le_of_ble_eq_true rfl, Nat.le_of_ble_eq_true rfl⟩ rfl rfl (Nat.le_of_ble_eq_true rfl) dL_law_976 rfl ?_
  exact lq_same X dL_law_979 (by decide) (k S1 T1 A1 h3)
theorem dL_law_984 : decode cL_law 984 = .ok (.aload_n 1, 1) := by decide +kernel
theorem dL_law_985 : decode cL_law 985 = .ok (.aload_n 0, 1) := by decide +kernel
theorem dL_law_986 : decode cL_law 986 = .ok (.iload_n 3, 1) := by decide +kernel
theorem dL_law_987 : decode cL_law 987 = .ok (.iconst 1, 1) := by decide +kernel
theorem dL_law_988 : decode cL_law 988 = .ok (.iadd, 1) := by decide +kernel
theorem dL_law_989 : decode cL_law 989 = .ok (.iaload, 1) := by decide +kernel
theorem dL_law_990 : decode cL_law 990 = .ok (.aload_n 0, 1) := by decide +kernel
theorem dL_law_991 : decode cL_law 991 = .ok (.iload_n 3, 1) := by decide +kernel
theorem dL_law_992 : decode cL_law 992 = .ok (.iconst 2, 1) := by decide +kernel
theorem dL_law_993 : decode cL_law 993 = .ok (.iadd, 1) := by decide +kernel
theorem dL_law_994 : decode cL_law 994 = .ok (.iaload, 1) := by decide +kernel
theorem dL_law_995 : decode cL_law 995 = .ok (.aload_n 0, 1) := by decide +kernel
theorem dL_law_996 : decode cL_law 996 = .ok (.iload_n 3, 1) := by decide +kernel
theorem dL_law_997 : decode cL_law 997 = .ok (.iconst 3, 1) := by decide +kernel
theorem dL_law_998 : decode cL_law 998 = .ok (.iadd, 1) := by decide +kernel
theorem dL_law_999 : decode cL_law 999 = .ok (.iaload, 1) := by decide +kernel
theorem dL_law_1000 : decode cL_law 1000 = .ok (.invokevirtual 134, 3) := by decide +kernel
theorem dL_law_1003 : decode cL_law 1003 = .ok (.aload_n 2, 1) := by decide +kernel
theorem dL_law_1004 : decode cL_law 1004 = .ok (.aload_n 0, 1) := by decide +kernel
theorem dL_law_1005 : decode cL_law 1005 = .ok (.iload_n 3, 1) := by decide +kernel
theorem dL_law_1006 : decode cL_law 1006 = .ok (.iconst 1, 1) := by decide +kernel
theorem dL_law_1007 : decode cL_law 1007 = .ok (.iadd, 1) := by decide +kernel
theorem dL_law_1008 : decode cL_law 1008 = .ok (.iaload, 1) := by decide +kernel
theorem dL_law_1009 : decode cL_law 1009 = .ok (.aload_n 0, 1) := by decide +kernel
theorem dL_law_1010 : decode cL_law 1010 = .ok (.iload_n 3, 1) := by decide +kernel
theorem dL_law_1011 : decode cL_law 1011 = .ok (.iconst 2, 1) := by decide +kernel
theorem dL_law_1012 : decode cL_law 1012 = .ok (.iadd, 1) := by decide +kernel
theorem dL_law_1013 : decode cL_law 1013 = .ok (.iaload, 1) := by decide +kernel
theorem dL_law_1014 : decode cL_law 1014 = .ok (.aload_n 0, 1) := by decide +kernel
theorem dL_law_1015 : decode cL_law 1015 = .ok (.iload_n 3, 1) := by decide +kernel
theorem dL_law_1016 : decode cL_law 1016 = .ok (.iconst 3, 1) := by decide +kernel
theorem dL_law_1017 : decode cL_law 1017 = .ok (.iadd, 1) := by decide +kernel
theorem dL_law_1018 : decode cL_law 1018 = .ok (.iaload, 1) := by decide +kernel
theorem dL_law_1019 : decode cL_law 1019 = .ok (.invokevirtual 137, 3) := by decide +kernel
theorem dL_law_1022 : decode cL_law 1022 = .ok (.if_icmp .eq 247, 3) := by decide +kernel
theorem dL_law_1025 : decode cL_law 1025 = .ok (.iconst 0, 1) := by decide +kernel
theorem dL_law_1026 : decode cL_law 1026 = .ok (.ireturn, 1) := by decide +kernel
theorem wq_X7_sheet : tg_Y0 yX7_sheet cX7_sheet 4 (some .int) 3 ∧ Cond.instanceMethod yX7_sheet ∈ tg_gG ∧ Cond.selects yX7_sheet.cls yX7_sheet yX7_sheet ∈ tg_gG ∧ Cond.methodLink RL 134 yX7_sheet ∈ tg_gG := ⟨⟨tg_mem (List.mem_of_getElem? (i := 665) (by decide +kernel)) (by decide +kernel), wi_X7, by decide +kernel, by decide +kernel, by decide +kernel⟩, tg_mem (List.mem_of_getElem? (i := 663) (by decide +kernel)) (by decide +kernel), tg_mem (List.mem_of_getElem? (i := 664) (by decide +kernel)) (by decide +kernel), tg_mem (List.mem_of_getElem? (i := 662) (by decide +kernel)) (by decide +kernel)⟩
theorem wq_X8_sheet : tg_Y0 yX8_sheet cX8_sheet 5 (some .int) 3 ∧ Cond.instanceMethod yX8_sheet ∈ tg_gG ∧ Cond.selects yX8_sheet.cls yX8_sheet yX8_sheet ∈ tg_gG ∧ Cond.methodLink RL 137 yX8_sheet ∈ tg_gG := ⟨⟨tg_mem (List.mem_of_getElem? (i := 1240) (by decide +kernel)) (by decide +kernel), wi_X8, by decide +kernel, by decide +kernel, by decide +kernel⟩, tg_mem (List.mem_of_getElem? (i := 1238) (by decide +kernel)) (by decide +kernel), tg_mem (List.mem_of_getElem? (i := 1239) (by decide +kernel)) (by decide +kernel), tg_mem (List.mem_of_getElem? (i := 1237) (by decide +kernel)) (by decide +kernel)⟩
theorem lc_29 {x : tg_X} {b L : Nat} {xs : Nat → Int32} {bd : Nat → Nat} {S T : tg_S} {A : Nat → Nat → Nat} {i : Nat} (X : lq_M x b L xs) (hI : z_I S T A) (hi : i + 6 ≤ L) (k : ∀ S T A, z_I S T A → lq_G x b bd S T i 1269 []) : lq_G x b bd S T i 984 [] := by
  obtain ⟨S1, T1, r, A1, h1, h2, h3⟩ := e_sheet S T A hI (xs (i + 1)) (xs (i + 2)) (xs (i + 3))
  refine lq_x1 X dL_law_984 ?_
  refine lq_arg X (j := 1) (by decide) (by decide) hi dL_law_985 dL_law_986 dL_law_987 dL_law_988 dL_law_989 ?_
  refine lq_arg X (j := 2) (by decide) (by decide) hi dL_law_990 dL_law_991 dL_law_992 dL_law_993 dL_law_994 ?_
  refine lq_arg X (j := 3) (by decide) (by decide) hi dL_law_995 dL_law_996 dL_law_997 dL_law_998 dL_law_999 ?_
  refine lq_C (st := []) X (cm_X7_sheet _ _ _ _ _ h1) wq_X7_sheet.1 wq_X7_sheet.2.1 wq_X7_sheet.2.2.1 wq_X7_sheet.2.2.2 rfl ⟨rfl, rfl, Nat.le_of_ble_eq_true rfl, Nat.le_of_ble_eq_true rfl⟩ rfl rfl (Nat.le_of_ble_eq_true rfl) dL_law_1000 rfl ?_
  refine lq_x2 X dL_law_1003 ?_
  refine lq_arg X (j := 1) (by decide) (by decide) hi dL_law_1004 dL_law_1005 dL_law_1006 dL_law_1007 dL_law_1008 ?_
  refine lq_arg X (j := 2) (by decide) (by decide) hi dL_law_1009 dL_law_1010 dL_law_1011 dL_law_1012 dL_law_1013 ?_
  refine lq_arg X (j := 3) (by decide) (by decide) hi dL_law_1014 dL_law_1015 dL_law_1016 dL_law_1017 dL_law_1018 ?_
  refine lq_R (st := [.int r]) X (cm_X8_sheet _ _ _ _ _ h2) wq_X8_sheet.1 wq_X8_sheet.2.1 wq_X8_sheet.2.2.1 wq_X8_sheet.2.2.2 rfl ⟨rfl, rfl, Nat.le_of_ble_eq_true rfl, Nat.le_of_ble_eq_true rfl⟩ rfl rfl (Nat.le_of_ble_eq_true rfl) dL_law_1019 rfl ?_
  exact lq_same X dL_law_1022 (by decide) (k S1 T1 A1 h3)
theorem dL_law_1027 : decode cL_law 1027 = .ok (.aload_n 1, 1) := by decide +kernel
theorem dL_law_1028 : decode cL_law 1028 = .ok (.aload_n 0, 1) := by decide +kernel
theorem dL_law_1029 : decode cL_law 1029 = .ok (.iload_n 3, 1) := by decide +kernel
theorem dL_law_1030 : decode cL_law 1030 = .ok (.iconst 1, 1) := by decide +kernel
theorem dL_law_1031 : decode cL_law 1031 = .ok (.iadd, 1) := by decide +kernel
theorem dL_law_1032 : decode cL_law 1032 = .ok (.iaload, 1) := by decide +kernel
theorem dL_law_1033 : decode cL_law 1033 = .ok (.invokevirtual 138, 3) := by decide +kernel
theorem dL_law_1036 : decode cL_law 1036 = .ok (.aload_n 2, 1) := by decide +kernel
theorem dL_law_1037 : decode cL_law 1037 = .ok (.aload_n 0, 1) := by decide +kernel
theorem dL_law_1038 : decode cL_law 1038 = .ok (.iload_n 3, 1) := by decide +kernel
theorem dL_law_1039 : decode cL_law 1039 = .ok (.iconst 1, 1) := by decide +kernel
theorem dL_law_1040 : decode cL_law 1040 = .ok (.iadd, 1) := by decide +kernel
theorem dL_law_1041 : decode cL_law 1041 = .ok (.iaload, 1) := by decide +kernel
theorem dL_law_1042 : decode cL_law 1042 = .ok (.invokevirtual 141, 3) := by decide +kernel
theorem dL_law_1045 : decode cL_law 1045 = .ok (.if_icmp .eq 224, 3) := by decide +kernel
theorem dL_law_1048 : decode cL_law 1048 = .ok (.iconst 0, 1) := by decide +kernel
theorem dL_law_1049 : decode cL_law 1049 = .ok (.ireturn, 1) := by decide +kernel
theorem wq_X7_lose : tg_Y0 yX7_lose cX7_lose 2 (some .int) 1 ∧ Cond.instanceMethod yX7_lose ∈ tg_gG ∧ Cond.selects yX7_lose.cls yX7_lose yX7_lose ∈ tg_gG ∧ Cond.methodLink RL 138 yX7_lose ∈ tg_gG := ⟨⟨tg_mem (List.mem_of_getElem? (i := 673) (by decide +kernel)) (by decide +kernel), wi_X7, by decide +kernel, by decide +kernel, by decide +kernel⟩, tg_mem (List.mem_of_getElem? (i := 671) (by decide +kernel)) (by decide +kernel), tg_mem (List.mem_of_getElem? (i := 672) (by decide +kernel)) (by decide +kernel), tg_mem (List.mem_of_getElem? (i := 670) (by decide +kernel)) (by decide +kernel)⟩
theorem wq_X8_lose : tg_Y0 yX8_lose cX8_lose 2 (some .int) 1 ∧ Cond.instanceMethod yX8_lose ∈ tg_gG ∧ Cond.selects yX8_lose.cls yX8_lose yX8_lose ∈ tg_gG ∧ Cond.methodLink RL 141 yX8_lose ∈ tg_gG := ⟨⟨tg_mem (List.mem_of_getElem? (i := 1244) (by decide +kernel)) (by decide +kernel), wi_X8, by decide +kernel, by decide +kernel, by decide +kernel⟩, tg_mem (List.mem_of_getElem? (i := 1242) (by decide +kernel)) (by decide +kernel), tg_mem (List.mem_of_getElem? (i := 1243) (by decide +kernel)) (by decide +kernel), tg_mem (List.mem_of_getElem? (i := 1241) (by decide +kernel)) (by decide +kernel)⟩
theorem lc_30 {x : tg_X} {b L : Nat} {xs : Nat → Int32} {bd : Nat → Nat} {S T : tg_S} {A : Nat → Nat → Nat} {i : Nat} (X : lq_M x b L xs) (hI : z_I S T A) (hi : i + 6 ≤ L) (k : ∀ S T A, z_I S T A → lq_G x b bd S T i 1269 []) : lq_G x b bd S T i 1027 [] := by
  obtain ⟨S1, T1, r, A1, h1, h2, h3⟩ := e_lose S T A hI (xs (i + 1))
  refine lq_x1 X dL_law_1027 ?_
  refine lq_arg X (j := 1) (by decide) (by decide) hi dL_law_1028 dL_law_1029 dL_law_1030 dL_law_1031 dL_law_1032 ?_
  refine lq_C (st := []) X (cm_X7_lose _ _ _ _ _ h1) wq_X7_lose.1 wq_X7_lose.2.1 wq_X7_lose.2.2.1 wq_X7_lose.2.2.2 rfl ⟨rfl, rfl, Nat.le_of_ble_eq_true rfl, Nat.le_of_ble_eq_true rfl⟩ rfl rfl (Nat.le_of_ble_eq_true rfl) dL_law_1033 rfl ?_
  refine lq_x2 X dL_law_1036 ?_
  refine lq_arg X (j := 1) (by decide) (by decide) hi dL_law_1037 dL_law_1038 dL_law_1039 dL_law_1040 dL_law_1041 ?_
  refine lq_R (st := [.int r]) X (cm_X8_lose _ _ _ _ _ h2) wq_X8_lose.1 wq_X8_lose.2.1 wq_X8_lose.2.2.1 wq_X8_lose.2.2.2 rfl ⟨rfl, rfl, Nat.le_of_ble_eq_true rfl, Nat.le_of_ble_eq_true rfl⟩ rfl rfl (Nat.le_of_ble_eq_true rfl) dL_law_1042 rfl ?_
  exact lq_same X dL_law_1045 (by decide) (k S1 T1 A1 h3)
theorem dL_law_1050 : decode cL_law 1050 = .ok (.aload_n 1, 1) := by decide +kernel
theorem dL_law_1051 : decode cL_law 1051 = .ok (.aload_n 0, 1) := by decide +kernel
theorem dL_law_1052 : decode cL_law 1052 = .ok (.iload_n 3, 1) := by decide +kernel
theorem dL_law_1053 : decode cL_law 1053 = .ok (.iconst 1, 1) := by decide +kernel
theorem dL_law_1054 : decode cL_law 1054 = .ok (.iadd, 1) := by decide +kernel
theorem dL_law_1055 : decode cL_law 1055 = .ok (.iaload, 1) := by decide +kernel
theorem dL_law_1056 : decode cL_law 1056 = .ok (.aload_n 0, 1) := by decide +kernel
theorem dL_law_1057 : decode cL_law 1057 = .ok (.iload_n 3, 1) := by decide +kernel
theorem dL_law_1058 : decode cL_law 1058 = .ok (.iconst 2, 1) := by decide +kernel
theorem dL_law_1059 : decode cL_law 1059 = .ok (.iadd, 1) := by decide +kernel
theorem dL_law_1060 : decode cL_law 1060 = .ok (.iaload, 1) := by decide +kernel
theorem dL_law_1061 : decode cL_law 1061 = .ok (.aload_n 0, 1) := by decide +kernel
theorem dL_law_1062 : decode cL_law 1062 = .ok (.iload_n 3, 1) := by decide +kernel
theorem dL_law_1063 : decode cL_law 1063 = .ok (.iconst 3, 1) := by decide +kernel
theorem dL_law_1064 : decode cL_law 1064 = .ok (.iadd, 1) := by decide +kernel
theorem dL_law_1065 : decode cL_law 1065 = .ok (.iaload, 1) := by decide +kernel
theorem dL_law_1066 : decode cL_law 1066 = .ok (.aload_n 0, 1) := by decide +kernel
theorem dL_law_1067 : decode cL_law 1067 = .ok (.iload_n 3, 1) := by decide +kernel
theorem dL_law_1068 : decode cL_law 1068 = .ok (.iconst 4, 1) := by decide +kernel
theorem dL_law_1069 : decode cL_law 1069 = .ok (.iadd, 1) := by decide +kernel
theorem dL_law_1070 : decode cL_law 1070 = .ok (.iaload, 1) := by decide +kernel
theorem dL_law_1071 : decode cL_law 1071 = .ok (.invokevirtual 142, 3) := by decide +kernel
theorem dL_law_1074 : decode cL_law 1074 = .ok (.aload_n 2, 1) := by decide +kernel
theorem dL_law_1075 : decode cL_law 1075 = .ok (.aload_n 0, 1) := by decide +kernel
theorem dL_law_1076 : decode cL_law 1076 = .ok (.iload_n 3, 1) := by decide +kernel
theorem dL_law_1077 : decode cL_law 1077 = .ok (.iconst 1, 1) := by decide +kernel
theorem dL_law_1078 : decode cL_law 1078 = .ok (.iadd, 1) := by decide +kernel
theorem dL_law_1079 : decode cL_law 1079 = .ok (.iaload, 1) := by decide +kernel
theorem dL_law_1080 : decode cL_law 1080 = .ok (.aload_n 0, 1) := by decide +kernel
theorem dL_law_1081 : decode cL_law 1081 = .ok (.iload_n 3, 1) := by decide +kernel
theorem dL_law_1082 : decode cL_law 1082 = .ok (.iconst 2, 1) := by decide +kernel
theorem dL_law_1083 : decode cL_law 1083 = .ok (.iadd, 1) := by decide +kernel
theorem dL_law_1084 : decode cL_law 1084 = .ok (.iaload, 1) := by decide +kernel
theorem dL_law_1085 : decode cL_law 1085 = .ok (.aload_n 0, 1) := by decide +kernel
theorem dL_law_1086 : decode cL_law 1086 = .ok (.iload_n 3, 1) := by decide +kernel
theorem dL_law_1087 : decode cL_law 1087 = .ok (.iconst 3, 1) := by decide +kernel
theorem dL_law_1088 : decode cL_law 1088 = .ok (.iadd, 1) := by decide +kernel
theorem dL_law_1089 : decode cL_law 1089 = .ok (.iaload, 1) := by decide +kernel
theorem dL_law_1090 : decode cL_law 1090 = .ok (.aload_n 0, 1) := by decide +kernel
theorem dL_law_1091 : decode cL_law 1091 = .ok (.iload_n 3, 1) := by decide +kernel
theorem dL_law_1092 : decode cL_law 1092 = .ok (.iconst 4, 1) := by decide +kernel
theorem dL_law_1093 : decode cL_law 1093 = .ok (.iadd, 1) := by decide +kernel
theorem dL_law_1094 : decode cL_law 1094 = .ok (.iaload, 1) := by decide +kernel
theorem dL_law_1095 : decode cL_law 1095 = .ok (.invokevirtual 146, 3) := by decide +kernel
theorem dL_law_1098 : decode cL_law 1098 = .ok (.if_icmp .eq 171, 3) := by decide +kernel
theorem dL_law_1101 : decode cL_law 1101 = .ok (.iconst 0, 1) := by decide +kernel
theorem dL_law_1102 : decode cL_law 1102 = .ok (.ireturn, 1) := by decide +kernel
theorem wq_X7_put : tg_Y0 yX7_put cX7_put 6 (some .int) 4 ∧ Cond.instanceMethod yX7_put ∈ tg_gG ∧ Cond.selects yX7_put.cls yX7_put yX7_put ∈ tg_gG ∧ Cond.methodLink RL 142 yX7_put ∈ tg_gG := ⟨⟨tg_mem (List.mem_of_getElem? (i := 681) (by decide +kernel)) (by decide +kernel), wi_X7, by decide +kernel, by decide +kernel, by decide +kernel⟩, tg_mem (List.mem_of_getElem? (i := 679) (by decide +kernel)) (by decide +kernel), tg_mem (List.mem_of_getElem? (i := 680) (by decide +kernel)) (by decide +kernel), tg_mem (List.mem_of_getElem? (i := 678) (by decide +kernel)) (by decide +kernel)⟩
theorem wq_X8_put : tg_Y0 yX8_put cX8_put 6 (some .int) 4 ∧ Cond.instanceMethod yX8_put ∈ tg_gG ∧ Cond.selects yX8_put.cls yX8_put yX8_put ∈ tg_gG ∧ Cond.methodLink RL 146 yX8_put ∈ tg_gG := ⟨⟨tg_mem (List.mem_of_getElem? (i := 1248) (by decide +kernel)) (by decide +kernel), wi_X8, by decide +kernel, by decide +kernel, by decide +kernel⟩, tg_mem (List.mem_of_getElem? (i := 1246) (by decide +kernel)) (by decide +kernel), tg_mem (List.mem_of_getElem? (i := 1247) (by decide +kernel)) (by decide +kernel), tg_mem (List.mem_of_getElem? (i := 1245) (by decide +kernel)) (by decide +kernel)⟩
theorem lc_31 {x : tg_X} {b L : Nat} {xs : Nat → Int32} {bd : Nat → Nat} {S T : tg_S} {A : Nat → Nat → Nat} {i : Nat} (X : lq_M x b L xs) (hI : z_I S T A) (hi : i + 6 ≤ L) (k : ∀ S T A, z_I S T A → lq_G x b bd S T i 1269 []) : lq_G x b bd S T i 1050 [] := by
  obtain ⟨S1, T1, r, A1, h1, h2, h3⟩ := e_put S T A hI (xs (i + 1)) (xs (i + 2)) (xs (i + 3)) (xs (i + 4))
  refine lq_x1 X dL_law_1050 ?_
  refine lq_arg X (j := 1) (by decide) (by decide) hi dL_law_1051 dL_law_1052 dL_law_1053 dL_law_1054 dL_law_1055 ?_
  refine lq_arg X (j := 2) (by decide) (by decide) hi dL_law_1056 dL_law_1057 dL_law_1058 dL_law_1059 dL_law_1060 ?_
  refine lq_arg X (j := 3) (by decide) (by decide) hi dL_law_1061 dL_law_1062 dL_law_1063 dL_law_1064 dL_law_1065 ?_
  refine lq_arg X (j := 4) (by decide) (by decide) hi dL_law_1066 dL_law_1067 dL_law_1068 dL_law_1069 dL_law_1070 ?_
  refine lq_C (st := []) X (cm_X7_put _ _ _ _ _ h1) wq_X7_put.1 wq_X7_put.2.1 wq_X7_put.2.2.1 wq_X7_put.2.2.2 rfl ⟨rfl, rfl, Nat.le_of_ble_eq_true rfl, Nat.le_of_ble_eq_true rfl⟩ rfl rfl (Nat.le_of_ble_eq_true rfl) dL_law_1071 rfl ?_
  refine lq_x2 X dL_law_1074 ?_
  refine lq_arg X (j := 1) (by decide) (by decide) hi dL_law_1075 dL_law_1076 dL_law_1077 dL_law_1078 dL_law_1079 ?_
  refine lq_arg X (j := 2) (by decide) (by decide) hi dL_law_1080 dL_law_1081 dL_law_1082 dL_law_1083 dL_law_1084 ?_
  refine lq_arg X (j := 3) (by decide) (by decide) hi dL_law_1085 dL_law_1086 dL_law_1087 dL_law_1088 dL_law_1089 ?_
  refine lq_arg X (j := 4) (by decide) (by decide) hi dL_law_1090 dL_law_1091 dL_law_1092 dL_law_1093 dL_law_1094 ?_
  refine lq_R (st := [.int r]) X (cm_X8_put _ _ _ _ _ h2) wq_X8_put.1 wq_X8_put.2.1 wq_X8_put.2.2.1 wq_X8_put.2.2.2 rfl ⟨rfl, rfl, Nat.le_of_ble_eq_true rfl, Nat.le_of_ble_eq_true rfl⟩ rfl rfl (Nat.le_of_ble_eq_true rfl) dL_law_1095 rfl ?_
  exact lq_same X dL_law_1098 (by decide) (k S1 T1 A1 h3)
theorem dL_law_1103 : decode cL_law 1103 = .ok (.aload_n 1, 1) := by decide +kernel
theorem dL_law_1104 : decode cL_law 1104 = .ok (.aload_n 0, 1) := by decide +kernel
theorem dL_law_1105 : decode cL_law 1105 = .ok (.iload_n 3, 1) := by decide +kernel
theorem dL_law_1106 : decode cL_law 1106 = .ok (.iconst 1, 1) := by decide +kernel
theorem dL_law_1107 : decode cL_law 1107 = .ok (.iadd, 1) := by decide +kernel
theorem dL_law_1108 : decode cL_law 1108 = .ok (.iaload, 1) := by decide +kernel
theorem dL_law_1109 : decode cL_law 1109 = .ok (.aload_n 0, 1) := by decide +kernel
theorem dL_law_1110 : decode cL_law 1110 = .ok (.iload_n 3, 1) := by decide +kernel
theorem dL_law_1111 : decode cL_law 1111 = .ok (.iconst 2, 1) := by decide +kernel
theorem dL_law_1112 : decode cL_law 1112 = .ok (.iadd, 1) := by decide +kernel
theorem dL_law_1113 : decode cL_law 1113 = .ok (.iaload, 1) := by decide +kernel
theorem dL_law_1114 : decode cL_law 1114 = .ok (.aload_n 0, 1) := by decide +kernel
theorem dL_law_1115 : decode cL_law 1115 = .ok (.iload_n 3, 1) := by decide +kernel
theorem dL_law_1116 : decode cL_law 1116 = .ok (.iconst 3, 1) := by decide +kernel
theorem dL_law_1117 : decode cL_law 1117 = .ok (.iadd, 1) := by decide +kernel
theorem dL_law_1118 : decode cL_law 1118 = .ok (.iaload, 1) := by decide +kernel
theorem dL_law_1119 : decode cL_law 1119 = .ok (.invokevirtual 147, 3) := by decide +kernel
theorem dL_law_1122 : decode cL_law 1122 = .ok (.aload_n 2, 1) := by decide +kernel
theorem dL_law_1123 : decode cL_law 1123 = .ok (.aload_n 0, 1) := by decide +kernel
theorem dL_law_1124 : decode cL_law 1124 = .ok (.iload_n 3, 1) := by decide +kernel
theorem dL_law_1125 : decode cL_law 1125 = .ok (.iconst 1, 1) := by decide +kernel
theorem dL_law_1126 : decode cL_law 1126 = .ok (.iadd, 1) := by decide +kernel
theorem dL_law_1127 : decode cL_law 1127 = .ok (.iaload, 1) := by decide +kernel
theorem dL_law_1128 : decode cL_law 1128 = .ok (.aload_n 0, 1) := by decide +kernel
theorem dL_law_1129 : decode cL_law 1129 = .ok (.iload_n 3, 1) := by decide +kernel
theorem dL_law_1130 : decode cL_law 1130 = .ok (.iconst 2, 1) := by decide +kernel
theorem dL_law_1131 : decode cL_law 1131 = .ok (.iadd, 1) := by decide +kernel
theorem dL_law_1132 : decode cL_law 1132 = .ok (.iaload, 1) := by decide +kernel
theorem dL_law_1133 : decode cL_law 1133 = .ok (.aload_n 0, 1) := by decide +kernel
theorem dL_law_1134 : decode cL_law 1134 = .ok (.iload_n 3, 1) := by decide +kernel
theorem dL_law_1135 : decode cL_law 1135 = .ok (.iconst 3, 1) := by decide +kernel
theorem dL_law_1136 : decode cL_law 1136 = .ok (.iadd, 1) := by decide +kernel
theorem dL_law_1137 : decode cL_law 1137 = .ok (.iaload, 1) := by decide +kernel
theorem dL_law_1138 : decode cL_law 1138 = .ok (.invokevirtual 150, 3) := by decide +kernel
theorem dL_law_1141 : decode cL_law 1141 = .ok (.if_icmp .eq 128, 3) := by decide +kernel
theorem dL_law_1144 : decode cL_law 1144 = .ok (.iconst 0, 1) := by decide +kernel
theorem dL_law_1145 : decode cL_law 1145 = .ok (.ireturn, 1) := by decide +kernel
theorem wq_X7_get : tg_Y0 yX7_get cX7_get 5 (some .int) 3 ∧ Cond.instanceMethod yX7_get ∈ tg_gG ∧ Cond.selects yX7_get.cls yX7_get yX7_get ∈ tg_gG ∧ Cond.methodLink RL 147 yX7_get ∈ tg_gG := ⟨⟨tg_mem (List.mem_of_getElem? (i := 695) (by decide +kernel)) (by decide +kernel), wi_X7, by decide +kernel, by decide +kernel, by decide +kernel⟩, tg_mem (List.mem_of_getElem? (i := 693) (by decide +kernel)) (by decide +kernel), tg_mem (List.mem_of_getElem? (i := 694) (by decide +kernel)) (by decide +kernel), tg_mem (List.mem_of_getElem? (i := 692) (by decide +kernel)) (by decide +kernel)⟩
theorem wq_X8_get : tg_Y0 yX8_get cX8_get 5 (some .int) 3 ∧ Cond.instanceMethod yX8_get ∈ tg_gG ∧ Cond.selects yX8_get.cls yX8_get yX8_get ∈ tg_gG ∧ Cond.methodLink RL 150 yX8_get ∈ tg_gG := ⟨⟨tg_mem (List.mem_of_getElem? (i := 1260) (by decide +kernel)) (by decide +kernel), wi_X8, by decide +kernel, by decide +kernel, by decide +kernel⟩, tg_mem (List.mem_of_getElem? (i := 1258) (by decide +kernel)) (by decide +kernel), tg_mem (List.mem_of_getElem? (i := 1259) (by decide +kernel)) (by decide +kernel), tg_mem (List.mem_of_getElem? (i := 1257) (by decide +kernel)) (by decide +kernel)⟩
theorem lc_32 {x : tg_X} {b L : Nat} {xs : Nat → Int32} {bd : Nat → Nat} {S T : tg_S} {A : Nat → Nat → Nat} {i : Nat} (X : lq_M x b L xs) (hI : z_I S T A) (hi : i + 6 ≤ L) (k : ∀ S T A, z_I S T A → lq_G x b bd S T i 1269 []) : lq_G x b bd S T i 1103 [] := by
  obtain ⟨S1, T1, r, A1, h1, h2, h3⟩ := e_get S T A hI (xs (i + 1)) (xs (i + 2)) (xs (i + 3))
  refine lq_x1 X dL_law_1103 ?_
  refine lq_arg X (j := 1) (by decide) (by decide) hi dL_law_1104 dL_law_1105 dL_law_1106 dL_law_1107 dL_law_1108 ?_
  refine lq_arg X (j := 2) (by decide) (by decide) hi dL_law_1109 dL_law_1110 dL_law_1111 dL_law_1112 dL_law_1113 ?_
  refine lq_arg X (j := 3) (by decide) (by decide) hi dL_law_1114 dL_law_1115 dL_law_1116 dL_law_1117 dL_law_1118 ?_
  refine lq_C (st := []) X (cm_X7_get _ _ _ _ _ h1) wq_X7_get.1 wq_X7_get.2.1 wq_X7_get.2.2.1 wq_X7_get.2.2.2 rfl ⟨rfl, rfl, Nat.le_of_ble_eq_true rfl, Nat.le_of_ble_eq_true rfl⟩ rfl rfl (Nat.le_of_ble_eq_true rfl) dL_law_1119 rfl ?_
  refine lq_x2 X dL_law_1122 ?_
  refine lq_arg X (j := 1) (by decide) (by decide) hi dL_law_1123 dL_law_1124 dL_law_1125 dL_law_1126 dL_law_1127 ?_
  refine lq_arg X (j := 2) (by decide) (by decide) hi dL_law_1128 dL_law_1129 dL_law_1130 dL_law_1131 dL_law_1132 ?_
  refine lq_arg X (j := 3) (by decide) (by decide) hi dL_law_1133 dL_law_1134 dL_law_1135 dL_law_1136 dL_law_1137 ?_
  refine lq_R (st := [.int r]) X (cm_X8_get _ _ _ _ _ h2) wq_X8_get.1 wq_X8_get.2.1 wq_X8_get.2.2.1 wq_X8_get.2.2.2 rfl ⟨rfl, rfl, Nat.le_of_ble_eq_true rfl, Nat.le_of_ble_eq_true rfl⟩ rfl rfl (Nat.le_of_ble_eq_true rfl) dL_law_1138 rfl ?_
  exact lq_same X dL_law_1141 (by decide) (k S1 T1 A1 h3)
theorem dL_law_1146 : decode cL_law 1146 = .ok (.aload_n 1, 1) := by decide +kernel
theorem dL_law_1147 : decode cL_law 1147 = .ok (.aload_n 0, 1) := by decide +kernel
theorem dL_law_1148 : decode cL_law 1148 = .ok (.iload_n 3, 1) := by decide +kernel
theorem dL_law_1149 : decode cL_law 1149 = .ok (.iconst 1, 1) := by decide +kernel
theorem dL_law_1150 : decode cL_law 1150 = .ok (.iadd, 1) := by decide +kernel
theorem dL_law_1151 : decode cL_law 1151 = .ok (.iaload, 1) := by decide +kernel
theorem dL_law_1152 : decode cL_law 1152 = .ok (.aload_n 0, 1) := by decide +kernel
theorem dL_law_1153 : decode cL_law 1153 = .ok (.iload_n 3, 1) := by decide +kernel
theorem dL_law_1154 : decode cL_law 1154 = .ok (.iconst 2, 1) := by decide +kernel
theorem dL_law_1155 : decode cL_law 1155 = .ok (.iadd, 1) := by decide +kernel
theorem dL_law_1156 : decode cL_law 1156 = .ok (.iaload, 1) := by decide +kernel
theorem dL_law_1157 : decode cL_law 1157 = .ok (.aload_n 0, 1) := by decide +kernel
theorem dL_law_1158 : decode cL_law 1158 = .ok (.iload_n 3, 1) := by decide +kernel
theorem dL_law_1159 : decode cL_law 1159 = .ok (.iconst 3, 1) := by decide +kernel
theorem dL_law_1160 : decode cL_law 1160 = .ok (.iadd, 1) := by decide +kernel
theorem dL_law_1161 : decode cL_law 1161 = .ok (.iaload, 1) := by decide +kernel
theorem dL_law_1162 : decode cL_law 1162 = .ok (.aload_n 0, 1) := by decide +kernel
theorem dL_law_1163 : decode cL_law 1163 = .ok (.iload_n 3, 1) := by decide +kernel
theorem dL_law_1164 : decode cL_law 1164 = .ok (.iconst 4, 1) := by decide +kernel
theorem dL_law_1165 : decode cL_law 1165 = .ok (.iadd, 1) := by decide +kernel
theorem dL_law_1166 : decode cL_law 1166 = .ok (.iaload, 1) := by decide +kernel
theorem dL_law_1167 : decode cL_law 1167 = .ok (.aload_n 0, 1) := by decide +kernel
theorem dL_law_1168 : decode cL_law 1168 = .ok (.iload_n 3, 1) := by decide +kernel
theorem dL_law_1169 : decode cL_law 1169 = .ok (.iconst 5, 1) := by decide +kernel
theorem dL_law_1170 : decode cL_law 1170 = .ok (.iadd, 1) := by decide +kernel
theorem dL_law_1171 : decode cL_law 1171 = .ok (.iaload, 1) := by decide +kernel
theorem dL_law_1172 : decode cL_law 1172 = .ok (.invokevirtual 151, 3) := by decide +kernel
theorem dL_law_1175 : decode cL_law 1175 = .ok (.aload_n 2, 1) := by decide +kernel
theorem dL_law_1176 : decode cL_law 1176 = .ok (.aload_n 0, 1) := by decide +kernel
theorem dL_law_1177 : decode cL_law 1177 = .ok (.iload_n 3, 1) := by decide +kernel
theorem dL_law_1178 : decode cL_law 1178 = .ok (.iconst 1, 1) := by decide +kernel
theorem dL_law_1179 : decode cL_law 1179 = .ok (.iadd, 1) := by decide +kernel
theorem dL_law_1180 : decode cL_law 1180 = .ok (.iaload, 1) := by decide +kernel
theorem dL_law_1181 : decode cL_law 1181 = .ok (.aload_n 0, 1) := by decide +kernel
theorem dL_law_1182 : decode cL_law 1182 = .ok (.iload_n 3, 1) := by decide +kernel
theorem dL_law_1183 : decode cL_law 1183 = .ok (.iconst 2, 1) := by decide +kernel
theorem dL_law_1184 : decode cL_law 1184 = .ok (.iadd, 1) := by decide +kernel
theorem dL_law_1185 : decode cL_law 1185 = .ok (.iaload, 1) := by decide +kernel
theorem dL_law_1186 : decode cL_law 1186 = .ok (.aload_n 0, 1) := by decide +kernel
theorem dL_law_1187 : decode cL_law 1187 = .ok (.iload_n 3, 1) := by decide +kernel
theorem dL_law_1188 : decode cL_law 1188 = .ok (.iconst 3, 1) := by decide +kernel
theorem dL_law_1189 : decode cL_law 1189 = .ok (.iadd, 1) := by decide +kernel
theorem dL_law_1190 : decode cL_law 1190 = .ok (.iaload, 1) := by decide +kernel
theorem dL_law_1191 : decode cL_law 1191 = .ok (.aload_n 0, 1) := by decide +kernel
theorem dL_law_1192 : decode cL_law 1192 = .ok (.iload_n 3, 1) := by decide +kernel
theorem dL_law_1193 : decode cL_law 1193 = .ok (.iconst 4, 1) := by decide +kernel
theorem dL_law_1194 : decode cL_law 1194 = .ok (.iadd, 1) := by decide +kernel
theorem dL_law_1195 : decode cL_law 1195 = .ok (.iaload, 1) := by decide +kernel
theorem dL_law_1196 : decode cL_law 1196 = .ok (.aload_n 0, 1) := by decide +kernel
theorem dL_law_1197 : decode cL_law 1197 = .ok (.iload_n 3, 1) := by decide +kernel
theorem dL_law_1198 : decode cL_law 1198 = .ok (.iconst 5, 1) := by decide +kernel
theorem dL_law_1199 : decode cL_law 1199 = .ok (.iadd, 1) := by decide +kernel
theorem dL_law_1200 : decode cL_law 1200 = .ok (.iaload, 1) := by decide +kernel
theorem dL_law_1201 : decode cL_law 1201 = .ok (.invokevirtual 155, 3) := by decide +kernel
theorem dL_law_1204 : decode cL_law 1204 = .ok (.if_icmp .eq 65, 3) := by decide +kernel
theorem dL_law_1207 : decode cL_law 1207 = .ok (.iconst 0, 1) := by decide +kernel
theorem dL_law_1208 : decode cL_law 1208 = .ok (.ireturn, 1) := by decide +kernel
theorem wq_X7_copy : tg_Y0 yX7_copy cX7_copy 6 (some .int) 5 ∧ Cond.instanceMethod yX7_copy ∈ tg_gG ∧ Cond.selects yX7_copy.cls yX7_copy yX7_copy ∈ tg_gG ∧ Cond.methodLink RL 151 yX7_copy ∈ tg_gG := ⟨⟨tg_mem (List.mem_of_getElem? (i := 700) (by decide +kernel)) (by decide +kernel), wi_X7, by decide +kernel, by decide +kernel, by decide +kernel⟩, tg_mem (List.mem_of_getElem? (i := 698) (by decide +kernel)) (by decide +kernel), tg_mem (List.mem_of_getElem? (i := 699) (by decide +kernel)) (by decide +kernel), tg_mem (List.mem_of_getElem? (i := 697) (by decide +kernel)) (by decide +kernel)⟩
theorem wq_X8_copy : tg_Y0 yX8_copy cX8_copy 7 (some .int) 5 ∧ Cond.instanceMethod yX8_copy ∈ tg_gG ∧ Cond.selects yX8_copy.cls yX8_copy yX8_copy ∈ tg_gG ∧ Cond.methodLink RL 155 yX8_copy ∈ tg_gG := ⟨⟨tg_mem (List.mem_of_getElem? (i := 1265) (by decide +kernel)) (by decide +kernel), wi_X8, by decide +kernel, by decide +kernel, by decide +kernel⟩, tg_mem (List.mem_of_getElem? (i := 1263) (by decide +kernel)) (by decide +kernel), tg_mem (List.mem_of_getElem? (i := 1264) (by decide +kernel)) (by decide +kernel), tg_mem (List.mem_of_getElem? (i := 1262) (by decide +kernel)) (by decide +kernel)⟩
theorem lc_33 {x : tg_X} {b L : Nat} {xs : Nat → Int32} {bd : Nat → Nat} {S T : tg_S} {A : Nat → Nat → Nat} {i : Nat} (X : lq_M x b L xs) (hI : z_I S T A) (hi : i + 6 ≤ L) (k : ∀ S T A, z_I S T A → lq_G x b bd S T i 1269 []) : lq_G x b bd S T i 1146 [] := by
  obtain ⟨S1, T1, r, A1, h1, h2, h3⟩ := e_copy S T A hI (xs (i + 1)) (xs (i + 2)) (xs (i + 3)) (xs (i + 4)) (xs (i + 5))
  refine lq_x1 X dL_law_1146 ?_
  refine lq_arg X (j := 1) (by decide) (by decide) hi dL_law_1147 dL_law_1148 dL_law_1149 dL_law_1150 dL_law_1151 ?_
  refine lq_arg X (j := 2) (by decide) (by decide) hi dL_law_1152 dL_law_1153 dL_law_1154 dL_law_1155 dL_law_1156 ?_
  refine lq_arg X (j := 3) (by decide) (by decide) hi dL_law_1157 dL_law_1158 dL_law_1159 dL_law_1160 dL_law_1161 ?_
  refine lq_arg X (j := 4) (by decide) (by decide) hi dL_law_1162 dL_law_1163 dL_law_1164 dL_law_1165 dL_law_1166 ?_
  refine lq_arg X (j := 5) (by decide) (by decide) hi dL_law_1167 dL_law_1168 dL_law_1169 dL_law_1170 dL_law_1171 ?_
  refine lq_C (st := []) X (cm_X7_copy _ _ _ _ _ h1) wq_X7_copy.1 wq_X7_copy.2.1 wq_X7_copy.2.2.1 wq_X7_copy.2.2.2 rfl ⟨rfl, rfl, Nat.le_of_ble_eq_true rfl, Nat.le_of_ble_eq_true rfl⟩ rfl rfl (Nat.le_of_ble_eq_true rfl) dL_law_1172 rfl ?_
  refine lq_x2 X dL_law_1175 ?_
  refine lq_arg X (j := 1) (by decide) (by decide) hi dL_law_1176 dL_law_1177 dL_law_1178 dL_law_1179 dL_law_1180 ?_
  refine lq_arg X (j := 2) (by decide) (by decide) hi dL_law_1181 dL_law_1182 dL_law_1183 dL_law_1184 dL_law_1185 ?_
  refine lq_arg X (j := 3) (by decide) (by decide) hi dL_law_1186 dL_law_1187 dL_law_1188 dL_law_1189 dL_law_1190 ?_
  refine lq_arg X (j := 4) (by decide) (by decide) hi dL_law_1191 dL_law_1192 dL_law_1193 dL_law_1194 dL_law_1195 ?_
  refine lq_arg X (j := 5) (by decide) (by decide) hi dL_law_1196 dL_law_1197 dL_law_1198 dL_law_1199 dL_law_1200 ?_
  refine lq_R (st := [.int r]) X (cm_X8_copy _ _ _ _ _ h2) wq_X8_copy.1 wq_X8_copy.2.1 wq_X8_copy.2.2.1 wq_X8_copy.2.2.2 rfl ⟨rfl, rfl, Nat.le_of_ble_eq_true rfl, Nat.le_of_ble_eq_true rfl⟩ rfl rfl (Nat.le_of_ble_eq_true rfl) dL_law_1201 rfl ?_
  exact lq_same X dL_law_1204 (by decide) (k S1 T1 A1 h3)
theorem dL_law_1209 : decode cL_law 1209 = .ok (.aload_n 1, 1) := by decide +kernel
theorem dL_law_1210 : decode cL_law 1210 = .ok (.aload_n 0, 1) := by decide +kernel
theorem dL_law_1211 : decode cL_law 1211 = .ok (.iload_n 3, 1) := by decide +kernel
theorem dL_law_1212 : decode cL_law 1212 = .ok (.iconst 1, 1) := by decide +kernel
theorem dL_law_1213 : decode cL_law 1213 = .ok (.iadd, 1) := by decide +kernel
theorem dL_law_1214 : decode cL_law 1214 = .ok (.iaload, 1) := by decide +kernel
theorem dL_law_1215 : decode cL_law 1215 = .ok (.invokevirtual 156, 3) := by decide +kernel
theorem dL_law_1218 : decode cL_law 1218 = .ok (.aload_n 2, 1) := by decide +kernel
theorem dL_law_1219 : decode cL_law 1219 = .ok (.aload_n 0, 1) := by decide +kernel
theorem dL_law_1220 : decode cL_law 1220 = .ok (.iload_n 3, 1) := by decide +kernel
theorem dL_law_1221 : decode cL_law 1221 = .ok (.iconst 1, 1) := by decide +kernel
theorem dL_law_1222 : decode cL_law 1222 = .ok (.iadd, 1) := by decide +kernel
theorem dL_law_1223 : decode cL_law 1223 = .ok (.iaload, 1) := by decide +kernel
theorem dL_law_1224 : decode cL_law 1224 = .ok (.invokevirtual 159, 3) := by decide +kernel
theorem dL_law_1227 : decode cL_law 1227 = .ok (.if_icmp .eq 42, 3) := by decide +kernel
theorem dL_law_1230 : decode cL_law 1230 = .ok (.iconst 0, 1) := by decide +kernel
theorem dL_law_1231 : decode cL_law 1231 = .ok (.ireturn, 1) := by decide +kernel
theorem wq_X7_write : tg_Y0 yX7_write cX7_write 4 (some .int) 1 ∧ Cond.instanceMethod yX7_write ∈ tg_gG ∧ Cond.selects yX7_write.cls yX7_write yX7_write ∈ tg_gG ∧ Cond.methodLink RL 156 yX7_write ∈ tg_gG := ⟨⟨tg_mem (List.mem_of_getElem? (i := 717) (by decide +kernel)) (by decide +kernel), wi_X7, by decide +kernel, by decide +kernel, by decide +kernel⟩, tg_mem (List.mem_of_getElem? (i := 715) (by decide +kernel)) (by decide +kernel), tg_mem (List.mem_of_getElem? (i := 716) (by decide +kernel)) (by decide +kernel), tg_mem (List.mem_of_getElem? (i := 714) (by decide +kernel)) (by decide +kernel)⟩
theorem wq_X8_write : tg_Y0 yX8_write cX8_write 3 (some .int) 1 ∧ Cond.instanceMethod yX8_write ∈ tg_gG ∧ Cond.selects yX8_write.cls yX8_write yX8_write ∈ tg_gG ∧ Cond.methodLink RL 159 yX8_write ∈ tg_gG := ⟨⟨tg_mem (List.mem_of_getElem? (i := 1269) (by decide +kernel)) (by decide +kernel), wi_X8, by decide +kernel, by decide +kernel, by decide +kernel⟩, tg_mem (List.mem_of_getElem? (i := 1267) (by decide +kernel)) (by decide +kernel), tg_mem (List.mem_of_getElem? (i := 1268) (by decide +kernel)) (by decide +kernel), tg_mem (List.mem_of_getElem? (i := 1266) (by decide +kernel)) (by decide +kernel)⟩
theorem lc_34 {x : tg_X} {b L : Nat} {xs : Nat → Int32} {bd : Nat → Nat} {S T : tg_S} {A : Nat → Nat → Nat} {i : Nat} (X : lq_M x b L xs) (hI : z_I S T A) (hi : i + 6 ≤ L) (k : ∀ S T A, z_I S T A → lq_G x b bd S T i 1269 []) : lq_G x b bd S T i 1209 [] := by
  obtain ⟨S1, T1, r, A1, h1, h2, h3⟩ := e_write S T A hI (xs (i + 1))
  refine lq_x1 X dL_law_1209 ?_
  refine lq_arg X (j := 1) (by decide) (by decide) hi dL_law_1210 dL_law_1211 dL_law_1212 dL_law_1213 dL_law_1214 ?_
  refine lq_C (st := []) X (cm_X7_write _ _ _ _ _ h1) wq_X7_write.1 wq_X7_write.2.1 wq_X7_write.2.2.1 wq_X7_write.2.2.2 rfl ⟨rfl, rfl, Nat.le_of_ble_eq_true rfl, Nat.le_of_ble_eq_true rfl⟩ rfl rfl (Nat.le_of_ble_eq_true rfl) dL_law_1215 rfl ?_
  refine lq_x2 X dL_law_1218 ?_
  refine lq_arg X (j := 1) (by decide) (by decide) hi dL_law_1219 dL_law_1220 dL_law_1221 dL_law_1222 dL_law_1223 ?_
  refine lq_R (st := [.int r]) X (cm_X8_write _ _ _ _ _ h2) wq_X8_write.1 wq_X8_write.2.1 wq_X8_write.2.2.1 wq_X8_write.2.2.2 rfl ⟨rfl, rfl, Nat.le_of_ble_eq_true rfl, Nat.le_of_ble_eq_true rfl⟩ rfl rfl (Nat.le_of_ble_eq_true rfl) dL_law_1224 rfl ?_
  exact lq_same X dL_law_1227 (by decide) (k S1 T1 A1 h3)
theorem dL_law_1232 : decode cL_law 1232 = .ok (.aload_n 1, 1) := by decide +kernel
theorem dL_law_1233 : decode cL_law 1233 = .ok (.aload_n 0, 1) := by decide +kernel
theorem dL_law_1234 : decode cL_law 1234 = .ok (.iload_n 3, 1) := by decide +kernel
theorem dL_law_1235 : decode cL_law 1235 = .ok (.iconst 1, 1) := by decide +kernel
theorem dL_law_1236 : decode cL_law 1236 = .ok (.iadd, 1) := by decide +kernel
theorem dL_law_1237 : decode cL_law 1237 = .ok (.iaload, 1) := by decide +kernel
theorem dL_law_1238 : decode cL_law 1238 = .ok (.invokevirtual 160, 3) := by decide +kernel
theorem dL_law_1241 : decode cL_law 1241 = .ok (.aload_n 2, 1) := by decide +kernel
theorem dL_law_1242 : decode cL_law 1242 = .ok (.aload_n 0, 1) := by decide +kernel
theorem dL_law_1243 : decode cL_law 1243 = .ok (.iload_n 3, 1) := by decide +kernel
theorem dL_law_1244 : decode cL_law 1244 = .ok (.iconst 1, 1) := by decide +kernel
theorem dL_law_1245 : decode cL_law 1245 = .ok (.iadd, 1) := by decide +kernel
theorem dL_law_1246 : decode cL_law 1246 = .ok (.iaload, 1) := by decide +kernel
theorem dL_law_1247 : decode cL_law 1247 = .ok (.invokevirtual 163, 3) := by decide +kernel
theorem dL_law_1250 : decode cL_law 1250 = .ok (.if_icmp .eq 19, 3) := by decide +kernel
theorem dL_law_1253 : decode cL_law 1253 = .ok (.iconst 0, 1) := by decide +kernel
theorem dL_law_1254 : decode cL_law 1254 = .ok (.ireturn, 1) := by decide +kernel
theorem wq_X7_count : tg_Y0 yX7_count cX7_count 2 (some .int) 1 ∧ Cond.instanceMethod yX7_count ∈ tg_gG ∧ Cond.selects yX7_count.cls yX7_count yX7_count ∈ tg_gG ∧ Cond.methodLink RL 160 yX7_count ∈ tg_gG := ⟨⟨tg_mem (List.mem_of_getElem? (i := 721) (by decide +kernel)) (by decide +kernel), wi_X7, by decide +kernel, by decide +kernel, by decide +kernel⟩, tg_mem (List.mem_of_getElem? (i := 719) (by decide +kernel)) (by decide +kernel), tg_mem (List.mem_of_getElem? (i := 720) (by decide +kernel)) (by decide +kernel), tg_mem (List.mem_of_getElem? (i := 718) (by decide +kernel)) (by decide +kernel)⟩
theorem wq_X8_count : tg_Y0 yX8_count cX8_count 2 (some .int) 1 ∧ Cond.instanceMethod yX8_count ∈ tg_gG ∧ Cond.selects yX8_count.cls yX8_count yX8_count ∈ tg_gG ∧ Cond.methodLink RL 163 yX8_count ∈ tg_gG := ⟨⟨tg_mem (List.mem_of_getElem? (i := 1273) (by decide +kernel)) (by decide +kernel), wi_X8, by decide +kernel, by decide +kernel, by decide +kernel⟩, tg_mem (List.mem_of_getElem? (i := 1271) (by decide +kernel)) (by decide +kernel), tg_mem (List.mem_of_getElem? (i := 1272) (by decide +kernel)) (by decide +kernel), tg_mem (List.mem_of_getElem? (i := 1270) (by decide +kernel)) (by decide +kernel)⟩
theorem lc_35 {x : tg_X} {b L : Nat} {xs : Nat → Int32} {bd : Nat → Nat} {S T : tg_S} {A : Nat → Nat → Nat} {i : Nat} (X : lq_M x b L xs) (hI : z_I S T A) (hi : i + 6 ≤ L) (k : ∀ S T A, z_I S T A → lq_G x b bd S T i 1269 []) : lq_G x b bd S T i 1232 [] := by
  obtain ⟨S1, T1, r, A1, h1, h2, h3⟩ := e_count S T A hI (xs (i + 1))
  refine lq_x1 X dL_law_1232 ?_
  refine lq_arg X (j := 1) (by decide) (by decide) hi dL_law_1233 dL_law_1234 dL_law_1235 dL_law_1236 dL_law_1237 ?_
  refine lq_C (st := []) X (cm_X7_count _ _ _ _ _ h1) wq_X7_count.1 wq_X7_count.2.1 wq_X7_count.2.2.1 wq_X7_count.2.2.2 rfl ⟨rfl, rfl, Nat.le_of_ble_eq_true rfl, Nat.le_of_ble_eq_true rfl⟩ rfl rfl (Nat.le_of_ble_eq_true rfl) dL_law_1238 rfl ?_
  refine lq_x2 X dL_law_1241 ?_
  refine lq_arg X (j := 1) (by decide) (by decide) hi dL_law_1242 dL_law_1243 dL_law_1244 dL_law_1245 dL_law_1246 ?_
  refine lq_R (st := [.int r]) X (cm_X8_count _ _ _ _ _ h2) wq_X8_count.1 wq_X8_count.2.1 wq_X8_count.2.2.1 wq_X8_count.2.2.2 rfl ⟨rfl, rfl, Nat.le_of_ble_eq_true rfl, Nat.le_of_ble_eq_true rfl⟩ rfl rfl (Nat.le_of_ble_eq_true rfl) dL_law_1247 rfl ?_
  exact lq_same X dL_law_1250 (by decide) (k S1 T1 A1 h3)
theorem dL_law_1255 : decode cL_law 1255 = .ok (.aload_n 1, 1) := by decide +kernel
theorem dL_law_1256 : decode cL_law 1256 = .ok (.invokevirtual 164, 3) := by decide +kernel
theorem dL_law_1259 : decode cL_law 1259 = .ok (.aload_n 2, 1) := by decide +kernel
theorem dL_law_1260 : decode cL_law 1260 = .ok (.invokevirtual 168, 3) := by decide +kernel
theorem dL_law_1263 : decode cL_law 1263 = .ok (.lcmp, 1) := by decide +kernel
theorem dL_law_1264 : decode cL_law 1264 = .ok (.ifCond .eq 5, 3) := by decide +kernel
theorem dL_law_1267 : decode cL_law 1267 = .ok (.iconst 0, 1) := by decide +kernel
theorem dL_law_1268 : decode cL_law 1268 = .ok (.ireturn, 1) := by decide +kernel
theorem wq_X7_digest : tg_Y0 yX7_digest cX7_digest 4 (some .long) 0 ∧ Cond.instanceMethod yX7_digest ∈ tg_gG ∧ Cond.selects yX7_digest.cls yX7_digest yX7_digest ∈ tg_gG ∧ Cond.methodLink RL 164 yX7_digest ∈ tg_gG := ⟨⟨tg_mem (List.mem_of_getElem? (i := 730) (by decide +kernel)) (by decide +kernel), wi_X7, by decide +kernel, by decide +kernel, by decide +kernel⟩, tg_mem (List.mem_of_getElem? (i := 728) (by decide +kernel)) (by decide +kernel), tg_mem (List.mem_of_getElem? (i := 729) (by decide +kernel)) (by decide +kernel), tg_mem (List.mem_of_getElem? (i := 727) (by decide +kernel)) (by decide +kernel)⟩
theorem wq_X8_digest : tg_Y0 yX8_digest cX8_digest 5 (some .long) 0 ∧ Cond.instanceMethod yX8_digest ∈ tg_gG ∧ Cond.selects yX8_digest.cls yX8_digest yX8_digest ∈ tg_gG ∧ Cond.methodLink RL 168 yX8_digest ∈ tg_gG := ⟨⟨tg_mem (List.mem_of_getElem? (i := 1281) (by decide +kernel)) (by decide +kernel), wi_X8, by decide +kernel, by decide +kernel, by decide +kernel⟩, tg_mem (List.mem_of_getElem? (i := 1279) (by decide +kernel)) (by decide +kernel), tg_mem (List.mem_of_getElem? (i := 1280) (by decide +kernel)) (by decide +kernel), tg_mem (List.mem_of_getElem? (i := 1278) (by decide +kernel)) (by decide +kernel)⟩
theorem lc_36 {x : tg_X} {b L : Nat} {xs : Nat → Int32} {bd : Nat → Nat} {S T : tg_S} {A : Nat → Nat → Nat} {i : Nat} (X : lq_M x b L xs) (hI : z_I S T A) (hi : i + 6 ≤ L) (k : ∀ S T A, z_I S T A → lq_G x b bd S T i 1269 []) : lq_G x b bd S T i 1255 [] := by
  obtain ⟨S1, T1, r, A1, h1, h2, h3⟩ := e_digest S T A hI 
  refine lq_x1 X dL_law_1255 ?_
  refine lq_C (st := []) X (cm_X7_digest _ _ _ _ _ h1) wq_X7_digest.1 wq_X7_digest.2.1 wq_X7_digest.2.2.1 wq_X7_digest.2.2.2 rfl ⟨rfl, rfl, Nat.le_of_ble_eq_true rfl, Nat.le_of_ble_eq_true rfl⟩ rfl rfl (Nat.le_of_ble_eq_true rfl) dL_law_1256 rfl ?_
  refine lq_x2 X dL_law_1259 ?_
  refine lq_R (st := [.long r]) X (cm_X8_digest _ _ _ _ _ h2) wq_X8_digest.1 wq_X8_digest.2.1 wq_X8_digest.2.2.1 wq_X8_digest.2.2.2 rfl ⟨rfl, rfl, Nat.le_of_ble_eq_true rfl, Nat.le_of_ble_eq_true rfl⟩ rfl rfl (Nat.le_of_ble_eq_true rfl) dL_law_1260 rfl ?_
  exact lq_sameL X dL_law_1263 dL_law_1264 (by decide) (k S1 T1 A1 h3)
