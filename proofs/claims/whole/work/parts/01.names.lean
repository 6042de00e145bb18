-- ===== PART A: goes FIRST, ahead of the names: the tables' words, and 'selects' of the private methods out of them =====
/-- a private method of a class that the tables say can be made, by its rows of tables_1 -/
def lw_okq (q : MethodName × Nat) : Prop := (q.1.cls ≠ "java/lang/invoke/MethodHandle" ∧ q.1.cls ≠ "java/lang/invoke/VarHandle") ∧ Cond.instantiable q.1.cls q.2 ∈ tables_1 ∧ Cond.privateMethod q.1 ∈ tables_1 ∧ Cond.instanceMethod q.1 ∈ tables_1
theorem lw_p0 : lw_okq (⟨"TugOfWar", "playTexts", "()V"⟩, 12) := ⟨⟨by decide +kernel, by decide +kernel⟩, List.mem_of_getElem? (i := 13) (by decide +kernel), List.mem_of_getElem? (i := 220) (by decide +kernel), List.mem_of_getElem? (i := 221) (by decide +kernel)⟩
theorem lw_p1 : lw_okq (⟨"TugOfWar$Contest", "takeTeam", "(LTugOfWar$Texts;I)V"⟩, 9) := ⟨⟨by decide +kernel, by decide +kernel⟩, List.mem_of_getElem? (i := 68) (by decide +kernel), List.mem_of_getElem? (i := 228) (by decide +kernel), List.mem_of_getElem? (i := 229) (by decide +kernel)⟩
theorem lw_p2 : lw_okq (⟨"TugOfWar$Contest", "takeCalls", "(LTugOfWar$Texts;I)V"⟩, 9) := ⟨⟨by decide +kernel, by decide +kernel⟩, List.mem_of_getElem? (i := 68) (by decide +kernel), List.mem_of_getElem? (i := 254) (by decide +kernel), List.mem_of_getElem? (i := 255) (by decide +kernel)⟩
theorem lw_p3 : lw_okq (⟨"TugOfWar", "playTold", "()V"⟩, 12) := ⟨⟨by decide +kernel, by decide +kernel⟩, List.mem_of_getElem? (i := 13) (by decide +kernel), List.mem_of_getElem? (i := 259) (by decide +kernel), List.mem_of_getElem? (i := 260) (by decide +kernel)⟩
theorem lw_p4 : lw_okq (⟨"TugOfWar$Course", "meetEvents", "(LTugOfWar$Events;I)V"⟩, 12) := ⟨⟨by decide +kernel, by decide +kernel⟩, List.mem_of_getElem? (i := 147) (by decide +kernel), List.mem_of_getElem? (i := 270) (by decide +kernel), List.mem_of_getElem? (i := 271) (by decide +kernel)⟩
theorem lw_p5 : lw_okq (⟨"TugOfWar$Course", "pullOfTeam", "(LTugOfWar$Contest;II)I"⟩, 12) := ⟨⟨by decide +kernel, by decide +kernel⟩, List.mem_of_getElem? (i := 147) (by decide +kernel), List.mem_of_getElem? (i := 281) (by decide +kernel), List.mem_of_getElem? (i := 282) (by decide +kernel)⟩
theorem lw_p6 : lw_okq (⟨"TugOfWar$Course", "forceOf", "(LTugOfWar$Contest;II)I"⟩, 12) := ⟨⟨by decide +kernel, by decide +kernel⟩, List.mem_of_getElem? (i := 147) (by decide +kernel), List.mem_of_getElem? (i := 285) (by decide +kernel), List.mem_of_getElem? (i := 286) (by decide +kernel)⟩
theorem lw_p7 : lw_okq (⟨"TugOfWar$Course", "moveRope", "(II)V"⟩, 12) := ⟨⟨by decide +kernel, by decide +kernel⟩, List.mem_of_getElem? (i := 147) (by decide +kernel), List.mem_of_getElem? (i := 292) (by decide +kernel), List.mem_of_getElem? (i := 293) (by decide +kernel)⟩
theorem lw_p8 : lw_okq (⟨"TugOfWar$Course", "standStill", "(I)V"⟩, 12) := ⟨⟨by decide +kernel, by decide +kernel⟩, List.mem_of_getElem? (i := 147) (by decide +kernel), List.mem_of_getElem? (i := 296) (by decide +kernel), List.mem_of_getElem? (i := 297) (by decide +kernel)⟩
theorem lw_p9 : lw_okq (⟨"TugOfWar", "isPuller", "(I)Z"⟩, 12) := ⟨⟨by decide +kernel, by decide +kernel⟩, List.mem_of_getElem? (i := 13) (by decide +kernel), List.mem_of_getElem? (i := 381) (by decide +kernel), List.mem_of_getElem? (i := 382) (by decide +kernel)⟩
theorem lw_p10 : lw_okq (⟨"TugOfWar", "found", "(I)I"⟩, 12) := ⟨⟨by decide +kernel, by decide +kernel⟩, List.mem_of_getElem? (i := 13) (by decide +kernel), List.mem_of_getElem? (i := 421) (by decide +kernel), List.mem_of_getElem? (i := 422) (by decide +kernel)⟩
theorem lw_p11 : lw_okq (⟨"TugOfWar", "pulledInAll", "(I)I"⟩, 12) := ⟨⟨by decide +kernel, by decide +kernel⟩, List.mem_of_getElem? (i := 13) (by decide +kernel), List.mem_of_getElem? (i := 456) (by decide +kernel), List.mem_of_getElem? (i := 457) (by decide +kernel)⟩
theorem lw_p12 : lw_okq (⟨"TugOfWar", "chooseSwap", "(I)V"⟩, 12) := ⟨⟨by decide +kernel, by decide +kernel⟩, List.mem_of_getElem? (i := 13) (by decide +kernel), List.mem_of_getElem? (i := 498) (by decide +kernel), List.mem_of_getElem? (i := 499) (by decide +kernel)⟩
theorem lw_p13 : lw_okq (⟨"TugOfWar", "chooseOut", "(I)V"⟩, 12) := ⟨⟨by decide +kernel, by decide +kernel⟩, List.mem_of_getElem? (i := 13) (by decide +kernel), List.mem_of_getElem? (i := 506) (by decide +kernel), List.mem_of_getElem? (i := 507) (by decide +kernel)⟩
theorem lw_p14 : lw_okq (⟨"TugOfWar", "chooseSpare", "()I"⟩, 12) := ⟨⟨by decide +kernel, by decide +kernel⟩, List.mem_of_getElem? (i := 13) (by decide +kernel), List.mem_of_getElem? (i := 518) (by decide +kernel), List.mem_of_getElem? (i := 519) (by decide +kernel)⟩
theorem lw_p15 : lw_okq (⟨"TugOfWar", "winnerWithout", "(I)I"⟩, 12) := ⟨⟨by decide +kernel, by decide +kernel⟩, List.mem_of_getElem? (i := 13) (by decide +kernel), List.mem_of_getElem? (i := 522) (by decide +kernel), List.mem_of_getElem? (i := 523) (by decide +kernel)⟩
def lw_privs_1 : List (MethodName × Nat) := [(⟨"TugOfWar", "playTexts", "()V"⟩, 12), (⟨"TugOfWar$Contest", "takeTeam", "(LTugOfWar$Texts;I)V"⟩, 9), (⟨"TugOfWar$Contest", "takeCalls", "(LTugOfWar$Texts;I)V"⟩, 9), (⟨"TugOfWar", "playTold", "()V"⟩, 12), (⟨"TugOfWar$Course", "meetEvents", "(LTugOfWar$Events;I)V"⟩, 12), (⟨"TugOfWar$Course", "pullOfTeam", "(LTugOfWar$Contest;II)I"⟩, 12), (⟨"TugOfWar$Course", "forceOf", "(LTugOfWar$Contest;II)I"⟩, 12), (⟨"TugOfWar$Course", "moveRope", "(II)V"⟩, 12), (⟨"TugOfWar$Course", "standStill", "(I)V"⟩, 12), (⟨"TugOfWar", "isPuller", "(I)Z"⟩, 12), (⟨"TugOfWar", "found", "(I)I"⟩, 12), (⟨"TugOfWar", "pulledInAll", "(I)I"⟩, 12), (⟨"TugOfWar", "chooseSwap", "(I)V"⟩, 12), (⟨"TugOfWar", "chooseOut", "(I)V"⟩, 12), (⟨"TugOfWar", "chooseSpare", "()I"⟩, 12), (⟨"TugOfWar", "winnerWithout", "(I)I"⟩, 12)]
theorem lw_r1 : ∀ q ∈ lw_privs_1, lw_okq q := List.forall_mem_cons.mpr ⟨lw_p0, List.forall_mem_cons.mpr ⟨lw_p1, List.forall_mem_cons.mpr ⟨lw_p2, List.forall_mem_cons.mpr ⟨lw_p3, List.forall_mem_cons.mpr ⟨lw_p4, List.forall_mem_cons.mpr ⟨lw_p5, List.forall_mem_cons.mpr ⟨lw_p6, List.forall_mem_cons.mpr ⟨lw_p7, List.forall_mem_cons.mpr ⟨lw_p8, List.forall_mem_cons.mpr ⟨lw_p9, List.forall_mem_cons.mpr ⟨lw_p10, List.forall_mem_cons.mpr ⟨lw_p11, List.forall_mem_cons.mpr ⟨lw_p12, List.forall_mem_cons.mpr ⟨lw_p13, List.forall_mem_cons.mpr ⟨lw_p14, List.forall_mem_cons.mpr ⟨lw_p15, fun _ h => absurd h List.not_mem_nil⟩⟩⟩⟩⟩⟩⟩⟩⟩⟩⟩⟩⟩⟩⟩⟩
theorem lw_p16 : lw_okq (⟨"TugOfWar", "weightsThatFit", "(I)I"⟩, 12) := ⟨⟨by decide +kernel, by decide +kernel⟩, List.mem_of_getElem? (i := 13) (by decide +kernel), List.mem_of_getElem? (i := 550) (by decide +kernel), List.mem_of_getElem? (i := 551) (by decide +kernel)⟩
theorem lw_p17 : lw_okq (⟨"TugOfWar", "sortsThatFit", "(I)I"⟩, 12) := ⟨⟨by decide +kernel, by decide +kernel⟩, List.mem_of_getElem? (i := 13) (by decide +kernel), List.mem_of_getElem? (i := 554) (by decide +kernel), List.mem_of_getElem? (i := 555) (by decide +kernel)⟩
theorem lw_p18 : lw_okq (⟨"TugOfWar", "greatestLikeness", "(II)I"⟩, 12) := ⟨⟨by decide +kernel, by decide +kernel⟩, List.mem_of_getElem? (i := 13) (by decide +kernel), List.mem_of_getElem? (i := 562) (by decide +kernel), List.mem_of_getElem? (i := 563) (by decide +kernel)⟩
theorem lw_p19 : lw_okq (⟨"TugOfWar", "refreshWinners", "()V"⟩, 12) := ⟨⟨by decide +kernel, by decide +kernel⟩, List.mem_of_getElem? (i := 13) (by decide +kernel), List.mem_of_getElem? (i := 571) (by decide +kernel), List.mem_of_getElem? (i := 572) (by decide +kernel)⟩
theorem lw_p20 : lw_okq (⟨"TugOfWar", "waysToWin", "(II)J"⟩, 12) := ⟨⟨by decide +kernel, by decide +kernel⟩, List.mem_of_getElem? (i := 13) (by decide +kernel), List.mem_of_getElem? (i := 575) (by decide +kernel), List.mem_of_getElem? (i := 576) (by decide +kernel)⟩
theorem lw_p21 : lw_okq (⟨"TugOfWar", "waysToMiss", "(II)J"⟩, 12) := ⟨⟨by decide +kernel, by decide +kernel⟩, List.mem_of_getElem? (i := 13) (by decide +kernel), List.mem_of_getElem? (i := 579) (by decide +kernel), List.mem_of_getElem? (i := 580) (by decide +kernel)⟩
theorem lw_p22 : lw_okq (⟨"TugOfWar", "withBeat", "(JI)J"⟩, 12) := ⟨⟨by decide +kernel, by decide +kernel⟩, List.mem_of_getElem? (i := 13) (by decide +kernel), List.mem_of_getElem? (i := 662) (by decide +kernel), List.mem_of_getElem? (i := 663) (by decide +kernel)⟩
theorem lw_p23 : lw_okq (⟨"TugOfWar", "withPuller", "(JI)J"⟩, 12) := ⟨⟨by decide +kernel, by decide +kernel⟩, List.mem_of_getElem? (i := 13) (by decide +kernel), List.mem_of_getElem? (i := 668) (by decide +kernel), List.mem_of_getElem? (i := 669) (by decide +kernel)⟩
theorem lw_p24 : lw_okq (⟨"TugOfWar", "withTeam", "(JI)J"⟩, 12) := ⟨⟨by decide +kernel, by decide +kernel⟩, List.mem_of_getElem? (i := 13) (by decide +kernel), List.mem_of_getElem? (i := 679) (by decide +kernel), List.mem_of_getElem? (i := 680) (by decide +kernel)⟩
theorem lw_p25 : lw_okq (⟨"TugOfWarModel", "faultOf", "(I)I"⟩, 47) := ⟨⟨by decide +kernel, by decide +kernel⟩, List.mem_of_getElem? (i := 695) (by decide +kernel), List.mem_of_getElem? (i := 865) (by decide +kernel), List.mem_of_getElem? (i := 866) (by decide +kernel)⟩
theorem lw_p26 : lw_okq (⟨"TugOfWarModel", "readsTeam", "(I)I"⟩, 47) := ⟨⟨by decide +kernel, by decide +kernel⟩, List.mem_of_getElem? (i := 695) (by decide +kernel), List.mem_of_getElem? (i := 869) (by decide +kernel), List.mem_of_getElem? (i := 870) (by decide +kernel)⟩
theorem lw_p27 : lw_okq (⟨"TugOfWarModel", "readsPuller", "(III)I"⟩, 47) := ⟨⟨by decide +kernel, by decide +kernel⟩, List.mem_of_getElem? (i := 695) (by decide +kernel), List.mem_of_getElem? (i := 873) (by decide +kernel), List.mem_of_getElem? (i := 874) (by decide +kernel)⟩
theorem lw_p28 : lw_okq (⟨"TugOfWarModel", "byteAt", "(II)I"⟩, 47) := ⟨⟨by decide +kernel, by decide +kernel⟩, List.mem_of_getElem? (i := 695) (by decide +kernel), List.mem_of_getElem? (i := 877) (by decide +kernel), List.mem_of_getElem? (i := 878) (by decide +kernel)⟩
theorem lw_p29 : lw_okq (⟨"TugOfWarModel", "readsCalls", "(I)I"⟩, 47) := ⟨⟨by decide +kernel, by decide +kernel⟩, List.mem_of_getElem? (i := 695) (by decide +kernel), List.mem_of_getElem? (i := 881) (by decide +kernel), List.mem_of_getElem? (i := 882) (by decide +kernel)⟩
theorem lw_p30 : lw_okq (⟨"TugOfWarModel", "isPuller", "(I)Z"⟩, 47) := ⟨⟨by decide +kernel, by decide +kernel⟩, List.mem_of_getElem? (i := 695) (by decide +kernel), List.mem_of_getElem? (i := 892) (by decide +kernel), List.mem_of_getElem? (i := 893) (by decide +kernel)⟩
theorem lw_p31 : lw_okq (⟨"TugOfWarModel", "reads", "()V"⟩, 47) := ⟨⟨by decide +kernel, by decide +kernel⟩, List.mem_of_getElem? (i := 695) (by decide +kernel), List.mem_of_getElem? (i := 896) (by decide +kernel), List.mem_of_getElem? (i := 897) (by decide +kernel)⟩
def lw_privs_2 : List (MethodName × Nat) := [(⟨"TugOfWar", "weightsThatFit", "(I)I"⟩, 12), (⟨"TugOfWar", "sortsThatFit", "(I)I"⟩, 12), (⟨"TugOfWar", "greatestLikeness", "(II)I"⟩, 12), (⟨"TugOfWar", "refreshWinners", "()V"⟩, 12), (⟨"TugOfWar", "waysToWin", "(II)J"⟩, 12), (⟨"TugOfWar", "waysToMiss", "(II)J"⟩, 12), (⟨"TugOfWar", "withBeat", "(JI)J"⟩, 12), (⟨"TugOfWar", "withPuller", "(JI)J"⟩, 12), (⟨"TugOfWar", "withTeam", "(JI)J"⟩, 12), (⟨"TugOfWarModel", "faultOf", "(I)I"⟩, 47), (⟨"TugOfWarModel", "readsTeam", "(I)I"⟩, 47), (⟨"TugOfWarModel", "readsPuller", "(III)I"⟩, 47), (⟨"TugOfWarModel", "byteAt", "(II)I"⟩, 47), (⟨"TugOfWarModel", "readsCalls", "(I)I"⟩, 47), (⟨"TugOfWarModel", "isPuller", "(I)Z"⟩, 47), (⟨"TugOfWarModel", "reads", "()V"⟩, 47)]
theorem lw_r2 : ∀ q ∈ lw_privs_2, lw_okq q := List.forall_mem_cons.mpr ⟨lw_p16, List.forall_mem_cons.mpr ⟨lw_p17, List.forall_mem_cons.mpr ⟨lw_p18, List.forall_mem_cons.mpr ⟨lw_p19, List.forall_mem_cons.mpr ⟨lw_p20, List.forall_mem_cons.mpr ⟨lw_p21, List.forall_mem_cons.mpr ⟨lw_p22, List.forall_mem_cons.mpr ⟨lw_p23, List.forall_mem_cons.mpr ⟨lw_p24, List.forall_mem_cons.mpr ⟨lw_p25, List.forall_mem_cons.mpr ⟨lw_p26, List.forall_mem_cons.mpr ⟨lw_p27, List.forall_mem_cons.mpr ⟨lw_p28, List.forall_mem_cons.mpr ⟨lw_p29, List.forall_mem_cons.mpr ⟨lw_p30, List.forall_mem_cons.mpr ⟨lw_p31, fun _ h => absurd h List.not_mem_nil⟩⟩⟩⟩⟩⟩⟩⟩⟩⟩⟩⟩⟩⟩⟩⟩
theorem lw_p32 : lw_okq (⟨"TugOfWarModel", "isThereOne", "(I)Z"⟩, 47) := ⟨⟨by decide +kernel, by decide +kernel⟩, List.mem_of_getElem? (i := 695) (by decide +kernel), List.mem_of_getElem? (i := 900) (by decide +kernel), List.mem_of_getElem? (i := 901) (by decide +kernel)⟩
theorem lw_p33 : lw_okq (⟨"TugOfWarModel", "pullerOf", "(II)I"⟩, 47) := ⟨⟨by decide +kernel, by decide +kernel⟩, List.mem_of_getElem? (i := 695) (by decide +kernel), List.mem_of_getElem? (i := 907) (by decide +kernel), List.mem_of_getElem? (i := 908) (by decide +kernel)⟩
theorem lw_p34 : lw_okq (⟨"TugOfWarModel", "callOf", "(II)I"⟩, 47) := ⟨⟨by decide +kernel, by decide +kernel⟩, List.mem_of_getElem? (i := 695) (by decide +kernel), List.mem_of_getElem? (i := 921) (by decide +kernel), List.mem_of_getElem? (i := 922) (by decide +kernel)⟩
theorem lw_p35 : lw_okq (⟨"TugOfWarModel", "meets", "(I)I"⟩, 47) := ⟨⟨by decide +kernel, by decide +kernel⟩, List.mem_of_getElem? (i := 695) (by decide +kernel), List.mem_of_getElem? (i := 944) (by decide +kernel), List.mem_of_getElem? (i := 945) (by decide +kernel)⟩
theorem lw_p36 : lw_okq (⟨"TugOfWarModel", "ropeOf", "(II)I"⟩, 47) := ⟨⟨by decide +kernel, by decide +kernel⟩, List.mem_of_getElem? (i := 695) (by decide +kernel), List.mem_of_getElem? (i := 953) (by decide +kernel), List.mem_of_getElem? (i := 954) (by decide +kernel)⟩
theorem lw_p37 : lw_okq (⟨"TugOfWarModel", "runsTold", "()V"⟩, 47) := ⟨⟨by decide +kernel, by decide +kernel⟩, List.mem_of_getElem? (i := 695) (by decide +kernel), List.mem_of_getElem? (i := 957) (by decide +kernel), List.mem_of_getElem? (i := 958) (by decide +kernel)⟩
theorem lw_p38 : lw_okq (⟨"TugOfWarModel", "asTold", "()V"⟩, 47) := ⟨⟨by decide +kernel, by decide +kernel⟩, List.mem_of_getElem? (i := 695) (by decide +kernel), List.mem_of_getElem? (i := 961) (by decide +kernel), List.mem_of_getElem? (i := 962) (by decide +kernel)⟩
theorem lw_p39 : lw_okq (⟨"TugOfWarModel", "runs", "()V"⟩, 47) := ⟨⟨by decide +kernel, by decide +kernel⟩, List.mem_of_getElem? (i := 695) (by decide +kernel), List.mem_of_getElem? (i := 965) (by decide +kernel), List.mem_of_getElem? (i := 966) (by decide +kernel)⟩
theorem lw_p40 : lw_okq (⟨"TugOfWarModel", "isHere", "(I)Z"⟩, 47) := ⟨⟨by decide +kernel, by decide +kernel⟩, List.mem_of_getElem? (i := 695) (by decide +kernel), List.mem_of_getElem? (i := 969) (by decide +kernel), List.mem_of_getElem? (i := 970) (by decide +kernel)⟩
theorem lw_p41 : lw_okq (⟨"TugOfWarModel", "goesBy", "(I)V"⟩, 47) := ⟨⟨by decide +kernel, by decide +kernel⟩, List.mem_of_getElem? (i := 695) (by decide +kernel), List.mem_of_getElem? (i := 973) (by decide +kernel), List.mem_of_getElem? (i := 974) (by decide +kernel)⟩
theorem lw_p42 : lw_okq (⟨"TugOfWarModel", "befalls", "(I)V"⟩, 47) := ⟨⟨by decide +kernel, by decide +kernel⟩, List.mem_of_getElem? (i := 695) (by decide +kernel), List.mem_of_getElem? (i := 977) (by decide +kernel), List.mem_of_getElem? (i := 978) (by decide +kernel)⟩
theorem lw_p43 : lw_okq (⟨"TugOfWarModel", "pullsOne", "(II)V"⟩, 47) := ⟨⟨by decide +kernel, by decide +kernel⟩, List.mem_of_getElem? (i := 695) (by decide +kernel), List.mem_of_getElem? (i := 984) (by decide +kernel), List.mem_of_getElem? (i := 985) (by decide +kernel)⟩
theorem lw_p44 : lw_okq (⟨"TugOfWarModel", "strength", "(II)I"⟩, 47) := ⟨⟨by decide +kernel, by decide +kernel⟩, List.mem_of_getElem? (i := 695) (by decide +kernel), List.mem_of_getElem? (i := 988) (by decide +kernel), List.mem_of_getElem? (i := 989) (by decide +kernel)⟩
theorem lw_p45 : lw_okq (⟨"TugOfWarModel", "goes", "(I)V"⟩, 47) := ⟨⟨by decide +kernel, by decide +kernel⟩, List.mem_of_getElem? (i := 695) (by decide +kernel), List.mem_of_getElem? (i := 992) (by decide +kernel), List.mem_of_getElem? (i := 993) (by decide +kernel)⟩
theorem lw_p46 : lw_okq (⟨"TugOfWarModel", "atOf", "(III)I"⟩, 47) := ⟨⟨by decide +kernel, by decide +kernel⟩, List.mem_of_getElem? (i := 695) (by decide +kernel), List.mem_of_getElem? (i := 1000) (by decide +kernel), List.mem_of_getElem? (i := 1001) (by decide +kernel)⟩
theorem lw_p47 : lw_okq (⟨"TugOfWarModel", "wonOf", "(I)I"⟩, 47) := ⟨⟨by decide +kernel, by decide +kernel⟩, List.mem_of_getElem? (i := 695) (by decide +kernel), List.mem_of_getElem? (i := 1008) (by decide +kernel), List.mem_of_getElem? (i := 1009) (by decide +kernel)⟩
def lw_privs_3 : List (MethodName × Nat) := [(⟨"TugOfWarModel", "isThereOne", "(I)Z"⟩, 47), (⟨"TugOfWarModel", "pullerOf", "(II)I"⟩, 47), (⟨"TugOfWarModel", "callOf", "(II)I"⟩, 47), (⟨"TugOfWarModel", "meets", "(I)I"⟩, 47), (⟨"TugOfWarModel", "ropeOf", "(II)I"⟩, 47), (⟨"TugOfWarModel", "runsTold", "()V"⟩, 47), (⟨"TugOfWarModel", "asTold", "()V"⟩, 47), (⟨"TugOfWarModel", "runs", "()V"⟩, 47), (⟨"TugOfWarModel", "isHere", "(I)Z"⟩, 47), (⟨"TugOfWarModel", "goesBy", "(I)V"⟩, 47), (⟨"TugOfWarModel", "befalls", "(I)V"⟩, 47), (⟨"TugOfWarModel", "pullsOne", "(II)V"⟩, 47), (⟨"TugOfWarModel", "strength", "(II)I"⟩, 47), (⟨"TugOfWarModel", "goes", "(I)V"⟩, 47), (⟨"TugOfWarModel", "atOf", "(III)I"⟩, 47), (⟨"TugOfWarModel", "wonOf", "(I)I"⟩, 47)]
theorem lw_r3 : ∀ q ∈ lw_privs_3, lw_okq q := List.forall_mem_cons.mpr ⟨lw_p32, List.forall_mem_cons.mpr ⟨lw_p33, List.forall_mem_cons.mpr ⟨lw_p34, List.forall_mem_cons.mpr ⟨lw_p35, List.forall_mem_cons.mpr ⟨lw_p36, List.forall_mem_cons.mpr ⟨lw_p37, List.forall_mem_cons.mpr ⟨lw_p38, List.forall_mem_cons.mpr ⟨lw_p39, List.forall_mem_cons.mpr ⟨lw_p40, List.forall_mem_cons.mpr ⟨lw_p41, List.forall_mem_cons.mpr ⟨lw_p42, List.forall_mem_cons.mpr ⟨lw_p43, List.forall_mem_cons.mpr ⟨lw_p44, List.forall_mem_cons.mpr ⟨lw_p45, List.forall_mem_cons.mpr ⟨lw_p46, List.forall_mem_cons.mpr ⟨lw_p47, fun _ h => absurd h List.not_mem_nil⟩⟩⟩⟩⟩⟩⟩⟩⟩⟩⟩⟩⟩⟩⟩⟩
theorem lw_p48 : lw_okq (⟨"TugOfWarModel", "furthestOf", "(I)I"⟩, 47) := ⟨⟨by decide +kernel, by decide +kernel⟩, List.mem_of_getElem? (i := 695) (by decide +kernel), List.mem_of_getElem? (i := 1016) (by decide +kernel), List.mem_of_getElem? (i := 1017) (by decide +kernel)⟩
theorem lw_p49 : lw_okq (⟨"TugOfWarModel", "doneOf", "(I)I"⟩, 47) := ⟨⟨by decide +kernel, by decide +kernel⟩, List.mem_of_getElem? (i := 695) (by decide +kernel), List.mem_of_getElem? (i := 1024) (by decide +kernel), List.mem_of_getElem? (i := 1025) (by decide +kernel)⟩
theorem lw_p50 : lw_okq (⟨"TugOfWarModel", "spentOf", "()I"⟩, 47) := ⟨⟨by decide +kernel, by decide +kernel⟩, List.mem_of_getElem? (i := 695) (by decide +kernel), List.mem_of_getElem? (i := 1032) (by decide +kernel), List.mem_of_getElem? (i := 1033) (by decide +kernel)⟩
theorem lw_p51 : lw_okq (⟨"TugOfWarModel", "bestOf", "()I"⟩, 47) := ⟨⟨by decide +kernel, by decide +kernel⟩, List.mem_of_getElem? (i := 695) (by decide +kernel), List.mem_of_getElem? (i := 1040) (by decide +kernel), List.mem_of_getElem? (i := 1041) (by decide +kernel)⟩
theorem lw_p52 : lw_okq (⟨"TugOfWarModel", "levelOf", "()I"⟩, 47) := ⟨⟨by decide +kernel, by decide +kernel⟩, List.mem_of_getElem? (i := 695) (by decide +kernel), List.mem_of_getElem? (i := 1048) (by decide +kernel), List.mem_of_getElem? (i := 1049) (by decide +kernel)⟩
theorem lw_p53 : lw_okq (⟨"TugOfWarModel", "betterOf", "(III)I"⟩, 47) := ⟨⟨by decide +kernel, by decide +kernel⟩, List.mem_of_getElem? (i := 695) (by decide +kernel), List.mem_of_getElem? (i := 1056) (by decide +kernel), List.mem_of_getElem? (i := 1057) (by decide +kernel)⟩
theorem lw_p54 : lw_okq (⟨"TugOfWarModel", "starts", "()V"⟩, 47) := ⟨⟨by decide +kernel, by decide +kernel⟩, List.mem_of_getElem? (i := 695) (by decide +kernel), List.mem_of_getElem? (i := 1060) (by decide +kernel), List.mem_of_getElem? (i := 1061) (by decide +kernel)⟩
theorem lw_p55 : lw_okq (⟨"TugOfWarModel", "tries", "(II)V"⟩, 47) := ⟨⟨by decide +kernel, by decide +kernel⟩, List.mem_of_getElem? (i := 695) (by decide +kernel), List.mem_of_getElem? (i := 1064) (by decide +kernel), List.mem_of_getElem? (i := 1065) (by decide +kernel)⟩
theorem lw_p56 : lw_okq (⟨"TugOfWarModel", "swapOf", "(II)I"⟩, 47) := ⟨⟨by decide +kernel, by decide +kernel⟩, List.mem_of_getElem? (i := 695) (by decide +kernel), List.mem_of_getElem? (i := 1072) (by decide +kernel), List.mem_of_getElem? (i := 1073) (by decide +kernel)⟩
theorem lw_p57 : lw_okq (⟨"TugOfWarModel", "outOf", "(II)I"⟩, 47) := ⟨⟨by decide +kernel, by decide +kernel⟩, List.mem_of_getElem? (i := 695) (by decide +kernel), List.mem_of_getElem? (i := 1080) (by decide +kernel), List.mem_of_getElem? (i := 1081) (by decide +kernel)⟩
theorem lw_p58 : lw_okq (⟨"TugOfWarModel", "spareBy", "()I"⟩, 47) := ⟨⟨by decide +kernel, by decide +kernel⟩, List.mem_of_getElem? (i := 695) (by decide +kernel), List.mem_of_getElem? (i := 1088) (by decide +kernel), List.mem_of_getElem? (i := 1089) (by decide +kernel)⟩
theorem lw_p59 : lw_okq (⟨"TugOfWarModel", "isSpared", "(I)Z"⟩, 47) := ⟨⟨by decide +kernel, by decide +kernel⟩, List.mem_of_getElem? (i := 695) (by decide +kernel), List.mem_of_getElem? (i := 1092) (by decide +kernel), List.mem_of_getElem? (i := 1093) (by decide +kernel)⟩
theorem lw_p60 : lw_okq (⟨"TugOfWarModel", "ofRow", "(II)I"⟩, 47) := ⟨⟨by decide +kernel, by decide +kernel⟩, List.mem_of_getElem? (i := 695) (by decide +kernel), List.mem_of_getElem? (i := 1096) (by decide +kernel), List.mem_of_getElem? (i := 1097) (by decide +kernel)⟩
theorem lw_p61 : lw_okq (⟨"TugOfWarModel", "neverNow", "()I"⟩, 47) := ⟨⟨by decide +kernel, by decide +kernel⟩, List.mem_of_getElem? (i := 695) (by decide +kernel), List.mem_of_getElem? (i := 1112) (by decide +kernel), List.mem_of_getElem? (i := 1113) (by decide +kernel)⟩
theorem lw_p62 : lw_okq (⟨"TugOfWarModel", "isSeen", "()Z"⟩, 47) := ⟨⟨by decide +kernel, by decide +kernel⟩, List.mem_of_getElem? (i := 695) (by decide +kernel), List.mem_of_getElem? (i := 1116) (by decide +kernel), List.mem_of_getElem? (i := 1117) (by decide +kernel)⟩
theorem lw_p63 : lw_okq (⟨"TugOfWarModel", "weightsBy", "(I)I"⟩, 47) := ⟨⟨by decide +kernel, by decide +kernel⟩, List.mem_of_getElem? (i := 695) (by decide +kernel), List.mem_of_getElem? (i := 1124) (by decide +kernel), List.mem_of_getElem? (i := 1125) (by decide +kernel)⟩
def lw_privs_4 : List (MethodName × Nat) := [(⟨"TugOfWarModel", "furthestOf", "(I)I"⟩, 47), (⟨"TugOfWarModel", "doneOf", "(I)I"⟩, 47), (⟨"TugOfWarModel", "spentOf", "()I"⟩, 47), (⟨"TugOfWarModel", "bestOf", "()I"⟩, 47), (⟨"TugOfWarModel", "levelOf", "()I"⟩, 47), (⟨"TugOfWarModel", "betterOf", "(III)I"⟩, 47), (⟨"TugOfWarModel", "starts", "()V"⟩, 47), (⟨"TugOfWarModel", "tries", "(II)V"⟩, 47), (⟨"TugOfWarModel", "swapOf", "(II)I"⟩, 47), (⟨"TugOfWarModel", "outOf", "(II)I"⟩, 47), (⟨"TugOfWarModel", "spareBy", "()I"⟩, 47), (⟨"TugOfWarModel", "isSpared", "(I)Z"⟩, 47), (⟨"TugOfWarModel", "ofRow", "(II)I"⟩, 47), (⟨"TugOfWarModel", "neverNow", "()I"⟩, 47), (⟨"TugOfWarModel", "isSeen", "()Z"⟩, 47), (⟨"TugOfWarModel", "weightsBy", "(I)I"⟩, 47)]
theorem lw_r4 : ∀ q ∈ lw_privs_4, lw_okq q := List.forall_mem_cons.mpr ⟨lw_p48, List.forall_mem_cons.mpr ⟨lw_p49, List.forall_mem_cons.mpr ⟨lw_p50, List.forall_mem_cons.mpr ⟨lw_p51, List.forall_mem_cons.mpr ⟨lw_p52, List.forall_mem_cons.mpr ⟨lw_p53, List.forall_mem_cons.mpr ⟨lw_p54, List.forall_mem_cons.mpr ⟨lw_p55, List.forall_mem_cons.mpr ⟨lw_p56, List.forall_mem_cons.mpr ⟨lw_p57, List.forall_mem_cons.mpr ⟨lw_p58, List.forall_mem_cons.mpr ⟨lw_p59, List.forall_mem_cons.mpr ⟨lw_p60, List.forall_mem_cons.mpr ⟨lw_p61, List.forall_mem_cons.mpr ⟨lw_p62, List.forall_mem_cons.mpr ⟨lw_p63, fun _ h => absurd h List.not_mem_nil⟩⟩⟩⟩⟩⟩⟩⟩⟩⟩⟩⟩⟩⟩⟩⟩
theorem lw_p64 : lw_okq (⟨"TugOfWarModel", "sortsBy", "(I)I"⟩, 47) := ⟨⟨by decide +kernel, by decide +kernel⟩, List.mem_of_getElem? (i := 695) (by decide +kernel), List.mem_of_getElem? (i := 1128) (by decide +kernel), List.mem_of_getElem? (i := 1129) (by decide +kernel)⟩
theorem lw_p65 : lw_okq (⟨"TugOfWarModel", "askOf", "(I)I"⟩, 47) := ⟨⟨by decide +kernel, by decide +kernel⟩, List.mem_of_getElem? (i := 695) (by decide +kernel), List.mem_of_getElem? (i := 1136) (by decide +kernel), List.mem_of_getElem? (i := 1137) (by decide +kernel)⟩
theorem lw_p66 : lw_okq (⟨"TugOfWarModel", "chanceOf", "(III)J"⟩, 47) := ⟨⟨by decide +kernel, by decide +kernel⟩, List.mem_of_getElem? (i := 695) (by decide +kernel), List.mem_of_getElem? (i := 1144) (by decide +kernel), List.mem_of_getElem? (i := 1145) (by decide +kernel)⟩
theorem lw_p67 : lw_okq (⟨"TugOfWarModel", "yearsOf", "(III)I"⟩, 47) := ⟨⟨by decide +kernel, by decide +kernel⟩, List.mem_of_getElem? (i := 695) (by decide +kernel), List.mem_of_getElem? (i := 1159) (by decide +kernel), List.mem_of_getElem? (i := 1160) (by decide +kernel)⟩
theorem lw_p68 : lw_okq (⟨"TugOfWarModel", "lacks", "(III)I"⟩, 47) := ⟨⟨by decide +kernel, by decide +kernel⟩, List.mem_of_getElem? (i := 695) (by decide +kernel), List.mem_of_getElem? (i := 1176) (by decide +kernel), List.mem_of_getElem? (i := 1177) (by decide +kernel)⟩
theorem lw_p69 : lw_okq (⟨"TugOfWarModel", "keep", "(III)V"⟩, 47) := ⟨⟨by decide +kernel, by decide +kernel⟩, List.mem_of_getElem? (i := 695) (by decide +kernel), List.mem_of_getElem? (i := 1180) (by decide +kernel), List.mem_of_getElem? (i := 1181) (by decide +kernel)⟩
theorem lw_p70 : lw_okq (⟨"TugOfWarModel", "tellOf", "(I)I"⟩, 47) := ⟨⟨by decide +kernel, by decide +kernel⟩, List.mem_of_getElem? (i := 695) (by decide +kernel), List.mem_of_getElem? (i := 1201) (by decide +kernel), List.mem_of_getElem? (i := 1202) (by decide +kernel)⟩
theorem lw_p71 : lw_okq (⟨"TugOfWarModel", "pullerDigest", "(JI)J"⟩, 47) := ⟨⟨by decide +kernel, by decide +kernel⟩, List.mem_of_getElem? (i := 695) (by decide +kernel), List.mem_of_getElem? (i := 1212) (by decide +kernel), List.mem_of_getElem? (i := 1213) (by decide +kernel)⟩
theorem lw_p72 : lw_okq (⟨"TugOfWarModel", "beatDigest", "(JII)J"⟩, 47) := ⟨⟨by decide +kernel, by decide +kernel⟩, List.mem_of_getElem? (i := 695) (by decide +kernel), List.mem_of_getElem? (i := 1216) (by decide +kernel), List.mem_of_getElem? (i := 1217) (by decide +kernel)⟩
theorem lw_p73 : lw_okq (⟨"TugOfWarModel", "teamDigest", "(JI)J"⟩, 47) := ⟨⟨by decide +kernel, by decide +kernel⟩, List.mem_of_getElem? (i := 695) (by decide +kernel), List.mem_of_getElem? (i := 1220) (by decide +kernel), List.mem_of_getElem? (i := 1221) (by decide +kernel)⟩
def lw_privs_5 : List (MethodName × Nat) := [(⟨"TugOfWarModel", "sortsBy", "(I)I"⟩, 47), (⟨"TugOfWarModel", "askOf", "(I)I"⟩, 47), (⟨"TugOfWarModel", "chanceOf", "(III)J"⟩, 47), (⟨"TugOfWarModel", "yearsOf", "(III)I"⟩, 47), (⟨"TugOfWarModel", "lacks", "(III)I"⟩, 47), (⟨"TugOfWarModel", "keep", "(III)V"⟩, 47), (⟨"TugOfWarModel", "tellOf", "(I)I"⟩, 47), (⟨"TugOfWarModel", "pullerDigest", "(JI)J"⟩, 47), (⟨"TugOfWarModel", "beatDigest", "(JII)J"⟩, 47), (⟨"TugOfWarModel", "teamDigest", "(JI)J"⟩, 47)]
theorem lw_r5 : ∀ q ∈ lw_privs_5, lw_okq q := List.forall_mem_cons.mpr ⟨lw_p64, List.forall_mem_cons.mpr ⟨lw_p65, List.forall_mem_cons.mpr ⟨lw_p66, List.forall_mem_cons.mpr ⟨lw_p67, List.forall_mem_cons.mpr ⟨lw_p68, List.forall_mem_cons.mpr ⟨lw_p69, List.forall_mem_cons.mpr ⟨lw_p70, List.forall_mem_cons.mpr ⟨lw_p71, List.forall_mem_cons.mpr ⟨lw_p72, List.forall_mem_cons.mpr ⟨lw_p73, fun _ h => absurd h List.not_mem_nil⟩⟩⟩⟩⟩⟩⟩⟩⟩⟩
def lw_privs : List (MethodName × Nat) := lw_privs_1 ++ (lw_privs_2 ++ (lw_privs_3 ++ (lw_privs_4 ++ (lw_privs_5))))
def lw_tbl : List Cond := k2_sels lw_privs ++ tables_1
theorem lw_privs_ok : ∀ q ∈ lw_privs, lw_okq q := by
  show ∀ q ∈ lw_privs_1 ++ (lw_privs_2 ++ (lw_privs_3 ++ (lw_privs_4 ++ (lw_privs_5)))), lw_okq q
  exact List.forall_mem_append.mpr ⟨lw_r1, List.forall_mem_append.mpr ⟨lw_r2, List.forall_mem_append.mpr ⟨lw_r3, List.forall_mem_append.mpr ⟨lw_r4, lw_r5⟩⟩⟩⟩
def RX0 : String := "TugOfWar$Choice"
def TX0 : u_T := fun k => match k with
  | 0 => ("TugOfWar$Choice", "first", "I", false)
  | 1 => ("TugOfWar$Choice", "second", "I", false)
  | 2 => ("TugOfWar$Choice", "place", "I", false)
  | _ => ("TugOfWar$Choice", "team", "I", false)
def tyX0 : Nat → FieldType := fun k => match k with
  | 0 => .int
  | 1 => .int
  | 2 => .int
  | _ => .int
abbrev wsX00 : List Cond := u_ws RX0 TX0 4
theorem nmX0 : ∀ a, a < 4 → ∀ b, b < 4 → a ≠ b → (TX0 a).2.1 ≠ (TX0 b).2.1 := by decide +kernel
theorem tyX0_ok : ∀ k, k < 4 → parseFieldDescriptor (TX0 k).2.2.1 = some (tyX0 k) := by decide +kernel
abbrev cX0_init : ByteArray := prog_2_method_1_code
def yX0_init : MethodName := ⟨RX0, "<init>", "()V"⟩
abbrev cX0_startFor : ByteArray := prog_2_method_2_code
def yX0_startFor : MethodName := ⟨RX0, "startFor", "(I)V"⟩
abbrev cX0_offer : ByteArray := prog_2_method_3_code
def yX0_offer : MethodName := ⟨RX0, "offer", "(III)V"⟩
def RX1 : String := "TugOfWar$Contest"
def TX1 : u_T := fun k => match k with
  | 0 => ("TugOfWar$Contest", "there", "[Z", true)
  | 1 => ("TugOfWar$Contest", "sort", "[I", true)
  | 2 => ("TugOfWar$Contest", "weight", "[I", true)
  | 3 => ("TugOfWar$Contest", "wind", "[I", true)
  | 4 => ("TugOfWar$Contest", "size", "[I", true)
  | 5 => ("TugOfWar$Contest", "last", "[I", true)
  | 6 => ("TugOfWar$Contest", "called", "[I", true)
  | 7 => ("TugOfWar$Contest", "events", "LTugOfWar$Events;", true)
  | _ => ("TugOfWar$Contest", "mudAtFirst", "I", false)
def tyX1 : Nat → FieldType := fun k => match k with
  | 0 => .array .boolean
  | 1 => .array .int
  | 2 => .array .int
  | 3 => .array .int
  | 4 => .array .int
  | 5 => .array .int
  | 6 => .array .int
  | 7 => .object "TugOfWar$Events"
  | _ => .int
abbrev wsX10 : List Cond := u_ws RX1 TX1 9
theorem nmX1 : ∀ a, a < 9 → ∀ b, b < 9 → a ≠ b → (TX1 a).2.1 ≠ (TX1 b).2.1 := by decide +kernel
theorem tyX1_ok : ∀ k, k < 9 → parseFieldDescriptor (TX1 k).2.2.1 = some (tyX1 k) := by decide +kernel
abbrev cX1_init : ByteArray := prog_3_method_1_code
def yX1_init : MethodName := ⟨RX1, "<init>", "()V"⟩
abbrev cX1_takeTexts : ByteArray := prog_3_method_2_code
def yX1_takeTexts : MethodName := ⟨RX1, "takeTexts", "(LTugOfWar$Texts;)V"⟩
abbrev cX1_takeTeam : ByteArray := prog_3_method_3_code
def yX1_takeTeam : MethodName := ⟨RX1, "takeTeam", "(LTugOfWar$Texts;I)V"⟩
abbrev cX1_takeCalls : ByteArray := prog_3_method_4_code
def yX1_takeCalls : MethodName := ⟨RX1, "takeCalls", "(LTugOfWar$Texts;I)V"⟩
abbrev cX1_becomeLike : ByteArray := prog_3_method_5_code
def yX1_becomeLike : MethodName := ⟨RX1, "becomeLike", "(LTugOfWar$Contest;)V"⟩
abbrev cX1_leaveOut : ByteArray := prog_3_method_6_code
def yX1_leaveOut : MethodName := ⟨RX1, "leaveOut", "(II)V"⟩
def RX2 : String := "TugOfWar$Course"
def TX2 : u_T := fun k => match k with
  | 0 => ("TugOfWar$Course", "rope", "[I", true)
  | 1 => ("TugOfWar$Course", "mud", "[I", true)
  | 2 => ("TugOfWar$Course", "teamPull", "[I", true)
  | 3 => ("TugOfWar$Course", "pull", "[I", true)
  | 4 => ("TugOfWar$Course", "breath", "[I", true)
  | 5 => ("TugOfWar$Course", "winner", "I", false)
  | 6 => ("TugOfWar$Course", "winningBeat", "I", false)
  | 7 => ("TugOfWar$Course", "breathNow", "[I", true)
  | 8 => ("TugOfWar$Course", "place", "I", false)
  | 9 => ("TugOfWar$Course", "mudNow", "I", false)
  | 10 => ("TugOfWar$Course", "slippingNow", "I", false)
  | _ => ("TugOfWar$Course", "dogNow", "Z", false)
def tyX2 : Nat → FieldType := fun k => match k with
  | 0 => .array .int
  | 1 => .array .int
  | 2 => .array .int
  | 3 => .array .int
  | 4 => .array .int
  | 5 => .int
  | 6 => .int
  | 7 => .array .int
  | 8 => .int
  | 9 => .int
  | 10 => .int
  | _ => .boolean
abbrev wsX20 : List Cond := u_ws RX2 TX2 12
theorem nmX2 : ∀ a, a < 12 → ∀ b, b < 12 → a ≠ b → (TX2 a).2.1 ≠ (TX2 b).2.1 := by decide +kernel
theorem tyX2_ok : ∀ k, k < 12 → parseFieldDescriptor (TX2 k).2.2.1 = some (tyX2 k) := by decide +kernel
abbrev cX2_init : ByteArray := prog_4_method_1_code
def yX2_init : MethodName := ⟨RX2, "<init>", "()V"⟩
abbrev cX2_play : ByteArray := prog_4_method_2_code
def yX2_play : MethodName := ⟨RX2, "play", "(LTugOfWar$Contest;)I"⟩
abbrev cX2_meetEvents : ByteArray := prog_4_method_3_code
def yX2_meetEvents : MethodName := ⟨RX2, "meetEvents", "(LTugOfWar$Events;I)V"⟩
abbrev cX2_pullOfTeam : ByteArray := prog_4_method_4_code
def yX2_pullOfTeam : MethodName := ⟨RX2, "pullOfTeam", "(LTugOfWar$Contest;II)I"⟩
abbrev cX2_forceOf : ByteArray := prog_4_method_5_code
def yX2_forceOf : MethodName := ⟨RX2, "forceOf", "(LTugOfWar$Contest;II)I"⟩
abbrev cX2_moveRope : ByteArray := prog_4_method_6_code
def yX2_moveRope : MethodName := ⟨RX2, "moveRope", "(II)V"⟩
abbrev cX2_standStill : ByteArray := prog_4_method_7_code
def yX2_standStill : MethodName := ⟨RX2, "standStill", "(I)V"⟩
def RX3 : String := "TugOfWar$Events"
def TX3 : u_T := fun k => match k with
  | 0 => ("TugOfWar$Events", "kinds", "[I", true)
  | 1 => ("TugOfWar$Events", "beats", "[I", true)
  | 2 => ("TugOfWar$Events", "numbers", "[I", true)
  | 3 => ("TugOfWar$Events", "size", "I", false)
  | _ => ("TugOfWar$Events", "missing", "I", false)
def tyX3 : Nat → FieldType := fun k => match k with
  | 0 => .array .int
  | 1 => .array .int
  | 2 => .array .int
  | 3 => .int
  | _ => .int
abbrev wsX30 : List Cond := u_ws RX3 TX3 5
theorem nmX3 : ∀ a, a < 5 → ∀ b, b < 5 → a ≠ b → (TX3 a).2.1 ≠ (TX3 b).2.1 := by decide +kernel
theorem tyX3_ok : ∀ k, k < 5 → parseFieldDescriptor (TX3 k).2.2.1 = some (tyX3 k) := by decide +kernel
abbrev cX3_init : ByteArray := prog_5_method_1_code
def yX3_init : MethodName := ⟨RX3, "<init>", "()V"⟩
abbrev cX3_mayBe : ByteArray := prog_5_method_2_code
def yX3_mayBe : MethodName := ⟨RX3, "mayBe", "(III)Z"⟩
abbrev cX3_append : ByteArray := prog_5_method_3_code
def yX3_append : MethodName := ⟨RX3, "append", "(III)I"⟩
abbrev cX3_cutLast : ByteArray := prog_5_method_4_code
def yX3_cutLast : MethodName := ⟨RX3, "cutLast", "()I"⟩
abbrev cX3_takeFrom : ByteArray := prog_5_method_5_code
def yX3_takeFrom : MethodName := ⟨RX3, "takeFrom", "(LTugOfWar$Events;)V"⟩
abbrev cX3_happens : ByteArray := prog_5_method_6_code
def yX3_happens : MethodName := ⟨RX3, "happens", "(II)Z"⟩
def RX4 : String := "TugOfWar$Seen"
def TX4 : u_T := fun k => match k with
  | 0 => ("TugOfWar$Seen", "beats", "[I", true)
  | 1 => ("TugOfWar$Seen", "places", "[I", true)
  | _ => ("TugOfWar$Seen", "size", "I", false)
def tyX4 : Nat → FieldType := fun k => match k with
  | 0 => .array .int
  | 1 => .array .int
  | _ => .int
abbrev wsX40 : List Cond := u_ws RX4 TX4 3
theorem nmX4 : ∀ a, a < 3 → ∀ b, b < 3 → a ≠ b → (TX4 a).2.1 ≠ (TX4 b).2.1 := by decide +kernel
theorem tyX4_ok : ∀ k, k < 3 → parseFieldDescriptor (TX4 k).2.2.1 = some (tyX4 k) := by decide +kernel
abbrev cX4_init : ByteArray := prog_6_method_1_code
def yX4_init : MethodName := ⟨RX4, "<init>", "()V"⟩
abbrev cX4_append : ByteArray := prog_6_method_2_code
def yX4_append : MethodName := ⟨RX4, "append", "(II)I"⟩
abbrev cX4_fit : ByteArray := prog_6_method_3_code
def yX4_fit : MethodName := ⟨RX4, "fit", "(LTugOfWar$Course;)Z"⟩
def RX5 : String := "TugOfWar$Sheets"
def TX5 : u_T := fun k => match k with
  | 0 => ("TugOfWar$Sheets", "items", "[I", true)
  | 1 => ("TugOfWar$Sheets", "forms", "[I", true)
  | _ => ("TugOfWar$Sheets", "sizes", "[I", true)
def tyX5 : Nat → FieldType := fun k => match k with
  | 0 => .array .int
  | 1 => .array .int
  | _ => .array .int
abbrev wsX50 : List Cond := u_ws RX5 TX5 3
theorem nmX5 : ∀ a, a < 3 → ∀ b, b < 3 → a ≠ b → (TX5 a).2.1 ≠ (TX5 b).2.1 := by decide +kernel
theorem tyX5_ok : ∀ k, k < 3 → parseFieldDescriptor (TX5 k).2.2.1 = some (tyX5 k) := by decide +kernel
abbrev cX5_init : ByteArray := prog_7_method_1_code
def yX5_init : MethodName := ⟨RX5, "<init>", "()V"⟩
abbrev cX5_isLost : ByteArray := prog_7_method_2_code
def yX5_isLost : MethodName := ⟨RX5, "isLost", "(I)Z"⟩
abbrev cX5_size : ByteArray := prog_7_method_3_code
def yX5_size : MethodName := ⟨RX5, "size", "(I)I"⟩
abbrev cX5_renew : ByteArray := prog_7_method_4_code
def yX5_renew : MethodName := ⟨RX5, "renew", "(III)V"⟩
abbrev cX5_drop : ByteArray := prog_7_method_5_code
def yX5_drop : MethodName := ⟨RX5, "drop", "(I)I"⟩
abbrev cX5_whatIsWrong : ByteArray := prog_7_method_6_code
def yX5_whatIsWrong : MethodName := ⟨RX5, "whatIsWrong", "(III)I"⟩
abbrev cX5_areAlike : ByteArray := prog_7_method_7_code
def yX5_areAlike : MethodName := ⟨RX5, "areAlike", "(II)Z"⟩
abbrev cX5_holds : ByteArray := prog_7_method_8_code
def yX5_holds : MethodName := ⟨RX5, "holds", "(III)Z"⟩
abbrev cX5_item : ByteArray := prog_7_method_9_code
def yX5_item : MethodName := ⟨RX5, "item", "(II)I"⟩
abbrev cX5_store : ByteArray := prog_7_method_10_code
def yX5_store : MethodName := ⟨RX5, "store", "(III)V"⟩
abbrev cX5_move : ByteArray := prog_7_method_11_code
def yX5_move : MethodName := ⟨RX5, "move", "(IIIII)V"⟩
def RX6 : String := "TugOfWar$Texts"
def TX6 : u_T := fun k => match k with
  | 0 => ("TugOfWar$Texts", "bytes", "[I", true)
  | _ => ("TugOfWar$Texts", "lengths", "[I", true)
def tyX6 : Nat → FieldType := fun k => match k with
  | 0 => .array .int
  | _ => .array .int
abbrev wsX60 : List Cond := u_ws RX6 TX6 2
theorem nmX6 : ∀ a, a < 2 → ∀ b, b < 2 → a ≠ b → (TX6 a).2.1 ≠ (TX6 b).2.1 := by decide +kernel
theorem tyX6_ok : ∀ k, k < 2 → parseFieldDescriptor (TX6 k).2.2.1 = some (tyX6 k) := by decide +kernel
abbrev cX6_init : ByteArray := prog_8_method_1_code
def yX6_init : MethodName := ⟨RX6, "<init>", "()V"⟩
abbrev cX6_isFull : ByteArray := prog_8_method_2_code
def yX6_isFull : MethodName := ⟨RX6, "isFull", "(I)Z"⟩
abbrev cX6_append : ByteArray := prog_8_method_3_code
def yX6_append : MethodName := ⟨RX6, "append", "(II)I"⟩
abbrev cX6_clear : ByteArray := prog_8_method_4_code
def yX6_clear : MethodName := ⟨RX6, "clear", "(I)I"⟩
abbrev cX6_cutLast : ByteArray := prog_8_method_5_code
def yX6_cutLast : MethodName := ⟨RX6, "cutLast", "(I)I"⟩
abbrev cX6_length : ByteArray := prog_8_method_6_code
def yX6_length : MethodName := ⟨RX6, "length", "(I)I"⟩
abbrev cX6_lengthOfAll : ByteArray := prog_8_method_7_code
def yX6_lengthOfAll : MethodName := ⟨RX6, "lengthOfAll", "()I"⟩
abbrev cX6_soundLength : ByteArray := prog_8_method_8_code
def yX6_soundLength : MethodName := ⟨RX6, "soundLength", "(I)I"⟩
abbrev cX6_byteAt : ByteArray := prog_8_method_9_code
def yX6_byteAt : MethodName := ⟨RX6, "byteAt", "(II)I"⟩
abbrev cX6_firstFault : ByteArray := prog_8_method_10_code
def yX6_firstFault : MethodName := ⟨RX6, "firstFault", "(I)I"⟩
abbrev cX6_teamGoesOn : ByteArray := prog_8_method_11_code
def yX6_teamGoesOn : MethodName := ⟨RX6, "teamGoesOn", "(II)Z"⟩
abbrev cX6_sortOf : ByteArray := prog_8_method_12_code
def yX6_sortOf : MethodName := ⟨RX6, "sortOf", "(I)I"⟩
abbrev cX6_callOf : ByteArray := prog_8_method_13_code
def yX6_callOf : MethodName := ⟨RX6, "callOf", "(I)I"⟩
def RX7 : String := "TugOfWar"
def TX7 : u_T := fun k => match k with
  | 0 => ("TugOfWar", "texts", "LTugOfWar$Texts;", true)
  | 1 => ("TugOfWar", "sights", "LTugOfWar$Seen;", true)
  | 2 => ("TugOfWar", "sheets", "LTugOfWar$Sheets;", true)
  | 3 => ("TugOfWar", "finding", "I", false)
  | 4 => ("TugOfWar", "told", "LTugOfWar$Contest;", true)
  | 5 => ("TugOfWar", "toldCourse", "LTugOfWar$Course;", true)
  | 6 => ("TugOfWar", "trial", "LTugOfWar$Contest;", true)
  | 7 => ("TugOfWar", "trialCourse", "LTugOfWar$Course;", true)
  | 8 => ("TugOfWar", "choice", "LTugOfWar$Choice;", true)
  | 9 => ("TugOfWar", "ropeByWeight", "[I", true)
  | 10 => ("TugOfWar", "winnerWithoutEvents", "[I", true)
  | _ => ("TugOfWar", "winnersAreFresh", "Z", false)
def tyX7 : Nat → FieldType := fun k => match k with
  | 0 => .object "TugOfWar$Texts"
  | 1 => .object "TugOfWar$Seen"
  | 2 => .object "TugOfWar$Sheets"
  | 3 => .int
  | 4 => .object "TugOfWar$Contest"
  | 5 => .object "TugOfWar$Course"
  | 6 => .object "TugOfWar$Contest"
  | 7 => .object "TugOfWar$Course"
  | 8 => .object "TugOfWar$Choice"
  | 9 => .array .int
  | 10 => .array .int
  | _ => .boolean
abbrev wsX70 : List Cond := u_ws RX7 TX7 12
theorem nmX7 : ∀ a, a < 12 → ∀ b, b < 12 → a ≠ b → (TX7 a).2.1 ≠ (TX7 b).2.1 := by decide +kernel
theorem tyX7_ok : ∀ k, k < 12 → parseFieldDescriptor (TX7 k).2.2.1 = some (tyX7 k) := by decide +kernel
abbrev cX7_init : ByteArray := prog_1_method_1_code
def yX7_init : MethodName := ⟨RX7, "<init>", "()V"⟩
abbrev cX7_type : ByteArray := prog_1_method_2_code
def yX7_type : MethodName := ⟨RX7, "type", "(II)I"⟩
abbrev cX7_wipe : ByteArray := prog_1_method_3_code
def yX7_wipe : MethodName := ⟨RX7, "wipe", "(I)I"⟩
abbrev cX7_undo : ByteArray := prog_1_method_4_code
def yX7_undo : MethodName := ⟨RX7, "undo", "(I)I"⟩
abbrev cX7_fault : ByteArray := prog_1_method_5_code
def yX7_fault : MethodName := ⟨RX7, "fault", "(I)I"⟩
abbrev cX7_puller : ByteArray := prog_1_method_6_code
def yX7_puller : MethodName := ⟨RX7, "puller", "(II)I"⟩
abbrev cX7_call : ByteArray := prog_1_method_7_code
def yX7_call : MethodName := ⟨RX7, "call", "(II)I"⟩
abbrev cX7_mud : ByteArray := prog_1_method_8_code
def yX7_mud : MethodName := ⟨RX7, "mud", "(I)I"⟩
abbrev cX7_event : ByteArray := prog_1_method_9_code
def yX7_event : MethodName := ⟨RX7, "event", "(III)I"⟩
abbrev cX7_back : ByteArray := prog_1_method_10_code
def yX7_back : MethodName := ⟨RX7, "back", "()I"⟩
abbrev cX7_read : ByteArray := prog_1_method_11_code
def yX7_read : MethodName := ⟨RX7, "read", "(I)I"⟩
abbrev cX7_rope : ByteArray := prog_1_method_12_code
def yX7_rope : MethodName := ⟨RX7, "rope", "(II)I"⟩
abbrev cX7_at : ByteArray := prog_1_method_13_code
def yX7_at : MethodName := ⟨RX7, "at", "(III)I"⟩
abbrev cX7_won : ByteArray := prog_1_method_14_code
def yX7_won : MethodName := ⟨RX7, "won", "(I)I"⟩
abbrev cX7_furthest : ByteArray := prog_1_method_15_code
def yX7_furthest : MethodName := ⟨RX7, "furthest", "(I)I"⟩
abbrev cX7_done : ByteArray := prog_1_method_16_code
def yX7_done : MethodName := ⟨RX7, "done", "(I)I"⟩
abbrev cX7_spent : ByteArray := prog_1_method_17_code
def yX7_spent : MethodName := ⟨RX7, "spent", "()I"⟩
abbrev cX7_best : ByteArray := prog_1_method_18_code
def yX7_best : MethodName := ⟨RX7, "best", "()I"⟩
abbrev cX7_level : ByteArray := prog_1_method_19_code
def yX7_level : MethodName := ⟨RX7, "level", "()I"⟩
abbrev cX7_better : ByteArray := prog_1_method_20_code
def yX7_better : MethodName := ⟨RX7, "better", "(III)I"⟩
abbrev cX7_swap : ByteArray := prog_1_method_21_code
def yX7_swap : MethodName := ⟨RX7, "swap", "(II)I"⟩
abbrev cX7_out : ByteArray := prog_1_method_22_code
def yX7_out : MethodName := ⟨RX7, "out", "(II)I"⟩
abbrev cX7_spare : ByteArray := prog_1_method_23_code
def yX7_spare : MethodName := ⟨RX7, "spare", "(I)I"⟩
abbrev cX7_seen : ByteArray := prog_1_method_24_code
def yX7_seen : MethodName := ⟨RX7, "seen", "(II)I"⟩
abbrev cX7_forget : ByteArray := prog_1_method_25_code
def yX7_forget : MethodName := ⟨RX7, "forget", "()I"⟩
abbrev cX7_never : ByteArray := prog_1_method_26_code
def yX7_never : MethodName := ⟨RX7, "never", "()I"⟩
abbrev cX7_was : ByteArray := prog_1_method_27_code
def yX7_was : MethodName := ⟨RX7, "was", "(II)I"⟩
abbrev cX7_ask : ByteArray := prog_1_method_28_code
def yX7_ask : MethodName := ⟨RX7, "ask", "(I)I"⟩
abbrev cX7_chance : ByteArray := prog_1_method_29_code
def yX7_chance : MethodName := ⟨RX7, "chance", "(III)J"⟩
abbrev cX7_years : ByteArray := prog_1_method_30_code
def yX7_years : MethodName := ⟨RX7, "years", "(III)I"⟩
abbrev cX7_sheet : ByteArray := prog_1_method_31_code
def yX7_sheet : MethodName := ⟨RX7, "sheet", "(III)I"⟩
abbrev cX7_lose : ByteArray := prog_1_method_32_code
def yX7_lose : MethodName := ⟨RX7, "lose", "(I)I"⟩
abbrev cX7_put : ByteArray := prog_1_method_33_code
def yX7_put : MethodName := ⟨RX7, "put", "(IIII)I"⟩
abbrev cX7_get : ByteArray := prog_1_method_34_code
def yX7_get : MethodName := ⟨RX7, "get", "(III)I"⟩
abbrev cX7_copy : ByteArray := prog_1_method_35_code
def yX7_copy : MethodName := ⟨RX7, "copy", "(IIIII)I"⟩
abbrev cX7_write : ByteArray := prog_1_method_36_code
def yX7_write : MethodName := ⟨RX7, "write", "(I)I"⟩
abbrev cX7_count : ByteArray := prog_1_method_37_code
def yX7_count : MethodName := ⟨RX7, "count", "(I)I"⟩
abbrev cX7_digest : ByteArray := prog_1_method_38_code
def yX7_digest : MethodName := ⟨RX7, "digest", "()J"⟩
abbrev cX7_withBeat : ByteArray := prog_1_method_39_code
def yX7_withBeat : MethodName := ⟨RX7, "withBeat", "(JI)J"⟩
abbrev cX7_withPuller : ByteArray := prog_1_method_40_code
def yX7_withPuller : MethodName := ⟨RX7, "withPuller", "(JI)J"⟩
abbrev cX7_withTeam : ByteArray := prog_1_method_41_code
def yX7_withTeam : MethodName := ⟨RX7, "withTeam", "(JI)J"⟩
abbrev cX7_isBelow : ByteArray := prog_1_method_42_code
def yX7_isBelow : MethodName := ⟨RX7, "isBelow", "(II)Z"⟩
abbrev cX7_isPuller : ByteArray := prog_1_method_43_code
def yX7_isPuller : MethodName := ⟨RX7, "isPuller", "(I)Z"⟩
abbrev cX7_found : ByteArray := prog_1_method_44_code
def yX7_found : MethodName := ⟨RX7, "found", "(I)I"⟩
abbrev cX7_playTexts : ByteArray := prog_1_method_45_code
def yX7_playTexts : MethodName := ⟨RX7, "playTexts", "()V"⟩
abbrev cX7_playTold : ByteArray := prog_1_method_46_code
def yX7_playTold : MethodName := ⟨RX7, "playTold", "()V"⟩
abbrev cX7_pulledInAll : ByteArray := prog_1_method_47_code
def yX7_pulledInAll : MethodName := ⟨RX7, "pulledInAll", "(I)I"⟩
abbrev cX7_chooseSwap : ByteArray := prog_1_method_48_code
def yX7_chooseSwap : MethodName := ⟨RX7, "chooseSwap", "(I)V"⟩
abbrev cX7_chooseOut : ByteArray := prog_1_method_49_code
def yX7_chooseOut : MethodName := ⟨RX7, "chooseOut", "(I)V"⟩
abbrev cX7_chooseSpare : ByteArray := prog_1_method_50_code
def yX7_chooseSpare : MethodName := ⟨RX7, "chooseSpare", "()I"⟩
abbrev cX7_winnerWithout : ByteArray := prog_1_method_51_code
def yX7_winnerWithout : MethodName := ⟨RX7, "winnerWithout", "(I)I"⟩
abbrev cX7_weightsThatFit : ByteArray := prog_1_method_52_code
def yX7_weightsThatFit : MethodName := ⟨RX7, "weightsThatFit", "(I)I"⟩
abbrev cX7_sortsThatFit : ByteArray := prog_1_method_53_code
def yX7_sortsThatFit : MethodName := ⟨RX7, "sortsThatFit", "(I)I"⟩
abbrev cX7_greatestLikeness : ByteArray := prog_1_method_54_code
def yX7_greatestLikeness : MethodName := ⟨RX7, "greatestLikeness", "(II)I"⟩
abbrev cX7_waysToWin : ByteArray := prog_1_method_55_code
def yX7_waysToWin : MethodName := ⟨RX7, "waysToWin", "(II)J"⟩
abbrev cX7_waysToMiss : ByteArray := prog_1_method_56_code
def yX7_waysToMiss : MethodName := ⟨RX7, "waysToMiss", "(II)J"⟩
abbrev cX7_refreshWinners : ByteArray := prog_1_method_57_code
def yX7_refreshWinners : MethodName := ⟨RX7, "refreshWinners", "()V"⟩
def RX8 : String := "TugOfWarModel"
def TX8 : u_T := fun k => match k with
  | 0 => ("TugOfWarModel", "typed", "[I", true)
  | 1 => ("TugOfWarModel", "texts", "[I", true)
  | 2 => ("TugOfWarModel", "many", "[I", true)
  | 3 => ("TugOfWarModel", "sorts", "[I", true)
  | 4 => ("TugOfWarModel", "weights", "[I", true)
  | 5 => ("TugOfWarModel", "winds", "[I", true)
  | 6 => ("TugOfWarModel", "callsTold", "[I", true)
  | 7 => ("TugOfWarModel", "callTold", "[I", true)
  | 8 => ("TugOfWarModel", "mudTold", "I", false)
  | 9 => ("TugOfWarModel", "events", "I", false)
  | 10 => ("TugOfWarModel", "eventKind", "[I", true)
  | 11 => ("TugOfWarModel", "eventBeat", "[I", true)
  | 12 => ("TugOfWarModel", "eventNumber", "[I", true)
  | 13 => ("TugOfWarModel", "callNow", "[I", true)
  | 14 => ("TugOfWarModel", "notEvents", "I", false)
  | 15 => ("TugOfWarModel", "places", "[I", true)
  | 16 => ("TugOfWarModel", "outNow", "I", false)
  | 17 => ("TugOfWarModel", "lastOf", "[I", true)
  | 18 => ("TugOfWarModel", "mudNow", "I", false)
  | 19 => ("TugOfWarModel", "dogNow", "I", false)
  | 20 => ("TugOfWarModel", "slipBits", "I", false)
  | 21 => ("TugOfWarModel", "ropeNow", "I", false)
  | 22 => ("TugOfWarModel", "wonTeam", "I", false)
  | 23 => ("TugOfWarModel", "wonBeat", "I", false)
  | 24 => ("TugOfWarModel", "levels", "I", false)
  | 25 => ("TugOfWarModel", "breaths", "[I", true)
  | 26 => ("TugOfWarModel", "dones", "[I", true)
  | 27 => ("TugOfWarModel", "pulls", "[I", true)
  | 28 => ("TugOfWarModel", "sums", "[I", true)
  | 29 => ("TugOfWarModel", "ropeAt", "[I", true)
  | 30 => ("TugOfWarModel", "mudAt", "[I", true)
  | 31 => ("TugOfWarModel", "sumAt", "[I", true)
  | 32 => ("TugOfWarModel", "pullAt", "[I", true)
  | 33 => ("TugOfWarModel", "breathAt", "[I", true)
  | 34 => ("TugOfWarModel", "bestPlan", "I", false)
  | 35 => ("TugOfWarModel", "bestRope", "I", false)
  | 36 => ("TugOfWarModel", "planRow", "[I", true)
  | 37 => ("TugOfWarModel", "seens", "I", false)
  | 38 => ("TugOfWarModel", "seenBeat", "[I", true)
  | 39 => ("TugOfWarModel", "seenPlace", "[I", true)
  | 40 => ("TugOfWarModel", "ropeBy", "[I", true)
  | 41 => ("TugOfWarModel", "isThere", "[Z", true)
  | 42 => ("TugOfWarModel", "forms", "[I", true)
  | 43 => ("TugOfWarModel", "sizes", "[I", true)
  | 44 => ("TugOfWarModel", "items", "[I", true)
  | 45 => ("TugOfWarModel", "moved", "[I", true)
  | _ => ("TugOfWarModel", "finding", "I", false)
def tyX8 : Nat → FieldType := fun k => match k with
  | 0 => .array .int
  | 1 => .array .int
  | 2 => .array .int
  | 3 => .array .int
  | 4 => .array .int
  | 5 => .array .int
  | 6 => .array .int
  | 7 => .array .int
  | 8 => .int
  | 9 => .int
  | 10 => .array .int
  | 11 => .array .int
  | 12 => .array .int
  | 13 => .array .int
  | 14 => .int
  | 15 => .array .int
  | 16 => .int
  | 17 => .array .int
  | 18 => .int
  | 19 => .int
  | 20 => .int
  | 21 => .int
  | 22 => .int
  | 23 => .int
  | 24 => .int
  | 25 => .array .int
  | 26 => .array .int
  | 27 => .array .int
  | 28 => .array .int
  | 29 => .array .int
  | 30 => .array .int
  | 31 => .array .int
  | 32 => .array .int
  | 33 => .array .int
  | 34 => .int
  | 35 => .int
  | 36 => .array .int
  | 37 => .int
  | 38 => .array .int
  | 39 => .array .int
  | 40 => .array .int
  | 41 => .array .boolean
  | 42 => .array .int
  | 43 => .array .int
  | 44 => .array .int
  | 45 => .array .int
  | _ => .int
abbrev wsX80 : List Cond := u_ws RX8 TX8 47
theorem nmX8 : ∀ a, a < 47 → ∀ b, b < 47 → a ≠ b → (TX8 a).2.1 ≠ (TX8 b).2.1 := by decide +kernel
theorem tyX8_ok : ∀ k, k < 47 → parseFieldDescriptor (TX8 k).2.2.1 = some (tyX8 k) := by decide +kernel
abbrev cX8_init : ByteArray := prog_10_method_1_code
def yX8_init : MethodName := ⟨RX8, "<init>", "()V"⟩
abbrev cX8_in : ByteArray := prog_10_method_3_code
def yX8_in : MethodName := ⟨RX8, "in", "(III)Z"⟩
abbrev cX8_isIn : ByteArray := prog_10_method_4_code
def yX8_isIn : MethodName := ⟨RX8, "isIn", "(II)Z"⟩
abbrev cX8_no : ByteArray := prog_10_method_5_code
def yX8_no : MethodName := ⟨RX8, "no", "(I)J"⟩
abbrev cX8_lowest : ByteArray := prog_10_method_6_code
def yX8_lowest : MethodName := ⟨RX8, "lowest", "(JJI)J"⟩
abbrev cX8_isText : ByteArray := prog_10_method_7_code
def yX8_isText : MethodName := ⟨RX8, "isText", "(I)Z"⟩
abbrev cX8_isBeat : ByteArray := prog_10_method_8_code
def yX8_isBeat : MethodName := ⟨RX8, "isBeat", "(I)Z"⟩
abbrev cX8_isTwo : ByteArray := prog_10_method_9_code
def yX8_isTwo : MethodName := ⟨RX8, "isTwo", "(I)Z"⟩
abbrev cX8_isThree : ByteArray := prog_10_method_10_code
def yX8_isThree : MethodName := ⟨RX8, "isThree", "(I)Z"⟩
abbrev cX8_type : ByteArray := prog_10_method_11_code
def yX8_type : MethodName := ⟨RX8, "type", "(II)I"⟩
abbrev cX8_wipe : ByteArray := prog_10_method_12_code
def yX8_wipe : MethodName := ⟨RX8, "wipe", "(I)I"⟩
abbrev cX8_undo : ByteArray := prog_10_method_13_code
def yX8_undo : MethodName := ⟨RX8, "undo", "(I)I"⟩
abbrev cX8_byteAt : ByteArray := prog_10_method_14_code
def yX8_byteAt : MethodName := ⟨RX8, "byteAt", "(II)I"⟩
abbrev cX8_readsPuller : ByteArray := prog_10_method_15_code
def yX8_readsPuller : MethodName := ⟨RX8, "readsPuller", "(III)I"⟩
abbrev cX8_readsTeam : ByteArray := prog_10_method_16_code
def yX8_readsTeam : MethodName := ⟨RX8, "readsTeam", "(I)I"⟩
abbrev cX8_callBy : ByteArray := prog_10_method_17_code
def yX8_callBy : MethodName := ⟨RX8, "callBy", "(I)I"⟩
abbrev cX8_readsCalls : ByteArray := prog_10_method_18_code
def yX8_readsCalls : MethodName := ⟨RX8, "readsCalls", "(I)I"⟩
abbrev cX8_faultOf : ByteArray := prog_10_method_19_code
def yX8_faultOf : MethodName := ⟨RX8, "faultOf", "(I)I"⟩
abbrev cX8_reads : ByteArray := prog_10_method_20_code
def yX8_reads : MethodName := ⟨RX8, "reads", "()V"⟩
abbrev cX8_fault : ByteArray := prog_10_method_21_code
def yX8_fault : MethodName := ⟨RX8, "fault", "(I)I"⟩
abbrev cX8_isThereOne : ByteArray := prog_10_method_22_code
def yX8_isThereOne : MethodName := ⟨RX8, "isThereOne", "(I)Z"⟩
abbrev cX8_isPuller : ByteArray := prog_10_method_23_code
def yX8_isPuller : MethodName := ⟨RX8, "isPuller", "(I)Z"⟩
abbrev cX8_pullerOf : ByteArray := prog_10_method_24_code
def yX8_pullerOf : MethodName := ⟨RX8, "pullerOf", "(II)I"⟩
abbrev cX8_puller : ByteArray := prog_10_method_25_code
def yX8_puller : MethodName := ⟨RX8, "puller", "(II)I"⟩
abbrev cX8_callOf : ByteArray := prog_10_method_26_code
def yX8_callOf : MethodName := ⟨RX8, "callOf", "(II)I"⟩
abbrev cX8_call : ByteArray := prog_10_method_27_code
def yX8_call : MethodName := ⟨RX8, "call", "(II)I"⟩
abbrev cX8_mud : ByteArray := prog_10_method_28_code
def yX8_mud : MethodName := ⟨RX8, "mud", "(I)I"⟩
abbrev cX8_event : ByteArray := prog_10_method_29_code
def yX8_event : MethodName := ⟨RX8, "event", "(III)I"⟩
abbrev cX8_back : ByteArray := prog_10_method_30_code
def yX8_back : MethodName := ⟨RX8, "back", "()I"⟩
abbrev cX8_read : ByteArray := prog_10_method_31_code
def yX8_read : MethodName := ⟨RX8, "read", "(I)I"⟩
abbrev cX8_asTold : ByteArray := prog_10_method_32_code
def yX8_asTold : MethodName := ⟨RX8, "asTold", "()V"⟩
abbrev cX8_isHere : ByteArray := prog_10_method_33_code
def yX8_isHere : MethodName := ⟨RX8, "isHere", "(I)Z"⟩
abbrev cX8_befalls : ByteArray := prog_10_method_34_code
def yX8_befalls : MethodName := ⟨RX8, "befalls", "(I)V"⟩
abbrev cX8_strength : ByteArray := prog_10_method_35_code
def yX8_strength : MethodName := ⟨RX8, "strength", "(II)I"⟩
abbrev cX8_pullsOne : ByteArray := prog_10_method_36_code
def yX8_pullsOne : MethodName := ⟨RX8, "pullsOne", "(II)V"⟩
abbrev cX8_goes : ByteArray := prog_10_method_37_code
def yX8_goes : MethodName := ⟨RX8, "goes", "(I)V"⟩
abbrev cX8_goesBy : ByteArray := prog_10_method_38_code
def yX8_goesBy : MethodName := ⟨RX8, "goesBy", "(I)V"⟩
abbrev cX8_runs : ByteArray := prog_10_method_39_code
def yX8_runs : MethodName := ⟨RX8, "runs", "()V"⟩
abbrev cX8_runsTold : ByteArray := prog_10_method_40_code
def yX8_runsTold : MethodName := ⟨RX8, "runsTold", "()V"⟩
abbrev cX8_ropeOf : ByteArray := prog_10_method_41_code
def yX8_ropeOf : MethodName := ⟨RX8, "ropeOf", "(II)I"⟩
abbrev cX8_rope : ByteArray := prog_10_method_42_code
def yX8_rope : MethodName := ⟨RX8, "rope", "(II)I"⟩
abbrev cX8_atOf : ByteArray := prog_10_method_43_code
def yX8_atOf : MethodName := ⟨RX8, "atOf", "(III)I"⟩
abbrev cX8_at : ByteArray := prog_10_method_44_code
def yX8_at : MethodName := ⟨RX8, "at", "(III)I"⟩
abbrev cX8_wonOf : ByteArray := prog_10_method_45_code
def yX8_wonOf : MethodName := ⟨RX8, "wonOf", "(I)I"⟩
abbrev cX8_won : ByteArray := prog_10_method_46_code
def yX8_won : MethodName := ⟨RX8, "won", "(I)I"⟩
abbrev cX8_furthestOf : ByteArray := prog_10_method_47_code
def yX8_furthestOf : MethodName := ⟨RX8, "furthestOf", "(I)I"⟩
abbrev cX8_furthest : ByteArray := prog_10_method_48_code
def yX8_furthest : MethodName := ⟨RX8, "furthest", "(I)I"⟩
abbrev cX8_doneOf : ByteArray := prog_10_method_49_code
def yX8_doneOf : MethodName := ⟨RX8, "doneOf", "(I)I"⟩
abbrev cX8_done : ByteArray := prog_10_method_50_code
def yX8_done : MethodName := ⟨RX8, "done", "(I)I"⟩
abbrev cX8_spentOf : ByteArray := prog_10_method_51_code
def yX8_spentOf : MethodName := ⟨RX8, "spentOf", "()I"⟩
abbrev cX8_spent : ByteArray := prog_10_method_52_code
def yX8_spent : MethodName := ⟨RX8, "spent", "()I"⟩
abbrev cX8_bestOf : ByteArray := prog_10_method_53_code
def yX8_bestOf : MethodName := ⟨RX8, "bestOf", "()I"⟩
abbrev cX8_best : ByteArray := prog_10_method_54_code
def yX8_best : MethodName := ⟨RX8, "best", "()I"⟩
abbrev cX8_levelOf : ByteArray := prog_10_method_55_code
def yX8_levelOf : MethodName := ⟨RX8, "levelOf", "()I"⟩
abbrev cX8_level : ByteArray := prog_10_method_56_code
def yX8_level : MethodName := ⟨RX8, "level", "()I"⟩
abbrev cX8_starts : ByteArray := prog_10_method_57_code
def yX8_starts : MethodName := ⟨RX8, "starts", "()V"⟩
abbrev cX8_tries : ByteArray := prog_10_method_58_code
def yX8_tries : MethodName := ⟨RX8, "tries", "(II)V"⟩
abbrev cX8_betterOf : ByteArray := prog_10_method_59_code
def yX8_betterOf : MethodName := ⟨RX8, "betterOf", "(III)I"⟩
abbrev cX8_better : ByteArray := prog_10_method_60_code
def yX8_better : MethodName := ⟨RX8, "better", "(III)I"⟩
abbrev cX8_swapOf : ByteArray := prog_10_method_61_code
def yX8_swapOf : MethodName := ⟨RX8, "swapOf", "(II)I"⟩
abbrev cX8_swap : ByteArray := prog_10_method_62_code
def yX8_swap : MethodName := ⟨RX8, "swap", "(II)I"⟩
abbrev cX8_outOf : ByteArray := prog_10_method_63_code
def yX8_outOf : MethodName := ⟨RX8, "outOf", "(II)I"⟩
abbrev cX8_out : ByteArray := prog_10_method_64_code
def yX8_out : MethodName := ⟨RX8, "out", "(II)I"⟩
abbrev cX8_isSpared : ByteArray := prog_10_method_65_code
def yX8_isSpared : MethodName := ⟨RX8, "isSpared", "(I)Z"⟩
abbrev cX8_spareBy : ByteArray := prog_10_method_66_code
def yX8_spareBy : MethodName := ⟨RX8, "spareBy", "()I"⟩
abbrev cX8_ofRow : ByteArray := prog_10_method_67_code
def yX8_ofRow : MethodName := ⟨RX8, "ofRow", "(II)I"⟩
abbrev cX8_spare : ByteArray := prog_10_method_68_code
def yX8_spare : MethodName := ⟨RX8, "spare", "(I)I"⟩
abbrev cX8_seen : ByteArray := prog_10_method_69_code
def yX8_seen : MethodName := ⟨RX8, "seen", "(II)I"⟩
abbrev cX8_forget : ByteArray := prog_10_method_70_code
def yX8_forget : MethodName := ⟨RX8, "forget", "()I"⟩
abbrev cX8_isSeen : ByteArray := prog_10_method_71_code
def yX8_isSeen : MethodName := ⟨RX8, "isSeen", "()Z"⟩
abbrev cX8_neverNow : ByteArray := prog_10_method_72_code
def yX8_neverNow : MethodName := ⟨RX8, "neverNow", "()I"⟩
abbrev cX8_never : ByteArray := prog_10_method_73_code
def yX8_never : MethodName := ⟨RX8, "never", "()I"⟩
abbrev cX8_weightsBy : ByteArray := prog_10_method_74_code
def yX8_weightsBy : MethodName := ⟨RX8, "weightsBy", "(I)I"⟩
abbrev cX8_sortsBy : ByteArray := prog_10_method_75_code
def yX8_sortsBy : MethodName := ⟨RX8, "sortsBy", "(I)I"⟩
abbrev cX8_was : ByteArray := prog_10_method_76_code
def yX8_was : MethodName := ⟨RX8, "was", "(II)I"⟩
abbrev cX8_askOf : ByteArray := prog_10_method_77_code
def yX8_askOf : MethodName := ⟨RX8, "askOf", "(I)I"⟩
abbrev cX8_ask : ByteArray := prog_10_method_78_code
def yX8_ask : MethodName := ⟨RX8, "ask", "(I)I"⟩
abbrev cX8_chanceOf : ByteArray := prog_10_method_79_code
def yX8_chanceOf : MethodName := ⟨RX8, "chanceOf", "(III)J"⟩
abbrev cX8_chance : ByteArray := prog_10_method_80_code
def yX8_chance : MethodName := ⟨RX8, "chance", "(III)J"⟩
abbrev cX8_yearsOf : ByteArray := prog_10_method_81_code
def yX8_yearsOf : MethodName := ⟨RX8, "yearsOf", "(III)I"⟩
abbrev cX8_years : ByteArray := prog_10_method_82_code
def yX8_years : MethodName := ⟨RX8, "years", "(III)I"⟩
abbrev cX8_meets : ByteArray := prog_10_method_83_code
def yX8_meets : MethodName := ⟨RX8, "meets", "(I)I"⟩
abbrev cX8_isSheet : ByteArray := prog_10_method_84_code
def yX8_isSheet : MethodName := ⟨RX8, "isSheet", "(I)Z"⟩
abbrev cX8_sheet : ByteArray := prog_10_method_85_code
def yX8_sheet : MethodName := ⟨RX8, "sheet", "(III)I"⟩
abbrev cX8_lose : ByteArray := prog_10_method_86_code
def yX8_lose : MethodName := ⟨RX8, "lose", "(I)I"⟩
abbrev cX8_lacks : ByteArray := prog_10_method_87_code
def yX8_lacks : MethodName := ⟨RX8, "lacks", "(III)I"⟩
abbrev cX8_keep : ByteArray := prog_10_method_88_code
def yX8_keep : MethodName := ⟨RX8, "keep", "(III)V"⟩
abbrev cX8_put : ByteArray := prog_10_method_89_code
def yX8_put : MethodName := ⟨RX8, "put", "(IIII)I"⟩
abbrev cX8_get : ByteArray := prog_10_method_90_code
def yX8_get : MethodName := ⟨RX8, "get", "(III)I"⟩
abbrev cX8_copy : ByteArray := prog_10_method_91_code
def yX8_copy : MethodName := ⟨RX8, "copy", "(IIIII)I"⟩
abbrev cX8_write : ByteArray := prog_10_method_92_code
def yX8_write : MethodName := ⟨RX8, "write", "(I)I"⟩
abbrev cX8_tellOf : ByteArray := prog_10_method_93_code
def yX8_tellOf : MethodName := ⟨RX8, "tellOf", "(I)I"⟩
abbrev cX8_count : ByteArray := prog_10_method_94_code
def yX8_count : MethodName := ⟨RX8, "count", "(I)I"⟩
abbrev cX8_beatDigest : ByteArray := prog_10_method_95_code
def yX8_beatDigest : MethodName := ⟨RX8, "beatDigest", "(JII)J"⟩
abbrev cX8_pullerDigest : ByteArray := prog_10_method_96_code
def yX8_pullerDigest : MethodName := ⟨RX8, "pullerDigest", "(JI)J"⟩
abbrev cX8_teamDigest : ByteArray := prog_10_method_97_code
def yX8_teamDigest : MethodName := ⟨RX8, "teamDigest", "(JI)J"⟩
abbrev cX8_digest : ByteArray := prog_10_method_98_code
def yX8_digest : MethodName := ⟨RX8, "digest", "()J"⟩
def RJ9 : String := "java/lang/Math"
def TJ9 : u_T := fun k => match k with
  | _ => ("", "", "", false)
def tyJ9 : Nat → FieldType := fun k => match k with
  | _ => .int
abbrev wsJ90 : List Cond := u_ws RJ9 TJ9 0
theorem nmJ9 : ∀ a, a < 0 → ∀ b, b < 0 → a ≠ b → (TJ9 a).2.1 ≠ (TJ9 b).2.1 := by decide +kernel
theorem tyJ9_ok : ∀ k, k < 0 → parseFieldDescriptor (TJ9 k).2.2.1 = some (tyJ9 k) := by decide +kernel
abbrev cJ9_max_7cf53 : ByteArray := prog_11_method_65_code
def yJ9_max_7cf53 : MethodName := ⟨RJ9, "max", "(II)I"⟩
abbrev cJ9_min_7cf53 : ByteArray := prog_11_method_69_code
def yJ9_min_7cf53 : MethodName := ⟨RJ9, "min", "(II)I"⟩
def RJ10 : String := "java/lang/System"
def TJ10 : u_T := fun k => match k with
  | _ => ("", "", "", false)
def tyJ10 : Nat → FieldType := fun k => match k with
  | _ => .int
abbrev wsJ100 : List Cond := u_ws RJ10 TJ10 0
theorem nmJ10 : ∀ a, a < 0 → ∀ b, b < 0 → a ≠ b → (TJ10 a).2.1 ≠ (TJ10 b).2.1 := by decide +kernel
theorem tyJ10_ok : ∀ k, k < 0 → parseFieldDescriptor (TJ10 k).2.2.1 = some (tyJ10 k) := by decide +kernel
def RL : String := "TugOfWarLaw"
abbrev cL_law : ByteArray := code
def yL_law : MethodName := ⟨RL, "law", "([I)Z"⟩
abbrev vwCl : List vw_C := [(RX0, TX0, 4), (RX1, TX1, 9), (RX2, TX2, 12), (RX3, TX3, 5), (RX4, TX4, 3), (RX5, TX5, 3), (RX6, TX6, 2), (RX7, TX7, 12), (RX8, TX8, 47)]
