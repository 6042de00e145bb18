section
-- ===== PART A: goes FIRST, ahead of the names: the tables' words, and 'selects' of the private methods out of them =====
/-- a private method of a class that the tables say can be made, by its rows of tables_1 -/
def lw_okq (q : MethodName × Nat) : Prop := (q.1.cls ≠ "java/lang/invoke/MethodHandle" ∧ q.1.cls ≠ "java/lang/invoke/VarHandle") ∧ Cond.instantiable q.1.cls q.2 ∈ tables_1 ∧ Cond.privateMethod q.1 ∈ tables_1 ∧ Cond.instanceMethod q.1 ∈ tables_1
theorem lw_p0 : lw_okq (⟨"TugOfWar", "playTexts", "()V"⟩, 12) := ⟨⟨by decide +kernel, by decide +kernel⟩, List.mem_of_getElem? (i := 13) (by decide +kernel), List.mem_of_getElem? (i := 220) (by decide +kernel), List.mem_of_getElem? (i := 221) (by decide +kernel)⟩
theorem lw_p1 : lw_okq (⟨"TugOfWar$Contest", "takeTeam", "(LTugOfWar$Texts;I)V"⟩, 9) := ⟨⟨by decide +kernel, by decide +kernel⟩, List.mem_of_getElem? (i := 68) (by decide +kernel), List.mem_of_getElem? (i := 228) (by decide +kernel), List.mem_of_getElem? (i := 229) (by decide +kernel)⟩
theorem lw_p2 : lw_okq (⟨"TugOfWar$Contest", "takeCalls", "(LTugOfWar$Texts;I)V"⟩, 9) := ⟨⟨by decide +kernel, by decide +kernel⟩, List.mem_of_getElem? (i := 68) (by decide +kernel), List.mem_of_getElem? (i := 254) (by decide +kernel), List.mem_of_getElem? (i := 255) (by decide +kernel)⟩
theorem lw_p3 : lw_okq (⟨"TugOfWar", "playTold", "()V"⟩, 12) := ⟨⟨by decide +kernel, by decide +kernel⟩, List.mem_of_getElem? (i := 13) (by decide +kernel), List.mem_of_getElem? (i := 259) (by decide +kernel), List.mem_of_getElem? (i := 260) (by decide +kernel)⟩
theorem lw_p4 : lw_okq (⟨"TugOfWar$Course", "meetEvents", "(LTugOfWar$Events;I)V"⟩, 12) := ⟨⟨by decide +kernel, by decide +kernel⟩, List.mem_of_getElem? (i := 147) (by decide +kernel), List.mem_of_getElem? (i := 270) (by decide +kernel), List.mem_of_getElem? (i := 271) (by decide +kernel)⟩
theorem lw_p5 : lw_okq (⟨"TugOfWar$Course", "pullOfTeam", "(LTugOfWar$Contest;II)I"⟩, 12) := ⟨⟨by decide +kernel, by decide +kernel⟩, List.mem_of_getElem? (i := 147) (by decide +kernel), List.mem_of_getElem? (i := 281) (by decide +kernel), List.mem_of_getElem? (i := 282) (by decide +kernel)⟩
theorem lw_p6 : lw_okq (⟨"TugOfWar$Course", "forceOf", "(LTugOfWar$Contest;II)I"⟩, 12) := ⟨⟨by decide +kernel, by decide +kernel⟩, List.mem_of_getElem? (i := 147) (by decide +kernel), List.mem_of_getElem? (i := 285) (by decide +kernel), List.mem_of_getElem? (i := 286) (by decide +kernel)⟩
theorem lw_p7 : lw_okq (⟨"TugOfWar$Course", "moveRope", "(II)V"⟩, 12) := ⟨⟨by decide +kernel, by decide +kernel⟩, List.mem_of_getElem? (i := 147) (by decide +kernel), List.mem_of_getElem? (i := 292) (by decide +kernel), List.mem_of_getElem? (i := 293) (by decide +kernel)⟩
theorem lw_p8 : lw_okq (⟨"TugOfWar$Course", "standStill", "(I)V"⟩, 12) := ⟨⟨by decide +kernel, by decide +kernel⟩, List.mem_of_getElem? (i := 147) (by decide +kernel), List.mem_of_getElem? (i := 296) (by decide +kernel), List.mem_of_getElem? (i := 297) (by decide +kernel)⟩
theorem lw_p9 : lw_okq (⟨"TugOfWar", "isPuller", "(I)Z"⟩, 12) := ⟨⟨by decide +kernel, by decide +kernel⟩, List.mem_of_getElem? (i := 13) (by decide +kernel), List.mem_of_getElem? (i := 381) (by decide +kernel), List.mem_of_getElem? (i := 382) (by decide +kernel)⟩
theorem lw_p10 : lw_okq (⟨"TugOfWar", "found", "(I)I"⟩, 12) := ⟨⟨by decide +kernel, by decide +kernel⟩, List.mem_of_getElem? (i := 13) (by decide +kernel), List.mem_of_getElem? (i := 421) (by decide +kernel), List.mem_of_getElem? (i := 422) (by decide +kernel)⟩
theorem lw_p11 : lw_okq (⟨"TugOfWar", "pulledInAll", "(I)I"⟩, 12) := ⟨⟨by decide +kernel, by decide +kernel⟩, List.mem_of_getElem? (i := 13) (by decide +kernel), List.mem_of_getElem? (i := 456) (by decide +kernel), List.mem_of_getElem? (i := 457) (by decide +kernel)⟩
theorem lw_p12 : lw_okq (⟨"TugOfWar", "chooseSwap", "(I)V"⟩, 12) := ⟨⟨by decide +kernel, by decide +kernel⟩, List.mem_of_getElem? (i := 13) (by decide +kernel), List.mem_of_getElem? (i := 498) (by decide +kernel), List.mem_of_getElem? (i := 499) (by decide +kernel)⟩
theorem lw_p13 : lw_okq (⟨"TugOfWar", "chooseOut", "(I)V"⟩, 12) := ⟨⟨by decide +kernel, by decide +kernel⟩, List.mem_of_getElem? (i := 13) (by decide +kernel), List.mem_of_getElem? (i := 506) (by decide +kernel), List.mem_of_getElem? (i := 507) (by decide +kernel)⟩
theorem lw_p14 : lw_okq (⟨"TugOfWar", "chooseSpare", "()I"⟩, 12) := ⟨⟨by decide +kernel, by decide +kernel⟩, List.mem_of_getElem? (i := 13) (by decide +kernel), List.mem_of_getElem? (i := 518) (by decide +kernel), List.mem_of_getElem? (i := 519) (by decide +kernel)⟩
theorem lw_p15 : lw_okq (⟨"TugOfWar", "winnerWithout", "(I)I"⟩, 12) := ⟨⟨by decide +kernel, by decide +kernel⟩, List.mem_of_getElem? (i := 13) (by decide +kernel), List.mem_of_getElem? (i := 522) (by decide +kernel), List.mem_of_getElem? (i := 523) (by decide +kernel)⟩
def lw_privs_1 : List (MethodName × Nat) := [(⟨"TugOfWar", "playTexts", "()V"⟩, 12), (⟨"TugOfWar$Contest", "takeTeam", "(LTugOfWar$Texts;I)V"⟩, 9), (⟨"TugOfWar$Contest", "takeCalls", "(LTugOfWar$Texts;I)V"⟩, 9), (⟨"TugOfWar", "playTold", "()V"⟩, 12), (⟨"TugOfWar$Course", "meetEvents", "(LTugOfWar$Events;I)V"⟩, 12), (⟨"TugOfWar$Course", "pullOfTeam", "(LTugOfWar$Contest;II)I"⟩, 12), (⟨"TugOfWar$Course", "forceOf", "(LTugOfWar$Contest;II)I"⟩, 12), (⟨"TugOfWar$Course", "moveRope", "(II)V"⟩, 12), (⟨"TugOfWar$Course", "standStill", "(I)V"⟩, 12), (⟨"TugOfWar", "isPuller", "(I)Z"⟩, 12), (⟨"TugOfWar", "found", "(I)I"⟩, 12), (⟨"TugOfWar", "pulledInAll", "(I)I"⟩, 12), (⟨"TugOfWar", "chooseSwap", "(I)V"⟩, 12), (⟨"TugOfWar", "chooseOut", "(I)V"⟩, 12), (⟨"TugOfWar", "chooseSpare", "()I"⟩, 12), (⟨"TugOfWar", "winnerWithout", "(I)I"⟩, 12)]
theorem lw_r1 : ∀ q ∈ lw_privs_1, lw_okq q := List.forall_mem_cons.mpr ⟨lw_p0, List.forall_mem_cons.mpr ⟨lw_p1, List.forall_mem_cons.mpr ⟨lw_p2, List.forall_mem_cons.mpr ⟨lw_p3, List.forall_mem_cons.mpr ⟨lw_p4, List.forall_mem_cons.mpr ⟨lw_p5, List.forall_mem_cons.mpr ⟨lw_p6, List.forall_mem_cons.mpr ⟨lw_p7, List.forall_mem_cons.mpr ⟨lw_p8, List.forall_mem_cons.mpr ⟨lw_p9, List.forall_mem_cons.mpr ⟨lw_p10, List.forall_mem_cons.mpr ⟨lw_p11, List.forall_mem_cons.mpr ⟨lw_p12, List.forall_mem_cons.mpr ⟨lw_p13, List.forall_mem_cons.mpr ⟨lw_p14, List.forall_mem_cons.mpr ⟨lw_p15, fun _ h => absurd h List.not_mem_nil⟩⟩⟩⟩⟩⟩⟩⟩⟩⟩⟩⟩⟩⟩⟩⟩
theorem lw_p16 : lw_okq (⟨"TugOfWar", "weightsThatFit", "(I)I"⟩, 12) := ⟨⟨by decide +kernel, by decide +kernel⟩, List.mem_of_getElem? (i := 13) (by decide +kernel), List.mem_of_getElem? (i := 550) (by decide +kernel), List.mem_of_getElem? (i := 551) (by decide +kernel)⟩
theorem lw_p17 : lw_okq (⟨"TugOfWar", "sortsThatFit", "(I)I"⟩, 12) := ⟨⟨by decide +kernel, by decide +kernel⟩, List.mem_of_getElem? (i := 13) (by decide +kernel), List.mem_of_getElem? (i := 554) (by decide +kernel), List.mem_of_getElem? (i := 555) (by decide +kernel)⟩
theorem lw_p18 : lw_okq (⟨"TugOfWar", "greatestLikeness", "(II)I"⟩, 12) := ⟨⟨by decide +kernel, by decide +kernel⟩, List.mem_of_getElem? (i := 13) (by decide +kernel), List.mem_of_getElem? (i := 562) (by decide +kernel), List.mem_of_getElem? (i := 563) (by decide +kernel)⟩
theorem lw_p19 : lw_okq (⟨"TugOfWar", "refreshWinners", "()V"⟩, 12) := ⟨⟨by decide +kernel, by decide +kernel⟩, List.mem_of_getElem? (i := 13) (by decide +kernel), List.mem_of_getElem? (i := 571) (by decide +kernel), List.mem_of_getElem? (i := 572) (by decide +kernel)⟩
theorem lw_p20 : lw_okq (⟨"TugOfWar", "waysToWin", "(II)J"⟩, 12) := ⟨⟨by decide +kernel, by decide +kernel⟩, List.mem_of_getElem? (i := 13) (by decide +kernel), List.mem_of_getElem? (i := 575) (by decide +kernel), List.mem_of_getElem? (i := 576) (by decide +kernel)⟩
theorem lw_p21 : lw_okq (⟨"TugOfWar", "waysToMiss", "(II)J"⟩, 12) := ⟨⟨by decide +kernel, by decide +kernel⟩, List.mem_of_getElem? (i := 13) (by decide +kernel), List.mem_of_getElem? (i := 579) (by decide +kernel), List.mem_of_getElem? (i := 580) (by decide +kernel)⟩
theorem lw_p22 : lw_okq (⟨"TugOfWar", "withBeat", "(JI)J"⟩, 12) := ⟨⟨by decide +kernel, by decide +kernel⟩, List.mem_of_getElem? (i := 13) (by decide +kernel), List.mem_of_getElem? (i := 662) (by decide +kernel), List.mem_of_getElem? (i := 663) (by decide +kernel)⟩
theorem lw_p23 : lw_okq (⟨"TugOfWar", "withPuller", "(JI)J"⟩, 12) := ⟨⟨by decide +kernel, by decide +kernel⟩, List.mem_of_getElem? (i := 13) (by decide +kernel), List.mem_of_getElem? (i := 668) (by decide +kernel), List.mem_of_getElem? (i := 669) (by decide +kernel)⟩
theorem lw_p24 : lw_okq (⟨"TugOfWar", "withTeam", "(JI)J"⟩, 12) := ⟨⟨by decide +kernel, by decide +kernel⟩, List.mem_of_getElem? (i := 13) (by decide +kernel), List.mem_of_getElem? (i := 679) (by decide +kernel), List.mem_of_getElem? (i := 680) (by decide +kernel)⟩
theorem lw_p25 : lw_okq (⟨"TugOfWarModel", "faultOf", "(I)I"⟩, 47) := ⟨⟨by decide +kernel, by decide +kernel⟩, List.mem_of_getElem? (i := 695) (by decide +kernel), List.mem_of_getElem? (i := 865) (by decide +kernel), List.mem_of_getElem? (i := 866) (by decide +kernel)⟩
theorem lw_p26 : lw_okq (⟨"TugOfWarModel", "readsTeam", "(I)I"⟩, 47) := ⟨⟨by decide +kernel, by decide +kernel⟩, List.mem_of_getElem? (i := 695) (by decide +kernel), List.mem_of_getElem? (i := 869) (by decide +kernel), List.mem_of_getElem? (i := 870) (by decide +kernel)⟩
theorem lw_p27 : lw_okq (⟨"TugOfWarModel", "readsPuller", "(III)I"⟩, 47) := ⟨⟨by decide +kernel, by decide +kernel⟩, List.mem_of_getElem? (i := 695) (by decide +kernel), List.mem_of_getElem? (i := 873) (by decide +kernel), List.mem_of_getElem? (i := 874) (by decide +kernel)⟩
theorem lw_p28 : lw_okq (⟨"TugOfWarModel", "byteAt", "(II)I"⟩, 47) := ⟨⟨by decide +kernel, by decide +kernel⟩, List.mem_of_getElem? (i := 695) (by decide +kernel), List.mem_of_getElem? (i := 877) (by decide +kernel), List.mem_of_getElem? (i := 878) (by decide +kernel)⟩
theorem lw_p29 : lw_okq (⟨"TugOfWarModel", "readsCalls", "(I)I"⟩, 47) := ⟨⟨by decide +kernel, by decide +kernel⟩, List.mem_of_getElem? (i := 695) (by decide +kernel), List.mem_of_getElem? (i := 881) (by decide +kernel), List.mem_of_getElem? (i := 882) (by decide +kernel)⟩
theorem lw_p30 : lw_okq (⟨"TugOfWarModel", "isPuller", "(I)Z"⟩, 47) := ⟨⟨by decide +kernel, by decide +kernel⟩, List.mem_of_getElem? (i := 695) (by decide +kernel), List.mem_of_getElem? (i := 892) (by decide +kernel), List.mem_of_getElem? (i := 893) (by decide +kernel)⟩
theorem lw_p31 : lw_okq (⟨"TugOfWarModel", "reads", "()V"⟩, 47) := ⟨⟨by decide +kernel, by decide +kernel⟩, List.mem_of_getElem? (i := 695) (by decide +kernel), List.mem_of_getElem? (i := 896) (by decide +kernel), List.mem_of_getElem? (i := 897) (by decide +kernel)⟩
def lw_privs_2 : List (MethodName × Nat) := [(⟨"TugOfWar", "weightsThatFit", "(I)I"⟩, 12), (⟨"TugOfWar", "sortsThatFit", "(I)I"⟩, 12), (⟨"TugOfWar", "greatestLikeness", "(II)I"⟩, 12), (⟨"TugOfWar", "refreshWinners", "()V"⟩, 12), (⟨"TugOfWar", "waysToWin", "(II)J"⟩, 12), (⟨"TugOfWar", "waysToMiss", "(II)J"⟩, 12), (⟨"TugOfWar", "withBeat", "(JI)J"⟩, 12), (⟨"TugOfWar", "withPuller", "(JI)J"⟩, 12), (⟨"TugOfWar", "withTeam", "(JI)J"⟩, 12), (⟨"TugOfWarModel", "faultOf", "(I)I"⟩, 47), (⟨"TugOfWarModel", "readsTeam", "(I)I"⟩, 47), (⟨"TugOfWarModel", "readsPuller", "(III)I"⟩, 47), (⟨"TugOfWarModel", "byteAt", "(II)I"⟩, 47), (⟨"TugOfWarModel", "readsCalls", "(I)I"⟩, 47), (⟨"TugOfWarModel", "isPuller", "(I)Z"⟩, 47), (⟨"TugOfWarModel", "reads", "()V"⟩, 47)]
theorem lw_r2 : ∀ q ∈ lw_privs_2, lw_okq q := List.forall_mem_cons.mpr ⟨lw_p16, List.forall_mem_cons.mpr ⟨lw_p17, List.forall_mem_cons.mpr ⟨lw_p18, List.forall_mem_cons.mpr ⟨lw_p19, List.forall_mem_cons.mpr ⟨lw_p20, List.forall_mem_cons.mpr ⟨lw_p21, List.forall_mem_cons.mpr ⟨lw_p22, List.forall_mem_cons.mpr ⟨lw_p23, List.forall_mem_cons.mpr ⟨lw_p24, List.forall_mem_cons.mpr ⟨lw_p25, List.forall_mem_cons.mpr ⟨lw_p26, List.forall_mem_cons.mpr ⟨lw_p27, List.forall_mem_cons.mpr ⟨lw_p28, List.forall_mem_cons.mpr ⟨lw_p29, List.forall_mem_cons.mpr ⟨lw_p30, List.forall_mem_cons.mpr ⟨lw_p31, fun _ h => absurd h List.not_mem_nil⟩⟩⟩⟩⟩⟩⟩⟩⟩⟩⟩⟩⟩⟩⟩⟩
theorem lw_p32 : lw_okq (⟨"TugOfWarModel", "isThereOne", "(I)Z"⟩, 47) := ⟨⟨by decide +kernel, by decide +kernel⟩, List.mem_of_getElem? (i := 695) (by decide +kernel), List.mem_of_getElem? (i := 900) (by decide +kernel), List.mem_of_getElem? (i := 901) (by decide +kernel)⟩
theorem lw_p33 : lw_okq (⟨"TugOfWarModel", "pullerOf", "(II)I"⟩, 47) := ⟨⟨by decide +kernel, by decide +kernel⟩, List.mem_of_getElem? (i := 695) (by decide +kernel), List.mem_of_getElem? (i := 907) (by decide +kernel), List.mem_of_getElem? (i := 908) (by decide +kernel)⟩
theorem lw_p34 : lw_okq (⟨"TugOfWarModel", "callOf", "(II)I"⟩, 47) := ⟨⟨by decide +kernel, by decide +kernel⟩, List.mem_of_getElem? (i := 695) (by decide +kernel), List.mem_of_getElem? (i := 921) (by decide +kernel), List.mem_of_getElem? (i := 922) (by decide +kernel)⟩
theorem lw_p35 : lw_okq (⟨"TugOfWarModel", "meets", "(I)I"⟩, 47) := ⟨⟨by decide +kernel, by decide +kernel⟩, List.mem_of_getElem? (i := 695) (by decide +kernel), List.mem_of_getElem? (i := 944) (by decide +kernel), List.mem_of_getElem? (i := 945) (by decide +kernel)⟩
theorem lw_p36 : lw_okq (⟨"TugOfWarModel", "ropeOf", "(II)I"⟩, 47) := ⟨⟨by decide +kernel, by decide +kernel⟩, List.mem_of_getElem? (i := 695) (by decide +kernel), List.mem_of_getElem? (i := 953) (by decide +kernel), List.mem_of_getElem? (i := 954) (by decide +kernel)⟩
theorem lw_p37 : lw_okq (⟨"TugOfWarModel", "runsTold", "()V"⟩, 47) := ⟨⟨by decide +kernel, by decide +kernel⟩, List.mem_of_getElem? (i := 695) (by decide +kernel), List.mem_of_getElem? (i := 957) (by decide +kernel), List.mem_of_getElem? (i := 958) (by decide +kernel)⟩
theorem lw_p38 : lw_okq (⟨"TugOfWarModel", "asTold", "()V"⟩, 47) := ⟨⟨by decide +kernel, by decide +kernel⟩, List.mem_of_getElem? (i := 695) (by decide +kernel), List.mem_of_getElem? (i := 961) (by decide +kernel), List.mem_of_getElem? (i := 962) (by decide +kernel)⟩
theorem lw_p39 : lw_okq (⟨"TugOfWarModel", "runs", "()V"⟩, 47) := ⟨⟨by decide +kernel, by decide +kernel⟩, List.mem_of_getElem? (i := 695) (by decide +kernel), List.mem_of_getElem? (i := 965) (by decide +kernel), List.mem_of_getElem? (i := 966) (by decide +kernel)⟩
theorem lw_p40 : lw_okq (⟨"TugOfWarModel", "isHere", "(I)Z"⟩, 47) := ⟨⟨by decide +kernel, by decide +kernel⟩, List.mem_of_getElem? (i := 695) (by decide +kernel), List.mem_of_getElem? (i := 969) (by decide +kernel), List.mem_of_getElem? (i := 970) (by decide +kernel)⟩
theorem lw_p41 : lw_okq (⟨"TugOfWarModel", "goesBy", "(I)V"⟩, 47) := ⟨⟨by decide +kernel, by decide +kernel⟩, List.mem_of_getElem? (i := 695) (by decide +kernel), List.mem_of_getElem? (i := 973) (by decide +kernel), List.mem_of_getElem? (i := 974) (by decide +kernel)⟩
theorem lw_p42 : lw_okq (⟨"TugOfWarModel", "befalls", "(I)V"⟩, 47) := ⟨⟨by decide +kernel, by decide +kernel⟩, List.mem_of_getElem? (i := 695) (by decide +kernel), List.mem_of_getElem? (i := 977) (by decide +kernel), List.mem_of_getElem? (i := 978) (by decide +kernel)⟩
theorem lw_p43 : lw_okq (⟨"TugOfWarModel", "pullsOne", "(II)V"⟩, 47) := ⟨⟨by decide +kernel, by decide +kernel⟩, List.mem_of_getElem? (i := 695) (by decide +kernel), List.mem_of_getElem? (i := 984) (by decide +kernel), List.mem_of_getElem? (i := 985) (by decide +kernel)⟩
theorem lw_p44 : lw_okq (⟨"TugOfWarModel", "strength", "(II)I"⟩, 47) := ⟨⟨by decide +kernel, by decide +kernel⟩, List.mem_of_getElem? (i := 695) (by decide +kernel), List.mem_of_getElem? (i := 988) (by decide +kernel), List.mem_of_getElem? (i := 989) (by decide +kernel)⟩
theorem lw_p45 : lw_okq (⟨"TugOfWarModel", "goes", "(I)V"⟩, 47) := ⟨⟨by decide +kernel, by decide +kernel⟩, List.mem_of_getElem? (i := 695) (by decide +kernel), List.mem_of_getElem? (i := 992) (by decide +kernel), List.mem_of_getElem? (i := 993) (by decide +kernel)⟩
theorem lw_p46 : lw_okq (⟨"TugOfWarModel", "atOf", "(III)I"⟩, 47) := ⟨⟨by decide +kernel, by decide +kernel⟩, List.mem_of_getElem? (i := 695) (by decide +kernel), List.mem_of_getElem? (i := 1000) (by decide +kernel), List.mem_of_getElem? (i := 1001) (by decide +kernel)⟩
theorem lw_p47 : lw_okq (⟨"TugOfWarModel", "wonOf", "(I)I"⟩, 47) := ⟨⟨by decide +kernel, by decide +kernel⟩, List.mem_of_getElem? (i := 695) (by decide +kernel), List.mem_of_getElem? (i := 1008) (by decide +kernel), List.mem_of_getElem? (i := 1009) (by decide +kernel)⟩
def lw_privs_3 : List (MethodName × Nat) := [(⟨"TugOfWarModel", "isThereOne", "(I)Z"⟩, 47), (⟨"TugOfWarModel", "pullerOf", "(II)I"⟩, 47), (⟨"TugOfWarModel", "callOf", "(II)I"⟩, 47), (⟨"TugOfWarModel", "meets", "(I)I"⟩, 47), (⟨"TugOfWarModel", "ropeOf", "(II)I"⟩, 47), (⟨"TugOfWarModel", "runsTold", "()V"⟩, 47), (⟨"TugOfWarModel", "asTold", "()V"⟩, 47), (⟨"TugOfWarModel", "runs", "()V"⟩, 47), (⟨"TugOfWarModel", "isHere", "(I)Z"⟩, 47), (⟨"TugOfWarModel", "goesBy", "(I)V"⟩, 47), (⟨"TugOfWarModel", "befalls", "(I)V"⟩, 47), (⟨"TugOfWarModel", "pullsOne", "(II)V"⟩, 47), (⟨"TugOfWarModel", "strength", "(II)I"⟩, 47), (⟨"TugOfWarModel", "goes", "(I)V"⟩, 47), (⟨"TugOfWarModel", "atOf", "(III)I"⟩, 47), (⟨"TugOfWarModel", "wonOf", "(I)I"⟩, 47)]
theorem lw_r3 : ∀ q ∈ lw_privs_3, lw_okq q := List.forall_mem_cons.mpr ⟨lw_p32, List.forall_mem_cons.mpr ⟨lw_p33, List.forall_mem_cons.mpr ⟨lw_p34, List.forall_mem_cons.mpr ⟨lw_p35, List.forall_mem_cons.mpr ⟨lw_p36, List.forall_mem_cons.mpr ⟨lw_p37, List.forall_mem_cons.mpr ⟨lw_p38, List.forall_mem_cons.mpr ⟨lw_p39, List.forall_mem_cons.mpr ⟨lw_p40, List.forall_mem_cons.mpr ⟨lw_p41, List.forall_mem_cons.mpr ⟨lw_p42, List.forall_mem_cons.mpr ⟨lw_p43, List.forall_mem_cons.mpr ⟨lw_p44, List.forall_mem_cons.mpr ⟨lw_p45, List.forall_mem_cons.mpr ⟨lw_p46, List.forall_mem_cons.mpr ⟨lw_p47, fun _ h => absurd h List.not_mem_nil⟩⟩⟩⟩⟩⟩⟩⟩⟩⟩⟩⟩⟩⟩⟩⟩
theorem lw_p48 : lw_okq (⟨"TugOfWarModel", "furthestOf", "(I)I"⟩, 47) := ⟨⟨by decide +kernel, by decide +kernel⟩, List.mem_of_getElem? (i := 695) (by decide +kernel), List.mem_of_getElem? (i := 1016) (by decide +kernel), List.mem_of_getElem? (i := 1017) (by decide +kernel)⟩
theorem lw_p49 : lw_okq (⟨"TugOfWarModel", "doneOf", "(I)I"⟩, 47) := ⟨⟨by decide +kernel, by decide +kernel⟩, List.mem_of_getElem? (i := 695) (by decide +kernel), List.mem_of_getElem? (i := 1024) (by decide +kernel), List.mem_of_getElem? (i := 1025) (by decide +kernel)⟩
theorem lw_p50 : lw_okq (⟨"TugOfWarModel", "spentOf", "()I"⟩, 47) := ⟨⟨by decide +kernel, by decide +kernel⟩, List.mem_of_getElem? (i := 695) (by decide +kernel), List.mem_of_getElem? (i := 1032) (by decide +kernel), List.mem_of_getElem? (i := 1033) (by decide +kernel)⟩
theorem lw_p51 : lw_okq (⟨"TugOfWarModel", "bestOf", "()I"⟩, 47) := ⟨⟨by decide +kernel, by decide +kernel⟩, List.mem_of_getElem? (i := 695) (by decide +kernel), List.mem_of_getElem? (i := 1040) (by decide +kernel), List.mem_of_getElem? (i := 1041) (by decide +kernel)⟩
theorem lw_p52 : lw_okq (⟨"TugOfWarModel", "levelOf", "()I"⟩, 47) := ⟨⟨by decide +kernel, by decide +kernel⟩, List.mem_of_getElem? (i := 695) (by decide +kernel), List.mem_of_getElem? (i := 1048) (by decide +kernel), List.mem_of_getElem? (i := 1049) (by decide +kernel)⟩
theorem lw_p53 : lw_okq (⟨"TugOfWarModel", "betterOf", "(III)I"⟩, 47) := ⟨⟨by decide +kernel, by decide +kernel⟩, List.mem_of_getElem? (i := 695) (by decide +kernel), List.mem_of_getElem? (i := 1056) (by decide +kernel), List.mem_of_getElem? (i := 1057) (by decide +kernel)⟩
theorem lw_p54 : lw_okq (⟨"TugOfWarModel", "starts", "()V"⟩, 47) := ⟨⟨by decide +kernel, by decide +kernel⟩, List.mem_of_getElem? (i := 695) (by decide +kernel), List.mem_of_getElem? (i := 1060) (by decide +kernel), List.mem_of_getElem? (i := 1061) (by decide +kernel)⟩
theorem lw_p55 : lw_okq (⟨"TugOfWarModel", "tries", "(II)V"⟩, 47) := ⟨⟨by decide +kernel, by decide +kernel⟩, List.mem_of_getElem? (i := 695) (by decide +kernel), List.mem_of_getElem? (i := 1064) (by decide +kernel), List.mem_of_getElem? (i := 1065) (by decide +kernel)⟩
theorem lw_p56 : lw_okq (⟨"TugOfWarModel", "swapOf", "(II)I"⟩, 47) := ⟨⟨by decide +kernel, by decide +kernel⟩, List.mem_of_getElem? (i := 695) (by decide +kernel), List.mem_of_getElem? (i := 1072) (by decide +kernel), List.mem_of_getElem? (i := 1073) (by decide +kernel)⟩
theorem lw_p57 : lw_okq (⟨"TugOfWarModel", "outOf", "(II)I"⟩, 47) := ⟨⟨by decide +kernel, by decide +kernel⟩, List.mem_of_getElem? (i := 695) (by decide +kernel), List.mem_of_getElem? (i := 1080) (by decide +kernel), List.mem_of_getElem? (i := 1081) (by decide +kernel)⟩
theorem lw_p58 : lw_okq (⟨"TugOfWarModel", "spareBy", "()I"⟩, 47) := ⟨⟨by decide +kernel, by decide +kernel⟩, List.mem_of_getElem? (i := 695) (by decide +kernel), List.mem_of_getElem? (i := 1088) (by decide +kernel), List.mem_of_getElem? (i := 1089) (by decide +kernel)⟩
theorem lw_p59 : lw_okq (⟨"TugOfWarModel", "isSpared", "(I)Z"⟩, 47) := ⟨⟨by decide +kernel, by decide +kernel⟩, List.mem_of_getElem? (i := 695) (by decide +kernel), List.mem_of_getElem? (i := 1092) (by decide +kernel), List.mem_of_getElem? (i := 1093) (by decide +kernel)⟩
theorem lw_p60 : lw_okq (⟨"TugOfWarModel", "ofRow", "(II)I"⟩, 47) := ⟨⟨by decide +kernel, by decide +kernel⟩, List.mem_of_getElem? (i := 695) (by decide +kernel), List.mem_of_getElem? (i := 1096) (by decide +kernel), List.mem_of_getElem? (i := 1097) (by decide +kernel)⟩
theorem lw_p61 : lw_okq (⟨"TugOfWarModel", "neverNow", "()I"⟩, 47) := ⟨⟨by decide +kernel, by decide +kernel⟩, List.mem_of_getElem? (i := 695) (by decide +kernel), List.mem_of_getElem? (i := 1112) (by decide +kernel), List.mem_of_getElem? (i := 1113) (by decide +kernel)⟩
theorem lw_p62 : lw_okq (⟨"TugOfWarModel", "isSeen", "()Z"⟩, 47) := ⟨⟨by decide +kernel, by decide +kernel⟩, List.mem_of_getElem? (i := 695) (by decide +kernel), List.mem_of_getElem? (i := 1116) (by decide +kernel), List.mem_of_getElem? (i := 1117) (by decide +kernel)⟩
theorem lw_p63 : lw_okq (⟨"TugOfWarModel", "weightsBy", "(I)I"⟩, 47) := ⟨⟨by decide +kernel, by decide +kernel⟩, List.mem_of_getElem? (i := 695) (by decide +kernel), List.mem_of_getElem? (i := 1124) (by decide +kernel), List.mem_of_getElem? (i := 1125) (by decide +kernel)⟩
def lw_privs_4 : List (MethodName × Nat) := [(⟨"TugOfWarModel", "furthestOf", "(I)I"⟩, 47), (⟨"TugOfWarModel", "doneOf", "(I)I"⟩, 47), (⟨"TugOfWarModel", "spentOf", "()I"⟩, 47), (⟨"TugOfWarModel", "bestOf", "()I"⟩, 47), (⟨"TugOfWarModel", "levelOf", "()I"⟩, 47), (⟨"TugOfWarModel", "betterOf", "(III)I"⟩, 47), (⟨"TugOfWarModel", "starts", "()V"⟩, 47), (⟨"TugOfWarModel", "tries", "(II)V"⟩, 47), (⟨"TugOfWarModel", "swapOf", "(II)I"⟩, 47), (⟨"TugOfWarModel", "outOf", "(II)I"⟩, 47), (⟨"TugOfWarModel", "spareBy", "()I"⟩, 47), (⟨"TugOfWarModel", "isSpared", "(I)Z"⟩, 47), (⟨"TugOfWarModel", "ofRow", "(II)I"⟩, 47), (⟨"TugOfWarModel", "neverNow", "()I"⟩, 47), (⟨"TugOfWarModel", "isSeen", "()Z"⟩, 47), (⟨"TugOfWarModel", "weightsBy", "(I)I"⟩, 47)]
theorem lw_r4 : ∀ q ∈ lw_privs_4, lw_okq q := List.forall_mem_cons.mpr ⟨lw_p48, List.forall_mem_cons.mpr ⟨lw_p49, List.forall_mem_cons.mpr ⟨lw_p50, List.forall_mem_cons.mpr ⟨lw_p51, List.forall_mem_cons.mpr ⟨lw_p52, List.forall_mem_cons.mpr ⟨lw_p53, List.forall_mem_cons.mpr ⟨lw_p54, List.forall_mem_cons.mpr ⟨lw_p55, List.forall_mem_cons.mpr ⟨lw_p56, List.forall_mem_cons.mpr ⟨lw_p57, List.forall_mem_cons.mpr ⟨lw_p58, List.forall_mem_cons.mpr ⟨lw_p59, List.forall_mem_cons.mpr ⟨lw_p60, List.forall_mem_cons.mpr ⟨lw_p61, List.forall_mem_cons.mpr ⟨lw_p62, List.forall_mem_cons.mpr ⟨lw_p63, fun _ h => absurd h List.not_mem_nil⟩⟩⟩⟩⟩⟩⟩⟩⟩⟩⟩⟩⟩⟩⟩⟩
theorem lw_p64 : lw_okq (⟨"TugOfWarModel", "sortsBy", "(I)I"⟩, 47) := ⟨⟨by decide +kernel, by decide +kernel⟩, List.mem_of_getElem? (i := 695) (by decide +kernel), List.mem_of_getElem? (i := 1128) (by decide +kernel), List.mem_of_getElem? (i := 1129) (by decide +kernel)⟩
theorem lw_p65 : lw_okq (⟨"TugOfWarModel", "askOf", "(I)I"⟩, 47) := ⟨⟨by decide +kernel, by decide +kernel⟩, List.mem_of_getElem? (i := 695) (by decide +kernel), List.mem_of_getElem? (i := 1136) (by decide +kernel), List.mem_of_getElem? (i := 1137) (by decide +kernel)⟩
theorem lw_p66 : lw_okq (⟨"TugOfWarModel", "chanceOf", "(III)J"⟩, 47) := ⟨⟨by decide +kernel, by decide +kernel⟩, List.mem_of_getElem? (i := 695) (by decide +kernel), List.mem_of_getElem? (i := 1144) (by decide +kernel), List.mem_of_getElem? (i := 1145) (by decide +kernel)⟩
theorem lw_p67 : lw_okq (⟨"TugOfWarModel", "yearsOf", "(III)I"⟩, 47) := ⟨⟨by decide +kernel, by decide +kernel⟩, List.mem_of_getElem? (i := 695) (by decide +kernel), List.mem_of_getElem? (i := 1159) (by decide +kernel), List.mem_of_getElem? (i := 1160) (by decide +kernel)⟩
theorem lw_p68 : lw_okq (⟨"TugOfWarModel", "lacks", "(III)I"⟩, 47) := ⟨⟨by decide +kernel, by decide +kernel⟩, List.mem_of_getElem? (i := 695) (by decide +kernel), List.mem_of_getElem? (i := 1176) (by decide +kernel), List.mem_of_getElem? (i := 1177) (by decide +kernel)⟩
theorem lw_p69 : lw_okq (⟨"TugOfWarModel", "keep", "(III)V"⟩, 47) := ⟨⟨by decide +kernel, by decide +kernel⟩, List.mem_of_getElem? (i := 695) (by decide +kernel), List.mem_of_getElem? (i := 1180) (by decide +kernel), List.mem_of_getElem? (i := 1181) (by decide +kernel)⟩
theorem lw_p70 : lw_okq (⟨"TugOfWarModel", "tellOf", "(I)I"⟩, 47) := ⟨⟨by decide +kernel, by decide +kernel⟩, List.mem_of_getElem? (i := 695) (by decide +kernel), List.mem_of_getElem? (i := 1201) (by decide +kernel), List.mem_of_getElem? (i := 1202) (by decide +kernel)⟩
theorem lw_p71 : lw_okq (⟨"TugOfWarModel", "pullerDigest", "(JI)J"⟩, 47) := ⟨⟨by decide +kernel, by decide +kernel⟩, List.mem_of_getElem? (i := 695) (by decide +kernel), List.mem_of_getElem? (i := 1212) (by decide +kernel), List.mem_of_getElem? (i := 1213) (by decide +kernel)⟩
theorem lw_p72 : lw_okq (⟨"TugOfWarModel", "beatDigest", "(JII)J"⟩, 47) := ⟨⟨by decide +kernel, by decide +kernel⟩, List.mem_of_getElem? (i := 695) (by decide +kernel), List.mem_of_getElem? (i := 1216) (by decide +kernel), List.mem_of_getElem? (i := 1217) (by decide +kernel)⟩
theorem lw_p73 : lw_okq (⟨"TugOfWarModel", "teamDigest", "(JI)J"⟩, 47) := ⟨⟨by decide +kernel, by decide +kernel⟩, List.mem_of_getElem? (i := 695) (by decide +kernel), List.mem_of_getElem? (i := 1220) (by decide +kernel), List.mem_of_getElem? (i := 1221) (by decide +kernel)⟩
def lw_privs_5 : List (MethodName × Nat) := [(⟨"TugOfWarModel", "sortsBy", "(I)I"⟩, 47), (⟨"TugOfWarModel", "askOf", "(I)I"⟩, 47), (⟨"TugOfWarModel", "chanceOf", "(III)J"⟩, 47), (⟨"TugOfWarModel", "yearsOf", "(III)I"⟩, 47), (⟨"TugOfWarModel", "lacks", "(III)I"⟩, 47), (⟨"TugOfWarModel", "keep", "(III)V"⟩, 47), (⟨"TugOfWarModel", "tellOf", "(I)I"⟩, 47), (⟨"TugOfWarModel", "pullerDigest", "(JI)J"⟩, 47), (⟨"TugOfWarModel", "beatDigest", "(JII)J"⟩, 47), (⟨"TugOfWarModel", "teamDigest", "(JI)J"⟩, 47)]
theorem lw_r5 : ∀ q ∈ lw_privs_5, lw_okq q := List.forall_mem_cons.mpr ⟨lw_p64, List.forall_mem_cons.mpr ⟨lw_p65, List.forall_mem_cons.mpr ⟨lw_p66, List.forall_mem_cons.mpr ⟨lw_p67, List.forall_mem_cons.mpr ⟨lw_p68, List.forall_mem_cons.mpr ⟨lw_p69, List.forall_mem_cons.mpr ⟨lw_p70, List.forall_mem_cons.mpr ⟨lw_p71, List.forall_mem_cons.mpr ⟨lw_p72, List.forall_mem_cons.mpr ⟨lw_p73, fun _ h => absurd h List.not_mem_nil⟩⟩⟩⟩⟩⟩⟩⟩⟩⟩
def lw_privs : List (MethodName × Nat) := lw_privs_1 ++ (lw_privs_2 ++ (lw_privs_3 ++ (lw_privs_4 ++ (lw_privs_5))))
def lw_tbl : List Cond := k2_sels lw_privs ++ tables_1
theorem lw_privs_ok : ∀ q ∈ lw_privs, lw_okq q := by
  show ∀ q ∈ lw_privs_1 ++ (lw_privs_2 ++ (lw_privs_3 ++ (lw_privs_4 ++ (lw_privs_5)))), lw_okq q
  exact List.forall_mem_append.mpr ⟨lw_r1, List.forall_mem_append.mpr ⟨lw_r2, List.forall_mem_append.mpr ⟨lw_r3, List.forall_mem_append.mpr ⟨lw_r4, lw_r5⟩⟩⟩⟩
def RX0 : String := "TugOfWar$Choice"
def TX0 : u_T := fun k => match k with
  | 0 => ("TugOfWar$Choice", "first", "I", false)
  | 1 => ("TugOfWar$Choice", "second", "I", false)
  | 2 => ("TugOfWar$Choice", "place", "I", false)
  | _ => ("TugOfWar$Choice", "team", "I", false)
def tyX0 : Nat → FieldType := fun k => match k with
  | 0 => .int
  | 1 => .int
  | 2 => .int
  | _ => .int
abbrev wsX00 : List Cond := u_ws RX0 TX0 4
theorem nmX0 : ∀ a, a < 4 → ∀ b, b < 4 → a ≠ b → (TX0 a).2.1 ≠ (TX0 b).2.1 := by decide +kernel
theorem tyX0_ok : ∀ k, k < 4 → parseFieldDescriptor (TX0 k).2.2.1 = some (tyX0 k) := by decide +kernel
abbrev cX0_init : ByteArray := prog_2_method_1_code
def yX0_init : MethodName := ⟨RX0, "<init>", "()V"⟩
abbrev cX0_startFor : ByteArray := prog_2_method_2_code
def yX0_startFor : MethodName := ⟨RX0, "startFor", "(I)V"⟩
abbrev cX0_offer : ByteArray := prog_2_method_3_code
def yX0_offer : MethodName := ⟨RX0, "offer", "(III)V"⟩
def RX1 : String := "TugOfWar$Contest"
def TX1 : u_T := fun k => match k with
  | 0 => ("TugOfWar$Contest", "there", "[Z", true)
  | 1 => ("TugOfWar$Contest", "sort", "[I", true)
  | 2 => ("TugOfWar$Contest", "weight", "[I", true)
  | 3 => ("TugOfWar$Contest", "wind", "[I", true)
  | 4 => ("TugOfWar$Contest", "size", "[I", true)
  | 5 => ("TugOfWar$Contest", "last", "[I", true)
  | 6 => ("TugOfWar$Contest", "called", "[I", true)
  | 7 => ("TugOfWar$Contest", "events", "LTugOfWar$Events;", true)
  | _ => ("TugOfWar$Contest", "mudAtFirst", "I", false)
def tyX1 : Nat → FieldType := fun k => match k with
  | 0 => .array .boolean
  | 1 => .array .int
  | 2 => .array .int
  | 3 => .array .int
  | 4 => .array .int
  | 5 => .array .int
  | 6 => .array .int
  | 7 => .object "TugOfWar$Events"
  | _ => .int
abbrev wsX10 : List Cond := u_ws RX1 TX1 9
theorem nmX1 : ∀ a, a < 9 → ∀ b, b < 9 → a ≠ b → (TX1 a).2.1 ≠ (TX1 b).2.1 := by decide +kernel
theorem tyX1_ok : ∀ k, k < 9 → parseFieldDescriptor (TX1 k).2.2.1 = some (tyX1 k) := by decide +kernel
abbrev cX1_init : ByteArray := prog_3_method_1_code
def yX1_init : MethodName := ⟨RX1, "<init>", "()V"⟩
abbrev cX1_takeTexts : ByteArray := prog_3_method_2_code
def yX1_takeTexts : MethodName := ⟨RX1, "takeTexts", "(LTugOfWar$Texts;)V"⟩
abbrev cX1_takeTeam : ByteArray := prog_3_method_3_code
def yX1_takeTeam : MethodName := ⟨RX1, "takeTeam", "(LTugOfWar$Texts;I)V"⟩
abbrev cX1_takeCalls : ByteArray := prog_3_method_4_code
def yX1_takeCalls : MethodName := ⟨RX1, "takeCalls", "(LTugOfWar$Texts;I)V"⟩
abbrev cX1_becomeLike : ByteArray := prog_3_method_5_code
def yX1_becomeLike : MethodName := ⟨RX1, "becomeLike", "(LTugOfWar$Contest;)V"⟩
abbrev cX1_leaveOut : ByteArray := prog_3_method_6_code
def yX1_leaveOut : MethodName := ⟨RX1, "leaveOut", "(II)V"⟩
def RX2 : String := "TugOfWar$Course"
def TX2 : u_T := fun k => match k with
  | 0 => ("TugOfWar$Course", "rope", "[I", true)
  | 1 => ("TugOfWar$Course", "mud", "[I", true)
  | 2 => ("TugOfWar$Course", "teamPull", "[I", true)
  | 3 => ("TugOfWar$Course", "pull", "[I", true)
  | 4 => ("TugOfWar$Course", "breath", "[I", true)
  | 5 => ("TugOfWar$Course", "winner", "I", false)
  | 6 => ("TugOfWar$Course", "winningBeat", "I", false)
  | 7 => ("TugOfWar$Course", "breathNow", "[I", true)
  | 8 => ("TugOfWar$Course", "place", "I", false)
  | 9 => ("TugOfWar$Course", "mudNow", "I", false)
  | 10 => ("TugOfWar$Course", "slippingNow", "I", false)
  | _ => ("TugOfWar$Course", "dogNow", "Z", false)
def tyX2 : Nat → FieldType := fun k => match k with
  | 0 => .array .int
  | 1 => .array .int
  | 2 => .array .int
  | 3 => .array .int
  | 4 => .array .int
  | 5 => .int
  | 6 => .int
  | 7 => .array .int
  | 8 => .int
  | 9 => .int
  | 10 => .int
  | _ => .boolean
abbrev wsX20 : List Cond := u_ws RX2 TX2 12
theorem nmX2 : ∀ a, a < 12 → ∀ b, b < 12 → a ≠ b → (TX2 a).2.1 ≠ (TX2 b).2.1 := by decide +kernel
theorem tyX2_ok : ∀ k, k < 12 → parseFieldDescriptor (TX2 k).2.2.1 = some (tyX2 k) := by decide +kernel
abbrev cX2_init : ByteArray := prog_4_method_1_code
def yX2_init : MethodName := ⟨RX2, "<init>", "()V"⟩
abbrev cX2_play : ByteArray := prog_4_method_2_code
def yX2_play : MethodName := ⟨RX2, "play", "(LTugOfWar$Contest;)I"⟩
abbrev cX2_meetEvents : ByteArray := prog_4_method_3_code
def yX2_meetEvents : MethodName := ⟨RX2, "meetEvents", "(LTugOfWar$Events;I)V"⟩
abbrev cX2_pullOfTeam : ByteArray := prog_4_method_4_code
def yX2_pullOfTeam : MethodName := ⟨RX2, "pullOfTeam", "(LTugOfWar$Contest;II)I"⟩
abbrev cX2_forceOf : ByteArray := prog_4_method_5_code
def yX2_forceOf : MethodName := ⟨RX2, "forceOf", "(LTugOfWar$Contest;II)I"⟩
abbrev cX2_moveRope : ByteArray := prog_4_method_6_code
def yX2_moveRope : MethodName := ⟨RX2, "moveRope", "(II)V"⟩
abbrev cX2_standStill : ByteArray := prog_4_method_7_code
def yX2_standStill : MethodName := ⟨RX2, "standStill", "(I)V"⟩
def RX3 : String := "TugOfWar$Events"
def TX3 : u_T := fun k => match k with
  | 0 => ("TugOfWar$Events", "kinds", "[I", true)
  | 1 => ("TugOfWar$Events", "beats", "[I", true)
  | 2 => ("TugOfWar$Events", "numbers", "[I", true)
  | 3 => ("TugOfWar$Events", "size", "I", false)
  | _ => ("TugOfWar$Events", "missing", "I", false)
def tyX3 : Nat → FieldType := fun k => match k with
  | 0 => .array .int
  | 1 => .array .int
  | 2 => .array .int
  | 3 => .int
  | _ => .int
abbrev wsX30 : List Cond := u_ws RX3 TX3 5
theorem nmX3 : ∀ a, a < 5 → ∀ b, b < 5 → a ≠ b → (TX3 a).2.1 ≠ (TX3 b).2.1 := by decide +kernel
theorem tyX3_ok : ∀ k, k < 5 → parseFieldDescriptor (TX3 k).2.2.1 = some (tyX3 k) := by decide +kernel
abbrev cX3_init : ByteArray := prog_5_method_1_code
def yX3_init : MethodName := ⟨RX3, "<init>", "()V"⟩
abbrev cX3_mayBe : ByteArray := prog_5_method_2_code
def yX3_mayBe : MethodName := ⟨RX3, "mayBe", "(III)Z"⟩
abbrev cX3_append : ByteArray := prog_5_method_3_code
def yX3_append : MethodName := ⟨RX3, "append", "(III)I"⟩
abbrev cX3_cutLast : ByteArray := prog_5_method_4_code
def yX3_cutLast : MethodName := ⟨RX3, "cutLast", "()I"⟩
abbrev cX3_takeFrom : ByteArray := prog_5_method_5_code
def yX3_takeFrom : MethodName := ⟨RX3, "takeFrom", "(LTugOfWar$Events;)V"⟩
abbrev cX3_happens : ByteArray := prog_5_method_6_code
def yX3_happens : MethodName := ⟨RX3, "happens", "(II)Z"⟩
def RX4 : String := "TugOfWar$Seen"
def TX4 : u_T := fun k => match k with
  | 0 => ("TugOfWar$Seen", "beats", "[I", true)
  | 1 => ("TugOfWar$Seen", "places", "[I", true)
  | _ => ("TugOfWar$Seen", "size", "I", false)
def tyX4 : Nat → FieldType := fun k => match k with
  | 0 => .array .int
  | 1 => .array .int
  | _ => .int
abbrev wsX40 : List Cond := u_ws RX4 TX4 3
theorem nmX4 : ∀ a, a < 3 → ∀ b, b < 3 → a ≠ b → (TX4 a).2.1 ≠ (TX4 b).2.1 := by decide +kernel
theorem tyX4_ok : ∀ k, k < 3 → parseFieldDescriptor (TX4 k).2.2.1 = some (tyX4 k) := by decide +kernel
abbrev cX4_init : ByteArray := prog_6_method_1_code
def yX4_init : MethodName := ⟨RX4, "<init>", "()V"⟩
abbrev cX4_append : ByteArray := prog_6_method_2_code
def yX4_append : MethodName := ⟨RX4, "append", "(II)I"⟩
abbrev cX4_fit : ByteArray := prog_6_method_3_code
def yX4_fit : MethodName := ⟨RX4, "fit", "(LTugOfWar$Course;)Z"⟩
def RX5 : String := "TugOfWar$Sheets"
def TX5 : u_T := fun k => match k with
  | 0 => ("TugOfWar$Sheets", "items", "[I", true)
  | 1 => ("TugOfWar$Sheets", "forms", "[I", true)
  | _ => ("TugOfWar$Sheets", "sizes", "[I", true)
def tyX5 : Nat → FieldType := fun k => match k with
  | 0 => .array .int
  | 1 => .array .int
  | _ => .array .int
abbrev wsX50 : List Cond := u_ws RX5 TX5 3
theorem nmX5 : ∀ a, a < 3 → ∀ b, b < 3 → a ≠ b → (TX5 a).2.1 ≠ (TX5 b).2.1 := by decide +kernel
theorem tyX5_ok : ∀ k, k < 3 → parseFieldDescriptor (TX5 k).2.2.1 = some (tyX5 k) := by decide +kernel
abbrev cX5_init : ByteArray := prog_7_method_1_code
def yX5_init : MethodName := ⟨RX5, "<init>", "()V"⟩
abbrev cX5_isLost : ByteArray := prog_7_method_2_code
def yX5_isLost : MethodName := ⟨RX5, "isLost", "(I)Z"⟩
abbrev cX5_size : ByteArray := prog_7_method_3_code
def yX5_size : MethodName := ⟨RX5, "size", "(I)I"⟩
abbrev cX5_renew : ByteArray := prog_7_method_4_code
def yX5_renew : MethodName := ⟨RX5, "renew", "(III)V"⟩
abbrev cX5_drop : ByteArray := prog_7_method_5_code
def yX5_drop : MethodName := ⟨RX5, "drop", "(I)I"⟩
abbrev cX5_whatIsWrong : ByteArray := prog_7_method_6_code
def yX5_whatIsWrong : MethodName := ⟨RX5, "whatIsWrong", "(III)I"⟩
abbrev cX5_areAlike : ByteArray := prog_7_method_7_code
def yX5_areAlike : MethodName := ⟨RX5, "areAlike", "(II)Z"⟩
abbrev cX5_holds : ByteArray := prog_7_method_8_code
def yX5_holds : MethodName := ⟨RX5, "holds", "(III)Z"⟩
abbrev cX5_item : ByteArray := prog_7_method_9_code
def yX5_item : MethodName := ⟨RX5, "item", "(II)I"⟩
abbrev cX5_store : ByteArray := prog_7_method_10_code
def yX5_store : MethodName := ⟨RX5, "store", "(III)V"⟩
abbrev cX5_move : ByteArray := prog_7_method_11_code
def yX5_move : MethodName := ⟨RX5, "move", "(IIIII)V"⟩
def RX6 : String := "TugOfWar$Texts"
def TX6 : u_T := fun k => match k with
  | 0 => ("TugOfWar$Texts", "bytes", "[I", true)
  | _ => ("TugOfWar$Texts", "lengths", "[I", true)
def tyX6 : Nat → FieldType := fun k => match k with
  | 0 => .array .int
  | _ => .array .int
abbrev wsX60 : List Cond := u_ws RX6 TX6 2
theorem nmX6 : ∀ a, a < 2 → ∀ b, b < 2 → a ≠ b → (TX6 a).2.1 ≠ (TX6 b).2.1 := by decide +kernel
theorem tyX6_ok : ∀ k, k < 2 → parseFieldDescriptor (TX6 k).2.2.1 = some (tyX6 k) := by decide +kernel
abbrev cX6_init : ByteArray := prog_8_method_1_code
def yX6_init : MethodName := ⟨RX6, "<init>", "()V"⟩
abbrev cX6_isFull : ByteArray := prog_8_method_2_code
def yX6_isFull : MethodName := ⟨RX6, "isFull", "(I)Z"⟩
abbrev cX6_append : ByteArray := prog_8_method_3_code
def yX6_append : MethodName := ⟨RX6, "append", "(II)I"⟩
abbrev cX6_clear : ByteArray := prog_8_method_4_code
def yX6_clear : MethodName := ⟨RX6, "clear", "(I)I"⟩
abbrev cX6_cutLast : ByteArray := prog_8_method_5_code
def yX6_cutLast : MethodName := ⟨RX6, "cutLast", "(I)I"⟩
abbrev cX6_length : ByteArray := prog_8_method_6_code
def yX6_length : MethodName := ⟨RX6, "length", "(I)I"⟩
abbrev cX6_lengthOfAll : ByteArray := prog_8_method_7_code
def yX6_lengthOfAll : MethodName := ⟨RX6, "lengthOfAll", "()I"⟩
abbrev cX6_soundLength : ByteArray := prog_8_method_8_code
def yX6_soundLength : MethodName := ⟨RX6, "soundLength", "(I)I"⟩
abbrev cX6_byteAt : ByteArray := prog_8_method_9_code
def yX6_byteAt : MethodName := ⟨RX6, "byteAt", "(II)I"⟩
abbrev cX6_firstFault : ByteArray := prog_8_method_10_code
def yX6_firstFault : MethodName := ⟨RX6, "firstFault", "(I)I"⟩
abbrev cX6_teamGoesOn : ByteArray := prog_8_method_11_code
def yX6_teamGoesOn : MethodName := ⟨RX6, "teamGoesOn", "(II)Z"⟩
abbrev cX6_sortOf : ByteArray := prog_8_method_12_code
def yX6_sortOf : MethodName := ⟨RX6, "sortOf", "(I)I"⟩
abbrev cX6_callOf : ByteArray := prog_8_method_13_code
def yX6_callOf : MethodName := ⟨RX6, "callOf", "(I)I"⟩
def RX7 : String := "TugOfWar"
def TX7 : u_T := fun k => match k with
  | 0 => ("TugOfWar", "texts", "LTugOfWar$Texts;", true)
  | 1 => ("TugOfWar", "sights", "LTugOfWar$Seen;", true)
  | 2 => ("TugOfWar", "sheets", "LTugOfWar$Sheets;", true)
  | 3 => ("TugOfWar", "finding", "I", false)
  | 4 => ("TugOfWar", "told", "LTugOfWar$Contest;", true)
  | 5 => ("TugOfWar", "toldCourse", "LTugOfWar$Course;", true)
  | 6 => ("TugOfWar", "trial", "LTugOfWar$Contest;", true)
  | 7 => ("TugOfWar", "trialCourse", "LTugOfWar$Course;", true)
  | 8 => ("TugOfWar", "choice", "LTugOfWar$Choice;", true)
  | 9 => ("TugOfWar", "ropeByWeight", "[I", true)
  | 10 => ("TugOfWar", "winnerWithoutEvents", "[I", true)
  | _ => ("TugOfWar", "winnersAreFresh", "Z", false)
def tyX7 : Nat → FieldType := fun k => match k with
  | 0 => .object "TugOfWar$Texts"
  | 1 => .object "TugOfWar$Seen"
  | 2 => .object "TugOfWar$Sheets"
  | 3 => .int
  | 4 => .object "TugOfWar$Contest"
  | 5 => .object "TugOfWar$Course"
  | 6 => .object "TugOfWar$Contest"
  | 7 => .object "TugOfWar$Course"
  | 8 => .object "TugOfWar$Choice"
  | 9 => .array .int
  | 10 => .array .int
  | _ => .boolean
abbrev wsX70 : List Cond := u_ws RX7 TX7 12
theorem nmX7 : ∀ a, a < 12 → ∀ b, b < 12 → a ≠ b → (TX7 a).2.1 ≠ (TX7 b).2.1 := by decide +kernel
theorem tyX7_ok : ∀ k, k < 12 → parseFieldDescriptor (TX7 k).2.2.1 = some (tyX7 k) := by decide +kernel
abbrev cX7_init : ByteArray := prog_1_method_1_code
def yX7_init : MethodName := ⟨RX7, "<init>", "()V"⟩
abbrev cX7_type : ByteArray := prog_1_method_2_code
def yX7_type : MethodName := ⟨RX7, "type", "(II)I"⟩
abbrev cX7_wipe : ByteArray := prog_1_method_3_code
def yX7_wipe : MethodName := ⟨RX7, "wipe", "(I)I"⟩
abbrev cX7_undo : ByteArray := prog_1_method_4_code
def yX7_undo : MethodName := ⟨RX7, "undo", "(I)I"⟩
abbrev cX7_fault : ByteArray := prog_1_method_5_code
def yX7_fault : MethodName := ⟨RX7, "fault", "(I)I"⟩
abbrev cX7_puller : ByteArray := prog_1_method_6_code
def yX7_puller : MethodName := ⟨RX7, "puller", "(II)I"⟩
abbrev cX7_call : ByteArray := prog_1_method_7_code
def yX7_call : MethodName := ⟨RX7, "call", "(II)I"⟩
abbrev cX7_mud : ByteArray := prog_1_method_8_code
def yX7_mud : MethodName := ⟨RX7, "mud", "(I)I"⟩
abbrev cX7_event : ByteArray := prog_1_method_9_code
def yX7_event : MethodName := ⟨RX7, "event", "(III)I"⟩
abbrev cX7_back : ByteArray := prog_1_method_10_code
def yX7_back : MethodName := ⟨RX7, "back", "()I"⟩
abbrev cX7_read : ByteArray := prog_1_method_11_code
def yX7_read : MethodName := ⟨RX7, "read", "(I)I"⟩
abbrev cX7_rope : ByteArray := prog_1_method_12_code
def yX7_rope : MethodName := ⟨RX7, "rope", "(II)I"⟩
abbrev cX7_at : ByteArray := prog_1_method_13_code
def yX7_at : MethodName := ⟨RX7, "at", "(III)I"⟩
abbrev cX7_won : ByteArray := prog_1_method_14_code
def yX7_won : MethodName := ⟨RX7, "won", "(I)I"⟩
abbrev cX7_furthest : ByteArray := prog_1_method_15_code
def yX7_furthest : MethodName := ⟨RX7, "furthest", "(I)I"⟩
abbrev cX7_done : ByteArray := prog_1_method_16_code
def yX7_done : MethodName := ⟨RX7, "done", "(I)I"⟩
abbrev cX7_spent : ByteArray := prog_1_method_17_code
def yX7_spent : MethodName := ⟨RX7, "spent", "()I"⟩
abbrev cX7_best : ByteArray := prog_1_method_18_code
def yX7_best : MethodName := ⟨RX7, "best", "()I"⟩
abbrev cX7_level : ByteArray := prog_1_method_19_code
def yX7_level : MethodName := ⟨RX7, "level", "()I"⟩
abbrev cX7_better : ByteArray := prog_1_method_20_code
def yX7_better : MethodName := ⟨RX7, "better", "(III)I"⟩
abbrev cX7_swap : ByteArray := prog_1_method_21_code
def yX7_swap : MethodName := ⟨RX7, "swap", "(II)I"⟩
abbrev cX7_out : ByteArray := prog_1_method_22_code
def yX7_out : MethodName := ⟨RX7, "out", "(II)I"⟩
abbrev cX7_spare : ByteArray := prog_1_method_23_code
def yX7_spare : MethodName := ⟨RX7, "spare", "(I)I"⟩
abbrev cX7_seen : ByteArray := prog_1_method_24_code
def yX7_seen : MethodName := ⟨RX7, "seen", "(II)I"⟩
abbrev cX7_forget : ByteArray := prog_1_method_25_code
def yX7_forget : MethodName := ⟨RX7, "forget", "()I"⟩
abbrev cX7_never : ByteArray := prog_1_method_26_code
def yX7_never : MethodName := ⟨RX7, "never", "()I"⟩
abbrev cX7_was : ByteArray := prog_1_method_27_code
def yX7_was : MethodName := ⟨RX7, "was", "(II)I"⟩
abbrev cX7_ask : ByteArray := prog_1_method_28_code
def yX7_ask : MethodName := ⟨RX7, "ask", "(I)I"⟩
abbrev cX7_chance : ByteArray := prog_1_method_29_code
def yX7_chance : MethodName := ⟨RX7, "chance", "(III)J"⟩
abbrev cX7_years : ByteArray := prog_1_method_30_code
def yX7_years : MethodName := ⟨RX7, "years", "(III)I"⟩
abbrev cX7_sheet : ByteArray := prog_1_method_31_code
def yX7_sheet : MethodName := ⟨RX7, "sheet", "(III)I"⟩
abbrev cX7_lose : ByteArray := prog_1_method_32_code
def yX7_lose : MethodName := ⟨RX7, "lose", "(I)I"⟩
abbrev cX7_put : ByteArray := prog_1_method_33_code
def yX7_put : MethodName := ⟨RX7, "put", "(IIII)I"⟩
abbrev cX7_get : ByteArray := prog_1_method_34_code
def yX7_get : MethodName := ⟨RX7, "get", "(III)I"⟩
abbrev cX7_copy : ByteArray := prog_1_method_35_code
def yX7_copy : MethodName := ⟨RX7, "copy", "(IIIII)I"⟩
abbrev cX7_write : ByteArray := prog_1_method_36_code
def yX7_write : MethodName := ⟨RX7, "write", "(I)I"⟩
abbrev cX7_count : ByteArray := prog_1_method_37_code
def yX7_count : MethodName := ⟨RX7, "count", "(I)I"⟩
abbrev cX7_digest : ByteArray := prog_1_method_38_code
def yX7_digest : MethodName := ⟨RX7, "digest", "()J"⟩
abbrev cX7_withBeat : ByteArray := prog_1_method_39_code
def yX7_withBeat : MethodName := ⟨RX7, "withBeat", "(JI)J"⟩
abbrev cX7_withPuller : ByteArray := prog_1_method_40_code
def yX7_withPuller : MethodName := ⟨RX7, "withPuller", "(JI)J"⟩
abbrev cX7_withTeam : ByteArray := prog_1_method_41_code
def yX7_withTeam : MethodName := ⟨RX7, "withTeam", "(JI)J"⟩
abbrev cX7_isBelow : ByteArray := prog_1_method_42_code
def yX7_isBelow : MethodName := ⟨RX7, "isBelow", "(II)Z"⟩
abbrev cX7_isPuller : ByteArray := prog_1_method_43_code
def yX7_isPuller : MethodName := ⟨RX7, "isPuller", "(I)Z"⟩
abbrev cX7_found : ByteArray := prog_1_method_44_code
def yX7_found : MethodName := ⟨RX7, "found", "(I)I"⟩
abbrev cX7_playTexts : ByteArray := prog_1_method_45_code
def yX7_playTexts : MethodName := ⟨RX7, "playTexts", "()V"⟩
abbrev cX7_playTold : ByteArray := prog_1_method_46_code
def yX7_playTold : MethodName := ⟨RX7, "playTold", "()V"⟩
abbrev cX7_pulledInAll : ByteArray := prog_1_method_47_code
def yX7_pulledInAll : MethodName := ⟨RX7, "pulledInAll", "(I)I"⟩
abbrev cX7_chooseSwap : ByteArray := prog_1_method_48_code
def yX7_chooseSwap : MethodName := ⟨RX7, "chooseSwap", "(I)V"⟩
abbrev cX7_chooseOut : ByteArray := prog_1_method_49_code
def yX7_chooseOut : MethodName := ⟨RX7, "chooseOut", "(I)V"⟩
abbrev cX7_chooseSpare : ByteArray := prog_1_method_50_code
def yX7_chooseSpare : MethodName := ⟨RX7, "chooseSpare", "()I"⟩
abbrev cX7_winnerWithout : ByteArray := prog_1_method_51_code
def yX7_winnerWithout : MethodName := ⟨RX7, "winnerWithout", "(I)I"⟩
abbrev cX7_weightsThatFit : ByteArray := prog_1_method_52_code
def yX7_weightsThatFit : MethodName := ⟨RX7, "weightsThatFit", "(I)I"⟩
abbrev cX7_sortsThatFit : ByteArray := prog_1_method_53_code
def yX7_sortsThatFit : MethodName := ⟨RX7, "sortsThatFit", "(I)I"⟩
abbrev cX7_greatestLikeness : ByteArray := prog_1_method_54_code
def yX7_greatestLikeness : MethodName := ⟨RX7, "greatestLikeness", "(II)I"⟩
abbrev cX7_waysToWin : ByteArray := prog_1_method_55_code
def yX7_waysToWin : MethodName := ⟨RX7, "waysToWin", "(II)J"⟩
abbrev cX7_waysToMiss : ByteArray := prog_1_method_56_code
def yX7_waysToMiss : MethodName := ⟨RX7, "waysToMiss", "(II)J"⟩
abbrev cX7_refreshWinners : ByteArray := prog_1_method_57_code
def yX7_refreshWinners : MethodName := ⟨RX7, "refreshWinners", "()V"⟩
def RX8 : String := "TugOfWarModel"
def TX8 : u_T := fun k => match k with
  | 0 => ("TugOfWarModel", "typed", "[I", true)
  | 1 => ("TugOfWarModel", "texts", "[I", true)
  | 2 => ("TugOfWarModel", "many", "[I", true)
  | 3 => ("TugOfWarModel", "sorts", "[I", true)
  | 4 => ("TugOfWarModel", "weights", "[I", true)
  | 5 => ("TugOfWarModel", "winds", "[I", true)
  | 6 => ("TugOfWarModel", "callsTold", "[I", true)
  | 7 => ("TugOfWarModel", "callTold", "[I", true)
  | 8 => ("TugOfWarModel", "mudTold", "I", false)
  | 9 => ("TugOfWarModel", "events", "I", false)
  | 10 => ("TugOfWarModel", "eventKind", "[I", true)
  | 11 => ("TugOfWarModel", "eventBeat", "[I", true)
  | 12 => ("TugOfWarModel", "eventNumber", "[I", true)
  | 13 => ("TugOfWarModel", "callNow", "[I", true)
  | 14 => ("TugOfWarModel", "notEvents", "I", false)
  | 15 => ("TugOfWarModel", "places", "[I", true)
  | 16 => ("TugOfWarModel", "outNow", "I", false)
  | 17 => ("TugOfWarModel", "lastOf", "[I", true)
  | 18 => ("TugOfWarModel", "mudNow", "I", false)
  | 19 => ("TugOfWarModel", "dogNow", "I", false)
  | 20 => ("TugOfWarModel", "slipBits", "I", false)
  | 21 => ("TugOfWarModel", "ropeNow", "I", false)
  | 22 => ("TugOfWarModel", "wonTeam", "I", false)
  | 23 => ("TugOfWarModel", "wonBeat", "I", false)
  | 24 => ("TugOfWarModel", "levels", "I", false)
  | 25 => ("TugOfWarModel", "breaths", "[I", true)
  | 26 => ("TugOfWarModel", "dones", "[I", true)
  | 27 => ("TugOfWarModel", "pulls", "[I", true)
  | 28 => ("TugOfWarModel", "sums", "[I", true)
  | 29 => ("TugOfWarModel", "ropeAt", "[I", true)
  | 30 => ("TugOfWarModel", "mudAt", "[I", true)
  | 31 => ("TugOfWarModel", "sumAt", "[I", true)
  | 32 => ("TugOfWarModel", "pullAt", "[I", true)
  | 33 => ("TugOfWarModel", "breathAt", "[I", true)
  | 34 => ("TugOfWarModel", "bestPlan", "I", false)
  | 35 => ("TugOfWarModel", "bestRope", "I", false)
  | 36 => ("TugOfWarModel", "planRow", "[I", true)
  | 37 => ("TugOfWarModel", "seens", "I", false)
  | 38 => ("TugOfWarModel", "seenBeat", "[I", true)
  | 39 => ("TugOfWarModel", "seenPlace", "[I", true)
  | 40 => ("TugOfWarModel", "ropeBy", "[I", true)
  | 41 => ("TugOfWarModel", "isThere", "[Z", true)
  | 42 => ("TugOfWarModel", "forms", "[I", true)
  | 43 => ("TugOfWarModel", "sizes", "[I", true)
  | 44 => ("TugOfWarModel", "items", "[I", true)
  | 45 => ("TugOfWarModel", "moved", "[I", true)
  | _ => ("TugOfWarModel", "finding", "I", false)
def tyX8 : Nat → FieldType := fun k => match k with
  | 0 => .array .int
  | 1 => .array .int
  | 2 => .array .int
  | 3 => .array .int
  | 4 => .array .int
  | 5 => .array .int
  | 6 => .array .int
  | 7 => .array .int
  | 8 => .int
  | 9 => .int
  | 10 => .array .int
  | 11 => .array .int
  | 12 => .array .int
  | 13 => .array .int
  | 14 => .int
  | 15 => .array .int
  | 16 => .int
  | 17 => .array .int
  | 18 => .int
  | 19 => .int
  | 20 => .int
  | 21 => .int
  | 22 => .int
  | 23 => .int
  | 24 => .int
  | 25 => .array .int
  | 26 => .array .int
  | 27 => .array .int
  | 28 => .array .int
  | 29 => .array .int
  | 30 => .array .int
  | 31 => .array .int
  | 32 => .array .int
  | 33 => .array .int
  | 34 => .int
  | 35 => .int
  | 36 => .array .int
  | 37 => .int
  | 38 => .array .int
  | 39 => .array .int
  | 40 => .array .int
  | 41 => .array .boolean
  | 42 => .array .int
  | 43 => .array .int
  | 44 => .array .int
  | 45 => .array .int
  | _ => .int
abbrev wsX80 : List Cond := u_ws RX8 TX8 47
theorem nmX8 : ∀ a, a < 47 → ∀ b, b < 47 → a ≠ b → (TX8 a).2.1 ≠ (TX8 b).2.1 := by decide +kernel
theorem tyX8_ok : ∀ k, k < 47 → parseFieldDescriptor (TX8 k).2.2.1 = some (tyX8 k) := by decide +kernel
abbrev cX8_init : ByteArray := prog_10_method_1_code
def yX8_init : MethodName := ⟨RX8, "<init>", "()V"⟩
abbrev cX8_in : ByteArray := prog_10_method_3_code
def yX8_in : MethodName := ⟨RX8, "in", "(III)Z"⟩
abbrev cX8_isIn : ByteArray := prog_10_method_4_code
def yX8_isIn : MethodName := ⟨RX8, "isIn", "(II)Z"⟩
abbrev cX8_no : ByteArray := prog_10_method_5_code
def yX8_no : MethodName := ⟨RX8, "no", "(I)J"⟩
abbrev cX8_lowest : ByteArray := prog_10_method_6_code
def yX8_lowest : MethodName := ⟨RX8, "lowest", "(JJI)J"⟩
abbrev cX8_isText : ByteArray := prog_10_method_7_code
def yX8_isText : MethodName := ⟨RX8, "isText", "(I)Z"⟩
abbrev cX8_isBeat : ByteArray := prog_10_method_8_code
def yX8_isBeat : MethodName := ⟨RX8, "isBeat", "(I)Z"⟩
abbrev cX8_isTwo : ByteArray := prog_10_method_9_code
def yX8_isTwo : MethodName := ⟨RX8, "isTwo", "(I)Z"⟩
abbrev cX8_isThree : ByteArray := prog_10_method_10_code
def yX8_isThree : MethodName := ⟨RX8, "isThree", "(I)Z"⟩
abbrev cX8_type : ByteArray := prog_10_method_11_code
def yX8_type : MethodName := ⟨RX8, "type", "(II)I"⟩
abbrev cX8_wipe : ByteArray := prog_10_method_12_code
def yX8_wipe : MethodName := ⟨RX8, "wipe", "(I)I"⟩
abbrev cX8_undo : ByteArray := prog_10_method_13_code
def yX8_undo : MethodName := ⟨RX8, "undo", "(I)I"⟩
abbrev cX8_byteAt : ByteArray := prog_10_method_14_code
def yX8_byteAt : MethodName := ⟨RX8, "byteAt", "(II)I"⟩
abbrev cX8_readsPuller : ByteArray := prog_10_method_15_code
def yX8_readsPuller : MethodName := ⟨RX8, "readsPuller", "(III)I"⟩
abbrev cX8_readsTeam : ByteArray := prog_10_method_16_code
def yX8_readsTeam : MethodName := ⟨RX8, "readsTeam", "(I)I"⟩
abbrev cX8_callBy : ByteArray := prog_10_method_17_code
def yX8_callBy : MethodName := ⟨RX8, "callBy", "(I)I"⟩
abbrev cX8_readsCalls : ByteArray := prog_10_method_18_code
def yX8_readsCalls : MethodName := ⟨RX8, "readsCalls", "(I)I"⟩
abbrev cX8_faultOf : ByteArray := prog_10_method_19_code
def yX8_faultOf : MethodName := ⟨RX8, "faultOf", "(I)I"⟩
abbrev cX8_reads : ByteArray := prog_10_method_20_code
def yX8_reads : MethodName := ⟨RX8, "reads", "()V"⟩
abbrev cX8_fault : ByteArray := prog_10_method_21_code
def yX8_fault : MethodName := ⟨RX8, "fault", "(I)I"⟩
abbrev cX8_isThereOne : ByteArray := prog_10_method_22_code
def yX8_isThereOne : MethodName := ⟨RX8, "isThereOne", "(I)Z"⟩
abbrev cX8_isPuller : ByteArray := prog_10_method_23_code
def yX8_isPuller : MethodName := ⟨RX8, "isPuller", "(I)Z"⟩
abbrev cX8_pullerOf : ByteArray := prog_10_method_24_code
def yX8_pullerOf : MethodName := ⟨RX8, "pullerOf", "(II)I"⟩
abbrev cX8_puller : ByteArray := prog_10_method_25_code
def yX8_puller : MethodName := ⟨RX8, "puller", "(II)I"⟩
abbrev cX8_callOf : ByteArray := prog_10_method_26_code
def yX8_callOf : MethodName := ⟨RX8, "callOf", "(II)I"⟩
abbrev cX8_call : ByteArray := prog_10_method_27_code
def yX8_call : MethodName := ⟨RX8, "call", "(II)I"⟩
abbrev cX8_mud : ByteArray := prog_10_method_28_code
def yX8_mud : MethodName := ⟨RX8, "mud", "(I)I"⟩
abbrev cX8_event : ByteArray := prog_10_method_29_code
def yX8_event : MethodName := ⟨RX8, "event", "(III)I"⟩
abbrev cX8_back : ByteArray := prog_10_method_30_code
def yX8_back : MethodName := ⟨RX8, "back", "()I"⟩
abbrev cX8_read : ByteArray := prog_10_method_31_code
def yX8_read : MethodName := ⟨RX8, "read", "(I)I"⟩
abbrev cX8_asTold : ByteArray := prog_10_method_32_code
def yX8_asTold : MethodName := ⟨RX8, "asTold", "()V"⟩
abbrev cX8_isHere : ByteArray := prog_10_method_33_code
def yX8_isHere : MethodName := ⟨RX8, "isHere", "(I)Z"⟩
abbrev cX8_befalls : ByteArray := prog_10_method_34_code
def yX8_befalls : MethodName := ⟨RX8, "befalls", "(I)V"⟩
abbrev cX8_strength : ByteArray := prog_10_method_35_code
def yX8_strength : MethodName := ⟨RX8, "strength", "(II)I"⟩
abbrev cX8_pullsOne : ByteArray := prog_10_method_36_code
def yX8_pullsOne : MethodName := ⟨RX8, "pullsOne", "(II)V"⟩
abbrev cX8_goes : ByteArray := prog_10_method_37_code
def yX8_goes : MethodName := ⟨RX8, "goes", "(I)V"⟩
abbrev cX8_goesBy : ByteArray := prog_10_method_38_code
def yX8_goesBy : MethodName := ⟨RX8, "goesBy", "(I)V"⟩
abbrev cX8_runs : ByteArray := prog_10_method_39_code
def yX8_runs : MethodName := ⟨RX8, "runs", "()V"⟩
abbrev cX8_runsTold : ByteArray := prog_10_method_40_code
def yX8_runsTold : MethodName := ⟨RX8, "runsTold", "()V"⟩
abbrev cX8_ropeOf : ByteArray := prog_10_method_41_code
def yX8_ropeOf : MethodName := ⟨RX8, "ropeOf", "(II)I"⟩
abbrev cX8_rope : ByteArray := prog_10_method_42_code
def yX8_rope : MethodName := ⟨RX8, "rope", "(II)I"⟩
abbrev cX8_atOf : ByteArray := prog_10_method_43_code
def yX8_atOf : MethodName := ⟨RX8, "atOf", "(III)I"⟩
abbrev cX8_at : ByteArray := prog_10_method_44_code
def yX8_at : MethodName := ⟨RX8, "at", "(III)I"⟩
abbrev cX8_wonOf : ByteArray := prog_10_method_45_code
def yX8_wonOf : MethodName := ⟨RX8, "wonOf", "(I)I"⟩
abbrev cX8_won : ByteArray := prog_10_method_46_code
def yX8_won : MethodName := ⟨RX8, "won", "(I)I"⟩
abbrev cX8_furthestOf : ByteArray := prog_10_method_47_code
def yX8_furthestOf : MethodName := ⟨RX8, "furthestOf", "(I)I"⟩
abbrev cX8_furthest : ByteArray := prog_10_method_48_code
def yX8_furthest : MethodName := ⟨RX8, "furthest", "(I)I"⟩
abbrev cX8_doneOf : ByteArray := prog_10_method_49_code
def yX8_doneOf : MethodName := ⟨RX8, "doneOf", "(I)I"⟩
abbrev cX8_done : ByteArray := prog_10_method_50_code
def yX8_done : MethodName := ⟨RX8, "done", "(I)I"⟩
abbrev cX8_spentOf : ByteArray := prog_10_method_51_code
def yX8_spentOf : MethodName := ⟨RX8, "spentOf", "()I"⟩
abbrev cX8_spent : ByteArray := prog_10_method_52_code
def yX8_spent : MethodName := ⟨RX8, "spent", "()I"⟩
abbrev cX8_bestOf : ByteArray := prog_10_method_53_code
def yX8_bestOf : MethodName := ⟨RX8, "bestOf", "()I"⟩
abbrev cX8_best : ByteArray := prog_10_method_54_code
def yX8_best : MethodName := ⟨RX8, "best", "()I"⟩
abbrev cX8_levelOf : ByteArray := prog_10_method_55_code
def yX8_levelOf : MethodName := ⟨RX8, "levelOf", "()I"⟩
abbrev cX8_level : ByteArray := prog_10_method_56_code
def yX8_level : MethodName := ⟨RX8, "level", "()I"⟩
abbrev cX8_starts : ByteArray := prog_10_method_57_code
def yX8_starts : MethodName := ⟨RX8, "starts", "()V"⟩
abbrev cX8_tries : ByteArray := prog_10_method_58_code
def yX8_tries : MethodName := ⟨RX8, "tries", "(II)V"⟩
abbrev cX8_betterOf : ByteArray := prog_10_method_59_code
def yX8_betterOf : MethodName := ⟨RX8, "betterOf", "(III)I"⟩
abbrev cX8_better : ByteArray := prog_10_method_60_code
def yX8_better : MethodName := ⟨RX8, "better", "(III)I"⟩
abbrev cX8_swapOf : ByteArray := prog_10_method_61_code
def yX8_swapOf : MethodName := ⟨RX8, "swapOf", "(II)I"⟩
abbrev cX8_swap : ByteArray := prog_10_method_62_code
def yX8_swap : MethodName := ⟨RX8, "swap", "(II)I"⟩
abbrev cX8_outOf : ByteArray := prog_10_method_63_code
def yX8_outOf : MethodName := ⟨RX8, "outOf", "(II)I"⟩
abbrev cX8_out : ByteArray := prog_10_method_64_code
def yX8_out : MethodName := ⟨RX8, "out", "(II)I"⟩
abbrev cX8_isSpared : ByteArray := prog_10_method_65_code
def yX8_isSpared : MethodName := ⟨RX8, "isSpared", "(I)Z"⟩
abbrev cX8_spareBy : ByteArray := prog_10_method_66_code
def yX8_spareBy : MethodName := ⟨RX8, "spareBy", "()I"⟩
abbrev cX8_ofRow : ByteArray := prog_10_method_67_code
def yX8_ofRow : MethodName := ⟨RX8, "ofRow", "(II)I"⟩
abbrev cX8_spare : ByteArray := prog_10_method_68_code
def yX8_spare : MethodName := ⟨RX8, "spare", "(I)I"⟩
abbrev cX8_seen : ByteArray := prog_10_method_69_code
def yX8_seen : MethodName := ⟨RX8, "seen", "(II)I"⟩
abbrev cX8_forget : ByteArray := prog_10_method_70_code
def yX8_forget : MethodName := ⟨RX8, "forget", "()I"⟩
abbrev cX8_isSeen : ByteArray := prog_10_method_71_code
def yX8_isSeen : MethodName := ⟨RX8, "isSeen", "()Z"⟩
abbrev cX8_neverNow : ByteArray := prog_10_method_72_code
def yX8_neverNow : MethodName := ⟨RX8, "neverNow", "()I"⟩
abbrev cX8_never : ByteArray := prog_10_method_73_code
def yX8_never : MethodName := ⟨RX8, "never", "()I"⟩
abbrev cX8_weightsBy : ByteArray := prog_10_method_74_code
def yX8_weightsBy : MethodName := ⟨RX8, "weightsBy", "(I)I"⟩
abbrev cX8_sortsBy : ByteArray := prog_10_method_75_code
def yX8_sortsBy : MethodName := ⟨RX8, "sortsBy", "(I)I"⟩
abbrev cX8_was : ByteArray := prog_10_method_76_code
def yX8_was : MethodName := ⟨RX8, "was", "(II)I"⟩
abbrev cX8_askOf : ByteArray := prog_10_method_77_code
def yX8_askOf : MethodName := ⟨RX8, "askOf", "(I)I"⟩
abbrev cX8_ask : ByteArray := prog_10_method_78_code
def yX8_ask : MethodName := ⟨RX8, "ask", "(I)I"⟩
abbrev cX8_chanceOf : ByteArray := prog_10_method_79_code
def yX8_chanceOf : MethodName := ⟨RX8, "chanceOf", "(III)J"⟩
abbrev cX8_chance : ByteArray := prog_10_method_80_code
def yX8_chance : MethodName := ⟨RX8, "chance", "(III)J"⟩
abbrev cX8_yearsOf : ByteArray := prog_10_method_81_code
def yX8_yearsOf : MethodName := ⟨RX8, "yearsOf", "(III)I"⟩
abbrev cX8_years : ByteArray := prog_10_method_82_code
def yX8_years : MethodName := ⟨RX8, "years", "(III)I"⟩
abbrev cX8_meets : ByteArray := prog_10_method_83_code
def yX8_meets : MethodName := ⟨RX8, "meets", "(I)I"⟩
abbrev cX8_isSheet : ByteArray := prog_10_method_84_code
def yX8_isSheet : MethodName := ⟨RX8, "isSheet", "(I)Z"⟩
abbrev cX8_sheet : ByteArray := prog_10_method_85_code
def yX8_sheet : MethodName := ⟨RX8, "sheet", "(III)I"⟩
abbrev cX8_lose : ByteArray := prog_10_method_86_code
def yX8_lose : MethodName := ⟨RX8, "lose", "(I)I"⟩
abbrev cX8_lacks : ByteArray := prog_10_method_87_code
def yX8_lacks : MethodName := ⟨RX8, "lacks", "(III)I"⟩
abbrev cX8_keep : ByteArray := prog_10_method_88_code
def yX8_keep : MethodName := ⟨RX8, "keep", "(III)V"⟩
abbrev cX8_put : ByteArray := prog_10_method_89_code
def yX8_put : MethodName := ⟨RX8, "put", "(IIII)I"⟩
abbrev cX8_get : ByteArray := prog_10_method_90_code
def yX8_get : MethodName := ⟨RX8, "get", "(III)I"⟩
abbrev cX8_copy : ByteArray := prog_10_method_91_code
def yX8_copy : MethodName := ⟨RX8, "copy", "(IIIII)I"⟩
abbrev cX8_write : ByteArray := prog_10_method_92_code
def yX8_write : MethodName := ⟨RX8, "write", "(I)I"⟩
abbrev cX8_tellOf : ByteArray := prog_10_method_93_code
def yX8_tellOf : MethodName := ⟨RX8, "tellOf", "(I)I"⟩
abbrev cX8_count : ByteArray := prog_10_method_94_code
def yX8_count : MethodName := ⟨RX8, "count", "(I)I"⟩
abbrev cX8_beatDigest : ByteArray := prog_10_method_95_code
def yX8_beatDigest : MethodName := ⟨RX8, "beatDigest", "(JII)J"⟩
abbrev cX8_pullerDigest : ByteArray := prog_10_method_96_code
def yX8_pullerDigest : MethodName := ⟨RX8, "pullerDigest", "(JI)J"⟩
abbrev cX8_teamDigest : ByteArray := prog_10_method_97_code
def yX8_teamDigest : MethodName := ⟨RX8, "teamDigest", "(JI)J"⟩
abbrev cX8_digest : ByteArray := prog_10_method_98_code
def yX8_digest : MethodName := ⟨RX8, "digest", "()J"⟩
def RJ9 : String := "java/lang/Math"
def TJ9 : u_T := fun k => match k with
  | _ => ("", "", "", false)
def tyJ9 : Nat → FieldType := fun k => match k with
  | _ => .int
abbrev wsJ90 : List Cond := u_ws RJ9 TJ9 0
theorem nmJ9 : ∀ a, a < 0 → ∀ b, b < 0 → a ≠ b → (TJ9 a).2.1 ≠ (TJ9 b).2.1 := by decide +kernel
theorem tyJ9_ok : ∀ k, k < 0 → parseFieldDescriptor (TJ9 k).2.2.1 = some (tyJ9 k) := by decide +kernel
abbrev cJ9_max_7cf53 : ByteArray := prog_11_method_65_code
def yJ9_max_7cf53 : MethodName := ⟨RJ9, "max", "(II)I"⟩
abbrev cJ9_min_7cf53 : ByteArray := prog_11_method_69_code
def yJ9_min_7cf53 : MethodName := ⟨RJ9, "min", "(II)I"⟩
def RJ10 : String := "java/lang/System"
def TJ10 : u_T := fun k => match k with
  | _ => ("", "", "", false)
def tyJ10 : Nat → FieldType := fun k => match k with
  | _ => .int
abbrev wsJ100 : List Cond := u_ws RJ10 TJ10 0
theorem nmJ10 : ∀ a, a < 0 → ∀ b, b < 0 → a ≠ b → (TJ10 a).2.1 ≠ (TJ10 b).2.1 := by decide +kernel
theorem tyJ10_ok : ∀ k, k < 0 → parseFieldDescriptor (TJ10 k).2.2.1 = some (tyJ10 k) := by decide +kernel
def RL : String := "TugOfWarLaw"
abbrev cL_law : ByteArray := code
def yL_law : MethodName := ⟨RL, "law", "([I)Z"⟩
abbrev vwCl : List vw_C := [(RX0, TX0, 4), (RX1, TX1, 9), (RX2, TX2, 12), (RX3, TX3, 5), (RX4, TX4, 3), (RX5, TX5, 3), (RX6, TX6, 2), (RX7, TX7, 12), (RX8, TX8, 47)]
end
section
-- ===== the library: a world of fixed shape (a template), its ints as one function S, and rows over it =====
abbrev tg_S : Type := Nat → Nat → Int32
abbrev tg_E : Type := (Bool × Nat) ⊕ (Nat × List (Option (Option Nat)))
def tg_v (ad : Nat → Nat) (row : Nat → Int32) (j : Nat) (f : Option (Option Nat)) : Value := match f with
  | none => .int (row j)
  | some none => .null
  | some (some r) => .ref (ad r)
def tg_fs (ad : Nat → Nat) (row : Nat → Int32) (fs : List (Option (Option Nat))) : List Value := fs.mapIdx (fun j f => tg_v ad row j f)
def tg_e (cy : Bool → ClassId) (ad : Nat → Nat) (row : Nat → Int32) (t : tg_E) : va_E := match t with
  | .inl (b, n) => .inl (cy b, n, .inl row)
  | .inr (ci, fs) => .inr (ci, tg_fs ad row fs)
def tg_w (cy : Bool → ClassId) (ta : List tg_E) (ad : Nat → Nat) (S : tg_S) : va_W := ta.mapIdx (fun k t => (ad k, tg_e cy ad (S k) t))
def tg_sw (S : tg_S) (k : Nat) (row : Nat → Int32) : tg_S := fun a => if a = k then row else S a
theorem tg_w_get {cy : Bool → ClassId} {ta : List tg_E} {ad : Nat → Nat} {S : tg_S} {k : Nat} {t : tg_E} (h : ta[k]? = some t) : (tg_w cy ta ad S)[k]? = some (ad k, tg_e cy ad (S k) t) := by
  simp [tg_w, h]
theorem tg_w_set {cy : Bool → ClassId} {ta : List tg_E} {ad : Nat → Nat} {S : tg_S} {k : Nat} {t : tg_E} (row : Nat → Int32) (h : ta[k]? = some t) : (tg_w cy ta ad S).set k (ad k, tg_e cy ad row t) = tg_w cy ta ad (tg_sw S k row) := by
  apply List.ext_getElem?
  intro i
  by_cases hi : i = k
  · subst hi
    have hlt : i < ta.length := (List.getElem?_eq_some_iff.mp h).1
    rw [List.getElem?_set_self (by simpa [tg_w] using hlt), tg_w_get h]
    simp [tg_sw]
  · simp [tg_w, tg_sw, List.getElem?_set, Ne.symm hi, hi]
theorem tg_fs_get {ad : Nat → Nat} {row : Nat → Int32} {fs : List (Option (Option Nat))} {j : Nat} {f : Option (Option Nat)} (h : fs[j]? = some f) : (tg_fs ad row fs)[j]? = some (tg_v ad row j f) := by
  simp [tg_fs, h]
theorem tg_fs_set {ad : Nat → Nat} {row : Nat → Int32} {fs : List (Option (Option Nat))} {j : Nat} (v : Int32) (h : fs[j]? = some none) : (tg_fs ad row fs).set j (.int v) = tg_fs ad (upd row j v) fs := by
  apply List.ext_getElem?
  intro i
  by_cases hi : i = j
  · subst hi
    have hlt : i < fs.length := (List.getElem?_eq_some_iff.mp h).1
    rw [List.getElem?_set_self (by simpa [tg_fs] using hlt), tg_fs_get h]
    simp [tg_v, upd]
  · have h1 : ∀ f, tg_v ad (upd row j v) i f = tg_v ad row i f := fun f => by
      cases f with
      | none => simp [tg_v, upd, hi]
      | some g => cases g <;> rfl
    simp [tg_fs, List.getElem?_set, Ne.symm hi, h1]
-- the words
def tg_gG : List Cond := lw_tbl.filter goodWord
theorem tg_mem {w : Cond} (h : w ∈ lw_tbl) (hg : goodWord w = true) : w ∈ tg_gG := List.mem_filter.mpr ⟨h, hg⟩
theorem tg_GG {big ws : List Cond} (h : ∀ w ∈ tg_gG, w ∈ big) (hw : ∀ w ∈ ws, w ∈ tg_gG) : GoodIn big ws := fun w h1 => ⟨h w (hw w h1), good_of_word (List.mem_filter.mp (hw w h1)).2⟩
-- the environment: nest words of two private calls, and the static row
def tg_Env (A : Nat → Prop) (U : State) (H : Heap) (t : Nat) : Prop := va_Nw (.methodLinkNest "TugOfWar$Events" 28 yX7_isBelow "TugOfWar") U ∧ va_Nw (.methodLinkNest "TugOfWar$Sheets" 25 yX7_isBelow "TugOfWar") U ∧ va_Z "TugOfWar" "DIGEST_BEATS" "[I" (.ref t) A U H ∧ va_T .int t 4 (fun j => .int (if j = 0 then 0 else if j = 1 then 5 else if j = 2 then 12 else 23)) A U H
theorem tg_Env.kept {t : Nat} {A B : Nat → Prop} {U U' : State} {H H1 : Heap} (hW : U.WarmedH U'.vm) (hq : ∀ a : Nat, a < H.size → ¬ A a → H1[a]? = H[a]?) (hAB : ∀ q, B q → A q) (h : tg_Env A U H t) : tg_Env B U' H1 t := by
  obtain ⟨h1, h2, h3, h4⟩ := h
  exact ⟨va_Nw.warmM hW h1, va_Nw.warmM hW h2, ((h3.moved hW.alike).kept hq).narrow hAB, ((h4.moved hW.alike).kept hq).narrow hAB⟩
theorem tg_Env.calling {t : Nat} {A : Nat → Prop} {U : State} {H : Heap} {g : JFrame} {mk : MethodId} {a : Array Value} (h : tg_Env A U H t) : tg_Env A (U.calling g mk a) H t := by
  obtain ⟨h1, h2, h3, h4⟩ := h
  exact ⟨va_Nw.same rfl rfl h1, va_Nw.same rfl rfl h2, h3.moved (U := U.calling g mk a) (Vm.Alike.refl U.vm), h4.moved (U := U.calling g mk a) (Vm.Alike.refl U.vm)⟩
-- the machine's context as one tuple
abbrev tg_X : Type := Program × Launch × Env × Room × State × MethodId × Array Value × List Frame × Method × Code × (State → Prop) × (Nat → Prop) × va_G × (Bool → ClassId) × (Nat → Nat) × Nat
abbrev tg_p (x : tg_X) : Program := x.1
abbrev tg_l (x : tg_X) : Launch := x.2.1
abbrev tg_en (x : tg_X) : Env := x.2.2.1
abbrev tg_R (x : tg_X) : Room := x.2.2.2.1
abbrev tg_s (x : tg_X) : State := x.2.2.2.2.1
abbrev tg_m (x : tg_X) : MethodId := x.2.2.2.2.2.1
abbrev tg_args (x : tg_X) : Array Value := x.2.2.2.2.2.2.1
abbrev tg_below (x : tg_X) : List Frame := x.2.2.2.2.2.2.2.1
abbrev tg_meth (x : tg_X) : Method := x.2.2.2.2.2.2.2.2.1
abbrev tg_c (x : tg_X) : Code := x.2.2.2.2.2.2.2.2.2.1
abbrev tg_Q (x : tg_X) : State → Prop := x.2.2.2.2.2.2.2.2.2.2.1
abbrev tg_A (x : tg_X) : Nat → Prop := x.2.2.2.2.2.2.2.2.2.2.2.1
abbrev tg_D (x : tg_X) : va_G := x.2.2.2.2.2.2.2.2.2.2.2.2.1
abbrev tg_cy (x : tg_X) : Bool → ClassId := x.2.2.2.2.2.2.2.2.2.2.2.2.2.1
def tg_ad (x : tg_X) : Nat → Nat := x.2.2.2.2.2.2.2.2.2.2.2.2.2.2.1
def tg_tS (x : tg_X) : Nat := x.2.2.2.2.2.2.2.2.2.2.2.2.2.2.2
abbrev tg_ty (cy : Bool → ClassId) : List (ClassId × FieldType) := [(cy false, .int), (cy true, .boolean)]
def tg_I (ta : List tg_E) (x : tg_X) (S : tg_S) (H : Heap) (locs : List Loc) : Prop := va_P (tg_D x) vwCl (tg_w (tg_cy x) ta (tg_ad x) S) H ∧ va_D (tg_A x) (tg_w (tg_cy x) ta (tg_ad x) S) ∧ va_S (tg_A x) (tg_s x).heap H locs
def tg_W (x : tg_X) (H : Heap) (locs : List Loc) (pc : Nat) (ls : Array Slot) (st : List Value) : Prop := W (tg_p x) (tg_l x) (tg_en x) (tg_R x) (tg_s x) (tg_m x) (tg_args x) (tg_below x) (tg_meth x) (tg_c x) H locs 0 0 (tg_Q x) (F0 (tg_m x) pc ls st)
def tg_G (ta : List tg_E) (x : tg_X) (S : tg_S) (pc : Nat) (lv : List (Nat × Value)) (st : List Value) : Prop := ∀ (H : Heap) (locs : List Loc) (ls : Array Slot), tg_I ta x S H locs → lv_has ls (tg_c x).maxLocals lv → tg_W x H locs pc ls st
def tg_ri (rv : Option Value) : Instr := match rv with
  | none => .return_
  | some (.long _) => .lreturn
  | _ => .ireturn
def tg_nok (rt : Option FieldType) (rv : Option Value) : Prop := match rv, rt with
  | some v, some ty => narrow ty v = v
  | _, _ => True
/-- what a method's walk knows -/
def tg_M (ta : List tg_E) (x : tg_X) (cc : ByteArray) (nL : Nat) (own : String) (rm : Room) (rt : Option FieldType) (Sf : tg_S) (rv : Option Value) : Prop :=
  (tg_p x).tables.exec = Jvm.exec ∧ (tg_c x).code = cc ∧ (tg_c x).maxLocals = nL ∧ (tg_s x).vm.findClass own = some (tg_m x).cls ∧ (∀ w ∈ tg_gG, w.before (tg_args x) (tg_s x) = true) ∧ va_K (tg_D x) vwCl (tg_ty (tg_cy x)) (tg_s x) ∧ (∀ q : Nat, (tg_s x).heap.size ≤ q → tg_A x q) ∧ tg_R x = rm ∧ tg_Env (tg_A x) (tg_s x) (tg_s x).heap (tg_tS x) ∧
  ∀ (pc : Nat) (H : Heap) (locs : List Loc) (ls : Array Slot), tg_I ta x Sf H locs → tg_nok rt rv → decode cc pc = .ok (tg_ri rv, 1) → tg_W x H locs pc ls rv.toList
-- pure programs
def tg_nm {a b : Type} (e : a) (k : a → b) : b := k e
theorem tg_nmE {a b : Type} {e y : a} {k : a → b} {r : b} (hy : y = e) (h : tg_nm e k = r) : k y = r := by subst hy; exact h
def tg_ib (i : Int32) (n : Nat) : Bool := decide (¬ (i < 0 ∨ n ≤ i.toNatClampNeg))
def tg_ck {a : Type} (b : Bool) (k : Option a) : Option a := cond b k none
theorem tg_ckE {a : Type} {b : Bool} {k : Option a} {r : a} (h : tg_ck b k = some r) : b = true ∧ k = some r := by
  cases b with
  | false => exact absurd h (by simp [tg_ck])
  | true => exact ⟨rfl, h⟩
theorem tg_ibE {i : Int32} {n : Nat} (h : tg_ib i n = true) : vp_in i n := by unfold tg_ib at h; unfold vp_in; exact of_decide_eq_true h
def tg_bd {a b : Type} (o : Option (tg_S × a)) (k : tg_S → a → Option b) : Option b := match o with
  | none => none
  | some (S, r) => k S r
theorem tg_bdE {a b : Type} {o : Option (tg_S × a)} {k : tg_S → a → Option b} {r : b} (h : tg_bd o k = some r) : ∃ (S : tg_S) (q : a), o = some (S, q) ∧ k S q = some r := by
  cases o with
  | none => cases h
  | some z => exact ⟨z.1, z.2, rfl, h⟩
def tg_bv {b : Type} (o : Option tg_S) (k : tg_S → Option b) : Option b := match o with
  | none => none
  | some S => k S
theorem tg_bvE {b : Type} {o : Option tg_S} {k : tg_S → Option b} {r : b} (h : tg_bv o k = some r) : ∃ S : tg_S, o = some S ∧ k S = some r := by
  cases o with
  | none => cases h
  | some z => exact ⟨z, rfl, h⟩
def tg_if {a : Type} (c : Prop) [Decidable c] (t e : a) : a := if c then t else e
theorem tg_ifT {a : Type} {c : Prop} [Decidable c] {t e r : a} (hc : c) (h : tg_if c t e = r) : t = r := by rw [← h, tg_if, if_pos hc]
theorem tg_ifF {a : Type} {c : Prop} [Decidable c] {t e r : a} (hc : ¬ c) (h : tg_if c t e = r) : e = r := by rw [← h, tg_if, if_neg hc]
section TgRows
variable {ta : List tg_E} {x : tg_X} {cc : ByteArray} {nL : Nat} {own : String} {rm : Room} {rt : Option FieldType} {Sf : tg_S} {rv : Option Value} {S : tg_S} {pc : Nat} {lv : List (Nat × Value)} {st : List Value}
theorem tg_iadd (X : tg_M ta x cc nL own rm rt Sf rv) {a b : Int32} (hd : decode cc pc = .ok (.iadd, 1)) (k : tg_G ta x S (pc + 1) lv (.int (a + b) :: st)) : tg_G ta x S pc lv (.int b :: .int a :: st) := fun H locs ls hI hl => lv_iadd X.1 X.2.1 hd (k H locs ls hI hl)
theorem tg_isub (X : tg_M ta x cc nL own rm rt Sf rv) {a b : Int32} (hd : decode cc pc = .ok (.isub, 1)) (k : tg_G ta x S (pc + 1) lv (.int (a - b) :: st)) : tg_G ta x S pc lv (.int b :: .int a :: st) := fun H locs ls hI hl => lv_isub X.1 X.2.1 hd (k H locs ls hI hl)
theorem tg_imul (X : tg_M ta x cc nL own rm rt Sf rv) {a b : Int32} (hd : decode cc pc = .ok (.imul, 1)) (k : tg_G ta x S (pc + 1) lv (.int (a * b) :: st)) : tg_G ta x S pc lv (.int b :: .int a :: st) := fun H locs ls hI hl => lv_imul X.1 X.2.1 hd (k H locs ls hI hl)
theorem tg_iand (X : tg_M ta x cc nL own rm rt Sf rv) {a b : Int32} (hd : decode cc pc = .ok (.iand, 1)) (k : tg_G ta x S (pc + 1) lv (.int (a &&& b) :: st)) : tg_G ta x S pc lv (.int b :: .int a :: st) := fun H locs ls hI hl => lv_iand X.1 X.2.1 hd (k H locs ls hI hl)
theorem tg_ior (X : tg_M ta x cc nL own rm rt Sf rv) {a b : Int32} (hd : decode cc pc = .ok (.ior, 1)) (k : tg_G ta x S (pc + 1) lv (.int (a ||| b) :: st)) : tg_G ta x S pc lv (.int b :: .int a :: st) := fun H locs ls hI hl => lv_ior X.1 X.2.1 hd (k H locs ls hI hl)
theorem tg_ladd (X : tg_M ta x cc nL own rm rt Sf rv) {a b : Int64} (hd : decode cc pc = .ok (.ladd, 1)) (k : tg_G ta x S (pc + 1) lv (.long (a + b) :: st)) : tg_G ta x S pc lv (.long b :: .long a :: st) := fun H locs ls hI hl => lv_ladd X.1 X.2.1 hd (k H locs ls hI hl)
theorem tg_lsub (X : tg_M ta x cc nL own rm rt Sf rv) {a b : Int64} (hd : decode cc pc = .ok (.lsub, 1)) (k : tg_G ta x S (pc + 1) lv (.long (a - b) :: st)) : tg_G ta x S pc lv (.long b :: .long a :: st) := fun H locs ls hI hl => lv_lsub X.1 X.2.1 hd (k H locs ls hI hl)
theorem tg_lmul (X : tg_M ta x cc nL own rm rt Sf rv) {a b : Int64} (hd : decode cc pc = .ok (.lmul, 1)) (k : tg_G ta x S (pc + 1) lv (.long (a * b) :: st)) : tg_G ta x S pc lv (.long b :: .long a :: st) := fun H locs ls hI hl => lv_lmul X.1 X.2.1 hd (k H locs ls hI hl)
theorem tg_idiv (X : tg_M ta x cc nL own rm rt Sf rv) {a b : Int32} (hd : decode cc pc = .ok (.idiv, 1)) (h0 : ¬ b = 0) (k : tg_G ta x S (pc + 1) lv (.int (a / b) :: st)) : tg_G ta x S pc lv (.int b :: .int a :: st) := fun H locs ls hI hl => lv_idiv X.1 X.2.1 hd h0 (k H locs ls hI hl)
theorem tg_irem (X : tg_M ta x cc nL own rm rt Sf rv) {a b : Int32} (hd : decode cc pc = .ok (.irem, 1)) (h0 : ¬ b = 0) (k : tg_G ta x S (pc + 1) lv (.int (a - a / b * b) :: st)) : tg_G ta x S pc lv (.int b :: .int a :: st) := fun H locs ls hI hl => lv_irem X.1 X.2.1 hd h0 (k H locs ls hI hl)
theorem tg_ldiv (X : tg_M ta x cc nL own rm rt Sf rv) {a b : Int64} (hd : decode cc pc = .ok (.ldiv, 1)) (h0 : ¬ b = 0) (k : tg_G ta x S (pc + 1) lv (.long (a / b) :: st)) : tg_G ta x S pc lv (.long b :: .long a :: st) := fun H locs ls hI hl => lv_ldiv X.1 X.2.1 hd h0 (k H locs ls hI hl)
theorem tg_lrem (X : tg_M ta x cc nL own rm rt Sf rv) {a b : Int64} (hd : decode cc pc = .ok (.lrem, 1)) (h0 : ¬ b = 0) (k : tg_G ta x S (pc + 1) lv (.long (a - a / b * b) :: st)) : tg_G ta x S pc lv (.long b :: .long a :: st) := fun H locs ls hI hl => lv_lrem X.1 X.2.1 hd h0 (k H locs ls hI hl)
theorem tg_ishl (X : tg_M ta x cc nL own rm rt Sf rv) {a b : Int32} (hd : decode cc pc = .ok (.ishl, 1)) (k : tg_G ta x S (pc + 1) lv (.int (a <<< (b &&& 31)) :: st)) : tg_G ta x S pc lv (.int b :: .int a :: st) := fun H locs ls hI hl => lv_ishl X.1 X.2.1 hd (k H locs ls hI hl)
theorem tg_ishr (X : tg_M ta x cc nL own rm rt Sf rv) {a b : Int32} (hd : decode cc pc = .ok (.ishr, 1)) (k : tg_G ta x S (pc + 1) lv (.int (a >>> (b &&& 31)) :: st)) : tg_G ta x S pc lv (.int b :: .int a :: st) := fun H locs ls hI hl => lv_ishr X.1 X.2.1 hd (k H locs ls hI hl)
theorem tg_iushr (X : tg_M ta x cc nL own rm rt Sf rv) {a b : Int32} (hd : decode cc pc = .ok (.iushr, 1)) (k : tg_G ta x S (pc + 1) lv (.int ((a.toUInt32 >>> (b.toUInt32 &&& Int32.toUInt32 31)).toInt32) :: st)) : tg_G ta x S pc lv (.int b :: .int a :: st) := fun H locs ls hI hl => lv_iushr X.1 X.2.1 hd rfl (k H locs ls hI hl)
theorem tg_lshl (X : tg_M ta x cc nL own rm rt Sf rv) {a : Int64} {b : Int32} (hd : decode cc pc = .ok (.lshl, 1)) (k : tg_G ta x S (pc + 1) lv (.long (a <<< (b.toInt64 &&& 63)) :: st)) : tg_G ta x S pc lv (.int b :: .long a :: st) := fun H locs ls hI hl => lv_lshl X.1 X.2.1 hd rfl (k H locs ls hI hl)
theorem tg_lcmp (X : tg_M ta x cc nL own rm rt Sf rv) {a b : Int64} (hd : decode cc pc = .ok (.lcmp, 1)) (k : tg_G ta x S (pc + 1) lv (.int (lg_cmp a b) :: st)) : tg_G ta x S pc lv (.long b :: .long a :: st) := fun H locs ls hI hl => W.lcmp X.1 X.2.1 hd (k H locs ls hI hl)
theorem tg_ineg (X : tg_M ta x cc nL own rm rt Sf rv) {a : Int32} (hd : decode cc pc = .ok (.ineg, 1)) (k : tg_G ta x S (pc + 1) lv (.int (-a) :: st)) : tg_G ta x S pc lv (.int a :: st) := fun H locs ls hI hl => lv_ineg X.1 X.2.1 hd (k H locs ls hI hl)
theorem tg_i2l (X : tg_M ta x cc nL own rm rt Sf rv) {a : Int32} (hd : decode cc pc = .ok (.i2l, 1)) (k : tg_G ta x S (pc + 1) lv (.long (a.toInt64) :: st)) : tg_G ta x S pc lv (.int a :: st) := fun H locs ls hI hl => lv_i2l X.1 X.2.1 hd rfl (k H locs ls hI hl)
theorem tg_i2b (X : tg_M ta x cc nL own rm rt Sf rv) {a : Int32} (hd : decode cc pc = .ok (.i2b, 1)) (k : tg_G ta x S (pc + 1) lv (.int (a.toInt8.toInt32) :: st)) : tg_G ta x S pc lv (.int a :: st) := fun H locs ls hI hl => lv_i2b X.1 X.2.1 hd rfl (k H locs ls hI hl)
theorem tg_i2s (X : tg_M ta x cc nL own rm rt Sf rv) {a : Int32} (hd : decode cc pc = .ok (.i2s, 1)) (k : tg_G ta x S (pc + 1) lv (.int (a.toInt16.toInt32) :: st)) : tg_G ta x S pc lv (.int a :: st) := fun H locs ls hI hl => lv_i2s X.1 X.2.1 hd rfl (k H locs ls hI hl)
theorem tg_iconst (X : tg_M ta x cc nL own rm rt Sf rv) {n : Int} {v : Int32} (hd : decode cc pc = .ok (.iconst n, 1)) (hv : Int32.ofInt n = v) (k : tg_G ta x S (pc + 1) lv (.int v :: st)) : tg_G ta x S pc lv st := fun H locs ls hI hl => lv_iconst X.1 X.2.1 hd hv (k H locs ls hI hl)
theorem tg_bipush (X : tg_M ta x cc nL own rm rt Sf rv) {n : Int} {v : Int32} (hd : decode cc pc = .ok (.bipush n, 2)) (hv : (Int8.ofInt n).toInt32 = v) (k : tg_G ta x S (pc + 2) lv (.int v :: st)) : tg_G ta x S pc lv st := fun H locs ls hI hl => lv_bipush X.1 X.2.1 hd hv (k H locs ls hI hl)
theorem tg_sipush (X : tg_M ta x cc nL own rm rt Sf rv) {n : Int} {v : Int32} (hd : decode cc pc = .ok (.sipush n, 3)) (hv : (Int16.ofInt n).toInt32 = v) (k : tg_G ta x S (pc + 3) lv (.int v :: st)) : tg_G ta x S pc lv st := fun H locs ls hI hl => lv_sipush X.1 X.2.1 hd hv (k H locs ls hI hl)
theorem tg_lconst (X : tg_M ta x cc nL own rm rt Sf rv) {n : Fin 2} {v : Int64} (hd : decode cc pc = .ok (.lconst n, 1)) (hv : Int64.ofNat (n : Nat) = v) (k : tg_G ta x S (pc + 1) lv (.long v :: st)) : tg_G ta x S pc lv st := fun H locs ls hI hl => lv_lconst X.1 X.2.1 hd hv (k H locs ls hI hl)
theorem tg_ldc (X : tg_M ta x cc nL own rm rt Sf rv) {index : Nat} {v : Int32} (hw : Cond.constant own index v ∈ tg_gG) (hd : decode cc pc = .ok (.ldc index, 2)) (k : tg_G ta x S (pc + 2) lv (.int v :: st)) : tg_G ta x S pc lv st := fun H locs ls hI hl => lv_ldc X.1 X.2.1 X.2.2.2.1 (X.2.2.2.2.1 _ hw) hd (k H locs ls hI hl)
theorem tg_ldcw (X : tg_M ta x cc nL own rm rt Sf rv) {index : Nat} {v : Int32} (hw : Cond.constant own index v ∈ tg_gG) (hd : decode cc pc = .ok (.ldc_w index, 3)) (k : tg_G ta x S (pc + 3) lv (.int v :: st)) : tg_G ta x S pc lv st := fun H locs ls hI hl => lv_ldcw X.1 X.2.1 X.2.2.2.1 (X.2.2.2.2.1 _ hw) hd (k H locs ls hI hl)
theorem tg_ldc2 (X : tg_M ta x cc nL own rm rt Sf rv) {index : Nat} {v : Int64} (hw : Cond.constantLong own index v ∈ tg_gG) (hd : decode cc pc = .ok (.ldc2_w index, 3)) (k : tg_G ta x S (pc + 3) lv (.long v :: st)) : tg_G ta x S pc lv st := fun H locs ls hI hl => lv_ldc2 X.1 X.2.1 X.2.2.2.1 (X.2.2.2.2.1 _ hw) hd (k H locs ls hI hl)
theorem tg_iload_n (X : tg_M ta x cc nL own rm rt Sf rv) {k : Fin 4} {i : Nat} {a : Int32} (hd : decode cc pc = .ok (.iload_n k, 1)) (hi : (k : Nat) = i) (q : Nat) (hq : lv[q]? = some (i, .int a)) (kk : tg_G ta x S (pc + 1) lv (.int a :: st)) : tg_G ta x S pc lv st := fun H locs ls hI hl => lv_iload_n X.1 X.2.1 hd hi (lv_at hl q hq) (kk H locs ls hI hl)
theorem tg_iload (X : tg_M ta x cc nL own rm rt Sf rv) {i : Nat} {a : Int32} (hd : decode cc pc = .ok (.iload i, 2)) (q : Nat) (hq : lv[q]? = some (i, .int a)) (kk : tg_G ta x S (pc + 2) lv (.int a :: st)) : tg_G ta x S pc lv st := fun H locs ls hI hl => lv_iload X.1 X.2.1 hd (lv_at hl q hq) (kk H locs ls hI hl)
theorem tg_istore_n (X : tg_M ta x cc nL own rm rt Sf rv) {k : Fin 4} {i : Nat} {a : Int32} {lv2 : List (Nat × Value)} (hd : decode cc pc = .ok (.istore_n k, 1)) (hi : (k : Nat) = i) (hn : i < nL) (hl2 : (i, Value.int a) :: lv.filter (fun q => !(q.1 == i) && !(q.1 + 1 == i && q.2.category == 2)) = lv2) (kk : tg_G ta x S (pc + 1) lv2 st) : tg_G ta x S pc lv (.int a :: st) := fun H locs ls hI hl => lv_istore_n X.1 X.2.1 hd hi hl (by rw [X.2.2.1]; exact hn) hl2 (fun ls2 hl3 => kk H locs ls2 hI hl3)
theorem tg_istore (X : tg_M ta x cc nL own rm rt Sf rv) {i : Nat} {a : Int32} {lv2 : List (Nat × Value)} (hd : decode cc pc = .ok (.istore i, 2)) (hn : i < nL) (hl2 : (i, Value.int a) :: lv.filter (fun q => !(q.1 == i) && !(q.1 + 1 == i && q.2.category == 2)) = lv2) (kk : tg_G ta x S (pc + 2) lv2 st) : tg_G ta x S pc lv (.int a :: st) := fun H locs ls hI hl => lv_istore X.1 X.2.1 hd hl (by rw [X.2.2.1]; exact hn) hl2 (fun ls2 hl3 => kk H locs ls2 hI hl3)
theorem tg_lload_n (X : tg_M ta x cc nL own rm rt Sf rv) {k : Fin 4} {i : Nat} {a : Int64} (hd : decode cc pc = .ok (.lload_n k, 1)) (hi : (k : Nat) = i) (q : Nat) (hq : lv[q]? = some (i, .long a)) (kk : tg_G ta x S (pc + 1) lv (.long a :: st)) : tg_G ta x S pc lv st := fun H locs ls hI hl => lv_lload_n X.1 X.2.1 hd hi (lv_at hl q hq) (kk H locs ls hI hl)
theorem tg_lload (X : tg_M ta x cc nL own rm rt Sf rv) {i : Nat} {a : Int64} (hd : decode cc pc = .ok (.lload i, 2)) (q : Nat) (hq : lv[q]? = some (i, .long a)) (kk : tg_G ta x S (pc + 2) lv (.long a :: st)) : tg_G ta x S pc lv st := fun H locs ls hI hl => lv_lload X.1 X.2.1 hd (lv_at hl q hq) (kk H locs ls hI hl)
theorem tg_lstore_n (X : tg_M ta x cc nL own rm rt Sf rv) {k : Fin 4} {i : Nat} {a : Int64} {lv2 : List (Nat × Value)} (hd : decode cc pc = .ok (.lstore_n k, 1)) (hi : (k : Nat) = i) (hn : i + 1 < nL) (hl2 : (i, Value.long a) :: lv.filter (fun q => !(q.1 == i) && (!(q.1 == i + 1) && !(q.1 + 1 == i && q.2.category == 2))) = lv2) (kk : tg_G ta x S (pc + 1) lv2 st) : tg_G ta x S pc lv (.long a :: st) := fun H locs ls hI hl => lv_lstore_n X.1 X.2.1 hd hi hl (by rw [X.2.2.1]; exact hn) hl2 (fun ls2 hl3 => kk H locs ls2 hI hl3)
theorem tg_lstore (X : tg_M ta x cc nL own rm rt Sf rv) {i : Nat} {a : Int64} {lv2 : List (Nat × Value)} (hd : decode cc pc = .ok (.lstore i, 2)) (hn : i + 1 < nL) (hl2 : (i, Value.long a) :: lv.filter (fun q => !(q.1 == i) && (!(q.1 == i + 1) && !(q.1 + 1 == i && q.2.category == 2))) = lv2) (kk : tg_G ta x S (pc + 2) lv2 st) : tg_G ta x S pc lv (.long a :: st) := fun H locs ls hI hl => lv_lstore X.1 X.2.1 hd hl (by rw [X.2.2.1]; exact hn) hl2 (fun ls2 hl3 => kk H locs ls2 hI hl3)
theorem tg_aload_n (X : tg_M ta x cc nL own rm rt Sf rv) {k : Fin 4} {i : Nat} {a : Nat} (hd : decode cc pc = .ok (.aload_n k, 1)) (hi : (k : Nat) = i) (q : Nat) (hq : lv[q]? = some (i, .ref a)) (kk : tg_G ta x S (pc + 1) lv (.ref a :: st)) : tg_G ta x S pc lv st := fun H locs ls hI hl => lv_aload_n X.1 X.2.1 hd hi (lv_at hl q hq) (kk H locs ls hI hl)
theorem tg_aload (X : tg_M ta x cc nL own rm rt Sf rv) {i : Nat} {a : Nat} (hd : decode cc pc = .ok (.aload i, 2)) (q : Nat) (hq : lv[q]? = some (i, .ref a)) (kk : tg_G ta x S (pc + 2) lv (.ref a :: st)) : tg_G ta x S pc lv st := fun H locs ls hI hl => lv_aload X.1 X.2.1 hd (lv_at hl q hq) (kk H locs ls hI hl)
theorem tg_astore_n (X : tg_M ta x cc nL own rm rt Sf rv) {k : Fin 4} {i : Nat} {a : Nat} {lv2 : List (Nat × Value)} (hd : decode cc pc = .ok (.astore_n k, 1)) (hi : (k : Nat) = i) (hn : i < nL) (hl2 : (i, Value.ref a) :: lv.filter (fun q => !(q.1 == i) && !(q.1 + 1 == i && q.2.category == 2)) = lv2) (kk : tg_G ta x S (pc + 1) lv2 st) : tg_G ta x S pc lv (.ref a :: st) := fun H locs ls hI hl => lv_astore_n X.1 X.2.1 hd hi hl (by rw [X.2.2.1]; exact hn) hl2 (fun ls2 hl3 => kk H locs ls2 hI hl3)
theorem tg_astore (X : tg_M ta x cc nL own rm rt Sf rv) {i : Nat} {a : Nat} {lv2 : List (Nat × Value)} (hd : decode cc pc = .ok (.astore i, 2)) (hn : i < nL) (hl2 : (i, Value.ref a) :: lv.filter (fun q => !(q.1 == i) && !(q.1 + 1 == i && q.2.category == 2)) = lv2) (kk : tg_G ta x S (pc + 2) lv2 st) : tg_G ta x S pc lv (.ref a :: st) := fun H locs ls hI hl => lv_astore X.1 X.2.1 hd hl (by rw [X.2.2.1]; exact hn) hl2 (fun ls2 hl3 => kk H locs ls2 hI hl3)
theorem tg_iinc (X : tg_M ta x cc nL own rm rt Sf rv) {i : Nat} {n : Int} {a y cst : Int32} {lv2 : List (Nat × Value)} (hd : decode cc pc = .ok (.iinc i n, 3)) (q : Nat) (hq : lv[q]? = some (i, .int a)) (hc : Int32.ofInt n = cst) (hy : y = a + cst) (hn : i < nL) (hl2 : (i, Value.int y) :: lv.filter (fun q => !(q.1 == i) && !(q.1 + 1 == i && q.2.category == 2)) = lv2) (kk : tg_G ta x S (pc + 3) lv2 st) : tg_G ta x S pc lv st := fun H locs ls hI hl => lv_iinc X.1 X.2.1 hd hl hq (by rw [hc]; exact hy.symm) (by rw [X.2.2.1]; exact hn) hl2 (fun ls2 hl3 => kk H locs ls2 hI hl3)
theorem tg_topi {a : Int32} (k : ∀ y : Int32, y = a → tg_G ta x S pc lv (.int y :: st)) : tg_G ta x S pc lv (.int a :: st) := k a rfl
theorem tg_topl {a : Int64} (k : ∀ y : Int64, y = a → tg_G ta x S pc lv (.long y :: st)) : tg_G ta x S pc lv (.long a :: st) := k a rfl
theorem tg_re (ks : List Nat) {lv2 : List (Nat × Value)} (h : lv_pick lv ks = lv2) (k : tg_G ta x S pc lv2 st) : tg_G ta x S pc lv st := fun H locs ls hI hl => k H locs ls hI (lv_sub hl ks h)
theorem tg_dup (X : tg_M ta x cc nL own rm rt Sf rv) {v : Value} (hd : decode cc pc = .ok (.dup, 1)) (hv : v.category = 1) (k : tg_G ta x S (pc + 1) lv (v :: v :: st)) : tg_G ta x S pc lv (v :: st) := fun H locs ls hI hl => lv_dup X.1 X.2.1 hd hv (k H locs ls hI hl)
theorem tg_pop (X : tg_M ta x cc nL own rm rt Sf rv) {v : Value} (hd : decode cc pc = .ok (.pop, 1)) (hv : v.category = 1) (k : tg_G ta x S (pc + 1) lv st) : tg_G ta x S pc lv (v :: st) := fun H locs ls hI hl => lv_pop X.1 X.2.1 hd hv (k H locs ls hI hl)
theorem tg_dup2 (X : tg_M ta x cc nL own rm rt Sf rv) {v w : Value} (hd : decode cc pc = .ok (.dup2, 1)) (hv : v.category = 1) (hw : w.category = 1) (k : tg_G ta x S (pc + 1) lv (v :: w :: v :: w :: st)) : tg_G ta x S pc lv (v :: w :: st) := fun H locs ls hI hl => lv_dup2_11 X.1 X.2.1 hd hv hw (k H locs ls hI hl)
theorem tg_goto (X : tg_M ta x cc nL own rm rt Sf rv) {off : Int} {tgt : Nat} (hd : decode cc pc = .ok (.goto off, 3)) (ht : (pc : Int) + off = (tgt : Int)) (k : tg_G ta x S tgt lv st) : tg_G ta x S pc lv st := fun H locs ls hI hl => lv_goto X.1 X.2.1 hd ht (k H locs ls hI hl)
theorem tg_if_eq (X : tg_M ta x cc nL own rm rt Sf rv) {a : Int32} {off : Int} {tgt : Nat} (hd : decode cc pc = .ok (.ifCond .eq off, 3)) (ht : (pc : Int) + off = (tgt : Int)) (kt : a = 0 → tg_G ta x S tgt lv st) (kf : ¬ a = 0 → tg_G ta x S (pc + 3) lv st) : tg_G ta x S pc lv (.int a :: st) := fun H locs ls hI hl => lv_if_eq X.1 X.2.1 hd ht (fun h => kt h H locs ls hI hl) (fun h => kf h H locs ls hI hl)
theorem tg_icmp_eq (X : tg_M ta x cc nL own rm rt Sf rv) {a b : Int32} {off : Int} {tgt : Nat} (hd : decode cc pc = .ok (.if_icmp .eq off, 3)) (ht : (pc : Int) + off = (tgt : Int)) (kt : a = b → tg_G ta x S tgt lv st) (kf : ¬ a = b → tg_G ta x S (pc + 3) lv st) : tg_G ta x S pc lv (.int b :: .int a :: st) := fun H locs ls hI hl => lv_icmp_eq X.1 X.2.1 hd ht (fun h => kt h H locs ls hI hl) (fun h => kf h H locs ls hI hl)
theorem tg_if_ne (X : tg_M ta x cc nL own rm rt Sf rv) {a : Int32} {off : Int} {tgt : Nat} (hd : decode cc pc = .ok (.ifCond .ne off, 3)) (ht : (pc : Int) + off = (tgt : Int)) (kt : ¬ a = 0 → tg_G ta x S tgt lv st) (kf : a = 0 → tg_G ta x S (pc + 3) lv st) : tg_G ta x S pc lv (.int a :: st) := fun H locs ls hI hl => lv_if_ne X.1 X.2.1 hd ht (fun h => kt h H locs ls hI hl) (fun h => kf h H locs ls hI hl)
theorem tg_icmp_ne (X : tg_M ta x cc nL own rm rt Sf rv) {a b : Int32} {off : Int} {tgt : Nat} (hd : decode cc pc = .ok (.if_icmp .ne off, 3)) (ht : (pc : Int) + off = (tgt : Int)) (kt : ¬ a = b → tg_G ta x S tgt lv st) (kf : a = b → tg_G ta x S (pc + 3) lv st) : tg_G ta x S pc lv (.int b :: .int a :: st) := fun H locs ls hI hl => lv_icmp_ne X.1 X.2.1 hd ht (fun h => kt h H locs ls hI hl) (fun h => kf h H locs ls hI hl)
theorem tg_if_lt (X : tg_M ta x cc nL own rm rt Sf rv) {a : Int32} {off : Int} {tgt : Nat} (hd : decode cc pc = .ok (.ifCond .lt off, 3)) (ht : (pc : Int) + off = (tgt : Int)) (kt : a < 0 → tg_G ta x S tgt lv st) (kf : ¬ a < 0 → tg_G ta x S (pc + 3) lv st) : tg_G ta x S pc lv (.int a :: st) := fun H locs ls hI hl => lv_if_lt X.1 X.2.1 hd ht (fun h => kt h H locs ls hI hl) (fun h => kf h H locs ls hI hl)
theorem tg_icmp_lt (X : tg_M ta x cc nL own rm rt Sf rv) {a b : Int32} {off : Int} {tgt : Nat} (hd : decode cc pc = .ok (.if_icmp .lt off, 3)) (ht : (pc : Int) + off = (tgt : Int)) (kt : a < b → tg_G ta x S tgt lv st) (kf : ¬ a < b → tg_G ta x S (pc + 3) lv st) : tg_G ta x S pc lv (.int b :: .int a :: st) := fun H locs ls hI hl => lv_icmp_lt X.1 X.2.1 hd ht (fun h => kt h H locs ls hI hl) (fun h => kf h H locs ls hI hl)
theorem tg_if_ge (X : tg_M ta x cc nL own rm rt Sf rv) {a : Int32} {off : Int} {tgt : Nat} (hd : decode cc pc = .ok (.ifCond .ge off, 3)) (ht : (pc : Int) + off = (tgt : Int)) (kt : 0 ≤ a → tg_G ta x S tgt lv st) (kf : ¬ 0 ≤ a → tg_G ta x S (pc + 3) lv st) : tg_G ta x S pc lv (.int a :: st) := fun H locs ls hI hl => lv_if_ge X.1 X.2.1 hd ht (fun h => kt h H locs ls hI hl) (fun h => kf h H locs ls hI hl)
theorem tg_icmp_ge (X : tg_M ta x cc nL own rm rt Sf rv) {a b : Int32} {off : Int} {tgt : Nat} (hd : decode cc pc = .ok (.if_icmp .ge off, 3)) (ht : (pc : Int) + off = (tgt : Int)) (kt : b ≤ a → tg_G ta x S tgt lv st) (kf : ¬ b ≤ a → tg_G ta x S (pc + 3) lv st) : tg_G ta x S pc lv (.int b :: .int a :: st) := fun H locs ls hI hl => lv_icmp_ge X.1 X.2.1 hd ht (fun h => kt h H locs ls hI hl) (fun h => kf h H locs ls hI hl)
theorem tg_if_gt (X : tg_M ta x cc nL own rm rt Sf rv) {a : Int32} {off : Int} {tgt : Nat} (hd : decode cc pc = .ok (.ifCond .gt off, 3)) (ht : (pc : Int) + off = (tgt : Int)) (kt : 0 < a → tg_G ta x S tgt lv st) (kf : ¬ 0 < a → tg_G ta x S (pc + 3) lv st) : tg_G ta x S pc lv (.int a :: st) := fun H locs ls hI hl => lv_if_gt X.1 X.2.1 hd ht (fun h => kt h H locs ls hI hl) (fun h => kf h H locs ls hI hl)
theorem tg_icmp_gt (X : tg_M ta x cc nL own rm rt Sf rv) {a b : Int32} {off : Int} {tgt : Nat} (hd : decode cc pc = .ok (.if_icmp .gt off, 3)) (ht : (pc : Int) + off = (tgt : Int)) (kt : b < a → tg_G ta x S tgt lv st) (kf : ¬ b < a → tg_G ta x S (pc + 3) lv st) : tg_G ta x S pc lv (.int b :: .int a :: st) := fun H locs ls hI hl => lv_icmp_gt X.1 X.2.1 hd ht (fun h => kt h H locs ls hI hl) (fun h => kf h H locs ls hI hl)
theorem tg_if_le (X : tg_M ta x cc nL own rm rt Sf rv) {a : Int32} {off : Int} {tgt : Nat} (hd : decode cc pc = .ok (.ifCond .le off, 3)) (ht : (pc : Int) + off = (tgt : Int)) (kt : a ≤ 0 → tg_G ta x S tgt lv st) (kf : ¬ a ≤ 0 → tg_G ta x S (pc + 3) lv st) : tg_G ta x S pc lv (.int a :: st) := fun H locs ls hI hl => lv_if_le X.1 X.2.1 hd ht (fun h => kt h H locs ls hI hl) (fun h => kf h H locs ls hI hl)
theorem tg_icmp_le (X : tg_M ta x cc nL own rm rt Sf rv) {a b : Int32} {off : Int} {tgt : Nat} (hd : decode cc pc = .ok (.if_icmp .le off, 3)) (ht : (pc : Int) + off = (tgt : Int)) (kt : a ≤ b → tg_G ta x S tgt lv st) (kf : ¬ a ≤ b → tg_G ta x S (pc + 3) lv st) : tg_G ta x S pc lv (.int b :: .int a :: st) := fun H locs ls hI hl => lv_icmp_le X.1 X.2.1 hd ht (fun h => kt h H locs ls hI hl) (fun h => kf h H locs ls hI hl)
-- arrays
theorem tg_iald (X : tg_M ta x cc nL own rm rt Sf rv) (k : Nat) {n : Nat} (ht : ta[k]? = some (.inl (false, n))) {i : Int32} (hi : vp_in i n) (hd : decode cc pc = .ok (.iaload, 1)) (kk : tg_G ta x S (pc + 1) lv (.int (S k i.toNatClampNeg) :: st)) : tg_G ta x S pc lv (.int i :: .ref (tg_ad x k) :: st) := fun H locs ls hI hl => va_iald X.1 X.2.1 X.2.2.2.2.2.1 hI.1 k 0 (tg_w_get ht) rfl hi hd (kk H locs ls hI hl)
theorem tg_zald (X : tg_M ta x cc nL own rm rt Sf rv) (k : Nat) {n : Nat} (ht : ta[k]? = some (.inl (true, n))) {i : Int32} (hi : vp_in i n) (hd : decode cc pc = .ok (.baload, 1)) (kk : tg_G ta x S (pc + 1) lv (.int (S k i.toNatClampNeg) :: st)) : tg_G ta x S pc lv (.int i :: .ref (tg_ad x k) :: st) := fun H locs ls hI hl => va_zald X.1 X.2.1 X.2.2.2.2.2.1 hI.1 k 1 (tg_w_get ht) rfl hi hd (kk H locs ls hI hl)
theorem tg_iast (X : tg_M ta x cc nL own rm rt Sf rv) (k : Nat) {n : Nat} (ht : ta[k]? = some (.inl (false, n))) {i v : Int32} (hi : vp_in i n) (hd : decode cc pc = .ok (.iastore, 1)) (kk : ∀ S2 : tg_S, S2 = tg_sw S k (upd (S k) i.toNatClampNeg v) → tg_G ta x S2 (pc + 1) lv st) : tg_G ta x S pc lv (.int v :: .int i :: .ref (tg_ad x k) :: st) := fun H locs ls hI hl => va_iast X.1 X.2.1 X.2.2.2.2.2.1 hI.1 hI.2.1 hI.2.2 k 0 (tg_w_get ht) rfl hi hd (fun H1 locs1 hP hD hS => kk _ rfl H1 locs1 ls ⟨by rw [← tg_w_set _ ht]; exact hP, by rw [← tg_w_set _ ht]; exact hD, hS⟩ hl)
theorem tg_zast (X : tg_M ta x cc nL own rm rt Sf rv) (k : Nat) {n : Nat} (ht : ta[k]? = some (.inl (true, n))) {i v : Int32} (hi : vp_in i n) (hd : decode cc pc = .ok (.bastore, 1)) (kk : ∀ S2 : tg_S, S2 = tg_sw S k (upd (S k) i.toNatClampNeg (vp_nar .boolean v)) → tg_G ta x S2 (pc + 1) lv st) : tg_G ta x S pc lv (.int v :: .int i :: .ref (tg_ad x k) :: st) := fun H locs ls hI hl => va_zast X.1 X.2.1 X.2.2.2.2.2.1 hI.1 hI.2.1 hI.2.2 k 1 (tg_w_get ht) rfl hi hd (fun H1 locs1 hP hD hS => kk _ rfl H1 locs1 ls ⟨by rw [← tg_w_set _ ht]; exact hP, by rw [← tg_w_set _ ht]; exact hD, hS⟩ hl)
-- fields
def tg_Cl (ci : Nat) (C : String) (T : u_T) (N : Nat) (ty : Nat → FieldType) : Prop := vwCl[ci]? = some (C, T, N) ∧ (∀ w ∈ u_ws C T N, w ∈ tg_gG) ∧ (∀ k, k < N → parseFieldDescriptor (T k).2.2.1 = some (ty k)) ∧ ∀ a, a < N → ∀ b, b < N → a ≠ b → (T a).2.1 ≠ (T b).2.1
theorem tg_geti (X : tg_M ta x cc nL own rm rt Sf rv) (k : Nat) {ci : Nat} {fs : List (Option (Option Nat))} (ht : ta[k]? = some (.inr (ci, fs))) {C : String} {T : u_T} {N : Nat} {ty : Nat → FieldType} (hC : tg_Cl ci C T N ty) (j : Nat) (hj : j < N) (hf : fs[j]? = some none) {index : Nat} (hw : Cond.fieldLink own index (T j).1 (T j).2.1 (T j).2.2.1 ∈ tg_gG) (hd : decode cc pc = .ok (.getfield index, 3)) (kk : tg_G ta x S (pc + 3) lv (.int (S k j) :: st)) : tg_G ta x S pc lv (.ref (tg_ad x k) :: st) := fun H locs ls hI hl => va_get X.1 X.2.1 X.2.2.2.2.1 hC.2.1 X.2.2.2.1 X.2.2.2.2.2.1 hI.1 k (tg_w_get ht) hC.1 j hj (X.2.2.2.2.1 _ hw) (fun _ h => h) (tg_fs_get hf) hd (kk H locs ls hI hl)
theorem tg_getr (X : tg_M ta x cc nL own rm rt Sf rv) (k : Nat) {ci : Nat} {fs : List (Option (Option Nat))} (ht : ta[k]? = some (.inr (ci, fs))) {C : String} {T : u_T} {N : Nat} {ty : Nat → FieldType} (hC : tg_Cl ci C T N ty) (j : Nat) (hj : j < N) {r : Nat} (hf : fs[j]? = some (some (some r))) {index : Nat} (hw : Cond.fieldLink own index (T j).1 (T j).2.1 (T j).2.2.1 ∈ tg_gG) (hd : decode cc pc = .ok (.getfield index, 3)) (kk : tg_G ta x S (pc + 3) lv (.ref (tg_ad x r) :: st)) : tg_G ta x S pc lv (.ref (tg_ad x k) :: st) := fun H locs ls hI hl => va_get X.1 X.2.1 X.2.2.2.2.1 hC.2.1 X.2.2.2.1 X.2.2.2.2.2.1 hI.1 k (tg_w_get ht) hC.1 j hj (X.2.2.2.2.1 _ hw) (fun _ h => h) (tg_fs_get hf) hd (kk H locs ls hI hl)
theorem tg_puti (X : tg_M ta x cc nL own rm rt Sf rv) (k : Nat) {ci : Nat} {fs : List (Option (Option Nat))} (ht : ta[k]? = some (.inr (ci, fs))) {C : String} {T : u_T} {N : Nat} {ty : Nat → FieldType} (hC : tg_Cl ci C T N ty) (j : Nat) (hj : j < N) (hf : fs[j]? = some none) {index : Nat} (hw : Cond.fieldLink own index (T j).1 (T j).2.1 (T j).2.2.1 ∈ tg_gG) (hfin : (T j).2.2.2 = false) {v : Int32} (hn : narrow (ty j) (.int v) = .int v) (hfit : fits (ty j) (.int v) = true) (hd : decode cc pc = .ok (.putfield index, 3)) (kk : ∀ S2 : tg_S, S2 = tg_sw S k (upd (S k) j v) → tg_G ta x S2 (pc + 3) lv st) : tg_G ta x S pc lv (.int v :: .ref (tg_ad x k) :: st) := fun H locs ls hI hl =>
  va_put X.1 X.2.1 X.2.2.2.2.1 hC.2.1 ty hC.2.2.1 hC.2.2.2 X.2.2.2.1 X.2.2.2.2.2.1 hI.1 hI.2.1 hI.2.2 k (tg_w_get ht) hC.1 j hj (X.2.2.2.2.1 _ hw) (fun _ h => h) hfin (hC.2.2.1 j hj) hn hfit (by rw [tg_fs, List.length_mapIdx]; exact (List.getElem?_eq_some_iff.mp hf).1) hd (fun H1 locs1 hP hD hS => kk _ rfl H1 locs1 ls ⟨by
    rw [tg_fs_set v hf] at hP
    rw [← tg_w_set _ ht]; exact hP, by
    rw [tg_fs_set v hf] at hD
    rw [← tg_w_set _ ht]; exact hD, hS⟩ hl)
-- returns
theorem tg_iret {r a : Int32} (X : tg_M ta x cc nL own rm rt Sf (some (.int r))) (h : some (S, a) = some (Sf, r)) (hn : tg_nok rt (some (.int a))) (hd : decode cc pc = .ok (.ireturn, 1)) : tg_G ta x S pc lv [.int a] := by
  cases h
  exact fun H locs ls hI hl => X.2.2.2.2.2.2.2.2.2 pc H locs ls hI hn hd
theorem tg_lret {r a : Int64} (X : tg_M ta x cc nL own rm rt Sf (some (.long r))) (h : some (S, a) = some (Sf, r)) (hn : tg_nok rt (some (.long a))) (hd : decode cc pc = .ok (.lreturn, 1)) : tg_G ta x S pc lv [.long a] := by
  cases h
  exact fun H locs ls hI hl => X.2.2.2.2.2.2.2.2.2 pc H locs ls hI hn hd
theorem tg_vret (X : tg_M ta x cc nL own rm rt Sf none) (h : some S = some Sf) (hd : decode cc pc = .ok (.return_, 1)) : tg_G ta x S pc lv [] := by
  cases h
  exact fun H locs ls hI hl => X.2.2.2.2.2.2.2.2.2 pc H locs ls hI trivial hd
-- contracts
def tg_Qc (ta : List tg_E) (D : va_G) (cy : Bool → ClassId) (ad : Nat → Nat) (S : tg_S) (sz : Nat) (S1 : tg_S) (rv : Option Value) : Array Value → State → Outcome → State → Prop := fun _ st oc t => (oc = .returned rv ∧ va_P D vwCl (tg_w cy ta ad S1) t.heap ∧ va_K D vwCl (tg_ty cy) t ∧ va_D (va_A (tg_w cy ta ad S) sz) (tg_w cy ta ad S1)) ∧ va_F (va_A (tg_w cy ta ad S) sz) st t
def tg_Met (l : Launch) (y : MethodName) (cc : ByteArray) (maxL : Nat) (rt : Option FieldType) (rm : Room) (ta : List tg_E) (D : va_G) (cy : Bool → ClassId) (ad : Nat → Nat) (tS : Nat) (S : tg_S) (vs : List Value) (S1 : tg_S) (rv : Option Value) : Prop :=
  ∀ sz : Nat, Met l y (.code y cc maxL rt :: tg_gG) rm (va_Pc vs (fun U => U.heap.size = sz ∧ va_P D vwCl (tg_w cy ta ad S) U.heap ∧ va_K D vwCl (tg_ty cy) U ∧ va_D (fun _ => True) (tg_w cy ta ad S) ∧ tg_Env (va_A (tg_w cy ta ad S) sz) U U.heap tS))
    (tg_Qc ta D cy ad S sz S1 rv) 0 0 (va_A (tg_w cy ta ad S) sz)
theorem tg_mk {l : Launch} {y : MethodName} {cc : ByteArray} {maxL : Nat} {rt : Option FieldType} {rm : Room} {ta : List tg_E} {D : va_G} {cy : Bool → ClassId} {ad : Nat → Nat} {tS : Nat} {S : tg_S} {vs : List Value} {S1 : tg_S} {rv : Option Value}
    (hy : plainName y.cls = true) (hrv : match rv, rt with | none, none => True | some (.int _), some _ => True | some (.long _), some .long => True | _, _ => False) (hvs : (lg_sl vs).length ≤ maxL)
    (body : ∀ (p : Program) (e : Env) (s : State) (m : MethodId) (args : Array Value) (below : List Frame) (meth : Method) (c : Code) (Q : State → Prop) (A : Nat → Prop), tg_M ta (p, l, e, rm, s, m, args, below, meth, c, Q, A, D, cy, ad, tS) cc maxL y.cls rm rt S1 rv → tg_G ta (p, l, e, rm, s, m, args, below, meth, c, Q, A, D, cy, ad, tS) S 0 (lv_args 0 vs) []) : tg_Met l y cc maxL rt rm ta D cy ad tS S vs S1 rv := by
  intro sz
  refine Met.ofW (cc := cc) (maxL := maxL) (ret := rt) hy rfl ?_
  intro p e s m args below meth c s₁ B hml hv
  obtain ⟨rfl, hsz, hP, hK, hD0, hE⟩ := hv
  subst hsz
  have hts := atoms_spec (ws := (.code y cc maxL rt :: tg_gG)) B.pre
  have hown : s.vm.findClass y.cls = some m.cls := findClass_of_methodNamed B.named
  have hlocks := B.notSynchronized
  have hr := B.returns
  have hD := hD0.self (sz := s.heap.size)
  have hl := lv_entry vs (n := maxL) hvs
  rw [lg_entry_eq]
  generalize (lg_sl vs ++ List.replicate (maxL - (lg_sl vs).length) Slot.unset).toArray = ls at hl ⊢
  refine body p e s m vs.toArray below meth c (MQ below (tg_Qc ta D cy ad S s.heap.size S1 rv) vs.toArray s 0 0 (va_A (tg_w cy ta ad S) s.heap.size)) (va_A (tg_w cy ta ad S) s.heap.size) ⟨B.exec, B.bytes, hml, hown, fun w hw => hts w (List.mem_cons_of_mem _ hw), hK, fun q h => Or.inr h, rfl, hE, ?_⟩ s.heap [] ls ⟨hP, hD, va_S.rf⟩ (by show lv_has ls c.maxLocals _; rw [hml]; exact hl)
  intro pc H locs ls hI hn hd
  obtain ⟨hP1, hD1, hS1⟩ := hI
  match rv, rt, hrv, hn, hd, hr with
  | none, none, _, _, hd, hr => exact (show W p l e rm s m vs.toArray below meth c H locs 0 0 (MQ below (tg_Qc ta D cy ad S s.heap.size S1 none) vs.toArray s 0 0 (va_A (tg_w cy ta ad S) s.heap.size)) (F0 m pc ls []) from W.vret B.exec B.bytes hr (fun t ht hW => ⟨⟨rfl, by rw [ht]; exact hP1, va_K.moved hW.alike hK, hD1⟩, hS1.F ht⟩) hS1.2.2 hd)
  | some (.int r), some ty, _, hn, hd, hr => exact (show W p l e rm s m vs.toArray below meth c H locs 0 0 (MQ below (tg_Qc ta D cy ad S s.heap.size S1 (some (.int r))) vs.toArray s 0 0 (va_A (tg_w cy ta ad S) s.heap.size)) (F0 m pc ls [.int r]) from W.zret B.exec B.bytes hr hn (fun t ht hW => ⟨⟨rfl, by rw [ht]; exact hP1, va_K.moved hW.alike hK, hD1⟩, hS1.F ht⟩) hS1.2.2 hd)
  | some (.long r), some .long, _, _, hd, hr => exact (show W p l e rm s m vs.toArray below meth c H locs 0 0 (MQ below (tg_Qc ta D cy ad S s.heap.size S1 (some (.long r))) vs.toArray s 0 0 (va_A (tg_w cy ta ad S) s.heap.size)) (F0 m pc ls [.long r]) from W.lret B.exec B.bytes hr (fun t ht hW => ⟨⟨rfl, by rw [ht]; exact hP1, va_K.moved hW.alike hK, hD1⟩, hS1.F ht⟩) hS1.2.2 hd)
-- calls
theorem tg_sub (X : tg_M ta x cc nL own rm rt Sf rv) {H : Heap} {locs : List Loc} (hI : tg_I ta x S H locs) : ∀ q, va_A (tg_w (tg_cy x) ta (tg_ad x) S) H.size q → tg_A x q := by
  intro q h
  rcases h with ⟨k, e, h⟩ | h
  · exact hI.2.1.2 k _ h
  · exact X.2.2.2.2.2.2.1 q (Nat.le_trans hI.2.2.1 h)
theorem tg_aft (X : tg_M ta x cc nL own rm rt Sf rv) {H : Heap} {locs : List Loc} {ls : Array Slot} {st0 rest : List Value} {S1 : tg_S} {rv2 : Option Value} {a : Array Value} (hI : tg_I ta x S H locs) (hl : lv_has ls (tg_c x).maxLocals lv)
    (run : va_Run (tg_p x) (tg_l x) (tg_en x) (tg_R x) (tg_s x) (tg_m x) (tg_args x) (tg_below x) (tg_meth x) (tg_c x) H locs 0 0 0 0 (F0 (tg_m x) pc ls st0) rest (tg_Qc ta (tg_D x) (tg_cy x) (tg_ad x) S H.size S1 rv2 a) (va_A (tg_w (tg_cy x) ta (tg_ad x) S) H.size)) (kk : tg_G ta x S1 (pc + 3) lv (rv2.toList ++ rest)) : tg_W x H locs pc ls st0 := by
  have hA := tg_sub X hI
  obtain ⟨hP, hD, hS⟩ := hI
  intro T hT X'
  obtain ⟨v, st₀, t, T', L, h0, X1, hL, e1, e2, ⟨⟨hv, hP1, hK1, hD1⟩, hz, hk⟩, st⟩ := run T hT X'
  cases hv
  rw [h0] at hz hk
  obtain ⟨t2, a1, b1⟩ := kk T'.heap (locs ++ L) ls ⟨by rw [e1]; exact hP1, hD1.weaken (fun k q hq h => hA _ h), ⟨Nat.le_trans hS.1 (by rw [e1]; exact hz), fun q h1 h2 => by rw [e1, hk q (Nat.lt_of_lt_of_le h1 hS.1) (fun z => h2 (hA q z))]; exact hS.2.1 q h1 h2, fun q hq => by
      rcases List.mem_append.mp hq with h | h
      · exact hS.2.2 q h
      · exact hA _ (hL q h)⟩⟩ hl T' rfl X1
  exact ⟨t2, st t2 a1, b1⟩
theorem tg_pre (X : tg_M ta x cc nL own rm rt Sf rv) {H : Heap} {locs : List Loc} {vs : List Value} (hI : tg_I ta x S H locs) : PreS (tg_s x) H (va_Pc vs (fun U => U.heap.size = H.size ∧ va_P (tg_D x) vwCl (tg_w (tg_cy x) ta (tg_ad x) S) U.heap ∧ va_K (tg_D x) vwCl (tg_ty (tg_cy x)) U ∧ va_D (fun _ => True) (tg_w (tg_cy x) ta (tg_ad x) S) ∧ tg_Env (va_A (tg_w (tg_cy x) ta (tg_ad x) S) H.size) U U.heap (tg_tS x))) vs := by
  have hA := tg_sub X hI
  obtain ⟨hP, hD, hS⟩ := hI
  refine ⟨fun a U g mk q => ?_, fun U hU hW => ?_⟩
  · obtain ⟨q0, q1, qP, qK, qD, qE⟩ := q
    exact ⟨q0, q1, qP, va_K.moved (u := U) (U := U.calling g mk a) (Vm.Alike.refl U.vm) qK, qD, qE.calling⟩
  · refine ⟨rfl, by rw [hU], by rw [hU]; exact hP, va_K.moved hW.alike X.2.2.2.2.2.1, hD.weaken (fun _ _ _ _ => trivial), ?_⟩
    rw [hU]
    exact tg_Env.kept hW hS.2.1 hA X.2.2.2.2.2.2.2.2.1
def tg_Y0 (y : MethodName) (cc : ByteArray) (maxL : Nat) (rt : Option FieldType) (n : Nat) : Prop := Cond.code y cc maxL rt ∈ tg_gG ∧ Cond.initialized y.cls ∈ tg_gG ∧ y.cls ≠ "java/lang/invoke/MethodHandle" ∧ y.cls ≠ "java/lang/invoke/VarHandle" ∧ (parseMethodDescriptor y.desc).map (fun d => d.parameters.length) = some n
theorem tg_cb (X : tg_M ta x cc nL own rm rt Sf rv) {y : MethodName} {cc2 : ByteArray} {maxL : Nat} {rt2 : Option FieldType} {n index : Nat} {rm2 : Room} (hY : tg_Y0 y cc2 maxL rt2 n) (hL : Cond.methodLink own index y ∈ tg_gG) (hR : rm2.cells = 0 ∧ rm2.slots = 0 ∧ rm2.frames + 1 ≤ rm.frames ∧ 8 + (maxL + 11) + rm2.locals ≤ rm.locals) : CallB (tg_R x) (tg_s x) (tg_args x) own index y cc2 maxL rt2 (Cond.code y cc2 maxL rt2 :: tg_gG) rm2 0 0 n := by
  refine callB_of (Ts := tg_gG) n X.2.2.2.2.1 (tg_GG (fun w h => h) (fun w h => ?_)) rfl hR.1 hR.2.1 (X.2.2.2.2.1 _ hY.2.1) (X.2.2.2.2.1 _ hL) hY.2.2 (by rw [X.2.2.2.2.2.2.2.1]; exact hR.2.2)
  rcases List.mem_cons.mp h with rfl | h
  · exact hY.1
  · exact h
/-- a call of a method of an object (a method of its own class) -/
theorem tg_callV (X : tg_M ta x cc nL own rm rt Sf rv) {y : MethodName} {cc2 : ByteArray} {maxL : Nat} {rt2 : Option FieldType} {rm2 : Room} {S1 : tg_S} {rv2 : Option Value} {n index : Nat} (k : Nat) {As rest st0 : List Value} (hM : tg_Met (tg_l x) y cc2 maxL rt2 rm2 ta (tg_D x) (tg_cy x) (tg_ad x) (tg_tS x) S (.ref (tg_ad x k) :: As) S1 rv2) (hY : tg_Y0 y cc2 maxL rt2 n) (hI0 : Cond.instanceMethod y ∈ tg_gG) (hs0 : Cond.selects y.cls y y ∈ tg_gG) (hL : Cond.methodLink own index y ∈ tg_gG)
    {ci : Nat} {fs : List (Option (Option Nat))} (ht : ta[k]? = some (.inr (ci, fs))) {T : u_T} {N : Nat} (hc : vwCl[ci]? = some (y.cls, T, N)) (hR : rm2.cells = 0 ∧ rm2.slots = 0 ∧ rm2.frames + 1 ≤ rm.frames ∧ 8 + (maxL + 11) + rm2.locals ≤ rm.locals) (hn : As.length = n) (hst : st0 = As.reverse ++ .ref (tg_ad x k) :: rest) (hW : (rest.map fun v => v.category).sum ≤ 8) (hd : decode cc pc = .ok (.invokevirtual index, 3)) (kk : tg_G ta x S1 (pc + 3) lv (rv2.toList ++ rest)) : tg_G ta x S pc lv st0 := by
  intro H locs ls hI hl
  have hp := tg_pre X (vs := .ref (tg_ad x k) :: As) hI
  refine tg_aft X hI hl (va_runV (C := y.cls) (Ts := tg_gG) ⟨X.1, X.2.1, rfl, X.2.2.2.1, X.2.2.2.2.1⟩ (hM H.size) ⟨tg_cb X hY hL hR, X.2.2.2.2.1 _ hI0, X.2.2.2.2.1 _ hs0⟩ ⟨hp.1, va_recv X.2.2.2.2.2.1 hI.1 hc (tg_w_get ht), hp.2⟩ rfl hn hl.1 hst (lv_room hW) hd ⟨Nat.zero_le _, Nat.zero_le _⟩) kk
theorem tg_callS (X : tg_M ta x cc nL own rm rt Sf rv) {y : MethodName} {cc2 : ByteArray} {maxL : Nat} {rt2 : Option FieldType} {rm2 : Room} {S1 : tg_S} {rv2 : Option Value} {n index : Nat} {As rest st0 : List Value} (hM : tg_Met (tg_l x) y cc2 maxL rt2 rm2 ta (tg_D x) (tg_cy x) (tg_ad x) (tg_tS x) S As S1 rv2) (hY : tg_Y0 y cc2 maxL rt2 n) (hI0 : Cond.static y ∈ tg_gG) (hL : Cond.methodLink own index y ∈ tg_gG)
    (hR : rm2.cells = 0 ∧ rm2.slots = 0 ∧ rm2.frames + 1 ≤ rm.frames ∧ 8 + (maxL + 11) + rm2.locals ≤ rm.locals) (hn : As.length = n) (hst : st0 = As.reverse ++ rest) (hW : (rest.map fun v => v.category).sum ≤ 8) (hd : decode cc pc = .ok (.invokestatic index, 3)) (kk : tg_G ta x S1 (pc + 3) lv (rv2.toList ++ rest)) : tg_G ta x S pc lv st0 := by
  intro H locs ls hI hl
  exact tg_aft X hI hl (va_runS (Ts := tg_gG) ⟨X.1, X.2.1, rfl, X.2.2.2.1, X.2.2.2.2.1⟩ (hM H.size) ⟨tg_cb X hY hL hR, X.2.2.2.2.1 _ hI0⟩ (tg_pre X (vs := As) hI) rfl hn hl.1 hst (lv_room hW) hd ⟨Nat.zero_le _, Nat.zero_le _⟩) kk
/-- isBelow, private, called by a nest mate -/
theorem tg_callSN (X : tg_M ta x cc nL own rm rt Sf rv) {y : MethodName} {cc2 : ByteArray} {maxL : Nat} {rt2 : Option FieldType} {rm2 : Room} {S1 : tg_S} {rv2 : Option Value} {n index : Nat} {host : String} {As rest st0 : List Value} (hM : tg_Met (tg_l x) y cc2 maxL rt2 rm2 ta (tg_D x) (tg_cy x) (tg_ad x) (tg_tS x) S As S1 rv2) (hY : tg_Y0 y cc2 maxL rt2 n) (hI0 : Cond.static y ∈ tg_gG) (hL : tg_Env (tg_A x) (tg_s x) (tg_s x).heap (tg_tS x) → va_Nw (.methodLinkNest own index y host) (tg_s x))
    (hR : rm2.cells = 0 ∧ rm2.slots = 0 ∧ rm2.frames + 1 ≤ rm.frames ∧ 8 + (maxL + 11) + rm2.locals ≤ rm.locals) (hn : As.length = n) (hst : st0 = As.reverse ++ rest) (hW : (rest.map fun v => v.category).sum ≤ 8) (hd : decode cc pc = .ok (.invokestatic index, 3)) (kk : tg_G ta x S1 (pc + 3) lv (rv2.toList ++ rest)) : tg_G ta x S pc lv st0 := by
  intro H locs ls hI hl
  refine tg_aft X hI hl (va_runSN (Ts := tg_gG) ⟨X.1, X.2.1, rfl, X.2.2.2.1, X.2.2.2.2.1⟩ (hM H.size) ⟨va_cnB (Ts := tg_gG) n X.2.2.2.2.1 (tg_GG (fun w h => h) (fun w h => ?_)) rfl hR.1 hR.2.1 (hL X.2.2.2.2.2.2.2.2.1) (X.2.2.2.2.1 _ hY.2.1) hY.2.2 (by rw [X.2.2.2.2.2.2.2.1]; exact hR.2.2), X.2.2.2.2.1 _ hI0, trivial⟩ (tg_pre X (vs := As) hI) rfl hn hl.1 hst (lv_room hW) hd ⟨Nat.zero_le _, Nat.zero_le _⟩) kk
  rcases List.mem_cons.mp h with rfl | h
  · exact hY.1
  · exact h
-- Math
def tg_max (a b : Int32) : Int32 := if a < b then b else a
def tg_min (a b : Int32) : Int32 := if b < a then b else a
theorem tg_mmax (X : tg_M ta x cc nL own rm rt Sf rv) {index : Nat} {a b : Int32} (hw : Cond.methodLink own index Lib.Math.max.name ∈ tg_gG ∧ Cond.static Lib.Math.max.name ∈ tg_gG ∧ Cond.initialized "java/lang/Math" ∈ tg_gG ∧ Cond.code Lib.Math.max.name Lib.Math.max.code 2 (some .int) ∈ tg_gG) (hR : 1 ≤ rm.frames ∧ (st.map fun v => v.category).sum + 13 ≤ rm.locals) (hd : decode cc pc = .ok (.invokestatic index, 3)) (kk : tg_G ta x S (pc + 3) lv (.int (tg_max a b) :: st)) : tg_G ta x S pc lv (.int b :: .int a :: st) := fun H locs ls hI hl => va_mmax X.1 X.2.1 hl.1.symm X.2.2.2.1 (X.2.2.2.2.1 _ hw.1) (X.2.2.2.2.1 _ hw.2.1) (X.2.2.2.2.1 _ hw.2.2.1) (X.2.2.2.2.1 _ hw.2.2.2) (by rw [X.2.2.2.2.2.2.2.1]; exact hR.1) (by rw [X.2.2.2.2.2.2.2.1]; exact hR.2) (Nat.zero_le _) (Nat.zero_le _) hd (kk H locs ls hI hl)
theorem tg_mmin (X : tg_M ta x cc nL own rm rt Sf rv) {index : Nat} {a b : Int32} (hw : Cond.methodLink own index Lib.Math.min.name ∈ tg_gG ∧ Cond.static Lib.Math.min.name ∈ tg_gG ∧ Cond.initialized "java/lang/Math" ∈ tg_gG ∧ Cond.code Lib.Math.min.name Lib.Math.min.code 2 (some .int) ∈ tg_gG) (hR : 1 ≤ rm.frames ∧ (st.map fun v => v.category).sum + 13 ≤ rm.locals) (hd : decode cc pc = .ok (.invokestatic index, 3)) (kk : tg_G ta x S (pc + 3) lv (.int (tg_min a b) :: st)) : tg_G ta x S pc lv (.int b :: .int a :: st) := fun H locs ls hI hl => va_mmin X.1 X.2.1 hl.1.symm X.2.2.2.1 (X.2.2.2.2.1 _ hw.1) (X.2.2.2.2.1 _ hw.2.1) (X.2.2.2.2.1 _ hw.2.2.1) (X.2.2.2.2.1 _ hw.2.2.2) (by rw [X.2.2.2.2.2.2.2.1]; exact hR.1) (by rw [X.2.2.2.2.2.2.2.1]; exact hR.2) (Nat.zero_le _) (Nat.zero_le _) hd (kk H locs ls hI hl)
-- arraycopy of int rows (source k0, target k1, perhaps the same)
def tg_cb2 (sp dp n : Int32) (n0 n1 : Nat) : Bool := decide (¬ sp < 0 ∧ ¬ dp < 0 ∧ ¬ n < 0 ∧ sp.toNatClampNeg + n.toNatClampNeg ≤ n0 ∧ dp.toNatClampNeg + n.toNatClampNeg ≤ n1)
theorem tg_acopy (X : tg_M ta x cc nL own rm rt Sf rv) (k0 k1 : Nat) {n0 n1 : Nat} (h0 : ta[k0]? = some (.inl (false, n0))) (h1 : ta[k1]? = some (.inl (false, n1))) {index : Nat} {sp dp n : Int32} (hb : tg_cb2 sp dp n n0 n1 = true) (hw : Cond.methodLink own index arraycopyName ∈ tg_gG ∧ Cond.native arraycopyName ∈ tg_gG ∧ Cond.static arraycopyName ∈ tg_gG ∧ Cond.initialized "java/lang/System" ∈ tg_gG) (hR : 1 ≤ rm.frames ∧ (st.map fun v => v.category).sum + 18 ≤ rm.locals) (hd : decode cc pc = .ok (.invokestatic index, 3))
    (kk : ∀ S2 : tg_S, S2 = tg_sw S k1 (va_cpy (S k0) (S k1) sp.toNatClampNeg dp.toNatClampNeg n.toNatClampNeg) → tg_G ta x S2 (pc + 3) lv st) : tg_G ta x S pc lv (.int n :: .int dp :: .ref (tg_ad x k1) :: .int sp :: .ref (tg_ad x k0) :: st) := by
  intro H locs ls hI hl
  unfold tg_cb2 at hb
  obtain ⟨b1, b2, b3, b4, b5⟩ := of_decide_eq_true hb
  exact va_copyi X.1 X.2.1 hl.1.symm X.2.2.2.1 (X.2.2.2.2.1 _ hw.1) (X.2.2.2.2.1 _ hw.2.1) (X.2.2.2.2.1 _ hw.2.2.1) (X.2.2.2.2.1 _ hw.2.2.2) X.2.2.2.2.2.1 hI.1 hI.2.1 hI.2.2 k0 k1 0 0 (tg_w_get h0) (tg_w_get h1) rfl rfl rfl b1 b2 b3 b4 b5 (fun _ _ => rfl) (by rw [X.2.2.2.2.2.2.2.1]; exact hR.1) (by rw [X.2.2.2.2.2.2.2.1]; exact hR.2) hd (fun H1 locs1 hP hD hS => kk _ rfl H1 locs1 ls ⟨by rw [← tg_w_set _ h1]; exact hP, by rw [← tg_w_set _ h1]; exact hD, hS⟩ hl)
-- the static row
def tg_db (i : Int32) : Int32 := if i.toNatClampNeg = 0 then 0 else if i.toNatClampNeg = 1 then 5 else if i.toNatClampNeg = 2 then 12 else 23
theorem tg_gets (X : tg_M ta x cc nL own rm rt Sf rv) {index : Nat} (hw : Cond.fieldLink own index "TugOfWar" "DIGEST_BEATS" "[I" ∈ tg_gG) (hd : decode cc pc = .ok (.getstatic index, 3)) (kk : tg_G ta x S (pc + 3) lv (.ref (tg_tS x) :: st)) : tg_G ta x S pc lv st := fun H locs ls hI hl => va_gets X.1 X.2.1 X.2.2.2.2.2.2.2.2.1.2.2.1 hI.2.2 X.2.2.2.1 (X.2.2.2.2.1 _ hw) (fun _ h => h) hd (kk H locs ls hI hl)
theorem tg_tald (X : tg_M ta x cc nL own rm rt Sf rv) {i : Int32} (hi : vp_in i 4) (hd : decode cc pc = .ok (.iaload, 1)) (kk : tg_G ta x S (pc + 1) lv (.int (tg_db i) :: st)) : tg_G ta x S pc lv (.int i :: .ref (tg_tS x) :: st) := fun H locs ls hI hl => va_ti X.1 X.2.1 X.2.2.2.2.2.2.2.2.1.2.2.2 hI.2.2 hi rfl hd (kk H locs ls hI hl)
theorem tg_tlen (X : tg_M ta x cc nL own rm rt Sf rv) (hd : decode cc pc = .ok (.arraylength, 1)) (kk : tg_G ta x S (pc + 1) lv (.int 4 :: st)) : tg_G ta x S pc lv (.ref (tg_tS x) :: st) := fun H locs ls hI hl => va_tlen X.1 X.2.1 X.2.2.2.2.2.2.2.2.1.2.2.2 hI.2.2 rfl hd (kk H locs ls hI hl)
-- switches
theorem tg_nei {a b : Int32} {z : Int} (hz : b.toInt = z) (h : ¬ a = b) : a.toInt ≠ z := fun e => h (Int32.toInt_inj.mp (e.trans hz.symm))
theorem tg_tsw (X : tg_M ta x cc nL own rm rt Sf rv) {dflt lo hi : Int} {offs : Array Int} {len : Nat} {a cst : Int32} {off : Int} {tgt : Nat} (hd : decode cc pc = .ok (.tableswitch dflt lo hi offs, len)) (ha : a = cst) (hin : ¬ cst.toInt < lo ∧ ¬ hi < cst.toInt ∧ offs[(cst.toInt - lo).toNat]? = some off) (ht : (pc : Int) + off = (tgt : Int)) (k : tg_G ta x S tgt lv st) : tg_G ta x S pc lv (.int a :: st) := by
  subst ha
  exact fun H locs ls hI hl => lv_tableIn X.1 X.2.1 hd hin.1 hin.2.1 hin.2.2 ht (k H locs ls hI hl)
theorem tg_tswD (X : tg_M ta x cc nL own rm rt Sf rv) {dflt lo hi : Int} {offs : Array Int} {len : Nat} {a : Int32} {tgt : Nat} (hd : decode cc pc = .ok (.tableswitch dflt lo hi offs, len)) (h : a.toInt < lo ∨ hi < a.toInt) (ht : (pc : Int) + dflt = (tgt : Int)) (k : tg_G ta x S tgt lv st) : tg_G ta x S pc lv (.int a :: st) := fun H locs ls hI hl => lv_tableOut X.1 X.2.1 hd h ht (k H locs ls hI hl)
theorem tg_lsw (X : tg_M ta x cc nL own rm rt Sf rv) {dflt : Int} {ps : Array (Int × Int)} {len : Nat} {a : Int32} {off : Int} {tgt : Nat} (hd : decode cc pc = .ok (.lookupswitch dflt ps, len)) (hp : (ps.toList.zip (ps.toList.drop 1)).all (fun (a, next) => a.1 < next.1) = true) (ho : Op.lookupswitch.offset ps.toList dflt a.toInt = off) (ht : (pc : Int) + off = (tgt : Int)) (k : tg_G ta x S tgt lv st) : tg_G ta x S pc lv (.int a :: st) := fun H locs ls hI hl => lv_lookup X.1 X.2.1 hd hp ho ht (k H locs ls hI hl)
end TgRows
end
