section
-- ===== PART A: goes FIRST, ahead of the names: the tables' words, and 'selects' of the private methods out of them =====
/-- a private method of a class that the tables say can be made, by its rows of tables_1 -/
def lw_okq (q : MethodName × Nat) : Prop := (q.1.cls ≠ "java/lang/invoke/MethodHandle" ∧ q.1.cls ≠ "java/lang/invoke/VarHandle") ∧ Cond.instantiable q.1.cls q.2 ∈ tables_1 ∧ Cond.privateMethod q.1 ∈ tables_1 ∧ Cond.instanceMethod q.1 ∈ tables_1
theorem lw_p0 : lw_okq (⟨"TugOfWar", "playTexts", "()V"⟩, 12) := ⟨⟨by decide +kernel, by decide +kernel⟩, List.mem_of_getElem? (i := 13) (by decide +kernel), List.mem_of_getElem? (i := 220) (by decide +kernel), List.mem_of_getElem? (i := 221) (by decide +kernel)⟩
theorem lw_p1 : lw_okq (⟨"TugOfWar$Contest", "takeTeam", "(LTugOfWar$Texts;I)V"⟩, 9) := ⟨⟨by decide +kernel, by decide +kernel⟩, List.mem_of_getElem? (i := 68) (by decide +kernel), List.mem_of_getElem? (i := 228) (by decide +kernel), List.mem_of_getElem? (i := 229) (by decide +kernel)⟩
theorem lw_p2 : lw_okq (⟨"TugOfWar$Contest", "takeCalls", "(LTugOfWar$Texts;I)V"⟩, 9) := ⟨⟨by decide +kernel, by decide +kernel⟩, List.mem_of_getElem? (i := 68) (by decide +kernel), List.mem_of_getElem? (i := 254) (by decide +kernel), List.mem_of_getElem? (i := 255) (by decide +kernel)⟩
theorem lw_p3 : lw_okq (⟨"TugOfWar", "playTold", "()V"⟩, 12) := ⟨⟨by decide +kernel, by decide +kernel⟩, List.mem_of_getElem? (i := 13) (by decide +kernel), List.mem_of_getElem? (i := 259) (by decide +kernel), List.mem_of_getElem? (i := 260) (by decide +kernel)⟩
theorem lw_p4 : lw_okq (⟨"TugOfWar$Course", "meetEvents", "(LTugOfWar$Events;I)V"⟩, 12) := ⟨⟨by decide +kernel, by decide +kernel⟩, List.mem_of_getElem? (i := 147) (by decide +kernel), List.mem_of_getElem? (i := 270) (by decide +kernel), List.mem_of_getElem? (i := 271) (by decide +kernel)⟩
theorem lw_p5 : lw_okq (⟨"TugOfWar$Course", "pullOfTeam", "(LTugOfWar$Contest;II)I"⟩, 12) := ⟨⟨by decide +kernel, by decide +kernel⟩, List.mem_of_getElem? (i := 147) (by decide +kernel), List.mem_of_getElem? (i := 281) (by decide +kernel), List.mem_of_getElem? (i := 282) (by decide +kernel)⟩
theorem lw_p6 : lw_okq (⟨"TugOfWar$Course", "forceOf", "(LTugOfWar$Contest;II)I"⟩, 12) := ⟨⟨by decide +kernel, by decide +kernel⟩, List.mem_of_getElem? (i := 147) (by decide +kernel), List.mem_of_getElem? (i := 285) (by decide +kernel), List.mem_of_getElem? (i := 286) (by decide +kernel)⟩
theorem lw_p7 : lw_okq (⟨"TugOfWar$Course", "moveRope", "(II)V"⟩, 12) := ⟨⟨by decide +kernel, by decide +kernel⟩, List.mem_of_getElem? (i := 147) (by decide +kernel), List.mem_of_getElem? (i := 292) (by decide +kernel), List.mem_of_getElem? (i := 293) (by decide +kernel)⟩
theorem lw_p8 : lw_okq (⟨"TugOfWar$Course", "standStill", "(I)V"⟩, 12) := ⟨⟨by decide +kernel, by decide +kernel⟩, List.mem_of_getElem? (i := 147) (by decide +kernel), List.mem_of_getElem? (i := 296) (by decide +kernel), List.mem_of_getElem? (i := 297) (by decide +kernel)⟩
theorem lw_p9 : lw_okq (⟨"TugOfWar", "isPuller", "(I)Z"⟩, 12) := ⟨⟨by decide +kernel, by decide +kernel⟩, List.mem_of_getElem? (i := 13) (by decide +kernel), List.mem_of_getElem? (i := 381) (by decide +kernel), List.mem_of_getElem? (i := 382) (by decide +kernel)⟩
theorem lw_p10 : lw_okq (⟨"TugOfWar", "found", "(I)I"⟩, 12) := ⟨⟨by decide +kernel, by decide +kernel⟩, List.mem_of_getElem? (i := 13) (by decide +kernel), List.mem_of_getElem? (i := 421) (by decide +kernel), List.mem_of_getElem? (i := 422) (by decide +kernel)⟩
theorem lw_p11 : lw_okq (⟨"TugOfWar", "pulledInAll", "(I)I"⟩, 12) := ⟨⟨by decide +kernel, by decide +kernel⟩, List.mem_of_getElem? (i := 13) (by decide +kernel), List.mem_of_getElem? (i := 456) (by decide +kernel), List.mem_of_getElem? (i := 457) (by decide +kernel)⟩
theorem lw_p12 : lw_okq (⟨"TugOfWar", "chooseSwap", "(I)V"⟩, 12) := ⟨⟨by decide +kernel, by decide +kernel⟩, List.mem_of_getElem? (i := 13) (by decide +kernel), List.mem_of_getElem? (i := 498) (by decide +kernel), List.mem_of_getElem? (i := 499) (by decide +kernel)⟩
theorem lw_p13 : lw_okq (⟨"TugOfWar", "chooseOut", "(I)V"⟩, 12) := ⟨⟨by decide +kernel, by decide +kernel⟩, List.mem_of_getElem? (i := 13) (by decide +kernel), List.mem_of_getElem? (i := 506) (by decide +kernel), List.mem_of_getElem? (i := 507) (by decide +kernel)⟩
theorem lw_p14 : lw_okq (⟨"TugOfWar", "chooseSpare", "()I"⟩, 12) := ⟨⟨by decide +kernel, by decide +kernel⟩, List.mem_of_getElem? (i := 13) (by decide +kernel), List.mem_of_getElem? (i := 518) (by decide +kernel), List.mem_of_getElem? (i := 519) (by decide +kernel)⟩
theorem lw_p15 : lw_okq (⟨"TugOfWar", "winnerWithout", "(I)I"⟩, 12) := ⟨⟨by decide +kernel, by decide +kernel⟩, List.mem_of_getElem? (i := 13) (by decide +kernel), List.mem_of_getElem? (i := 522) (by decide +kernel), List.mem_of_getElem? (i := 523) (by decide +kernel)⟩
def lw_privs_1 : List (MethodName × Nat) := [(⟨"TugOfWar", "playTexts", "()V"⟩, 12), (⟨"TugOfWar$Contest", "takeTeam", "(LTugOfWar$Texts;I)V"⟩, 9), (⟨"TugOfWar$Contest", "takeCalls", "(LTugOfWar$Texts;I)V"⟩, 9), (⟨"TugOfWar", "playTold", "()V"⟩, 12), (⟨"TugOfWar$Course", "meetEvents", "(LTugOfWar$Events;I)V"⟩, 12), (⟨"TugOfWar$Course", "pullOfTeam", "(LTugOfWar$Contest;II)I"⟩, 12), (⟨"TugOfWar$Course", "forceOf", "(LTugOfWar$Contest;II)I"⟩, 12), (⟨"TugOfWar$Course", "moveRope", "(II)V"⟩, 12), (⟨"TugOfWar$Course", "standStill", "(I)V"⟩, 12), (⟨"TugOfWar", "isPuller", "(I)Z"⟩, 12), (⟨"TugOfWar", "found", "(I)I"⟩, 12), (⟨"TugOfWar", "pulledInAll", "(I)I"⟩, 12), (⟨"TugOfWar", "chooseSwap", "(I)V"⟩, 12), (⟨"TugOfWar", "chooseOut", "(I)V"⟩, 12), (⟨"TugOfWar", "chooseSpare", "()I"⟩, 12), (⟨"TugOfWar", "winnerWithout", "(I)I"⟩, 12)]
theorem lw_r1 : ∀ q ∈ lw_privs_1, lw_okq q := List.forall_mem_cons.mpr ⟨lw_p0, List.forall_mem_cons.mpr ⟨lw_p1, List.forall_mem_cons.mpr ⟨lw_p2, List.forall_mem_cons.mpr ⟨lw_p3, List.forall_mem_cons.mpr ⟨lw_p4, List.forall_mem_cons.mpr ⟨lw_p5, List.forall_mem_cons.mpr ⟨lw_p6, List.forall_mem_cons.mpr ⟨lw_p7, List.forall_mem_cons.mpr ⟨lw_p8, List.forall_mem_cons.mpr ⟨lw_p9, List.forall_mem_cons.mpr ⟨lw_p10, List.forall_mem_cons.mpr ⟨lw_p11, List.forall_mem_cons.mpr ⟨lw_p12, List.forall_mem_cons.mpr ⟨lw_p13, List.forall_mem_cons.mpr ⟨lw_p14, List.forall_mem_cons.mpr ⟨lw_p15, fun _ h => absurd h List.not_mem_nil⟩⟩⟩⟩⟩⟩⟩⟩⟩⟩⟩⟩⟩⟩⟩⟩
theorem lw_p16 : lw_okq (⟨"TugOfWar", "weightsThatFit", "(I)I"⟩, 12) := ⟨⟨by decide +kernel, by decide +kernel⟩, List.mem_of_getElem? (i := 13) (by decide +kernel), List.mem_of_getElem? (i := 550) (by decide +kernel), List.mem_of_getElem? (i := 551) (by decide +kernel)⟩
theorem lw_p17 : lw_okq (⟨"TugOfWar", "sortsThatFit", "(I)I"⟩, 12) := ⟨⟨by decide +kernel, by decide +kernel⟩, List.mem_of_getElem? (i := 13) (by decide +kernel), List.mem_of_getElem? (i := 554) (by decide +kernel), List.mem_of_getElem? (i := 555) (by decide +kernel)⟩
theorem lw_p18 : lw_okq (⟨"TugOfWar", "greatestLikeness", "(II)I"⟩, 12) := ⟨⟨by decide +kernel, by decide +kernel⟩, List.mem_of_getElem? (i := 13) (by decide +kernel), List.mem_of_getElem? (i := 562) (by decide +kernel), List.mem_of_getElem? (i := 563) (by decide +kernel)⟩
theorem lw_p19 : lw_okq (⟨"TugOfWar", "refreshWinners", "()V"⟩, 12) := ⟨⟨by decide +kernel, by decide +kernel⟩, List.mem_of_getElem? (i := 13) (by decide +kernel), List.mem_of_getElem? (i := 571) (by decide +kernel), List.mem_of_getElem? (i := 572) (by decide +kernel)⟩
theorem lw_p20 : lw_okq (⟨"TugOfWar", "waysToWin", "(II)J"⟩, 12) := ⟨⟨by decide +kernel, by decide +kernel⟩, List.mem_of_getElem? (i := 13) (by decide +kernel), List.mem_of_getElem? (i := 575) (by decide +kernel), List.mem_of_getElem? (i := 576) (by decide +kernel)⟩
theorem lw_p21 : lw_okq (⟨"TugOfWar", "waysToMiss", "(II)J"⟩, 12) := ⟨⟨by decide +kernel, by decide +kernel⟩, List.mem_of_getElem? (i := 13) (by decide +kernel), List.mem_of_getElem? (i := 579) (by decide +kernel), List.mem_of_getElem? (i := 580) (by decide +kernel)⟩
theorem lw_p22 : lw_okq (⟨"TugOfWar", "withBeat", "(JI)J"⟩, 12) := ⟨⟨by decide +kernel, by decide +kernel⟩, List.mem_of_getElem? (i := 13) (by decide +kernel), List.mem_of_getElem? (i := 662) (by decide +kernel), List.mem_of_getElem? (i := 663) (by decide +kernel)⟩
theorem lw_p23 : lw_okq (⟨"TugOfWar", "withPuller", "(JI)J"⟩, 12) := ⟨⟨by decide +kernel, by decide +kernel⟩, List.mem_of_getElem? (i := 13) (by decide +kernel), List.mem_of_getElem? (i := 668) (by decide +kernel), List.mem_of_getElem? (i := 669) (by decide +kernel)⟩
theorem lw_p24 : lw_okq (⟨"TugOfWar", "withTeam", "(JI)J"⟩, 12) := ⟨⟨by decide +kernel, by decide +kernel⟩, List.mem_of_getElem? (i := 13) (by decide +kernel), List.mem_of_getElem? (i := 679) (by decide +kernel), List.mem_of_getElem? (i := 680) (by decide +kernel)⟩
theorem lw_p25 : lw_okq (⟨"TugOfWarModel", "faultOf", "(I)I"⟩, 47) := ⟨⟨by decide +kernel, by decide +kernel⟩, List.mem_of_getElem? (i := 695) (by decide +kernel), List.mem_of_getElem? (i := 865) (by decide +kernel), List.mem_of_getElem? (i := 866) (by decide +kernel)⟩
theorem lw_p26 : lw_okq (⟨"TugOfWarModel", "readsTeam", "(I)I"⟩, 47) := ⟨⟨by decide +kernel, by decide +kernel⟩, List.mem_of_getElem? (i := 695) (by decide +kernel), List.mem_of_getElem? (i := 869) (by decide +kernel), List.mem_of_getElem? (i := 870) (by decide +kernel)⟩
theorem lw_p27 : lw_okq (⟨"TugOfWarModel", "readsPuller", "(III)I"⟩, 47) := ⟨⟨by decide +kernel, by decide +kernel⟩, List.mem_of_getElem? (i := 695) (by decide +kernel), List.mem_of_getElem? (i := 873) (by decide +kernel), List.mem_of_getElem? (i := 874) (by decide +kernel)⟩
theorem lw_p28 : lw_okq (⟨"TugOfWarModel", "byteAt", "(II)I"⟩, 47) := ⟨⟨by decide +kernel, by decide +kernel⟩, List.mem_of_getElem? (i := 695) (by decide +kernel), List.mem_of_getElem? (i := 877) (by decide +kernel), List.mem_of_getElem? (i := 878) (by decide +kernel)⟩
theorem lw_p29 : lw_okq (⟨"TugOfWarModel", "readsCalls", "(I)I"⟩, 47) := ⟨⟨by decide +kernel, by decide +kernel⟩, List.mem_of_getElem? (i := 695) (by decide +kernel), List.mem_of_getElem? (i := 881) (by decide +kernel), List.mem_of_getElem? (i := 882) (by decide +kernel)⟩
theorem lw_p30 : lw_okq (⟨"TugOfWarModel", "isPuller", "(I)Z"⟩, 47) := ⟨⟨by decide +kernel, by decide +kernel⟩, List.mem_of_getElem? (i := 695) (by decide +kernel), List.mem_of_getElem? (i := 892) (by decide +kernel), List.mem_of_getElem? (i := 893) (by decide +kernel)⟩
theorem lw_p31 : lw_okq (⟨"TugOfWarModel", "reads", "()V"⟩, 47) := ⟨⟨by decide +kernel, by decide +kernel⟩, List.mem_of_getElem? (i := 695) (by decide +kernel), List.mem_of_getElem? (i := 896) (by decide +kernel), List.mem_of_getElem? (i := 897) (by decide +kernel)⟩
def lw_privs_2 : List (MethodName × Nat) := [(⟨"TugOfWar", "weightsThatFit", "(I)I"⟩, 12), (⟨"TugOfWar", "sortsThatFit", "(I)I"⟩, 12), (⟨"TugOfWar", "greatestLikeness", "(II)I"⟩, 12), (⟨"TugOfWar", "refreshWinners", "()V"⟩, 12), (⟨"TugOfWar", "waysToWin", "(II)J"⟩, 12), (⟨"TugOfWar", "waysToMiss", "(II)J"⟩, 12), (⟨"TugOfWar", "withBeat", "(JI)J"⟩, 12), (⟨"TugOfWar", "withPuller", "(JI)J"⟩, 12), (⟨"TugOfWar", "withTeam", "(JI)J"⟩, 12), (⟨"TugOfWarModel", "faultOf", "(I)I"⟩, 47), (⟨"TugOfWarModel", "readsTeam", "(I)I"⟩, 47), (⟨"TugOfWarModel", "readsPuller", "(III)I"⟩, 47), (⟨"TugOfWarModel", "byteAt", "(II)I"⟩, 47), (⟨"TugOfWarModel", "readsCalls", "(I)I"⟩, 47), (⟨"TugOfWarModel", "isPuller", "(I)Z"⟩, 47), (⟨"TugOfWarModel", "reads", "()V"⟩, 47)]
theorem lw_r2 : ∀ q ∈ lw_privs_2, lw_okq q := List.forall_mem_cons.mpr ⟨lw_p16, List.forall_mem_cons.mpr ⟨lw_p17, List.forall_mem_cons.mpr ⟨lw_p18, List.forall_mem_cons.mpr ⟨lw_p19, List.forall_mem_cons.mpr ⟨lw_p20, List.forall_mem_cons.mpr ⟨lw_p21, List.forall_mem_cons.mpr ⟨lw_p22, List.forall_mem_cons.mpr ⟨lw_p23, List.forall_mem_cons.mpr ⟨lw_p24, List.forall_mem_cons.mpr ⟨lw_p25, List.forall_mem_cons.mpr ⟨lw_p26, List.forall_mem_cons.mpr ⟨lw_p27, List.forall_mem_cons.mpr ⟨lw_p28, List.forall_mem_cons.mpr ⟨lw_p29, List.forall_mem_cons.mpr ⟨lw_p30, List.forall_mem_cons.mpr ⟨lw_p31, fun _ h => absurd h List.not_mem_nil⟩⟩⟩⟩⟩⟩⟩⟩⟩⟩⟩⟩⟩⟩⟩⟩
theorem lw_p32 : lw_okq (⟨"TugOfWarModel", "isThereOne", "(I)Z"⟩, 47) := ⟨⟨by decide +kernel, by decide +kernel⟩, List.mem_of_getElem? (i := 695) (by decide +kernel), List.mem_of_getElem? (i := 900) (by decide +kernel), List.mem_of_getElem? (i := 901) (by decide +kernel)⟩
theorem lw_p33 : lw_okq (⟨"TugOfWarModel", "pullerOf", "(II)I"⟩, 47) := ⟨⟨by decide +kernel, by decide +kernel⟩, List.mem_of_getElem? (i := 695) (by decide +kernel), List.mem_of_getElem? (i := 907) (by decide +kernel), List.mem_of_getElem? (i := 908) (by decide +kernel)⟩
theorem lw_p34 : lw_okq (⟨"TugOfWarModel", "callOf", "(II)I"⟩, 47) := ⟨⟨by decide +kernel, by decide +kernel⟩, List.mem_of_getElem? (i := 695) (by decide +kernel), List.mem_of_getElem? (i := 921) (by decide +kernel), List.mem_of_getElem? (i := 922) (by decide +kernel)⟩
theorem lw_p35 : lw_okq (⟨"TugOfWarModel", "meets", "(I)I"⟩, 47) := ⟨⟨by decide +kernel, by decide +kernel⟩, List.mem_of_getElem? (i := 695) (by decide +kernel), List.mem_of_getElem? (i := 944) (by decide +kernel), List.mem_of_getElem? (i := 945) (by decide +kernel)⟩
theorem lw_p36 : lw_okq (⟨"TugOfWarModel", "ropeOf", "(II)I"⟩, 47) := ⟨⟨by decide +kernel, by decide +kernel⟩, List.mem_of_getElem? (i := 695) (by decide +kernel), List.mem_of_getElem? (i := 953) (by decide +kernel), List.mem_of_getElem? (i := 954) (by decide +kernel)⟩
theorem lw_p37 : lw_okq (⟨"TugOfWarModel", "runsTold", "()V"⟩, 47) := ⟨⟨by decide +kernel, by decide +kernel⟩, List.mem_of_getElem? (i := 695) (by decide +kernel), List.mem_of_getElem? (i := 957) (by decide +kernel), List.mem_of_getElem? (i := 958) (by decide +kernel)⟩
theorem lw_p38 : lw_okq (⟨"TugOfWarModel", "asTold", "()V"⟩, 47) := ⟨⟨by decide +kernel, by decide +kernel⟩, List.mem_of_getElem? (i := 695) (by decide +kernel), List.mem_of_getElem? (i := 961) (by decide +kernel), List.mem_of_getElem? (i := 962) (by decide +kernel)⟩
theorem lw_p39 : lw_okq (⟨"TugOfWarModel", "runs", "()V"⟩, 47) := ⟨⟨by decide +kernel, by decide +kernel⟩, List.mem_of_getElem? (i := 695) (by decide +kernel), List.mem_of_getElem? (i := 965) (by decide +kernel), List.mem_of_getElem? (i := 966) (by decide +kernel)⟩
theorem lw_p40 : lw_okq (⟨"TugOfWarModel", "isHere", "(I)Z"⟩, 47) := ⟨⟨by decide +kernel, by decide +kernel⟩, List.mem_of_getElem? (i := 695) (by decide +kernel), List.mem_of_getElem? (i := 969) (by decide +kernel), List.mem_of_getElem? (i := 970) (by decide +kernel)⟩
theorem lw_p41 : lw_okq (⟨"TugOfWarModel", "goesBy", "(I)V"⟩, 47) := ⟨⟨by decide +kernel, by decide +kernel⟩, List.mem_of_getElem? (i := 695) (by decide +kernel), List.mem_of_getElem? (i := 973) (by decide +kernel), List.mem_of_getElem? (i := 974) (by decide +kernel)⟩
theorem lw_p42 : lw_okq (⟨"TugOfWarModel", "befalls", "(I)V"⟩, 47) := ⟨⟨by decide +kernel, by decide +kernel⟩, List.mem_of_getElem? (i := 695) (by decide +kernel), List.mem_of_getElem? (i := 977) (by decide +kernel), List.mem_of_getElem? (i := 978) (by decide +kernel)⟩
theorem lw_p43 : lw_okq (⟨"TugOfWarModel", "pullsOne", "(II)V"⟩, 47) := ⟨⟨by decide +kernel, by decide +kernel⟩, List.mem_of_getElem? (i := 695) (by decide +kernel), List.mem_of_getElem? (i := 984) (by decide +kernel), List.mem_of_getElem? (i := 985) (by decide +kernel)⟩
theorem lw_p44 : lw_okq (⟨"TugOfWarModel", "strength", "(II)I"⟩, 47) := ⟨⟨by decide +kernel, by decide +kernel⟩, List.mem_of_getElem? (i := 695) (by decide +kernel), List.mem_of_getElem? (i := 988) (by decide +kernel), List.mem_of_getElem? (i := 989) (by decide +kernel)⟩
theorem lw_p45 : lw_okq (⟨"TugOfWarModel", "goes", "(I)V"⟩, 47) := ⟨⟨by decide +kernel, by decide +kernel⟩, List.mem_of_getElem? (i := 695) (by decide +kernel), List.mem_of_getElem? (i := 992) (by decide +kernel), List.mem_of_getElem? (i := 993) (by decide +kernel)⟩
theorem lw_p46 : lw_okq (⟨"TugOfWarModel", "atOf", "(III)I"⟩, 47) := ⟨⟨by decide +kernel, by decide +kernel⟩, List.mem_of_getElem? (i := 695) (by decide +kernel), List.mem_of_getElem? (i := 1000) (by decide +kernel), List.mem_of_getElem? (i := 1001) (by decide +kernel)⟩
theorem lw_p47 : lw_okq (⟨"TugOfWarModel", "wonOf", "(I)I"⟩, 47) := ⟨⟨by decide +kernel, by decide +kernel⟩, List.mem_of_getElem? (i := 695) (by decide +kernel), List.mem_of_getElem? (i := 1008) (by decide +kernel), List.mem_of_getElem? (i := 1009) (by decide +kernel)⟩
def lw_privs_3 : List (MethodName × Nat) := [(⟨"TugOfWarModel", "isThereOne", "(I)Z"⟩, 47), (⟨"TugOfWarModel", "pullerOf", "(II)I"⟩, 47), (⟨"TugOfWarModel", "callOf", "(II)I"⟩, 47), (⟨"TugOfWarModel", "meets", "(I)I"⟩, 47), (⟨"TugOfWarModel", "ropeOf", "(II)I"⟩, 47), (⟨"TugOfWarModel", "runsTold", "()V"⟩, 47), (⟨"TugOfWarModel", "asTold", "()V"⟩, 47), (⟨"TugOfWarModel", "runs", "()V"⟩, 47), (⟨"TugOfWarModel", "isHere", "(I)Z"⟩, 47), (⟨"TugOfWarModel", "goesBy", "(I)V"⟩, 47), (⟨"TugOfWarModel", "befalls", "(I)V"⟩, 47), (⟨"TugOfWarModel", "pullsOne", "(II)V"⟩, 47), (⟨"TugOfWarModel", "strength", "(II)I"⟩, 47), (⟨"TugOfWarModel", "goes", "(I)V"⟩, 47), (⟨"TugOfWarModel", "atOf", "(III)I"⟩, 47), (⟨"TugOfWarModel", "wonOf", "(I)I"⟩, 47)]
theorem lw_r3 : ∀ q ∈ lw_privs_3, lw_okq q := List.forall_mem_cons.mpr ⟨lw_p32, List.forall_mem_cons.mpr ⟨lw_p33, List.forall_mem_cons.mpr ⟨lw_p34, List.forall_mem_cons.mpr ⟨lw_p35, List.forall_mem_cons.mpr ⟨lw_p36, List.forall_mem_cons.mpr ⟨lw_p37, List.forall_mem_cons.mpr ⟨lw_p38, List.forall_mem_cons.mpr ⟨lw_p39, List.forall_mem_cons.mpr ⟨lw_p40, List.forall_mem_cons.mpr ⟨lw_p41, List.forall_mem_cons.mpr ⟨lw_p42, List.forall_mem_cons.mpr ⟨lw_p43, List.forall_mem_cons.mpr ⟨lw_p44, List.forall_mem_cons.mpr ⟨lw_p45, List.forall_mem_cons.mpr ⟨lw_p46, List.forall_mem_cons.mpr ⟨lw_p47, fun _ h => absurd h List.not_mem_nil⟩⟩⟩⟩⟩⟩⟩⟩⟩⟩⟩⟩⟩⟩⟩⟩
theorem lw_p48 : lw_okq (⟨"TugOfWarModel", "furthestOf", "(I)I"⟩, 47) := ⟨⟨by decide +kernel, by decide +kernel⟩, List.mem_of_getElem? (i := 695) (by decide +kernel), List.mem_of_getElem? (i := 1016) (by decide +kernel), List.mem_of_getElem? (i := 1017) (by decide +kernel)⟩
theorem lw_p49 : lw_okq (⟨"TugOfWarModel", "doneOf", "(I)I"⟩, 47) := ⟨⟨by decide +kernel, by decide +kernel⟩, List.mem_of_getElem? (i := 695) (by decide +kernel), List.mem_of_getElem? (i := 1024) (by decide +kernel), List.mem_of_getElem? (i := 1025) (by decide +kernel)⟩
theorem lw_p50 : lw_okq (⟨"TugOfWarModel", "spentOf", "()I"⟩, 47) := ⟨⟨by decide +kernel, by decide +kernel⟩, List.mem_of_getElem? (i := 695) (by decide +kernel), List.mem_of_getElem? (i := 1032) (by decide +kernel), List.mem_of_getElem? (i := 1033) (by decide +kernel)⟩
theorem lw_p51 : lw_okq (⟨"TugOfWarModel", "bestOf", "()I"⟩, 47) := ⟨⟨by decide +kernel, by decide +kernel⟩, List.mem_of_getElem? (i := 695) (by decide +kernel), List.mem_of_getElem? (i := 1040) (by decide +kernel), List.mem_of_getElem? (i := 1041) (by decide +kernel)⟩
theorem lw_p52 : lw_okq (⟨"TugOfWarModel", "levelOf", "()I"⟩, 47) := ⟨⟨by decide +kernel, by decide +kernel⟩, List.mem_of_getElem? (i := 695) (by decide +kernel), List.mem_of_getElem? (i := 1048) (by decide +kernel), List.mem_of_getElem? (i := 1049) (by decide +kernel)⟩
theorem lw_p53 : lw_okq (⟨"TugOfWarModel", "betterOf", "(III)I"⟩, 47) := ⟨⟨by decide +kernel, by decide +kernel⟩, List.mem_of_getElem? (i := 695) (by decide +kernel), List.mem_of_getElem? (i := 1056) (by decide +kernel), List.mem_of_getElem? (i := 1057) (by decide +kernel)⟩
theorem lw_p54 : lw_okq (⟨"TugOfWarModel", "starts", "()V"⟩, 47) := ⟨⟨by decide +kernel, by decide +kernel⟩, List.mem_of_getElem? (i := 695) (by decide +kernel), List.mem_of_getElem? (i := 1060) (by decide +kernel), List.mem_of_getElem? (i := 1061) (by decide +kernel)⟩
theorem lw_p55 : lw_okq (⟨"TugOfWarModel", "tries", "(II)V"⟩, 47) := ⟨⟨by decide +kernel, by decide +kernel⟩, List.mem_of_getElem? (i := 695) (by decide +kernel), List.mem_of_getElem? (i := 1064) (by decide +kernel), List.mem_of_getElem? (i := 1065) (by decide +kernel)⟩
theorem lw_p56 : lw_okq (⟨"TugOfWarModel", "swapOf", "(II)I"⟩, 47) := ⟨⟨by decide +kernel, by decide +kernel⟩, List.mem_of_getElem? (i := 695) (by decide +kernel), List.mem_of_getElem? (i := 1072) (by decide +kernel), List.mem_of_getElem? (i := 1073) (by decide +kernel)⟩
theorem lw_p57 : lw_okq (⟨"TugOfWarModel", "outOf", "(II)I"⟩, 47) := ⟨⟨by decide +kernel, by decide +kernel⟩, List.mem_of_getElem? (i := 695) (by decide +kernel), List.mem_of_getElem? (i := 1080) (by decide +kernel), List.mem_of_getElem? (i := 1081) (by decide +kernel)⟩
theorem lw_p58 : lw_okq (⟨"TugOfWarModel", "spareBy", "()I"⟩, 47) := ⟨⟨by decide +kernel, by decide +kernel⟩, List.mem_of_getElem? (i := 695) (by decide +kernel), List.mem_of_getElem? (i := 1088) (by decide +kernel), List.mem_of_getElem? (i := 1089) (by decide +kernel)⟩
theorem lw_p59 : lw_okq (⟨"TugOfWarModel", "isSpared", "(I)Z"⟩, 47) := ⟨⟨by decide +kernel, by decide +kernel⟩, List.mem_of_getElem? (i := 695) (by decide +kernel), List.mem_of_getElem? (i := 1092) (by decide +kernel), List.mem_of_getElem? (i := 1093) (by decide +kernel)⟩
theorem lw_p60 : lw_okq (⟨"TugOfWarModel", "ofRow", "(II)I"⟩, 47) := ⟨⟨by decide +kernel, by decide +kernel⟩, List.mem_of_getElem? (i := 695) (by decide +kernel), List.mem_of_getElem? (i := 1096) (by decide +kernel), List.mem_of_getElem? (i := 1097) (by decide +kernel)⟩
theorem lw_p61 : lw_okq (⟨"TugOfWarModel", "neverNow", "()I"⟩, 47) := ⟨⟨by decide +kernel, by decide +kernel⟩, List.mem_of_getElem? (i := 695) (by decide +kernel), List.mem_of_getElem? (i := 1112) (by decide +kernel), List.mem_of_getElem? (i := 1113) (by decide +kernel)⟩
theorem lw_p62 : lw_okq (⟨"TugOfWarModel", "isSeen", "()Z"⟩, 47) := ⟨⟨by decide +kernel, by decide +kernel⟩, List.mem_of_getElem? (i := 695) (by decide +kernel), List.mem_of_getElem? (i := 1116) (by decide +kernel), List.mem_of_getElem? (i := 1117) (by decide +kernel)⟩
theorem lw_p63 : lw_okq (⟨"TugOfWarModel", "weightsBy", "(I)I"⟩, 47) := ⟨⟨by decide +kernel, by decide +kernel⟩, List.mem_of_getElem? (i := 695) (by decide +kernel), List.mem_of_getElem? (i := 1124) (by decide +kernel), List.mem_of_getElem? (i := 1125) (by decide +kernel)⟩
def lw_privs_4 : List (MethodName × Nat) := [(⟨"TugOfWarModel", "furthestOf", "(I)I"⟩, 47), (⟨"TugOfWarModel", "doneOf", "(I)I"⟩, 47), (⟨"TugOfWarModel", "spentOf", "()I"⟩, 47), (⟨"TugOfWarModel", "bestOf", "()I"⟩, 47), (⟨"TugOfWarModel", "levelOf", "()I"⟩, 47), (⟨"TugOfWarModel", "betterOf", "(III)I"⟩, 47), (⟨"TugOfWarModel", "starts", "()V"⟩, 47), (⟨"TugOfWarModel", "tries", "(II)V"⟩, 47), (⟨"TugOfWarModel", "swapOf", "(II)I"⟩, 47), (⟨"TugOfWarModel", "outOf", "(II)I"⟩, 47), (⟨"TugOfWarModel", "spareBy", "()I"⟩, 47), (⟨"TugOfWarModel", "isSpared", "(I)Z"⟩, 47), (⟨"TugOfWarModel", "ofRow", "(II)I"⟩, 47), (⟨"TugOfWarModel", "neverNow", "()I"⟩, 47), (⟨"TugOfWarModel", "isSeen", "()Z"⟩, 47), (⟨"TugOfWarModel", "weightsBy", "(I)I"⟩, 47)]
theorem lw_r4 : ∀ q ∈ lw_privs_4, lw_okq q := List.forall_mem_cons.mpr ⟨lw_p48, List.forall_mem_cons.mpr ⟨lw_p49, List.forall_mem_cons.mpr ⟨lw_p50, List.forall_mem_cons.mpr ⟨lw_p51, List.forall_mem_cons.mpr ⟨lw_p52, List.forall_mem_cons.mpr ⟨lw_p53, List.forall_mem_cons.mpr ⟨lw_p54, List.forall_mem_cons.mpr ⟨lw_p55, List.forall_mem_cons.mpr ⟨lw_p56, List.forall_mem_cons.mpr ⟨lw_p57, List.forall_mem_cons.mpr ⟨lw_p58, List.forall_mem_cons.mpr ⟨lw_p59, List.forall_mem_cons.mpr ⟨lw_p60, List.forall_mem_cons.mpr ⟨lw_p61, List.forall_mem_cons.mpr ⟨lw_p62, List.forall_mem_cons.mpr ⟨lw_p63, fun _ h => absurd h List.not_mem_nil⟩⟩⟩⟩⟩⟩⟩⟩⟩⟩⟩⟩⟩⟩⟩⟩
theorem lw_p64 : lw_okq (⟨"TugOfWarModel", "sortsBy", "(I)I"⟩, 47) := ⟨⟨by decide +kernel, by decide +kernel⟩, List.mem_of_getElem? (i := 695) (by decide +kernel), List.mem_of_getElem? (i := 1128) (by decide +kernel), List.mem_of_getElem? (i := 1129) (by decide +kernel)⟩
theorem lw_p65 : lw_okq (⟨"TugOfWarModel", "askOf", "(I)I"⟩, 47) := ⟨⟨by decide +kernel, by decide +kernel⟩, List.mem_of_getElem? (i := 695) (by decide +kernel), List.mem_of_getElem? (i := 1136) (by decide +kernel), List.mem_of_getElem? (i := 1137) (by decide +kernel)⟩
theorem lw_p66 : lw_okq (⟨"TugOfWarModel", "chanceOf", "(III)J"⟩, 47) := ⟨⟨by decide +kernel, by decide +kernel⟩, List.mem_of_getElem? (i := 695) (by decide +kernel), List.mem_of_getElem? (i := 1144) (by decide +kernel), List.mem_of_getElem? (i := 1145) (by decide +kernel)⟩
theorem lw_p67 : lw_okq (⟨"TugOfWarModel", "yearsOf", "(III)I"⟩, 47) := ⟨⟨by decide +kernel, by decide +kernel⟩, List.mem_of_getElem? (i := 695) (by decide +kernel), List.mem_of_getElem? (i := 1159) (by decide +kernel), List.mem_of_getElem? (i := 1160) (by decide +kernel)⟩
theorem lw_p68 : lw_okq (⟨"TugOfWarModel", "lacks", "(III)I"⟩, 47) := ⟨⟨by decide +kernel, by decide +kernel⟩, List.mem_of_getElem? (i := 695) (by decide +kernel), List.mem_of_getElem? (i := 1176) (by decide +kernel), List.mem_of_getElem? (i := 1177) (by decide +kernel)⟩
theorem lw_p69 : lw_okq (⟨"TugOfWarModel", "keep", "(III)V"⟩, 47) := ⟨⟨by decide +kernel, by decide +kernel⟩, List.mem_of_getElem? (i := 695) (by decide +kernel), List.mem_of_getElem? (i := 1180) (by decide +kernel), List.mem_of_getElem? (i := 1181) (by decide +kernel)⟩
theorem lw_p70 : lw_okq (⟨"TugOfWarModel", "tellOf", "(I)I"⟩, 47) := ⟨⟨by decide +kernel, by decide +kernel⟩, List.mem_of_getElem? (i := 695) (by decide +kernel), List.mem_of_getElem? (i := 1201) (by decide +kernel), List.mem_of_getElem? (i := 1202) (by decide +kernel)⟩
theorem lw_p71 : lw_okq (⟨"TugOfWarModel", "pullerDigest", "(JI)J"⟩, 47) := ⟨⟨by decide +kernel, by decide +kernel⟩, List.mem_of_getElem? (i := 695) (by decide +kernel), List.mem_of_getElem? (i := 1212) (by decide +kernel), List.mem_of_getElem? (i := 1213) (by decide +kernel)⟩
theorem lw_p72 : lw_okq (⟨"TugOfWarModel", "beatDigest", "(JII)J"⟩, 47) := ⟨⟨by decide +kernel, by decide +kernel⟩, List.mem_of_getElem? (i := 695) (by decide +kernel), List.mem_of_getElem? (i := 1216) (by decide +kernel), List.mem_of_getElem? (i := 1217) (by decide +kernel)⟩
theorem lw_p73 : lw_okq (⟨"TugOfWarModel", "teamDigest", "(JI)J"⟩, 47) := ⟨⟨by decide +kernel, by decide +kernel⟩, List.mem_of_getElem? (i := 695) (by decide +kernel), List.mem_of_getElem? (i := 1220) (by decide +kernel), List.mem_of_getElem? (i := 1221) (by decide +kernel)⟩
def lw_privs_5 : List (MethodName × Nat) := [(⟨"TugOfWarModel", "sortsBy", "(I)I"⟩, 47), (⟨"TugOfWarModel", "askOf", "(I)I"⟩, 47), (⟨"TugOfWarModel", "chanceOf", "(III)J"⟩, 47), (⟨"TugOfWarModel", "yearsOf", "(III)I"⟩, 47), (⟨"TugOfWarModel", "lacks", "(III)I"⟩, 47), (⟨"TugOfWarModel", "keep", "(III)V"⟩, 47), (⟨"TugOfWarModel", "tellOf", "(I)I"⟩, 47), (⟨"TugOfWarModel", "pullerDigest", "(JI)J"⟩, 47), (⟨"TugOfWarModel", "beatDigest", "(JII)J"⟩, 47), (⟨"TugOfWarModel", "teamDigest", "(JI)J"⟩, 47)]
theorem lw_r5 : ∀ q ∈ lw_privs_5, lw_okq q := List.forall_mem_cons.mpr ⟨lw_p64, List.forall_mem_cons.mpr ⟨lw_p65, List.forall_mem_cons.mpr ⟨lw_p66, List.forall_mem_cons.mpr ⟨lw_p67, List.forall_mem_cons.mpr ⟨lw_p68, List.forall_mem_cons.mpr ⟨lw_p69, List.forall_mem_cons.mpr ⟨lw_p70, List.forall_mem_cons.mpr ⟨lw_p71, List.forall_mem_cons.mpr ⟨lw_p72, List.forall_mem_cons.mpr ⟨lw_p73, fun _ h => absurd h List.not_mem_nil⟩⟩⟩⟩⟩⟩⟩⟩⟩⟩
def lw_privs : List (MethodName × Nat) := lw_privs_1 ++ (lw_privs_2 ++ (lw_privs_3 ++ (lw_privs_4 ++ (lw_privs_5))))
def lw_tbl : List Cond := k2_sels lw_privs ++ tables_1
theorem lw_privs_ok : ∀ q ∈ lw_privs, lw_okq q := by
  show ∀ q ∈ lw_privs_1 ++ (lw_privs_2 ++ (lw_privs_3 ++ (lw_privs_4 ++ (lw_privs_5)))), lw_okq q
  exact List.forall_mem_append.mpr ⟨lw_r1, List.forall_mem_append.mpr ⟨lw_r2, List.forall_mem_append.mpr ⟨lw_r3, List.forall_mem_append.mpr ⟨lw_r4, lw_r5⟩⟩⟩⟩
def RX0 : String := "TugOfWar$Choice"
def TX0 : u_T := fun k => match k with
  | 0 => ("TugOfWar$Choice", "first", "I", false)
  | 1 => ("TugOfWar$Choice", "second", "I", false)
  | 2 => ("TugOfWar$Choice", "place", "I", false)
  | _ => ("TugOfWar$Choice", "team", "I", false)
def tyX0 : Nat → FieldType := fun k => match k with
  | 0 => .int
  | 1 => .int
  | 2 => .int
  | _ => .int
abbrev wsX00 : List Cond := u_ws RX0 TX0 4
theorem nmX0 : ∀ a, a < 4 → ∀ b, b < 4 → a ≠ b → (TX0 a).2.1 ≠ (TX0 b).2.1 := by decide +kernel
theorem tyX0_ok : ∀ k, k < 4 → parseFieldDescriptor (TX0 k).2.2.1 = some (tyX0 k) := by decide +kernel
abbrev cX0_init : ByteArray := prog_2_method_1_code
def yX0_init : MethodName := ⟨RX0, "<init>", "()V"⟩
abbrev cX0_startFor : ByteArray := prog_2_method_2_code
def yX0_startFor : MethodName := ⟨RX0, "startFor", "(I)V"⟩
abbrev cX0_offer : ByteArray := prog_2_method_3_code
def yX0_offer : MethodName := ⟨RX0, "offer", "(III)V"⟩
def RX1 : String := "TugOfWar$Contest"
def TX1 : u_T := fun k => match k with
  | 0 => ("TugOfWar$Contest", "there", "[Z", true)
  | 1 => ("TugOfWar$Contest", "sort", "[I", true)
  | 2 => ("TugOfWar$Contest", "weight", "[I", true)
  | 3 => ("TugOfWar$Contest", "wind", "[I", true)
  | 4 => ("TugOfWar$Contest", "size", "[I", true)
  | 5 => ("TugOfWar$Contest", "last", "[I", true)
  | 6 => ("TugOfWar$Contest", "called", "[I", true)
  | 7 => ("TugOfWar$Contest", "events", "LTugOfWar$Events;", true)
  | _ => ("TugOfWar$Contest", "mudAtFirst", "I", false)
def tyX1 : Nat → FieldType := fun k => match k with
  | 0 => .array .boolean
  | 1 => .array .int
  | 2 => .array .int
  | 3 => .array .int
  | 4 => .array .int
  | 5 => .array .int
  | 6 => .array .int
  | 7 => .object "TugOfWar$Events"
  | _ => .int
abbrev wsX10 : List Cond := u_ws RX1 TX1 9
theorem nmX1 : ∀ a, a < 9 → ∀ b, b < 9 → a ≠ b → (TX1 a).2.1 ≠ (TX1 b).2.1 := by decide +kernel
theorem tyX1_ok : ∀ k, k < 9 → parseFieldDescriptor (TX1 k).2.2.1 = some (tyX1 k) := by decide +kernel
abbrev cX1_init : ByteArray := prog_3_method_1_code
def yX1_init : MethodName := ⟨RX1, "<init>", "()V"⟩
abbrev cX1_takeTexts : ByteArray := prog_3_method_2_code
def yX1_takeTexts : MethodName := ⟨RX1, "takeTexts", "(LTugOfWar$Texts;)V"⟩
abbrev cX1_takeTeam : ByteArray := prog_3_method_3_code
def yX1_takeTeam : MethodName := ⟨RX1, "takeTeam", "(LTugOfWar$Texts;I)V"⟩
abbrev cX1_takeCalls : ByteArray := prog_3_method_4_code
def yX1_takeCalls : MethodName := ⟨RX1, "takeCalls", "(LTugOfWar$Texts;I)V"⟩
abbrev cX1_becomeLike : ByteArray := prog_3_method_5_code
def yX1_becomeLike : MethodName := ⟨RX1, "becomeLike", "(LTugOfWar$Contest;)V"⟩
abbrev cX1_leaveOut : ByteArray := prog_3_method_6_code
def yX1_leaveOut : MethodName := ⟨RX1, "leaveOut", "(II)V"⟩
def RX2 : String := "TugOfWar$Course"
def TX2 : u_T := fun k => match k with
  | 0 => ("TugOfWar$Course", "rope", "[I", true)
  | 1 => ("TugOfWar$Course", "mud", "[I", true)
  | 2 => ("TugOfWar$Course", "teamPull", "[I", true)
  | 3 => ("TugOfWar$Course", "pull", "[I", true)
  | 4 => ("TugOfWar$Course", "breath", "[I", true)
  | 5 => ("TugOfWar$Course", "winner", "I", false)
  | 6 => ("TugOfWar$Course", "winningBeat", "I", false)
  | 7 => ("TugOfWar$Course", "breathNow", "[I", true)
  | 8 => ("TugOfWar$Course", "place", "I", false)
  | 9 => ("TugOfWar$Course", "mudNow", "I", false)
  | 10 => ("TugOfWar$Course", "slippingNow", "I", false)
  | _ => ("TugOfWar$Course", "dogNow", "Z", false)
def tyX2 : Nat → FieldType := fun k => match k with
  | 0 => .array .int
  | 1 => .array .int
  | 2 => .array .int
  | 3 => .array .int
  | 4 => .array .int
  | 5 => .int
  | 6 => .int
  | 7 => .array .int
  | 8 => .int
  | 9 => .int
  | 10 => .int
  | _ => .boolean
abbrev wsX20 : List Cond := u_ws RX2 TX2 12
theorem nmX2 : ∀ a, a < 12 → ∀ b, b < 12 → a ≠ b → (TX2 a).2.1 ≠ (TX2 b).2.1 := by decide +kernel
theorem tyX2_ok : ∀ k, k < 12 → parseFieldDescriptor (TX2 k).2.2.1 = some (tyX2 k) := by decide +kernel
abbrev cX2_init : ByteArray := prog_4_method_1_code
def yX2_init : MethodName := ⟨RX2, "<init>", "()V"⟩
abbrev cX2_play : ByteArray := prog_4_method_2_code
def yX2_play : MethodName := ⟨RX2, "play", "(LTugOfWar$Contest;)I"⟩
abbrev cX2_meetEvents : ByteArray := prog_4_method_3_code
def yX2_meetEvents : MethodName := ⟨RX2, "meetEvents", "(LTugOfWar$Events;I)V"⟩
abbrev cX2_pullOfTeam : ByteArray := prog_4_method_4_code
def yX2_pullOfTeam : MethodName := ⟨RX2, "pullOfTeam", "(LTugOfWar$Contest;II)I"⟩
abbrev cX2_forceOf : ByteArray := prog_4_method_5_code
def yX2_forceOf : MethodName := ⟨RX2, "forceOf", "(LTugOfWar$Contest;II)I"⟩
abbrev cX2_moveRope : ByteArray := prog_4_method_6_code
def yX2_moveRope : MethodName := ⟨RX2, "moveRope", "(II)V"⟩
abbrev cX2_standStill : ByteArray := prog_4_method_7_code
def yX2_standStill : MethodName := ⟨RX2, "standStill", "(I)V"⟩
def RX3 : String := "TugOfWar$Events"
def TX3 : u_T := fun k => match k with
  | 0 => ("TugOfWar$Events", "kinds", "[I", true)
  | 1 => ("TugOfWar$Events", "beats", "[I", true)
  | 2 => ("TugOfWar$Events", "numbers", "[I", true)
  | 3 => ("TugOfWar$Events", "size", "I", false)
  | _ => ("TugOfWar$Events", "missing", "I", false)
def tyX3 : Nat → FieldType := fun k => match k with
  | 0 => .array .int
  | 1 => .array .int
  | 2 => .array .int
  | 3 => .int
  | _ => .int
abbrev wsX30 : List Cond := u_ws RX3 TX3 5
theorem nmX3 : ∀ a, a < 5 → ∀ b, b < 5 → a ≠ b → (TX3 a).2.1 ≠ (TX3 b).2.1 := by decide +kernel
theorem tyX3_ok : ∀ k, k < 5 → parseFieldDescriptor (TX3 k).2.2.1 = some (tyX3 k) := by decide +kernel
abbrev cX3_init : ByteArray := prog_5_method_1_code
def yX3_init : MethodName := ⟨RX3, "<init>", "()V"⟩
abbrev cX3_mayBe : ByteArray := prog_5_method_2_code
def yX3_mayBe : MethodName := ⟨RX3, "mayBe", "(III)Z"⟩
abbrev cX3_append : ByteArray := prog_5_method_3_code
def yX3_append : MethodName := ⟨RX3, "append", "(III)I"⟩
abbrev cX3_cutLast : ByteArray := prog_5_method_4_code
def yX3_cutLast : MethodName := ⟨RX3, "cutLast", "()I"⟩
abbrev cX3_takeFrom : ByteArray := prog_5_method_5_code
def yX3_takeFrom : MethodName := ⟨RX3, "takeFrom", "(LTugOfWar$Events;)V"⟩
abbrev cX3_happens : ByteArray := prog_5_method_6_code
def yX3_happens : MethodName := ⟨RX3, "happens", "(II)Z"⟩
def RX4 : String := "TugOfWar$Seen"
def TX4 : u_T := fun k => match k with
  | 0 => ("TugOfWar$Seen", "beats", "[I", true)
  | 1 => ("TugOfWar$Seen", "places", "[I", true)
  | _ => ("TugOfWar$Seen", "size", "I", false)
def tyX4 : Nat → FieldType := fun k => match k with
  | 0 => .array .int
  | 1 => .array .int
  | _ => .int
abbrev wsX40 : List Cond := u_ws RX4 TX4 3
theorem nmX4 : ∀ a, a < 3 → ∀ b, b < 3 → a ≠ b → (TX4 a).2.1 ≠ (TX4 b).2.1 := by decide +kernel
theorem tyX4_ok : ∀ k, k < 3 → parseFieldDescriptor (TX4 k).2.2.1 = some (tyX4 k) := by decide +kernel
abbrev cX4_init : ByteArray := prog_6_method_1_code
def yX4_init : MethodName := ⟨RX4, "<init>", "()V"⟩
abbrev cX4_append : ByteArray := prog_6_method_2_code
def yX4_append : MethodName := ⟨RX4, "append", "(II)I"⟩
abbrev cX4_fit : ByteArray := prog_6_method_3_code
def yX4_fit : MethodName := ⟨RX4, "fit", "(LTugOfWar$Course;)Z"⟩
def RX5 : String := "TugOfWar$Sheets"
def TX5 : u_T := fun k => match k with
  | 0 => ("TugOfWar$Sheets", "items", "[I", true)
  | 1 => ("TugOfWar$Sheets", "forms", "[I", true)
  | _ => ("TugOfWar$Sheets", "sizes", "[I", true)
def tyX5 : Nat → FieldType := fun k => match k with
  | 0 => .array .int
  | 1 => .array .int
  | _ => .array .int
abbrev wsX50 : List Cond := u_ws RX5 TX5 3
theorem nmX5 : ∀ a, a < 3 → ∀ b, b < 3 → a ≠ b → (TX5 a).2.1 ≠ (TX5 b).2.1 := by decide +kernel
theorem tyX5_ok : ∀ k, k < 3 → parseFieldDescriptor (TX5 k).2.2.1 = some (tyX5 k) := by decide +kernel
abbrev cX5_init : ByteArray := prog_7_method_1_code
def yX5_init : MethodName := ⟨RX5, "<init>", "()V"⟩
abbrev cX5_isLost : ByteArray := prog_7_method_2_code
def yX5_isLost : MethodName := ⟨RX5, "isLost", "(I)Z"⟩
abbrev cX5_size : ByteArray := prog_7_method_3_code
def yX5_size : MethodName := ⟨RX5, "size", "(I)I"⟩
abbrev cX5_renew : ByteArray := prog_7_method_4_code
def yX5_renew : MethodName := ⟨RX5, "renew", "(III)V"⟩
abbrev cX5_drop : ByteArray := prog_7_method_5_code
def yX5_drop : MethodName := ⟨RX5, "drop", "(I)I"⟩
abbrev cX5_whatIsWrong : ByteArray := prog_7_method_6_code
def yX5_whatIsWrong : MethodName := ⟨RX5, "whatIsWrong", "(III)I"⟩
abbrev cX5_areAlike : ByteArray := prog_7_method_7_code
def yX5_areAlike : MethodName := ⟨RX5, "areAlike", "(II)Z"⟩
abbrev cX5_holds : ByteArray := prog_7_method_8_code
def yX5_holds : MethodName := ⟨RX5, "holds", "(III)Z"⟩
abbrev cX5_item : ByteArray := prog_7_method_9_code
def yX5_item : MethodName := ⟨RX5, "item", "(II)I"⟩
abbrev cX5_store : ByteArray := prog_7_method_10_code
def yX5_store : MethodName := ⟨RX5, "store", "(III)V"⟩
abbrev cX5_move : ByteArray := prog_7_method_11_code
def yX5_move : MethodName := ⟨RX5, "move", "(IIIII)V"⟩
def RX6 : String := "TugOfWar$Texts"
def TX6 : u_T := fun k => match k with
  | 0 => ("TugOfWar$Texts", "bytes", "[I", true)
  | _ => ("TugOfWar$Texts", "lengths", "[I", true)
def tyX6 : Nat → FieldType := fun k => match k with
  | 0 => .array .int
  | _ => .array .int
abbrev wsX60 : List Cond := u_ws RX6 TX6 2
theorem nmX6 : ∀ a, a < 2 → ∀ b, b < 2 → a ≠ b → (TX6 a).2.1 ≠ (TX6 b).2.1 := by decide +kernel
theorem tyX6_ok : ∀ k, k < 2 → parseFieldDescriptor (TX6 k).2.2.1 = some (tyX6 k) := by decide +kernel
abbrev cX6_init : ByteArray := prog_8_method_1_code
def yX6_init : MethodName := ⟨RX6, "<init>", "()V"⟩
abbrev cX6_isFull : ByteArray := prog_8_method_2_code
def yX6_isFull : MethodName := ⟨RX6, "isFull", "(I)Z"⟩
abbrev cX6_append : ByteArray := prog_8_method_3_code
def yX6_append : MethodName := ⟨RX6, "append", "(II)I"⟩
abbrev cX6_clear : ByteArray := prog_8_method_4_code
def yX6_clear : MethodName := ⟨RX6, "clear", "(I)I"⟩
abbrev cX6_cutLast : ByteArray := prog_8_method_5_code
def yX6_cutLast : MethodName := ⟨RX6, "cutLast", "(I)I"⟩
abbrev cX6_length : ByteArray := prog_8_method_6_code
def yX6_length : MethodName := ⟨RX6, "length", "(I)I"⟩
abbrev cX6_lengthOfAll : ByteArray := prog_8_method_7_code
def yX6_lengthOfAll : MethodName := ⟨RX6, "lengthOfAll", "()I"⟩
abbrev cX6_soundLength : ByteArray := prog_8_method_8_code
def yX6_soundLength : MethodName := ⟨RX6, "soundLength", "(I)I"⟩
abbrev cX6_byteAt : ByteArray := prog_8_method_9_code
def yX6_byteAt : MethodName := ⟨RX6, "byteAt", "(II)I"⟩
abbrev cX6_firstFault : ByteArray := prog_8_method_10_code
def yX6_firstFault : MethodName := ⟨RX6, "firstFault", "(I)I"⟩
abbrev cX6_teamGoesOn : ByteArray := prog_8_method_11_code
def yX6_teamGoesOn : MethodName := ⟨RX6, "teamGoesOn", "(II)Z"⟩
abbrev cX6_sortOf : ByteArray := prog_8_method_12_code
def yX6_sortOf : MethodName := ⟨RX6, "sortOf", "(I)I"⟩
abbrev cX6_callOf : ByteArray := prog_8_method_13_code
def yX6_callOf : MethodName := ⟨RX6, "callOf", "(I)I"⟩
def RX7 : String := "TugOfWar"
def TX7 : u_T := fun k => match k with
  | 0 => ("TugOfWar", "texts", "LTugOfWar$Texts;", true)
  | 1 => ("TugOfWar", "sights", "LTugOfWar$Seen;", true)
  | 2 => ("TugOfWar", "sheets", "LTugOfWar$Sheets;", true)
  | 3 => ("TugOfWar", "finding", "I", false)
  | 4 => ("TugOfWar", "told", "LTugOfWar$Contest;", true)
  | 5 => ("TugOfWar", "toldCourse", "LTugOfWar$Course;", true)
  | 6 => ("TugOfWar", "trial", "LTugOfWar$Contest;", true)
  | 7 => ("TugOfWar", "trialCourse", "LTugOfWar$Course;", true)
  | 8 => ("TugOfWar", "choice", "LTugOfWar$Choice;", true)
  | 9 => ("TugOfWar", "ropeByWeight", "[I", true)
  | 10 => ("TugOfWar", "winnerWithoutEvents", "[I", true)
  | _ => ("TugOfWar", "winnersAreFresh", "Z", false)
def tyX7 : Nat → FieldType := fun k => match k with
  | 0 => .object "TugOfWar$Texts"
  | 1 => .object "TugOfWar$Seen"
  | 2 => .object "TugOfWar$Sheets"
  | 3 => .int
  | 4 => .object "TugOfWar$Contest"
  | 5 => .object "TugOfWar$Course"
  | 6 => .object "TugOfWar$Contest"
  | 7 => .object "TugOfWar$Course"
  | 8 => .object "TugOfWar$Choice"
  | 9 => .array .int
  | 10 => .array .int
  | _ => .boolean
abbrev wsX70 : List Cond := u_ws RX7 TX7 12
theorem nmX7 : ∀ a, a < 12 → ∀ b, b < 12 → a ≠ b → (TX7 a).2.1 ≠ (TX7 b).2.1 := by decide +kernel
theorem tyX7_ok : ∀ k, k < 12 → parseFieldDescriptor (TX7 k).2.2.1 = some (tyX7 k) := by decide +kernel
abbrev cX7_init : ByteArray := prog_1_method_1_code
def yX7_init : MethodName := ⟨RX7, "<init>", "()V"⟩
abbrev cX7_type : ByteArray := prog_1_method_2_code
def yX7_type : MethodName := ⟨RX7, "type", "(II)I"⟩
abbrev cX7_wipe : ByteArray := prog_1_method_3_code
def yX7_wipe : MethodName := ⟨RX7, "wipe", "(I)I"⟩
abbrev cX7_undo : ByteArray := prog_1_method_4_code
def yX7_undo : MethodName := ⟨RX7, "undo", "(I)I"⟩
abbrev cX7_fault : ByteArray := prog_1_method_5_code
def yX7_fault : MethodName := ⟨RX7, "fault", "(I)I"⟩
abbrev cX7_puller : ByteArray := prog_1_method_6_code
def yX7_puller : MethodName := ⟨RX7, "puller", "(II)I"⟩
abbrev cX7_call : ByteArray := prog_1_method_7_code
def yX7_call : MethodName := ⟨RX7, "call", "(II)I"⟩
abbrev cX7_mud : ByteArray := prog_1_method_8_code
def yX7_mud : MethodName := ⟨RX7, "mud", "(I)I"⟩
abbrev cX7_event : ByteArray := prog_1_method_9_code
def yX7_event : MethodName := ⟨RX7, "event", "(III)I"⟩
abbrev cX7_back : ByteArray := prog_1_method_10_code
def yX7_back : MethodName := ⟨RX7, "back", "()I"⟩
abbrev cX7_read : ByteArray := prog_1_method_11_code
def yX7_read : MethodName := ⟨RX7, "read", "(I)I"⟩
abbrev cX7_rope : ByteArray := prog_1_method_12_code
def yX7_rope : MethodName := ⟨RX7, "rope", "(II)I"⟩
abbrev cX7_at : ByteArray := prog_1_method_13_code
def yX7_at : MethodName := ⟨RX7, "at", "(III)I"⟩
abbrev cX7_won : ByteArray := prog_1_method_14_code
def yX7_won : MethodName := ⟨RX7, "won", "(I)I"⟩
abbrev cX7_furthest : ByteArray := prog_1_method_15_code
def yX7_furthest : MethodName := ⟨RX7, "furthest", "(I)I"⟩
abbrev cX7_done : ByteArray := prog_1_method_16_code
def yX7_done : MethodName := ⟨RX7, "done", "(I)I"⟩
abbrev cX7_spent : ByteArray := prog_1_method_17_code
def yX7_spent : MethodName := ⟨RX7, "spent", "()I"⟩
abbrev cX7_best : ByteArray := prog_1_method_18_code
def yX7_best : MethodName := ⟨RX7, "best", "()I"⟩
abbrev cX7_level : ByteArray := prog_1_method_19_code
def yX7_level : MethodName := ⟨RX7, "level", "()I"⟩
abbrev cX7_better : ByteArray := prog_1_method_20_code
def yX7_better : MethodName := ⟨RX7, "better", "(III)I"⟩
abbrev cX7_swap : ByteArray := prog_1_method_21_code
def yX7_swap : MethodName := ⟨RX7, "swap", "(II)I"⟩
abbrev cX7_out : ByteArray := prog_1_method_22_code
def yX7_out : MethodName := ⟨RX7, "out", "(II)I"⟩
abbrev cX7_spare : ByteArray := prog_1_method_23_code
def yX7_spare : MethodName := ⟨RX7, "spare", "(I)I"⟩
abbrev cX7_seen : ByteArray := prog_1_method_24_code
def yX7_seen : MethodName := ⟨RX7, "seen", "(II)I"⟩
abbrev cX7_forget : ByteArray := prog_1_method_25_code
def yX7_forget : MethodName := ⟨RX7, "forget", "()I"⟩
abbrev cX7_never : ByteArray := prog_1_method_26_code
def yX7_never : MethodName := ⟨RX7, "never", "()I"⟩
abbrev cX7_was : ByteArray := prog_1_method_27_code
def yX7_was : MethodName := ⟨RX7, "was", "(II)I"⟩
abbrev cX7_ask : ByteArray := prog_1_method_28_code
def yX7_ask : MethodName := ⟨RX7, "ask", "(I)I"⟩
abbrev cX7_chance : ByteArray := prog_1_method_29_code
def yX7_chance : MethodName := ⟨RX7, "chance", "(III)J"⟩
abbrev cX7_years : ByteArray := prog_1_method_30_code
def yX7_years : MethodName := ⟨RX7, "years", "(III)I"⟩
abbrev cX7_sheet : ByteArray := prog_1_method_31_code
def yX7_sheet : MethodName := ⟨RX7, "sheet", "(III)I"⟩
abbrev cX7_lose : ByteArray := prog_1_method_32_code
def yX7_lose : MethodName := ⟨RX7, "lose", "(I)I"⟩
abbrev cX7_put : ByteArray := prog_1_method_33_code
def yX7_put : MethodName := ⟨RX7, "put", "(IIII)I"⟩
abbrev cX7_get : ByteArray := prog_1_method_34_code
def yX7_get : MethodName := ⟨RX7, "get", "(III)I"⟩
abbrev cX7_copy : ByteArray := prog_1_method_35_code
def yX7_copy : MethodName := ⟨RX7, "copy", "(IIIII)I"⟩
abbrev cX7_write : ByteArray := prog_1_method_36_code
def yX7_write : MethodName := ⟨RX7, "write", "(I)I"⟩
abbrev cX7_count : ByteArray := prog_1_method_37_code
def yX7_count : MethodName := ⟨RX7, "count", "(I)I"⟩
abbrev cX7_digest : ByteArray := prog_1_method_38_code
def yX7_digest : MethodName := ⟨RX7, "digest", "()J"⟩
abbrev cX7_withBeat : ByteArray := prog_1_method_39_code
def yX7_withBeat : MethodName := ⟨RX7, "withBeat", "(JI)J"⟩
abbrev cX7_withPuller : ByteArray := prog_1_method_40_code
def yX7_withPuller : MethodName := ⟨RX7, "withPuller", "(JI)J"⟩
abbrev cX7_withTeam : ByteArray := prog_1_method_41_code
def yX7_withTeam : MethodName := ⟨RX7, "withTeam", "(JI)J"⟩
abbrev cX7_isBelow : ByteArray := prog_1_method_42_code
def yX7_isBelow : MethodName := ⟨RX7, "isBelow", "(II)Z"⟩
abbrev cX7_isPuller : ByteArray := prog_1_method_43_code
def yX7_isPuller : MethodName := ⟨RX7, "isPuller", "(I)Z"⟩
abbrev cX7_found : ByteArray := prog_1_method_44_code
def yX7_found : MethodName := ⟨RX7, "found", "(I)I"⟩
abbrev cX7_playTexts : ByteArray := prog_1_method_45_code
def yX7_playTexts : MethodName := ⟨RX7, "playTexts", "()V"⟩
abbrev cX7_playTold : ByteArray := prog_1_method_46_code
def yX7_playTold : MethodName := ⟨RX7, "playTold", "()V"⟩
abbrev cX7_pulledInAll : ByteArray := prog_1_method_47_code
def yX7_pulledInAll : MethodName := ⟨RX7, "pulledInAll", "(I)I"⟩
abbrev cX7_chooseSwap : ByteArray := prog_1_method_48_code
def yX7_chooseSwap : MethodName := ⟨RX7, "chooseSwap", "(I)V"⟩
abbrev cX7_chooseOut : ByteArray := prog_1_method_49_code
def yX7_chooseOut : MethodName := ⟨RX7, "chooseOut", "(I)V"⟩
abbrev cX7_chooseSpare : ByteArray := prog_1_method_50_code
def yX7_chooseSpare : MethodName := ⟨RX7, "chooseSpare", "()I"⟩
abbrev cX7_winnerWithout : ByteArray := prog_1_method_51_code
def yX7_winnerWithout : MethodName := ⟨RX7, "winnerWithout", "(I)I"⟩
abbrev cX7_weightsThatFit : ByteArray := prog_1_method_52_code
def yX7_weightsThatFit : MethodName := ⟨RX7, "weightsThatFit", "(I)I"⟩
abbrev cX7_sortsThatFit : ByteArray := prog_1_method_53_code
def yX7_sortsThatFit : MethodName := ⟨RX7, "sortsThatFit", "(I)I"⟩
abbrev cX7_greatestLikeness : ByteArray := prog_1_method_54_code
def yX7_greatestLikeness : MethodName := ⟨RX7, "greatestLikeness", "(II)I"⟩
abbrev cX7_waysToWin : ByteArray := prog_1_method_55_code
def yX7_waysToWin : MethodName := ⟨RX7, "waysToWin", "(II)J"⟩
abbrev cX7_waysToMiss : ByteArray := prog_1_method_56_code
def yX7_waysToMiss : MethodName := ⟨RX7, "waysToMiss", "(II)J"⟩
abbrev cX7_refreshWinners : ByteArray := prog_1_method_57_code
def yX7_refreshWinners : MethodName := ⟨RX7, "refreshWinners", "()V"⟩
def RX8 : String := "TugOfWarModel"
def TX8 : u_T := fun k => match k with
  | 0 => ("TugOfWarModel", "typed", "[I", true)
  | 1 => ("TugOfWarModel", "texts", "[I", true)
  | 2 => ("TugOfWarModel", "many", "[I", true)
  | 3 => ("TugOfWarModel", "sorts", "[I", true)
  | 4 => ("TugOfWarModel", "weights", "[I", true)
  | 5 => ("TugOfWarModel", "winds", "[I", true)
  | 6 => ("TugOfWarModel", "callsTold", "[I", true)
  | 7 => ("TugOfWarModel", "callTold", "[I", true)
  | 8 => ("TugOfWarModel", "mudTold", "I", false)
  | 9 => ("TugOfWarModel", "events", "I", false)
  | 10 => ("TugOfWarModel", "eventKind", "[I", true)
  | 11 => ("TugOfWarModel", "eventBeat", "[I", true)
  | 12 => ("TugOfWarModel", "eventNumber", "[I", true)
  | 13 => ("TugOfWarModel", "callNow", "[I", true)
  | 14 => ("TugOfWarModel", "notEvents", "I", false)
  | 15 => ("TugOfWarModel", "places", "[I", true)
  | 16 => ("TugOfWarModel", "outNow", "I", false)
  | 17 => ("TugOfWarModel", "lastOf", "[I", true)
  | 18 => ("TugOfWarModel", "mudNow", "I", false)
  | 19 => ("TugOfWarModel", "dogNow", "I", false)
  | 20 => ("TugOfWarModel", "slipBits", "I", false)
  | 21 => ("TugOfWarModel", "ropeNow", "I", false)
  | 22 => ("TugOfWarModel", "wonTeam", "I", false)
  | 23 => ("TugOfWarModel", "wonBeat", "I", false)
  | 24 => ("TugOfWarModel", "levels", "I", false)
  | 25 => ("TugOfWarModel", "breaths", "[I", true)
  | 26 => ("TugOfWarModel", "dones", "[I", true)
  | 27 => ("TugOfWarModel", "pulls", "[I", true)
  | 28 => ("TugOfWarModel", "sums", "[I", true)
  | 29 => ("TugOfWarModel", "ropeAt", "[I", true)
  | 30 => ("TugOfWarModel", "mudAt", "[I", true)
  | 31 => ("TugOfWarModel", "sumAt", "[I", true)
  | 32 => ("TugOfWarModel", "pullAt", "[I", true)
  | 33 => ("TugOfWarModel", "breathAt", "[I", true)
  | 34 => ("TugOfWarModel", "bestPlan", "I", false)
  | 35 => ("TugOfWarModel", "bestRope", "I", false)
  | 36 => ("TugOfWarModel", "planRow", "[I", true)
  | 37 => ("TugOfWarModel", "seens", "I", false)
  | 38 => ("TugOfWarModel", "seenBeat", "[I", true)
  | 39 => ("TugOfWarModel", "seenPlace", "[I", true)
  | 40 => ("TugOfWarModel", "ropeBy", "[I", true)
  | 41 => ("TugOfWarModel", "isThere", "[Z", true)
  | 42 => ("TugOfWarModel", "forms", "[I", true)
  | 43 => ("TugOfWarModel", "sizes", "[I", true)
  | 44 => ("TugOfWarModel", "items", "[I", true)
  | 45 => ("TugOfWarModel", "moved", "[I", true)
  | _ => ("TugOfWarModel", "finding", "I", false)
def tyX8 : Nat → FieldType := fun k => match k with
  | 0 => .array .int
  | 1 => .array .int
  | 2 => .array .int
  | 3 => .array .int
  | 4 => .array .int
  | 5 => .array .int
  | 6 => .array .int
  | 7 => .array .int
  | 8 => .int
  | 9 => .int
  | 10 => .array .int
  | 11 => .array .int
  | 12 => .array .int
  | 13 => .array .int
  | 14 => .int
  | 15 => .array .int
  | 16 => .int
  | 17 => .array .int
  | 18 => .int
  | 19 => .int
  | 20 => .int
  | 21 => .int
  | 22 => .int
  | 23 => .int
  | 24 => .int
  | 25 => .array .int
  | 26 => .array .int
  | 27 => .array .int
  | 28 => .array .int
  | 29 => .array .int
  | 30 => .array .int
  | 31 => .array .int
  | 32 => .array .int
  | 33 => .array .int
  | 34 => .int
  | 35 => .int
  | 36 => .array .int
  | 37 => .int
  | 38 => .array .int
  | 39 => .array .int
  | 40 => .array .int
  | 41 => .array .boolean
  | 42 => .array .int
  | 43 => .array .int
  | 44 => .array .int
  | 45 => .array .int
  | _ => .int
abbrev wsX80 : List Cond := u_ws RX8 TX8 47
theorem nmX8 : ∀ a, a < 47 → ∀ b, b < 47 → a ≠ b → (TX8 a).2.1 ≠ (TX8 b).2.1 := by decide +kernel
theorem tyX8_ok : ∀ k, k < 47 → parseFieldDescriptor (TX8 k).2.2.1 = some (tyX8 k) := by decide +kernel
abbrev cX8_init : ByteArray := prog_10_method_1_code
def yX8_init : MethodName := ⟨RX8, "<init>", "()V"⟩
abbrev cX8_in : ByteArray := prog_10_method_3_code
def yX8_in : MethodName := ⟨RX8, "in", "(III)Z"⟩
abbrev cX8_isIn : ByteArray := prog_10_method_4_code
def yX8_isIn : MethodName := ⟨RX8, "isIn", "(II)Z"⟩
abbrev cX8_no : ByteArray := prog_10_method_5_code
def yX8_no : MethodName := ⟨RX8, "no", "(I)J"⟩
abbrev cX8_lowest : ByteArray := prog_10_method_6_code
def yX8_lowest : MethodName := ⟨RX8, "lowest", "(JJI)J"⟩
abbrev cX8_isText : ByteArray := prog_10_method_7_code
def yX8_isText : MethodName := ⟨RX8, "isText", "(I)Z"⟩
abbrev cX8_isBeat : ByteArray := prog_10_method_8_code
def yX8_isBeat : MethodName := ⟨RX8, "isBeat", "(I)Z"⟩
abbrev cX8_isTwo : ByteArray := prog_10_method_9_code
def yX8_isTwo : MethodName := ⟨RX8, "isTwo", "(I)Z"⟩
abbrev cX8_isThree : ByteArray := prog_10_method_10_code
def yX8_isThree : MethodName := ⟨RX8, "isThree", "(I)Z"⟩
abbrev cX8_type : ByteArray := prog_10_method_11_code
def yX8_type : MethodName := ⟨RX8, "type", "(II)I"⟩
abbrev cX8_wipe : ByteArray := prog_10_method_12_code
def yX8_wipe : MethodName := ⟨RX8, "wipe", "(I)I"⟩
abbrev cX8_undo : ByteArray := prog_10_method_13_code
def yX8_undo : MethodName := ⟨RX8, "undo", "(I)I"⟩
abbrev cX8_byteAt : ByteArray := prog_10_method_14_code
def yX8_byteAt : MethodName := ⟨RX8, "byteAt", "(II)I"⟩
abbrev cX8_readsPuller : ByteArray := prog_10_method_15_code
def yX8_readsPuller : MethodName := ⟨RX8, "readsPuller", "(III)I"⟩
abbrev cX8_readsTeam : ByteArray := prog_10_method_16_code
def yX8_readsTeam : MethodName := ⟨RX8, "readsTeam", "(I)I"⟩
abbrev cX8_callBy : ByteArray := prog_10_method_17_code
def yX8_callBy : MethodName := ⟨RX8, "callBy", "(I)I"⟩
abbrev cX8_readsCalls : ByteArray := prog_10_method_18_code
def yX8_readsCalls : MethodName := ⟨RX8, "readsCalls", "(I)I"⟩
abbrev cX8_faultOf : ByteArray := prog_10_method_19_code
def yX8_faultOf : MethodName := ⟨RX8, "faultOf", "(I)I"⟩
abbrev cX8_reads : ByteArray := prog_10_method_20_code
def yX8_reads : MethodName := ⟨RX8, "reads", "()V"⟩
abbrev cX8_fault : ByteArray := prog_10_method_21_code
def yX8_fault : MethodName := ⟨RX8, "fault", "(I)I"⟩
abbrev cX8_isThereOne : ByteArray := prog_10_method_22_code
def yX8_isThereOne : MethodName := ⟨RX8, "isThereOne", "(I)Z"⟩
abbrev cX8_isPuller : ByteArray := prog_10_method_23_code
def yX8_isPuller : MethodName := ⟨RX8, "isPuller", "(I)Z"⟩
abbrev cX8_pullerOf : ByteArray := prog_10_method_24_code
def yX8_pullerOf : MethodName := ⟨RX8, "pullerOf", "(II)I"⟩
abbrev cX8_puller : ByteArray := prog_10_method_25_code
def yX8_puller : MethodName := ⟨RX8, "puller", "(II)I"⟩
abbrev cX8_callOf : ByteArray := prog_10_method_26_code
def yX8_callOf : MethodName := ⟨RX8, "callOf", "(II)I"⟩
abbrev cX8_call : ByteArray := prog_10_method_27_code
def yX8_call : MethodName := ⟨RX8, "call", "(II)I"⟩
abbrev cX8_mud : ByteArray := prog_10_method_28_code
def yX8_mud : MethodName := ⟨RX8, "mud", "(I)I"⟩
abbrev cX8_event : ByteArray := prog_10_method_29_code
def yX8_event : MethodName := ⟨RX8, "event", "(III)I"⟩
abbrev cX8_back : ByteArray := prog_10_method_30_code
def yX8_back : MethodName := ⟨RX8, "back", "()I"⟩
abbrev cX8_read : ByteArray := prog_10_method_31_code
def yX8_read : MethodName := ⟨RX8, "read", "(I)I"⟩
abbrev cX8_asTold : ByteArray := prog_10_method_32_code
def yX8_asTold : MethodName := ⟨RX8, "asTold", "()V"⟩
abbrev cX8_isHere : ByteArray := prog_10_method_33_code
def yX8_isHere : MethodName := ⟨RX8, "isHere", "(I)Z"⟩
abbrev cX8_befalls : ByteArray := prog_10_method_34_code
def yX8_befalls : MethodName := ⟨RX8, "befalls", "(I)V"⟩
abbrev cX8_strength : ByteArray := prog_10_method_35_code
def yX8_strength : MethodName := ⟨RX8, "strength", "(II)I"⟩
abbrev cX8_pullsOne : ByteArray := prog_10_method_36_code
def yX8_pullsOne : MethodName := ⟨RX8, "pullsOne", "(II)V"⟩
abbrev cX8_goes : ByteArray := prog_10_method_37_code
def yX8_goes : MethodName := ⟨RX8, "goes", "(I)V"⟩
abbrev cX8_goesBy : ByteArray := prog_10_method_38_code
def yX8_goesBy : MethodName := ⟨RX8, "goesBy", "(I)V"⟩
abbrev cX8_runs : ByteArray := prog_10_method_39_code
def yX8_runs : MethodName := ⟨RX8, "runs", "()V"⟩
abbrev cX8_runsTold : ByteArray := prog_10_method_40_code
def yX8_runsTold : MethodName := ⟨RX8, "runsTold", "()V"⟩
abbrev cX8_ropeOf : ByteArray := prog_10_method_41_code
def yX8_ropeOf : MethodName := ⟨RX8, "ropeOf", "(II)I"⟩
abbrev cX8_rope : ByteArray := prog_10_method_42_code
def yX8_rope : MethodName := ⟨RX8, "rope", "(II)I"⟩
abbrev cX8_atOf : ByteArray := prog_10_method_43_code
def yX8_atOf : MethodName := ⟨RX8, "atOf", "(III)I"⟩
abbrev cX8_at : ByteArray := prog_10_method_44_code
def yX8_at : MethodName := ⟨RX8, "at", "(III)I"⟩
abbrev cX8_wonOf : ByteArray := prog_10_method_45_code
def yX8_wonOf : MethodName := ⟨RX8, "wonOf", "(I)I"⟩
abbrev cX8_won : ByteArray := prog_10_method_46_code
def yX8_won : MethodName := ⟨RX8, "won", "(I)I"⟩
abbrev cX8_furthestOf : ByteArray := prog_10_method_47_code
def yX8_furthestOf : MethodName := ⟨RX8, "furthestOf", "(I)I"⟩
abbrev cX8_furthest : ByteArray := prog_10_method_48_code
def yX8_furthest : MethodName := ⟨RX8, "furthest", "(I)I"⟩
abbrev cX8_doneOf : ByteArray := prog_10_method_49_code
def yX8_doneOf : MethodName := ⟨RX8, "doneOf", "(I)I"⟩
abbrev cX8_done : ByteArray := prog_10_method_50_code
def yX8_done : MethodName := ⟨RX8, "done", "(I)I"⟩
abbrev cX8_spentOf : ByteArray := prog_10_method_51_code
def yX8_spentOf : MethodName := ⟨RX8, "spentOf", "()I"⟩
abbrev cX8_spent : ByteArray := prog_10_method_52_code
def yX8_spent : MethodName := ⟨RX8, "spent", "()I"⟩
abbrev cX8_bestOf : ByteArray := prog_10_method_53_code
def yX8_bestOf : MethodName := ⟨RX8, "bestOf", "()I"⟩
abbrev cX8_best : ByteArray := prog_10_method_54_code
def yX8_best : MethodName := ⟨RX8, "best", "()I"⟩
abbrev cX8_levelOf : ByteArray := prog_10_method_55_code
def yX8_levelOf : MethodName := ⟨RX8, "levelOf", "()I"⟩
abbrev cX8_level : ByteArray := prog_10_method_56_code
def yX8_level : MethodName := ⟨RX8, "level", "()I"⟩
abbrev cX8_starts : ByteArray := prog_10_method_57_code
def yX8_starts : MethodName := ⟨RX8, "starts", "()V"⟩
abbrev cX8_tries : ByteArray := prog_10_method_58_code
def yX8_tries : MethodName := ⟨RX8, "tries", "(II)V"⟩
abbrev cX8_betterOf : ByteArray := prog_10_method_59_code
def yX8_betterOf : MethodName := ⟨RX8, "betterOf", "(III)I"⟩
abbrev cX8_better : ByteArray := prog_10_method_60_code
def yX8_better : MethodName := ⟨RX8, "better", "(III)I"⟩
abbrev cX8_swapOf : ByteArray := prog_10_method_61_code
def yX8_swapOf : MethodName := ⟨RX8, "swapOf", "(II)I"⟩
abbrev cX8_swap : ByteArray := prog_10_method_62_code
def yX8_swap : MethodName := ⟨RX8, "swap", "(II)I"⟩
abbrev cX8_outOf : ByteArray := prog_10_method_63_code
def yX8_outOf : MethodName := ⟨RX8, "outOf", "(II)I"⟩
abbrev cX8_out : ByteArray := prog_10_method_64_code
def yX8_out : MethodName := ⟨RX8, "out", "(II)I"⟩
abbrev cX8_isSpared : ByteArray := prog_10_method_65_code
def yX8_isSpared : MethodName := ⟨RX8, "isSpared", "(I)Z"⟩
abbrev cX8_spareBy : ByteArray := prog_10_method_66_code
def yX8_spareBy : MethodName := ⟨RX8, "spareBy", "()I"⟩
abbrev cX8_ofRow : ByteArray := prog_10_method_67_code
def yX8_ofRow : MethodName := ⟨RX8, "ofRow", "(II)I"⟩
abbrev cX8_spare : ByteArray := prog_10_method_68_code
def yX8_spare : MethodName := ⟨RX8, "spare", "(I)I"⟩
abbrev cX8_seen : ByteArray := prog_10_method_69_code
def yX8_seen : MethodName := ⟨RX8, "seen", "(II)I"⟩
abbrev cX8_forget : ByteArray := prog_10_method_70_code
def yX8_forget : MethodName := ⟨RX8, "forget", "()I"⟩
abbrev cX8_isSeen : ByteArray := prog_10_method_71_code
def yX8_isSeen : MethodName := ⟨RX8, "isSeen", "()Z"⟩
abbrev cX8_neverNow : ByteArray := prog_10_method_72_code
def yX8_neverNow : MethodName := ⟨RX8, "neverNow", "()I"⟩
abbrev cX8_never : ByteArray := prog_10_method_73_code
def yX8_never : MethodName := ⟨RX8, "never", "()I"⟩
abbrev cX8_weightsBy : ByteArray := prog_10_method_74_code
def yX8_weightsBy : MethodName := ⟨RX8, "weightsBy", "(I)I"⟩
abbrev cX8_sortsBy : ByteArray := prog_10_method_75_code
def yX8_sortsBy : MethodName := ⟨RX8, "sortsBy", "(I)I"⟩
abbrev cX8_was : ByteArray := prog_10_method_76_code
def yX8_was : MethodName := ⟨RX8, "was", "(II)I"⟩
abbrev cX8_askOf : ByteArray := prog_10_method_77_code
def yX8_askOf : MethodName := ⟨RX8, "askOf", "(I)I"⟩
abbrev cX8_ask : ByteArray := prog_10_method_78_code
def yX8_ask : MethodName := ⟨RX8, "ask", "(I)I"⟩
abbrev cX8_chanceOf : ByteArray := prog_10_method_79_code
def yX8_chanceOf : MethodName := ⟨RX8, "chanceOf", "(III)J"⟩
abbrev cX8_chance : ByteArray := prog_10_method_80_code
def yX8_chance : MethodName := ⟨RX8, "chance", "(III)J"⟩
abbrev cX8_yearsOf : ByteArray := prog_10_method_81_code
def yX8_yearsOf : MethodName := ⟨RX8, "yearsOf", "(III)I"⟩
abbrev cX8_years : ByteArray := prog_10_method_82_code
def yX8_years : MethodName := ⟨RX8, "years", "(III)I"⟩
abbrev cX8_meets : ByteArray := prog_10_method_83_code
def yX8_meets : MethodName := ⟨RX8, "meets", "(I)I"⟩
abbrev cX8_isSheet : ByteArray := prog_10_method_84_code
def yX8_isSheet : MethodName := ⟨RX8, "isSheet", "(I)Z"⟩
abbrev cX8_sheet : ByteArray := prog_10_method_85_code
def yX8_sheet : MethodName := ⟨RX8, "sheet", "(III)I"⟩
abbrev cX8_lose : ByteArray := prog_10_method_86_code
def yX8_lose : MethodName := ⟨RX8, "lose", "(I)I"⟩
abbrev cX8_lacks : ByteArray := prog_10_method_87_code
def yX8_lacks : MethodName := ⟨RX8, "lacks", "(III)I"⟩
abbrev cX8_keep : ByteArray := prog_10_method_88_code
def yX8_keep : MethodName := ⟨RX8, "keep", "(III)V"⟩
abbrev cX8_put : ByteArray := prog_10_method_89_code
def yX8_put : MethodName := ⟨RX8, "put", "(IIII)I"⟩
abbrev cX8_get : ByteArray := prog_10_method_90_code
def yX8_get : MethodName := ⟨RX8, "get", "(III)I"⟩
abbrev cX8_copy : ByteArray := prog_10_method_91_code
def yX8_copy : MethodName := ⟨RX8, "copy", "(IIIII)I"⟩
abbrev cX8_write : ByteArray := prog_10_method_92_code
def yX8_write : MethodName := ⟨RX8, "write", "(I)I"⟩
abbrev cX8_tellOf : ByteArray := prog_10_method_93_code
def yX8_tellOf : MethodName := ⟨RX8, "tellOf", "(I)I"⟩
abbrev cX8_count : ByteArray := prog_10_method_94_code
def yX8_count : MethodName := ⟨RX8, "count", "(I)I"⟩
abbrev cX8_beatDigest : ByteArray := prog_10_method_95_code
def yX8_beatDigest : MethodName := ⟨RX8, "beatDigest", "(JII)J"⟩
abbrev cX8_pullerDigest : ByteArray := prog_10_method_96_code
def yX8_pullerDigest : MethodName := ⟨RX8, "pullerDigest", "(JI)J"⟩
abbrev cX8_teamDigest : ByteArray := prog_10_method_97_code
def yX8_teamDigest : MethodName := ⟨RX8, "teamDigest", "(JI)J"⟩
abbrev cX8_digest : ByteArray := prog_10_method_98_code
def yX8_digest : MethodName := ⟨RX8, "digest", "()J"⟩
def RJ9 : String := "java/lang/Math"
def TJ9 : u_T := fun k => match k with
  | _ => ("", "", "", false)
def tyJ9 : Nat → FieldType := fun k => match k with
  | _ => .int
abbrev wsJ90 : List Cond := u_ws RJ9 TJ9 0
theorem nmJ9 : ∀ a, a < 0 → ∀ b, b < 0 → a ≠ b → (TJ9 a).2.1 ≠ (TJ9 b).2.1 := by decide +kernel
theorem tyJ9_ok : ∀ k, k < 0 → parseFieldDescriptor (TJ9 k).2.2.1 = some (tyJ9 k) := by decide +kernel
abbrev cJ9_max_7cf53 : ByteArray := prog_11_method_65_code
def yJ9_max_7cf53 : MethodName := ⟨RJ9, "max", "(II)I"⟩
abbrev cJ9_min_7cf53 : ByteArray := prog_11_method_69_code
def yJ9_min_7cf53 : MethodName := ⟨RJ9, "min", "(II)I"⟩
def RJ10 : String := "java/lang/System"
def TJ10 : u_T := fun k => match k with
  | _ => ("", "", "", false)
def tyJ10 : Nat → FieldType := fun k => match k with
  | _ => .int
abbrev wsJ100 : List Cond := u_ws RJ10 TJ10 0
theorem nmJ10 : ∀ a, a < 0 → ∀ b, b < 0 → a ≠ b → (TJ10 a).2.1 ≠ (TJ10 b).2.1 := by decide +kernel
theorem tyJ10_ok : ∀ k, k < 0 → parseFieldDescriptor (TJ10 k).2.2.1 = some (tyJ10 k) := by decide +kernel
def RL : String := "TugOfWarLaw"
abbrev cL_law : ByteArray := code
def yL_law : MethodName := ⟨RL, "law", "([I)Z"⟩
abbrev vwCl : List vw_C := [(RX0, TX0, 4), (RX1, TX1, 9), (RX2, TX2, 12), (RX3, TX3, 5), (RX4, TX4, 3), (RX5, TX5, 3), (RX6, TX6, 2), (RX7, TX7, 12), (RX8, TX8, 47)]
end
section
-- ===== the library: a world of fixed shape (a template), its ints as one function S, and rows over it =====
abbrev tg_S : Type := Nat → Nat → Int32
abbrev tg_E : Type := (Bool × Nat) ⊕ (Nat × List (Option (Option Nat)))
def tg_v (ad : Nat → Nat) (row : Nat → Int32) (j : Nat) (f : Option (Option Nat)) : Value := match f with
  | none => .int (row j)
  | some none => .null
  | some (some r) => .ref (ad r)
def tg_fs (ad : Nat → Nat) (row : Nat → Int32) (fs : List (Option (Option Nat))) : List Value := fs.mapIdx (fun j f => tg_v ad row j f)
def tg_e (cy : Bool → ClassId) (ad : Nat → Nat) (row : Nat → Int32) (t : tg_E) : va_E := match t with
  | .inl (b, n) => .inl (cy b, n, .inl row)
  | .inr (ci, fs) => .inr (ci, tg_fs ad row fs)
def tg_w (cy : Bool → ClassId) (ta : List tg_E) (ad : Nat → Nat) (S : tg_S) : va_W := ta.mapIdx (fun k t => (ad k, tg_e cy ad (S k) t))
def tg_sw (S : tg_S) (k : Nat) (row : Nat → Int32) : tg_S := fun a => if a = k then row else S a
theorem tg_w_get {cy : Bool → ClassId} {ta : List tg_E} {ad : Nat → Nat} {S : tg_S} {k : Nat} {t : tg_E} (h : ta[k]? = some t) : (tg_w cy ta ad S)[k]? = some (ad k, tg_e cy ad (S k) t) := by
  simp [tg_w, h]
theorem tg_w_set {cy : Bool → ClassId} {ta : List tg_E} {ad : Nat → Nat} {S : tg_S} {k : Nat} {t : tg_E} (row : Nat → Int32) (h : ta[k]? = some t) : (tg_w cy ta ad S).set k (ad k, tg_e cy ad row t) = tg_w cy ta ad (tg_sw S k row) := by
  apply List.ext_getElem?
  intro i
  by_cases hi : i = k
  · subst hi
    have hlt : i < ta.length := (List.getElem?_eq_some_iff.mp h).1
    rw [List.getElem?_set_self (by simpa [tg_w] using hlt), tg_w_get h]
    simp [tg_sw]
  · simp [tg_w, tg_sw, List.getElem?_set, Ne.symm hi, hi]
theorem tg_fs_get {ad : Nat → Nat} {row : Nat → Int32} {fs : List (Option (Option Nat))} {j : Nat} {f : Option (Option Nat)} (h : fs[j]? = some f) : (tg_fs ad row fs)[j]? = some (tg_v ad row j f) := by
  simp [tg_fs, h]
theorem tg_fs_set {ad : Nat → Nat} {row : Nat → Int32} {fs : List (Option (Option Nat))} {j : Nat} (v : Int32) (h : fs[j]? = some none) : (tg_fs ad row fs).set j (.int v) = tg_fs ad (upd row j v) fs := by
  apply List.ext_getElem?
  intro i
  by_cases hi : i = j
  · subst hi
    have hlt : i < fs.length := (List.getElem?_eq_some_iff.mp h).1
    rw [List.getElem?_set_self (by simpa [tg_fs] using hlt), tg_fs_get h]
    simp [tg_v, upd]
  · have h1 : ∀ f, tg_v ad (upd row j v) i f = tg_v ad row i f := fun f => by
      cases f with
      | none => simp [tg_v, upd, hi]
      | some g => cases g <;> rfl
    simp [tg_fs, List.getElem?_set, Ne.symm hi, h1]
-- the words
def tg_gG : List Cond := lw_tbl.filter goodWord
theorem tg_mem {w : Cond} (h : w ∈ lw_tbl) (hg : goodWord w = true) : w ∈ tg_gG := List.mem_filter.mpr ⟨h, hg⟩
theorem tg_GG {big ws : List Cond} (h : ∀ w ∈ tg_gG, w ∈ big) (hw : ∀ w ∈ ws, w ∈ tg_gG) : GoodIn big ws := fun w h1 => ⟨h w (hw w h1), good_of_word (List.mem_filter.mp (hw w h1)).2⟩
-- the environment: nest words of two private calls, and the static row
def tg_Env (A : Nat → Prop) (U : State) (H : Heap) (t : Nat) : Prop := va_Nw (.methodLinkNest "TugOfWar$Events" 28 yX7_isBelow "TugOfWar") U ∧ va_Nw (.methodLinkNest "TugOfWar$Sheets" 25 yX7_isBelow "TugOfWar") U ∧ va_Z "TugOfWar" "DIGEST_BEATS" "[I" (.ref t) A U H ∧ va_T .int t 4 (fun j => .int (if j = 0 then 0 else if j = 1 then 5 else if j = 2 then 12 else 23)) A U H
theorem tg_Env.kept {t : Nat} {A B : Nat → Prop} {U U' : State} {H H1 : Heap} (hW : U.WarmedH U'.vm) (hq : ∀ a : Nat, a < H.size → ¬ A a → H1[a]? = H[a]?) (hAB : ∀ q, B q → A q) (h : tg_Env A U H t) : tg_Env B U' H1 t := by
  obtain ⟨h1, h2, h3, h4⟩ := h
  exact ⟨va_Nw.warmM hW h1, va_Nw.warmM hW h2, ((h3.moved hW.alike).kept hq).narrow hAB, ((h4.moved hW.alike).kept hq).narrow hAB⟩
theorem tg_Env.calling {t : Nat} {A : Nat → Prop} {U : State} {H : Heap} {g : JFrame} {mk : MethodId} {a : Array Value} (h : tg_Env A U H t) : tg_Env A (U.calling g mk a) H t := by
  obtain ⟨h1, h2, h3, h4⟩ := h
  exact ⟨va_Nw.same rfl rfl h1, va_Nw.same rfl rfl h2, h3.moved (U := U.calling g mk a) (Vm.Alike.refl U.vm), h4.moved (U := U.calling g mk a) (Vm.Alike.refl U.vm)⟩
-- the machine's context as one tuple
abbrev tg_X : Type := Program × Launch × Env × Room × State × MethodId × Array Value × List Frame × Method × Code × (State → Prop) × (Nat → Prop) × va_G × (Bool → ClassId) × (Nat → Nat) × Nat
abbrev tg_p (x : tg_X) : Program := x.1
abbrev tg_l (x : tg_X) : Launch := x.2.1
abbrev tg_en (x : tg_X) : Env := x.2.2.1
abbrev tg_R (x : tg_X) : Room := x.2.2.2.1
abbrev tg_s (x : tg_X) : State := x.2.2.2.2.1
abbrev tg_m (x : tg_X) : MethodId := x.2.2.2.2.2.1
abbrev tg_args (x : tg_X) : Array Value := x.2.2.2.2.2.2.1
abbrev tg_below (x : tg_X) : List Frame := x.2.2.2.2.2.2.2.1
abbrev tg_meth (x : tg_X) : Method := x.2.2.2.2.2.2.2.2.1
abbrev tg_c (x : tg_X) : Code := x.2.2.2.2.2.2.2.2.2.1
abbrev tg_Q (x : tg_X) : State → Prop := x.2.2.2.2.2.2.2.2.2.2.1
abbrev tg_A (x : tg_X) : Nat → Prop := x.2.2.2.2.2.2.2.2.2.2.2.1
abbrev tg_D (x : tg_X) : va_G := x.2.2.2.2.2.2.2.2.2.2.2.2.1
abbrev tg_cy (x : tg_X) : Bool → ClassId := x.2.2.2.2.2.2.2.2.2.2.2.2.2.1
def tg_ad (x : tg_X) : Nat → Nat := x.2.2.2.2.2.2.2.2.2.2.2.2.2.2.1
def tg_tS (x : tg_X) : Nat := x.2.2.2.2.2.2.2.2.2.2.2.2.2.2.2
abbrev tg_ty (cy : Bool → ClassId) : List (ClassId × FieldType) := [(cy false, .int), (cy true, .boolean)]
def tg_I (ta : List tg_E) (x : tg_X) (S : tg_S) (H : Heap) (locs : List Loc) : Prop := va_P (tg_D x) vwCl (tg_w (tg_cy x) ta (tg_ad x) S) H ∧ va_D (tg_A x) (tg_w (tg_cy x) ta (tg_ad x) S) ∧ va_S (tg_A x) (tg_s x).heap H locs
def tg_W (x : tg_X) (H : Heap) (locs : List Loc) (pc : Nat) (ls : Array Slot) (st : List Value) : Prop := W (tg_p x) (tg_l x) (tg_en x) (tg_R x) (tg_s x) (tg_m x) (tg_args x) (tg_below x) (tg_meth x) (tg_c x) H locs 0 0 (tg_Q x) (F0 (tg_m x) pc ls st)
def tg_G (ta : List tg_E) (x : tg_X) (S : tg_S) (pc : Nat) (lv : List (Nat × Value)) (st : List Value) : Prop := ∀ (H : Heap) (locs : List Loc) (ls : Array Slot), tg_I ta x S H locs → lv_has ls (tg_c x).maxLocals lv → tg_W x H locs pc ls st
def tg_ri (rv : Option Value) : Instr := match rv with
  | none => .return_
  | some (.long _) => .lreturn
  | _ => .ireturn
def tg_nok (rt : Option FieldType) (rv : Option Value) : Prop := match rv, rt with
  | some v, some ty => narrow ty v = v
  | _, _ => True
/-- what a method's walk knows -/
def tg_M (ta : List tg_E) (x : tg_X) (cc : ByteArray) (nL : Nat) (own : String) (rm : Room) (rt : Option FieldType) (Sf : tg_S) (rv : Option Value) : Prop :=
  (tg_p x).tables.exec = Jvm.exec ∧ (tg_c x).code = cc ∧ (tg_c x).maxLocals = nL ∧ (tg_s x).vm.findClass own = some (tg_m x).cls ∧ (∀ w ∈ tg_gG, w.before (tg_args x) (tg_s x) = true) ∧ va_K (tg_D x) vwCl (tg_ty (tg_cy x)) (tg_s x) ∧ (∀ q : Nat, (tg_s x).heap.size ≤ q → tg_A x q) ∧ tg_R x = rm ∧ tg_Env (tg_A x) (tg_s x) (tg_s x).heap (tg_tS x) ∧
  ∀ (pc : Nat) (H : Heap) (locs : List Loc) (ls : Array Slot), tg_I ta x Sf H locs → tg_nok rt rv → decode cc pc = .ok (tg_ri rv, 1) → tg_W x H locs pc ls rv.toList
-- pure programs
def tg_max (a b : Int32) : Int32 := if a < b then b else a
def tg_min (a b : Int32) : Int32 := if b < a then b else a
def tg_cb2 (sp dp n : Int32) (n0 n1 : Nat) : Bool := decide (¬ sp < 0 ∧ ¬ dp < 0 ∧ ¬ n < 0 ∧ sp.toNatClampNeg + n.toNatClampNeg ≤ n0 ∧ dp.toNatClampNeg + n.toNatClampNeg ≤ n1)
def tg_db (i : Int32) : Int32 := if i.toNatClampNeg = 0 then 0 else if i.toNatClampNeg = 1 then 5 else if i.toNatClampNeg = 2 then 12 else 23
def tg_nm {a b : Type} (e : a) (k : a → b) : b := k e
theorem tg_nmE {a b : Type} {e y : a} {k : a → b} {r : b} (hy : y = e) (h : tg_nm e k = r) : k y = r := by subst hy; exact h
def tg_ib (i : Int32) (n : Nat) : Bool := decide (¬ (i < 0 ∨ n ≤ i.toNatClampNeg))
def tg_ck {a : Type} (b : Bool) (k : Option a) : Option a := cond b k none
theorem tg_ckE {a : Type} {b : Bool} {k : Option a} {r : a} (h : tg_ck b k = some r) : b = true ∧ k = some r := by
  cases b with
  | false => exact absurd h (by simp [tg_ck])
  | true => exact ⟨rfl, h⟩
theorem tg_ibE {i : Int32} {n : Nat} (h : tg_ib i n = true) : vp_in i n := by unfold tg_ib at h; unfold vp_in; exact of_decide_eq_true h
def tg_bd {a b : Type} (o : Option (tg_S × a)) (k : tg_S → a → Option b) : Option b := match o with
  | none => none
  | some (S, r) => k S r
theorem tg_bdE {a b : Type} {o : Option (tg_S × a)} {k : tg_S → a → Option b} {r : b} (h : tg_bd o k = some r) : ∃ (S : tg_S) (q : a), o = some (S, q) ∧ k S q = some r := by
  cases o with
  | none => cases h
  | some z => exact ⟨z.1, z.2, rfl, h⟩
def tg_bv {b : Type} (o : Option tg_S) (k : tg_S → Option b) : Option b := match o with
  | none => none
  | some S => k S
theorem tg_bvE {b : Type} {o : Option tg_S} {k : tg_S → Option b} {r : b} (h : tg_bv o k = some r) : ∃ S : tg_S, o = some S ∧ k S = some r := by
  cases o with
  | none => cases h
  | some z => exact ⟨z, rfl, h⟩
def tg_if {a : Type} (c : Prop) [Decidable c] (t e : a) : a := if c then t else e
theorem tg_ifT {a : Type} {c : Prop} [Decidable c] {t e r : a} (hc : c) (h : tg_if c t e = r) : t = r := by rw [← h, tg_if, if_pos hc]
theorem tg_ifF {a : Type} {c : Prop} [Decidable c] {t e r : a} (hc : ¬ c) (h : tg_if c t e = r) : e = r := by rw [← h, tg_if, if_neg hc]
def tg_rd {a : Type} (S : tg_S) (k n : Nat) (i : Int32) (K : Int32 → Option a) : Option a := tg_ck (tg_ib i n) (K (S k i.toNatClampNeg))
theorem tg_rdE {a : Type} {S : tg_S} {k n : Nat} {i : Int32} {K : Int32 → Option a} {r : a} (h : tg_rd S k n i K = some r) : ∃ y : Int32, y = S k i.toNatClampNeg ∧ vp_in i n ∧ K y = some r := by
  obtain ⟨h1, h2⟩ := tg_ckE h
  exact ⟨_, rfl, tg_ibE h1, h2⟩
def tg_rs {a : Type} (i : Int32) (K : Int32 → Option a) : Option a := tg_ck (tg_ib i 4) (K (tg_db i))
theorem tg_rsE {a : Type} {i : Int32} {K : Int32 → Option a} {r : a} (h : tg_rs i K = some r) : ∃ y : Int32, y = tg_db i ∧ vp_in i 4 ∧ K y = some r := by
  obtain ⟨h1, h2⟩ := tg_ckE h
  exact ⟨_, rfl, tg_ibE h1, h2⟩
def tg_wr {a : Type} (S : tg_S) (k n : Nat) (i v : Int32) (K : tg_S → Option a) : Option a := tg_ck (tg_ib i n) (K (tg_sw S k (upd (S k) i.toNatClampNeg v)))
theorem tg_wrE {a : Type} {S : tg_S} {k n : Nat} {i v : Int32} {K : tg_S → Option a} {r : a} (h : tg_wr S k n i v K = some r) : ∃ S2 : tg_S, S2 = tg_sw S k (upd (S k) i.toNatClampNeg v) ∧ vp_in i n ∧ K S2 = some r := by
  obtain ⟨h1, h2⟩ := tg_ckE h
  exact ⟨_, rfl, tg_ibE h1, h2⟩
def tg_wz {a : Type} (S : tg_S) (k n : Nat) (i v : Int32) (K : tg_S → Option a) : Option a := tg_ck (tg_ib i n) (K (tg_sw S k (upd (S k) i.toNatClampNeg (vp_nar .boolean v))))
theorem tg_wzE {a : Type} {S : tg_S} {k n : Nat} {i v : Int32} {K : tg_S → Option a} {r : a} (h : tg_wz S k n i v K = some r) : ∃ S2 : tg_S, S2 = tg_sw S k (upd (S k) i.toNatClampNeg (vp_nar .boolean v)) ∧ vp_in i n ∧ K S2 = some r := by
  obtain ⟨h1, h2⟩ := tg_ckE h
  exact ⟨_, rfl, tg_ibE h1, h2⟩
def tg_pf {a : Type} (S : tg_S) (k j : Nat) (v : Int32) (K : tg_S → Option a) : Option a := K (tg_sw S k (upd (S k) j v))
theorem tg_pfE {a : Type} {S : tg_S} {k j : Nat} {v : Int32} {K : tg_S → Option a} {r : a} (h : tg_pf S k j v K = some r) : ∃ S2 : tg_S, S2 = tg_sw S k (upd (S k) j v) ∧ K S2 = some r := ⟨_, rfl, h⟩
def tg_cp {a : Type} (S : tg_S) (k0 k1 n0 n1 : Nat) (sp dp n : Int32) (K : tg_S → Option a) : Option a := tg_ck (tg_cb2 sp dp n n0 n1) (K (tg_sw S k1 (va_cpy (S k0) (S k1) sp.toNatClampNeg dp.toNatClampNeg n.toNatClampNeg)))
theorem tg_cpE {a : Type} {S : tg_S} {k0 k1 n0 n1 : Nat} {sp dp n : Int32} {K : tg_S → Option a} {r : a} (h : tg_cp S k0 k1 n0 n1 sp dp n K = some r) : ∃ S2 : tg_S, S2 = tg_sw S k1 (va_cpy (S k0) (S k1) sp.toNatClampNeg dp.toNatClampNeg n.toNatClampNeg) ∧ tg_cb2 sp dp n n0 n1 = true ∧ K S2 = some r := by
  obtain ⟨h1, h2⟩ := tg_ckE h
  exact ⟨_, rfl, h1, h2⟩
def tg_bz {a : Type} (v : Int32) (k : Option a) : Option a := tg_ck (decide (v = 0 ∨ v = 1)) k
theorem tg_bzE {a : Type} {v : Int32} {k : Option a} {r : a} (h : tg_bz v k = some r) : tg_nok (some .boolean) (some (.int v)) ∧ k = some r := by
  obtain ⟨h1, h2⟩ := tg_ckE h
  rcases of_decide_eq_true h1 with rfl | rfl
  · exact ⟨rfl, h2⟩
  · exact ⟨rfl, h2⟩
def tg_F : Nat := 1000
section TgRows
variable {ta : List tg_E} {x : tg_X} {cc : ByteArray} {nL : Nat} {own : String} {rm : Room} {rt : Option FieldType} {Sf : tg_S} {rv : Option Value} {S : tg_S} {pc : Nat} {lv : List (Nat × Value)} {st : List Value}
theorem tg_iadd (X : tg_M ta x cc nL own rm rt Sf rv) {a b : Int32} (hd : decode cc pc = .ok (.iadd, 1)) (k : tg_G ta x S (pc + 1) lv (.int (a + b) :: st)) : tg_G ta x S pc lv (.int b :: .int a :: st) := fun H locs ls hI hl => lv_iadd X.1 X.2.1 hd (k H locs ls hI hl)
theorem tg_isub (X : tg_M ta x cc nL own rm rt Sf rv) {a b : Int32} (hd : decode cc pc = .ok (.isub, 1)) (k : tg_G ta x S (pc + 1) lv (.int (a - b) :: st)) : tg_G ta x S pc lv (.int b :: .int a :: st) := fun H locs ls hI hl => lv_isub X.1 X.2.1 hd (k H locs ls hI hl)
theorem tg_imul (X : tg_M ta x cc nL own rm rt Sf rv) {a b : Int32} (hd : decode cc pc = .ok (.imul, 1)) (k : tg_G ta x S (pc + 1) lv (.int (a * b) :: st)) : tg_G ta x S pc lv (.int b :: .int a :: st) := fun H locs ls hI hl => lv_imul X.1 X.2.1 hd (k H locs ls hI hl)
theorem tg_iand (X : tg_M ta x cc nL own rm rt Sf rv) {a b : Int32} (hd : decode cc pc = .ok (.iand, 1)) (k : tg_G ta x S (pc + 1) lv (.int (a &&& b) :: st)) : tg_G ta x S pc lv (.int b :: .int a :: st) := fun H locs ls hI hl => lv_iand X.1 X.2.1 hd (k H locs ls hI hl)
theorem tg_ior (X : tg_M ta x cc nL own rm rt Sf rv) {a b : Int32} (hd : decode cc pc = .ok (.ior, 1)) (k : tg_G ta x S (pc + 1) lv (.int (a ||| b) :: st)) : tg_G ta x S pc lv (.int b :: .int a :: st) := fun H locs ls hI hl => lv_ior X.1 X.2.1 hd (k H locs ls hI hl)
theorem tg_ladd (X : tg_M ta x cc nL own rm rt Sf rv) {a b : Int64} (hd : decode cc pc = .ok (.ladd, 1)) (k : tg_G ta x S (pc + 1) lv (.long (a + b) :: st)) : tg_G ta x S pc lv (.long b :: .long a :: st) := fun H locs ls hI hl => lv_ladd X.1 X.2.1 hd (k H locs ls hI hl)
theorem tg_lsub (X : tg_M ta x cc nL own rm rt Sf rv) {a b : Int64} (hd : decode cc pc = .ok (.lsub, 1)) (k : tg_G ta x S (pc + 1) lv (.long (a - b) :: st)) : tg_G ta x S pc lv (.long b :: .long a :: st) := fun H locs ls hI hl => lv_lsub X.1 X.2.1 hd (k H locs ls hI hl)
theorem tg_lmul (X : tg_M ta x cc nL own rm rt Sf rv) {a b : Int64} (hd : decode cc pc = .ok (.lmul, 1)) (k : tg_G ta x S (pc + 1) lv (.long (a * b) :: st)) : tg_G ta x S pc lv (.long b :: .long a :: st) := fun H locs ls hI hl => lv_lmul X.1 X.2.1 hd (k H locs ls hI hl)
theorem tg_idiv (X : tg_M ta x cc nL own rm rt Sf rv) {a b : Int32} (hd : decode cc pc = .ok (.idiv, 1)) (h0 : ¬ b = 0) (k : tg_G ta x S (pc + 1) lv (.int (a / b) :: st)) : tg_G ta x S pc lv (.int b :: .int a :: st) := fun H locs ls hI hl => lv_idiv X.1 X.2.1 hd h0 (k H locs ls hI hl)
theorem tg_irem (X : tg_M ta x cc nL own rm rt Sf rv) {a b : Int32} (hd : decode cc pc = .ok (.irem, 1)) (h0 : ¬ b = 0) (k : tg_G ta x S (pc + 1) lv (.int (a - a / b * b) :: st)) : tg_G ta x S pc lv (.int b :: .int a :: st) := fun H locs ls hI hl => lv_irem X.1 X.2.1 hd h0 (k H locs ls hI hl)
theorem tg_ldiv (X : tg_M ta x cc nL own rm rt Sf rv) {a b : Int64} (hd : decode cc pc = .ok (.ldiv, 1)) (h0 : ¬ b = 0) (k : tg_G ta x S (pc + 1) lv (.long (a / b) :: st)) : tg_G ta x S pc lv (.long b :: .long a :: st) := fun H locs ls hI hl => lv_ldiv X.1 X.2.1 hd h0 (k H locs ls hI hl)
theorem tg_lrem (X : tg_M ta x cc nL own rm rt Sf rv) {a b : Int64} (hd : decode cc pc = .ok (.lrem, 1)) (h0 : ¬ b = 0) (k : tg_G ta x S (pc + 1) lv (.long (a - a / b * b) :: st)) : tg_G ta x S pc lv (.long b :: .long a :: st) := fun H locs ls hI hl => lv_lrem X.1 X.2.1 hd h0 (k H locs ls hI hl)
theorem tg_ishl (X : tg_M ta x cc nL own rm rt Sf rv) {a b : Int32} (hd : decode cc pc = .ok (.ishl, 1)) (k : tg_G ta x S (pc + 1) lv (.int (a <<< (b &&& 31)) :: st)) : tg_G ta x S pc lv (.int b :: .int a :: st) := fun H locs ls hI hl => lv_ishl X.1 X.2.1 hd (k H locs ls hI hl)
theorem tg_ishr (X : tg_M ta x cc nL own rm rt Sf rv) {a b : Int32} (hd : decode cc pc = .ok (.ishr, 1)) (k : tg_G ta x S (pc + 1) lv (.int (a >>> (b &&& 31)) :: st)) : tg_G ta x S pc lv (.int b :: .int a :: st) := fun H locs ls hI hl => lv_ishr X.1 X.2.1 hd (k H locs ls hI hl)
theorem tg_iushr (X : tg_M ta x cc nL own rm rt Sf rv) {a b : Int32} (hd : decode cc pc = .ok (.iushr, 1)) (k : tg_G ta x S (pc + 1) lv (.int ((a.toUInt32 >>> (b.toUInt32 &&& Int32.toUInt32 31)).toInt32) :: st)) : tg_G ta x S pc lv (.int b :: .int a :: st) := fun H locs ls hI hl => lv_iushr X.1 X.2.1 hd rfl (k H locs ls hI hl)
theorem tg_lshl (X : tg_M ta x cc nL own rm rt Sf rv) {a : Int64} {b : Int32} (hd : decode cc pc = .ok (.lshl, 1)) (k : tg_G ta x S (pc + 1) lv (.long (a <<< (b.toInt64 &&& 63)) :: st)) : tg_G ta x S pc lv (.int b :: .long a :: st) := fun H locs ls hI hl => lv_lshl X.1 X.2.1 hd rfl (k H locs ls hI hl)
theorem tg_lcmp (X : tg_M ta x cc nL own rm rt Sf rv) {a b : Int64} (hd : decode cc pc = .ok (.lcmp, 1)) (k : tg_G ta x S (pc + 1) lv (.int (lg_cmp a b) :: st)) : tg_G ta x S pc lv (.long b :: .long a :: st) := fun H locs ls hI hl => W.lcmp X.1 X.2.1 hd (k H locs ls hI hl)
theorem tg_ineg (X : tg_M ta x cc nL own rm rt Sf rv) {a : Int32} (hd : decode cc pc = .ok (.ineg, 1)) (k : tg_G ta x S (pc + 1) lv (.int (-a) :: st)) : tg_G ta x S pc lv (.int a :: st) := fun H locs ls hI hl => lv_ineg X.1 X.2.1 hd (k H locs ls hI hl)
theorem tg_i2l (X : tg_M ta x cc nL own rm rt Sf rv) {a : Int32} (hd : decode cc pc = .ok (.i2l, 1)) (k : tg_G ta x S (pc + 1) lv (.long (a.toInt64) :: st)) : tg_G ta x S pc lv (.int a :: st) := fun H locs ls hI hl => lv_i2l X.1 X.2.1 hd rfl (k H locs ls hI hl)
theorem tg_i2b (X : tg_M ta x cc nL own rm rt Sf rv) {a : Int32} (hd : decode cc pc = .ok (.i2b, 1)) (k : tg_G ta x S (pc + 1) lv (.int (a.toInt8.toInt32) :: st)) : tg_G ta x S pc lv (.int a :: st) := fun H locs ls hI hl => lv_i2b X.1 X.2.1 hd rfl (k H locs ls hI hl)
theorem tg_i2s (X : tg_M ta x cc nL own rm rt Sf rv) {a : Int32} (hd : decode cc pc = .ok (.i2s, 1)) (k : tg_G ta x S (pc + 1) lv (.int (a.toInt16.toInt32) :: st)) : tg_G ta x S pc lv (.int a :: st) := fun H locs ls hI hl => lv_i2s X.1 X.2.1 hd rfl (k H locs ls hI hl)
theorem tg_iconst (X : tg_M ta x cc nL own rm rt Sf rv) {n : Int} {v : Int32} (hd : decode cc pc = .ok (.iconst n, 1)) (hv : Int32.ofInt n = v) (k : tg_G ta x S (pc + 1) lv (.int v :: st)) : tg_G ta x S pc lv st := fun H locs ls hI hl => lv_iconst X.1 X.2.1 hd hv (k H locs ls hI hl)
theorem tg_bipush (X : tg_M ta x cc nL own rm rt Sf rv) {n : Int} {v : Int32} (hd : decode cc pc = .ok (.bipush n, 2)) (hv : (Int8.ofInt n).toInt32 = v) (k : tg_G ta x S (pc + 2) lv (.int v :: st)) : tg_G ta x S pc lv st := fun H locs ls hI hl => lv_bipush X.1 X.2.1 hd hv (k H locs ls hI hl)
theorem tg_sipush (X : tg_M ta x cc nL own rm rt Sf rv) {n : Int} {v : Int32} (hd : decode cc pc = .ok (.sipush n, 3)) (hv : (Int16.ofInt n).toInt32 = v) (k : tg_G ta x S (pc + 3) lv (.int v :: st)) : tg_G ta x S pc lv st := fun H locs ls hI hl => lv_sipush X.1 X.2.1 hd hv (k H locs ls hI hl)
theorem tg_lconst (X : tg_M ta x cc nL own rm rt Sf rv) {n : Fin 2} {v : Int64} (hd : decode cc pc = .ok (.lconst n, 1)) (hv : Int64.ofNat (n : Nat) = v) (k : tg_G ta x S (pc + 1) lv (.long v :: st)) : tg_G ta x S pc lv st := fun H locs ls hI hl => lv_lconst X.1 X.2.1 hd hv (k H locs ls hI hl)
theorem tg_ldc (X : tg_M ta x cc nL own rm rt Sf rv) {index : Nat} {v : Int32} (hw : Cond.constant own index v ∈ tg_gG) (hd : decode cc pc = .ok (.ldc index, 2)) (k : tg_G ta x S (pc + 2) lv (.int v :: st)) : tg_G ta x S pc lv st := fun H locs ls hI hl => lv_ldc X.1 X.2.1 X.2.2.2.1 (X.2.2.2.2.1 _ hw) hd (k H locs ls hI hl)
theorem tg_ldcw (X : tg_M ta x cc nL own rm rt Sf rv) {index : Nat} {v : Int32} (hw : Cond.constant own index v ∈ tg_gG) (hd : decode cc pc = .ok (.ldc_w index, 3)) (k : tg_G ta x S (pc + 3) lv (.int v :: st)) : tg_G ta x S pc lv st := fun H locs ls hI hl => lv_ldcw X.1 X.2.1 X.2.2.2.1 (X.2.2.2.2.1 _ hw) hd (k H locs ls hI hl)
theorem tg_ldc2 (X : tg_M ta x cc nL own rm rt Sf rv) {index : Nat} {v : Int64} (hw : Cond.constantLong own index v ∈ tg_gG) (hd : decode cc pc = .ok (.ldc2_w index, 3)) (k : tg_G ta x S (pc + 3) lv (.long v :: st)) : tg_G ta x S pc lv st := fun H locs ls hI hl => lv_ldc2 X.1 X.2.1 X.2.2.2.1 (X.2.2.2.2.1 _ hw) hd (k H locs ls hI hl)
theorem tg_iload_n (X : tg_M ta x cc nL own rm rt Sf rv) {k : Fin 4} {i : Nat} {a : Int32} (hd : decode cc pc = .ok (.iload_n k, 1)) (hi : (k : Nat) = i) (q : Nat) (hq : lv[q]? = some (i, .int a)) (kk : tg_G ta x S (pc + 1) lv (.int a :: st)) : tg_G ta x S pc lv st := fun H locs ls hI hl => lv_iload_n X.1 X.2.1 hd hi (lv_at hl q hq) (kk H locs ls hI hl)
theorem tg_iload (X : tg_M ta x cc nL own rm rt Sf rv) {i : Nat} {a : Int32} (hd : decode cc pc = .ok (.iload i, 2)) (q : Nat) (hq : lv[q]? = some (i, .int a)) (kk : tg_G ta x S (pc + 2) lv (.int a :: st)) : tg_G ta x S pc lv st := fun H locs ls hI hl => lv_iload X.1 X.2.1 hd (lv_at hl q hq) (kk H locs ls hI hl)
theorem tg_istore_n (X : tg_M ta x cc nL own rm rt Sf rv) {k : Fin 4} {i : Nat} {a : Int32} {lv2 : List (Nat × Value)} (hd : decode cc pc = .ok (.istore_n k, 1)) (hi : (k : Nat) = i) (hn : i < nL) (hl2 : (i, Value.int a) :: lv.filter (fun q => !(q.1 == i) && !(q.1 + 1 == i && q.2.category == 2)) = lv2) (kk : tg_G ta x S (pc + 1) lv2 st) : tg_G ta x S pc lv (.int a :: st) := fun H locs ls hI hl => lv_istore_n X.1 X.2.1 hd hi hl (by rw [X.2.2.1]; exact hn) hl2 (fun ls2 hl3 => kk H locs ls2 hI hl3)
theorem tg_istore (X : tg_M ta x cc nL own rm rt Sf rv) {i : Nat} {a : Int32} {lv2 : List (Nat × Value)} (hd : decode cc pc = .ok (.istore i, 2)) (hn : i < nL) (hl2 : (i, Value.int a) :: lv.filter (fun q => !(q.1 == i) && !(q.1 + 1 == i && q.2.category == 2)) = lv2) (kk : tg_G ta x S (pc + 2) lv2 st) : tg_G ta x S pc lv (.int a :: st) := fun H locs ls hI hl => lv_istore X.1 X.2.1 hd hl (by rw [X.2.2.1]; exact hn) hl2 (fun ls2 hl3 => kk H locs ls2 hI hl3)
theorem tg_lload_n (X : tg_M ta x cc nL own rm rt Sf rv) {k : Fin 4} {i : Nat} {a : Int64} (hd : decode cc pc = .ok (.lload_n k, 1)) (hi : (k : Nat) = i) (q : Nat) (hq : lv[q]? = some (i, .long a)) (kk : tg_G ta x S (pc + 1) lv (.long a :: st)) : tg_G ta x S pc lv st := fun H locs ls hI hl => lv_lload_n X.1 X.2.1 hd hi (lv_at hl q hq) (kk H locs ls hI hl)
theorem tg_lload (X : tg_M ta x cc nL own rm rt Sf rv) {i : Nat} {a : Int64} (hd : decode cc pc = .ok (.lload i, 2)) (q : Nat) (hq : lv[q]? = some (i, .long a)) (kk : tg_G ta x S (pc + 2) lv (.long a :: st)) : tg_G ta x S pc lv st := fun H locs ls hI hl => lv_lload X.1 X.2.1 hd (lv_at hl q hq) (kk H locs ls hI hl)
theorem tg_lstore_n (X : tg_M ta x cc nL own rm rt Sf rv) {k : Fin 4} {i : Nat} {a : Int64} {lv2 : List (Nat × Value)} (hd : decode cc pc = .ok (.lstore_n k, 1)) (hi : (k : Nat) = i) (hn : i + 1 < nL) (hl2 : (i, Value.long a) :: lv.filter (fun q => !(q.1 == i) && (!(q.1 == i + 1) && !(q.1 + 1 == i && q.2.category == 2))) = lv2) (kk : tg_G ta x S (pc + 1) lv2 st) : tg_G ta x S pc lv (.long a :: st) := fun H locs ls hI hl => lv_lstore_n X.1 X.2.1 hd hi hl (by rw [X.2.2.1]; exact hn) hl2 (fun ls2 hl3 => kk H locs ls2 hI hl3)
theorem tg_lstore (X : tg_M ta x cc nL own rm rt Sf rv) {i : Nat} {a : Int64} {lv2 : List (Nat × Value)} (hd : decode cc pc = .ok (.lstore i, 2)) (hn : i + 1 < nL) (hl2 : (i, Value.long a) :: lv.filter (fun q => !(q.1 == i) && (!(q.1 == i + 1) && !(q.1 + 1 == i && q.2.category == 2))) = lv2) (kk : tg_G ta x S (pc + 2) lv2 st) : tg_G ta x S pc lv (.long a :: st) := fun H locs ls hI hl => lv_lstore X.1 X.2.1 hd hl (by rw [X.2.2.1]; exact hn) hl2 (fun ls2 hl3 => kk H locs ls2 hI hl3)
theorem tg_aload_n (X : tg_M ta x cc nL own rm rt Sf rv) {k : Fin 4} {i : Nat} {a : Nat} (hd : decode cc pc = .ok (.aload_n k, 1)) (hi : (k : Nat) = i) (q : Nat) (hq : lv[q]? = some (i, .ref a)) (kk : tg_G ta x S (pc + 1) lv (.ref a :: st)) : tg_G ta x S pc lv st := fun H locs ls hI hl => lv_aload_n X.1 X.2.1 hd hi (lv_at hl q hq) (kk H locs ls hI hl)
theorem tg_aload (X : tg_M ta x cc nL own rm rt Sf rv) {i : Nat} {a : Nat} (hd : decode cc pc = .ok (.aload i, 2)) (q : Nat) (hq : lv[q]? = some (i, .ref a)) (kk : tg_G ta x S (pc + 2) lv (.ref a :: st)) : tg_G ta x S pc lv st := fun H locs ls hI hl => lv_aload X.1 X.2.1 hd (lv_at hl q hq) (kk H locs ls hI hl)
theorem tg_astore_n (X : tg_M ta x cc nL own rm rt Sf rv) {k : Fin 4} {i : Nat} {a : Nat} {lv2 : List (Nat × Value)} (hd : decode cc pc = .ok (.astore_n k, 1)) (hi : (k : Nat) = i) (hn : i < nL) (hl2 : (i, Value.ref a) :: lv.filter (fun q => !(q.1 == i) && !(q.1 + 1 == i && q.2.category == 2)) = lv2) (kk : tg_G ta x S (pc + 1) lv2 st) : tg_G ta x S pc lv (.ref a :: st) := fun H locs ls hI hl => lv_astore_n X.1 X.2.1 hd hi hl (by rw [X.2.2.1]; exact hn) hl2 (fun ls2 hl3 => kk H locs ls2 hI hl3)
theorem tg_astore (X : tg_M ta x cc nL own rm rt Sf rv) {i : Nat} {a : Nat} {lv2 : List (Nat × Value)} (hd : decode cc pc = .ok (.astore i, 2)) (hn : i < nL) (hl2 : (i, Value.ref a) :: lv.filter (fun q => !(q.1 == i) && !(q.1 + 1 == i && q.2.category == 2)) = lv2) (kk : tg_G ta x S (pc + 2) lv2 st) : tg_G ta x S pc lv (.ref a :: st) := fun H locs ls hI hl => lv_astore X.1 X.2.1 hd hl (by rw [X.2.2.1]; exact hn) hl2 (fun ls2 hl3 => kk H locs ls2 hI hl3)
theorem tg_iinc (X : tg_M ta x cc nL own rm rt Sf rv) {i : Nat} {n : Int} {a y cst : Int32} {lv2 : List (Nat × Value)} (hd : decode cc pc = .ok (.iinc i n, 3)) (q : Nat) (hq : lv[q]? = some (i, .int a)) (hc : Int32.ofInt n = cst) (hy : y = a + cst) (hn : i < nL) (hl2 : (i, Value.int y) :: lv.filter (fun q => !(q.1 == i) && !(q.1 + 1 == i && q.2.category == 2)) = lv2) (kk : tg_G ta x S (pc + 3) lv2 st) : tg_G ta x S pc lv st := fun H locs ls hI hl => lv_iinc X.1 X.2.1 hd hl hq (by rw [hc]; exact hy.symm) (by rw [X.2.2.1]; exact hn) hl2 (fun ls2 hl3 => kk H locs ls2 hI hl3)
theorem tg_topi {a : Int32} (k : ∀ y : Int32, y = a → tg_G ta x S pc lv (.int y :: st)) : tg_G ta x S pc lv (.int a :: st) := k a rfl
theorem tg_topl {a : Int64} (k : ∀ y : Int64, y = a → tg_G ta x S pc lv (.long y :: st)) : tg_G ta x S pc lv (.long a :: st) := k a rfl
theorem tg_re (ks : List Nat) {lv2 : List (Nat × Value)} (h : lv_pick lv ks = lv2) (k : tg_G ta x S pc lv2 st) : tg_G ta x S pc lv st := fun H locs ls hI hl => k H locs ls hI (lv_sub hl ks h)
theorem tg_dup (X : tg_M ta x cc nL own rm rt Sf rv) {v : Value} (hd : decode cc pc = .ok (.dup, 1)) (hv : v.category = 1) (k : tg_G ta x S (pc + 1) lv (v :: v :: st)) : tg_G ta x S pc lv (v :: st) := fun H locs ls hI hl => lv_dup X.1 X.2.1 hd hv (k H locs ls hI hl)
theorem tg_pop (X : tg_M ta x cc nL own rm rt Sf rv) {v : Value} (hd : decode cc pc = .ok (.pop, 1)) (hv : v.category = 1) (k : tg_G ta x S (pc + 1) lv st) : tg_G ta x S pc lv (v :: st) := fun H locs ls hI hl => lv_pop X.1 X.2.1 hd hv (k H locs ls hI hl)
theorem tg_dup2 (X : tg_M ta x cc nL own rm rt Sf rv) {v w : Value} (hd : decode cc pc = .ok (.dup2, 1)) (hv : v.category = 1) (hw : w.category = 1) (k : tg_G ta x S (pc + 1) lv (v :: w :: v :: w :: st)) : tg_G ta x S pc lv (v :: w :: st) := fun H locs ls hI hl => lv_dup2_11 X.1 X.2.1 hd hv hw (k H locs ls hI hl)
theorem tg_goto (X : tg_M ta x cc nL own rm rt Sf rv) {off : Int} {tgt : Nat} (hd : decode cc pc = .ok (.goto off, 3)) (ht : (pc : Int) + off = (tgt : Int)) (k : tg_G ta x S tgt lv st) : tg_G ta x S pc lv st := fun H locs ls hI hl => lv_goto X.1 X.2.1 hd ht (k H locs ls hI hl)
theorem tg_if_eq (X : tg_M ta x cc nL own rm rt Sf rv) {a : Int32} {off : Int} {tgt : Nat} (hd : decode cc pc = .ok (.ifCond .eq off, 3)) (ht : (pc : Int) + off = (tgt : Int)) (kt : a = 0 → tg_G ta x S tgt lv st) (kf : ¬ a = 0 → tg_G ta x S (pc + 3) lv st) : tg_G ta x S pc lv (.int a :: st) := fun H locs ls hI hl => lv_if_eq X.1 X.2.1 hd ht (fun h => kt h H locs ls hI hl) (fun h => kf h H locs ls hI hl)
theorem tg_icmp_eq (X : tg_M ta x cc nL own rm rt Sf rv) {a b : Int32} {off : Int} {tgt : Nat} (hd : decode cc pc = .ok (.if_icmp .eq off, 3)) (ht : (pc : Int) + off = (tgt : Int)) (kt : a = b → tg_G ta x S tgt lv st) (kf : ¬ a = b → tg_G ta x S (pc + 3) lv st) : tg_G ta x S pc lv (.int b :: .int a :: st) := fun H locs ls hI hl => lv_icmp_eq X.1 X.2.1 hd ht (fun h => kt h H locs ls hI hl) (fun h => kf h H locs ls hI hl)
theorem tg_if_ne (X : tg_M ta x cc nL own rm rt Sf rv) {a : Int32} {off : Int} {tgt : Nat} (hd : decode cc pc = .ok (.ifCond .ne off, 3)) (ht : (pc : Int) + off = (tgt : Int)) (kt : ¬ a = 0 → tg_G ta x S tgt lv st) (kf : a = 0 → tg_G ta x S (pc + 3) lv st) : tg_G ta x S pc lv (.int a :: st) := fun H locs ls hI hl => lv_if_ne X.1 X.2.1 hd ht (fun h => kt h H locs ls hI hl) (fun h => kf h H locs ls hI hl)
theorem tg_icmp_ne (X : tg_M ta x cc nL own rm rt Sf rv) {a b : Int32} {off : Int} {tgt : Nat} (hd : decode cc pc = .ok (.if_icmp .ne off, 3)) (ht : (pc : Int) + off = (tgt : Int)) (kt : ¬ a = b → tg_G ta x S tgt lv st) (kf : a = b → tg_G ta x S (pc + 3) lv st) : tg_G ta x S pc lv (.int b :: .int a :: st) := fun H locs ls hI hl => lv_icmp_ne X.1 X.2.1 hd ht (fun h => kt h H locs ls hI hl) (fun h => kf h H locs ls hI hl)
theorem tg_if_lt (X : tg_M ta x cc nL own rm rt Sf rv) {a : Int32} {off : Int} {tgt : Nat} (hd : decode cc pc = .ok (.ifCond .lt off, 3)) (ht : (pc : Int) + off = (tgt : Int)) (kt : a < 0 → tg_G ta x S tgt lv st) (kf : ¬ a < 0 → tg_G ta x S (pc + 3) lv st) : tg_G ta x S pc lv (.int a :: st) := fun H locs ls hI hl => lv_if_lt X.1 X.2.1 hd ht (fun h => kt h H locs ls hI hl) (fun h => kf h H locs ls hI hl)
theorem tg_icmp_lt (X : tg_M ta x cc nL own rm rt Sf rv) {a b : Int32} {off : Int} {tgt : Nat} (hd : decode cc pc = .ok (.if_icmp .lt off, 3)) (ht : (pc : Int) + off = (tgt : Int)) (kt : a < b → tg_G ta x S tgt lv st) (kf : ¬ a < b → tg_G ta x S (pc + 3) lv st) : tg_G ta x S pc lv (.int b :: .int a :: st) := fun H locs ls hI hl => lv_icmp_lt X.1 X.2.1 hd ht (fun h => kt h H locs ls hI hl) (fun h => kf h H locs ls hI hl)
theorem tg_if_ge (X : tg_M ta x cc nL own rm rt Sf rv) {a : Int32} {off : Int} {tgt : Nat} (hd : decode cc pc = .ok (.ifCond .ge off, 3)) (ht : (pc : Int) + off = (tgt : Int)) (kt : 0 ≤ a → tg_G ta x S tgt lv st) (kf : ¬ 0 ≤ a → tg_G ta x S (pc + 3) lv st) : tg_G ta x S pc lv (.int a :: st) := fun H locs ls hI hl => lv_if_ge X.1 X.2.1 hd ht (fun h => kt h H locs ls hI hl) (fun h => kf h H locs ls hI hl)
theorem tg_icmp_ge (X : tg_M ta x cc nL own rm rt Sf rv) {a b : Int32} {off : Int} {tgt : Nat} (hd : decode cc pc = .ok (.if_icmp .ge off, 3)) (ht : (pc : Int) + off = (tgt : Int)) (kt : b ≤ a → tg_G ta x S tgt lv st) (kf : ¬ b ≤ a → tg_G ta x S (pc + 3) lv st) : tg_G ta x S pc lv (.int b :: .int a :: st) := fun H locs ls hI hl => lv_icmp_ge X.1 X.2.1 hd ht (fun h => kt h H locs ls hI hl) (fun h => kf h H locs ls hI hl)
theorem tg_if_gt (X : tg_M ta x cc nL own rm rt Sf rv) {a : Int32} {off : Int} {tgt : Nat} (hd : decode cc pc = .ok (.ifCond .gt off, 3)) (ht : (pc : Int) + off = (tgt : Int)) (kt : 0 < a → tg_G ta x S tgt lv st) (kf : ¬ 0 < a → tg_G ta x S (pc + 3) lv st) : tg_G ta x S pc lv (.int a :: st) := fun H locs ls hI hl => lv_if_gt X.1 X.2.1 hd ht (fun h => kt h H locs ls hI hl) (fun h => kf h H locs ls hI hl)
theorem tg_icmp_gt (X : tg_M ta x cc nL own rm rt Sf rv) {a b : Int32} {off : Int} {tgt : Nat} (hd : decode cc pc = .ok (.if_icmp .gt off, 3)) (ht : (pc : Int) + off = (tgt : Int)) (kt : b < a → tg_G ta x S tgt lv st) (kf : ¬ b < a → tg_G ta x S (pc + 3) lv st) : tg_G ta x S pc lv (.int b :: .int a :: st) := fun H locs ls hI hl => lv_icmp_gt X.1 X.2.1 hd ht (fun h => kt h H locs ls hI hl) (fun h => kf h H locs ls hI hl)
theorem tg_if_le (X : tg_M ta x cc nL own rm rt Sf rv) {a : Int32} {off : Int} {tgt : Nat} (hd : decode cc pc = .ok (.ifCond .le off, 3)) (ht : (pc : Int) + off = (tgt : Int)) (kt : a ≤ 0 → tg_G ta x S tgt lv st) (kf : ¬ a ≤ 0 → tg_G ta x S (pc + 3) lv st) : tg_G ta x S pc lv (.int a :: st) := fun H locs ls hI hl => lv_if_le X.1 X.2.1 hd ht (fun h => kt h H locs ls hI hl) (fun h => kf h H locs ls hI hl)
theorem tg_icmp_le (X : tg_M ta x cc nL own rm rt Sf rv) {a b : Int32} {off : Int} {tgt : Nat} (hd : decode cc pc = .ok (.if_icmp .le off, 3)) (ht : (pc : Int) + off = (tgt : Int)) (kt : a ≤ b → tg_G ta x S tgt lv st) (kf : ¬ a ≤ b → tg_G ta x S (pc + 3) lv st) : tg_G ta x S pc lv (.int b :: .int a :: st) := fun H locs ls hI hl => lv_icmp_le X.1 X.2.1 hd ht (fun h => kt h H locs ls hI hl) (fun h => kf h H locs ls hI hl)
-- arrays
theorem tg_iald (X : tg_M ta x cc nL own rm rt Sf rv) (k : Nat) {n : Nat} {y : Int32} (ht : ta[k]? = some (.inl (false, n))) {i : Int32} (hy : y = S k i.toNatClampNeg) (hi : vp_in i n) (hd : decode cc pc = .ok (.iaload, 1)) (kk : tg_G ta x S (pc + 1) lv (.int y :: st)) : tg_G ta x S pc lv (.int i :: .ref (tg_ad x k) :: st) := by
  subst hy
  exact fun H locs ls hI hl => va_iald X.1 X.2.1 X.2.2.2.2.2.1 hI.1 k 0 (tg_w_get ht) rfl hi hd (kk H locs ls hI hl)
theorem tg_zald (X : tg_M ta x cc nL own rm rt Sf rv) (k : Nat) {n : Nat} {y : Int32} (ht : ta[k]? = some (.inl (true, n))) {i : Int32} (hy : y = S k i.toNatClampNeg) (hi : vp_in i n) (hd : decode cc pc = .ok (.baload, 1)) (kk : tg_G ta x S (pc + 1) lv (.int y :: st)) : tg_G ta x S pc lv (.int i :: .ref (tg_ad x k) :: st) := by
  subst hy
  exact fun H locs ls hI hl => va_zald X.1 X.2.1 X.2.2.2.2.2.1 hI.1 k 1 (tg_w_get ht) rfl hi hd (kk H locs ls hI hl)
theorem tg_iast (X : tg_M ta x cc nL own rm rt Sf rv) (k : Nat) {n : Nat} (ht : ta[k]? = some (.inl (false, n))) {i v : Int32} (hi : vp_in i n) (hd : decode cc pc = .ok (.iastore, 1)) {S2 : tg_S} (hS : S2 = tg_sw S k (upd (S k) i.toNatClampNeg v)) (kk : tg_G ta x S2 (pc + 1) lv st) : tg_G ta x S pc lv (.int v :: .int i :: .ref (tg_ad x k) :: st) := fun H locs ls hI hl => va_iast X.1 X.2.1 X.2.2.2.2.2.1 hI.1 hI.2.1 hI.2.2 k 0 (tg_w_get ht) rfl hi hd (fun H1 locs1 hP hD hS9 => kk H1 locs1 ls ⟨by rw [hS, ← tg_w_set _ ht]; exact hP, by rw [hS, ← tg_w_set _ ht]; exact hD, hS9⟩ hl)
theorem tg_zast (X : tg_M ta x cc nL own rm rt Sf rv) (k : Nat) {n : Nat} (ht : ta[k]? = some (.inl (true, n))) {i v : Int32} (hi : vp_in i n) (hd : decode cc pc = .ok (.bastore, 1)) {S2 : tg_S} (hS : S2 = tg_sw S k (upd (S k) i.toNatClampNeg (vp_nar .boolean v))) (kk : tg_G ta x S2 (pc + 1) lv st) : tg_G ta x S pc lv (.int v :: .int i :: .ref (tg_ad x k) :: st) := fun H locs ls hI hl => va_zast X.1 X.2.1 X.2.2.2.2.2.1 hI.1 hI.2.1 hI.2.2 k 1 (tg_w_get ht) rfl hi hd (fun H1 locs1 hP hD hS9 => kk H1 locs1 ls ⟨by rw [hS, ← tg_w_set _ ht]; exact hP, by rw [hS, ← tg_w_set _ ht]; exact hD, hS9⟩ hl)
-- fields
def tg_Cl (ci : Nat) (C : String) (T : u_T) (N : Nat) (ty : Nat → FieldType) : Prop := vwCl[ci]? = some (C, T, N) ∧ (∀ w ∈ u_ws C T N, w ∈ tg_gG) ∧ (∀ k, k < N → parseFieldDescriptor (T k).2.2.1 = some (ty k)) ∧ ∀ a, a < N → ∀ b, b < N → a ≠ b → (T a).2.1 ≠ (T b).2.1
theorem tg_geti (X : tg_M ta x cc nL own rm rt Sf rv) (k : Nat) {ci : Nat} {fs : List (Option (Option Nat))} (ht : ta[k]? = some (.inr (ci, fs))) {C : String} {T : u_T} {N : Nat} {ty : Nat → FieldType} (hC : tg_Cl ci C T N ty) (j : Nat) (hj : j < N) (hf : fs[j]? = some none) {index : Nat} (hw : Cond.fieldLink own index (T j).1 (T j).2.1 (T j).2.2.1 ∈ tg_gG) (hd : decode cc pc = .ok (.getfield index, 3)) (kk : tg_G ta x S (pc + 3) lv (.int (S k j) :: st)) : tg_G ta x S pc lv (.ref (tg_ad x k) :: st) := fun H locs ls hI hl => va_get X.1 X.2.1 X.2.2.2.2.1 hC.2.1 X.2.2.2.1 X.2.2.2.2.2.1 hI.1 k (tg_w_get ht) hC.1 j hj (X.2.2.2.2.1 _ hw) (fun _ h => h) (tg_fs_get hf) hd (kk H locs ls hI hl)
theorem tg_getr (X : tg_M ta x cc nL own rm rt Sf rv) (k : Nat) {ci : Nat} {fs : List (Option (Option Nat))} (ht : ta[k]? = some (.inr (ci, fs))) {C : String} {T : u_T} {N : Nat} {ty : Nat → FieldType} (hC : tg_Cl ci C T N ty) (j : Nat) (hj : j < N) {r : Nat} (hf : fs[j]? = some (some (some r))) {index : Nat} (hw : Cond.fieldLink own index (T j).1 (T j).2.1 (T j).2.2.1 ∈ tg_gG) (hd : decode cc pc = .ok (.getfield index, 3)) (kk : tg_G ta x S (pc + 3) lv (.ref (tg_ad x r) :: st)) : tg_G ta x S pc lv (.ref (tg_ad x k) :: st) := fun H locs ls hI hl => va_get X.1 X.2.1 X.2.2.2.2.1 hC.2.1 X.2.2.2.1 X.2.2.2.2.2.1 hI.1 k (tg_w_get ht) hC.1 j hj (X.2.2.2.2.1 _ hw) (fun _ h => h) (tg_fs_get hf) hd (kk H locs ls hI hl)
theorem tg_puti (X : tg_M ta x cc nL own rm rt Sf rv) (k : Nat) {ci : Nat} {fs : List (Option (Option Nat))} (ht : ta[k]? = some (.inr (ci, fs))) {C : String} {T : u_T} {N : Nat} {ty : Nat → FieldType} (hC : tg_Cl ci C T N ty) (j : Nat) (hj : j < N) (hf : fs[j]? = some none) {index : Nat} (hw : Cond.fieldLink own index (T j).1 (T j).2.1 (T j).2.2.1 ∈ tg_gG) (hfin : (T j).2.2.2 = false) {v : Int32} (hn : narrow (ty j) (.int v) = .int v) (hfit : fits (ty j) (.int v) = true) (hd : decode cc pc = .ok (.putfield index, 3)) {S2 : tg_S} (hS : S2 = tg_sw S k (upd (S k) j v)) (kk : tg_G ta x S2 (pc + 3) lv st) : tg_G ta x S pc lv (.int v :: .ref (tg_ad x k) :: st) := fun H locs ls hI hl =>
  va_put X.1 X.2.1 X.2.2.2.2.1 hC.2.1 ty hC.2.2.1 hC.2.2.2 X.2.2.2.1 X.2.2.2.2.2.1 hI.1 hI.2.1 hI.2.2 k (tg_w_get ht) hC.1 j hj (X.2.2.2.2.1 _ hw) (fun _ h => h) hfin (hC.2.2.1 j hj) hn hfit (by rw [tg_fs, List.length_mapIdx]; exact (List.getElem?_eq_some_iff.mp hf).1) hd (fun H1 locs1 hP hD hS9 => kk H1 locs1 ls ⟨by
    rw [tg_fs_set v hf] at hP
    rw [hS, ← tg_w_set _ ht]; exact hP, by
    rw [tg_fs_set v hf] at hD
    rw [hS, ← tg_w_set _ ht]; exact hD, hS9⟩ hl)
-- returns
theorem tg_iret {r a : Int32} (X : tg_M ta x cc nL own rm rt Sf (some (.int r))) (h : some (S, a) = some (Sf, r)) (hn : tg_nok rt (some (.int a))) (hd : decode cc pc = .ok (.ireturn, 1)) : tg_G ta x S pc lv [.int a] := by
  cases h
  exact fun H locs ls hI hl => X.2.2.2.2.2.2.2.2.2 pc H locs ls hI hn hd
theorem tg_lret {r a : Int64} (X : tg_M ta x cc nL own rm rt Sf (some (.long r))) (h : some (S, a) = some (Sf, r)) (hn : tg_nok rt (some (.long a))) (hd : decode cc pc = .ok (.lreturn, 1)) : tg_G ta x S pc lv [.long a] := by
  cases h
  exact fun H locs ls hI hl => X.2.2.2.2.2.2.2.2.2 pc H locs ls hI hn hd
theorem tg_vret (X : tg_M ta x cc nL own rm rt Sf none) (h : some S = some Sf) (hd : decode cc pc = .ok (.return_, 1)) : tg_G ta x S pc lv [] := by
  cases h
  exact fun H locs ls hI hl => X.2.2.2.2.2.2.2.2.2 pc H locs ls hI trivial hd
-- contracts
def tg_Qc (ta : List tg_E) (D : va_G) (cy : Bool → ClassId) (ad : Nat → Nat) (S : tg_S) (sz : Nat) (S1 : tg_S) (rv : Option Value) : Array Value → State → Outcome → State → Prop := fun _ st oc t => (oc = .returned rv ∧ va_P D vwCl (tg_w cy ta ad S1) t.heap ∧ va_K D vwCl (tg_ty cy) t ∧ va_D (va_A (tg_w cy ta ad S) sz) (tg_w cy ta ad S1)) ∧ va_F (va_A (tg_w cy ta ad S) sz) st t
def tg_Met (l : Launch) (y : MethodName) (cc : ByteArray) (maxL : Nat) (rt : Option FieldType) (rm : Room) (ta : List tg_E) (D : va_G) (cy : Bool → ClassId) (ad : Nat → Nat) (tS : Nat) (S : tg_S) (vs : List Value) (S1 : tg_S) (rv : Option Value) : Prop :=
  ∀ sz : Nat, Met l y (.code y cc maxL rt :: tg_gG) rm (va_Pc vs (fun U => U.heap.size = sz ∧ va_P D vwCl (tg_w cy ta ad S) U.heap ∧ va_K D vwCl (tg_ty cy) U ∧ va_D (fun _ => True) (tg_w cy ta ad S) ∧ tg_Env (va_A (tg_w cy ta ad S) sz) U U.heap tS))
    (tg_Qc ta D cy ad S sz S1 rv) 0 0 (va_A (tg_w cy ta ad S) sz)
theorem tg_mk {l : Launch} {y : MethodName} {cc : ByteArray} {maxL : Nat} {rt : Option FieldType} {rm : Room} {ta : List tg_E} {D : va_G} {cy : Bool → ClassId} {ad : Nat → Nat} {tS : Nat} {S : tg_S} {vs : List Value} {S1 : tg_S} {rv : Option Value}
    (hy : plainName y.cls = true) (hrv : match rv, rt with | none, none => True | some (.int _), some _ => True | some (.long _), some .long => True | _, _ => False) (hvs : (lg_sl vs).length ≤ maxL)
    (body : ∀ (p : Program) (e : Env) (s : State) (m : MethodId) (args : Array Value) (below : List Frame) (meth : Method) (c : Code) (Q : State → Prop) (A : Nat → Prop), tg_M ta (p, l, e, rm, s, m, args, below, meth, c, Q, A, D, cy, ad, tS) cc maxL y.cls rm rt S1 rv → tg_G ta (p, l, e, rm, s, m, args, below, meth, c, Q, A, D, cy, ad, tS) S 0 (lv_args 0 vs) []) : tg_Met l y cc maxL rt rm ta D cy ad tS S vs S1 rv := by
  intro sz
  refine Met.ofW (cc := cc) (maxL := maxL) (ret := rt) hy rfl ?_
  intro p e s m args below meth c s₁ B hml hv
  obtain ⟨rfl, hsz, hP, hK, hD0, hE⟩ := hv
  subst hsz
  have hts := atoms_spec (ws := (.code y cc maxL rt :: tg_gG)) B.pre
  have hown : s.vm.findClass y.cls = some m.cls := findClass_of_methodNamed B.named
  have hlocks := B.notSynchronized
  have hr := B.returns
  have hD := hD0.self (sz := s.heap.size)
  have hl := lv_entry vs (n := maxL) hvs
  rw [lg_entry_eq]
  generalize (lg_sl vs ++ List.replicate (maxL - (lg_sl vs).length) Slot.unset).toArray = ls at hl ⊢
  refine body p e s m vs.toArray below meth c (MQ below (tg_Qc ta D cy ad S s.heap.size S1 rv) vs.toArray s 0 0 (va_A (tg_w cy ta ad S) s.heap.size)) (va_A (tg_w cy ta ad S) s.heap.size) ⟨B.exec, B.bytes, hml, hown, fun w hw => hts w (List.mem_cons_of_mem _ hw), hK, fun q h => Or.inr h, rfl, hE, ?_⟩ s.heap [] ls ⟨hP, hD, va_S.rf⟩ (by show lv_has ls c.maxLocals _; rw [hml]; exact hl)
  intro pc H locs ls hI hn hd
  obtain ⟨hP1, hD1, hS1⟩ := hI
  match rv, rt, hrv, hn, hd, hr with
  | none, none, _, _, hd, hr => exact (show W p l e rm s m vs.toArray below meth c H locs 0 0 (MQ below (tg_Qc ta D cy ad S s.heap.size S1 none) vs.toArray s 0 0 (va_A (tg_w cy ta ad S) s.heap.size)) (F0 m pc ls []) from W.vret B.exec B.bytes hr (fun t ht hW => ⟨⟨rfl, by rw [ht]; exact hP1, va_K.moved hW.alike hK, hD1⟩, hS1.F ht⟩) hS1.2.2 hd)
  | some (.int r), some ty, _, hn, hd, hr => exact (show W p l e rm s m vs.toArray below meth c H locs 0 0 (MQ below (tg_Qc ta D cy ad S s.heap.size S1 (some (.int r))) vs.toArray s 0 0 (va_A (tg_w cy ta ad S) s.heap.size)) (F0 m pc ls [.int r]) from W.zret B.exec B.bytes hr hn (fun t ht hW => ⟨⟨rfl, by rw [ht]; exact hP1, va_K.moved hW.alike hK, hD1⟩, hS1.F ht⟩) hS1.2.2 hd)
  | some (.long r), some .long, _, _, hd, hr => exact (show W p l e rm s m vs.toArray below meth c H locs 0 0 (MQ below (tg_Qc ta D cy ad S s.heap.size S1 (some (.long r))) vs.toArray s 0 0 (va_A (tg_w cy ta ad S) s.heap.size)) (F0 m pc ls [.long r]) from W.lret B.exec B.bytes hr (fun t ht hW => ⟨⟨rfl, by rw [ht]; exact hP1, va_K.moved hW.alike hK, hD1⟩, hS1.F ht⟩) hS1.2.2 hd)
-- calls
theorem tg_sub (X : tg_M ta x cc nL own rm rt Sf rv) {H : Heap} {locs : List Loc} (hI : tg_I ta x S H locs) : ∀ q, va_A (tg_w (tg_cy x) ta (tg_ad x) S) H.size q → tg_A x q := by
  intro q h
  rcases h with ⟨k, e, h⟩ | h
  · exact hI.2.1.2 k _ h
  · exact X.2.2.2.2.2.2.1 q (Nat.le_trans hI.2.2.1 h)
theorem tg_aft (X : tg_M ta x cc nL own rm rt Sf rv) {H : Heap} {locs : List Loc} {ls : Array Slot} {st0 rest : List Value} {S1 : tg_S} {rv2 : Option Value} {a : Array Value} (hI : tg_I ta x S H locs) (hl : lv_has ls (tg_c x).maxLocals lv)
    (run : va_Run (tg_p x) (tg_l x) (tg_en x) (tg_R x) (tg_s x) (tg_m x) (tg_args x) (tg_below x) (tg_meth x) (tg_c x) H locs 0 0 0 0 (F0 (tg_m x) pc ls st0) rest (tg_Qc ta (tg_D x) (tg_cy x) (tg_ad x) S H.size S1 rv2 a) (va_A (tg_w (tg_cy x) ta (tg_ad x) S) H.size)) (kk : tg_G ta x S1 (pc + 3) lv (rv2.toList ++ rest)) : tg_W x H locs pc ls st0 := by
  have hA := tg_sub X hI
  obtain ⟨hP, hD, hS⟩ := hI
  intro T hT X'
  obtain ⟨v, st₀, t, T', L, h0, X1, hL, e1, e2, ⟨⟨hv, hP1, hK1, hD1⟩, hz, hk⟩, st⟩ := run T hT X'
  cases hv
  rw [h0] at hz hk
  obtain ⟨t2, a1, b1⟩ := kk T'.heap (locs ++ L) ls ⟨by rw [e1]; exact hP1, hD1.weaken (fun k q hq h => hA _ h), ⟨Nat.le_trans hS.1 (by rw [e1]; exact hz), fun q h1 h2 => by rw [e1, hk q (Nat.lt_of_lt_of_le h1 hS.1) (fun z => h2 (hA q z))]; exact hS.2.1 q h1 h2, fun q hq => by
      rcases List.mem_append.mp hq with h | h
      · exact hS.2.2 q h
      · exact hA _ (hL q h)⟩⟩ hl T' rfl X1
  exact ⟨t2, st t2 a1, b1⟩
theorem tg_pre (X : tg_M ta x cc nL own rm rt Sf rv) {H : Heap} {locs : List Loc} {vs : List Value} (hI : tg_I ta x S H locs) : PreS (tg_s x) H (va_Pc vs (fun U => U.heap.size = H.size ∧ va_P (tg_D x) vwCl (tg_w (tg_cy x) ta (tg_ad x) S) U.heap ∧ va_K (tg_D x) vwCl (tg_ty (tg_cy x)) U ∧ va_D (fun _ => True) (tg_w (tg_cy x) ta (tg_ad x) S) ∧ tg_Env (va_A (tg_w (tg_cy x) ta (tg_ad x) S) H.size) U U.heap (tg_tS x))) vs := by
  have hA := tg_sub X hI
  obtain ⟨hP, hD, hS⟩ := hI
  refine ⟨fun a U g mk q => ?_, fun U hU hW => ?_⟩
  · obtain ⟨q0, q1, qP, qK, qD, qE⟩ := q
    exact ⟨q0, q1, qP, va_K.moved (u := U) (U := U.calling g mk a) (Vm.Alike.refl U.vm) qK, qD, qE.calling⟩
  · refine ⟨rfl, by rw [hU], by rw [hU]; exact hP, va_K.moved hW.alike X.2.2.2.2.2.1, hD.weaken (fun _ _ _ _ => trivial), ?_⟩
    rw [hU]
    exact tg_Env.kept hW hS.2.1 hA X.2.2.2.2.2.2.2.2.1
def tg_Y0 (y : MethodName) (cc : ByteArray) (maxL : Nat) (rt : Option FieldType) (n : Nat) : Prop := Cond.code y cc maxL rt ∈ tg_gG ∧ Cond.initialized y.cls ∈ tg_gG ∧ y.cls ≠ "java/lang/invoke/MethodHandle" ∧ y.cls ≠ "java/lang/invoke/VarHandle" ∧ (parseMethodDescriptor y.desc).map (fun d => d.parameters.length) = some n
theorem tg_cb (X : tg_M ta x cc nL own rm rt Sf rv) {y : MethodName} {cc2 : ByteArray} {maxL : Nat} {rt2 : Option FieldType} {n index : Nat} {rm2 : Room} (hY : tg_Y0 y cc2 maxL rt2 n) (hL : Cond.methodLink own index y ∈ tg_gG) (hR : rm2.cells = 0 ∧ rm2.slots = 0 ∧ rm2.frames + 1 ≤ rm.frames ∧ 8 + (maxL + 11) + rm2.locals ≤ rm.locals) : CallB (tg_R x) (tg_s x) (tg_args x) own index y cc2 maxL rt2 (Cond.code y cc2 maxL rt2 :: tg_gG) rm2 0 0 n := by
  refine callB_of (Ts := tg_gG) n X.2.2.2.2.1 (tg_GG (fun w h => h) (fun w h => ?_)) rfl hR.1 hR.2.1 (X.2.2.2.2.1 _ hY.2.1) (X.2.2.2.2.1 _ hL) hY.2.2 (by rw [X.2.2.2.2.2.2.2.1]; exact hR.2.2)
  rcases List.mem_cons.mp h with rfl | h
  · exact hY.1
  · exact h
/-- a call of a method of an object (a method of its own class) -/
theorem tg_callV (X : tg_M ta x cc nL own rm rt Sf rv) {y : MethodName} {cc2 : ByteArray} {maxL : Nat} {rt2 : Option FieldType} {rm2 : Room} {S1 : tg_S} {rv2 : Option Value} {n index : Nat} (k : Nat) {As rest st0 : List Value} (hM : tg_Met (tg_l x) y cc2 maxL rt2 rm2 ta (tg_D x) (tg_cy x) (tg_ad x) (tg_tS x) S (.ref (tg_ad x k) :: As) S1 rv2) (hY : tg_Y0 y cc2 maxL rt2 n) (hI0 : Cond.instanceMethod y ∈ tg_gG) (hs0 : Cond.selects y.cls y y ∈ tg_gG) (hL : Cond.methodLink own index y ∈ tg_gG)
    {ci : Nat} {fs : List (Option (Option Nat))} (ht : ta[k]? = some (.inr (ci, fs))) {T : u_T} {N : Nat} (hc : vwCl[ci]? = some (y.cls, T, N)) (hR : rm2.cells = 0 ∧ rm2.slots = 0 ∧ rm2.frames + 1 ≤ rm.frames ∧ 8 + (maxL + 11) + rm2.locals ≤ rm.locals) (hn : As.length = n) (hst : st0 = As.reverse ++ .ref (tg_ad x k) :: rest) (hW : (rest.map fun v => v.category).sum ≤ 8) (hd : decode cc pc = .ok (.invokevirtual index, 3)) {st1 : List Value} (h1 : rv2.toList ++ rest = st1) (kk : tg_G ta x S1 (pc + 3) lv st1) : tg_G ta x S pc lv st0 := by
  subst h1
  intro H locs ls hI hl
  have hp := tg_pre X (vs := .ref (tg_ad x k) :: As) hI
  refine tg_aft X hI hl (va_runV (C := y.cls) (Ts := tg_gG) ⟨X.1, X.2.1, rfl, X.2.2.2.1, X.2.2.2.2.1⟩ (hM H.size) ⟨tg_cb X hY hL hR, X.2.2.2.2.1 _ hI0, X.2.2.2.2.1 _ hs0⟩ ⟨hp.1, va_recv X.2.2.2.2.2.1 hI.1 hc (tg_w_get ht), hp.2⟩ rfl hn hl.1 hst (lv_room hW) hd ⟨Nat.zero_le _, Nat.zero_le _⟩) kk
theorem tg_callS (X : tg_M ta x cc nL own rm rt Sf rv) {y : MethodName} {cc2 : ByteArray} {maxL : Nat} {rt2 : Option FieldType} {rm2 : Room} {S1 : tg_S} {rv2 : Option Value} {n index : Nat} {As rest st0 : List Value} (hM : tg_Met (tg_l x) y cc2 maxL rt2 rm2 ta (tg_D x) (tg_cy x) (tg_ad x) (tg_tS x) S As S1 rv2) (hY : tg_Y0 y cc2 maxL rt2 n) (hI0 : Cond.static y ∈ tg_gG) (hL : Cond.methodLink own index y ∈ tg_gG)
    (hR : rm2.cells = 0 ∧ rm2.slots = 0 ∧ rm2.frames + 1 ≤ rm.frames ∧ 8 + (maxL + 11) + rm2.locals ≤ rm.locals) (hn : As.length = n) (hst : st0 = As.reverse ++ rest) (hW : (rest.map fun v => v.category).sum ≤ 8) (hd : decode cc pc = .ok (.invokestatic index, 3)) {st1 : List Value} (h1 : rv2.toList ++ rest = st1) (kk : tg_G ta x S1 (pc + 3) lv st1) : tg_G ta x S pc lv st0 := by
  subst h1
  intro H locs ls hI hl
  exact tg_aft X hI hl (va_runS (Ts := tg_gG) ⟨X.1, X.2.1, rfl, X.2.2.2.1, X.2.2.2.2.1⟩ (hM H.size) ⟨tg_cb X hY hL hR, X.2.2.2.2.1 _ hI0⟩ (tg_pre X (vs := As) hI) rfl hn hl.1 hst (lv_room hW) hd ⟨Nat.zero_le _, Nat.zero_le _⟩) kk
/-- isBelow, private, called by a nest mate -/
theorem tg_callSN (X : tg_M ta x cc nL own rm rt Sf rv) {y : MethodName} {cc2 : ByteArray} {maxL : Nat} {rt2 : Option FieldType} {rm2 : Room} {S1 : tg_S} {rv2 : Option Value} {n index : Nat} {host : String} {As rest st0 : List Value} (hM : tg_Met (tg_l x) y cc2 maxL rt2 rm2 ta (tg_D x) (tg_cy x) (tg_ad x) (tg_tS x) S As S1 rv2) (hY : tg_Y0 y cc2 maxL rt2 n) (hI0 : Cond.static y ∈ tg_gG) (hL : tg_Env (tg_A x) (tg_s x) (tg_s x).heap (tg_tS x) → va_Nw (.methodLinkNest own index y host) (tg_s x))
    (hR : rm2.cells = 0 ∧ rm2.slots = 0 ∧ rm2.frames + 1 ≤ rm.frames ∧ 8 + (maxL + 11) + rm2.locals ≤ rm.locals) (hn : As.length = n) (hst : st0 = As.reverse ++ rest) (hW : (rest.map fun v => v.category).sum ≤ 8) (hd : decode cc pc = .ok (.invokestatic index, 3)) {st1 : List Value} (h1 : rv2.toList ++ rest = st1) (kk : tg_G ta x S1 (pc + 3) lv st1) : tg_G ta x S pc lv st0 := by
  subst h1
  intro H locs ls hI hl
  refine tg_aft X hI hl (va_runSN (Ts := tg_gG) ⟨X.1, X.2.1, rfl, X.2.2.2.1, X.2.2.2.2.1⟩ (hM H.size) ⟨va_cnB (Ts := tg_gG) n X.2.2.2.2.1 (tg_GG (fun w h => h) (fun w h => ?_)) rfl hR.1 hR.2.1 (hL X.2.2.2.2.2.2.2.2.1) (X.2.2.2.2.1 _ hY.2.1) hY.2.2 (by rw [X.2.2.2.2.2.2.2.1]; exact hR.2.2), X.2.2.2.2.1 _ hI0, trivial⟩ (tg_pre X (vs := As) hI) rfl hn hl.1 hst (lv_room hW) hd ⟨Nat.zero_le _, Nat.zero_le _⟩) kk
  rcases List.mem_cons.mp h with rfl | h
  · exact hY.1
  · exact h
-- Math
theorem tg_mmax (X : tg_M ta x cc nL own rm rt Sf rv) {index : Nat} {a b : Int32} (hw : Cond.methodLink own index Lib.Math.max.name ∈ tg_gG ∧ Cond.static Lib.Math.max.name ∈ tg_gG ∧ Cond.initialized "java/lang/Math" ∈ tg_gG ∧ Cond.code Lib.Math.max.name Lib.Math.max.code 2 (some .int) ∈ tg_gG) (hR : 1 ≤ rm.frames ∧ (st.map fun v => v.category).sum + 13 ≤ rm.locals) (hd : decode cc pc = .ok (.invokestatic index, 3)) (kk : tg_G ta x S (pc + 3) lv (.int (tg_max a b) :: st)) : tg_G ta x S pc lv (.int b :: .int a :: st) := fun H locs ls hI hl => va_mmax X.1 X.2.1 hl.1.symm X.2.2.2.1 (X.2.2.2.2.1 _ hw.1) (X.2.2.2.2.1 _ hw.2.1) (X.2.2.2.2.1 _ hw.2.2.1) (X.2.2.2.2.1 _ hw.2.2.2) (by rw [X.2.2.2.2.2.2.2.1]; exact hR.1) (by rw [X.2.2.2.2.2.2.2.1]; exact hR.2) (Nat.zero_le _) (Nat.zero_le _) hd (kk H locs ls hI hl)
theorem tg_mmin (X : tg_M ta x cc nL own rm rt Sf rv) {index : Nat} {a b : Int32} (hw : Cond.methodLink own index Lib.Math.min.name ∈ tg_gG ∧ Cond.static Lib.Math.min.name ∈ tg_gG ∧ Cond.initialized "java/lang/Math" ∈ tg_gG ∧ Cond.code Lib.Math.min.name Lib.Math.min.code 2 (some .int) ∈ tg_gG) (hR : 1 ≤ rm.frames ∧ (st.map fun v => v.category).sum + 13 ≤ rm.locals) (hd : decode cc pc = .ok (.invokestatic index, 3)) (kk : tg_G ta x S (pc + 3) lv (.int (tg_min a b) :: st)) : tg_G ta x S pc lv (.int b :: .int a :: st) := fun H locs ls hI hl => va_mmin X.1 X.2.1 hl.1.symm X.2.2.2.1 (X.2.2.2.2.1 _ hw.1) (X.2.2.2.2.1 _ hw.2.1) (X.2.2.2.2.1 _ hw.2.2.1) (X.2.2.2.2.1 _ hw.2.2.2) (by rw [X.2.2.2.2.2.2.2.1]; exact hR.1) (by rw [X.2.2.2.2.2.2.2.1]; exact hR.2) (Nat.zero_le _) (Nat.zero_le _) hd (kk H locs ls hI hl)
-- arraycopy of int rows (source k0, target k1, perhaps the same)
theorem tg_acopy (X : tg_M ta x cc nL own rm rt Sf rv) (k0 k1 : Nat) {n0 n1 : Nat} (h0 : ta[k0]? = some (.inl (false, n0))) (h1 : ta[k1]? = some (.inl (false, n1))) {index : Nat} {sp dp n : Int32} (hb : tg_cb2 sp dp n n0 n1 = true) (hw : Cond.methodLink own index arraycopyName ∈ tg_gG ∧ Cond.native arraycopyName ∈ tg_gG ∧ Cond.static arraycopyName ∈ tg_gG ∧ Cond.initialized "java/lang/System" ∈ tg_gG) (hR : 1 ≤ rm.frames ∧ (st.map fun v => v.category).sum + 18 ≤ rm.locals) (hd : decode cc pc = .ok (.invokestatic index, 3))
    {S2 : tg_S} (hS : S2 = tg_sw S k1 (va_cpy (S k0) (S k1) sp.toNatClampNeg dp.toNatClampNeg n.toNatClampNeg)) (kk : tg_G ta x S2 (pc + 3) lv st) : tg_G ta x S pc lv (.int n :: .int dp :: .ref (tg_ad x k1) :: .int sp :: .ref (tg_ad x k0) :: st) := by
  intro H locs ls hI hl
  unfold tg_cb2 at hb
  obtain ⟨b1, b2, b3, b4, b5⟩ := of_decide_eq_true hb
  exact va_copyi X.1 X.2.1 hl.1.symm X.2.2.2.1 (X.2.2.2.2.1 _ hw.1) (X.2.2.2.2.1 _ hw.2.1) (X.2.2.2.2.1 _ hw.2.2.1) (X.2.2.2.2.1 _ hw.2.2.2) X.2.2.2.2.2.1 hI.1 hI.2.1 hI.2.2 k0 k1 0 0 (tg_w_get h0) (tg_w_get h1) rfl rfl rfl b1 b2 b3 b4 b5 (fun _ _ => rfl) (by rw [X.2.2.2.2.2.2.2.1]; exact hR.1) (by rw [X.2.2.2.2.2.2.2.1]; exact hR.2) hd (fun H1 locs1 hP hD hS9 => kk H1 locs1 ls ⟨by rw [hS, ← tg_w_set _ h1]; exact hP, by rw [hS, ← tg_w_set _ h1]; exact hD, hS9⟩ hl)
-- the static row
theorem tg_gets (X : tg_M ta x cc nL own rm rt Sf rv) {index : Nat} (hw : Cond.fieldLink own index "TugOfWar" "DIGEST_BEATS" "[I" ∈ tg_gG) (hd : decode cc pc = .ok (.getstatic index, 3)) (kk : tg_G ta x S (pc + 3) lv (.ref (tg_tS x) :: st)) : tg_G ta x S pc lv st := fun H locs ls hI hl => va_gets X.1 X.2.1 X.2.2.2.2.2.2.2.2.1.2.2.1 hI.2.2 X.2.2.2.1 (X.2.2.2.2.1 _ hw) (fun _ h => h) hd (kk H locs ls hI hl)
theorem tg_tald (X : tg_M ta x cc nL own rm rt Sf rv) {i y : Int32} (hy : y = tg_db i) (hi : vp_in i 4) (hd : decode cc pc = .ok (.iaload, 1)) (kk : tg_G ta x S (pc + 1) lv (.int y :: st)) : tg_G ta x S pc lv (.int i :: .ref (tg_tS x) :: st) := by
  subst hy
  exact fun H locs ls hI hl => va_ti X.1 X.2.1 X.2.2.2.2.2.2.2.2.1.2.2.2 hI.2.2 hi rfl hd (kk H locs ls hI hl)
theorem tg_tlen (X : tg_M ta x cc nL own rm rt Sf rv) (hd : decode cc pc = .ok (.arraylength, 1)) (kk : tg_G ta x S (pc + 1) lv (.int 4 :: st)) : tg_G ta x S pc lv (.ref (tg_tS x) :: st) := fun H locs ls hI hl => va_tlen X.1 X.2.1 X.2.2.2.2.2.2.2.2.1.2.2.2 hI.2.2 rfl hd (kk H locs ls hI hl)
-- switches
theorem tg_nei {a b : Int32} {z : Int} (hz : b.toInt = z) (h : ¬ a = b) : a.toInt ≠ z := fun e => h (Int32.toInt_inj.mp (e.trans hz.symm))
theorem tg_tsw (X : tg_M ta x cc nL own rm rt Sf rv) {dflt lo hi : Int} {offs : Array Int} {len : Nat} {a cst : Int32} {off : Int} {tgt : Nat} (hd : decode cc pc = .ok (.tableswitch dflt lo hi offs, len)) (ha : a = cst) (hin : ¬ cst.toInt < lo ∧ ¬ hi < cst.toInt ∧ offs[(cst.toInt - lo).toNat]? = some off) (ht : (pc : Int) + off = (tgt : Int)) (k : tg_G ta x S tgt lv st) : tg_G ta x S pc lv (.int a :: st) := by
  subst ha
  exact fun H locs ls hI hl => lv_tableIn X.1 X.2.1 hd hin.1 hin.2.1 hin.2.2 ht (k H locs ls hI hl)
theorem tg_tswD (X : tg_M ta x cc nL own rm rt Sf rv) {dflt lo hi : Int} {offs : Array Int} {len : Nat} {a : Int32} {tgt : Nat} (hd : decode cc pc = .ok (.tableswitch dflt lo hi offs, len)) (h : a.toInt < lo ∨ hi < a.toInt) (ht : (pc : Int) + dflt = (tgt : Int)) (k : tg_G ta x S tgt lv st) : tg_G ta x S pc lv (.int a :: st) := fun H locs ls hI hl => lv_tableOut X.1 X.2.1 hd h ht (k H locs ls hI hl)
theorem tg_lsw (X : tg_M ta x cc nL own rm rt Sf rv) {dflt : Int} {ps : Array (Int × Int)} {len : Nat} {a : Int32} {off : Int} {tgt : Nat} (hd : decode cc pc = .ok (.lookupswitch dflt ps, len)) (hp : (ps.toList.zip (ps.toList.drop 1)).all (fun (a, next) => a.1 < next.1) = true) (ho : Op.lookupswitch.offset ps.toList dflt a.toInt = off) (ht : (pc : Int) + off = (tgt : Int)) (k : tg_G ta x S tgt lv st) : tg_G ta x S pc lv (.int a :: st) := fun H locs ls hI hl => lv_lookup X.1 X.2.1 hd hp ho ht (k H locs ls hI hl)
end TgRows
end
section
def tauC : List tg_E := [.inr (7, [some (some 1), some (some 4), some (some 7), none, some (some 11), some (some 35), some (some 23), some (some 42), some (some 49), some (some 50), some (some 51), none]), .inr (6, [some (some 2), some (some 3)]), .inl (false, 124), .inl (false, 4), .inr (4, [some (some 5), some (some 6), none]), .inl (false, 8), .inl (false, 8), .inr (5, [some (some 8), some (some 9), some (some 10)]), .inl (false, 240), .inl (false, 4), .inl (false, 4), .inr (1, [some (some 12), some (some 13), some (some 14), some (some 15), some (some 16), some (some 17), some (some 18), some (some 19), none]), .inl (true, 16), .inl (false, 16), .inl (false, 16), .inl (false, 16), .inl (false, 2), .inl (false, 2), .inl (false, 48), .inr (3, [some (some 20), some (some 21), some (some 22), none, none]), .inl (false, 8), .inl (false, 8), .inl (false, 8), .inr (1, [some (some 24), some (some 25), some (some 26), some (some 27), some (some 28), some (some 29), some (some 30), some (some 31), none]), .inl (true, 16), .inl (false, 16), .inl (false, 16), .inl (false, 16), .inl (false, 2), .inl (false, 2), .inl (false, 48), .inr (3, [some (some 32), some (some 33), some (some 34), none, none]), .inl (false, 8), .inl (false, 8), .inl (false, 8), .inr (2, [some (some 36), some (some 37), some (some 38), some (some 39), some (some 40), none, none, some (some 41), none, none, none, none]), .inl (false, 24), .inl (false, 24), .inl (false, 48), .inl (false, 384), .inl (false, 384), .inl (false, 16), .inr (2, [some (some 43), some (some 44), some (some 45), some (some 46), some (some 47), none, none, some (some 48), none, none, none, none]), .inl (false, 24), .inl (false, 24), .inl (false, 48), .inl (false, 384), .inl (false, 384), .inl (false, 16), .inr (0, [none, none, none, none]), .inl (false, 240), .inl (false, 256)]
def tauR : List tg_E := [.inr (8, [some (some 1), some (some 2), some (some 3), some (some 4), some (some 5), some (some 6), some (some 7), some (some 8), none, none, some (some 9), some (some 10), some (some 11), some (some 12), none, some (some 13), none, some (some 14), none, none, none, none, none, none, none, some (some 15), some (some 16), some (some 17), some (some 18), some (some 19), some (some 20), some (some 21), some (some 22), some (some 23), none, none, some (some 24), none, some (some 25), some (some 26), some (some 27), some (some 28), some (some 29), some (some 30), some (some 31), some (some 32), none]), .inl (false, 4), .inl (false, 124), .inl (false, 2), .inl (false, 17), .inl (false, 17), .inl (false, 17), .inl (false, 2), .inl (false, 48), .inl (false, 8), .inl (false, 8), .inl (false, 8), .inl (false, 48), .inl (false, 16), .inl (false, 2), .inl (false, 16), .inl (false, 16), .inl (false, 16), .inl (false, 2), .inl (false, 24), .inl (false, 24), .inl (false, 48), .inl (false, 384), .inl (false, 384), .inl (false, 2), .inl (false, 8), .inl (false, 8), .inl (false, 240), .inl (true, 4), .inl (false, 4), .inl (false, 4), .inl (false, 240), .inl (false, 60)]
theorem wl_X0_0 : u_lay RX0 TX0 0 ∈ tg_gG := tg_mem (List.mem_of_getElem? (i := 284) (by decide +kernel)) (by decide +kernel)
theorem wl_X0_1 : u_lay RX0 TX0 1 ∈ tg_gG := tg_mem (List.mem_of_getElem? (i := 286) (by decide +kernel)) (by decide +kernel)
theorem wl_X0_2 : u_lay RX0 TX0 2 ∈ tg_gG := tg_mem (List.mem_of_getElem? (i := 288) (by decide +kernel)) (by decide +kernel)
theorem wl_X0_3 : u_lay RX0 TX0 3 ∈ tg_gG := tg_mem (List.mem_of_getElem? (i := 290) (by decide +kernel)) (by decide +kernel)
theorem wl_X0 : ∀ w ∈ u_ws RX0 TX0 4, w ∈ tg_gG := by
  intro w h
  obtain ⟨k, hk, rfl⟩ := List.mem_map.mp h
  have hk := List.mem_range.mp hk
  match k, hk with
  | 0, _ => exact wl_X0_0
  | 1, _ => exact wl_X0_1
  | 2, _ => exact wl_X0_2
  | 3, _ => exact wl_X0_3
  | j + 4, h => exact absurd h (by omega)
theorem cl_X0 : tg_Cl 0 RX0 TX0 4 tyX0 := ⟨rfl, wl_X0, tyX0_ok, nmX0⟩
theorem wl_X1_0 : u_lay RX1 TX1 0 ∈ tg_gG := tg_mem (List.mem_of_getElem? (i := 201) (by decide +kernel)) (by decide +kernel)
theorem wl_X1_1 : u_lay RX1 TX1 1 ∈ tg_gG := tg_mem (List.mem_of_getElem? (i := 203) (by decide +kernel)) (by decide +kernel)
theorem wl_X1_2 : u_lay RX1 TX1 2 ∈ tg_gG := tg_mem (List.mem_of_getElem? (i := 205) (by decide +kernel)) (by decide +kernel)
theorem wl_X1_3 : u_lay RX1 TX1 3 ∈ tg_gG := tg_mem (List.mem_of_getElem? (i := 207) (by decide +kernel)) (by decide +kernel)
theorem wl_X1_4 : u_lay RX1 TX1 4 ∈ tg_gG := tg_mem (List.mem_of_getElem? (i := 209) (by decide +kernel)) (by decide +kernel)
theorem wl_X1_5 : u_lay RX1 TX1 5 ∈ tg_gG := tg_mem (List.mem_of_getElem? (i := 211) (by decide +kernel)) (by decide +kernel)
theorem wl_X1_6 : u_lay RX1 TX1 6 ∈ tg_gG := tg_mem (List.mem_of_getElem? (i := 213) (by decide +kernel)) (by decide +kernel)
theorem wl_X1_7 : u_lay RX1 TX1 7 ∈ tg_gG := tg_mem (List.mem_of_getElem? (i := 215) (by decide +kernel)) (by decide +kernel)
theorem wl_X1_8 : u_lay RX1 TX1 8 ∈ tg_gG := tg_mem (List.mem_of_getElem? (i := 217) (by decide +kernel)) (by decide +kernel)
theorem wl_X1 : ∀ w ∈ u_ws RX1 TX1 9, w ∈ tg_gG := by
  intro w h
  obtain ⟨k, hk, rfl⟩ := List.mem_map.mp h
  have hk := List.mem_range.mp hk
  match k, hk with
  | 0, _ => exact wl_X1_0
  | 1, _ => exact wl_X1_1
  | 2, _ => exact wl_X1_2
  | 3, _ => exact wl_X1_3
  | 4, _ => exact wl_X1_4
  | 5, _ => exact wl_X1_5
  | 6, _ => exact wl_X1_6
  | 7, _ => exact wl_X1_7
  | 8, _ => exact wl_X1_8
  | j + 9, h => exact absurd h (by omega)
theorem cl_X1 : tg_Cl 1 RX1 TX1 9 tyX1 := ⟨rfl, wl_X1, tyX1_ok, nmX1⟩
theorem wl_X2_0 : u_lay RX2 TX2 0 ∈ tg_gG := tg_mem (List.mem_of_getElem? (i := 246) (by decide +kernel)) (by decide +kernel)
theorem wl_X2_1 : u_lay RX2 TX2 1 ∈ tg_gG := tg_mem (List.mem_of_getElem? (i := 248) (by decide +kernel)) (by decide +kernel)
theorem wl_X2_2 : u_lay RX2 TX2 2 ∈ tg_gG := tg_mem (List.mem_of_getElem? (i := 250) (by decide +kernel)) (by decide +kernel)
theorem wl_X2_3 : u_lay RX2 TX2 3 ∈ tg_gG := tg_mem (List.mem_of_getElem? (i := 252) (by decide +kernel)) (by decide +kernel)
theorem wl_X2_4 : u_lay RX2 TX2 4 ∈ tg_gG := tg_mem (List.mem_of_getElem? (i := 254) (by decide +kernel)) (by decide +kernel)
theorem wl_X2_5 : u_lay RX2 TX2 5 ∈ tg_gG := tg_mem (List.mem_of_getElem? (i := 256) (by decide +kernel)) (by decide +kernel)
theorem wl_X2_6 : u_lay RX2 TX2 6 ∈ tg_gG := tg_mem (List.mem_of_getElem? (i := 258) (by decide +kernel)) (by decide +kernel)
theorem wl_X2_7 : u_lay RX2 TX2 7 ∈ tg_gG := tg_mem (List.mem_of_getElem? (i := 260) (by decide +kernel)) (by decide +kernel)
theorem wl_X2_8 : u_lay RX2 TX2 8 ∈ tg_gG := tg_mem (List.mem_of_getElem? (i := 262) (by decide +kernel)) (by decide +kernel)
theorem wl_X2_9 : u_lay RX2 TX2 9 ∈ tg_gG := tg_mem (List.mem_of_getElem? (i := 264) (by decide +kernel)) (by decide +kernel)
theorem wl_X2_10 : u_lay RX2 TX2 10 ∈ tg_gG := tg_mem (List.mem_of_getElem? (i := 266) (by decide +kernel)) (by decide +kernel)
theorem wl_X2_11 : u_lay RX2 TX2 11 ∈ tg_gG := tg_mem (List.mem_of_getElem? (i := 268) (by decide +kernel)) (by decide +kernel)
theorem wl_X2 : ∀ w ∈ u_ws RX2 TX2 12, w ∈ tg_gG := by
  intro w h
  obtain ⟨k, hk, rfl⟩ := List.mem_map.mp h
  have hk := List.mem_range.mp hk
  match k, hk with
  | 0, _ => exact wl_X2_0
  | 1, _ => exact wl_X2_1
  | 2, _ => exact wl_X2_2
  | 3, _ => exact wl_X2_3
  | 4, _ => exact wl_X2_4
  | 5, _ => exact wl_X2_5
  | 6, _ => exact wl_X2_6
  | 7, _ => exact wl_X2_7
  | 8, _ => exact wl_X2_8
  | 9, _ => exact wl_X2_9
  | 10, _ => exact wl_X2_10
  | 11, _ => exact wl_X2_11
  | j + 12, h => exact absurd h (by omega)
theorem cl_X2 : tg_Cl 2 RX2 TX2 12 tyX2 := ⟨rfl, wl_X2, tyX2_ok, nmX2⟩
theorem wl_X3_0 : u_lay RX3 TX3 0 ∈ tg_gG := tg_mem (List.mem_of_getElem? (i := 163) (by decide +kernel)) (by decide +kernel)
theorem wl_X3_1 : u_lay RX3 TX3 1 ∈ tg_gG := tg_mem (List.mem_of_getElem? (i := 165) (by decide +kernel)) (by decide +kernel)
theorem wl_X3_2 : u_lay RX3 TX3 2 ∈ tg_gG := tg_mem (List.mem_of_getElem? (i := 167) (by decide +kernel)) (by decide +kernel)
theorem wl_X3_3 : u_lay RX3 TX3 3 ∈ tg_gG := tg_mem (List.mem_of_getElem? (i := 169) (by decide +kernel)) (by decide +kernel)
theorem wl_X3_4 : u_lay RX3 TX3 4 ∈ tg_gG := tg_mem (List.mem_of_getElem? (i := 171) (by decide +kernel)) (by decide +kernel)
theorem wl_X3 : ∀ w ∈ u_ws RX3 TX3 5, w ∈ tg_gG := by
  intro w h
  obtain ⟨k, hk, rfl⟩ := List.mem_map.mp h
  have hk := List.mem_range.mp hk
  match k, hk with
  | 0, _ => exact wl_X3_0
  | 1, _ => exact wl_X3_1
  | 2, _ => exact wl_X3_2
  | 3, _ => exact wl_X3_3
  | 4, _ => exact wl_X3_4
  | j + 5, h => exact absurd h (by omega)
theorem cl_X3 : tg_Cl 3 RX3 TX3 5 tyX3 := ⟨rfl, wl_X3, tyX3_ok, nmX3⟩
theorem wl_X4_0 : u_lay RX4 TX4 0 ∈ tg_gG := tg_mem (List.mem_of_getElem? (i := 118) (by decide +kernel)) (by decide +kernel)
theorem wl_X4_1 : u_lay RX4 TX4 1 ∈ tg_gG := tg_mem (List.mem_of_getElem? (i := 120) (by decide +kernel)) (by decide +kernel)
theorem wl_X4_2 : u_lay RX4 TX4 2 ∈ tg_gG := tg_mem (List.mem_of_getElem? (i := 122) (by decide +kernel)) (by decide +kernel)
theorem wl_X4 : ∀ w ∈ u_ws RX4 TX4 3, w ∈ tg_gG := by
  intro w h
  obtain ⟨k, hk, rfl⟩ := List.mem_map.mp h
  have hk := List.mem_range.mp hk
  match k, hk with
  | 0, _ => exact wl_X4_0
  | 1, _ => exact wl_X4_1
  | 2, _ => exact wl_X4_2
  | j + 3, h => exact absurd h (by omega)
theorem cl_X4 : tg_Cl 4 RX4 TX4 3 tyX4 := ⟨rfl, wl_X4, tyX4_ok, nmX4⟩
theorem wl_X5_0 : u_lay RX5 TX5 0 ∈ tg_gG := tg_mem (List.mem_of_getElem? (i := 134) (by decide +kernel)) (by decide +kernel)
theorem wl_X5_1 : u_lay RX5 TX5 1 ∈ tg_gG := tg_mem (List.mem_of_getElem? (i := 136) (by decide +kernel)) (by decide +kernel)
theorem wl_X5_2 : u_lay RX5 TX5 2 ∈ tg_gG := tg_mem (List.mem_of_getElem? (i := 138) (by decide +kernel)) (by decide +kernel)
theorem wl_X5 : ∀ w ∈ u_ws RX5 TX5 3, w ∈ tg_gG := by
  intro w h
  obtain ⟨k, hk, rfl⟩ := List.mem_map.mp h
  have hk := List.mem_range.mp hk
  match k, hk with
  | 0, _ => exact wl_X5_0
  | 1, _ => exact wl_X5_1
  | 2, _ => exact wl_X5_2
  | j + 3, h => exact absurd h (by omega)
theorem cl_X5 : tg_Cl 5 RX5 TX5 3 tyX5 := ⟨rfl, wl_X5, tyX5_ok, nmX5⟩
theorem wl_X6_0 : u_lay RX6 TX6 0 ∈ tg_gG := tg_mem (List.mem_of_getElem? (i := 102) (by decide +kernel)) (by decide +kernel)
theorem wl_X6_1 : u_lay RX6 TX6 1 ∈ tg_gG := tg_mem (List.mem_of_getElem? (i := 104) (by decide +kernel)) (by decide +kernel)
theorem wl_X6 : ∀ w ∈ u_ws RX6 TX6 2, w ∈ tg_gG := by
  intro w h
  obtain ⟨k, hk, rfl⟩ := List.mem_map.mp h
  have hk := List.mem_range.mp hk
  match k, hk with
  | 0, _ => exact wl_X6_0
  | 1, _ => exact wl_X6_1
  | j + 2, h => exact absurd h (by omega)
theorem cl_X6 : tg_Cl 6 RX6 TX6 2 tyX6 := ⟨rfl, wl_X6, tyX6_ok, nmX6⟩
theorem wl_X7_0 : u_lay RX7 TX7 0 ∈ tg_gG := tg_mem (List.mem_of_getElem? (i := 385) (by decide +kernel)) (by decide +kernel)
theorem wl_X7_1 : u_lay RX7 TX7 1 ∈ tg_gG := tg_mem (List.mem_of_getElem? (i := 387) (by decide +kernel)) (by decide +kernel)
theorem wl_X7_2 : u_lay RX7 TX7 2 ∈ tg_gG := tg_mem (List.mem_of_getElem? (i := 389) (by decide +kernel)) (by decide +kernel)
theorem wl_X7_3 : u_lay RX7 TX7 3 ∈ tg_gG := tg_mem (List.mem_of_getElem? (i := 391) (by decide +kernel)) (by decide +kernel)
theorem wl_X7_4 : u_lay RX7 TX7 4 ∈ tg_gG := tg_mem (List.mem_of_getElem? (i := 393) (by decide +kernel)) (by decide +kernel)
theorem wl_X7_5 : u_lay RX7 TX7 5 ∈ tg_gG := tg_mem (List.mem_of_getElem? (i := 395) (by decide +kernel)) (by decide +kernel)
theorem wl_X7_6 : u_lay RX7 TX7 6 ∈ tg_gG := tg_mem (List.mem_of_getElem? (i := 397) (by decide +kernel)) (by decide +kernel)
theorem wl_X7_7 : u_lay RX7 TX7 7 ∈ tg_gG := tg_mem (List.mem_of_getElem? (i := 399) (by decide +kernel)) (by decide +kernel)
theorem wl_X7_8 : u_lay RX7 TX7 8 ∈ tg_gG := tg_mem (List.mem_of_getElem? (i := 401) (by decide +kernel)) (by decide +kernel)
theorem wl_X7_9 : u_lay RX7 TX7 9 ∈ tg_gG := tg_mem (List.mem_of_getElem? (i := 403) (by decide +kernel)) (by decide +kernel)
theorem wl_X7_10 : u_lay RX7 TX7 10 ∈ tg_gG := tg_mem (List.mem_of_getElem? (i := 405) (by decide +kernel)) (by decide +kernel)
theorem wl_X7_11 : u_lay RX7 TX7 11 ∈ tg_gG := tg_mem (List.mem_of_getElem? (i := 407) (by decide +kernel)) (by decide +kernel)
theorem wl_X7 : ∀ w ∈ u_ws RX7 TX7 12, w ∈ tg_gG := by
  intro w h
  obtain ⟨k, hk, rfl⟩ := List.mem_map.mp h
  have hk := List.mem_range.mp hk
  match k, hk with
  | 0, _ => exact wl_X7_0
  | 1, _ => exact wl_X7_1
  | 2, _ => exact wl_X7_2
  | 3, _ => exact wl_X7_3
  | 4, _ => exact wl_X7_4
  | 5, _ => exact wl_X7_5
  | 6, _ => exact wl_X7_6
  | 7, _ => exact wl_X7_7
  | 8, _ => exact wl_X7_8
  | 9, _ => exact wl_X7_9
  | 10, _ => exact wl_X7_10
  | 11, _ => exact wl_X7_11
  | j + 12, h => exact absurd h (by omega)
theorem cl_X7 : tg_Cl 7 RX7 TX7 12 tyX7 := ⟨rfl, wl_X7, tyX7_ok, nmX7⟩
theorem wl_X8_0 : u_lay RX8 TX8 0 ∈ tg_gG := tg_mem (List.mem_of_getElem? (i := 821) (by decide +kernel)) (by decide +kernel)
theorem wl_X8_1 : u_lay RX8 TX8 1 ∈ tg_gG := tg_mem (List.mem_of_getElem? (i := 823) (by decide +kernel)) (by decide +kernel)
theorem wl_X8_2 : u_lay RX8 TX8 2 ∈ tg_gG := tg_mem (List.mem_of_getElem? (i := 825) (by decide +kernel)) (by decide +kernel)
theorem wl_X8_3 : u_lay RX8 TX8 3 ∈ tg_gG := tg_mem (List.mem_of_getElem? (i := 827) (by decide +kernel)) (by decide +kernel)
theorem wl_X8_4 : u_lay RX8 TX8 4 ∈ tg_gG := tg_mem (List.mem_of_getElem? (i := 829) (by decide +kernel)) (by decide +kernel)
theorem wl_X8_5 : u_lay RX8 TX8 5 ∈ tg_gG := tg_mem (List.mem_of_getElem? (i := 831) (by decide +kernel)) (by decide +kernel)
theorem wl_X8_6 : u_lay RX8 TX8 6 ∈ tg_gG := tg_mem (List.mem_of_getElem? (i := 833) (by decide +kernel)) (by decide +kernel)
theorem wl_X8_7 : u_lay RX8 TX8 7 ∈ tg_gG := tg_mem (List.mem_of_getElem? (i := 835) (by decide +kernel)) (by decide +kernel)
theorem wl_X8_8 : u_lay RX8 TX8 8 ∈ tg_gG := tg_mem (List.mem_of_getElem? (i := 837) (by decide +kernel)) (by decide +kernel)
theorem wl_X8_9 : u_lay RX8 TX8 9 ∈ tg_gG := tg_mem (List.mem_of_getElem? (i := 839) (by decide +kernel)) (by decide +kernel)
theorem wl_X8_10 : u_lay RX8 TX8 10 ∈ tg_gG := tg_mem (List.mem_of_getElem? (i := 841) (by decide +kernel)) (by decide +kernel)
theorem wl_X8_11 : u_lay RX8 TX8 11 ∈ tg_gG := tg_mem (List.mem_of_getElem? (i := 843) (by decide +kernel)) (by decide +kernel)
theorem wl_X8_12 : u_lay RX8 TX8 12 ∈ tg_gG := tg_mem (List.mem_of_getElem? (i := 845) (by decide +kernel)) (by decide +kernel)
theorem wl_X8_13 : u_lay RX8 TX8 13 ∈ tg_gG := tg_mem (List.mem_of_getElem? (i := 847) (by decide +kernel)) (by decide +kernel)
theorem wl_X8_14 : u_lay RX8 TX8 14 ∈ tg_gG := tg_mem (List.mem_of_getElem? (i := 849) (by decide +kernel)) (by decide +kernel)
theorem wl_X8_15 : u_lay RX8 TX8 15 ∈ tg_gG := tg_mem (List.mem_of_getElem? (i := 851) (by decide +kernel)) (by decide +kernel)
theorem wl_X8_16 : u_lay RX8 TX8 16 ∈ tg_gG := tg_mem (List.mem_of_getElem? (i := 853) (by decide +kernel)) (by decide +kernel)
theorem wl_X8_17 : u_lay RX8 TX8 17 ∈ tg_gG := tg_mem (List.mem_of_getElem? (i := 855) (by decide +kernel)) (by decide +kernel)
theorem wl_X8_18 : u_lay RX8 TX8 18 ∈ tg_gG := tg_mem (List.mem_of_getElem? (i := 857) (by decide +kernel)) (by decide +kernel)
theorem wl_X8_19 : u_lay RX8 TX8 19 ∈ tg_gG := tg_mem (List.mem_of_getElem? (i := 859) (by decide +kernel)) (by decide +kernel)
theorem wl_X8_20 : u_lay RX8 TX8 20 ∈ tg_gG := tg_mem (List.mem_of_getElem? (i := 861) (by decide +kernel)) (by decide +kernel)
theorem wl_X8_21 : u_lay RX8 TX8 21 ∈ tg_gG := tg_mem (List.mem_of_getElem? (i := 863) (by decide +kernel)) (by decide +kernel)
theorem wl_X8_22 : u_lay RX8 TX8 22 ∈ tg_gG := tg_mem (List.mem_of_getElem? (i := 865) (by decide +kernel)) (by decide +kernel)
theorem wl_X8_23 : u_lay RX8 TX8 23 ∈ tg_gG := tg_mem (List.mem_of_getElem? (i := 867) (by decide +kernel)) (by decide +kernel)
theorem wl_X8_24 : u_lay RX8 TX8 24 ∈ tg_gG := tg_mem (List.mem_of_getElem? (i := 869) (by decide +kernel)) (by decide +kernel)
theorem wl_X8_25 : u_lay RX8 TX8 25 ∈ tg_gG := tg_mem (List.mem_of_getElem? (i := 871) (by decide +kernel)) (by decide +kernel)
theorem wl_X8_26 : u_lay RX8 TX8 26 ∈ tg_gG := tg_mem (List.mem_of_getElem? (i := 873) (by decide +kernel)) (by decide +kernel)
theorem wl_X8_27 : u_lay RX8 TX8 27 ∈ tg_gG := tg_mem (List.mem_of_getElem? (i := 875) (by decide +kernel)) (by decide +kernel)
theorem wl_X8_28 : u_lay RX8 TX8 28 ∈ tg_gG := tg_mem (List.mem_of_getElem? (i := 877) (by decide +kernel)) (by decide +kernel)
theorem wl_X8_29 : u_lay RX8 TX8 29 ∈ tg_gG := tg_mem (List.mem_of_getElem? (i := 879) (by decide +kernel)) (by decide +kernel)
theorem wl_X8_30 : u_lay RX8 TX8 30 ∈ tg_gG := tg_mem (List.mem_of_getElem? (i := 881) (by decide +kernel)) (by decide +kernel)
theorem wl_X8_31 : u_lay RX8 TX8 31 ∈ tg_gG := tg_mem (List.mem_of_getElem? (i := 883) (by decide +kernel)) (by decide +kernel)
theorem wl_X8_32 : u_lay RX8 TX8 32 ∈ tg_gG := tg_mem (List.mem_of_getElem? (i := 885) (by decide +kernel)) (by decide +kernel)
theorem wl_X8_33 : u_lay RX8 TX8 33 ∈ tg_gG := tg_mem (List.mem_of_getElem? (i := 887) (by decide +kernel)) (by decide +kernel)
theorem wl_X8_34 : u_lay RX8 TX8 34 ∈ tg_gG := tg_mem (List.mem_of_getElem? (i := 889) (by decide +kernel)) (by decide +kernel)
theorem wl_X8_35 : u_lay RX8 TX8 35 ∈ tg_gG := tg_mem (List.mem_of_getElem? (i := 891) (by decide +kernel)) (by decide +kernel)
theorem wl_X8_36 : u_lay RX8 TX8 36 ∈ tg_gG := tg_mem (List.mem_of_getElem? (i := 893) (by decide +kernel)) (by decide +kernel)
theorem wl_X8_37 : u_lay RX8 TX8 37 ∈ tg_gG := tg_mem (List.mem_of_getElem? (i := 895) (by decide +kernel)) (by decide +kernel)
theorem wl_X8_38 : u_lay RX8 TX8 38 ∈ tg_gG := tg_mem (List.mem_of_getElem? (i := 897) (by decide +kernel)) (by decide +kernel)
theorem wl_X8_39 : u_lay RX8 TX8 39 ∈ tg_gG := tg_mem (List.mem_of_getElem? (i := 899) (by decide +kernel)) (by decide +kernel)
theorem wl_X8_40 : u_lay RX8 TX8 40 ∈ tg_gG := tg_mem (List.mem_of_getElem? (i := 901) (by decide +kernel)) (by decide +kernel)
theorem wl_X8_41 : u_lay RX8 TX8 41 ∈ tg_gG := tg_mem (List.mem_of_getElem? (i := 903) (by decide +kernel)) (by decide +kernel)
theorem wl_X8_42 : u_lay RX8 TX8 42 ∈ tg_gG := tg_mem (List.mem_of_getElem? (i := 905) (by decide +kernel)) (by decide +kernel)
theorem wl_X8_43 : u_lay RX8 TX8 43 ∈ tg_gG := tg_mem (List.mem_of_getElem? (i := 907) (by decide +kernel)) (by decide +kernel)
theorem wl_X8_44 : u_lay RX8 TX8 44 ∈ tg_gG := tg_mem (List.mem_of_getElem? (i := 909) (by decide +kernel)) (by decide +kernel)
theorem wl_X8_45 : u_lay RX8 TX8 45 ∈ tg_gG := tg_mem (List.mem_of_getElem? (i := 911) (by decide +kernel)) (by decide +kernel)
theorem wl_X8_46 : u_lay RX8 TX8 46 ∈ tg_gG := tg_mem (List.mem_of_getElem? (i := 913) (by decide +kernel)) (by decide +kernel)
theorem wl_X8 : ∀ w ∈ u_ws RX8 TX8 47, w ∈ tg_gG := by
  intro w h
  obtain ⟨k, hk, rfl⟩ := List.mem_map.mp h
  have hk := List.mem_range.mp hk
  match k, hk with
  | 0, _ => exact wl_X8_0
  | 1, _ => exact wl_X8_1
  | 2, _ => exact wl_X8_2
  | 3, _ => exact wl_X8_3
  | 4, _ => exact wl_X8_4
  | 5, _ => exact wl_X8_5
  | 6, _ => exact wl_X8_6
  | 7, _ => exact wl_X8_7
  | 8, _ => exact wl_X8_8
  | 9, _ => exact wl_X8_9
  | 10, _ => exact wl_X8_10
  | 11, _ => exact wl_X8_11
  | 12, _ => exact wl_X8_12
  | 13, _ => exact wl_X8_13
  | 14, _ => exact wl_X8_14
  | 15, _ => exact wl_X8_15
  | 16, _ => exact wl_X8_16
  | 17, _ => exact wl_X8_17
  | 18, _ => exact wl_X8_18
  | 19, _ => exact wl_X8_19
  | 20, _ => exact wl_X8_20
  | 21, _ => exact wl_X8_21
  | 22, _ => exact wl_X8_22
  | 23, _ => exact wl_X8_23
  | 24, _ => exact wl_X8_24
  | 25, _ => exact wl_X8_25
  | 26, _ => exact wl_X8_26
  | 27, _ => exact wl_X8_27
  | 28, _ => exact wl_X8_28
  | 29, _ => exact wl_X8_29
  | 30, _ => exact wl_X8_30
  | 31, _ => exact wl_X8_31
  | 32, _ => exact wl_X8_32
  | 33, _ => exact wl_X8_33
  | 34, _ => exact wl_X8_34
  | 35, _ => exact wl_X8_35
  | 36, _ => exact wl_X8_36
  | 37, _ => exact wl_X8_37
  | 38, _ => exact wl_X8_38
  | 39, _ => exact wl_X8_39
  | 40, _ => exact wl_X8_40
  | 41, _ => exact wl_X8_41
  | 42, _ => exact wl_X8_42
  | 43, _ => exact wl_X8_43
  | 44, _ => exact wl_X8_44
  | 45, _ => exact wl_X8_45
  | 46, _ => exact wl_X8_46
  | j + 47, h => exact absurd h (by omega)
theorem cl_X8 : tg_Cl 8 RX8 TX8 47 tyX8 := ⟨rfl, wl_X8, tyX8_ok, nmX8⟩
theorem tk_im1 : Int32.ofInt (-1) = (-1 : Int32) := by decide +kernel
theorem tk_i0 : Int32.ofInt (0) = (0 : Int32) := by decide +kernel
theorem tk_i1 : Int32.ofInt (1) = (1 : Int32) := by decide +kernel
theorem tk_b60 : (Int8.ofInt (60)).toInt32 = (60 : Int32) := by decide +kernel
theorem tk_i2 : Int32.ofInt (2) = (2 : Int32) := by decide +kernel
theorem tk_i3 : Int32.ofInt (3) = (3 : Int32) := by decide +kernel
theorem tk_b24 : (Int8.ofInt (24)).toInt32 = (24 : Int32) := by decide +kernel
theorem tk_b31 : (Int8.ofInt (31)).toInt32 = (31 : Int32) := by decide +kernel
theorem tk_i4 : Int32.ofInt (4) = (4 : Int32) := by decide +kernel
theorem tk_b104 : (Int8.ofInt (104)).toInt32 = (104 : Int32) := by decide +kernel
theorem tk_b108 : (Int8.ofInt (108)).toInt32 = (108 : Int32) := by decide +kernel
theorem tk_b97 : (Int8.ofInt (97)).toInt32 = (97 : Int32) := by decide +kernel
theorem tk_b59 : (Int8.ofInt (59)).toInt32 = (59 : Int32) := by decide +kernel
theorem tk_b49 : (Int8.ofInt (49)).toInt32 = (49 : Int32) := by decide +kernel
theorem tk_b57 : (Int8.ofInt (57)).toInt32 = (57 : Int32) := by decide +kernel
theorem tk_b8 : (Int8.ofInt (8)).toInt32 = (8 : Int32) := by decide +kernel
theorem tk_b48 : (Int8.ofInt (48)).toInt32 = (48 : Int32) := by decide +kernel
theorem tk_b9 : (Int8.ofInt (9)).toInt32 = (9 : Int32) := by decide +kernel
theorem tk_bm3 : (Int8.ofInt (-3)).toInt32 = (-3 : Int32) := by decide +kernel
theorem tk_b22 : (Int8.ofInt (22)).toInt32 = (22 : Int32) := by decide +kernel
theorem tk_b16 : (Int8.ofInt (16)).toInt32 = (16 : Int32) := by decide +kernel
theorem tk_b12 : (Int8.ofInt (12)).toInt32 = (12 : Int32) := by decide +kernel
theorem tk_bm2 : (Int8.ofInt (-2)).toInt32 = (-2 : Int32) := by decide +kernel
theorem tk_s256 : (Int16.ofInt (256)).toInt32 = (256 : Int32) := by decide +kernel
theorem tk_bm4 : (Int8.ofInt (-4)).toInt32 = (-4 : Int32) := by decide +kernel
theorem tk_b10 : (Int8.ofInt (10)).toInt32 = (10 : Int32) := by decide +kernel
theorem tk_bm10 : (Int8.ofInt (-10)).toInt32 = (-10 : Int32) := by decide +kernel
theorem tk_b23 : (Int8.ofInt (23)).toInt32 = (23 : Int32) := by decide +kernel
theorem tk_b25 : (Int8.ofInt (25)).toInt32 = (25 : Int32) := by decide +kernel
theorem tk_b17 : (Int8.ofInt (17)).toInt32 = (17 : Int32) := by decide +kernel
theorem tk_s12345 : (Int16.ofInt (12345)).toInt32 = (12345 : Int32) := by decide +kernel
theorem tk_i5 : Int32.ofInt (5) = (5 : Int32) := by decide +kernel
theorem tk_b7 : (Int8.ofInt (7)).toInt32 = (7 : Int32) := by decide +kernel
theorem tk_b18 : (Int8.ofInt (18)).toInt32 = (18 : Int32) := by decide +kernel
theorem tk_s255 : (Int16.ofInt (255)).toInt32 = (255 : Int32) := by decide +kernel
theorem tk_b114 : (Int8.ofInt (114)).toInt32 = (114 : Int32) := by decide +kernel
theorem tk_b112 : (Int8.ofInt (112)).toInt32 = (112 : Int32) := by decide +kernel
theorem tk_b15 : (Int8.ofInt (15)).toInt32 = (15 : Int32) := by decide +kernel
theorem wf_X0_21 : Cond.fieldLink RX0 21 (TX0 3).1 (TX0 3).2.1 (TX0 3).2.2.1 ∈ tg_gG := tg_mem (List.mem_of_getElem? (i := 283) (by decide +kernel)) (by decide +kernel)
theorem wf_X0_9 : Cond.fieldLink RX0 9 (TX0 0).1 (TX0 0).2.1 (TX0 0).2.2.1 ∈ tg_gG := tg_mem (List.mem_of_getElem? (i := 277) (by decide +kernel)) (by decide +kernel)
theorem wf_X0_15 : Cond.fieldLink RX0 15 (TX0 1).1 (TX0 1).2.1 (TX0 1).2.2.1 ∈ tg_gG := tg_mem (List.mem_of_getElem? (i := 279) (by decide +kernel)) (by decide +kernel)
theorem wf_X0_18 : Cond.fieldLink RX0 18 (TX0 2).1 (TX0 2).2.1 (TX0 2).2.2.1 ∈ tg_gG := tg_mem (List.mem_of_getElem? (i := 281) (by decide +kernel)) (by decide +kernel)
theorem wc_X0_startFor : Cond.code yX0_startFor cX0_startFor 2 none ∈ tg_gG := tg_mem (List.mem_of_getElem? (i := 562) (by decide +kernel)) (by decide +kernel)
theorem wi_X0 : Cond.initialized RX0 ∈ tg_gG := tg_mem (List.mem_of_getElem? (i := 82) (by decide +kernel)) (by decide +kernel)
theorem wv_X0_startFor : Cond.instanceMethod yX0_startFor ∈ tg_gG := tg_mem (List.mem_of_getElem? (i := 560) (by decide +kernel)) (by decide +kernel)
theorem ws_X0_startFor : Cond.selects yX0_startFor.cls yX0_startFor yX0_startFor ∈ tg_gG := tg_mem (List.mem_of_getElem? (i := 561) (by decide +kernel)) (by decide +kernel)
theorem wc_X0_offer : Cond.code yX0_offer cX0_offer 5 none ∈ tg_gG := tg_mem (List.mem_of_getElem? (i := 566) (by decide +kernel)) (by decide +kernel)
theorem wv_X0_offer : Cond.instanceMethod yX0_offer ∈ tg_gG := tg_mem (List.mem_of_getElem? (i := 564) (by decide +kernel)) (by decide +kernel)
theorem ws_X0_offer : Cond.selects yX0_offer.cls yX0_offer yX0_offer ∈ tg_gG := tg_mem (List.mem_of_getElem? (i := 565) (by decide +kernel)) (by decide +kernel)
theorem wf_X4_9 : Cond.fieldLink RX4 9 (TX4 0).1 (TX4 0).2.1 (TX4 0).2.2.1 ∈ tg_gG := tg_mem (List.mem_of_getElem? (i := 114) (by decide +kernel)) (by decide +kernel)
theorem wf_X4_18 : Cond.fieldLink RX4 18 (TX4 2).1 (TX4 2).2.1 (TX4 2).2.2.1 ∈ tg_gG := tg_mem (List.mem_of_getElem? (i := 116) (by decide +kernel)) (by decide +kernel)
theorem wf_X4_15 : Cond.fieldLink RX4 15 (TX4 1).1 (TX4 1).2.1 (TX4 1).2.2.1 ∈ tg_gG := tg_mem (List.mem_of_getElem? (i := 115) (by decide +kernel)) (by decide +kernel)
theorem wc_X4_append : Cond.code yX4_append cX4_append 3 (some .int) ∈ tg_gG := tg_mem (List.mem_of_getElem? (i := 606) (by decide +kernel)) (by decide +kernel)
theorem wi_X4 : Cond.initialized RX4 ∈ tg_gG := tg_mem (List.mem_of_getElem? (i := 77) (by decide +kernel)) (by decide +kernel)
theorem wv_X4_append : Cond.instanceMethod yX4_append ∈ tg_gG := tg_mem (List.mem_of_getElem? (i := 604) (by decide +kernel)) (by decide +kernel)
theorem ws_X4_append : Cond.selects yX4_append.cls yX4_append yX4_append ∈ tg_gG := tg_mem (List.mem_of_getElem? (i := 605) (by decide +kernel)) (by decide +kernel)
theorem wf_X4_22 : Cond.fieldLink RX4 22 (TX2 0).1 (TX2 0).2.1 (TX2 0).2.2.1 ∈ tg_gG := tg_mem (List.mem_of_getElem? (i := 227) (by decide +kernel)) (by decide +kernel)
theorem wc_X4_fit : Cond.code yX4_fit cX4_fit 3 (some .boolean) ∈ tg_gG := tg_mem (List.mem_of_getElem? (i := 618) (by decide +kernel)) (by decide +kernel)
theorem wv_X4_fit : Cond.instanceMethod yX4_fit ∈ tg_gG := tg_mem (List.mem_of_getElem? (i := 616) (by decide +kernel)) (by decide +kernel)
theorem ws_X4_fit : Cond.selects yX4_fit.cls yX4_fit yX4_fit ∈ tg_gG := tg_mem (List.mem_of_getElem? (i := 617) (by decide +kernel)) (by decide +kernel)
theorem wf_X5_18 : Cond.fieldLink RX5 18 (TX5 2).1 (TX5 2).2.1 (TX5 2).2.2.1 ∈ tg_gG := tg_mem (List.mem_of_getElem? (i := 133) (by decide +kernel)) (by decide +kernel)
theorem wc_X5_isLost : Cond.code yX5_isLost cX5_isLost 2 (some .boolean) ∈ tg_gG := tg_mem (List.mem_of_getElem? (i := 493) (by decide +kernel)) (by decide +kernel)
theorem wi_X5 : Cond.initialized RX5 ∈ tg_gG := tg_mem (List.mem_of_getElem? (i := 78) (by decide +kernel)) (by decide +kernel)
theorem wv_X5_isLost : Cond.instanceMethod yX5_isLost ∈ tg_gG := tg_mem (List.mem_of_getElem? (i := 491) (by decide +kernel)) (by decide +kernel)
theorem ws_X5_isLost : Cond.selects yX5_isLost.cls yX5_isLost yX5_isLost ∈ tg_gG := tg_mem (List.mem_of_getElem? (i := 492) (by decide +kernel)) (by decide +kernel)
theorem wc_X5_size : Cond.code yX5_size cX5_size 2 (some .int) ∈ tg_gG := tg_mem (List.mem_of_getElem? (i := 501) (by decide +kernel)) (by decide +kernel)
theorem wv_X5_size : Cond.instanceMethod yX5_size ∈ tg_gG := tg_mem (List.mem_of_getElem? (i := 499) (by decide +kernel)) (by decide +kernel)
theorem ws_X5_size : Cond.selects yX5_size.cls yX5_size yX5_size ∈ tg_gG := tg_mem (List.mem_of_getElem? (i := 500) (by decide +kernel)) (by decide +kernel)
theorem wf_X5_15 : Cond.fieldLink RX5 15 (TX5 1).1 (TX5 1).2.1 (TX5 1).2.2.1 ∈ tg_gG := tg_mem (List.mem_of_getElem? (i := 132) (by decide +kernel)) (by decide +kernel)
theorem wf_X5_9 : Cond.fieldLink RX5 9 (TX5 0).1 (TX5 0).2.1 (TX5 0).2.2.1 ∈ tg_gG := tg_mem (List.mem_of_getElem? (i := 131) (by decide +kernel)) (by decide +kernel)
theorem wc_X5_renew : Cond.code yX5_renew cX5_renew 5 none ∈ tg_gG := tg_mem (List.mem_of_getElem? (i := 669) (by decide +kernel)) (by decide +kernel)
theorem wv_X5_renew : Cond.instanceMethod yX5_renew ∈ tg_gG := tg_mem (List.mem_of_getElem? (i := 667) (by decide +kernel)) (by decide +kernel)
theorem ws_X5_renew : Cond.selects yX5_renew.cls yX5_renew yX5_renew ∈ tg_gG := tg_mem (List.mem_of_getElem? (i := 668) (by decide +kernel)) (by decide +kernel)
theorem wc_X5_drop : Cond.code yX5_drop cX5_drop 3 (some .int) ∈ tg_gG := tg_mem (List.mem_of_getElem? (i := 677) (by decide +kernel)) (by decide +kernel)
theorem wv_X5_drop : Cond.instanceMethod yX5_drop ∈ tg_gG := tg_mem (List.mem_of_getElem? (i := 675) (by decide +kernel)) (by decide +kernel)
theorem ws_X5_drop : Cond.selects yX5_drop.cls yX5_drop yX5_drop ∈ tg_gG := tg_mem (List.mem_of_getElem? (i := 676) (by decide +kernel)) (by decide +kernel)
theorem wc_X7_isBelow : Cond.code yX7_isBelow cX7_isBelow 2 (some .boolean) ∈ tg_gG := tg_mem (List.mem_of_getElem? (i := 416) (by decide +kernel)) (by decide +kernel)
theorem wi_X7 : Cond.initialized RX7 ∈ tg_gG := tg_mem (List.mem_of_getElem? (i := 75) (by decide +kernel)) (by decide +kernel)
theorem wt_X7_isBelow : Cond.static yX7_isBelow ∈ tg_gG := tg_mem (List.mem_of_getElem? (i := 415) (by decide +kernel)) (by decide +kernel)
theorem wm_X5_21 : Cond.methodLink RX5 21 yX5_isLost ∈ tg_gG := tg_mem (List.mem_of_getElem? (i := 686) (by decide +kernel)) (by decide +kernel)
theorem wc_X5_whatIsWrong : Cond.code yX5_whatIsWrong cX5_whatIsWrong 4 (some .int) ∈ tg_gG := tg_mem (List.mem_of_getElem? (i := 685) (by decide +kernel)) (by decide +kernel)
theorem wv_X5_whatIsWrong : Cond.instanceMethod yX5_whatIsWrong ∈ tg_gG := tg_mem (List.mem_of_getElem? (i := 683) (by decide +kernel)) (by decide +kernel)
theorem ws_X5_whatIsWrong : Cond.selects yX5_whatIsWrong.cls yX5_whatIsWrong yX5_whatIsWrong ∈ tg_gG := tg_mem (List.mem_of_getElem? (i := 684) (by decide +kernel)) (by decide +kernel)
theorem wc_X5_areAlike : Cond.code yX5_areAlike cX5_areAlike 3 (some .boolean) ∈ tg_gG := tg_mem (List.mem_of_getElem? (i := 704) (by decide +kernel)) (by decide +kernel)
theorem wv_X5_areAlike : Cond.instanceMethod yX5_areAlike ∈ tg_gG := tg_mem (List.mem_of_getElem? (i := 702) (by decide +kernel)) (by decide +kernel)
theorem ws_X5_areAlike : Cond.selects yX5_areAlike.cls yX5_areAlike yX5_areAlike ∈ tg_gG := tg_mem (List.mem_of_getElem? (i := 703) (by decide +kernel)) (by decide +kernel)
theorem wc_X5_holds : Cond.code yX5_holds cX5_holds 4 (some .boolean) ∈ tg_gG := tg_mem (List.mem_of_getElem? (i := 708) (by decide +kernel)) (by decide +kernel)
theorem wv_X5_holds : Cond.instanceMethod yX5_holds ∈ tg_gG := tg_mem (List.mem_of_getElem? (i := 706) (by decide +kernel)) (by decide +kernel)
theorem ws_X5_holds : Cond.selects yX5_holds.cls yX5_holds yX5_holds ∈ tg_gG := tg_mem (List.mem_of_getElem? (i := 707) (by decide +kernel)) (by decide +kernel)
theorem wc_X5_item : Cond.code yX5_item cX5_item 3 (some .int) ∈ tg_gG := tg_mem (List.mem_of_getElem? (i := 505) (by decide +kernel)) (by decide +kernel)
theorem wv_X5_item : Cond.instanceMethod yX5_item ∈ tg_gG := tg_mem (List.mem_of_getElem? (i := 503) (by decide +kernel)) (by decide +kernel)
theorem ws_X5_item : Cond.selects yX5_item.cls yX5_item yX5_item ∈ tg_gG := tg_mem (List.mem_of_getElem? (i := 504) (by decide +kernel)) (by decide +kernel)
theorem wc_X5_store : Cond.code yX5_store cX5_store 5 none ∈ tg_gG := tg_mem (List.mem_of_getElem? (i := 691) (by decide +kernel)) (by decide +kernel)
theorem wv_X5_store : Cond.instanceMethod yX5_store ∈ tg_gG := tg_mem (List.mem_of_getElem? (i := 689) (by decide +kernel)) (by decide +kernel)
theorem ws_X5_store : Cond.selects yX5_store.cls yX5_store yX5_store ∈ tg_gG := tg_mem (List.mem_of_getElem? (i := 690) (by decide +kernel)) (by decide +kernel)
theorem wm_X5_29 : Cond.methodLink RX5 29 arraycopyName ∈ tg_gG := tg_mem (List.mem_of_getElem? (i := 713) (by decide +kernel)) (by decide +kernel)
theorem wt_AC : Cond.static arraycopyName ∈ tg_gG := tg_mem (List.mem_of_getElem? (i := 341) (by decide +kernel)) (by decide +kernel)
theorem wi_Sys : Cond.initialized "java/lang/System" ∈ tg_gG := tg_mem (List.mem_of_getElem? (i := 83) (by decide +kernel)) (by decide +kernel)
theorem wn_AC : Cond.native arraycopyName ∈ tg_gG := tg_mem (List.mem_of_getElem? (i := 342) (by decide +kernel)) (by decide +kernel)
theorem wc_X5_move : Cond.code yX5_move cX5_move 6 none ∈ tg_gG := tg_mem (List.mem_of_getElem? (i := 712) (by decide +kernel)) (by decide +kernel)
theorem wv_X5_move : Cond.instanceMethod yX5_move ∈ tg_gG := tg_mem (List.mem_of_getElem? (i := 710) (by decide +kernel)) (by decide +kernel)
theorem ws_X5_move : Cond.selects yX5_move.cls yX5_move yX5_move ∈ tg_gG := tg_mem (List.mem_of_getElem? (i := 711) (by decide +kernel)) (by decide +kernel)
theorem wf_X6_15 : Cond.fieldLink RX6 15 (TX6 1).1 (TX6 1).2.1 (TX6 1).2.2.1 ∈ tg_gG := tg_mem (List.mem_of_getElem? (i := 101) (by decide +kernel)) (by decide +kernel)
theorem wc_X6_isFull : Cond.code yX6_isFull cX6_isFull 2 (some .boolean) ∈ tg_gG := tg_mem (List.mem_of_getElem? (i := 420) (by decide +kernel)) (by decide +kernel)
theorem wi_X6 : Cond.initialized RX6 ∈ tg_gG := tg_mem (List.mem_of_getElem? (i := 76) (by decide +kernel)) (by decide +kernel)
theorem wv_X6_isFull : Cond.instanceMethod yX6_isFull ∈ tg_gG := tg_mem (List.mem_of_getElem? (i := 418) (by decide +kernel)) (by decide +kernel)
theorem ws_X6_isFull : Cond.selects yX6_isFull.cls yX6_isFull yX6_isFull ∈ tg_gG := tg_mem (List.mem_of_getElem? (i := 419) (by decide +kernel)) (by decide +kernel)
theorem wf_X6_9 : Cond.fieldLink RX6 9 (TX6 0).1 (TX6 0).2.1 (TX6 0).2.2.1 ∈ tg_gG := tg_mem (List.mem_of_getElem? (i := 100) (by decide +kernel)) (by decide +kernel)
theorem wc_X6_append : Cond.code yX6_append cX6_append 3 (some .int) ∈ tg_gG := tg_mem (List.mem_of_getElem? (i := 424) (by decide +kernel)) (by decide +kernel)
theorem wv_X6_append : Cond.instanceMethod yX6_append ∈ tg_gG := tg_mem (List.mem_of_getElem? (i := 422) (by decide +kernel)) (by decide +kernel)
theorem ws_X6_append : Cond.selects yX6_append.cls yX6_append yX6_append ∈ tg_gG := tg_mem (List.mem_of_getElem? (i := 423) (by decide +kernel)) (by decide +kernel)
theorem wc_X6_clear : Cond.code yX6_clear cX6_clear 3 (some .int) ∈ tg_gG := tg_mem (List.mem_of_getElem? (i := 432) (by decide +kernel)) (by decide +kernel)
theorem wv_X6_clear : Cond.instanceMethod yX6_clear ∈ tg_gG := tg_mem (List.mem_of_getElem? (i := 430) (by decide +kernel)) (by decide +kernel)
theorem ws_X6_clear : Cond.selects yX6_clear.cls yX6_clear yX6_clear ∈ tg_gG := tg_mem (List.mem_of_getElem? (i := 431) (by decide +kernel)) (by decide +kernel)
theorem wc_X6_cutLast : Cond.code yX6_cutLast cX6_cutLast 2 (some .int) ∈ tg_gG := tg_mem (List.mem_of_getElem? (i := 444) (by decide +kernel)) (by decide +kernel)
theorem wv_X6_cutLast : Cond.instanceMethod yX6_cutLast ∈ tg_gG := tg_mem (List.mem_of_getElem? (i := 442) (by decide +kernel)) (by decide +kernel)
theorem ws_X6_cutLast : Cond.selects yX6_cutLast.cls yX6_cutLast yX6_cutLast ∈ tg_gG := tg_mem (List.mem_of_getElem? (i := 443) (by decide +kernel)) (by decide +kernel)
theorem wc_X6_length : Cond.code yX6_length cX6_length 2 (some .int) ∈ tg_gG := tg_mem (List.mem_of_getElem? (i := 440) (by decide +kernel)) (by decide +kernel)
theorem wv_X6_length : Cond.instanceMethod yX6_length ∈ tg_gG := tg_mem (List.mem_of_getElem? (i := 438) (by decide +kernel)) (by decide +kernel)
theorem ws_X6_length : Cond.selects yX6_length.cls yX6_length yX6_length ∈ tg_gG := tg_mem (List.mem_of_getElem? (i := 439) (by decide +kernel)) (by decide +kernel)
theorem wc_X6_lengthOfAll : Cond.code yX6_lengthOfAll cX6_lengthOfAll 3 (some .int) ∈ tg_gG := tg_mem (List.mem_of_getElem? (i := 726) (by decide +kernel)) (by decide +kernel)
theorem wv_X6_lengthOfAll : Cond.instanceMethod yX6_lengthOfAll ∈ tg_gG := tg_mem (List.mem_of_getElem? (i := 724) (by decide +kernel)) (by decide +kernel)
theorem ws_X6_lengthOfAll : Cond.selects yX6_lengthOfAll.cls yX6_lengthOfAll yX6_lengthOfAll ∈ tg_gG := tg_mem (List.mem_of_getElem? (i := 725) (by decide +kernel)) (by decide +kernel)
theorem wc_X6_byteAt : Cond.code yX6_byteAt cX6_byteAt 3 (some .int) ∈ tg_gG := tg_mem (List.mem_of_getElem? (i := 316) (by decide +kernel)) (by decide +kernel)
theorem wv_X6_byteAt : Cond.instanceMethod yX6_byteAt ∈ tg_gG := tg_mem (List.mem_of_getElem? (i := 314) (by decide +kernel)) (by decide +kernel)
theorem ws_X6_byteAt : Cond.selects yX6_byteAt.cls yX6_byteAt yX6_byteAt ∈ tg_gG := tg_mem (List.mem_of_getElem? (i := 315) (by decide +kernel)) (by decide +kernel)
theorem wc_X6_callOf : Cond.code yX6_callOf cX6_callOf 1 (some .int) ∈ tg_gG := tg_mem (List.mem_of_getElem? (i := 322) (by decide +kernel)) (by decide +kernel)
theorem wt_X6_callOf : Cond.static yX6_callOf ∈ tg_gG := tg_mem (List.mem_of_getElem? (i := 321) (by decide +kernel)) (by decide +kernel)
theorem wc_X6_teamGoesOn : Cond.code yX6_teamGoesOn cX6_teamGoesOn 2 (some .boolean) ∈ tg_gG := tg_mem (List.mem_of_getElem? (i := 319) (by decide +kernel)) (by decide +kernel)
theorem wt_X6_teamGoesOn : Cond.static yX6_teamGoesOn ∈ tg_gG := tg_mem (List.mem_of_getElem? (i := 318) (by decide +kernel)) (by decide +kernel)
theorem wm_X6_22 : Cond.methodLink RX6 22 yX6_byteAt ∈ tg_gG := tg_mem (List.mem_of_getElem? (i := 313) (by decide +kernel)) (by decide +kernel)
theorem wm_X6_30 : Cond.methodLink RX6 30 yX6_callOf ∈ tg_gG := tg_mem (List.mem_of_getElem? (i := 320) (by decide +kernel)) (by decide +kernel)
theorem wm_X6_26 : Cond.methodLink RX6 26 yX6_teamGoesOn ∈ tg_gG := tg_mem (List.mem_of_getElem? (i := 317) (by decide +kernel)) (by decide +kernel)
theorem wc_X6_firstFault : Cond.code yX6_firstFault cX6_firstFault 5 (some .int) ∈ tg_gG := tg_mem (List.mem_of_getElem? (i := 312) (by decide +kernel)) (by decide +kernel)
theorem wv_X6_firstFault : Cond.instanceMethod yX6_firstFault ∈ tg_gG := tg_mem (List.mem_of_getElem? (i := 310) (by decide +kernel)) (by decide +kernel)
theorem ws_X6_firstFault : Cond.selects yX6_firstFault.cls yX6_firstFault yX6_firstFault ∈ tg_gG := tg_mem (List.mem_of_getElem? (i := 311) (by decide +kernel)) (by decide +kernel)
theorem wm_X6_18 : Cond.methodLink RX6 18 yX6_firstFault ∈ tg_gG := tg_mem (List.mem_of_getElem? (i := 309) (by decide +kernel)) (by decide +kernel)
theorem wc_X6_soundLength : Cond.code yX6_soundLength cX6_soundLength 2 (some .int) ∈ tg_gG := tg_mem (List.mem_of_getElem? (i := 308) (by decide +kernel)) (by decide +kernel)
theorem wv_X6_soundLength : Cond.instanceMethod yX6_soundLength ∈ tg_gG := tg_mem (List.mem_of_getElem? (i := 306) (by decide +kernel)) (by decide +kernel)
theorem ws_X6_soundLength : Cond.selects yX6_soundLength.cls yX6_soundLength yX6_soundLength ∈ tg_gG := tg_mem (List.mem_of_getElem? (i := 307) (by decide +kernel)) (by decide +kernel)
theorem wc_X6_sortOf : Cond.code yX6_sortOf cX6_sortOf 1 (some .int) ∈ tg_gG := tg_mem (List.mem_of_getElem? (i := 326) (by decide +kernel)) (by decide +kernel)
theorem wt_X6_sortOf : Cond.static yX6_sortOf ∈ tg_gG := tg_mem (List.mem_of_getElem? (i := 325) (by decide +kernel)) (by decide +kernel)
theorem wm_X1_52 : Cond.methodLink RX1 52 yX6_soundLength ∈ tg_gG := tg_mem (List.mem_of_getElem? (i := 305) (by decide +kernel)) (by decide +kernel)
theorem wf_X1_31 : Cond.fieldLink RX1 31 (TX1 6).1 (TX1 6).2.1 (TX1 6).2.2.1 ∈ tg_gG := tg_mem (List.mem_of_getElem? (i := 192) (by decide +kernel)) (by decide +kernel)
theorem wm_X1_58 : Cond.methodLink RX1 58 yX6_byteAt ∈ tg_gG := tg_mem (List.mem_of_getElem? (i := 323) (by decide +kernel)) (by decide +kernel)
theorem wm_X1_65 : Cond.methodLink RX1 65 yX6_callOf ∈ tg_gG := tg_mem (List.mem_of_getElem? (i := 331) (by decide +kernel)) (by decide +kernel)
theorem wc_X1_takeCalls : Cond.code yX1_takeCalls cX1_takeCalls 6 none ∈ tg_gG := tg_mem (List.mem_of_getElem? (i := 330) (by decide +kernel)) (by decide +kernel)
theorem wi_X1 : Cond.initialized RX1 ∈ tg_gG := tg_mem (List.mem_of_getElem? (i := 79) (by decide +kernel)) (by decide +kernel)
theorem wv_X1_takeCalls : Cond.instanceMethod yX1_takeCalls ∈ tg_gG := tg_mem (List.mem_of_getElem? (i := 329) (by decide +kernel)) (by decide +kernel)
theorem ws_X1_takeCalls : Cond.selects yX1_takeCalls.cls yX1_takeCalls yX1_takeCalls ∈ tg_gG := tg_mem (List.mem_of_getElem? (i := 2) (by decide +kernel)) (by decide +kernel)
theorem wf_X1_25 : Cond.fieldLink RX1 25 (TX1 4).1 (TX1 4).2.1 (TX1 4).2.2.1 ∈ tg_gG := tg_mem (List.mem_of_getElem? (i := 187) (by decide +kernel)) (by decide +kernel)
theorem wf_X1_28 : Cond.fieldLink RX1 28 (TX1 5).1 (TX1 5).2.1 (TX1 5).2.2.1 ∈ tg_gG := tg_mem (List.mem_of_getElem? (i := 189) (by decide +kernel)) (by decide +kernel)
theorem wf_X1_9 : Cond.fieldLink RX1 9 (TX1 0).1 (TX1 0).2.1 (TX1 0).2.2.1 ∈ tg_gG := tg_mem (List.mem_of_getElem? (i := 175) (by decide +kernel)) (by decide +kernel)
theorem wf_X1_15 : Cond.fieldLink RX1 15 (TX1 1).1 (TX1 1).2.1 (TX1 1).2.2.1 ∈ tg_gG := tg_mem (List.mem_of_getElem? (i := 178) (by decide +kernel)) (by decide +kernel)
theorem wm_X1_62 : Cond.methodLink RX1 62 yX6_sortOf ∈ tg_gG := tg_mem (List.mem_of_getElem? (i := 324) (by decide +kernel)) (by decide +kernel)
theorem wf_X1_19 : Cond.fieldLink RX1 19 (TX1 2).1 (TX1 2).2.1 (TX1 2).2.2.1 ∈ tg_gG := tg_mem (List.mem_of_getElem? (i := 181) (by decide +kernel)) (by decide +kernel)
theorem wf_X1_22 : Cond.fieldLink RX1 22 (TX1 3).1 (TX1 3).2.1 (TX1 3).2.2.1 ∈ tg_gG := tg_mem (List.mem_of_getElem? (i := 184) (by decide +kernel)) (by decide +kernel)
theorem wc_X1_takeTeam : Cond.code yX1_takeTeam cX1_takeTeam 5 none ∈ tg_gG := tg_mem (List.mem_of_getElem? (i := 304) (by decide +kernel)) (by decide +kernel)
theorem wv_X1_takeTeam : Cond.instanceMethod yX1_takeTeam ∈ tg_gG := tg_mem (List.mem_of_getElem? (i := 303) (by decide +kernel)) (by decide +kernel)
theorem ws_X1_takeTeam : Cond.selects yX1_takeTeam.cls yX1_takeTeam yX1_takeTeam ∈ tg_gG := tg_mem (List.mem_of_getElem? (i := 1) (by decide +kernel)) (by decide +kernel)
theorem wm_X1_45 : Cond.methodLink RX1 45 yX1_takeTeam ∈ tg_gG := tg_mem (List.mem_of_getElem? (i := 301) (by decide +kernel)) (by decide +kernel)
theorem wm_X1_49 : Cond.methodLink RX1 49 yX1_takeCalls ∈ tg_gG := tg_mem (List.mem_of_getElem? (i := 327) (by decide +kernel)) (by decide +kernel)
theorem wc_X1_takeTexts : Cond.code yX1_takeTexts cX1_takeTexts 3 none ∈ tg_gG := tg_mem (List.mem_of_getElem? (i := 300) (by decide +kernel)) (by decide +kernel)
theorem wv_X1_takeTexts : Cond.instanceMethod yX1_takeTexts ∈ tg_gG := tg_mem (List.mem_of_getElem? (i := 298) (by decide +kernel)) (by decide +kernel)
theorem ws_X1_takeTexts : Cond.selects yX1_takeTexts.cls yX1_takeTexts yX1_takeTexts ∈ tg_gG := tg_mem (List.mem_of_getElem? (i := 299) (by decide +kernel)) (by decide +kernel)
theorem wf_X3_15 : Cond.fieldLink RX3 15 (TX3 1).1 (TX3 1).2.1 (TX3 1).2.2.1 ∈ tg_gG := tg_mem (List.mem_of_getElem? (i := 155) (by decide +kernel)) (by decide +kernel)
theorem wf_X3_25 : Cond.fieldLink RX3 25 (TX3 4).1 (TX3 4).2.1 (TX3 4).2.2.1 ∈ tg_gG := tg_mem (List.mem_of_getElem? (i := 161) (by decide +kernel)) (by decide +kernel)
theorem wc_X3_happens : Cond.code yX3_happens cX3_happens 3 (some .boolean) ∈ tg_gG := tg_mem (List.mem_of_getElem? (i := 350) (by decide +kernel)) (by decide +kernel)
theorem wi_X3 : Cond.initialized RX3 ∈ tg_gG := tg_mem (List.mem_of_getElem? (i := 80) (by decide +kernel)) (by decide +kernel)
theorem wv_X3_happens : Cond.instanceMethod yX3_happens ∈ tg_gG := tg_mem (List.mem_of_getElem? (i := 348) (by decide +kernel)) (by decide +kernel)
theorem ws_X3_happens : Cond.selects yX3_happens.cls yX3_happens yX3_happens ∈ tg_gG := tg_mem (List.mem_of_getElem? (i := 349) (by decide +kernel)) (by decide +kernel)
theorem wf_X2_43 : Cond.fieldLink RX2 43 (TX2 10).1 (TX2 10).2.1 (TX2 10).2.2.1 ∈ tg_gG := tg_mem (List.mem_of_getElem? (i := 244) (by decide +kernel)) (by decide +kernel)
theorem wf_X2_46 : Cond.fieldLink RX2 46 (TX2 11).1 (TX2 11).2.1 (TX2 11).2.2.1 ∈ tg_gG := tg_mem (List.mem_of_getElem? (i := 245) (by decide +kernel)) (by decide +kernel)
theorem wf_X2_84 : Cond.fieldLink RX2 84 (TX3 3).1 (TX3 3).2.1 (TX3 3).2.2.1 ∈ tg_gG := tg_mem (List.mem_of_getElem? (i := 159) (by decide +kernel)) (by decide +kernel)
theorem wm_X2_89 : Cond.methodLink RX2 89 yX3_happens ∈ tg_gG := tg_mem (List.mem_of_getElem? (i := 347) (by decide +kernel)) (by decide +kernel)
theorem wf_X2_93 : Cond.fieldLink RX2 93 (TX3 0).1 (TX3 0).2.1 (TX3 0).2.2.1 ∈ tg_gG := tg_mem (List.mem_of_getElem? (i := 154) (by decide +kernel)) (by decide +kernel)
theorem wf_X2_40 : Cond.fieldLink RX2 40 (TX2 9).1 (TX2 9).2.1 (TX2 9).2.2.1 ∈ tg_gG := tg_mem (List.mem_of_getElem? (i := 243) (by decide +kernel)) (by decide +kernel)
theorem wm_X2_99 : Cond.methodLink RX2 99 Lib.Math.min.name ∈ tg_gG := tg_mem (List.mem_of_getElem? (i := 351) (by decide +kernel)) (by decide +kernel)
theorem wt_Mmin : Cond.static Lib.Math.min.name ∈ tg_gG := tg_mem (List.mem_of_getElem? (i := 352) (by decide +kernel)) (by decide +kernel)
theorem wi_Math : Cond.initialized "java/lang/Math" ∈ tg_gG := tg_mem (List.mem_of_getElem? (i := 84) (by decide +kernel)) (by decide +kernel)
theorem wc_Mmin : Cond.code Lib.Math.min.name Lib.Math.min.code 2 (some .int) ∈ tg_gG := tg_mem (List.mem_of_getElem? (i := 353) (by decide +kernel)) (by decide +kernel)
theorem wf_X2_96 : Cond.fieldLink RX2 96 (TX3 2).1 (TX3 2).2.1 (TX3 2).2.2.1 ∈ tg_gG := tg_mem (List.mem_of_getElem? (i := 157) (by decide +kernel)) (by decide +kernel)
theorem wc_X2_meetEvents : Cond.code yX2_meetEvents cX2_meetEvents 5 none ∈ tg_gG := tg_mem (List.mem_of_getElem? (i := 346) (by decide +kernel)) (by decide +kernel)
theorem wi_X2 : Cond.initialized RX2 ∈ tg_gG := tg_mem (List.mem_of_getElem? (i := 81) (by decide +kernel)) (by decide +kernel)
theorem wv_X2_meetEvents : Cond.instanceMethod yX2_meetEvents ∈ tg_gG := tg_mem (List.mem_of_getElem? (i := 345) (by decide +kernel)) (by decide +kernel)
theorem ws_X2_meetEvents : Cond.selects yX2_meetEvents.cls yX2_meetEvents yX2_meetEvents ∈ tg_gG := tg_mem (List.mem_of_getElem? (i := 4) (by decide +kernel)) (by decide +kernel)
theorem wf_X2_37 : Cond.fieldLink RX2 37 (TX2 8).1 (TX2 8).2.1 (TX2 8).2.2.1 ∈ tg_gG := tg_mem (List.mem_of_getElem? (i := 242) (by decide +kernel)) (by decide +kernel)
theorem wm_X2_118 : Cond.methodLink RX2 118 Lib.Math.max.name ∈ tg_gG := tg_mem (List.mem_of_getElem? (i := 362) (by decide +kernel)) (by decide +kernel)
theorem wt_Mmax : Cond.static Lib.Math.max.name ∈ tg_gG := tg_mem (List.mem_of_getElem? (i := 363) (by decide +kernel)) (by decide +kernel)
theorem wc_Mmax : Cond.code Lib.Math.max.name Lib.Math.max.code 2 (some .int) ∈ tg_gG := tg_mem (List.mem_of_getElem? (i := 364) (by decide +kernel)) (by decide +kernel)
theorem wf_X2_27 : Cond.fieldLink RX2 27 (TX2 5).1 (TX2 5).2.1 (TX2 5).2.2.1 ∈ tg_gG := tg_mem (List.mem_of_getElem? (i := 237) (by decide +kernel)) (by decide +kernel)
theorem wf_X2_31 : Cond.fieldLink RX2 31 (TX2 6).1 (TX2 6).2.1 (TX2 6).2.2.1 ∈ tg_gG := tg_mem (List.mem_of_getElem? (i := 239) (by decide +kernel)) (by decide +kernel)
theorem wc_X2_moveRope : Cond.code yX2_moveRope cX2_moveRope 3 none ∈ tg_gG := tg_mem (List.mem_of_getElem? (i := 368) (by decide +kernel)) (by decide +kernel)
theorem wv_X2_moveRope : Cond.instanceMethod yX2_moveRope ∈ tg_gG := tg_mem (List.mem_of_getElem? (i := 367) (by decide +kernel)) (by decide +kernel)
theorem ws_X2_moveRope : Cond.selects yX2_moveRope.cls yX2_moveRope yX2_moveRope ∈ tg_gG := tg_mem (List.mem_of_getElem? (i := 7) (by decide +kernel)) (by decide +kernel)
theorem wf_X2_115 : Cond.fieldLink RX2 115 (TX1 1).1 (TX1 1).2.1 (TX1 1).2.2.1 ∈ tg_gG := tg_mem (List.mem_of_getElem? (i := 179) (by decide +kernel)) (by decide +kernel)
theorem wf_X2_121 : Cond.fieldLink RX2 121 (TX1 5).1 (TX1 5).2.1 (TX1 5).2.2.1 ∈ tg_gG := tg_mem (List.mem_of_getElem? (i := 190) (by decide +kernel)) (by decide +kernel)
theorem wf_X2_124 : Cond.fieldLink RX2 124 (TX1 2).1 (TX1 2).2.1 (TX1 2).2.2.1 ∈ tg_gG := tg_mem (List.mem_of_getElem? (i := 182) (by decide +kernel)) (by decide +kernel)
theorem wf_X2_34 : Cond.fieldLink RX2 34 (TX2 7).1 (TX2 7).2.1 (TX2 7).2.2.1 ∈ tg_gG := tg_mem (List.mem_of_getElem? (i := 241) (by decide +kernel)) (by decide +kernel)
theorem wf_X2_55 : Cond.fieldLink RX2 55 (TX1 3).1 (TX1 3).2.1 (TX1 3).2.2.1 ∈ tg_gG := tg_mem (List.mem_of_getElem? (i := 185) (by decide +kernel)) (by decide +kernel)
theorem wc_X2_forceOf : Cond.code yX2_forceOf cX2_forceOf 8 (some .int) ∈ tg_gG := tg_mem (List.mem_of_getElem? (i := 361) (by decide +kernel)) (by decide +kernel)
theorem wv_X2_forceOf : Cond.instanceMethod yX2_forceOf ∈ tg_gG := tg_mem (List.mem_of_getElem? (i := 360) (by decide +kernel)) (by decide +kernel)
theorem ws_X2_forceOf : Cond.selects yX2_forceOf.cls yX2_forceOf yX2_forceOf ∈ tg_gG := tg_mem (List.mem_of_getElem? (i := 6) (by decide +kernel)) (by decide +kernel)
theorem wf_X2_105 : Cond.fieldLink RX2 105 (TX1 6).1 (TX1 6).2.1 (TX1 6).2.2.1 ∈ tg_gG := tg_mem (List.mem_of_getElem? (i := 193) (by decide +kernel)) (by decide +kernel)
theorem wf_X2_108 : Cond.fieldLink RX2 108 (TX1 0).1 (TX1 0).2.1 (TX1 0).2.2.1 ∈ tg_gG := tg_mem (List.mem_of_getElem? (i := 176) (by decide +kernel)) (by decide +kernel)
theorem wm_X2_112 : Cond.methodLink RX2 112 yX2_forceOf ∈ tg_gG := tg_mem (List.mem_of_getElem? (i := 358) (by decide +kernel)) (by decide +kernel)
theorem wf_X2_21 : Cond.fieldLink RX2 21 (TX2 3).1 (TX2 3).2.1 (TX2 3).2.2.1 ∈ tg_gG := tg_mem (List.mem_of_getElem? (i := 233) (by decide +kernel)) (by decide +kernel)
theorem wf_X2_24 : Cond.fieldLink RX2 24 (TX2 4).1 (TX2 4).2.1 (TX2 4).2.2.1 ∈ tg_gG := tg_mem (List.mem_of_getElem? (i := 235) (by decide +kernel)) (by decide +kernel)
theorem wc_X2_pullOfTeam : Cond.code yX2_pullOfTeam cX2_pullOfTeam 10 (some .int) ∈ tg_gG := tg_mem (List.mem_of_getElem? (i := 357) (by decide +kernel)) (by decide +kernel)
theorem wv_X2_pullOfTeam : Cond.instanceMethod yX2_pullOfTeam ∈ tg_gG := tg_mem (List.mem_of_getElem? (i := 356) (by decide +kernel)) (by decide +kernel)
theorem ws_X2_pullOfTeam : Cond.selects yX2_pullOfTeam.cls yX2_pullOfTeam yX2_pullOfTeam ∈ tg_gG := tg_mem (List.mem_of_getElem? (i := 5) (by decide +kernel)) (by decide +kernel)
theorem wc_X2_standStill : Cond.code yX2_standStill cX2_standStill 3 none ∈ tg_gG := tg_mem (List.mem_of_getElem? (i := 372) (by decide +kernel)) (by decide +kernel)
theorem wv_X2_standStill : Cond.instanceMethod yX2_standStill ∈ tg_gG := tg_mem (List.mem_of_getElem? (i := 371) (by decide +kernel)) (by decide +kernel)
theorem ws_X2_standStill : Cond.selects yX2_standStill.cls yX2_standStill yX2_standStill ∈ tg_gG := tg_mem (List.mem_of_getElem? (i := 8) (by decide +kernel)) (by decide +kernel)
theorem wf_X2_50 : Cond.fieldLink RX2 50 (TX1 8).1 (TX1 8).2.1 (TX1 8).2.2.1 ∈ tg_gG := tg_mem (List.mem_of_getElem? (i := 199) (by decide +kernel)) (by decide +kernel)
theorem wm_X2_58 : Cond.methodLink RX2 58 arraycopyName ∈ tg_gG := tg_mem (List.mem_of_getElem? (i := 340) (by decide +kernel)) (by decide +kernel)
theorem wf_X2_64 : Cond.fieldLink RX2 64 (TX1 7).1 (TX1 7).2.1 (TX1 7).2.2.1 ∈ tg_gG := tg_mem (List.mem_of_getElem? (i := 196) (by decide +kernel)) (by decide +kernel)
theorem wm_X2_68 : Cond.methodLink RX2 68 yX2_meetEvents ∈ tg_gG := tg_mem (List.mem_of_getElem? (i := 343) (by decide +kernel)) (by decide +kernel)
theorem wm_X2_72 : Cond.methodLink RX2 72 yX2_pullOfTeam ∈ tg_gG := tg_mem (List.mem_of_getElem? (i := 354) (by decide +kernel)) (by decide +kernel)
theorem wm_X2_80 : Cond.methodLink RX2 80 yX2_standStill ∈ tg_gG := tg_mem (List.mem_of_getElem? (i := 369) (by decide +kernel)) (by decide +kernel)
theorem wm_X2_76 : Cond.methodLink RX2 76 yX2_moveRope ∈ tg_gG := tg_mem (List.mem_of_getElem? (i := 365) (by decide +kernel)) (by decide +kernel)
theorem wf_X2_9 : Cond.fieldLink RX2 9 (TX2 0).1 (TX2 0).2.1 (TX2 0).2.2.1 ∈ tg_gG := tg_mem (List.mem_of_getElem? (i := 226) (by decide +kernel)) (by decide +kernel)
theorem wf_X2_15 : Cond.fieldLink RX2 15 (TX2 1).1 (TX2 1).2.1 (TX2 1).2.2.1 ∈ tg_gG := tg_mem (List.mem_of_getElem? (i := 229) (by decide +kernel)) (by decide +kernel)
theorem wf_X2_18 : Cond.fieldLink RX2 18 (TX2 2).1 (TX2 2).2.1 (TX2 2).2.2.1 ∈ tg_gG := tg_mem (List.mem_of_getElem? (i := 231) (by decide +kernel)) (by decide +kernel)
theorem wc_X2_play : Cond.code yX2_play cX2_play 6 (some .int) ∈ tg_gG := tg_mem (List.mem_of_getElem? (i := 339) (by decide +kernel)) (by decide +kernel)
theorem wv_X2_play : Cond.instanceMethod yX2_play ∈ tg_gG := tg_mem (List.mem_of_getElem? (i := 337) (by decide +kernel)) (by decide +kernel)
theorem ws_X2_play : Cond.selects yX2_play.cls yX2_play yX2_play ∈ tg_gG := tg_mem (List.mem_of_getElem? (i := 338) (by decide +kernel)) (by decide +kernel)
theorem wf_X7_44 : Cond.fieldLink RX7 44 (TX7 5).1 (TX7 5).2.1 (TX7 5).2.2.1 ∈ tg_gG := tg_mem (List.mem_of_getElem? (i := 378) (by decide +kernel)) (by decide +kernel)
theorem wf_X7_37 : Cond.fieldLink RX7 37 (TX7 4).1 (TX7 4).2.1 (TX7 4).2.2.1 ∈ tg_gG := tg_mem (List.mem_of_getElem? (i := 377) (by decide +kernel)) (by decide +kernel)
theorem wm_X7_198 : Cond.methodLink RX7 198 yX2_play ∈ tg_gG := tg_mem (List.mem_of_getElem? (i := 336) (by decide +kernel)) (by decide +kernel)
theorem wf_X7_68 : Cond.fieldLink RX7 68 (TX7 11).1 (TX7 11).2.1 (TX7 11).2.2.1 ∈ tg_gG := tg_mem (List.mem_of_getElem? (i := 384) (by decide +kernel)) (by decide +kernel)
theorem wc_X7_playTold : Cond.code yX7_playTold cX7_playTold 1 none ∈ tg_gG := tg_mem (List.mem_of_getElem? (i := 335) (by decide +kernel)) (by decide +kernel)
theorem wv_X7_playTold : Cond.instanceMethod yX7_playTold ∈ tg_gG := tg_mem (List.mem_of_getElem? (i := 334) (by decide +kernel)) (by decide +kernel)
theorem ws_X7_playTold : Cond.selects yX7_playTold.cls yX7_playTold yX7_playTold ∈ tg_gG := tg_mem (List.mem_of_getElem? (i := 3) (by decide +kernel)) (by decide +kernel)
theorem wf_X7_10 : Cond.fieldLink RX7 10 (TX7 0).1 (TX7 0).2.1 (TX7 0).2.2.1 ∈ tg_gG := tg_mem (List.mem_of_getElem? (i := 373) (by decide +kernel)) (by decide +kernel)
theorem wm_X7_369 : Cond.methodLink RX7 369 yX1_takeTexts ∈ tg_gG := tg_mem (List.mem_of_getElem? (i := 297) (by decide +kernel)) (by decide +kernel)
theorem wm_X7_118 : Cond.methodLink RX7 118 yX7_playTold ∈ tg_gG := tg_mem (List.mem_of_getElem? (i := 332) (by decide +kernel)) (by decide +kernel)
theorem wc_X7_playTexts : Cond.code yX7_playTexts cX7_playTexts 1 none ∈ tg_gG := tg_mem (List.mem_of_getElem? (i := 296) (by decide +kernel)) (by decide +kernel)
theorem wv_X7_playTexts : Cond.instanceMethod yX7_playTexts ∈ tg_gG := tg_mem (List.mem_of_getElem? (i := 295) (by decide +kernel)) (by decide +kernel)
theorem ws_X7_playTexts : Cond.selects yX7_playTexts.cls yX7_playTexts yX7_playTexts ∈ tg_gG := tg_mem (List.mem_of_getElem? (i := 0) (by decide +kernel)) (by decide +kernel)
theorem wm_X7_75 : Cond.methodLink RX7 75 yX7_isBelow ∈ tg_gG := tg_mem (List.mem_of_getElem? (i := 414) (by decide +kernel)) (by decide +kernel)
theorem wm_X7_79 : Cond.methodLink RX7 79 yX6_isFull ∈ tg_gG := tg_mem (List.mem_of_getElem? (i := 417) (by decide +kernel)) (by decide +kernel)
theorem wm_X7_83 : Cond.methodLink RX7 83 yX6_append ∈ tg_gG := tg_mem (List.mem_of_getElem? (i := 421) (by decide +kernel)) (by decide +kernel)
theorem wm_X7_72 : Cond.methodLink RX7 72 yX7_playTexts ∈ tg_gG := tg_mem (List.mem_of_getElem? (i := 293) (by decide +kernel)) (by decide +kernel)
theorem wc_X7_type : Cond.code yX7_type cX7_type 4 (some .int) ∈ tg_gG := tg_mem (List.mem_of_getElem? (i := 413) (by decide +kernel)) (by decide +kernel)
theorem wv_X7_type : Cond.instanceMethod yX7_type ∈ tg_gG := tg_mem (List.mem_of_getElem? (i := 411) (by decide +kernel)) (by decide +kernel)
theorem ws_X7_type : Cond.selects yX7_type.cls yX7_type yX7_type ∈ tg_gG := tg_mem (List.mem_of_getElem? (i := 412) (by decide +kernel)) (by decide +kernel)
theorem wm_X7_87 : Cond.methodLink RX7 87 yX6_clear ∈ tg_gG := tg_mem (List.mem_of_getElem? (i := 429) (by decide +kernel)) (by decide +kernel)
theorem wc_X7_wipe : Cond.code yX7_wipe cX7_wipe 3 (some .int) ∈ tg_gG := tg_mem (List.mem_of_getElem? (i := 428) (by decide +kernel)) (by decide +kernel)
theorem wv_X7_wipe : Cond.instanceMethod yX7_wipe ∈ tg_gG := tg_mem (List.mem_of_getElem? (i := 426) (by decide +kernel)) (by decide +kernel)
theorem ws_X7_wipe : Cond.selects yX7_wipe.cls yX7_wipe yX7_wipe ∈ tg_gG := tg_mem (List.mem_of_getElem? (i := 427) (by decide +kernel)) (by decide +kernel)
theorem wm_X7_91 : Cond.methodLink RX7 91 yX6_length ∈ tg_gG := tg_mem (List.mem_of_getElem? (i := 437) (by decide +kernel)) (by decide +kernel)
theorem wm_X7_94 : Cond.methodLink RX7 94 yX6_cutLast ∈ tg_gG := tg_mem (List.mem_of_getElem? (i := 441) (by decide +kernel)) (by decide +kernel)
theorem wc_X7_undo : Cond.code yX7_undo cX7_undo 3 (some .int) ∈ tg_gG := tg_mem (List.mem_of_getElem? (i := 436) (by decide +kernel)) (by decide +kernel)
theorem wv_X7_undo : Cond.instanceMethod yX7_undo ∈ tg_gG := tg_mem (List.mem_of_getElem? (i := 434) (by decide +kernel)) (by decide +kernel)
theorem ws_X7_undo : Cond.selects yX7_undo.cls yX7_undo yX7_undo ∈ tg_gG := tg_mem (List.mem_of_getElem? (i := 435) (by decide +kernel)) (by decide +kernel)
theorem wm_X7_97 : Cond.methodLink RX7 97 yX6_firstFault ∈ tg_gG := tg_mem (List.mem_of_getElem? (i := 449) (by decide +kernel)) (by decide +kernel)
theorem wc_X7_fault : Cond.code yX7_fault cX7_fault 2 (some .int) ∈ tg_gG := tg_mem (List.mem_of_getElem? (i := 448) (by decide +kernel)) (by decide +kernel)
theorem wv_X7_fault : Cond.instanceMethod yX7_fault ∈ tg_gG := tg_mem (List.mem_of_getElem? (i := 446) (by decide +kernel)) (by decide +kernel)
theorem ws_X7_fault : Cond.selects yX7_fault.cls yX7_fault yX7_fault ∈ tg_gG := tg_mem (List.mem_of_getElem? (i := 447) (by decide +kernel)) (by decide +kernel)
theorem wf_X7_186 : Cond.fieldLink RX7 186 (TX1 0).1 (TX1 0).2.1 (TX1 0).2.2.1 ∈ tg_gG := tg_mem (List.mem_of_getElem? (i := 177) (by decide +kernel)) (by decide +kernel)
theorem wc_X7_isPuller : Cond.code yX7_isPuller cX7_isPuller 2 (some .boolean) ∈ tg_gG := tg_mem (List.mem_of_getElem? (i := 457) (by decide +kernel)) (by decide +kernel)
theorem wv_X7_isPuller : Cond.instanceMethod yX7_isPuller ∈ tg_gG := tg_mem (List.mem_of_getElem? (i := 456) (by decide +kernel)) (by decide +kernel)
theorem ws_X7_isPuller : Cond.selects yX7_isPuller.cls yX7_isPuller yX7_isPuller ∈ tg_gG := tg_mem (List.mem_of_getElem? (i := 9) (by decide +kernel)) (by decide +kernel)
theorem wm_X7_100 : Cond.methodLink RX7 100 yX7_isPuller ∈ tg_gG := tg_mem (List.mem_of_getElem? (i := 454) (by decide +kernel)) (by decide +kernel)
theorem wf_X7_109 : Cond.fieldLink RX7 109 (TX1 3).1 (TX1 3).2.1 (TX1 3).2.2.1 ∈ tg_gG := tg_mem (List.mem_of_getElem? (i := 186) (by decide +kernel)) (by decide +kernel)
theorem wf_X7_106 : Cond.fieldLink RX7 106 (TX1 2).1 (TX1 2).2.1 (TX1 2).2.2.1 ∈ tg_gG := tg_mem (List.mem_of_getElem? (i := 183) (by decide +kernel)) (by decide +kernel)
theorem wf_X7_103 : Cond.fieldLink RX7 103 (TX1 1).1 (TX1 1).2.1 (TX1 1).2.2.1 ∈ tg_gG := tg_mem (List.mem_of_getElem? (i := 180) (by decide +kernel)) (by decide +kernel)
theorem wc_X7_puller : Cond.code yX7_puller cX7_puller 3 (some .int) ∈ tg_gG := tg_mem (List.mem_of_getElem? (i := 453) (by decide +kernel)) (by decide +kernel)
theorem wv_X7_puller : Cond.instanceMethod yX7_puller ∈ tg_gG := tg_mem (List.mem_of_getElem? (i := 451) (by decide +kernel)) (by decide +kernel)
theorem ws_X7_puller : Cond.selects yX7_puller.cls yX7_puller yX7_puller ∈ tg_gG := tg_mem (List.mem_of_getElem? (i := 452) (by decide +kernel)) (by decide +kernel)
theorem wf_X7_112 : Cond.fieldLink RX7 112 (TX1 6).1 (TX1 6).2.1 (TX1 6).2.2.1 ∈ tg_gG := tg_mem (List.mem_of_getElem? (i := 194) (by decide +kernel)) (by decide +kernel)
theorem wc_X7_call : Cond.code yX7_call cX7_call 3 (some .int) ∈ tg_gG := tg_mem (List.mem_of_getElem? (i := 461) (by decide +kernel)) (by decide +kernel)
theorem wv_X7_call : Cond.instanceMethod yX7_call ∈ tg_gG := tg_mem (List.mem_of_getElem? (i := 459) (by decide +kernel)) (by decide +kernel)
theorem ws_X7_call : Cond.selects yX7_call.cls yX7_call yX7_call ∈ tg_gG := tg_mem (List.mem_of_getElem? (i := 460) (by decide +kernel)) (by decide +kernel)
theorem wf_X7_115 : Cond.fieldLink RX7 115 (TX1 8).1 (TX1 8).2.1 (TX1 8).2.2.1 ∈ tg_gG := tg_mem (List.mem_of_getElem? (i := 200) (by decide +kernel)) (by decide +kernel)
theorem wc_X7_mud : Cond.code yX7_mud cX7_mud 3 (some .int) ∈ tg_gG := tg_mem (List.mem_of_getElem? (i := 465) (by decide +kernel)) (by decide +kernel)
theorem wv_X7_mud : Cond.instanceMethod yX7_mud ∈ tg_gG := tg_mem (List.mem_of_getElem? (i := 463) (by decide +kernel)) (by decide +kernel)
theorem ws_X7_mud : Cond.selects yX7_mud.cls yX7_mud yX7_mud ∈ tg_gG := tg_mem (List.mem_of_getElem? (i := 464) (by decide +kernel)) (by decide +kernel)
theorem wf_X3_9 : Cond.fieldLink RX3 9 (TX3 0).1 (TX3 0).2.1 (TX3 0).2.2.1 ∈ tg_gG := tg_mem (List.mem_of_getElem? (i := 153) (by decide +kernel)) (by decide +kernel)
theorem wf_X3_21 : Cond.fieldLink RX3 21 (TX3 3).1 (TX3 3).2.1 (TX3 3).2.2.1 ∈ tg_gG := tg_mem (List.mem_of_getElem? (i := 158) (by decide +kernel)) (by decide +kernel)
theorem wf_X3_18 : Cond.fieldLink RX3 18 (TX3 2).1 (TX3 2).2.1 (TX3 2).2.2.1 ∈ tg_gG := tg_mem (List.mem_of_getElem? (i := 156) (by decide +kernel)) (by decide +kernel)
theorem wc_X3_append : Cond.code yX3_append cX3_append 4 (some .int) ∈ tg_gG := tg_mem (List.mem_of_getElem? (i := 477) (by decide +kernel)) (by decide +kernel)
theorem wv_X3_append : Cond.instanceMethod yX3_append ∈ tg_gG := tg_mem (List.mem_of_getElem? (i := 475) (by decide +kernel)) (by decide +kernel)
theorem ws_X3_append : Cond.selects yX3_append.cls yX3_append yX3_append ∈ tg_gG := tg_mem (List.mem_of_getElem? (i := 476) (by decide +kernel)) (by decide +kernel)
theorem wc_X3_mayBe : Cond.code yX3_mayBe cX3_mayBe 3 (some .boolean) ∈ tg_gG := tg_mem (List.mem_of_getElem? (i := 472) (by decide +kernel)) (by decide +kernel)
theorem wt_X3_mayBe : Cond.static yX3_mayBe ∈ tg_gG := tg_mem (List.mem_of_getElem? (i := 471) (by decide +kernel)) (by decide +kernel)
theorem wm_X7_121 : Cond.methodLink RX7 121 yX3_mayBe ∈ tg_gG := tg_mem (List.mem_of_getElem? (i := 470) (by decide +kernel)) (by decide +kernel)
theorem wf_X7_127 : Cond.fieldLink RX7 127 (TX1 7).1 (TX1 7).2.1 (TX1 7).2.2.1 ∈ tg_gG := tg_mem (List.mem_of_getElem? (i := 197) (by decide +kernel)) (by decide +kernel)
theorem wf_X7_131 : Cond.fieldLink RX7 131 (TX3 3).1 (TX3 3).2.1 (TX3 3).2.2.1 ∈ tg_gG := tg_mem (List.mem_of_getElem? (i := 160) (by decide +kernel)) (by decide +kernel)
theorem wm_X7_134 : Cond.methodLink RX7 134 yX3_append ∈ tg_gG := tg_mem (List.mem_of_getElem? (i := 474) (by decide +kernel)) (by decide +kernel)
theorem wc_X7_event : Cond.code yX7_event cX7_event 5 (some .int) ∈ tg_gG := tg_mem (List.mem_of_getElem? (i := 469) (by decide +kernel)) (by decide +kernel)
theorem wv_X7_event : Cond.instanceMethod yX7_event ∈ tg_gG := tg_mem (List.mem_of_getElem? (i := 467) (by decide +kernel)) (by decide +kernel)
theorem ws_X7_event : Cond.selects yX7_event.cls yX7_event yX7_event ∈ tg_gG := tg_mem (List.mem_of_getElem? (i := 468) (by decide +kernel)) (by decide +kernel)
theorem wc_X3_cutLast : Cond.code yX3_cutLast cX3_cutLast 1 (some .int) ∈ tg_gG := tg_mem (List.mem_of_getElem? (i := 485) (by decide +kernel)) (by decide +kernel)
theorem wv_X3_cutLast : Cond.instanceMethod yX3_cutLast ∈ tg_gG := tg_mem (List.mem_of_getElem? (i := 483) (by decide +kernel)) (by decide +kernel)
theorem ws_X3_cutLast : Cond.selects yX3_cutLast.cls yX3_cutLast yX3_cutLast ∈ tg_gG := tg_mem (List.mem_of_getElem? (i := 484) (by decide +kernel)) (by decide +kernel)
theorem wm_X7_137 : Cond.methodLink RX7 137 yX3_cutLast ∈ tg_gG := tg_mem (List.mem_of_getElem? (i := 482) (by decide +kernel)) (by decide +kernel)
theorem wc_X7_back : Cond.code yX7_back cX7_back 2 (some .int) ∈ tg_gG := tg_mem (List.mem_of_getElem? (i := 481) (by decide +kernel)) (by decide +kernel)
theorem wv_X7_back : Cond.instanceMethod yX7_back ∈ tg_gG := tg_mem (List.mem_of_getElem? (i := 479) (by decide +kernel)) (by decide +kernel)
theorem ws_X7_back : Cond.selects yX7_back.cls yX7_back yX7_back ∈ tg_gG := tg_mem (List.mem_of_getElem? (i := 480) (by decide +kernel)) (by decide +kernel)
theorem wf_X7_30 : Cond.fieldLink RX7 30 (TX7 3).1 (TX7 3).2.1 (TX7 3).2.2.1 ∈ tg_gG := tg_mem (List.mem_of_getElem? (i := 376) (by decide +kernel)) (by decide +kernel)
theorem wc_X7_found : Cond.code yX7_found cX7_found 2 (some .int) ∈ tg_gG := tg_mem (List.mem_of_getElem? (i := 497) (by decide +kernel)) (by decide +kernel)
theorem wv_X7_found : Cond.instanceMethod yX7_found ∈ tg_gG := tg_mem (List.mem_of_getElem? (i := 496) (by decide +kernel)) (by decide +kernel)
theorem ws_X7_found : Cond.selects yX7_found.cls yX7_found yX7_found ∈ tg_gG := tg_mem (List.mem_of_getElem? (i := 10) (by decide +kernel)) (by decide +kernel)
theorem wf_X7_26 : Cond.fieldLink RX7 26 (TX7 2).1 (TX7 2).2.1 (TX7 2).2.2.1 ∈ tg_gG := tg_mem (List.mem_of_getElem? (i := 375) (by decide +kernel)) (by decide +kernel)
theorem wm_X7_140 : Cond.methodLink RX7 140 yX5_isLost ∈ tg_gG := tg_mem (List.mem_of_getElem? (i := 490) (by decide +kernel)) (by decide +kernel)
theorem wm_X7_143 : Cond.methodLink RX7 143 yX7_found ∈ tg_gG := tg_mem (List.mem_of_getElem? (i := 494) (by decide +kernel)) (by decide +kernel)
theorem wm_X7_146 : Cond.methodLink RX7 146 yX5_size ∈ tg_gG := tg_mem (List.mem_of_getElem? (i := 498) (by decide +kernel)) (by decide +kernel)
theorem wm_X7_148 : Cond.methodLink RX7 148 yX5_item ∈ tg_gG := tg_mem (List.mem_of_getElem? (i := 502) (by decide +kernel)) (by decide +kernel)
theorem wm_X7_151 : Cond.methodLink RX7 151 yX7_event ∈ tg_gG := tg_mem (List.mem_of_getElem? (i := 506) (by decide +kernel)) (by decide +kernel)
theorem wc_X7_read : Cond.code yX7_read cX7_read 5 (some .int) ∈ tg_gG := tg_mem (List.mem_of_getElem? (i := 489) (by decide +kernel)) (by decide +kernel)
theorem wv_X7_read : Cond.instanceMethod yX7_read ∈ tg_gG := tg_mem (List.mem_of_getElem? (i := 487) (by decide +kernel)) (by decide +kernel)
theorem ws_X7_read : Cond.selects yX7_read.cls yX7_read yX7_read ∈ tg_gG := tg_mem (List.mem_of_getElem? (i := 488) (by decide +kernel)) (by decide +kernel)
theorem wf_X7_154 : Cond.fieldLink RX7 154 (TX2 0).1 (TX2 0).2.1 (TX2 0).2.2.1 ∈ tg_gG := tg_mem (List.mem_of_getElem? (i := 228) (by decide +kernel)) (by decide +kernel)
theorem wf_X7_157 : Cond.fieldLink RX7 157 (TX2 2).1 (TX2 2).2.1 (TX2 2).2.2.1 ∈ tg_gG := tg_mem (List.mem_of_getElem? (i := 232) (by decide +kernel)) (by decide +kernel)
theorem wf_X7_160 : Cond.fieldLink RX7 160 (TX2 1).1 (TX2 1).2.1 (TX2 1).2.2.1 ∈ tg_gG := tg_mem (List.mem_of_getElem? (i := 230) (by decide +kernel)) (by decide +kernel)
theorem wc_X7_rope : Cond.code yX7_rope cX7_rope 3 (some .int) ∈ tg_gG := tg_mem (List.mem_of_getElem? (i := 510) (by decide +kernel)) (by decide +kernel)
theorem wv_X7_rope : Cond.instanceMethod yX7_rope ∈ tg_gG := tg_mem (List.mem_of_getElem? (i := 508) (by decide +kernel)) (by decide +kernel)
theorem ws_X7_rope : Cond.selects yX7_rope.cls yX7_rope yX7_rope ∈ tg_gG := tg_mem (List.mem_of_getElem? (i := 509) (by decide +kernel)) (by decide +kernel)
theorem wf_X7_166 : Cond.fieldLink RX7 166 (TX2 4).1 (TX2 4).2.1 (TX2 4).2.2.1 ∈ tg_gG := tg_mem (List.mem_of_getElem? (i := 236) (by decide +kernel)) (by decide +kernel)
theorem wf_X7_163 : Cond.fieldLink RX7 163 (TX2 3).1 (TX2 3).2.1 (TX2 3).2.2.1 ∈ tg_gG := tg_mem (List.mem_of_getElem? (i := 234) (by decide +kernel)) (by decide +kernel)
theorem wc_X7_at : Cond.code yX7_at cX7_at 5 (some .int) ∈ tg_gG := tg_mem (List.mem_of_getElem? (i := 514) (by decide +kernel)) (by decide +kernel)
theorem wv_X7_at : Cond.instanceMethod yX7_at ∈ tg_gG := tg_mem (List.mem_of_getElem? (i := 512) (by decide +kernel)) (by decide +kernel)
theorem ws_X7_at : Cond.selects yX7_at.cls yX7_at yX7_at ∈ tg_gG := tg_mem (List.mem_of_getElem? (i := 513) (by decide +kernel)) (by decide +kernel)
theorem wf_X7_172 : Cond.fieldLink RX7 172 (TX2 6).1 (TX2 6).2.1 (TX2 6).2.2.1 ∈ tg_gG := tg_mem (List.mem_of_getElem? (i := 240) (by decide +kernel)) (by decide +kernel)
theorem wf_X7_169 : Cond.fieldLink RX7 169 (TX2 5).1 (TX2 5).2.1 (TX2 5).2.2.1 ∈ tg_gG := tg_mem (List.mem_of_getElem? (i := 238) (by decide +kernel)) (by decide +kernel)
theorem wc_X7_won : Cond.code yX7_won cX7_won 2 (some .int) ∈ tg_gG := tg_mem (List.mem_of_getElem? (i := 518) (by decide +kernel)) (by decide +kernel)
theorem wv_X7_won : Cond.instanceMethod yX7_won ∈ tg_gG := tg_mem (List.mem_of_getElem? (i := 516) (by decide +kernel)) (by decide +kernel)
theorem ws_X7_won : Cond.selects yX7_won.cls yX7_won yX7_won ∈ tg_gG := tg_mem (List.mem_of_getElem? (i := 517) (by decide +kernel)) (by decide +kernel)
theorem wm_X7_180 : Cond.methodLink RX7 180 Lib.Math.min.name ∈ tg_gG := tg_mem (List.mem_of_getElem? (i := 524) (by decide +kernel)) (by decide +kernel)
theorem wm_X7_175 : Cond.methodLink RX7 175 Lib.Math.max.name ∈ tg_gG := tg_mem (List.mem_of_getElem? (i := 523) (by decide +kernel)) (by decide +kernel)
theorem wc_X7_furthest : Cond.code yX7_furthest cX7_furthest 5 (some .int) ∈ tg_gG := tg_mem (List.mem_of_getElem? (i := 522) (by decide +kernel)) (by decide +kernel)
theorem wv_X7_furthest : Cond.instanceMethod yX7_furthest ∈ tg_gG := tg_mem (List.mem_of_getElem? (i := 520) (by decide +kernel)) (by decide +kernel)
theorem ws_X7_furthest : Cond.selects yX7_furthest.cls yX7_furthest yX7_furthest ∈ tg_gG := tg_mem (List.mem_of_getElem? (i := 521) (by decide +kernel)) (by decide +kernel)
theorem wc_X7_pulledInAll : Cond.code yX7_pulledInAll cX7_pulledInAll 4 (some .int) ∈ tg_gG := tg_mem (List.mem_of_getElem? (i := 532) (by decide +kernel)) (by decide +kernel)
theorem wv_X7_pulledInAll : Cond.instanceMethod yX7_pulledInAll ∈ tg_gG := tg_mem (List.mem_of_getElem? (i := 531) (by decide +kernel)) (by decide +kernel)
theorem ws_X7_pulledInAll : Cond.selects yX7_pulledInAll.cls yX7_pulledInAll yX7_pulledInAll ∈ tg_gG := tg_mem (List.mem_of_getElem? (i := 11) (by decide +kernel)) (by decide +kernel)
theorem wm_X7_183 : Cond.methodLink RX7 183 yX7_pulledInAll ∈ tg_gG := tg_mem (List.mem_of_getElem? (i := 529) (by decide +kernel)) (by decide +kernel)
theorem wc_X7_done : Cond.code yX7_done cX7_done 2 (some .int) ∈ tg_gG := tg_mem (List.mem_of_getElem? (i := 528) (by decide +kernel)) (by decide +kernel)
theorem wv_X7_done : Cond.instanceMethod yX7_done ∈ tg_gG := tg_mem (List.mem_of_getElem? (i := 526) (by decide +kernel)) (by decide +kernel)
theorem ws_X7_done : Cond.selects yX7_done.cls yX7_done yX7_done ∈ tg_gG := tg_mem (List.mem_of_getElem? (i := 527) (by decide +kernel)) (by decide +kernel)
theorem wc_X7_spent : Cond.code yX7_spent cX7_spent 3 (some .int) ∈ tg_gG := tg_mem (List.mem_of_getElem? (i := 536) (by decide +kernel)) (by decide +kernel)
theorem wv_X7_spent : Cond.instanceMethod yX7_spent ∈ tg_gG := tg_mem (List.mem_of_getElem? (i := 534) (by decide +kernel)) (by decide +kernel)
theorem ws_X7_spent : Cond.selects yX7_spent.cls yX7_spent yX7_spent ∈ tg_gG := tg_mem (List.mem_of_getElem? (i := 535) (by decide +kernel)) (by decide +kernel)
theorem wc_X7_best : Cond.code yX7_best cX7_best 5 (some .int) ∈ tg_gG := tg_mem (List.mem_of_getElem? (i := 540) (by decide +kernel)) (by decide +kernel)
theorem wv_X7_best : Cond.instanceMethod yX7_best ∈ tg_gG := tg_mem (List.mem_of_getElem? (i := 538) (by decide +kernel)) (by decide +kernel)
theorem ws_X7_best : Cond.selects yX7_best.cls yX7_best yX7_best ∈ tg_gG := tg_mem (List.mem_of_getElem? (i := 539) (by decide +kernel)) (by decide +kernel)
theorem wc_X7_level : Cond.code yX7_level cX7_level 4 (some .int) ∈ tg_gG := tg_mem (List.mem_of_getElem? (i := 544) (by decide +kernel)) (by decide +kernel)
theorem wv_X7_level : Cond.instanceMethod yX7_level ∈ tg_gG := tg_mem (List.mem_of_getElem? (i := 542) (by decide +kernel)) (by decide +kernel)
theorem ws_X7_level : Cond.selects yX7_level.cls yX7_level yX7_level ∈ tg_gG := tg_mem (List.mem_of_getElem? (i := 543) (by decide +kernel)) (by decide +kernel)
theorem wm_X3_32 : Cond.methodLink RX3 32 arraycopyName ∈ tg_gG := tg_mem (List.mem_of_getElem? (i := 558) (by decide +kernel)) (by decide +kernel)
theorem wc_X3_takeFrom : Cond.code yX3_takeFrom cX3_takeFrom 2 none ∈ tg_gG := tg_mem (List.mem_of_getElem? (i := 557) (by decide +kernel)) (by decide +kernel)
theorem wv_X3_takeFrom : Cond.instanceMethod yX3_takeFrom ∈ tg_gG := tg_mem (List.mem_of_getElem? (i := 555) (by decide +kernel)) (by decide +kernel)
theorem ws_X3_takeFrom : Cond.selects yX3_takeFrom.cls yX3_takeFrom yX3_takeFrom ∈ tg_gG := tg_mem (List.mem_of_getElem? (i := 556) (by decide +kernel)) (by decide +kernel)
theorem wm_X1_68 : Cond.methodLink RX1 68 arraycopyName ∈ tg_gG := tg_mem (List.mem_of_getElem? (i := 553) (by decide +kernel)) (by decide +kernel)
theorem wf_X1_37 : Cond.fieldLink RX1 37 (TX1 7).1 (TX1 7).2.1 (TX1 7).2.2.1 ∈ tg_gG := tg_mem (List.mem_of_getElem? (i := 195) (by decide +kernel)) (by decide +kernel)
theorem wm_X1_74 : Cond.methodLink RX1 74 yX3_takeFrom ∈ tg_gG := tg_mem (List.mem_of_getElem? (i := 554) (by decide +kernel)) (by decide +kernel)
theorem wf_X1_41 : Cond.fieldLink RX1 41 (TX1 8).1 (TX1 8).2.1 (TX1 8).2.2.1 ∈ tg_gG := tg_mem (List.mem_of_getElem? (i := 198) (by decide +kernel)) (by decide +kernel)
theorem wc_X1_becomeLike : Cond.code yX1_becomeLike cX1_becomeLike 3 none ∈ tg_gG := tg_mem (List.mem_of_getElem? (i := 552) (by decide +kernel)) (by decide +kernel)
theorem wv_X1_becomeLike : Cond.instanceMethod yX1_becomeLike ∈ tg_gG := tg_mem (List.mem_of_getElem? (i := 550) (by decide +kernel)) (by decide +kernel)
theorem ws_X1_becomeLike : Cond.selects yX1_becomeLike.cls yX1_becomeLike yX1_becomeLike ∈ tg_gG := tg_mem (List.mem_of_getElem? (i := 551) (by decide +kernel)) (by decide +kernel)
theorem wf_X7_48 : Cond.fieldLink RX7 48 (TX7 6).1 (TX7 6).2.1 (TX7 6).2.2.1 ∈ tg_gG := tg_mem (List.mem_of_getElem? (i := 379) (by decide +kernel)) (by decide +kernel)
theorem wm_X7_190 : Cond.methodLink RX7 190 yX1_becomeLike ∈ tg_gG := tg_mem (List.mem_of_getElem? (i := 549) (by decide +kernel)) (by decide +kernel)
theorem wf_X7_57 : Cond.fieldLink RX7 57 (TX7 8).1 (TX7 8).2.1 (TX7 8).2.2.1 ∈ tg_gG := tg_mem (List.mem_of_getElem? (i := 381) (by decide +kernel)) (by decide +kernel)
theorem wm_X7_194 : Cond.methodLink RX7 194 yX0_startFor ∈ tg_gG := tg_mem (List.mem_of_getElem? (i := 559) (by decide +kernel)) (by decide +kernel)
theorem wf_X7_209 : Cond.fieldLink RX7 209 (TX0 2).1 (TX0 2).2.1 (TX0 2).2.2.1 ∈ tg_gG := tg_mem (List.mem_of_getElem? (i := 282) (by decide +kernel)) (by decide +kernel)
theorem wf_X7_206 : Cond.fieldLink RX7 206 (TX0 0).1 (TX0 0).2.1 (TX0 0).2.2.1 ∈ tg_gG := tg_mem (List.mem_of_getElem? (i := 278) (by decide +kernel)) (by decide +kernel)
theorem wf_X7_51 : Cond.fieldLink RX7 51 (TX7 7).1 (TX7 7).2.1 (TX7 7).2.2.1 ∈ tg_gG := tg_mem (List.mem_of_getElem? (i := 380) (by decide +kernel)) (by decide +kernel)
theorem wm_X7_202 : Cond.methodLink RX7 202 yX0_offer ∈ tg_gG := tg_mem (List.mem_of_getElem? (i := 563) (by decide +kernel)) (by decide +kernel)
theorem wc_X7_better : Cond.code yX7_better cX7_better 5 (some .int) ∈ tg_gG := tg_mem (List.mem_of_getElem? (i := 548) (by decide +kernel)) (by decide +kernel)
theorem wv_X7_better : Cond.instanceMethod yX7_better ∈ tg_gG := tg_mem (List.mem_of_getElem? (i := 546) (by decide +kernel)) (by decide +kernel)
theorem ws_X7_better : Cond.selects yX7_better.cls yX7_better yX7_better ∈ tg_gG := tg_mem (List.mem_of_getElem? (i := 547) (by decide +kernel)) (by decide +kernel)
theorem wf_X7_281 : Cond.fieldLink RX7 281 (TX1 4).1 (TX1 4).2.1 (TX1 4).2.2.1 ∈ tg_gG := tg_mem (List.mem_of_getElem? (i := 188) (by decide +kernel)) (by decide +kernel)
theorem wf_X7_373 : Cond.fieldLink RX7 373 (TX1 5).1 (TX1 5).2.1 (TX1 5).2.2.1 ∈ tg_gG := tg_mem (List.mem_of_getElem? (i := 191) (by decide +kernel)) (by decide +kernel)
theorem wc_X7_chooseSwap : Cond.code yX7_chooseSwap cX7_chooseSwap 6 none ∈ tg_gG := tg_mem (List.mem_of_getElem? (i := 574) (by decide +kernel)) (by decide +kernel)
theorem wv_X7_chooseSwap : Cond.instanceMethod yX7_chooseSwap ∈ tg_gG := tg_mem (List.mem_of_getElem? (i := 573) (by decide +kernel)) (by decide +kernel)
theorem ws_X7_chooseSwap : Cond.selects yX7_chooseSwap.cls yX7_chooseSwap yX7_chooseSwap ∈ tg_gG := tg_mem (List.mem_of_getElem? (i := 12) (by decide +kernel)) (by decide +kernel)
theorem wm_X7_212 : Cond.methodLink RX7 212 yX7_chooseSwap ∈ tg_gG := tg_mem (List.mem_of_getElem? (i := 571) (by decide +kernel)) (by decide +kernel)
theorem wf_X7_215 : Cond.fieldLink RX7 215 (TX0 1).1 (TX0 1).2.1 (TX0 1).2.2.1 ∈ tg_gG := tg_mem (List.mem_of_getElem? (i := 280) (by decide +kernel)) (by decide +kernel)
theorem wc_X7_swap : Cond.code yX7_swap cX7_swap 3 (some .int) ∈ tg_gG := tg_mem (List.mem_of_getElem? (i := 570) (by decide +kernel)) (by decide +kernel)
theorem wv_X7_swap : Cond.instanceMethod yX7_swap ∈ tg_gG := tg_mem (List.mem_of_getElem? (i := 568) (by decide +kernel)) (by decide +kernel)
theorem ws_X7_swap : Cond.selects yX7_swap.cls yX7_swap yX7_swap ∈ tg_gG := tg_mem (List.mem_of_getElem? (i := 569) (by decide +kernel)) (by decide +kernel)
theorem wc_X1_leaveOut : Cond.code yX1_leaveOut cX1_leaveOut 3 none ∈ tg_gG := tg_mem (List.mem_of_getElem? (i := 586) (by decide +kernel)) (by decide +kernel)
theorem wv_X1_leaveOut : Cond.instanceMethod yX1_leaveOut ∈ tg_gG := tg_mem (List.mem_of_getElem? (i := 584) (by decide +kernel)) (by decide +kernel)
theorem ws_X1_leaveOut : Cond.selects yX1_leaveOut.cls yX1_leaveOut yX1_leaveOut ∈ tg_gG := tg_mem (List.mem_of_getElem? (i := 585) (by decide +kernel)) (by decide +kernel)
theorem wm_X7_376 : Cond.methodLink RX7 376 yX1_leaveOut ∈ tg_gG := tg_mem (List.mem_of_getElem? (i := 583) (by decide +kernel)) (by decide +kernel)
theorem wc_X7_chooseOut : Cond.code yX7_chooseOut cX7_chooseOut 5 none ∈ tg_gG := tg_mem (List.mem_of_getElem? (i := 582) (by decide +kernel)) (by decide +kernel)
theorem wv_X7_chooseOut : Cond.instanceMethod yX7_chooseOut ∈ tg_gG := tg_mem (List.mem_of_getElem? (i := 581) (by decide +kernel)) (by decide +kernel)
theorem ws_X7_chooseOut : Cond.selects yX7_chooseOut.cls yX7_chooseOut yX7_chooseOut ∈ tg_gG := tg_mem (List.mem_of_getElem? (i := 13) (by decide +kernel)) (by decide +kernel)
theorem wm_X7_218 : Cond.methodLink RX7 218 yX7_chooseOut ∈ tg_gG := tg_mem (List.mem_of_getElem? (i := 579) (by decide +kernel)) (by decide +kernel)
theorem wc_X7_out : Cond.code yX7_out cX7_out 3 (some .int) ∈ tg_gG := tg_mem (List.mem_of_getElem? (i := 578) (by decide +kernel)) (by decide +kernel)
theorem wv_X7_out : Cond.instanceMethod yX7_out ∈ tg_gG := tg_mem (List.mem_of_getElem? (i := 576) (by decide +kernel)) (by decide +kernel)
theorem ws_X7_out : Cond.selects yX7_out.cls yX7_out yX7_out ∈ tg_gG := tg_mem (List.mem_of_getElem? (i := 577) (by decide +kernel)) (by decide +kernel)
theorem wf_X7_226 : Cond.fieldLink RX7 226 (TX3 4).1 (TX3 4).2.1 (TX3 4).2.2.1 ∈ tg_gG := tg_mem (List.mem_of_getElem? (i := 162) (by decide +kernel)) (by decide +kernel)
theorem wc_X7_winnerWithout : Cond.code yX7_winnerWithout cX7_winnerWithout 2 (some .int) ∈ tg_gG := tg_mem (List.mem_of_getElem? (i := 598) (by decide +kernel)) (by decide +kernel)
theorem wv_X7_winnerWithout : Cond.instanceMethod yX7_winnerWithout ∈ tg_gG := tg_mem (List.mem_of_getElem? (i := 597) (by decide +kernel)) (by decide +kernel)
theorem ws_X7_winnerWithout : Cond.selects yX7_winnerWithout.cls yX7_winnerWithout yX7_winnerWithout ∈ tg_gG := tg_mem (List.mem_of_getElem? (i := 15) (by decide +kernel)) (by decide +kernel)
theorem wm_X7_380 : Cond.methodLink RX7 380 yX7_winnerWithout ∈ tg_gG := tg_mem (List.mem_of_getElem? (i := 595) (by decide +kernel)) (by decide +kernel)
theorem wc_X7_chooseSpare : Cond.code yX7_chooseSpare cX7_chooseSpare 4 (some .int) ∈ tg_gG := tg_mem (List.mem_of_getElem? (i := 594) (by decide +kernel)) (by decide +kernel)
theorem wv_X7_chooseSpare : Cond.instanceMethod yX7_chooseSpare ∈ tg_gG := tg_mem (List.mem_of_getElem? (i := 593) (by decide +kernel)) (by decide +kernel)
theorem ws_X7_chooseSpare : Cond.selects yX7_chooseSpare.cls yX7_chooseSpare yX7_chooseSpare ∈ tg_gG := tg_mem (List.mem_of_getElem? (i := 14) (by decide +kernel)) (by decide +kernel)
theorem wm_X7_221 : Cond.methodLink RX7 221 yX7_chooseSpare ∈ tg_gG := tg_mem (List.mem_of_getElem? (i := 591) (by decide +kernel)) (by decide +kernel)
theorem wc_X7_spare : Cond.code yX7_spare cX7_spare 3 (some .int) ∈ tg_gG := tg_mem (List.mem_of_getElem? (i := 590) (by decide +kernel)) (by decide +kernel)
theorem wv_X7_spare : Cond.instanceMethod yX7_spare ∈ tg_gG := tg_mem (List.mem_of_getElem? (i := 588) (by decide +kernel)) (by decide +kernel)
theorem ws_X7_spare : Cond.selects yX7_spare.cls yX7_spare yX7_spare ∈ tg_gG := tg_mem (List.mem_of_getElem? (i := 589) (by decide +kernel)) (by decide +kernel)
theorem wf_X7_19 : Cond.fieldLink RX7 19 (TX7 1).1 (TX7 1).2.1 (TX7 1).2.2.1 ∈ tg_gG := tg_mem (List.mem_of_getElem? (i := 374) (by decide +kernel)) (by decide +kernel)
theorem wf_X7_224 : Cond.fieldLink RX7 224 (TX4 2).1 (TX4 2).2.1 (TX4 2).2.2.1 ∈ tg_gG := tg_mem (List.mem_of_getElem? (i := 117) (by decide +kernel)) (by decide +kernel)
theorem wm_X7_225 : Cond.methodLink RX7 225 yX4_append ∈ tg_gG := tg_mem (List.mem_of_getElem? (i := 603) (by decide +kernel)) (by decide +kernel)
theorem wc_X7_seen : Cond.code yX7_seen cX7_seen 3 (some .int) ∈ tg_gG := tg_mem (List.mem_of_getElem? (i := 602) (by decide +kernel)) (by decide +kernel)
theorem wv_X7_seen : Cond.instanceMethod yX7_seen ∈ tg_gG := tg_mem (List.mem_of_getElem? (i := 600) (by decide +kernel)) (by decide +kernel)
theorem ws_X7_seen : Cond.selects yX7_seen.cls yX7_seen yX7_seen ∈ tg_gG := tg_mem (List.mem_of_getElem? (i := 601) (by decide +kernel)) (by decide +kernel)
theorem wc_X7_forget : Cond.code yX7_forget cX7_forget 2 (some .int) ∈ tg_gG := tg_mem (List.mem_of_getElem? (i := 610) (by decide +kernel)) (by decide +kernel)
theorem wv_X7_forget : Cond.instanceMethod yX7_forget ∈ tg_gG := tg_mem (List.mem_of_getElem? (i := 608) (by decide +kernel)) (by decide +kernel)
theorem ws_X7_forget : Cond.selects yX7_forget.cls yX7_forget yX7_forget ∈ tg_gG := tg_mem (List.mem_of_getElem? (i := 609) (by decide +kernel)) (by decide +kernel)
theorem wm_X7_229 : Cond.methodLink RX7 229 yX4_fit ∈ tg_gG := tg_mem (List.mem_of_getElem? (i := 615) (by decide +kernel)) (by decide +kernel)
theorem wc_X7_never : Cond.code yX7_never cX7_never 3 (some .int) ∈ tg_gG := tg_mem (List.mem_of_getElem? (i := 614) (by decide +kernel)) (by decide +kernel)
theorem wv_X7_never : Cond.instanceMethod yX7_never ∈ tg_gG := tg_mem (List.mem_of_getElem? (i := 612) (by decide +kernel)) (by decide +kernel)
theorem ws_X7_never : Cond.selects yX7_never.cls yX7_never yX7_never ∈ tg_gG := tg_mem (List.mem_of_getElem? (i := 613) (by decide +kernel)) (by decide +kernel)
theorem wc_X7_sortsThatFit : Cond.code yX7_sortsThatFit cX7_sortsThatFit 4 (some .int) ∈ tg_gG := tg_mem (List.mem_of_getElem? (i := 630) (by decide +kernel)) (by decide +kernel)
theorem wv_X7_sortsThatFit : Cond.instanceMethod yX7_sortsThatFit ∈ tg_gG := tg_mem (List.mem_of_getElem? (i := 629) (by decide +kernel)) (by decide +kernel)
theorem ws_X7_sortsThatFit : Cond.selects yX7_sortsThatFit.cls yX7_sortsThatFit yX7_sortsThatFit ∈ tg_gG := tg_mem (List.mem_of_getElem? (i := 17) (by decide +kernel)) (by decide +kernel)
theorem wf_X7_61 : Cond.fieldLink RX7 61 (TX7 9).1 (TX7 9).2.1 (TX7 9).2.2.1 ∈ tg_gG := tg_mem (List.mem_of_getElem? (i := 382) (by decide +kernel)) (by decide +kernel)
theorem wc_X7_weightsThatFit : Cond.code yX7_weightsThatFit cX7_weightsThatFit 5 (some .int) ∈ tg_gG := tg_mem (List.mem_of_getElem? (i := 626) (by decide +kernel)) (by decide +kernel)
theorem wv_X7_weightsThatFit : Cond.instanceMethod yX7_weightsThatFit ∈ tg_gG := tg_mem (List.mem_of_getElem? (i := 625) (by decide +kernel)) (by decide +kernel)
theorem ws_X7_weightsThatFit : Cond.selects yX7_weightsThatFit.cls yX7_weightsThatFit yX7_weightsThatFit ∈ tg_gG := tg_mem (List.mem_of_getElem? (i := 16) (by decide +kernel)) (by decide +kernel)
theorem wm_X7_236 : Cond.methodLink RX7 236 yX7_sortsThatFit ∈ tg_gG := tg_mem (List.mem_of_getElem? (i := 627) (by decide +kernel)) (by decide +kernel)
theorem wm_X7_233 : Cond.methodLink RX7 233 yX7_weightsThatFit ∈ tg_gG := tg_mem (List.mem_of_getElem? (i := 623) (by decide +kernel)) (by decide +kernel)
theorem wc_X7_was : Cond.code yX7_was cX7_was 3 (some .int) ∈ tg_gG := tg_mem (List.mem_of_getElem? (i := 622) (by decide +kernel)) (by decide +kernel)
theorem wv_X7_was : Cond.instanceMethod yX7_was ∈ tg_gG := tg_mem (List.mem_of_getElem? (i := 620) (by decide +kernel)) (by decide +kernel)
theorem ws_X7_was : Cond.selects yX7_was.cls yX7_was yX7_was ∈ tg_gG := tg_mem (List.mem_of_getElem? (i := 621) (by decide +kernel)) (by decide +kernel)
theorem wc_X7_greatestLikeness : Cond.code yX7_greatestLikeness cX7_greatestLikeness 8 (some .int) ∈ tg_gG := tg_mem (List.mem_of_getElem? (i := 638) (by decide +kernel)) (by decide +kernel)
theorem wv_X7_greatestLikeness : Cond.instanceMethod yX7_greatestLikeness ∈ tg_gG := tg_mem (List.mem_of_getElem? (i := 637) (by decide +kernel)) (by decide +kernel)
theorem ws_X7_greatestLikeness : Cond.selects yX7_greatestLikeness.cls yX7_greatestLikeness yX7_greatestLikeness ∈ tg_gG := tg_mem (List.mem_of_getElem? (i := 18) (by decide +kernel)) (by decide +kernel)
theorem wm_X7_239 : Cond.methodLink RX7 239 yX7_greatestLikeness ∈ tg_gG := tg_mem (List.mem_of_getElem? (i := 635) (by decide +kernel)) (by decide +kernel)
theorem wc_X7_ask : Cond.code yX7_ask cX7_ask 7 (some .int) ∈ tg_gG := tg_mem (List.mem_of_getElem? (i := 634) (by decide +kernel)) (by decide +kernel)
theorem wv_X7_ask : Cond.instanceMethod yX7_ask ∈ tg_gG := tg_mem (List.mem_of_getElem? (i := 632) (by decide +kernel)) (by decide +kernel)
theorem ws_X7_ask : Cond.selects yX7_ask.cls yX7_ask yX7_ask ∈ tg_gG := tg_mem (List.mem_of_getElem? (i := 633) (by decide +kernel)) (by decide +kernel)
theorem wf_X7_65 : Cond.fieldLink RX7 65 (TX7 10).1 (TX7 10).2.1 (TX7 10).2.2.1 ∈ tg_gG := tg_mem (List.mem_of_getElem? (i := 383) (by decide +kernel)) (by decide +kernel)
theorem wc_X7_refreshWinners : Cond.code yX7_refreshWinners cX7_refreshWinners 2 none ∈ tg_gG := tg_mem (List.mem_of_getElem? (i := 647) (by decide +kernel)) (by decide +kernel)
theorem wv_X7_refreshWinners : Cond.instanceMethod yX7_refreshWinners ∈ tg_gG := tg_mem (List.mem_of_getElem? (i := 646) (by decide +kernel)) (by decide +kernel)
theorem ws_X7_refreshWinners : Cond.selects yX7_refreshWinners.cls yX7_refreshWinners yX7_refreshWinners ∈ tg_gG := tg_mem (List.mem_of_getElem? (i := 19) (by decide +kernel)) (by decide +kernel)
theorem wc_X7_waysToMiss : Cond.code yX7_waysToMiss cX7_waysToMiss 6 (some .long) ∈ tg_gG := tg_mem (List.mem_of_getElem? (i := 655) (by decide +kernel)) (by decide +kernel)
theorem wv_X7_waysToMiss : Cond.instanceMethod yX7_waysToMiss ∈ tg_gG := tg_mem (List.mem_of_getElem? (i := 654) (by decide +kernel)) (by decide +kernel)
theorem ws_X7_waysToMiss : Cond.selects yX7_waysToMiss.cls yX7_waysToMiss yX7_waysToMiss ∈ tg_gG := tg_mem (List.mem_of_getElem? (i := 21) (by decide +kernel)) (by decide +kernel)
theorem wm_X7_383 : Cond.methodLink RX7 383 yX7_waysToMiss ∈ tg_gG := tg_mem (List.mem_of_getElem? (i := 652) (by decide +kernel)) (by decide +kernel)
theorem wc_X7_waysToWin : Cond.code yX7_waysToWin cX7_waysToWin 6 (some .long) ∈ tg_gG := tg_mem (List.mem_of_getElem? (i := 651) (by decide +kernel)) (by decide +kernel)
theorem wv_X7_waysToWin : Cond.instanceMethod yX7_waysToWin ∈ tg_gG := tg_mem (List.mem_of_getElem? (i := 650) (by decide +kernel)) (by decide +kernel)
theorem ws_X7_waysToWin : Cond.selects yX7_waysToWin.cls yX7_waysToWin yX7_waysToWin ∈ tg_gG := tg_mem (List.mem_of_getElem? (i := 20) (by decide +kernel)) (by decide +kernel)
theorem wk_X7_244 : Cond.constantLong RX7 244 (-9223372036854775806) ∈ tg_gG := tg_mem (List.mem_of_getElem? (i := 643) (by decide +kernel)) (by decide +kernel)
theorem wm_X7_246 : Cond.methodLink RX7 246 yX7_refreshWinners ∈ tg_gG := tg_mem (List.mem_of_getElem? (i := 644) (by decide +kernel)) (by decide +kernel)
theorem wm_X7_249 : Cond.methodLink RX7 249 yX7_waysToWin ∈ tg_gG := tg_mem (List.mem_of_getElem? (i := 648) (by decide +kernel)) (by decide +kernel)
theorem wk_X7_253 : Cond.constantLong RX7 253 (2) ∈ tg_gG := tg_mem (List.mem_of_getElem? (i := 656) (by decide +kernel)) (by decide +kernel)
theorem wc_X7_chance : Cond.code yX7_chance cX7_chance 10 (some .long) ∈ tg_gG := tg_mem (List.mem_of_getElem? (i := 642) (by decide +kernel)) (by decide +kernel)
theorem wv_X7_chance : Cond.instanceMethod yX7_chance ∈ tg_gG := tg_mem (List.mem_of_getElem? (i := 640) (by decide +kernel)) (by decide +kernel)
theorem ws_X7_chance : Cond.selects yX7_chance.cls yX7_chance yX7_chance ∈ tg_gG := tg_mem (List.mem_of_getElem? (i := 641) (by decide +kernel)) (by decide +kernel)
theorem wk_X7_255 : Cond.constant RX7 255 (1103515245) ∈ tg_gG := tg_mem (List.mem_of_getElem? (i := 661) (by decide +kernel)) (by decide +kernel)
theorem wc_X7_years : Cond.code yX7_years cX7_years 6 (some .int) ∈ tg_gG := tg_mem (List.mem_of_getElem? (i := 660) (by decide +kernel)) (by decide +kernel)
theorem wv_X7_years : Cond.instanceMethod yX7_years ∈ tg_gG := tg_mem (List.mem_of_getElem? (i := 658) (by decide +kernel)) (by decide +kernel)
theorem ws_X7_years : Cond.selects yX7_years.cls yX7_years yX7_years ∈ tg_gG := tg_mem (List.mem_of_getElem? (i := 659) (by decide +kernel)) (by decide +kernel)
theorem wm_X7_256 : Cond.methodLink RX7 256 yX5_renew ∈ tg_gG := tg_mem (List.mem_of_getElem? (i := 666) (by decide +kernel)) (by decide +kernel)
theorem wc_X7_sheet : Cond.code yX7_sheet cX7_sheet 4 (some .int) ∈ tg_gG := tg_mem (List.mem_of_getElem? (i := 665) (by decide +kernel)) (by decide +kernel)
theorem wv_X7_sheet : Cond.instanceMethod yX7_sheet ∈ tg_gG := tg_mem (List.mem_of_getElem? (i := 663) (by decide +kernel)) (by decide +kernel)
theorem ws_X7_sheet : Cond.selects yX7_sheet.cls yX7_sheet yX7_sheet ∈ tg_gG := tg_mem (List.mem_of_getElem? (i := 664) (by decide +kernel)) (by decide +kernel)
theorem wm_X7_259 : Cond.methodLink RX7 259 yX5_drop ∈ tg_gG := tg_mem (List.mem_of_getElem? (i := 674) (by decide +kernel)) (by decide +kernel)
theorem wc_X7_lose : Cond.code yX7_lose cX7_lose 2 (some .int) ∈ tg_gG := tg_mem (List.mem_of_getElem? (i := 673) (by decide +kernel)) (by decide +kernel)
theorem wv_X7_lose : Cond.instanceMethod yX7_lose ∈ tg_gG := tg_mem (List.mem_of_getElem? (i := 671) (by decide +kernel)) (by decide +kernel)
theorem ws_X7_lose : Cond.selects yX7_lose.cls yX7_lose yX7_lose ∈ tg_gG := tg_mem (List.mem_of_getElem? (i := 672) (by decide +kernel)) (by decide +kernel)
theorem wm_X7_262 : Cond.methodLink RX7 262 yX5_whatIsWrong ∈ tg_gG := tg_mem (List.mem_of_getElem? (i := 682) (by decide +kernel)) (by decide +kernel)
theorem wm_X7_265 : Cond.methodLink RX7 265 yX5_store ∈ tg_gG := tg_mem (List.mem_of_getElem? (i := 688) (by decide +kernel)) (by decide +kernel)
theorem wc_X7_put : Cond.code yX7_put cX7_put 6 (some .int) ∈ tg_gG := tg_mem (List.mem_of_getElem? (i := 681) (by decide +kernel)) (by decide +kernel)
theorem wv_X7_put : Cond.instanceMethod yX7_put ∈ tg_gG := tg_mem (List.mem_of_getElem? (i := 679) (by decide +kernel)) (by decide +kernel)
theorem ws_X7_put : Cond.selects yX7_put.cls yX7_put yX7_put ∈ tg_gG := tg_mem (List.mem_of_getElem? (i := 680) (by decide +kernel)) (by decide +kernel)
theorem wk_X7_270 : Cond.constant RX7 270 (-2147483648) ∈ tg_gG := tg_mem (List.mem_of_getElem? (i := 696) (by decide +kernel)) (by decide +kernel)
theorem wc_X7_get : Cond.code yX7_get cX7_get 5 (some .int) ∈ tg_gG := tg_mem (List.mem_of_getElem? (i := 695) (by decide +kernel)) (by decide +kernel)
theorem wv_X7_get : Cond.instanceMethod yX7_get ∈ tg_gG := tg_mem (List.mem_of_getElem? (i := 693) (by decide +kernel)) (by decide +kernel)
theorem ws_X7_get : Cond.selects yX7_get.cls yX7_get yX7_get ∈ tg_gG := tg_mem (List.mem_of_getElem? (i := 694) (by decide +kernel)) (by decide +kernel)
theorem wm_X7_271 : Cond.methodLink RX7 271 yX5_areAlike ∈ tg_gG := tg_mem (List.mem_of_getElem? (i := 701) (by decide +kernel)) (by decide +kernel)
theorem wm_X7_274 : Cond.methodLink RX7 274 yX5_holds ∈ tg_gG := tg_mem (List.mem_of_getElem? (i := 705) (by decide +kernel)) (by decide +kernel)
theorem wm_X7_277 : Cond.methodLink RX7 277 yX5_move ∈ tg_gG := tg_mem (List.mem_of_getElem? (i := 709) (by decide +kernel)) (by decide +kernel)
theorem wc_X7_copy : Cond.code yX7_copy cX7_copy 6 (some .int) ∈ tg_gG := tg_mem (List.mem_of_getElem? (i := 700) (by decide +kernel)) (by decide +kernel)
theorem wv_X7_copy : Cond.instanceMethod yX7_copy ∈ tg_gG := tg_mem (List.mem_of_getElem? (i := 698) (by decide +kernel)) (by decide +kernel)
theorem ws_X7_copy : Cond.selects yX7_copy.cls yX7_copy yX7_copy ∈ tg_gG := tg_mem (List.mem_of_getElem? (i := 699) (by decide +kernel)) (by decide +kernel)
theorem wc_X7_write : Cond.code yX7_write cX7_write 4 (some .int) ∈ tg_gG := tg_mem (List.mem_of_getElem? (i := 717) (by decide +kernel)) (by decide +kernel)
theorem wv_X7_write : Cond.instanceMethod yX7_write ∈ tg_gG := tg_mem (List.mem_of_getElem? (i := 715) (by decide +kernel)) (by decide +kernel)
theorem ws_X7_write : Cond.selects yX7_write.cls yX7_write yX7_write ∈ tg_gG := tg_mem (List.mem_of_getElem? (i := 716) (by decide +kernel)) (by decide +kernel)
theorem wm_X7_283 : Cond.methodLink RX7 283 yX6_soundLength ∈ tg_gG := tg_mem (List.mem_of_getElem? (i := 722) (by decide +kernel)) (by decide +kernel)
theorem wm_X7_286 : Cond.methodLink RX7 286 yX6_lengthOfAll ∈ tg_gG := tg_mem (List.mem_of_getElem? (i := 723) (by decide +kernel)) (by decide +kernel)
theorem wc_X7_count : Cond.code yX7_count cX7_count 2 (some .int) ∈ tg_gG := tg_mem (List.mem_of_getElem? (i := 721) (by decide +kernel)) (by decide +kernel)
theorem wv_X7_count : Cond.instanceMethod yX7_count ∈ tg_gG := tg_mem (List.mem_of_getElem? (i := 719) (by decide +kernel)) (by decide +kernel)
theorem ws_X7_count : Cond.selects yX7_count.cls yX7_count yX7_count ∈ tg_gG := tg_mem (List.mem_of_getElem? (i := 720) (by decide +kernel)) (by decide +kernel)
theorem wk_X7_291 : Cond.constantLong RX7 291 (31) ∈ tg_gG := tg_mem (List.mem_of_getElem? (i := 732) (by decide +kernel)) (by decide +kernel)
theorem wm_X7_333 : Cond.methodLink RX7 333 yX7_call ∈ tg_gG := tg_mem (List.mem_of_getElem? (i := 739) (by decide +kernel)) (by decide +kernel)
theorem wm_X7_336 : Cond.methodLink RX7 336 yX7_rope ∈ tg_gG := tg_mem (List.mem_of_getElem? (i := 740) (by decide +kernel)) (by decide +kernel)
theorem wc_X7_withBeat : Cond.code yX7_withBeat cX7_withBeat 7 (some .long) ∈ tg_gG := tg_mem (List.mem_of_getElem? (i := 738) (by decide +kernel)) (by decide +kernel)
theorem wv_X7_withBeat : Cond.instanceMethod yX7_withBeat ∈ tg_gG := tg_mem (List.mem_of_getElem? (i := 737) (by decide +kernel)) (by decide +kernel)
theorem ws_X7_withBeat : Cond.selects yX7_withBeat.cls yX7_withBeat yX7_withBeat ∈ tg_gG := tg_mem (List.mem_of_getElem? (i := 22) (by decide +kernel)) (by decide +kernel)
theorem wf_X7_341 : Cond.fieldLink RX7 341 "TugOfWar" "DIGEST_BEATS" "[I" ∈ tg_gG := tg_mem (List.mem_of_getElem? (i := 746) (by decide +kernel)) (by decide +kernel)
theorem wm_X7_338 : Cond.methodLink RX7 338 yX7_puller ∈ tg_gG := tg_mem (List.mem_of_getElem? (i := 745) (by decide +kernel)) (by decide +kernel)
theorem wm_X7_347 : Cond.methodLink RX7 347 yX7_done ∈ tg_gG := tg_mem (List.mem_of_getElem? (i := 749) (by decide +kernel)) (by decide +kernel)
theorem wm_X7_350 : Cond.methodLink RX7 350 yX7_was ∈ tg_gG := tg_mem (List.mem_of_getElem? (i := 750) (by decide +kernel)) (by decide +kernel)
theorem wm_X7_353 : Cond.methodLink RX7 353 yX7_ask ∈ tg_gG := tg_mem (List.mem_of_getElem? (i := 751) (by decide +kernel)) (by decide +kernel)
theorem wm_X7_344 : Cond.methodLink RX7 344 yX7_at ∈ tg_gG := tg_mem (List.mem_of_getElem? (i := 748) (by decide +kernel)) (by decide +kernel)
theorem wc_X7_withPuller : Cond.code yX7_withPuller cX7_withPuller 10 (some .long) ∈ tg_gG := tg_mem (List.mem_of_getElem? (i := 744) (by decide +kernel)) (by decide +kernel)
theorem wv_X7_withPuller : Cond.instanceMethod yX7_withPuller ∈ tg_gG := tg_mem (List.mem_of_getElem? (i := 743) (by decide +kernel)) (by decide +kernel)
theorem ws_X7_withPuller : Cond.selects yX7_withPuller.cls yX7_withPuller yX7_withPuller ∈ tg_gG := tg_mem (List.mem_of_getElem? (i := 23) (by decide +kernel)) (by decide +kernel)
theorem wm_X7_356 : Cond.methodLink RX7 356 yX7_better ∈ tg_gG := tg_mem (List.mem_of_getElem? (i := 756) (by decide +kernel)) (by decide +kernel)
theorem wm_X7_362 : Cond.methodLink RX7 362 yX7_out ∈ tg_gG := tg_mem (List.mem_of_getElem? (i := 758) (by decide +kernel)) (by decide +kernel)
theorem wm_X7_365 : Cond.methodLink RX7 365 yX7_chance ∈ tg_gG := tg_mem (List.mem_of_getElem? (i := 759) (by decide +kernel)) (by decide +kernel)
theorem wm_X7_359 : Cond.methodLink RX7 359 yX7_swap ∈ tg_gG := tg_mem (List.mem_of_getElem? (i := 757) (by decide +kernel)) (by decide +kernel)
theorem wc_X7_withTeam : Cond.code yX7_withTeam cX7_withTeam 7 (some .long) ∈ tg_gG := tg_mem (List.mem_of_getElem? (i := 755) (by decide +kernel)) (by decide +kernel)
theorem wv_X7_withTeam : Cond.instanceMethod yX7_withTeam ∈ tg_gG := tg_mem (List.mem_of_getElem? (i := 754) (by decide +kernel)) (by decide +kernel)
theorem ws_X7_withTeam : Cond.selects yX7_withTeam.cls yX7_withTeam yX7_withTeam ∈ tg_gG := tg_mem (List.mem_of_getElem? (i := 24) (by decide +kernel)) (by decide +kernel)
theorem wk_X7_289 : Cond.constantLong RX7 289 (17) ∈ tg_gG := tg_mem (List.mem_of_getElem? (i := 731) (by decide +kernel)) (by decide +kernel)
theorem wm_X7_293 : Cond.methodLink RX7 293 yX7_count ∈ tg_gG := tg_mem (List.mem_of_getElem? (i := 733) (by decide +kernel)) (by decide +kernel)
theorem wm_X7_296 : Cond.methodLink RX7 296 yX7_fault ∈ tg_gG := tg_mem (List.mem_of_getElem? (i := 734) (by decide +kernel)) (by decide +kernel)
theorem wm_X7_299 : Cond.methodLink RX7 299 yX7_withBeat ∈ tg_gG := tg_mem (List.mem_of_getElem? (i := 735) (by decide +kernel)) (by decide +kernel)
theorem wm_X7_303 : Cond.methodLink RX7 303 yX7_withPuller ∈ tg_gG := tg_mem (List.mem_of_getElem? (i := 741) (by decide +kernel)) (by decide +kernel)
theorem wm_X7_309 : Cond.methodLink RX7 309 yX7_won ∈ tg_gG := tg_mem (List.mem_of_getElem? (i := 760) (by decide +kernel)) (by decide +kernel)
theorem wm_X7_312 : Cond.methodLink RX7 312 yX7_furthest ∈ tg_gG := tg_mem (List.mem_of_getElem? (i := 761) (by decide +kernel)) (by decide +kernel)
theorem wm_X7_315 : Cond.methodLink RX7 315 yX7_spent ∈ tg_gG := tg_mem (List.mem_of_getElem? (i := 762) (by decide +kernel)) (by decide +kernel)
theorem wm_X7_318 : Cond.methodLink RX7 318 yX7_best ∈ tg_gG := tg_mem (List.mem_of_getElem? (i := 763) (by decide +kernel)) (by decide +kernel)
theorem wm_X7_321 : Cond.methodLink RX7 321 yX7_level ∈ tg_gG := tg_mem (List.mem_of_getElem? (i := 764) (by decide +kernel)) (by decide +kernel)
theorem wm_X7_324 : Cond.methodLink RX7 324 yX7_spare ∈ tg_gG := tg_mem (List.mem_of_getElem? (i := 765) (by decide +kernel)) (by decide +kernel)
theorem wm_X7_327 : Cond.methodLink RX7 327 yX7_never ∈ tg_gG := tg_mem (List.mem_of_getElem? (i := 766) (by decide +kernel)) (by decide +kernel)
theorem wm_X7_330 : Cond.methodLink RX7 330 yX7_years ∈ tg_gG := tg_mem (List.mem_of_getElem? (i := 767) (by decide +kernel)) (by decide +kernel)
theorem wm_X7_306 : Cond.methodLink RX7 306 yX7_withTeam ∈ tg_gG := tg_mem (List.mem_of_getElem? (i := 752) (by decide +kernel)) (by decide +kernel)
theorem wc_X7_digest : Cond.code yX7_digest cX7_digest 4 (some .long) ∈ tg_gG := tg_mem (List.mem_of_getElem? (i := 730) (by decide +kernel)) (by decide +kernel)
theorem wv_X7_digest : Cond.instanceMethod yX7_digest ∈ tg_gG := tg_mem (List.mem_of_getElem? (i := 728) (by decide +kernel)) (by decide +kernel)
theorem ws_X7_digest : Cond.selects yX7_digest.cls yX7_digest yX7_digest ∈ tg_gG := tg_mem (List.mem_of_getElem? (i := 729) (by decide +kernel)) (by decide +kernel)
theorem wc_X8_in : Cond.code yX8_in cX8_in 3 (some .boolean) ∈ tg_gG := tg_mem (List.mem_of_getElem? (i := 925) (by decide +kernel)) (by decide +kernel)
theorem wi_X8 : Cond.initialized RX8 ∈ tg_gG := tg_mem (List.mem_of_getElem? (i := 85) (by decide +kernel)) (by decide +kernel)
theorem wt_X8_in : Cond.static yX8_in ∈ tg_gG := tg_mem (List.mem_of_getElem? (i := 924) (by decide +kernel)) (by decide +kernel)
theorem wc_X8_isIn : Cond.code yX8_isIn cX8_isIn 2 (some .boolean) ∈ tg_gG := tg_mem (List.mem_of_getElem? (i := 1056) (by decide +kernel)) (by decide +kernel)
theorem wt_X8_isIn : Cond.static yX8_isIn ∈ tg_gG := tg_mem (List.mem_of_getElem? (i := 1055) (by decide +kernel)) (by decide +kernel)
theorem wk_X8_107 : Cond.constantLong RX8 107 (-9223372036854775808) ∈ tg_gG := tg_mem (List.mem_of_getElem? (i := 1227) (by decide +kernel)) (by decide +kernel)
theorem wc_X8_no : Cond.code yX8_no cX8_no 1 (some .long) ∈ tg_gG := tg_mem (List.mem_of_getElem? (i := 1226) (by decide +kernel)) (by decide +kernel)
theorem wt_X8_no : Cond.static yX8_no ∈ tg_gG := tg_mem (List.mem_of_getElem? (i := 1225) (by decide +kernel)) (by decide +kernel)
theorem wc_X8_lowest : Cond.code yX8_lowest cX8_lowest 11 (some .long) ∈ tg_gG := tg_mem (List.mem_of_getElem? (i := 1223) (by decide +kernel)) (by decide +kernel)
theorem wt_X8_lowest : Cond.static yX8_lowest ∈ tg_gG := tg_mem (List.mem_of_getElem? (i := 1222) (by decide +kernel)) (by decide +kernel)
theorem wm_X8_109 : Cond.methodLink RX8 109 yX8_in ∈ tg_gG := tg_mem (List.mem_of_getElem? (i := 923) (by decide +kernel)) (by decide +kernel)
theorem wc_X8_isText : Cond.code yX8_isText cX8_isText 1 (some .boolean) ∈ tg_gG := tg_mem (List.mem_of_getElem? (i := 922) (by decide +kernel)) (by decide +kernel)
theorem wt_X8_isText : Cond.static yX8_isText ∈ tg_gG := tg_mem (List.mem_of_getElem? (i := 921) (by decide +kernel)) (by decide +kernel)
theorem wc_X8_isBeat : Cond.code yX8_isBeat cX8_isBeat 1 (some .boolean) ∈ tg_gG := tg_mem (List.mem_of_getElem? (i := 993) (by decide +kernel)) (by decide +kernel)
theorem wt_X8_isBeat : Cond.static yX8_isBeat ∈ tg_gG := tg_mem (List.mem_of_getElem? (i := 992) (by decide +kernel)) (by decide +kernel)
theorem wc_X8_isTwo : Cond.code yX8_isTwo cX8_isTwo 1 (some .boolean) ∈ tg_gG := tg_mem (List.mem_of_getElem? (i := 990) (by decide +kernel)) (by decide +kernel)
theorem wt_X8_isTwo : Cond.static yX8_isTwo ∈ tg_gG := tg_mem (List.mem_of_getElem? (i := 989) (by decide +kernel)) (by decide +kernel)
theorem wc_X8_isThree : Cond.code yX8_isThree cX8_isThree 1 (some .boolean) ∈ tg_gG := tg_mem (List.mem_of_getElem? (i := 979) (by decide +kernel)) (by decide +kernel)
theorem wt_X8_isThree : Cond.static yX8_isThree ∈ tg_gG := tg_mem (List.mem_of_getElem? (i := 978) (by decide +kernel)) (by decide +kernel)
theorem wm_X8_113 : Cond.methodLink RX8 113 yX8_isText ∈ tg_gG := tg_mem (List.mem_of_getElem? (i := 920) (by decide +kernel)) (by decide +kernel)
theorem wf_X8_7 : Cond.fieldLink RX8 7 (TX8 0).1 (TX8 0).2.1 (TX8 0).2.2.1 ∈ tg_gG := tg_mem (List.mem_of_getElem? (i := 774) (by decide +kernel)) (by decide +kernel)
theorem wf_X8_13 : Cond.fieldLink RX8 13 (TX8 1).1 (TX8 1).2.1 (TX8 1).2.2.1 ∈ tg_gG := tg_mem (List.mem_of_getElem? (i := 775) (by decide +kernel)) (by decide +kernel)
theorem wc_X8_type : Cond.code yX8_type cX8_type 3 (some .int) ∈ tg_gG := tg_mem (List.mem_of_getElem? (i := 919) (by decide +kernel)) (by decide +kernel)
theorem wv_X8_type : Cond.instanceMethod yX8_type ∈ tg_gG := tg_mem (List.mem_of_getElem? (i := 917) (by decide +kernel)) (by decide +kernel)
theorem ws_X8_type : Cond.selects yX8_type.cls yX8_type yX8_type ∈ tg_gG := tg_mem (List.mem_of_getElem? (i := 918) (by decide +kernel)) (by decide +kernel)
theorem wc_X8_wipe : Cond.code yX8_wipe cX8_wipe 3 (some .int) ∈ tg_gG := tg_mem (List.mem_of_getElem? (i := 929) (by decide +kernel)) (by decide +kernel)
theorem wv_X8_wipe : Cond.instanceMethod yX8_wipe ∈ tg_gG := tg_mem (List.mem_of_getElem? (i := 927) (by decide +kernel)) (by decide +kernel)
theorem ws_X8_wipe : Cond.selects yX8_wipe.cls yX8_wipe yX8_wipe ∈ tg_gG := tg_mem (List.mem_of_getElem? (i := 928) (by decide +kernel)) (by decide +kernel)
theorem wc_X8_undo : Cond.code yX8_undo cX8_undo 2 (some .int) ∈ tg_gG := tg_mem (List.mem_of_getElem? (i := 933) (by decide +kernel)) (by decide +kernel)
theorem wv_X8_undo : Cond.instanceMethod yX8_undo ∈ tg_gG := tg_mem (List.mem_of_getElem? (i := 931) (by decide +kernel)) (by decide +kernel)
theorem ws_X8_undo : Cond.selects yX8_undo.cls yX8_undo yX8_undo ∈ tg_gG := tg_mem (List.mem_of_getElem? (i := 932) (by decide +kernel)) (by decide +kernel)
theorem wc_X8_byteAt : Cond.code yX8_byteAt cX8_byteAt 3 (some .int) ∈ tg_gG := tg_mem (List.mem_of_getElem? (i := 953) (by decide +kernel)) (by decide +kernel)
theorem wv_X8_byteAt : Cond.instanceMethod yX8_byteAt ∈ tg_gG := tg_mem (List.mem_of_getElem? (i := 952) (by decide +kernel)) (by decide +kernel)
theorem ws_X8_byteAt : Cond.selects yX8_byteAt.cls yX8_byteAt yX8_byteAt ∈ tg_gG := tg_mem (List.mem_of_getElem? (i := 28) (by decide +kernel)) (by decide +kernel)
theorem wm_X8_117 : Cond.methodLink RX8 117 yX8_byteAt ∈ tg_gG := tg_mem (List.mem_of_getElem? (i := 950) (by decide +kernel)) (by decide +kernel)
theorem wf_X8_19 : Cond.fieldLink RX8 19 (TX8 3).1 (TX8 3).2.1 (TX8 3).2.2.1 ∈ tg_gG := tg_mem (List.mem_of_getElem? (i := 777) (by decide +kernel)) (by decide +kernel)
theorem wf_X8_22 : Cond.fieldLink RX8 22 (TX8 4).1 (TX8 4).2.1 (TX8 4).2.2.1 ∈ tg_gG := tg_mem (List.mem_of_getElem? (i := 778) (by decide +kernel)) (by decide +kernel)
theorem wf_X8_25 : Cond.fieldLink RX8 25 (TX8 5).1 (TX8 5).2.1 (TX8 5).2.2.1 ∈ tg_gG := tg_mem (List.mem_of_getElem? (i := 779) (by decide +kernel)) (by decide +kernel)
theorem wc_X8_readsPuller : Cond.code yX8_readsPuller cX8_readsPuller 8 (some .int) ∈ tg_gG := tg_mem (List.mem_of_getElem? (i := 949) (by decide +kernel)) (by decide +kernel)
theorem wv_X8_readsPuller : Cond.instanceMethod yX8_readsPuller ∈ tg_gG := tg_mem (List.mem_of_getElem? (i := 948) (by decide +kernel)) (by decide +kernel)
theorem ws_X8_readsPuller : Cond.selects yX8_readsPuller.cls yX8_readsPuller yX8_readsPuller ∈ tg_gG := tg_mem (List.mem_of_getElem? (i := 27) (by decide +kernel)) (by decide +kernel)
theorem wf_X8_16 : Cond.fieldLink RX8 16 (TX8 2).1 (TX8 2).2.1 (TX8 2).2.2.1 ∈ tg_gG := tg_mem (List.mem_of_getElem? (i := 776) (by decide +kernel)) (by decide +kernel)
theorem wm_X8_121 : Cond.methodLink RX8 121 yX8_readsPuller ∈ tg_gG := tg_mem (List.mem_of_getElem? (i := 946) (by decide +kernel)) (by decide +kernel)
theorem wc_X8_readsTeam : Cond.code yX8_readsTeam cX8_readsTeam 5 (some .int) ∈ tg_gG := tg_mem (List.mem_of_getElem? (i := 945) (by decide +kernel)) (by decide +kernel)
theorem wv_X8_readsTeam : Cond.instanceMethod yX8_readsTeam ∈ tg_gG := tg_mem (List.mem_of_getElem? (i := 944) (by decide +kernel)) (by decide +kernel)
theorem ws_X8_readsTeam : Cond.selects yX8_readsTeam.cls yX8_readsTeam yX8_readsTeam ∈ tg_gG := tg_mem (List.mem_of_getElem? (i := 26) (by decide +kernel)) (by decide +kernel)
theorem wc_X8_callBy : Cond.code yX8_callBy cX8_callBy 1 (some .int) ∈ tg_gG := tg_mem (List.mem_of_getElem? (i := 960) (by decide +kernel)) (by decide +kernel)
theorem wt_X8_callBy : Cond.static yX8_callBy ∈ tg_gG := tg_mem (List.mem_of_getElem? (i := 959) (by decide +kernel)) (by decide +kernel)
theorem wf_X8_28 : Cond.fieldLink RX8 28 (TX8 6).1 (TX8 6).2.1 (TX8 6).2.2.1 ∈ tg_gG := tg_mem (List.mem_of_getElem? (i := 780) (by decide +kernel)) (by decide +kernel)
theorem wf_X8_31 : Cond.fieldLink RX8 31 (TX8 7).1 (TX8 7).2.1 (TX8 7).2.2.1 ∈ tg_gG := tg_mem (List.mem_of_getElem? (i := 781) (by decide +kernel)) (by decide +kernel)
theorem wm_X8_125 : Cond.methodLink RX8 125 yX8_callBy ∈ tg_gG := tg_mem (List.mem_of_getElem? (i := 958) (by decide +kernel)) (by decide +kernel)
theorem wc_X8_readsCalls : Cond.code yX8_readsCalls cX8_readsCalls 4 (some .int) ∈ tg_gG := tg_mem (List.mem_of_getElem? (i := 957) (by decide +kernel)) (by decide +kernel)
theorem wv_X8_readsCalls : Cond.instanceMethod yX8_readsCalls ∈ tg_gG := tg_mem (List.mem_of_getElem? (i := 956) (by decide +kernel)) (by decide +kernel)
theorem ws_X8_readsCalls : Cond.selects yX8_readsCalls.cls yX8_readsCalls yX8_readsCalls ∈ tg_gG := tg_mem (List.mem_of_getElem? (i := 29) (by decide +kernel)) (by decide +kernel)
theorem wm_X8_129 : Cond.methodLink RX8 129 yX8_readsTeam ∈ tg_gG := tg_mem (List.mem_of_getElem? (i := 942) (by decide +kernel)) (by decide +kernel)
theorem wm_X8_132 : Cond.methodLink RX8 132 yX8_readsCalls ∈ tg_gG := tg_mem (List.mem_of_getElem? (i := 954) (by decide +kernel)) (by decide +kernel)
theorem wc_X8_faultOf : Cond.code yX8_faultOf cX8_faultOf 6 (some .int) ∈ tg_gG := tg_mem (List.mem_of_getElem? (i := 941) (by decide +kernel)) (by decide +kernel)
theorem wv_X8_faultOf : Cond.instanceMethod yX8_faultOf ∈ tg_gG := tg_mem (List.mem_of_getElem? (i := 940) (by decide +kernel)) (by decide +kernel)
theorem ws_X8_faultOf : Cond.selects yX8_faultOf.cls yX8_faultOf yX8_faultOf ∈ tg_gG := tg_mem (List.mem_of_getElem? (i := 25) (by decide +kernel)) (by decide +kernel)
theorem wm_X8_135 : Cond.methodLink RX8 135 yX8_faultOf ∈ tg_gG := tg_mem (List.mem_of_getElem? (i := 938) (by decide +kernel)) (by decide +kernel)
theorem wc_X8_reads : Cond.code yX8_reads cX8_reads 2 none ∈ tg_gG := tg_mem (List.mem_of_getElem? (i := 972) (by decide +kernel)) (by decide +kernel)
theorem wv_X8_reads : Cond.instanceMethod yX8_reads ∈ tg_gG := tg_mem (List.mem_of_getElem? (i := 971) (by decide +kernel)) (by decide +kernel)
theorem ws_X8_reads : Cond.selects yX8_reads.cls yX8_reads yX8_reads ∈ tg_gG := tg_mem (List.mem_of_getElem? (i := 31) (by decide +kernel)) (by decide +kernel)
theorem wc_X8_fault : Cond.code yX8_fault cX8_fault 2 (some .int) ∈ tg_gG := tg_mem (List.mem_of_getElem? (i := 937) (by decide +kernel)) (by decide +kernel)
theorem wv_X8_fault : Cond.instanceMethod yX8_fault ∈ tg_gG := tg_mem (List.mem_of_getElem? (i := 935) (by decide +kernel)) (by decide +kernel)
theorem ws_X8_fault : Cond.selects yX8_fault.cls yX8_fault yX8_fault ∈ tg_gG := tg_mem (List.mem_of_getElem? (i := 936) (by decide +kernel)) (by decide +kernel)
theorem wc_X8_isThereOne : Cond.code yX8_isThereOne cX8_isThereOne 2 (some .boolean) ∈ tg_gG := tg_mem (List.mem_of_getElem? (i := 976) (by decide +kernel)) (by decide +kernel)
theorem wv_X8_isThereOne : Cond.instanceMethod yX8_isThereOne ∈ tg_gG := tg_mem (List.mem_of_getElem? (i := 975) (by decide +kernel)) (by decide +kernel)
theorem ws_X8_isThereOne : Cond.selects yX8_isThereOne.cls yX8_isThereOne yX8_isThereOne ∈ tg_gG := tg_mem (List.mem_of_getElem? (i := 32) (by decide +kernel)) (by decide +kernel)
theorem wm_X8_138 : Cond.methodLink RX8 138 yX8_reads ∈ tg_gG := tg_mem (List.mem_of_getElem? (i := 969) (by decide +kernel)) (by decide +kernel)
theorem wm_X8_141 : Cond.methodLink RX8 141 yX8_isThereOne ∈ tg_gG := tg_mem (List.mem_of_getElem? (i := 973) (by decide +kernel)) (by decide +kernel)
theorem wc_X8_isPuller : Cond.code yX8_isPuller cX8_isPuller 2 (some .boolean) ∈ tg_gG := tg_mem (List.mem_of_getElem? (i := 968) (by decide +kernel)) (by decide +kernel)
theorem wv_X8_isPuller : Cond.instanceMethod yX8_isPuller ∈ tg_gG := tg_mem (List.mem_of_getElem? (i := 967) (by decide +kernel)) (by decide +kernel)
theorem ws_X8_isPuller : Cond.selects yX8_isPuller.cls yX8_isPuller yX8_isPuller ∈ tg_gG := tg_mem (List.mem_of_getElem? (i := 30) (by decide +kernel)) (by decide +kernel)
theorem wc_X8_pullerOf : Cond.code yX8_pullerOf cX8_pullerOf 3 (some .int) ∈ tg_gG := tg_mem (List.mem_of_getElem? (i := 983) (by decide +kernel)) (by decide +kernel)
theorem wv_X8_pullerOf : Cond.instanceMethod yX8_pullerOf ∈ tg_gG := tg_mem (List.mem_of_getElem? (i := 982) (by decide +kernel)) (by decide +kernel)
theorem ws_X8_pullerOf : Cond.selects yX8_pullerOf.cls yX8_pullerOf yX8_pullerOf ∈ tg_gG := tg_mem (List.mem_of_getElem? (i := 33) (by decide +kernel)) (by decide +kernel)
theorem wm_X8_144 : Cond.methodLink RX8 144 yX8_isPuller ∈ tg_gG := tg_mem (List.mem_of_getElem? (i := 965) (by decide +kernel)) (by decide +kernel)
theorem wm_X8_147 : Cond.methodLink RX8 147 yX8_isThree ∈ tg_gG := tg_mem (List.mem_of_getElem? (i := 977) (by decide +kernel)) (by decide +kernel)
theorem wm_X8_150 : Cond.methodLink RX8 150 yX8_pullerOf ∈ tg_gG := tg_mem (List.mem_of_getElem? (i := 980) (by decide +kernel)) (by decide +kernel)
theorem wc_X8_puller : Cond.code yX8_puller cX8_puller 3 (some .int) ∈ tg_gG := tg_mem (List.mem_of_getElem? (i := 964) (by decide +kernel)) (by decide +kernel)
theorem wv_X8_puller : Cond.instanceMethod yX8_puller ∈ tg_gG := tg_mem (List.mem_of_getElem? (i := 962) (by decide +kernel)) (by decide +kernel)
theorem ws_X8_puller : Cond.selects yX8_puller.cls yX8_puller yX8_puller ∈ tg_gG := tg_mem (List.mem_of_getElem? (i := 963) (by decide +kernel)) (by decide +kernel)
theorem wc_X8_callOf : Cond.code yX8_callOf cX8_callOf 3 (some .int) ∈ tg_gG := tg_mem (List.mem_of_getElem? (i := 997) (by decide +kernel)) (by decide +kernel)
theorem wv_X8_callOf : Cond.instanceMethod yX8_callOf ∈ tg_gG := tg_mem (List.mem_of_getElem? (i := 996) (by decide +kernel)) (by decide +kernel)
theorem ws_X8_callOf : Cond.selects yX8_callOf.cls yX8_callOf yX8_callOf ∈ tg_gG := tg_mem (List.mem_of_getElem? (i := 34) (by decide +kernel)) (by decide +kernel)
theorem wm_X8_153 : Cond.methodLink RX8 153 yX8_isTwo ∈ tg_gG := tg_mem (List.mem_of_getElem? (i := 988) (by decide +kernel)) (by decide +kernel)
theorem wm_X8_156 : Cond.methodLink RX8 156 yX8_isBeat ∈ tg_gG := tg_mem (List.mem_of_getElem? (i := 991) (by decide +kernel)) (by decide +kernel)
theorem wm_X8_159 : Cond.methodLink RX8 159 yX8_callOf ∈ tg_gG := tg_mem (List.mem_of_getElem? (i := 994) (by decide +kernel)) (by decide +kernel)
theorem wc_X8_call : Cond.code yX8_call cX8_call 3 (some .int) ∈ tg_gG := tg_mem (List.mem_of_getElem? (i := 987) (by decide +kernel)) (by decide +kernel)
theorem wv_X8_call : Cond.instanceMethod yX8_call ∈ tg_gG := tg_mem (List.mem_of_getElem? (i := 985) (by decide +kernel)) (by decide +kernel)
theorem ws_X8_call : Cond.selects yX8_call.cls yX8_call yX8_call ∈ tg_gG := tg_mem (List.mem_of_getElem? (i := 986) (by decide +kernel)) (by decide +kernel)
theorem wf_X8_162 : Cond.fieldLink RX8 162 (TX8 8).1 (TX8 8).2.1 (TX8 8).2.2.1 ∈ tg_gG := tg_mem (List.mem_of_getElem? (i := 782) (by decide +kernel)) (by decide +kernel)
theorem wc_X8_mud : Cond.code yX8_mud cX8_mud 3 (some .int) ∈ tg_gG := tg_mem (List.mem_of_getElem? (i := 1001) (by decide +kernel)) (by decide +kernel)
theorem wv_X8_mud : Cond.instanceMethod yX8_mud ∈ tg_gG := tg_mem (List.mem_of_getElem? (i := 999) (by decide +kernel)) (by decide +kernel)
theorem ws_X8_mud : Cond.selects yX8_mud.cls yX8_mud yX8_mud ∈ tg_gG := tg_mem (List.mem_of_getElem? (i := 1000) (by decide +kernel)) (by decide +kernel)
theorem wf_X8_166 : Cond.fieldLink RX8 166 (TX8 9).1 (TX8 9).2.1 (TX8 9).2.2.1 ∈ tg_gG := tg_mem (List.mem_of_getElem? (i := 783) (by decide +kernel)) (by decide +kernel)
theorem wf_X8_34 : Cond.fieldLink RX8 34 (TX8 10).1 (TX8 10).2.1 (TX8 10).2.2.1 ∈ tg_gG := tg_mem (List.mem_of_getElem? (i := 784) (by decide +kernel)) (by decide +kernel)
theorem wf_X8_37 : Cond.fieldLink RX8 37 (TX8 11).1 (TX8 11).2.1 (TX8 11).2.2.1 ∈ tg_gG := tg_mem (List.mem_of_getElem? (i := 785) (by decide +kernel)) (by decide +kernel)
theorem wf_X8_40 : Cond.fieldLink RX8 40 (TX8 12).1 (TX8 12).2.1 (TX8 12).2.2.1 ∈ tg_gG := tg_mem (List.mem_of_getElem? (i := 786) (by decide +kernel)) (by decide +kernel)
theorem wc_X8_event : Cond.code yX8_event cX8_event 4 (some .int) ∈ tg_gG := tg_mem (List.mem_of_getElem? (i := 1005) (by decide +kernel)) (by decide +kernel)
theorem wv_X8_event : Cond.instanceMethod yX8_event ∈ tg_gG := tg_mem (List.mem_of_getElem? (i := 1003) (by decide +kernel)) (by decide +kernel)
theorem ws_X8_event : Cond.selects yX8_event.cls yX8_event yX8_event ∈ tg_gG := tg_mem (List.mem_of_getElem? (i := 1004) (by decide +kernel)) (by decide +kernel)
theorem wc_X8_back : Cond.code yX8_back cX8_back 1 (some .int) ∈ tg_gG := tg_mem (List.mem_of_getElem? (i := 1009) (by decide +kernel)) (by decide +kernel)
theorem wv_X8_back : Cond.instanceMethod yX8_back ∈ tg_gG := tg_mem (List.mem_of_getElem? (i := 1007) (by decide +kernel)) (by decide +kernel)
theorem ws_X8_back : Cond.selects yX8_back.cls yX8_back yX8_back ∈ tg_gG := tg_mem (List.mem_of_getElem? (i := 1008) (by decide +kernel)) (by decide +kernel)
theorem wc_X8_isSheet : Cond.code yX8_isSheet cX8_isSheet 1 (some .boolean) ∈ tg_gG := tg_mem (List.mem_of_getElem? (i := 1016) (by decide +kernel)) (by decide +kernel)
theorem wt_X8_isSheet : Cond.static yX8_isSheet ∈ tg_gG := tg_mem (List.mem_of_getElem? (i := 1015) (by decide +kernel)) (by decide +kernel)
theorem wf_X8_328 : Cond.fieldLink RX8 328 (TX8 46).1 (TX8 46).2.1 (TX8 46).2.2.1 ∈ tg_gG := tg_mem (List.mem_of_getElem? (i := 820) (by decide +kernel)) (by decide +kernel)
theorem wc_X8_meets : Cond.code yX8_meets cX8_meets 2 (some .int) ∈ tg_gG := tg_mem (List.mem_of_getElem? (i := 1020) (by decide +kernel)) (by decide +kernel)
theorem wv_X8_meets : Cond.instanceMethod yX8_meets ∈ tg_gG := tg_mem (List.mem_of_getElem? (i := 1019) (by decide +kernel)) (by decide +kernel)
theorem ws_X8_meets : Cond.selects yX8_meets.cls yX8_meets yX8_meets ∈ tg_gG := tg_mem (List.mem_of_getElem? (i := 35) (by decide +kernel)) (by decide +kernel)
theorem wm_X8_169 : Cond.methodLink RX8 169 yX8_isSheet ∈ tg_gG := tg_mem (List.mem_of_getElem? (i := 1014) (by decide +kernel)) (by decide +kernel)
theorem wf_X8_91 : Cond.fieldLink RX8 91 (TX8 41).1 (TX8 41).2.1 (TX8 41).2.2.1 ∈ tg_gG := tg_mem (List.mem_of_getElem? (i := 815) (by decide +kernel)) (by decide +kernel)
theorem wm_X8_172 : Cond.methodLink RX8 172 yX8_meets ∈ tg_gG := tg_mem (List.mem_of_getElem? (i := 1017) (by decide +kernel)) (by decide +kernel)
theorem wf_X8_98 : Cond.fieldLink RX8 98 (TX8 43).1 (TX8 43).2.1 (TX8 43).2.2.1 ∈ tg_gG := tg_mem (List.mem_of_getElem? (i := 817) (by decide +kernel)) (by decide +kernel)
theorem wf_X8_101 : Cond.fieldLink RX8 101 (TX8 44).1 (TX8 44).2.1 (TX8 44).2.2.1 ∈ tg_gG := tg_mem (List.mem_of_getElem? (i := 818) (by decide +kernel)) (by decide +kernel)
theorem wm_X8_175 : Cond.methodLink RX8 175 yX8_event ∈ tg_gG := tg_mem (List.mem_of_getElem? (i := 1021) (by decide +kernel)) (by decide +kernel)
theorem wc_X8_read : Cond.code yX8_read cX8_read 4 (some .int) ∈ tg_gG := tg_mem (List.mem_of_getElem? (i := 1013) (by decide +kernel)) (by decide +kernel)
theorem wv_X8_read : Cond.instanceMethod yX8_read ∈ tg_gG := tg_mem (List.mem_of_getElem? (i := 1011) (by decide +kernel)) (by decide +kernel)
theorem ws_X8_read : Cond.selects yX8_read.cls yX8_read yX8_read ∈ tg_gG := tg_mem (List.mem_of_getElem? (i := 1012) (by decide +kernel)) (by decide +kernel)
theorem wf_X8_178 : Cond.fieldLink RX8 178 (TX8 14).1 (TX8 14).2.1 (TX8 14).2.2.1 ∈ tg_gG := tg_mem (List.mem_of_getElem? (i := 788) (by decide +kernel)) (by decide +kernel)
theorem wf_X8_43 : Cond.fieldLink RX8 43 (TX8 13).1 (TX8 13).2.1 (TX8 13).2.2.1 ∈ tg_gG := tg_mem (List.mem_of_getElem? (i := 787) (by decide +kernel)) (by decide +kernel)
theorem wf_X8_181 : Cond.fieldLink RX8 181 (TX8 16).1 (TX8 16).2.1 (TX8 16).2.2.1 ∈ tg_gG := tg_mem (List.mem_of_getElem? (i := 790) (by decide +kernel)) (by decide +kernel)
theorem wf_X8_46 : Cond.fieldLink RX8 46 (TX8 15).1 (TX8 15).2.1 (TX8 15).2.2.1 ∈ tg_gG := tg_mem (List.mem_of_getElem? (i := 789) (by decide +kernel)) (by decide +kernel)
theorem wc_X8_asTold : Cond.code yX8_asTold cX8_asTold 2 none ∈ tg_gG := tg_mem (List.mem_of_getElem? (i := 1037) (by decide +kernel)) (by decide +kernel)
theorem wv_X8_asTold : Cond.instanceMethod yX8_asTold ∈ tg_gG := tg_mem (List.mem_of_getElem? (i := 1036) (by decide +kernel)) (by decide +kernel)
theorem ws_X8_asTold : Cond.selects yX8_asTold.cls yX8_asTold yX8_asTold ∈ tg_gG := tg_mem (List.mem_of_getElem? (i := 38) (by decide +kernel)) (by decide +kernel)
theorem wc_X8_isHere : Cond.code yX8_isHere cX8_isHere 2 (some .boolean) ∈ tg_gG := tg_mem (List.mem_of_getElem? (i := 1045) (by decide +kernel)) (by decide +kernel)
theorem wv_X8_isHere : Cond.instanceMethod yX8_isHere ∈ tg_gG := tg_mem (List.mem_of_getElem? (i := 1044) (by decide +kernel)) (by decide +kernel)
theorem ws_X8_isHere : Cond.selects yX8_isHere.cls yX8_isHere yX8_isHere ∈ tg_gG := tg_mem (List.mem_of_getElem? (i := 40) (by decide +kernel)) (by decide +kernel)
theorem wf_X8_184 : Cond.fieldLink RX8 184 (TX8 19).1 (TX8 19).2.1 (TX8 19).2.2.1 ∈ tg_gG := tg_mem (List.mem_of_getElem? (i := 793) (by decide +kernel)) (by decide +kernel)
theorem wf_X8_187 : Cond.fieldLink RX8 187 (TX8 20).1 (TX8 20).2.1 (TX8 20).2.2.1 ∈ tg_gG := tg_mem (List.mem_of_getElem? (i := 794) (by decide +kernel)) (by decide +kernel)
theorem wm_X8_190 : Cond.methodLink RX8 190 yX8_isIn ∈ tg_gG := tg_mem (List.mem_of_getElem? (i := 1054) (by decide +kernel)) (by decide +kernel)
theorem wf_X8_194 : Cond.fieldLink RX8 194 (TX8 18).1 (TX8 18).2.1 (TX8 18).2.2.1 ∈ tg_gG := tg_mem (List.mem_of_getElem? (i := 792) (by decide +kernel)) (by decide +kernel)
theorem wc_X8_befalls : Cond.code yX8_befalls cX8_befalls 3 none ∈ tg_gG := tg_mem (List.mem_of_getElem? (i := 1053) (by decide +kernel)) (by decide +kernel)
theorem wv_X8_befalls : Cond.instanceMethod yX8_befalls ∈ tg_gG := tg_mem (List.mem_of_getElem? (i := 1052) (by decide +kernel)) (by decide +kernel)
theorem ws_X8_befalls : Cond.selects yX8_befalls.cls yX8_befalls yX8_befalls ∈ tg_gG := tg_mem (List.mem_of_getElem? (i := 42) (by decide +kernel)) (by decide +kernel)
theorem wf_X8_49 : Cond.fieldLink RX8 49 (TX8 17).1 (TX8 17).2.1 (TX8 17).2.2.1 ∈ tg_gG := tg_mem (List.mem_of_getElem? (i := 791) (by decide +kernel)) (by decide +kernel)
theorem wf_X8_52 : Cond.fieldLink RX8 52 (TX8 25).1 (TX8 25).2.1 (TX8 25).2.2.1 ∈ tg_gG := tg_mem (List.mem_of_getElem? (i := 799) (by decide +kernel)) (by decide +kernel)
theorem wc_X8_strength : Cond.code yX8_strength cX8_strength 5 (some .int) ∈ tg_gG := tg_mem (List.mem_of_getElem? (i := 1064) (by decide +kernel)) (by decide +kernel)
theorem wv_X8_strength : Cond.instanceMethod yX8_strength ∈ tg_gG := tg_mem (List.mem_of_getElem? (i := 1063) (by decide +kernel)) (by decide +kernel)
theorem ws_X8_strength : Cond.selects yX8_strength.cls yX8_strength yX8_strength ∈ tg_gG := tg_mem (List.mem_of_getElem? (i := 44) (by decide +kernel)) (by decide +kernel)
theorem wm_X8_197 : Cond.methodLink RX8 197 yX8_strength ∈ tg_gG := tg_mem (List.mem_of_getElem? (i := 1061) (by decide +kernel)) (by decide +kernel)
theorem wf_X8_58 : Cond.fieldLink RX8 58 (TX8 27).1 (TX8 27).2.1 (TX8 27).2.2.1 ∈ tg_gG := tg_mem (List.mem_of_getElem? (i := 801) (by decide +kernel)) (by decide +kernel)
theorem wf_X8_55 : Cond.fieldLink RX8 55 (TX8 26).1 (TX8 26).2.1 (TX8 26).2.2.1 ∈ tg_gG := tg_mem (List.mem_of_getElem? (i := 800) (by decide +kernel)) (by decide +kernel)
theorem wf_X8_61 : Cond.fieldLink RX8 61 (TX8 28).1 (TX8 28).2.1 (TX8 28).2.2.1 ∈ tg_gG := tg_mem (List.mem_of_getElem? (i := 802) (by decide +kernel)) (by decide +kernel)
theorem wc_X8_pullsOne : Cond.code yX8_pullsOne cX8_pullsOne 6 none ∈ tg_gG := tg_mem (List.mem_of_getElem? (i := 1060) (by decide +kernel)) (by decide +kernel)
theorem wv_X8_pullsOne : Cond.instanceMethod yX8_pullsOne ∈ tg_gG := tg_mem (List.mem_of_getElem? (i := 1059) (by decide +kernel)) (by decide +kernel)
theorem ws_X8_pullsOne : Cond.selects yX8_pullsOne.cls yX8_pullsOne yX8_pullsOne ∈ tg_gG := tg_mem (List.mem_of_getElem? (i := 43) (by decide +kernel)) (by decide +kernel)
theorem wf_X8_200 : Cond.fieldLink RX8 200 (TX8 24).1 (TX8 24).2.1 (TX8 24).2.2.1 ∈ tg_gG := tg_mem (List.mem_of_getElem? (i := 798) (by decide +kernel)) (by decide +kernel)
theorem wf_X8_203 : Cond.fieldLink RX8 203 (TX8 21).1 (TX8 21).2.1 (TX8 21).2.2.1 ∈ tg_gG := tg_mem (List.mem_of_getElem? (i := 795) (by decide +kernel)) (by decide +kernel)
theorem wf_X8_206 : Cond.fieldLink RX8 206 (TX8 22).1 (TX8 22).2.1 (TX8 22).2.2.1 ∈ tg_gG := tg_mem (List.mem_of_getElem? (i := 796) (by decide +kernel)) (by decide +kernel)
theorem wf_X8_209 : Cond.fieldLink RX8 209 (TX8 23).1 (TX8 23).2.1 (TX8 23).2.2.1 ∈ tg_gG := tg_mem (List.mem_of_getElem? (i := 797) (by decide +kernel)) (by decide +kernel)
theorem wc_X8_goes : Cond.code yX8_goes cX8_goes 4 none ∈ tg_gG := tg_mem (List.mem_of_getElem? (i := 1068) (by decide +kernel)) (by decide +kernel)
theorem wv_X8_goes : Cond.instanceMethod yX8_goes ∈ tg_gG := tg_mem (List.mem_of_getElem? (i := 1067) (by decide +kernel)) (by decide +kernel)
theorem ws_X8_goes : Cond.selects yX8_goes.cls yX8_goes yX8_goes ∈ tg_gG := tg_mem (List.mem_of_getElem? (i := 45) (by decide +kernel)) (by decide +kernel)
theorem wm_X8_212 : Cond.methodLink RX8 212 yX8_befalls ∈ tg_gG := tg_mem (List.mem_of_getElem? (i := 1050) (by decide +kernel)) (by decide +kernel)
theorem wm_X8_223 : Cond.methodLink RX8 223 yX8_goes ∈ tg_gG := tg_mem (List.mem_of_getElem? (i := 1065) (by decide +kernel)) (by decide +kernel)
theorem wm_X8_216 : Cond.methodLink RX8 216 yX8_isHere ∈ tg_gG := tg_mem (List.mem_of_getElem? (i := 1042) (by decide +kernel)) (by decide +kernel)
theorem wm_X8_219 : Cond.methodLink RX8 219 yX8_pullsOne ∈ tg_gG := tg_mem (List.mem_of_getElem? (i := 1057) (by decide +kernel)) (by decide +kernel)
theorem wf_X8_64 : Cond.fieldLink RX8 64 (TX8 29).1 (TX8 29).2.1 (TX8 29).2.2.1 ∈ tg_gG := tg_mem (List.mem_of_getElem? (i := 803) (by decide +kernel)) (by decide +kernel)
theorem wf_X8_67 : Cond.fieldLink RX8 67 (TX8 30).1 (TX8 30).2.1 (TX8 30).2.2.1 ∈ tg_gG := tg_mem (List.mem_of_getElem? (i := 804) (by decide +kernel)) (by decide +kernel)
theorem wf_X8_70 : Cond.fieldLink RX8 70 (TX8 31).1 (TX8 31).2.1 (TX8 31).2.2.1 ∈ tg_gG := tg_mem (List.mem_of_getElem? (i := 805) (by decide +kernel)) (by decide +kernel)
theorem wf_X8_73 : Cond.fieldLink RX8 73 (TX8 32).1 (TX8 32).2.1 (TX8 32).2.2.1 ∈ tg_gG := tg_mem (List.mem_of_getElem? (i := 806) (by decide +kernel)) (by decide +kernel)
theorem wf_X8_76 : Cond.fieldLink RX8 76 (TX8 33).1 (TX8 33).2.1 (TX8 33).2.2.1 ∈ tg_gG := tg_mem (List.mem_of_getElem? (i := 807) (by decide +kernel)) (by decide +kernel)
theorem wc_X8_goesBy : Cond.code yX8_goesBy cX8_goesBy 3 none ∈ tg_gG := tg_mem (List.mem_of_getElem? (i := 1049) (by decide +kernel)) (by decide +kernel)
theorem wv_X8_goesBy : Cond.instanceMethod yX8_goesBy ∈ tg_gG := tg_mem (List.mem_of_getElem? (i := 1048) (by decide +kernel)) (by decide +kernel)
theorem ws_X8_goesBy : Cond.selects yX8_goesBy.cls yX8_goesBy yX8_goesBy ∈ tg_gG := tg_mem (List.mem_of_getElem? (i := 41) (by decide +kernel)) (by decide +kernel)
theorem wm_X8_226 : Cond.methodLink RX8 226 yX8_goesBy ∈ tg_gG := tg_mem (List.mem_of_getElem? (i := 1046) (by decide +kernel)) (by decide +kernel)
theorem wc_X8_runs : Cond.code yX8_runs cX8_runs 4 none ∈ tg_gG := tg_mem (List.mem_of_getElem? (i := 1041) (by decide +kernel)) (by decide +kernel)
theorem wv_X8_runs : Cond.instanceMethod yX8_runs ∈ tg_gG := tg_mem (List.mem_of_getElem? (i := 1040) (by decide +kernel)) (by decide +kernel)
theorem ws_X8_runs : Cond.selects yX8_runs.cls yX8_runs yX8_runs ∈ tg_gG := tg_mem (List.mem_of_getElem? (i := 39) (by decide +kernel)) (by decide +kernel)
theorem wm_X8_229 : Cond.methodLink RX8 229 yX8_asTold ∈ tg_gG := tg_mem (List.mem_of_getElem? (i := 1034) (by decide +kernel)) (by decide +kernel)
theorem wm_X8_232 : Cond.methodLink RX8 232 yX8_runs ∈ tg_gG := tg_mem (List.mem_of_getElem? (i := 1038) (by decide +kernel)) (by decide +kernel)
theorem wc_X8_runsTold : Cond.code yX8_runsTold cX8_runsTold 1 none ∈ tg_gG := tg_mem (List.mem_of_getElem? (i := 1033) (by decide +kernel)) (by decide +kernel)
theorem wv_X8_runsTold : Cond.instanceMethod yX8_runsTold ∈ tg_gG := tg_mem (List.mem_of_getElem? (i := 1032) (by decide +kernel)) (by decide +kernel)
theorem ws_X8_runsTold : Cond.selects yX8_runsTold.cls yX8_runsTold yX8_runsTold ∈ tg_gG := tg_mem (List.mem_of_getElem? (i := 37) (by decide +kernel)) (by decide +kernel)
theorem wm_X8_235 : Cond.methodLink RX8 235 yX8_runsTold ∈ tg_gG := tg_mem (List.mem_of_getElem? (i := 1030) (by decide +kernel)) (by decide +kernel)
theorem wc_X8_ropeOf : Cond.code yX8_ropeOf cX8_ropeOf 3 (some .int) ∈ tg_gG := tg_mem (List.mem_of_getElem? (i := 1029) (by decide +kernel)) (by decide +kernel)
theorem wv_X8_ropeOf : Cond.instanceMethod yX8_ropeOf ∈ tg_gG := tg_mem (List.mem_of_getElem? (i := 1028) (by decide +kernel)) (by decide +kernel)
theorem ws_X8_ropeOf : Cond.selects yX8_ropeOf.cls yX8_ropeOf yX8_ropeOf ∈ tg_gG := tg_mem (List.mem_of_getElem? (i := 36) (by decide +kernel)) (by decide +kernel)
theorem wm_X8_238 : Cond.methodLink RX8 238 yX8_ropeOf ∈ tg_gG := tg_mem (List.mem_of_getElem? (i := 1026) (by decide +kernel)) (by decide +kernel)
theorem wc_X8_rope : Cond.code yX8_rope cX8_rope 3 (some .int) ∈ tg_gG := tg_mem (List.mem_of_getElem? (i := 1025) (by decide +kernel)) (by decide +kernel)
theorem wv_X8_rope : Cond.instanceMethod yX8_rope ∈ tg_gG := tg_mem (List.mem_of_getElem? (i := 1023) (by decide +kernel)) (by decide +kernel)
theorem ws_X8_rope : Cond.selects yX8_rope.cls yX8_rope yX8_rope ∈ tg_gG := tg_mem (List.mem_of_getElem? (i := 1024) (by decide +kernel)) (by decide +kernel)
theorem wc_X8_atOf : Cond.code yX8_atOf cX8_atOf 4 (some .int) ∈ tg_gG := tg_mem (List.mem_of_getElem? (i := 1076) (by decide +kernel)) (by decide +kernel)
theorem wv_X8_atOf : Cond.instanceMethod yX8_atOf ∈ tg_gG := tg_mem (List.mem_of_getElem? (i := 1075) (by decide +kernel)) (by decide +kernel)
theorem ws_X8_atOf : Cond.selects yX8_atOf.cls yX8_atOf yX8_atOf ∈ tg_gG := tg_mem (List.mem_of_getElem? (i := 46) (by decide +kernel)) (by decide +kernel)
theorem wm_X8_241 : Cond.methodLink RX8 241 yX8_atOf ∈ tg_gG := tg_mem (List.mem_of_getElem? (i := 1073) (by decide +kernel)) (by decide +kernel)
theorem wc_X8_at : Cond.code yX8_at cX8_at 4 (some .int) ∈ tg_gG := tg_mem (List.mem_of_getElem? (i := 1072) (by decide +kernel)) (by decide +kernel)
theorem wv_X8_at : Cond.instanceMethod yX8_at ∈ tg_gG := tg_mem (List.mem_of_getElem? (i := 1070) (by decide +kernel)) (by decide +kernel)
theorem ws_X8_at : Cond.selects yX8_at.cls yX8_at yX8_at ∈ tg_gG := tg_mem (List.mem_of_getElem? (i := 1071) (by decide +kernel)) (by decide +kernel)
theorem wc_X8_wonOf : Cond.code yX8_wonOf cX8_wonOf 2 (some .int) ∈ tg_gG := tg_mem (List.mem_of_getElem? (i := 1084) (by decide +kernel)) (by decide +kernel)
theorem wv_X8_wonOf : Cond.instanceMethod yX8_wonOf ∈ tg_gG := tg_mem (List.mem_of_getElem? (i := 1083) (by decide +kernel)) (by decide +kernel)
theorem ws_X8_wonOf : Cond.selects yX8_wonOf.cls yX8_wonOf yX8_wonOf ∈ tg_gG := tg_mem (List.mem_of_getElem? (i := 47) (by decide +kernel)) (by decide +kernel)
theorem wm_X8_244 : Cond.methodLink RX8 244 yX8_wonOf ∈ tg_gG := tg_mem (List.mem_of_getElem? (i := 1081) (by decide +kernel)) (by decide +kernel)
theorem wc_X8_won : Cond.code yX8_won cX8_won 2 (some .int) ∈ tg_gG := tg_mem (List.mem_of_getElem? (i := 1080) (by decide +kernel)) (by decide +kernel)
theorem wv_X8_won : Cond.instanceMethod yX8_won ∈ tg_gG := tg_mem (List.mem_of_getElem? (i := 1078) (by decide +kernel)) (by decide +kernel)
theorem ws_X8_won : Cond.selects yX8_won.cls yX8_won yX8_won ∈ tg_gG := tg_mem (List.mem_of_getElem? (i := 1079) (by decide +kernel)) (by decide +kernel)
theorem wc_X8_furthestOf : Cond.code yX8_furthestOf cX8_furthestOf 5 (some .int) ∈ tg_gG := tg_mem (List.mem_of_getElem? (i := 1092) (by decide +kernel)) (by decide +kernel)
theorem wv_X8_furthestOf : Cond.instanceMethod yX8_furthestOf ∈ tg_gG := tg_mem (List.mem_of_getElem? (i := 1091) (by decide +kernel)) (by decide +kernel)
theorem ws_X8_furthestOf : Cond.selects yX8_furthestOf.cls yX8_furthestOf yX8_furthestOf ∈ tg_gG := tg_mem (List.mem_of_getElem? (i := 48) (by decide +kernel)) (by decide +kernel)
theorem wm_X8_247 : Cond.methodLink RX8 247 yX8_furthestOf ∈ tg_gG := tg_mem (List.mem_of_getElem? (i := 1089) (by decide +kernel)) (by decide +kernel)
theorem wc_X8_furthest : Cond.code yX8_furthest cX8_furthest 2 (some .int) ∈ tg_gG := tg_mem (List.mem_of_getElem? (i := 1088) (by decide +kernel)) (by decide +kernel)
theorem wv_X8_furthest : Cond.instanceMethod yX8_furthest ∈ tg_gG := tg_mem (List.mem_of_getElem? (i := 1086) (by decide +kernel)) (by decide +kernel)
theorem ws_X8_furthest : Cond.selects yX8_furthest.cls yX8_furthest yX8_furthest ∈ tg_gG := tg_mem (List.mem_of_getElem? (i := 1087) (by decide +kernel)) (by decide +kernel)
theorem wc_X8_doneOf : Cond.code yX8_doneOf cX8_doneOf 2 (some .int) ∈ tg_gG := tg_mem (List.mem_of_getElem? (i := 1100) (by decide +kernel)) (by decide +kernel)
theorem wv_X8_doneOf : Cond.instanceMethod yX8_doneOf ∈ tg_gG := tg_mem (List.mem_of_getElem? (i := 1099) (by decide +kernel)) (by decide +kernel)
theorem ws_X8_doneOf : Cond.selects yX8_doneOf.cls yX8_doneOf yX8_doneOf ∈ tg_gG := tg_mem (List.mem_of_getElem? (i := 49) (by decide +kernel)) (by decide +kernel)
theorem wm_X8_250 : Cond.methodLink RX8 250 yX8_doneOf ∈ tg_gG := tg_mem (List.mem_of_getElem? (i := 1097) (by decide +kernel)) (by decide +kernel)
theorem wc_X8_done : Cond.code yX8_done cX8_done 2 (some .int) ∈ tg_gG := tg_mem (List.mem_of_getElem? (i := 1096) (by decide +kernel)) (by decide +kernel)
theorem wv_X8_done : Cond.instanceMethod yX8_done ∈ tg_gG := tg_mem (List.mem_of_getElem? (i := 1094) (by decide +kernel)) (by decide +kernel)
theorem ws_X8_done : Cond.selects yX8_done.cls yX8_done yX8_done ∈ tg_gG := tg_mem (List.mem_of_getElem? (i := 1095) (by decide +kernel)) (by decide +kernel)
theorem wc_X8_spentOf : Cond.code yX8_spentOf cX8_spentOf 3 (some .int) ∈ tg_gG := tg_mem (List.mem_of_getElem? (i := 1108) (by decide +kernel)) (by decide +kernel)
theorem wv_X8_spentOf : Cond.instanceMethod yX8_spentOf ∈ tg_gG := tg_mem (List.mem_of_getElem? (i := 1107) (by decide +kernel)) (by decide +kernel)
theorem ws_X8_spentOf : Cond.selects yX8_spentOf.cls yX8_spentOf yX8_spentOf ∈ tg_gG := tg_mem (List.mem_of_getElem? (i := 50) (by decide +kernel)) (by decide +kernel)
theorem wm_X8_253 : Cond.methodLink RX8 253 yX8_spentOf ∈ tg_gG := tg_mem (List.mem_of_getElem? (i := 1105) (by decide +kernel)) (by decide +kernel)
theorem wc_X8_spent : Cond.code yX8_spent cX8_spent 1 (some .int) ∈ tg_gG := tg_mem (List.mem_of_getElem? (i := 1104) (by decide +kernel)) (by decide +kernel)
theorem wv_X8_spent : Cond.instanceMethod yX8_spent ∈ tg_gG := tg_mem (List.mem_of_getElem? (i := 1102) (by decide +kernel)) (by decide +kernel)
theorem ws_X8_spent : Cond.selects yX8_spent.cls yX8_spent yX8_spent ∈ tg_gG := tg_mem (List.mem_of_getElem? (i := 1103) (by decide +kernel)) (by decide +kernel)
theorem wc_X8_bestOf : Cond.code yX8_bestOf cX8_bestOf 4 (some .int) ∈ tg_gG := tg_mem (List.mem_of_getElem? (i := 1116) (by decide +kernel)) (by decide +kernel)
theorem wv_X8_bestOf : Cond.instanceMethod yX8_bestOf ∈ tg_gG := tg_mem (List.mem_of_getElem? (i := 1115) (by decide +kernel)) (by decide +kernel)
theorem ws_X8_bestOf : Cond.selects yX8_bestOf.cls yX8_bestOf yX8_bestOf ∈ tg_gG := tg_mem (List.mem_of_getElem? (i := 51) (by decide +kernel)) (by decide +kernel)
theorem wm_X8_257 : Cond.methodLink RX8 257 yX8_bestOf ∈ tg_gG := tg_mem (List.mem_of_getElem? (i := 1113) (by decide +kernel)) (by decide +kernel)
theorem wc_X8_best : Cond.code yX8_best cX8_best 1 (some .int) ∈ tg_gG := tg_mem (List.mem_of_getElem? (i := 1112) (by decide +kernel)) (by decide +kernel)
theorem wv_X8_best : Cond.instanceMethod yX8_best ∈ tg_gG := tg_mem (List.mem_of_getElem? (i := 1110) (by decide +kernel)) (by decide +kernel)
theorem ws_X8_best : Cond.selects yX8_best.cls yX8_best yX8_best ∈ tg_gG := tg_mem (List.mem_of_getElem? (i := 1111) (by decide +kernel)) (by decide +kernel)
theorem wc_X8_levelOf : Cond.code yX8_levelOf cX8_levelOf 1 (some .int) ∈ tg_gG := tg_mem (List.mem_of_getElem? (i := 1124) (by decide +kernel)) (by decide +kernel)
theorem wv_X8_levelOf : Cond.instanceMethod yX8_levelOf ∈ tg_gG := tg_mem (List.mem_of_getElem? (i := 1123) (by decide +kernel)) (by decide +kernel)
theorem ws_X8_levelOf : Cond.selects yX8_levelOf.cls yX8_levelOf yX8_levelOf ∈ tg_gG := tg_mem (List.mem_of_getElem? (i := 52) (by decide +kernel)) (by decide +kernel)
theorem wm_X8_260 : Cond.methodLink RX8 260 yX8_levelOf ∈ tg_gG := tg_mem (List.mem_of_getElem? (i := 1121) (by decide +kernel)) (by decide +kernel)
theorem wc_X8_level : Cond.code yX8_level cX8_level 1 (some .int) ∈ tg_gG := tg_mem (List.mem_of_getElem? (i := 1120) (by decide +kernel)) (by decide +kernel)
theorem wv_X8_level : Cond.instanceMethod yX8_level ∈ tg_gG := tg_mem (List.mem_of_getElem? (i := 1118) (by decide +kernel)) (by decide +kernel)
theorem ws_X8_level : Cond.selects yX8_level.cls yX8_level yX8_level ∈ tg_gG := tg_mem (List.mem_of_getElem? (i := 1119) (by decide +kernel)) (by decide +kernel)
theorem wf_X8_263 : Cond.fieldLink RX8 263 (TX8 34).1 (TX8 34).2.1 (TX8 34).2.2.1 ∈ tg_gG := tg_mem (List.mem_of_getElem? (i := 808) (by decide +kernel)) (by decide +kernel)
theorem wf_X8_266 : Cond.fieldLink RX8 266 (TX8 35).1 (TX8 35).2.1 (TX8 35).2.2.1 ∈ tg_gG := tg_mem (List.mem_of_getElem? (i := 809) (by decide +kernel)) (by decide +kernel)
theorem wc_X8_starts : Cond.code yX8_starts cX8_starts 1 none ∈ tg_gG := tg_mem (List.mem_of_getElem? (i := 1136) (by decide +kernel)) (by decide +kernel)
theorem wv_X8_starts : Cond.instanceMethod yX8_starts ∈ tg_gG := tg_mem (List.mem_of_getElem? (i := 1135) (by decide +kernel)) (by decide +kernel)
theorem ws_X8_starts : Cond.selects yX8_starts.cls yX8_starts yX8_starts ∈ tg_gG := tg_mem (List.mem_of_getElem? (i := 54) (by decide +kernel)) (by decide +kernel)
theorem wc_X8_tries : Cond.code yX8_tries cX8_tries 4 none ∈ tg_gG := tg_mem (List.mem_of_getElem? (i := 1140) (by decide +kernel)) (by decide +kernel)
theorem wv_X8_tries : Cond.instanceMethod yX8_tries ∈ tg_gG := tg_mem (List.mem_of_getElem? (i := 1139) (by decide +kernel)) (by decide +kernel)
theorem ws_X8_tries : Cond.selects yX8_tries.cls yX8_tries yX8_tries ∈ tg_gG := tg_mem (List.mem_of_getElem? (i := 55) (by decide +kernel)) (by decide +kernel)
theorem wm_X8_269 : Cond.methodLink RX8 269 yX8_starts ∈ tg_gG := tg_mem (List.mem_of_getElem? (i := 1133) (by decide +kernel)) (by decide +kernel)
theorem wm_X8_272 : Cond.methodLink RX8 272 yX8_tries ∈ tg_gG := tg_mem (List.mem_of_getElem? (i := 1137) (by decide +kernel)) (by decide +kernel)
theorem wc_X8_betterOf : Cond.code yX8_betterOf cX8_betterOf 5 (some .int) ∈ tg_gG := tg_mem (List.mem_of_getElem? (i := 1132) (by decide +kernel)) (by decide +kernel)
theorem wv_X8_betterOf : Cond.instanceMethod yX8_betterOf ∈ tg_gG := tg_mem (List.mem_of_getElem? (i := 1131) (by decide +kernel)) (by decide +kernel)
theorem ws_X8_betterOf : Cond.selects yX8_betterOf.cls yX8_betterOf yX8_betterOf ∈ tg_gG := tg_mem (List.mem_of_getElem? (i := 53) (by decide +kernel)) (by decide +kernel)
theorem wm_X8_275 : Cond.methodLink RX8 275 yX8_betterOf ∈ tg_gG := tg_mem (List.mem_of_getElem? (i := 1129) (by decide +kernel)) (by decide +kernel)
theorem wc_X8_better : Cond.code yX8_better cX8_better 4 (some .int) ∈ tg_gG := tg_mem (List.mem_of_getElem? (i := 1128) (by decide +kernel)) (by decide +kernel)
theorem wv_X8_better : Cond.instanceMethod yX8_better ∈ tg_gG := tg_mem (List.mem_of_getElem? (i := 1126) (by decide +kernel)) (by decide +kernel)
theorem ws_X8_better : Cond.selects yX8_better.cls yX8_better yX8_better ∈ tg_gG := tg_mem (List.mem_of_getElem? (i := 1127) (by decide +kernel)) (by decide +kernel)
theorem wc_X8_swapOf : Cond.code yX8_swapOf cX8_swapOf 6 (some .int) ∈ tg_gG := tg_mem (List.mem_of_getElem? (i := 1148) (by decide +kernel)) (by decide +kernel)
theorem wv_X8_swapOf : Cond.instanceMethod yX8_swapOf ∈ tg_gG := tg_mem (List.mem_of_getElem? (i := 1147) (by decide +kernel)) (by decide +kernel)
theorem ws_X8_swapOf : Cond.selects yX8_swapOf.cls yX8_swapOf yX8_swapOf ∈ tg_gG := tg_mem (List.mem_of_getElem? (i := 56) (by decide +kernel)) (by decide +kernel)
theorem wm_X8_278 : Cond.methodLink RX8 278 yX8_swapOf ∈ tg_gG := tg_mem (List.mem_of_getElem? (i := 1145) (by decide +kernel)) (by decide +kernel)
theorem wc_X8_swap : Cond.code yX8_swap cX8_swap 3 (some .int) ∈ tg_gG := tg_mem (List.mem_of_getElem? (i := 1144) (by decide +kernel)) (by decide +kernel)
theorem wv_X8_swap : Cond.instanceMethod yX8_swap ∈ tg_gG := tg_mem (List.mem_of_getElem? (i := 1142) (by decide +kernel)) (by decide +kernel)
theorem ws_X8_swap : Cond.selects yX8_swap.cls yX8_swap yX8_swap ∈ tg_gG := tg_mem (List.mem_of_getElem? (i := 1143) (by decide +kernel)) (by decide +kernel)
theorem wc_X8_outOf : Cond.code yX8_outOf cX8_outOf 4 (some .int) ∈ tg_gG := tg_mem (List.mem_of_getElem? (i := 1156) (by decide +kernel)) (by decide +kernel)
theorem wv_X8_outOf : Cond.instanceMethod yX8_outOf ∈ tg_gG := tg_mem (List.mem_of_getElem? (i := 1155) (by decide +kernel)) (by decide +kernel)
theorem ws_X8_outOf : Cond.selects yX8_outOf.cls yX8_outOf yX8_outOf ∈ tg_gG := tg_mem (List.mem_of_getElem? (i := 57) (by decide +kernel)) (by decide +kernel)
theorem wm_X8_281 : Cond.methodLink RX8 281 yX8_outOf ∈ tg_gG := tg_mem (List.mem_of_getElem? (i := 1153) (by decide +kernel)) (by decide +kernel)
theorem wc_X8_out : Cond.code yX8_out cX8_out 3 (some .int) ∈ tg_gG := tg_mem (List.mem_of_getElem? (i := 1152) (by decide +kernel)) (by decide +kernel)
theorem wv_X8_out : Cond.instanceMethod yX8_out ∈ tg_gG := tg_mem (List.mem_of_getElem? (i := 1150) (by decide +kernel)) (by decide +kernel)
theorem ws_X8_out : Cond.selects yX8_out.cls yX8_out yX8_out ∈ tg_gG := tg_mem (List.mem_of_getElem? (i := 1151) (by decide +kernel)) (by decide +kernel)
theorem wc_X8_isSpared : Cond.code yX8_isSpared cX8_isSpared 2 (some .boolean) ∈ tg_gG := tg_mem (List.mem_of_getElem? (i := 1168) (by decide +kernel)) (by decide +kernel)
theorem wv_X8_isSpared : Cond.instanceMethod yX8_isSpared ∈ tg_gG := tg_mem (List.mem_of_getElem? (i := 1167) (by decide +kernel)) (by decide +kernel)
theorem ws_X8_isSpared : Cond.selects yX8_isSpared.cls yX8_isSpared yX8_isSpared ∈ tg_gG := tg_mem (List.mem_of_getElem? (i := 59) (by decide +kernel)) (by decide +kernel)
theorem wm_X8_284 : Cond.methodLink RX8 284 yX8_isSpared ∈ tg_gG := tg_mem (List.mem_of_getElem? (i := 1165) (by decide +kernel)) (by decide +kernel)
theorem wf_X8_79 : Cond.fieldLink RX8 79 (TX8 36).1 (TX8 36).2.1 (TX8 36).2.2.1 ∈ tg_gG := tg_mem (List.mem_of_getElem? (i := 810) (by decide +kernel)) (by decide +kernel)
theorem wc_X8_spareBy : Cond.code yX8_spareBy cX8_spareBy 3 (some .int) ∈ tg_gG := tg_mem (List.mem_of_getElem? (i := 1164) (by decide +kernel)) (by decide +kernel)
theorem wv_X8_spareBy : Cond.instanceMethod yX8_spareBy ∈ tg_gG := tg_mem (List.mem_of_getElem? (i := 1163) (by decide +kernel)) (by decide +kernel)
theorem ws_X8_spareBy : Cond.selects yX8_spareBy.cls yX8_spareBy yX8_spareBy ∈ tg_gG := tg_mem (List.mem_of_getElem? (i := 58) (by decide +kernel)) (by decide +kernel)
theorem wc_X8_ofRow : Cond.code yX8_ofRow cX8_ofRow 3 (some .int) ∈ tg_gG := tg_mem (List.mem_of_getElem? (i := 1172) (by decide +kernel)) (by decide +kernel)
theorem wv_X8_ofRow : Cond.instanceMethod yX8_ofRow ∈ tg_gG := tg_mem (List.mem_of_getElem? (i := 1171) (by decide +kernel)) (by decide +kernel)
theorem ws_X8_ofRow : Cond.selects yX8_ofRow.cls yX8_ofRow yX8_ofRow ∈ tg_gG := tg_mem (List.mem_of_getElem? (i := 60) (by decide +kernel)) (by decide +kernel)
theorem wm_X8_287 : Cond.methodLink RX8 287 yX8_spareBy ∈ tg_gG := tg_mem (List.mem_of_getElem? (i := 1161) (by decide +kernel)) (by decide +kernel)
theorem wm_X8_290 : Cond.methodLink RX8 290 yX8_ofRow ∈ tg_gG := tg_mem (List.mem_of_getElem? (i := 1169) (by decide +kernel)) (by decide +kernel)
theorem wc_X8_spare : Cond.code yX8_spare cX8_spare 2 (some .int) ∈ tg_gG := tg_mem (List.mem_of_getElem? (i := 1160) (by decide +kernel)) (by decide +kernel)
theorem wv_X8_spare : Cond.instanceMethod yX8_spare ∈ tg_gG := tg_mem (List.mem_of_getElem? (i := 1158) (by decide +kernel)) (by decide +kernel)
theorem ws_X8_spare : Cond.selects yX8_spare.cls yX8_spare yX8_spare ∈ tg_gG := tg_mem (List.mem_of_getElem? (i := 1159) (by decide +kernel)) (by decide +kernel)
theorem wf_X8_293 : Cond.fieldLink RX8 293 (TX8 37).1 (TX8 37).2.1 (TX8 37).2.2.1 ∈ tg_gG := tg_mem (List.mem_of_getElem? (i := 811) (by decide +kernel)) (by decide +kernel)
theorem wf_X8_82 : Cond.fieldLink RX8 82 (TX8 38).1 (TX8 38).2.1 (TX8 38).2.2.1 ∈ tg_gG := tg_mem (List.mem_of_getElem? (i := 812) (by decide +kernel)) (by decide +kernel)
theorem wf_X8_85 : Cond.fieldLink RX8 85 (TX8 39).1 (TX8 39).2.1 (TX8 39).2.2.1 ∈ tg_gG := tg_mem (List.mem_of_getElem? (i := 813) (by decide +kernel)) (by decide +kernel)
theorem wc_X8_seen : Cond.code yX8_seen cX8_seen 3 (some .int) ∈ tg_gG := tg_mem (List.mem_of_getElem? (i := 1176) (by decide +kernel)) (by decide +kernel)
theorem wv_X8_seen : Cond.instanceMethod yX8_seen ∈ tg_gG := tg_mem (List.mem_of_getElem? (i := 1174) (by decide +kernel)) (by decide +kernel)
theorem ws_X8_seen : Cond.selects yX8_seen.cls yX8_seen yX8_seen ∈ tg_gG := tg_mem (List.mem_of_getElem? (i := 1175) (by decide +kernel)) (by decide +kernel)
theorem wc_X8_forget : Cond.code yX8_forget cX8_forget 2 (some .int) ∈ tg_gG := tg_mem (List.mem_of_getElem? (i := 1180) (by decide +kernel)) (by decide +kernel)
theorem wv_X8_forget : Cond.instanceMethod yX8_forget ∈ tg_gG := tg_mem (List.mem_of_getElem? (i := 1178) (by decide +kernel)) (by decide +kernel)
theorem ws_X8_forget : Cond.selects yX8_forget.cls yX8_forget yX8_forget ∈ tg_gG := tg_mem (List.mem_of_getElem? (i := 1179) (by decide +kernel)) (by decide +kernel)
theorem wc_X8_isSeen : Cond.code yX8_isSeen cX8_isSeen 3 (some .boolean) ∈ tg_gG := tg_mem (List.mem_of_getElem? (i := 1192) (by decide +kernel)) (by decide +kernel)
theorem wv_X8_isSeen : Cond.instanceMethod yX8_isSeen ∈ tg_gG := tg_mem (List.mem_of_getElem? (i := 1191) (by decide +kernel)) (by decide +kernel)
theorem ws_X8_isSeen : Cond.selects yX8_isSeen.cls yX8_isSeen yX8_isSeen ∈ tg_gG := tg_mem (List.mem_of_getElem? (i := 62) (by decide +kernel)) (by decide +kernel)
theorem wm_X8_296 : Cond.methodLink RX8 296 yX8_isSeen ∈ tg_gG := tg_mem (List.mem_of_getElem? (i := 1189) (by decide +kernel)) (by decide +kernel)
theorem wc_X8_neverNow : Cond.code yX8_neverNow cX8_neverNow 3 (some .int) ∈ tg_gG := tg_mem (List.mem_of_getElem? (i := 1188) (by decide +kernel)) (by decide +kernel)
theorem wv_X8_neverNow : Cond.instanceMethod yX8_neverNow ∈ tg_gG := tg_mem (List.mem_of_getElem? (i := 1187) (by decide +kernel)) (by decide +kernel)
theorem ws_X8_neverNow : Cond.selects yX8_neverNow.cls yX8_neverNow yX8_neverNow ∈ tg_gG := tg_mem (List.mem_of_getElem? (i := 61) (by decide +kernel)) (by decide +kernel)
theorem wm_X8_300 : Cond.methodLink RX8 300 yX8_neverNow ∈ tg_gG := tg_mem (List.mem_of_getElem? (i := 1185) (by decide +kernel)) (by decide +kernel)
theorem wc_X8_never : Cond.code yX8_never cX8_never 1 (some .int) ∈ tg_gG := tg_mem (List.mem_of_getElem? (i := 1184) (by decide +kernel)) (by decide +kernel)
theorem wv_X8_never : Cond.instanceMethod yX8_never ∈ tg_gG := tg_mem (List.mem_of_getElem? (i := 1182) (by decide +kernel)) (by decide +kernel)
theorem ws_X8_never : Cond.selects yX8_never.cls yX8_never yX8_never ∈ tg_gG := tg_mem (List.mem_of_getElem? (i := 1183) (by decide +kernel)) (by decide +kernel)
theorem wf_X8_88 : Cond.fieldLink RX8 88 (TX8 40).1 (TX8 40).2.1 (TX8 40).2.2.1 ∈ tg_gG := tg_mem (List.mem_of_getElem? (i := 814) (by decide +kernel)) (by decide +kernel)
theorem wc_X8_weightsBy : Cond.code yX8_weightsBy cX8_weightsBy 6 (some .int) ∈ tg_gG := tg_mem (List.mem_of_getElem? (i := 1200) (by decide +kernel)) (by decide +kernel)
theorem wv_X8_weightsBy : Cond.instanceMethod yX8_weightsBy ∈ tg_gG := tg_mem (List.mem_of_getElem? (i := 1199) (by decide +kernel)) (by decide +kernel)
theorem ws_X8_weightsBy : Cond.selects yX8_weightsBy.cls yX8_weightsBy yX8_weightsBy ∈ tg_gG := tg_mem (List.mem_of_getElem? (i := 63) (by decide +kernel)) (by decide +kernel)
theorem wc_X8_sortsBy : Cond.code yX8_sortsBy cX8_sortsBy 5 (some .int) ∈ tg_gG := tg_mem (List.mem_of_getElem? (i := 1204) (by decide +kernel)) (by decide +kernel)
theorem wv_X8_sortsBy : Cond.instanceMethod yX8_sortsBy ∈ tg_gG := tg_mem (List.mem_of_getElem? (i := 1203) (by decide +kernel)) (by decide +kernel)
theorem ws_X8_sortsBy : Cond.selects yX8_sortsBy.cls yX8_sortsBy yX8_sortsBy ∈ tg_gG := tg_mem (List.mem_of_getElem? (i := 64) (by decide +kernel)) (by decide +kernel)
theorem wm_X8_306 : Cond.methodLink RX8 306 yX8_sortsBy ∈ tg_gG := tg_mem (List.mem_of_getElem? (i := 1201) (by decide +kernel)) (by decide +kernel)
theorem wm_X8_303 : Cond.methodLink RX8 303 yX8_weightsBy ∈ tg_gG := tg_mem (List.mem_of_getElem? (i := 1197) (by decide +kernel)) (by decide +kernel)
theorem wc_X8_was : Cond.code yX8_was cX8_was 3 (some .int) ∈ tg_gG := tg_mem (List.mem_of_getElem? (i := 1196) (by decide +kernel)) (by decide +kernel)
theorem wv_X8_was : Cond.instanceMethod yX8_was ∈ tg_gG := tg_mem (List.mem_of_getElem? (i := 1194) (by decide +kernel)) (by decide +kernel)
theorem ws_X8_was : Cond.selects yX8_was.cls yX8_was yX8_was ∈ tg_gG := tg_mem (List.mem_of_getElem? (i := 1195) (by decide +kernel)) (by decide +kernel)
theorem wc_X8_askOf : Cond.code yX8_askOf cX8_askOf 10 (some .int) ∈ tg_gG := tg_mem (List.mem_of_getElem? (i := 1212) (by decide +kernel)) (by decide +kernel)
theorem wv_X8_askOf : Cond.instanceMethod yX8_askOf ∈ tg_gG := tg_mem (List.mem_of_getElem? (i := 1211) (by decide +kernel)) (by decide +kernel)
theorem ws_X8_askOf : Cond.selects yX8_askOf.cls yX8_askOf yX8_askOf ∈ tg_gG := tg_mem (List.mem_of_getElem? (i := 65) (by decide +kernel)) (by decide +kernel)
theorem wm_X8_309 : Cond.methodLink RX8 309 yX8_askOf ∈ tg_gG := tg_mem (List.mem_of_getElem? (i := 1209) (by decide +kernel)) (by decide +kernel)
theorem wc_X8_ask : Cond.code yX8_ask cX8_ask 2 (some .int) ∈ tg_gG := tg_mem (List.mem_of_getElem? (i := 1208) (by decide +kernel)) (by decide +kernel)
theorem wv_X8_ask : Cond.instanceMethod yX8_ask ∈ tg_gG := tg_mem (List.mem_of_getElem? (i := 1206) (by decide +kernel)) (by decide +kernel)
theorem ws_X8_ask : Cond.selects yX8_ask.cls yX8_ask yX8_ask ∈ tg_gG := tg_mem (List.mem_of_getElem? (i := 1207) (by decide +kernel)) (by decide +kernel)
theorem wm_X8_312 : Cond.methodLink RX8 312 yX8_lowest ∈ tg_gG := tg_mem (List.mem_of_getElem? (i := 1221) (by decide +kernel)) (by decide +kernel)
theorem wc_X8_chanceOf : Cond.code yX8_chanceOf cX8_chanceOf 10 (some .long) ∈ tg_gG := tg_mem (List.mem_of_getElem? (i := 1220) (by decide +kernel)) (by decide +kernel)
theorem wv_X8_chanceOf : Cond.instanceMethod yX8_chanceOf ∈ tg_gG := tg_mem (List.mem_of_getElem? (i := 1219) (by decide +kernel)) (by decide +kernel)
theorem ws_X8_chanceOf : Cond.selects yX8_chanceOf.cls yX8_chanceOf yX8_chanceOf ∈ tg_gG := tg_mem (List.mem_of_getElem? (i := 66) (by decide +kernel)) (by decide +kernel)
theorem wm_X8_320 : Cond.methodLink RX8 320 yX8_no ∈ tg_gG := tg_mem (List.mem_of_getElem? (i := 1224) (by decide +kernel)) (by decide +kernel)
theorem wm_X8_316 : Cond.methodLink RX8 316 yX8_chanceOf ∈ tg_gG := tg_mem (List.mem_of_getElem? (i := 1217) (by decide +kernel)) (by decide +kernel)
theorem wc_X8_chance : Cond.code yX8_chance cX8_chance 4 (some .long) ∈ tg_gG := tg_mem (List.mem_of_getElem? (i := 1216) (by decide +kernel)) (by decide +kernel)
theorem wv_X8_chance : Cond.instanceMethod yX8_chance ∈ tg_gG := tg_mem (List.mem_of_getElem? (i := 1214) (by decide +kernel)) (by decide +kernel)
theorem ws_X8_chance : Cond.selects yX8_chance.cls yX8_chance yX8_chance ∈ tg_gG := tg_mem (List.mem_of_getElem? (i := 1215) (by decide +kernel)) (by decide +kernel)
theorem wk_X8_324 : Cond.constant RX8 324 (1103515245) ∈ tg_gG := tg_mem (List.mem_of_getElem? (i := 1236) (by decide +kernel)) (by decide +kernel)
theorem wc_X8_yearsOf : Cond.code yX8_yearsOf cX8_yearsOf 6 (some .int) ∈ tg_gG := tg_mem (List.mem_of_getElem? (i := 1235) (by decide +kernel)) (by decide +kernel)
theorem wv_X8_yearsOf : Cond.instanceMethod yX8_yearsOf ∈ tg_gG := tg_mem (List.mem_of_getElem? (i := 1234) (by decide +kernel)) (by decide +kernel)
theorem ws_X8_yearsOf : Cond.selects yX8_yearsOf.cls yX8_yearsOf yX8_yearsOf ∈ tg_gG := tg_mem (List.mem_of_getElem? (i := 67) (by decide +kernel)) (by decide +kernel)
theorem wm_X8_325 : Cond.methodLink RX8 325 yX8_yearsOf ∈ tg_gG := tg_mem (List.mem_of_getElem? (i := 1232) (by decide +kernel)) (by decide +kernel)
theorem wc_X8_years : Cond.code yX8_years cX8_years 4 (some .int) ∈ tg_gG := tg_mem (List.mem_of_getElem? (i := 1231) (by decide +kernel)) (by decide +kernel)
theorem wv_X8_years : Cond.instanceMethod yX8_years ∈ tg_gG := tg_mem (List.mem_of_getElem? (i := 1229) (by decide +kernel)) (by decide +kernel)
theorem ws_X8_years : Cond.selects yX8_years.cls yX8_years yX8_years ∈ tg_gG := tg_mem (List.mem_of_getElem? (i := 1230) (by decide +kernel)) (by decide +kernel)
theorem wf_X8_95 : Cond.fieldLink RX8 95 (TX8 42).1 (TX8 42).2.1 (TX8 42).2.2.1 ∈ tg_gG := tg_mem (List.mem_of_getElem? (i := 816) (by decide +kernel)) (by decide +kernel)
theorem wc_X8_sheet : Cond.code yX8_sheet cX8_sheet 5 (some .int) ∈ tg_gG := tg_mem (List.mem_of_getElem? (i := 1240) (by decide +kernel)) (by decide +kernel)
theorem wv_X8_sheet : Cond.instanceMethod yX8_sheet ∈ tg_gG := tg_mem (List.mem_of_getElem? (i := 1238) (by decide +kernel)) (by decide +kernel)
theorem ws_X8_sheet : Cond.selects yX8_sheet.cls yX8_sheet yX8_sheet ∈ tg_gG := tg_mem (List.mem_of_getElem? (i := 1239) (by decide +kernel)) (by decide +kernel)
theorem wc_X8_lose : Cond.code yX8_lose cX8_lose 2 (some .int) ∈ tg_gG := tg_mem (List.mem_of_getElem? (i := 1244) (by decide +kernel)) (by decide +kernel)
theorem wv_X8_lose : Cond.instanceMethod yX8_lose ∈ tg_gG := tg_mem (List.mem_of_getElem? (i := 1242) (by decide +kernel)) (by decide +kernel)
theorem ws_X8_lose : Cond.selects yX8_lose.cls yX8_lose yX8_lose ∈ tg_gG := tg_mem (List.mem_of_getElem? (i := 1243) (by decide +kernel)) (by decide +kernel)
theorem wc_X8_lacks : Cond.code yX8_lacks cX8_lacks 4 (some .int) ∈ tg_gG := tg_mem (List.mem_of_getElem? (i := 1252) (by decide +kernel)) (by decide +kernel)
theorem wv_X8_lacks : Cond.instanceMethod yX8_lacks ∈ tg_gG := tg_mem (List.mem_of_getElem? (i := 1251) (by decide +kernel)) (by decide +kernel)
theorem ws_X8_lacks : Cond.selects yX8_lacks.cls yX8_lacks yX8_lacks ∈ tg_gG := tg_mem (List.mem_of_getElem? (i := 68) (by decide +kernel)) (by decide +kernel)
theorem wc_X8_keep : Cond.code yX8_keep cX8_keep 4 none ∈ tg_gG := tg_mem (List.mem_of_getElem? (i := 1256) (by decide +kernel)) (by decide +kernel)
theorem wv_X8_keep : Cond.instanceMethod yX8_keep ∈ tg_gG := tg_mem (List.mem_of_getElem? (i := 1255) (by decide +kernel)) (by decide +kernel)
theorem ws_X8_keep : Cond.selects yX8_keep.cls yX8_keep yX8_keep ∈ tg_gG := tg_mem (List.mem_of_getElem? (i := 69) (by decide +kernel)) (by decide +kernel)
theorem wm_X8_331 : Cond.methodLink RX8 331 yX8_lacks ∈ tg_gG := tg_mem (List.mem_of_getElem? (i := 1249) (by decide +kernel)) (by decide +kernel)
theorem wm_X8_334 : Cond.methodLink RX8 334 yX8_keep ∈ tg_gG := tg_mem (List.mem_of_getElem? (i := 1253) (by decide +kernel)) (by decide +kernel)
theorem wc_X8_put : Cond.code yX8_put cX8_put 6 (some .int) ∈ tg_gG := tg_mem (List.mem_of_getElem? (i := 1248) (by decide +kernel)) (by decide +kernel)
theorem wv_X8_put : Cond.instanceMethod yX8_put ∈ tg_gG := tg_mem (List.mem_of_getElem? (i := 1246) (by decide +kernel)) (by decide +kernel)
theorem ws_X8_put : Cond.selects yX8_put.cls yX8_put yX8_put ∈ tg_gG := tg_mem (List.mem_of_getElem? (i := 1247) (by decide +kernel)) (by decide +kernel)
theorem wk_X8_338 : Cond.constant RX8 338 (-2147483648) ∈ tg_gG := tg_mem (List.mem_of_getElem? (i := 1261) (by decide +kernel)) (by decide +kernel)
theorem wc_X8_get : Cond.code yX8_get cX8_get 5 (some .int) ∈ tg_gG := tg_mem (List.mem_of_getElem? (i := 1260) (by decide +kernel)) (by decide +kernel)
theorem wv_X8_get : Cond.instanceMethod yX8_get ∈ tg_gG := tg_mem (List.mem_of_getElem? (i := 1258) (by decide +kernel)) (by decide +kernel)
theorem ws_X8_get : Cond.selects yX8_get.cls yX8_get yX8_get ∈ tg_gG := tg_mem (List.mem_of_getElem? (i := 1259) (by decide +kernel)) (by decide +kernel)
theorem wf_X8_104 : Cond.fieldLink RX8 104 (TX8 45).1 (TX8 45).2.1 (TX8 45).2.2.1 ∈ tg_gG := tg_mem (List.mem_of_getElem? (i := 819) (by decide +kernel)) (by decide +kernel)
theorem wc_X8_copy : Cond.code yX8_copy cX8_copy 7 (some .int) ∈ tg_gG := tg_mem (List.mem_of_getElem? (i := 1265) (by decide +kernel)) (by decide +kernel)
theorem wv_X8_copy : Cond.instanceMethod yX8_copy ∈ tg_gG := tg_mem (List.mem_of_getElem? (i := 1263) (by decide +kernel)) (by decide +kernel)
theorem ws_X8_copy : Cond.selects yX8_copy.cls yX8_copy yX8_copy ∈ tg_gG := tg_mem (List.mem_of_getElem? (i := 1264) (by decide +kernel)) (by decide +kernel)
theorem wc_X8_write : Cond.code yX8_write cX8_write 3 (some .int) ∈ tg_gG := tg_mem (List.mem_of_getElem? (i := 1269) (by decide +kernel)) (by decide +kernel)
theorem wv_X8_write : Cond.instanceMethod yX8_write ∈ tg_gG := tg_mem (List.mem_of_getElem? (i := 1267) (by decide +kernel)) (by decide +kernel)
theorem ws_X8_write : Cond.selects yX8_write.cls yX8_write yX8_write ∈ tg_gG := tg_mem (List.mem_of_getElem? (i := 1268) (by decide +kernel)) (by decide +kernel)
theorem wc_X8_tellOf : Cond.code yX8_tellOf cX8_tellOf 2 (some .int) ∈ tg_gG := tg_mem (List.mem_of_getElem? (i := 1277) (by decide +kernel)) (by decide +kernel)
theorem wv_X8_tellOf : Cond.instanceMethod yX8_tellOf ∈ tg_gG := tg_mem (List.mem_of_getElem? (i := 1276) (by decide +kernel)) (by decide +kernel)
theorem ws_X8_tellOf : Cond.selects yX8_tellOf.cls yX8_tellOf yX8_tellOf ∈ tg_gG := tg_mem (List.mem_of_getElem? (i := 70) (by decide +kernel)) (by decide +kernel)
theorem wm_X8_339 : Cond.methodLink RX8 339 yX8_tellOf ∈ tg_gG := tg_mem (List.mem_of_getElem? (i := 1274) (by decide +kernel)) (by decide +kernel)
theorem wc_X8_count : Cond.code yX8_count cX8_count 2 (some .int) ∈ tg_gG := tg_mem (List.mem_of_getElem? (i := 1273) (by decide +kernel)) (by decide +kernel)
theorem wv_X8_count : Cond.instanceMethod yX8_count ∈ tg_gG := tg_mem (List.mem_of_getElem? (i := 1271) (by decide +kernel)) (by decide +kernel)
theorem ws_X8_count : Cond.selects yX8_count.cls yX8_count yX8_count ∈ tg_gG := tg_mem (List.mem_of_getElem? (i := 1272) (by decide +kernel)) (by decide +kernel)
theorem wk_X8_342 : Cond.constantLong RX8 342 (31) ∈ tg_gG := tg_mem (List.mem_of_getElem? (i := 1283) (by decide +kernel)) (by decide +kernel)
theorem wc_X8_beatDigest : Cond.code yX8_beatDigest cX8_beatDigest 7 (some .long) ∈ tg_gG := tg_mem (List.mem_of_getElem? (i := 1292) (by decide +kernel)) (by decide +kernel)
theorem wv_X8_beatDigest : Cond.instanceMethod yX8_beatDigest ∈ tg_gG := tg_mem (List.mem_of_getElem? (i := 1291) (by decide +kernel)) (by decide +kernel)
theorem ws_X8_beatDigest : Cond.selects yX8_beatDigest.cls yX8_beatDigest yX8_beatDigest ∈ tg_gG := tg_mem (List.mem_of_getElem? (i := 72) (by decide +kernel)) (by decide +kernel)
theorem wm_X8_344 : Cond.methodLink RX8 344 yX8_beatDigest ∈ tg_gG := tg_mem (List.mem_of_getElem? (i := 1289) (by decide +kernel)) (by decide +kernel)
theorem wc_X8_pullerDigest : Cond.code yX8_pullerDigest cX8_pullerDigest 7 (some .long) ∈ tg_gG := tg_mem (List.mem_of_getElem? (i := 1288) (by decide +kernel)) (by decide +kernel)
theorem wv_X8_pullerDigest : Cond.instanceMethod yX8_pullerDigest ∈ tg_gG := tg_mem (List.mem_of_getElem? (i := 1287) (by decide +kernel)) (by decide +kernel)
theorem ws_X8_pullerDigest : Cond.selects yX8_pullerDigest.cls yX8_pullerDigest yX8_pullerDigest ∈ tg_gG := tg_mem (List.mem_of_getElem? (i := 71) (by decide +kernel)) (by decide +kernel)
theorem wc_X8_teamDigest : Cond.code yX8_teamDigest cX8_teamDigest 7 (some .long) ∈ tg_gG := tg_mem (List.mem_of_getElem? (i := 1296) (by decide +kernel)) (by decide +kernel)
theorem wv_X8_teamDigest : Cond.instanceMethod yX8_teamDigest ∈ tg_gG := tg_mem (List.mem_of_getElem? (i := 1295) (by decide +kernel)) (by decide +kernel)
theorem ws_X8_teamDigest : Cond.selects yX8_teamDigest.cls yX8_teamDigest yX8_teamDigest ∈ tg_gG := tg_mem (List.mem_of_getElem? (i := 73) (by decide +kernel)) (by decide +kernel)
theorem wk_X8_348 : Cond.constantLong RX8 348 (17) ∈ tg_gG := tg_mem (List.mem_of_getElem? (i := 1282) (by decide +kernel)) (by decide +kernel)
theorem wm_X8_350 : Cond.methodLink RX8 350 yX8_count ∈ tg_gG := tg_mem (List.mem_of_getElem? (i := 1284) (by decide +kernel)) (by decide +kernel)
theorem wm_X8_357 : Cond.methodLink RX8 357 yX8_teamDigest ∈ tg_gG := tg_mem (List.mem_of_getElem? (i := 1293) (by decide +kernel)) (by decide +kernel)
theorem wm_X8_353 : Cond.methodLink RX8 353 yX8_pullerDigest ∈ tg_gG := tg_mem (List.mem_of_getElem? (i := 1285) (by decide +kernel)) (by decide +kernel)
theorem wc_X8_digest : Cond.code yX8_digest cX8_digest 5 (some .long) ∈ tg_gG := tg_mem (List.mem_of_getElem? (i := 1281) (by decide +kernel)) (by decide +kernel)
theorem wv_X8_digest : Cond.instanceMethod yX8_digest ∈ tg_gG := tg_mem (List.mem_of_getElem? (i := 1279) (by decide +kernel)) (by decide +kernel)
theorem ws_X8_digest : Cond.selects yX8_digest.cls yX8_digest yX8_digest ∈ tg_gG := tg_mem (List.mem_of_getElem? (i := 1280) (by decide +kernel)) (by decide +kernel)
theorem yy_X0_startFor : tg_Y0 yX0_startFor cX0_startFor 2 none 1 := ⟨wc_X0_startFor, wi_X0, by decide +kernel, by decide +kernel, by decide +kernel⟩
theorem yy_X0_offer : tg_Y0 yX0_offer cX0_offer 5 none 3 := ⟨wc_X0_offer, wi_X0, by decide +kernel, by decide +kernel, by decide +kernel⟩
theorem yy_X4_append : tg_Y0 yX4_append cX4_append 3 (some .int) 2 := ⟨wc_X4_append, wi_X4, by decide +kernel, by decide +kernel, by decide +kernel⟩
theorem yy_X4_fit : tg_Y0 yX4_fit cX4_fit 3 (some .boolean) 1 := ⟨wc_X4_fit, wi_X4, by decide +kernel, by decide +kernel, by decide +kernel⟩
theorem yy_X5_isLost : tg_Y0 yX5_isLost cX5_isLost 2 (some .boolean) 1 := ⟨wc_X5_isLost, wi_X5, by decide +kernel, by decide +kernel, by decide +kernel⟩
theorem yy_X5_size : tg_Y0 yX5_size cX5_size 2 (some .int) 1 := ⟨wc_X5_size, wi_X5, by decide +kernel, by decide +kernel, by decide +kernel⟩
theorem yy_X5_renew : tg_Y0 yX5_renew cX5_renew 5 none 3 := ⟨wc_X5_renew, wi_X5, by decide +kernel, by decide +kernel, by decide +kernel⟩
theorem yy_X5_drop : tg_Y0 yX5_drop cX5_drop 3 (some .int) 1 := ⟨wc_X5_drop, wi_X5, by decide +kernel, by decide +kernel, by decide +kernel⟩
theorem yy_X7_isBelow : tg_Y0 yX7_isBelow cX7_isBelow 2 (some .boolean) 2 := ⟨wc_X7_isBelow, wi_X7, by decide +kernel, by decide +kernel, by decide +kernel⟩
theorem yy_X5_whatIsWrong : tg_Y0 yX5_whatIsWrong cX5_whatIsWrong 4 (some .int) 3 := ⟨wc_X5_whatIsWrong, wi_X5, by decide +kernel, by decide +kernel, by decide +kernel⟩
theorem yy_X5_areAlike : tg_Y0 yX5_areAlike cX5_areAlike 3 (some .boolean) 2 := ⟨wc_X5_areAlike, wi_X5, by decide +kernel, by decide +kernel, by decide +kernel⟩
theorem yy_X5_holds : tg_Y0 yX5_holds cX5_holds 4 (some .boolean) 3 := ⟨wc_X5_holds, wi_X5, by decide +kernel, by decide +kernel, by decide +kernel⟩
theorem yy_X5_item : tg_Y0 yX5_item cX5_item 3 (some .int) 2 := ⟨wc_X5_item, wi_X5, by decide +kernel, by decide +kernel, by decide +kernel⟩
theorem yy_X5_store : tg_Y0 yX5_store cX5_store 5 none 3 := ⟨wc_X5_store, wi_X5, by decide +kernel, by decide +kernel, by decide +kernel⟩
theorem yy_X5_move : tg_Y0 yX5_move cX5_move 6 none 5 := ⟨wc_X5_move, wi_X5, by decide +kernel, by decide +kernel, by decide +kernel⟩
theorem yy_X6_isFull : tg_Y0 yX6_isFull cX6_isFull 2 (some .boolean) 1 := ⟨wc_X6_isFull, wi_X6, by decide +kernel, by decide +kernel, by decide +kernel⟩
theorem yy_X6_append : tg_Y0 yX6_append cX6_append 3 (some .int) 2 := ⟨wc_X6_append, wi_X6, by decide +kernel, by decide +kernel, by decide +kernel⟩
theorem yy_X6_clear : tg_Y0 yX6_clear cX6_clear 3 (some .int) 1 := ⟨wc_X6_clear, wi_X6, by decide +kernel, by decide +kernel, by decide +kernel⟩
theorem yy_X6_cutLast : tg_Y0 yX6_cutLast cX6_cutLast 2 (some .int) 1 := ⟨wc_X6_cutLast, wi_X6, by decide +kernel, by decide +kernel, by decide +kernel⟩
theorem yy_X6_length : tg_Y0 yX6_length cX6_length 2 (some .int) 1 := ⟨wc_X6_length, wi_X6, by decide +kernel, by decide +kernel, by decide +kernel⟩
theorem yy_X6_lengthOfAll : tg_Y0 yX6_lengthOfAll cX6_lengthOfAll 3 (some .int) 0 := ⟨wc_X6_lengthOfAll, wi_X6, by decide +kernel, by decide +kernel, by decide +kernel⟩
theorem yy_X6_byteAt : tg_Y0 yX6_byteAt cX6_byteAt 3 (some .int) 2 := ⟨wc_X6_byteAt, wi_X6, by decide +kernel, by decide +kernel, by decide +kernel⟩
theorem yy_X6_callOf : tg_Y0 yX6_callOf cX6_callOf 1 (some .int) 1 := ⟨wc_X6_callOf, wi_X6, by decide +kernel, by decide +kernel, by decide +kernel⟩
theorem yy_X6_teamGoesOn : tg_Y0 yX6_teamGoesOn cX6_teamGoesOn 2 (some .boolean) 2 := ⟨wc_X6_teamGoesOn, wi_X6, by decide +kernel, by decide +kernel, by decide +kernel⟩
theorem yy_X6_firstFault : tg_Y0 yX6_firstFault cX6_firstFault 5 (some .int) 1 := ⟨wc_X6_firstFault, wi_X6, by decide +kernel, by decide +kernel, by decide +kernel⟩
theorem yy_X6_soundLength : tg_Y0 yX6_soundLength cX6_soundLength 2 (some .int) 1 := ⟨wc_X6_soundLength, wi_X6, by decide +kernel, by decide +kernel, by decide +kernel⟩
theorem yy_X6_sortOf : tg_Y0 yX6_sortOf cX6_sortOf 1 (some .int) 1 := ⟨wc_X6_sortOf, wi_X6, by decide +kernel, by decide +kernel, by decide +kernel⟩
theorem yy_X1_takeCalls : tg_Y0 yX1_takeCalls cX1_takeCalls 6 none 2 := ⟨wc_X1_takeCalls, wi_X1, by decide +kernel, by decide +kernel, by decide +kernel⟩
theorem yy_X1_takeTeam : tg_Y0 yX1_takeTeam cX1_takeTeam 5 none 2 := ⟨wc_X1_takeTeam, wi_X1, by decide +kernel, by decide +kernel, by decide +kernel⟩
theorem yy_X1_takeTexts : tg_Y0 yX1_takeTexts cX1_takeTexts 3 none 1 := ⟨wc_X1_takeTexts, wi_X1, by decide +kernel, by decide +kernel, by decide +kernel⟩
theorem yy_X3_happens : tg_Y0 yX3_happens cX3_happens 3 (some .boolean) 2 := ⟨wc_X3_happens, wi_X3, by decide +kernel, by decide +kernel, by decide +kernel⟩
theorem yy_X2_meetEvents : tg_Y0 yX2_meetEvents cX2_meetEvents 5 none 2 := ⟨wc_X2_meetEvents, wi_X2, by decide +kernel, by decide +kernel, by decide +kernel⟩
theorem yy_X2_moveRope : tg_Y0 yX2_moveRope cX2_moveRope 3 none 2 := ⟨wc_X2_moveRope, wi_X2, by decide +kernel, by decide +kernel, by decide +kernel⟩
theorem yy_X2_forceOf : tg_Y0 yX2_forceOf cX2_forceOf 8 (some .int) 3 := ⟨wc_X2_forceOf, wi_X2, by decide +kernel, by decide +kernel, by decide +kernel⟩
theorem yy_X2_pullOfTeam : tg_Y0 yX2_pullOfTeam cX2_pullOfTeam 10 (some .int) 3 := ⟨wc_X2_pullOfTeam, wi_X2, by decide +kernel, by decide +kernel, by decide +kernel⟩
theorem yy_X2_standStill : tg_Y0 yX2_standStill cX2_standStill 3 none 1 := ⟨wc_X2_standStill, wi_X2, by decide +kernel, by decide +kernel, by decide +kernel⟩
theorem yy_X2_play : tg_Y0 yX2_play cX2_play 6 (some .int) 1 := ⟨wc_X2_play, wi_X2, by decide +kernel, by decide +kernel, by decide +kernel⟩
theorem yy_X7_playTold : tg_Y0 yX7_playTold cX7_playTold 1 none 0 := ⟨wc_X7_playTold, wi_X7, by decide +kernel, by decide +kernel, by decide +kernel⟩
theorem yy_X7_playTexts : tg_Y0 yX7_playTexts cX7_playTexts 1 none 0 := ⟨wc_X7_playTexts, wi_X7, by decide +kernel, by decide +kernel, by decide +kernel⟩
theorem yy_X7_type : tg_Y0 yX7_type cX7_type 4 (some .int) 2 := ⟨wc_X7_type, wi_X7, by decide +kernel, by decide +kernel, by decide +kernel⟩
theorem yy_X7_wipe : tg_Y0 yX7_wipe cX7_wipe 3 (some .int) 1 := ⟨wc_X7_wipe, wi_X7, by decide +kernel, by decide +kernel, by decide +kernel⟩
theorem yy_X7_undo : tg_Y0 yX7_undo cX7_undo 3 (some .int) 1 := ⟨wc_X7_undo, wi_X7, by decide +kernel, by decide +kernel, by decide +kernel⟩
theorem yy_X7_fault : tg_Y0 yX7_fault cX7_fault 2 (some .int) 1 := ⟨wc_X7_fault, wi_X7, by decide +kernel, by decide +kernel, by decide +kernel⟩
theorem yy_X7_isPuller : tg_Y0 yX7_isPuller cX7_isPuller 2 (some .boolean) 1 := ⟨wc_X7_isPuller, wi_X7, by decide +kernel, by decide +kernel, by decide +kernel⟩
theorem yy_X7_puller : tg_Y0 yX7_puller cX7_puller 3 (some .int) 2 := ⟨wc_X7_puller, wi_X7, by decide +kernel, by decide +kernel, by decide +kernel⟩
theorem yy_X7_call : tg_Y0 yX7_call cX7_call 3 (some .int) 2 := ⟨wc_X7_call, wi_X7, by decide +kernel, by decide +kernel, by decide +kernel⟩
theorem yy_X7_mud : tg_Y0 yX7_mud cX7_mud 3 (some .int) 1 := ⟨wc_X7_mud, wi_X7, by decide +kernel, by decide +kernel, by decide +kernel⟩
theorem yy_X3_append : tg_Y0 yX3_append cX3_append 4 (some .int) 3 := ⟨wc_X3_append, wi_X3, by decide +kernel, by decide +kernel, by decide +kernel⟩
theorem yy_X3_mayBe : tg_Y0 yX3_mayBe cX3_mayBe 3 (some .boolean) 3 := ⟨wc_X3_mayBe, wi_X3, by decide +kernel, by decide +kernel, by decide +kernel⟩
theorem yy_X7_event : tg_Y0 yX7_event cX7_event 5 (some .int) 3 := ⟨wc_X7_event, wi_X7, by decide +kernel, by decide +kernel, by decide +kernel⟩
theorem yy_X3_cutLast : tg_Y0 yX3_cutLast cX3_cutLast 1 (some .int) 0 := ⟨wc_X3_cutLast, wi_X3, by decide +kernel, by decide +kernel, by decide +kernel⟩
theorem yy_X7_back : tg_Y0 yX7_back cX7_back 2 (some .int) 0 := ⟨wc_X7_back, wi_X7, by decide +kernel, by decide +kernel, by decide +kernel⟩
theorem yy_X7_found : tg_Y0 yX7_found cX7_found 2 (some .int) 1 := ⟨wc_X7_found, wi_X7, by decide +kernel, by decide +kernel, by decide +kernel⟩
theorem yy_X7_read : tg_Y0 yX7_read cX7_read 5 (some .int) 1 := ⟨wc_X7_read, wi_X7, by decide +kernel, by decide +kernel, by decide +kernel⟩
theorem yy_X7_rope : tg_Y0 yX7_rope cX7_rope 3 (some .int) 2 := ⟨wc_X7_rope, wi_X7, by decide +kernel, by decide +kernel, by decide +kernel⟩
theorem yy_X7_at : tg_Y0 yX7_at cX7_at 5 (some .int) 3 := ⟨wc_X7_at, wi_X7, by decide +kernel, by decide +kernel, by decide +kernel⟩
theorem yy_X7_won : tg_Y0 yX7_won cX7_won 2 (some .int) 1 := ⟨wc_X7_won, wi_X7, by decide +kernel, by decide +kernel, by decide +kernel⟩
theorem yy_X7_furthest : tg_Y0 yX7_furthest cX7_furthest 5 (some .int) 1 := ⟨wc_X7_furthest, wi_X7, by decide +kernel, by decide +kernel, by decide +kernel⟩
theorem yy_X7_pulledInAll : tg_Y0 yX7_pulledInAll cX7_pulledInAll 4 (some .int) 1 := ⟨wc_X7_pulledInAll, wi_X7, by decide +kernel, by decide +kernel, by decide +kernel⟩
theorem yy_X7_done : tg_Y0 yX7_done cX7_done 2 (some .int) 1 := ⟨wc_X7_done, wi_X7, by decide +kernel, by decide +kernel, by decide +kernel⟩
theorem yy_X7_spent : tg_Y0 yX7_spent cX7_spent 3 (some .int) 0 := ⟨wc_X7_spent, wi_X7, by decide +kernel, by decide +kernel, by decide +kernel⟩
theorem yy_X7_best : tg_Y0 yX7_best cX7_best 5 (some .int) 0 := ⟨wc_X7_best, wi_X7, by decide +kernel, by decide +kernel, by decide +kernel⟩
theorem yy_X7_level : tg_Y0 yX7_level cX7_level 4 (some .int) 0 := ⟨wc_X7_level, wi_X7, by decide +kernel, by decide +kernel, by decide +kernel⟩
theorem yy_X3_takeFrom : tg_Y0 yX3_takeFrom cX3_takeFrom 2 none 1 := ⟨wc_X3_takeFrom, wi_X3, by decide +kernel, by decide +kernel, by decide +kernel⟩
theorem yy_X1_becomeLike : tg_Y0 yX1_becomeLike cX1_becomeLike 3 none 1 := ⟨wc_X1_becomeLike, wi_X1, by decide +kernel, by decide +kernel, by decide +kernel⟩
theorem yy_X7_better : tg_Y0 yX7_better cX7_better 5 (some .int) 3 := ⟨wc_X7_better, wi_X7, by decide +kernel, by decide +kernel, by decide +kernel⟩
theorem yy_X7_chooseSwap : tg_Y0 yX7_chooseSwap cX7_chooseSwap 6 none 1 := ⟨wc_X7_chooseSwap, wi_X7, by decide +kernel, by decide +kernel, by decide +kernel⟩
theorem yy_X7_swap : tg_Y0 yX7_swap cX7_swap 3 (some .int) 2 := ⟨wc_X7_swap, wi_X7, by decide +kernel, by decide +kernel, by decide +kernel⟩
theorem yy_X1_leaveOut : tg_Y0 yX1_leaveOut cX1_leaveOut 3 none 2 := ⟨wc_X1_leaveOut, wi_X1, by decide +kernel, by decide +kernel, by decide +kernel⟩
theorem yy_X7_chooseOut : tg_Y0 yX7_chooseOut cX7_chooseOut 5 none 1 := ⟨wc_X7_chooseOut, wi_X7, by decide +kernel, by decide +kernel, by decide +kernel⟩
theorem yy_X7_out : tg_Y0 yX7_out cX7_out 3 (some .int) 2 := ⟨wc_X7_out, wi_X7, by decide +kernel, by decide +kernel, by decide +kernel⟩
theorem yy_X7_winnerWithout : tg_Y0 yX7_winnerWithout cX7_winnerWithout 2 (some .int) 1 := ⟨wc_X7_winnerWithout, wi_X7, by decide +kernel, by decide +kernel, by decide +kernel⟩
theorem yy_X7_chooseSpare : tg_Y0 yX7_chooseSpare cX7_chooseSpare 4 (some .int) 0 := ⟨wc_X7_chooseSpare, wi_X7, by decide +kernel, by decide +kernel, by decide +kernel⟩
theorem yy_X7_spare : tg_Y0 yX7_spare cX7_spare 3 (some .int) 1 := ⟨wc_X7_spare, wi_X7, by decide +kernel, by decide +kernel, by decide +kernel⟩
theorem yy_X7_seen : tg_Y0 yX7_seen cX7_seen 3 (some .int) 2 := ⟨wc_X7_seen, wi_X7, by decide +kernel, by decide +kernel, by decide +kernel⟩
theorem yy_X7_forget : tg_Y0 yX7_forget cX7_forget 2 (some .int) 0 := ⟨wc_X7_forget, wi_X7, by decide +kernel, by decide +kernel, by decide +kernel⟩
theorem yy_X7_never : tg_Y0 yX7_never cX7_never 3 (some .int) 0 := ⟨wc_X7_never, wi_X7, by decide +kernel, by decide +kernel, by decide +kernel⟩
theorem yy_X7_sortsThatFit : tg_Y0 yX7_sortsThatFit cX7_sortsThatFit 4 (some .int) 1 := ⟨wc_X7_sortsThatFit, wi_X7, by decide +kernel, by decide +kernel, by decide +kernel⟩
theorem yy_X7_weightsThatFit : tg_Y0 yX7_weightsThatFit cX7_weightsThatFit 5 (some .int) 1 := ⟨wc_X7_weightsThatFit, wi_X7, by decide +kernel, by decide +kernel, by decide +kernel⟩
theorem yy_X7_was : tg_Y0 yX7_was cX7_was 3 (some .int) 2 := ⟨wc_X7_was, wi_X7, by decide +kernel, by decide +kernel, by decide +kernel⟩
theorem yy_X7_greatestLikeness : tg_Y0 yX7_greatestLikeness cX7_greatestLikeness 8 (some .int) 2 := ⟨wc_X7_greatestLikeness, wi_X7, by decide +kernel, by decide +kernel, by decide +kernel⟩
theorem yy_X7_ask : tg_Y0 yX7_ask cX7_ask 7 (some .int) 1 := ⟨wc_X7_ask, wi_X7, by decide +kernel, by decide +kernel, by decide +kernel⟩
theorem yy_X7_refreshWinners : tg_Y0 yX7_refreshWinners cX7_refreshWinners 2 none 0 := ⟨wc_X7_refreshWinners, wi_X7, by decide +kernel, by decide +kernel, by decide +kernel⟩
theorem yy_X7_waysToMiss : tg_Y0 yX7_waysToMiss cX7_waysToMiss 6 (some .long) 2 := ⟨wc_X7_waysToMiss, wi_X7, by decide +kernel, by decide +kernel, by decide +kernel⟩
theorem yy_X7_waysToWin : tg_Y0 yX7_waysToWin cX7_waysToWin 6 (some .long) 2 := ⟨wc_X7_waysToWin, wi_X7, by decide +kernel, by decide +kernel, by decide +kernel⟩
theorem yy_X7_chance : tg_Y0 yX7_chance cX7_chance 10 (some .long) 3 := ⟨wc_X7_chance, wi_X7, by decide +kernel, by decide +kernel, by decide +kernel⟩
theorem yy_X7_years : tg_Y0 yX7_years cX7_years 6 (some .int) 3 := ⟨wc_X7_years, wi_X7, by decide +kernel, by decide +kernel, by decide +kernel⟩
theorem yy_X7_sheet : tg_Y0 yX7_sheet cX7_sheet 4 (some .int) 3 := ⟨wc_X7_sheet, wi_X7, by decide +kernel, by decide +kernel, by decide +kernel⟩
theorem yy_X7_lose : tg_Y0 yX7_lose cX7_lose 2 (some .int) 1 := ⟨wc_X7_lose, wi_X7, by decide +kernel, by decide +kernel, by decide +kernel⟩
theorem yy_X7_put : tg_Y0 yX7_put cX7_put 6 (some .int) 4 := ⟨wc_X7_put, wi_X7, by decide +kernel, by decide +kernel, by decide +kernel⟩
theorem yy_X7_get : tg_Y0 yX7_get cX7_get 5 (some .int) 3 := ⟨wc_X7_get, wi_X7, by decide +kernel, by decide +kernel, by decide +kernel⟩
theorem yy_X7_copy : tg_Y0 yX7_copy cX7_copy 6 (some .int) 5 := ⟨wc_X7_copy, wi_X7, by decide +kernel, by decide +kernel, by decide +kernel⟩
theorem yy_X7_write : tg_Y0 yX7_write cX7_write 4 (some .int) 1 := ⟨wc_X7_write, wi_X7, by decide +kernel, by decide +kernel, by decide +kernel⟩
theorem yy_X7_count : tg_Y0 yX7_count cX7_count 2 (some .int) 1 := ⟨wc_X7_count, wi_X7, by decide +kernel, by decide +kernel, by decide +kernel⟩
theorem yy_X7_withBeat : tg_Y0 yX7_withBeat cX7_withBeat 7 (some .long) 2 := ⟨wc_X7_withBeat, wi_X7, by decide +kernel, by decide +kernel, by decide +kernel⟩
theorem yy_X7_withPuller : tg_Y0 yX7_withPuller cX7_withPuller 10 (some .long) 2 := ⟨wc_X7_withPuller, wi_X7, by decide +kernel, by decide +kernel, by decide +kernel⟩
theorem yy_X7_withTeam : tg_Y0 yX7_withTeam cX7_withTeam 7 (some .long) 2 := ⟨wc_X7_withTeam, wi_X7, by decide +kernel, by decide +kernel, by decide +kernel⟩
theorem yy_X7_digest : tg_Y0 yX7_digest cX7_digest 4 (some .long) 0 := ⟨wc_X7_digest, wi_X7, by decide +kernel, by decide +kernel, by decide +kernel⟩
theorem yy_X8_in : tg_Y0 yX8_in cX8_in 3 (some .boolean) 3 := ⟨wc_X8_in, wi_X8, by decide +kernel, by decide +kernel, by decide +kernel⟩
theorem yy_X8_isIn : tg_Y0 yX8_isIn cX8_isIn 2 (some .boolean) 2 := ⟨wc_X8_isIn, wi_X8, by decide +kernel, by decide +kernel, by decide +kernel⟩
theorem yy_X8_no : tg_Y0 yX8_no cX8_no 1 (some .long) 1 := ⟨wc_X8_no, wi_X8, by decide +kernel, by decide +kernel, by decide +kernel⟩
theorem yy_X8_lowest : tg_Y0 yX8_lowest cX8_lowest 11 (some .long) 3 := ⟨wc_X8_lowest, wi_X8, by decide +kernel, by decide +kernel, by decide +kernel⟩
theorem yy_X8_isText : tg_Y0 yX8_isText cX8_isText 1 (some .boolean) 1 := ⟨wc_X8_isText, wi_X8, by decide +kernel, by decide +kernel, by decide +kernel⟩
theorem yy_X8_isBeat : tg_Y0 yX8_isBeat cX8_isBeat 1 (some .boolean) 1 := ⟨wc_X8_isBeat, wi_X8, by decide +kernel, by decide +kernel, by decide +kernel⟩
theorem yy_X8_isTwo : tg_Y0 yX8_isTwo cX8_isTwo 1 (some .boolean) 1 := ⟨wc_X8_isTwo, wi_X8, by decide +kernel, by decide +kernel, by decide +kernel⟩
theorem yy_X8_isThree : tg_Y0 yX8_isThree cX8_isThree 1 (some .boolean) 1 := ⟨wc_X8_isThree, wi_X8, by decide +kernel, by decide +kernel, by decide +kernel⟩
theorem yy_X8_type : tg_Y0 yX8_type cX8_type 3 (some .int) 2 := ⟨wc_X8_type, wi_X8, by decide +kernel, by decide +kernel, by decide +kernel⟩
theorem yy_X8_wipe : tg_Y0 yX8_wipe cX8_wipe 3 (some .int) 1 := ⟨wc_X8_wipe, wi_X8, by decide +kernel, by decide +kernel, by decide +kernel⟩
theorem yy_X8_undo : tg_Y0 yX8_undo cX8_undo 2 (some .int) 1 := ⟨wc_X8_undo, wi_X8, by decide +kernel, by decide +kernel, by decide +kernel⟩
theorem yy_X8_byteAt : tg_Y0 yX8_byteAt cX8_byteAt 3 (some .int) 2 := ⟨wc_X8_byteAt, wi_X8, by decide +kernel, by decide +kernel, by decide +kernel⟩
theorem yy_X8_readsPuller : tg_Y0 yX8_readsPuller cX8_readsPuller 8 (some .int) 3 := ⟨wc_X8_readsPuller, wi_X8, by decide +kernel, by decide +kernel, by decide +kernel⟩
theorem yy_X8_readsTeam : tg_Y0 yX8_readsTeam cX8_readsTeam 5 (some .int) 1 := ⟨wc_X8_readsTeam, wi_X8, by decide +kernel, by decide +kernel, by decide +kernel⟩
theorem yy_X8_callBy : tg_Y0 yX8_callBy cX8_callBy 1 (some .int) 1 := ⟨wc_X8_callBy, wi_X8, by decide +kernel, by decide +kernel, by decide +kernel⟩
theorem yy_X8_readsCalls : tg_Y0 yX8_readsCalls cX8_readsCalls 4 (some .int) 1 := ⟨wc_X8_readsCalls, wi_X8, by decide +kernel, by decide +kernel, by decide +kernel⟩
theorem yy_X8_faultOf : tg_Y0 yX8_faultOf cX8_faultOf 6 (some .int) 1 := ⟨wc_X8_faultOf, wi_X8, by decide +kernel, by decide +kernel, by decide +kernel⟩
theorem yy_X8_reads : tg_Y0 yX8_reads cX8_reads 2 none 0 := ⟨wc_X8_reads, wi_X8, by decide +kernel, by decide +kernel, by decide +kernel⟩
theorem yy_X8_fault : tg_Y0 yX8_fault cX8_fault 2 (some .int) 1 := ⟨wc_X8_fault, wi_X8, by decide +kernel, by decide +kernel, by decide +kernel⟩
theorem yy_X8_isThereOne : tg_Y0 yX8_isThereOne cX8_isThereOne 2 (some .boolean) 1 := ⟨wc_X8_isThereOne, wi_X8, by decide +kernel, by decide +kernel, by decide +kernel⟩
theorem yy_X8_isPuller : tg_Y0 yX8_isPuller cX8_isPuller 2 (some .boolean) 1 := ⟨wc_X8_isPuller, wi_X8, by decide +kernel, by decide +kernel, by decide +kernel⟩
theorem yy_X8_pullerOf : tg_Y0 yX8_pullerOf cX8_pullerOf 3 (some .int) 2 := ⟨wc_X8_pullerOf, wi_X8, by decide +kernel, by decide +kernel, by decide +kernel⟩
theorem yy_X8_puller : tg_Y0 yX8_puller cX8_puller 3 (some .int) 2 := ⟨wc_X8_puller, wi_X8, by decide +kernel, by decide +kernel, by decide +kernel⟩
theorem yy_X8_callOf : tg_Y0 yX8_callOf cX8_callOf 3 (some .int) 2 := ⟨wc_X8_callOf, wi_X8, by decide +kernel, by decide +kernel, by decide +kernel⟩
theorem yy_X8_call : tg_Y0 yX8_call cX8_call 3 (some .int) 2 := ⟨wc_X8_call, wi_X8, by decide +kernel, by decide +kernel, by decide +kernel⟩
theorem yy_X8_mud : tg_Y0 yX8_mud cX8_mud 3 (some .int) 1 := ⟨wc_X8_mud, wi_X8, by decide +kernel, by decide +kernel, by decide +kernel⟩
theorem yy_X8_event : tg_Y0 yX8_event cX8_event 4 (some .int) 3 := ⟨wc_X8_event, wi_X8, by decide +kernel, by decide +kernel, by decide +kernel⟩
theorem yy_X8_back : tg_Y0 yX8_back cX8_back 1 (some .int) 0 := ⟨wc_X8_back, wi_X8, by decide +kernel, by decide +kernel, by decide +kernel⟩
theorem yy_X8_isSheet : tg_Y0 yX8_isSheet cX8_isSheet 1 (some .boolean) 1 := ⟨wc_X8_isSheet, wi_X8, by decide +kernel, by decide +kernel, by decide +kernel⟩
theorem yy_X8_meets : tg_Y0 yX8_meets cX8_meets 2 (some .int) 1 := ⟨wc_X8_meets, wi_X8, by decide +kernel, by decide +kernel, by decide +kernel⟩
theorem yy_X8_read : tg_Y0 yX8_read cX8_read 4 (some .int) 1 := ⟨wc_X8_read, wi_X8, by decide +kernel, by decide +kernel, by decide +kernel⟩
theorem yy_X8_asTold : tg_Y0 yX8_asTold cX8_asTold 2 none 0 := ⟨wc_X8_asTold, wi_X8, by decide +kernel, by decide +kernel, by decide +kernel⟩
theorem yy_X8_isHere : tg_Y0 yX8_isHere cX8_isHere 2 (some .boolean) 1 := ⟨wc_X8_isHere, wi_X8, by decide +kernel, by decide +kernel, by decide +kernel⟩
theorem yy_X8_befalls : tg_Y0 yX8_befalls cX8_befalls 3 none 1 := ⟨wc_X8_befalls, wi_X8, by decide +kernel, by decide +kernel, by decide +kernel⟩
theorem yy_X8_strength : tg_Y0 yX8_strength cX8_strength 5 (some .int) 2 := ⟨wc_X8_strength, wi_X8, by decide +kernel, by decide +kernel, by decide +kernel⟩
theorem yy_X8_pullsOne : tg_Y0 yX8_pullsOne cX8_pullsOne 6 none 2 := ⟨wc_X8_pullsOne, wi_X8, by decide +kernel, by decide +kernel, by decide +kernel⟩
theorem yy_X8_goes : tg_Y0 yX8_goes cX8_goes 4 none 1 := ⟨wc_X8_goes, wi_X8, by decide +kernel, by decide +kernel, by decide +kernel⟩
theorem yy_X8_goesBy : tg_Y0 yX8_goesBy cX8_goesBy 3 none 1 := ⟨wc_X8_goesBy, wi_X8, by decide +kernel, by decide +kernel, by decide +kernel⟩
theorem yy_X8_runs : tg_Y0 yX8_runs cX8_runs 4 none 0 := ⟨wc_X8_runs, wi_X8, by decide +kernel, by decide +kernel, by decide +kernel⟩
theorem yy_X8_runsTold : tg_Y0 yX8_runsTold cX8_runsTold 1 none 0 := ⟨wc_X8_runsTold, wi_X8, by decide +kernel, by decide +kernel, by decide +kernel⟩
theorem yy_X8_ropeOf : tg_Y0 yX8_ropeOf cX8_ropeOf 3 (some .int) 2 := ⟨wc_X8_ropeOf, wi_X8, by decide +kernel, by decide +kernel, by decide +kernel⟩
theorem yy_X8_rope : tg_Y0 yX8_rope cX8_rope 3 (some .int) 2 := ⟨wc_X8_rope, wi_X8, by decide +kernel, by decide +kernel, by decide +kernel⟩
theorem yy_X8_atOf : tg_Y0 yX8_atOf cX8_atOf 4 (some .int) 3 := ⟨wc_X8_atOf, wi_X8, by decide +kernel, by decide +kernel, by decide +kernel⟩
theorem yy_X8_at : tg_Y0 yX8_at cX8_at 4 (some .int) 3 := ⟨wc_X8_at, wi_X8, by decide +kernel, by decide +kernel, by decide +kernel⟩
theorem yy_X8_wonOf : tg_Y0 yX8_wonOf cX8_wonOf 2 (some .int) 1 := ⟨wc_X8_wonOf, wi_X8, by decide +kernel, by decide +kernel, by decide +kernel⟩
theorem yy_X8_won : tg_Y0 yX8_won cX8_won 2 (some .int) 1 := ⟨wc_X8_won, wi_X8, by decide +kernel, by decide +kernel, by decide +kernel⟩
theorem yy_X8_furthestOf : tg_Y0 yX8_furthestOf cX8_furthestOf 5 (some .int) 1 := ⟨wc_X8_furthestOf, wi_X8, by decide +kernel, by decide +kernel, by decide +kernel⟩
theorem yy_X8_furthest : tg_Y0 yX8_furthest cX8_furthest 2 (some .int) 1 := ⟨wc_X8_furthest, wi_X8, by decide +kernel, by decide +kernel, by decide +kernel⟩
theorem yy_X8_doneOf : tg_Y0 yX8_doneOf cX8_doneOf 2 (some .int) 1 := ⟨wc_X8_doneOf, wi_X8, by decide +kernel, by decide +kernel, by decide +kernel⟩
theorem yy_X8_done : tg_Y0 yX8_done cX8_done 2 (some .int) 1 := ⟨wc_X8_done, wi_X8, by decide +kernel, by decide +kernel, by decide +kernel⟩
theorem yy_X8_spentOf : tg_Y0 yX8_spentOf cX8_spentOf 3 (some .int) 0 := ⟨wc_X8_spentOf, wi_X8, by decide +kernel, by decide +kernel, by decide +kernel⟩
theorem yy_X8_spent : tg_Y0 yX8_spent cX8_spent 1 (some .int) 0 := ⟨wc_X8_spent, wi_X8, by decide +kernel, by decide +kernel, by decide +kernel⟩
theorem yy_X8_bestOf : tg_Y0 yX8_bestOf cX8_bestOf 4 (some .int) 0 := ⟨wc_X8_bestOf, wi_X8, by decide +kernel, by decide +kernel, by decide +kernel⟩
theorem yy_X8_best : tg_Y0 yX8_best cX8_best 1 (some .int) 0 := ⟨wc_X8_best, wi_X8, by decide +kernel, by decide +kernel, by decide +kernel⟩
theorem yy_X8_levelOf : tg_Y0 yX8_levelOf cX8_levelOf 1 (some .int) 0 := ⟨wc_X8_levelOf, wi_X8, by decide +kernel, by decide +kernel, by decide +kernel⟩
theorem yy_X8_level : tg_Y0 yX8_level cX8_level 1 (some .int) 0 := ⟨wc_X8_level, wi_X8, by decide +kernel, by decide +kernel, by decide +kernel⟩
theorem yy_X8_starts : tg_Y0 yX8_starts cX8_starts 1 none 0 := ⟨wc_X8_starts, wi_X8, by decide +kernel, by decide +kernel, by decide +kernel⟩
theorem yy_X8_tries : tg_Y0 yX8_tries cX8_tries 4 none 2 := ⟨wc_X8_tries, wi_X8, by decide +kernel, by decide +kernel, by decide +kernel⟩
theorem yy_X8_betterOf : tg_Y0 yX8_betterOf cX8_betterOf 5 (some .int) 3 := ⟨wc_X8_betterOf, wi_X8, by decide +kernel, by decide +kernel, by decide +kernel⟩
theorem yy_X8_better : tg_Y0 yX8_better cX8_better 4 (some .int) 3 := ⟨wc_X8_better, wi_X8, by decide +kernel, by decide +kernel, by decide +kernel⟩
theorem yy_X8_swapOf : tg_Y0 yX8_swapOf cX8_swapOf 6 (some .int) 2 := ⟨wc_X8_swapOf, wi_X8, by decide +kernel, by decide +kernel, by decide +kernel⟩
theorem yy_X8_swap : tg_Y0 yX8_swap cX8_swap 3 (some .int) 2 := ⟨wc_X8_swap, wi_X8, by decide +kernel, by decide +kernel, by decide +kernel⟩
theorem yy_X8_outOf : tg_Y0 yX8_outOf cX8_outOf 4 (some .int) 2 := ⟨wc_X8_outOf, wi_X8, by decide +kernel, by decide +kernel, by decide +kernel⟩
theorem yy_X8_out : tg_Y0 yX8_out cX8_out 3 (some .int) 2 := ⟨wc_X8_out, wi_X8, by decide +kernel, by decide +kernel, by decide +kernel⟩
theorem yy_X8_isSpared : tg_Y0 yX8_isSpared cX8_isSpared 2 (some .boolean) 1 := ⟨wc_X8_isSpared, wi_X8, by decide +kernel, by decide +kernel, by decide +kernel⟩
theorem yy_X8_spareBy : tg_Y0 yX8_spareBy cX8_spareBy 3 (some .int) 0 := ⟨wc_X8_spareBy, wi_X8, by decide +kernel, by decide +kernel, by decide +kernel⟩
theorem yy_X8_ofRow : tg_Y0 yX8_ofRow cX8_ofRow 3 (some .int) 2 := ⟨wc_X8_ofRow, wi_X8, by decide +kernel, by decide +kernel, by decide +kernel⟩
theorem yy_X8_spare : tg_Y0 yX8_spare cX8_spare 2 (some .int) 1 := ⟨wc_X8_spare, wi_X8, by decide +kernel, by decide +kernel, by decide +kernel⟩
theorem yy_X8_seen : tg_Y0 yX8_seen cX8_seen 3 (some .int) 2 := ⟨wc_X8_seen, wi_X8, by decide +kernel, by decide +kernel, by decide +kernel⟩
theorem yy_X8_forget : tg_Y0 yX8_forget cX8_forget 2 (some .int) 0 := ⟨wc_X8_forget, wi_X8, by decide +kernel, by decide +kernel, by decide +kernel⟩
theorem yy_X8_isSeen : tg_Y0 yX8_isSeen cX8_isSeen 3 (some .boolean) 0 := ⟨wc_X8_isSeen, wi_X8, by decide +kernel, by decide +kernel, by decide +kernel⟩
theorem yy_X8_neverNow : tg_Y0 yX8_neverNow cX8_neverNow 3 (some .int) 0 := ⟨wc_X8_neverNow, wi_X8, by decide +kernel, by decide +kernel, by decide +kernel⟩
theorem yy_X8_never : tg_Y0 yX8_never cX8_never 1 (some .int) 0 := ⟨wc_X8_never, wi_X8, by decide +kernel, by decide +kernel, by decide +kernel⟩
theorem yy_X8_weightsBy : tg_Y0 yX8_weightsBy cX8_weightsBy 6 (some .int) 1 := ⟨wc_X8_weightsBy, wi_X8, by decide +kernel, by decide +kernel, by decide +kernel⟩
theorem yy_X8_sortsBy : tg_Y0 yX8_sortsBy cX8_sortsBy 5 (some .int) 1 := ⟨wc_X8_sortsBy, wi_X8, by decide +kernel, by decide +kernel, by decide +kernel⟩
theorem yy_X8_was : tg_Y0 yX8_was cX8_was 3 (some .int) 2 := ⟨wc_X8_was, wi_X8, by decide +kernel, by decide +kernel, by decide +kernel⟩
theorem yy_X8_askOf : tg_Y0 yX8_askOf cX8_askOf 10 (some .int) 1 := ⟨wc_X8_askOf, wi_X8, by decide +kernel, by decide +kernel, by decide +kernel⟩
theorem yy_X8_ask : tg_Y0 yX8_ask cX8_ask 2 (some .int) 1 := ⟨wc_X8_ask, wi_X8, by decide +kernel, by decide +kernel, by decide +kernel⟩
theorem yy_X8_chanceOf : tg_Y0 yX8_chanceOf cX8_chanceOf 10 (some .long) 3 := ⟨wc_X8_chanceOf, wi_X8, by decide +kernel, by decide +kernel, by decide +kernel⟩
theorem yy_X8_chance : tg_Y0 yX8_chance cX8_chance 4 (some .long) 3 := ⟨wc_X8_chance, wi_X8, by decide +kernel, by decide +kernel, by decide +kernel⟩
theorem yy_X8_yearsOf : tg_Y0 yX8_yearsOf cX8_yearsOf 6 (some .int) 3 := ⟨wc_X8_yearsOf, wi_X8, by decide +kernel, by decide +kernel, by decide +kernel⟩
theorem yy_X8_years : tg_Y0 yX8_years cX8_years 4 (some .int) 3 := ⟨wc_X8_years, wi_X8, by decide +kernel, by decide +kernel, by decide +kernel⟩
theorem yy_X8_sheet : tg_Y0 yX8_sheet cX8_sheet 5 (some .int) 3 := ⟨wc_X8_sheet, wi_X8, by decide +kernel, by decide +kernel, by decide +kernel⟩
theorem yy_X8_lose : tg_Y0 yX8_lose cX8_lose 2 (some .int) 1 := ⟨wc_X8_lose, wi_X8, by decide +kernel, by decide +kernel, by decide +kernel⟩
theorem yy_X8_lacks : tg_Y0 yX8_lacks cX8_lacks 4 (some .int) 3 := ⟨wc_X8_lacks, wi_X8, by decide +kernel, by decide +kernel, by decide +kernel⟩
theorem yy_X8_keep : tg_Y0 yX8_keep cX8_keep 4 none 3 := ⟨wc_X8_keep, wi_X8, by decide +kernel, by decide +kernel, by decide +kernel⟩
theorem yy_X8_put : tg_Y0 yX8_put cX8_put 6 (some .int) 4 := ⟨wc_X8_put, wi_X8, by decide +kernel, by decide +kernel, by decide +kernel⟩
theorem yy_X8_get : tg_Y0 yX8_get cX8_get 5 (some .int) 3 := ⟨wc_X8_get, wi_X8, by decide +kernel, by decide +kernel, by decide +kernel⟩
theorem yy_X8_copy : tg_Y0 yX8_copy cX8_copy 7 (some .int) 5 := ⟨wc_X8_copy, wi_X8, by decide +kernel, by decide +kernel, by decide +kernel⟩
theorem yy_X8_write : tg_Y0 yX8_write cX8_write 3 (some .int) 1 := ⟨wc_X8_write, wi_X8, by decide +kernel, by decide +kernel, by decide +kernel⟩
theorem yy_X8_tellOf : tg_Y0 yX8_tellOf cX8_tellOf 2 (some .int) 1 := ⟨wc_X8_tellOf, wi_X8, by decide +kernel, by decide +kernel, by decide +kernel⟩
theorem yy_X8_count : tg_Y0 yX8_count cX8_count 2 (some .int) 1 := ⟨wc_X8_count, wi_X8, by decide +kernel, by decide +kernel, by decide +kernel⟩
theorem yy_X8_beatDigest : tg_Y0 yX8_beatDigest cX8_beatDigest 7 (some .long) 3 := ⟨wc_X8_beatDigest, wi_X8, by decide +kernel, by decide +kernel, by decide +kernel⟩
theorem yy_X8_pullerDigest : tg_Y0 yX8_pullerDigest cX8_pullerDigest 7 (some .long) 2 := ⟨wc_X8_pullerDigest, wi_X8, by decide +kernel, by decide +kernel, by decide +kernel⟩
theorem yy_X8_teamDigest : tg_Y0 yX8_teamDigest cX8_teamDigest 7 (some .long) 2 := ⟨wc_X8_teamDigest, wi_X8, by decide +kernel, by decide +kernel, by decide +kernel⟩
theorem yy_X8_digest : tg_Y0 yX8_digest cX8_digest 5 (some .long) 0 := ⟨wc_X8_digest, wi_X8, by decide +kernel, by decide +kernel, by decide +kernel⟩
theorem tg_lsD2 {a b o p d z : Int} (h1 : z ≠ a) (h2 : z ≠ b) : Op.lookupswitch.offset [(a, o), (b, p)] d z = d := by
  simp [Op.lookupswitch.offset, List.find?, Ne.symm h1, Ne.symm h2, beq_iff_eq]
theorem tg_lsD3 {a b c o p q d z : Int} (h1 : z ≠ a) (h2 : z ≠ b) (h3 : z ≠ c) : Op.lookupswitch.offset [(a, o), (b, p), (c, q)] d z = d := by
  simp [Op.lookupswitch.offset, List.find?, Ne.symm h1, Ne.symm h2, Ne.symm h3, beq_iff_eq]
end
section
-- X0_startFor
def f_X0_startFor (S : tg_S) (v1 : Int32) : Option (tg_S) :=
  tg_pf S 49 3 v1 fun S1 =>
  tg_pf S1 49 0 (-1) fun S2 =>
  tg_pf S2 49 1 (-1) fun S3 =>
  tg_pf S3 49 2 (-1) fun S4 =>
  some S4
-- X0_offer
def f_X0_offer_51 (S : tg_S) (v1 : Int32) (v2 : Int32) (v3 : Int32) : Option (tg_S) :=
  tg_pf S 49 0 v1 fun S1 =>
  tg_pf S1 49 1 v2 fun S2 =>
  tg_pf S2 49 2 v3 fun S3 =>
  some S3
def f_X0_offer_36 (S : tg_S) (v1 : Int32) (v2 : Int32) (v3 : Int32) (s0 : Int32) : Option (tg_S) :=
  tg_if ((S 49 0) = (-1))
    (f_X0_offer_51 S v1 v2 v3)
    (tg_if (s0 = 0)
        (some S)
        (f_X0_offer_51 S v1 v2 v3))
def f_X0_offer (S : tg_S) (v1 : Int32) (v2 : Int32) (v3 : Int32) : Option (tg_S) :=
  f_X0_offer_36 S v1 v2 v3 (if (S 49 3) = 0 then (if v3 ≤ (S 49 2) then 0 else 1) else (if (S 49 2) ≤ v3 then 0 else 1))
-- X4_append
def f_X4_append (S : tg_S) (v1 : Int32) (v2 : Int32) : Option (tg_S × Int32) :=
  tg_wr S 5 8 (S 4 2) v1 fun S1 =>
  tg_wr S1 6 8 (S1 4 2) v2 fun S2 =>
  tg_pf S2 4 2 ((S2 4 2) + 1) fun S3 =>
  some (S3, S3 4 2)
-- X4_fit
def f_X4_fit_2 (rec2 : tg_S → Int32 → Option (tg_S × Int32)) (S : tg_S) (v2 : Int32) : Option (tg_S × Int32) :=
  tg_if ((S 4 2) ≤ v2)
    (some (S, 1))
    (tg_rd S 5 8 v2 fun y2 =>
      tg_rd S 43 24 y2 fun y3 =>
      tg_rd S 6 8 v2 fun y4 =>
      tg_if (y3 = y4)
        (tg_nm (v2 + 1 : Int32) fun y6 =>
          rec2 S y6)
        (some (S, 0)))
def L_X4_fit_2 : Nat → tg_S → Int32 → Option (tg_S × Int32)
  | 0 => fun _ _ => none
  | n + 1 => f_X4_fit_2  (L_X4_fit_2  n)
def f_X4_fit (S : tg_S) : Option (tg_S × Int32) :=
  L_X4_fit_2 tg_F S 0
-- X5_isLost
def f_X5_isLost (S : tg_S) (v1 : Int32) : Option (tg_S × Int32) :=
  tg_rd S 10 4 v1 fun y1 =>
  tg_if (y1 = (-1))
    (some (S, 1))
    (some (S, 0))
-- X5_size
def f_X5_size (S : tg_S) (v1 : Int32) : Option (tg_S × Int32) :=
  tg_rd S 10 4 v1 fun y1 =>
  some (S, y1)
-- X5_renew
def f_X5_renew_17 (rec17 : tg_S → Int32 → Int32 → Int32 → Option (tg_S)) (S : tg_S) (v1 : Int32) (v3 : Int32) (v4 : Int32) : Option (tg_S) :=
  tg_if (v3 ≤ v4)
    (some S)
    (tg_wr S 8 240 ((v1 * 60) + v4) 0 fun S2 =>
      tg_nm (v4 + 1 : Int32) fun y3 =>
      rec17 S2 v1 v3 y3)
def L_X5_renew_17 : Nat → tg_S → Int32 → Int32 → Int32 → Option (tg_S)
  | 0 => fun _ _ _ _ => none
  | n + 1 => f_X5_renew_17  (L_X5_renew_17  n)
def f_X5_renew (S : tg_S) (v1 : Int32) (v2 : Int32) (v3 : Int32) : Option (tg_S) :=
  tg_wr S 9 4 v1 v2 fun S1 =>
  tg_wr S1 10 4 v1 v3 fun S2 =>
  L_X5_renew_17 tg_F S2 v1 v3 0
-- X5_drop
def f_X5_drop (S : tg_S) (v1 : Int32) : Option (tg_S × Int32) :=
  tg_rd S 10 4 v1 fun y1 =>
  tg_wr S 10 4 v1 (-1) fun S2 =>
  some (S2, y1)
-- X7_isBelow
def f_X7_isBelow (S : tg_S) (v0 : Int32) (v1 : Int32) : Option (tg_S × Int32) :=
  tg_if (v0 < 0)
    (some (S, 0))
    (tg_if (v1 ≤ v0)
        (some (S, 0))
        (some (S, 1)))
-- X5_whatIsWrong
def f_X5_whatIsWrong (S : tg_S) (v1 : Int32) (v2 : Int32) (v3 : Int32) : Option (tg_S × Int32) :=
  tg_bd (f_X5_isLost S v1) fun S1 r2 =>
  tg_if (r2 = 0)
    (tg_rd S1 9 4 v1 fun y4 =>
      tg_if (y4 = v2)
        (tg_rd S1 10 4 v1 fun y6 =>
          tg_bd (f_X7_isBelow S1 v3 y6) fun S7 r8 =>
          tg_if (r8 = 0)
            (some (S7, 2))
            (some (S7, 0)))
        (some (S1, 3)))
    (some (S1, 1))
-- X5_areAlike
def f_X5_areAlike (S : tg_S) (v1 : Int32) (v2 : Int32) : Option (tg_S × Int32) :=
  tg_rd S 9 4 v1 fun y1 =>
  tg_rd S 9 4 v2 fun y2 =>
  tg_if (y1 = y2)
    (some (S, 1))
    (some (S, 0))
-- X5_holds
def f_X5_holds (S : tg_S) (v1 : Int32) (v2 : Int32) (v3 : Int32) : Option (tg_S × Int32) :=
  tg_if (v2 < 0)
    (some (S, 0))
    (tg_rd S 10 4 v1 fun y2 =>
      tg_if (y2 < v2)
        (some (S, 0))
        (tg_rd S 10 4 v1 fun y4 =>
          tg_if ((y4 - v2) < v3)
            (some (S, 0))
            (some (S, 1))))
-- X5_item
def f_X5_item (S : tg_S) (v1 : Int32) (v2 : Int32) : Option (tg_S × Int32) :=
  tg_rd S 8 240 ((v1 * 60) + v2) fun y1 =>
  some (S, y1)
-- X5_store
def f_X5_store_33 (S : tg_S) (v1 : Int32) (v2 : Int32) (v4 : Int32) : Option (tg_S) :=
  tg_wr S 8 240 ((v1 * 60) + v2) v4 fun S1 =>
  some S1
def f_X5_store (S : tg_S) (v1 : Int32) (v2 : Int32) (v3 : Int32) : Option (tg_S) :=
  tg_rd S 9 4 v1 fun y1 =>
  tg_if (y1 = 0)
    (tg_nm (v3.toInt8.toInt32 : Int32) fun y6 =>
      f_X5_store_33 S v1 v2 y6)
    (tg_rd S 9 4 v1 fun y3 =>
      tg_if (y3 = 1)
        (tg_nm (v3.toInt16.toInt32 : Int32) fun y5 =>
          f_X5_store_33 S v1 v2 y5)
        (f_X5_store_33 S v1 v2 v3))
-- X5_move
def f_X5_move (S : tg_S) (v1 : Int32) (v2 : Int32) (v3 : Int32) (v4 : Int32) (v5 : Int32) : Option (tg_S) :=
  tg_cp S 8 8 240 240 ((v1 * 60) + v2) ((v3 * 60) + v4) v5 fun S1 =>
  some S1
-- X6_isFull
def f_X6_isFull_18 (S : tg_S) (s0 : Int32) (s1 : Int32) : Option (tg_S × Int32) :=
  tg_if (s1 < s0)
    (some (S, 0))
    (some (S, 1))
def f_X6_isFull (S : tg_S) (v1 : Int32) : Option (tg_S × Int32) :=
  tg_rd S 3 4 v1 fun y1 =>
  f_X6_isFull_18 S (if 2 ≤ v1 then 24 else 31) y1
-- X6_append
def f_X6_append (S : tg_S) (v1 : Int32) (v2 : Int32) : Option (tg_S × Int32) :=
  tg_rd S 3 4 v1 fun y1 =>
  tg_wr S 2 124 ((v1 * 31) + y1) v2 fun S2 =>
  tg_rd S2 3 4 v1 fun y3 =>
  tg_wr S2 3 4 v1 (y3 + 1) fun S4 =>
  tg_rd S4 3 4 v1 fun y5 =>
  some (S4, y5)
-- X6_clear
def f_X6_clear (S : tg_S) (v1 : Int32) : Option (tg_S × Int32) :=
  tg_rd S 3 4 v1 fun y1 =>
  tg_wr S 3 4 v1 0 fun S2 =>
  some (S2, y1)
-- X6_cutLast
def f_X6_cutLast (S : tg_S) (v1 : Int32) : Option (tg_S × Int32) :=
  tg_rd S 3 4 v1 fun y1 =>
  tg_wr S 3 4 v1 (y1 - 1) fun S2 =>
  tg_rd S2 3 4 v1 fun y3 =>
  some (S2, y3)
-- X6_length
def f_X6_length (S : tg_S) (v1 : Int32) : Option (tg_S × Int32) :=
  tg_rd S 3 4 v1 fun y1 =>
  some (S, y1)
-- X6_lengthOfAll
def f_X6_lengthOfAll_4 (rec4 : tg_S → Int32 → Int32 → Option (tg_S × Int32)) (S : tg_S) (v1 : Int32) (v2 : Int32) : Option (tg_S × Int32) :=
  tg_if (4 ≤ v2)
    (some (S, v1))
    (tg_rd S 3 4 v2 fun y2 =>
      tg_nm (v1 + y2 : Int32) fun y3 =>
      tg_nm (v2 + 1 : Int32) fun y4 =>
      rec4 S y3 y4)
def L_X6_lengthOfAll_4 : Nat → tg_S → Int32 → Int32 → Option (tg_S × Int32)
  | 0 => fun _ _ _ => none
  | n + 1 => f_X6_lengthOfAll_4  (L_X6_lengthOfAll_4  n)
def f_X6_lengthOfAll (S : tg_S) : Option (tg_S × Int32) :=
  L_X6_lengthOfAll_4 tg_F S 0 0
-- X6_byteAt
def f_X6_byteAt (S : tg_S) (v1 : Int32) (v2 : Int32) : Option (tg_S × Int32) :=
  tg_rd S 2 124 ((v1 * 31) + v2) fun y1 =>
  some (S, y1)
-- X6_callOf
def f_X6_callOf (S : tg_S) (v0 : Int32) : Option (tg_S × Int32) :=
  tg_if (v0 = 104)
    (some (S, 2))
    (tg_if (v0 = 112)
        (some (S, 1))
        (tg_if (v0 = 114)
            (some (S, 0))
            (some (S, -1))))
-- X6_teamGoesOn
def f_X6_teamGoesOn (S : tg_S) (v0 : Int32) (v1 : Int32) : Option (tg_S × Int32) :=
  tg_if (v0 = 0)
    (tg_if (v1 = 104)
        (some (S, 1))
        (tg_if (v1 = 108)
            (some (S, 1))
            (tg_if (v1 = 97)
                (some (S, 1))
                (some (S, 0)))))
    (tg_if (v0 = 3)
        (tg_if (v1 = 59)
            (some (S, 1))
            (some (S, 0)))
        (tg_if (v1 < 49)
            (some (S, 0))
            (tg_if (57 < v1)
                (some (S, 0))
                (some (S, 1)))))
-- X6_firstFault
def f_X6_firstFault_79 (S : tg_S) (v2 : Int32) (s0 : Int32) : Option (tg_S × Int32) :=
  tg_if (s0 = 0)
    (some (S, v2))
    (some (S, -1))
def f_X6_firstFault_74 (S : tg_S) (v2 : Int32) : Option (tg_S × Int32) :=
  f_X6_firstFault_79 S v2 1
def f_X6_firstFault_52 (rec9 : tg_S → Int32 → Int32 → Int32 → Option (tg_S × Int32)) (S : tg_S) (v1 : Int32) (v2 : Int32) (v3 : Int32) : Option (tg_S × Int32) :=
  tg_nm (v3 + 1 : Int32) fun y1 =>
  rec9 S v1 v2 y1
def f_X6_firstFault_9 (rec9 : tg_S → Int32 → Int32 → Int32 → Option (tg_S × Int32)) (S : tg_S) (v1 : Int32) (v2 : Int32) (v3 : Int32) : Option (tg_S × Int32) :=
  tg_if (v2 ≤ v3)
    (tg_if (2 ≤ v1)
        (f_X6_firstFault_74 S v2)
        (tg_if (v2 = 0)
            (f_X6_firstFault_74 S v2)
            (tg_if ((v2 - v2 / 4 * 4) = 3)
                (f_X6_firstFault_74 S v2)
                (f_X6_firstFault_79 S v2 0))))
    (tg_bd (f_X6_byteAt S v1 v3) fun S5 r6 =>
      tg_if (2 ≤ v1)
        (tg_bd (f_X6_callOf S5 r6) fun S8 r9 =>
          tg_if (r9 = (-1))
            (some (S8, v3))
            (f_X6_firstFault_52 rec9 S8 v1 v2 v3))
        (tg_bd (f_X6_teamGoesOn S5 (v3 - v3 / 4 * 4) r6) fun S11 r12 =>
          tg_if (r12 = 0)
            (some (S11, v3))
            (f_X6_firstFault_52 rec9 S11 v1 v2 v3)))
def L_X6_firstFault_9 : Nat → tg_S → Int32 → Int32 → Int32 → Option (tg_S × Int32)
  | 0 => fun _ _ _ _ => none
  | n + 1 => f_X6_firstFault_9  (L_X6_firstFault_9  n)
def f_X6_firstFault (S : tg_S) (v1 : Int32) : Option (tg_S × Int32) :=
  tg_rd S 3 4 v1 fun y1 =>
  L_X6_firstFault_9 tg_F S v1 y1 0
-- X6_soundLength
def f_X6_soundLength (S : tg_S) (v1 : Int32) : Option (tg_S × Int32) :=
  tg_bd (f_X6_firstFault S v1) fun S1 r2 =>
  tg_if (r2 = (-1))
    (tg_rd S1 3 4 v1 fun y4 =>
      some (S1, y4))
    (some (S1, 0))
-- X6_sortOf
def f_X6_sortOf (S : tg_S) (v0 : Int32) : Option (tg_S × Int32) :=
  tg_if (v0 = 97)
    (some (S, 2))
    (tg_if (v0 = 104)
        (some (S, 0))
        (tg_if (v0 = 108)
            (some (S, 1))
            (some (S, -1))))
-- X1_takeCalls
def f_X1_takeCalls_53 (rec14 : tg_S → Int32 → Int32 → Int32 → Int32 → Option (tg_S)) (S : tg_S) (v2 : Int32) (v3 : Int32) (v4 : Int32) (v5 : Int32) (s0 : Int32) (s1 : Int32) : Option (tg_S) :=
  tg_wr S 18 48 s1 s0 fun S1 =>
  tg_nm (v5 + 1 : Int32) fun y2 =>
  rec14 S1 v2 v3 v4 y2
def f_X1_takeCalls_14 (rec14 : tg_S → Int32 → Int32 → Int32 → Int32 → Option (tg_S)) (S : tg_S) (v2 : Int32) (v3 : Int32) (v4 : Int32) (v5 : Int32) : Option (tg_S) :=
  tg_if (24 ≤ v5)
    (some S)
    (tg_if (v4 ≤ v5)
        (f_X1_takeCalls_53 rec14 S v2 v3 v4 v5 1 ((v2 * 24) + v5))
        (tg_bd (f_X6_byteAt S v3 v5) fun S3 r4 =>
          tg_bd (f_X6_callOf S3 r4) fun S5 r6 =>
          f_X1_takeCalls_53 rec14 S5 v2 v3 v4 v5 r6 ((v2 * 24) + v5)))
def L_X1_takeCalls_14 : Nat → tg_S → Int32 → Int32 → Int32 → Int32 → Option (tg_S)
  | 0 => fun _ _ _ _ _ => none
  | n + 1 => f_X1_takeCalls_14  (L_X1_takeCalls_14  n)
def f_X1_takeCalls (S : tg_S) (v2 : Int32) : Option (tg_S) :=
  tg_nm (2 + v2 : Int32) fun y1 =>
  tg_bd (f_X6_soundLength S y1) fun S2 r3 =>
  L_X1_takeCalls_14 tg_F S2 v2 y1 r3 0
-- X1_takeTeam
def f_X1_takeTeam_140 (rec36 : tg_S → Int32 → Int32 → Option (tg_S)) (S : tg_S) (v2 : Int32) (v3 : Int32) : Option (tg_S) :=
  tg_nm (v3 + 1 : Int32) fun y1 =>
  rec36 S v2 y1
def f_X1_takeTeam_71 (rec36 : tg_S → Int32 → Int32 → Option (tg_S)) (S : tg_S) (v2 : Int32) (v3 : Int32) (v4 : Int32) (s0 : Int32) (s1 : Int32) : Option (tg_S) :=
  tg_wz S 12 16 s1 s0 fun S1 =>
  tg_rd S1 12 16 v4 fun y2 =>
  tg_if (y2 = 0)
    (f_X1_takeTeam_140 rec36 S1 v2 v3)
    (tg_bd (f_X6_byteAt S1 v2 (4 * v3)) fun S4 r5 =>
      tg_bd (f_X6_sortOf S4 r5) fun S6 r7 =>
      tg_wr S6 13 16 v4 r7 fun S8 =>
      tg_bd (f_X6_byteAt S8 v2 ((4 * v3) + 1)) fun S9 r10 =>
      tg_wr S9 14 16 v4 (r10 - 48) fun S11 =>
      tg_bd (f_X6_byteAt S11 v2 ((4 * v3) + 2)) fun S12 r13 =>
      tg_wr S12 15 16 v4 (r13 - 48) fun S14 =>
      f_X1_takeTeam_140 rec36 S14 v2 v3)
def f_X1_takeTeam_36 (rec36 : tg_S → Int32 → Int32 → Option (tg_S)) (S : tg_S) (v2 : Int32) (v3 : Int32) : Option (tg_S) :=
  tg_if (8 ≤ v3)
    (some S)
    (tg_nm ((v2 * 8) + v3 : Int32) fun y2 =>
      tg_rd S 16 2 v2 fun y3 =>
      f_X1_takeTeam_71 rec36 S v2 v3 y2 (if y3 ≤ v3 then 0 else 1) y2)
def L_X1_takeTeam_36 : Nat → tg_S → Int32 → Int32 → Option (tg_S)
  | 0 => fun _ _ _ => none
  | n + 1 => f_X1_takeTeam_36  (L_X1_takeTeam_36  n)
def f_X1_takeTeam (S : tg_S) (v2 : Int32) : Option (tg_S) :=
  tg_bd (f_X6_soundLength S v2) fun S1 r2 =>
  tg_wr S1 16 2 v2 ((r2 + 1) / 4) fun S3 =>
  tg_rd S3 16 2 v2 fun y4 =>
  tg_wr S3 17 2 v2 (((v2 * 8) + y4) - 1) fun S5 =>
  L_X1_takeTeam_36 tg_F S5 v2 0
-- X1_takeTexts
def f_X1_takeTexts_2 (rec2 : tg_S → Int32 → Option (tg_S)) (S : tg_S) (v2 : Int32) : Option (tg_S) :=
  tg_if (2 ≤ v2)
    (some S)
    (tg_bv (f_X1_takeTeam S v2) fun S2 =>
      tg_bv (f_X1_takeCalls S2 v2) fun S3 =>
      tg_nm (v2 + 1 : Int32) fun y4 =>
      rec2 S3 y4)
def L_X1_takeTexts_2 : Nat → tg_S → Int32 → Option (tg_S)
  | 0 => fun _ _ => none
  | n + 1 => f_X1_takeTexts_2  (L_X1_takeTexts_2  n)
def f_X1_takeTexts (S : tg_S) : Option (tg_S) :=
  L_X1_takeTexts_2 tg_F S 0
-- X3_happens
def f_X3_happens (v : Nat) (S : tg_S) (v1 : Int32) (v2 : Int32) : Option (tg_S × Int32) :=
  tg_rd S (v + 2) 8 v1 fun y1 =>
  tg_if (y1 = v2)
    (tg_if ((((S v 4) >>> (v1 &&& 31)) &&& 1) = 0)
        (some (S, 1))
        (some (S, 0)))
    (some (S, 0))
-- X2_meetEvents
def f_X2_meetEvents_97 (c : Nat) (v : Nat) (rec12 : tg_S → Int32 → Int32 → Option (tg_S)) (S : tg_S) (v2 : Int32) (v3 : Int32) : Option (tg_S) :=
  tg_nm (v3 + 1 : Int32) fun y1 =>
  rec12 S v2 y1
def f_X2_meetEvents_12 (c : Nat) (v : Nat) (rec12 : tg_S → Int32 → Int32 → Option (tg_S)) (S : tg_S) (v2 : Int32) (v3 : Int32) : Option (tg_S) :=
  tg_if ((S v 3) ≤ v3)
    (some S)
    (tg_bd (f_X3_happens v S v3 v2) fun S2 r3 =>
      tg_if (r3 = 0)
        (f_X2_meetEvents_97 c v rec12 S2 v2 v3)
        (tg_rd S2 (v + 1) 8 v3 fun y5 =>
          tg_if (y5 = 0)
            (tg_rd S2 (v + 3) 8 v3 fun y11 =>
              tg_pf S2 c 10 ((S2 c 10) ||| (1 <<< (y11 &&& 31))) fun S12 =>
              f_X2_meetEvents_97 c v rec12 S12 v2 v3)
            (tg_if (y5 = 1)
                (tg_pf S2 c 9 (tg_min 9 ((S2 c 9) + 1)) fun S10 =>
                  f_X2_meetEvents_97 c v rec12 S10 v2 v3)
                (tg_if (y5 = 2)
                    (tg_pf S2 c 11 1 fun S9 =>
                      f_X2_meetEvents_97 c v rec12 S9 v2 v3)
                    (f_X2_meetEvents_97 c v rec12 S2 v2 v3)))))
def L_X2_meetEvents_12 (c : Nat) (v : Nat) : Nat → tg_S → Int32 → Int32 → Option (tg_S)
  | 0 => fun _ _ _ => none
  | n + 1 => f_X2_meetEvents_12 c v (L_X2_meetEvents_12 c v n)
def f_X2_meetEvents (c : Nat) (v : Nat) (S : tg_S) (v2 : Int32) : Option (tg_S) :=
  tg_pf S c 10 0 fun S1 =>
  tg_pf S1 c 11 0 fun S2 =>
  L_X2_meetEvents_12 c v tg_F S2 v2 0
-- X2_moveRope
def f_X2_moveRope (c : Nat) (S : tg_S) (v1 : Int32) (v2 : Int32) : Option (tg_S) :=
  tg_pf S c 8 ((S c 8) + (tg_max (-3) (tg_min 3 (v1 / 3)))) fun S1 =>
  tg_if ((S1 c 8) < 22)
    (tg_if (2 < (S1 c 8))
        (some S1)
        (tg_pf S1 c 5 1 fun S4 =>
          tg_pf S4 c 6 v2 fun S5 =>
          some S5))
    (tg_pf S1 c 5 0 fun S6 =>
      tg_pf S6 c 6 v2 fun S7 =>
      some S7)
-- X2_forceOf
def f_X2_forceOf_177 (c : Nat) (t : Nat) (S : tg_S) (v2 : Int32) (v5 : Int32) (s0 : Int32) : Option (tg_S × Int32) :=
  tg_rd S (t + 3) 16 v2 fun y1 =>
  tg_if (v5 = 0)
    (some (S, (s0 * y1) + 0))
    (some (S, (s0 * y1) + 2))
def f_X2_forceOf_165 (c : Nat) (t : Nat) (S : tg_S) (v2 : Int32) (v5 : Int32) (v7 : Int32) (s0 : Int32) (s1 : Int32) (s2 : Int32) : Option (tg_S × Int32) :=
  tg_wr S (c + 6) 16 s2 (s1 - s0) fun S1 =>
  f_X2_forceOf_177 c t S1 v2 v5 (if v7 = 0 then 1 else 2)
def f_X2_forceOf_145 (c : Nat) (t : Nat) (S : tg_S) (v2 : Int32) (v5 : Int32) (v6 : Int32) (s0 : Int32) : Option (tg_S × Int32) :=
  tg_rd S (c + 6) 16 v2 fun y1 =>
  f_X2_forceOf_165 c t S v2 v5 s0 (if s0 = 0 then 1 else v6) y1 v2
def f_X2_forceOf_144 (c : Nat) (t : Nat) (S : tg_S) (v2 : Int32) (v5 : Int32) (v6 : Int32) : Option (tg_S × Int32) :=
  f_X2_forceOf_145 c t S v2 v5 v6 0
def f_X2_forceOf_122 (c : Nat) (t : Nat) (S : tg_S) (v2 : Int32) (v3 : Int32) (v5 : Int32) (s0 : Int32) : Option (tg_S × Int32) :=
  tg_if (v3 = 2)
    (tg_rd S (c + 6) 16 v2 fun y2 =>
      tg_if (y2 < s0)
        (f_X2_forceOf_144 c t S v2 v5 s0)
        (f_X2_forceOf_145 c t S v2 v5 s0 1))
    (f_X2_forceOf_144 c t S v2 v5 s0)
def f_X2_forceOf_94 (c : Nat) (t : Nat) (S : tg_S) (s0 : Int32) (s1 : Int32) (s2 : Int32) (s3 : Int32) : Option (tg_S × Int32) :=
  tg_wr S (c + 6) 16 s3 (tg_min s2 (s1 + s0)) fun S1 =>
  some (S1, 0)
def f_X2_forceOf_62 (c : Nat) (t : Nat) (S : tg_S) (v2 : Int32) (v3 : Int32) (v4 : Int32) (v5 : Int32) : Option (tg_S × Int32) :=
  tg_if (v3 = 0)
    (tg_rd S (t + 4) 16 v2 fun y5 =>
      tg_rd S (c + 6) 16 v2 fun y6 =>
      f_X2_forceOf_94 c t S (if v4 = 1 then 2 else 1) y6 y5 v2)
    (tg_rd S (c + 6) 16 v2 fun y2 =>
      tg_if (y2 = 0)
        (some (S, 0))
        (f_X2_forceOf_122 c t S v2 v3 v5 (if v4 = 0 then 1 else 2)))
def f_X2_forceOf_44 (c : Nat) (t : Nat) (S : tg_S) (v2 : Int32) (v3 : Int32) (v4 : Int32) (s0 : Int32) : Option (tg_S × Int32) :=
  tg_if (v3 = 0)
    (tg_if (s0 = 0)
        (f_X2_forceOf_62 c t S v2 v3 v4 s0)
        (tg_rd S (t + 3) 16 v2 fun y3 =>
          some (S, y3)))
    (f_X2_forceOf_62 c t S v2 v3 v4 s0)
def f_X2_forceOf_43 (c : Nat) (t : Nat) (S : tg_S) (v2 : Int32) (v3 : Int32) (v4 : Int32) : Option (tg_S × Int32) :=
  f_X2_forceOf_44 c t S v2 v3 v4 0
def f_X2_forceOf_36 (c : Nat) (t : Nat) (S : tg_S) (v2 : Int32) (v3 : Int32) (v4 : Int32) (s0 : Int32) (s1 : Int32) : Option (tg_S × Int32) :=
  tg_if (s1 = s0)
    (f_X2_forceOf_44 c t S v2 v3 v4 1)
    (f_X2_forceOf_43 c t S v2 v3 v4)
def f_X2_forceOf (c : Nat) (t : Nat) (S : tg_S) (v2 : Int32) (v3 : Int32) : Option (tg_S × Int32) :=
  tg_rd S (t + 2) 16 v2 fun y1 =>
  tg_if (y1 = 2)
    (tg_if (8 ≤ v2)
        (tg_rd S (t + 6) 2 1 fun y4 =>
          f_X2_forceOf_36 c t S v2 v3 y1 y4 v2)
        (tg_rd S (t + 6) 2 0 fun y5 =>
          f_X2_forceOf_36 c t S v2 v3 y1 y5 v2))
    (f_X2_forceOf_43 c t S v2 v3 y1)
-- X2_pullOfTeam
def f_X2_pullOfTeam_172 (c : Nat) (t : Nat) (rec33 : tg_S → Int32 → Int32 → Int32 → Int32 → Int32 → Option (tg_S × Int32)) (S : tg_S) (v2 : Int32) (v3 : Int32) (v4 : Int32) (v5 : Int32) (v6 : Int32) : Option (tg_S × Int32) :=
  tg_nm (v6 + 1 : Int32) fun y1 =>
  rec33 S v2 v3 v4 v5 y1
def f_X2_pullOfTeam_113 (c : Nat) (t : Nat) (rec33 : tg_S → Int32 → Int32 → Int32 → Int32 → Int32 → Option (tg_S × Int32)) (S : tg_S) (v2 : Int32) (v3 : Int32) (v4 : Int32) (v5 : Int32) (v6 : Int32) (v8 : Int32) (s0 : Int32) : Option (tg_S × Int32) :=
  tg_wr S (c + 4) 384 ((v6 * 24) + v3) (tg_max 0 (v8 - s0)) fun S1 =>
  tg_rd S1 (c + 6) 16 v6 fun y2 =>
  tg_wr S1 (c + 5) 384 ((v6 * 24) + v3) y2 fun S3 =>
  tg_rd S3 (c + 4) 384 ((v6 * 24) + v3) fun y4 =>
  tg_nm (v5 + y4 : Int32) fun y5 =>
  f_X2_pullOfTeam_172 c t rec33 S3 v2 v3 v4 y5 v6
def f_X2_pullOfTeam_92 (c : Nat) (t : Nat) (rec33 : tg_S → Int32 → Int32 → Int32 → Int32 → Int32 → Option (tg_S × Int32)) (S : tg_S) (v2 : Int32) (v3 : Int32) (v4 : Int32) (v5 : Int32) (v6 : Int32) (s0 : Int32) : Option (tg_S × Int32) :=
  tg_rd S (t + 2) 16 v6 fun y1 =>
  f_X2_pullOfTeam_113 c t rec33 S v2 v3 v4 v5 v6 s0 (if y1 = 2 then 0 else (S c 9))
def f_X2_pullOfTeam_72 (c : Nat) (t : Nat) (rec33 : tg_S → Int32 → Int32 → Int32 → Int32 → Int32 → Option (tg_S × Int32)) (S : tg_S) (v2 : Int32) (v3 : Int32) (v4 : Int32) (v5 : Int32) (v6 : Int32) (s0 : Int32) : Option (tg_S × Int32) :=
  tg_if (s0 = 0)
    (tg_bd (f_X2_forceOf c t S v6 v4) fun S2 r3 =>
      f_X2_pullOfTeam_92 c t rec33 S2 v2 v3 v4 v5 v6 r3)
    (f_X2_pullOfTeam_92 c t rec33 S v2 v3 v4 v5 v6 0)
def f_X2_pullOfTeam_33 (c : Nat) (t : Nat) (rec33 : tg_S → Int32 → Int32 → Int32 → Int32 → Int32 → Option (tg_S × Int32)) (S : tg_S) (v2 : Int32) (v3 : Int32) (v4 : Int32) (v5 : Int32) (v6 : Int32) : Option (tg_S × Int32) :=
  tg_if (((v2 * 8) + 8) ≤ v6)
    (some (S, v5))
    (tg_rd S (t + 1) 16 v6 fun y2 =>
      tg_if (y2 = 0)
        (f_X2_pullOfTeam_172 c t rec33 S v2 v3 v4 v5 v6)
        (f_X2_pullOfTeam_72 c t rec33 S v2 v3 v4 v5 v6 (if (((S c 10) >>> (v6 &&& 31)) &&& 1) = 0 then 0 else 1)))
def L_X2_pullOfTeam_33 (c : Nat) (t : Nat) : Nat → tg_S → Int32 → Int32 → Int32 → Int32 → Int32 → Option (tg_S × Int32)
  | 0 => fun _ _ _ _ _ _ => none
  | n + 1 => f_X2_pullOfTeam_33 c t (L_X2_pullOfTeam_33 c t n)
def f_X2_pullOfTeam_22 (c : Nat) (t : Nat) (S : tg_S) (v2 : Int32) (v3 : Int32) (s0 : Int32) : Option (tg_S × Int32) :=
  tg_nm (v2 * 8 : Int32) fun y1 =>
  L_X2_pullOfTeam_33 c t tg_F S v2 v3 s0 0 y1
def f_X2_pullOfTeam (c : Nat) (t : Nat) (S : tg_S) (v2 : Int32) (v3 : Int32) : Option (tg_S × Int32) :=
  tg_if ((S c 11) = 0)
    (tg_rd S (t + 7) 48 ((v2 * 24) + v3) fun y2 =>
      f_X2_pullOfTeam_22 c t S v2 v3 y2)
    (f_X2_pullOfTeam_22 c t S v2 v3 0)
-- X2_standStill
def f_X2_standStill_2 (c : Nat) (rec2 : tg_S → Int32 → Int32 → Option (tg_S)) (S : tg_S) (v1 : Int32) (v2 : Int32) : Option (tg_S) :=
  tg_if (16 ≤ v2)
    (some S)
    (tg_wr S (c + 4) 384 ((v2 * 24) + v1) 0 fun S2 =>
      tg_rd S2 (c + 6) 16 v2 fun y3 =>
      tg_wr S2 (c + 5) 384 ((v2 * 24) + v1) y3 fun S4 =>
      tg_nm (v2 + 1 : Int32) fun y5 =>
      rec2 S4 v1 y5)
def L_X2_standStill_2 (c : Nat) : Nat → tg_S → Int32 → Int32 → Option (tg_S)
  | 0 => fun _ _ _ => none
  | n + 1 => f_X2_standStill_2 c (L_X2_standStill_2 c n)
def f_X2_standStill (c : Nat) (S : tg_S) (v1 : Int32) : Option (tg_S) :=
  L_X2_standStill_2 c tg_F S v1 0
-- X2_play
def f_X2_play_126 (c : Nat) (t : Nat) (rec41 : tg_S → Int32 → Option (tg_S × Int32)) (S : tg_S) (v2 : Int32) (v4 : Int32) (v5 : Int32) : Option (tg_S × Int32) :=
  tg_wr S (c + 1) 24 v2 (S c 8) fun S1 =>
  tg_wr S1 (c + 2) 24 v2 (S1 c 9) fun S2 =>
  tg_wr S2 (c + 3) 48 v2 v4 fun S3 =>
  tg_wr S3 (c + 3) 48 (24 + v2) v5 fun S4 =>
  tg_nm (v2 + 1 : Int32) fun y5 =>
  rec41 S4 y5
def f_X2_play_102 (c : Nat) (t : Nat) (rec41 : tg_S → Int32 → Option (tg_S × Int32)) (S : tg_S) (v2 : Int32) (v3 : Int32) (v4 : Int32) (s0 : Int32) : Option (tg_S × Int32) :=
  tg_if (v3 = 0)
    (tg_bv (f_X2_standStill c S v2) fun S2 =>
      f_X2_play_126 c t rec41 S2 v2 v4 s0)
    (tg_bv (f_X2_moveRope c S (v4 - s0) v2) fun S3 =>
      f_X2_play_126 c t rec41 S3 v2 v4 s0)
def f_X2_play_85 (c : Nat) (t : Nat) (rec41 : tg_S → Int32 → Option (tg_S × Int32)) (S : tg_S) (v2 : Int32) (v3 : Int32) (s0 : Int32) : Option (tg_S × Int32) :=
  tg_if (v3 = 0)
    (f_X2_play_102 c t rec41 S v2 v3 s0 0)
    (tg_bd (f_X2_pullOfTeam c t S 1 v2) fun S2 r3 =>
      f_X2_play_102 c t rec41 S2 v2 v3 s0 r3)
def f_X2_play_69 (c : Nat) (t : Nat) (rec41 : tg_S → Int32 → Option (tg_S × Int32)) (S : tg_S) (v2 : Int32) (s0 : Int32) : Option (tg_S × Int32) :=
  tg_if (s0 = 0)
    (f_X2_play_85 c t rec41 S v2 s0 0)
    (tg_bd (f_X2_pullOfTeam c t S 0 v2) fun S2 r3 =>
      f_X2_play_85 c t rec41 S2 v2 s0 r3)
def f_X2_play_41 (c : Nat) (t : Nat) (rec41 : tg_S → Int32 → Option (tg_S × Int32)) (S : tg_S) (v2 : Int32) : Option (tg_S × Int32) :=
  tg_if (24 ≤ v2)
    (some (S, S c 8))
    (tg_bv (f_X2_meetEvents c (t + 8) S v2) fun S2 =>
      f_X2_play_69 c t rec41 S2 v2 (if (S2 c 5) = (-1) then 1 else 0))
def L_X2_play_41 (c : Nat) (t : Nat) : Nat → tg_S → Int32 → Option (tg_S × Int32)
  | 0 => fun _ _ => none
  | n + 1 => f_X2_play_41 c t (L_X2_play_41 c t n)
def f_X2_play (c : Nat) (t : Nat) (S : tg_S) : Option (tg_S × Int32) :=
  tg_pf S c 5 (-1) fun S1 =>
  tg_pf S1 c 6 (-1) fun S2 =>
  tg_pf S2 c 8 12 fun S3 =>
  tg_pf S3 c 9 (S3 t 8) fun S4 =>
  tg_cp S4 (t + 4) (c + 6) 16 16 0 0 16 fun S5 =>
  L_X2_play_41 c t tg_F S5 0
-- X7_playTold
def f_X7_playTold (S : tg_S) : Option (tg_S) :=
  tg_bd (f_X2_play 35 11 S) fun S1 r2 =>
  tg_pf S1 0 11 0 fun S3 =>
  some S3
-- X7_playTexts
def f_X7_playTexts (S : tg_S) : Option (tg_S) :=
  tg_bv (f_X1_takeTexts S) fun S1 =>
  tg_bv (f_X7_playTold S1) fun S2 =>
  some S2
-- X7_type
def f_X7_type (S : tg_S) (v1 : Int32) (v2 : Int32) : Option (tg_S × Int32) :=
  tg_bd (f_X7_isBelow S v1 4) fun S1 r2 =>
  tg_if (r2 = 0)
    (some (S1, -2))
    (tg_bd (f_X7_isBelow S1 v2 256) fun S4 r5 =>
      tg_if (r5 = 0)
        (some (S4, -2))
        (tg_bd (f_X6_isFull S4 v1) fun S7 r8 =>
          tg_if (r8 = 0)
            (tg_bd (f_X6_append S7 v1 v2) fun S10 r11 =>
              tg_bv (f_X7_playTexts S10) fun S12 =>
              some (S12, r11))
            (some (S7, -4))))
-- X7_wipe
def f_X7_wipe (S : tg_S) (v1 : Int32) : Option (tg_S × Int32) :=
  tg_bd (f_X7_isBelow S v1 4) fun S1 r2 =>
  tg_if (r2 = 0)
    (some (S1, -2))
    (tg_bd (f_X6_clear S1 v1) fun S4 r5 =>
      tg_bv (f_X7_playTexts S4) fun S6 =>
      some (S6, r5))
-- X7_undo
def f_X7_undo (S : tg_S) (v1 : Int32) : Option (tg_S × Int32) :=
  tg_bd (f_X7_isBelow S v1 4) fun S1 r2 =>
  tg_if (r2 = 0)
    (some (S1, -2))
    (tg_bd (f_X6_length S1 v1) fun S4 r5 =>
      tg_if (r5 = 0)
        (some (S4, -3))
        (tg_bd (f_X6_cutLast S4 v1) fun S7 r8 =>
          tg_bv (f_X7_playTexts S7) fun S9 =>
          some (S9, r8)))
-- X7_fault
def f_X7_fault (S : tg_S) (v1 : Int32) : Option (tg_S × Int32) :=
  tg_bd (f_X7_isBelow S v1 4) fun S1 r2 =>
  tg_if (r2 = 0)
    (some (S1, -2))
    (tg_bd (f_X6_firstFault S1 v1) fun S4 r5 =>
      some (S4, r5))
-- X7_isPuller
def f_X7_isPuller (S : tg_S) (v1 : Int32) : Option (tg_S × Int32) :=
  tg_bd (f_X7_isBelow S v1 16) fun S1 r2 =>
  tg_if (r2 = 0)
    (some (S1, 0))
    (tg_rd S1 12 16 v1 fun y4 =>
      tg_if (y4 = 0)
        (some (S1, 0))
        (some (S1, 1)))
-- X7_puller
def f_X7_puller (S : tg_S) (v1 : Int32) (v2 : Int32) : Option (tg_S × Int32) :=
  tg_bd (f_X7_isPuller S v1) fun S1 r2 =>
  tg_if (r2 = 0)
    (some (S1, -2))
    (tg_bd (f_X7_isBelow S1 v2 3) fun S4 r5 =>
      tg_if (r5 = 0)
        (some (S4, -2))
        (tg_if (v2 = 0)
            (tg_rd S4 13 16 v1 fun y11 =>
              some (S4, y11))
            (tg_if (v2 = 1)
                (tg_rd S4 14 16 v1 fun y10 =>
                  some (S4, y10))
                (tg_rd S4 15 16 v1 fun y9 =>
                  some (S4, y9)))))
-- X7_call
def f_X7_call (S : tg_S) (v1 : Int32) (v2 : Int32) : Option (tg_S × Int32) :=
  tg_bd (f_X7_isBelow S v1 2) fun S1 r2 =>
  tg_if (r2 = 0)
    (some (S1, -2))
    (tg_bd (f_X7_isBelow S1 v2 24) fun S4 r5 =>
      tg_if (r5 = 0)
        (some (S4, -2))
        (tg_rd S4 18 48 ((v1 * 24) + v2) fun y7 =>
          some (S4, y7)))
-- X7_mud
def f_X7_mud (S : tg_S) (v1 : Int32) : Option (tg_S × Int32) :=
  tg_bd (f_X7_isBelow S v1 10) fun S1 r2 =>
  tg_if (r2 = 0)
    (some (S1, -2))
    (tg_nm (S1 11 8 : Int32) fun y4 =>
      tg_pf S1 11 8 v1 fun S5 =>
      tg_bv (f_X7_playTold S5) fun S6 =>
      some (S6, y4))
-- X3_append
def f_X3_append (S : tg_S) (v1 : Int32) (v2 : Int32) (v3 : Int32) : Option (tg_S × Int32) :=
  tg_wr S 20 8 (S 19 3) v1 fun S1 =>
  tg_wr S1 21 8 (S1 19 3) v2 fun S2 =>
  tg_wr S2 22 8 (S2 19 3) v3 fun S3 =>
  tg_pf S3 19 3 ((S3 19 3) + 1) fun S4 =>
  some (S4, S4 19 3)
-- X3_mayBe
def f_X3_mayBe (S : tg_S) (v0 : Int32) (v1 : Int32) (v2 : Int32) : Option (tg_S × Int32) :=
  tg_bd (f_X7_isBelow S v0 3) fun S1 r2 =>
  tg_if (r2 = 0)
    (some (S1, 0))
    (tg_bd (f_X7_isBelow S1 v1 24) fun S4 r5 =>
      tg_if (r5 = 0)
        (some (S4, 0))
        (tg_bd (f_X7_isBelow S4 v2 16) fun S7 r8 =>
          tg_if (r8 = 0)
            (some (S7, 0))
            (some (S7, 1))))
-- X7_event
def f_X7_event (S : tg_S) (v1 : Int32) (v2 : Int32) (v3 : Int32) : Option (tg_S × Int32) :=
  tg_bd (f_X3_mayBe S v1 v2 v3) fun S1 r2 =>
  tg_if (r2 = 0)
    (some (S1, -2))
    (tg_if ((S1 19 3) = 8)
        (some (S1, -4))
        (tg_bd (f_X3_append S1 v1 v2 v3) fun S5 r6 =>
          tg_bv (f_X7_playTold S5) fun S7 =>
          some (S7, r6)))
-- X3_cutLast
def f_X3_cutLast (S : tg_S) : Option (tg_S × Int32) :=
  tg_pf S 19 3 ((S 19 3) - 1) fun S1 =>
  some (S1, S1 19 3)
-- X7_back
def f_X7_back (S : tg_S) : Option (tg_S × Int32) :=
  tg_if ((S 19 3) = 0)
    (some (S, -3))
    (tg_bd (f_X3_cutLast S) fun S2 r3 =>
      tg_bv (f_X7_playTold S2) fun S4 =>
      some (S4, r3))
-- X7_found
def f_X7_found (S : tg_S) (v1 : Int32) : Option (tg_S × Int32) :=
  tg_pf S 0 3 v1 fun S1 =>
  some (S1, (-10) - v1)
-- X7_read
def f_X7_read_111 (rec35 : tg_S → Int32 → Int32 → Int32 → Int32 → Option (tg_S × Int32)) (S : tg_S) (v1 : Int32) (v3 : Int32) (v4 : Int32) (s0 : Int32) (s1 : Int32) : Option (tg_S × Int32) :=
  tg_nm (s1 + s0 : Int32) fun y1 =>
  tg_nm (v4 + 3 : Int32) fun y2 =>
  rec35 S v1 y1 v3 y2
def f_X7_read_100 (rec35 : tg_S → Int32 → Int32 → Int32 → Int32 → Option (tg_S × Int32)) (S : tg_S) (v1 : Int32) (v2 : Int32) (v4 : Int32) (s0 : Int32) : Option (tg_S × Int32) :=
  f_X7_read_111 rec35 S v1 s0 v4 (if s0 = 0 then 0 else 1) v2
def f_X7_read_35 (rec35 : tg_S → Int32 → Int32 → Int32 → Int32 → Option (tg_S × Int32)) (S : tg_S) (v1 : Int32) (v2 : Int32) (v3 : Int32) (v4 : Int32) : Option (tg_S × Int32) :=
  tg_if (v3 = 0)
    (some (S, v2))
    (tg_bd (f_X5_size S v1) fun S2 r3 =>
      tg_if (r3 < (v4 + 3))
        (some (S2, v2))
        (tg_bd (f_X5_item S2 v1 v4) fun S5 r6 =>
          tg_bd (f_X5_item S5 v1 (v4 + 1)) fun S7 r8 =>
          tg_bd (f_X5_item S7 v1 (v4 + 2)) fun S9 r10 =>
          tg_bd (f_X7_event S9 r6 r8 r10) fun S11 r12 =>
          f_X7_read_100 rec35 S11 v1 v2 v4 (if r12 ≤ 0 then 0 else 1)))
def L_X7_read_35 : Nat → tg_S → Int32 → Int32 → Int32 → Int32 → Option (tg_S × Int32)
  | 0 => fun _ _ _ _ _ => none
  | n + 1 => f_X7_read_35  (L_X7_read_35  n)
def f_X7_read (S : tg_S) (v1 : Int32) : Option (tg_S × Int32) :=
  tg_bd (f_X7_isBelow S v1 4) fun S1 r2 =>
  tg_if (r2 = 0)
    (some (S1, -2))
    (tg_bd (f_X5_isLost S1 v1) fun S4 r5 =>
      tg_if (r5 = 0)
        (L_X7_read_35 tg_F S4 v1 0 1 0)
        (tg_bd (f_X7_found S4 1) fun S7 r8 =>
          some (S7, r8)))
-- X7_rope
def f_X7_rope (S : tg_S) (v1 : Int32) (v2 : Int32) : Option (tg_S × Int32) :=
  tg_bd (f_X7_isBelow S v1 24) fun S1 r2 =>
  tg_if (r2 = 0)
    (some (S1, -2))
    (tg_bd (f_X7_isBelow S1 v2 4) fun S4 r5 =>
      tg_if (r5 = 0)
        (some (S4, -2))
        (tg_if (v2 = 0)
            (tg_rd S4 36 24 v1 fun y8 =>
              some (S4, y8))
            (tg_if (v2 = 1)
                (tg_rd S4 38 48 v1 fun y10 =>
                  some (S4, y10))
                (tg_if (v2 = 2)
                    (tg_rd S4 38 48 (24 + v1) fun y12 =>
                      some (S4, y12))
                    (tg_rd S4 37 24 v1 fun y13 =>
                      some (S4, y13))))))
-- X7_at
def f_X7_at (S : tg_S) (v1 : Int32) (v2 : Int32) (v3 : Int32) : Option (tg_S × Int32) :=
  tg_bd (f_X7_isBelow S v1 24) fun S1 r2 =>
  tg_if (r2 = 0)
    (some (S1, -2))
    (tg_bd (f_X7_isPuller S1 v2) fun S4 r5 =>
      tg_if (r5 = 0)
        (some (S4, -2))
        (tg_bd (f_X7_isBelow S4 v3 2) fun S7 r8 =>
          tg_if (r8 = 0)
            (some (S7, -2))
            (tg_nm ((v2 * 24) + v1 : Int32) fun y10 =>
              tg_if (v3 = 0)
                (tg_rd S7 39 384 y10 fun y13 =>
                  some (S7, y13))
                (tg_rd S7 40 384 y10 fun y12 =>
                  some (S7, y12)))))
-- X7_won
def f_X7_won (S : tg_S) (v1 : Int32) : Option (tg_S × Int32) :=
  tg_bd (f_X7_isBelow S v1 2) fun S1 r2 =>
  tg_if (r2 = 0)
    (some (S1, -2))
    (tg_if (v1 = 0)
        (some (S1, S1 35 5))
        (some (S1, S1 35 6)))
-- X7_furthest
def f_X7_furthest_52 (rec16 : tg_S → Int32 → Int32 → Int32 → Option (tg_S × Int32)) (S : tg_S) (v1 : Int32) (v3 : Int32) (s0 : Int32) : Option (tg_S × Int32) :=
  tg_nm (v3 + 1 : Int32) fun y1 =>
  rec16 S v1 s0 y1
def f_X7_furthest_16 (rec16 : tg_S → Int32 → Int32 → Int32 → Option (tg_S × Int32)) (S : tg_S) (v1 : Int32) (v2 : Int32) (v3 : Int32) : Option (tg_S × Int32) :=
  tg_if (24 ≤ v3)
    (some (S, v2))
    (tg_rd S 36 24 v3 fun y2 =>
      f_X7_furthest_52 rec16 S v1 v3 (if v1 = 0 then (tg_max v2 y2) else (tg_min v2 y2)))
def L_X7_furthest_16 : Nat → tg_S → Int32 → Int32 → Int32 → Option (tg_S × Int32)
  | 0 => fun _ _ _ _ => none
  | n + 1 => f_X7_furthest_16  (L_X7_furthest_16  n)
def f_X7_furthest (S : tg_S) (v1 : Int32) : Option (tg_S × Int32) :=
  tg_bd (f_X7_isBelow S v1 2) fun S1 r2 =>
  tg_if (r2 = 0)
    (some (S1, -2))
    (L_X7_furthest_16 tg_F S1 v1 12 0)
-- X7_pulledInAll
def f_X7_pulledInAll_4 (rec4 : tg_S → Int32 → Int32 → Int32 → Option (tg_S × Int32)) (S : tg_S) (v1 : Int32) (v2 : Int32) (v3 : Int32) : Option (tg_S × Int32) :=
  tg_if (24 ≤ v3)
    (some (S, v2))
    (tg_rd S 39 384 ((v1 * 24) + v3) fun y2 =>
      tg_nm (v2 + y2 : Int32) fun y3 =>
      tg_nm (v3 + 1 : Int32) fun y4 =>
      rec4 S v1 y3 y4)
def L_X7_pulledInAll_4 : Nat → tg_S → Int32 → Int32 → Int32 → Option (tg_S × Int32)
  | 0 => fun _ _ _ _ => none
  | n + 1 => f_X7_pulledInAll_4  (L_X7_pulledInAll_4  n)
def f_X7_pulledInAll (S : tg_S) (v1 : Int32) : Option (tg_S × Int32) :=
  L_X7_pulledInAll_4 tg_F S v1 0 0
-- X7_done
def f_X7_done (S : tg_S) (v1 : Int32) : Option (tg_S × Int32) :=
  tg_bd (f_X7_isPuller S v1) fun S1 r2 =>
  tg_if (r2 = 0)
    (some (S1, -2))
    (tg_bd (f_X7_pulledInAll S1 v1) fun S4 r5 =>
      some (S4, r5))
-- X7_spent
def f_X7_spent_48 (rec4 : tg_S → Int32 → Int32 → Option (tg_S × Int32)) (S : tg_S) (v1 : Int32) (v2 : Int32) : Option (tg_S × Int32) :=
  tg_nm (v2 + 1 : Int32) fun y1 =>
  rec4 S v1 y1
def f_X7_spent_4 (rec4 : tg_S → Int32 → Int32 → Option (tg_S × Int32)) (S : tg_S) (v1 : Int32) (v2 : Int32) : Option (tg_S × Int32) :=
  tg_if (16 ≤ v2)
    (some (S, v1))
    (tg_rd S 12 16 v2 fun y2 =>
      tg_if (y2 = 0)
        (f_X7_spent_48 rec4 S v1 v2)
        (tg_rd S 40 384 (((v2 * 24) + 24) - 1) fun y4 =>
          tg_if (y4 = 0)
            (tg_nm (v1 ||| (1 <<< (v2 &&& 31)) : Int32) fun y6 =>
              f_X7_spent_48 rec4 S y6 v2)
            (f_X7_spent_48 rec4 S v1 v2)))
def L_X7_spent_4 : Nat → tg_S → Int32 → Int32 → Option (tg_S × Int32)
  | 0 => fun _ _ _ => none
  | n + 1 => f_X7_spent_4  (L_X7_spent_4  n)
def f_X7_spent (S : tg_S) : Option (tg_S × Int32) :=
  L_X7_spent_4 tg_F S 0 0
-- X7_best
def f_X7_best_46 (rec6 : tg_S → Int32 → Int32 → Int32 → Option (tg_S × Int32)) (S : tg_S) (v1 : Int32) (v2 : Int32) (v3 : Int32) : Option (tg_S × Int32) :=
  tg_nm (v3 + 1 : Int32) fun y1 =>
  rec6 S v1 v2 y1
def f_X7_best_33 (rec6 : tg_S → Int32 → Int32 → Int32 → Option (tg_S × Int32)) (S : tg_S) (v1 : Int32) (v2 : Int32) (v3 : Int32) (s0 : Int32) : Option (tg_S × Int32) :=
  f_X7_best_46 rec6 S (if s0 ≤ v2 then v1 else v3) (if s0 ≤ v2 then v2 else s0) v3
def f_X7_best_6 (rec6 : tg_S → Int32 → Int32 → Int32 → Option (tg_S × Int32)) (S : tg_S) (v1 : Int32) (v2 : Int32) (v3 : Int32) : Option (tg_S × Int32) :=
  tg_if (16 ≤ v3)
    (some (S, v1))
    (tg_rd S 12 16 v3 fun y2 =>
      tg_if (y2 = 0)
        (f_X7_best_33 rec6 S v1 v2 v3 0)
        (tg_bd (f_X7_pulledInAll S v3) fun S4 r5 =>
          f_X7_best_33 rec6 S4 v1 v2 v3 r5))
def L_X7_best_6 : Nat → tg_S → Int32 → Int32 → Int32 → Option (tg_S × Int32)
  | 0 => fun _ _ _ _ => none
  | n + 1 => f_X7_best_6  (L_X7_best_6  n)
def f_X7_best (S : tg_S) : Option (tg_S × Int32) :=
  tg_nm (-1 : Int32) fun y1 =>
  L_X7_best_6 tg_F S y1 0 0
-- X7_level
def f_X7_level_66 (rec28 : tg_S → Int32 → Int32 → Int32 → Option (tg_S × Int32)) (S : tg_S) (v1 : Int32) (v2 : Int32) (v3 : Int32) : Option (tg_S × Int32) :=
  tg_nm (v3 + 1 : Int32) fun y1 =>
  rec28 S v1 v2 y1
def f_X7_level_28 (rec28 : tg_S → Int32 → Int32 → Int32 → Option (tg_S × Int32)) (S : tg_S) (v1 : Int32) (v2 : Int32) (v3 : Int32) : Option (tg_S × Int32) :=
  tg_if (24 ≤ v3)
    (some (S, v2))
    (tg_if (v1 < v3)
        (some (S, v2))
        (tg_rd S 38 48 v3 fun y3 =>
          tg_rd S 38 48 (24 + v3) fun y4 =>
          tg_if (y3 = y4)
            (tg_nm (v2 + 1 : Int32) fun y6 =>
              f_X7_level_66 rec28 S v1 y6 v3)
            (f_X7_level_66 rec28 S v1 v2 v3)))
def L_X7_level_28 : Nat → tg_S → Int32 → Int32 → Int32 → Option (tg_S × Int32)
  | 0 => fun _ _ _ _ => none
  | n + 1 => f_X7_level_28  (L_X7_level_28  n)
def f_X7_level_23 (S : tg_S) (s0 : Int32) : Option (tg_S × Int32) :=
  L_X7_level_28 tg_F S s0 0 0
def f_X7_level (S : tg_S) : Option (tg_S × Int32) :=
  f_X7_level_23 S (if (S 35 5) = (-1) then 23 else (S 35 6))
-- X3_takeFrom
def f_X3_takeFrom (S : tg_S) : Option (tg_S) :=
  tg_cp S 20 32 8 8 0 0 8 fun S1 =>
  tg_cp S1 21 33 8 8 0 0 8 fun S2 =>
  tg_cp S2 22 34 8 8 0 0 8 fun S3 =>
  tg_pf S3 31 3 (S3 19 3) fun S4 =>
  tg_pf S4 31 4 (S4 19 4) fun S5 =>
  some S5
-- X1_becomeLike
def f_X1_becomeLike_2 (rec2 : tg_S → Int32 → Option (tg_S)) (S : tg_S) (v2 : Int32) : Option (tg_S) :=
  tg_if (16 ≤ v2)
    (tg_cp S 16 28 2 2 0 0 2 fun S2 =>
      tg_cp S2 17 29 2 2 0 0 2 fun S3 =>
      tg_cp S3 18 30 48 48 0 0 48 fun S4 =>
      tg_bv (f_X3_takeFrom S4) fun S5 =>
      tg_pf S5 23 8 (S5 11 8) fun S6 =>
      some S6)
    (tg_rd S 12 16 v2 fun y7 =>
      tg_wz S 24 16 v2 y7 fun S8 =>
      tg_rd S8 13 16 v2 fun y9 =>
      tg_wr S8 25 16 v2 y9 fun S10 =>
      tg_rd S10 14 16 v2 fun y11 =>
      tg_wr S10 26 16 v2 y11 fun S12 =>
      tg_rd S12 15 16 v2 fun y13 =>
      tg_wr S12 27 16 v2 y13 fun S14 =>
      tg_nm (v2 + 1 : Int32) fun y15 =>
      rec2 S14 y15)
def L_X1_becomeLike_2 : Nat → tg_S → Int32 → Option (tg_S)
  | 0 => fun _ _ => none
  | n + 1 => f_X1_becomeLike_2  (L_X1_becomeLike_2  n)
def f_X1_becomeLike (S : tg_S) : Option (tg_S) :=
  L_X1_becomeLike_2 tg_F S 0
-- X7_better
def f_X7_better_50 (rec50 : tg_S → Int32 → Int32 → Int32 → Int32 → Option (tg_S × Int32)) (S : tg_S) (v1 : Int32) (v2 : Int32) (v3 : Int32) (v4 : Int32) : Option (tg_S × Int32) :=
  tg_if (3 ≤ v4)
    (tg_if (v3 = 0)
        (some (S, S 49 0))
        (some (S, S 49 2)))
    (tg_wr S 30 48 ((v1 * 24) + v2) v4 fun S3 =>
      tg_bd (f_X2_play 42 23 S3) fun S4 r5 =>
      tg_bv (f_X0_offer S4 v4 (-1) r5) fun S6 =>
      tg_nm (v4 + 1 : Int32) fun y7 =>
      rec50 S6 v1 v2 v3 y7)
def L_X7_better_50 : Nat → tg_S → Int32 → Int32 → Int32 → Int32 → Option (tg_S × Int32)
  | 0 => fun _ _ _ _ _ => none
  | n + 1 => f_X7_better_50  (L_X7_better_50  n)
def f_X7_better (S : tg_S) (v1 : Int32) (v2 : Int32) (v3 : Int32) : Option (tg_S × Int32) :=
  tg_bd (f_X7_isBelow S v1 2) fun S1 r2 =>
  tg_if (r2 = 0)
    (some (S1, -2))
    (tg_bd (f_X7_isBelow S1 v2 24) fun S4 r5 =>
      tg_if (r5 = 0)
        (some (S4, -2))
        (tg_bd (f_X7_isBelow S4 v3 2) fun S7 r8 =>
          tg_if (r8 = 0)
            (some (S7, -2))
            (tg_bv (f_X1_becomeLike S7) fun S10 =>
              tg_bv (f_X0_startFor S10 v1) fun S11 =>
              L_X7_better_50 tg_F S11 v1 v2 v3 0)))
-- X7_chooseSwap
def f_X7_chooseSwap_81 (rec39 : tg_S → Int32 → Int32 → Int32 → Option (tg_S)) (rec51 : tg_S → Int32 → Int32 → Int32 → Int32 → Option (tg_S)) (S : tg_S) (v1 : Int32) (v3 : Int32) (v4 : Int32) (v5 : Int32) (s0 : Int32) (s1 : Int32) : Option (tg_S) :=
  tg_wr S 29 2 s1 s0 fun S1 =>
  tg_bd (f_X2_play 42 23 S1) fun S2 r3 =>
  tg_bv (f_X0_offer S2 v4 v5 r3) fun S4 =>
  tg_nm (v5 + 1 : Int32) fun y5 =>
  rec51 S4 v1 v3 v4 y5
def f_X7_chooseSwap_51 (rec39 : tg_S → Int32 → Int32 → Int32 → Option (tg_S)) (rec51 : tg_S → Int32 → Int32 → Int32 → Int32 → Option (tg_S)) (S : tg_S) (v1 : Int32) (v3 : Int32) (v4 : Int32) (v5 : Int32) : Option (tg_S) :=
  tg_if (v3 ≤ v5)
    (tg_nm (v4 + 1 : Int32) fun y2 =>
      rec39 S v1 v3 y2)
    (f_X7_chooseSwap_81 rec39 rec51 S v1 v3 v4 v5 (if v5 = (v3 - 1) then v4 else (v3 - 1)) v1)
def L_X7_chooseSwap_51 (rec39 : tg_S → Int32 → Int32 → Int32 → Option (tg_S)) : Nat → tg_S → Int32 → Int32 → Int32 → Int32 → Option (tg_S)
  | 0 => fun _ _ _ _ _ => none
  | n + 1 => f_X7_chooseSwap_51 rec39 (L_X7_chooseSwap_51 rec39 n)
def f_X7_chooseSwap_39 (rec39 : tg_S → Int32 → Int32 → Int32 → Option (tg_S)) (S : tg_S) (v1 : Int32) (v3 : Int32) (v4 : Int32) : Option (tg_S) :=
  tg_if (v3 ≤ v4)
    (some S)
    (tg_nm (v4 + 1 : Int32) fun y2 =>
      L_X7_chooseSwap_51 rec39 tg_F S v1 v3 v4 y2)
def L_X7_chooseSwap_39 : Nat → tg_S → Int32 → Int32 → Int32 → Option (tg_S)
  | 0 => fun _ _ _ _ => none
  | n + 1 => f_X7_chooseSwap_39  (L_X7_chooseSwap_39  n)
def f_X7_chooseSwap (S : tg_S) (v1 : Int32) : Option (tg_S) :=
  tg_bv (f_X1_becomeLike S) fun S1 =>
  tg_bv (f_X0_startFor S1 v1) fun S2 =>
  tg_nm (v1 * 8 : Int32) fun y3 =>
  tg_rd S2 16 2 v1 fun y4 =>
  tg_nm (y3 + y4 : Int32) fun y5 =>
  L_X7_chooseSwap_39 tg_F S2 v1 y5 y3
-- X7_swap
def f_X7_swap (S : tg_S) (v1 : Int32) (v2 : Int32) : Option (tg_S × Int32) :=
  tg_bd (f_X7_isBelow S v1 2) fun S1 r2 =>
  tg_if (r2 = 0)
    (some (S1, -2))
    (tg_bd (f_X7_isBelow S1 v2 3) fun S4 r5 =>
      tg_if (r5 = 0)
        (some (S4, -2))
        (tg_bv (f_X7_chooseSwap S4 v1) fun S7 =>
          tg_if (v2 = 0)
            (some (S7, S7 49 0))
            (tg_if (v2 = 1)
                (some (S7, S7 49 1))
                (some (S7, S7 49 2)))))
-- X1_leaveOut
def f_X1_leaveOut (S : tg_S) (v1 : Int32) (v2 : Int32) : Option (tg_S) :=
  tg_wz S 24 16 v1 0 fun S1 =>
  tg_rd S1 29 2 v2 fun y2 =>
  tg_if (y2 = v1)
    (tg_wr S1 29 2 v2 (v1 - 1) fun S4 =>
      some S4)
    (some S1)
-- X7_chooseOut
def f_X7_chooseOut_28 (rec28 : tg_S → Int32 → Int32 → Int32 → Option (tg_S)) (S : tg_S) (v1 : Int32) (v3 : Int32) (v4 : Int32) : Option (tg_S) :=
  tg_if (v3 ≤ v4)
    (some S)
    (tg_bv (f_X1_becomeLike S) fun S2 =>
      tg_bv (f_X1_leaveOut S2 v4 v1) fun S3 =>
      tg_bd (f_X2_play 42 23 S3) fun S4 r5 =>
      tg_bv (f_X0_offer S4 v4 (-1) r5) fun S6 =>
      tg_nm (v4 + 1 : Int32) fun y7 =>
      rec28 S6 v1 v3 y7)
def L_X7_chooseOut_28 : Nat → tg_S → Int32 → Int32 → Int32 → Option (tg_S)
  | 0 => fun _ _ _ _ => none
  | n + 1 => f_X7_chooseOut_28  (L_X7_chooseOut_28  n)
def f_X7_chooseOut (S : tg_S) (v1 : Int32) : Option (tg_S) :=
  tg_bv (f_X0_startFor S v1) fun S1 =>
  tg_nm (v1 * 8 : Int32) fun y2 =>
  tg_rd S1 16 2 v1 fun y3 =>
  tg_nm (y2 + y3 : Int32) fun y4 =>
  L_X7_chooseOut_28 tg_F S1 v1 y4 y2
-- X7_out
def f_X7_out (S : tg_S) (v1 : Int32) (v2 : Int32) : Option (tg_S × Int32) :=
  tg_bd (f_X7_isBelow S v1 2) fun S1 r2 =>
  tg_if (r2 = 0)
    (some (S1, -2))
    (tg_bd (f_X7_isBelow S1 v2 2) fun S4 r5 =>
      tg_if (r5 = 0)
        (some (S4, -2))
        (tg_bv (f_X7_chooseOut S4 v1) fun S7 =>
          tg_if (v2 = 0)
            (some (S7, S7 49 0))
            (some (S7, S7 49 2))))
-- X7_winnerWithout
def f_X7_winnerWithout (S : tg_S) (v1 : Int32) : Option (tg_S × Int32) :=
  tg_pf S 31 4 v1 fun S1 =>
  tg_bd (f_X2_play 42 23 S1) fun S2 r3 =>
  some (S2, S2 42 5)
-- X7_chooseSpare
def f_X7_chooseSpare_88 (rec79 : tg_S → Int32 → Int32 → Option (tg_S × Int32)) (rec88 : tg_S → Int32 → Int32 → Int32 → Option (tg_S × Int32)) (S : tg_S) (v1 : Int32) (v2 : Int32) (v3 : Int32) : Option (tg_S × Int32) :=
  tg_if (v1 ≤ v3)
    (tg_nm (v2 + 1 : Int32) fun y2 =>
      rec79 S v1 y2)
    (tg_bd (f_X7_winnerWithout S ((1 <<< (v2 &&& 31)) ||| (1 <<< (v3 &&& 31)))) fun S3 r4 =>
      tg_if (r4 = 1)
        (tg_nm (v3 + 1 : Int32) fun y6 =>
          rec88 S3 v1 v2 y6)
        (tg_pf S3 49 0 v2 fun S7 =>
          tg_pf S7 49 1 v3 fun S8 =>
          some (S8, 2)))
def L_X7_chooseSpare_88 (rec79 : tg_S → Int32 → Int32 → Option (tg_S × Int32)) : Nat → tg_S → Int32 → Int32 → Int32 → Option (tg_S × Int32)
  | 0 => fun _ _ _ _ => none
  | n + 1 => f_X7_chooseSpare_88 rec79 (L_X7_chooseSpare_88 rec79 n)
def f_X7_chooseSpare_79 (rec79 : tg_S → Int32 → Int32 → Option (tg_S × Int32)) (S : tg_S) (v1 : Int32) (v2 : Int32) : Option (tg_S × Int32) :=
  tg_if (v1 ≤ v2)
    (some (S, -1))
    (tg_nm (v2 + 1 : Int32) fun y2 =>
      L_X7_chooseSpare_88 rec79 tg_F S v1 v2 y2)
def L_X7_chooseSpare_79 : Nat → tg_S → Int32 → Int32 → Option (tg_S × Int32)
  | 0 => fun _ _ _ => none
  | n + 1 => f_X7_chooseSpare_79  (L_X7_chooseSpare_79  n)
def f_X7_chooseSpare_45 (rec45 : tg_S → Int32 → Int32 → Option (tg_S × Int32)) (S : tg_S) (v1 : Int32) (v2 : Int32) : Option (tg_S × Int32) :=
  tg_if (v1 ≤ v2)
    (L_X7_chooseSpare_79 tg_F S v1 0)
    (tg_bd (f_X7_winnerWithout S (1 <<< (v2 &&& 31))) fun S2 r3 =>
      tg_if (r3 = 1)
        (tg_nm (v2 + 1 : Int32) fun y5 =>
          rec45 S2 v1 y5)
        (tg_pf S2 49 0 v2 fun S6 =>
          some (S6, 1)))
def L_X7_chooseSpare_45 : Nat → tg_S → Int32 → Int32 → Option (tg_S × Int32)
  | 0 => fun _ _ _ => none
  | n + 1 => f_X7_chooseSpare_45  (L_X7_chooseSpare_45  n)
def f_X7_chooseSpare (S : tg_S) : Option (tg_S × Int32) :=
  tg_bv (f_X0_startFor S 0) fun S1 =>
  tg_if ((S1 35 5) = 1)
    (tg_bv (f_X1_becomeLike S1) fun S3 =>
      tg_nm (S3 31 3 : Int32) fun y4 =>
      L_X7_chooseSpare_45 tg_F S3 y4 0)
    (some (S1, 0))
-- X7_spare
def f_X7_spare (S : tg_S) (v1 : Int32) : Option (tg_S × Int32) :=
  tg_if (v1 < (-1))
    (some (S, -2))
    (tg_if (v1 ≤ 1)
        (tg_bd (f_X7_chooseSpare S) fun S3 r4 =>
          tg_if (v1 = (-1))
            (some (S3, r4))
            (tg_if (v1 = 0)
                (some (S3, S3 49 0))
                (some (S3, S3 49 1))))
        (some (S, -2)))
-- X7_seen
def f_X7_seen (S : tg_S) (v1 : Int32) (v2 : Int32) : Option (tg_S × Int32) :=
  tg_bd (f_X7_isBelow S v1 24) fun S1 r2 =>
  tg_if (r2 = 0)
    (some (S1, -2))
    (tg_bd (f_X7_isBelow S1 v2 25) fun S4 r5 =>
      tg_if (r5 = 0)
        (some (S4, -2))
        (tg_if ((S4 4 2) = 8)
            (some (S4, -4))
            (tg_bd (f_X4_append S4 v1 v2) fun S8 r9 =>
              some (S8, r9))))
-- X7_forget
def f_X7_forget (S : tg_S) : Option (tg_S × Int32) :=
  tg_nm (S 4 2 : Int32) fun y1 =>
  tg_pf S 4 2 0 fun S2 =>
  some (S2, y1)
-- X7_never
def f_X7_never_74 (rec15 : tg_S → Int32 → Int32 → Option (tg_S × Int32)) (S : tg_S) (v1 : Int32) (v2 : Int32) : Option (tg_S × Int32) :=
  tg_nm (v2 + 1 : Int32) fun y1 =>
  rec15 S v1 y1
def f_X7_never_15 (rec15 : tg_S → Int32 → Int32 → Option (tg_S × Int32)) (S : tg_S) (v1 : Int32) (v2 : Int32) : Option (tg_S × Int32) :=
  tg_if ((S 31 3) ≤ v2)
    (some (S, v1))
    (tg_pf S 31 4 (1 <<< (v2 &&& 31)) fun S2 =>
      tg_bd (f_X2_play 42 23 S2) fun S3 r4 =>
      tg_bd (f_X4_fit S3) fun S5 r6 =>
      tg_if (r6 = 0)
        (f_X7_never_74 rec15 S5 v1 v2)
        (tg_nm (v1 ||| (1 <<< (v2 &&& 31)) : Int32) fun y8 =>
          f_X7_never_74 rec15 S5 y8 v2))
def L_X7_never_15 : Nat → tg_S → Int32 → Int32 → Option (tg_S × Int32)
  | 0 => fun _ _ _ => none
  | n + 1 => f_X7_never_15  (L_X7_never_15  n)
def f_X7_never (S : tg_S) : Option (tg_S × Int32) :=
  tg_bv (f_X1_becomeLike S) fun S1 =>
  L_X7_never_15 tg_F S1 0 0
-- X7_sortsThatFit
def f_X7_sortsThatFit_62 (rec15 : tg_S → Int32 → Int32 → Int32 → Option (tg_S × Int32)) (S : tg_S) (v1 : Int32) (v2 : Int32) (v3 : Int32) : Option (tg_S × Int32) :=
  tg_nm (v3 + 1 : Int32) fun y1 =>
  rec15 S v1 v2 y1
def f_X7_sortsThatFit_15 (rec15 : tg_S → Int32 → Int32 → Int32 → Option (tg_S × Int32)) (S : tg_S) (v1 : Int32) (v2 : Int32) (v3 : Int32) : Option (tg_S × Int32) :=
  tg_if (3 ≤ v3)
    (some (S, v2))
    (tg_wr S 25 16 v1 v3 fun S2 =>
      tg_bd (f_X2_play 42 23 S2) fun S3 r4 =>
      tg_bd (f_X4_fit S3) fun S5 r6 =>
      tg_if (r6 = 0)
        (f_X7_sortsThatFit_62 rec15 S5 v1 v2 v3)
        (tg_nm (v2 ||| (1 <<< (v3 &&& 31)) : Int32) fun y8 =>
          f_X7_sortsThatFit_62 rec15 S5 v1 y8 v3))
def L_X7_sortsThatFit_15 : Nat → tg_S → Int32 → Int32 → Int32 → Option (tg_S × Int32)
  | 0 => fun _ _ _ _ => none
  | n + 1 => f_X7_sortsThatFit_15  (L_X7_sortsThatFit_15  n)
def f_X7_sortsThatFit (S : tg_S) (v1 : Int32) : Option (tg_S × Int32) :=
  tg_bv (f_X1_becomeLike S) fun S1 =>
  L_X7_sortsThatFit_15 tg_F S1 v1 0 0
-- X7_weightsThatFit
def f_X7_weightsThatFit_101 (rec15 : tg_S → Int32 → Int32 → Int32 → Option (tg_S × Int32)) (S : tg_S) (v1 : Int32) (v2 : Int32) (v3 : Int32) : Option (tg_S × Int32) :=
  tg_nm (v3 + 1 : Int32) fun y1 =>
  rec15 S v1 v2 y1
def f_X7_weightsThatFit_46 (rec15 : tg_S → Int32 → Int32 → Int32 → Option (tg_S × Int32)) (rec46 : tg_S → Int32 → Int32 → Int32 → Int32 → Option (tg_S × Int32)) (S : tg_S) (v1 : Int32) (v2 : Int32) (v3 : Int32) (v4 : Int32) : Option (tg_S × Int32) :=
  tg_if (24 ≤ v4)
    (tg_bd (f_X4_fit S) fun S2 r3 =>
      tg_if (r3 = 0)
        (f_X7_weightsThatFit_101 rec15 S2 v1 v2 v3)
        (tg_nm (v2 ||| (1 <<< (v3 &&& 31)) : Int32) fun y5 =>
          f_X7_weightsThatFit_101 rec15 S2 v1 y5 v3))
    (tg_rd S 43 24 v4 fun y6 =>
      tg_wr S 50 240 ((v3 * 24) + v4) y6 fun S7 =>
      tg_nm (v4 + 1 : Int32) fun y8 =>
      rec46 S7 v1 v2 v3 y8)
def L_X7_weightsThatFit_46 (rec15 : tg_S → Int32 → Int32 → Int32 → Option (tg_S × Int32)) : Nat → tg_S → Int32 → Int32 → Int32 → Int32 → Option (tg_S × Int32)
  | 0 => fun _ _ _ _ _ => none
  | n + 1 => f_X7_weightsThatFit_46 rec15 (L_X7_weightsThatFit_46 rec15 n)
def f_X7_weightsThatFit_15 (rec15 : tg_S → Int32 → Int32 → Int32 → Option (tg_S × Int32)) (S : tg_S) (v1 : Int32) (v2 : Int32) (v3 : Int32) : Option (tg_S × Int32) :=
  tg_if (9 < v3)
    (some (S, v2))
    (tg_wr S 26 16 v1 v3 fun S2 =>
      tg_bd (f_X2_play 42 23 S2) fun S3 r4 =>
      L_X7_weightsThatFit_46 rec15 tg_F S3 v1 v2 v3 0)
def L_X7_weightsThatFit_15 : Nat → tg_S → Int32 → Int32 → Int32 → Option (tg_S × Int32)
  | 0 => fun _ _ _ _ => none
  | n + 1 => f_X7_weightsThatFit_15  (L_X7_weightsThatFit_15  n)
def f_X7_weightsThatFit (S : tg_S) (v1 : Int32) : Option (tg_S × Int32) :=
  tg_bv (f_X1_becomeLike S) fun S1 =>
  L_X7_weightsThatFit_15 tg_F S1 v1 0 1
-- X7_was
def f_X7_was (S : tg_S) (v1 : Int32) (v2 : Int32) : Option (tg_S × Int32) :=
  tg_bd (f_X7_isPuller S v1) fun S1 r2 =>
  tg_if (r2 = 0)
    (some (S1, -2))
    (tg_bd (f_X7_isBelow S1 v2 2) fun S4 r5 =>
      tg_if (r5 = 0)
        (some (S4, -2))
        (tg_if (v2 = 0)
            (tg_bd (f_X7_weightsThatFit S4 v1) fun S10 r11 =>
              some (S10, r11))
            (tg_bd (f_X7_sortsThatFit S4 v1) fun S8 r9 =>
              some (S8, r9))))
-- X7_greatestLikeness
def f_X7_greatestLikeness_81 (rec5 : tg_S → Int32 → Int32 → Int32 → Int32 → Option (tg_S × Int32)) (rec18 : tg_S → Int32 → Int32 → Int32 → Int32 → Int32 → Int32 → Option (tg_S × Int32)) (S : tg_S) (v1 : Int32) (v2 : Int32) (v3 : Int32) (v4 : Int32) (v5 : Int32) (v6 : Int32) : Option (tg_S × Int32) :=
  tg_nm (v6 + 1 : Int32) fun y1 =>
  rec18 S v1 v2 v3 v4 v5 y1
def f_X7_greatestLikeness_44 (rec5 : tg_S → Int32 → Int32 → Int32 → Int32 → Option (tg_S × Int32)) (rec18 : tg_S → Int32 → Int32 → Int32 → Int32 → Int32 → Int32 → Option (tg_S × Int32)) (S : tg_S) (v1 : Int32) (v2 : Int32) (v3 : Int32) (v4 : Int32) (v5 : Int32) (v6 : Int32) (s0 : Int32) : Option (tg_S × Int32) :=
  tg_if (s0 = 0)
    (f_X7_greatestLikeness_81 rec5 rec18 S v1 v2 v3 v4 v5 v6)
    (tg_rd S 50 240 ((v4 * 24) + v2) fun y2 =>
      tg_rd S 50 240 ((v6 * 24) + v2) fun y3 =>
      tg_if (y2 = y3)
        (tg_nm (v5 + 1 : Int32) fun y5 =>
          f_X7_greatestLikeness_81 rec5 rec18 S v1 v2 v3 v4 y5 v6)
        (f_X7_greatestLikeness_81 rec5 rec18 S v1 v2 v3 v4 v5 v6))
def f_X7_greatestLikeness_18 (rec5 : tg_S → Int32 → Int32 → Int32 → Int32 → Option (tg_S × Int32)) (rec18 : tg_S → Int32 → Int32 → Int32 → Int32 → Int32 → Int32 → Option (tg_S × Int32)) (S : tg_S) (v1 : Int32) (v2 : Int32) (v3 : Int32) (v4 : Int32) (v5 : Int32) (v6 : Int32) : Option (tg_S × Int32) :=
  tg_if (9 < v6)
    (tg_nm (tg_max v3 v5 : Int32) fun y2 =>
      tg_nm (v4 + 1 : Int32) fun y3 =>
      rec5 S v1 v2 y2 y3)
    (f_X7_greatestLikeness_44 rec5 rec18 S v1 v2 v3 v4 v5 v6 (if (((v1 >>> (v4 &&& 31)) &&& (v1 >>> (v6 &&& 31))) &&& 1) = 0 then 0 else 1))
def L_X7_greatestLikeness_18 (rec5 : tg_S → Int32 → Int32 → Int32 → Int32 → Option (tg_S × Int32)) : Nat → tg_S → Int32 → Int32 → Int32 → Int32 → Int32 → Int32 → Option (tg_S × Int32)
  | 0 => fun _ _ _ _ _ _ _ => none
  | n + 1 => f_X7_greatestLikeness_18 rec5 (L_X7_greatestLikeness_18 rec5 n)
def f_X7_greatestLikeness_5 (rec5 : tg_S → Int32 → Int32 → Int32 → Int32 → Option (tg_S × Int32)) (S : tg_S) (v1 : Int32) (v2 : Int32) (v3 : Int32) (v4 : Int32) : Option (tg_S × Int32) :=
  tg_if (9 < v4)
    (some (S, v3))
    (L_X7_greatestLikeness_18 rec5 tg_F S v1 v2 v3 v4 0 1)
def L_X7_greatestLikeness_5 : Nat → tg_S → Int32 → Int32 → Int32 → Int32 → Option (tg_S × Int32)
  | 0 => fun _ _ _ _ _ => none
  | n + 1 => f_X7_greatestLikeness_5  (L_X7_greatestLikeness_5  n)
def f_X7_greatestLikeness (S : tg_S) (v1 : Int32) (v2 : Int32) : Option (tg_S × Int32) :=
  L_X7_greatestLikeness_5 tg_F S v1 v2 0 1
-- X7_ask
def f_X7_ask_60 (rec30 : tg_S → Int32 → Int32 → Int32 → Int32 → Option (tg_S × Int32)) (S : tg_S) (v2 : Int32) (v3 : Int32) (v4 : Int32) (v5 : Int32) : Option (tg_S × Int32) :=
  tg_nm (v5 + 1 : Int32) fun y1 =>
  rec30 S v2 v3 v4 y1
def f_X7_ask_30 (rec30 : tg_S → Int32 → Int32 → Int32 → Int32 → Option (tg_S × Int32)) (S : tg_S) (v2 : Int32) (v3 : Int32) (v4 : Int32) (v5 : Int32) : Option (tg_S × Int32) :=
  tg_if (24 ≤ v5)
    (some (S, v3))
    (tg_bd (f_X7_greatestLikeness S v2 v5) fun S2 r3 =>
      f_X7_ask_60 rec30 S2 v2 (if v4 ≤ r3 then v3 else v5) (if v4 ≤ r3 then v4 else r3) v5)
def L_X7_ask_30 : Nat → tg_S → Int32 → Int32 → Int32 → Int32 → Option (tg_S × Int32)
  | 0 => fun _ _ _ _ _ => none
  | n + 1 => f_X7_ask_30  (L_X7_ask_30  n)
def f_X7_ask (S : tg_S) (v1 : Int32) : Option (tg_S × Int32) :=
  tg_bd (f_X7_isPuller S v1) fun S1 r2 =>
  tg_if (r2 = 0)
    (some (S1, -2))
    (tg_bd (f_X7_weightsThatFit S1 v1) fun S4 r5 =>
      tg_bd (f_X7_greatestLikeness S4 r5 0) fun S6 r7 =>
      L_X7_ask_30 tg_F S6 r5 0 r7 1)
-- X7_refreshWinners
def f_X7_refreshWinners_20 (rec20 : tg_S → Int32 → Option (tg_S)) (S : tg_S) (v1 : Int32) : Option (tg_S) :=
  tg_if ((1 <<< ((S 31 3) &&& 31)) ≤ v1)
    (tg_pf S 0 11 1 fun S2 =>
      some S2)
    (tg_pf S 31 4 v1 fun S3 =>
      tg_bd (f_X2_play 42 23 S3) fun S4 r5 =>
      tg_wr S4 51 256 v1 (S4 42 5) fun S6 =>
      tg_nm (v1 + 1 : Int32) fun y7 =>
      rec20 S6 y7)
def L_X7_refreshWinners_20 : Nat → tg_S → Int32 → Option (tg_S)
  | 0 => fun _ _ => none
  | n + 1 => f_X7_refreshWinners_20  (L_X7_refreshWinners_20  n)
def f_X7_refreshWinners (S : tg_S) : Option (tg_S) :=
  tg_if ((S 0 11) = 0)
    (tg_bv (f_X1_becomeLike S) fun S2 =>
      L_X7_refreshWinners_20 tg_F S2 0)
    (some S)
-- X7_waysToMiss
def f_X7_waysToMiss_40 (rec5 : tg_S → Int32 → Int32 → Int64 → Int32 → Option (tg_S × Int64)) (S : tg_S) (v1 : Int32) (v2 : Int32) (v5 : Int32) (s0 : Int64) (s1 : Int64) : Option (tg_S × Int64) :=
  tg_nm (s1 * s0 : Int64) fun y1 =>
  tg_nm (v5 + 1 : Int32) fun y2 =>
  rec5 S v1 v2 y1 y2
def f_X7_waysToMiss_5 (rec5 : tg_S → Int32 → Int32 → Int64 → Int32 → Option (tg_S × Int64)) (S : tg_S) (v1 : Int32) (v2 : Int32) (v3 : Int64) (v5 : Int32) : Option (tg_S × Int64) :=
  tg_if ((S 19 3) ≤ v5)
    (some (S, v3))
    (f_X7_waysToMiss_40 rec5 S v1 v2 v5 (if ((v2 >>> (v5 &&& 31)) &&& 1) = 0 then (v1.toInt64) else ((16 - v1).toInt64)) v3)
def L_X7_waysToMiss_5 : Nat → tg_S → Int32 → Int32 → Int64 → Int32 → Option (tg_S × Int64)
  | 0 => fun _ _ _ _ _ => none
  | n + 1 => f_X7_waysToMiss_5  (L_X7_waysToMiss_5  n)
def f_X7_waysToMiss (S : tg_S) (v1 : Int32) (v2 : Int32) : Option (tg_S × Int64) :=
  L_X7_waysToMiss_5 tg_F S v1 v2 1 0
-- X7_waysToWin
def f_X7_waysToWin_43 (rec5 : tg_S → Int32 → Int32 → Int64 → Int32 → Option (tg_S × Int64)) (S : tg_S) (v1 : Int32) (v2 : Int32) (v3 : Int64) (v5 : Int32) : Option (tg_S × Int64) :=
  tg_nm (v5 + 1 : Int32) fun y1 =>
  rec5 S v1 v2 v3 y1
def f_X7_waysToWin_5 (rec5 : tg_S → Int32 → Int32 → Int64 → Int32 → Option (tg_S × Int64)) (S : tg_S) (v1 : Int32) (v2 : Int32) (v3 : Int64) (v5 : Int32) : Option (tg_S × Int64) :=
  tg_if ((1 <<< ((S 19 3) &&& 31)) ≤ v5)
    (some (S, v3))
    (tg_rd S 51 256 v5 fun y2 =>
      tg_if (y2 = v2)
        (tg_bd (f_X7_waysToMiss S v1 v5) fun S4 r5 =>
          tg_nm (v3 + r5 : Int64) fun y6 =>
          f_X7_waysToWin_43 rec5 S4 v1 v2 y6 v5)
        (f_X7_waysToWin_43 rec5 S v1 v2 v3 v5))
def L_X7_waysToWin_5 : Nat → tg_S → Int32 → Int32 → Int64 → Int32 → Option (tg_S × Int64)
  | 0 => fun _ _ _ _ _ => none
  | n + 1 => f_X7_waysToWin_5  (L_X7_waysToWin_5  n)
def f_X7_waysToWin (S : tg_S) (v1 : Int32) (v2 : Int32) : Option (tg_S × Int64) :=
  L_X7_waysToWin_5 tg_F S v1 v2 0 0
-- X7_chance
def f_X7_chance_104 (S : tg_S) (v3 : Int32) (v5 : Int64) (v7 : Int64) : Option (tg_S × Int64) :=
  tg_if (v3 = 0)
    (some (S, v5))
    (some (S, v7))
def f_X7_chance_64 (rec64 : tg_S → Int32 → Int32 → Int64 → Int64 → Int32 → Option (tg_S × Int64)) (S : tg_S) (v3 : Int32) (v4 : Int32) (v5 : Int64) (v7 : Int64) (v9 : Int32) : Option (tg_S × Int64) :=
  tg_if (v4 ≤ v9)
    (f_X7_chance_104 S v3 v5 v7)
    (tg_if ((lg_cmp (v5 - v5 / 2 * 2) 0) = 0)
        (tg_nm (v5 / 2 : Int64) fun y3 =>
          tg_nm (v7 / 2 : Int64) fun y4 =>
          tg_nm (v9 + 1 : Int32) fun y5 =>
          rec64 S v3 v4 y3 y4 y5)
        (f_X7_chance_104 S v3 v5 v7))
def L_X7_chance_64 : Nat → tg_S → Int32 → Int32 → Int64 → Int64 → Int32 → Option (tg_S × Int64)
  | 0 => fun _ _ _ _ _ _ => none
  | n + 1 => f_X7_chance_64  (L_X7_chance_64  n)
def f_X7_chance (S : tg_S) (v1 : Int32) (v2 : Int32) (v3 : Int32) : Option (tg_S × Int64) :=
  tg_bd (f_X7_isBelow S v1 17) fun S1 r2 =>
  tg_if (r2 = 0)
    (some (S1, -9223372036854775806))
    (tg_bd (f_X7_isBelow S1 v2 2) fun S4 r5 =>
      tg_if (r5 = 0)
        (some (S4, -9223372036854775806))
        (tg_bd (f_X7_isBelow S4 v3 2) fun S7 r8 =>
          tg_if (r8 = 0)
            (some (S7, -9223372036854775806))
            (tg_bv (f_X7_refreshWinners S7) fun S10 =>
              tg_nm (4 * (S10 19 3) : Int32) fun y11 =>
              tg_bd (f_X7_waysToWin S10 v1 v2) fun S12 r13 =>
              tg_nm (1 <<< ((y11 : Int32).toInt64 &&& 63) : Int64) fun y14 =>
              L_X7_chance_64 tg_F S12 v3 y11 r13 y14 0)))
-- X7_years
def f_X7_years_84 (rec37 : tg_S → Int32 → Int32 → Int32 → Int32 → Option (tg_S × Int32)) (S : tg_S) (v2 : Int32) (v3 : Int32) (v4 : Int32) (v5 : Int32) (s0 : Int32) (s1 : Int32) : Option (tg_S × Int32) :=
  tg_wr S 30 48 s1 s0 fun S1 =>
  tg_nm (v5 + 1 : Int32) fun y2 =>
  rec37 S1 v2 v3 v4 y2
def f_X7_years_37 (rec37 : tg_S → Int32 → Int32 → Int32 → Int32 → Option (tg_S × Int32)) (S : tg_S) (v2 : Int32) (v3 : Int32) (v4 : Int32) (v5 : Int32) : Option (tg_S × Int32) :=
  tg_if (24 ≤ v5)
    (tg_bd (f_X2_play 42 23 S) fun S2 r3 =>
      tg_if (v3 = 0)
        (some (S2, r3))
        (some (S2, S2 42 5)))
    (tg_nm ((1103515245 * v4) + 12345 : Int32) fun y5 =>
      f_X7_years_84 rec37 S v2 v3 y5 v5 (if v2 ≤ v5 then 1 else ((((y5).toUInt32 >>> ((16 : Int32).toUInt32 &&& Int32.toUInt32 31)).toInt32) - (((y5).toUInt32 >>> ((16 : Int32).toUInt32 &&& Int32.toUInt32 31)).toInt32) / 3 * 3)) (24 + v5))
def L_X7_years_37 : Nat → tg_S → Int32 → Int32 → Int32 → Int32 → Option (tg_S × Int32)
  | 0 => fun _ _ _ _ _ => none
  | n + 1 => f_X7_years_37  (L_X7_years_37  n)
def f_X7_years (S : tg_S) (v1 : Int32) (v2 : Int32) (v3 : Int32) : Option (tg_S × Int32) :=
  tg_bd (f_X7_isBelow S v2 25) fun S1 r2 =>
  tg_if (r2 = 0)
    (some (S1, -2))
    (tg_bd (f_X7_isBelow S1 v3 2) fun S4 r5 =>
      tg_if (r5 = 0)
        (some (S4, -2))
        (tg_bv (f_X1_becomeLike S4) fun S7 =>
          L_X7_years_37 tg_F S7 v2 v3 v1 0))
-- X7_sheet
def f_X7_sheet (S : tg_S) (v1 : Int32) (v2 : Int32) (v3 : Int32) : Option (tg_S × Int32) :=
  tg_bd (f_X7_isBelow S v1 4) fun S1 r2 =>
  tg_if (r2 = 0)
    (some (S1, -2))
    (tg_bd (f_X7_isBelow S1 v2 3) fun S4 r5 =>
      tg_if (r5 = 0)
        (some (S4, -2))
        (tg_if (v3 ≤ 60)
            (tg_if (0 ≤ v3)
                (tg_bv (f_X5_renew S4 v1 v2 v3) fun S9 =>
                  some (S9, v3))
                (tg_bd (f_X7_found S4 5) fun S10 r11 =>
                  some (S10, r11)))
            (some (S4, -2))))
-- X7_lose
def f_X7_lose (S : tg_S) (v1 : Int32) : Option (tg_S × Int32) :=
  tg_bd (f_X7_isBelow S v1 4) fun S1 r2 =>
  tg_if (r2 = 0)
    (some (S1, -2))
    (tg_bd (f_X5_isLost S1 v1) fun S4 r5 =>
      tg_if (r5 = 0)
        (tg_bd (f_X5_drop S4 v1) fun S7 r8 =>
          some (S7, r8))
        (tg_bd (f_X7_found S4 1) fun S9 r10 =>
          some (S9, r10)))
-- X7_put
def f_X7_put (S : tg_S) (v1 : Int32) (v2 : Int32) (v3 : Int32) (v4 : Int32) : Option (tg_S × Int32) :=
  tg_bd (f_X7_isBelow S v1 4) fun S1 r2 =>
  tg_if (r2 = 0)
    (some (S1, -2))
    (tg_bd (f_X7_isBelow S1 v2 3) fun S4 r5 =>
      tg_if (r5 = 0)
        (some (S4, -2))
        (tg_bd (f_X5_whatIsWrong S4 v1 v2 v3) fun S7 r8 =>
          tg_if (r8 = 0)
            (tg_bv (f_X5_store S7 v1 v3 v4) fun S10 =>
              some (S10, 1))
            (tg_bd (f_X7_found S7 r8) fun S11 r12 =>
              some (S11, r12))))
-- X7_get
def f_X7_get (S : tg_S) (v1 : Int32) (v2 : Int32) (v3 : Int32) : Option (tg_S × Int32) :=
  tg_bd (f_X7_isBelow S v1 4) fun S1 r2 =>
  tg_if (r2 = 0)
    (some (S1, -2147483648))
    (tg_bd (f_X7_isBelow S1 v2 3) fun S4 r5 =>
      tg_if (r5 = 0)
        (some (S4, -2147483648))
        (tg_bd (f_X5_whatIsWrong S4 v1 v2 v3) fun S7 r8 =>
          tg_if (r8 = 0)
            (tg_bd (f_X5_item S7 v1 v3) fun S10 r11 =>
              some (S10, r11))
            (tg_bd (f_X7_found S7 r8) fun S12 r13 =>
              some (S12, -2147483648))))
-- X7_copy
def f_X7_copy_99 (S : tg_S) : Option (tg_S × Int32) :=
  tg_bd (f_X7_found S 2) fun S1 r2 =>
  some (S1, r2)
def f_X7_copy_41 (S : tg_S) : Option (tg_S × Int32) :=
  tg_bd (f_X7_found S 1) fun S1 r2 =>
  some (S1, r2)
def f_X7_copy (S : tg_S) (v1 : Int32) (v2 : Int32) (v3 : Int32) (v4 : Int32) (v5 : Int32) : Option (tg_S × Int32) :=
  tg_bd (f_X7_isBelow S v1 4) fun S1 r2 =>
  tg_if (r2 = 0)
    (some (S1, -2))
    (tg_bd (f_X7_isBelow S1 v3 4) fun S4 r5 =>
      tg_if (r5 = 0)
        (some (S4, -2))
        (tg_bd (f_X5_isLost S4 v1) fun S7 r8 =>
          tg_if (r8 = 0)
            (tg_bd (f_X5_isLost S7 v3) fun S10 r11 =>
              tg_if (r11 = 0)
                (tg_bd (f_X5_areAlike S10 v1 v3) fun S13 r14 =>
                  tg_if (r14 = 0)
                    (tg_bd (f_X7_found S13 4) fun S24 r25 =>
                      some (S24, r25))
                    (tg_if (v5 < 0)
                        (f_X7_copy_99 S13)
                        (tg_bd (f_X5_holds S13 v1 v2 v5) fun S17 r18 =>
                          tg_if (r18 = 0)
                            (f_X7_copy_99 S17)
                            (tg_bd (f_X5_holds S17 v3 v4 v5) fun S20 r21 =>
                              tg_if (r21 = 0)
                                (f_X7_copy_99 S20)
                                (tg_bv (f_X5_move S20 v1 v2 v3 v4 v5) fun S23 =>
                                  some (S23, 1))))))
                (f_X7_copy_41 S10))
            (f_X7_copy_41 S7)))
-- X7_write
def f_X7_write_44 (rec44 : tg_S → Int32 → Int32 → Int32 → Option (tg_S × Int32)) (S : tg_S) (v1 : Int32) (v2 : Int32) (v3 : Int32) : Option (tg_S × Int32) :=
  tg_if (v2 ≤ v3)
    (some (S, v2))
    (tg_rd S 36 24 v3 fun y2 =>
      tg_bv (f_X5_store S v1 v3 y2) fun S3 =>
      tg_nm (v3 + 1 : Int32) fun y4 =>
      rec44 S3 v1 v2 y4)
def L_X7_write_44 : Nat → tg_S → Int32 → Int32 → Int32 → Option (tg_S × Int32)
  | 0 => fun _ _ _ _ => none
  | n + 1 => f_X7_write_44  (L_X7_write_44  n)
def f_X7_write (S : tg_S) (v1 : Int32) : Option (tg_S × Int32) :=
  tg_bd (f_X7_isBelow S v1 4) fun S1 r2 =>
  tg_if (r2 = 0)
    (some (S1, -2))
    (tg_bd (f_X5_isLost S1 v1) fun S4 r5 =>
      tg_if (r5 = 0)
        (tg_bd (f_X5_size S4 v1) fun S7 r8 =>
          tg_nm (tg_min 24 r8 : Int32) fun y9 =>
          L_X7_write_44 tg_F S7 v1 y9 0)
        (tg_bd (f_X7_found S4 1) fun S10 r11 =>
          some (S10, r11)))
-- X7_count
def f_X7_count (S : tg_S) (v1 : Int32) : Option (tg_S × Int32) :=
  tg_if (v1 = 0)
    (tg_rd S 16 2 v1 fun y2 =>
      some (S, y2))
    (tg_if (v1 = 1)
        (tg_rd S 16 2 v1 fun y4 =>
          some (S, y4))
        (tg_if (v1 = 2)
            (tg_bd (f_X6_soundLength S v1) fun S6 r7 =>
              some (S6, r7))
            (tg_if (v1 = 3)
                (tg_bd (f_X6_soundLength S v1) fun S9 r10 =>
                  some (S9, r10))
                (tg_if (v1 = 4)
                    (tg_bd (f_X6_lengthOfAll S) fun S12 r13 =>
                      some (S12, r13))
                    (tg_if (v1 = 5)
                        (some (S, S 19 3))
                        (tg_if (v1 = 6)
                            (tg_rd S 36 24 23 fun y16 =>
                              some (S, y16))
                            (tg_if (v1 = 7)
                                (some (S, S 4 2))
                                (tg_if (v1 = 8)
                                    (some (S, S 0 3))
                                    (some (S, -2))))))))))
-- X7_withBeat
def f_X7_withBeat_38 (rec38 : tg_S → Int32 → Int64 → Int32 → Option (tg_S × Int64)) (S : tg_S) (v3 : Int32) (v4 : Int64) (v6 : Int32) : Option (tg_S × Int64) :=
  tg_if (4 ≤ v6)
    (some (S, v4))
    (tg_bd (f_X7_rope S v3 v6) fun S2 r3 =>
      tg_nm ((31 * v4) + (r3.toInt64) : Int64) fun y4 =>
      tg_nm (v6 + 1 : Int32) fun y5 =>
      rec38 S2 v3 y4 y5)
def L_X7_withBeat_38 : Nat → tg_S → Int32 → Int64 → Int32 → Option (tg_S × Int64)
  | 0 => fun _ _ _ _ => none
  | n + 1 => f_X7_withBeat_38  (L_X7_withBeat_38  n)
def f_X7_withBeat (S : tg_S) (v1 : Int64) (v3 : Int32) : Option (tg_S × Int64) :=
  tg_bd (f_X7_call S 0 v3) fun S1 r2 =>
  tg_nm ((31 * v1) + (r2.toInt64) : Int64) fun y3 =>
  tg_bd (f_X7_call S1 1 v3) fun S4 r5 =>
  tg_nm ((31 * y3) + (r5.toInt64) : Int64) fun y6 =>
  L_X7_withBeat_38 tg_F S4 v3 y6 0
-- X7_withPuller
def f_X7_withPuller_48 (rec48 : tg_S → Int32 → Int64 → Int32 → Int32 → Option (tg_S × Int64)) (S : tg_S) (v3 : Int32) (v4 : Int64) (v7 : Int32) (v8 : Int32) : Option (tg_S × Int64) :=
  tg_if (v7 ≤ v8)
    (tg_bd (f_X7_done S v3) fun S2 r3 =>
      tg_nm ((31 * v4) + (r3.toInt64) : Int64) fun y4 =>
      tg_bd (f_X7_was S2 v3 0) fun S5 r6 =>
      tg_nm ((31 * y4) + (r6.toInt64) : Int64) fun y7 =>
      tg_bd (f_X7_was S5 v3 1) fun S8 r9 =>
      tg_nm ((31 * y7) + (r9.toInt64) : Int64) fun y10 =>
      tg_bd (f_X7_ask S8 v3) fun S11 r12 =>
      some (S11, (31 * y10) + (r12.toInt64)))
    (tg_rs v8 fun y13 =>
      tg_bd (f_X7_at S y13 v3 0) fun S14 r15 =>
      tg_nm ((31 * v4) + (r15.toInt64) : Int64) fun y16 =>
      tg_bd (f_X7_at S14 y13 v3 1) fun S17 r18 =>
      tg_nm ((31 * y16) + (r18.toInt64) : Int64) fun y19 =>
      tg_nm (v8 + 1 : Int32) fun y20 =>
      rec48 S17 v3 y19 v7 y20)
def L_X7_withPuller_48 : Nat → tg_S → Int32 → Int64 → Int32 → Int32 → Option (tg_S × Int64)
  | 0 => fun _ _ _ _ _ => none
  | n + 1 => f_X7_withPuller_48  (L_X7_withPuller_48  n)
def f_X7_withPuller_6 (rec6 : tg_S → Int32 → Int64 → Int32 → Option (tg_S × Int64)) (S : tg_S) (v3 : Int32) (v4 : Int64) (v6 : Int32) : Option (tg_S × Int64) :=
  tg_if (3 ≤ v6)
    (L_X7_withPuller_48 tg_F S v3 v4 4 0)
    (tg_bd (f_X7_puller S v3 v6) fun S2 r3 =>
      tg_nm ((31 * v4) + (r3.toInt64) : Int64) fun y4 =>
      tg_nm (v6 + 1 : Int32) fun y5 =>
      rec6 S2 v3 y4 y5)
def L_X7_withPuller_6 : Nat → tg_S → Int32 → Int64 → Int32 → Option (tg_S × Int64)
  | 0 => fun _ _ _ _ => none
  | n + 1 => f_X7_withPuller_6  (L_X7_withPuller_6  n)
def f_X7_withPuller (S : tg_S) (v1 : Int64) (v3 : Int32) : Option (tg_S × Int64) :=
  L_X7_withPuller_6 tg_F S v3 v1 0
-- X7_withTeam
def f_X7_withTeam_40 (rec40 : tg_S → Int32 → Int64 → Int32 → Option (tg_S × Int64)) (S : tg_S) (v3 : Int32) (v4 : Int64) (v6 : Int32) : Option (tg_S × Int64) :=
  tg_if (3 ≤ v6)
    (tg_bd (f_X7_out S v3 0) fun S2 r3 =>
      tg_nm ((31 * v4) + (r3.toInt64) : Int64) fun y4 =>
      tg_bd (f_X7_out S2 v3 1) fun S5 r6 =>
      tg_nm ((31 * y4) + (r6.toInt64) : Int64) fun y7 =>
      tg_bd (f_X7_chance S5 5 v3 0) fun S8 r9 =>
      tg_nm ((31 * y7) + r9 : Int64) fun y10 =>
      tg_bd (f_X7_chance S8 5 v3 1) fun S11 r12 =>
      some (S11, (31 * y10) + r12))
    (tg_bd (f_X7_swap S v3 v6) fun S13 r14 =>
      tg_nm ((31 * v4) + (r14.toInt64) : Int64) fun y15 =>
      tg_nm (v6 + 1 : Int32) fun y16 =>
      rec40 S13 v3 y15 y16)
def L_X7_withTeam_40 : Nat → tg_S → Int32 → Int64 → Int32 → Option (tg_S × Int64)
  | 0 => fun _ _ _ _ => none
  | n + 1 => f_X7_withTeam_40  (L_X7_withTeam_40  n)
def f_X7_withTeam (S : tg_S) (v1 : Int64) (v3 : Int32) : Option (tg_S × Int64) :=
  tg_bd (f_X7_better S v3 4 0) fun S1 r2 =>
  tg_nm ((31 * v1) + (r2.toInt64) : Int64) fun y3 =>
  tg_bd (f_X7_better S1 v3 4 1) fun S4 r5 =>
  tg_nm ((31 * y3) + (r5.toInt64) : Int64) fun y6 =>
  L_X7_withTeam_40 tg_F S4 v3 y6 0
-- X7_digest
def f_X7_digest_109 (rec109 : tg_S → Int64 → Int32 → Option (tg_S × Int64)) (S : tg_S) (v1 : Int64) (v3 : Int32) : Option (tg_S × Int64) :=
  tg_if (2 ≤ v3)
    (tg_bd (f_X7_won S 0) fun S2 r3 =>
      tg_nm ((31 * v1) + (r3.toInt64) : Int64) fun y4 =>
      tg_bd (f_X7_won S2 1) fun S5 r6 =>
      tg_nm ((31 * y4) + (r6.toInt64) : Int64) fun y7 =>
      tg_bd (f_X7_furthest S5 0) fun S8 r9 =>
      tg_nm ((31 * y7) + (r9.toInt64) : Int64) fun y10 =>
      tg_bd (f_X7_furthest S8 1) fun S11 r12 =>
      tg_nm ((31 * y10) + (r12.toInt64) : Int64) fun y13 =>
      tg_bd (f_X7_spent S11) fun S14 r15 =>
      tg_nm ((31 * y13) + (r15.toInt64) : Int64) fun y16 =>
      tg_bd (f_X7_best S14) fun S17 r18 =>
      tg_nm ((31 * y16) + (r18.toInt64) : Int64) fun y19 =>
      tg_bd (f_X7_level S17) fun S20 r21 =>
      tg_nm ((31 * y19) + (r21.toInt64) : Int64) fun y22 =>
      tg_bd (f_X7_spare S20 (-1)) fun S23 r24 =>
      tg_nm ((31 * y22) + (r24.toInt64) : Int64) fun y25 =>
      tg_bd (f_X7_spare S23 0) fun S26 r27 =>
      tg_nm ((31 * y25) + (r27.toInt64) : Int64) fun y28 =>
      tg_bd (f_X7_never S26) fun S29 r30 =>
      tg_nm ((31 * y28) + (r30.toInt64) : Int64) fun y31 =>
      tg_bd (f_X7_years S29 7 18 0) fun S32 r33 =>
      tg_nm ((31 * y31) + (r33.toInt64) : Int64) fun y34 =>
      tg_bd (f_X7_years S32 7 18 1) fun S35 r36 =>
      some (S35, (31 * y34) + (r36.toInt64)))
    (tg_bd (f_X7_withTeam S v1 v3) fun S37 r38 =>
      tg_nm (v3 + 1 : Int32) fun y39 =>
      rec109 S37 r38 y39)
def L_X7_digest_109 : Nat → tg_S → Int64 → Int32 → Option (tg_S × Int64)
  | 0 => fun _ _ _ => none
  | n + 1 => f_X7_digest_109  (L_X7_digest_109  n)
def f_X7_digest_101 (rec80 : tg_S → Int64 → Int32 → Option (tg_S × Int64)) (S : tg_S) (v1 : Int64) (v3 : Int32) : Option (tg_S × Int64) :=
  tg_nm (v3 + 1 : Int32) fun y1 =>
  rec80 S v1 y1
def f_X7_digest_80 (rec80 : tg_S → Int64 → Int32 → Option (tg_S × Int64)) (S : tg_S) (v1 : Int64) (v3 : Int32) : Option (tg_S × Int64) :=
  tg_if (16 ≤ v3)
    (L_X7_digest_109 tg_F S v1 0)
    (tg_bd (f_X7_isPuller S v3) fun S2 r3 =>
      tg_if (r3 = 0)
        (f_X7_digest_101 rec80 S2 v1 v3)
        (tg_bd (f_X7_withPuller S2 v1 v3) fun S5 r6 =>
          f_X7_digest_101 rec80 S5 r6 v3))
def L_X7_digest_80 : Nat → tg_S → Int64 → Int32 → Option (tg_S × Int64)
  | 0 => fun _ _ _ => none
  | n + 1 => f_X7_digest_80  (L_X7_digest_80  n)
def f_X7_digest_59 (rec59 : tg_S → Int64 → Int32 → Option (tg_S × Int64)) (S : tg_S) (v1 : Int64) (v3 : Int32) : Option (tg_S × Int64) :=
  tg_if (24 ≤ v3)
    (L_X7_digest_80 tg_F S v1 0)
    (tg_bd (f_X7_withBeat S v1 v3) fun S2 r3 =>
      tg_nm (v3 + 1 : Int32) fun y4 =>
      rec59 S2 r3 y4)
def L_X7_digest_59 : Nat → tg_S → Int64 → Int32 → Option (tg_S × Int64)
  | 0 => fun _ _ _ => none
  | n + 1 => f_X7_digest_59  (L_X7_digest_59  n)
def f_X7_digest_33 (rec33 : tg_S → Int64 → Int32 → Option (tg_S × Int64)) (S : tg_S) (v1 : Int64) (v3 : Int32) : Option (tg_S × Int64) :=
  tg_if (4 ≤ v3)
    (L_X7_digest_59 tg_F S v1 0)
    (tg_bd (f_X7_fault S v3) fun S2 r3 =>
      tg_nm ((31 * v1) + (r3.toInt64) : Int64) fun y4 =>
      tg_nm (v3 + 1 : Int32) fun y5 =>
      rec33 S2 y4 y5)
def L_X7_digest_33 : Nat → tg_S → Int64 → Int32 → Option (tg_S × Int64)
  | 0 => fun _ _ _ => none
  | n + 1 => f_X7_digest_33  (L_X7_digest_33  n)
def f_X7_digest_6 (rec6 : tg_S → Int64 → Int32 → Option (tg_S × Int64)) (S : tg_S) (v1 : Int64) (v3 : Int32) : Option (tg_S × Int64) :=
  tg_if (8 ≤ v3)
    (L_X7_digest_33 tg_F S v1 0)
    (tg_bd (f_X7_count S v3) fun S2 r3 =>
      tg_nm ((31 * v1) + (r3.toInt64) : Int64) fun y4 =>
      tg_nm (v3 + 1 : Int32) fun y5 =>
      rec6 S2 y4 y5)
def L_X7_digest_6 : Nat → tg_S → Int64 → Int32 → Option (tg_S × Int64)
  | 0 => fun _ _ _ => none
  | n + 1 => f_X7_digest_6  (L_X7_digest_6  n)
def f_X7_digest (S : tg_S) : Option (tg_S × Int64) :=
  L_X7_digest_6 tg_F S 17 0
-- X8_in
def f_X8_in (S : tg_S) (v0 : Int32) (v1 : Int32) (v2 : Int32) : Option (tg_S × Int32) :=
  tg_if (v0 < v1)
    (some (S, 0))
    (tg_if (v2 < v0)
        (some (S, 0))
        (some (S, 1)))
-- X8_isIn
def f_X8_isIn (S : tg_S) (v0 : Int32) (v1 : Int32) : Option (tg_S × Int32) :=
  tg_if (((v0 >>> (v1 &&& 31)) &&& 1) = 1)
    (some (S, 1))
    (some (S, 0))
-- X8_no
def f_X8_no (S : tg_S) (v0 : Int32) : Option (tg_S × Int64) :=
  some (S, (-9223372036854775808) - (v0.toInt64))
-- X8_lowest
def f_X8_lowest_6 (rec6 : tg_S → Int64 → Int64 → Int32 → Int64 → Int64 → Option (tg_S × Int64)) (S : tg_S) (v0 : Int64) (v2 : Int64) (v4 : Int32) (v5 : Int64) (v7 : Int64) : Option (tg_S × Int64) :=
  tg_if ((lg_cmp v7 0) = 0)
    (tg_if (v4 = 0)
        (tg_ck (decide (¬ v5 = 0)) <|
          some (S, v0 / v5))
        (tg_ck (decide (¬ v5 = 0)) <|
          some (S, v2 / v5)))
    (tg_ck (decide (¬ v7 = 0)) <|
      tg_nm (v5 - v5 / v7 * v7 : Int64) fun y5 =>
      rec6 S v0 v2 v4 v7 y5)
def L_X8_lowest_6 : Nat → tg_S → Int64 → Int64 → Int32 → Int64 → Int64 → Option (tg_S × Int64)
  | 0 => fun _ _ _ _ _ _ => none
  | n + 1 => f_X8_lowest_6  (L_X8_lowest_6  n)
def f_X8_lowest (S : tg_S) (v0 : Int64) (v2 : Int64) (v4 : Int32) : Option (tg_S × Int64) :=
  L_X8_lowest_6 tg_F S v0 v2 v4 v0 v2
-- X8_isText
def f_X8_isText (S : tg_S) (v0 : Int32) : Option (tg_S × Int32) :=
  tg_bd (f_X8_in S v0 0 3) fun S1 r2 =>
  tg_bz r2 (some (S1, r2))
-- X8_isBeat
def f_X8_isBeat (S : tg_S) (v0 : Int32) : Option (tg_S × Int32) :=
  tg_bd (f_X8_in S v0 0 23) fun S1 r2 =>
  tg_bz r2 (some (S1, r2))
-- X8_isTwo
def f_X8_isTwo (S : tg_S) (v0 : Int32) : Option (tg_S × Int32) :=
  tg_bd (f_X8_in S v0 0 1) fun S1 r2 =>
  tg_bz r2 (some (S1, r2))
-- X8_isThree
def f_X8_isThree (S : tg_S) (v0 : Int32) : Option (tg_S × Int32) :=
  tg_bd (f_X8_in S v0 0 2) fun S1 r2 =>
  tg_bz r2 (some (S1, r2))
-- X8_type
def f_X8_type_39 (S : tg_S) (v1 : Int32) (v2 : Int32) (s0 : Int32) (s1 : Int32) : Option (tg_S × Int32) :=
  tg_if (s1 = s0)
    (some (S, -4))
    (tg_rd S 1 4 v1 fun y2 =>
      tg_wr S 2 124 ((31 * v1) + y2) v2 fun S3 =>
      tg_rd S3 1 4 v1 fun y4 =>
      tg_wr S3 1 4 v1 (y4 + 1) fun S5 =>
      tg_rd S5 1 4 v1 fun y6 =>
      some (S5, y6))
def f_X8_type (S : tg_S) (v1 : Int32) (v2 : Int32) : Option (tg_S × Int32) :=
  tg_bd (f_X8_isText S v1) fun S1 r2 =>
  tg_if (r2 = 0)
    (some (S1, -2))
    (tg_bd (f_X8_in S1 v2 0 255) fun S4 r5 =>
      tg_if (r5 = 0)
        (some (S4, -2))
        (tg_rd S4 1 4 v1 fun y7 =>
          f_X8_type_39 S4 v1 v2 (if 2 ≤ v1 then 24 else 31) y7))
-- X8_wipe
def f_X8_wipe (S : tg_S) (v1 : Int32) : Option (tg_S × Int32) :=
  tg_bd (f_X8_isText S v1) fun S1 r2 =>
  tg_if (r2 = 0)
    (some (S1, -2))
    (tg_rd S1 1 4 v1 fun y4 =>
      tg_wr S1 1 4 v1 0 fun S5 =>
      some (S5, y4))
-- X8_undo
def f_X8_undo (S : tg_S) (v1 : Int32) : Option (tg_S × Int32) :=
  tg_bd (f_X8_isText S v1) fun S1 r2 =>
  tg_if (r2 = 0)
    (some (S1, -2))
    (tg_rd S1 1 4 v1 fun y4 =>
      tg_if (y4 = 0)
        (some (S1, -3))
        (tg_rd S1 1 4 v1 fun y6 =>
          tg_wr S1 1 4 v1 (y6 - 1) fun S7 =>
          tg_rd S7 1 4 v1 fun y8 =>
          some (S7, y8)))
-- X8_byteAt
def f_X8_byteAt (S : tg_S) (v1 : Int32) (v2 : Int32) : Option (tg_S × Int32) :=
  tg_rd S 1 4 v1 fun y1 =>
  tg_if (y1 ≤ v2)
    (some (S, -1))
    (tg_rd S 2 124 ((31 * v1) + v2) fun y3 =>
      some (S, y3))
-- X8_readsPuller
def f_X8_readsPuller_42 (S : tg_S) (v1 : Int32) (v2 : Int32) (v3 : Int32) (s0 : Int32) : Option (tg_S × Int32) :=
  tg_bd (f_X8_byteAt S v1 (v3 + 1)) fun S1 r2 =>
  tg_nm (r2 - 48 : Int32) fun y3 =>
  tg_bd (f_X8_byteAt S1 v1 (v3 + 2)) fun S4 r5 =>
  tg_nm (r5 - 48 : Int32) fun y6 =>
  tg_if (v2 = 8)
    (some (S4, 0))
    (tg_if (s0 = (-1))
        (some (S4, 0))
        (tg_bd (f_X8_in S4 y3 1 9) fun S9 r10 =>
          tg_if (r10 = 0)
            (some (S9, 1))
            (tg_bd (f_X8_in S9 y6 1 9) fun S12 r13 =>
              tg_if (r13 = 0)
                (some (S12, 2))
                (tg_wr S12 4 17 ((8 * v1) + v2) s0 fun S15 =>
                  tg_wr S15 5 17 ((8 * v1) + v2) y3 fun S16 =>
                  tg_wr S16 6 17 ((8 * v1) + v2) y6 fun S17 =>
                  some (S17, 3)))))
def f_X8_readsPuller (S : tg_S) (v1 : Int32) (v2 : Int32) (v3 : Int32) : Option (tg_S × Int32) :=
  tg_bd (f_X8_byteAt S v1 v3) fun S1 r2 =>
  f_X8_readsPuller_42 S1 v1 v2 v3 (if r2 = 104 then 0 else (if r2 = 108 then 1 else (if r2 = 97 then 2 else (-1))))
-- X8_readsTeam
def f_X8_readsTeam_25 (rec11 : tg_S → Int32 → Int32 → Int32 → Option (tg_S × Int32)) (S : tg_S) (v1 : Int32) (v2 : Int32) (v3 : Int32) : Option (tg_S × Int32) :=
  tg_bd (f_X8_readsPuller S v1 v2 v3) fun S1 r2 =>
  tg_if (3 ≤ r2)
    (tg_nm (v2 + 1 : Int32) fun y4 =>
      tg_nm (v3 + 3 : Int32) fun y5 =>
      tg_rd S1 1 4 v1 fun y6 =>
      tg_if (y5 = y6)
        (tg_wr S1 3 2 v1 y4 fun S12 =>
          some (S12, -1))
        (tg_bd (f_X8_byteAt S1 v1 y5) fun S8 r9 =>
          tg_if (r9 = 59)
            (tg_nm (y5 + 1 : Int32) fun y11 =>
              rec11 S8 v1 y4 y11)
            (some (S8, y5))))
    (some (S1, v3 + r2))
def f_X8_readsTeam_11 (rec11 : tg_S → Int32 → Int32 → Int32 → Option (tg_S × Int32)) (S : tg_S) (v1 : Int32) (v2 : Int32) (v3 : Int32) : Option (tg_S × Int32) :=
  tg_rd S 1 4 v1 fun y1 =>
  tg_if (v3 < y1)
    (f_X8_readsTeam_25 rec11 S v1 v2 v3)
    (tg_if (v3 ≤ 0)
        (some (S, -1))
        (f_X8_readsTeam_25 rec11 S v1 v2 v3))
def L_X8_readsTeam_11 : Nat → tg_S → Int32 → Int32 → Int32 → Option (tg_S × Int32)
  | 0 => fun _ _ _ _ => none
  | n + 1 => f_X8_readsTeam_11  (L_X8_readsTeam_11  n)
def f_X8_readsTeam (S : tg_S) (v1 : Int32) : Option (tg_S × Int32) :=
  tg_wr S 3 2 v1 0 fun S1 =>
  L_X8_readsTeam_11 tg_F S1 v1 0 0
-- X8_callBy
def f_X8_callBy (S : tg_S) (v0 : Int32) : Option (tg_S × Int32) :=
  tg_if (v0 = 114)
    (some (S, 0))
    (tg_if (v0 = 112)
        (some (S, 1))
        (tg_if (v0 = 104)
            (some (S, 2))
            (some (S, -1))))
-- X8_readsCalls
def f_X8_readsCalls_72 (rec72 : tg_S → Int32 → Int32 → Int32 → Option (tg_S × Int32)) (S : tg_S) (v1 : Int32) (v2 : Int32) (v3 : Int32) : Option (tg_S × Int32) :=
  tg_rd S 1 4 v2 fun y1 =>
  tg_if (y1 ≤ v3)
    (tg_rd S 1 4 v2 fun y3 =>
      tg_wr S 7 2 v1 y3 fun S4 =>
      some (S4, -1))
    (tg_bd (f_X8_byteAt S v2 v3) fun S5 r6 =>
      tg_bd (f_X8_callBy S5 r6) fun S7 r8 =>
      tg_wr S7 8 48 ((24 * v1) + v3) r8 fun S9 =>
      tg_nm (v3 + 1 : Int32) fun y10 =>
      rec72 S9 v1 v2 y10)
def L_X8_readsCalls_72 : Nat → tg_S → Int32 → Int32 → Int32 → Option (tg_S × Int32)
  | 0 => fun _ _ _ _ => none
  | n + 1 => f_X8_readsCalls_72  (L_X8_readsCalls_72  n)
def f_X8_readsCalls_39 (rec39 : tg_S → Int32 → Int32 → Int32 → Option (tg_S × Int32)) (S : tg_S) (v1 : Int32) (v2 : Int32) (v3 : Int32) : Option (tg_S × Int32) :=
  tg_rd S 1 4 v2 fun y1 =>
  tg_if (y1 ≤ v3)
    (L_X8_readsCalls_72 tg_F S v1 v2 0)
    (tg_bd (f_X8_byteAt S v2 v3) fun S3 r4 =>
      tg_bd (f_X8_callBy S3 r4) fun S5 r6 =>
      tg_if (r6 = (-1))
        (some (S5, v3))
        (tg_nm (v3 + 1 : Int32) fun y8 =>
          rec39 S5 v1 v2 y8))
def L_X8_readsCalls_39 : Nat → tg_S → Int32 → Int32 → Int32 → Option (tg_S × Int32)
  | 0 => fun _ _ _ _ => none
  | n + 1 => f_X8_readsCalls_39  (L_X8_readsCalls_39  n)
def f_X8_readsCalls_13 (rec13 : tg_S → Int32 → Int32 → Int32 → Option (tg_S × Int32)) (S : tg_S) (v1 : Int32) (v2 : Int32) (v3 : Int32) : Option (tg_S × Int32) :=
  tg_if (24 ≤ v3)
    (L_X8_readsCalls_39 tg_F S v1 v2 0)
    (tg_wr S 8 48 ((24 * v1) + v3) 1 fun S2 =>
      tg_nm (v3 + 1 : Int32) fun y3 =>
      rec13 S2 v1 v2 y3)
def L_X8_readsCalls_13 : Nat → tg_S → Int32 → Int32 → Int32 → Option (tg_S × Int32)
  | 0 => fun _ _ _ _ => none
  | n + 1 => f_X8_readsCalls_13  (L_X8_readsCalls_13  n)
def f_X8_readsCalls (S : tg_S) (v1 : Int32) : Option (tg_S × Int32) :=
  tg_nm (v1 + 2 : Int32) fun y1 =>
  tg_wr S 7 2 v1 0 fun S2 =>
  L_X8_readsCalls_13 tg_F S2 v1 y1 0
-- X8_faultOf
def f_X8_faultOf (S : tg_S) (v1 : Int32) : Option (tg_S × Int32) :=
  tg_bd (f_X8_readsTeam S 0) fun S1 r2 =>
  tg_bd (f_X8_readsTeam S1 1) fun S3 r4 =>
  tg_bd (f_X8_readsCalls S3 0) fun S5 r6 =>
  tg_bd (f_X8_readsCalls S5 1) fun S7 r8 =>
  tg_if (v1 = 0)
    (some (S7, r2))
    (tg_if (v1 = 1)
        (some (S7, r4))
        (tg_if (v1 = 2)
            (some (S7, r6))
            (some (S7, r8))))
-- X8_reads
def f_X8_reads (S : tg_S) : Option (tg_S) :=
  tg_bd (f_X8_faultOf S 0) fun S1 r2 =>
  some S1
-- X8_fault
def f_X8_fault (S : tg_S) (v1 : Int32) : Option (tg_S × Int32) :=
  tg_bd (f_X8_isText S v1) fun S1 r2 =>
  tg_if (r2 = 0)
    (some (S1, -2))
    (tg_bd (f_X8_faultOf S1 v1) fun S4 r5 =>
      some (S4, r5))
-- X8_isThereOne
def f_X8_isThereOne (S : tg_S) (v1 : Int32) : Option (tg_S × Int32) :=
  tg_bd (f_X8_in S v1 0 15) fun S1 r2 =>
  tg_if (r2 = 0)
    (some (S1, 0))
    (tg_rd S1 3 2 (v1 / 8) fun y4 =>
      tg_if (y4 ≤ (v1 - v1 / 8 * 8))
        (some (S1, 0))
        (some (S1, 1)))
-- X8_isPuller
def f_X8_isPuller (S : tg_S) (v1 : Int32) : Option (tg_S × Int32) :=
  tg_bv (f_X8_reads S) fun S1 =>
  tg_bd (f_X8_isThereOne S1 v1) fun S2 r3 =>
  tg_bz r3 (some (S2, r3))
-- X8_pullerOf
def f_X8_pullerOf (S : tg_S) (v1 : Int32) (v2 : Int32) : Option (tg_S × Int32) :=
  tg_if (v2 = 0)
    (tg_rd S 4 17 v1 fun y5 =>
      some (S, y5))
    (tg_if (v2 = 1)
        (tg_rd S 5 17 v1 fun y4 =>
          some (S, y4))
        (tg_rd S 6 17 v1 fun y3 =>
          some (S, y3)))
-- X8_puller
def f_X8_puller (S : tg_S) (v1 : Int32) (v2 : Int32) : Option (tg_S × Int32) :=
  tg_bd (f_X8_isPuller S v1) fun S1 r2 =>
  tg_if (r2 = 0)
    (some (S1, -2))
    (tg_bd (f_X8_isThree S1 v2) fun S4 r5 =>
      tg_if (r5 = 0)
        (some (S4, -2))
        (tg_bd (f_X8_pullerOf S4 v1 v2) fun S7 r8 =>
          some (S7, r8)))
-- X8_callOf
def f_X8_callOf (S : tg_S) (v1 : Int32) (v2 : Int32) : Option (tg_S × Int32) :=
  tg_bv (f_X8_reads S) fun S1 =>
  tg_rd S1 8 48 ((24 * v1) + v2) fun y2 =>
  some (S1, y2)
-- X8_call
def f_X8_call (S : tg_S) (v1 : Int32) (v2 : Int32) : Option (tg_S × Int32) :=
  tg_bd (f_X8_isTwo S v1) fun S1 r2 =>
  tg_if (r2 = 0)
    (some (S1, -2))
    (tg_bd (f_X8_isBeat S1 v2) fun S4 r5 =>
      tg_if (r5 = 0)
        (some (S4, -2))
        (tg_bd (f_X8_callOf S4 v1 v2) fun S7 r8 =>
          some (S7, r8)))
-- X8_mud
def f_X8_mud (S : tg_S) (v1 : Int32) : Option (tg_S × Int32) :=
  tg_bd (f_X8_in S v1 0 9) fun S1 r2 =>
  tg_if (r2 = 0)
    (some (S1, -2))
    (tg_nm (S1 0 8 : Int32) fun y4 =>
      tg_pf S1 0 8 v1 fun S5 =>
      some (S5, y4))
-- X8_event
def f_X8_event (S : tg_S) (v1 : Int32) (v2 : Int32) (v3 : Int32) : Option (tg_S × Int32) :=
  tg_bd (f_X8_isThree S v1) fun S1 r2 =>
  tg_if (r2 = 0)
    (some (S1, -2))
    (tg_bd (f_X8_isBeat S1 v2) fun S4 r5 =>
      tg_if (r5 = 0)
        (some (S4, -2))
        (tg_bd (f_X8_in S4 v3 0 15) fun S7 r8 =>
          tg_if (r8 = 0)
            (some (S7, -2))
            (tg_if ((S7 0 9) = 8)
                (some (S7, -4))
                (tg_wr S7 9 8 (S7 0 9) v1 fun S11 =>
                  tg_wr S11 10 8 (S11 0 9) v2 fun S12 =>
                  tg_wr S12 11 8 (S12 0 9) v3 fun S13 =>
                  tg_pf S13 0 9 ((S13 0 9) + 1) fun S14 =>
                  some (S14, S14 0 9)))))
-- X8_back
def f_X8_back (S : tg_S) : Option (tg_S × Int32) :=
  tg_if ((S 0 9) = 0)
    (some (S, -3))
    (tg_pf S 0 9 ((S 0 9) - 1) fun S2 =>
      some (S2, S2 0 9))
-- X8_isSheet
def f_X8_isSheet (S : tg_S) (v0 : Int32) : Option (tg_S × Int32) :=
  tg_bd (f_X8_in S v0 0 3) fun S1 r2 =>
  tg_bz r2 (some (S1, r2))
-- X8_meets
def f_X8_meets (S : tg_S) (v1 : Int32) : Option (tg_S × Int32) :=
  tg_pf S 0 46 v1 fun S1 =>
  some (S1, (-10) - v1)
-- X8_read
def f_X8_read_32 (rec32 : tg_S → Int32 → Int32 → Int32 → Option (tg_S × Int32)) (S : tg_S) (v1 : Int32) (v2 : Int32) (v3 : Int32) : Option (tg_S × Int32) :=
  tg_rd S 30 4 v1 fun y1 =>
  tg_if (y1 ≤ ((3 * v2) + 2))
    (some (S, v2))
    (tg_rd S 31 240 (v3 + (3 * v2)) fun y3 =>
      tg_rd S 31 240 ((v3 + (3 * v2)) + 1) fun y4 =>
      tg_rd S 31 240 ((v3 + (3 * v2)) + 2) fun y5 =>
      tg_bd (f_X8_event S y3 y4 y5) fun S6 r7 =>
      tg_if (r7 ≤ 0)
        (some (S6, v2))
        (tg_nm (v2 + 1 : Int32) fun y9 =>
          rec32 S6 v1 y9 v3))
def L_X8_read_32 : Nat → tg_S → Int32 → Int32 → Int32 → Option (tg_S × Int32)
  | 0 => fun _ _ _ _ => none
  | n + 1 => f_X8_read_32  (L_X8_read_32  n)
def f_X8_read (S : tg_S) (v1 : Int32) : Option (tg_S × Int32) :=
  tg_bd (f_X8_isSheet S v1) fun S1 r2 =>
  tg_if (r2 = 0)
    (some (S1, -2))
    (tg_rd S1 28 4 v1 fun y4 =>
      tg_if (y4 = 0)
        (tg_bd (f_X8_meets S1 1) fun S7 r8 =>
          some (S7, r8))
        (tg_nm (60 * v1 : Int32) fun y6 =>
          L_X8_read_32 tg_F S1 v1 0 y6))
-- X8_asTold
def f_X8_asTold_37 (rec37 : tg_S → Int32 → Option (tg_S)) (S : tg_S) (v1 : Int32) : Option (tg_S) :=
  tg_if (16 ≤ v1)
    (tg_pf S 0 16 (-1) fun S2 =>
      some S2)
    (tg_wr S 13 16 v1 (v1 - v1 / 8 * 8) fun S3 =>
      tg_nm (v1 + 1 : Int32) fun y4 =>
      rec37 S3 y4)
def L_X8_asTold_37 : Nat → tg_S → Int32 → Option (tg_S)
  | 0 => fun _ _ => none
  | n + 1 => f_X8_asTold_37  (L_X8_asTold_37  n)
def f_X8_asTold_6 (rec6 : tg_S → Int32 → Option (tg_S)) (S : tg_S) (v1 : Int32) : Option (tg_S) :=
  tg_if (48 ≤ v1)
    (tg_pf S 0 14 0 fun S2 =>
      L_X8_asTold_37 tg_F S2 0)
    (tg_rd S 8 48 v1 fun y3 =>
      tg_wr S 12 48 v1 y3 fun S4 =>
      tg_nm (v1 + 1 : Int32) fun y5 =>
      rec6 S4 y5)
def L_X8_asTold_6 : Nat → tg_S → Int32 → Option (tg_S)
  | 0 => fun _ _ => none
  | n + 1 => f_X8_asTold_6  (L_X8_asTold_6  n)
def f_X8_asTold (S : tg_S) : Option (tg_S) :=
  tg_bv (f_X8_reads S) fun S1 =>
  L_X8_asTold_6 tg_F S1 0
-- X8_isHere
def f_X8_isHere (S : tg_S) (v1 : Int32) : Option (tg_S × Int32) :=
  tg_bd (f_X8_isThereOne S v1) fun S1 r2 =>
  tg_if (r2 = 0)
    (some (S1, 0))
    (tg_if (v1 = (S1 0 16))
        (some (S1, 0))
        (some (S1, 1)))
-- X8_befalls
def f_X8_befalls_126 (rec12 : tg_S → Int32 → Int32 → Option (tg_S)) (S : tg_S) (v1 : Int32) (v2 : Int32) : Option (tg_S) :=
  tg_nm (v2 + 1 : Int32) fun y1 =>
  rec12 S v1 y1
def f_X8_befalls_123 (rec12 : tg_S → Int32 → Int32 → Option (tg_S)) (S : tg_S) (v1 : Int32) (v2 : Int32) (s0 : Int32) : Option (tg_S) :=
  tg_pf S 0 19 s0 fun S1 =>
  f_X8_befalls_126 rec12 S1 v1 v2
def f_X8_befalls_100 (rec12 : tg_S → Int32 → Int32 → Option (tg_S)) (S : tg_S) (v1 : Int32) (v2 : Int32) (s0 : Int32) (s1 : Int32) : Option (tg_S) :=
  tg_pf S 0 18 (s1 + s0) fun S1 =>
  tg_rd S1 9 8 v2 fun y2 =>
  f_X8_befalls_123 rec12 S1 v1 v2 (if y2 = 2 then 1 else (S1 0 19))
def f_X8_befalls_99 (rec12 : tg_S → Int32 → Int32 → Option (tg_S)) (S : tg_S) (v1 : Int32) (v2 : Int32) (s0 : Int32) : Option (tg_S) :=
  f_X8_befalls_100 rec12 S v1 v2 0 s0
def f_X8_befalls_67 (rec12 : tg_S → Int32 → Int32 → Option (tg_S)) (S : tg_S) (v1 : Int32) (v2 : Int32) (s0 : Int32) (s1 : Int32) : Option (tg_S) :=
  tg_pf S 0 20 (s1 ||| s0) fun S1 =>
  tg_rd S1 9 8 v2 fun y2 =>
  tg_if (y2 = 1)
    (tg_if (9 ≤ (S1 0 18))
        (f_X8_befalls_99 rec12 S1 v1 v2 (S1 0 18))
        (f_X8_befalls_100 rec12 S1 v1 v2 1 (S1 0 18)))
    (f_X8_befalls_99 rec12 S1 v1 v2 (S1 0 18))
def f_X8_befalls_12 (rec12 : tg_S → Int32 → Int32 → Option (tg_S)) (S : tg_S) (v1 : Int32) (v2 : Int32) : Option (tg_S) :=
  tg_if ((S 0 9) ≤ v2)
    (some S)
    (tg_rd S 10 8 v2 fun y2 =>
      tg_if (y2 = v1)
        (tg_bd (f_X8_isIn S (S 0 14) v2) fun S4 r5 =>
          tg_if (r5 = 0)
            (tg_rd S4 9 8 v2 fun y7 =>
              tg_if (y7 = 0)
                (tg_rd S4 11 8 v2 fun y9 =>
                  f_X8_befalls_67 rec12 S4 v1 v2 (1 <<< (y9 &&& 31)) (S4 0 20))
                (f_X8_befalls_67 rec12 S4 v1 v2 0 (S4 0 20)))
            (f_X8_befalls_126 rec12 S4 v1 v2))
        (f_X8_befalls_126 rec12 S v1 v2))
def L_X8_befalls_12 : Nat → tg_S → Int32 → Int32 → Option (tg_S)
  | 0 => fun _ _ _ => none
  | n + 1 => f_X8_befalls_12  (L_X8_befalls_12  n)
def f_X8_befalls (S : tg_S) (v1 : Int32) : Option (tg_S) :=
  tg_pf S 0 19 0 fun S1 =>
  tg_pf S1 0 20 0 fun S2 =>
  L_X8_befalls_12 tg_F S2 v1 0
-- X8_strength
def f_X8_strength_177 (S : tg_S) (v1 : Int32) (v3 : Int32) : Option (tg_S × Int32) :=
  tg_rd S 15 16 v1 fun y1 =>
  tg_if (y1 = 0)
    (some (S, 0))
    (tg_rd S 15 16 v1 fun y3 =>
      tg_wr S 15 16 v1 (y3 - 1) fun S4 =>
      tg_rd S4 5 17 v1 fun y5 =>
      tg_if (v3 = 0)
        (some (S4, y5 + 0))
        (some (S4, y5 + 2)))
def f_X8_strength_129 (S : tg_S) (v1 : Int32) (v2 : Int32) (v3 : Int32) (s0 : Int32) : Option (tg_S × Int32) :=
  tg_if (v2 = 2)
    (tg_rd S 15 16 v1 fun y2 =>
      tg_if (y2 < s0)
        (f_X8_strength_177 S v1 v3)
        (tg_rd S 15 16 v1 fun y4 =>
          tg_wr S 15 16 v1 (y4 - s0) fun S5 =>
          tg_rd S5 5 17 v1 fun y6 =>
          tg_if (v3 = 0)
            (some (S5, (2 * y6) + 0))
            (some (S5, (2 * y6) + 2))))
    (f_X8_strength_177 S v1 v3)
def f_X8_strength_99 (S : tg_S) (v1 : Int32) (v3 : Int32) (s0 : Int32) (s1 : Int32) : Option (tg_S × Int32) :=
  tg_wr S 15 16 s1 s0 fun S1 =>
  tg_if (v3 = 0)
    (some (S1, 0))
    (tg_rd S1 5 17 v1 fun y3 =>
      some (S1, y3))
def f_X8_strength_56 (S : tg_S) (v1 : Int32) (v3 : Int32) (s0 : Int32) : Option (tg_S × Int32) :=
  tg_rd S 15 16 v1 fun y1 =>
  tg_rd S 6 17 v1 fun y2 =>
  tg_if ((y1 + s0) ≤ y2)
    (tg_rd S 15 16 v1 fun y4 =>
      f_X8_strength_99 S v1 v3 (y4 + s0) v1)
    (tg_rd S 6 17 v1 fun y5 =>
      f_X8_strength_99 S v1 v3 y5 v1)
def f_X8_strength_28 (S : tg_S) (v1 : Int32) (v2 : Int32) (s0 : Int32) : Option (tg_S × Int32) :=
  tg_if (v2 = 0)
    (tg_if (s0 = 0)
        (tg_rd S 4 17 v1 fun y5 =>
          f_X8_strength_56 S v1 s0 (if y5 = 1 then 2 else 1))
        (f_X8_strength_56 S v1 s0 0))
    (tg_rd S 4 17 v1 fun y2 =>
      f_X8_strength_129 S v1 v2 s0 (if y2 = 0 then 1 else 2))
def f_X8_strength_27 (S : tg_S) (v1 : Int32) (v2 : Int32) : Option (tg_S × Int32) :=
  f_X8_strength_28 S v1 v2 0
def f_X8_strength (S : tg_S) (v1 : Int32) (v2 : Int32) : Option (tg_S × Int32) :=
  tg_rd S 4 17 v1 fun y1 =>
  tg_if (y1 = 2)
    (tg_rd S 14 2 (v1 / 8) fun y3 =>
      tg_if (y3 = v1)
        (f_X8_strength_28 S v1 v2 1)
        (f_X8_strength_27 S v1 v2))
    (f_X8_strength_27 S v1 v2)
-- X8_pullsOne
def f_X8_pullsOne_91 (S : tg_S) (v1 : Int32) (s0 : Int32) (s1 : Int32) : Option (tg_S) :=
  tg_wr S 17 16 s1 s0 fun S1 =>
  tg_rd S1 16 16 v1 fun y2 =>
  tg_rd S1 17 16 v1 fun y3 =>
  tg_wr S1 16 16 v1 (y2 + y3) fun S4 =>
  tg_rd S4 18 2 (v1 / 8) fun y5 =>
  tg_rd S4 17 16 v1 fun y6 =>
  tg_wr S4 18 2 (v1 / 8) (y5 + y6) fun S7 =>
  some S7
def f_X8_pullsOne_68 (S : tg_S) (v1 : Int32) (v4 : Int32) (s0 : Int32) : Option (tg_S) :=
  f_X8_pullsOne_91 S v1 (if v4 ≤ s0 then 0 else (v4 - s0)) v1
def f_X8_pullsOne_48 (S : tg_S) (v1 : Int32) (s0 : Int32) : Option (tg_S) :=
  tg_rd S 4 17 v1 fun y1 =>
  f_X8_pullsOne_68 S v1 s0 (if y1 = 2 then 0 else (S 0 18))
def f_X8_pullsOne_26 (S : tg_S) (v1 : Int32) (s0 : Int32) : Option (tg_S) :=
  tg_bd (f_X8_isIn S (S 0 20) v1) fun S1 r2 =>
  tg_if (r2 = 0)
    (tg_bd (f_X8_strength S1 v1 s0) fun S4 r5 =>
      f_X8_pullsOne_48 S4 v1 r5)
    (f_X8_pullsOne_48 S1 v1 0)
def f_X8_pullsOne (S : tg_S) (v1 : Int32) (v2 : Int32) : Option (tg_S) :=
  tg_if ((S 0 19) = 1)
    (f_X8_pullsOne_26 S v1 0)
    (tg_rd S 12 48 ((24 * (v1 / 8)) + v2) fun y2 =>
      f_X8_pullsOne_26 S v1 y2)
-- X8_goes
def f_X8_goes_102 (S : tg_S) (v1 : Int32) (s0 : Int32) : Option (tg_S) :=
  tg_pf S 0 22 s0 fun S1 =>
  tg_if ((S1 0 22) = (-1))
    (tg_pf S1 0 23 (-1) fun S4 =>
      some S4)
    (tg_pf S1 0 23 v1 fun S3 =>
      some S3)
def f_X8_goes_71 (S : tg_S) (v1 : Int32) (s0 : Int32) (s1 : Int32) : Option (tg_S) :=
  tg_pf S 0 21 (s1 + s0) fun S1 =>
  f_X8_goes_102 S1 v1 (if (S1 0 21) < 22 then (if 2 < (S1 0 21) then (-1) else 1) else 0)
def f_X8_goes_52 (S : tg_S) (v1 : Int32) (v2 : Int32) (v3 : Int32) (s0 : Int32) (s1 : Int32) : Option (tg_S) :=
  tg_pf S 0 24 (s1 + s0) fun S1 =>
  f_X8_goes_71 S1 v1 (if 0 ≤ v2 then v3 else (-v3)) (S1 0 21)
def f_X8_goes_37 (S : tg_S) (v1 : Int32) (v2 : Int32) (s0 : Int32) : Option (tg_S) :=
  f_X8_goes_52 S v1 v2 s0 (if v2 = 0 then 1 else 0) (S 0 24)
def f_X8_goes_24 (S : tg_S) (v1 : Int32) (v2 : Int32) (s0 : Int32) : Option (tg_S) :=
  tg_nm (s0 / 3 : Int32) fun y1 =>
  f_X8_goes_37 S v1 v2 (if y1 ≤ 3 then y1 else 3)
def f_X8_goes (S : tg_S) (v1 : Int32) : Option (tg_S) :=
  tg_rd S 18 2 0 fun y1 =>
  tg_rd S 18 2 1 fun y2 =>
  tg_nm (y1 - y2 : Int32) fun y3 =>
  f_X8_goes_24 S v1 y3 (if 0 ≤ y3 then y3 else (-y3))
-- X8_goesBy
def f_X8_goesBy_127 (rec127 : tg_S → Int32 → Int32 → Option (tg_S)) (S : tg_S) (v1 : Int32) (v2 : Int32) : Option (tg_S) :=
  tg_if (16 ≤ v2)
    (some S)
    (tg_rd S 17 16 v2 fun y2 =>
      tg_wr S 22 384 ((16 * v1) + v2) y2 fun S3 =>
      tg_rd S3 15 16 v2 fun y4 =>
      tg_wr S3 23 384 ((16 * v1) + v2) y4 fun S5 =>
      tg_nm (v2 + 1 : Int32) fun y6 =>
      rec127 S5 v1 y6)
def L_X8_goesBy_127 : Nat → tg_S → Int32 → Int32 → Option (tg_S)
  | 0 => fun _ _ _ => none
  | n + 1 => f_X8_goesBy_127  (L_X8_goesBy_127  n)
def f_X8_goesBy_75 (S : tg_S) (v1 : Int32) : Option (tg_S) :=
  tg_wr S 19 24 v1 (S 0 21) fun S1 =>
  tg_wr S1 20 24 v1 (S1 0 18) fun S2 =>
  tg_rd S2 18 2 0 fun y3 =>
  tg_wr S2 21 48 (2 * v1) y3 fun S4 =>
  tg_rd S4 18 2 1 fun y5 =>
  tg_wr S4 21 48 ((2 * v1) + 1) y5 fun S6 =>
  L_X8_goesBy_127 tg_F S6 v1 0
def f_X8_goesBy_56 (rec21 : tg_S → Int32 → Int32 → Option (tg_S)) (S : tg_S) (v1 : Int32) (v2 : Int32) : Option (tg_S) :=
  tg_nm (v2 + 1 : Int32) fun y1 =>
  rec21 S v1 y1
def f_X8_goesBy_21 (rec21 : tg_S → Int32 → Int32 → Option (tg_S)) (S : tg_S) (v1 : Int32) (v2 : Int32) : Option (tg_S) :=
  tg_if (16 ≤ v2)
    (tg_if ((S 0 22) = (-1))
        (tg_bv (f_X8_goes S v1) fun S3 =>
          f_X8_goesBy_75 S3 v1)
        (f_X8_goesBy_75 S v1))
    (tg_wr S 17 16 v2 0 fun S4 =>
      tg_bd (f_X8_isHere S4 v2) fun S5 r6 =>
      tg_if (r6 = 0)
        (f_X8_goesBy_56 rec21 S5 v1 v2)
        (tg_if ((S5 0 22) = (-1))
            (tg_bv (f_X8_pullsOne S5 v2 v1) fun S9 =>
              f_X8_goesBy_56 rec21 S9 v1 v2)
            (f_X8_goesBy_56 rec21 S5 v1 v2)))
def L_X8_goesBy_21 : Nat → tg_S → Int32 → Int32 → Option (tg_S)
  | 0 => fun _ _ _ => none
  | n + 1 => f_X8_goesBy_21  (L_X8_goesBy_21  n)
def f_X8_goesBy (S : tg_S) (v1 : Int32) : Option (tg_S) :=
  tg_bv (f_X8_befalls S v1) fun S1 =>
  tg_wr S1 18 2 0 0 fun S2 =>
  tg_wr S2 18 2 1 0 fun S3 =>
  L_X8_goesBy_21 tg_F S3 v1 0
-- X8_runs
def f_X8_runs_159 (rec159 : tg_S → Int32 → Option (tg_S)) (S : tg_S) (v1 : Int32) : Option (tg_S) :=
  tg_if (24 ≤ v1)
    (some S)
    (tg_bv (f_X8_goesBy S v1) fun S2 =>
      tg_nm (v1 + 1 : Int32) fun y3 =>
      rec159 S2 y3)
def L_X8_runs_159 : Nat → tg_S → Int32 → Option (tg_S)
  | 0 => fun _ _ => none
  | n + 1 => f_X8_runs_159  (L_X8_runs_159  n)
def f_X8_runs_150 (rec45 : tg_S → Int32 → Option (tg_S)) (S : tg_S) (v1 : Int32) (s0 : Int32) (s1 : Int32) : Option (tg_S) :=
  tg_wr S 14 2 s1 s0 fun S1 =>
  tg_nm (v1 + 1 : Int32) fun y2 =>
  rec45 S1 y2
def f_X8_runs_130 (rec45 : tg_S → Int32 → Option (tg_S)) (S : tg_S) (v1 : Int32) (v2 : Int32) (s0 : Int32) : Option (tg_S) :=
  tg_if (s0 = 0)
    (tg_rd S 14 2 v2 fun y2 =>
      f_X8_runs_150 rec45 S v1 y2 v2)
    (f_X8_runs_150 rec45 S v1 v1 v2)
def f_X8_runs_129 (rec45 : tg_S → Int32 → Option (tg_S)) (S : tg_S) (v1 : Int32) (v2 : Int32) : Option (tg_S) :=
  f_X8_runs_130 rec45 S v1 v2 0
def f_X8_runs_125 (rec45 : tg_S → Int32 → Option (tg_S)) (S : tg_S) (v1 : Int32) (v2 : Int32) : Option (tg_S) :=
  f_X8_runs_130 rec45 S v1 v2 1
def f_X8_runs_79 (rec45 : tg_S → Int32 → Option (tg_S)) (S : tg_S) (v1 : Int32) (v2 : Int32) (s0 : Int32) (s1 : Int32) : Option (tg_S) :=
  tg_wr S 15 16 s1 s0 fun S1 =>
  tg_wr S1 16 16 v1 0 fun S2 =>
  tg_bd (f_X8_isHere S2 v1) fun S3 r4 =>
  tg_if (r4 = 0)
    (f_X8_runs_129 rec45 S3 v1 v2)
    (tg_rd S3 14 2 v2 fun y6 =>
      tg_if (y6 = (-1))
        (f_X8_runs_125 rec45 S3 v1 v2)
        (tg_rd S3 13 16 v1 fun y8 =>
          tg_rd S3 14 2 v2 fun y9 =>
          tg_rd S3 13 16 y9 fun y10 =>
          tg_if (y8 ≤ y10)
            (f_X8_runs_129 rec45 S3 v1 v2)
            (f_X8_runs_125 rec45 S3 v1 v2)))
def f_X8_runs_45 (rec45 : tg_S → Int32 → Option (tg_S)) (S : tg_S) (v1 : Int32) : Option (tg_S) :=
  tg_if (16 ≤ v1)
    (L_X8_runs_159 tg_F S 0)
    (tg_nm (v1 / 8 : Int32) fun y2 =>
      tg_bd (f_X8_isThereOne S v1) fun S3 r4 =>
      tg_if (r4 = 0)
        (f_X8_runs_79 rec45 S3 v1 y2 0 v1)
        (tg_rd S3 6 17 v1 fun y6 =>
          f_X8_runs_79 rec45 S3 v1 y2 y6 v1))
def L_X8_runs_45 : Nat → tg_S → Int32 → Option (tg_S)
  | 0 => fun _ _ => none
  | n + 1 => f_X8_runs_45  (L_X8_runs_45  n)
def f_X8_runs (S : tg_S) : Option (tg_S) :=
  tg_pf S 0 18 (S 0 8) fun S1 =>
  tg_pf S1 0 21 12 fun S2 =>
  tg_pf S2 0 22 (-1) fun S3 =>
  tg_pf S3 0 23 (-1) fun S4 =>
  tg_pf S4 0 24 0 fun S5 =>
  tg_wr S5 14 2 0 (-1) fun S6 =>
  tg_wr S6 14 2 1 (-1) fun S7 =>
  L_X8_runs_45 tg_F S7 0
-- X8_runsTold
def f_X8_runsTold (S : tg_S) : Option (tg_S) :=
  tg_bv (f_X8_asTold S) fun S1 =>
  tg_bv (f_X8_runs S1) fun S2 =>
  some S2
-- X8_ropeOf
def f_X8_ropeOf (S : tg_S) (v1 : Int32) (v2 : Int32) : Option (tg_S × Int32) :=
  tg_bv (f_X8_runsTold S) fun S1 =>
  tg_if (v2 = 0)
    (tg_rd S1 19 24 v1 fun y6 =>
      some (S1, y6))
    (tg_if (v2 = 3)
        (tg_rd S1 20 24 v1 fun y5 =>
          some (S1, y5))
        (tg_rd S1 21 48 (((2 * v1) + v2) - 1) fun y4 =>
          some (S1, y4)))
-- X8_rope
def f_X8_rope (S : tg_S) (v1 : Int32) (v2 : Int32) : Option (tg_S × Int32) :=
  tg_bd (f_X8_isBeat S v1) fun S1 r2 =>
  tg_if (r2 = 0)
    (some (S1, -2))
    (tg_bd (f_X8_in S1 v2 0 3) fun S4 r5 =>
      tg_if (r5 = 0)
        (some (S4, -2))
        (tg_bd (f_X8_ropeOf S4 v1 v2) fun S7 r8 =>
          some (S7, r8)))
-- X8_atOf
def f_X8_atOf (S : tg_S) (v1 : Int32) (v2 : Int32) (v3 : Int32) : Option (tg_S × Int32) :=
  tg_bv (f_X8_runsTold S) fun S1 =>
  tg_if (v3 = 0)
    (tg_rd S1 22 384 ((16 * v1) + v2) fun y4 =>
      some (S1, y4))
    (tg_rd S1 23 384 ((16 * v1) + v2) fun y3 =>
      some (S1, y3))
-- X8_at
def f_X8_at (S : tg_S) (v1 : Int32) (v2 : Int32) (v3 : Int32) : Option (tg_S × Int32) :=
  tg_bd (f_X8_isBeat S v1) fun S1 r2 =>
  tg_if (r2 = 0)
    (some (S1, -2))
    (tg_bd (f_X8_isPuller S1 v2) fun S4 r5 =>
      tg_if (r5 = 0)
        (some (S4, -2))
        (tg_bd (f_X8_isTwo S4 v3) fun S7 r8 =>
          tg_if (r8 = 0)
            (some (S7, -2))
            (tg_bd (f_X8_atOf S7 v1 v2 v3) fun S10 r11 =>
              some (S10, r11))))
-- X8_wonOf
def f_X8_wonOf (S : tg_S) (v1 : Int32) : Option (tg_S × Int32) :=
  tg_bv (f_X8_runsTold S) fun S1 =>
  tg_if (v1 = 0)
    (some (S1, S1 0 22))
    (some (S1, S1 0 23))
-- X8_won
def f_X8_won (S : tg_S) (v1 : Int32) : Option (tg_S × Int32) :=
  tg_bd (f_X8_isTwo S v1) fun S1 r2 =>
  tg_if (r2 = 0)
    (some (S1, -2))
    (tg_bd (f_X8_wonOf S1 v1) fun S4 r5 =>
      some (S4, r5))
-- X8_furthestOf
def f_X8_furthestOf_69 (rec9 : tg_S → Int32 → Int32 → Int32 → Option (tg_S × Int32)) (S : tg_S) (v1 : Int32) (v3 : Int32) (s0 : Int32) : Option (tg_S × Int32) :=
  tg_nm (v3 + 1 : Int32) fun y1 =>
  rec9 S v1 s0 y1
def f_X8_furthestOf_52 (rec9 : tg_S → Int32 → Int32 → Int32 → Option (tg_S × Int32)) (S : tg_S) (v1 : Int32) (v2 : Int32) (v3 : Int32) (s0 : Int32) : Option (tg_S × Int32) :=
  tg_if (s0 = 0)
    (f_X8_furthestOf_69 rec9 S v1 v3 v2)
    (tg_rd S 19 24 v3 fun y2 =>
      f_X8_furthestOf_69 rec9 S v1 v3 y2)
def f_X8_furthestOf_9 (rec9 : tg_S → Int32 → Int32 → Int32 → Option (tg_S × Int32)) (S : tg_S) (v1 : Int32) (v2 : Int32) (v3 : Int32) : Option (tg_S × Int32) :=
  tg_if (24 ≤ v3)
    (some (S, v2))
    (tg_if (v1 = 0)
        (tg_rd S 19 24 v3 fun y5 =>
          f_X8_furthestOf_52 rec9 S v1 v2 v3 (if y5 ≤ v2 then 0 else 1))
        (tg_rd S 19 24 v3 fun y3 =>
          f_X8_furthestOf_52 rec9 S v1 v2 v3 (if v2 ≤ y3 then 0 else 1)))
def L_X8_furthestOf_9 : Nat → tg_S → Int32 → Int32 → Int32 → Option (tg_S × Int32)
  | 0 => fun _ _ _ _ => none
  | n + 1 => f_X8_furthestOf_9  (L_X8_furthestOf_9  n)
def f_X8_furthestOf (S : tg_S) (v1 : Int32) : Option (tg_S × Int32) :=
  tg_bv (f_X8_runsTold S) fun S1 =>
  L_X8_furthestOf_9 tg_F S1 v1 12 0
-- X8_furthest
def f_X8_furthest (S : tg_S) (v1 : Int32) : Option (tg_S × Int32) :=
  tg_bd (f_X8_isTwo S v1) fun S1 r2 =>
  tg_if (r2 = 0)
    (some (S1, -2))
    (tg_bd (f_X8_furthestOf S1 v1) fun S4 r5 =>
      some (S4, r5))
-- X8_doneOf
def f_X8_doneOf (S : tg_S) (v1 : Int32) : Option (tg_S × Int32) :=
  tg_bv (f_X8_runsTold S) fun S1 =>
  tg_rd S1 16 16 v1 fun y2 =>
  some (S1, y2)
-- X8_done
def f_X8_done (S : tg_S) (v1 : Int32) : Option (tg_S × Int32) :=
  tg_bd (f_X8_isPuller S v1) fun S1 r2 =>
  tg_if (r2 = 0)
    (some (S1, -2))
    (tg_bd (f_X8_doneOf S1 v1) fun S4 r5 =>
      some (S4, r5))
-- X8_spentOf
def f_X8_spentOf_39 (rec8 : tg_S → Int32 → Int32 → Option (tg_S × Int32)) (S : tg_S) (v2 : Int32) (s0 : Int32) (s1 : Int32) : Option (tg_S × Int32) :=
  tg_nm (s1 ||| s0 : Int32) fun y1 =>
  tg_nm (v2 + 1 : Int32) fun y2 =>
  rec8 S y1 y2
def f_X8_spentOf_38 (rec8 : tg_S → Int32 → Int32 → Option (tg_S × Int32)) (S : tg_S) (v2 : Int32) (s0 : Int32) : Option (tg_S × Int32) :=
  f_X8_spentOf_39 rec8 S v2 0 s0
def f_X8_spentOf_8 (rec8 : tg_S → Int32 → Int32 → Option (tg_S × Int32)) (S : tg_S) (v1 : Int32) (v2 : Int32) : Option (tg_S × Int32) :=
  tg_if (16 ≤ v2)
    (some (S, v1))
    (tg_bd (f_X8_isThereOne S v2) fun S2 r3 =>
      tg_if (r3 = 0)
        (f_X8_spentOf_38 rec8 S2 v2 v1)
        (tg_rd S2 15 16 v2 fun y5 =>
          tg_if (y5 = 0)
            (f_X8_spentOf_39 rec8 S2 v2 (1 <<< (v2 &&& 31)) v1)
            (f_X8_spentOf_38 rec8 S2 v2 v1)))
def L_X8_spentOf_8 : Nat → tg_S → Int32 → Int32 → Option (tg_S × Int32)
  | 0 => fun _ _ _ => none
  | n + 1 => f_X8_spentOf_8  (L_X8_spentOf_8  n)
def f_X8_spentOf (S : tg_S) : Option (tg_S × Int32) :=
  tg_bv (f_X8_runsTold S) fun S1 =>
  L_X8_spentOf_8 tg_F S1 0 0
-- X8_spent
def f_X8_spent (S : tg_S) : Option (tg_S × Int32) :=
  tg_bd (f_X8_spentOf S) fun S1 r2 =>
  some (S1, r2)
-- X8_bestOf
def f_X8_bestOf_52 (rec10 : tg_S → Int32 → Int32 → Int32 → Option (tg_S × Int32)) (S : tg_S) (v1 : Int32) (v3 : Int32) (s0 : Int32) : Option (tg_S × Int32) :=
  tg_nm (v3 + 1 : Int32) fun y1 =>
  rec10 S v1 s0 y1
def f_X8_bestOf_31 (rec10 : tg_S → Int32 → Int32 → Int32 → Option (tg_S × Int32)) (S : tg_S) (v2 : Int32) (v3 : Int32) (s0 : Int32) : Option (tg_S × Int32) :=
  tg_rd S 16 16 v3 fun y1 =>
  tg_if (y1 ≤ v2)
    (f_X8_bestOf_52 rec10 S s0 v3 v2)
    (tg_rd S 16 16 v3 fun y3 =>
      f_X8_bestOf_52 rec10 S s0 v3 y3)
def f_X8_bestOf_10 (rec10 : tg_S → Int32 → Int32 → Int32 → Option (tg_S × Int32)) (S : tg_S) (v1 : Int32) (v2 : Int32) (v3 : Int32) : Option (tg_S × Int32) :=
  tg_if (16 ≤ v3)
    (some (S, v1))
    (tg_rd S 16 16 v3 fun y2 =>
      f_X8_bestOf_31 rec10 S v2 v3 (if y2 ≤ v2 then v1 else v3))
def L_X8_bestOf_10 : Nat → tg_S → Int32 → Int32 → Int32 → Option (tg_S × Int32)
  | 0 => fun _ _ _ _ => none
  | n + 1 => f_X8_bestOf_10  (L_X8_bestOf_10  n)
def f_X8_bestOf (S : tg_S) : Option (tg_S × Int32) :=
  tg_bv (f_X8_runsTold S) fun S1 =>
  tg_nm (-1 : Int32) fun y2 =>
  L_X8_bestOf_10 tg_F S1 y2 0 0
-- X8_best
def f_X8_best (S : tg_S) : Option (tg_S × Int32) :=
  tg_bd (f_X8_bestOf S) fun S1 r2 =>
  some (S1, r2)
-- X8_levelOf
def f_X8_levelOf (S : tg_S) : Option (tg_S × Int32) :=
  tg_bv (f_X8_runsTold S) fun S1 =>
  some (S1, S1 0 24)
-- X8_level
def f_X8_level (S : tg_S) : Option (tg_S × Int32) :=
  tg_bd (f_X8_levelOf S) fun S1 r2 =>
  some (S1, r2)
-- X8_starts
def f_X8_starts (S : tg_S) : Option (tg_S) :=
  tg_bv (f_X8_asTold S) fun S1 =>
  tg_pf S1 0 34 (-1) fun S2 =>
  tg_pf S2 0 35 (-1) fun S3 =>
  some S3
-- X8_tries
def f_X8_tries_60 (S : tg_S) (v3 : Int32) (s0 : Int32) : Option (tg_S) :=
  tg_pf S 0 34 s0 fun S1 =>
  tg_if (v3 = 0)
    (tg_pf S1 0 35 (S1 0 35) fun S3 =>
      some S3)
    (tg_pf S1 0 35 (S1 0 21) fun S4 =>
      some S4)
def f_X8_tries_46 (S : tg_S) (v1 : Int32) (s0 : Int32) : Option (tg_S) :=
  f_X8_tries_60 S s0 (if s0 = 0 then (S 0 34) else v1)
def f_X8_tries_45 (S : tg_S) (v1 : Int32) : Option (tg_S) :=
  f_X8_tries_46 S v1 0
def f_X8_tries_41 (S : tg_S) (v1 : Int32) : Option (tg_S) :=
  f_X8_tries_46 S v1 1
def f_X8_tries (S : tg_S) (v1 : Int32) (v2 : Int32) : Option (tg_S) :=
  tg_bv (f_X8_runs S) fun S1 =>
  tg_if ((S1 0 34) = (-1))
    (f_X8_tries_41 S1 v1)
    (tg_if (v2 = 0)
        (tg_if ((S1 0 21) ≤ (S1 0 35))
            (f_X8_tries_45 S1 v1)
            (f_X8_tries_41 S1 v1))
        (tg_if ((S1 0 35) ≤ (S1 0 21))
            (f_X8_tries_45 S1 v1)
            (f_X8_tries_41 S1 v1)))
-- X8_betterOf
def f_X8_betterOf_7 (rec7 : tg_S → Int32 → Int32 → Int32 → Int32 → Option (tg_S × Int32)) (S : tg_S) (v1 : Int32) (v2 : Int32) (v3 : Int32) (v4 : Int32) : Option (tg_S × Int32) :=
  tg_if (3 ≤ v4)
    (tg_if (v3 = 0)
        (some (S, S 0 34))
        (some (S, S 0 35)))
    (tg_wr S 12 48 ((24 * v1) + v2) v4 fun S3 =>
      tg_bv (f_X8_tries S3 v4 v1) fun S4 =>
      tg_nm (v4 + 1 : Int32) fun y5 =>
      rec7 S4 v1 v2 v3 y5)
def L_X8_betterOf_7 : Nat → tg_S → Int32 → Int32 → Int32 → Int32 → Option (tg_S × Int32)
  | 0 => fun _ _ _ _ _ => none
  | n + 1 => f_X8_betterOf_7  (L_X8_betterOf_7  n)
def f_X8_betterOf (S : tg_S) (v1 : Int32) (v2 : Int32) (v3 : Int32) : Option (tg_S × Int32) :=
  tg_bv (f_X8_starts S) fun S1 =>
  L_X8_betterOf_7 tg_F S1 v1 v2 v3 0
-- X8_better
def f_X8_better (S : tg_S) (v1 : Int32) (v2 : Int32) (v3 : Int32) : Option (tg_S × Int32) :=
  tg_bd (f_X8_isTwo S v1) fun S1 r2 =>
  tg_if (r2 = 0)
    (some (S1, -2))
    (tg_bd (f_X8_isBeat S1 v2) fun S4 r5 =>
      tg_if (r5 = 0)
        (some (S4, -2))
        (tg_bd (f_X8_isTwo S4 v3) fun S7 r8 =>
          tg_if (r8 = 0)
            (some (S7, -2))
            (tg_bd (f_X8_betterOf S7 v1 v2 v3) fun S10 r11 =>
              some (S10, r11))))
-- X8_swapOf
def f_X8_swapOf_31 (rec12 : tg_S → Int32 → Int32 → Int32 → Int32 → Option (tg_S × Int32)) (rec31 : tg_S → Int32 → Int32 → Int32 → Int32 → Int32 → Option (tg_S × Int32)) (S : tg_S) (v1 : Int32) (v2 : Int32) (v3 : Int32) (v4 : Int32) (v5 : Int32) : Option (tg_S × Int32) :=
  tg_rd S 3 2 v1 fun y1 =>
  tg_if ((v3 + y1) ≤ v5)
    (tg_nm (v4 + 1 : Int32) fun y3 =>
      rec12 S v1 v2 v3 y3)
    (tg_wr S 13 16 v4 (v5 - v5 / 8 * 8) fun S4 =>
      tg_wr S4 13 16 v5 (v4 - v4 / 8 * 8) fun S5 =>
      tg_bv (f_X8_tries S5 ((16 * v4) + v5) v1) fun S6 =>
      tg_wr S6 13 16 v4 (v4 - v4 / 8 * 8) fun S7 =>
      tg_wr S7 13 16 v5 (v5 - v5 / 8 * 8) fun S8 =>
      tg_nm (v5 + 1 : Int32) fun y9 =>
      rec31 S8 v1 v2 v3 v4 y9)
def L_X8_swapOf_31 (rec12 : tg_S → Int32 → Int32 → Int32 → Int32 → Option (tg_S × Int32)) : Nat → tg_S → Int32 → Int32 → Int32 → Int32 → Int32 → Option (tg_S × Int32)
  | 0 => fun _ _ _ _ _ _ => none
  | n + 1 => f_X8_swapOf_31 rec12 (L_X8_swapOf_31 rec12 n)
def f_X8_swapOf_12 (rec12 : tg_S → Int32 → Int32 → Int32 → Int32 → Option (tg_S × Int32)) (S : tg_S) (v1 : Int32) (v2 : Int32) (v3 : Int32) (v4 : Int32) : Option (tg_S × Int32) :=
  tg_rd S 3 2 v1 fun y1 =>
  tg_if ((v3 + y1) ≤ v4)
    (tg_if ((S 0 34) = (-1))
        (some (S, -1))
        (tg_if (v2 = 0)
            (some (S, (S 0 34) / 16))
            (tg_if (v2 = 1)
                (some (S, (S 0 34) - (S 0 34) / 16 * 16))
                (some (S, S 0 35)))))
    (tg_nm (v4 + 1 : Int32) fun y6 =>
      L_X8_swapOf_31 rec12 tg_F S v1 v2 v3 v4 y6)
def L_X8_swapOf_12 : Nat → tg_S → Int32 → Int32 → Int32 → Int32 → Option (tg_S × Int32)
  | 0 => fun _ _ _ _ _ => none
  | n + 1 => f_X8_swapOf_12  (L_X8_swapOf_12  n)
def f_X8_swapOf (S : tg_S) (v1 : Int32) (v2 : Int32) : Option (tg_S × Int32) :=
  tg_bv (f_X8_starts S) fun S1 =>
  tg_nm (8 * v1 : Int32) fun y2 =>
  L_X8_swapOf_12 tg_F S1 v1 v2 y2 y2
-- X8_swap
def f_X8_swap (S : tg_S) (v1 : Int32) (v2 : Int32) : Option (tg_S × Int32) :=
  tg_bd (f_X8_isTwo S v1) fun S1 r2 =>
  tg_if (r2 = 0)
    (some (S1, -2))
    (tg_bd (f_X8_isThree S1 v2) fun S4 r5 =>
      tg_if (r5 = 0)
        (some (S4, -2))
        (tg_bd (f_X8_swapOf S4 v1 v2) fun S7 r8 =>
          some (S7, r8)))
-- X8_outOf
def f_X8_outOf_9 (rec9 : tg_S → Int32 → Int32 → Int32 → Option (tg_S × Int32)) (S : tg_S) (v1 : Int32) (v2 : Int32) (v3 : Int32) : Option (tg_S × Int32) :=
  tg_rd S 3 2 v1 fun y1 =>
  tg_if (((8 * v1) + y1) ≤ v3)
    (tg_if (v2 = 0)
        (some (S, S 0 34))
        (some (S, S 0 35)))
    (tg_pf S 0 16 v3 fun S4 =>
      tg_bv (f_X8_tries S4 v3 v1) fun S5 =>
      tg_nm (v3 + 1 : Int32) fun y6 =>
      rec9 S5 v1 v2 y6)
def L_X8_outOf_9 : Nat → tg_S → Int32 → Int32 → Int32 → Option (tg_S × Int32)
  | 0 => fun _ _ _ _ => none
  | n + 1 => f_X8_outOf_9  (L_X8_outOf_9  n)
def f_X8_outOf (S : tg_S) (v1 : Int32) (v2 : Int32) : Option (tg_S × Int32) :=
  tg_bv (f_X8_starts S) fun S1 =>
  tg_nm (8 * v1 : Int32) fun y2 =>
  L_X8_outOf_9 tg_F S1 v1 v2 y2
-- X8_out
def f_X8_out (S : tg_S) (v1 : Int32) (v2 : Int32) : Option (tg_S × Int32) :=
  tg_bd (f_X8_isTwo S v1) fun S1 r2 =>
  tg_if (r2 = 0)
    (some (S1, -2))
    (tg_bd (f_X8_isTwo S1 v2) fun S4 r5 =>
      tg_if (r5 = 0)
        (some (S4, -2))
        (tg_bd (f_X8_outOf S4 v1 v2) fun S7 r8 =>
          some (S7, r8)))
-- X8_isSpared
def f_X8_isSpared (S : tg_S) (v1 : Int32) : Option (tg_S × Int32) :=
  tg_pf S 0 14 v1 fun S1 =>
  tg_bv (f_X8_runs S1) fun S2 =>
  tg_if ((S2 0 22) = 1)
    (some (S2, 0))
    (some (S2, 1))
-- X8_spareBy
def f_X8_spareBy_63 (rec51 : tg_S → Int32 → Option (tg_S × Int32)) (rec63 : tg_S → Int32 → Int32 → Option (tg_S × Int32)) (S : tg_S) (v1 : Int32) (v2 : Int32) : Option (tg_S × Int32) :=
  tg_if ((S 0 9) ≤ v2)
    (tg_nm (v1 + 1 : Int32) fun y2 =>
      rec51 S y2)
    (tg_wr S 24 2 0 v1 fun S3 =>
      tg_wr S3 24 2 1 v2 fun S4 =>
      tg_bd (f_X8_isSpared S4 ((1 <<< (v1 &&& 31)) ||| (1 <<< (v2 &&& 31)))) fun S5 r6 =>
      tg_if (r6 = 0)
        (tg_nm (v2 + 1 : Int32) fun y8 =>
          rec63 S5 v1 y8)
        (some (S5, 2)))
def L_X8_spareBy_63 (rec51 : tg_S → Int32 → Option (tg_S × Int32)) : Nat → tg_S → Int32 → Int32 → Option (tg_S × Int32)
  | 0 => fun _ _ _ => none
  | n + 1 => f_X8_spareBy_63 rec51 (L_X8_spareBy_63 rec51 n)
def f_X8_spareBy_51 (rec51 : tg_S → Int32 → Option (tg_S × Int32)) (S : tg_S) (v1 : Int32) : Option (tg_S × Int32) :=
  tg_if ((S 0 9) ≤ v1)
    (some (S, -1))
    (tg_nm (v1 + 1 : Int32) fun y2 =>
      L_X8_spareBy_63 rec51 tg_F S v1 y2)
def L_X8_spareBy_51 : Nat → tg_S → Int32 → Option (tg_S × Int32)
  | 0 => fun _ _ => none
  | n + 1 => f_X8_spareBy_51  (L_X8_spareBy_51  n)
def f_X8_spareBy_16 (rec16 : tg_S → Int32 → Option (tg_S × Int32)) (S : tg_S) (v1 : Int32) : Option (tg_S × Int32) :=
  tg_if ((S 0 9) ≤ v1)
    (L_X8_spareBy_51 tg_F S 0)
    (tg_wr S 24 2 0 v1 fun S2 =>
      tg_bd (f_X8_isSpared S2 (1 <<< (v1 &&& 31))) fun S3 r4 =>
      tg_if (r4 = 0)
        (tg_nm (v1 + 1 : Int32) fun y6 =>
          rec16 S3 y6)
        (some (S3, 1)))
def L_X8_spareBy_16 : Nat → tg_S → Int32 → Option (tg_S × Int32)
  | 0 => fun _ _ => none
  | n + 1 => f_X8_spareBy_16  (L_X8_spareBy_16  n)
def f_X8_spareBy (S : tg_S) : Option (tg_S × Int32) :=
  tg_bv (f_X8_asTold S) fun S1 =>
  tg_bd (f_X8_isSpared S1 0) fun S2 r3 =>
  tg_if (r3 = 0)
    (L_X8_spareBy_16 tg_F S2 0)
    (some (S2, 0))
-- X8_ofRow
def f_X8_ofRow (S : tg_S) (v1 : Int32) (v2 : Int32) : Option (tg_S × Int32) :=
  tg_if (v2 = (-1))
    (some (S, v1))
    (tg_if (v1 ≤ v2)
        (some (S, -1))
        (tg_rd S 24 2 v2 fun y3 =>
          some (S, y3)))
-- X8_spare
def f_X8_spare (S : tg_S) (v1 : Int32) : Option (tg_S × Int32) :=
  tg_bd (f_X8_in S v1 (-1) 1) fun S1 r2 =>
  tg_if (r2 = 0)
    (some (S1, -2))
    (tg_bd (f_X8_spareBy S1) fun S4 r5 =>
      tg_bd (f_X8_ofRow S4 r5 v1) fun S6 r7 =>
      some (S6, r7))
-- X8_seen
def f_X8_seen (S : tg_S) (v1 : Int32) (v2 : Int32) : Option (tg_S × Int32) :=
  tg_bd (f_X8_isBeat S v1) fun S1 r2 =>
  tg_if (r2 = 0)
    (some (S1, -2))
    (tg_bd (f_X8_in S1 v2 0 24) fun S4 r5 =>
      tg_if (r5 = 0)
        (some (S4, -2))
        (tg_if ((S4 0 37) = 8)
            (some (S4, -4))
            (tg_wr S4 25 8 (S4 0 37) v1 fun S8 =>
              tg_wr S8 26 8 (S8 0 37) v2 fun S9 =>
              tg_pf S9 0 37 ((S9 0 37) + 1) fun S10 =>
              some (S10, S10 0 37))))
-- X8_forget
def f_X8_forget (S : tg_S) : Option (tg_S × Int32) :=
  tg_nm (S 0 37 : Int32) fun y1 =>
  tg_pf S 0 37 0 fun S2 =>
  some (S2, y1)
-- X8_isSeen
def f_X8_isSeen_45 (rec8 : tg_S → Int32 → Int32 → Option (tg_S × Int32)) (S : tg_S) (v2 : Int32) (s0 : Int32) : Option (tg_S × Int32) :=
  tg_nm (v2 + 1 : Int32) fun y1 =>
  rec8 S s0 y1
def f_X8_isSeen_8 (rec8 : tg_S → Int32 → Int32 → Option (tg_S × Int32)) (S : tg_S) (v1 : Int32) (v2 : Int32) : Option (tg_S × Int32) :=
  tg_if ((S 0 37) ≤ v2)
    (tg_bz v1 (some (S, v1)))
    (tg_if (v1 = 0)
        (tg_bz v1 (some (S, v1)))
        (tg_rd S 25 8 v2 fun y3 =>
          tg_rd S 19 24 y3 fun y4 =>
          tg_rd S 26 8 v2 fun y5 =>
          f_X8_isSeen_45 rec8 S v2 (if y4 = y5 then 1 else 0)))
def L_X8_isSeen_8 : Nat → tg_S → Int32 → Int32 → Option (tg_S × Int32)
  | 0 => fun _ _ _ => none
  | n + 1 => f_X8_isSeen_8  (L_X8_isSeen_8  n)
def f_X8_isSeen (S : tg_S) : Option (tg_S × Int32) :=
  tg_bv (f_X8_runs S) fun S1 =>
  L_X8_isSeen_8 tg_F S1 1 0
-- X8_neverNow
def f_X8_neverNow_38 (rec8 : tg_S → Int32 → Int32 → Option (tg_S × Int32)) (S : tg_S) (v2 : Int32) (s0 : Int32) (s1 : Int32) : Option (tg_S × Int32) :=
  tg_nm (s1 ||| s0 : Int32) fun y1 =>
  tg_nm (v2 + 1 : Int32) fun y2 =>
  rec8 S y1 y2
def f_X8_neverNow_8 (rec8 : tg_S → Int32 → Int32 → Option (tg_S × Int32)) (S : tg_S) (v1 : Int32) (v2 : Int32) : Option (tg_S × Int32) :=
  tg_if ((S 0 9) ≤ v2)
    (some (S, v1))
    (tg_pf S 0 14 (1 <<< (v2 &&& 31)) fun S2 =>
      tg_bd (f_X8_isSeen S2) fun S3 r4 =>
      f_X8_neverNow_38 rec8 S3 v2 (if r4 = 0 then 0 else (1 <<< (v2 &&& 31))) v1)
def L_X8_neverNow_8 : Nat → tg_S → Int32 → Int32 → Option (tg_S × Int32)
  | 0 => fun _ _ _ => none
  | n + 1 => f_X8_neverNow_8  (L_X8_neverNow_8  n)
def f_X8_neverNow (S : tg_S) : Option (tg_S × Int32) :=
  tg_bv (f_X8_asTold S) fun S1 =>
  L_X8_neverNow_8 tg_F S1 0 0
-- X8_never
def f_X8_never (S : tg_S) : Option (tg_S × Int32) :=
  tg_bd (f_X8_neverNow S) fun S1 r2 =>
  some (S1, r2)
-- X8_weightsBy
def f_X8_weightsBy_52 (rec16 : tg_S → Int32 → Int32 → Int32 → Int32 → Option (tg_S × Int32)) (rec52 : tg_S → Int32 → Int32 → Int32 → Int32 → Int32 → Option (tg_S × Int32)) (S : tg_S) (v1 : Int32) (v2 : Int32) (v3 : Int32) (v4 : Int32) (v5 : Int32) : Option (tg_S × Int32) :=
  tg_if (24 ≤ v5)
    (tg_nm (v4 + 1 : Int32) fun y2 =>
      rec16 S v1 v2 v3 y2)
    (tg_rd S 19 24 v5 fun y3 =>
      tg_wr S 27 240 ((24 * v4) + v5) y3 fun S4 =>
      tg_nm (v5 + 1 : Int32) fun y5 =>
      rec52 S4 v1 v2 v3 v4 y5)
def L_X8_weightsBy_52 (rec16 : tg_S → Int32 → Int32 → Int32 → Int32 → Option (tg_S × Int32)) : Nat → tg_S → Int32 → Int32 → Int32 → Int32 → Int32 → Option (tg_S × Int32)
  | 0 => fun _ _ _ _ _ _ => none
  | n + 1 => f_X8_weightsBy_52 rec16 (L_X8_weightsBy_52 rec16 n)
def f_X8_weightsBy_47 (rec16 : tg_S → Int32 → Int32 → Int32 → Int32 → Option (tg_S × Int32)) (S : tg_S) (v1 : Int32) (v2 : Int32) (v4 : Int32) (s0 : Int32) (s1 : Int32) : Option (tg_S × Int32) :=
  tg_nm (s1 ||| s0 : Int32) fun y1 =>
  L_X8_weightsBy_52 rec16 tg_F S v1 v2 y1 v4 0
def f_X8_weightsBy_16 (rec16 : tg_S → Int32 → Int32 → Int32 → Int32 → Option (tg_S × Int32)) (S : tg_S) (v1 : Int32) (v2 : Int32) (v3 : Int32) (v4 : Int32) : Option (tg_S × Int32) :=
  tg_if (10 ≤ v4)
    (tg_wr S 5 17 v1 v2 fun S2 =>
      some (S2, v3))
    (tg_wr S 5 17 v1 v4 fun S3 =>
      tg_bd (f_X8_isSeen S3) fun S4 r5 =>
      f_X8_weightsBy_47 rec16 S4 v1 v2 v4 (if r5 = 0 then 0 else (1 <<< (v4 &&& 31))) v3)
def L_X8_weightsBy_16 : Nat → tg_S → Int32 → Int32 → Int32 → Int32 → Option (tg_S × Int32)
  | 0 => fun _ _ _ _ _ => none
  | n + 1 => f_X8_weightsBy_16  (L_X8_weightsBy_16  n)
def f_X8_weightsBy (S : tg_S) (v1 : Int32) : Option (tg_S × Int32) :=
  tg_bv (f_X8_asTold S) fun S1 =>
  tg_rd S1 5 17 v1 fun y2 =>
  L_X8_weightsBy_16 tg_F S1 v1 y2 0 1
-- X8_sortsBy
def f_X8_sortsBy_46 (rec16 : tg_S → Int32 → Int32 → Int32 → Int32 → Option (tg_S × Int32)) (S : tg_S) (v1 : Int32) (v2 : Int32) (v4 : Int32) (s0 : Int32) (s1 : Int32) : Option (tg_S × Int32) :=
  tg_nm (s1 ||| s0 : Int32) fun y1 =>
  tg_nm (v4 + 1 : Int32) fun y2 =>
  rec16 S v1 v2 y1 y2
def f_X8_sortsBy_16 (rec16 : tg_S → Int32 → Int32 → Int32 → Int32 → Option (tg_S × Int32)) (S : tg_S) (v1 : Int32) (v2 : Int32) (v3 : Int32) (v4 : Int32) : Option (tg_S × Int32) :=
  tg_if (3 ≤ v4)
    (tg_wr S 4 17 v1 v2 fun S2 =>
      some (S2, v3))
    (tg_wr S 4 17 v1 v4 fun S3 =>
      tg_bd (f_X8_isSeen S3) fun S4 r5 =>
      f_X8_sortsBy_46 rec16 S4 v1 v2 v4 (if r5 = 0 then 0 else (1 <<< (v4 &&& 31))) v3)
def L_X8_sortsBy_16 : Nat → tg_S → Int32 → Int32 → Int32 → Int32 → Option (tg_S × Int32)
  | 0 => fun _ _ _ _ _ => none
  | n + 1 => f_X8_sortsBy_16  (L_X8_sortsBy_16  n)
def f_X8_sortsBy (S : tg_S) (v1 : Int32) : Option (tg_S × Int32) :=
  tg_bv (f_X8_asTold S) fun S1 =>
  tg_rd S1 4 17 v1 fun y2 =>
  L_X8_sortsBy_16 tg_F S1 v1 y2 0 0
-- X8_was
def f_X8_was (S : tg_S) (v1 : Int32) (v2 : Int32) : Option (tg_S × Int32) :=
  tg_bd (f_X8_isPuller S v1) fun S1 r2 =>
  tg_if (r2 = 0)
    (some (S1, -2))
    (tg_bd (f_X8_isTwo S1 v2) fun S4 r5 =>
      tg_if (r5 = 0)
        (some (S4, -2))
        (tg_if (v2 = 0)
            (tg_bd (f_X8_weightsBy S4 v1) fun S10 r11 =>
              some (S10, r11))
            (tg_bd (f_X8_sortsBy S4 v1) fun S8 r9 =>
              some (S8, r9))))
-- X8_askOf
def f_X8_askOf_175 (rec14 : tg_S → Int32 → Int32 → Int32 → Int32 → Option (tg_S × Int32)) (S : tg_S) (v2 : Int32) (v3 : Int32) (v5 : Int32) (s0 : Int32) : Option (tg_S × Int32) :=
  tg_nm (v5 + 1 : Int32) fun y1 =>
  rec14 S v2 v3 s0 y1
def f_X8_askOf_162 (rec14 : tg_S → Int32 → Int32 → Int32 → Int32 → Option (tg_S × Int32)) (S : tg_S) (v2 : Int32) (v4 : Int32) (v5 : Int32) (v6 : Int32) (v7 : Int32) (s0 : Int32) : Option (tg_S × Int32) :=
  f_X8_askOf_175 rec14 S v2 s0 v5 (if v7 = 0 then v4 else v6)
def f_X8_askOf_149 (rec14 : tg_S → Int32 → Int32 → Int32 → Int32 → Option (tg_S × Int32)) (S : tg_S) (v2 : Int32) (v3 : Int32) (v4 : Int32) (v5 : Int32) (v6 : Int32) (s0 : Int32) : Option (tg_S × Int32) :=
  f_X8_askOf_162 rec14 S v2 v4 v5 v6 s0 (if s0 = 0 then v3 else v5)
def f_X8_askOf_144 (rec14 : tg_S → Int32 → Int32 → Int32 → Int32 → Option (tg_S × Int32)) (S : tg_S) (v2 : Int32) (v3 : Int32) (v4 : Int32) (v5 : Int32) (v6 : Int32) : Option (tg_S × Int32) :=
  f_X8_askOf_149 rec14 S v2 v3 v4 v5 v6 1
def f_X8_askOf_124 (rec14 : tg_S → Int32 → Int32 → Int32 → Int32 → Option (tg_S × Int32)) (rec27 : tg_S → Int32 → Int32 → Int32 → Int32 → Int32 → Int32 → Option (tg_S × Int32)) (S : tg_S) (v2 : Int32) (v3 : Int32) (v4 : Int32) (v5 : Int32) (v7 : Int32) (s0 : Int32) : Option (tg_S × Int32) :=
  tg_nm (v7 + 1 : Int32) fun y1 =>
  rec27 S v2 v3 v4 v5 s0 y1
def f_X8_askOf_101 (rec14 : tg_S → Int32 → Int32 → Int32 → Int32 → Option (tg_S × Int32)) (rec27 : tg_S → Int32 → Int32 → Int32 → Int32 → Int32 → Int32 → Option (tg_S × Int32)) (rec40 : tg_S → Int32 → Int32 → Int32 → Int32 → Int32 → Int32 → Int32 → Int32 → Option (tg_S × Int32)) (S : tg_S) (v2 : Int32) (v3 : Int32) (v4 : Int32) (v5 : Int32) (v6 : Int32) (v7 : Int32) (v9 : Int32) (s0 : Int32) (s1 : Int32) : Option (tg_S × Int32) :=
  tg_nm (s1 + s0 : Int32) fun y1 =>
  tg_nm (v9 + 1 : Int32) fun y2 =>
  rec40 S v2 v3 v4 v5 v6 v7 y1 y2
def f_X8_askOf_100 (rec14 : tg_S → Int32 → Int32 → Int32 → Int32 → Option (tg_S × Int32)) (rec27 : tg_S → Int32 → Int32 → Int32 → Int32 → Int32 → Int32 → Option (tg_S × Int32)) (rec40 : tg_S → Int32 → Int32 → Int32 → Int32 → Int32 → Int32 → Int32 → Int32 → Option (tg_S × Int32)) (S : tg_S) (v2 : Int32) (v3 : Int32) (v4 : Int32) (v5 : Int32) (v6 : Int32) (v7 : Int32) (v9 : Int32) (s0 : Int32) : Option (tg_S × Int32) :=
  f_X8_askOf_101 rec14 rec27 rec40 S v2 v3 v4 v5 v6 v7 v9 0 s0
def f_X8_askOf_40 (rec14 : tg_S → Int32 → Int32 → Int32 → Int32 → Option (tg_S × Int32)) (rec27 : tg_S → Int32 → Int32 → Int32 → Int32 → Int32 → Int32 → Option (tg_S × Int32)) (rec40 : tg_S → Int32 → Int32 → Int32 → Int32 → Int32 → Int32 → Int32 → Int32 → Option (tg_S × Int32)) (S : tg_S) (v2 : Int32) (v3 : Int32) (v4 : Int32) (v5 : Int32) (v6 : Int32) (v7 : Int32) (v8 : Int32) (v9 : Int32) : Option (tg_S × Int32) :=
  tg_if (10 ≤ v9)
    (f_X8_askOf_124 rec14 rec27 S v2 v3 v4 v5 v7 (if v8 ≤ v6 then v6 else v8))
    (tg_bd (f_X8_isIn S v2 v7) fun S3 r4 =>
      tg_if (r4 = 0)
        (f_X8_askOf_100 rec14 rec27 rec40 S3 v2 v3 v4 v5 v6 v7 v9 v8)
        (tg_bd (f_X8_isIn S3 v2 v9) fun S6 r7 =>
          tg_if (r7 = 0)
            (f_X8_askOf_100 rec14 rec27 rec40 S6 v2 v3 v4 v5 v6 v7 v9 v8)
            (tg_rd S6 27 240 ((24 * v7) + v5) fun y9 =>
              tg_rd S6 27 240 ((24 * v9) + v5) fun y10 =>
              tg_if (y9 = y10)
                (f_X8_askOf_101 rec14 rec27 rec40 S6 v2 v3 v4 v5 v6 v7 v9 1 v8)
                (f_X8_askOf_100 rec14 rec27 rec40 S6 v2 v3 v4 v5 v6 v7 v9 v8))))
def L_X8_askOf_40 (rec14 : tg_S → Int32 → Int32 → Int32 → Int32 → Option (tg_S × Int32)) (rec27 : tg_S → Int32 → Int32 → Int32 → Int32 → Int32 → Int32 → Option (tg_S × Int32)) : Nat → tg_S → Int32 → Int32 → Int32 → Int32 → Int32 → Int32 → Int32 → Int32 → Option (tg_S × Int32)
  | 0 => fun _ _ _ _ _ _ _ _ _ => none
  | n + 1 => f_X8_askOf_40 rec14 rec27 (L_X8_askOf_40 rec14 rec27 n)
def f_X8_askOf_27 (rec14 : tg_S → Int32 → Int32 → Int32 → Int32 → Option (tg_S × Int32)) (rec27 : tg_S → Int32 → Int32 → Int32 → Int32 → Int32 → Int32 → Option (tg_S × Int32)) (S : tg_S) (v2 : Int32) (v3 : Int32) (v4 : Int32) (v5 : Int32) (v6 : Int32) (v7 : Int32) : Option (tg_S × Int32) :=
  tg_if (10 ≤ v7)
    (tg_if (v3 = (-1))
        (f_X8_askOf_144 rec14 S v2 v3 v4 v5 v6)
        (tg_if (v4 ≤ v6)
            (f_X8_askOf_149 rec14 S v2 v3 v4 v5 v6 0)
            (f_X8_askOf_144 rec14 S v2 v3 v4 v5 v6)))
    (L_X8_askOf_40 rec14 rec27 tg_F S v2 v3 v4 v5 v6 v7 0 1)
def L_X8_askOf_27 (rec14 : tg_S → Int32 → Int32 → Int32 → Int32 → Option (tg_S × Int32)) : Nat → tg_S → Int32 → Int32 → Int32 → Int32 → Int32 → Int32 → Option (tg_S × Int32)
  | 0 => fun _ _ _ _ _ _ _ => none
  | n + 1 => f_X8_askOf_27 rec14 (L_X8_askOf_27 rec14 n)
def f_X8_askOf_14 (rec14 : tg_S → Int32 → Int32 → Int32 → Int32 → Option (tg_S × Int32)) (S : tg_S) (v2 : Int32) (v3 : Int32) (v4 : Int32) (v5 : Int32) : Option (tg_S × Int32) :=
  tg_if (24 ≤ v5)
    (some (S, v3))
    (L_X8_askOf_27 rec14 tg_F S v2 v3 v4 v5 0 1)
def L_X8_askOf_14 : Nat → tg_S → Int32 → Int32 → Int32 → Int32 → Option (tg_S × Int32)
  | 0 => fun _ _ _ _ _ => none
  | n + 1 => f_X8_askOf_14  (L_X8_askOf_14  n)
def f_X8_askOf (S : tg_S) (v1 : Int32) : Option (tg_S × Int32) :=
  tg_bd (f_X8_weightsBy S v1) fun S1 r2 =>
  tg_nm (-1 : Int32) fun y3 =>
  L_X8_askOf_14 tg_F S1 r2 y3 0 0
-- X8_ask
def f_X8_ask (S : tg_S) (v1 : Int32) : Option (tg_S × Int32) :=
  tg_bd (f_X8_isPuller S v1) fun S1 r2 =>
  tg_if (r2 = 0)
    (some (S1, -2))
    (tg_bd (f_X8_askOf S1 v1) fun S4 r5 =>
      some (S4, r5))
-- X8_chanceOf
def f_X8_chanceOf_103 (rec10 : tg_S → Int32 → Int32 → Int32 → Int64 → Int32 → Option (tg_S × Int64)) (S : tg_S) (v1 : Int32) (v2 : Int32) (v3 : Int32) (v4 : Int64) (v6 : Int32) : Option (tg_S × Int64) :=
  tg_nm (v6 + 1 : Int32) fun y1 =>
  rec10 S v1 v2 v3 v4 y1
def f_X8_chanceOf_100 (rec10 : tg_S → Int32 → Int32 → Int32 → Int64 → Int32 → Option (tg_S × Int64)) (S : tg_S) (v1 : Int32) (v2 : Int32) (v3 : Int32) (v6 : Int32) (s0 : Int64) (s1 : Int64) : Option (tg_S × Int64) :=
  tg_nm (s1 + s0 : Int64) fun y1 =>
  f_X8_chanceOf_103 rec10 S v1 v2 v3 y1 v6
def f_X8_chanceOf_58 (rec10 : tg_S → Int32 → Int32 → Int32 → Int64 → Int32 → Option (tg_S × Int64)) (rec27 : tg_S → Int32 → Int32 → Int32 → Int64 → Int32 → Int64 → Int32 → Option (tg_S × Int64)) (S : tg_S) (v1 : Int32) (v2 : Int32) (v3 : Int32) (v4 : Int64) (v6 : Int32) (v9 : Int32) (s0 : Int64) (s1 : Int64) : Option (tg_S × Int64) :=
  tg_nm (s1 * s0 : Int64) fun y1 =>
  tg_nm (v9 + 1 : Int32) fun y2 =>
  rec27 S v1 v2 v3 v4 v6 y1 y2
def f_X8_chanceOf_27 (rec10 : tg_S → Int32 → Int32 → Int32 → Int64 → Int32 → Option (tg_S × Int64)) (rec27 : tg_S → Int32 → Int32 → Int32 → Int64 → Int32 → Int64 → Int32 → Option (tg_S × Int64)) (S : tg_S) (v1 : Int32) (v2 : Int32) (v3 : Int32) (v4 : Int64) (v6 : Int32) (v7 : Int64) (v9 : Int32) : Option (tg_S × Int64) :=
  tg_if ((S 0 9) ≤ v9)
    (tg_if ((lg_cmp v7 0) ≤ 0)
        (f_X8_chanceOf_103 rec10 S v1 v2 v3 v4 v6)
        (tg_pf S 0 14 v6 fun S3 =>
          tg_bv (f_X8_runs S3) fun S4 =>
          f_X8_chanceOf_100 rec10 S4 v1 v2 v3 v6 (if (S4 0 22) = v2 then v7 else 0) v4))
    (tg_bd (f_X8_isIn S v6 v9) fun S6 r7 =>
      f_X8_chanceOf_58 rec10 rec27 S6 v1 v2 v3 v4 v6 v9 (if r7 = 0 then (v1.toInt64) else ((16 - v1).toInt64)) v7)
def L_X8_chanceOf_27 (rec10 : tg_S → Int32 → Int32 → Int32 → Int64 → Int32 → Option (tg_S × Int64)) : Nat → tg_S → Int32 → Int32 → Int32 → Int64 → Int32 → Int64 → Int32 → Option (tg_S × Int64)
  | 0 => fun _ _ _ _ _ _ _ _ => none
  | n + 1 => f_X8_chanceOf_27 rec10 (L_X8_chanceOf_27 rec10 n)
def f_X8_chanceOf_10 (rec10 : tg_S → Int32 → Int32 → Int32 → Int64 → Int32 → Option (tg_S × Int64)) (S : tg_S) (v1 : Int32) (v2 : Int32) (v3 : Int32) (v4 : Int64) (v6 : Int32) : Option (tg_S × Int64) :=
  tg_if ((1 <<< ((S 0 9) &&& 31)) ≤ v6)
    (tg_bd (f_X8_lowest S v4 (1 <<< ((4 * (S 0 9) : Int32).toInt64 &&& 63)) v3) fun S2 r3 =>
      some (S2, r3))
    (L_X8_chanceOf_27 rec10 tg_F S v1 v2 v3 v4 v6 1 0)
def L_X8_chanceOf_10 : Nat → tg_S → Int32 → Int32 → Int32 → Int64 → Int32 → Option (tg_S × Int64)
  | 0 => fun _ _ _ _ _ _ => none
  | n + 1 => f_X8_chanceOf_10  (L_X8_chanceOf_10  n)
def f_X8_chanceOf (S : tg_S) (v1 : Int32) (v2 : Int32) (v3 : Int32) : Option (tg_S × Int64) :=
  tg_bv (f_X8_asTold S) fun S1 =>
  L_X8_chanceOf_10 tg_F S1 v1 v2 v3 0 0
-- X8_chance
def f_X8_chance (S : tg_S) (v1 : Int32) (v2 : Int32) (v3 : Int32) : Option (tg_S × Int64) :=
  tg_bd (f_X8_in S v1 0 16) fun S1 r2 =>
  tg_if (r2 = 0)
    (tg_bd (f_X8_no S1 (-2)) fun S4 r5 =>
      some (S4, r5))
    (tg_bd (f_X8_isTwo S1 v2) fun S6 r7 =>
      tg_if (r7 = 0)
        (tg_bd (f_X8_no S6 (-2)) fun S9 r10 =>
          some (S9, r10))
        (tg_bd (f_X8_isTwo S6 v3) fun S11 r12 =>
          tg_if (r12 = 0)
            (tg_bd (f_X8_no S11 (-2)) fun S14 r15 =>
              some (S14, r15))
            (tg_bd (f_X8_chanceOf S11 v1 v2 v3) fun S16 r17 =>
              some (S16, r17))))
-- X8_yearsOf
def f_X8_yearsOf_66 (rec10 : tg_S → Int32 → Int32 → Int32 → Int32 → Option (tg_S × Int32)) (S : tg_S) (v2 : Int32) (v3 : Int32) (v4 : Int32) (v5 : Int32) (s0 : Int32) (s1 : Int32) : Option (tg_S × Int32) :=
  tg_wr S 12 48 s1 s0 fun S1 =>
  tg_nm (v5 + 1 : Int32) fun y2 =>
  rec10 S1 v2 v3 v4 y2
def f_X8_yearsOf_38 (rec10 : tg_S → Int32 → Int32 → Int32 → Int32 → Option (tg_S × Int32)) (S : tg_S) (v2 : Int32) (v3 : Int32) (v5 : Int32) (s0 : Int32) : Option (tg_S × Int32) :=
  f_X8_yearsOf_66 rec10 S v2 v3 s0 v5 (if v2 ≤ v5 then 1 else ((((s0).toUInt32 >>> ((16 : Int32).toUInt32 &&& Int32.toUInt32 31)).toInt32) - (((s0).toUInt32 >>> ((16 : Int32).toUInt32 &&& Int32.toUInt32 31)).toInt32) / 3 * 3)) (24 + v5)
def f_X8_yearsOf_10 (rec10 : tg_S → Int32 → Int32 → Int32 → Int32 → Option (tg_S × Int32)) (S : tg_S) (v2 : Int32) (v3 : Int32) (v4 : Int32) (v5 : Int32) : Option (tg_S × Int32) :=
  tg_if (24 ≤ v5)
    (tg_bv (f_X8_runs S) fun S2 =>
      tg_if (v3 = 0)
        (some (S2, S2 0 21))
        (some (S2, S2 0 22)))
    (f_X8_yearsOf_38 rec10 S v2 v3 v5 (if v2 ≤ v5 then v4 else ((1103515245 * v4) + 12345)))
def L_X8_yearsOf_10 : Nat → tg_S → Int32 → Int32 → Int32 → Int32 → Option (tg_S × Int32)
  | 0 => fun _ _ _ _ _ => none
  | n + 1 => f_X8_yearsOf_10  (L_X8_yearsOf_10  n)
def f_X8_yearsOf (S : tg_S) (v1 : Int32) (v2 : Int32) (v3 : Int32) : Option (tg_S × Int32) :=
  tg_bv (f_X8_asTold S) fun S1 =>
  L_X8_yearsOf_10 tg_F S1 v2 v3 v1 0
-- X8_years
def f_X8_years (S : tg_S) (v1 : Int32) (v2 : Int32) (v3 : Int32) : Option (tg_S × Int32) :=
  tg_bd (f_X8_in S v2 0 24) fun S1 r2 =>
  tg_if (r2 = 0)
    (some (S1, -2))
    (tg_bd (f_X8_isTwo S1 v3) fun S4 r5 =>
      tg_if (r5 = 0)
        (some (S4, -2))
        (tg_bd (f_X8_yearsOf S4 v1 v2 v3) fun S7 r8 =>
          some (S7, r8)))
-- X8_sheet
def f_X8_sheet_59 (rec59 : tg_S → Int32 → Int32 → Int32 → Option (tg_S × Int32)) (S : tg_S) (v1 : Int32) (v3 : Int32) (v4 : Int32) : Option (tg_S × Int32) :=
  tg_if (60 ≤ v4)
    (some (S, v3))
    (tg_wr S 31 240 ((60 * v1) + v4) 0 fun S2 =>
      tg_nm (v4 + 1 : Int32) fun y3 =>
      rec59 S2 v1 v3 y3)
def L_X8_sheet_59 : Nat → tg_S → Int32 → Int32 → Int32 → Option (tg_S × Int32)
  | 0 => fun _ _ _ _ => none
  | n + 1 => f_X8_sheet_59  (L_X8_sheet_59  n)
def f_X8_sheet (S : tg_S) (v1 : Int32) (v2 : Int32) (v3 : Int32) : Option (tg_S × Int32) :=
  tg_bd (f_X8_isSheet S v1) fun S1 r2 =>
  tg_if (r2 = 0)
    (some (S1, -2))
    (tg_bd (f_X8_in S1 v2 0 2) fun S4 r5 =>
      tg_if (r5 = 0)
        (some (S4, -2))
        (tg_if (v3 ≤ 60)
            (tg_if (0 ≤ v3)
                (tg_wz S4 28 4 v1 1 fun S9 =>
                  tg_wr S9 29 4 v1 v2 fun S10 =>
                  tg_wr S10 30 4 v1 v3 fun S11 =>
                  L_X8_sheet_59 tg_F S11 v1 v3 0)
                (tg_bd (f_X8_meets S4 5) fun S12 r13 =>
                  some (S12, r13)))
            (some (S4, -2))))
-- X8_lose
def f_X8_lose (S : tg_S) (v1 : Int32) : Option (tg_S × Int32) :=
  tg_bd (f_X8_isSheet S v1) fun S1 r2 =>
  tg_if (r2 = 0)
    (some (S1, -2))
    (tg_rd S1 28 4 v1 fun y4 =>
      tg_if (y4 = 0)
        (tg_bd (f_X8_meets S1 1) fun S8 r9 =>
          some (S8, r9))
        (tg_wz S1 28 4 v1 0 fun S6 =>
          tg_rd S6 30 4 v1 fun y7 =>
          some (S6, y7)))
-- X8_lacks
def f_X8_lacks (S : tg_S) (v1 : Int32) (v2 : Int32) (v3 : Int32) : Option (tg_S × Int32) :=
  tg_rd S 28 4 v1 fun y1 =>
  tg_if (y1 = 0)
    (some (S, 1))
    (tg_rd S 29 4 v1 fun y3 =>
      tg_if (y3 = v2)
        (tg_rd S 30 4 v1 fun y5 =>
          tg_bd (f_X8_in S v3 0 (y5 - 1)) fun S6 r7 =>
          tg_if (r7 = 0)
            (some (S6, 2))
            (some (S6, 0)))
        (some (S, 3)))
-- X8_keep
def f_X8_keep (S : tg_S) (v1 : Int32) (v2 : Int32) (v3 : Int32) : Option (tg_S) :=
  tg_rd S 29 4 v1 fun y1 =>
  tg_if (y1 = 0)
    (tg_wr S 31 240 ((60 * v1) + v2) (v3.toInt8.toInt32) fun S7 =>
      some S7)
    (tg_rd S 29 4 v1 fun y3 =>
      tg_if (y3 = 1)
        (tg_wr S 31 240 ((60 * v1) + v2) (v3.toInt16.toInt32) fun S6 =>
          some S6)
        (tg_wr S 31 240 ((60 * v1) + v2) v3 fun S5 =>
          some S5))
-- X8_put
def f_X8_put (S : tg_S) (v1 : Int32) (v2 : Int32) (v3 : Int32) (v4 : Int32) : Option (tg_S × Int32) :=
  tg_bd (f_X8_isSheet S v1) fun S1 r2 =>
  tg_if (r2 = 0)
    (some (S1, -2))
    (tg_bd (f_X8_in S1 v2 0 2) fun S4 r5 =>
      tg_if (r5 = 0)
        (some (S4, -2))
        (tg_bd (f_X8_lacks S4 v1 v2 v3) fun S7 r8 =>
          tg_if (r8 ≤ 0)
            (tg_bv (f_X8_keep S7 v1 v3 v4) fun S10 =>
              some (S10, 1))
            (tg_bd (f_X8_meets S7 r8) fun S11 r12 =>
              some (S11, r12))))
-- X8_get
def f_X8_get (S : tg_S) (v1 : Int32) (v2 : Int32) (v3 : Int32) : Option (tg_S × Int32) :=
  tg_bd (f_X8_isSheet S v1) fun S1 r2 =>
  tg_if (r2 = 0)
    (some (S1, -2147483648))
    (tg_bd (f_X8_in S1 v2 0 2) fun S4 r5 =>
      tg_if (r5 = 0)
        (some (S4, -2147483648))
        (tg_bd (f_X8_lacks S4 v1 v2 v3) fun S7 r8 =>
          tg_if (r8 ≤ 0)
            (tg_rd S7 31 240 ((60 * v1) + v3) fun y10 =>
              some (S7, y10))
            (tg_pf S7 0 46 r8 fun S11 =>
              some (S11, -2147483648))))
-- X8_copy
def f_X8_copy_157 (rec157 : tg_S → Int32 → Int32 → Int32 → Int32 → Option (tg_S × Int32)) (S : tg_S) (v3 : Int32) (v4 : Int32) (v5 : Int32) (v6 : Int32) : Option (tg_S × Int32) :=
  tg_if (v5 ≤ v6)
    (some (S, 1))
    (tg_rd S 32 60 v6 fun y2 =>
      tg_wr S 31 240 (((60 * v3) + v4) + v6) y2 fun S3 =>
      tg_nm (v6 + 1 : Int32) fun y4 =>
      rec157 S3 v3 v4 v5 y4)
def L_X8_copy_157 : Nat → tg_S → Int32 → Int32 → Int32 → Int32 → Option (tg_S × Int32)
  | 0 => fun _ _ _ _ _ => none
  | n + 1 => f_X8_copy_157  (L_X8_copy_157  n)
def f_X8_copy_120 (rec120 : tg_S → Int32 → Int32 → Int32 → Int32 → Int32 → Int32 → Option (tg_S × Int32)) (S : tg_S) (v1 : Int32) (v2 : Int32) (v3 : Int32) (v4 : Int32) (v5 : Int32) (v6 : Int32) : Option (tg_S × Int32) :=
  tg_if (v5 ≤ v6)
    (L_X8_copy_157 tg_F S v3 v4 v5 0)
    (tg_rd S 31 240 (((60 * v1) + v2) + v6) fun y2 =>
      tg_wr S 32 60 v6 y2 fun S3 =>
      tg_nm (v6 + 1 : Int32) fun y4 =>
      rec120 S3 v1 v2 v3 v4 v5 y4)
def L_X8_copy_120 : Nat → tg_S → Int32 → Int32 → Int32 → Int32 → Int32 → Int32 → Option (tg_S × Int32)
  | 0 => fun _ _ _ _ _ _ _ => none
  | n + 1 => f_X8_copy_120  (L_X8_copy_120  n)
def f_X8_copy_111 (S : tg_S) : Option (tg_S × Int32) :=
  tg_bd (f_X8_meets S 2) fun S1 r2 =>
  some (S1, r2)
def f_X8_copy_35 (S : tg_S) : Option (tg_S × Int32) :=
  tg_bd (f_X8_meets S 1) fun S1 r2 =>
  some (S1, r2)
def f_X8_copy (S : tg_S) (v1 : Int32) (v2 : Int32) (v3 : Int32) (v4 : Int32) (v5 : Int32) : Option (tg_S × Int32) :=
  tg_bd (f_X8_isSheet S v1) fun S1 r2 =>
  tg_if (r2 = 0)
    (some (S1, -2))
    (tg_bd (f_X8_isSheet S1 v3) fun S4 r5 =>
      tg_if (r5 = 0)
        (some (S4, -2))
        (tg_rd S4 28 4 v1 fun y7 =>
          tg_if (y7 = 0)
            (f_X8_copy_35 S4)
            (tg_rd S4 28 4 v3 fun y9 =>
              tg_if (y9 = 0)
                (f_X8_copy_35 S4)
                (tg_rd S4 29 4 v1 fun y11 =>
                  tg_rd S4 29 4 v3 fun y12 =>
                  tg_if (y11 = y12)
                    (tg_if (v2 < 0)
                        (f_X8_copy_111 S4)
                        (tg_if (v4 < 0)
                            (f_X8_copy_111 S4)
                            (tg_if (v5 < 0)
                                (f_X8_copy_111 S4)
                                (tg_rd S4 30 4 v1 fun y17 =>
                                  tg_if (0 < (lg_cmp ((v2.toInt64) + (v5.toInt64)) (y17.toInt64)))
                                    (f_X8_copy_111 S4)
                                    (tg_rd S4 30 4 v3 fun y19 =>
                                      tg_if ((lg_cmp ((v4.toInt64) + (v5.toInt64)) (y19.toInt64)) ≤ 0)
                                        (L_X8_copy_120 tg_F S4 v1 v2 v3 v4 v5 0)
                                        (f_X8_copy_111 S4))))))
                    (tg_bd (f_X8_meets S4 4) fun S21 r22 =>
                      some (S21, r22))))))
-- X8_write
def f_X8_write_31 (rec31 : tg_S → Int32 → Int32 → Option (tg_S × Int32)) (S : tg_S) (v1 : Int32) (v2 : Int32) : Option (tg_S × Int32) :=
  tg_rd S 30 4 v1 fun y1 =>
  tg_if (y1 ≤ v2)
    (some (S, v2))
    (tg_if (24 ≤ v2)
        (some (S, v2))
        (tg_rd S 19 24 v2 fun y4 =>
          tg_bv (f_X8_keep S v1 v2 y4) fun S5 =>
          tg_nm (v2 + 1 : Int32) fun y6 =>
          rec31 S5 v1 y6))
def L_X8_write_31 : Nat → tg_S → Int32 → Int32 → Option (tg_S × Int32)
  | 0 => fun _ _ _ => none
  | n + 1 => f_X8_write_31  (L_X8_write_31  n)
def f_X8_write (S : tg_S) (v1 : Int32) : Option (tg_S × Int32) :=
  tg_bd (f_X8_isSheet S v1) fun S1 r2 =>
  tg_if (r2 = 0)
    (some (S1, -2))
    (tg_rd S1 28 4 v1 fun y4 =>
      tg_if (y4 = 0)
        (tg_bd (f_X8_meets S1 1) fun S7 r8 =>
          some (S7, r8))
        (tg_bv (f_X8_runsTold S1) fun S6 =>
          L_X8_write_31 tg_F S6 v1 0))
-- X8_tellOf
def f_X8_tellOf (S : tg_S) (v1 : Int32) : Option (tg_S × Int32) :=
  tg_bv (f_X8_runsTold S) fun S1 =>
  tg_if (2 ≤ v1)
    (tg_if (4 ≤ v1)
        (some (S1, S1 0 21))
        (tg_rd S1 7 2 (v1 - 2) fun y4 =>
          some (S1, y4)))
    (tg_rd S1 3 2 v1 fun y5 =>
      some (S1, y5))
-- X8_count
def f_X8_count (S : tg_S) (v1 : Int32) : Option (tg_S × Int32) :=
  tg_if (v1 = 0)
    (tg_bd (f_X8_tellOf S v1) fun S2 r3 =>
      some (S2, r3))
    (tg_if (v1 = 1)
        (tg_bd (f_X8_tellOf S v1) fun S5 r6 =>
          some (S5, r6))
        (tg_if (v1 = 2)
            (tg_bd (f_X8_tellOf S v1) fun S8 r9 =>
              some (S8, r9))
            (tg_if (v1 = 3)
                (tg_bd (f_X8_tellOf S v1) fun S11 r12 =>
                  some (S11, r12))
                (tg_if (v1 = 4)
                    (tg_rd S 1 4 0 fun y14 =>
                      tg_rd S 1 4 1 fun y15 =>
                      tg_rd S 1 4 2 fun y16 =>
                      tg_rd S 1 4 3 fun y17 =>
                      some (S, ((y14 + y15) + y16) + y17))
                    (tg_if (v1 = 5)
                        (some (S, S 0 9))
                        (tg_if (v1 = 6)
                            (tg_bd (f_X8_tellOf S v1) fun S20 r21 =>
                              some (S20, r21))
                            (tg_if (v1 = 7)
                                (some (S, S 0 37))
                                (tg_if (v1 = 8)
                                    (some (S, S 0 46))
                                    (some (S, -2))))))))))
-- X8_beatDigest
def f_X8_beatDigest (S : tg_S) (v1 : Int64) (v3 : Int32) (v4 : Int32) : Option (tg_S × Int64) :=
  tg_bd (f_X8_atOf S v3 v4 0) fun S1 r2 =>
  tg_nm ((31 * v1) + (r2.toInt64) : Int64) fun y3 =>
  tg_bd (f_X8_atOf S1 v3 v4 1) fun S4 r5 =>
  some (S4, (31 * y3) + (r5.toInt64))
-- X8_pullerDigest
def f_X8_pullerDigest_6 (rec6 : tg_S → Int32 → Int64 → Int32 → Option (tg_S × Int64)) (S : tg_S) (v3 : Int32) (v4 : Int64) (v6 : Int32) : Option (tg_S × Int64) :=
  tg_if (3 ≤ v6)
    (tg_bd (f_X8_beatDigest S v4 0 v3) fun S2 r3 =>
      tg_bd (f_X8_beatDigest S2 r3 5 v3) fun S4 r5 =>
      tg_bd (f_X8_beatDigest S4 r5 12 v3) fun S6 r7 =>
      tg_bd (f_X8_beatDigest S6 r7 23 v3) fun S8 r9 =>
      tg_bd (f_X8_doneOf S8 v3) fun S10 r11 =>
      tg_nm ((31 * r9) + (r11.toInt64) : Int64) fun y12 =>
      tg_bd (f_X8_weightsBy S10 v3) fun S13 r14 =>
      tg_nm ((31 * y12) + (r14.toInt64) : Int64) fun y15 =>
      tg_bd (f_X8_sortsBy S13 v3) fun S16 r17 =>
      tg_nm ((31 * y15) + (r17.toInt64) : Int64) fun y18 =>
      tg_bd (f_X8_askOf S16 v3) fun S19 r20 =>
      some (S19, (31 * y18) + (r20.toInt64)))
    (tg_bd (f_X8_pullerOf S v3 v6) fun S21 r22 =>
      tg_nm ((31 * v4) + (r22.toInt64) : Int64) fun y23 =>
      tg_nm (v6 + 1 : Int32) fun y24 =>
      rec6 S21 v3 y23 y24)
def L_X8_pullerDigest_6 : Nat → tg_S → Int32 → Int64 → Int32 → Option (tg_S × Int64)
  | 0 => fun _ _ _ _ => none
  | n + 1 => f_X8_pullerDigest_6  (L_X8_pullerDigest_6  n)
def f_X8_pullerDigest (S : tg_S) (v1 : Int64) (v3 : Int32) : Option (tg_S × Int64) :=
  L_X8_pullerDigest_6 tg_F S v3 v1 0
-- X8_teamDigest
def f_X8_teamDigest_36 (rec36 : tg_S → Int32 → Int64 → Int32 → Option (tg_S × Int64)) (S : tg_S) (v3 : Int32) (v4 : Int64) (v6 : Int32) : Option (tg_S × Int64) :=
  tg_if (3 ≤ v6)
    (tg_bd (f_X8_outOf S v3 0) fun S2 r3 =>
      tg_nm ((31 * v4) + (r3.toInt64) : Int64) fun y4 =>
      tg_bd (f_X8_outOf S2 v3 1) fun S5 r6 =>
      tg_nm ((31 * y4) + (r6.toInt64) : Int64) fun y7 =>
      tg_bd (f_X8_chanceOf S5 5 v3 0) fun S8 r9 =>
      tg_nm ((31 * y7) + r9 : Int64) fun y10 =>
      tg_bd (f_X8_chanceOf S8 5 v3 1) fun S11 r12 =>
      some (S11, (31 * y10) + r12))
    (tg_bd (f_X8_swapOf S v3 v6) fun S13 r14 =>
      tg_nm ((31 * v4) + (r14.toInt64) : Int64) fun y15 =>
      tg_nm (v6 + 1 : Int32) fun y16 =>
      rec36 S13 v3 y15 y16)
def L_X8_teamDigest_36 : Nat → tg_S → Int32 → Int64 → Int32 → Option (tg_S × Int64)
  | 0 => fun _ _ _ _ => none
  | n + 1 => f_X8_teamDigest_36  (L_X8_teamDigest_36  n)
def f_X8_teamDigest (S : tg_S) (v1 : Int64) (v3 : Int32) : Option (tg_S × Int64) :=
  tg_bd (f_X8_betterOf S v3 4 0) fun S1 r2 =>
  tg_nm ((31 * v1) + (r2.toInt64) : Int64) fun y3 =>
  tg_bd (f_X8_betterOf S1 v3 4 1) fun S4 r5 =>
  tg_nm ((31 * y3) + (r5.toInt64) : Int64) fun y6 =>
  L_X8_teamDigest_36 tg_F S4 v3 y6 0
-- X8_digest
def f_X8_digest_152 (rec131 : tg_S → Int64 → Int32 → Option (tg_S × Int64)) (S : tg_S) (v1 : Int64) (v3 : Int32) : Option (tg_S × Int64) :=
  tg_nm (v3 + 1 : Int32) fun y1 =>
  rec131 S v1 y1
def f_X8_digest_131 (rec131 : tg_S → Int64 → Int32 → Option (tg_S × Int64)) (S : tg_S) (v1 : Int64) (v3 : Int32) : Option (tg_S × Int64) :=
  tg_if (16 ≤ v3)
    (tg_bd (f_X8_teamDigest S v1 0) fun S2 r3 =>
      tg_bd (f_X8_teamDigest S2 r3 1) fun S4 r5 =>
      tg_bd (f_X8_wonOf S4 0) fun S6 r7 =>
      tg_nm ((31 * r5) + (r7.toInt64) : Int64) fun y8 =>
      tg_bd (f_X8_wonOf S6 1) fun S9 r10 =>
      tg_nm ((31 * y8) + (r10.toInt64) : Int64) fun y11 =>
      tg_bd (f_X8_furthestOf S9 0) fun S12 r13 =>
      tg_nm ((31 * y11) + (r13.toInt64) : Int64) fun y14 =>
      tg_bd (f_X8_furthestOf S12 1) fun S15 r16 =>
      tg_nm ((31 * y14) + (r16.toInt64) : Int64) fun y17 =>
      tg_bd (f_X8_spentOf S15) fun S18 r19 =>
      tg_nm ((31 * y17) + (r19.toInt64) : Int64) fun y20 =>
      tg_bd (f_X8_bestOf S18) fun S21 r22 =>
      tg_nm ((31 * y20) + (r22.toInt64) : Int64) fun y23 =>
      tg_bd (f_X8_levelOf S21) fun S24 r25 =>
      tg_nm ((31 * y23) + (r25.toInt64) : Int64) fun y26 =>
      tg_bd (f_X8_spareBy S24) fun S27 r28 =>
      tg_nm ((31 * y26) + (r28.toInt64) : Int64) fun y29 =>
      tg_bd (f_X8_ofRow S27 r28 0) fun S30 r31 =>
      tg_nm ((31 * y29) + (r31.toInt64) : Int64) fun y32 =>
      tg_bd (f_X8_neverNow S30) fun S33 r34 =>
      tg_nm ((31 * y32) + (r34.toInt64) : Int64) fun y35 =>
      tg_bd (f_X8_yearsOf S33 7 18 0) fun S36 r37 =>
      tg_nm ((31 * y35) + (r37.toInt64) : Int64) fun y38 =>
      tg_bd (f_X8_yearsOf S36 7 18 1) fun S39 r40 =>
      some (S39, (31 * y38) + (r40.toInt64)))
    (tg_bd (f_X8_isThereOne S v3) fun S41 r42 =>
      tg_if (r42 = 0)
        (f_X8_digest_152 rec131 S41 v1 v3)
        (tg_bd (f_X8_pullerDigest S41 v1 v3) fun S44 r45 =>
          f_X8_digest_152 rec131 S44 r45 v3))
def L_X8_digest_131 : Nat → tg_S → Int64 → Int32 → Option (tg_S × Int64)
  | 0 => fun _ _ _ => none
  | n + 1 => f_X8_digest_131  (L_X8_digest_131  n)
def f_X8_digest_96 (rec59 : tg_S → Int64 → Int32 → Option (tg_S × Int64)) (rec96 : tg_S → Int64 → Int32 → Int32 → Option (tg_S × Int64)) (S : tg_S) (v1 : Int64) (v3 : Int32) (v4 : Int32) : Option (tg_S × Int64) :=
  tg_if (4 ≤ v4)
    (tg_nm (v3 + 1 : Int32) fun y2 =>
      rec59 S v1 y2)
    (tg_bd (f_X8_ropeOf S v3 v4) fun S3 r4 =>
      tg_nm ((31 * v1) + (r4.toInt64) : Int64) fun y5 =>
      tg_nm (v4 + 1 : Int32) fun y6 =>
      rec96 S3 y5 v3 y6)
def L_X8_digest_96 (rec59 : tg_S → Int64 → Int32 → Option (tg_S × Int64)) : Nat → tg_S → Int64 → Int32 → Int32 → Option (tg_S × Int64)
  | 0 => fun _ _ _ _ => none
  | n + 1 => f_X8_digest_96 rec59 (L_X8_digest_96 rec59 n)
def f_X8_digest_59 (rec59 : tg_S → Int64 → Int32 → Option (tg_S × Int64)) (S : tg_S) (v1 : Int64) (v3 : Int32) : Option (tg_S × Int64) :=
  tg_if (24 ≤ v3)
    (L_X8_digest_131 tg_F S v1 0)
    (tg_bd (f_X8_callOf S 0 v3) fun S2 r3 =>
      tg_nm ((31 * v1) + (r3.toInt64) : Int64) fun y4 =>
      tg_bd (f_X8_callOf S2 1 v3) fun S5 r6 =>
      tg_nm ((31 * y4) + (r6.toInt64) : Int64) fun y7 =>
      L_X8_digest_96 rec59 tg_F S5 y7 v3 0)
def L_X8_digest_59 : Nat → tg_S → Int64 → Int32 → Option (tg_S × Int64)
  | 0 => fun _ _ _ => none
  | n + 1 => f_X8_digest_59  (L_X8_digest_59  n)
def f_X8_digest_33 (rec33 : tg_S → Int64 → Int32 → Option (tg_S × Int64)) (S : tg_S) (v1 : Int64) (v3 : Int32) : Option (tg_S × Int64) :=
  tg_if (4 ≤ v3)
    (L_X8_digest_59 tg_F S v1 0)
    (tg_bd (f_X8_faultOf S v3) fun S2 r3 =>
      tg_nm ((31 * v1) + (r3.toInt64) : Int64) fun y4 =>
      tg_nm (v3 + 1 : Int32) fun y5 =>
      rec33 S2 y4 y5)
def L_X8_digest_33 : Nat → tg_S → Int64 → Int32 → Option (tg_S × Int64)
  | 0 => fun _ _ _ => none
  | n + 1 => f_X8_digest_33  (L_X8_digest_33  n)
def f_X8_digest_6 (rec6 : tg_S → Int64 → Int32 → Option (tg_S × Int64)) (S : tg_S) (v1 : Int64) (v3 : Int32) : Option (tg_S × Int64) :=
  tg_if (8 ≤ v3)
    (L_X8_digest_33 tg_F S v1 0)
    (tg_bd (f_X8_count S v3) fun S2 r3 =>
      tg_nm ((31 * v1) + (r3.toInt64) : Int64) fun y4 =>
      tg_nm (v3 + 1 : Int32) fun y5 =>
      rec6 S2 y4 y5)
def L_X8_digest_6 : Nat → tg_S → Int64 → Int32 → Option (tg_S × Int64)
  | 0 => fun _ _ _ => none
  | n + 1 => f_X8_digest_6  (L_X8_digest_6  n)
def f_X8_digest (S : tg_S) : Option (tg_S × Int64) :=
  L_X8_digest_6 tg_F S 17 0
end
section
-- X6_byteAt
def zr_X6_byteAt : Room := { frames := 0, cells := 0, slots := 0, locals := 0 }
theorem dX6_byteAt_0 : decode cX6_byteAt 0 = .ok (.aload_n 0, 1) := by decide +kernel
theorem dX6_byteAt_1 : decode cX6_byteAt 1 = .ok (.getfield 9, 3) := by decide +kernel
theorem dX6_byteAt_4 : decode cX6_byteAt 4 = .ok (.iload_n 1, 1) := by decide +kernel
theorem dX6_byteAt_5 : decode cX6_byteAt 5 = .ok (.bipush 31, 2) := by decide +kernel
theorem dX6_byteAt_7 : decode cX6_byteAt 7 = .ok (.imul, 1) := by decide +kernel
theorem dX6_byteAt_8 : decode cX6_byteAt 8 = .ok (.iload_n 2, 1) := by decide +kernel
theorem dX6_byteAt_9 : decode cX6_byteAt 9 = .ok (.iadd, 1) := by decide +kernel
theorem dX6_byteAt_10 : decode cX6_byteAt 10 = .ok (.iaload, 1) := by decide +kernel
theorem dX6_byteAt_11 : decode cX6_byteAt 11 = .ok (.ireturn, 1) := by decide +kernel
set_option maxRecDepth 20000 in
set_option maxHeartbeats 4000000 in
theorem w_X6_byteAt_0 {x : tg_X} {Sf : tg_S} {r : Int32} (X : tg_M tauC x cX6_byteAt 3 RX6 zr_X6_byteAt (some .int) Sf (some (.int r))) (S : tg_S) (v1 : Int32) (v2 : Int32) (h : f_X6_byteAt  S v1 v2 = some (Sf, r)) : tg_G tauC x S 0 [(0, .ref (tg_ad x 1)), (1, .int v1), (2, .int v2)] [] := by
  unfold f_X6_byteAt at h
  refine tg_aload_n X dX6_byteAt_0 rfl 0 rfl ?_
  refine tg_getr X 1 rfl cl_X6 0 (by decide) rfl wf_X6_9 dX6_byteAt_1 ?_
  refine tg_iload_n X dX6_byteAt_4 rfl 1 rfl ?_
  refine tg_bipush X dX6_byteAt_5 tk_b31 ?_
  refine tg_imul X dX6_byteAt_7 ?_
  refine tg_iload_n X dX6_byteAt_8 rfl 2 rfl ?_
  refine tg_iadd X dX6_byteAt_9 ?_
  obtain ⟨y1, ey1, by1, h⟩ := tg_rdE h
  refine tg_iald X 2 rfl ey1 by1 dX6_byteAt_10 ?_
  exact tg_iret X h rfl dX6_byteAt_11
theorem cm_X6_byteAt (l : Launch) (D : va_G) (cy : Bool → ClassId) (ad : Nat → Nat) (tS : Nat) {S Sf : tg_S} {v1 : Int32} {v2 : Int32} {r : Int32} (h : f_X6_byteAt  S v1 v2 = some (Sf, r)) : tg_Met l yX6_byteAt cX6_byteAt 3 (some .int) zr_X6_byteAt tauC D cy ad tS S [.ref (ad 1), .int v1, .int v2] Sf (some (.int r)) := tg_mk (by decide +kernel) trivial (Nat.le_of_ble_eq_true rfl) (fun p e s m args below meth c Q A X => w_X6_byteAt_0 X S v1 v2 h)
-- X6_callOf
def zr_X6_callOf : Room := { frames := 0, cells := 0, slots := 0, locals := 0 }
theorem dX6_callOf_0 : decode cX6_callOf 0 = .ok (.iload_n 0, 1) := by decide +kernel
theorem dX6_callOf_1 : decode cX6_callOf 1 = .ok (.lookupswitch 41 #[(104, 39), (112, 37), (114, 35)], 35) := by decide +kernel
theorem dX6_callOf_36 : decode cX6_callOf 36 = .ok (.iconst 0, 1) := by decide +kernel
theorem dX6_callOf_37 : decode cX6_callOf 37 = .ok (.ireturn, 1) := by decide +kernel
theorem dX6_callOf_38 : decode cX6_callOf 38 = .ok (.iconst 1, 1) := by decide +kernel
theorem dX6_callOf_39 : decode cX6_callOf 39 = .ok (.ireturn, 1) := by decide +kernel
theorem dX6_callOf_40 : decode cX6_callOf 40 = .ok (.iconst 2, 1) := by decide +kernel
theorem dX6_callOf_41 : decode cX6_callOf 41 = .ok (.ireturn, 1) := by decide +kernel
theorem dX6_callOf_42 : decode cX6_callOf 42 = .ok (.iconst (-1), 1) := by decide +kernel
theorem dX6_callOf_43 : decode cX6_callOf 43 = .ok (.ireturn, 1) := by decide +kernel
set_option maxRecDepth 20000 in
set_option maxHeartbeats 4000000 in
theorem w_X6_callOf_0 {x : tg_X} {Sf : tg_S} {r : Int32} (X : tg_M tauC x cX6_callOf 1 RX6 zr_X6_callOf (some .int) Sf (some (.int r))) (S : tg_S) (v0 : Int32) (h : f_X6_callOf  S v0 = some (Sf, r)) : tg_G tauC x S 0 [(0, .int v0)] [] := by
  unfold f_X6_callOf at h
  refine tg_iload_n X dX6_callOf_0 rfl 0 rfl ?_
  by_cases c1 : v0 = 104
  · have h := tg_ifT c1 h
    refine tg_lsw (tgt := 40) (off := 39) X dX6_callOf_1 (by decide) (by rw [c1]; decide) (by decide) ?_
    refine tg_iconst X dX6_callOf_40 tk_i2 ?_
    exact tg_iret X h rfl dX6_callOf_41
  have h := tg_ifF c1 h
  by_cases c2 : v0 = 112
  · have h := tg_ifT c2 h
    refine tg_lsw (tgt := 38) (off := 37) X dX6_callOf_1 (by decide) (by rw [c2]; decide) (by decide) ?_
    refine tg_iconst X dX6_callOf_38 tk_i1 ?_
    exact tg_iret X h rfl dX6_callOf_39
  have h := tg_ifF c2 h
  by_cases c3 : v0 = 114
  · have h := tg_ifT c3 h
    refine tg_lsw (tgt := 36) (off := 35) X dX6_callOf_1 (by decide) (by rw [c3]; decide) (by decide) ?_
    refine tg_iconst X dX6_callOf_36 tk_i0 ?_
    exact tg_iret X h rfl dX6_callOf_37
  have h := tg_ifF c3 h
  refine tg_lsw (tgt := 42) (off := 41) X dX6_callOf_1 (by decide) (by have q104 := tg_nei (b := 104) (z := 104) rfl c1; have q112 := tg_nei (b := 112) (z := 112) rfl c2; have q114 := tg_nei (b := 114) (z := 114) rfl c3; exact tg_lsD3 q104 q112 q114) (by decide) ?_
  refine tg_iconst X dX6_callOf_42 tk_im1 ?_
  exact tg_iret X h rfl dX6_callOf_43
theorem cm_X6_callOf (l : Launch) (D : va_G) (cy : Bool → ClassId) (ad : Nat → Nat) (tS : Nat) {S Sf : tg_S} {v0 : Int32} {r : Int32} (h : f_X6_callOf  S v0 = some (Sf, r)) : tg_Met l yX6_callOf cX6_callOf 1 (some .int) zr_X6_callOf tauC D cy ad tS S [.int v0] Sf (some (.int r)) := tg_mk (by decide +kernel) trivial (Nat.le_of_ble_eq_true rfl) (fun p e s m args below meth c Q A X => w_X6_callOf_0 X S v0 h)
-- X6_teamGoesOn
def zr_X6_teamGoesOn : Room := { frames := 0, cells := 0, slots := 0, locals := 0 }
theorem dX6_teamGoesOn_0 : decode cX6_teamGoesOn 0 = .ok (.iload_n 0, 1) := by decide +kernel
theorem dX6_teamGoesOn_1 : decode cX6_teamGoesOn 1 = .ok (.lookupswitch 63 #[(0, 27), (3, 51)], 27) := by decide +kernel
theorem dX6_teamGoesOn_28 : decode cX6_teamGoesOn 28 = .ok (.iload_n 1, 1) := by decide +kernel
theorem dX6_teamGoesOn_29 : decode cX6_teamGoesOn 29 = .ok (.bipush 104, 2) := by decide +kernel
theorem dX6_teamGoesOn_31 : decode cX6_teamGoesOn 31 = .ok (.if_icmp .eq 15, 3) := by decide +kernel
theorem dX6_teamGoesOn_34 : decode cX6_teamGoesOn 34 = .ok (.iload_n 1, 1) := by decide +kernel
theorem dX6_teamGoesOn_35 : decode cX6_teamGoesOn 35 = .ok (.bipush 108, 2) := by decide +kernel
theorem dX6_teamGoesOn_37 : decode cX6_teamGoesOn 37 = .ok (.if_icmp .eq 9, 3) := by decide +kernel
theorem dX6_teamGoesOn_40 : decode cX6_teamGoesOn 40 = .ok (.iload_n 1, 1) := by decide +kernel
theorem dX6_teamGoesOn_41 : decode cX6_teamGoesOn 41 = .ok (.bipush 97, 2) := by decide +kernel
theorem dX6_teamGoesOn_43 : decode cX6_teamGoesOn 43 = .ok (.if_icmp .ne 7, 3) := by decide +kernel
theorem dX6_teamGoesOn_46 : decode cX6_teamGoesOn 46 = .ok (.iconst 1, 1) := by decide +kernel
theorem dX6_teamGoesOn_47 : decode cX6_teamGoesOn 47 = .ok (.goto 4, 3) := by decide +kernel
theorem dX6_teamGoesOn_50 : decode cX6_teamGoesOn 50 = .ok (.iconst 0, 1) := by decide +kernel
theorem dX6_teamGoesOn_51 : decode cX6_teamGoesOn 51 = .ok (.ireturn, 1) := by decide +kernel
theorem dX6_teamGoesOn_52 : decode cX6_teamGoesOn 52 = .ok (.iload_n 1, 1) := by decide +kernel
theorem dX6_teamGoesOn_53 : decode cX6_teamGoesOn 53 = .ok (.bipush 59, 2) := by decide +kernel
theorem dX6_teamGoesOn_55 : decode cX6_teamGoesOn 55 = .ok (.if_icmp .ne 7, 3) := by decide +kernel
theorem dX6_teamGoesOn_58 : decode cX6_teamGoesOn 58 = .ok (.iconst 1, 1) := by decide +kernel
theorem dX6_teamGoesOn_59 : decode cX6_teamGoesOn 59 = .ok (.goto 4, 3) := by decide +kernel
theorem dX6_teamGoesOn_62 : decode cX6_teamGoesOn 62 = .ok (.iconst 0, 1) := by decide +kernel
theorem dX6_teamGoesOn_63 : decode cX6_teamGoesOn 63 = .ok (.ireturn, 1) := by decide +kernel
theorem dX6_teamGoesOn_64 : decode cX6_teamGoesOn 64 = .ok (.iload_n 1, 1) := by decide +kernel
theorem dX6_teamGoesOn_65 : decode cX6_teamGoesOn 65 = .ok (.bipush 49, 2) := by decide +kernel
theorem dX6_teamGoesOn_67 : decode cX6_teamGoesOn 67 = .ok (.if_icmp .lt 13, 3) := by decide +kernel
theorem dX6_teamGoesOn_70 : decode cX6_teamGoesOn 70 = .ok (.iload_n 1, 1) := by decide +kernel
theorem dX6_teamGoesOn_71 : decode cX6_teamGoesOn 71 = .ok (.bipush 57, 2) := by decide +kernel
theorem dX6_teamGoesOn_73 : decode cX6_teamGoesOn 73 = .ok (.if_icmp .gt 7, 3) := by decide +kernel
theorem dX6_teamGoesOn_76 : decode cX6_teamGoesOn 76 = .ok (.iconst 1, 1) := by decide +kernel
theorem dX6_teamGoesOn_77 : decode cX6_teamGoesOn 77 = .ok (.goto 4, 3) := by decide +kernel
theorem dX6_teamGoesOn_80 : decode cX6_teamGoesOn 80 = .ok (.iconst 0, 1) := by decide +kernel
theorem dX6_teamGoesOn_81 : decode cX6_teamGoesOn 81 = .ok (.ireturn, 1) := by decide +kernel
set_option maxRecDepth 20000 in
set_option maxHeartbeats 4000000 in
theorem w_X6_teamGoesOn_0 {x : tg_X} {Sf : tg_S} {r : Int32} (X : tg_M tauC x cX6_teamGoesOn 2 RX6 zr_X6_teamGoesOn (some .boolean) Sf (some (.int r))) (S : tg_S) (v0 : Int32) (v1 : Int32) (h : f_X6_teamGoesOn  S v0 v1 = some (Sf, r)) : tg_G tauC x S 0 [(0, .int v0), (1, .int v1)] [] := by
  unfold f_X6_teamGoesOn at h
  refine tg_iload_n X dX6_teamGoesOn_0 rfl 0 rfl ?_
  by_cases c1 : v0 = 0
  · have h := tg_ifT c1 h
    refine tg_lsw (tgt := 28) (off := 27) X dX6_teamGoesOn_1 (by decide) (by rw [c1]; decide) (by decide) ?_
    refine tg_iload_n X dX6_teamGoesOn_28 rfl 1 rfl ?_
    refine tg_bipush X dX6_teamGoesOn_29 tk_b104 ?_
    refine tg_icmp_eq (tgt := 46) X dX6_teamGoesOn_31 (by decide) (fun c2 => ?_) (fun c2 => ?_)
    · have h := tg_ifT c2 h
      refine tg_iconst X dX6_teamGoesOn_46 tk_i1 ?_
      refine tg_goto (tgt := 51) X dX6_teamGoesOn_47 (by decide) ?_
      exact tg_iret X h rfl dX6_teamGoesOn_51
    · have h := tg_ifF c2 h
      refine tg_iload_n X dX6_teamGoesOn_34 rfl 1 rfl ?_
      refine tg_bipush X dX6_teamGoesOn_35 tk_b108 ?_
      refine tg_icmp_eq (tgt := 46) X dX6_teamGoesOn_37 (by decide) (fun c3 => ?_) (fun c3 => ?_)
      · have h := tg_ifT c3 h
        refine tg_iconst X dX6_teamGoesOn_46 tk_i1 ?_
        refine tg_goto (tgt := 51) X dX6_teamGoesOn_47 (by decide) ?_
        exact tg_iret X h rfl dX6_teamGoesOn_51
      · have h := tg_ifF c3 h
        refine tg_iload_n X dX6_teamGoesOn_40 rfl 1 rfl ?_
        refine tg_bipush X dX6_teamGoesOn_41 tk_b97 ?_
        refine tg_icmp_ne (tgt := 50) X dX6_teamGoesOn_43 (by decide) (fun c4 => ?_) (fun c4 => ?_)
        · have h := tg_ifF c4 h
          refine tg_iconst X dX6_teamGoesOn_50 tk_i0 ?_
          exact tg_iret X h rfl dX6_teamGoesOn_51
        · have h := tg_ifT c4 h
          refine tg_iconst X dX6_teamGoesOn_46 tk_i1 ?_
          refine tg_goto (tgt := 51) X dX6_teamGoesOn_47 (by decide) ?_
          exact tg_iret X h rfl dX6_teamGoesOn_51
  have h := tg_ifF c1 h
  by_cases c5 : v0 = 3
  · have h := tg_ifT c5 h
    refine tg_lsw (tgt := 52) (off := 51) X dX6_teamGoesOn_1 (by decide) (by rw [c5]; decide) (by decide) ?_
    refine tg_iload_n X dX6_teamGoesOn_52 rfl 1 rfl ?_
    refine tg_bipush X dX6_teamGoesOn_53 tk_b59 ?_
    refine tg_icmp_ne (tgt := 62) X dX6_teamGoesOn_55 (by decide) (fun c6 => ?_) (fun c6 => ?_)
    · have h := tg_ifF c6 h
      refine tg_iconst X dX6_teamGoesOn_62 tk_i0 ?_
      exact tg_iret X h rfl dX6_teamGoesOn_63
    · have h := tg_ifT c6 h
      refine tg_iconst X dX6_teamGoesOn_58 tk_i1 ?_
      refine tg_goto (tgt := 63) X dX6_teamGoesOn_59 (by decide) ?_
      exact tg_iret X h rfl dX6_teamGoesOn_63
  have h := tg_ifF c5 h
  refine tg_lsw (tgt := 64) (off := 63) X dX6_teamGoesOn_1 (by decide) (by have q0 := tg_nei (b := 0) (z := 0) rfl c1; have q3 := tg_nei (b := 3) (z := 3) rfl c5; exact tg_lsD2 q0 q3) (by decide) ?_
  refine tg_iload_n X dX6_teamGoesOn_64 rfl 1 rfl ?_
  refine tg_bipush X dX6_teamGoesOn_65 tk_b49 ?_
  refine tg_icmp_lt (tgt := 80) X dX6_teamGoesOn_67 (by decide) (fun c7 => ?_) (fun c7 => ?_)
  · have h := tg_ifT c7 h
    refine tg_iconst X dX6_teamGoesOn_80 tk_i0 ?_
    exact tg_iret X h rfl dX6_teamGoesOn_81
  · have h := tg_ifF c7 h
    refine tg_iload_n X dX6_teamGoesOn_70 rfl 1 rfl ?_
    refine tg_bipush X dX6_teamGoesOn_71 tk_b57 ?_
    refine tg_icmp_gt (tgt := 80) X dX6_teamGoesOn_73 (by decide) (fun c8 => ?_) (fun c8 => ?_)
    · have h := tg_ifT c8 h
      refine tg_iconst X dX6_teamGoesOn_80 tk_i0 ?_
      exact tg_iret X h rfl dX6_teamGoesOn_81
    · have h := tg_ifF c8 h
      refine tg_iconst X dX6_teamGoesOn_76 tk_i1 ?_
      refine tg_goto (tgt := 81) X dX6_teamGoesOn_77 (by decide) ?_
      exact tg_iret X h rfl dX6_teamGoesOn_81
theorem cm_X6_teamGoesOn (l : Launch) (D : va_G) (cy : Bool → ClassId) (ad : Nat → Nat) (tS : Nat) {S Sf : tg_S} {v0 : Int32} {v1 : Int32} {r : Int32} (h : f_X6_teamGoesOn  S v0 v1 = some (Sf, r)) : tg_Met l yX6_teamGoesOn cX6_teamGoesOn 2 (some .boolean) zr_X6_teamGoesOn tauC D cy ad tS S [.int v0, .int v1] Sf (some (.int r)) := tg_mk (by decide +kernel) trivial (Nat.le_of_ble_eq_true rfl) (fun p e s m args below meth c Q A X => w_X6_teamGoesOn_0 X S v0 v1 h)
-- X6_firstFault
def zr_X6_firstFault : Room := { frames := 1, cells := 0, slots := 0, locals := 22 }
theorem dX6_firstFault_0 : decode cX6_firstFault 0 = .ok (.aload_n 0, 1) := by decide +kernel
theorem dX6_firstFault_1 : decode cX6_firstFault 1 = .ok (.getfield 15, 3) := by decide +kernel
theorem dX6_firstFault_4 : decode cX6_firstFault 4 = .ok (.iload_n 1, 1) := by decide +kernel
theorem dX6_firstFault_5 : decode cX6_firstFault 5 = .ok (.iaload, 1) := by decide +kernel
theorem dX6_firstFault_6 : decode cX6_firstFault 6 = .ok (.istore_n 2, 1) := by decide +kernel
theorem dX6_firstFault_7 : decode cX6_firstFault 7 = .ok (.iconst 0, 1) := by decide +kernel
theorem dX6_firstFault_8 : decode cX6_firstFault 8 = .ok (.istore_n 3, 1) := by decide +kernel
theorem dX6_firstFault_9 : decode cX6_firstFault 9 = .ok (.iload_n 3, 1) := by decide +kernel
theorem dX6_firstFault_10 : decode cX6_firstFault 10 = .ok (.iload_n 2, 1) := by decide +kernel
theorem dX6_firstFault_11 : decode cX6_firstFault 11 = .ok (.if_icmp .ge 47, 3) := by decide +kernel
theorem dX6_firstFault_14 : decode cX6_firstFault 14 = .ok (.aload_n 0, 1) := by decide +kernel
theorem dX6_firstFault_15 : decode cX6_firstFault 15 = .ok (.iload_n 1, 1) := by decide +kernel
theorem dX6_firstFault_16 : decode cX6_firstFault 16 = .ok (.iload_n 3, 1) := by decide +kernel
theorem dX6_firstFault_17 : decode cX6_firstFault 17 = .ok (.invokevirtual 22, 3) := by decide +kernel
theorem dX6_firstFault_20 : decode cX6_firstFault 20 = .ok (.istore 4, 2) := by decide +kernel
theorem dX6_firstFault_22 : decode cX6_firstFault 22 = .ok (.iload_n 1, 1) := by decide +kernel
theorem dX6_firstFault_23 : decode cX6_firstFault 23 = .ok (.iconst 2, 1) := by decide +kernel
theorem dX6_firstFault_24 : decode cX6_firstFault 24 = .ok (.if_icmp .ge 17, 3) := by decide +kernel
theorem dX6_firstFault_27 : decode cX6_firstFault 27 = .ok (.iload_n 3, 1) := by decide +kernel
theorem dX6_firstFault_28 : decode cX6_firstFault 28 = .ok (.iconst 4, 1) := by decide +kernel
theorem dX6_firstFault_29 : decode cX6_firstFault 29 = .ok (.irem, 1) := by decide +kernel
theorem dX6_firstFault_30 : decode cX6_firstFault 30 = .ok (.iload 4, 2) := by decide +kernel
theorem dX6_firstFault_32 : decode cX6_firstFault 32 = .ok (.invokestatic 26, 3) := by decide +kernel
theorem dX6_firstFault_35 : decode cX6_firstFault 35 = .ok (.ifCond .ne 17, 3) := by decide +kernel
theorem dX6_firstFault_38 : decode cX6_firstFault 38 = .ok (.goto 12, 3) := by decide +kernel
theorem dX6_firstFault_41 : decode cX6_firstFault 41 = .ok (.iload 4, 2) := by decide +kernel
theorem dX6_firstFault_43 : decode cX6_firstFault 43 = .ok (.invokestatic 30, 3) := by decide +kernel
theorem dX6_firstFault_46 : decode cX6_firstFault 46 = .ok (.iconst (-1), 1) := by decide +kernel
theorem dX6_firstFault_47 : decode cX6_firstFault 47 = .ok (.if_icmp .ne 5, 3) := by decide +kernel
theorem dX6_firstFault_50 : decode cX6_firstFault 50 = .ok (.iload_n 3, 1) := by decide +kernel
theorem dX6_firstFault_51 : decode cX6_firstFault 51 = .ok (.ireturn, 1) := by decide +kernel
theorem dX6_firstFault_52 : decode cX6_firstFault 52 = .ok (.iinc 3 1, 3) := by decide +kernel
theorem dX6_firstFault_55 : decode cX6_firstFault 55 = .ok (.goto (-46), 3) := by decide +kernel
theorem dX6_firstFault_58 : decode cX6_firstFault 58 = .ok (.iload_n 1, 1) := by decide +kernel
theorem dX6_firstFault_59 : decode cX6_firstFault 59 = .ok (.iconst 2, 1) := by decide +kernel
theorem dX6_firstFault_60 : decode cX6_firstFault 60 = .ok (.if_icmp .ge 14, 3) := by decide +kernel
theorem dX6_firstFault_63 : decode cX6_firstFault 63 = .ok (.iload_n 2, 1) := by decide +kernel
theorem dX6_firstFault_64 : decode cX6_firstFault 64 = .ok (.ifCond .eq 10, 3) := by decide +kernel
theorem dX6_firstFault_67 : decode cX6_firstFault 67 = .ok (.iload_n 2, 1) := by decide +kernel
theorem dX6_firstFault_68 : decode cX6_firstFault 68 = .ok (.iconst 4, 1) := by decide +kernel
theorem dX6_firstFault_69 : decode cX6_firstFault 69 = .ok (.irem, 1) := by decide +kernel
theorem dX6_firstFault_70 : decode cX6_firstFault 70 = .ok (.iconst 3, 1) := by decide +kernel
theorem dX6_firstFault_71 : decode cX6_firstFault 71 = .ok (.if_icmp .ne 7, 3) := by decide +kernel
theorem dX6_firstFault_74 : decode cX6_firstFault 74 = .ok (.iconst 1, 1) := by decide +kernel
theorem dX6_firstFault_75 : decode cX6_firstFault 75 = .ok (.goto 4, 3) := by decide +kernel
theorem dX6_firstFault_78 : decode cX6_firstFault 78 = .ok (.iconst 0, 1) := by decide +kernel
theorem dX6_firstFault_79 : decode cX6_firstFault 79 = .ok (.istore_n 3, 1) := by decide +kernel
theorem dX6_firstFault_80 : decode cX6_firstFault 80 = .ok (.iload_n 3, 1) := by decide +kernel
theorem dX6_firstFault_81 : decode cX6_firstFault 81 = .ok (.ifCond .eq 7, 3) := by decide +kernel
theorem dX6_firstFault_84 : decode cX6_firstFault 84 = .ok (.iconst (-1), 1) := by decide +kernel
theorem dX6_firstFault_85 : decode cX6_firstFault 85 = .ok (.goto 4, 3) := by decide +kernel
theorem dX6_firstFault_88 : decode cX6_firstFault 88 = .ok (.iload_n 2, 1) := by decide +kernel
theorem dX6_firstFault_89 : decode cX6_firstFault 89 = .ok (.ireturn, 1) := by decide +kernel
set_option maxRecDepth 20000 in
set_option maxHeartbeats 4000000 in
theorem w_X6_firstFault_79 {x : tg_X} {Sf : tg_S} {r : Int32} (X : tg_M tauC x cX6_firstFault 5 RX6 zr_X6_firstFault (some .int) Sf (some (.int r))) (S : tg_S) (v2 : Int32) (s0 : Int32) (h : f_X6_firstFault_79  S v2 s0 = some (Sf, r)) : tg_G tauC x S 79 [(2, .int v2)] [.int s0] := by
  unfold f_X6_firstFault_79 at h
  refine tg_istore_n (lv2 := [(3, .int s0), (2, .int v2)]) X dX6_firstFault_79 rfl (by decide) rfl ?_
  refine tg_iload_n X dX6_firstFault_80 rfl 0 rfl ?_
  refine tg_if_eq (tgt := 88) X dX6_firstFault_81 (by decide) (fun c1 => ?_) (fun c1 => ?_)
  · have h := tg_ifT c1 h
    refine tg_iload_n X dX6_firstFault_88 rfl 1 rfl ?_
    exact tg_iret X h rfl dX6_firstFault_89
  · have h := tg_ifF c1 h
    refine tg_iconst X dX6_firstFault_84 tk_im1 ?_
    refine tg_goto (tgt := 89) X dX6_firstFault_85 (by decide) ?_
    exact tg_iret X h rfl dX6_firstFault_89
set_option maxRecDepth 20000 in
set_option maxHeartbeats 4000000 in
theorem w_X6_firstFault_74 {x : tg_X} {Sf : tg_S} {r : Int32} (X : tg_M tauC x cX6_firstFault 5 RX6 zr_X6_firstFault (some .int) Sf (some (.int r))) (S : tg_S) (v2 : Int32) (h : f_X6_firstFault_74  S v2 = some (Sf, r)) : tg_G tauC x S 74 [(2, .int v2)] [] := by
  unfold f_X6_firstFault_74 at h
  refine tg_iconst X dX6_firstFault_74 tk_i1 ?_
  refine tg_goto (tgt := 79) X dX6_firstFault_75 (by decide) ?_
  exact w_X6_firstFault_79 X  S v2 1 h
set_option maxRecDepth 20000 in
set_option maxHeartbeats 4000000 in
theorem w_X6_firstFault_52 {x : tg_X} {Sf : tg_S} {r : Int32} {rec9 : tg_S → Int32 → Int32 → Int32 → Option (tg_S × Int32)} (X : tg_M tauC x cX6_firstFault 5 RX6 zr_X6_firstFault (some .int) Sf (some (.int r))) (hr9 : ∀ (S : tg_S) (v1 : Int32) (v2 : Int32) (v3 : Int32), rec9 S v1 v2 v3 = some (Sf, r) → tg_G tauC x S 9 [(0, .ref (tg_ad x 1)), (1, .int v1), (2, .int v2), (3, .int v3)] []) (S : tg_S) (v1 : Int32) (v2 : Int32) (v3 : Int32) (h : f_X6_firstFault_52 rec9 S v1 v2 v3 = some (Sf, r)) : tg_G tauC x S 52 [(0, .ref (tg_ad x 1)), (1, .int v1), (2, .int v2), (3, .int v3)] [] := by
  unfold f_X6_firstFault_52 at h
  obtain ⟨y1, ey1⟩ : ∃ z : Int32, z = v3 + 1 := ⟨_, rfl⟩
  have h := tg_nmE ey1 h
  refine tg_iinc (lv2 := [(3, .int y1), (0, .ref (tg_ad x 1)), (1, .int v1), (2, .int v2)]) X dX6_firstFault_52 3 rfl tk_i1 ey1 (by decide) rfl ?_
  refine tg_goto (tgt := 9) X dX6_firstFault_55 (by decide) ?_
  refine tg_re [1, 2, 3, 0] rfl ?_
  exact hr9 S v1 v2 y1 h
set_option maxRecDepth 20000 in
set_option maxHeartbeats 4000000 in
theorem w_X6_firstFault_9 {x : tg_X} {Sf : tg_S} {r : Int32} {rec9 : tg_S → Int32 → Int32 → Int32 → Option (tg_S × Int32)} (X : tg_M tauC x cX6_firstFault 5 RX6 zr_X6_firstFault (some .int) Sf (some (.int r))) (hr9 : ∀ (S : tg_S) (v1 : Int32) (v2 : Int32) (v3 : Int32), rec9 S v1 v2 v3 = some (Sf, r) → tg_G tauC x S 9 [(0, .ref (tg_ad x 1)), (1, .int v1), (2, .int v2), (3, .int v3)] []) (S : tg_S) (v1 : Int32) (v2 : Int32) (v3 : Int32) (h : f_X6_firstFault_9 rec9 S v1 v2 v3 = some (Sf, r)) : tg_G tauC x S 9 [(0, .ref (tg_ad x 1)), (1, .int v1), (2, .int v2), (3, .int v3)] [] := by
  unfold f_X6_firstFault_9 at h
  refine tg_iload_n X dX6_firstFault_9 rfl 3 rfl ?_
  refine tg_iload_n X dX6_firstFault_10 rfl 2 rfl ?_
  refine tg_icmp_ge (tgt := 58) X dX6_firstFault_11 (by decide) (fun c1 => ?_) (fun c1 => ?_)
  · have h := tg_ifT c1 h
    refine tg_iload_n X dX6_firstFault_58 rfl 1 rfl ?_
    refine tg_iconst X dX6_firstFault_59 tk_i2 ?_
    refine tg_icmp_ge (tgt := 74) X dX6_firstFault_60 (by decide) (fun c2 => ?_) (fun c2 => ?_)
    · have h := tg_ifT c2 h
      refine tg_re [2] rfl ?_
      exact w_X6_firstFault_74 X  S v2 h
    · have h := tg_ifF c2 h
      refine tg_iload_n X dX6_firstFault_63 rfl 2 rfl ?_
      refine tg_if_eq (tgt := 74) X dX6_firstFault_64 (by decide) (fun c3 => ?_) (fun c3 => ?_)
      · have h := tg_ifT c3 h
        refine tg_re [2] rfl ?_
        exact w_X6_firstFault_74 X  S v2 h
      · have h := tg_ifF c3 h
        refine tg_iload_n X dX6_firstFault_67 rfl 2 rfl ?_
        refine tg_iconst X dX6_firstFault_68 tk_i4 ?_
        refine tg_irem X dX6_firstFault_69 (by decide) ?_
        refine tg_iconst X dX6_firstFault_70 tk_i3 ?_
        refine tg_icmp_ne (tgt := 78) X dX6_firstFault_71 (by decide) (fun c4 => ?_) (fun c4 => ?_)
        · have h := tg_ifF c4 h
          refine tg_iconst X dX6_firstFault_78 tk_i0 ?_
          refine tg_re [2] rfl ?_
          exact w_X6_firstFault_79 X  S v2 0 h
        · have h := tg_ifT c4 h
          refine tg_re [2] rfl ?_
          exact w_X6_firstFault_74 X  S v2 h
  · have h := tg_ifF c1 h
    refine tg_aload_n X dX6_firstFault_14 rfl 0 rfl ?_
    refine tg_iload_n X dX6_firstFault_15 rfl 1 rfl ?_
    refine tg_iload_n X dX6_firstFault_16 rfl 3 rfl ?_
    obtain ⟨S5, r6, kS5, h⟩ := tg_bdE h
    refine tg_callV (As := [.int v1, .int v3]) (rest := []) X 1 (cm_X6_byteAt _ _ _ _ _ kS5) yy_X6_byteAt wv_X6_byteAt ws_X6_byteAt wm_X6_22 rfl cl_X6.1 ⟨rfl, rfl, Nat.le_of_ble_eq_true rfl, Nat.le_of_ble_eq_true rfl⟩ rfl rfl (Nat.le_of_ble_eq_true rfl) dX6_firstFault_17 rfl ?_
    refine tg_istore (lv2 := [(4, .int r6), (0, .ref (tg_ad x 1)), (1, .int v1), (2, .int v2), (3, .int v3)]) X dX6_firstFault_20 (by decide) rfl ?_
    refine tg_iload_n X dX6_firstFault_22 rfl 2 rfl ?_
    refine tg_iconst X dX6_firstFault_23 tk_i2 ?_
    refine tg_icmp_ge (tgt := 41) X dX6_firstFault_24 (by decide) (fun c7 => ?_) (fun c7 => ?_)
    · have h := tg_ifT c7 h
      refine tg_iload X dX6_firstFault_41 0 rfl ?_
      obtain ⟨S8, r9, kS8, h⟩ := tg_bdE h
      refine tg_callS (As := [.int r6]) (rest := []) X (cm_X6_callOf _ _ _ _ _ kS8) yy_X6_callOf wt_X6_callOf wm_X6_30 ⟨rfl, rfl, Nat.le_of_ble_eq_true rfl, Nat.le_of_ble_eq_true rfl⟩ rfl rfl (Nat.le_of_ble_eq_true rfl) dX6_firstFault_43 rfl ?_
      refine tg_iconst X dX6_firstFault_46 tk_im1 ?_
      refine tg_icmp_ne (tgt := 52) X dX6_firstFault_47 (by decide) (fun c10 => ?_) (fun c10 => ?_)
      · have h := tg_ifF c10 h
        refine tg_re [1, 2, 3, 4] rfl ?_
        exact w_X6_firstFault_52 X hr9 S8 v1 v2 v3 h
      · have h := tg_ifT c10 h
        refine tg_iload_n X dX6_firstFault_50 rfl 4 rfl ?_
        exact tg_iret X h rfl dX6_firstFault_51
    · have h := tg_ifF c7 h
      refine tg_iload_n X dX6_firstFault_27 rfl 4 rfl ?_
      refine tg_iconst X dX6_firstFault_28 tk_i4 ?_
      refine tg_irem X dX6_firstFault_29 (by decide) ?_
      refine tg_iload X dX6_firstFault_30 0 rfl ?_
      obtain ⟨S11, r12, kS11, h⟩ := tg_bdE h
      refine tg_callS (As := [.int (v3 - v3 / 4 * 4), .int r6]) (rest := []) X (cm_X6_teamGoesOn _ _ _ _ _ kS11) yy_X6_teamGoesOn wt_X6_teamGoesOn wm_X6_26 ⟨rfl, rfl, Nat.le_of_ble_eq_true rfl, Nat.le_of_ble_eq_true rfl⟩ rfl rfl (Nat.le_of_ble_eq_true rfl) dX6_firstFault_32 rfl ?_
      refine tg_if_ne (tgt := 52) X dX6_firstFault_35 (by decide) (fun c13 => ?_) (fun c13 => ?_)
      · have h := tg_ifF c13 h
        refine tg_re [1, 2, 3, 4] rfl ?_
        exact w_X6_firstFault_52 X hr9 S11 v1 v2 v3 h
      · have h := tg_ifT c13 h
        refine tg_goto (tgt := 50) X dX6_firstFault_38 (by decide) ?_
        refine tg_iload_n X dX6_firstFault_50 rfl 4 rfl ?_
        exact tg_iret X h rfl dX6_firstFault_51
theorem wl_X6_firstFault_9 {x : tg_X} {Sf : tg_S} {r : Int32} (X : tg_M tauC x cX6_firstFault 5 RX6 zr_X6_firstFault (some .int) Sf (some (.int r))) : ∀ (n : Nat) (S : tg_S) (v1 : Int32) (v2 : Int32) (v3 : Int32) (h : L_X6_firstFault_9  n S v1 v2 v3 = some (Sf, r)), tg_G tauC x S 9 [(0, .ref (tg_ad x 1)), (1, .int v1), (2, .int v2), (3, .int v3)] [] := by
  intro n
  induction n with
  | zero => intro S v1 v2 v3 h; cases h
  | succ n ih => intro S v1 v2 v3 h; exact w_X6_firstFault_9 X  ih S v1 v2 v3 h
set_option maxRecDepth 20000 in
set_option maxHeartbeats 4000000 in
theorem w_X6_firstFault_0 {x : tg_X} {Sf : tg_S} {r : Int32} (X : tg_M tauC x cX6_firstFault 5 RX6 zr_X6_firstFault (some .int) Sf (some (.int r))) (S : tg_S) (v1 : Int32) (h : f_X6_firstFault  S v1 = some (Sf, r)) : tg_G tauC x S 0 [(0, .ref (tg_ad x 1)), (1, .int v1)] [] := by
  unfold f_X6_firstFault at h
  refine tg_aload_n X dX6_firstFault_0 rfl 0 rfl ?_
  refine tg_getr X 1 rfl cl_X6 1 (by decide) rfl wf_X6_15 dX6_firstFault_1 ?_
  refine tg_iload_n X dX6_firstFault_4 rfl 1 rfl ?_
  obtain ⟨y1, ey1, by1, h⟩ := tg_rdE h
  refine tg_iald X 3 rfl ey1 by1 dX6_firstFault_5 ?_
  refine tg_istore_n (lv2 := [(2, .int y1), (0, .ref (tg_ad x 1)), (1, .int v1)]) X dX6_firstFault_6 rfl (by decide) rfl ?_
  refine tg_iconst X dX6_firstFault_7 tk_i0 ?_
  refine tg_istore_n (lv2 := [(3, .int 0), (2, .int y1), (0, .ref (tg_ad x 1)), (1, .int v1)]) X dX6_firstFault_8 rfl (by decide) rfl ?_
  refine tg_re [2, 3, 1, 0] rfl ?_
  exact wl_X6_firstFault_9 X  tg_F S v1 y1 0 h
theorem cm_X6_firstFault (l : Launch) (D : va_G) (cy : Bool → ClassId) (ad : Nat → Nat) (tS : Nat) {S Sf : tg_S} {v1 : Int32} {r : Int32} (h : f_X6_firstFault  S v1 = some (Sf, r)) : tg_Met l yX6_firstFault cX6_firstFault 5 (some .int) zr_X6_firstFault tauC D cy ad tS S [.ref (ad 1), .int v1] Sf (some (.int r)) := tg_mk (by decide +kernel) trivial (Nat.le_of_ble_eq_true rfl) (fun p e s m args below meth c Q A X => w_X6_firstFault_0 X S v1 h)
end
