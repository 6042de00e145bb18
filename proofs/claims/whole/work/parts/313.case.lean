theorem dL_law_693 : decode cL_law 693 = .ok (.aload_n 1, 1) := by decide +kernel
theorem dL_law_694 : decode cL_law 694 = .ok (.aload_n 0, 1) := by decide +kernel
theorem dL_law_695 : decode cL_law 695 = .ok (.iload_n 3, 1) := by decide +kernel
theorem dL_law_696 : decode cL_law 696 = .ok (.iconst 1, 1) := by decide +kernel
theorem dL_law_697 : decode cL_law 697 = .ok (.iadd, 1) := by decide +kernel
theorem dL_law_698 : decode cL_law 698 = .ok (.iaload, 1) := by decide +kernel
theorem dL_law_699 : decode cL_law 699 = .ok (.aload_n 0, 1) := by decide +kernel
theorem dL_law_700 : decode cL_law 700 = .ok (.iload_n 3, 1) := by decide +kernel
theorem dL_law_701 : decode cL_law 701 = .ok (.iconst 2, 1) := by decide +kernel
theorem dL_law_702 : decode cL_law 702 = .ok (.iadd, 1) := by decide +kernel
theorem dL_law_703 : decode cL_law 703 = .ok (.iaload, 1) := by decide +kernel
theorem dL_law_704 : decode cL_law 704 = .ok (.invokevirtual 93, 3) := by decide +kernel
theorem dL_law_707 : decode cL_law 707 = .ok (.aload_n 2, 1) := by decide +kernel
theorem dL_law_708 : decode cL_law 708 = .ok (.aload_n 0, 1) := by decide +kernel
theorem dL_law_709 : decode cL_law 709 = .ok (.iload_n 3, 1) := by decide +kernel
theorem dL_law_710 : decode cL_law 710 = .ok (.iconst 1, 1) := by decide +kernel
theorem dL_law_711 : decode cL_law 711 = .ok (.iadd, 1) := by decide +kernel
theorem dL_law_712 : decode cL_law 712 = .ok (.iaload, 1) := by decide +kernel
theorem dL_law_713 : decode cL_law 713 = .ok (.aload_n 0, 1) := by decide +kernel
theorem dL_law_714 : decode cL_law 714 = .ok (.iload_n 3, 1) := by decide +kernel
theorem dL_law_715 : decode cL_law 715 = .ok (.iconst 2, 1) := by decide +kernel
theorem dL_law_716 : decode cL_law 716 = .ok (.iadd, 1) := by decide +kernel
theorem dL_law_717 : decode cL_law 717 = .ok (.iaload, 1) := by decide +kernel
theorem dL_law_718 : decode cL_law 718 = .ok (.invokevirtual 96, 3) := by decide +kernel
theorem dL_law_721 : decode cL_law 721 = .ok (.if_icmp .eq 548, 3) := by decide +kernel
theorem dL_law_724 : decode cL_law 724 = .ok (.iconst 0, 1) := by decide +kernel
theorem dL_law_725 : decode cL_law 725 = .ok (.ireturn, 1) := by decide +kernel
theorem wq_X7_swap : tg_Y0 yX7_swap cX7_swap 3 (some .int) 2 ∧ Cond.instanceMethod yX7_swap ∈ tg_gG ∧ Cond.selects yX7_swap.cls yX7_swap yX7_swap ∈ tg_gG ∧ Cond.methodLink RL 93 yX7_swap ∈ tg_gG := ⟨⟨tg_mem (List.mem_of_getElem? (i := 570) (by decide +kernel)) (by decide +kernel), wi_X7, by decide +kernel, by decide +kernel, by decide +kernel⟩, tg_mem (List.mem_of_getElem? (i := 568) (by decide +kernel)) (by decide +kernel), tg_mem (List.mem_of_getElem? (i := 569) (by decide +kernel)) (by decide +kernel), tg_mem (List.mem_of_getElem? (i := 567) (by decide +kernel)) (by decide +kernel)⟩
theorem wq_X8_swap : tg_Y0 yX8_swap cX8_swap 3 (some .int) 2 ∧ Cond.instanceMethod yX8_swap ∈ tg_gG ∧ Cond.selects yX8_swap.cls yX8_swap yX8_swap ∈ tg_gG ∧ Cond.methodLink RL 96 yX8_swap ∈ tg_gG := ⟨⟨tg_mem (List.mem_of_getElem? (i := 1144) (by decide +kernel)) (by decide +kernel), wi_X8, by decide +kernel, by decide +kernel, by decide +kernel⟩, tg_mem (List.mem_of_getElem? (i := 1142) (by decide +kernel)) (by decide +kernel), tg_mem (List.mem_of_getElem? (i := 1143) (by decide +kernel)) (by decide +kernel), tg_mem (List.mem_of_getElem? (i := 1141) (by decide +kernel)) (by decide +kernel)⟩
theorem lc_19 {x : tg_X} {b L : Nat} {xs : Nat → Int32} {bd : Nat → Nat} {S T : tg_S} {A : Nat → Nat → Nat} {i : Nat} (X : lq_M x b L xs) (hI : z_I S T A) (hi : i + 6 ≤ L) (k : ∀ S T A, z_I S T A → lq_G x b bd S T i 1269 []) : lq_G x b bd S T i 693 [] := by
  obtain ⟨S1, T1, r, A1, h1, h2, h3⟩ := e_swap S T A hI (xs (i + 1)) (xs (i + 2))
  refine lq_x1 X dL_law_693 ?_
  refine lq_arg X (j := 1) (by decide) (by decide) hi dL_law_694 dL_law_695 dL_law_696 dL_law_697 dL_law_698 ?_
  refine lq_arg X (j := 2) (by decide) (by decide) hi dL_law_699 dL_law_700 dL_law_701 dL_law_702 dL_law_703 ?_
  refine lq_C (st := []) X (cm_X7_swap _ _ _ _ _ h1) wq_X7_swap.1 wq_X7_swap.2.1 wq_X7_swap.2.2.1 wq_X7_swap.2.2.2 rfl ⟨rfl, rfl, Nat.le_of_ble_eq_true rfl, Nat.le_of_ble_eq_true rfl⟩ rfl rfl (Nat.le_of_ble_eq_true rfl) dL_law_704 rfl ?_
  refine lq_x2 X dL_law_707 ?_
  refine lq_arg X (j := 1) (by decide) (by decide) hi dL_law_708 dL_law_709 dL_law_710 dL_law_711 dL_law_712 ?_
  refine lq_arg X (j := 2) (by decide) (by decide) hi dL_law_713 dL_law_714 dL_law_715 dL_law_716 dL_law_717 ?_
  refine lq_R (st := [.int r]) X (cm_X8_swap _ _ _ _ _ h2) wq_X8_swap.1 wq_X8_swap.2.1 wq_X8_swap.2.2.1 wq_X8_swap.2.2.2 rfl ⟨rfl, rfl, Nat.le_of_ble_eq_true rfl, Nat.le_of_ble_eq_true rfl⟩ rfl rfl (Nat.le_of_ble_eq_true rfl) dL_law_718 rfl ?_
  exact lq_same X dL_law_721 (by decide) (k S1 T1 A1 h3)
theorem dL_law_726 : decode cL_law 726 = .ok (.aload_n 1, 1) := by decide +kernel
theorem dL_law_727 : decode cL_law 727 = .ok (.aload_n 0, 1) := by decide +kernel
theorem dL_law_728 : decode cL_law 728 = .ok (.iload_n 3, 1) := by decide +kernel
theorem dL_law_729 : decode cL_law 729 = .ok (.iconst 1, 1) := by decide +kernel
theorem dL_law_730 : decode cL_law 730 = .ok (.iadd, 1) := by decide +kernel
theorem dL_law_731 : decode cL_law 731 = .ok (.iaload, 1) := by decide +kernel
theorem dL_law_732 : decode cL_law 732 = .ok (.aload_n 0, 1) := by decide +kernel
theorem dL_law_733 : decode cL_law 733 = .ok (.iload_n 3, 1) := by decide +kernel
theorem dL_law_734 : decode cL_law 734 = .ok (.iconst 2, 1) := by decide +kernel
theorem dL_law_735 : decode cL_law 735 = .ok (.iadd, 1) := by decide +kernel
theorem dL_law_736 : decode cL_law 736 = .ok (.iaload, 1) := by decide +kernel
theorem dL_law_737 : decode cL_law 737 = .ok (.invokevirtual 97, 3) := by decide +kernel
theorem dL_law_740 : decode cL_law 740 = .ok (.aload_n 2, 1) := by decide +kernel
theorem dL_law_741 : decode cL_law 741 = .ok (.aload_n 0, 1) := by decide +kernel
theorem dL_law_742 : decode cL_law 742 = .ok (.iload_n 3, 1) := by decide +kernel
theorem dL_law_743 : decode cL_law 743 = .ok (.iconst 1, 1) := by decide +kernel
theorem dL_law_744 : decode cL_law 744 = .ok (.iadd, 1) := by decide +kernel
theorem dL_law_745 : decode cL_law 745 = .ok (.iaload, 1) := by decide +kernel
theorem dL_law_746 : decode cL_law 746 = .ok (.aload_n 0, 1) := by decide +kernel
theorem dL_law_747 : decode cL_law 747 = .ok (.iload_n 3, 1) := by decide +kernel
theorem dL_law_748 : decode cL_law 748 = .ok (.iconst 2, 1) := by decide +kernel
theorem dL_law_749 : decode cL_law 749 = .ok (.iadd, 1) := by decide +kernel
theorem dL_law_750 : decode cL_law 750 = .ok (.iaload, 1) := by decide +kernel
theorem dL_law_751 : decode cL_law 751 = .ok (.invokevirtual 100, 3) := by decide +kernel
theorem dL_law_754 : decode cL_law 754 = .ok (.if_icmp .eq 515, 3) := by decide +kernel
theorem dL_law_757 : decode cL_law 757 = .ok (.iconst 0, 1) := by decide +kernel
theorem dL_law_758 : decode cL_law 758 = .ok (.ireturn, 1) := by decide +kernel
theorem wq_X7_out : tg_Y0 yX7_out cX7_out 3 (some .int) 2 ∧ Cond.instanceMethod yX7_out ∈ tg_gG ∧ Cond.selects yX7_out.cls yX7_out yX7_out ∈ tg_gG ∧ Cond.methodLink RL 97 yX7_out ∈ tg_gG := ⟨⟨tg_mem (List.mem_of_getElem? (i := 578) (by decide +kernel)) (by decide +kernel), wi_X7, by decide +kernel, by decide +kernel, by decide +kernel⟩, tg_mem (List.mem_of_getElem? (i := 576) (by decide +kernel)) (by decide +kernel), tg_mem (List.mem_of_getElem? (i := 577) (by decide +kernel)) (by decide +kernel), tg_mem (List.mem_of_getElem? (i := 575) (by decide +kernel)) (by decide +kernel)⟩
theorem wq_X8_out : tg_Y0 yX8_out cX8_out 3 (some .int) 2 ∧ Cond.instanceMethod yX8_out ∈ tg_gG ∧ Cond.selects yX8_out.cls yX8_out yX8_out ∈ tg_gG ∧ Cond.methodLink RL 100 yX8_out ∈ tg_gG := ⟨⟨tg_mem (List.mem_of_getElem? (i := 1152) (by decide +kernel)) (by decide +kernel), wi_X8, by decide +kernel, by decide +kernel, by decide +kernel⟩, tg_mem (List.mem_of_getElem? (i := 1150) (by decide +kernel)) (by decide +kernel), tg_mem (List.mem_of_getElem? (i := 1151) (by decide +kernel)) (by decide +kernel), tg_mem (List.mem_of_getElem? (i := 1149) (by decide +kernel)) (by decide +kernel)⟩
theorem lc_20 {x : tg_X} {b L : Nat} {xs : Nat → Int32} {bd : Nat → Nat} {S T : tg_S} {A : Nat → Nat → Nat} {i : Nat} (X : lq_M x b L xs) (hI : z_I S T A) (hi : i + 6 ≤ L) (k : ∀ S T A, z_I S T A → lq_G x b bd S T i 1269 []) : lq_G x b bd S T i 726 [] := by
  obtain ⟨S1, T1, r, A1, h1, h2, h3⟩ := e_out S T A hI (xs (i + 1)) (xs (i + 2))
  refine lq_x1 X dL_law_726 ?_
  refine lq_arg X (j := 1) (by decide) (by decide) hi dL_law_727 dL_law_728 dL_law_729 dL_law_730 dL_law_731 ?_
  refine lq_arg X (j := 2) (by decide) (by decide) hi dL_law_732 dL_law_733 dL_law_734 dL_law_735 dL_law_736 ?_
  refine lq_C (st := []) X (cm_X7_out _ _ _ _ _ h1) wq_X7_out.1 wq_X7_out.2.1 wq_X7_out.2.2.1 wq_X7_out.2.2.2 rfl ⟨rfl, rfl, Nat.le_of_ble_eq_true rfl, Nat.le_of_ble_eq_true rfl⟩ rfl rfl (Nat.le_of_ble_eq_true rfl) dL_law_737 rfl ?_
  refine lq_x2 X dL_law_740 ?_
  refine lq_arg X (j := 1) (by decide) (by decide) hi dL_law_741 dL_law_742 dL_law_743 dL_law_744 dL_law_745 ?_
  refine lq_arg X (j := 2) (by decide) (by decide) hi dL_law_746 dL_law_747 dL_law_748 dL_law_749 dL_law_750 ?_
  refine lq_R (st := [.int r]) X (cm_X8_out _ _ _ _ _ h2) wq_X8_out.1 wq_X8_out.2.1 wq_X8_out.2.2.1 wq_X8_out.2.2.2 rfl ⟨rfl, rfl, Nat.le_of_ble_eq_true rfl, Nat.le_of_ble_eq_true rfl⟩ rfl rfl (Nat.le_of_ble_eq_true rfl) dL_law_751 rfl ?_
  exact lq_same X dL_law_754 (by decide) (k S1 T1 A1 h3)
theorem dL_law_759 : decode cL_law 759 = .ok (.aload_n 1, 1) := by decide +kernel
theorem dL_law_760 : decode cL_law 760 = .ok (.aload_n 0, 1) := by decide +kernel
theorem dL_law_761 : decode cL_law 761 = .ok (.iload_n 3, 1) := by decide +kernel
theorem dL_law_762 : decode cL_law 762 = .ok (.iconst 1, 1) := by decide +kernel
theorem dL_law_763 : decode cL_law 763 = .ok (.iadd, 1) := by decide +kernel
theorem dL_law_764 : decode cL_law 764 = .ok (.iaload, 1) := by decide +kernel
theorem dL_law_765 : decode cL_law 765 = .ok (.invokevirtual 101, 3) := by decide +kernel
theorem dL_law_768 : decode cL_law 768 = .ok (.aload_n 2, 1) := by decide +kernel
theorem dL_law_769 : decode cL_law 769 = .ok (.aload_n 0, 1) := by decide +kernel
theorem dL_law_770 : decode cL_law 770 = .ok (.iload_n 3, 1) := by decide +kernel
theorem dL_law_771 : decode cL_law 771 = .ok (.iconst 1, 1) := by decide +kernel
theorem dL_law_772 : decode cL_law 772 = .ok (.iadd, 1) := by decide +kernel
theorem dL_law_773 : decode cL_law 773 = .ok (.iaload, 1) := by decide +kernel
theorem dL_law_774 : decode cL_law 774 = .ok (.invokevirtual 104, 3) := by decide +kernel
theorem dL_law_777 : decode cL_law 777 = .ok (.if_icmp .eq 492, 3) := by decide +kernel
theorem dL_law_780 : decode cL_law 780 = .ok (.iconst 0, 1) := by decide +kernel
theorem dL_law_781 : decode cL_law 781 = .ok (.ireturn, 1) := by decide +kernel
theorem wq_X7_spare : tg_Y0 yX7_spare cX7_spare 3 (some .int) 1 ∧ Cond.instanceMethod yX7_spare ∈ tg_gG ∧ Cond.selects yX7_spare.cls yX7_spare yX7_spare ∈ tg_gG ∧ Cond.methodLink RL 101 yX7_spare ∈ tg_gG := ⟨⟨tg_mem (List.mem_of_getElem? (i := 590) (by decide +kernel)) (by decide +kernel), wi_X7, by decide +kernel, by decide +kernel, by decide +kernel⟩, tg_mem (List.mem_of_getElem? (i := 588) (by decide +kernel)) (by decide +kernel), tg_mem (List.mem_of_getElem? (i := 589) (by decide +kernel)) (by decide +kernel), tg_mem (List.mem_of_getElem? (i := 587) (by decide +kernel)) (by decide +kernel)⟩
theorem wq_X8_spare : tg_Y0 yX8_spare cX8_spare 2 (some .int) 1 ∧ Cond.instanceMethod yX8_spare ∈ tg_gG ∧ Cond.selects yX8_spare.cls yX8_spare yX8_spare ∈ tg_gG ∧ Cond.methodLink RL 104 yX8_spare ∈ tg_gG := ⟨⟨tg_mem (List.mem_of_getElem? (i := 1160) (by decide +kernel)) (by decide +kernel), wi_X8, by decide +kernel, by decide +kernel, by decide +kernel⟩, tg_mem (List.mem_of_getElem? (i := 1158) (by decide +kernel)) (by decide +kernel), tg_mem (List.mem_of_getElem? (i := 1159) (by decide +kernel)) (by decide +kernel), tg_mem (List.mem_of_getElem? (i := 1157) (by decide +kernel)) (by decide +kernel)⟩
theorem lc_21 {x : tg_X} {b L : Nat} {xs : Nat → Int32} {bd : Nat → Nat} {S T : tg_S} {A : Nat → Nat → Nat} {i : Nat} (X : lq_M x b L xs) (hI : z_I S T A) (hi : i + 6 ≤ L) (k : ∀ S T A, z_I S T A → lq_G x b bd S T i 1269 []) : lq_G x b bd S T i 759 [] := by
  obtain ⟨S1, T1, r, A1, h1, h2, h3⟩ := e_spare S T A hI (xs (i + 1))
  refine lq_x1 X dL_law_759 ?_
  refine lq_arg X (j := 1) (by decide) (by decide) hi dL_law_760 dL_law_761 dL_law_762 dL_law_763 dL_law_764 ?_
  refine lq_C (st := []) X (cm_X7_spare _ _ _ _ _ h1) wq_X7_spare.1 wq_X7_spare.2.1 wq_X7_spare.2.2.1 wq_X7_spare.2.2.2 rfl ⟨rfl, rfl, Nat.le_of_ble_eq_true rfl, Nat.le_of_ble_eq_true rfl⟩ rfl rfl (Nat.le_of_ble_eq_true rfl) dL_law_765 rfl ?_
  refine lq_x2 X dL_law_768 ?_
  refine lq_arg X (j := 1) (by decide) (by decide) hi dL_law_769 dL_law_770 dL_law_771 dL_law_772 dL_law_773 ?_
  refine lq_R (st := [.int r]) X (cm_X8_spare _ _ _ _ _ h2) wq_X8_spare.1 wq_X8_spare.2.1 wq_X8_spare.2.2.1 wq_X8_spare.2.2.2 rfl ⟨rfl, rfl, Nat.le_of_ble_eq_true rfl, Nat.le_of_ble_eq_true rfl⟩ rfl rfl (Nat.le_of_ble_eq_true rfl) dL_law_774 rfl ?_
  exact lq_same X dL_law_777 (by decide) (k S1 T1 A1 h3)
theorem dL_law_782 : decode cL_law 782 = .ok (.aload_n 1, 1) := by decide +kernel
theorem dL_law_783 : decode cL_law 783 = .ok (.aload_n 0, 1) := by decide +kernel
theorem dL_law_784 : decode cL_law 784 = .ok (.iload_n 3, 1) := by decide +kernel
theorem dL_law_785 : decode cL_law 785 = .ok (.iconst 1, 1) := by decide +kernel
theorem dL_law_786 : decode cL_law 786 = .ok (.iadd, 1) := by decide +kernel
theorem dL_law_787 : decode cL_law 787 = .ok (.iaload, 1) := by decide +kernel
theorem dL_law_788 : decode cL_law 788 = .ok (.aload_n 0, 1) := by decide +kernel
theorem dL_law_789 : decode cL_law 789 = .ok (.iload_n 3, 1) := by decide +kernel
theorem dL_law_790 : decode cL_law 790 = .ok (.iconst 2, 1) := by decide +kernel
theorem dL_law_791 : decode cL_law 791 = .ok (.iadd, 1) := by decide +kernel
theorem dL_law_792 : decode cL_law 792 = .ok (.iaload, 1) := by decide +kernel
theorem dL_law_793 : decode cL_law 793 = .ok (.invokevirtual 105, 3) := by decide +kernel
theorem dL_law_796 : decode cL_law 796 = .ok (.aload_n 2, 1) := by decide +kernel
theorem dL_law_797 : decode cL_law 797 = .ok (.aload_n 0, 1) := by decide +kernel
theorem dL_law_798 : decode cL_law 798 = .ok (.iload_n 3, 1) := by decide +kernel
theorem dL_law_799 : decode cL_law 799 = .ok (.iconst 1, 1) := by decide +kernel
theorem dL_law_800 : decode cL_law 800 = .ok (.iadd, 1) := by decide +kernel
theorem dL_law_801 : decode cL_law 801 = .ok (.iaload, 1) := by decide +kernel
theorem dL_law_802 : decode cL_law 802 = .ok (.aload_n 0, 1) := by decide +kernel
theorem dL_law_803 : decode cL_law 803 = .ok (.iload_n 3, 1) := by decide +kernel
theorem dL_law_804 : decode cL_law 804 = .ok (.iconst 2, 1) := by decide +kernel
theorem dL_law_805 : decode cL_law 805 = .ok (.iadd, 1) := by decide +kernel
theorem dL_law_806 : decode cL_law 806 = .ok (.iaload, 1) := by decide +kernel
theorem dL_law_807 : decode cL_law 807 = .ok (.invokevirtual 108, 3) := by decide +kernel
theorem dL_law_810 : decode cL_law 810 = .ok (.if_icmp .eq 459, 3) := by decide +kernel
theorem dL_law_813 : decode cL_law 813 = .ok (.iconst 0, 1) := by decide +kernel
theorem dL_law_814 : decode cL_law 814 = .ok (.ireturn, 1) := by decide +kernel
theorem wq_X7_seen : tg_Y0 yX7_seen cX7_seen 3 (some .int) 2 ∧ Cond.instanceMethod yX7_seen ∈ tg_gG ∧ Cond.selects yX7_seen.cls yX7_seen yX7_seen ∈ tg_gG ∧ Cond.methodLink RL 105 yX7_seen ∈ tg_gG := ⟨⟨tg_mem (List.mem_of_getElem? (i := 602) (by decide +kernel)) (by decide +kernel), wi_X7, by decide +kernel, by decide +kernel, by decide +kernel⟩, tg_mem (List.mem_of_getElem? (i := 600) (by decide +kernel)) (by decide +kernel), tg_mem (List.mem_of_getElem? (i := 601) (by decide +kernel)) (by decide +kernel), tg_mem (List.mem_of_getElem? (i := 599) (by decide +kernel)) (by decide +kernel)⟩
theorem wq_X8_seen : tg_Y0 yX8_seen cX8_seen 3 (some .int) 2 ∧ Cond.instanceMethod yX8_seen ∈ tg_gG ∧ Cond.selects yX8_seen.cls yX8_seen yX8_seen ∈ tg_gG ∧ Cond.methodLink RL 108 yX8_seen ∈ tg_gG := ⟨⟨tg_mem (List.mem_of_getElem? (i := 1176) (by decide +kernel)) (by decide +kernel), wi_X8, by decide +kernel, by decide +kernel, by decide +kernel⟩, tg_mem (List.mem_of_getElem? (i := 1174) (by decide +kernel)) (by decide +kernel), tg_mem (List.mem_of_getElem? (i := 1175) (by decide +kernel)) (by decide +kernel), tg_mem (List.mem_of_getElem? (i := 1173) (by decide +kernel)) (by decide +kernel)⟩
theorem lc_22 {x : tg_X} {b L : Nat} {xs : Nat → Int32} {bd : Nat → Nat} {S T : tg_S} {A : Nat → Nat → Nat} {i : Nat} (X : lq_M x b L xs) (hI : z_I S T A) (hi : i + 6 ≤ L) (k : ∀ S T A, z_I S T A → lq_G x b bd S T i 1269 []) : lq_G x b bd S T i 782 [] := by
  obtain ⟨S1, T1, r, A1, h1, h2, h3⟩ := e_seen S T A hI (xs (i + 1)) (xs (i + 2))
  refine lq_x1 X dL_law_782 ?_
  refine lq_arg X (j := 1) (by decide) (by decide) hi dL_law_783 dL_law_784 dL_law_785 dL_law_786 dL_law_787 ?_
  refine lq_arg X (j := 2) (by decide) (by decide) hi dL_law_788 dL_law_789 dL_law_790 dL_law_791 dL_law_792 ?_
  refine lq_C (st := []) X (cm_X7_seen _ _ _ _ _ h1) wq_X7_seen.1 wq_X7_seen.2.1 wq_X7_seen.2.2.1 wq_X7_seen.2.2.2 rfl ⟨rfl, rfl, Nat.le_of_ble_eq_true rfl, Nat.le_of_ble_eq_true rfl⟩ rfl rfl (Nat.le_of_ble_eq_true rfl) dL_law_793 rfl ?_
  refine lq_x2 X dL_law_796 ?_
  refine lq_arg X (j := 1) (by decide) (by decide) hi dL_law_797 dL_law_798 dL_law_799 dL_law_800 dL_law_801 ?_
  refine lq_arg X (j := 2) (by decide) (by decide) hi dL_law_802 dL_law_803 dL_law_804 dL_law_805 dL_law_806 ?_
  refine lq_R (st := [.int r]) X (cm_X8_seen _ _ _ _ _ h2) wq_X8_seen.1 wq_X8_seen.2.1 wq_X8_seen.2.2.1 wq_X8_seen.2.2.2 rfl ⟨rfl, rfl, Nat.le_of_ble_eq_true rfl, Nat.le_of_ble_eq_true rfl⟩ rfl rfl (Nat.le_of_ble_eq_true rfl) dL_law_807 rfl ?_
  exact lq_same X dL_law_810 (by decide) (k S1 T1 A1 h3)
theorem dL_law_815 : decode cL_law 815 = .ok (.aload_n 1, 1) := by decide +kernel
theorem dL_law_816 : decode cL_law 816 = .ok (.invokevirtual 109, 3) := by decide +kernel
theorem dL_law_819 : decode cL_law 819 = .ok (.aload_n 2, 1) := by decide +kernel
theorem dL_law_820 : decode cL_law 820 = .ok (.invokevirtual 112, 3) := by decide +kernel
theorem dL_law_823 : decode cL_law 823 = .ok (.if_icmp .eq 446, 3) := by decide +kernel
theorem dL_law_826 : decode cL_law 826 = .ok (.iconst 0, 1) := by decide +kernel
theorem dL_law_827 : decode cL_law 827 = .ok (.ireturn, 1) := by decide +kernel
theorem wq_X7_forget : tg_Y0 yX7_forget cX7_forget 2 (some .int) 0 ∧ Cond.instanceMethod yX7_forget ∈ tg_gG ∧ Cond.selects yX7_forget.cls yX7_forget yX7_forget ∈ tg_gG ∧ Cond.methodLink RL 109 yX7_forget ∈ tg_gG := ⟨⟨tg_mem (List.mem_of_getElem? (i := 610) (by decide +kernel)) (by decide +kernel), wi_X7, by decide +kernel, by decide +kernel, by decide +kernel⟩, tg_mem (List.mem_of_getElem? (i := 608) (by decide +kernel)) (by decide +kernel), tg_mem (List.mem_of_getElem? (i := 609) (by decide +kernel)) (by decide +kernel), tg_mem (List.mem_of_getElem? (i := 607) (by decide +kernel)) (by decide +kernel)⟩
theorem wq_X8_forget : tg_Y0 yX8_forget cX8_forget 2 (some .int) 0 ∧ Cond.instanceMethod yX8_forget ∈ tg_gG ∧ Cond.selects yX8_forget.cls yX8_forget yX8_forget ∈ tg_gG ∧ Cond.methodLink RL 112 yX8_forget ∈ tg_gG := ⟨⟨tg_mem (List.mem_of_getElem? (i := 1180) (by decide +kernel)) (by decide +kernel), wi_X8, by decide +kernel, by decide +kernel, by decide +kernel⟩, tg_mem (List.mem_of_getElem? (i := 1178) (by decide +kernel)) (by decide +kernel), tg_mem (List.mem_of_getElem? (i := 1179) (by decide +kernel)) (by decide +kernel), tg_mem (List.mem_of_getElem? (i := 1177) (by decide +kernel)) (by decide +kernel)⟩
theorem lc_23 {x : tg_X} {b L : Nat} {xs : Nat → Int32} {bd : Nat → Nat} {S T : tg_S} {A : Nat → Nat → Nat} {i : Nat} (X : lq_M x b L xs) (hI : z_I S T A) (hi : i + 6 ≤ L) (k : ∀ S T A, z_I S T A → lq_G x b bd S T i 1269 []) : lq_G x b bd S T i 815 [] := by
  obtain ⟨S1, T1, r, A1, h1, h2, h3⟩ := e_forget S T A hI 
  refine lq_x1 X dL_law_815 ?_
  refine lq_C (st := []) X (cm_X7_forget _ _ _ _ _ h1) wq_X7_forget.1 wq_X7_forget.2.1 wq_X7_forget.2.2.1 wq_X7_forget.2.2.2 rfl ⟨rfl, rfl, Nat.le_of_ble_eq_true rfl, Nat.le_of_ble_eq_true rfl⟩ rfl rfl (Nat.le_of_ble_eq_true rfl) dL_law_816 rfl ?_
  refine lq_x2 X dL_law_819 ?_
  refine lq_R (st := [.int r]) X (cm_X8_forget _ _ _ _ _ h2) wq_X8_forget.1 wq_X8_forget.2.1 wq_X8_forget.2.2.1 wq_X8_forget.2.2.2 rfl ⟨rfl, rfl, Nat.le_of_ble_eq_true rfl, Nat.le_of_ble_eq_true rfl⟩ rfl rfl (Nat.le_of_ble_eq_true rfl) dL_law_820 rfl ?_
  exact lq_same X dL_law_823 (by decide) (k S1 T1 A1 h3)
theorem dL_law_828 : decode cL_law 828 = .ok (.aload_n 1, 1) := by decide +kernel
theorem dL_law_829 : decode cL_law 829 = .ok (.invokevirtual 113, 3) := by decide +kernel
theorem dL_law_832 : decode cL_law 832 = .ok (.aload_n 2, 1) := by decide +kernel
theorem dL_law_833 : decode cL_law 833 = .ok (.invokevirtual 116, 3) := by decide +kernel
theorem dL_law_836 : decode cL_law 836 = .ok (.if_icmp .eq 433, 3) := by decide +kernel
theorem dL_law_839 : decode cL_law 839 = .ok (.iconst 0, 1) := by decide +kernel
theorem dL_law_840 : decode cL_law 840 = .ok (.ireturn, 1) := by decide +kernel
theorem wq_X7_never : tg_Y0 yX7_never cX7_never 3 (some .int) 0 ∧ Cond.instanceMethod yX7_never ∈ tg_gG ∧ Cond.selects yX7_never.cls yX7_never yX7_never ∈ tg_gG ∧ Cond.methodLink RL 113 yX7_never ∈ tg_gG := ⟨⟨tg_mem (List.mem_of_getElem? (i := 614) (by decide +kernel)) (by decide +kernel), wi_X7, by decide +kernel, by decide +kernel, by decide +kernel⟩, tg_mem (List.mem_of_getElem? (i := 612) (by decide +kernel)) (by decide +kernel), tg_mem (List.mem_of_getElem? (i := 613) (by decide +kernel)) (by decide +kernel), tg_mem (List.mem_of_getElem? (i := 611) (by decide +kernel)) (by decide +kernel)⟩
theorem wq_X8_never : tg_Y0 yX8_never cX8_never 1 (some .int) 0 ∧ Cond.instanceMethod yX8_never ∈ tg_gG ∧ Cond.selects yX8_never.cls yX8_never yX8_never ∈ tg_gG ∧ Cond.methodLink RL 116 yX8_never ∈ tg_gG := ⟨⟨tg_mem (List.mem_of_getElem? (i := 1184) (by decide +kernel)) (by decide +kernel), wi_X8, by decide +kernel, by decide +kernel, by decide +kernel⟩, tg_mem (List.mem_of_getElem? (i := 1182) (by decide +kernel)) (by decide +kernel), tg_mem (List.mem_of_getElem? (i := 1183) (by decide +kernel)) (by decide +kernel), tg_mem (List.mem_of_getElem? (i := 1181) (by decide +kernel)) (by decide +kernel)⟩
theorem lc_24 {x : tg_X} {b L : Nat} {xs : Nat → Int32} {bd : Nat → Nat} {S T : tg_S} {A : Nat → Nat → Nat} {i : Nat} (X : lq_M x b L xs) (hI : z_I S T A) (hi : i + 6 ≤ L) (k : ∀ S T A, z_I S T A → lq_G x b bd S T i 1269 []) : lq_G x b bd S T i 828 [] := by
  obtain ⟨S1, T1, r, A1, h1, h2, h3⟩ := e_never S T A hI 
  refine lq_x1 X dL_law_828 ?_
  refine lq_C (st := []) X (cm_X7_never _ _ _ _ _ h1) wq_X7_never.1 wq_X7_never.2.1 wq_X7_never.2.2.1 wq_X7_never.2.2.2 rfl ⟨rfl, rfl, Nat.le_of_ble_eq_true rfl, Nat.le_of_ble_eq_true rfl⟩ rfl rfl (Nat.le_of_ble_eq_true rfl) dL_law_829 rfl ?_
  refine lq_x2 X dL_law_832 ?_
  refine lq_R (st := [.int r]) X (cm_X8_never _ _ _ _ _ h2) wq_X8_never.1 wq_X8_never.2.1 wq_X8_never.2.2.1 wq_X8_never.2.2.2 rfl ⟨rfl, rfl, Nat.le_of_ble_eq_true rfl, Nat.le_of_ble_eq_true rfl⟩ rfl rfl (Nat.le_of_ble_eq_true rfl) dL_law_833 rfl ?_
  exact lq_same X dL_law_836 (by decide) (k S1 T1 A1 h3)
theorem dL_law_841 : decode cL_law 841 = .ok (.aload_n 1, 1) := by decide +kernel
theorem dL_law_842 : decode cL_law 842 = .ok (.aload_n 0, 1) := by decide +kernel
theorem dL_law_843 : decode cL_law 843 = .ok (.iload_n 3, 1) := by decide +kernel
theorem dL_law_844 : decode cL_law 844 = .ok (.iconst 1, 1) := by decide +kernel
theorem dL_law_845 : decode cL_law 845 = .ok (.iadd, 1) := by decide +kernel
theorem dL_law_846 : decode cL_law 846 = .ok (.iaload, 1) := by decide +kernel
theorem dL_law_847 : decode cL_law 847 = .ok (.aload_n 0, 1) := by decide +kernel
theorem dL_law_848 : decode cL_law 848 = .ok (.iload_n 3, 1) := by decide +kernel
theorem dL_law_849 : decode cL_law 849 = .ok (.iconst 2, 1) := by decide +kernel
theorem dL_law_850 : decode cL_law 850 = .ok (.iadd, 1) := by decide +kernel
theorem dL_law_851 : decode cL_law 851 = .ok (.iaload, 1) := by decide +kernel
theorem dL_law_852 : decode cL_law 852 = .ok (.invokevirtual 117, 3) := by decide +kernel
theorem dL_law_855 : decode cL_law 855 = .ok (.aload_n 2, 1) := by decide +kernel
theorem dL_law_856 : decode cL_law 856 = .ok (.aload_n 0, 1) := by decide +kernel
theorem dL_law_857 : decode cL_law 857 = .ok (.iload_n 3, 1) := by decide +kernel
theorem dL_law_858 : decode cL_law 858 = .ok (.iconst 1, 1) := by decide +kernel
theorem dL_law_859 : decode cL_law 859 = .ok (.iadd, 1) := by decide +kernel
theorem dL_law_860 : decode cL_law 860 = .ok (.iaload, 1) := by decide +kernel
theorem dL_law_861 : decode cL_law 861 = .ok (.aload_n 0, 1) := by decide +kernel
theorem dL_law_862 : decode cL_law 862 = .ok (.iload_n 3, 1) := by decide +kernel
theorem dL_law_863 : decode cL_law 863 = .ok (.iconst 2, 1) := by decide +kernel
theorem dL_law_864 : decode cL_law 864 = .ok (.iadd, 1) := by decide +kernel
theorem dL_law_865 : decode cL_law 865 = .ok (.iaload, 1) := by decide +kernel
theorem dL_law_866 : decode cL_law 866 = .ok (.invokevirtual 120, 3) := by decide +kernel
theorem dL_law_869 : decode cL_law 869 = .ok (.if_icmp .eq 400, 3) := by decide +kernel
theorem dL_law_872 : decode cL_law 872 = .ok (.iconst 0, 1) := by decide +kernel
theorem dL_law_873 : decode cL_law 873 = .ok (.ireturn, 1) := by decide +kernel
theorem wq_X7_was : tg_Y0 yX7_was cX7_was 3 (some .int) 2 ∧ Cond.instanceMethod yX7_was ∈ tg_gG ∧ Cond.selects yX7_was.cls yX7_was yX7_was ∈ tg_gG ∧ Cond.methodLink RL 117 yX7_was ∈ tg_gG := ⟨⟨tg_mem (List.mem_of_getElem? (i := 622) (by decide +kernel)) (by decide +kernel), wi_X7, by decide +kernel, by decide +kernel, by decide +kernel⟩, tg_mem (List.mem_of_getElem? (i := 620) (by decide +kernel)) (by decide +kernel), tg_mem (List.mem_of_getElem? (i := 621) (by decide +kernel)) (by decide +kernel), tg_mem (List.mem_of_getElem? (i := 619) (by decide +kernel)) (by decide +kernel)⟩
theorem wq_X8_was : tg_Y0 yX8_was cX8_was 3 (some .int) 2 ∧ Cond.instanceMethod yX8_was ∈ tg_gG ∧ Cond.selects yX8_was.cls yX8_was yX8_was ∈ tg_gG ∧ Cond.methodLink RL 120 yX8_was ∈ tg_gG := ⟨⟨tg_mem (List.mem_of_getElem? (i := 1196) (by decide +kernel)) (by decide +kernel), wi_X8, by decide +kernel, by decide +kernel, by decide +kernel⟩, tg_mem (List.mem_of_getElem? (i := 1194) (by decide +kernel)) (by decide +kernel), tg_mem (List.mem_of_getElem? (i := 1195) (by decide +kernel)) (by decide +kernel), tg_mem (List.mem_of_getElem? (i := 1193) (by decide +kernel)) (by decide +kernel)⟩
theorem lc_25 {x : tg_X} {b L : Nat} {xs : Nat → Int32} {bd : Nat → Nat} {S T : tg_S} {A : Nat → Nat → Nat} {i : Nat} (X : lq_M x b L xs) (hI : z_I S T A) (hi : i + 6 ≤ L) (k : ∀ S T A, z_I S T A → lq_G x b bd S T i 1269 []) : lq_G x b bd S T i 841 [] := by
  obtain ⟨S1, T1, r, A1, h1, h2, h3⟩ := e_was S T A hI (xs (i + 1)) (xs (i + 2))
  refine lq_x1 X dL_law_841 ?_
  refine lq_arg X (j := 1) (by decide) (by decide) hi dL_law_842 dL_law_843 dL_law_844 dL_law_845 dL_law_846 ?_
  refine lq_arg X (j := 2) (by decide) (by decide) hi dL_law_847 dL_law_848 dL_law_849 dL_law_850 dL_law_851 ?_
  refine lq_C (st := []) X (cm_X7_was _ _ _ _ _ h1) wq_X7_was.1 wq_X7_was.2.1 wq_X7_was.2.2.1 wq_X7_was.2.2.2 rfl ⟨rfl, rfl, Nat.le_of_ble_eq_true rfl, Nat.le_of_ble_eq_true rfl⟩ rfl rfl (Nat.le_of_ble_eq_true rfl) dL_law_852 rfl ?_
  refine lq_x2 X dL_law_855 ?_
  refine lq_arg X (j := 1) (by decide) (by decide) hi dL_law_856 dL_law_857 dL_law_858 dL_law_859 dL_law_860 ?_
  refine lq_arg X (j := 2) (by decide) (by decide) hi dL_law_861 dL_law_862 dL_law_863 dL_law_864 dL_law_865 ?_
  refine lq_R (st := [.int r]) X (cm_X8_was _ _ _ _ _ h2) wq_X8_was.1 wq_X8_was.2.1 wq_X8_was.2.2.1 wq_X8_was.2.2.2 rfl ⟨rfl, rfl, Nat.le_of_ble_eq_true rfl, Nat.le_of_ble_eq_true rfl⟩ rfl rfl (Nat.le_of_ble_eq_true rfl) dL_law_866 rfl ?_
  exact lq_same X dL_law_869 (by decide) (k S1 T1 A1 h3)
theorem dL_law_874 : decode cL_law 874 = .ok (.aload_n 1, 1) := by decide +kernel
theorem dL_law_875 : decode cL_law 875 = .ok (.aload_n 0, 1) := by decide +kernel
theorem dL_law_876 : decode cL_law 876 = .ok (.iload_n 3, 1) := by decide +kernel
theorem dL_law_877 : decode cL_law 877 = .ok (.iconst 1, 1) := by decide +kernel
theorem dL_law_878 : decode cL_law 878 = .ok (.iadd, 1) := by decide +kernel
theorem dL_law_879 : decode cL_law 879 = .ok (.iaload, 1) := by decide +kernel
theorem dL_law_880 : decode cL_law 880 = .ok (.invokevirtual 121, 3) := by decide +kernel
theorem dL_law_883 : decode cL_law 883 = .ok (.aload_n 2, 1) := by decide +kernel
theorem dL_law_884 : decode cL_law 884 = .ok (.aload_n 0, 1) := by decide +kernel
theorem dL_law_885 : decode cL_law 885 = .ok (.iload_n 3, 1) := by decide +kernel
theorem dL_law_886 : decode cL_law 886 = .ok (.iconst 1, 1) := by decide +kernel
theorem dL_law_887 : decode cL_law 887 = .ok (.iadd, 1) := by decide +kernel
theorem dL_law_888 : decode cL_law 888 = .ok (.iaload, 1) := by decide +kernel
theorem dL_law_889 : decode cL_law 889 = .ok (.invokevirtual 124, 3) := by decide +kernel
theorem dL_law_892 : decode cL_law 892 = .ok (.if_icmp .eq 377, 3) := by decide +kernel
theorem dL_law_895 : decode cL_law 895 = .ok (.iconst 0, 1) := by decide +kernel
theorem dL_law_896 : decode cL_law 896 = .ok (.ireturn, 1) := by decide +kernel
theorem wq_X7_ask : tg_Y0 yX7_ask cX7_ask 7 (some .int) 1 ∧ Cond.instanceMethod yX7_ask ∈ tg_gG ∧ Cond.selects yX7_ask.cls yX7_ask yX7_ask ∈ tg_gG ∧ Cond.methodLink RL 121 yX7_ask ∈ tg_gG := ⟨⟨tg_mem (List.mem_of_getElem? (i := 634) (by decide +kernel)) (by decide +kernel), wi_X7, by decide +kernel, by decide +kernel, by decide +kernel⟩, tg_mem (List.mem_of_getElem? (i := 632) (by decide +kernel)) (by decide +kernel), tg_mem (List.mem_of_getElem? (i := 633) (by decide +kernel)) (by decide +kernel), tg_mem (List.mem_of_getElem? (i := 631) (by decide +kernel)) (by decide +kernel)⟩
theorem wq_X8_ask : tg_Y0 yX8_ask cX8_ask 2 (some .int) 1 ∧ Cond.instanceMethod yX8_ask ∈ tg_gG ∧ Cond.selects yX8_ask.cls yX8_ask yX8_ask ∈ tg_gG ∧ Cond.methodLink RL 124 yX8_ask ∈ tg_gG := ⟨⟨tg_mem (List.mem_of_getElem? (i := 1208) (by decide +kernel)) (by decide +kernel), wi_X8, by decide +kernel, by decide +kernel, by decide +kernel⟩, tg_mem (List.mem_of_getElem? (i := 1206) (by decide +kernel)) (by decide +kernel), tg_mem (List.mem_of_getElem? (i := 1207) (by decide +kernel)) (by decide +kernel), tg_mem (List.mem_of_getElem? (i := 1205) (by decide +kernel)) (by decide +kernel)⟩
theorem lc_26 {x : tg_X} {b L : Nat} {xs : Nat → Int32} {bd : Nat → Nat} {S T : tg_S} {A : Nat → Nat → Nat} {i : Nat} (X : lq_M x b L xs) (hI : z_I S T A) (hi : i + 6 ≤ L) (k : ∀ S T A, z_I S T A → lq_G x b bd S T i 1269 []) : lq_G x b bd S T i 874 [] := by
  obtain ⟨S1, T1, r, A1, h1, h2, h3⟩ := e_ask S T A hI (xs (i + 1))
  refine lq_x1 X dL_law_874 ?_
  refine lq_arg X (j := 1) (by decide) (by decide) hi dL_law_875 dL_law_876 dL_law_877 dL_law_878 dL_law_879 ?_
  refine lq_C (st := []) X (cm_X7_ask _ _ _ _ _ h1) wq_X7_ask.1 wq_X7_ask.2.1 wq_X7_ask.2.2.1 wq_X7_ask.2.2.2 rfl ⟨rfl, rfl, Nat.le_of_ble_eq_true rfl, Nat.le_of_ble_eq_true rfl⟩ rfl rfl (Nat.le_of_ble_eq_true rfl) dL_law_880 rfl ?_
  refine lq_x2 X dL_law_883 ?_
  refine lq_arg X (j := 1) (by decide) (by decide) hi dL_law_884 dL_law_885 dL_law_886 dL_law_887 dL_law_888 ?_
  refine lq_R (st := [.int r]) X (cm_X8_ask _ _ _ _ _ h2) wq_X8_ask.1 wq_X8_ask.2.1 wq_X8_ask.2.2.1 wq_X8_ask.2.2.2 rfl ⟨rfl, rfl, Nat.le_of_ble_eq_true rfl, Nat.le_of_ble_eq_true rfl⟩ rfl rfl (Nat.le_of_ble_eq_true rfl) dL_law_889 rfl ?_
  exact lq_same X dL_law_892 (by decide) (k S1 T1 A1 h3)
theorem dL_law_897 : decode cL_law 897 = .ok (.aload_n 1, 1) := by decide +kernel
theorem dL_law_898 : decode cL_law 898 = .ok (.aload_n 0, 1) := by decide +kernel
theorem dL_law_899 : decode cL_law 899 = .ok (.iload_n 3, 1) := by decide +kernel
theorem dL_law_900 : decode cL_law 900 = .ok (.iconst 1, 1) := by decide +kernel
theorem dL_law_901 : decode cL_law 901 = .ok (.iadd, 1) := by decide +kernel
theorem dL_law_902 : decode cL_law 902 = .ok (.iaload, 1) := by decide +kernel
theorem dL_law_903 : decode cL_law 903 = .ok (.aload_n 0, 1) := by decide +kernel
theorem dL_law_904 : decode cL_law 904 = .ok (.iload_n 3, 1) := by decide +kernel
theorem dL_law_905 : decode cL_law 905 = .ok (.iconst 2, 1) := by decide +kernel
theorem dL_law_906 : decode cL_law 906 = .ok (.iadd, 1) := by decide +kernel
theorem dL_law_907 : decode cL_law 907 = .ok (.iaload, 1) := by decide +kernel
theorem dL_law_908 : decode cL_law 908 = .ok (.aload_n 0, 1) := by decide +kernel
theorem dL_law_909 : decode cL_law 909 = .ok (.iload_n 3, 1) := by decide +kernel
theorem dL_law_910 : decode cL_law 910 = .ok (.iconst 3, 1) := by decide +kernel
theorem dL_law_911 : decode cL_law 911 = .ok (.iadd, 1) := by decide +kernel
theorem dL_law_912 : decode cL_law 912 = .ok (.iaload, 1) := by decide +kernel
theorem dL_law_913 : decode cL_law 913 = .ok (.invokevirtual 125, 3) := by decide +kernel
theorem dL_law_916 : decode cL_law 916 = .ok (.aload_n 2, 1) := by decide +kernel
theorem dL_law_917 : decode cL_law 917 = .ok (.aload_n 0, 1) := by decide +kernel
theorem dL_law_918 : decode cL_law 918 = .ok (.iload_n 3, 1) := by decide +kernel
theorem dL_law_919 : decode cL_law 919 = .ok (.iconst 1, 1) := by decide +kernel
theorem dL_law_920 : decode cL_law 920 = .ok (.iadd, 1) := by decide +kernel
theorem dL_law_921 : decode cL_law 921 = .ok (.iaload, 1) := by decide +kernel
theorem dL_law_922 : decode cL_law 922 = .ok (.aload_n 0, 1) := by decide +kernel
theorem dL_law_923 : decode cL_law 923 = .ok (.iload_n 3, 1) := by decide +kernel
theorem dL_law_924 : decode cL_law 924 = .ok (.iconst 2, 1) := by decide +kernel
theorem dL_law_925 : decode cL_law 925 = .ok (.iadd, 1) := by decide +kernel
theorem dL_law_926 : decode cL_law 926 = .ok (.iaload, 1) := by decide +kernel
theorem dL_law_927 : decode cL_law 927 = .ok (.aload_n 0, 1) := by decide +kernel
theorem dL_law_928 : decode cL_law 928 = .ok (.iload_n 3, 1) := by decide +kernel
theorem dL_law_929 : decode cL_law 929 = .ok (.iconst 3, 1) := by decide +kernel
theorem dL_law_930 : decode cL_law 930 = .ok (.iadd, 1) := by decide +kernel
theorem dL_law_931 : decode cL_law 931 = .ok (.iaload, 1) := by decide +kernel
theorem dL_law_932 : decode cL_law 932 = .ok (.invokevirtual 129, 3) := by decide +kernel
theorem dL_law_935 : decode cL_law 935 = .ok (.lcmp, 1) := by decide +kernel
theorem dL_law_936 : decode cL_law 936 = .ok (.ifCond .eq 333, 3) := by decide +kernel
theorem dL_law_939 : decode cL_law 939 = .ok (.iconst 0, 1) := by decide +kernel
theorem dL_law_940 : decode cL_law 940 = .ok (.ireturn, 1) := by decide +kernel
theorem wq_X7_chance : tg_Y0 yX7_chance cX7_chance 10 (some .long) 3 ∧ Cond.instanceMethod yX7_chance ∈ tg_gG ∧ Cond.selects yX7_chance.cls yX7_chance yX7_chance ∈ tg_gG ∧ Cond.methodLink RL 125 yX7_chance ∈ tg_gG := ⟨⟨tg_mem (List.mem_of_getElem? (i := 642) (by decide +kernel)) (by decide +kernel), wi_X7, by decide +kernel, by decide +kernel, by decide +kernel⟩, tg_mem (List.mem_of_getElem? (i := 640) (by decide +kernel)) (by decide +kernel), tg_mem (List.mem_of_getElem? (i := 641) (by decide +kernel)) (by decide +kernel), tg_mem (List.mem_of_getElem? (i := 639) (by decide +kernel)) (by decide +kernel)⟩
theorem wq_X8_chance : tg_Y0 yX8_chance cX8_chance 4 (some .long) 3 ∧ Cond.instanceMethod yX8_chance ∈ tg_gG ∧ Cond.selects yX8_chance.cls yX8_chance yX8_chance ∈ tg_gG ∧ Cond.methodLink RL 129 yX8_chance ∈ tg_gG := ⟨⟨tg_mem (List.mem_of_getElem? (i := 1216) (by decide +kernel)) (by decide +kernel), wi_X8, by decide +kernel, by decide +kernel, by decide +kernel⟩, tg_mem (List.mem_of_getElem? (i := 1214) (by decide +kernel)) (by decide +kernel), tg_mem (List.mem_of_getElem? (i := 1215) (by decide +kernel)) (by decide +kernel), tg_mem (List.mem_of_getElem? (i := 1213) (by decide +kernel)) (by decide +kernel)⟩
theorem lc_27 {x : tg_X} {b L : Nat} {xs : Nat → Int32} {bd : Nat → Nat} {S T : tg_S} {A : Nat → Nat → Nat} {i : Nat} (X : lq_M x b L xs) (hI : z_I S T A) (hi : i + 6 ≤ L) (k : ∀ S T A, z_I S T A → lq_G x b bd S T i 1269 []) : lq_G x b bd S T i 897 [] := by
  obtain ⟨S1, T1, r, A1, h1, h2, h3⟩ := e_chance S T A hI (xs (i + 1)) (xs (i + 2)) (xs (i + 3))
  refine lq_x1 X dL_law_897 ?_
  refine lq_arg X (j := 1) (by decide) (by decide) hi dL_law_898 dL_law_899 dL_law_900 dL_law_901 dL_law_902 ?_
  refine lq_arg X (j := 2) (by decide) (by decide) hi dL_law_903 dL_law_904 dL_law_905 dL_law_906 dL_law_907 ?_
  refine lq_arg X (j := 3) (by decide) (by decide) hi dL_law_908 dL_law_909 dL_law_910 dL_law_911 dL_law_912 ?_
  refine lq_C (st := []) X (cm_X7_chance _ _ _ _ _ h1) wq_X7_chance.1 wq_X7_chance.2.1 wq_X7_chance.2.2.1 wq_X7_chance.2.2.2 rfl ⟨rfl, rfl, Nat.le_of_ble_eq_true rfl, Nat.le_of_ble_eq_true rfl⟩ rfl rfl (Nat.le_of_ble_eq_true rfl) dL_law_913 rfl ?_
  refine lq_x2 X dL_law_916 ?_
  refine lq_arg X (j := 1) (by decide) (by decide) hi dL_law_917 dL_law_918 dL_law_919 dL_law_920 dL_law_921 ?_
  refine lq_arg X (j := 2) (by decide) (by decide) hi dL_law_922 dL_law_923 dL_law_924 dL_law_925 dL_law_926 ?_
  refine lq_arg X (j := 3) (by decide) (by decide) hi dL_law_927 dL_law_928 dL_law_929 dL_law_930 dL_law_931 ?_
  refine lq_R (st := [.long r]) X (cm_X8_chance _ _ _ _ _ h2) wq_X8_chance.1 wq_X8_chance.2.1 wq_X8_chance.2.2.1 wq_X8_chance.2.2.2 rfl ⟨rfl, rfl, Nat.le_of_ble_eq_true rfl, Nat.le_of_ble_eq_true rfl⟩ rfl rfl (Nat.le_of_ble_eq_true rfl) dL_law_932 rfl ?_
  exact lq_sameL X dL_law_935 dL_law_936 (by decide) (k S1 T1 A1 h3)
