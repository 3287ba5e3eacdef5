theorem eL_law_695 : DD cL_law 695 (.aload_n 1) 1 696 := ⟨by decide +kernel, rfl⟩
theorem eL_law_696 : DD cL_law 696 (.aload_n 0) 1 697 := ⟨by decide +kernel, rfl⟩
theorem eL_law_697 : DD cL_law 697 (.iload 4) 2 699 := ⟨by decide +kernel, rfl⟩
theorem eL_law_699 : DD cL_law 699 (.iconst 1) 1 700 := ⟨by decide +kernel, rfl⟩
theorem eL_law_700 : DD cL_law 700 (.iadd) 1 701 := ⟨by decide +kernel, rfl⟩
theorem eL_law_701 : DD cL_law 701 (.iaload) 1 702 := ⟨by decide +kernel, rfl⟩
theorem eL_law_702 : DD cL_law 702 (.aload_n 0) 1 703 := ⟨by decide +kernel, rfl⟩
theorem eL_law_703 : DD cL_law 703 (.iload 4) 2 705 := ⟨by decide +kernel, rfl⟩
theorem eL_law_705 : DD cL_law 705 (.iconst 2) 1 706 := ⟨by decide +kernel, rfl⟩
theorem eL_law_706 : DD cL_law 706 (.iadd) 1 707 := ⟨by decide +kernel, rfl⟩
theorem eL_law_707 : DD cL_law 707 (.iaload) 1 708 := ⟨by decide +kernel, rfl⟩
theorem eL_law_708 : DD cL_law 708 (.aload_n 0) 1 709 := ⟨by decide +kernel, rfl⟩
theorem eL_law_709 : DD cL_law 709 (.iload 4) 2 711 := ⟨by decide +kernel, rfl⟩
theorem eL_law_711 : DD cL_law 711 (.iconst 3) 1 712 := ⟨by decide +kernel, rfl⟩
theorem eL_law_712 : DD cL_law 712 (.iadd) 1 713 := ⟨by decide +kernel, rfl⟩
theorem eL_law_713 : DD cL_law 713 (.iaload) 1 714 := ⟨by decide +kernel, rfl⟩
theorem eL_law_714 : DD cL_law 714 (.aload_n 0) 1 715 := ⟨by decide +kernel, rfl⟩
theorem eL_law_715 : DD cL_law 715 (.iload 4) 2 717 := ⟨by decide +kernel, rfl⟩
theorem eL_law_717 : DD cL_law 717 (.iconst 4) 1 718 := ⟨by decide +kernel, rfl⟩
theorem eL_law_718 : DD cL_law 718 (.iadd) 1 719 := ⟨by decide +kernel, rfl⟩
theorem eL_law_719 : DD cL_law 719 (.iaload) 1 720 := ⟨by decide +kernel, rfl⟩
theorem eL_law_720 : DD cL_law 720 (.invokevirtual 75) 3 723 := ⟨by decide +kernel, rfl⟩
theorem eL_law_723 : DD cL_law 723 (.aload_n 2) 1 724 := ⟨by decide +kernel, rfl⟩
theorem eL_law_724 : DD cL_law 724 (.aload_n 0) 1 725 := ⟨by decide +kernel, rfl⟩
theorem eL_law_725 : DD cL_law 725 (.iload 4) 2 727 := ⟨by decide +kernel, rfl⟩
theorem eL_law_727 : DD cL_law 727 (.iconst 1) 1 728 := ⟨by decide +kernel, rfl⟩
theorem eL_law_728 : DD cL_law 728 (.iadd) 1 729 := ⟨by decide +kernel, rfl⟩
theorem eL_law_729 : DD cL_law 729 (.iaload) 1 730 := ⟨by decide +kernel, rfl⟩
theorem eL_law_730 : DD cL_law 730 (.aload_n 0) 1 731 := ⟨by decide +kernel, rfl⟩
theorem eL_law_731 : DD cL_law 731 (.iload 4) 2 733 := ⟨by decide +kernel, rfl⟩
theorem eL_law_733 : DD cL_law 733 (.iconst 2) 1 734 := ⟨by decide +kernel, rfl⟩
theorem eL_law_734 : DD cL_law 734 (.iadd) 1 735 := ⟨by decide +kernel, rfl⟩
theorem eL_law_735 : DD cL_law 735 (.iaload) 1 736 := ⟨by decide +kernel, rfl⟩
theorem eL_law_736 : DD cL_law 736 (.aload_n 0) 1 737 := ⟨by decide +kernel, rfl⟩
theorem eL_law_737 : DD cL_law 737 (.iload 4) 2 739 := ⟨by decide +kernel, rfl⟩
theorem eL_law_739 : DD cL_law 739 (.iconst 3) 1 740 := ⟨by decide +kernel, rfl⟩
theorem eL_law_740 : DD cL_law 740 (.iadd) 1 741 := ⟨by decide +kernel, rfl⟩
theorem eL_law_741 : DD cL_law 741 (.iaload) 1 742 := ⟨by decide +kernel, rfl⟩
theorem eL_law_742 : DD cL_law 742 (.aload_n 0) 1 743 := ⟨by decide +kernel, rfl⟩
theorem eL_law_743 : DD cL_law 743 (.iload 4) 2 745 := ⟨by decide +kernel, rfl⟩
theorem eL_law_745 : DD cL_law 745 (.iconst 4) 1 746 := ⟨by decide +kernel, rfl⟩
theorem eL_law_746 : DD cL_law 746 (.iadd) 1 747 := ⟨by decide +kernel, rfl⟩
theorem eL_law_747 : DD cL_law 747 (.iaload) 1 748 := ⟨by decide +kernel, rfl⟩
theorem eL_law_748 : DD cL_law 748 (.invokevirtual 78) 3 751 := ⟨by decide +kernel, rfl⟩
theorem eL_law_751 : DB cL_law 751 (.if_icmp .eq 995) (995) 754 1746 := ⟨by decide +kernel, rfl, by decide⟩
def Z_11 (L : Nat) (ys : Nat → Int32) (kc : Int32 → Mem → Option Unit) (x4 : Int32) (μ : Mem) : Option Unit :=
  gq (inB (x4 + (1 : Int32)) L) (gq (inB (x4 + (2 : Int32)) L) (gq (inB (x4 + (3 : Int32)) L) (gq (inB (x4 + (4 : Int32)) L) (bd (G_X10_border (ys (nx (x4 + (1 : Int32)))) (ys (nx (x4 + (2 : Int32)))) (ys (nx (x4 + (3 : Int32)))) (ys (nx (x4 + (4 : Int32)))) μ) (fun r_2 μ_1 => gq (inB (x4 + (1 : Int32)) L) (gq (inB (x4 + (2 : Int32)) L) (gq (inB (x4 + (3 : Int32)) L) (gq (inB (x4 + (4 : Int32)) L) (bd (G_X11_border (ys (nx (x4 + (1 : Int32)))) (ys (nx (x4 + (2 : Int32)))) (ys (nx (x4 + (3 : Int32)))) (ys (nx (x4 + (4 : Int32)))) μ_1) (fun r_4 μ_3 => if r_2 = r_4 then kc x4 μ_3 else none))))))))))
set_option maxHeartbeats 4000000 in
theorem z_11 {C : Cx} (hC : Ok C cL_law 7 RL room_1) {K : Unit → State → Prop} {b L : Nat} {ys : Nat → Int32} (hs : SC C b L ys) (kc : Int32 → Mem → Option Unit) (hk : ∀ (x4 : Int32) (μ : Mem), J C K μ 1746 [(0, .ref b), (1, .ref (xad (cX C) 0)), (2, .ref (xad (cX C) 107)), (3, .ref (xad (cX C) 126)), (4, .int x4)] [] (kc x4 μ)) (x4 : Int32) (μ : Mem) : J C K μ 695 [(0, .ref b), (1, .ref (xad (cX C) 0)), (2, .ref (xad (cX C) 107)), (3, .ref (xad (cX C) 126)), (4, .int x4)] [] (Z_11 L ys kc x4 μ) := by
  unfold Z_11
  refine J.aload_n (j := 1) hC eL_law_695 rfl ?_
  refine J.aload_n (j := 0) hC eL_law_696 rfl ?_
  refine J.iload (j := 4) hC eL_law_697 rfl ?_
  refine J.iconst hC eL_law_699 ci_1 ?_
  refine J.iadd hC eL_law_700 ?_
  refine J.sld hC hs eL_law_701 ?_
  refine J.aload_n (j := 0) hC eL_law_702 rfl ?_
  refine J.iload (j := 4) hC eL_law_703 rfl ?_
  refine J.iconst hC eL_law_705 ci_2 ?_
  refine J.iadd hC eL_law_706 ?_
  refine J.sld hC hs eL_law_707 ?_
  refine J.aload_n (j := 0) hC eL_law_708 rfl ?_
  refine J.iload (j := 4) hC eL_law_709 rfl ?_
  refine J.iconst hC eL_law_711 ci_3 ?_
  refine J.iadd hC eL_law_712 ?_
  refine J.sld hC hs eL_law_713 ?_
  refine J.aload_n (j := 0) hC eL_law_714 rfl ?_
  refine J.iload (j := 4) hC eL_law_715 rfl ?_
  refine J.iconst hC eL_law_717 ci_4 ?_
  refine J.iadd hC eL_law_718 ?_
  refine J.sld hC hs eL_law_719 ?_
  refine J.callVI (st := []) hC eL_law_720 kk_0 (by decide) rfl rfl ml_L_75 mv_X10_border ⟨rfl, rfl, Nat.le_of_ble_eq_true rfl, Nat.le_of_ble_eq_true rfl⟩ (c_X10_border hC.X (ys (nx (x4 + (1 : Int32)))) (ys (nx (x4 + (2 : Int32)))) (ys (nx (x4 + (3 : Int32)))) (ys (nx (x4 + (4 : Int32)))) μ) rfl rfl (Nat.le_of_ble_eq_true rfl) (fun r_2 μ_1 => ?_)
  refine J.aload_n (j := 2) hC eL_law_723 rfl ?_
  refine J.aload_n (j := 0) hC eL_law_724 rfl ?_
  refine J.iload (j := 4) hC eL_law_725 rfl ?_
  refine J.iconst hC eL_law_727 ci_1 ?_
  refine J.iadd hC eL_law_728 ?_
  refine J.sld hC hs eL_law_729 ?_
  refine J.aload_n (j := 0) hC eL_law_730 rfl ?_
  refine J.iload (j := 4) hC eL_law_731 rfl ?_
  refine J.iconst hC eL_law_733 ci_2 ?_
  refine J.iadd hC eL_law_734 ?_
  refine J.sld hC hs eL_law_735 ?_
  refine J.aload_n (j := 0) hC eL_law_736 rfl ?_
  refine J.iload (j := 4) hC eL_law_737 rfl ?_
  refine J.iconst hC eL_law_739 ci_3 ?_
  refine J.iadd hC eL_law_740 ?_
  refine J.sld hC hs eL_law_741 ?_
  refine J.aload_n (j := 0) hC eL_law_742 rfl ?_
  refine J.iload (j := 4) hC eL_law_743 rfl ?_
  refine J.iconst hC eL_law_745 ci_4 ?_
  refine J.iadd hC eL_law_746 ?_
  refine J.sld hC hs eL_law_747 ?_
  refine J.callVI (st := [.int r_2]) hC eL_law_748 kk_107 (by decide) rfl rfl ml_L_78 mv_X11_border ⟨rfl, rfl, Nat.le_of_ble_eq_true rfl, Nat.le_of_ble_eq_true rfl⟩ (c_X11_border hC.X (ys (nx (x4 + (1 : Int32)))) (ys (nx (x4 + (2 : Int32)))) (ys (nx (x4 + (3 : Int32)))) (ys (nx (x4 + (4 : Int32)))) μ_1) rfl rfl (Nat.le_of_ble_eq_true rfl) (fun r_4 μ_3 => ?_)
  refine J.icmp_eq hC eL_law_751 (fun _ => ?_) (fun _ => ?_)
  · refine J.sub [0, 1, 2, 3, 4] rfl ?_
    exact hk x4 μ_3
  · exact J.no
theorem eL_law_756 : DD cL_law 756 (.aload_n 1) 1 757 := ⟨by decide +kernel, rfl⟩
theorem eL_law_757 : DD cL_law 757 (.aload_n 0) 1 758 := ⟨by decide +kernel, rfl⟩
theorem eL_law_758 : DD cL_law 758 (.iload 4) 2 760 := ⟨by decide +kernel, rfl⟩
theorem eL_law_760 : DD cL_law 760 (.iconst 1) 1 761 := ⟨by decide +kernel, rfl⟩
theorem eL_law_761 : DD cL_law 761 (.iadd) 1 762 := ⟨by decide +kernel, rfl⟩
theorem eL_law_762 : DD cL_law 762 (.iaload) 1 763 := ⟨by decide +kernel, rfl⟩
theorem eL_law_763 : DD cL_law 763 (.aload_n 0) 1 764 := ⟨by decide +kernel, rfl⟩
theorem eL_law_764 : DD cL_law 764 (.iload 4) 2 766 := ⟨by decide +kernel, rfl⟩
theorem eL_law_766 : DD cL_law 766 (.iconst 2) 1 767 := ⟨by decide +kernel, rfl⟩
theorem eL_law_767 : DD cL_law 767 (.iadd) 1 768 := ⟨by decide +kernel, rfl⟩
theorem eL_law_768 : DD cL_law 768 (.iaload) 1 769 := ⟨by decide +kernel, rfl⟩
theorem eL_law_769 : DD cL_law 769 (.aload_n 0) 1 770 := ⟨by decide +kernel, rfl⟩
theorem eL_law_770 : DD cL_law 770 (.iload 4) 2 772 := ⟨by decide +kernel, rfl⟩
theorem eL_law_772 : DD cL_law 772 (.iconst 3) 1 773 := ⟨by decide +kernel, rfl⟩
theorem eL_law_773 : DD cL_law 773 (.iadd) 1 774 := ⟨by decide +kernel, rfl⟩
theorem eL_law_774 : DD cL_law 774 (.iaload) 1 775 := ⟨by decide +kernel, rfl⟩
theorem eL_law_775 : DD cL_law 775 (.aload_n 0) 1 776 := ⟨by decide +kernel, rfl⟩
theorem eL_law_776 : DD cL_law 776 (.iload 4) 2 778 := ⟨by decide +kernel, rfl⟩
theorem eL_law_778 : DD cL_law 778 (.iconst 4) 1 779 := ⟨by decide +kernel, rfl⟩
theorem eL_law_779 : DD cL_law 779 (.iadd) 1 780 := ⟨by decide +kernel, rfl⟩
theorem eL_law_780 : DD cL_law 780 (.iaload) 1 781 := ⟨by decide +kernel, rfl⟩
theorem eL_law_781 : DD cL_law 781 (.invokevirtual 79) 3 784 := ⟨by decide +kernel, rfl⟩
theorem eL_law_784 : DD cL_law 784 (.aload_n 2) 1 785 := ⟨by decide +kernel, rfl⟩
theorem eL_law_785 : DD cL_law 785 (.aload_n 0) 1 786 := ⟨by decide +kernel, rfl⟩
theorem eL_law_786 : DD cL_law 786 (.iload 4) 2 788 := ⟨by decide +kernel, rfl⟩
theorem eL_law_788 : DD cL_law 788 (.iconst 1) 1 789 := ⟨by decide +kernel, rfl⟩
theorem eL_law_789 : DD cL_law 789 (.iadd) 1 790 := ⟨by decide +kernel, rfl⟩
theorem eL_law_790 : DD cL_law 790 (.iaload) 1 791 := ⟨by decide +kernel, rfl⟩
theorem eL_law_791 : DD cL_law 791 (.aload_n 0) 1 792 := ⟨by decide +kernel, rfl⟩
theorem eL_law_792 : DD cL_law 792 (.iload 4) 2 794 := ⟨by decide +kernel, rfl⟩
theorem eL_law_794 : DD cL_law 794 (.iconst 2) 1 795 := ⟨by decide +kernel, rfl⟩
theorem eL_law_795 : DD cL_law 795 (.iadd) 1 796 := ⟨by decide +kernel, rfl⟩
theorem eL_law_796 : DD cL_law 796 (.iaload) 1 797 := ⟨by decide +kernel, rfl⟩
theorem eL_law_797 : DD cL_law 797 (.aload_n 0) 1 798 := ⟨by decide +kernel, rfl⟩
theorem eL_law_798 : DD cL_law 798 (.iload 4) 2 800 := ⟨by decide +kernel, rfl⟩
theorem eL_law_800 : DD cL_law 800 (.iconst 3) 1 801 := ⟨by decide +kernel, rfl⟩
theorem eL_law_801 : DD cL_law 801 (.iadd) 1 802 := ⟨by decide +kernel, rfl⟩
theorem eL_law_802 : DD cL_law 802 (.iaload) 1 803 := ⟨by decide +kernel, rfl⟩
theorem eL_law_803 : DD cL_law 803 (.aload_n 0) 1 804 := ⟨by decide +kernel, rfl⟩
theorem eL_law_804 : DD cL_law 804 (.iload 4) 2 806 := ⟨by decide +kernel, rfl⟩
theorem eL_law_806 : DD cL_law 806 (.iconst 4) 1 807 := ⟨by decide +kernel, rfl⟩
theorem eL_law_807 : DD cL_law 807 (.iadd) 1 808 := ⟨by decide +kernel, rfl⟩
theorem eL_law_808 : DD cL_law 808 (.iaload) 1 809 := ⟨by decide +kernel, rfl⟩
theorem eL_law_809 : DD cL_law 809 (.invokevirtual 82) 3 812 := ⟨by decide +kernel, rfl⟩
theorem eL_law_812 : DB cL_law 812 (.if_icmp .eq 934) (934) 815 1746 := ⟨by decide +kernel, rfl, by decide⟩
def Z_12 (L : Nat) (ys : Nat → Int32) (kc : Int32 → Mem → Option Unit) (x4 : Int32) (μ : Mem) : Option Unit :=
  gq (inB (x4 + (1 : Int32)) L) (gq (inB (x4 + (2 : Int32)) L) (gq (inB (x4 + (3 : Int32)) L) (gq (inB (x4 + (4 : Int32)) L) (bd (G_X10_tried (ys (nx (x4 + (1 : Int32)))) (ys (nx (x4 + (2 : Int32)))) (ys (nx (x4 + (3 : Int32)))) (ys (nx (x4 + (4 : Int32)))) μ) (fun r_2 μ_1 => gq (inB (x4 + (1 : Int32)) L) (gq (inB (x4 + (2 : Int32)) L) (gq (inB (x4 + (3 : Int32)) L) (gq (inB (x4 + (4 : Int32)) L) (bd (G_X11_tried (ys (nx (x4 + (1 : Int32)))) (ys (nx (x4 + (2 : Int32)))) (ys (nx (x4 + (3 : Int32)))) (ys (nx (x4 + (4 : Int32)))) μ_1) (fun r_4 μ_3 => if r_2 = r_4 then kc x4 μ_3 else none))))))))))
set_option maxHeartbeats 4000000 in
theorem z_12 {C : Cx} (hC : Ok C cL_law 7 RL room_1) {K : Unit → State → Prop} {b L : Nat} {ys : Nat → Int32} (hs : SC C b L ys) (kc : Int32 → Mem → Option Unit) (hk : ∀ (x4 : Int32) (μ : Mem), J C K μ 1746 [(0, .ref b), (1, .ref (xad (cX C) 0)), (2, .ref (xad (cX C) 107)), (3, .ref (xad (cX C) 126)), (4, .int x4)] [] (kc x4 μ)) (x4 : Int32) (μ : Mem) : J C K μ 756 [(0, .ref b), (1, .ref (xad (cX C) 0)), (2, .ref (xad (cX C) 107)), (3, .ref (xad (cX C) 126)), (4, .int x4)] [] (Z_12 L ys kc x4 μ) := by
  unfold Z_12
  refine J.aload_n (j := 1) hC eL_law_756 rfl ?_
  refine J.aload_n (j := 0) hC eL_law_757 rfl ?_
  refine J.iload (j := 4) hC eL_law_758 rfl ?_
  refine J.iconst hC eL_law_760 ci_1 ?_
  refine J.iadd hC eL_law_761 ?_
  refine J.sld hC hs eL_law_762 ?_
  refine J.aload_n (j := 0) hC eL_law_763 rfl ?_
  refine J.iload (j := 4) hC eL_law_764 rfl ?_
  refine J.iconst hC eL_law_766 ci_2 ?_
  refine J.iadd hC eL_law_767 ?_
  refine J.sld hC hs eL_law_768 ?_
  refine J.aload_n (j := 0) hC eL_law_769 rfl ?_
  refine J.iload (j := 4) hC eL_law_770 rfl ?_
  refine J.iconst hC eL_law_772 ci_3 ?_
  refine J.iadd hC eL_law_773 ?_
  refine J.sld hC hs eL_law_774 ?_
  refine J.aload_n (j := 0) hC eL_law_775 rfl ?_
  refine J.iload (j := 4) hC eL_law_776 rfl ?_
  refine J.iconst hC eL_law_778 ci_4 ?_
  refine J.iadd hC eL_law_779 ?_
  refine J.sld hC hs eL_law_780 ?_
  refine J.callVI (st := []) hC eL_law_781 kk_0 (by decide) rfl rfl ml_L_79 mv_X10_tried ⟨rfl, rfl, Nat.le_of_ble_eq_true rfl, Nat.le_of_ble_eq_true rfl⟩ (c_X10_tried hC.X (ys (nx (x4 + (1 : Int32)))) (ys (nx (x4 + (2 : Int32)))) (ys (nx (x4 + (3 : Int32)))) (ys (nx (x4 + (4 : Int32)))) μ) rfl rfl (Nat.le_of_ble_eq_true rfl) (fun r_2 μ_1 => ?_)
  refine J.aload_n (j := 2) hC eL_law_784 rfl ?_
  refine J.aload_n (j := 0) hC eL_law_785 rfl ?_
  refine J.iload (j := 4) hC eL_law_786 rfl ?_
  refine J.iconst hC eL_law_788 ci_1 ?_
  refine J.iadd hC eL_law_789 ?_
  refine J.sld hC hs eL_law_790 ?_
  refine J.aload_n (j := 0) hC eL_law_791 rfl ?_
  refine J.iload (j := 4) hC eL_law_792 rfl ?_
  refine J.iconst hC eL_law_794 ci_2 ?_
  refine J.iadd hC eL_law_795 ?_
  refine J.sld hC hs eL_law_796 ?_
  refine J.aload_n (j := 0) hC eL_law_797 rfl ?_
  refine J.iload (j := 4) hC eL_law_798 rfl ?_
  refine J.iconst hC eL_law_800 ci_3 ?_
  refine J.iadd hC eL_law_801 ?_
  refine J.sld hC hs eL_law_802 ?_
  refine J.aload_n (j := 0) hC eL_law_803 rfl ?_
  refine J.iload (j := 4) hC eL_law_804 rfl ?_
  refine J.iconst hC eL_law_806 ci_4 ?_
  refine J.iadd hC eL_law_807 ?_
  refine J.sld hC hs eL_law_808 ?_
  refine J.callVI (st := [.int r_2]) hC eL_law_809 kk_107 (by decide) rfl rfl ml_L_82 mv_X11_tried ⟨rfl, rfl, Nat.le_of_ble_eq_true rfl, Nat.le_of_ble_eq_true rfl⟩ (c_X11_tried hC.X (ys (nx (x4 + (1 : Int32)))) (ys (nx (x4 + (2 : Int32)))) (ys (nx (x4 + (3 : Int32)))) (ys (nx (x4 + (4 : Int32)))) μ_1) rfl rfl (Nat.le_of_ble_eq_true rfl) (fun r_4 μ_3 => ?_)
  refine J.icmp_eq hC eL_law_812 (fun _ => ?_) (fun _ => ?_)
  · refine J.sub [0, 1, 2, 3, 4] rfl ?_
    exact hk x4 μ_3
  · exact J.no
theorem eL_law_817 : DD cL_law 817 (.aload_n 1) 1 818 := ⟨by decide +kernel, rfl⟩
theorem eL_law_818 : DD cL_law 818 (.aload_n 0) 1 819 := ⟨by decide +kernel, rfl⟩
theorem eL_law_819 : DD cL_law 819 (.iload 4) 2 821 := ⟨by decide +kernel, rfl⟩
theorem eL_law_821 : DD cL_law 821 (.iconst 1) 1 822 := ⟨by decide +kernel, rfl⟩
theorem eL_law_822 : DD cL_law 822 (.iadd) 1 823 := ⟨by decide +kernel, rfl⟩
theorem eL_law_823 : DD cL_law 823 (.iaload) 1 824 := ⟨by decide +kernel, rfl⟩
theorem eL_law_824 : DD cL_law 824 (.aload_n 0) 1 825 := ⟨by decide +kernel, rfl⟩
theorem eL_law_825 : DD cL_law 825 (.iload 4) 2 827 := ⟨by decide +kernel, rfl⟩
theorem eL_law_827 : DD cL_law 827 (.iconst 2) 1 828 := ⟨by decide +kernel, rfl⟩
theorem eL_law_828 : DD cL_law 828 (.iadd) 1 829 := ⟨by decide +kernel, rfl⟩
theorem eL_law_829 : DD cL_law 829 (.iaload) 1 830 := ⟨by decide +kernel, rfl⟩
theorem eL_law_830 : DD cL_law 830 (.aload_n 0) 1 831 := ⟨by decide +kernel, rfl⟩
theorem eL_law_831 : DD cL_law 831 (.iload 4) 2 833 := ⟨by decide +kernel, rfl⟩
theorem eL_law_833 : DD cL_law 833 (.iconst 3) 1 834 := ⟨by decide +kernel, rfl⟩
theorem eL_law_834 : DD cL_law 834 (.iadd) 1 835 := ⟨by decide +kernel, rfl⟩
theorem eL_law_835 : DD cL_law 835 (.iaload) 1 836 := ⟨by decide +kernel, rfl⟩
theorem eL_law_836 : DD cL_law 836 (.i2l) 1 837 := ⟨by decide +kernel, rfl⟩
theorem eL_law_837 : DD cL_law 837 (.bipush 32) 2 839 := ⟨by decide +kernel, rfl⟩
theorem eL_law_839 : DD cL_law 839 (.lshl) 1 840 := ⟨by decide +kernel, rfl⟩
theorem eL_law_840 : DD cL_law 840 (.aload_n 0) 1 841 := ⟨by decide +kernel, rfl⟩
theorem eL_law_841 : DD cL_law 841 (.iload 4) 2 843 := ⟨by decide +kernel, rfl⟩
theorem eL_law_843 : DD cL_law 843 (.iconst 4) 1 844 := ⟨by decide +kernel, rfl⟩
theorem eL_law_844 : DD cL_law 844 (.iadd) 1 845 := ⟨by decide +kernel, rfl⟩
theorem eL_law_845 : DD cL_law 845 (.iaload) 1 846 := ⟨by decide +kernel, rfl⟩
theorem eL_law_846 : DD cL_law 846 (.i2l) 1 847 := ⟨by decide +kernel, rfl⟩
theorem eL_law_847 : DD cL_law 847 (.ldc2_w 83) 3 850 := ⟨by decide +kernel, rfl⟩
theorem eL_law_850 : DD cL_law 850 (.land) 1 851 := ⟨by decide +kernel, rfl⟩
theorem eL_law_851 : DD cL_law 851 (.lor) 1 852 := ⟨by decide +kernel, rfl⟩
theorem eL_law_852 : DD cL_law 852 (.invokevirtual 85) 3 855 := ⟨by decide +kernel, rfl⟩
theorem eL_law_855 : DD cL_law 855 (.aload_n 2) 1 856 := ⟨by decide +kernel, rfl⟩
theorem eL_law_856 : DD cL_law 856 (.aload_n 0) 1 857 := ⟨by decide +kernel, rfl⟩
theorem eL_law_857 : DD cL_law 857 (.iload 4) 2 859 := ⟨by decide +kernel, rfl⟩
theorem eL_law_859 : DD cL_law 859 (.iconst 1) 1 860 := ⟨by decide +kernel, rfl⟩
theorem eL_law_860 : DD cL_law 860 (.iadd) 1 861 := ⟨by decide +kernel, rfl⟩
theorem eL_law_861 : DD cL_law 861 (.iaload) 1 862 := ⟨by decide +kernel, rfl⟩
theorem eL_law_862 : DD cL_law 862 (.aload_n 0) 1 863 := ⟨by decide +kernel, rfl⟩
theorem eL_law_863 : DD cL_law 863 (.iload 4) 2 865 := ⟨by decide +kernel, rfl⟩
theorem eL_law_865 : DD cL_law 865 (.iconst 2) 1 866 := ⟨by decide +kernel, rfl⟩
theorem eL_law_866 : DD cL_law 866 (.iadd) 1 867 := ⟨by decide +kernel, rfl⟩
theorem eL_law_867 : DD cL_law 867 (.iaload) 1 868 := ⟨by decide +kernel, rfl⟩
theorem eL_law_868 : DD cL_law 868 (.aload_n 0) 1 869 := ⟨by decide +kernel, rfl⟩
theorem eL_law_869 : DD cL_law 869 (.iload 4) 2 871 := ⟨by decide +kernel, rfl⟩
theorem eL_law_871 : DD cL_law 871 (.iconst 3) 1 872 := ⟨by decide +kernel, rfl⟩
theorem eL_law_872 : DD cL_law 872 (.iadd) 1 873 := ⟨by decide +kernel, rfl⟩
theorem eL_law_873 : DD cL_law 873 (.iaload) 1 874 := ⟨by decide +kernel, rfl⟩
theorem eL_law_874 : DD cL_law 874 (.i2l) 1 875 := ⟨by decide +kernel, rfl⟩
theorem eL_law_875 : DD cL_law 875 (.bipush 32) 2 877 := ⟨by decide +kernel, rfl⟩
theorem eL_law_877 : DD cL_law 877 (.lshl) 1 878 := ⟨by decide +kernel, rfl⟩
theorem eL_law_878 : DD cL_law 878 (.aload_n 0) 1 879 := ⟨by decide +kernel, rfl⟩
theorem eL_law_879 : DD cL_law 879 (.iload 4) 2 881 := ⟨by decide +kernel, rfl⟩
theorem eL_law_881 : DD cL_law 881 (.iconst 4) 1 882 := ⟨by decide +kernel, rfl⟩
theorem eL_law_882 : DD cL_law 882 (.iadd) 1 883 := ⟨by decide +kernel, rfl⟩
theorem eL_law_883 : DD cL_law 883 (.iaload) 1 884 := ⟨by decide +kernel, rfl⟩
theorem eL_law_884 : DD cL_law 884 (.i2l) 1 885 := ⟨by decide +kernel, rfl⟩
theorem eL_law_885 : DD cL_law 885 (.ldc2_w 83) 3 888 := ⟨by decide +kernel, rfl⟩
theorem eL_law_888 : DD cL_law 888 (.land) 1 889 := ⟨by decide +kernel, rfl⟩
theorem eL_law_889 : DD cL_law 889 (.lor) 1 890 := ⟨by decide +kernel, rfl⟩
theorem eL_law_890 : DD cL_law 890 (.invokevirtual 89) 3 893 := ⟨by decide +kernel, rfl⟩
theorem eL_law_893 : DB cL_law 893 (.if_icmp .eq 853) (853) 896 1746 := ⟨by decide +kernel, rfl, by decide⟩
def Z_13 (L : Nat) (ys : Nat → Int32) (kc : Int32 → Mem → Option Unit) (x4 : Int32) (μ : Mem) : Option Unit :=
  gq (inB (x4 + (1 : Int32)) L) (gq (inB (x4 + (2 : Int32)) L) (gq (inB (x4 + (3 : Int32)) L) (gq (inB (x4 + (4 : Int32)) L) (bd (G_X10_fewest (ys (nx (x4 + (1 : Int32)))) (ys (nx (x4 + (2 : Int32)))) ((((ys (nx (x4 + (3 : Int32)))).toInt64) <<< ((32 : Int32).toInt64 &&& 63)) ||| (((ys (nx (x4 + (4 : Int32)))).toInt64) &&& (4294967295 : Int64))) μ) (fun r_2 μ_1 => gq (inB (x4 + (1 : Int32)) L) (gq (inB (x4 + (2 : Int32)) L) (gq (inB (x4 + (3 : Int32)) L) (gq (inB (x4 + (4 : Int32)) L) (bd (G_X11_fewest (ys (nx (x4 + (1 : Int32)))) (ys (nx (x4 + (2 : Int32)))) ((((ys (nx (x4 + (3 : Int32)))).toInt64) <<< ((32 : Int32).toInt64 &&& 63)) ||| (((ys (nx (x4 + (4 : Int32)))).toInt64) &&& (4294967295 : Int64))) μ_1) (fun r_4 μ_3 => if r_2 = r_4 then kc x4 μ_3 else none))))))))))
set_option maxHeartbeats 4000000 in
theorem z_13 {C : Cx} (hC : Ok C cL_law 7 RL room_1) {K : Unit → State → Prop} {b L : Nat} {ys : Nat → Int32} (hs : SC C b L ys) (kc : Int32 → Mem → Option Unit) (hk : ∀ (x4 : Int32) (μ : Mem), J C K μ 1746 [(0, .ref b), (1, .ref (xad (cX C) 0)), (2, .ref (xad (cX C) 107)), (3, .ref (xad (cX C) 126)), (4, .int x4)] [] (kc x4 μ)) (x4 : Int32) (μ : Mem) : J C K μ 817 [(0, .ref b), (1, .ref (xad (cX C) 0)), (2, .ref (xad (cX C) 107)), (3, .ref (xad (cX C) 126)), (4, .int x4)] [] (Z_13 L ys kc x4 μ) := by
  unfold Z_13
  refine J.aload_n (j := 1) hC eL_law_817 rfl ?_
  refine J.aload_n (j := 0) hC eL_law_818 rfl ?_
  refine J.iload (j := 4) hC eL_law_819 rfl ?_
  refine J.iconst hC eL_law_821 ci_1 ?_
  refine J.iadd hC eL_law_822 ?_
  refine J.sld hC hs eL_law_823 ?_
  refine J.aload_n (j := 0) hC eL_law_824 rfl ?_
  refine J.iload (j := 4) hC eL_law_825 rfl ?_
  refine J.iconst hC eL_law_827 ci_2 ?_
  refine J.iadd hC eL_law_828 ?_
  refine J.sld hC hs eL_law_829 ?_
  refine J.aload_n (j := 0) hC eL_law_830 rfl ?_
  refine J.iload (j := 4) hC eL_law_831 rfl ?_
  refine J.iconst hC eL_law_833 ci_3 ?_
  refine J.iadd hC eL_law_834 ?_
  refine J.sld hC hs eL_law_835 ?_
  refine J.i2l hC eL_law_836 ?_
  refine J.bipush hC eL_law_837 cb_32 ?_
  refine J.lshl hC eL_law_839 ?_
  refine J.aload_n (j := 0) hC eL_law_840 rfl ?_
  refine J.iload (j := 4) hC eL_law_841 rfl ?_
  refine J.iconst hC eL_law_843 ci_4 ?_
  refine J.iadd hC eL_law_844 ?_
  refine J.sld hC hs eL_law_845 ?_
  refine J.i2l hC eL_law_846 ?_
  refine J.ldc2 hC eL_law_847 mk_L_83 ?_
  refine J.land hC eL_law_850 ?_
  refine J.lor hC eL_law_851 ?_
  refine J.callVI (st := []) hC eL_law_852 kk_0 (by decide) rfl rfl ml_L_85 mv_X10_fewest ⟨rfl, rfl, Nat.le_of_ble_eq_true rfl, Nat.le_of_ble_eq_true rfl⟩ (c_X10_fewest hC.X (ys (nx (x4 + (1 : Int32)))) (ys (nx (x4 + (2 : Int32)))) ((((ys (nx (x4 + (3 : Int32)))).toInt64) <<< ((32 : Int32).toInt64 &&& 63)) ||| (((ys (nx (x4 + (4 : Int32)))).toInt64) &&& (4294967295 : Int64))) μ) rfl rfl (Nat.le_of_ble_eq_true rfl) (fun r_2 μ_1 => ?_)
  refine J.aload_n (j := 2) hC eL_law_855 rfl ?_
  refine J.aload_n (j := 0) hC eL_law_856 rfl ?_
  refine J.iload (j := 4) hC eL_law_857 rfl ?_
  refine J.iconst hC eL_law_859 ci_1 ?_
  refine J.iadd hC eL_law_860 ?_
  refine J.sld hC hs eL_law_861 ?_
  refine J.aload_n (j := 0) hC eL_law_862 rfl ?_
  refine J.iload (j := 4) hC eL_law_863 rfl ?_
  refine J.iconst hC eL_law_865 ci_2 ?_
  refine J.iadd hC eL_law_866 ?_
  refine J.sld hC hs eL_law_867 ?_
  refine J.aload_n (j := 0) hC eL_law_868 rfl ?_
  refine J.iload (j := 4) hC eL_law_869 rfl ?_
  refine J.iconst hC eL_law_871 ci_3 ?_
  refine J.iadd hC eL_law_872 ?_
  refine J.sld hC hs eL_law_873 ?_
  refine J.i2l hC eL_law_874 ?_
  refine J.bipush hC eL_law_875 cb_32 ?_
  refine J.lshl hC eL_law_877 ?_
  refine J.aload_n (j := 0) hC eL_law_878 rfl ?_
  refine J.iload (j := 4) hC eL_law_879 rfl ?_
  refine J.iconst hC eL_law_881 ci_4 ?_
  refine J.iadd hC eL_law_882 ?_
  refine J.sld hC hs eL_law_883 ?_
  refine J.i2l hC eL_law_884 ?_
  refine J.ldc2 hC eL_law_885 mk_L_83 ?_
  refine J.land hC eL_law_888 ?_
  refine J.lor hC eL_law_889 ?_
  refine J.callVI (st := [.int r_2]) hC eL_law_890 kk_107 (by decide) rfl rfl ml_L_89 mv_X11_fewest ⟨rfl, rfl, Nat.le_of_ble_eq_true rfl, Nat.le_of_ble_eq_true rfl⟩ (c_X11_fewest hC.X (ys (nx (x4 + (1 : Int32)))) (ys (nx (x4 + (2 : Int32)))) ((((ys (nx (x4 + (3 : Int32)))).toInt64) <<< ((32 : Int32).toInt64 &&& 63)) ||| (((ys (nx (x4 + (4 : Int32)))).toInt64) &&& (4294967295 : Int64))) μ_1) rfl rfl (Nat.le_of_ble_eq_true rfl) (fun r_4 μ_3 => ?_)
  refine J.icmp_eq hC eL_law_893 (fun _ => ?_) (fun _ => ?_)
  · refine J.sub [0, 1, 2, 3, 4] rfl ?_
    exact hk x4 μ_3
  · exact J.no
theorem eL_law_898 : DD cL_law 898 (.aload_n 1) 1 899 := ⟨by decide +kernel, rfl⟩
theorem eL_law_899 : DD cL_law 899 (.aload_n 0) 1 900 := ⟨by decide +kernel, rfl⟩
theorem eL_law_900 : DD cL_law 900 (.iload 4) 2 902 := ⟨by decide +kernel, rfl⟩
theorem eL_law_902 : DD cL_law 902 (.iconst 1) 1 903 := ⟨by decide +kernel, rfl⟩
theorem eL_law_903 : DD cL_law 903 (.iadd) 1 904 := ⟨by decide +kernel, rfl⟩
theorem eL_law_904 : DD cL_law 904 (.iaload) 1 905 := ⟨by decide +kernel, rfl⟩
theorem eL_law_905 : DD cL_law 905 (.aload_n 0) 1 906 := ⟨by decide +kernel, rfl⟩
theorem eL_law_906 : DD cL_law 906 (.iload 4) 2 908 := ⟨by decide +kernel, rfl⟩
theorem eL_law_908 : DD cL_law 908 (.iconst 2) 1 909 := ⟨by decide +kernel, rfl⟩
theorem eL_law_909 : DD cL_law 909 (.iadd) 1 910 := ⟨by decide +kernel, rfl⟩
theorem eL_law_910 : DD cL_law 910 (.iaload) 1 911 := ⟨by decide +kernel, rfl⟩
theorem eL_law_911 : DD cL_law 911 (.aload_n 0) 1 912 := ⟨by decide +kernel, rfl⟩
theorem eL_law_912 : DD cL_law 912 (.iload 4) 2 914 := ⟨by decide +kernel, rfl⟩
theorem eL_law_914 : DD cL_law 914 (.iconst 3) 1 915 := ⟨by decide +kernel, rfl⟩
theorem eL_law_915 : DD cL_law 915 (.iadd) 1 916 := ⟨by decide +kernel, rfl⟩
theorem eL_law_916 : DD cL_law 916 (.iaload) 1 917 := ⟨by decide +kernel, rfl⟩
theorem eL_law_917 : DD cL_law 917 (.aload_n 0) 1 918 := ⟨by decide +kernel, rfl⟩
theorem eL_law_918 : DD cL_law 918 (.iload 4) 2 920 := ⟨by decide +kernel, rfl⟩
theorem eL_law_920 : DD cL_law 920 (.iconst 4) 1 921 := ⟨by decide +kernel, rfl⟩
theorem eL_law_921 : DD cL_law 921 (.iadd) 1 922 := ⟨by decide +kernel, rfl⟩
theorem eL_law_922 : DD cL_law 922 (.iaload) 1 923 := ⟨by decide +kernel, rfl⟩
theorem eL_law_923 : DD cL_law 923 (.invokevirtual 90) 3 926 := ⟨by decide +kernel, rfl⟩
theorem eL_law_926 : DD cL_law 926 (.aload_n 2) 1 927 := ⟨by decide +kernel, rfl⟩
theorem eL_law_927 : DD cL_law 927 (.aload_n 0) 1 928 := ⟨by decide +kernel, rfl⟩
theorem eL_law_928 : DD cL_law 928 (.iload 4) 2 930 := ⟨by decide +kernel, rfl⟩
theorem eL_law_930 : DD cL_law 930 (.iconst 1) 1 931 := ⟨by decide +kernel, rfl⟩
theorem eL_law_931 : DD cL_law 931 (.iadd) 1 932 := ⟨by decide +kernel, rfl⟩
theorem eL_law_932 : DD cL_law 932 (.iaload) 1 933 := ⟨by decide +kernel, rfl⟩
theorem eL_law_933 : DD cL_law 933 (.aload_n 0) 1 934 := ⟨by decide +kernel, rfl⟩
theorem eL_law_934 : DD cL_law 934 (.iload 4) 2 936 := ⟨by decide +kernel, rfl⟩
theorem eL_law_936 : DD cL_law 936 (.iconst 2) 1 937 := ⟨by decide +kernel, rfl⟩
theorem eL_law_937 : DD cL_law 937 (.iadd) 1 938 := ⟨by decide +kernel, rfl⟩
theorem eL_law_938 : DD cL_law 938 (.iaload) 1 939 := ⟨by decide +kernel, rfl⟩
theorem eL_law_939 : DD cL_law 939 (.aload_n 0) 1 940 := ⟨by decide +kernel, rfl⟩
theorem eL_law_940 : DD cL_law 940 (.iload 4) 2 942 := ⟨by decide +kernel, rfl⟩
theorem eL_law_942 : DD cL_law 942 (.iconst 3) 1 943 := ⟨by decide +kernel, rfl⟩
theorem eL_law_943 : DD cL_law 943 (.iadd) 1 944 := ⟨by decide +kernel, rfl⟩
theorem eL_law_944 : DD cL_law 944 (.iaload) 1 945 := ⟨by decide +kernel, rfl⟩
theorem eL_law_945 : DD cL_law 945 (.aload_n 0) 1 946 := ⟨by decide +kernel, rfl⟩
theorem eL_law_946 : DD cL_law 946 (.iload 4) 2 948 := ⟨by decide +kernel, rfl⟩
theorem eL_law_948 : DD cL_law 948 (.iconst 4) 1 949 := ⟨by decide +kernel, rfl⟩
theorem eL_law_949 : DD cL_law 949 (.iadd) 1 950 := ⟨by decide +kernel, rfl⟩
theorem eL_law_950 : DD cL_law 950 (.iaload) 1 951 := ⟨by decide +kernel, rfl⟩
theorem eL_law_951 : DD cL_law 951 (.invokevirtual 93) 3 954 := ⟨by decide +kernel, rfl⟩
theorem eL_law_954 : DB cL_law 954 (.if_icmp .eq 792) (792) 957 1746 := ⟨by decide +kernel, rfl, by decide⟩
def Z_14 (L : Nat) (ys : Nat → Int32) (kc : Int32 → Mem → Option Unit) (x4 : Int32) (μ : Mem) : Option Unit :=
  gq (inB (x4 + (1 : Int32)) L) (gq (inB (x4 + (2 : Int32)) L) (gq (inB (x4 + (3 : Int32)) L) (gq (inB (x4 + (4 : Int32)) L) (bd (G_X10_add (ys (nx (x4 + (1 : Int32)))) (ys (nx (x4 + (2 : Int32)))) (ys (nx (x4 + (3 : Int32)))) (ys (nx (x4 + (4 : Int32)))) μ) (fun r_2 μ_1 => gq (inB (x4 + (1 : Int32)) L) (gq (inB (x4 + (2 : Int32)) L) (gq (inB (x4 + (3 : Int32)) L) (gq (inB (x4 + (4 : Int32)) L) (bd (G_X11_add (ys (nx (x4 + (1 : Int32)))) (ys (nx (x4 + (2 : Int32)))) (ys (nx (x4 + (3 : Int32)))) (ys (nx (x4 + (4 : Int32)))) μ_1) (fun r_4 μ_3 => if r_2 = r_4 then kc x4 μ_3 else none))))))))))
set_option maxHeartbeats 4000000 in
theorem z_14 {C : Cx} (hC : Ok C cL_law 7 RL room_1) {K : Unit → State → Prop} {b L : Nat} {ys : Nat → Int32} (hs : SC C b L ys) (kc : Int32 → Mem → Option Unit) (hk : ∀ (x4 : Int32) (μ : Mem), J C K μ 1746 [(0, .ref b), (1, .ref (xad (cX C) 0)), (2, .ref (xad (cX C) 107)), (3, .ref (xad (cX C) 126)), (4, .int x4)] [] (kc x4 μ)) (x4 : Int32) (μ : Mem) : J C K μ 898 [(0, .ref b), (1, .ref (xad (cX C) 0)), (2, .ref (xad (cX C) 107)), (3, .ref (xad (cX C) 126)), (4, .int x4)] [] (Z_14 L ys kc x4 μ) := by
  unfold Z_14
  refine J.aload_n (j := 1) hC eL_law_898 rfl ?_
  refine J.aload_n (j := 0) hC eL_law_899 rfl ?_
  refine J.iload (j := 4) hC eL_law_900 rfl ?_
  refine J.iconst hC eL_law_902 ci_1 ?_
  refine J.iadd hC eL_law_903 ?_
  refine J.sld hC hs eL_law_904 ?_
  refine J.aload_n (j := 0) hC eL_law_905 rfl ?_
  refine J.iload (j := 4) hC eL_law_906 rfl ?_
  refine J.iconst hC eL_law_908 ci_2 ?_
  refine J.iadd hC eL_law_909 ?_
  refine J.sld hC hs eL_law_910 ?_
  refine J.aload_n (j := 0) hC eL_law_911 rfl ?_
  refine J.iload (j := 4) hC eL_law_912 rfl ?_
  refine J.iconst hC eL_law_914 ci_3 ?_
  refine J.iadd hC eL_law_915 ?_
  refine J.sld hC hs eL_law_916 ?_
  refine J.aload_n (j := 0) hC eL_law_917 rfl ?_
  refine J.iload (j := 4) hC eL_law_918 rfl ?_
  refine J.iconst hC eL_law_920 ci_4 ?_
  refine J.iadd hC eL_law_921 ?_
  refine J.sld hC hs eL_law_922 ?_
  refine J.callVI (st := []) hC eL_law_923 kk_0 (by decide) rfl rfl ml_L_90 mv_X10_add ⟨rfl, rfl, Nat.le_of_ble_eq_true rfl, Nat.le_of_ble_eq_true rfl⟩ (c_X10_add hC.X (ys (nx (x4 + (1 : Int32)))) (ys (nx (x4 + (2 : Int32)))) (ys (nx (x4 + (3 : Int32)))) (ys (nx (x4 + (4 : Int32)))) μ) rfl rfl (Nat.le_of_ble_eq_true rfl) (fun r_2 μ_1 => ?_)
  refine J.aload_n (j := 2) hC eL_law_926 rfl ?_
  refine J.aload_n (j := 0) hC eL_law_927 rfl ?_
  refine J.iload (j := 4) hC eL_law_928 rfl ?_
  refine J.iconst hC eL_law_930 ci_1 ?_
  refine J.iadd hC eL_law_931 ?_
  refine J.sld hC hs eL_law_932 ?_
  refine J.aload_n (j := 0) hC eL_law_933 rfl ?_
  refine J.iload (j := 4) hC eL_law_934 rfl ?_
  refine J.iconst hC eL_law_936 ci_2 ?_
  refine J.iadd hC eL_law_937 ?_
  refine J.sld hC hs eL_law_938 ?_
  refine J.aload_n (j := 0) hC eL_law_939 rfl ?_
  refine J.iload (j := 4) hC eL_law_940 rfl ?_
  refine J.iconst hC eL_law_942 ci_3 ?_
  refine J.iadd hC eL_law_943 ?_
  refine J.sld hC hs eL_law_944 ?_
  refine J.aload_n (j := 0) hC eL_law_945 rfl ?_
  refine J.iload (j := 4) hC eL_law_946 rfl ?_
  refine J.iconst hC eL_law_948 ci_4 ?_
  refine J.iadd hC eL_law_949 ?_
  refine J.sld hC hs eL_law_950 ?_
  refine J.callVI (st := [.int r_2]) hC eL_law_951 kk_107 (by decide) rfl rfl ml_L_93 mv_X11_add ⟨rfl, rfl, Nat.le_of_ble_eq_true rfl, Nat.le_of_ble_eq_true rfl⟩ (c_X11_add hC.X (ys (nx (x4 + (1 : Int32)))) (ys (nx (x4 + (2 : Int32)))) (ys (nx (x4 + (3 : Int32)))) (ys (nx (x4 + (4 : Int32)))) μ_1) rfl rfl (Nat.le_of_ble_eq_true rfl) (fun r_4 μ_3 => ?_)
  refine J.icmp_eq hC eL_law_954 (fun _ => ?_) (fun _ => ?_)
  · refine J.sub [0, 1, 2, 3, 4] rfl ?_
    exact hk x4 μ_3
  · exact J.no
