theorem eL_law_1670 : DD cL_law 1670 (.aload_n 1) 1 1671 := ⟨by decide +kernel, rfl⟩
theorem eL_law_1671 : DD cL_law 1671 (.aload_n 0) 1 1672 := ⟨by decide +kernel, rfl⟩
theorem eL_law_1672 : DD cL_law 1672 (.iload 4) 2 1674 := ⟨by decide +kernel, rfl⟩
theorem eL_law_1674 : DD cL_law 1674 (.iconst 1) 1 1675 := ⟨by decide +kernel, rfl⟩
theorem eL_law_1675 : DD cL_law 1675 (.iadd) 1 1676 := ⟨by decide +kernel, rfl⟩
theorem eL_law_1676 : DD cL_law 1676 (.iaload) 1 1677 := ⟨by decide +kernel, rfl⟩
theorem eL_law_1677 : DD cL_law 1677 (.invokevirtual 162) 3 1680 := ⟨by decide +kernel, rfl⟩
theorem eL_law_1680 : DD cL_law 1680 (.aload_n 2) 1 1681 := ⟨by decide +kernel, rfl⟩
theorem eL_law_1681 : DD cL_law 1681 (.aload_n 0) 1 1682 := ⟨by decide +kernel, rfl⟩
theorem eL_law_1682 : DD cL_law 1682 (.iload 4) 2 1684 := ⟨by decide +kernel, rfl⟩
theorem eL_law_1684 : DD cL_law 1684 (.iconst 1) 1 1685 := ⟨by decide +kernel, rfl⟩
theorem eL_law_1685 : DD cL_law 1685 (.iadd) 1 1686 := ⟨by decide +kernel, rfl⟩
theorem eL_law_1686 : DD cL_law 1686 (.iaload) 1 1687 := ⟨by decide +kernel, rfl⟩
theorem eL_law_1687 : DD cL_law 1687 (.invokevirtual 165) 3 1690 := ⟨by decide +kernel, rfl⟩
theorem eL_law_1690 : DB cL_law 1690 (.if_icmp .eq 56) (56) 1693 1746 := ⟨by decide +kernel, rfl, by decide⟩
def Z_31 (L : Nat) (ys : Nat → Int32) (kc : Int32 → Mem → Option Unit) (x4 : Int32) (μ : Mem) : Option Unit :=
  gq (inB (x4 + (1 : Int32)) L) (bd (G_X10_most (ys (nx (x4 + (1 : Int32)))) μ) (fun r_2 μ_1 => gq (inB (x4 + (1 : Int32)) L) (bd (G_X11_most (ys (nx (x4 + (1 : Int32)))) μ_1) (fun r_4 μ_3 => if r_2 = r_4 then kc x4 μ_3 else none))))
set_option maxHeartbeats 4000000 in
theorem z_31 {C : Cx} (hC : Ok C cL_law 7 RL room_1) {K : Unit → State → Prop} {b L : Nat} {ys : Nat → Int32} (hs : SC C b L ys) (kc : Int32 → Mem → Option Unit) (hk : ∀ (x4 : Int32) (μ : Mem), J C K μ 1746 [(0, .ref b), (1, .ref (xad (cX C) 0)), (2, .ref (xad (cX C) 107)), (3, .ref (xad (cX C) 126)), (4, .int x4)] [] (kc x4 μ)) (x4 : Int32) (μ : Mem) : J C K μ 1670 [(0, .ref b), (1, .ref (xad (cX C) 0)), (2, .ref (xad (cX C) 107)), (3, .ref (xad (cX C) 126)), (4, .int x4)] [] (Z_31 L ys kc x4 μ) := by
  unfold Z_31
  refine J.aload_n (j := 1) hC eL_law_1670 rfl ?_
  refine J.aload_n (j := 0) hC eL_law_1671 rfl ?_
  refine J.iload (j := 4) hC eL_law_1672 rfl ?_
  refine J.iconst hC eL_law_1674 ci_1 ?_
  refine J.iadd hC eL_law_1675 ?_
  refine J.sld hC hs eL_law_1676 ?_
  refine J.callVI (st := []) hC eL_law_1677 kk_0 (by decide) rfl rfl ml_L_162 mv_X10_most ⟨rfl, rfl, Nat.le_of_ble_eq_true rfl, Nat.le_of_ble_eq_true rfl⟩ (c_X10_most hC.X (ys (nx (x4 + (1 : Int32)))) μ) rfl rfl (Nat.le_of_ble_eq_true rfl) (fun r_2 μ_1 => ?_)
  refine J.aload_n (j := 2) hC eL_law_1680 rfl ?_
  refine J.aload_n (j := 0) hC eL_law_1681 rfl ?_
  refine J.iload (j := 4) hC eL_law_1682 rfl ?_
  refine J.iconst hC eL_law_1684 ci_1 ?_
  refine J.iadd hC eL_law_1685 ?_
  refine J.sld hC hs eL_law_1686 ?_
  refine J.callVI (st := [.int r_2]) hC eL_law_1687 kk_107 (by decide) rfl rfl ml_L_165 mv_X11_most ⟨rfl, rfl, Nat.le_of_ble_eq_true rfl, Nat.le_of_ble_eq_true rfl⟩ (c_X11_most hC.X (ys (nx (x4 + (1 : Int32)))) μ_1) rfl rfl (Nat.le_of_ble_eq_true rfl) (fun r_4 μ_3 => ?_)
  refine J.icmp_eq hC eL_law_1690 (fun _ => ?_) (fun _ => ?_)
  · refine J.sub [0, 1, 2, 3, 4] rfl ?_
    exact hk x4 μ_3
  · exact J.no
theorem eL_law_1695 : DD cL_law 1695 (.aload_n 1) 1 1696 := ⟨by decide +kernel, rfl⟩
theorem eL_law_1696 : DD cL_law 1696 (.invokevirtual 166) 3 1699 := ⟨by decide +kernel, rfl⟩
theorem eL_law_1699 : DD cL_law 1699 (.aload_n 2) 1 1700 := ⟨by decide +kernel, rfl⟩
theorem eL_law_1700 : DD cL_law 1700 (.invokevirtual 169) 3 1703 := ⟨by decide +kernel, rfl⟩
theorem eL_law_1703 : DB cL_law 1703 (.if_icmp .eq 43) (43) 1706 1746 := ⟨by decide +kernel, rfl, by decide⟩
def Z_32 (L : Nat) (ys : Nat → Int32) (kc : Int32 → Mem → Option Unit) (x4 : Int32) (μ : Mem) : Option Unit :=
  bd (G_X10_image  μ) (fun r_2 μ_1 => bd (G_X11_image  μ_1) (fun r_4 μ_3 => if r_2 = r_4 then kc x4 μ_3 else none))
set_option maxHeartbeats 4000000 in
theorem z_32 {C : Cx} (hC : Ok C cL_law 7 RL room_1) {K : Unit → State → Prop} {b L : Nat} {ys : Nat → Int32} (hs : SC C b L ys) (kc : Int32 → Mem → Option Unit) (hk : ∀ (x4 : Int32) (μ : Mem), J C K μ 1746 [(0, .ref b), (1, .ref (xad (cX C) 0)), (2, .ref (xad (cX C) 107)), (3, .ref (xad (cX C) 126)), (4, .int x4)] [] (kc x4 μ)) (x4 : Int32) (μ : Mem) : J C K μ 1695 [(0, .ref b), (1, .ref (xad (cX C) 0)), (2, .ref (xad (cX C) 107)), (3, .ref (xad (cX C) 126)), (4, .int x4)] [] (Z_32 L ys kc x4 μ) := by
  unfold Z_32
  refine J.aload_n (j := 1) hC eL_law_1695 rfl ?_
  refine J.callVI (st := []) hC eL_law_1696 kk_0 (by decide) rfl rfl ml_L_166 mv_X10_image ⟨rfl, rfl, Nat.le_of_ble_eq_true rfl, Nat.le_of_ble_eq_true rfl⟩ (c_X10_image hC.X  μ) rfl rfl (Nat.le_of_ble_eq_true rfl) (fun r_2 μ_1 => ?_)
  refine J.aload_n (j := 2) hC eL_law_1699 rfl ?_
  refine J.callVI (st := [.int r_2]) hC eL_law_1700 kk_107 (by decide) rfl rfl ml_L_169 mv_X11_image ⟨rfl, rfl, Nat.le_of_ble_eq_true rfl, Nat.le_of_ble_eq_true rfl⟩ (c_X11_image hC.X  μ_1) rfl rfl (Nat.le_of_ble_eq_true rfl) (fun r_4 μ_3 => ?_)
  refine J.icmp_eq hC eL_law_1703 (fun _ => ?_) (fun _ => ?_)
  · refine J.sub [0, 1, 2, 3, 4] rfl ?_
    exact hk x4 μ_3
  · exact J.no
theorem eL_law_1708 : DD cL_law 1708 (.aload_n 1) 1 1709 := ⟨by decide +kernel, rfl⟩
theorem eL_law_1709 : DD cL_law 1709 (.invokevirtual 170) 3 1712 := ⟨by decide +kernel, rfl⟩
theorem eL_law_1712 : DD cL_law 1712 (.aload_n 2) 1 1713 := ⟨by decide +kernel, rfl⟩
theorem eL_law_1713 : DD cL_law 1713 (.invokevirtual 173) 3 1716 := ⟨by decide +kernel, rfl⟩
theorem eL_law_1716 : DB cL_law 1716 (.if_icmp .eq 30) (30) 1719 1746 := ⟨by decide +kernel, rfl, by decide⟩
def Z_33 (L : Nat) (ys : Nat → Int32) (kc : Int32 → Mem → Option Unit) (x4 : Int32) (μ : Mem) : Option Unit :=
  bd (G_X10_back  μ) (fun r_2 μ_1 => bd (G_X11_back  μ_1) (fun r_4 μ_3 => if r_2 = r_4 then kc x4 μ_3 else none))
set_option maxHeartbeats 4000000 in
theorem z_33 {C : Cx} (hC : Ok C cL_law 7 RL room_1) {K : Unit → State → Prop} {b L : Nat} {ys : Nat → Int32} (hs : SC C b L ys) (kc : Int32 → Mem → Option Unit) (hk : ∀ (x4 : Int32) (μ : Mem), J C K μ 1746 [(0, .ref b), (1, .ref (xad (cX C) 0)), (2, .ref (xad (cX C) 107)), (3, .ref (xad (cX C) 126)), (4, .int x4)] [] (kc x4 μ)) (x4 : Int32) (μ : Mem) : J C K μ 1708 [(0, .ref b), (1, .ref (xad (cX C) 0)), (2, .ref (xad (cX C) 107)), (3, .ref (xad (cX C) 126)), (4, .int x4)] [] (Z_33 L ys kc x4 μ) := by
  unfold Z_33
  refine J.aload_n (j := 1) hC eL_law_1708 rfl ?_
  refine J.callVI (st := []) hC eL_law_1709 kk_0 (by decide) rfl rfl ml_L_170 mv_X10_back ⟨rfl, rfl, Nat.le_of_ble_eq_true rfl, Nat.le_of_ble_eq_true rfl⟩ (c_X10_back hC.X  μ) rfl rfl (Nat.le_of_ble_eq_true rfl) (fun r_2 μ_1 => ?_)
  refine J.aload_n (j := 2) hC eL_law_1712 rfl ?_
  refine J.callVI (st := [.int r_2]) hC eL_law_1713 kk_107 (by decide) rfl rfl ml_L_173 mv_X11_back ⟨rfl, rfl, Nat.le_of_ble_eq_true rfl, Nat.le_of_ble_eq_true rfl⟩ (c_X11_back hC.X  μ_1) rfl rfl (Nat.le_of_ble_eq_true rfl) (fun r_4 μ_3 => ?_)
  refine J.icmp_eq hC eL_law_1716 (fun _ => ?_) (fun _ => ?_)
  · refine J.sub [0, 1, 2, 3, 4] rfl ?_
    exact hk x4 μ_3
  · exact J.no
theorem eL_law_1721 : DD cL_law 1721 (.aload_n 1) 1 1722 := ⟨by decide +kernel, rfl⟩
theorem eL_law_1722 : DD cL_law 1722 (.aload_n 0) 1 1723 := ⟨by decide +kernel, rfl⟩
theorem eL_law_1723 : DD cL_law 1723 (.iload 4) 2 1725 := ⟨by decide +kernel, rfl⟩
theorem eL_law_1725 : DD cL_law 1725 (.iconst 1) 1 1726 := ⟨by decide +kernel, rfl⟩
theorem eL_law_1726 : DD cL_law 1726 (.iadd) 1 1727 := ⟨by decide +kernel, rfl⟩
theorem eL_law_1727 : DD cL_law 1727 (.iaload) 1 1728 := ⟨by decide +kernel, rfl⟩
theorem eL_law_1728 : DD cL_law 1728 (.invokevirtual 174) 3 1731 := ⟨by decide +kernel, rfl⟩
theorem eL_law_1731 : DD cL_law 1731 (.aload_n 2) 1 1732 := ⟨by decide +kernel, rfl⟩
theorem eL_law_1732 : DD cL_law 1732 (.aload_n 0) 1 1733 := ⟨by decide +kernel, rfl⟩
theorem eL_law_1733 : DD cL_law 1733 (.iload 4) 2 1735 := ⟨by decide +kernel, rfl⟩
theorem eL_law_1735 : DD cL_law 1735 (.iconst 1) 1 1736 := ⟨by decide +kernel, rfl⟩
theorem eL_law_1736 : DD cL_law 1736 (.iadd) 1 1737 := ⟨by decide +kernel, rfl⟩
theorem eL_law_1737 : DD cL_law 1737 (.iaload) 1 1738 := ⟨by decide +kernel, rfl⟩
theorem eL_law_1738 : DD cL_law 1738 (.invokevirtual 177) 3 1741 := ⟨by decide +kernel, rfl⟩
theorem eL_law_1741 : DB cL_law 1741 (.if_icmp .eq 5) (5) 1744 1746 := ⟨by decide +kernel, rfl, by decide⟩
def Z_34 (L : Nat) (ys : Nat → Int32) (kc : Int32 → Mem → Option Unit) (x4 : Int32) (μ : Mem) : Option Unit :=
  gq (inB (x4 + (1 : Int32)) L) (bd (G_X10_count (ys (nx (x4 + (1 : Int32)))) μ) (fun r_2 μ_1 => gq (inB (x4 + (1 : Int32)) L) (bd (G_X11_count (ys (nx (x4 + (1 : Int32)))) μ_1) (fun r_4 μ_3 => if r_2 = r_4 then kc x4 μ_3 else none))))
set_option maxHeartbeats 4000000 in
theorem z_34 {C : Cx} (hC : Ok C cL_law 7 RL room_1) {K : Unit → State → Prop} {b L : Nat} {ys : Nat → Int32} (hs : SC C b L ys) (kc : Int32 → Mem → Option Unit) (hk : ∀ (x4 : Int32) (μ : Mem), J C K μ 1746 [(0, .ref b), (1, .ref (xad (cX C) 0)), (2, .ref (xad (cX C) 107)), (3, .ref (xad (cX C) 126)), (4, .int x4)] [] (kc x4 μ)) (x4 : Int32) (μ : Mem) : J C K μ 1721 [(0, .ref b), (1, .ref (xad (cX C) 0)), (2, .ref (xad (cX C) 107)), (3, .ref (xad (cX C) 126)), (4, .int x4)] [] (Z_34 L ys kc x4 μ) := by
  unfold Z_34
  refine J.aload_n (j := 1) hC eL_law_1721 rfl ?_
  refine J.aload_n (j := 0) hC eL_law_1722 rfl ?_
  refine J.iload (j := 4) hC eL_law_1723 rfl ?_
  refine J.iconst hC eL_law_1725 ci_1 ?_
  refine J.iadd hC eL_law_1726 ?_
  refine J.sld hC hs eL_law_1727 ?_
  refine J.callVI (st := []) hC eL_law_1728 kk_0 (by decide) rfl rfl ml_L_174 mv_X10_count ⟨rfl, rfl, Nat.le_of_ble_eq_true rfl, Nat.le_of_ble_eq_true rfl⟩ (c_X10_count hC.X (ys (nx (x4 + (1 : Int32)))) μ) rfl rfl (Nat.le_of_ble_eq_true rfl) (fun r_2 μ_1 => ?_)
  refine J.aload_n (j := 2) hC eL_law_1731 rfl ?_
  refine J.aload_n (j := 0) hC eL_law_1732 rfl ?_
  refine J.iload (j := 4) hC eL_law_1733 rfl ?_
  refine J.iconst hC eL_law_1735 ci_1 ?_
  refine J.iadd hC eL_law_1736 ?_
  refine J.sld hC hs eL_law_1737 ?_
  refine J.callVI (st := [.int r_2]) hC eL_law_1738 kk_107 (by decide) rfl rfl ml_L_177 mv_X11_count ⟨rfl, rfl, Nat.le_of_ble_eq_true rfl, Nat.le_of_ble_eq_true rfl⟩ (c_X11_count hC.X (ys (nx (x4 + (1 : Int32)))) μ_1) rfl rfl (Nat.le_of_ble_eq_true rfl) (fun r_4 μ_3 => ?_)
  refine J.icmp_eq hC eL_law_1741 (fun _ => ?_) (fun _ => ?_)
  · refine J.sub [0, 1, 2, 3, 4] rfl ?_
    exact hk x4 μ_3
  · exact J.no
