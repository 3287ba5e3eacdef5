theorem eL_law_959 : DD cL_law 959 (.aload_n 1) 1 960 := ⟨by decide +kernel, rfl⟩
theorem eL_law_960 : DD cL_law 960 (.aload_n 0) 1 961 := ⟨by decide +kernel, rfl⟩
theorem eL_law_961 : DD cL_law 961 (.iload 4) 2 963 := ⟨by decide +kernel, rfl⟩
theorem eL_law_963 : DD cL_law 963 (.iconst 1) 1 964 := ⟨by decide +kernel, rfl⟩
theorem eL_law_964 : DD cL_law 964 (.iadd) 1 965 := ⟨by decide +kernel, rfl⟩
theorem eL_law_965 : DD cL_law 965 (.iaload) 1 966 := ⟨by decide +kernel, rfl⟩
theorem eL_law_966 : DD cL_law 966 (.aload_n 0) 1 967 := ⟨by decide +kernel, rfl⟩
theorem eL_law_967 : DD cL_law 967 (.iload 4) 2 969 := ⟨by decide +kernel, rfl⟩
theorem eL_law_969 : DD cL_law 969 (.iconst 2) 1 970 := ⟨by decide +kernel, rfl⟩
theorem eL_law_970 : DD cL_law 970 (.iadd) 1 971 := ⟨by decide +kernel, rfl⟩
theorem eL_law_971 : DD cL_law 971 (.iaload) 1 972 := ⟨by decide +kernel, rfl⟩
theorem eL_law_972 : DD cL_law 972 (.aload_n 0) 1 973 := ⟨by decide +kernel, rfl⟩
theorem eL_law_973 : DD cL_law 973 (.iload 4) 2 975 := ⟨by decide +kernel, rfl⟩
theorem eL_law_975 : DD cL_law 975 (.iconst 3) 1 976 := ⟨by decide +kernel, rfl⟩
theorem eL_law_976 : DD cL_law 976 (.iadd) 1 977 := ⟨by decide +kernel, rfl⟩
theorem eL_law_977 : DD cL_law 977 (.iaload) 1 978 := ⟨by decide +kernel, rfl⟩
theorem eL_law_978 : DD cL_law 978 (.aload_n 0) 1 979 := ⟨by decide +kernel, rfl⟩
theorem eL_law_979 : DD cL_law 979 (.iload 4) 2 981 := ⟨by decide +kernel, rfl⟩
theorem eL_law_981 : DD cL_law 981 (.iconst 4) 1 982 := ⟨by decide +kernel, rfl⟩
theorem eL_law_982 : DD cL_law 982 (.iadd) 1 983 := ⟨by decide +kernel, rfl⟩
theorem eL_law_983 : DD cL_law 983 (.iaload) 1 984 := ⟨by decide +kernel, rfl⟩
theorem eL_law_984 : DD cL_law 984 (.invokevirtual 94) 3 987 := ⟨by decide +kernel, rfl⟩
theorem eL_law_987 : DD cL_law 987 (.aload_n 2) 1 988 := ⟨by decide +kernel, rfl⟩
theorem eL_law_988 : DD cL_law 988 (.aload_n 0) 1 989 := ⟨by decide +kernel, rfl⟩
theorem eL_law_989 : DD cL_law 989 (.iload 4) 2 991 := ⟨by decide +kernel, rfl⟩
theorem eL_law_991 : DD cL_law 991 (.iconst 1) 1 992 := ⟨by decide +kernel, rfl⟩
theorem eL_law_992 : DD cL_law 992 (.iadd) 1 993 := ⟨by decide +kernel, rfl⟩
theorem eL_law_993 : DD cL_law 993 (.iaload) 1 994 := ⟨by decide +kernel, rfl⟩
theorem eL_law_994 : DD cL_law 994 (.aload_n 0) 1 995 := ⟨by decide +kernel, rfl⟩
theorem eL_law_995 : DD cL_law 995 (.iload 4) 2 997 := ⟨by decide +kernel, rfl⟩
theorem eL_law_997 : DD cL_law 997 (.iconst 2) 1 998 := ⟨by decide +kernel, rfl⟩
theorem eL_law_998 : DD cL_law 998 (.iadd) 1 999 := ⟨by decide +kernel, rfl⟩
theorem eL_law_999 : DD cL_law 999 (.iaload) 1 1000 := ⟨by decide +kernel, rfl⟩
theorem eL_law_1000 : DD cL_law 1000 (.aload_n 0) 1 1001 := ⟨by decide +kernel, rfl⟩
theorem eL_law_1001 : DD cL_law 1001 (.iload 4) 2 1003 := ⟨by decide +kernel, rfl⟩
theorem eL_law_1003 : DD cL_law 1003 (.iconst 3) 1 1004 := ⟨by decide +kernel, rfl⟩
theorem eL_law_1004 : DD cL_law 1004 (.iadd) 1 1005 := ⟨by decide +kernel, rfl⟩
theorem eL_law_1005 : DD cL_law 1005 (.iaload) 1 1006 := ⟨by decide +kernel, rfl⟩
theorem eL_law_1006 : DD cL_law 1006 (.aload_n 0) 1 1007 := ⟨by decide +kernel, rfl⟩
theorem eL_law_1007 : DD cL_law 1007 (.iload 4) 2 1009 := ⟨by decide +kernel, rfl⟩
theorem eL_law_1009 : DD cL_law 1009 (.iconst 4) 1 1010 := ⟨by decide +kernel, rfl⟩
theorem eL_law_1010 : DD cL_law 1010 (.iadd) 1 1011 := ⟨by decide +kernel, rfl⟩
theorem eL_law_1011 : DD cL_law 1011 (.iaload) 1 1012 := ⟨by decide +kernel, rfl⟩
theorem eL_law_1012 : DD cL_law 1012 (.invokevirtual 97) 3 1015 := ⟨by decide +kernel, rfl⟩
theorem eL_law_1015 : DB cL_law 1015 (.if_icmp .eq 731) (731) 1018 1746 := ⟨by decide +kernel, rfl, by decide⟩
def Z_15 (L : Nat) (ys : Nat → Int32) (kc : Int32 → Mem → Option Unit) (x4 : Int32) (μ : Mem) : Option Unit :=
  gq (inB (x4 + (1 : Int32)) L) (gq (inB (x4 + (2 : Int32)) L) (gq (inB (x4 + (3 : Int32)) L) (gq (inB (x4 + (4 : Int32)) L) (bd (G_X10_drop (ys (nx (x4 + (1 : Int32)))) (ys (nx (x4 + (2 : Int32)))) (ys (nx (x4 + (3 : Int32)))) (ys (nx (x4 + (4 : Int32)))) μ) (fun r_2 μ_1 => gq (inB (x4 + (1 : Int32)) L) (gq (inB (x4 + (2 : Int32)) L) (gq (inB (x4 + (3 : Int32)) L) (gq (inB (x4 + (4 : Int32)) L) (bd (G_X11_drop (ys (nx (x4 + (1 : Int32)))) (ys (nx (x4 + (2 : Int32)))) (ys (nx (x4 + (3 : Int32)))) (ys (nx (x4 + (4 : Int32)))) μ_1) (fun r_4 μ_3 => if r_2 = r_4 then kc x4 μ_3 else none))))))))))
set_option maxHeartbeats 4000000 in
theorem z_15 {C : Cx} (hC : Ok C cL_law 7 RL room_1) {K : Unit → State → Prop} {b L : Nat} {ys : Nat → Int32} (hs : SC C b L ys) (kc : Int32 → Mem → Option Unit) (hk : ∀ (x4 : Int32) (μ : Mem), J C K μ 1746 [(0, .ref b), (1, .ref (xad (cX C) 0)), (2, .ref (xad (cX C) 107)), (3, .ref (xad (cX C) 126)), (4, .int x4)] [] (kc x4 μ)) (x4 : Int32) (μ : Mem) : J C K μ 959 [(0, .ref b), (1, .ref (xad (cX C) 0)), (2, .ref (xad (cX C) 107)), (3, .ref (xad (cX C) 126)), (4, .int x4)] [] (Z_15 L ys kc x4 μ) := by
  unfold Z_15
  refine J.aload_n (j := 1) hC eL_law_959 rfl ?_
  refine J.aload_n (j := 0) hC eL_law_960 rfl ?_
  refine J.iload (j := 4) hC eL_law_961 rfl ?_
  refine J.iconst hC eL_law_963 ci_1 ?_
  refine J.iadd hC eL_law_964 ?_
  refine J.sld hC hs eL_law_965 ?_
  refine J.aload_n (j := 0) hC eL_law_966 rfl ?_
  refine J.iload (j := 4) hC eL_law_967 rfl ?_
  refine J.iconst hC eL_law_969 ci_2 ?_
  refine J.iadd hC eL_law_970 ?_
  refine J.sld hC hs eL_law_971 ?_
  refine J.aload_n (j := 0) hC eL_law_972 rfl ?_
  refine J.iload (j := 4) hC eL_law_973 rfl ?_
  refine J.iconst hC eL_law_975 ci_3 ?_
  refine J.iadd hC eL_law_976 ?_
  refine J.sld hC hs eL_law_977 ?_
  refine J.aload_n (j := 0) hC eL_law_978 rfl ?_
  refine J.iload (j := 4) hC eL_law_979 rfl ?_
  refine J.iconst hC eL_law_981 ci_4 ?_
  refine J.iadd hC eL_law_982 ?_
  refine J.sld hC hs eL_law_983 ?_
  refine J.callVI (st := []) hC eL_law_984 kk_0 (by decide) rfl rfl ml_L_94 mv_X10_drop ⟨rfl, rfl, Nat.le_of_ble_eq_true rfl, Nat.le_of_ble_eq_true rfl⟩ (c_X10_drop hC.X (ys (nx (x4 + (1 : Int32)))) (ys (nx (x4 + (2 : Int32)))) (ys (nx (x4 + (3 : Int32)))) (ys (nx (x4 + (4 : Int32)))) μ) rfl rfl (Nat.le_of_ble_eq_true rfl) (fun r_2 μ_1 => ?_)
  refine J.aload_n (j := 2) hC eL_law_987 rfl ?_
  refine J.aload_n (j := 0) hC eL_law_988 rfl ?_
  refine J.iload (j := 4) hC eL_law_989 rfl ?_
  refine J.iconst hC eL_law_991 ci_1 ?_
  refine J.iadd hC eL_law_992 ?_
  refine J.sld hC hs eL_law_993 ?_
  refine J.aload_n (j := 0) hC eL_law_994 rfl ?_
  refine J.iload (j := 4) hC eL_law_995 rfl ?_
  refine J.iconst hC eL_law_997 ci_2 ?_
  refine J.iadd hC eL_law_998 ?_
  refine J.sld hC hs eL_law_999 ?_
  refine J.aload_n (j := 0) hC eL_law_1000 rfl ?_
  refine J.iload (j := 4) hC eL_law_1001 rfl ?_
  refine J.iconst hC eL_law_1003 ci_3 ?_
  refine J.iadd hC eL_law_1004 ?_
  refine J.sld hC hs eL_law_1005 ?_
  refine J.aload_n (j := 0) hC eL_law_1006 rfl ?_
  refine J.iload (j := 4) hC eL_law_1007 rfl ?_
  refine J.iconst hC eL_law_1009 ci_4 ?_
  refine J.iadd hC eL_law_1010 ?_
  refine J.sld hC hs eL_law_1011 ?_
  refine J.callVI (st := [.int r_2]) hC eL_law_1012 kk_107 (by decide) rfl rfl ml_L_97 mv_X11_drop ⟨rfl, rfl, Nat.le_of_ble_eq_true rfl, Nat.le_of_ble_eq_true rfl⟩ (c_X11_drop hC.X (ys (nx (x4 + (1 : Int32)))) (ys (nx (x4 + (2 : Int32)))) (ys (nx (x4 + (3 : Int32)))) (ys (nx (x4 + (4 : Int32)))) μ_1) rfl rfl (Nat.le_of_ble_eq_true rfl) (fun r_4 μ_3 => ?_)
  refine J.icmp_eq hC eL_law_1015 (fun _ => ?_) (fun _ => ?_)
  · refine J.sub [0, 1, 2, 3, 4] rfl ?_
    exact hk x4 μ_3
  · exact J.no
theorem eL_law_1020 : DD cL_law 1020 (.aload_n 1) 1 1021 := ⟨by decide +kernel, rfl⟩
theorem eL_law_1021 : DD cL_law 1021 (.aload_n 0) 1 1022 := ⟨by decide +kernel, rfl⟩
theorem eL_law_1022 : DD cL_law 1022 (.iload 4) 2 1024 := ⟨by decide +kernel, rfl⟩
theorem eL_law_1024 : DD cL_law 1024 (.iconst 1) 1 1025 := ⟨by decide +kernel, rfl⟩
theorem eL_law_1025 : DD cL_law 1025 (.iadd) 1 1026 := ⟨by decide +kernel, rfl⟩
theorem eL_law_1026 : DD cL_law 1026 (.iaload) 1 1027 := ⟨by decide +kernel, rfl⟩
theorem eL_law_1027 : DD cL_law 1027 (.aload_n 0) 1 1028 := ⟨by decide +kernel, rfl⟩
theorem eL_law_1028 : DD cL_law 1028 (.iload 4) 2 1030 := ⟨by decide +kernel, rfl⟩
theorem eL_law_1030 : DD cL_law 1030 (.iconst 2) 1 1031 := ⟨by decide +kernel, rfl⟩
theorem eL_law_1031 : DD cL_law 1031 (.iadd) 1 1032 := ⟨by decide +kernel, rfl⟩
theorem eL_law_1032 : DD cL_law 1032 (.iaload) 1 1033 := ⟨by decide +kernel, rfl⟩
theorem eL_law_1033 : DD cL_law 1033 (.aload_n 0) 1 1034 := ⟨by decide +kernel, rfl⟩
theorem eL_law_1034 : DD cL_law 1034 (.iload 4) 2 1036 := ⟨by decide +kernel, rfl⟩
theorem eL_law_1036 : DD cL_law 1036 (.iconst 3) 1 1037 := ⟨by decide +kernel, rfl⟩
theorem eL_law_1037 : DD cL_law 1037 (.iadd) 1 1038 := ⟨by decide +kernel, rfl⟩
theorem eL_law_1038 : DD cL_law 1038 (.iaload) 1 1039 := ⟨by decide +kernel, rfl⟩
theorem eL_law_1039 : DD cL_law 1039 (.aload_n 0) 1 1040 := ⟨by decide +kernel, rfl⟩
theorem eL_law_1040 : DD cL_law 1040 (.iload 4) 2 1042 := ⟨by decide +kernel, rfl⟩
theorem eL_law_1042 : DD cL_law 1042 (.iconst 4) 1 1043 := ⟨by decide +kernel, rfl⟩
theorem eL_law_1043 : DD cL_law 1043 (.iadd) 1 1044 := ⟨by decide +kernel, rfl⟩
theorem eL_law_1044 : DD cL_law 1044 (.iaload) 1 1045 := ⟨by decide +kernel, rfl⟩
theorem eL_law_1045 : DD cL_law 1045 (.aload_n 0) 1 1046 := ⟨by decide +kernel, rfl⟩
theorem eL_law_1046 : DD cL_law 1046 (.iload 4) 2 1048 := ⟨by decide +kernel, rfl⟩
theorem eL_law_1048 : DD cL_law 1048 (.iconst 5) 1 1049 := ⟨by decide +kernel, rfl⟩
theorem eL_law_1049 : DD cL_law 1049 (.iadd) 1 1050 := ⟨by decide +kernel, rfl⟩
theorem eL_law_1050 : DD cL_law 1050 (.iaload) 1 1051 := ⟨by decide +kernel, rfl⟩
theorem eL_law_1051 : DD cL_law 1051 (.invokevirtual 98) 3 1054 := ⟨by decide +kernel, rfl⟩
theorem eL_law_1054 : DD cL_law 1054 (.aload_n 2) 1 1055 := ⟨by decide +kernel, rfl⟩
theorem eL_law_1055 : DD cL_law 1055 (.aload_n 0) 1 1056 := ⟨by decide +kernel, rfl⟩
theorem eL_law_1056 : DD cL_law 1056 (.iload 4) 2 1058 := ⟨by decide +kernel, rfl⟩
theorem eL_law_1058 : DD cL_law 1058 (.iconst 1) 1 1059 := ⟨by decide +kernel, rfl⟩
theorem eL_law_1059 : DD cL_law 1059 (.iadd) 1 1060 := ⟨by decide +kernel, rfl⟩
theorem eL_law_1060 : DD cL_law 1060 (.iaload) 1 1061 := ⟨by decide +kernel, rfl⟩
theorem eL_law_1061 : DD cL_law 1061 (.aload_n 0) 1 1062 := ⟨by decide +kernel, rfl⟩
theorem eL_law_1062 : DD cL_law 1062 (.iload 4) 2 1064 := ⟨by decide +kernel, rfl⟩
theorem eL_law_1064 : DD cL_law 1064 (.iconst 2) 1 1065 := ⟨by decide +kernel, rfl⟩
theorem eL_law_1065 : DD cL_law 1065 (.iadd) 1 1066 := ⟨by decide +kernel, rfl⟩
theorem eL_law_1066 : DD cL_law 1066 (.iaload) 1 1067 := ⟨by decide +kernel, rfl⟩
theorem eL_law_1067 : DD cL_law 1067 (.aload_n 0) 1 1068 := ⟨by decide +kernel, rfl⟩
theorem eL_law_1068 : DD cL_law 1068 (.iload 4) 2 1070 := ⟨by decide +kernel, rfl⟩
theorem eL_law_1070 : DD cL_law 1070 (.iconst 3) 1 1071 := ⟨by decide +kernel, rfl⟩
theorem eL_law_1071 : DD cL_law 1071 (.iadd) 1 1072 := ⟨by decide +kernel, rfl⟩
theorem eL_law_1072 : DD cL_law 1072 (.iaload) 1 1073 := ⟨by decide +kernel, rfl⟩
theorem eL_law_1073 : DD cL_law 1073 (.aload_n 0) 1 1074 := ⟨by decide +kernel, rfl⟩
theorem eL_law_1074 : DD cL_law 1074 (.iload 4) 2 1076 := ⟨by decide +kernel, rfl⟩
theorem eL_law_1076 : DD cL_law 1076 (.iconst 4) 1 1077 := ⟨by decide +kernel, rfl⟩
theorem eL_law_1077 : DD cL_law 1077 (.iadd) 1 1078 := ⟨by decide +kernel, rfl⟩
theorem eL_law_1078 : DD cL_law 1078 (.iaload) 1 1079 := ⟨by decide +kernel, rfl⟩
theorem eL_law_1079 : DD cL_law 1079 (.aload_n 0) 1 1080 := ⟨by decide +kernel, rfl⟩
theorem eL_law_1080 : DD cL_law 1080 (.iload 4) 2 1082 := ⟨by decide +kernel, rfl⟩
theorem eL_law_1082 : DD cL_law 1082 (.iconst 5) 1 1083 := ⟨by decide +kernel, rfl⟩
theorem eL_law_1083 : DD cL_law 1083 (.iadd) 1 1084 := ⟨by decide +kernel, rfl⟩
theorem eL_law_1084 : DD cL_law 1084 (.iaload) 1 1085 := ⟨by decide +kernel, rfl⟩
theorem eL_law_1085 : DD cL_law 1085 (.invokevirtual 101) 3 1088 := ⟨by decide +kernel, rfl⟩
theorem eL_law_1088 : DB cL_law 1088 (.if_icmp .eq 658) (658) 1091 1746 := ⟨by decide +kernel, rfl, by decide⟩
def Z_16 (L : Nat) (ys : Nat → Int32) (kc : Int32 → Mem → Option Unit) (x4 : Int32) (μ : Mem) : Option Unit :=
  gq (inB (x4 + (1 : Int32)) L) (gq (inB (x4 + (2 : Int32)) L) (gq (inB (x4 + (3 : Int32)) L) (gq (inB (x4 + (4 : Int32)) L) (gq (inB (x4 + (5 : Int32)) L) (bd (G_X10_move (ys (nx (x4 + (1 : Int32)))) (ys (nx (x4 + (2 : Int32)))) (ys (nx (x4 + (3 : Int32)))) (ys (nx (x4 + (4 : Int32)))) (ys (nx (x4 + (5 : Int32)))) μ) (fun r_2 μ_1 => gq (inB (x4 + (1 : Int32)) L) (gq (inB (x4 + (2 : Int32)) L) (gq (inB (x4 + (3 : Int32)) L) (gq (inB (x4 + (4 : Int32)) L) (gq (inB (x4 + (5 : Int32)) L) (bd (G_X11_move (ys (nx (x4 + (1 : Int32)))) (ys (nx (x4 + (2 : Int32)))) (ys (nx (x4 + (3 : Int32)))) (ys (nx (x4 + (4 : Int32)))) (ys (nx (x4 + (5 : Int32)))) μ_1) (fun r_4 μ_3 => if r_2 = r_4 then kc x4 μ_3 else none))))))))))))
set_option maxHeartbeats 4000000 in
theorem z_16 {C : Cx} (hC : Ok C cL_law 7 RL room_1) {K : Unit → State → Prop} {b L : Nat} {ys : Nat → Int32} (hs : SC C b L ys) (kc : Int32 → Mem → Option Unit) (hk : ∀ (x4 : Int32) (μ : Mem), J C K μ 1746 [(0, .ref b), (1, .ref (xad (cX C) 0)), (2, .ref (xad (cX C) 107)), (3, .ref (xad (cX C) 126)), (4, .int x4)] [] (kc x4 μ)) (x4 : Int32) (μ : Mem) : J C K μ 1020 [(0, .ref b), (1, .ref (xad (cX C) 0)), (2, .ref (xad (cX C) 107)), (3, .ref (xad (cX C) 126)), (4, .int x4)] [] (Z_16 L ys kc x4 μ) := by
  unfold Z_16
  refine J.aload_n (j := 1) hC eL_law_1020 rfl ?_
  refine J.aload_n (j := 0) hC eL_law_1021 rfl ?_
  refine J.iload (j := 4) hC eL_law_1022 rfl ?_
  refine J.iconst hC eL_law_1024 ci_1 ?_
  refine J.iadd hC eL_law_1025 ?_
  refine J.sld hC hs eL_law_1026 ?_
  refine J.aload_n (j := 0) hC eL_law_1027 rfl ?_
  refine J.iload (j := 4) hC eL_law_1028 rfl ?_
  refine J.iconst hC eL_law_1030 ci_2 ?_
  refine J.iadd hC eL_law_1031 ?_
  refine J.sld hC hs eL_law_1032 ?_
  refine J.aload_n (j := 0) hC eL_law_1033 rfl ?_
  refine J.iload (j := 4) hC eL_law_1034 rfl ?_
  refine J.iconst hC eL_law_1036 ci_3 ?_
  refine J.iadd hC eL_law_1037 ?_
  refine J.sld hC hs eL_law_1038 ?_
  refine J.aload_n (j := 0) hC eL_law_1039 rfl ?_
  refine J.iload (j := 4) hC eL_law_1040 rfl ?_
  refine J.iconst hC eL_law_1042 ci_4 ?_
  refine J.iadd hC eL_law_1043 ?_
  refine J.sld hC hs eL_law_1044 ?_
  refine J.aload_n (j := 0) hC eL_law_1045 rfl ?_
  refine J.iload (j := 4) hC eL_law_1046 rfl ?_
  refine J.iconst hC eL_law_1048 ci_5 ?_
  refine J.iadd hC eL_law_1049 ?_
  refine J.sld hC hs eL_law_1050 ?_
  refine J.callVI (st := []) hC eL_law_1051 kk_0 (by decide) rfl rfl ml_L_98 mv_X10_move ⟨rfl, rfl, Nat.le_of_ble_eq_true rfl, Nat.le_of_ble_eq_true rfl⟩ (c_X10_move hC.X (ys (nx (x4 + (1 : Int32)))) (ys (nx (x4 + (2 : Int32)))) (ys (nx (x4 + (3 : Int32)))) (ys (nx (x4 + (4 : Int32)))) (ys (nx (x4 + (5 : Int32)))) μ) rfl rfl (Nat.le_of_ble_eq_true rfl) (fun r_2 μ_1 => ?_)
  refine J.aload_n (j := 2) hC eL_law_1054 rfl ?_
  refine J.aload_n (j := 0) hC eL_law_1055 rfl ?_
  refine J.iload (j := 4) hC eL_law_1056 rfl ?_
  refine J.iconst hC eL_law_1058 ci_1 ?_
  refine J.iadd hC eL_law_1059 ?_
  refine J.sld hC hs eL_law_1060 ?_
  refine J.aload_n (j := 0) hC eL_law_1061 rfl ?_
  refine J.iload (j := 4) hC eL_law_1062 rfl ?_
  refine J.iconst hC eL_law_1064 ci_2 ?_
  refine J.iadd hC eL_law_1065 ?_
  refine J.sld hC hs eL_law_1066 ?_
  refine J.aload_n (j := 0) hC eL_law_1067 rfl ?_
  refine J.iload (j := 4) hC eL_law_1068 rfl ?_
  refine J.iconst hC eL_law_1070 ci_3 ?_
  refine J.iadd hC eL_law_1071 ?_
  refine J.sld hC hs eL_law_1072 ?_
  refine J.aload_n (j := 0) hC eL_law_1073 rfl ?_
  refine J.iload (j := 4) hC eL_law_1074 rfl ?_
  refine J.iconst hC eL_law_1076 ci_4 ?_
  refine J.iadd hC eL_law_1077 ?_
  refine J.sld hC hs eL_law_1078 ?_
  refine J.aload_n (j := 0) hC eL_law_1079 rfl ?_
  refine J.iload (j := 4) hC eL_law_1080 rfl ?_
  refine J.iconst hC eL_law_1082 ci_5 ?_
  refine J.iadd hC eL_law_1083 ?_
  refine J.sld hC hs eL_law_1084 ?_
  refine J.callVI (st := [.int r_2]) hC eL_law_1085 kk_107 (by decide) rfl rfl ml_L_101 mv_X11_move ⟨rfl, rfl, Nat.le_of_ble_eq_true rfl, Nat.le_of_ble_eq_true rfl⟩ (c_X11_move hC.X (ys (nx (x4 + (1 : Int32)))) (ys (nx (x4 + (2 : Int32)))) (ys (nx (x4 + (3 : Int32)))) (ys (nx (x4 + (4 : Int32)))) (ys (nx (x4 + (5 : Int32)))) μ_1) rfl rfl (Nat.le_of_ble_eq_true rfl) (fun r_4 μ_3 => ?_)
  refine J.icmp_eq hC eL_law_1088 (fun _ => ?_) (fun _ => ?_)
  · refine J.sub [0, 1, 2, 3, 4] rfl ?_
    exact hk x4 μ_3
  · exact J.no
theorem eL_law_1093 : DD cL_law 1093 (.aload_n 1) 1 1094 := ⟨by decide +kernel, rfl⟩
theorem eL_law_1094 : DD cL_law 1094 (.aload_n 0) 1 1095 := ⟨by decide +kernel, rfl⟩
theorem eL_law_1095 : DD cL_law 1095 (.iload 4) 2 1097 := ⟨by decide +kernel, rfl⟩
theorem eL_law_1097 : DD cL_law 1097 (.iconst 1) 1 1098 := ⟨by decide +kernel, rfl⟩
theorem eL_law_1098 : DD cL_law 1098 (.iadd) 1 1099 := ⟨by decide +kernel, rfl⟩
theorem eL_law_1099 : DD cL_law 1099 (.iaload) 1 1100 := ⟨by decide +kernel, rfl⟩
theorem eL_law_1100 : DD cL_law 1100 (.aload_n 0) 1 1101 := ⟨by decide +kernel, rfl⟩
theorem eL_law_1101 : DD cL_law 1101 (.iload 4) 2 1103 := ⟨by decide +kernel, rfl⟩
theorem eL_law_1103 : DD cL_law 1103 (.iconst 2) 1 1104 := ⟨by decide +kernel, rfl⟩
theorem eL_law_1104 : DD cL_law 1104 (.iadd) 1 1105 := ⟨by decide +kernel, rfl⟩
theorem eL_law_1105 : DD cL_law 1105 (.iaload) 1 1106 := ⟨by decide +kernel, rfl⟩
theorem eL_law_1106 : DD cL_law 1106 (.invokevirtual 102) 3 1109 := ⟨by decide +kernel, rfl⟩
theorem eL_law_1109 : DD cL_law 1109 (.aload_n 2) 1 1110 := ⟨by decide +kernel, rfl⟩
theorem eL_law_1110 : DD cL_law 1110 (.aload_n 0) 1 1111 := ⟨by decide +kernel, rfl⟩
theorem eL_law_1111 : DD cL_law 1111 (.iload 4) 2 1113 := ⟨by decide +kernel, rfl⟩
theorem eL_law_1113 : DD cL_law 1113 (.iconst 1) 1 1114 := ⟨by decide +kernel, rfl⟩
theorem eL_law_1114 : DD cL_law 1114 (.iadd) 1 1115 := ⟨by decide +kernel, rfl⟩
theorem eL_law_1115 : DD cL_law 1115 (.iaload) 1 1116 := ⟨by decide +kernel, rfl⟩
theorem eL_law_1116 : DD cL_law 1116 (.aload_n 0) 1 1117 := ⟨by decide +kernel, rfl⟩
theorem eL_law_1117 : DD cL_law 1117 (.iload 4) 2 1119 := ⟨by decide +kernel, rfl⟩
theorem eL_law_1119 : DD cL_law 1119 (.iconst 2) 1 1120 := ⟨by decide +kernel, rfl⟩
theorem eL_law_1120 : DD cL_law 1120 (.iadd) 1 1121 := ⟨by decide +kernel, rfl⟩
theorem eL_law_1121 : DD cL_law 1121 (.iaload) 1 1122 := ⟨by decide +kernel, rfl⟩
theorem eL_law_1122 : DD cL_law 1122 (.invokevirtual 105) 3 1125 := ⟨by decide +kernel, rfl⟩
theorem eL_law_1125 : DB cL_law 1125 (.if_icmp .eq 621) (621) 1128 1746 := ⟨by decide +kernel, rfl, by decide⟩
def Z_17 (L : Nat) (ys : Nat → Int32) (kc : Int32 → Mem → Option Unit) (x4 : Int32) (μ : Mem) : Option Unit :=
  gq (inB (x4 + (1 : Int32)) L) (gq (inB (x4 + (2 : Int32)) L) (bd (G_X10_build (ys (nx (x4 + (1 : Int32)))) (ys (nx (x4 + (2 : Int32)))) μ) (fun r_2 μ_1 => gq (inB (x4 + (1 : Int32)) L) (gq (inB (x4 + (2 : Int32)) L) (bd (G_X11_build (ys (nx (x4 + (1 : Int32)))) (ys (nx (x4 + (2 : Int32)))) μ_1) (fun r_4 μ_3 => if r_2 = r_4 then kc x4 μ_3 else none))))))
set_option maxHeartbeats 4000000 in
theorem z_17 {C : Cx} (hC : Ok C cL_law 7 RL room_1) {K : Unit → State → Prop} {b L : Nat} {ys : Nat → Int32} (hs : SC C b L ys) (kc : Int32 → Mem → Option Unit) (hk : ∀ (x4 : Int32) (μ : Mem), J C K μ 1746 [(0, .ref b), (1, .ref (xad (cX C) 0)), (2, .ref (xad (cX C) 107)), (3, .ref (xad (cX C) 126)), (4, .int x4)] [] (kc x4 μ)) (x4 : Int32) (μ : Mem) : J C K μ 1093 [(0, .ref b), (1, .ref (xad (cX C) 0)), (2, .ref (xad (cX C) 107)), (3, .ref (xad (cX C) 126)), (4, .int x4)] [] (Z_17 L ys kc x4 μ) := by
  unfold Z_17
  refine J.aload_n (j := 1) hC eL_law_1093 rfl ?_
  refine J.aload_n (j := 0) hC eL_law_1094 rfl ?_
  refine J.iload (j := 4) hC eL_law_1095 rfl ?_
  refine J.iconst hC eL_law_1097 ci_1 ?_
  refine J.iadd hC eL_law_1098 ?_
  refine J.sld hC hs eL_law_1099 ?_
  refine J.aload_n (j := 0) hC eL_law_1100 rfl ?_
  refine J.iload (j := 4) hC eL_law_1101 rfl ?_
  refine J.iconst hC eL_law_1103 ci_2 ?_
  refine J.iadd hC eL_law_1104 ?_
  refine J.sld hC hs eL_law_1105 ?_
  refine J.callVI (st := []) hC eL_law_1106 kk_0 (by decide) rfl rfl ml_L_102 mv_X10_build ⟨rfl, rfl, Nat.le_of_ble_eq_true rfl, Nat.le_of_ble_eq_true rfl⟩ (c_X10_build hC.X (ys (nx (x4 + (1 : Int32)))) (ys (nx (x4 + (2 : Int32)))) μ) rfl rfl (Nat.le_of_ble_eq_true rfl) (fun r_2 μ_1 => ?_)
  refine J.aload_n (j := 2) hC eL_law_1109 rfl ?_
  refine J.aload_n (j := 0) hC eL_law_1110 rfl ?_
  refine J.iload (j := 4) hC eL_law_1111 rfl ?_
  refine J.iconst hC eL_law_1113 ci_1 ?_
  refine J.iadd hC eL_law_1114 ?_
  refine J.sld hC hs eL_law_1115 ?_
  refine J.aload_n (j := 0) hC eL_law_1116 rfl ?_
  refine J.iload (j := 4) hC eL_law_1117 rfl ?_
  refine J.iconst hC eL_law_1119 ci_2 ?_
  refine J.iadd hC eL_law_1120 ?_
  refine J.sld hC hs eL_law_1121 ?_
  refine J.callVI (st := [.int r_2]) hC eL_law_1122 kk_107 (by decide) rfl rfl ml_L_105 mv_X11_build ⟨rfl, rfl, Nat.le_of_ble_eq_true rfl, Nat.le_of_ble_eq_true rfl⟩ (c_X11_build hC.X (ys (nx (x4 + (1 : Int32)))) (ys (nx (x4 + (2 : Int32)))) μ_1) rfl rfl (Nat.le_of_ble_eq_true rfl) (fun r_4 μ_3 => ?_)
  refine J.icmp_eq hC eL_law_1125 (fun _ => ?_) (fun _ => ?_)
  · refine J.sub [0, 1, 2, 3, 4] rfl ?_
    exact hk x4 μ_3
  · exact J.no
theorem eL_law_1130 : DD cL_law 1130 (.aload_n 1) 1 1131 := ⟨by decide +kernel, rfl⟩
theorem eL_law_1131 : DD cL_law 1131 (.aload_n 0) 1 1132 := ⟨by decide +kernel, rfl⟩
theorem eL_law_1132 : DD cL_law 1132 (.iload 4) 2 1134 := ⟨by decide +kernel, rfl⟩
theorem eL_law_1134 : DD cL_law 1134 (.iconst 1) 1 1135 := ⟨by decide +kernel, rfl⟩
theorem eL_law_1135 : DD cL_law 1135 (.iadd) 1 1136 := ⟨by decide +kernel, rfl⟩
theorem eL_law_1136 : DD cL_law 1136 (.iaload) 1 1137 := ⟨by decide +kernel, rfl⟩
theorem eL_law_1137 : DD cL_law 1137 (.invokevirtual 106) 3 1140 := ⟨by decide +kernel, rfl⟩
theorem eL_law_1140 : DD cL_law 1140 (.aload_n 2) 1 1141 := ⟨by decide +kernel, rfl⟩
theorem eL_law_1141 : DD cL_law 1141 (.aload_n 0) 1 1142 := ⟨by decide +kernel, rfl⟩
theorem eL_law_1142 : DD cL_law 1142 (.iload 4) 2 1144 := ⟨by decide +kernel, rfl⟩
theorem eL_law_1144 : DD cL_law 1144 (.iconst 1) 1 1145 := ⟨by decide +kernel, rfl⟩
theorem eL_law_1145 : DD cL_law 1145 (.iadd) 1 1146 := ⟨by decide +kernel, rfl⟩
theorem eL_law_1146 : DD cL_law 1146 (.iaload) 1 1147 := ⟨by decide +kernel, rfl⟩
theorem eL_law_1147 : DD cL_law 1147 (.invokevirtual 109) 3 1150 := ⟨by decide +kernel, rfl⟩
theorem eL_law_1150 : DB cL_law 1150 (.if_icmp .eq 596) (596) 1153 1746 := ⟨by decide +kernel, rfl, by decide⟩
def Z_18 (L : Nat) (ys : Nat → Int32) (kc : Int32 → Mem → Option Unit) (x4 : Int32) (μ : Mem) : Option Unit :=
  gq (inB (x4 + (1 : Int32)) L) (bd (G_X10_budget (ys (nx (x4 + (1 : Int32)))) μ) (fun r_2 μ_1 => gq (inB (x4 + (1 : Int32)) L) (bd (G_X11_budget (ys (nx (x4 + (1 : Int32)))) μ_1) (fun r_4 μ_3 => if r_2 = r_4 then kc x4 μ_3 else none))))
set_option maxHeartbeats 4000000 in
theorem z_18 {C : Cx} (hC : Ok C cL_law 7 RL room_1) {K : Unit → State → Prop} {b L : Nat} {ys : Nat → Int32} (hs : SC C b L ys) (kc : Int32 → Mem → Option Unit) (hk : ∀ (x4 : Int32) (μ : Mem), J C K μ 1746 [(0, .ref b), (1, .ref (xad (cX C) 0)), (2, .ref (xad (cX C) 107)), (3, .ref (xad (cX C) 126)), (4, .int x4)] [] (kc x4 μ)) (x4 : Int32) (μ : Mem) : J C K μ 1130 [(0, .ref b), (1, .ref (xad (cX C) 0)), (2, .ref (xad (cX C) 107)), (3, .ref (xad (cX C) 126)), (4, .int x4)] [] (Z_18 L ys kc x4 μ) := by
  unfold Z_18
  refine J.aload_n (j := 1) hC eL_law_1130 rfl ?_
  refine J.aload_n (j := 0) hC eL_law_1131 rfl ?_
  refine J.iload (j := 4) hC eL_law_1132 rfl ?_
  refine J.iconst hC eL_law_1134 ci_1 ?_
  refine J.iadd hC eL_law_1135 ?_
  refine J.sld hC hs eL_law_1136 ?_
  refine J.callVI (st := []) hC eL_law_1137 kk_0 (by decide) rfl rfl ml_L_106 mv_X10_budget ⟨rfl, rfl, Nat.le_of_ble_eq_true rfl, Nat.le_of_ble_eq_true rfl⟩ (c_X10_budget hC.X (ys (nx (x4 + (1 : Int32)))) μ) rfl rfl (Nat.le_of_ble_eq_true rfl) (fun r_2 μ_1 => ?_)
  refine J.aload_n (j := 2) hC eL_law_1140 rfl ?_
  refine J.aload_n (j := 0) hC eL_law_1141 rfl ?_
  refine J.iload (j := 4) hC eL_law_1142 rfl ?_
  refine J.iconst hC eL_law_1144 ci_1 ?_
  refine J.iadd hC eL_law_1145 ?_
  refine J.sld hC hs eL_law_1146 ?_
  refine J.callVI (st := [.int r_2]) hC eL_law_1147 kk_107 (by decide) rfl rfl ml_L_109 mv_X11_budget ⟨rfl, rfl, Nat.le_of_ble_eq_true rfl, Nat.le_of_ble_eq_true rfl⟩ (c_X11_budget hC.X (ys (nx (x4 + (1 : Int32)))) μ_1) rfl rfl (Nat.le_of_ble_eq_true rfl) (fun r_4 μ_3 => ?_)
  refine J.icmp_eq hC eL_law_1150 (fun _ => ?_) (fun _ => ?_)
  · refine J.sub [0, 1, 2, 3, 4] rfl ?_
    exact hk x4 μ_3
  · exact J.no
theorem eL_law_1155 : DD cL_law 1155 (.aload_n 1) 1 1156 := ⟨by decide +kernel, rfl⟩
theorem eL_law_1156 : DD cL_law 1156 (.aload_n 0) 1 1157 := ⟨by decide +kernel, rfl⟩
theorem eL_law_1157 : DD cL_law 1157 (.iload 4) 2 1159 := ⟨by decide +kernel, rfl⟩
theorem eL_law_1159 : DD cL_law 1159 (.iconst 1) 1 1160 := ⟨by decide +kernel, rfl⟩
theorem eL_law_1160 : DD cL_law 1160 (.iadd) 1 1161 := ⟨by decide +kernel, rfl⟩
theorem eL_law_1161 : DD cL_law 1161 (.iaload) 1 1162 := ⟨by decide +kernel, rfl⟩
theorem eL_law_1162 : DD cL_law 1162 (.aload_n 0) 1 1163 := ⟨by decide +kernel, rfl⟩
theorem eL_law_1163 : DD cL_law 1163 (.iload 4) 2 1165 := ⟨by decide +kernel, rfl⟩
theorem eL_law_1165 : DD cL_law 1165 (.iconst 2) 1 1166 := ⟨by decide +kernel, rfl⟩
theorem eL_law_1166 : DD cL_law 1166 (.iadd) 1 1167 := ⟨by decide +kernel, rfl⟩
theorem eL_law_1167 : DD cL_law 1167 (.iaload) 1 1168 := ⟨by decide +kernel, rfl⟩
theorem eL_law_1168 : DD cL_law 1168 (.i2l) 1 1169 := ⟨by decide +kernel, rfl⟩
theorem eL_law_1169 : DD cL_law 1169 (.bipush 32) 2 1171 := ⟨by decide +kernel, rfl⟩
theorem eL_law_1171 : DD cL_law 1171 (.lshl) 1 1172 := ⟨by decide +kernel, rfl⟩
theorem eL_law_1172 : DD cL_law 1172 (.aload_n 0) 1 1173 := ⟨by decide +kernel, rfl⟩
theorem eL_law_1173 : DD cL_law 1173 (.iload 4) 2 1175 := ⟨by decide +kernel, rfl⟩
theorem eL_law_1175 : DD cL_law 1175 (.iconst 3) 1 1176 := ⟨by decide +kernel, rfl⟩
theorem eL_law_1176 : DD cL_law 1176 (.iadd) 1 1177 := ⟨by decide +kernel, rfl⟩
theorem eL_law_1177 : DD cL_law 1177 (.iaload) 1 1178 := ⟨by decide +kernel, rfl⟩
theorem eL_law_1178 : DD cL_law 1178 (.i2l) 1 1179 := ⟨by decide +kernel, rfl⟩
theorem eL_law_1179 : DD cL_law 1179 (.ldc2_w 83) 3 1182 := ⟨by decide +kernel, rfl⟩
theorem eL_law_1182 : DD cL_law 1182 (.land) 1 1183 := ⟨by decide +kernel, rfl⟩
theorem eL_law_1183 : DD cL_law 1183 (.lor) 1 1184 := ⟨by decide +kernel, rfl⟩
theorem eL_law_1184 : DD cL_law 1184 (.invokevirtual 110) 3 1187 := ⟨by decide +kernel, rfl⟩
theorem eL_law_1187 : DD cL_law 1187 (.aload_n 2) 1 1188 := ⟨by decide +kernel, rfl⟩
theorem eL_law_1188 : DD cL_law 1188 (.aload_n 0) 1 1189 := ⟨by decide +kernel, rfl⟩
theorem eL_law_1189 : DD cL_law 1189 (.iload 4) 2 1191 := ⟨by decide +kernel, rfl⟩
theorem eL_law_1191 : DD cL_law 1191 (.iconst 1) 1 1192 := ⟨by decide +kernel, rfl⟩
theorem eL_law_1192 : DD cL_law 1192 (.iadd) 1 1193 := ⟨by decide +kernel, rfl⟩
theorem eL_law_1193 : DD cL_law 1193 (.iaload) 1 1194 := ⟨by decide +kernel, rfl⟩
theorem eL_law_1194 : DD cL_law 1194 (.aload_n 0) 1 1195 := ⟨by decide +kernel, rfl⟩
theorem eL_law_1195 : DD cL_law 1195 (.iload 4) 2 1197 := ⟨by decide +kernel, rfl⟩
theorem eL_law_1197 : DD cL_law 1197 (.iconst 2) 1 1198 := ⟨by decide +kernel, rfl⟩
theorem eL_law_1198 : DD cL_law 1198 (.iadd) 1 1199 := ⟨by decide +kernel, rfl⟩
theorem eL_law_1199 : DD cL_law 1199 (.iaload) 1 1200 := ⟨by decide +kernel, rfl⟩
theorem eL_law_1200 : DD cL_law 1200 (.i2l) 1 1201 := ⟨by decide +kernel, rfl⟩
theorem eL_law_1201 : DD cL_law 1201 (.bipush 32) 2 1203 := ⟨by decide +kernel, rfl⟩
theorem eL_law_1203 : DD cL_law 1203 (.lshl) 1 1204 := ⟨by decide +kernel, rfl⟩
theorem eL_law_1204 : DD cL_law 1204 (.aload_n 0) 1 1205 := ⟨by decide +kernel, rfl⟩
theorem eL_law_1205 : DD cL_law 1205 (.iload 4) 2 1207 := ⟨by decide +kernel, rfl⟩
theorem eL_law_1207 : DD cL_law 1207 (.iconst 3) 1 1208 := ⟨by decide +kernel, rfl⟩
theorem eL_law_1208 : DD cL_law 1208 (.iadd) 1 1209 := ⟨by decide +kernel, rfl⟩
theorem eL_law_1209 : DD cL_law 1209 (.iaload) 1 1210 := ⟨by decide +kernel, rfl⟩
theorem eL_law_1210 : DD cL_law 1210 (.i2l) 1 1211 := ⟨by decide +kernel, rfl⟩
theorem eL_law_1211 : DD cL_law 1211 (.ldc2_w 83) 3 1214 := ⟨by decide +kernel, rfl⟩
theorem eL_law_1214 : DD cL_law 1214 (.land) 1 1215 := ⟨by decide +kernel, rfl⟩
theorem eL_law_1215 : DD cL_law 1215 (.lor) 1 1216 := ⟨by decide +kernel, rfl⟩
theorem eL_law_1216 : DD cL_law 1216 (.invokevirtual 114) 3 1219 := ⟨by decide +kernel, rfl⟩
theorem eL_law_1219 : DB cL_law 1219 (.if_icmp .eq 527) (527) 1222 1746 := ⟨by decide +kernel, rfl, by decide⟩
def Z_19 (L : Nat) (ys : Nat → Int32) (kc : Int32 → Mem → Option Unit) (x4 : Int32) (μ : Mem) : Option Unit :=
  gq (inB (x4 + (1 : Int32)) L) (gq (inB (x4 + (2 : Int32)) L) (gq (inB (x4 + (3 : Int32)) L) (bd (G_X10_years (ys (nx (x4 + (1 : Int32)))) ((((ys (nx (x4 + (2 : Int32)))).toInt64) <<< ((32 : Int32).toInt64 &&& 63)) ||| (((ys (nx (x4 + (3 : Int32)))).toInt64) &&& (4294967295 : Int64))) μ) (fun r_2 μ_1 => gq (inB (x4 + (1 : Int32)) L) (gq (inB (x4 + (2 : Int32)) L) (gq (inB (x4 + (3 : Int32)) L) (bd (G_X11_years (ys (nx (x4 + (1 : Int32)))) ((((ys (nx (x4 + (2 : Int32)))).toInt64) <<< ((32 : Int32).toInt64 &&& 63)) ||| (((ys (nx (x4 + (3 : Int32)))).toInt64) &&& (4294967295 : Int64))) μ_1) (fun r_4 μ_3 => if r_2 = r_4 then kc x4 μ_3 else none))))))))
set_option maxHeartbeats 4000000 in
theorem z_19 {C : Cx} (hC : Ok C cL_law 7 RL room_1) {K : Unit → State → Prop} {b L : Nat} {ys : Nat → Int32} (hs : SC C b L ys) (kc : Int32 → Mem → Option Unit) (hk : ∀ (x4 : Int32) (μ : Mem), J C K μ 1746 [(0, .ref b), (1, .ref (xad (cX C) 0)), (2, .ref (xad (cX C) 107)), (3, .ref (xad (cX C) 126)), (4, .int x4)] [] (kc x4 μ)) (x4 : Int32) (μ : Mem) : J C K μ 1155 [(0, .ref b), (1, .ref (xad (cX C) 0)), (2, .ref (xad (cX C) 107)), (3, .ref (xad (cX C) 126)), (4, .int x4)] [] (Z_19 L ys kc x4 μ) := by
  unfold Z_19
  refine J.aload_n (j := 1) hC eL_law_1155 rfl ?_
  refine J.aload_n (j := 0) hC eL_law_1156 rfl ?_
  refine J.iload (j := 4) hC eL_law_1157 rfl ?_
  refine J.iconst hC eL_law_1159 ci_1 ?_
  refine J.iadd hC eL_law_1160 ?_
  refine J.sld hC hs eL_law_1161 ?_
  refine J.aload_n (j := 0) hC eL_law_1162 rfl ?_
  refine J.iload (j := 4) hC eL_law_1163 rfl ?_
  refine J.iconst hC eL_law_1165 ci_2 ?_
  refine J.iadd hC eL_law_1166 ?_
  refine J.sld hC hs eL_law_1167 ?_
  refine J.i2l hC eL_law_1168 ?_
  refine J.bipush hC eL_law_1169 cb_32 ?_
  refine J.lshl hC eL_law_1171 ?_
  refine J.aload_n (j := 0) hC eL_law_1172 rfl ?_
  refine J.iload (j := 4) hC eL_law_1173 rfl ?_
  refine J.iconst hC eL_law_1175 ci_3 ?_
  refine J.iadd hC eL_law_1176 ?_
  refine J.sld hC hs eL_law_1177 ?_
  refine J.i2l hC eL_law_1178 ?_
  refine J.ldc2 hC eL_law_1179 mk_L_83 ?_
  refine J.land hC eL_law_1182 ?_
  refine J.lor hC eL_law_1183 ?_
  refine J.callVI (st := []) hC eL_law_1184 kk_0 (by decide) rfl rfl ml_L_110 mv_X10_years ⟨rfl, rfl, Nat.le_of_ble_eq_true rfl, Nat.le_of_ble_eq_true rfl⟩ (c_X10_years hC.X (ys (nx (x4 + (1 : Int32)))) ((((ys (nx (x4 + (2 : Int32)))).toInt64) <<< ((32 : Int32).toInt64 &&& 63)) ||| (((ys (nx (x4 + (3 : Int32)))).toInt64) &&& (4294967295 : Int64))) μ) rfl rfl (Nat.le_of_ble_eq_true rfl) (fun r_2 μ_1 => ?_)
  refine J.aload_n (j := 2) hC eL_law_1187 rfl ?_
  refine J.aload_n (j := 0) hC eL_law_1188 rfl ?_
  refine J.iload (j := 4) hC eL_law_1189 rfl ?_
  refine J.iconst hC eL_law_1191 ci_1 ?_
  refine J.iadd hC eL_law_1192 ?_
  refine J.sld hC hs eL_law_1193 ?_
  refine J.aload_n (j := 0) hC eL_law_1194 rfl ?_
  refine J.iload (j := 4) hC eL_law_1195 rfl ?_
  refine J.iconst hC eL_law_1197 ci_2 ?_
  refine J.iadd hC eL_law_1198 ?_
  refine J.sld hC hs eL_law_1199 ?_
  refine J.i2l hC eL_law_1200 ?_
  refine J.bipush hC eL_law_1201 cb_32 ?_
  refine J.lshl hC eL_law_1203 ?_
  refine J.aload_n (j := 0) hC eL_law_1204 rfl ?_
  refine J.iload (j := 4) hC eL_law_1205 rfl ?_
  refine J.iconst hC eL_law_1207 ci_3 ?_
  refine J.iadd hC eL_law_1208 ?_
  refine J.sld hC hs eL_law_1209 ?_
  refine J.i2l hC eL_law_1210 ?_
  refine J.ldc2 hC eL_law_1211 mk_L_83 ?_
  refine J.land hC eL_law_1214 ?_
  refine J.lor hC eL_law_1215 ?_
  refine J.callVI (st := [.int r_2]) hC eL_law_1216 kk_107 (by decide) rfl rfl ml_L_114 mv_X11_years ⟨rfl, rfl, Nat.le_of_ble_eq_true rfl, Nat.le_of_ble_eq_true rfl⟩ (c_X11_years hC.X (ys (nx (x4 + (1 : Int32)))) ((((ys (nx (x4 + (2 : Int32)))).toInt64) <<< ((32 : Int32).toInt64 &&& 63)) ||| (((ys (nx (x4 + (3 : Int32)))).toInt64) &&& (4294967295 : Int64))) μ_1) rfl rfl (Nat.le_of_ble_eq_true rfl) (fun r_4 μ_3 => ?_)
  refine J.icmp_eq hC eL_law_1219 (fun _ => ?_) (fun _ => ?_)
  · refine J.sub [0, 1, 2, 3, 4] rfl ?_
    exact hk x4 μ_3
  · exact J.no
