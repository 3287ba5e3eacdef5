-- X11_move
theorem eX11_move_0 : DD cX11_move 0 (.aload_n 0) 1 1 := ⟨by decide +kernel, rfl⟩
theorem eX11_move_1 : DD cX11_move 1 (.iload_n 1) 1 2 := ⟨by decide +kernel, rfl⟩
theorem eX11_move_2 : DD cX11_move 2 (.iload_n 2) 1 3 := ⟨by decide +kernel, rfl⟩
theorem eX11_move_3 : DD cX11_move 3 (.iload_n 3) 1 4 := ⟨by decide +kernel, rfl⟩
theorem eX11_move_4 : DD cX11_move 4 (.invokevirtual 267) 3 7 := ⟨by decide +kernel, rfl⟩
theorem eX11_move_7 : DB cX11_move 7 (.ifCond .eq 19) (19) 10 26 := ⟨by decide +kernel, rfl, by decide⟩
theorem eX11_move_10 : DD cX11_move 10 (.aload_n 0) 1 11 := ⟨by decide +kernel, rfl⟩
theorem eX11_move_11 : DD cX11_move 11 (.iload_n 1) 1 12 := ⟨by decide +kernel, rfl⟩
theorem eX11_move_12 : DD cX11_move 12 (.iload 4) 2 14 := ⟨by decide +kernel, rfl⟩
theorem eX11_move_14 : DD cX11_move 14 (.iload 5) 2 16 := ⟨by decide +kernel, rfl⟩
theorem eX11_move_16 : DD cX11_move 16 (.invokevirtual 267) 3 19 := ⟨by decide +kernel, rfl⟩
theorem eX11_move_19 : DB cX11_move 19 (.ifCond .eq 7) (7) 22 26 := ⟨by decide +kernel, rfl, by decide⟩
theorem eX11_move_22 : DD cX11_move 22 (.iconst 1) 1 23 := ⟨by decide +kernel, rfl⟩
theorem eX11_move_23 : DB cX11_move 23 (.goto 4) (4) 26 27 := ⟨by decide +kernel, rfl, by decide⟩
theorem eX11_move_26 : DD cX11_move 26 (.iconst 0) 1 27 := ⟨by decide +kernel, rfl⟩
theorem eX11_move_27 : DD cX11_move 27 (.istore 6) 2 29 := ⟨by decide +kernel, rfl⟩
theorem eX11_move_29 : DD cX11_move 29 (.aload_n 0) 1 30 := ⟨by decide +kernel, rfl⟩
theorem eX11_move_30 : DD cX11_move 30 (.iload 6) 2 32 := ⟨by decide +kernel, rfl⟩
theorem eX11_move_32 : DB cX11_move 32 (.ifCond .ne 7) (7) 35 39 := ⟨by decide +kernel, rfl, by decide⟩
theorem eX11_move_35 : DD cX11_move 35 (.iconst 0) 1 36 := ⟨by decide +kernel, rfl⟩
theorem eX11_move_36 : DB cX11_move 36 (.goto 38) (38) 39 74 := ⟨by decide +kernel, rfl, by decide⟩
theorem eX11_move_39 : DD cX11_move 39 (.iload_n 2) 1 40 := ⟨by decide +kernel, rfl⟩
theorem eX11_move_40 : DD cX11_move 40 (.iload 4) 2 42 := ⟨by decide +kernel, rfl⟩
theorem eX11_move_42 : DB cX11_move 42 (.if_icmp .ne 13) (13) 45 55 := ⟨by decide +kernel, rfl, by decide⟩
theorem eX11_move_45 : DD cX11_move 45 (.iload_n 3) 1 46 := ⟨by decide +kernel, rfl⟩
theorem eX11_move_46 : DD cX11_move 46 (.iload 5) 2 48 := ⟨by decide +kernel, rfl⟩
theorem eX11_move_48 : DB cX11_move 48 (.if_icmp .ne 7) (7) 51 55 := ⟨by decide +kernel, rfl, by decide⟩
theorem eX11_move_51 : DD cX11_move 51 (.iconst 2) 1 52 := ⟨by decide +kernel, rfl⟩
theorem eX11_move_52 : DB cX11_move 52 (.goto 22) (22) 55 74 := ⟨by decide +kernel, rfl, by decide⟩
theorem eX11_move_55 : DD cX11_move 55 (.aload_n 0) 1 56 := ⟨by decide +kernel, rfl⟩
theorem eX11_move_56 : DD cX11_move 56 (.getfield 34) 3 59 := ⟨by decide +kernel, rfl⟩
theorem eX11_move_59 : DD cX11_move 59 (.iload_n 1) 1 60 := ⟨by decide +kernel, rfl⟩
theorem eX11_move_60 : DD cX11_move 60 (.iload_n 2) 1 61 := ⟨by decide +kernel, rfl⟩
theorem eX11_move_61 : DD cX11_move 61 (.iload_n 3) 1 62 := ⟨by decide +kernel, rfl⟩
theorem eX11_move_62 : DD cX11_move 62 (.invokestatic 158) 3 65 := ⟨by decide +kernel, rfl⟩
theorem eX11_move_65 : DD cX11_move 65 (.iaload) 1 66 := ⟨by decide +kernel, rfl⟩
theorem eX11_move_66 : DB cX11_move 66 (.ifCond .ne 7) (7) 69 73 := ⟨by decide +kernel, rfl, by decide⟩
theorem eX11_move_69 : DD cX11_move 69 (.iconst 3) 1 70 := ⟨by decide +kernel, rfl⟩
theorem eX11_move_70 : DB cX11_move 70 (.goto 4) (4) 73 74 := ⟨by decide +kernel, rfl, by decide⟩
theorem eX11_move_73 : DD cX11_move 73 (.iconst (-1)) 1 74 := ⟨by decide +kernel, rfl⟩
theorem eX11_move_74 : DD cX11_move 74 (.iconst 2) 1 75 := ⟨by decide +kernel, rfl⟩
theorem eX11_move_75 : DD cX11_move 75 (.iload_n 1) 1 76 := ⟨by decide +kernel, rfl⟩
theorem eX11_move_76 : DD cX11_move 76 (.iconst 1) 1 77 := ⟨by decide +kernel, rfl⟩
theorem eX11_move_77 : DD cX11_move 77 (.invokevirtual 275) 3 80 := ⟨by decide +kernel, rfl⟩
theorem eX11_move_80 : DB cX11_move 80 (.ifCond .eq 5) (5) 83 85 := ⟨by decide +kernel, rfl, by decide⟩
theorem eX11_move_83 : DD cX11_move 83 (.iconst (-1)) 1 84 := ⟨by decide +kernel, rfl⟩
theorem eX11_move_84 : DD cX11_move 84 (.ireturn) 1 85 := ⟨by decide +kernel, rfl⟩
theorem eX11_move_85 : DD cX11_move 85 (.aload_n 0) 1 86 := ⟨by decide +kernel, rfl⟩
theorem eX11_move_86 : DD cX11_move 86 (.iload_n 1) 1 87 := ⟨by decide +kernel, rfl⟩
theorem eX11_move_87 : DD cX11_move 87 (.iload_n 2) 1 88 := ⟨by decide +kernel, rfl⟩
theorem eX11_move_88 : DD cX11_move 88 (.iload_n 3) 1 89 := ⟨by decide +kernel, rfl⟩
theorem eX11_move_89 : DD cX11_move 89 (.iconst (-1)) 1 90 := ⟨by decide +kernel, rfl⟩
theorem eX11_move_90 : DD cX11_move 90 (.invokevirtual 279) 3 93 := ⟨by decide +kernel, rfl⟩
theorem eX11_move_93 : DD cX11_move 93 (.aload_n 0) 1 94 := ⟨by decide +kernel, rfl⟩
theorem eX11_move_94 : DD cX11_move 94 (.iload_n 1) 1 95 := ⟨by decide +kernel, rfl⟩
theorem eX11_move_95 : DD cX11_move 95 (.iload 4) 2 97 := ⟨by decide +kernel, rfl⟩
theorem eX11_move_97 : DD cX11_move 97 (.iload 5) 2 99 := ⟨by decide +kernel, rfl⟩
theorem eX11_move_99 : DD cX11_move 99 (.iconst 1) 1 100 := ⟨by decide +kernel, rfl⟩
theorem eX11_move_100 : DD cX11_move 100 (.invokevirtual 279) 3 103 := ⟨by decide +kernel, rfl⟩
theorem eX11_move_103 : DD cX11_move 103 (.aload_n 0) 1 104 := ⟨by decide +kernel, rfl⟩
theorem eX11_move_104 : DD cX11_move 104 (.getfield 34) 3 107 := ⟨by decide +kernel, rfl⟩
theorem eX11_move_107 : DD cX11_move 107 (.iload_n 1) 1 108 := ⟨by decide +kernel, rfl⟩
theorem eX11_move_108 : DD cX11_move 108 (.iload 4) 2 110 := ⟨by decide +kernel, rfl⟩
theorem eX11_move_110 : DD cX11_move 110 (.iload 5) 2 112 := ⟨by decide +kernel, rfl⟩
theorem eX11_move_112 : DD cX11_move 112 (.invokestatic 158) 3 115 := ⟨by decide +kernel, rfl⟩
theorem eX11_move_115 : DD cX11_move 115 (.iaload) 1 116 := ⟨by decide +kernel, rfl⟩
theorem eX11_move_116 : DD cX11_move 116 (.ireturn) 1 117 := ⟨by decide +kernel, rfl⟩
def F_X11_move_74 (x1 : Int32) (x2 : Int32) (x3 : Int32) (x4 : Int32) (x5 : Int32) (xs1 : Int32) (μ : Mem) : Option (Int32 × Mem) :=
  bd (G_X11_isRefused xs1 (2 : Int32) x1 (1 : Int32) μ) (fun r_2 μ_1 => if r_2 = 0 then bd (G_X11_change x1 x2 x3 (-1 : Int32) μ_1) (fun r_4 μ_3 => bd (G_X11_change x1 x4 x5 (1 : Int32) μ_3) (fun r_6 μ_5 => bd (G_X11_place x1 x4 x5 μ_5) (fun r_8 μ_7 => gq (inB r_8 1253) (some (rI μ_7 116 (nx r_8), μ_7))))) else some ((-1 : Int32), μ_1))
set_option maxHeartbeats 4000000 in
theorem j_X11_move_74 {C : Cx} (hC : Ok C cX11_move 7 RX11 (rmF 5 131)) (hr : (cT C).sig.returnType = (some .int)) (x1 : Int32) (x2 : Int32) (x3 : Int32) (x4 : Int32) (x5 : Int32) (xs1 : Int32) (μ : Mem) : J C (KI C) μ 74 [(0, .ref (xad (cX C) 107)), (1, .int x1), (2, .int x2), (3, .int x3), (4, .int x4), (5, .int x5)] [.int xs1, .ref (xad (cX C) 107)] (F_X11_move_74  x1 x2 x3 x4 x5 xs1 μ) := by
  unfold F_X11_move_74
  refine J.iconst hC eX11_move_74 ci_2 ?_
  refine J.iload_n (j := 1) hC eX11_move_75 rfl ?_
  refine J.iconst hC eX11_move_76 ci_1 ?_
  refine J.callVI (st := []) hC eX11_move_77 kk_107 (by decide) rfl rfl ml_X11_275 mv_X11_isRefused (Rle_of (Nat.le_of_ble_eq_true rfl) (Nat.le_of_ble_eq_true rfl)) (c_X11_isRefused hC.X xs1 (2 : Int32) x1 (1 : Int32) μ) rfl rfl (Nat.le_of_ble_eq_true rfl) (fun r_2 μ_1 => ?_)
  refine J.if_eq hC eX11_move_80 (fun _ => ?_) (fun _ => ?_)
  · refine J.aload_n (j := 0) hC eX11_move_85 rfl ?_
    refine J.iload_n (j := 1) hC eX11_move_86 rfl ?_
    refine J.iload_n (j := 2) hC eX11_move_87 rfl ?_
    refine J.iload_n (j := 3) hC eX11_move_88 rfl ?_
    refine J.iconst hC eX11_move_89 ci_m1 ?_
    refine J.callVV (st := []) hC eX11_move_90 kk_107 (by decide) rfl rfl ml_X11_279 mv_X11_change (Rle_of (Nat.le_of_ble_eq_true rfl) (Nat.le_of_ble_eq_true rfl)) (c_X11_change hC.X x1 x2 x3 (-1 : Int32) μ_1) rfl rfl (Nat.le_of_ble_eq_true rfl) (fun r_4 μ_3 => ?_)
    refine J.aload_n (j := 0) hC eX11_move_93 rfl ?_
    refine J.iload_n (j := 1) hC eX11_move_94 rfl ?_
    refine J.iload (j := 4) hC eX11_move_95 rfl ?_
    refine J.iload (j := 5) hC eX11_move_97 rfl ?_
    refine J.iconst hC eX11_move_99 ci_1 ?_
    refine J.callVV (st := []) hC eX11_move_100 kk_107 (by decide) rfl rfl ml_X11_279 mv_X11_change (Rle_of (Nat.le_of_ble_eq_true rfl) (Nat.le_of_ble_eq_true rfl)) (c_X11_change hC.X x1 x4 x5 (1 : Int32) μ_3) rfl rfl (Nat.le_of_ble_eq_true rfl) (fun r_6 μ_5 => ?_)
    refine J.aload_n (j := 0) hC eX11_move_103 rfl ?_
    refine gf_X11_34 (q := 116) hC eX11_move_104 kk_107 rfl ?_
    refine J.iload_n (j := 1) hC eX11_move_107 rfl ?_
    refine J.iload (j := 4) hC eX11_move_108 rfl ?_
    refine J.iload (j := 5) hC eX11_move_110 rfl ?_
    refine J.callSI (st := [.ref (xad (cX C) 116)]) hC eX11_move_112 ml_X11_158 mv_X11_place (Rle_of (Nat.le_of_ble_eq_true rfl) (Nat.le_of_ble_eq_true rfl)) (c_X11_place hC.X x1 x4 x5 μ_5) rfl rfl (Nat.le_of_ble_eq_true rfl) (fun r_8 μ_7 => ?_)
    refine J.iald ik_1253 hC eX11_move_115 kk_116 ?_
    exact J.iret hC hr eX11_move_116
  · refine J.iconst hC eX11_move_83 ci_m1 ?_
    exact J.iret hC hr eX11_move_84
def F_X11_move_55 (x1 : Int32) (x2 : Int32) (x3 : Int32) (x4 : Int32) (x5 : Int32) (μ : Mem) : Option (Int32 × Mem) :=
  bd (G_X11_place x1 x2 x3 μ) (fun r_2 μ_1 => gq (inB r_2 1253) (if (rI μ_1 116 (nx r_2)) = 0 then F_X11_move_74  x1 x2 x3 x4 x5 (3 : Int32) μ_1 else F_X11_move_74  x1 x2 x3 x4 x5 (-1 : Int32) μ_1))
set_option maxHeartbeats 4000000 in
theorem j_X11_move_55 {C : Cx} (hC : Ok C cX11_move 7 RX11 (rmF 5 131)) (hr : (cT C).sig.returnType = (some .int)) (x1 : Int32) (x2 : Int32) (x3 : Int32) (x4 : Int32) (x5 : Int32) (μ : Mem) : J C (KI C) μ 55 [(0, .ref (xad (cX C) 107)), (1, .int x1), (2, .int x2), (3, .int x3), (4, .int x4), (5, .int x5)] [.ref (xad (cX C) 107)] (F_X11_move_55  x1 x2 x3 x4 x5 μ) := by
  unfold F_X11_move_55
  refine J.aload_n (j := 0) hC eX11_move_55 rfl ?_
  refine gf_X11_34 (q := 116) hC eX11_move_56 kk_107 rfl ?_
  refine J.iload_n (j := 1) hC eX11_move_59 rfl ?_
  refine J.iload_n (j := 2) hC eX11_move_60 rfl ?_
  refine J.iload_n (j := 3) hC eX11_move_61 rfl ?_
  refine J.callSI (st := [.ref (xad (cX C) 116), .ref (xad (cX C) 107)]) hC eX11_move_62 ml_X11_158 mv_X11_place (Rle_of (Nat.le_of_ble_eq_true rfl) (Nat.le_of_ble_eq_true rfl)) (c_X11_place hC.X x1 x2 x3 μ) rfl rfl (Nat.le_of_ble_eq_true rfl) (fun r_2 μ_1 => ?_)
  refine J.iald ik_1253 hC eX11_move_65 kk_116 ?_
  refine J.if_ne hC eX11_move_66 (fun _ => ?_) (fun _ => ?_)
  · refine J.iconst hC eX11_move_69 ci_3 ?_
    refine J.goto hC eX11_move_70 ?_
    refine J.sub [0, 1, 2, 3, 4, 5] rfl ?_
    exact j_X11_move_74 hC hr  x1 x2 x3 x4 x5 (3 : Int32) μ_1
  · refine J.iconst hC eX11_move_73 ci_m1 ?_
    refine J.sub [0, 1, 2, 3, 4, 5] rfl ?_
    exact j_X11_move_74 hC hr  x1 x2 x3 x4 x5 (-1 : Int32) μ_1
def F_X11_move_27 (x1 : Int32) (x2 : Int32) (x3 : Int32) (x4 : Int32) (x5 : Int32) (xs0 : Int32) (μ : Mem) : Option (Int32 × Mem) :=
  if xs0 = 0 then F_X11_move_74  x1 x2 x3 x4 x5 (0 : Int32) μ else if x2 = x4 then if x3 = x5 then F_X11_move_74  x1 x2 x3 x4 x5 (2 : Int32) μ else F_X11_move_55  x1 x2 x3 x4 x5 μ else F_X11_move_55  x1 x2 x3 x4 x5 μ
set_option maxHeartbeats 4000000 in
theorem j_X11_move_27 {C : Cx} (hC : Ok C cX11_move 7 RX11 (rmF 5 131)) (hr : (cT C).sig.returnType = (some .int)) (x1 : Int32) (x2 : Int32) (x3 : Int32) (x4 : Int32) (x5 : Int32) (xs0 : Int32) (μ : Mem) : J C (KI C) μ 27 [(0, .ref (xad (cX C) 107)), (1, .int x1), (2, .int x2), (3, .int x3), (4, .int x4), (5, .int x5)] [.int xs0] (F_X11_move_27  x1 x2 x3 x4 x5 xs0 μ) := by
  unfold F_X11_move_27
  refine J.istore [(6, .int xs0), (0, .ref (xad (cX C) 107)), (1, .int x1), (2, .int x2), (3, .int x3), (4, .int x4), (5, .int x5)] hC eX11_move_27 (by decide) rfl ?_
  refine J.aload_n (j := 1) hC eX11_move_29 rfl ?_
  refine J.iload (j := 0) hC eX11_move_30 rfl ?_
  refine J.if_ne hC eX11_move_32 (fun _ => ?_) (fun _ => ?_)
  · refine J.iconst hC eX11_move_35 ci_0 ?_
    refine J.goto hC eX11_move_36 ?_
    refine J.sub [1, 2, 3, 4, 5, 6] rfl ?_
    exact j_X11_move_74 hC hr  x1 x2 x3 x4 x5 (0 : Int32) μ
  · refine J.iload_n (j := 3) hC eX11_move_39 rfl ?_
    refine J.iload (j := 5) hC eX11_move_40 rfl ?_
    refine J.icmp_ne hC eX11_move_42 (fun _ => ?_) (fun _ => ?_)
    · refine J.iload_n (j := 4) hC eX11_move_45 rfl ?_
      refine J.iload (j := 6) hC eX11_move_46 rfl ?_
      refine J.icmp_ne hC eX11_move_48 (fun _ => ?_) (fun _ => ?_)
      · refine J.iconst hC eX11_move_51 ci_2 ?_
        refine J.goto hC eX11_move_52 ?_
        refine J.sub [1, 2, 3, 4, 5, 6] rfl ?_
        exact j_X11_move_74 hC hr  x1 x2 x3 x4 x5 (2 : Int32) μ
      · refine J.sub [1, 2, 3, 4, 5, 6] rfl ?_
        exact j_X11_move_55 hC hr  x1 x2 x3 x4 x5 μ
    · refine J.sub [1, 2, 3, 4, 5, 6] rfl ?_
      exact j_X11_move_55 hC hr  x1 x2 x3 x4 x5 μ
def F_X11_move_26 (x1 : Int32) (x2 : Int32) (x3 : Int32) (x4 : Int32) (x5 : Int32) (μ : Mem) : Option (Int32 × Mem) :=
  F_X11_move_27  x1 x2 x3 x4 x5 (0 : Int32) μ
set_option maxHeartbeats 4000000 in
theorem j_X11_move_26 {C : Cx} (hC : Ok C cX11_move 7 RX11 (rmF 5 131)) (hr : (cT C).sig.returnType = (some .int)) (x1 : Int32) (x2 : Int32) (x3 : Int32) (x4 : Int32) (x5 : Int32) (μ : Mem) : J C (KI C) μ 26 [(0, .ref (xad (cX C) 107)), (1, .int x1), (2, .int x2), (3, .int x3), (4, .int x4), (5, .int x5)] [] (F_X11_move_26  x1 x2 x3 x4 x5 μ) := by
  unfold F_X11_move_26
  refine J.iconst hC eX11_move_26 ci_0 ?_
  refine J.sub [0, 1, 2, 3, 4, 5] rfl ?_
  exact j_X11_move_27 hC hr  x1 x2 x3 x4 x5 (0 : Int32) μ
def G_X11_move (x1 : Int32) (x2 : Int32) (x3 : Int32) (x4 : Int32) (x5 : Int32) (μ : Mem) : Option (Int32 × Mem) :=
  bd (G_X11_areThere x1 x2 x3 μ) (fun r_2 μ_1 => if r_2 = 0 then F_X11_move_26  x1 x2 x3 x4 x5 μ_1 else bd (G_X11_areThere x1 x4 x5 μ_1) (fun r_4 μ_3 => if r_4 = 0 then F_X11_move_26  x1 x2 x3 x4 x5 μ_3 else F_X11_move_27  x1 x2 x3 x4 x5 (1 : Int32) μ_3))
set_option maxHeartbeats 4000000 in
theorem c_X11_move {X : Wd} (hX : WdOk X) (x1 : Int32) (x2 : Int32) (x3 : Int32) (x4 : Int32) (x5 : Int32) (μ : Mem) : CtI X yX11_move cX11_move 7 (some .int) (rmF 5 131) [.ref (xad X 107), .int x1, .int x2, .int x3, .int x4, .int x5] μ (G_X11_move x1 x2 x3 x4 x5 μ) := by
  refine CtI.of hX (plainFor_of_name (by decide)) (by exact Nat.le_of_ble_eq_true rfl) ?_
  intro C hCX hC hr
  subst hCX
  show J C (KI C) μ 0 [(0, .ref (xad (cX C) 107)), (1, .int x1), (2, .int x2), (3, .int x3), (4, .int x4), (5, .int x5)] [] _
  unfold G_X11_move
  refine J.aload_n (j := 0) hC eX11_move_0 rfl ?_
  refine J.iload_n (j := 1) hC eX11_move_1 rfl ?_
  refine J.iload_n (j := 2) hC eX11_move_2 rfl ?_
  refine J.iload_n (j := 3) hC eX11_move_3 rfl ?_
  refine J.callVI (st := []) hC eX11_move_4 kk_107 (by decide) rfl rfl ml_X11_267 mv_X11_areThere (Rle_of (Nat.le_of_ble_eq_true rfl) (Nat.le_of_ble_eq_true rfl)) (c_X11_areThere hC.X x1 x2 x3 μ) rfl rfl (Nat.le_of_ble_eq_true rfl) (fun r_2 μ_1 => ?_)
  refine J.if_eq hC eX11_move_7 (fun _ => ?_) (fun _ => ?_)
  · refine J.sub [0, 1, 2, 3, 4, 5] rfl ?_
    exact j_X11_move_26 hC hr  x1 x2 x3 x4 x5 μ_1
  · refine J.aload_n (j := 0) hC eX11_move_10 rfl ?_
    refine J.iload_n (j := 1) hC eX11_move_11 rfl ?_
    refine J.iload (j := 4) hC eX11_move_12 rfl ?_
    refine J.iload (j := 5) hC eX11_move_14 rfl ?_
    refine J.callVI (st := []) hC eX11_move_16 kk_107 (by decide) rfl rfl ml_X11_267 mv_X11_areThere (Rle_of (Nat.le_of_ble_eq_true rfl) (Nat.le_of_ble_eq_true rfl)) (c_X11_areThere hC.X x1 x4 x5 μ_1) rfl rfl (Nat.le_of_ble_eq_true rfl) (fun r_4 μ_3 => ?_)
    refine J.if_eq hC eX11_move_19 (fun _ => ?_) (fun _ => ?_)
    · refine J.sub [0, 1, 2, 3, 4, 5] rfl ?_
      exact j_X11_move_26 hC hr  x1 x2 x3 x4 x5 μ_3
    · refine J.iconst hC eX11_move_22 ci_1 ?_
      refine J.goto hC eX11_move_23 ?_
      refine J.sub [0, 1, 2, 3, 4, 5] rfl ?_
      exact j_X11_move_27 hC hr  x1 x2 x3 x4 x5 (1 : Int32) μ_3
-- X11_build
theorem eX11_build_0 : DD cX11_build 0 (.aload_n 0) 1 1 := ⟨by decide +kernel, rfl⟩
theorem eX11_build_1 : DD cX11_build 1 (.aload_n 0) 1 2 := ⟨by decide +kernel, rfl⟩
theorem eX11_build_2 : DD cX11_build 2 (.iload_n 1) 1 3 := ⟨by decide +kernel, rfl⟩
theorem eX11_build_3 : DD cX11_build 3 (.iload_n 2) 1 4 := ⟨by decide +kernel, rfl⟩
theorem eX11_build_4 : DD cX11_build 4 (.invokevirtual 285) 3 7 := ⟨by decide +kernel, rfl⟩
theorem eX11_build_7 : DD cX11_build 7 (.iconst 3) 1 8 := ⟨by decide +kernel, rfl⟩
theorem eX11_build_8 : DD cX11_build 8 (.iload_n 1) 1 9 := ⟨by decide +kernel, rfl⟩
theorem eX11_build_9 : DD cX11_build 9 (.iload_n 2) 1 10 := ⟨by decide +kernel, rfl⟩
theorem eX11_build_10 : DD cX11_build 10 (.invokevirtual 275) 3 13 := ⟨by decide +kernel, rfl⟩
theorem eX11_build_13 : DB cX11_build 13 (.ifCond .eq 5) (5) 16 18 := ⟨by decide +kernel, rfl, by decide⟩
theorem eX11_build_16 : DD cX11_build 16 (.iconst (-1)) 1 17 := ⟨by decide +kernel, rfl⟩
theorem eX11_build_17 : DD cX11_build 17 (.ireturn) 1 18 := ⟨by decide +kernel, rfl⟩
theorem eX11_build_18 : DD cX11_build 18 (.aload_n 0) 1 19 := ⟨by decide +kernel, rfl⟩
theorem eX11_build_19 : DD cX11_build 19 (.iload_n 1) 1 20 := ⟨by decide +kernel, rfl⟩
theorem eX11_build_20 : DD cX11_build 20 (.iload_n 2) 1 21 := ⟨by decide +kernel, rfl⟩
theorem eX11_build_21 : DD cX11_build 21 (.invokevirtual 209) 3 24 := ⟨by decide +kernel, rfl⟩
theorem eX11_build_24 : DD cX11_build 24 (.aload_n 0) 1 25 := ⟨by decide +kernel, rfl⟩
theorem eX11_build_25 : DD cX11_build 25 (.iload_n 1) 1 26 := ⟨by decide +kernel, rfl⟩
theorem eX11_build_26 : DD cX11_build 26 (.iload_n 2) 1 27 := ⟨by decide +kernel, rfl⟩
theorem eX11_build_27 : DD cX11_build 27 (.invokevirtual 238) 3 30 := ⟨by decide +kernel, rfl⟩
theorem eX11_build_30 : DD cX11_build 30 (.ireturn) 1 31 := ⟨by decide +kernel, rfl⟩
def G_X11_build (x1 : Int32) (x2 : Int32) (μ : Mem) : Option (Int32 × Mem) :=
  bd (G_X11_whyBuild x1 x2 μ) (fun r_2 μ_1 => bd (G_X11_isRefused r_2 (3 : Int32) x1 x2 μ_1) (fun r_4 μ_3 => if r_4 = 0 then bd (G_X11_buildNow x1 x2 μ_3) (fun r_6 μ_5 => bd (G_X11_bucketMany x1 x2 μ_5) (fun r_8 μ_7 => some (r_8, μ_7))) else some ((-1 : Int32), μ_3)))
set_option maxHeartbeats 4000000 in
theorem c_X11_build {X : Wd} (hX : WdOk X) (x1 : Int32) (x2 : Int32) (μ : Mem) : CtI X yX11_build cX11_build 3 (some .int) (rmF 4 106) [.ref (xad X 107), .int x1, .int x2] μ (G_X11_build x1 x2 μ) := by
  refine CtI.of hX (plainFor_of_name (by decide)) (by exact Nat.le_of_ble_eq_true rfl) ?_
  intro C hCX hC hr
  subst hCX
  show J C (KI C) μ 0 [(0, .ref (xad (cX C) 107)), (1, .int x1), (2, .int x2)] [] _
  unfold G_X11_build
  refine J.aload_n (j := 0) hC eX11_build_0 rfl ?_
  refine J.aload_n (j := 0) hC eX11_build_1 rfl ?_
  refine J.iload_n (j := 1) hC eX11_build_2 rfl ?_
  refine J.iload_n (j := 2) hC eX11_build_3 rfl ?_
  refine J.callVI (st := [.ref (xad (cX C) 107)]) hC eX11_build_4 kk_107 (by decide) rfl rfl ml_X11_285 mv_X11_whyBuild (Rle_of (Nat.le_of_ble_eq_true rfl) (Nat.le_of_ble_eq_true rfl)) (c_X11_whyBuild hC.X x1 x2 μ) rfl rfl (Nat.le_of_ble_eq_true rfl) (fun r_2 μ_1 => ?_)
  refine J.iconst hC eX11_build_7 ci_3 ?_
  refine J.iload_n (j := 1) hC eX11_build_8 rfl ?_
  refine J.iload_n (j := 2) hC eX11_build_9 rfl ?_
  refine J.callVI (st := []) hC eX11_build_10 kk_107 (by decide) rfl rfl ml_X11_275 mv_X11_isRefused (Rle_of (Nat.le_of_ble_eq_true rfl) (Nat.le_of_ble_eq_true rfl)) (c_X11_isRefused hC.X r_2 (3 : Int32) x1 x2 μ_1) rfl rfl (Nat.le_of_ble_eq_true rfl) (fun r_4 μ_3 => ?_)
  refine J.if_eq hC eX11_build_13 (fun _ => ?_) (fun _ => ?_)
  · refine J.aload_n (j := 0) hC eX11_build_18 rfl ?_
    refine J.iload_n (j := 1) hC eX11_build_19 rfl ?_
    refine J.iload_n (j := 2) hC eX11_build_20 rfl ?_
    refine J.callVV (st := []) hC eX11_build_21 kk_107 (by decide) rfl rfl ml_X11_209 mv_X11_buildNow (Rle_of (Nat.le_of_ble_eq_true rfl) (Nat.le_of_ble_eq_true rfl)) (c_X11_buildNow hC.X x1 x2 μ_3) rfl rfl (Nat.le_of_ble_eq_true rfl) (fun r_6 μ_5 => ?_)
    refine J.aload_n (j := 0) hC eX11_build_24 rfl ?_
    refine J.iload_n (j := 1) hC eX11_build_25 rfl ?_
    refine J.iload_n (j := 2) hC eX11_build_26 rfl ?_
    refine J.callVI (st := []) hC eX11_build_27 kk_107 (by decide) rfl rfl ml_X11_238 mv_X11_bucketMany (Rle_of (Nat.le_of_ble_eq_true rfl) (Nat.le_of_ble_eq_true rfl)) (c_X11_bucketMany hC.X x1 x2 μ_5) rfl rfl (Nat.le_of_ble_eq_true rfl) (fun r_8 μ_7 => ?_)
    exact J.iret hC hr eX11_build_30
  · refine J.iconst hC eX11_build_16 ci_m1 ?_
    exact J.iret hC hr eX11_build_17
-- X11_budget
theorem eX11_budget_0 : DD cX11_budget 0 (.aload_n 0) 1 1 := ⟨by decide +kernel, rfl⟩
theorem eX11_budget_1 : DD cX11_budget 1 (.aload_n 0) 1 2 := ⟨by decide +kernel, rfl⟩
theorem eX11_budget_2 : DD cX11_budget 2 (.invokevirtual 225) 3 5 := ⟨by decide +kernel, rfl⟩
theorem eX11_budget_5 : DB cX11_budget 5 (.ifCond .ne 7) (7) 8 12 := ⟨by decide +kernel, rfl, by decide⟩
theorem eX11_budget_8 : DD cX11_budget 8 (.iconst 0) 1 9 := ⟨by decide +kernel, rfl⟩
theorem eX11_budget_9 : DB cX11_budget 9 (.goto 36) (36) 12 45 := ⟨by decide +kernel, rfl, by decide⟩
theorem eX11_budget_12 : DD cX11_budget 12 (.iload_n 1) 1 13 := ⟨by decide +kernel, rfl⟩
theorem eX11_budget_13 : DD cX11_budget 13 (.i2l) 1 14 := ⟨by decide +kernel, rfl⟩
theorem eX11_budget_14 : DD cX11_budget 14 (.lconst 1) 1 15 := ⟨by decide +kernel, rfl⟩
theorem eX11_budget_15 : DD cX11_budget 15 (.ldc2_w 288) 3 18 := ⟨by decide +kernel, rfl⟩
theorem eX11_budget_18 : DD cX11_budget 18 (.invokestatic 77) 3 21 := ⟨by decide +kernel, rfl⟩
theorem eX11_budget_21 : DB cX11_budget 21 (.ifCond .ne 7) (7) 24 28 := ⟨by decide +kernel, rfl, by decide⟩
theorem eX11_budget_24 : DD cX11_budget 24 (.iconst 1) 1 25 := ⟨by decide +kernel, rfl⟩
theorem eX11_budget_25 : DB cX11_budget 25 (.goto 20) (20) 28 45 := ⟨by decide +kernel, rfl, by decide⟩
theorem eX11_budget_28 : DD cX11_budget 28 (.aload_n 0) 1 29 := ⟨by decide +kernel, rfl⟩
theorem eX11_budget_29 : DD cX11_budget 29 (.getfield 34) 3 32 := ⟨by decide +kernel, rfl⟩
theorem eX11_budget_32 : DD cX11_budget 32 (.sipush 1071) 3 35 := ⟨by decide +kernel, rfl⟩
theorem eX11_budget_35 : DD cX11_budget 35 (.iaload) 1 36 := ⟨by decide +kernel, rfl⟩
theorem eX11_budget_36 : DD cX11_budget 36 (.iload_n 1) 1 37 := ⟨by decide +kernel, rfl⟩
theorem eX11_budget_37 : DB cX11_budget 37 (.if_icmp .ne 7) (7) 40 44 := ⟨by decide +kernel, rfl, by decide⟩
theorem eX11_budget_40 : DD cX11_budget 40 (.iconst 2) 1 41 := ⟨by decide +kernel, rfl⟩
theorem eX11_budget_41 : DB cX11_budget 41 (.goto 4) (4) 44 45 := ⟨by decide +kernel, rfl, by decide⟩
theorem eX11_budget_44 : DD cX11_budget 44 (.iconst (-1)) 1 45 := ⟨by decide +kernel, rfl⟩
theorem eX11_budget_45 : DD cX11_budget 45 (.iconst 4) 1 46 := ⟨by decide +kernel, rfl⟩
theorem eX11_budget_46 : DD cX11_budget 46 (.iconst (-1)) 1 47 := ⟨by decide +kernel, rfl⟩
theorem eX11_budget_47 : DD cX11_budget 47 (.iload_n 1) 1 48 := ⟨by decide +kernel, rfl⟩
theorem eX11_budget_48 : DD cX11_budget 48 (.invokevirtual 275) 3 51 := ⟨by decide +kernel, rfl⟩
theorem eX11_budget_51 : DB cX11_budget 51 (.ifCond .eq 5) (5) 54 56 := ⟨by decide +kernel, rfl, by decide⟩
theorem eX11_budget_54 : DD cX11_budget 54 (.iconst (-1)) 1 55 := ⟨by decide +kernel, rfl⟩
theorem eX11_budget_55 : DD cX11_budget 55 (.ireturn) 1 56 := ⟨by decide +kernel, rfl⟩
theorem eX11_budget_56 : DD cX11_budget 56 (.aload_n 0) 1 57 := ⟨by decide +kernel, rfl⟩
theorem eX11_budget_57 : DD cX11_budget 57 (.getfield 34) 3 60 := ⟨by decide +kernel, rfl⟩
theorem eX11_budget_60 : DD cX11_budget 60 (.sipush 1071) 3 63 := ⟨by decide +kernel, rfl⟩
theorem eX11_budget_63 : DD cX11_budget 63 (.iaload) 1 64 := ⟨by decide +kernel, rfl⟩
theorem eX11_budget_64 : DD cX11_budget 64 (.istore_n 2) 1 65 := ⟨by decide +kernel, rfl⟩
theorem eX11_budget_65 : DD cX11_budget 65 (.aload_n 0) 1 66 := ⟨by decide +kernel, rfl⟩
theorem eX11_budget_66 : DD cX11_budget 66 (.getfield 34) 3 69 := ⟨by decide +kernel, rfl⟩
theorem eX11_budget_69 : DD cX11_budget 69 (.sipush 1071) 3 72 := ⟨by decide +kernel, rfl⟩
theorem eX11_budget_72 : DD cX11_budget 72 (.iload_n 1) 1 73 := ⟨by decide +kernel, rfl⟩
theorem eX11_budget_73 : DD cX11_budget 73 (.iastore) 1 74 := ⟨by decide +kernel, rfl⟩
theorem eX11_budget_74 : DD cX11_budget 74 (.iload_n 2) 1 75 := ⟨by decide +kernel, rfl⟩
theorem eX11_budget_75 : DD cX11_budget 75 (.ireturn) 1 76 := ⟨by decide +kernel, rfl⟩
def F_X11_budget_45 (x1 : Int32) (xs1 : Int32) (μ : Mem) : Option (Int32 × Mem) :=
  bd (G_X11_isRefused xs1 (4 : Int32) (-1 : Int32) x1 μ) (fun r_2 μ_1 => if r_2 = 0 then lb (rI μ_1 116 1071) (fun x2_3 => lb (wI μ_1 116 1071 x1) (fun μ_4 => some (x2_3, μ_4))) else some ((-1 : Int32), μ_1))
set_option maxHeartbeats 4000000 in
theorem j_X11_budget_45 {C : Cx} (hC : Ok C cX11_budget 3 RX11 (rmF 2 46)) (hr : (cT C).sig.returnType = (some .int)) (x1 : Int32) (xs1 : Int32) (μ : Mem) : J C (KI C) μ 45 [(0, .ref (xad (cX C) 107)), (1, .int x1)] [.int xs1, .ref (xad (cX C) 107)] (F_X11_budget_45  x1 xs1 μ) := by
  unfold F_X11_budget_45
  refine J.iconst hC eX11_budget_45 ci_4 ?_
  refine J.iconst hC eX11_budget_46 ci_m1 ?_
  refine J.iload_n (j := 1) hC eX11_budget_47 rfl ?_
  refine J.callVI (st := []) hC eX11_budget_48 kk_107 (by decide) rfl rfl ml_X11_275 mv_X11_isRefused (Rle_of (Nat.le_of_ble_eq_true rfl) (Nat.le_of_ble_eq_true rfl)) (c_X11_isRefused hC.X xs1 (4 : Int32) (-1 : Int32) x1 μ) rfl rfl (Nat.le_of_ble_eq_true rfl) (fun r_2 μ_1 => ?_)
  refine J.if_eq hC eX11_budget_51 (fun _ => ?_) (fun _ => ?_)
  · refine J.aload_n (j := 0) hC eX11_budget_56 rfl ?_
    refine gf_X11_34 (q := 116) hC eX11_budget_57 kk_107 rfl ?_
    refine J.sipush hC eX11_budget_60 cs_1071 ?_
    refine J.ialdK (j := 1071) ik_1253 hC eX11_budget_63 kk_116 (by decide) (by decide) ?_
    refine J.topi (fun x2_3 => ?_)
    refine J.istore_n [(2, .int x2_3), (0, .ref (xad (cX C) 107)), (1, .int x1)] hC eX11_budget_64 (by decide) rfl ?_
    refine J.aload_n (j := 1) hC eX11_budget_65 rfl ?_
    refine gf_X11_34 (q := 116) hC eX11_budget_66 kk_107 rfl ?_
    refine J.sipush hC eX11_budget_69 cs_1071 ?_
    refine J.iload_n (j := 2) hC eX11_budget_72 rfl ?_
    refine J.iastK (j := 1071) ik_1253 hC eX11_budget_73 kk_116 (by decide) (by decide) (fun μ_4 => ?_)
    refine J.iload_n (j := 0) hC eX11_budget_74 rfl ?_
    exact J.iret hC hr eX11_budget_75
  · refine J.iconst hC eX11_budget_54 ci_m1 ?_
    exact J.iret hC hr eX11_budget_55
def G_X11_budget (x1 : Int32) (μ : Mem) : Option (Int32 × Mem) :=
  bd (G_X11_isBook  μ) (fun r_2 μ_1 => if r_2 = 0 then F_X11_budget_45  x1 (0 : Int32) μ_1 else bd (G_X11_in x1.toInt64 (1 : Int64) (999 : Int64) μ_1) (fun r_4 μ_3 => if r_4 = 0 then F_X11_budget_45  x1 (1 : Int32) μ_3 else if (rI μ_3 116 1071) = x1 then F_X11_budget_45  x1 (2 : Int32) μ_3 else F_X11_budget_45  x1 (-1 : Int32) μ_3))
set_option maxHeartbeats 4000000 in
theorem c_X11_budget {X : Wd} (hX : WdOk X) (x1 : Int32) (μ : Mem) : CtI X yX11_budget cX11_budget 3 (some .int) (rmF 2 46) [.ref (xad X 107), .int x1] μ (G_X11_budget x1 μ) := by
  refine CtI.of hX (plainFor_of_name (by decide)) (by exact Nat.le_of_ble_eq_true rfl) ?_
  intro C hCX hC hr
  subst hCX
  show J C (KI C) μ 0 [(0, .ref (xad (cX C) 107)), (1, .int x1)] [] _
  unfold G_X11_budget
  refine J.aload_n (j := 0) hC eX11_budget_0 rfl ?_
  refine J.aload_n (j := 0) hC eX11_budget_1 rfl ?_
  refine J.callVI (st := [.ref (xad (cX C) 107)]) hC eX11_budget_2 kk_107 (by decide) rfl rfl ml_X11_225 mv_X11_isBook (Rle_of (Nat.le_of_ble_eq_true rfl) (Nat.le_of_ble_eq_true rfl)) (c_X11_isBook hC.X  μ) rfl rfl (Nat.le_of_ble_eq_true rfl) (fun r_2 μ_1 => ?_)
  refine J.if_ne hC eX11_budget_5 (fun _ => ?_) (fun _ => ?_)
  · refine J.iconst hC eX11_budget_8 ci_0 ?_
    refine J.goto hC eX11_budget_9 ?_
    refine J.sub [0, 1] rfl ?_
    exact j_X11_budget_45 hC hr  x1 (0 : Int32) μ_1
  · refine J.iload_n (j := 1) hC eX11_budget_12 rfl ?_
    refine J.i2l hC eX11_budget_13 ?_
    refine J.lconst hC eX11_budget_14 cl_1 ?_
    refine J.ldc2 hC eX11_budget_15 mk_X11_288 ?_
    refine J.callSI (st := [.ref (xad (cX C) 107)]) hC eX11_budget_18 ml_X11_77 mv_X11_in (Rle_of (Nat.le_of_ble_eq_true rfl) (Nat.le_of_ble_eq_true rfl)) (c_X11_in hC.X x1.toInt64 (1 : Int64) (999 : Int64) μ_1) rfl rfl (Nat.le_of_ble_eq_true rfl) (fun r_4 μ_3 => ?_)
    refine J.if_ne hC eX11_budget_21 (fun _ => ?_) (fun _ => ?_)
    · refine J.iconst hC eX11_budget_24 ci_1 ?_
      refine J.goto hC eX11_budget_25 ?_
      refine J.sub [0, 1] rfl ?_
      exact j_X11_budget_45 hC hr  x1 (1 : Int32) μ_3
    · refine J.aload_n (j := 0) hC eX11_budget_28 rfl ?_
      refine gf_X11_34 (q := 116) hC eX11_budget_29 kk_107 rfl ?_
      refine J.sipush hC eX11_budget_32 cs_1071 ?_
      refine J.ialdK (j := 1071) ik_1253 hC eX11_budget_35 kk_116 (by decide) (by decide) ?_
      refine J.iload_n (j := 1) hC eX11_budget_36 rfl ?_
      refine J.icmp_ne hC eX11_budget_37 (fun _ => ?_) (fun _ => ?_)
      · refine J.iconst hC eX11_budget_40 ci_2 ?_
        refine J.goto hC eX11_budget_41 ?_
        refine J.sub [0, 1] rfl ?_
        exact j_X11_budget_45 hC hr  x1 (2 : Int32) μ_3
      · refine J.iconst hC eX11_budget_44 ci_m1 ?_
        refine J.sub [0, 1] rfl ?_
        exact j_X11_budget_45 hC hr  x1 (-1 : Int32) μ_3
-- X11_draw
theorem eX11_draw_0 : DD cX11_draw 0 (.aload_n 0) 1 1 := ⟨by decide +kernel, rfl⟩
theorem eX11_draw_1 : DD cX11_draw 1 (.aload_n 0) 1 2 := ⟨by decide +kernel, rfl⟩
theorem eX11_draw_2 : DD cX11_draw 2 (.getfield 290) 3 5 := ⟨by decide +kernel, rfl⟩
theorem eX11_draw_5 : DD cX11_draw 5 (.ldc2_w 294) 3 8 := ⟨by decide +kernel, rfl⟩
theorem eX11_draw_8 : DD cX11_draw 8 (.lmul) 1 9 := ⟨by decide +kernel, rfl⟩
theorem eX11_draw_9 : DD cX11_draw 9 (.ldc2_w 296) 3 12 := ⟨by decide +kernel, rfl⟩
theorem eX11_draw_12 : DD cX11_draw 12 (.ladd) 1 13 := ⟨by decide +kernel, rfl⟩
theorem eX11_draw_13 : DD cX11_draw 13 (.putfield 290) 3 16 := ⟨by decide +kernel, rfl⟩
theorem eX11_draw_16 : DD cX11_draw 16 (.aload_n 0) 1 17 := ⟨by decide +kernel, rfl⟩
theorem eX11_draw_17 : DD cX11_draw 17 (.getfield 290) 3 20 := ⟨by decide +kernel, rfl⟩
theorem eX11_draw_20 : DD cX11_draw 20 (.bipush 33) 2 22 := ⟨by decide +kernel, rfl⟩
theorem eX11_draw_22 : DD cX11_draw 22 (.lushr) 1 23 := ⟨by decide +kernel, rfl⟩
theorem eX11_draw_23 : DD cX11_draw 23 (.iload_n 1) 1 24 := ⟨by decide +kernel, rfl⟩
theorem eX11_draw_24 : DD cX11_draw 24 (.i2l) 1 25 := ⟨by decide +kernel, rfl⟩
theorem eX11_draw_25 : DD cX11_draw 25 (.lrem) 1 26 := ⟨by decide +kernel, rfl⟩
theorem eX11_draw_26 : DD cX11_draw 26 (.l2i) 1 27 := ⟨by decide +kernel, rfl⟩
theorem eX11_draw_27 : DD cX11_draw 27 (.ireturn) 1 28 := ⟨by decide +kernel, rfl⟩
def G_X11_draw (x1 : Int32) (μ : Mem) : Option (Int32 × Mem) :=
  lb (wL μ 107 24 (((rL μ 107 24) * (6364136223846793005 : Int64)) + (1442695040888963407 : Int64))) (fun μ_1 => gq (decide (¬ x1.toInt64 = 0)) (some (((((rL μ_1 107 24).toUInt64 >>> ((33 : Int32).toInt64.toUInt64 &&& Int64.toUInt64 63)).toInt64) - (((rL μ_1 107 24).toUInt64 >>> ((33 : Int32).toInt64.toUInt64 &&& Int64.toUInt64 63)).toInt64) / x1.toInt64 * x1.toInt64).toInt32, μ_1)))
set_option maxHeartbeats 4000000 in
theorem c_X11_draw {X : Wd} (hX : WdOk X) (x1 : Int32) (μ : Mem) : CtI X yX11_draw cX11_draw 2 (some .int) (rmF 0 0) [.ref (xad X 107), .int x1] μ (G_X11_draw x1 μ) := by
  refine CtI.of hX (plainFor_of_name (by decide)) (by exact Nat.le_of_ble_eq_true rfl) ?_
  intro C hCX hC hr
  subst hCX
  show J C (KI C) μ 0 [(0, .ref (xad (cX C) 107)), (1, .int x1)] [] _
  unfold G_X11_draw
  refine J.aload_n (j := 0) hC eX11_draw_0 rfl ?_
  refine J.aload_n (j := 0) hC eX11_draw_1 rfl ?_
  refine gf_X11_290 hC eX11_draw_2 kk_107 ?_
  refine J.ldc2 hC eX11_draw_5 mk_X11_294 ?_
  refine J.lmul hC eX11_draw_8 ?_
  refine J.ldc2 hC eX11_draw_9 mk_X11_296 ?_
  refine J.ladd hC eX11_draw_12 ?_
  refine pf_X11_290 hC eX11_draw_13 kk_107 (fun μ_1 => ?_)
  refine J.aload_n (j := 0) hC eX11_draw_16 rfl ?_
  refine gf_X11_290 hC eX11_draw_17 kk_107 ?_
  refine J.bipush hC eX11_draw_20 cb_33 ?_
  refine J.lushr hC eX11_draw_22 ?_
  refine J.iload_n (j := 1) hC eX11_draw_23 rfl ?_
  refine J.i2l hC eX11_draw_24 ?_
  refine J.lrem hC eX11_draw_25 ?_
  refine J.l2i hC eX11_draw_26 ?_
  exact J.iret hC hr eX11_draw_27
-- X11_drawValue
theorem eX11_drawValue_0 : DD cX11_drawValue 0 (.aload_n 0) 1 1 := ⟨by decide +kernel, rfl⟩
theorem eX11_drawValue_1 : DD cX11_drawValue 1 (.aload_n 0) 1 2 := ⟨by decide +kernel, rfl⟩
theorem eX11_drawValue_2 : DD cX11_drawValue 2 (.getfield 25) 3 5 := ⟨by decide +kernel, rfl⟩
theorem eX11_drawValue_5 : DD cX11_drawValue 5 (.iload_n 1) 1 6 := ⟨by decide +kernel, rfl⟩
theorem eX11_drawValue_6 : DD cX11_drawValue 6 (.iaload) 1 7 := ⟨by decide +kernel, rfl⟩
theorem eX11_drawValue_7 : DD cX11_drawValue 7 (.iconst 1) 1 8 := ⟨by decide +kernel, rfl⟩
theorem eX11_drawValue_8 : DD cX11_drawValue 8 (.iadd) 1 9 := ⟨by decide +kernel, rfl⟩
theorem eX11_drawValue_9 : DD cX11_drawValue 9 (.invokevirtual 298) 3 12 := ⟨by decide +kernel, rfl⟩
theorem eX11_drawValue_12 : DD cX11_drawValue 12 (.istore_n 2) 1 13 := ⟨by decide +kernel, rfl⟩
theorem eX11_drawValue_13 : DD cX11_drawValue 13 (.iload_n 2) 1 14 := ⟨by decide +kernel, rfl⟩
theorem eX11_drawValue_14 : DD cX11_drawValue 14 (.aload_n 0) 1 15 := ⟨by decide +kernel, rfl⟩
theorem eX11_drawValue_15 : DD cX11_drawValue 15 (.getfield 25) 3 18 := ⟨by decide +kernel, rfl⟩
theorem eX11_drawValue_18 : DD cX11_drawValue 18 (.iload_n 1) 1 19 := ⟨by decide +kernel, rfl⟩
theorem eX11_drawValue_19 : DD cX11_drawValue 19 (.iaload) 1 20 := ⟨by decide +kernel, rfl⟩
theorem eX11_drawValue_20 : DB cX11_drawValue 20 (.if_icmp .ne 7) (7) 23 27 := ⟨by decide +kernel, rfl, by decide⟩
theorem eX11_drawValue_23 : DD cX11_drawValue 23 (.iconst (-1)) 1 24 := ⟨by decide +kernel, rfl⟩
theorem eX11_drawValue_24 : DB cX11_drawValue 24 (.goto 4) (4) 27 28 := ⟨by decide +kernel, rfl, by decide⟩
theorem eX11_drawValue_27 : DD cX11_drawValue 27 (.iload_n 2) 1 28 := ⟨by decide +kernel, rfl⟩
theorem eX11_drawValue_28 : DD cX11_drawValue 28 (.ireturn) 1 29 := ⟨by decide +kernel, rfl⟩
def G_X11_drawValue (x1 : Int32) (μ : Mem) : Option (Int32 × Mem) :=
  gq (inB x1 3) (bd (G_X11_draw ((rI μ 113 (nx x1)) + (1 : Int32)) μ) (fun r_2 μ_1 => gq (inB x1 3) (if r_2 = (rI μ_1 113 (nx x1)) then some ((-1 : Int32), μ_1) else some (r_2, μ_1))))
set_option maxHeartbeats 4000000 in
theorem c_X11_drawValue {X : Wd} (hX : WdOk X) (x1 : Int32) (μ : Mem) : CtI X yX11_drawValue cX11_drawValue 3 (some .int) (rmF 1 21) [.ref (xad X 107), .int x1] μ (G_X11_drawValue x1 μ) := by
  refine CtI.of hX (plainFor_of_name (by decide)) (by exact Nat.le_of_ble_eq_true rfl) ?_
  intro C hCX hC hr
  subst hCX
  show J C (KI C) μ 0 [(0, .ref (xad (cX C) 107)), (1, .int x1)] [] _
  unfold G_X11_drawValue
  refine J.aload_n (j := 0) hC eX11_drawValue_0 rfl ?_
  refine J.aload_n (j := 0) hC eX11_drawValue_1 rfl ?_
  refine gf_X11_25 (q := 113) hC eX11_drawValue_2 kk_107 rfl ?_
  refine J.iload_n (j := 1) hC eX11_drawValue_5 rfl ?_
  refine J.iald ik_3 hC eX11_drawValue_6 kk_113 ?_
  refine J.iconst hC eX11_drawValue_7 ci_1 ?_
  refine J.iadd hC eX11_drawValue_8 ?_
  refine J.callVI (st := []) hC eX11_drawValue_9 kk_107 (by decide) rfl rfl ml_X11_298 mv_X11_draw (Rle_of (Nat.le_of_ble_eq_true rfl) (Nat.le_of_ble_eq_true rfl)) (c_X11_draw hC.X ((rI μ 113 (nx x1)) + (1 : Int32)) μ) rfl rfl (Nat.le_of_ble_eq_true rfl) (fun r_2 μ_1 => ?_)
  refine J.istore_n [(2, .int r_2), (0, .ref (xad (cX C) 107)), (1, .int x1)] hC eX11_drawValue_12 (by decide) rfl ?_
  refine J.iload_n (j := 0) hC eX11_drawValue_13 rfl ?_
  refine J.aload_n (j := 1) hC eX11_drawValue_14 rfl ?_
  refine gf_X11_25 (q := 113) hC eX11_drawValue_15 kk_107 rfl ?_
  refine J.iload_n (j := 2) hC eX11_drawValue_18 rfl ?_
  refine J.iald ik_3 hC eX11_drawValue_19 kk_113 ?_
  refine J.icmp_ne hC eX11_drawValue_20 (fun _ => ?_) (fun _ => ?_)
  · refine J.iconst hC eX11_drawValue_23 ci_m1 ?_
    refine J.goto hC eX11_drawValue_24 ?_
    exact J.iret hC hr eX11_drawValue_28
  · refine J.iload_n (j := 0) hC eX11_drawValue_27 rfl ?_
    exact J.iret hC hr eX11_drawValue_28
-- X11_drawYear
theorem eX11_drawYear_0 : DD cX11_drawYear 0 (.aload_n 0) 1 1 := ⟨by decide +kernel, rfl⟩
theorem eX11_drawYear_1 : DD cX11_drawYear 1 (.iconst 4) 1 2 := ⟨by decide +kernel, rfl⟩
theorem eX11_drawYear_2 : DD cX11_drawYear 2 (.invokevirtual 298) 3 5 := ⟨by decide +kernel, rfl⟩
theorem eX11_drawYear_5 : DD cX11_drawYear 5 (.istore_n 1) 1 6 := ⟨by decide +kernel, rfl⟩
theorem eX11_drawYear_6 : DD cX11_drawYear 6 (.aload_n 0) 1 7 := ⟨by decide +kernel, rfl⟩
theorem eX11_drawYear_7 : DD cX11_drawYear 7 (.aload_n 0) 1 8 := ⟨by decide +kernel, rfl⟩
theorem eX11_drawYear_8 : DD cX11_drawYear 8 (.getfield 150) 3 11 := ⟨by decide +kernel, rfl⟩
theorem eX11_drawYear_11 : DD cX11_drawYear 11 (.invokevirtual 298) 3 14 := ⟨by decide +kernel, rfl⟩
theorem eX11_drawYear_14 : DD cX11_drawYear 14 (.istore_n 2) 1 15 := ⟨by decide +kernel, rfl⟩
theorem eX11_drawYear_15 : DD cX11_drawYear 15 (.iload_n 1) 1 16 := ⟨by decide +kernel, rfl⟩
theorem eX11_drawYear_16 : DD cX11_drawYear 16 (.iconst 3) 1 17 := ⟨by decide +kernel, rfl⟩
theorem eX11_drawYear_17 : DB cX11_drawYear 17 (.if_icmp .ne 27) (27) 20 44 := ⟨by decide +kernel, rfl, by decide⟩
theorem eX11_drawYear_20 : DD cX11_drawYear 20 (.aload_n 0) 1 21 := ⟨by decide +kernel, rfl⟩
theorem eX11_drawYear_21 : DD cX11_drawYear 21 (.iconst 2) 1 22 := ⟨by decide +kernel, rfl⟩
theorem eX11_drawYear_22 : DD cX11_drawYear 22 (.invokevirtual 298) 3 25 := ⟨by decide +kernel, rfl⟩
theorem eX11_drawYear_25 : DD cX11_drawYear 25 (.istore_n 3) 1 26 := ⟨by decide +kernel, rfl⟩
theorem eX11_drawYear_26 : DD cX11_drawYear 26 (.aload_n 0) 1 27 := ⟨by decide +kernel, rfl⟩
theorem eX11_drawYear_27 : DD cX11_drawYear 27 (.iload_n 2) 1 28 := ⟨by decide +kernel, rfl⟩
theorem eX11_drawYear_28 : DD cX11_drawYear 28 (.iload_n 3) 1 29 := ⟨by decide +kernel, rfl⟩
theorem eX11_drawYear_29 : DD cX11_drawYear 29 (.invokevirtual 285) 3 32 := ⟨by decide +kernel, rfl⟩
theorem eX11_drawYear_32 : DD cX11_drawYear 32 (.iconst (-1)) 1 33 := ⟨by decide +kernel, rfl⟩
theorem eX11_drawYear_33 : DB cX11_drawYear 33 (.if_icmp .ne 10) (10) 36 43 := ⟨by decide +kernel, rfl, by decide⟩
theorem eX11_drawYear_36 : DD cX11_drawYear 36 (.aload_n 0) 1 37 := ⟨by decide +kernel, rfl⟩
theorem eX11_drawYear_37 : DD cX11_drawYear 37 (.iload_n 2) 1 38 := ⟨by decide +kernel, rfl⟩
theorem eX11_drawYear_38 : DD cX11_drawYear 38 (.iload_n 3) 1 39 := ⟨by decide +kernel, rfl⟩
theorem eX11_drawYear_39 : DD cX11_drawYear 39 (.invokevirtual 301) 3 42 := ⟨by decide +kernel, rfl⟩
theorem eX11_drawYear_42 : DD cX11_drawYear 42 (.pop) 1 43 := ⟨by decide +kernel, rfl⟩
theorem eX11_drawYear_43 : DD cX11_drawYear 43 (.return_) 1 44 := ⟨by decide +kernel, rfl⟩
theorem eX11_drawYear_44 : DD cX11_drawYear 44 (.aload_n 0) 1 45 := ⟨by decide +kernel, rfl⟩
theorem eX11_drawYear_45 : DD cX11_drawYear 45 (.iload_n 2) 1 46 := ⟨by decide +kernel, rfl⟩
theorem eX11_drawYear_46 : DD cX11_drawYear 46 (.invokevirtual 304) 3 49 := ⟨by decide +kernel, rfl⟩
theorem eX11_drawYear_49 : DD cX11_drawYear 49 (.istore_n 3) 1 50 := ⟨by decide +kernel, rfl⟩
theorem eX11_drawYear_50 : DD cX11_drawYear 50 (.aload_n 0) 1 51 := ⟨by decide +kernel, rfl⟩
theorem eX11_drawYear_51 : DD cX11_drawYear 51 (.iload_n 2) 1 52 := ⟨by decide +kernel, rfl⟩
theorem eX11_drawYear_52 : DD cX11_drawYear 52 (.invokevirtual 304) 3 55 := ⟨by decide +kernel, rfl⟩
theorem eX11_drawYear_55 : DD cX11_drawYear 55 (.istore 4) 2 57 := ⟨by decide +kernel, rfl⟩
theorem eX11_drawYear_57 : DD cX11_drawYear 57 (.aload_n 0) 1 58 := ⟨by decide +kernel, rfl⟩
theorem eX11_drawYear_58 : DD cX11_drawYear 58 (.iconst 5) 1 59 := ⟨by decide +kernel, rfl⟩
theorem eX11_drawYear_59 : DD cX11_drawYear 59 (.invokevirtual 298) 3 62 := ⟨by decide +kernel, rfl⟩
theorem eX11_drawYear_62 : DD cX11_drawYear 62 (.iconst 1) 1 63 := ⟨by decide +kernel, rfl⟩
theorem eX11_drawYear_63 : DD cX11_drawYear 63 (.iadd) 1 64 := ⟨by decide +kernel, rfl⟩
theorem eX11_drawYear_64 : DD cX11_drawYear 64 (.istore 5) 2 66 := ⟨by decide +kernel, rfl⟩
theorem eX11_drawYear_66 : DD cX11_drawYear 66 (.iload_n 1) 1 67 := ⟨by decide +kernel, rfl⟩
theorem eX11_drawYear_67 : DD cX11_drawYear 67 (.iconst 2) 1 68 := ⟨by decide +kernel, rfl⟩
theorem eX11_drawYear_68 : DB cX11_drawYear 68 (.if_icmp .ge 28) (28) 71 96 := ⟨by decide +kernel, rfl, by decide⟩
theorem eX11_drawYear_71 : DD cX11_drawYear 71 (.aload_n 0) 1 72 := ⟨by decide +kernel, rfl⟩
theorem eX11_drawYear_72 : DD cX11_drawYear 72 (.iload_n 2) 1 73 := ⟨by decide +kernel, rfl⟩
theorem eX11_drawYear_73 : DD cX11_drawYear 73 (.iload_n 3) 1 74 := ⟨by decide +kernel, rfl⟩
theorem eX11_drawYear_74 : DD cX11_drawYear 74 (.iload 4) 2 76 := ⟨by decide +kernel, rfl⟩
theorem eX11_drawYear_76 : DD cX11_drawYear 76 (.iload 5) 2 78 := ⟨by decide +kernel, rfl⟩
theorem eX11_drawYear_78 : DD cX11_drawYear 78 (.invokevirtual 272) 3 81 := ⟨by decide +kernel, rfl⟩
theorem eX11_drawYear_81 : DD cX11_drawYear 81 (.iconst (-1)) 1 82 := ⟨by decide +kernel, rfl⟩
theorem eX11_drawYear_82 : DB cX11_drawYear 82 (.if_icmp .ne 14) (14) 85 96 := ⟨by decide +kernel, rfl, by decide⟩
theorem eX11_drawYear_85 : DD cX11_drawYear 85 (.aload_n 0) 1 86 := ⟨by decide +kernel, rfl⟩
theorem eX11_drawYear_86 : DD cX11_drawYear 86 (.iload_n 2) 1 87 := ⟨by decide +kernel, rfl⟩
theorem eX11_drawYear_87 : DD cX11_drawYear 87 (.iload_n 3) 1 88 := ⟨by decide +kernel, rfl⟩
theorem eX11_drawYear_88 : DD cX11_drawYear 88 (.iload 4) 2 90 := ⟨by decide +kernel, rfl⟩
theorem eX11_drawYear_90 : DD cX11_drawYear 90 (.iload 5) 2 92 := ⟨by decide +kernel, rfl⟩
theorem eX11_drawYear_92 : DD cX11_drawYear 92 (.invokevirtual 307) 3 95 := ⟨by decide +kernel, rfl⟩
theorem eX11_drawYear_95 : DD cX11_drawYear 95 (.pop) 1 96 := ⟨by decide +kernel, rfl⟩
theorem eX11_drawYear_96 : DD cX11_drawYear 96 (.iload_n 1) 1 97 := ⟨by decide +kernel, rfl⟩
theorem eX11_drawYear_97 : DD cX11_drawYear 97 (.iconst 2) 1 98 := ⟨by decide +kernel, rfl⟩
theorem eX11_drawYear_98 : DB cX11_drawYear 98 (.if_icmp .ne 28) (28) 101 126 := ⟨by decide +kernel, rfl, by decide⟩
theorem eX11_drawYear_101 : DD cX11_drawYear 101 (.aload_n 0) 1 102 := ⟨by decide +kernel, rfl⟩
theorem eX11_drawYear_102 : DD cX11_drawYear 102 (.iload_n 2) 1 103 := ⟨by decide +kernel, rfl⟩
theorem eX11_drawYear_103 : DD cX11_drawYear 103 (.iload_n 3) 1 104 := ⟨by decide +kernel, rfl⟩
theorem eX11_drawYear_104 : DD cX11_drawYear 104 (.iload 4) 2 106 := ⟨by decide +kernel, rfl⟩
theorem eX11_drawYear_106 : DD cX11_drawYear 106 (.iload 5) 2 108 := ⟨by decide +kernel, rfl⟩
theorem eX11_drawYear_108 : DD cX11_drawYear 108 (.invokevirtual 282) 3 111 := ⟨by decide +kernel, rfl⟩
theorem eX11_drawYear_111 : DD cX11_drawYear 111 (.iconst (-1)) 1 112 := ⟨by decide +kernel, rfl⟩
theorem eX11_drawYear_112 : DB cX11_drawYear 112 (.if_icmp .ne 14) (14) 115 126 := ⟨by decide +kernel, rfl, by decide⟩
theorem eX11_drawYear_115 : DD cX11_drawYear 115 (.aload_n 0) 1 116 := ⟨by decide +kernel, rfl⟩
theorem eX11_drawYear_116 : DD cX11_drawYear 116 (.iload_n 2) 1 117 := ⟨by decide +kernel, rfl⟩
theorem eX11_drawYear_117 : DD cX11_drawYear 117 (.iload_n 3) 1 118 := ⟨by decide +kernel, rfl⟩
theorem eX11_drawYear_118 : DD cX11_drawYear 118 (.iload 4) 2 120 := ⟨by decide +kernel, rfl⟩
theorem eX11_drawYear_120 : DD cX11_drawYear 120 (.iload 5) 2 122 := ⟨by decide +kernel, rfl⟩
theorem eX11_drawYear_122 : DD cX11_drawYear 122 (.invokevirtual 310) 3 125 := ⟨by decide +kernel, rfl⟩
theorem eX11_drawYear_125 : DD cX11_drawYear 125 (.pop) 1 126 := ⟨by decide +kernel, rfl⟩
theorem eX11_drawYear_126 : DD cX11_drawYear 126 (.return_) 1 127 := ⟨by decide +kernel, rfl⟩
def F_X11_drawYear_96 (x1 : Int32) (x2 : Int32) (x3 : Int32) (x4 : Int32) (x5 : Int32) (μ : Mem) : Option (Unit × Mem) :=
  if x1 = (2 : Int32) then bd (G_X11_whyDrop x2 x3 x4 x5 μ) (fun r_2 μ_1 => if r_2 = (-1 : Int32) then bd (G_X11_drop x2 x3 x4 x5 μ_1) (fun r_4 μ_3 => some ((), μ_3)) else some ((), μ_1)) else some ((), μ)
set_option maxHeartbeats 4000000 in
theorem j_X11_drawYear_96 {C : Cx} (hC : Ok C cX11_drawYear 6 RX11 (rmF 6 155)) (hr : (cT C).sig.returnType = none) (x1 : Int32) (x2 : Int32) (x3 : Int32) (x4 : Int32) (x5 : Int32) (μ : Mem) : J C (KV C) μ 96 [(0, .ref (xad (cX C) 107)), (1, .int x1), (2, .int x2), (3, .int x3), (4, .int x4), (5, .int x5)] [] (F_X11_drawYear_96  x1 x2 x3 x4 x5 μ) := by
  unfold F_X11_drawYear_96
  refine J.iload_n (j := 1) hC eX11_drawYear_96 rfl ?_
  refine J.iconst hC eX11_drawYear_97 ci_2 ?_
  refine J.icmp_ne hC eX11_drawYear_98 (fun _ => ?_) (fun _ => ?_)
  · refine J.aload_n (j := 0) hC eX11_drawYear_101 rfl ?_
    refine J.iload_n (j := 2) hC eX11_drawYear_102 rfl ?_
    refine J.iload_n (j := 3) hC eX11_drawYear_103 rfl ?_
    refine J.iload (j := 4) hC eX11_drawYear_104 rfl ?_
    refine J.iload (j := 5) hC eX11_drawYear_106 rfl ?_
    refine J.callVI (st := []) hC eX11_drawYear_108 kk_107 (by decide) rfl rfl ml_X11_282 mv_X11_whyDrop (Rle_of (Nat.le_of_ble_eq_true rfl) (Nat.le_of_ble_eq_true rfl)) (c_X11_whyDrop hC.X x2 x3 x4 x5 μ) rfl rfl (Nat.le_of_ble_eq_true rfl) (fun r_2 μ_1 => ?_)
    refine J.iconst hC eX11_drawYear_111 ci_m1 ?_
    refine J.icmp_ne hC eX11_drawYear_112 (fun _ => ?_) (fun _ => ?_)
    · refine J.aload_n (j := 0) hC eX11_drawYear_115 rfl ?_
      refine J.iload_n (j := 2) hC eX11_drawYear_116 rfl ?_
      refine J.iload_n (j := 3) hC eX11_drawYear_117 rfl ?_
      refine J.iload (j := 4) hC eX11_drawYear_118 rfl ?_
      refine J.iload (j := 5) hC eX11_drawYear_120 rfl ?_
      refine J.callVI (st := []) hC eX11_drawYear_122 kk_107 (by decide) rfl rfl ml_X11_310 mv_X11_drop (Rle_of (Nat.le_of_ble_eq_true rfl) (Nat.le_of_ble_eq_true rfl)) (c_X11_drop hC.X x2 x3 x4 x5 μ_1) rfl rfl (Nat.le_of_ble_eq_true rfl) (fun r_4 μ_3 => ?_)
      refine J.pop hC eX11_drawYear_125 rfl ?_
      exact J.vret hC hr eX11_drawYear_126
    · exact J.vret hC hr eX11_drawYear_126
  · exact J.vret hC hr eX11_drawYear_126
def G_X11_drawYear  (μ : Mem) : Option (Unit × Mem) :=
  bd (G_X11_draw (4 : Int32) μ) (fun r_2 μ_1 => bd (G_X11_draw (rI μ_1 107 12) μ_1) (fun r_4 μ_3 => if r_2 = (3 : Int32) then bd (G_X11_draw (2 : Int32) μ_3) (fun r_6 μ_5 => bd (G_X11_whyBuild r_4 r_6 μ_5) (fun r_8 μ_7 => if r_8 = (-1 : Int32) then bd (G_X11_build r_4 r_6 μ_7) (fun r_10 μ_9 => some ((), μ_9)) else some ((), μ_7))) else bd (G_X11_drawValue r_4 μ_3) (fun r_12 μ_11 => bd (G_X11_drawValue r_4 μ_11) (fun r_14 μ_13 => bd (G_X11_draw (5 : Int32) μ_13) (fun r_16 μ_15 => lb (r_16 + (1 : Int32)) (fun x5_17 => if (2 : Int32) ≤ r_2 then F_X11_drawYear_96  r_2 r_4 r_12 r_14 x5_17 μ_15 else bd (G_X11_whyAdd r_4 r_12 r_14 x5_17 μ_15) (fun r_19 μ_18 => if r_19 = (-1 : Int32) then bd (G_X11_add r_4 r_12 r_14 x5_17 μ_18) (fun r_21 μ_20 => F_X11_drawYear_96  r_2 r_4 r_12 r_14 x5_17 μ_20) else F_X11_drawYear_96  r_2 r_4 r_12 r_14 x5_17 μ_18)))))))
set_option maxHeartbeats 4000000 in
theorem c_X11_drawYear {X : Wd} (hX : WdOk X)  (μ : Mem) : CtV X yX11_drawYear cX11_drawYear 6 none (rmF 6 155) [.ref (xad X 107)] μ (G_X11_drawYear  μ) := by
  refine CtV.of hX (plainFor_of_name (by decide)) (by exact Nat.le_of_ble_eq_true rfl) ?_
  intro C hCX hC hr
  subst hCX
  show J C (KV C) μ 0 [(0, .ref (xad (cX C) 107))] [] _
  unfold G_X11_drawYear
  refine J.aload_n (j := 0) hC eX11_drawYear_0 rfl ?_
  refine J.iconst hC eX11_drawYear_1 ci_4 ?_
  refine J.callVI (st := []) hC eX11_drawYear_2 kk_107 (by decide) rfl rfl ml_X11_298 mv_X11_draw (Rle_of (Nat.le_of_ble_eq_true rfl) (Nat.le_of_ble_eq_true rfl)) (c_X11_draw hC.X (4 : Int32) μ) rfl rfl (Nat.le_of_ble_eq_true rfl) (fun r_2 μ_1 => ?_)
  refine J.istore_n [(1, .int r_2), (0, .ref (xad (cX C) 107))] hC eX11_drawYear_5 (by decide) rfl ?_
  refine J.aload_n (j := 1) hC eX11_drawYear_6 rfl ?_
  refine J.aload_n (j := 1) hC eX11_drawYear_7 rfl ?_
  refine gf_X11_150 hC eX11_drawYear_8 kk_107 ?_
  refine J.callVI (st := []) hC eX11_drawYear_11 kk_107 (by decide) rfl rfl ml_X11_298 mv_X11_draw (Rle_of (Nat.le_of_ble_eq_true rfl) (Nat.le_of_ble_eq_true rfl)) (c_X11_draw hC.X (rI μ_1 107 12) μ_1) rfl rfl (Nat.le_of_ble_eq_true rfl) (fun r_4 μ_3 => ?_)
  refine J.istore_n [(2, .int r_4), (1, .int r_2), (0, .ref (xad (cX C) 107))] hC eX11_drawYear_14 (by decide) rfl ?_
  refine J.iload_n (j := 1) hC eX11_drawYear_15 rfl ?_
  refine J.iconst hC eX11_drawYear_16 ci_3 ?_
  refine J.icmp_ne hC eX11_drawYear_17 (fun _ => ?_) (fun _ => ?_)
  · refine J.aload_n (j := 2) hC eX11_drawYear_20 rfl ?_
    refine J.iconst hC eX11_drawYear_21 ci_2 ?_
    refine J.callVI (st := []) hC eX11_drawYear_22 kk_107 (by decide) rfl rfl ml_X11_298 mv_X11_draw (Rle_of (Nat.le_of_ble_eq_true rfl) (Nat.le_of_ble_eq_true rfl)) (c_X11_draw hC.X (2 : Int32) μ_3) rfl rfl (Nat.le_of_ble_eq_true rfl) (fun r_6 μ_5 => ?_)
    refine J.istore_n [(3, .int r_6), (2, .int r_4), (1, .int r_2), (0, .ref (xad (cX C) 107))] hC eX11_drawYear_25 (by decide) rfl ?_
    refine J.aload_n (j := 3) hC eX11_drawYear_26 rfl ?_
    refine J.iload_n (j := 1) hC eX11_drawYear_27 rfl ?_
    refine J.iload_n (j := 0) hC eX11_drawYear_28 rfl ?_
    refine J.callVI (st := []) hC eX11_drawYear_29 kk_107 (by decide) rfl rfl ml_X11_285 mv_X11_whyBuild (Rle_of (Nat.le_of_ble_eq_true rfl) (Nat.le_of_ble_eq_true rfl)) (c_X11_whyBuild hC.X r_4 r_6 μ_5) rfl rfl (Nat.le_of_ble_eq_true rfl) (fun r_8 μ_7 => ?_)
    refine J.iconst hC eX11_drawYear_32 ci_m1 ?_
    refine J.icmp_ne hC eX11_drawYear_33 (fun _ => ?_) (fun _ => ?_)
    · refine J.aload_n (j := 3) hC eX11_drawYear_36 rfl ?_
      refine J.iload_n (j := 1) hC eX11_drawYear_37 rfl ?_
      refine J.iload_n (j := 0) hC eX11_drawYear_38 rfl ?_
      refine J.callVI (st := []) hC eX11_drawYear_39 kk_107 (by decide) rfl rfl ml_X11_301 mv_X11_build (Rle_of (Nat.le_of_ble_eq_true rfl) (Nat.le_of_ble_eq_true rfl)) (c_X11_build hC.X r_4 r_6 μ_7) rfl rfl (Nat.le_of_ble_eq_true rfl) (fun r_10 μ_9 => ?_)
      refine J.pop hC eX11_drawYear_42 rfl ?_
      exact J.vret hC hr eX11_drawYear_43
    · exact J.vret hC hr eX11_drawYear_43
  · refine J.aload_n (j := 2) hC eX11_drawYear_44 rfl ?_
    refine J.iload_n (j := 0) hC eX11_drawYear_45 rfl ?_
    refine J.callVI (st := []) hC eX11_drawYear_46 kk_107 (by decide) rfl rfl ml_X11_304 mv_X11_drawValue (Rle_of (Nat.le_of_ble_eq_true rfl) (Nat.le_of_ble_eq_true rfl)) (c_X11_drawValue hC.X r_4 μ_3) rfl rfl (Nat.le_of_ble_eq_true rfl) (fun r_12 μ_11 => ?_)
    refine J.istore_n [(3, .int r_12), (2, .int r_4), (1, .int r_2), (0, .ref (xad (cX C) 107))] hC eX11_drawYear_49 (by decide) rfl ?_
    refine J.aload_n (j := 3) hC eX11_drawYear_50 rfl ?_
    refine J.iload_n (j := 1) hC eX11_drawYear_51 rfl ?_
    refine J.callVI (st := []) hC eX11_drawYear_52 kk_107 (by decide) rfl rfl ml_X11_304 mv_X11_drawValue (Rle_of (Nat.le_of_ble_eq_true rfl) (Nat.le_of_ble_eq_true rfl)) (c_X11_drawValue hC.X r_4 μ_11) rfl rfl (Nat.le_of_ble_eq_true rfl) (fun r_14 μ_13 => ?_)
    refine J.istore [(4, .int r_14), (3, .int r_12), (2, .int r_4), (1, .int r_2), (0, .ref (xad (cX C) 107))] hC eX11_drawYear_55 (by decide) rfl ?_
    refine J.aload_n (j := 4) hC eX11_drawYear_57 rfl ?_
    refine J.iconst hC eX11_drawYear_58 ci_5 ?_
    refine J.callVI (st := []) hC eX11_drawYear_59 kk_107 (by decide) rfl rfl ml_X11_298 mv_X11_draw (Rle_of (Nat.le_of_ble_eq_true rfl) (Nat.le_of_ble_eq_true rfl)) (c_X11_draw hC.X (5 : Int32) μ_13) rfl rfl (Nat.le_of_ble_eq_true rfl) (fun r_16 μ_15 => ?_)
    refine J.iconst hC eX11_drawYear_62 ci_1 ?_
    refine J.iadd hC eX11_drawYear_63 ?_
    refine J.topi (fun x5_17 => ?_)
    refine J.istore [(5, .int x5_17), (4, .int r_14), (3, .int r_12), (2, .int r_4), (1, .int r_2), (0, .ref (xad (cX C) 107))] hC eX11_drawYear_64 (by decide) rfl ?_
    refine J.iload_n (j := 4) hC eX11_drawYear_66 rfl ?_
    refine J.iconst hC eX11_drawYear_67 ci_2 ?_
    refine J.icmp_ge hC eX11_drawYear_68 (fun _ => ?_) (fun _ => ?_)
    · refine J.sub [5, 4, 3, 2, 1, 0] rfl ?_
      exact j_X11_drawYear_96 hC hr  r_2 r_4 r_12 r_14 x5_17 μ_15
    · refine J.aload_n (j := 5) hC eX11_drawYear_71 rfl ?_
      refine J.iload_n (j := 3) hC eX11_drawYear_72 rfl ?_
      refine J.iload_n (j := 2) hC eX11_drawYear_73 rfl ?_
      refine J.iload (j := 1) hC eX11_drawYear_74 rfl ?_
      refine J.iload (j := 0) hC eX11_drawYear_76 rfl ?_
      refine J.callVI (st := []) hC eX11_drawYear_78 kk_107 (by decide) rfl rfl ml_X11_272 mv_X11_whyAdd (Rle_of (Nat.le_of_ble_eq_true rfl) (Nat.le_of_ble_eq_true rfl)) (c_X11_whyAdd hC.X r_4 r_12 r_14 x5_17 μ_15) rfl rfl (Nat.le_of_ble_eq_true rfl) (fun r_19 μ_18 => ?_)
      refine J.iconst hC eX11_drawYear_81 ci_m1 ?_
      refine J.icmp_ne hC eX11_drawYear_82 (fun _ => ?_) (fun _ => ?_)
      · refine J.aload_n (j := 5) hC eX11_drawYear_85 rfl ?_
        refine J.iload_n (j := 3) hC eX11_drawYear_86 rfl ?_
        refine J.iload_n (j := 2) hC eX11_drawYear_87 rfl ?_
        refine J.iload (j := 1) hC eX11_drawYear_88 rfl ?_
        refine J.iload (j := 0) hC eX11_drawYear_90 rfl ?_
        refine J.callVI (st := []) hC eX11_drawYear_92 kk_107 (by decide) rfl rfl ml_X11_307 mv_X11_add (Rle_of (Nat.le_of_ble_eq_true rfl) (Nat.le_of_ble_eq_true rfl)) (c_X11_add hC.X r_4 r_12 r_14 x5_17 μ_18) rfl rfl (Nat.le_of_ble_eq_true rfl) (fun r_21 μ_20 => ?_)
        refine J.pop hC eX11_drawYear_95 rfl ?_
        refine J.sub [5, 4, 3, 2, 1, 0] rfl ?_
        exact j_X11_drawYear_96 hC hr  r_2 r_4 r_12 r_14 x5_17 μ_20
      · refine J.sub [5, 4, 3, 2, 1, 0] rfl ?_
        exact j_X11_drawYear_96 hC hr  r_2 r_4 r_12 r_14 x5_17 μ_18
-- X11_years
theorem eX11_years_0 : DD cX11_years 0 (.aload_n 0) 1 1 := ⟨by decide +kernel, rfl⟩
theorem eX11_years_1 : DD cX11_years 1 (.invokevirtual 225) 3 4 := ⟨by decide +kernel, rfl⟩
theorem eX11_years_4 : DB cX11_years 4 (.ifCond .eq 15) (15) 7 19 := ⟨by decide +kernel, rfl, by decide⟩
theorem eX11_years_7 : DD cX11_years 7 (.iload_n 1) 1 8 := ⟨by decide +kernel, rfl⟩
theorem eX11_years_8 : DD cX11_years 8 (.i2l) 1 9 := ⟨by decide +kernel, rfl⟩
theorem eX11_years_9 : DD cX11_years 9 (.lconst 1) 1 10 := ⟨by decide +kernel, rfl⟩
theorem eX11_years_10 : DD cX11_years 10 (.ldc2_w 313) 3 13 := ⟨by decide +kernel, rfl⟩
theorem eX11_years_13 : DD cX11_years 13 (.invokestatic 77) 3 16 := ⟨by decide +kernel, rfl⟩
theorem eX11_years_16 : DB cX11_years 16 (.ifCond .ne 5) (5) 19 21 := ⟨by decide +kernel, rfl, by decide⟩
theorem eX11_years_19 : DD cX11_years 19 (.iconst (-1)) 1 20 := ⟨by decide +kernel, rfl⟩
theorem eX11_years_20 : DD cX11_years 20 (.ireturn) 1 21 := ⟨by decide +kernel, rfl⟩
theorem eX11_years_21 : DD cX11_years 21 (.aload_n 0) 1 22 := ⟨by decide +kernel, rfl⟩
theorem eX11_years_22 : DD cX11_years 22 (.lload_n 2) 1 23 := ⟨by decide +kernel, rfl⟩
theorem eX11_years_23 : DD cX11_years 23 (.putfield 290) 3 26 := ⟨by decide +kernel, rfl⟩
theorem eX11_years_26 : DD cX11_years 26 (.iconst 0) 1 27 := ⟨by decide +kernel, rfl⟩
theorem eX11_years_27 : DD cX11_years 27 (.istore 4) 2 29 := ⟨by decide +kernel, rfl⟩
theorem eX11_years_29 : DD cX11_years 29 (.iload 4) 2 31 := ⟨by decide +kernel, rfl⟩
theorem eX11_years_31 : DD cX11_years 31 (.iload_n 1) 1 32 := ⟨by decide +kernel, rfl⟩
theorem eX11_years_32 : DB cX11_years 32 (.if_icmp .ge 13) (13) 35 45 := ⟨by decide +kernel, rfl, by decide⟩
theorem eX11_years_35 : DD cX11_years 35 (.aload_n 0) 1 36 := ⟨by decide +kernel, rfl⟩
theorem eX11_years_36 : DD cX11_years 36 (.invokevirtual 315) 3 39 := ⟨by decide +kernel, rfl⟩
theorem eX11_years_39 : DD cX11_years 39 (.iinc 4 1) 3 42 := ⟨by decide +kernel, rfl⟩
theorem eX11_years_42 : DB cX11_years 42 (.goto (-13)) (-13) 45 29 := ⟨by decide +kernel, rfl, by decide⟩
theorem eX11_years_45 : DD cX11_years 45 (.aload_n 0) 1 46 := ⟨by decide +kernel, rfl⟩
theorem eX11_years_46 : DD cX11_years 46 (.invokevirtual 318) 3 49 := ⟨by decide +kernel, rfl⟩
theorem eX11_years_49 : DD cX11_years 49 (.ireturn) 1 50 := ⟨by decide +kernel, rfl⟩
def L_X11_years_29 : Nat → Int32 → Int32 → Mem → Option (Int32 × Mem)
  | 0, _, _, _ => none
  | n + 1, x1, x4, μ => if x1 ≤ x4 then bd (G_X11_rowsOfAll  μ) (fun r_2 μ_1 => some (r_2, μ_1)) else bd (G_X11_drawYear  μ) (fun r_4 μ_3 => lb (x4 + (1 : Int32)) (fun x4_5 => L_X11_years_29  n x1 x4_5 μ_3))
set_option maxHeartbeats 4000000 in
theorem j_X11_years_29 {C : Cx} (hC : Ok C cX11_years 5 RX11 (rmF 7 180)) (hr : (cT C).sig.returnType = (some .int)) : ∀ (n : Nat) (x1 : Int32) (x4 : Int32) (μ : Mem), J C (KI C) μ 29 [(0, .ref (xad (cX C) 107)), (1, .int x1), (4, .int x4)] [] (L_X11_years_29  n x1 x4 μ) := by
  intro n
  induction n with
  | zero => intros; exact J.no
  | succ n ih =>
    intro x1 x4 μ
    rw [L_X11_years_29]
    refine J.iload (j := 2) hC eX11_years_29 rfl ?_
    refine J.iload_n (j := 1) hC eX11_years_31 rfl ?_
    refine J.icmp_ge hC eX11_years_32 (fun _ => ?_) (fun _ => ?_)
    · refine J.aload_n (j := 0) hC eX11_years_45 rfl ?_
      refine J.callVI (st := []) hC eX11_years_46 kk_107 (by decide) rfl rfl ml_X11_318 mv_X11_rowsOfAll (Rle_of (Nat.le_of_ble_eq_true rfl) (Nat.le_of_ble_eq_true rfl)) (c_X11_rowsOfAll hC.X  μ) rfl rfl (Nat.le_of_ble_eq_true rfl) (fun r_2 μ_1 => ?_)
      exact J.iret hC hr eX11_years_49
    · refine J.aload_n (j := 0) hC eX11_years_35 rfl ?_
      refine J.callVV (st := []) hC eX11_years_36 kk_107 (by decide) rfl rfl ml_X11_315 mv_X11_drawYear (Rle_of (Nat.le_of_ble_eq_true rfl) (Nat.le_of_ble_eq_true rfl)) (c_X11_drawYear hC.X  μ) rfl rfl (Nat.le_of_ble_eq_true rfl) (fun r_4 μ_3 => ?_)
      refine J.iinc (j := 2) (fun x4_5 => [(4, .int x4_5), (0, .ref (xad (cX C) 107)), (1, .int x1)]) hC eX11_years_39 rfl ci_1 (by decide) (fun _ => rfl) (fun x4_5 => ?_)
      refine J.goto hC eX11_years_42 ?_
      refine J.sub [1, 2, 0] rfl ?_
      exact ih x1 x4_5 μ_3
def G_X11_years (x1 : Int32) (l2 : Int64) (μ : Mem) : Option (Int32 × Mem) :=
  bd (G_X11_isBook  μ) (fun r_2 μ_1 => if r_2 = 0 then some ((-1 : Int32), μ_1) else bd (G_X11_in x1.toInt64 (1 : Int64) (40 : Int64) μ_1) (fun r_4 μ_3 => if r_4 = 0 then some ((-1 : Int32), μ_3) else lb (wL μ_3 107 24 l2) (fun μ_5 => L_X11_years_29  100000 x1 (0 : Int32) μ_5)))
set_option maxHeartbeats 4000000 in
theorem c_X11_years {X : Wd} (hX : WdOk X) (x1 : Int32) (l2 : Int64) (μ : Mem) : CtI X yX11_years cX11_years 5 (some .int) (rmF 7 180) [.ref (xad X 107), .int x1, .long l2] μ (G_X11_years x1 l2 μ) := by
  refine CtI.of hX (plainFor_of_name (by decide)) (by exact Nat.le_of_ble_eq_true rfl) ?_
  intro C hCX hC hr
  subst hCX
  show J C (KI C) μ 0 [(0, .ref (xad (cX C) 107)), (1, .int x1), (2, .long l2)] [] _
  unfold G_X11_years
  refine J.aload_n (j := 0) hC eX11_years_0 rfl ?_
  refine J.callVI (st := []) hC eX11_years_1 kk_107 (by decide) rfl rfl ml_X11_225 mv_X11_isBook (Rle_of (Nat.le_of_ble_eq_true rfl) (Nat.le_of_ble_eq_true rfl)) (c_X11_isBook hC.X  μ) rfl rfl (Nat.le_of_ble_eq_true rfl) (fun r_2 μ_1 => ?_)
  refine J.if_eq hC eX11_years_4 (fun _ => ?_) (fun _ => ?_)
  · refine J.iconst hC eX11_years_19 ci_m1 ?_
    exact J.iret hC hr eX11_years_20
  · refine J.iload_n (j := 1) hC eX11_years_7 rfl ?_
    refine J.i2l hC eX11_years_8 ?_
    refine J.lconst hC eX11_years_9 cl_1 ?_
    refine J.ldc2 hC eX11_years_10 mk_X11_313 ?_
    refine J.callSI (st := []) hC eX11_years_13 ml_X11_77 mv_X11_in (Rle_of (Nat.le_of_ble_eq_true rfl) (Nat.le_of_ble_eq_true rfl)) (c_X11_in hC.X x1.toInt64 (1 : Int64) (40 : Int64) μ_1) rfl rfl (Nat.le_of_ble_eq_true rfl) (fun r_4 μ_3 => ?_)
    refine J.if_ne hC eX11_years_16 (fun _ => ?_) (fun _ => ?_)
    · refine J.iconst hC eX11_years_19 ci_m1 ?_
      exact J.iret hC hr eX11_years_20
    · refine J.aload_n (j := 0) hC eX11_years_21 rfl ?_
      refine J.lload_n (j := 2) hC eX11_years_22 rfl ?_
      refine pf_X11_290 hC eX11_years_23 kk_107 (fun μ_5 => ?_)
      refine J.iconst hC eX11_years_26 ci_0 ?_
      refine J.istore [(4, .int (0 : Int32)), (0, .ref (xad (cX C) 107)), (1, .int x1), (2, .long l2)] hC eX11_years_27 (by decide) rfl ?_
      refine J.sub [1, 2, 0] rfl ?_
      exact j_X11_years_29 hC hr  100000 x1 (0 : Int32) μ_5
-- X11_status
theorem eX11_status_0 : DD cX11_status 0 (.iload_n 1) 1 1 := ⟨by decide +kernel, rfl⟩
theorem eX11_status_1 : DD cX11_status 1 (.i2l) 1 2 := ⟨by decide +kernel, rfl⟩
theorem eX11_status_2 : DD cX11_status 2 (.lconst 0) 1 3 := ⟨by decide +kernel, rfl⟩
theorem eX11_status_3 : DD cX11_status 3 (.ldc2_w 321) 3 6 := ⟨by decide +kernel, rfl⟩
theorem eX11_status_6 : DD cX11_status 6 (.invokestatic 77) 3 9 := ⟨by decide +kernel, rfl⟩
theorem eX11_status_9 : DB cX11_status 9 (.ifCond .eq 12) (12) 12 21 := ⟨by decide +kernel, rfl, by decide⟩
theorem eX11_status_12 : DD cX11_status 12 (.aload_n 0) 1 13 := ⟨by decide +kernel, rfl⟩
theorem eX11_status_13 : DD cX11_status 13 (.getfield 37) 3 16 := ⟨by decide +kernel, rfl⟩
theorem eX11_status_16 : DD cX11_status 16 (.iload_n 1) 1 17 := ⟨by decide +kernel, rfl⟩
theorem eX11_status_17 : DD cX11_status 17 (.iaload) 1 18 := ⟨by decide +kernel, rfl⟩
theorem eX11_status_18 : DB cX11_status 18 (.goto 4) (4) 21 22 := ⟨by decide +kernel, rfl, by decide⟩
theorem eX11_status_21 : DD cX11_status 21 (.iconst (-1)) 1 22 := ⟨by decide +kernel, rfl⟩
theorem eX11_status_22 : DD cX11_status 22 (.ireturn) 1 23 := ⟨by decide +kernel, rfl⟩
def G_X11_status (x1 : Int32) (μ : Mem) : Option (Int32 × Mem) :=
  bd (G_X11_in x1.toInt64 (0 : Int64) (4 : Int64) μ) (fun r_2 μ_1 => if r_2 = 0 then some ((-1 : Int32), μ_1) else gq (inB x1 5) (some (rI μ_1 117 (nx x1), μ_1)))
set_option maxHeartbeats 4000000 in
theorem c_X11_status {X : Wd} (hX : WdOk X) (x1 : Int32) (μ : Mem) : CtI X yX11_status cX11_status 2 (some .int) (rmF 1 25) [.ref (xad X 107), .int x1] μ (G_X11_status x1 μ) := by
  refine CtI.of hX (plainFor_of_name (by decide)) (by exact Nat.le_of_ble_eq_true rfl) ?_
  intro C hCX hC hr
  subst hCX
  show J C (KI C) μ 0 [(0, .ref (xad (cX C) 107)), (1, .int x1)] [] _
  unfold G_X11_status
  refine J.iload_n (j := 1) hC eX11_status_0 rfl ?_
  refine J.i2l hC eX11_status_1 ?_
  refine J.lconst hC eX11_status_2 cl_0 ?_
  refine J.ldc2 hC eX11_status_3 mk_X11_321 ?_
  refine J.callSI (st := []) hC eX11_status_6 ml_X11_77 mv_X11_in (Rle_of (Nat.le_of_ble_eq_true rfl) (Nat.le_of_ble_eq_true rfl)) (c_X11_in hC.X x1.toInt64 (0 : Int64) (4 : Int64) μ) rfl rfl (Nat.le_of_ble_eq_true rfl) (fun r_2 μ_1 => ?_)
  refine J.if_eq hC eX11_status_9 (fun _ => ?_) (fun _ => ?_)
  · refine J.iconst hC eX11_status_21 ci_m1 ?_
    exact J.iret hC hr eX11_status_22
  · refine J.aload_n (j := 0) hC eX11_status_12 rfl ?_
    refine gf_X11_37 (q := 117) hC eX11_status_13 kk_107 rfl ?_
    refine J.iload_n (j := 1) hC eX11_status_16 rfl ?_
    refine J.iald ik_5 hC eX11_status_17 kk_117 ?_
    refine J.goto hC eX11_status_18 ?_
    exact J.iret hC hr eX11_status_22
-- X11_undo
theorem eX11_undo_0 : DD cX11_undo 0 (.aload_n 0) 1 1 := ⟨by decide +kernel, rfl⟩
theorem eX11_undo_1 : DD cX11_undo 1 (.getfield 212) 3 4 := ⟨by decide +kernel, rfl⟩
theorem eX11_undo_4 : DB cX11_undo 4 (.ifCond .ne 5) (5) 7 9 := ⟨by decide +kernel, rfl, by decide⟩
theorem eX11_undo_7 : DD cX11_undo 7 (.iconst (-1)) 1 8 := ⟨by decide +kernel, rfl⟩
theorem eX11_undo_8 : DD cX11_undo 8 (.ireturn) 1 9 := ⟨by decide +kernel, rfl⟩
theorem eX11_undo_9 : DD cX11_undo 9 (.aload_n 0) 1 10 := ⟨by decide +kernel, rfl⟩
theorem eX11_undo_10 : DD cX11_undo 10 (.dup) 1 11 := ⟨by decide +kernel, rfl⟩
theorem eX11_undo_11 : DD cX11_undo 11 (.getfield 212) 3 14 := ⟨by decide +kernel, rfl⟩
theorem eX11_undo_14 : DD cX11_undo 14 (.iconst 1) 1 15 := ⟨by decide +kernel, rfl⟩
theorem eX11_undo_15 : DD cX11_undo 15 (.isub) 1 16 := ⟨by decide +kernel, rfl⟩
theorem eX11_undo_16 : DD cX11_undo 16 (.putfield 212) 3 19 := ⟨by decide +kernel, rfl⟩
theorem eX11_undo_19 : DD cX11_undo 19 (.iconst 0) 1 20 := ⟨by decide +kernel, rfl⟩
theorem eX11_undo_20 : DD cX11_undo 20 (.istore_n 1) 1 21 := ⟨by decide +kernel, rfl⟩
theorem eX11_undo_21 : DD cX11_undo 21 (.iload_n 1) 1 22 := ⟨by decide +kernel, rfl⟩
theorem eX11_undo_22 : DD cX11_undo 22 (.sipush 1253) 3 25 := ⟨by decide +kernel, rfl⟩
theorem eX11_undo_25 : DB cX11_undo 25 (.if_icmp .ge 30) (30) 28 55 := ⟨by decide +kernel, rfl, by decide⟩
theorem eX11_undo_28 : DD cX11_undo 28 (.aload_n 0) 1 29 := ⟨by decide +kernel, rfl⟩
theorem eX11_undo_29 : DD cX11_undo 29 (.getfield 34) 3 32 := ⟨by decide +kernel, rfl⟩
theorem eX11_undo_32 : DD cX11_undo 32 (.iload_n 1) 1 33 := ⟨by decide +kernel, rfl⟩
theorem eX11_undo_33 : DD cX11_undo 33 (.aload_n 0) 1 34 := ⟨by decide +kernel, rfl⟩
theorem eX11_undo_34 : DD cX11_undo 34 (.getfield 51) 3 37 := ⟨by decide +kernel, rfl⟩
theorem eX11_undo_37 : DD cX11_undo 37 (.sipush 1253) 3 40 := ⟨by decide +kernel, rfl⟩
theorem eX11_undo_40 : DD cX11_undo 40 (.aload_n 0) 1 41 := ⟨by decide +kernel, rfl⟩
theorem eX11_undo_41 : DD cX11_undo 41 (.getfield 212) 3 44 := ⟨by decide +kernel, rfl⟩
theorem eX11_undo_44 : DD cX11_undo 44 (.imul) 1 45 := ⟨by decide +kernel, rfl⟩
theorem eX11_undo_45 : DD cX11_undo 45 (.iload_n 1) 1 46 := ⟨by decide +kernel, rfl⟩
theorem eX11_undo_46 : DD cX11_undo 46 (.iadd) 1 47 := ⟨by decide +kernel, rfl⟩
theorem eX11_undo_47 : DD cX11_undo 47 (.iaload) 1 48 := ⟨by decide +kernel, rfl⟩
theorem eX11_undo_48 : DD cX11_undo 48 (.iastore) 1 49 := ⟨by decide +kernel, rfl⟩
theorem eX11_undo_49 : DD cX11_undo 49 (.iinc 1 1) 3 52 := ⟨by decide +kernel, rfl⟩
theorem eX11_undo_52 : DB cX11_undo 52 (.goto (-31)) (-31) 55 21 := ⟨by decide +kernel, rfl, by decide⟩
theorem eX11_undo_55 : DD cX11_undo 55 (.aload_n 0) 1 56 := ⟨by decide +kernel, rfl⟩
theorem eX11_undo_56 : DD cX11_undo 56 (.getfield 212) 3 59 := ⟨by decide +kernel, rfl⟩
theorem eX11_undo_59 : DD cX11_undo 59 (.ireturn) 1 60 := ⟨by decide +kernel, rfl⟩
def L_X11_undo_21 : Nat → Int32 → Mem → Option (Int32 × Mem)
  | 0, _, _ => none
  | n + 1, x1, μ => if (1253 : Int32) ≤ x1 then some (rI μ 107 23, μ) else gq (inB (((1253 : Int32) * (rI μ 107 23)) + x1) 50120) (gq (inB x1 1253) (lb (wI μ 116 (nx x1) (rI μ 121 (nx (((1253 : Int32) * (rI μ 107 23)) + x1)))) (fun μ_1 => lb (x1 + (1 : Int32)) (fun x1_2 => L_X11_undo_21  n x1_2 μ_1))))
set_option maxHeartbeats 4000000 in
theorem j_X11_undo_21 {C : Cx} (hC : Ok C cX11_undo 2 RX11 (rmF 0 0)) (hr : (cT C).sig.returnType = (some .int)) : ∀ (n : Nat) (x1 : Int32) (μ : Mem), J C (KI C) μ 21 [(0, .ref (xad (cX C) 107)), (1, .int x1)] [] (L_X11_undo_21  n x1 μ) := by
  intro n
  induction n with
  | zero => intros; exact J.no
  | succ n ih =>
    intro x1 μ
    rw [L_X11_undo_21]
    refine J.iload_n (j := 1) hC eX11_undo_21 rfl ?_
    refine J.sipush hC eX11_undo_22 cs_1253 ?_
    refine J.icmp_ge hC eX11_undo_25 (fun _ => ?_) (fun _ => ?_)
    · refine J.aload_n (j := 0) hC eX11_undo_55 rfl ?_
      refine gf_X11_212 hC eX11_undo_56 kk_107 ?_
      exact J.iret hC hr eX11_undo_59
    · refine J.aload_n (j := 0) hC eX11_undo_28 rfl ?_
      refine gf_X11_34 (q := 116) hC eX11_undo_29 kk_107 rfl ?_
      refine J.iload_n (j := 1) hC eX11_undo_32 rfl ?_
      refine J.aload_n (j := 0) hC eX11_undo_33 rfl ?_
      refine gf_X11_51 (q := 121) hC eX11_undo_34 kk_107 rfl ?_
      refine J.sipush hC eX11_undo_37 cs_1253 ?_
      refine J.aload_n (j := 0) hC eX11_undo_40 rfl ?_
      refine gf_X11_212 hC eX11_undo_41 kk_107 ?_
      refine J.imul hC eX11_undo_44 ?_
      refine J.iload_n (j := 1) hC eX11_undo_45 rfl ?_
      refine J.iadd hC eX11_undo_46 ?_
      refine J.iald ik_50120 hC eX11_undo_47 kk_121 ?_
      refine J.iast ik_1253 hC eX11_undo_48 kk_116 (fun μ_1 => ?_)
      refine J.iinc (j := 1) (fun x1_2 => [(1, .int x1_2), (0, .ref (xad (cX C) 107))]) hC eX11_undo_49 rfl ci_1 (by decide) (fun _ => rfl) (fun x1_2 => ?_)
      refine J.goto hC eX11_undo_52 ?_
      refine J.sub [1, 0] rfl ?_
      exact ih x1_2 μ_1
def G_X11_undo  (μ : Mem) : Option (Int32 × Mem) :=
  if (rI μ 107 23) = 0 then some ((-1 : Int32), μ) else lb (wI μ 107 23 ((rI μ 107 23) - (1 : Int32))) (fun μ_1 => L_X11_undo_21  100000 (0 : Int32) μ_1)
set_option maxHeartbeats 4000000 in
theorem c_X11_undo {X : Wd} (hX : WdOk X)  (μ : Mem) : CtI X yX11_undo cX11_undo 2 (some .int) (rmF 0 0) [.ref (xad X 107)] μ (G_X11_undo  μ) := by
  refine CtI.of hX (plainFor_of_name (by decide)) (by exact Nat.le_of_ble_eq_true rfl) ?_
  intro C hCX hC hr
  subst hCX
  show J C (KI C) μ 0 [(0, .ref (xad (cX C) 107))] [] _
  unfold G_X11_undo
  refine J.aload_n (j := 0) hC eX11_undo_0 rfl ?_
  refine gf_X11_212 hC eX11_undo_1 kk_107 ?_
  refine J.if_ne hC eX11_undo_4 (fun _ => ?_) (fun _ => ?_)
  · refine J.iconst hC eX11_undo_7 ci_m1 ?_
    exact J.iret hC hr eX11_undo_8
  · refine J.aload_n (j := 0) hC eX11_undo_9 rfl ?_
    refine J.dup hC eX11_undo_10 rfl ?_
    refine gf_X11_212 hC eX11_undo_11 kk_107 ?_
    refine J.iconst hC eX11_undo_14 ci_1 ?_
    refine J.isub hC eX11_undo_15 ?_
    refine pf_X11_212 hC eX11_undo_16 kk_107 (fun μ_1 => ?_)
    refine J.iconst hC eX11_undo_19 ci_0 ?_
    refine J.istore_n [(1, .int (0 : Int32)), (0, .ref (xad (cX C) 107))] hC eX11_undo_20 (by decide) rfl ?_
    refine J.sub [1, 0] rfl ?_
    exact j_X11_undo_21 hC hr  100000 (0 : Int32) μ_1
-- X11_log
theorem eX11_log_0 : DD cX11_log 0 (.iload_n 1) 1 1 := ⟨by decide +kernel, rfl⟩
theorem eX11_log_1 : DD cX11_log 1 (.i2l) 1 2 := ⟨by decide +kernel, rfl⟩
theorem eX11_log_2 : DD cX11_log 2 (.lconst 0) 1 3 := ⟨by decide +kernel, rfl⟩
theorem eX11_log_3 : DD cX11_log 3 (.aload_n 0) 1 4 := ⟨by decide +kernel, rfl⟩
theorem eX11_log_4 : DD cX11_log 4 (.getfield 34) 3 7 := ⟨by decide +kernel, rfl⟩
theorem eX11_log_7 : DD cX11_log 7 (.sipush 1072) 3 10 := ⟨by decide +kernel, rfl⟩
theorem eX11_log_10 : DD cX11_log 10 (.iaload) 1 11 := ⟨by decide +kernel, rfl⟩
theorem eX11_log_11 : DD cX11_log 11 (.iconst 1) 1 12 := ⟨by decide +kernel, rfl⟩
theorem eX11_log_12 : DD cX11_log 12 (.isub) 1 13 := ⟨by decide +kernel, rfl⟩
theorem eX11_log_13 : DD cX11_log 13 (.i2l) 1 14 := ⟨by decide +kernel, rfl⟩
theorem eX11_log_14 : DD cX11_log 14 (.invokestatic 77) 3 17 := ⟨by decide +kernel, rfl⟩
theorem eX11_log_17 : DB cX11_log 17 (.ifCond .eq 43) (43) 20 60 := ⟨by decide +kernel, rfl, by decide⟩
theorem eX11_log_20 : DD cX11_log 20 (.iload_n 2) 1 21 := ⟨by decide +kernel, rfl⟩
theorem eX11_log_21 : DD cX11_log 21 (.i2l) 1 22 := ⟨by decide +kernel, rfl⟩
theorem eX11_log_22 : DD cX11_log 22 (.lconst 0) 1 23 := ⟨by decide +kernel, rfl⟩
theorem eX11_log_23 : DD cX11_log 23 (.ldc2_w 228) 3 26 := ⟨by decide +kernel, rfl⟩
theorem eX11_log_26 : DD cX11_log 26 (.invokestatic 77) 3 29 := ⟨by decide +kernel, rfl⟩
theorem eX11_log_29 : DB cX11_log 29 (.ifCond .eq 31) (31) 32 60 := ⟨by decide +kernel, rfl, by decide⟩
theorem eX11_log_32 : DD cX11_log 32 (.aload_n 0) 1 33 := ⟨by decide +kernel, rfl⟩
theorem eX11_log_33 : DD cX11_log 33 (.getfield 34) 3 36 := ⟨by decide +kernel, rfl⟩
theorem eX11_log_36 : DD cX11_log 36 (.sipush 1073) 3 39 := ⟨by decide +kernel, rfl⟩
theorem eX11_log_39 : DD cX11_log 39 (.iconst 3) 1 40 := ⟨by decide +kernel, rfl⟩
theorem eX11_log_40 : DD cX11_log 40 (.aload_n 0) 1 41 := ⟨by decide +kernel, rfl⟩
theorem eX11_log_41 : DD cX11_log 41 (.getfield 34) 3 44 := ⟨by decide +kernel, rfl⟩
theorem eX11_log_44 : DD cX11_log 44 (.sipush 1072) 3 47 := ⟨by decide +kernel, rfl⟩
theorem eX11_log_47 : DD cX11_log 47 (.iaload) 1 48 := ⟨by decide +kernel, rfl⟩
theorem eX11_log_48 : DD cX11_log 48 (.iconst 1) 1 49 := ⟨by decide +kernel, rfl⟩
theorem eX11_log_49 : DD cX11_log 49 (.isub) 1 50 := ⟨by decide +kernel, rfl⟩
theorem eX11_log_50 : DD cX11_log 50 (.iload_n 1) 1 51 := ⟨by decide +kernel, rfl⟩
theorem eX11_log_51 : DD cX11_log 51 (.isub) 1 52 := ⟨by decide +kernel, rfl⟩
theorem eX11_log_52 : DD cX11_log 52 (.imul) 1 53 := ⟨by decide +kernel, rfl⟩
theorem eX11_log_53 : DD cX11_log 53 (.iadd) 1 54 := ⟨by decide +kernel, rfl⟩
theorem eX11_log_54 : DD cX11_log 54 (.iload_n 2) 1 55 := ⟨by decide +kernel, rfl⟩
theorem eX11_log_55 : DD cX11_log 55 (.iadd) 1 56 := ⟨by decide +kernel, rfl⟩
theorem eX11_log_56 : DD cX11_log 56 (.iaload) 1 57 := ⟨by decide +kernel, rfl⟩
theorem eX11_log_57 : DB cX11_log 57 (.goto 5) (5) 60 62 := ⟨by decide +kernel, rfl, by decide⟩
theorem eX11_log_60 : DD cX11_log 60 (.ldc 245) 2 62 := ⟨by decide +kernel, rfl⟩
theorem eX11_log_62 : DD cX11_log 62 (.ireturn) 1 63 := ⟨by decide +kernel, rfl⟩
def G_X11_log (x1 : Int32) (x2 : Int32) (μ : Mem) : Option (Int32 × Mem) :=
  bd (G_X11_in x1.toInt64 (0 : Int64) (((rI μ 116 1072) - (1 : Int32)).toInt64) μ) (fun r_2 μ_1 => if r_2 = 0 then some ((-1000000 : Int32), μ_1) else bd (G_X11_in x2.toInt64 (0 : Int64) (2 : Int64) μ_1) (fun r_4 μ_3 => if r_4 = 0 then some ((-1000000 : Int32), μ_3) else gq (inB (((1073 : Int32) + ((3 : Int32) * (((rI μ_3 116 1072) - (1 : Int32)) - x1))) + x2) 1253) (some (rI μ_3 116 (nx (((1073 : Int32) + ((3 : Int32) * (((rI μ_3 116 1072) - (1 : Int32)) - x1))) + x2)), μ_3))))
set_option maxHeartbeats 4000000 in
theorem c_X11_log {X : Wd} (hX : WdOk X) (x1 : Int32) (x2 : Int32) (μ : Mem) : CtI X yX11_log cX11_log 3 (some .int) (rmF 1 25) [.ref (xad X 107), .int x1, .int x2] μ (G_X11_log x1 x2 μ) := by
  refine CtI.of hX (plainFor_of_name (by decide)) (by exact Nat.le_of_ble_eq_true rfl) ?_
  intro C hCX hC hr
  subst hCX
  show J C (KI C) μ 0 [(0, .ref (xad (cX C) 107)), (1, .int x1), (2, .int x2)] [] _
  unfold G_X11_log
  refine J.iload_n (j := 1) hC eX11_log_0 rfl ?_
  refine J.i2l hC eX11_log_1 ?_
  refine J.lconst hC eX11_log_2 cl_0 ?_
  refine J.aload_n (j := 0) hC eX11_log_3 rfl ?_
  refine gf_X11_34 (q := 116) hC eX11_log_4 kk_107 rfl ?_
  refine J.sipush hC eX11_log_7 cs_1072 ?_
  refine J.ialdK (j := 1072) ik_1253 hC eX11_log_10 kk_116 (by decide) (by decide) ?_
  refine J.iconst hC eX11_log_11 ci_1 ?_
  refine J.isub hC eX11_log_12 ?_
  refine J.i2l hC eX11_log_13 ?_
  refine J.callSI (st := []) hC eX11_log_14 ml_X11_77 mv_X11_in (Rle_of (Nat.le_of_ble_eq_true rfl) (Nat.le_of_ble_eq_true rfl)) (c_X11_in hC.X x1.toInt64 (0 : Int64) (((rI μ 116 1072) - (1 : Int32)).toInt64) μ) rfl rfl (Nat.le_of_ble_eq_true rfl) (fun r_2 μ_1 => ?_)
  refine J.if_eq hC eX11_log_17 (fun _ => ?_) (fun _ => ?_)
  · refine J.ldc hC eX11_log_60 mk_X11_245 ?_
    exact J.iret hC hr eX11_log_62
  · refine J.iload_n (j := 2) hC eX11_log_20 rfl ?_
    refine J.i2l hC eX11_log_21 ?_
    refine J.lconst hC eX11_log_22 cl_0 ?_
    refine J.ldc2 hC eX11_log_23 mk_X11_228 ?_
    refine J.callSI (st := []) hC eX11_log_26 ml_X11_77 mv_X11_in (Rle_of (Nat.le_of_ble_eq_true rfl) (Nat.le_of_ble_eq_true rfl)) (c_X11_in hC.X x2.toInt64 (0 : Int64) (2 : Int64) μ_1) rfl rfl (Nat.le_of_ble_eq_true rfl) (fun r_4 μ_3 => ?_)
    refine J.if_eq hC eX11_log_29 (fun _ => ?_) (fun _ => ?_)
    · refine J.ldc hC eX11_log_60 mk_X11_245 ?_
      exact J.iret hC hr eX11_log_62
    · refine J.aload_n (j := 0) hC eX11_log_32 rfl ?_
      refine gf_X11_34 (q := 116) hC eX11_log_33 kk_107 rfl ?_
      refine J.sipush hC eX11_log_36 cs_1073 ?_
      refine J.iconst hC eX11_log_39 ci_3 ?_
      refine J.aload_n (j := 0) hC eX11_log_40 rfl ?_
      refine gf_X11_34 (q := 116) hC eX11_log_41 kk_107 rfl ?_
      refine J.sipush hC eX11_log_44 cs_1072 ?_
      refine J.ialdK (j := 1072) ik_1253 hC eX11_log_47 kk_116 (by decide) (by decide) ?_
      refine J.iconst hC eX11_log_48 ci_1 ?_
      refine J.isub hC eX11_log_49 ?_
      refine J.iload_n (j := 1) hC eX11_log_50 rfl ?_
      refine J.isub hC eX11_log_51 ?_
      refine J.imul hC eX11_log_52 ?_
      refine J.iadd hC eX11_log_53 ?_
      refine J.iload_n (j := 2) hC eX11_log_54 rfl ?_
      refine J.iadd hC eX11_log_55 ?_
      refine J.iald ik_1253 hC eX11_log_56 kk_116 ?_
      refine J.goto hC eX11_log_57 ?_
      exact J.iret hC hr eX11_log_62
-- X11_begin
theorem eX11_begin_0 : DD cX11_begin 0 (.aload_n 0) 1 1 := ⟨by decide +kernel, rfl⟩
theorem eX11_begin_1 : DD cX11_begin 1 (.iconst 0) 1 2 := ⟨by decide +kernel, rfl⟩
theorem eX11_begin_2 : DD cX11_begin 2 (.putfield 323) 3 5 := ⟨by decide +kernel, rfl⟩
theorem eX11_begin_5 : DD cX11_begin 5 (.aload_n 0) 1 6 := ⟨by decide +kernel, rfl⟩
theorem eX11_begin_6 : DD cX11_begin 6 (.aload_n 0) 1 7 := ⟨by decide +kernel, rfl⟩
theorem eX11_begin_7 : DD cX11_begin 7 (.getfield 34) 3 10 := ⟨by decide +kernel, rfl⟩
theorem eX11_begin_10 : DD cX11_begin 10 (.sipush 1071) 3 13 := ⟨by decide +kernel, rfl⟩
theorem eX11_begin_13 : DD cX11_begin 13 (.iaload) 1 14 := ⟨by decide +kernel, rfl⟩
theorem eX11_begin_14 : DD cX11_begin 14 (.putfield 326) 3 17 := ⟨by decide +kernel, rfl⟩
theorem eX11_begin_17 : DD cX11_begin 17 (.aload_n 0) 1 18 := ⟨by decide +kernel, rfl⟩
theorem eX11_begin_18 : DD cX11_begin 18 (.iconst 0) 1 19 := ⟨by decide +kernel, rfl⟩
theorem eX11_begin_19 : DD cX11_begin 19 (.putfield 329) 3 22 := ⟨by decide +kernel, rfl⟩
theorem eX11_begin_22 : DD cX11_begin 22 (.return_) 1 23 := ⟨by decide +kernel, rfl⟩
def G_X11_begin  (μ : Mem) : Option (Unit × Mem) :=
  lb (wI μ 107 26 (0 : Int32)) (fun μ_1 => lb (wI μ_1 107 27 (rI μ_1 116 1071)) (fun μ_2 => lb (wI μ_2 107 28 (0 : Int32)) (fun μ_3 => some ((), μ_3))))
set_option maxHeartbeats 4000000 in
theorem c_X11_begin {X : Wd} (hX : WdOk X)  (μ : Mem) : CtV X yX11_begin cX11_begin 1 none (rmF 0 0) [.ref (xad X 107)] μ (G_X11_begin  μ) := by
  refine CtV.of hX (plainFor_of_name (by decide)) (by exact Nat.le_of_ble_eq_true rfl) ?_
  intro C hCX hC hr
  subst hCX
  show J C (KV C) μ 0 [(0, .ref (xad (cX C) 107))] [] _
  unfold G_X11_begin
  refine J.aload_n (j := 0) hC eX11_begin_0 rfl ?_
  refine J.iconst hC eX11_begin_1 ci_0 ?_
  refine pf_X11_323 hC eX11_begin_2 kk_107 (fun μ_1 => ?_)
  refine J.aload_n (j := 0) hC eX11_begin_5 rfl ?_
  refine J.aload_n (j := 0) hC eX11_begin_6 rfl ?_
  refine gf_X11_34 (q := 116) hC eX11_begin_7 kk_107 rfl ?_
  refine J.sipush hC eX11_begin_10 cs_1071 ?_
  refine J.ialdK (j := 1071) ik_1253 hC eX11_begin_13 kk_116 (by decide) (by decide) ?_
  refine pf_X11_326 hC eX11_begin_14 kk_107 (fun μ_2 => ?_)
  refine J.aload_n (j := 0) hC eX11_begin_17 rfl ?_
  refine J.iconst hC eX11_begin_18 ci_0 ?_
  refine pf_X11_329 hC eX11_begin_19 kk_107 rfl (fun μ_3 => ?_)
  exact J.vret hC hr eX11_begin_22
-- X11_take
theorem eX11_take_0 : DD cX11_take 0 (.aload_n 0) 1 1 := ⟨by decide +kernel, rfl⟩
theorem eX11_take_1 : DD cX11_take 1 (.getfield 54) 3 4 := ⟨by decide +kernel, rfl⟩
theorem eX11_take_4 : DD cX11_take 4 (.aload_n 0) 1 5 := ⟨by decide +kernel, rfl⟩
theorem eX11_take_5 : DD cX11_take 5 (.getfield 323) 3 8 := ⟨by decide +kernel, rfl⟩
theorem eX11_take_8 : DD cX11_take 8 (.iload_n 1) 1 9 := ⟨by decide +kernel, rfl⟩
theorem eX11_take_9 : DD cX11_take 9 (.iastore) 1 10 := ⟨by decide +kernel, rfl⟩
theorem eX11_take_10 : DD cX11_take 10 (.aload_n 0) 1 11 := ⟨by decide +kernel, rfl⟩
theorem eX11_take_11 : DD cX11_take 11 (.dup) 1 12 := ⟨by decide +kernel, rfl⟩
theorem eX11_take_12 : DD cX11_take 12 (.getfield 323) 3 15 := ⟨by decide +kernel, rfl⟩
theorem eX11_take_15 : DD cX11_take 15 (.iconst 1) 1 16 := ⟨by decide +kernel, rfl⟩
theorem eX11_take_16 : DD cX11_take 16 (.iadd) 1 17 := ⟨by decide +kernel, rfl⟩
theorem eX11_take_17 : DD cX11_take 17 (.putfield 323) 3 20 := ⟨by decide +kernel, rfl⟩
theorem eX11_take_20 : DD cX11_take 20 (.return_) 1 21 := ⟨by decide +kernel, rfl⟩
def G_X11_take (x1 : Int32) (μ : Mem) : Option (Unit × Mem) :=
  gq (inB (rI μ 107 26) 6) (lb (wI μ 122 (nx (rI μ 107 26)) x1) (fun μ_1 => lb (wI μ_1 107 26 ((rI μ_1 107 26) + (1 : Int32))) (fun μ_2 => some ((), μ_2))))
set_option maxHeartbeats 4000000 in
theorem c_X11_take {X : Wd} (hX : WdOk X) (x1 : Int32) (μ : Mem) : CtV X yX11_take cX11_take 2 none (rmF 0 0) [.ref (xad X 107), .int x1] μ (G_X11_take x1 μ) := by
  refine CtV.of hX (plainFor_of_name (by decide)) (by exact Nat.le_of_ble_eq_true rfl) ?_
  intro C hCX hC hr
  subst hCX
  show J C (KV C) μ 0 [(0, .ref (xad (cX C) 107)), (1, .int x1)] [] _
  unfold G_X11_take
  refine J.aload_n (j := 0) hC eX11_take_0 rfl ?_
  refine gf_X11_54 (q := 122) hC eX11_take_1 kk_107 rfl ?_
  refine J.aload_n (j := 0) hC eX11_take_4 rfl ?_
  refine gf_X11_323 hC eX11_take_5 kk_107 ?_
  refine J.iload_n (j := 1) hC eX11_take_8 rfl ?_
  refine J.iast ik_6 hC eX11_take_9 kk_122 (fun μ_1 => ?_)
  refine J.aload_n (j := 0) hC eX11_take_10 rfl ?_
  refine J.dup hC eX11_take_11 rfl ?_
  refine gf_X11_323 hC eX11_take_12 kk_107 ?_
  refine J.iconst hC eX11_take_15 ci_1 ?_
  refine J.iadd hC eX11_take_16 ?_
  refine pf_X11_323 hC eX11_take_17 kk_107 (fun μ_2 => ?_)
  exact J.vret hC hr eX11_take_20
-- X11_isOver
theorem eX11_isOver_0 : DD cX11_isOver 0 (.aload_n 0) 1 1 := ⟨by decide +kernel, rfl⟩
theorem eX11_isOver_1 : DD cX11_isOver 1 (.aload_n 0) 1 2 := ⟨by decide +kernel, rfl⟩
theorem eX11_isOver_2 : DD cX11_isOver 2 (.getfield 326) 3 5 := ⟨by decide +kernel, rfl⟩
theorem eX11_isOver_5 : DB cX11_isOver 5 (.ifCond .ne 7) (7) 8 12 := ⟨by decide +kernel, rfl, by decide⟩
theorem eX11_isOver_8 : DD cX11_isOver 8 (.iconst 1) 1 9 := ⟨by decide +kernel, rfl⟩
theorem eX11_isOver_9 : DB cX11_isOver 9 (.goto 4) (4) 12 13 := ⟨by decide +kernel, rfl, by decide⟩
theorem eX11_isOver_12 : DD cX11_isOver 12 (.iconst 0) 1 13 := ⟨by decide +kernel, rfl⟩
theorem eX11_isOver_13 : DD cX11_isOver 13 (.putfield 329) 3 16 := ⟨by decide +kernel, rfl⟩
theorem eX11_isOver_16 : DD cX11_isOver 16 (.aload_n 0) 1 17 := ⟨by decide +kernel, rfl⟩
theorem eX11_isOver_17 : DD cX11_isOver 17 (.dup) 1 18 := ⟨by decide +kernel, rfl⟩
theorem eX11_isOver_18 : DD cX11_isOver 18 (.getfield 326) 3 21 := ⟨by decide +kernel, rfl⟩
theorem eX11_isOver_21 : DD cX11_isOver 21 (.iconst 1) 1 22 := ⟨by decide +kernel, rfl⟩
theorem eX11_isOver_22 : DD cX11_isOver 22 (.isub) 1 23 := ⟨by decide +kernel, rfl⟩
theorem eX11_isOver_23 : DD cX11_isOver 23 (.putfield 326) 3 26 := ⟨by decide +kernel, rfl⟩
theorem eX11_isOver_26 : DD cX11_isOver 26 (.aload_n 0) 1 27 := ⟨by decide +kernel, rfl⟩
theorem eX11_isOver_27 : DD cX11_isOver 27 (.getfield 329) 3 30 := ⟨by decide +kernel, rfl⟩
theorem eX11_isOver_30 : DD cX11_isOver 30 (.ireturn) 1 31 := ⟨by decide +kernel, rfl⟩
def F_X11_isOver_13 (xs1 : Int32) (μ : Mem) : Option (Int32 × Mem) :=
  gq (bB xs1) (lb (wI μ 107 28 xs1) (fun μ_1 => lb (wI μ_1 107 27 ((rI μ_1 107 27) - (1 : Int32))) (fun μ_3 => gq (bB (rI μ_3 107 28)) (some (rI μ_3 107 28, μ_3)))))
set_option maxHeartbeats 4000000 in
theorem j_X11_isOver_13 {C : Cx} (hC : Ok C cX11_isOver 1 RX11 (rmF 0 0)) (hr : (cT C).sig.returnType = (some .boolean)) (xs1 : Int32) (μ : Mem) : J C (KI C) μ 13 [(0, .ref (xad (cX C) 107))] [.int xs1, .ref (xad (cX C) 107)] (F_X11_isOver_13  xs1 μ) := by
  unfold F_X11_isOver_13
  refine J.gd (fun hb_2 => ?_)
  refine pf_X11_329 hC eX11_isOver_13 kk_107 hb_2 (fun μ_1 => ?_)
  refine J.aload_n (j := 0) hC eX11_isOver_16 rfl ?_
  refine J.dup hC eX11_isOver_17 rfl ?_
  refine gf_X11_326 hC eX11_isOver_18 kk_107 ?_
  refine J.iconst hC eX11_isOver_21 ci_1 ?_
  refine J.isub hC eX11_isOver_22 ?_
  refine pf_X11_326 hC eX11_isOver_23 kk_107 (fun μ_3 => ?_)
  refine J.aload_n (j := 0) hC eX11_isOver_26 rfl ?_
  refine gf_X11_329 hC eX11_isOver_27 kk_107 ?_
  exact J.zret hC hr eX11_isOver_30
def G_X11_isOver  (μ : Mem) : Option (Int32 × Mem) :=
  if (rI μ 107 27) = 0 then F_X11_isOver_13  (1 : Int32) μ else F_X11_isOver_13  (0 : Int32) μ
set_option maxHeartbeats 4000000 in
theorem c_X11_isOver {X : Wd} (hX : WdOk X)  (μ : Mem) : CtI X yX11_isOver cX11_isOver 1 (some .boolean) (rmF 0 0) [.ref (xad X 107)] μ (G_X11_isOver  μ) := by
  refine CtI.of hX (plainFor_of_name (by decide)) (by exact Nat.le_of_ble_eq_true rfl) ?_
  intro C hCX hC hr
  subst hCX
  show J C (KI C) μ 0 [(0, .ref (xad (cX C) 107))] [] _
  unfold G_X11_isOver
  refine J.aload_n (j := 0) hC eX11_isOver_0 rfl ?_
  refine J.aload_n (j := 0) hC eX11_isOver_1 rfl ?_
  refine gf_X11_326 hC eX11_isOver_2 kk_107 ?_
  refine J.if_ne hC eX11_isOver_5 (fun _ => ?_) (fun _ => ?_)
  · refine J.iconst hC eX11_isOver_8 ci_1 ?_
    refine J.goto hC eX11_isOver_9 ?_
    refine J.sub [0] rfl ?_
    exact j_X11_isOver_13 hC hr  (1 : Int32) μ
  · refine J.iconst hC eX11_isOver_12 ci_0 ?_
    refine J.sub [0] rfl ?_
    exact j_X11_isOver_13 hC hr  (0 : Int32) μ
-- X11_finish
theorem eX11_finish_0 : DD cX11_finish 0 (.aload_n 0) 1 1 := ⟨by decide +kernel, rfl⟩
theorem eX11_finish_1 : DD cX11_finish 1 (.getfield 323) 3 4 := ⟨by decide +kernel, rfl⟩
theorem eX11_finish_4 : DD cX11_finish 4 (.istore_n 3) 1 5 := ⟨by decide +kernel, rfl⟩
theorem eX11_finish_5 : DD cX11_finish 5 (.iload_n 3) 1 6 := ⟨by decide +kernel, rfl⟩
theorem eX11_finish_6 : DD cX11_finish 6 (.iconst 1) 1 7 := ⟨by decide +kernel, rfl⟩
theorem eX11_finish_7 : DD cX11_finish 7 (.isub) 1 8 := ⟨by decide +kernel, rfl⟩
theorem eX11_finish_8 : DD cX11_finish 8 (.istore 4) 2 10 := ⟨by decide +kernel, rfl⟩
theorem eX11_finish_10 : DD cX11_finish 10 (.iload 4) 2 12 := ⟨by decide +kernel, rfl⟩
theorem eX11_finish_12 : DB cX11_finish 12 (.ifCond .lt 23) (23) 15 35 := ⟨by decide +kernel, rfl, by decide⟩
theorem eX11_finish_15 : DD cX11_finish 15 (.aload_n 0) 1 16 := ⟨by decide +kernel, rfl⟩
theorem eX11_finish_16 : DD cX11_finish 16 (.bipush 10) 2 18 := ⟨by decide +kernel, rfl⟩
theorem eX11_finish_18 : DD cX11_finish 18 (.aload_n 0) 1 19 := ⟨by decide +kernel, rfl⟩
theorem eX11_finish_19 : DD cX11_finish 19 (.getfield 54) 3 22 := ⟨by decide +kernel, rfl⟩
theorem eX11_finish_22 : DD cX11_finish 22 (.iload 4) 2 24 := ⟨by decide +kernel, rfl⟩
theorem eX11_finish_24 : DD cX11_finish 24 (.iaload) 1 25 := ⟨by decide +kernel, rfl⟩
theorem eX11_finish_25 : DD cX11_finish 25 (.iadd) 1 26 := ⟨by decide +kernel, rfl⟩
theorem eX11_finish_26 : DD cX11_finish 26 (.invokevirtual 332) 3 29 := ⟨by decide +kernel, rfl⟩
theorem eX11_finish_29 : DD cX11_finish 29 (.iinc 4 (-1)) 3 32 := ⟨by decide +kernel, rfl⟩
theorem eX11_finish_32 : DB cX11_finish 32 (.goto (-22)) (-22) 35 10 := ⟨by decide +kernel, rfl, by decide⟩
theorem eX11_finish_35 : DD cX11_finish 35 (.aload_n 0) 1 36 := ⟨by decide +kernel, rfl⟩
theorem eX11_finish_36 : DD cX11_finish 36 (.getfield 329) 3 39 := ⟨by decide +kernel, rfl⟩
theorem eX11_finish_39 : DB cX11_finish 39 (.ifCond .eq 13) (13) 42 52 := ⟨by decide +kernel, rfl, by decide⟩
theorem eX11_finish_42 : DD cX11_finish 42 (.aload_n 0) 1 43 := ⟨by decide +kernel, rfl⟩
theorem eX11_finish_43 : DD cX11_finish 43 (.getfield 37) 3 46 := ⟨by decide +kernel, rfl⟩
theorem eX11_finish_46 : DD cX11_finish 46 (.iconst 4) 1 47 := ⟨by decide +kernel, rfl⟩
theorem eX11_finish_47 : DD cX11_finish 47 (.dup2) 1 48 := ⟨by decide +kernel, rfl⟩
theorem eX11_finish_48 : DD cX11_finish 48 (.iaload) 1 49 := ⟨by decide +kernel, rfl⟩
theorem eX11_finish_49 : DD cX11_finish 49 (.iconst 1) 1 50 := ⟨by decide +kernel, rfl⟩
theorem eX11_finish_50 : DD cX11_finish 50 (.iadd) 1 51 := ⟨by decide +kernel, rfl⟩
theorem eX11_finish_51 : DD cX11_finish 51 (.iastore) 1 52 := ⟨by decide +kernel, rfl⟩
theorem eX11_finish_52 : DD cX11_finish 52 (.aload_n 0) 1 53 := ⟨by decide +kernel, rfl⟩
theorem eX11_finish_53 : DD cX11_finish 53 (.getfield 329) 3 56 := ⟨by decide +kernel, rfl⟩
theorem eX11_finish_56 : DB cX11_finish 56 (.ifCond .eq 9) (9) 59 65 := ⟨by decide +kernel, rfl, by decide⟩
theorem eX11_finish_59 : DD cX11_finish 59 (.ldc2_w 156) 3 62 := ⟨by decide +kernel, rfl⟩
theorem eX11_finish_62 : DB cX11_finish 62 (.goto 4) (4) 65 66 := ⟨by decide +kernel, rfl, by decide⟩
theorem eX11_finish_65 : DD cX11_finish 65 (.lload_n 1) 1 66 := ⟨by decide +kernel, rfl⟩
theorem eX11_finish_66 : DD cX11_finish 66 (.lreturn) 1 67 := ⟨by decide +kernel, rfl⟩
def F_X11_finish_52 (l1 : Int64) (μ : Mem) : Option (Int64 × Mem) :=
  if (rI μ 107 28) = 0 then some (l1, μ) else some ((-1 : Int64), μ)
set_option maxHeartbeats 4000000 in
theorem j_X11_finish_52 {C : Cx} (hC : Ok C cX11_finish 5 RX11 (rmF 1 21)) (hr : (cT C).sig.returnType = (some .long)) (l1 : Int64) (μ : Mem) : J C (KL C) μ 52 [(0, .ref (xad (cX C) 107)), (1, .long l1)] [] (F_X11_finish_52  l1 μ) := by
  unfold F_X11_finish_52
  refine J.aload_n (j := 0) hC eX11_finish_52 rfl ?_
  refine gf_X11_329 hC eX11_finish_53 kk_107 ?_
  refine J.if_eq hC eX11_finish_56 (fun _ => ?_) (fun _ => ?_)
  · refine J.lload_n (j := 1) hC eX11_finish_65 rfl ?_
    exact J.lret hC hr eX11_finish_66
  · refine J.ldc2 hC eX11_finish_59 mk_X11_156 ?_
    refine J.goto hC eX11_finish_62 ?_
    exact J.lret hC hr eX11_finish_66
def L_X11_finish_10 : Nat → Int64 → Int32 → Mem → Option (Int64 × Mem)
  | 0, _, _, _ => none
  | n + 1, l1, x4, μ => if x4 < 0 then if (rI μ 107 28) = 0 then F_X11_finish_52  l1 μ else lb (wI μ 117 4 ((rI μ 117 4) + (1 : Int32))) (fun μ_1 => F_X11_finish_52  l1 μ_1) else gq (inB x4 6) (bd (G_X11_take ((10 : Int32) + (rI μ 122 (nx x4))) μ) (fun r_3 μ_2 => lb (x4 + (-1 : Int32)) (fun x4_4 => L_X11_finish_10  n l1 x4_4 μ_2)))
set_option maxHeartbeats 4000000 in
theorem j_X11_finish_10 {C : Cx} (hC : Ok C cX11_finish 5 RX11 (rmF 1 21)) (hr : (cT C).sig.returnType = (some .long)) : ∀ (n : Nat) (l1 : Int64) (x4 : Int32) (μ : Mem), J C (KL C) μ 10 [(0, .ref (xad (cX C) 107)), (1, .long l1), (4, .int x4)] [] (L_X11_finish_10  n l1 x4 μ) := by
  intro n
  induction n with
  | zero => intros; exact J.no
  | succ n ih =>
    intro l1 x4 μ
    rw [L_X11_finish_10]
    refine J.iload (j := 2) hC eX11_finish_10 rfl ?_
    refine J.if_lt hC eX11_finish_12 (fun _ => ?_) (fun _ => ?_)
    · refine J.aload_n (j := 0) hC eX11_finish_35 rfl ?_
      refine gf_X11_329 hC eX11_finish_36 kk_107 ?_
      refine J.if_eq hC eX11_finish_39 (fun _ => ?_) (fun _ => ?_)
      · refine J.sub [0, 1] rfl ?_
        exact j_X11_finish_52 hC hr  l1 μ
      · refine J.aload_n (j := 0) hC eX11_finish_42 rfl ?_
        refine gf_X11_37 (q := 117) hC eX11_finish_43 kk_107 rfl ?_
        refine J.iconst hC eX11_finish_46 ci_4 ?_
        refine J.dup2 hC eX11_finish_47 rfl rfl ?_
        refine J.ialdK (j := 4) ik_5 hC eX11_finish_48 kk_117 (by decide) (by decide) ?_
        refine J.iconst hC eX11_finish_49 ci_1 ?_
        refine J.iadd hC eX11_finish_50 ?_
        refine J.iastK (j := 4) ik_5 hC eX11_finish_51 kk_117 (by decide) (by decide) (fun μ_1 => ?_)
        refine J.sub [0, 1] rfl ?_
        exact j_X11_finish_52 hC hr  l1 μ_1
    · refine J.aload_n (j := 0) hC eX11_finish_15 rfl ?_
      refine J.bipush hC eX11_finish_16 cb_10 ?_
      refine J.aload_n (j := 0) hC eX11_finish_18 rfl ?_
      refine gf_X11_54 (q := 122) hC eX11_finish_19 kk_107 rfl ?_
      refine J.iload (j := 2) hC eX11_finish_22 rfl ?_
      refine J.iald ik_6 hC eX11_finish_24 kk_122 ?_
      refine J.iadd hC eX11_finish_25 ?_
      refine J.callVV (st := []) hC eX11_finish_26 kk_107 (by decide) rfl rfl ml_X11_332 mv_X11_take (Rle_of (Nat.le_of_ble_eq_true rfl) (Nat.le_of_ble_eq_true rfl)) (c_X11_take hC.X ((10 : Int32) + (rI μ 122 (nx x4))) μ) rfl rfl (Nat.le_of_ble_eq_true rfl) (fun r_3 μ_2 => ?_)
      refine J.iinc (j := 2) (fun x4_4 => [(4, .int x4_4), (0, .ref (xad (cX C) 107)), (1, .long l1)]) hC eX11_finish_29 rfl ci_m1 (by decide) (fun _ => rfl) (fun x4_4 => ?_)
      refine J.goto hC eX11_finish_32 ?_
      refine J.sub [1, 2, 0] rfl ?_
      exact ih l1 x4_4 μ_2
def G_X11_finish (l1 : Int64) (μ : Mem) : Option (Int64 × Mem) :=
  lb (rI μ 107 26) (fun x3_1 => lb (x3_1 - (1 : Int32)) (fun x4_2 => L_X11_finish_10  100000 l1 x4_2 μ))
set_option maxHeartbeats 4000000 in
theorem c_X11_finish {X : Wd} (hX : WdOk X) (l1 : Int64) (μ : Mem) : CtL X yX11_finish cX11_finish 5 (some .long) (rmF 1 21) [.ref (xad X 107), .long l1] μ (G_X11_finish l1 μ) := by
  refine CtL.of hX (plainFor_of_name (by decide)) (by exact Nat.le_of_ble_eq_true rfl) ?_
  intro C hCX hC hr
  subst hCX
  show J C (KL C) μ 0 [(0, .ref (xad (cX C) 107)), (1, .long l1)] [] _
  unfold G_X11_finish
  refine J.aload_n (j := 0) hC eX11_finish_0 rfl ?_
  refine gf_X11_323 hC eX11_finish_1 kk_107 ?_
  refine J.topi (fun x3_1 => ?_)
  refine J.istore_n [(3, .int x3_1), (0, .ref (xad (cX C) 107)), (1, .long l1)] hC eX11_finish_4 (by decide) rfl ?_
  refine J.iload_n (j := 0) hC eX11_finish_5 rfl ?_
  refine J.iconst hC eX11_finish_6 ci_1 ?_
  refine J.isub hC eX11_finish_7 ?_
  refine J.topi (fun x4_2 => ?_)
  refine J.istore [(4, .int x4_2), (3, .int x3_1), (0, .ref (xad (cX C) 107)), (1, .long l1)] hC eX11_finish_8 (by decide) rfl ?_
  refine J.sub [2, 3, 0] rfl ?_
  exact j_X11_finish_10 hC hr  100000 l1 x4_2 μ
