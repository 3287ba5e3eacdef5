-- X11_trace
theorem eX11_trace_0 : DD cX11_trace 0 (.iload_n 1) 1 1 := ⟨by decide +kernel, rfl⟩
theorem eX11_trace_1 : DD cX11_trace 1 (.i2l) 1 2 := ⟨by decide +kernel, rfl⟩
theorem eX11_trace_2 : DD cX11_trace 2 (.lconst 0) 1 3 := ⟨by decide +kernel, rfl⟩
theorem eX11_trace_3 : DD cX11_trace 3 (.aload_n 0) 1 4 := ⟨by decide +kernel, rfl⟩
theorem eX11_trace_4 : DD cX11_trace 4 (.getfield 323) 3 7 := ⟨by decide +kernel, rfl⟩
theorem eX11_trace_7 : DD cX11_trace 7 (.iconst 1) 1 8 := ⟨by decide +kernel, rfl⟩
theorem eX11_trace_8 : DD cX11_trace 8 (.isub) 1 9 := ⟨by decide +kernel, rfl⟩
theorem eX11_trace_9 : DD cX11_trace 9 (.i2l) 1 10 := ⟨by decide +kernel, rfl⟩
theorem eX11_trace_10 : DD cX11_trace 10 (.invokestatic 77) 3 13 := ⟨by decide +kernel, rfl⟩
theorem eX11_trace_13 : DB cX11_trace 13 (.ifCond .eq 12) (12) 16 25 := ⟨by decide +kernel, rfl, by decide⟩
theorem eX11_trace_16 : DD cX11_trace 16 (.aload_n 0) 1 17 := ⟨by decide +kernel, rfl⟩
theorem eX11_trace_17 : DD cX11_trace 17 (.getfield 54) 3 20 := ⟨by decide +kernel, rfl⟩
theorem eX11_trace_20 : DD cX11_trace 20 (.iload_n 1) 1 21 := ⟨by decide +kernel, rfl⟩
theorem eX11_trace_21 : DD cX11_trace 21 (.iaload) 1 22 := ⟨by decide +kernel, rfl⟩
theorem eX11_trace_22 : DB cX11_trace 22 (.goto 4) (4) 25 26 := ⟨by decide +kernel, rfl, by decide⟩
theorem eX11_trace_25 : DD cX11_trace 25 (.iconst (-1)) 1 26 := ⟨by decide +kernel, rfl⟩
theorem eX11_trace_26 : DD cX11_trace 26 (.ireturn) 1 27 := ⟨by decide +kernel, rfl⟩
def G_X11_trace (x1 : Int32) (μ : Mem) : Option (Int32 × Mem) :=
  bd (G_X11_in x1.toInt64 (0 : Int64) (((rI μ 107 26) - (1 : Int32)).toInt64) μ) (fun r_2 μ_1 => if r_2 = 0 then some ((-1 : Int32), μ_1) else gq (inB x1 6) (some (rI μ_1 122 (nx x1), μ_1)))
set_option maxHeartbeats 4000000 in
theorem c_X11_trace {X : Wd} (hX : WdOk X) (x1 : Int32) (μ : Mem) : CtI X yX11_trace cX11_trace 2 (some .int) (rmF 1 25) [.ref (xad X 107), .int x1] μ (G_X11_trace x1 μ) := by
  refine CtI.of hX (plainFor_of_name (by decide)) (by exact Nat.le_of_ble_eq_true rfl) ?_
  intro C hCX hC hr
  subst hCX
  show J C (KI C) μ 0 [(0, .ref (xad (cX C) 107)), (1, .int x1)] [] _
  unfold G_X11_trace
  refine J.iload_n (j := 1) hC eX11_trace_0 rfl ?_
  refine J.i2l hC eX11_trace_1 ?_
  refine J.lconst hC eX11_trace_2 cl_0 ?_
  refine J.aload_n (j := 0) hC eX11_trace_3 rfl ?_
  refine gf_X11_323 hC eX11_trace_4 kk_107 ?_
  refine J.iconst hC eX11_trace_7 ci_1 ?_
  refine J.isub hC eX11_trace_8 ?_
  refine J.i2l hC eX11_trace_9 ?_
  refine J.callSI (st := []) hC eX11_trace_10 ml_X11_77 mv_X11_in (Rle_of (Nat.le_of_ble_eq_true rfl) (Nat.le_of_ble_eq_true rfl)) (c_X11_in hC.X x1.toInt64 (0 : Int64) (((rI μ 107 26) - (1 : Int32)).toInt64) μ) rfl rfl (Nat.le_of_ble_eq_true rfl) (fun r_2 μ_1 => ?_)
  refine J.if_eq hC eX11_trace_13 (fun _ => ?_) (fun _ => ?_)
  · refine J.iconst hC eX11_trace_25 ci_m1 ?_
    exact J.iret hC hr eX11_trace_26
  · refine J.aload_n (j := 0) hC eX11_trace_16 rfl ?_
    refine gf_X11_54 (q := 122) hC eX11_trace_17 kk_107 rfl ?_
    refine J.iload_n (j := 1) hC eX11_trace_20 rfl ?_
    refine J.iald ik_6 hC eX11_trace_21 kk_122 ?_
    refine J.goto hC eX11_trace_22 ?_
    exact J.iret hC hr eX11_trace_26
-- X11_unitAt
theorem eX11_unitAt_0 : DD cX11_unitAt 0 (.aload_n 0) 1 1 := ⟨by decide +kernel, rfl⟩
theorem eX11_unitAt_1 : DD cX11_unitAt 1 (.getfield 28) 3 4 := ⟨by decide +kernel, rfl⟩
theorem eX11_unitAt_4 : DD cX11_unitAt 4 (.iconst 4) 1 5 := ⟨by decide +kernel, rfl⟩
theorem eX11_unitAt_5 : DD cX11_unitAt 5 (.bipush 6) 2 7 := ⟨by decide +kernel, rfl⟩
theorem eX11_unitAt_7 : DD cX11_unitAt 7 (.iload_n 1) 1 8 := ⟨by decide +kernel, rfl⟩
theorem eX11_unitAt_8 : DD cX11_unitAt 8 (.imul) 1 9 := ⟨by decide +kernel, rfl⟩
theorem eX11_unitAt_9 : DD cX11_unitAt 9 (.iload_n 2) 1 10 := ⟨by decide +kernel, rfl⟩
theorem eX11_unitAt_10 : DD cX11_unitAt 10 (.iadd) 1 11 := ⟨by decide +kernel, rfl⟩
theorem eX11_unitAt_11 : DD cX11_unitAt 11 (.imul) 1 12 := ⟨by decide +kernel, rfl⟩
theorem eX11_unitAt_12 : DD cX11_unitAt 12 (.iload_n 3) 1 13 := ⟨by decide +kernel, rfl⟩
theorem eX11_unitAt_13 : DD cX11_unitAt 13 (.iadd) 1 14 := ⟨by decide +kernel, rfl⟩
theorem eX11_unitAt_14 : DD cX11_unitAt 14 (.iaload) 1 15 := ⟨by decide +kernel, rfl⟩
theorem eX11_unitAt_15 : DD cX11_unitAt 15 (.ireturn) 1 16 := ⟨by decide +kernel, rfl⟩
def G_X11_unitAt (x1 : Int32) (x2 : Int32) (x3 : Int32) (μ : Mem) : Option (Int32 × Mem) :=
  gq (inB (((4 : Int32) * (((6 : Int32) * x1) + x2)) + x3) 120) (some (rI μ 114 (nx (((4 : Int32) * (((6 : Int32) * x1) + x2)) + x3)), μ))
set_option maxHeartbeats 4000000 in
theorem c_X11_unitAt {X : Wd} (hX : WdOk X) (x1 : Int32) (x2 : Int32) (x3 : Int32) (μ : Mem) : CtI X yX11_unitAt cX11_unitAt 4 (some .int) (rmF 0 0) [.ref (xad X 107), .int x1, .int x2, .int x3] μ (G_X11_unitAt x1 x2 x3 μ) := by
  refine CtI.of hX (plainFor_of_name (by decide)) (by exact Nat.le_of_ble_eq_true rfl) ?_
  intro C hCX hC hr
  subst hCX
  show J C (KI C) μ 0 [(0, .ref (xad (cX C) 107)), (1, .int x1), (2, .int x2), (3, .int x3)] [] _
  unfold G_X11_unitAt
  refine J.aload_n (j := 0) hC eX11_unitAt_0 rfl ?_
  refine gf_X11_28 (q := 114) hC eX11_unitAt_1 kk_107 rfl ?_
  refine J.iconst hC eX11_unitAt_4 ci_4 ?_
  refine J.bipush hC eX11_unitAt_5 cb_6 ?_
  refine J.iload_n (j := 1) hC eX11_unitAt_7 rfl ?_
  refine J.imul hC eX11_unitAt_8 ?_
  refine J.iload_n (j := 2) hC eX11_unitAt_9 rfl ?_
  refine J.iadd hC eX11_unitAt_10 ?_
  refine J.imul hC eX11_unitAt_11 ?_
  refine J.iload_n (j := 3) hC eX11_unitAt_12 rfl ?_
  refine J.iadd hC eX11_unitAt_13 ?_
  refine J.iald ik_120 hC eX11_unitAt_14 kk_114 ?_
  exact J.iret hC hr eX11_unitAt_15
-- X11_isUnitOf
theorem eX11_isUnitOf_0 : DD cX11_isUnitOf 0 (.aload_n 0) 1 1 := ⟨by decide +kernel, rfl⟩
theorem eX11_isUnitOf_1 : DD cX11_isUnitOf 1 (.iload_n 1) 1 2 := ⟨by decide +kernel, rfl⟩
theorem eX11_isUnitOf_2 : DD cX11_isUnitOf 2 (.iload_n 2) 1 3 := ⟨by decide +kernel, rfl⟩
theorem eX11_isUnitOf_3 : DD cX11_isUnitOf 3 (.iconst 3) 1 4 := ⟨by decide +kernel, rfl⟩
theorem eX11_isUnitOf_4 : DD cX11_isUnitOf 4 (.invokevirtual 335) 3 7 := ⟨by decide +kernel, rfl⟩
theorem eX11_isUnitOf_7 : DD cX11_isUnitOf 7 (.istore 4) 2 9 := ⟨by decide +kernel, rfl⟩
theorem eX11_isUnitOf_9 : DD cX11_isUnitOf 9 (.aload_n 0) 1 10 := ⟨by decide +kernel, rfl⟩
theorem eX11_isUnitOf_10 : DD cX11_isUnitOf 10 (.iload_n 1) 1 11 := ⟨by decide +kernel, rfl⟩
theorem eX11_isUnitOf_11 : DD cX11_isUnitOf 11 (.iload_n 2) 1 12 := ⟨by decide +kernel, rfl⟩
theorem eX11_isUnitOf_12 : DD cX11_isUnitOf 12 (.iconst 2) 1 13 := ⟨by decide +kernel, rfl⟩
theorem eX11_isUnitOf_13 : DD cX11_isUnitOf 13 (.invokevirtual 335) 3 16 := ⟨by decide +kernel, rfl⟩
theorem eX11_isUnitOf_16 : decode cX11_isUnitOf 16 = .ok (.tableswitch 79 0 2 #[28, 45, 62], 28) := by decide +kernel
theorem eX11_isUnitOf_44 : DD cX11_isUnitOf 44 (.iload_n 3) 1 45 := ⟨by decide +kernel, rfl⟩
theorem eX11_isUnitOf_45 : DD cX11_isUnitOf 45 (.iconst (-1)) 1 46 := ⟨by decide +kernel, rfl⟩
theorem eX11_isUnitOf_46 : DB cX11_isUnitOf 46 (.if_icmp .eq 13) (13) 49 59 := ⟨by decide +kernel, rfl, by decide⟩
theorem eX11_isUnitOf_49 : DD cX11_isUnitOf 49 (.iload_n 3) 1 50 := ⟨by decide +kernel, rfl⟩
theorem eX11_isUnitOf_50 : DD cX11_isUnitOf 50 (.iload 4) 2 52 := ⟨by decide +kernel, rfl⟩
theorem eX11_isUnitOf_52 : DB cX11_isUnitOf 52 (.if_icmp .ne 7) (7) 55 59 := ⟨by decide +kernel, rfl, by decide⟩
theorem eX11_isUnitOf_55 : DD cX11_isUnitOf 55 (.iconst 1) 1 56 := ⟨by decide +kernel, rfl⟩
theorem eX11_isUnitOf_56 : DB cX11_isUnitOf 56 (.goto 4) (4) 59 60 := ⟨by decide +kernel, rfl, by decide⟩
theorem eX11_isUnitOf_59 : DD cX11_isUnitOf 59 (.iconst 0) 1 60 := ⟨by decide +kernel, rfl⟩
theorem eX11_isUnitOf_60 : DD cX11_isUnitOf 60 (.ireturn) 1 61 := ⟨by decide +kernel, rfl⟩
theorem eX11_isUnitOf_61 : DD cX11_isUnitOf 61 (.iload_n 3) 1 62 := ⟨by decide +kernel, rfl⟩
theorem eX11_isUnitOf_62 : DD cX11_isUnitOf 62 (.iconst (-1)) 1 63 := ⟨by decide +kernel, rfl⟩
theorem eX11_isUnitOf_63 : DB cX11_isUnitOf 63 (.if_icmp .eq 13) (13) 66 76 := ⟨by decide +kernel, rfl, by decide⟩
theorem eX11_isUnitOf_66 : DD cX11_isUnitOf 66 (.iload_n 3) 1 67 := ⟨by decide +kernel, rfl⟩
theorem eX11_isUnitOf_67 : DD cX11_isUnitOf 67 (.iload 4) 2 69 := ⟨by decide +kernel, rfl⟩
theorem eX11_isUnitOf_69 : DB cX11_isUnitOf 69 (.if_icmp .ge 7) (7) 72 76 := ⟨by decide +kernel, rfl, by decide⟩
theorem eX11_isUnitOf_72 : DD cX11_isUnitOf 72 (.iconst 1) 1 73 := ⟨by decide +kernel, rfl⟩
theorem eX11_isUnitOf_73 : DB cX11_isUnitOf 73 (.goto 4) (4) 76 77 := ⟨by decide +kernel, rfl, by decide⟩
theorem eX11_isUnitOf_76 : DD cX11_isUnitOf 76 (.iconst 0) 1 77 := ⟨by decide +kernel, rfl⟩
theorem eX11_isUnitOf_77 : DD cX11_isUnitOf 77 (.ireturn) 1 78 := ⟨by decide +kernel, rfl⟩
theorem eX11_isUnitOf_78 : DD cX11_isUnitOf 78 (.iload_n 3) 1 79 := ⟨by decide +kernel, rfl⟩
theorem eX11_isUnitOf_79 : DD cX11_isUnitOf 79 (.iconst (-1)) 1 80 := ⟨by decide +kernel, rfl⟩
theorem eX11_isUnitOf_80 : DB cX11_isUnitOf 80 (.if_icmp .eq 13) (13) 83 93 := ⟨by decide +kernel, rfl, by decide⟩
theorem eX11_isUnitOf_83 : DD cX11_isUnitOf 83 (.iload_n 3) 1 84 := ⟨by decide +kernel, rfl⟩
theorem eX11_isUnitOf_84 : DD cX11_isUnitOf 84 (.iload 4) 2 86 := ⟨by decide +kernel, rfl⟩
theorem eX11_isUnitOf_86 : DB cX11_isUnitOf 86 (.if_icmp .le 7) (7) 89 93 := ⟨by decide +kernel, rfl, by decide⟩
theorem eX11_isUnitOf_89 : DD cX11_isUnitOf 89 (.iconst 1) 1 90 := ⟨by decide +kernel, rfl⟩
theorem eX11_isUnitOf_90 : DB cX11_isUnitOf 90 (.goto 4) (4) 93 94 := ⟨by decide +kernel, rfl, by decide⟩
theorem eX11_isUnitOf_93 : DD cX11_isUnitOf 93 (.iconst 0) 1 94 := ⟨by decide +kernel, rfl⟩
theorem eX11_isUnitOf_94 : DD cX11_isUnitOf 94 (.ireturn) 1 95 := ⟨by decide +kernel, rfl⟩
theorem eX11_isUnitOf_95 : DD cX11_isUnitOf 95 (.iload_n 3) 1 96 := ⟨by decide +kernel, rfl⟩
theorem eX11_isUnitOf_96 : DD cX11_isUnitOf 96 (.iconst (-1)) 1 97 := ⟨by decide +kernel, rfl⟩
theorem eX11_isUnitOf_97 : DB cX11_isUnitOf 97 (.if_icmp .ne 7) (7) 100 104 := ⟨by decide +kernel, rfl, by decide⟩
theorem eX11_isUnitOf_100 : DD cX11_isUnitOf 100 (.iconst 1) 1 101 := ⟨by decide +kernel, rfl⟩
theorem eX11_isUnitOf_101 : DB cX11_isUnitOf 101 (.goto 4) (4) 104 105 := ⟨by decide +kernel, rfl, by decide⟩
theorem eX11_isUnitOf_104 : DD cX11_isUnitOf 104 (.iconst 0) 1 105 := ⟨by decide +kernel, rfl⟩
theorem eX11_isUnitOf_105 : DD cX11_isUnitOf 105 (.ireturn) 1 106 := ⟨by decide +kernel, rfl⟩
def G_X11_isUnitOf (x1 : Int32) (x2 : Int32) (x3 : Int32) (μ : Mem) : Option (Int32 × Mem) :=
  bd (G_X11_unitAt x1 x2 (3 : Int32) μ) (fun r_2 μ_1 => bd (G_X11_unitAt x1 x2 (2 : Int32) μ_1) (fun r_4 μ_3 => if r_4 = (0 : Int32) then if x3 = (-1 : Int32) then some ((0 : Int32), μ_3) else if x3 = r_2 then some ((1 : Int32), μ_3) else some ((0 : Int32), μ_3) else (if r_4 = (1 : Int32) then if x3 = (-1 : Int32) then some ((0 : Int32), μ_3) else if r_2 ≤ x3 then some ((0 : Int32), μ_3) else some ((1 : Int32), μ_3) else (if r_4 = (2 : Int32) then if x3 = (-1 : Int32) then some ((0 : Int32), μ_3) else if x3 ≤ r_2 then some ((0 : Int32), μ_3) else some ((1 : Int32), μ_3) else (if x3 = (-1 : Int32) then some ((1 : Int32), μ_3) else some ((0 : Int32), μ_3))))))
set_option maxHeartbeats 4000000 in
theorem c_X11_isUnitOf {X : Wd} (hX : WdOk X) (x1 : Int32) (x2 : Int32) (x3 : Int32) (μ : Mem) : CtI X yX11_isUnitOf cX11_isUnitOf 5 (some .boolean) (rmF 1 23) [.ref (xad X 107), .int x1, .int x2, .int x3] μ (G_X11_isUnitOf x1 x2 x3 μ) := by
  refine CtI.of hX (plainFor_of_name (by decide)) (by exact Nat.le_of_ble_eq_true rfl) ?_
  intro C hCX hC hr
  subst hCX
  show J C (KI C) μ 0 [(0, .ref (xad (cX C) 107)), (1, .int x1), (2, .int x2), (3, .int x3)] [] _
  unfold G_X11_isUnitOf
  refine J.aload_n (j := 0) hC eX11_isUnitOf_0 rfl ?_
  refine J.iload_n (j := 1) hC eX11_isUnitOf_1 rfl ?_
  refine J.iload_n (j := 2) hC eX11_isUnitOf_2 rfl ?_
  refine J.iconst hC eX11_isUnitOf_3 ci_3 ?_
  refine J.callVI (st := []) hC eX11_isUnitOf_4 kk_107 (by decide) rfl rfl ml_X11_335 mv_X11_unitAt (Rle_of (Nat.le_of_ble_eq_true rfl) (Nat.le_of_ble_eq_true rfl)) (c_X11_unitAt hC.X x1 x2 (3 : Int32) μ) rfl rfl (Nat.le_of_ble_eq_true rfl) (fun r_2 μ_1 => ?_)
  refine J.istore [(4, .int r_2), (0, .ref (xad (cX C) 107)), (1, .int x1), (2, .int x2), (3, .int x3)] hC eX11_isUnitOf_7 (by decide) rfl ?_
  refine J.aload_n (j := 1) hC eX11_isUnitOf_9 rfl ?_
  refine J.iload_n (j := 2) hC eX11_isUnitOf_10 rfl ?_
  refine J.iload_n (j := 3) hC eX11_isUnitOf_11 rfl ?_
  refine J.iconst hC eX11_isUnitOf_12 ci_2 ?_
  refine J.callVI (st := []) hC eX11_isUnitOf_13 kk_107 (by decide) rfl rfl ml_X11_335 mv_X11_unitAt (Rle_of (Nat.le_of_ble_eq_true rfl) (Nat.le_of_ble_eq_true rfl)) (c_X11_unitAt hC.X x1 x2 (2 : Int32) μ_1) rfl rfl (Nat.le_of_ble_eq_true rfl) (fun r_4 μ_3 => ?_)
  refine J.ite (fun h_5 => ?_) (fun h_5 => ?_)
  · refine J.tsI (off := 28) (tgt := 44) hC eX11_isUnitOf_16 (by rw [h_5]; decide) (by rw [h_5]; decide) (by rw [h_5]; rfl) (by decide) ?_
    refine J.iload_n (j := 4) hC eX11_isUnitOf_44 rfl ?_
    refine J.iconst hC eX11_isUnitOf_45 ci_m1 ?_
    refine J.icmp_eq hC eX11_isUnitOf_46 (fun _ => ?_) (fun _ => ?_)
    · refine J.iconst hC eX11_isUnitOf_59 ci_0 ?_
      exact J.zretB hC hr eX11_isUnitOf_60 rfl
    · refine J.iload_n (j := 4) hC eX11_isUnitOf_49 rfl ?_
      refine J.iload (j := 0) hC eX11_isUnitOf_50 rfl ?_
      refine J.icmp_ne hC eX11_isUnitOf_52 (fun _ => ?_) (fun _ => ?_)
      · refine J.iconst hC eX11_isUnitOf_55 ci_1 ?_
        refine J.goto hC eX11_isUnitOf_56 ?_
        exact J.zretB hC hr eX11_isUnitOf_60 rfl
      · refine J.iconst hC eX11_isUnitOf_59 ci_0 ?_
        exact J.zretB hC hr eX11_isUnitOf_60 rfl
  refine J.ite (fun h_6 => ?_) (fun h_6 => ?_)
  · refine J.tsI (off := 45) (tgt := 61) hC eX11_isUnitOf_16 (by rw [h_6]; decide) (by rw [h_6]; decide) (by rw [h_6]; rfl) (by decide) ?_
    refine J.iload_n (j := 4) hC eX11_isUnitOf_61 rfl ?_
    refine J.iconst hC eX11_isUnitOf_62 ci_m1 ?_
    refine J.icmp_eq hC eX11_isUnitOf_63 (fun _ => ?_) (fun _ => ?_)
    · refine J.iconst hC eX11_isUnitOf_76 ci_0 ?_
      exact J.zretB hC hr eX11_isUnitOf_77 rfl
    · refine J.iload_n (j := 4) hC eX11_isUnitOf_66 rfl ?_
      refine J.iload (j := 0) hC eX11_isUnitOf_67 rfl ?_
      refine J.icmp_ge hC eX11_isUnitOf_69 (fun _ => ?_) (fun _ => ?_)
      · refine J.iconst hC eX11_isUnitOf_76 ci_0 ?_
        exact J.zretB hC hr eX11_isUnitOf_77 rfl
      · refine J.iconst hC eX11_isUnitOf_72 ci_1 ?_
        refine J.goto hC eX11_isUnitOf_73 ?_
        exact J.zretB hC hr eX11_isUnitOf_77 rfl
  refine J.ite (fun h_7 => ?_) (fun h_7 => ?_)
  · refine J.tsI (off := 62) (tgt := 78) hC eX11_isUnitOf_16 (by rw [h_7]; decide) (by rw [h_7]; decide) (by rw [h_7]; rfl) (by decide) ?_
    refine J.iload_n (j := 4) hC eX11_isUnitOf_78 rfl ?_
    refine J.iconst hC eX11_isUnitOf_79 ci_m1 ?_
    refine J.icmp_eq hC eX11_isUnitOf_80 (fun _ => ?_) (fun _ => ?_)
    · refine J.iconst hC eX11_isUnitOf_93 ci_0 ?_
      exact J.zretB hC hr eX11_isUnitOf_94 rfl
    · refine J.iload_n (j := 4) hC eX11_isUnitOf_83 rfl ?_
      refine J.iload (j := 0) hC eX11_isUnitOf_84 rfl ?_
      refine J.icmp_le hC eX11_isUnitOf_86 (fun _ => ?_) (fun _ => ?_)
      · refine J.iconst hC eX11_isUnitOf_93 ci_0 ?_
        exact J.zretB hC hr eX11_isUnitOf_94 rfl
      · refine J.iconst hC eX11_isUnitOf_89 ci_1 ?_
        refine J.goto hC eX11_isUnitOf_90 ?_
        exact J.zretB hC hr eX11_isUnitOf_94 rfl
  refine J.tsO (tgt := 95) hC eX11_isUnitOf_16 (by have th_5 := lv_neT h_5 (show ((0 : Int32)).toInt = 0 from rfl); have th_6 := lv_neT h_6 (show ((1 : Int32)).toInt = 1 from rfl); have th_7 := lv_neT h_7 (show ((2 : Int32)).toInt = 2 from rfl); omega) (by decide) ?_
  refine J.iload_n (j := 4) hC eX11_isUnitOf_95 rfl ?_
  refine J.iconst hC eX11_isUnitOf_96 ci_m1 ?_
  refine J.icmp_ne hC eX11_isUnitOf_97 (fun _ => ?_) (fun _ => ?_)
  · refine J.iconst hC eX11_isUnitOf_100 ci_1 ?_
    refine J.goto hC eX11_isUnitOf_101 ?_
    exact J.zretB hC hr eX11_isUnitOf_105 rfl
  · refine J.iconst hC eX11_isUnitOf_104 ci_0 ?_
    exact J.zretB hC hr eX11_isUnitOf_105 rfl
-- X11_terms
theorem eX11_terms_0 : DD cX11_terms 0 (.aload_n 0) 1 1 := ⟨by decide +kernel, rfl⟩
theorem eX11_terms_1 : DD cX11_terms 1 (.iload_n 1) 1 2 := ⟨by decide +kernel, rfl⟩
theorem eX11_terms_2 : DD cX11_terms 2 (.aload_n 0) 1 3 := ⟨by decide +kernel, rfl⟩
theorem eX11_terms_3 : DD cX11_terms 3 (.getfield 31) 3 6 := ⟨by decide +kernel, rfl⟩
theorem eX11_terms_6 : DD cX11_terms 6 (.iload_n 1) 1 7 := ⟨by decide +kernel, rfl⟩
theorem eX11_terms_7 : DD cX11_terms 7 (.iaload) 1 8 := ⟨by decide +kernel, rfl⟩
theorem eX11_terms_8 : DD cX11_terms 8 (.iconst 1) 1 9 := ⟨by decide +kernel, rfl⟩
theorem eX11_terms_9 : DD cX11_terms 9 (.isub) 1 10 := ⟨by decide +kernel, rfl⟩
theorem eX11_terms_10 : DD cX11_terms 10 (.iconst 0) 1 11 := ⟨by decide +kernel, rfl⟩
theorem eX11_terms_11 : DD cX11_terms 11 (.invokevirtual 335) 3 14 := ⟨by decide +kernel, rfl⟩
theorem eX11_terms_14 : DD cX11_terms 14 (.iconst 1) 1 15 := ⟨by decide +kernel, rfl⟩
theorem eX11_terms_15 : DD cX11_terms 15 (.iadd) 1 16 := ⟨by decide +kernel, rfl⟩
theorem eX11_terms_16 : DD cX11_terms 16 (.ireturn) 1 17 := ⟨by decide +kernel, rfl⟩
def G_X11_terms (x1 : Int32) (μ : Mem) : Option (Int32 × Mem) :=
  gq (inB x1 5) (bd (G_X11_unitAt x1 ((rI μ 115 (nx x1)) - (1 : Int32)) (0 : Int32) μ) (fun r_2 μ_1 => some (r_2 + (1 : Int32), μ_1)))
set_option maxHeartbeats 4000000 in
theorem c_X11_terms {X : Wd} (hX : WdOk X) (x1 : Int32) (μ : Mem) : CtI X yX11_terms cX11_terms 2 (some .int) (rmF 1 23) [.ref (xad X 107), .int x1] μ (G_X11_terms x1 μ) := by
  refine CtI.of hX (plainFor_of_name (by decide)) (by exact Nat.le_of_ble_eq_true rfl) ?_
  intro C hCX hC hr
  subst hCX
  show J C (KI C) μ 0 [(0, .ref (xad (cX C) 107)), (1, .int x1)] [] _
  unfold G_X11_terms
  refine J.aload_n (j := 0) hC eX11_terms_0 rfl ?_
  refine J.iload_n (j := 1) hC eX11_terms_1 rfl ?_
  refine J.aload_n (j := 0) hC eX11_terms_2 rfl ?_
  refine gf_X11_31 (q := 115) hC eX11_terms_3 kk_107 rfl ?_
  refine J.iload_n (j := 1) hC eX11_terms_6 rfl ?_
  refine J.iald ik_5 hC eX11_terms_7 kk_115 ?_
  refine J.iconst hC eX11_terms_8 ci_1 ?_
  refine J.isub hC eX11_terms_9 ?_
  refine J.iconst hC eX11_terms_10 ci_0 ?_
  refine J.callVI (st := []) hC eX11_terms_11 kk_107 (by decide) rfl rfl ml_X11_335 mv_X11_unitAt (Rle_of (Nat.le_of_ble_eq_true rfl) (Nat.le_of_ble_eq_true rfl)) (c_X11_unitAt hC.X x1 ((rI μ 115 (nx x1)) - (1 : Int32)) (0 : Int32) μ) rfl rfl (Nat.le_of_ble_eq_true rfl) (fun r_2 μ_1 => ?_)
  refine J.iconst hC eX11_terms_14 ci_1 ?_
  refine J.iadd hC eX11_terms_15 ?_
  exact J.iret hC hr eX11_terms_16
-- X11_isTermOf
theorem eX11_isTermOf_0 : DD cX11_isTermOf 0 (.iconst 1) 1 1 := ⟨by decide +kernel, rfl⟩
theorem eX11_isTermOf_1 : DD cX11_isTermOf 1 (.istore 5) 2 3 := ⟨by decide +kernel, rfl⟩
theorem eX11_isTermOf_3 : DD cX11_isTermOf 3 (.iconst 0) 1 4 := ⟨by decide +kernel, rfl⟩
theorem eX11_isTermOf_4 : DD cX11_isTermOf 4 (.istore 6) 2 6 := ⟨by decide +kernel, rfl⟩
theorem eX11_isTermOf_6 : DD cX11_isTermOf 6 (.iload 6) 2 8 := ⟨by decide +kernel, rfl⟩
theorem eX11_isTermOf_8 : DD cX11_isTermOf 8 (.aload_n 0) 1 9 := ⟨by decide +kernel, rfl⟩
theorem eX11_isTermOf_9 : DD cX11_isTermOf 9 (.getfield 31) 3 12 := ⟨by decide +kernel, rfl⟩
theorem eX11_isTermOf_12 : DD cX11_isTermOf 12 (.iload_n 1) 1 13 := ⟨by decide +kernel, rfl⟩
theorem eX11_isTermOf_13 : DD cX11_isTermOf 13 (.iaload) 1 14 := ⟨by decide +kernel, rfl⟩
theorem eX11_isTermOf_14 : DB cX11_isTermOf 14 (.if_icmp .ge 60) (60) 17 74 := ⟨by decide +kernel, rfl, by decide⟩
theorem eX11_isTermOf_17 : DD cX11_isTermOf 17 (.iload 5) 2 19 := ⟨by decide +kernel, rfl⟩
theorem eX11_isTermOf_19 : DB cX11_isTermOf 19 (.ifCond .eq 46) (46) 22 65 := ⟨by decide +kernel, rfl, by decide⟩
theorem eX11_isTermOf_22 : DD cX11_isTermOf 22 (.aload_n 0) 1 23 := ⟨by decide +kernel, rfl⟩
theorem eX11_isTermOf_23 : DD cX11_isTermOf 23 (.iload_n 1) 1 24 := ⟨by decide +kernel, rfl⟩
theorem eX11_isTermOf_24 : DD cX11_isTermOf 24 (.iload 6) 2 26 := ⟨by decide +kernel, rfl⟩
theorem eX11_isTermOf_26 : DD cX11_isTermOf 26 (.iconst 0) 1 27 := ⟨by decide +kernel, rfl⟩
theorem eX11_isTermOf_27 : DD cX11_isTermOf 27 (.invokevirtual 335) 3 30 := ⟨by decide +kernel, rfl⟩
theorem eX11_isTermOf_30 : DD cX11_isTermOf 30 (.iload_n 2) 1 31 := ⟨by decide +kernel, rfl⟩
theorem eX11_isTermOf_31 : DB cX11_isTermOf 31 (.if_icmp .ne 30) (30) 34 61 := ⟨by decide +kernel, rfl, by decide⟩
theorem eX11_isTermOf_34 : DD cX11_isTermOf 34 (.aload_n 0) 1 35 := ⟨by decide +kernel, rfl⟩
theorem eX11_isTermOf_35 : DD cX11_isTermOf 35 (.iload_n 1) 1 36 := ⟨by decide +kernel, rfl⟩
theorem eX11_isTermOf_36 : DD cX11_isTermOf 36 (.iload 6) 2 38 := ⟨by decide +kernel, rfl⟩
theorem eX11_isTermOf_38 : DD cX11_isTermOf 38 (.aload_n 0) 1 39 := ⟨by decide +kernel, rfl⟩
theorem eX11_isTermOf_39 : DD cX11_isTermOf 39 (.iload_n 1) 1 40 := ⟨by decide +kernel, rfl⟩
theorem eX11_isTermOf_40 : DD cX11_isTermOf 40 (.iload 6) 2 42 := ⟨by decide +kernel, rfl⟩
theorem eX11_isTermOf_42 : DD cX11_isTermOf 42 (.iconst 1) 1 43 := ⟨by decide +kernel, rfl⟩
theorem eX11_isTermOf_43 : DD cX11_isTermOf 43 (.invokevirtual 335) 3 46 := ⟨by decide +kernel, rfl⟩
theorem eX11_isTermOf_46 : DB cX11_isTermOf 46 (.ifCond .ne 7) (7) 49 53 := ⟨by decide +kernel, rfl, by decide⟩
theorem eX11_isTermOf_49 : DD cX11_isTermOf 49 (.iload_n 3) 1 50 := ⟨by decide +kernel, rfl⟩
theorem eX11_isTermOf_50 : DB cX11_isTermOf 50 (.goto 5) (5) 53 55 := ⟨by decide +kernel, rfl, by decide⟩
theorem eX11_isTermOf_53 : DD cX11_isTermOf 53 (.iload 4) 2 55 := ⟨by decide +kernel, rfl⟩
theorem eX11_isTermOf_55 : DD cX11_isTermOf 55 (.invokevirtual 338) 3 58 := ⟨by decide +kernel, rfl⟩
theorem eX11_isTermOf_58 : DB cX11_isTermOf 58 (.ifCond .eq 7) (7) 61 65 := ⟨by decide +kernel, rfl, by decide⟩
theorem eX11_isTermOf_61 : DD cX11_isTermOf 61 (.iconst 1) 1 62 := ⟨by decide +kernel, rfl⟩
theorem eX11_isTermOf_62 : DB cX11_isTermOf 62 (.goto 4) (4) 65 66 := ⟨by decide +kernel, rfl, by decide⟩
theorem eX11_isTermOf_65 : DD cX11_isTermOf 65 (.iconst 0) 1 66 := ⟨by decide +kernel, rfl⟩
theorem eX11_isTermOf_66 : DD cX11_isTermOf 66 (.istore 5) 2 68 := ⟨by decide +kernel, rfl⟩
theorem eX11_isTermOf_68 : DD cX11_isTermOf 68 (.iinc 6 1) 3 71 := ⟨by decide +kernel, rfl⟩
theorem eX11_isTermOf_71 : DB cX11_isTermOf 71 (.goto (-65)) (-65) 74 6 := ⟨by decide +kernel, rfl, by decide⟩
theorem eX11_isTermOf_74 : DD cX11_isTermOf 74 (.iload 5) 2 76 := ⟨by decide +kernel, rfl⟩
theorem eX11_isTermOf_76 : DD cX11_isTermOf 76 (.ireturn) 1 77 := ⟨by decide +kernel, rfl⟩
def F_X11_isTermOf_66 (kc_6 : Int32 → Int32 → Int32 → Int32 → Int32 → Int32 → Mem → Option (Int32 × Mem)) (x1 : Int32) (x2 : Int32) (x3 : Int32) (x4 : Int32) (x6 : Int32) (xs0 : Int32) (μ : Mem) : Option (Int32 × Mem) :=
  lb (x6 + (1 : Int32)) (fun x6_1 => kc_6 x1 x2 x3 x4 xs0 x6_1 μ)
set_option maxHeartbeats 4000000 in
theorem j_X11_isTermOf_66 {C : Cx} (hC : Ok C cX11_isTermOf 7 RX11 (rmF 2 47)) (hr : (cT C).sig.returnType = (some .boolean)) (kc_6 : Int32 → Int32 → Int32 → Int32 → Int32 → Int32 → Mem → Option (Int32 × Mem)) (hk_6 : ∀ (x1 : Int32) (x2 : Int32) (x3 : Int32) (x4 : Int32) (x5 : Int32) (x6 : Int32) (μ : Mem), J C (KI C) μ 6 [(0, .ref (xad (cX C) 107)), (1, .int x1), (2, .int x2), (3, .int x3), (4, .int x4), (5, .int x5), (6, .int x6)] [] (kc_6 x1 x2 x3 x4 x5 x6 μ)) (x1 : Int32) (x2 : Int32) (x3 : Int32) (x4 : Int32) (x6 : Int32) (xs0 : Int32) (μ : Mem) : J C (KI C) μ 66 [(0, .ref (xad (cX C) 107)), (1, .int x1), (2, .int x2), (3, .int x3), (4, .int x4), (6, .int x6)] [.int xs0] (F_X11_isTermOf_66 kc_6 x1 x2 x3 x4 x6 xs0 μ) := by
  unfold F_X11_isTermOf_66
  refine J.istore [(5, .int xs0), (0, .ref (xad (cX C) 107)), (1, .int x1), (2, .int x2), (3, .int x3), (4, .int x4), (6, .int x6)] hC eX11_isTermOf_66 (by decide) rfl ?_
  refine J.iinc (j := 6) (fun x6_1 => [(6, .int x6_1), (5, .int xs0), (0, .ref (xad (cX C) 107)), (1, .int x1), (2, .int x2), (3, .int x3), (4, .int x4)]) hC eX11_isTermOf_68 rfl ci_1 (by decide) (fun _ => rfl) (fun x6_1 => ?_)
  refine J.goto hC eX11_isTermOf_71 ?_
  refine J.sub [2, 3, 4, 5, 6, 1, 0] rfl ?_
  exact hk_6 x1 x2 x3 x4 xs0 x6_1 μ
def F_X11_isTermOf_65 (kc_6 : Int32 → Int32 → Int32 → Int32 → Int32 → Int32 → Mem → Option (Int32 × Mem)) (x1 : Int32) (x2 : Int32) (x3 : Int32) (x4 : Int32) (x6 : Int32) (μ : Mem) : Option (Int32 × Mem) :=
  F_X11_isTermOf_66 kc_6 x1 x2 x3 x4 x6 (0 : Int32) μ
set_option maxHeartbeats 4000000 in
theorem j_X11_isTermOf_65 {C : Cx} (hC : Ok C cX11_isTermOf 7 RX11 (rmF 2 47)) (hr : (cT C).sig.returnType = (some .boolean)) (kc_6 : Int32 → Int32 → Int32 → Int32 → Int32 → Int32 → Mem → Option (Int32 × Mem)) (hk_6 : ∀ (x1 : Int32) (x2 : Int32) (x3 : Int32) (x4 : Int32) (x5 : Int32) (x6 : Int32) (μ : Mem), J C (KI C) μ 6 [(0, .ref (xad (cX C) 107)), (1, .int x1), (2, .int x2), (3, .int x3), (4, .int x4), (5, .int x5), (6, .int x6)] [] (kc_6 x1 x2 x3 x4 x5 x6 μ)) (x1 : Int32) (x2 : Int32) (x3 : Int32) (x4 : Int32) (x6 : Int32) (μ : Mem) : J C (KI C) μ 65 [(0, .ref (xad (cX C) 107)), (1, .int x1), (2, .int x2), (3, .int x3), (4, .int x4), (6, .int x6)] [] (F_X11_isTermOf_65 kc_6 x1 x2 x3 x4 x6 μ) := by
  unfold F_X11_isTermOf_65
  refine J.iconst hC eX11_isTermOf_65 ci_0 ?_
  refine J.sub [0, 1, 2, 3, 4, 5] rfl ?_
  exact j_X11_isTermOf_66 hC hr kc_6 hk_6 x1 x2 x3 x4 x6 (0 : Int32) μ
def F_X11_isTermOf_61 (kc_6 : Int32 → Int32 → Int32 → Int32 → Int32 → Int32 → Mem → Option (Int32 × Mem)) (x1 : Int32) (x2 : Int32) (x3 : Int32) (x4 : Int32) (x6 : Int32) (μ : Mem) : Option (Int32 × Mem) :=
  F_X11_isTermOf_66 kc_6 x1 x2 x3 x4 x6 (1 : Int32) μ
set_option maxHeartbeats 4000000 in
theorem j_X11_isTermOf_61 {C : Cx} (hC : Ok C cX11_isTermOf 7 RX11 (rmF 2 47)) (hr : (cT C).sig.returnType = (some .boolean)) (kc_6 : Int32 → Int32 → Int32 → Int32 → Int32 → Int32 → Mem → Option (Int32 × Mem)) (hk_6 : ∀ (x1 : Int32) (x2 : Int32) (x3 : Int32) (x4 : Int32) (x5 : Int32) (x6 : Int32) (μ : Mem), J C (KI C) μ 6 [(0, .ref (xad (cX C) 107)), (1, .int x1), (2, .int x2), (3, .int x3), (4, .int x4), (5, .int x5), (6, .int x6)] [] (kc_6 x1 x2 x3 x4 x5 x6 μ)) (x1 : Int32) (x2 : Int32) (x3 : Int32) (x4 : Int32) (x6 : Int32) (μ : Mem) : J C (KI C) μ 61 [(0, .ref (xad (cX C) 107)), (1, .int x1), (2, .int x2), (3, .int x3), (4, .int x4), (6, .int x6)] [] (F_X11_isTermOf_61 kc_6 x1 x2 x3 x4 x6 μ) := by
  unfold F_X11_isTermOf_61
  refine J.iconst hC eX11_isTermOf_61 ci_1 ?_
  refine J.goto hC eX11_isTermOf_62 ?_
  refine J.sub [0, 1, 2, 3, 4, 5] rfl ?_
  exact j_X11_isTermOf_66 hC hr kc_6 hk_6 x1 x2 x3 x4 x6 (1 : Int32) μ
def F_X11_isTermOf_55 (kc_6 : Int32 → Int32 → Int32 → Int32 → Int32 → Int32 → Mem → Option (Int32 × Mem)) (x1 : Int32) (x2 : Int32) (x3 : Int32) (x4 : Int32) (x6 : Int32) (xs1 : Int32) (xs2 : Int32) (xs3 : Int32) (μ : Mem) : Option (Int32 × Mem) :=
  bd (G_X11_isUnitOf xs1 xs2 xs3 μ) (fun r_2 μ_1 => if r_2 = 0 then F_X11_isTermOf_65 kc_6 x1 x2 x3 x4 x6 μ_1 else F_X11_isTermOf_61 kc_6 x1 x2 x3 x4 x6 μ_1)
set_option maxHeartbeats 4000000 in
theorem j_X11_isTermOf_55 {C : Cx} (hC : Ok C cX11_isTermOf 7 RX11 (rmF 2 47)) (hr : (cT C).sig.returnType = (some .boolean)) (kc_6 : Int32 → Int32 → Int32 → Int32 → Int32 → Int32 → Mem → Option (Int32 × Mem)) (hk_6 : ∀ (x1 : Int32) (x2 : Int32) (x3 : Int32) (x4 : Int32) (x5 : Int32) (x6 : Int32) (μ : Mem), J C (KI C) μ 6 [(0, .ref (xad (cX C) 107)), (1, .int x1), (2, .int x2), (3, .int x3), (4, .int x4), (5, .int x5), (6, .int x6)] [] (kc_6 x1 x2 x3 x4 x5 x6 μ)) (x1 : Int32) (x2 : Int32) (x3 : Int32) (x4 : Int32) (x6 : Int32) (xs1 : Int32) (xs2 : Int32) (xs3 : Int32) (μ : Mem) : J C (KI C) μ 55 [(0, .ref (xad (cX C) 107)), (1, .int x1), (2, .int x2), (3, .int x3), (4, .int x4), (6, .int x6)] [.int xs3, .int xs2, .int xs1, .ref (xad (cX C) 107)] (F_X11_isTermOf_55 kc_6 x1 x2 x3 x4 x6 xs1 xs2 xs3 μ) := by
  unfold F_X11_isTermOf_55
  refine J.callVI (st := []) hC eX11_isTermOf_55 kk_107 (by decide) rfl rfl ml_X11_338 mv_X11_isUnitOf (Rle_of (Nat.le_of_ble_eq_true rfl) (Nat.le_of_ble_eq_true rfl)) (c_X11_isUnitOf hC.X xs1 xs2 xs3 μ) rfl rfl (Nat.le_of_ble_eq_true rfl) (fun r_2 μ_1 => ?_)
  refine J.if_eq hC eX11_isTermOf_58 (fun _ => ?_) (fun _ => ?_)
  · refine J.sub [0, 1, 2, 3, 4, 5] rfl ?_
    exact j_X11_isTermOf_65 hC hr kc_6 hk_6 x1 x2 x3 x4 x6 μ_1
  · refine J.sub [0, 1, 2, 3, 4, 5] rfl ?_
    exact j_X11_isTermOf_61 hC hr kc_6 hk_6 x1 x2 x3 x4 x6 μ_1
def L_X11_isTermOf_6 : Nat → Int32 → Int32 → Int32 → Int32 → Int32 → Int32 → Mem → Option (Int32 × Mem)
  | 0, _, _, _, _, _, _, _ => none
  | n + 1, x1, x2, x3, x4, x5, x6, μ => gq (inB x1 5) (if (rI μ 115 (nx x1)) ≤ x6 then gq (bB x5) (some (x5, μ)) else if x5 = 0 then F_X11_isTermOf_65 (L_X11_isTermOf_6  n) x1 x2 x3 x4 x6 μ else bd (G_X11_unitAt x1 x6 (0 : Int32) μ) (fun r_2 μ_1 => if r_2 = x2 then bd (G_X11_unitAt x1 x6 (1 : Int32) μ_1) (fun r_4 μ_3 => if r_4 = 0 then F_X11_isTermOf_55 (L_X11_isTermOf_6  n) x1 x2 x3 x4 x6 x1 x6 x3 μ_3 else F_X11_isTermOf_55 (L_X11_isTermOf_6  n) x1 x2 x3 x4 x6 x1 x6 x4 μ_3) else F_X11_isTermOf_61 (L_X11_isTermOf_6  n) x1 x2 x3 x4 x6 μ_1))
set_option maxHeartbeats 4000000 in
theorem j_X11_isTermOf_6 {C : Cx} (hC : Ok C cX11_isTermOf 7 RX11 (rmF 2 47)) (hr : (cT C).sig.returnType = (some .boolean)) : ∀ (n : Nat) (x1 : Int32) (x2 : Int32) (x3 : Int32) (x4 : Int32) (x5 : Int32) (x6 : Int32) (μ : Mem), J C (KI C) μ 6 [(0, .ref (xad (cX C) 107)), (1, .int x1), (2, .int x2), (3, .int x3), (4, .int x4), (5, .int x5), (6, .int x6)] [] (L_X11_isTermOf_6  n x1 x2 x3 x4 x5 x6 μ) := by
  intro n
  induction n with
  | zero => intros; exact J.no
  | succ n ih =>
    intro x1 x2 x3 x4 x5 x6 μ
    rw [L_X11_isTermOf_6]
    refine J.iload (j := 6) hC eX11_isTermOf_6 rfl ?_
    refine J.aload_n (j := 0) hC eX11_isTermOf_8 rfl ?_
    refine gf_X11_31 (q := 115) hC eX11_isTermOf_9 kk_107 rfl ?_
    refine J.iload_n (j := 1) hC eX11_isTermOf_12 rfl ?_
    refine J.iald ik_5 hC eX11_isTermOf_13 kk_115 ?_
    refine J.icmp_ge hC eX11_isTermOf_14 (fun _ => ?_) (fun _ => ?_)
    · refine J.iload (j := 5) hC eX11_isTermOf_74 rfl ?_
      exact J.zret hC hr eX11_isTermOf_76
    · refine J.iload (j := 5) hC eX11_isTermOf_17 rfl ?_
      refine J.if_eq hC eX11_isTermOf_19 (fun _ => ?_) (fun _ => ?_)
      · refine J.sub [0, 1, 2, 3, 4, 6] rfl ?_
        exact j_X11_isTermOf_65 hC hr (L_X11_isTermOf_6  n) ih x1 x2 x3 x4 x6 μ
      · refine J.aload_n (j := 0) hC eX11_isTermOf_22 rfl ?_
        refine J.iload_n (j := 1) hC eX11_isTermOf_23 rfl ?_
        refine J.iload (j := 6) hC eX11_isTermOf_24 rfl ?_
        refine J.iconst hC eX11_isTermOf_26 ci_0 ?_
        refine J.callVI (st := []) hC eX11_isTermOf_27 kk_107 (by decide) rfl rfl ml_X11_335 mv_X11_unitAt (Rle_of (Nat.le_of_ble_eq_true rfl) (Nat.le_of_ble_eq_true rfl)) (c_X11_unitAt hC.X x1 x6 (0 : Int32) μ) rfl rfl (Nat.le_of_ble_eq_true rfl) (fun r_2 μ_1 => ?_)
        refine J.iload_n (j := 2) hC eX11_isTermOf_30 rfl ?_
        refine J.icmp_ne hC eX11_isTermOf_31 (fun _ => ?_) (fun _ => ?_)
        · refine J.aload_n (j := 0) hC eX11_isTermOf_34 rfl ?_
          refine J.iload_n (j := 1) hC eX11_isTermOf_35 rfl ?_
          refine J.iload (j := 6) hC eX11_isTermOf_36 rfl ?_
          refine J.aload_n (j := 0) hC eX11_isTermOf_38 rfl ?_
          refine J.iload_n (j := 1) hC eX11_isTermOf_39 rfl ?_
          refine J.iload (j := 6) hC eX11_isTermOf_40 rfl ?_
          refine J.iconst hC eX11_isTermOf_42 ci_1 ?_
          refine J.callVI (st := [.int x6, .int x1, .ref (xad (cX C) 107)]) hC eX11_isTermOf_43 kk_107 (by decide) rfl rfl ml_X11_335 mv_X11_unitAt (Rle_of (Nat.le_of_ble_eq_true rfl) (Nat.le_of_ble_eq_true rfl)) (c_X11_unitAt hC.X x1 x6 (1 : Int32) μ_1) rfl rfl (Nat.le_of_ble_eq_true rfl) (fun r_4 μ_3 => ?_)
          refine J.if_ne hC eX11_isTermOf_46 (fun _ => ?_) (fun _ => ?_)
          · refine J.iload_n (j := 3) hC eX11_isTermOf_49 rfl ?_
            refine J.goto hC eX11_isTermOf_50 ?_
            refine J.sub [0, 1, 2, 3, 4, 6] rfl ?_
            exact j_X11_isTermOf_55 hC hr (L_X11_isTermOf_6  n) ih x1 x2 x3 x4 x6 x1 x6 x3 μ_3
          · refine J.iload (j := 4) hC eX11_isTermOf_53 rfl ?_
            refine J.sub [0, 1, 2, 3, 4, 6] rfl ?_
            exact j_X11_isTermOf_55 hC hr (L_X11_isTermOf_6  n) ih x1 x2 x3 x4 x6 x1 x6 x4 μ_3
        · refine J.sub [0, 1, 2, 3, 4, 6] rfl ?_
          exact j_X11_isTermOf_61 hC hr (L_X11_isTermOf_6  n) ih x1 x2 x3 x4 x6 μ_1
def G_X11_isTermOf (x1 : Int32) (x2 : Int32) (x3 : Int32) (x4 : Int32) (μ : Mem) : Option (Int32 × Mem) :=
  L_X11_isTermOf_6  100000 x1 x2 x3 x4 (1 : Int32) (0 : Int32) μ
set_option maxHeartbeats 4000000 in
theorem c_X11_isTermOf {X : Wd} (hX : WdOk X) (x1 : Int32) (x2 : Int32) (x3 : Int32) (x4 : Int32) (μ : Mem) : CtI X yX11_isTermOf cX11_isTermOf 7 (some .boolean) (rmF 2 47) [.ref (xad X 107), .int x1, .int x2, .int x3, .int x4] μ (G_X11_isTermOf x1 x2 x3 x4 μ) := by
  refine CtI.of hX (plainFor_of_name (by decide)) (by exact Nat.le_of_ble_eq_true rfl) ?_
  intro C hCX hC hr
  subst hCX
  show J C (KI C) μ 0 [(0, .ref (xad (cX C) 107)), (1, .int x1), (2, .int x2), (3, .int x3), (4, .int x4)] [] _
  unfold G_X11_isTermOf
  refine J.iconst hC eX11_isTermOf_0 ci_1 ?_
  refine J.istore [(5, .int (1 : Int32)), (0, .ref (xad (cX C) 107)), (1, .int x1), (2, .int x2), (3, .int x3), (4, .int x4)] hC eX11_isTermOf_1 (by decide) rfl ?_
  refine J.iconst hC eX11_isTermOf_3 ci_0 ?_
  refine J.istore [(6, .int (0 : Int32)), (5, .int (1 : Int32)), (0, .ref (xad (cX C) 107)), (1, .int x1), (2, .int x2), (3, .int x3), (4, .int x4)] hC eX11_isTermOf_4 (by decide) rfl ?_
  refine J.sub [2, 3, 4, 5, 6, 1, 0] rfl ?_
  exact j_X11_isTermOf_6 hC hr  100000 x1 x2 x3 x4 (1 : Int32) (0 : Int32) μ
-- X11_holds
theorem eX11_holds_0 : DD cX11_holds 0 (.iconst 0) 1 1 := ⟨by decide +kernel, rfl⟩
theorem eX11_holds_1 : DD cX11_holds 1 (.istore 4) 2 3 := ⟨by decide +kernel, rfl⟩
theorem eX11_holds_3 : DD cX11_holds 3 (.iconst 0) 1 4 := ⟨by decide +kernel, rfl⟩
theorem eX11_holds_4 : DD cX11_holds 4 (.istore 5) 2 6 := ⟨by decide +kernel, rfl⟩
theorem eX11_holds_6 : DD cX11_holds 6 (.iload 5) 2 8 := ⟨by decide +kernel, rfl⟩
theorem eX11_holds_8 : DD cX11_holds 8 (.aload_n 0) 1 9 := ⟨by decide +kernel, rfl⟩
theorem eX11_holds_9 : DD cX11_holds 9 (.iload_n 1) 1 10 := ⟨by decide +kernel, rfl⟩
theorem eX11_holds_10 : DD cX11_holds 10 (.invokevirtual 341) 3 13 := ⟨by decide +kernel, rfl⟩
theorem eX11_holds_13 : DB cX11_holds 13 (.if_icmp .ge 33) (33) 16 46 := ⟨by decide +kernel, rfl, by decide⟩
theorem eX11_holds_16 : DD cX11_holds 16 (.iload 4) 2 18 := ⟨by decide +kernel, rfl⟩
theorem eX11_holds_18 : DB cX11_holds 18 (.ifCond .ne 15) (15) 21 33 := ⟨by decide +kernel, rfl, by decide⟩
theorem eX11_holds_21 : DD cX11_holds 21 (.aload_n 0) 1 22 := ⟨by decide +kernel, rfl⟩
theorem eX11_holds_22 : DD cX11_holds 22 (.iload_n 1) 1 23 := ⟨by decide +kernel, rfl⟩
theorem eX11_holds_23 : DD cX11_holds 23 (.iload 5) 2 25 := ⟨by decide +kernel, rfl⟩
theorem eX11_holds_25 : DD cX11_holds 25 (.iload_n 2) 1 26 := ⟨by decide +kernel, rfl⟩
theorem eX11_holds_26 : DD cX11_holds 26 (.iload_n 3) 1 27 := ⟨by decide +kernel, rfl⟩
theorem eX11_holds_27 : DD cX11_holds 27 (.invokevirtual 344) 3 30 := ⟨by decide +kernel, rfl⟩
theorem eX11_holds_30 : DB cX11_holds 30 (.ifCond .eq 7) (7) 33 37 := ⟨by decide +kernel, rfl, by decide⟩
theorem eX11_holds_33 : DD cX11_holds 33 (.iconst 1) 1 34 := ⟨by decide +kernel, rfl⟩
theorem eX11_holds_34 : DB cX11_holds 34 (.goto 4) (4) 37 38 := ⟨by decide +kernel, rfl, by decide⟩
theorem eX11_holds_37 : DD cX11_holds 37 (.iconst 0) 1 38 := ⟨by decide +kernel, rfl⟩
theorem eX11_holds_38 : DD cX11_holds 38 (.istore 4) 2 40 := ⟨by decide +kernel, rfl⟩
theorem eX11_holds_40 : DD cX11_holds 40 (.iinc 5 1) 3 43 := ⟨by decide +kernel, rfl⟩
theorem eX11_holds_43 : DB cX11_holds 43 (.goto (-37)) (-37) 46 6 := ⟨by decide +kernel, rfl, by decide⟩
theorem eX11_holds_46 : DD cX11_holds 46 (.iload 4) 2 48 := ⟨by decide +kernel, rfl⟩
theorem eX11_holds_48 : DD cX11_holds 48 (.ireturn) 1 49 := ⟨by decide +kernel, rfl⟩
def F_X11_holds_38 (kc_6 : Int32 → Int32 → Int32 → Int32 → Int32 → Mem → Option (Int32 × Mem)) (x1 : Int32) (x2 : Int32) (x3 : Int32) (x5 : Int32) (xs0 : Int32) (μ : Mem) : Option (Int32 × Mem) :=
  lb (x5 + (1 : Int32)) (fun x5_1 => kc_6 x1 x2 x3 xs0 x5_1 μ)
set_option maxHeartbeats 4000000 in
theorem j_X11_holds_38 {C : Cx} (hC : Ok C cX11_holds 6 RX11 (rmF 3 73)) (hr : (cT C).sig.returnType = (some .boolean)) (kc_6 : Int32 → Int32 → Int32 → Int32 → Int32 → Mem → Option (Int32 × Mem)) (hk_6 : ∀ (x1 : Int32) (x2 : Int32) (x3 : Int32) (x4 : Int32) (x5 : Int32) (μ : Mem), J C (KI C) μ 6 [(0, .ref (xad (cX C) 107)), (1, .int x1), (2, .int x2), (3, .int x3), (4, .int x4), (5, .int x5)] [] (kc_6 x1 x2 x3 x4 x5 μ)) (x1 : Int32) (x2 : Int32) (x3 : Int32) (x5 : Int32) (xs0 : Int32) (μ : Mem) : J C (KI C) μ 38 [(0, .ref (xad (cX C) 107)), (1, .int x1), (2, .int x2), (3, .int x3), (5, .int x5)] [.int xs0] (F_X11_holds_38 kc_6 x1 x2 x3 x5 xs0 μ) := by
  unfold F_X11_holds_38
  refine J.istore [(4, .int xs0), (0, .ref (xad (cX C) 107)), (1, .int x1), (2, .int x2), (3, .int x3), (5, .int x5)] hC eX11_holds_38 (by decide) rfl ?_
  refine J.iinc (j := 5) (fun x5_1 => [(5, .int x5_1), (4, .int xs0), (0, .ref (xad (cX C) 107)), (1, .int x1), (2, .int x2), (3, .int x3)]) hC eX11_holds_40 rfl ci_1 (by decide) (fun _ => rfl) (fun x5_1 => ?_)
  refine J.goto hC eX11_holds_43 ?_
  refine J.sub [2, 3, 4, 5, 1, 0] rfl ?_
  exact hk_6 x1 x2 x3 xs0 x5_1 μ
def F_X11_holds_33 (kc_6 : Int32 → Int32 → Int32 → Int32 → Int32 → Mem → Option (Int32 × Mem)) (x1 : Int32) (x2 : Int32) (x3 : Int32) (x5 : Int32) (μ : Mem) : Option (Int32 × Mem) :=
  F_X11_holds_38 kc_6 x1 x2 x3 x5 (1 : Int32) μ
set_option maxHeartbeats 4000000 in
theorem j_X11_holds_33 {C : Cx} (hC : Ok C cX11_holds 6 RX11 (rmF 3 73)) (hr : (cT C).sig.returnType = (some .boolean)) (kc_6 : Int32 → Int32 → Int32 → Int32 → Int32 → Mem → Option (Int32 × Mem)) (hk_6 : ∀ (x1 : Int32) (x2 : Int32) (x3 : Int32) (x4 : Int32) (x5 : Int32) (μ : Mem), J C (KI C) μ 6 [(0, .ref (xad (cX C) 107)), (1, .int x1), (2, .int x2), (3, .int x3), (4, .int x4), (5, .int x5)] [] (kc_6 x1 x2 x3 x4 x5 μ)) (x1 : Int32) (x2 : Int32) (x3 : Int32) (x5 : Int32) (μ : Mem) : J C (KI C) μ 33 [(0, .ref (xad (cX C) 107)), (1, .int x1), (2, .int x2), (3, .int x3), (5, .int x5)] [] (F_X11_holds_33 kc_6 x1 x2 x3 x5 μ) := by
  unfold F_X11_holds_33
  refine J.iconst hC eX11_holds_33 ci_1 ?_
  refine J.goto hC eX11_holds_34 ?_
  refine J.sub [0, 1, 2, 3, 4] rfl ?_
  exact j_X11_holds_38 hC hr kc_6 hk_6 x1 x2 x3 x5 (1 : Int32) μ
def L_X11_holds_6 : Nat → Int32 → Int32 → Int32 → Int32 → Int32 → Mem → Option (Int32 × Mem)
  | 0, _, _, _, _, _, _ => none
  | n + 1, x1, x2, x3, x4, x5, μ => bd (G_X11_terms x1 μ) (fun r_2 μ_1 => if r_2 ≤ x5 then gq (bB x4) (some (x4, μ_1)) else if x4 = 0 then bd (G_X11_isTermOf x1 x5 x2 x3 μ_1) (fun r_4 μ_3 => if r_4 = 0 then F_X11_holds_38 (L_X11_holds_6  n) x1 x2 x3 x5 (0 : Int32) μ_3 else F_X11_holds_33 (L_X11_holds_6  n) x1 x2 x3 x5 μ_3) else F_X11_holds_33 (L_X11_holds_6  n) x1 x2 x3 x5 μ_1)
set_option maxHeartbeats 4000000 in
theorem j_X11_holds_6 {C : Cx} (hC : Ok C cX11_holds 6 RX11 (rmF 3 73)) (hr : (cT C).sig.returnType = (some .boolean)) : ∀ (n : Nat) (x1 : Int32) (x2 : Int32) (x3 : Int32) (x4 : Int32) (x5 : Int32) (μ : Mem), J C (KI C) μ 6 [(0, .ref (xad (cX C) 107)), (1, .int x1), (2, .int x2), (3, .int x3), (4, .int x4), (5, .int x5)] [] (L_X11_holds_6  n x1 x2 x3 x4 x5 μ) := by
  intro n
  induction n with
  | zero => intros; exact J.no
  | succ n ih =>
    intro x1 x2 x3 x4 x5 μ
    rw [L_X11_holds_6]
    refine J.iload (j := 5) hC eX11_holds_6 rfl ?_
    refine J.aload_n (j := 0) hC eX11_holds_8 rfl ?_
    refine J.iload_n (j := 1) hC eX11_holds_9 rfl ?_
    refine J.callVI (st := [.int x5]) hC eX11_holds_10 kk_107 (by decide) rfl rfl ml_X11_341 mv_X11_terms (Rle_of (Nat.le_of_ble_eq_true rfl) (Nat.le_of_ble_eq_true rfl)) (c_X11_terms hC.X x1 μ) rfl rfl (Nat.le_of_ble_eq_true rfl) (fun r_2 μ_1 => ?_)
    refine J.icmp_ge hC eX11_holds_13 (fun _ => ?_) (fun _ => ?_)
    · refine J.iload (j := 4) hC eX11_holds_46 rfl ?_
      exact J.zret hC hr eX11_holds_48
    · refine J.iload (j := 4) hC eX11_holds_16 rfl ?_
      refine J.if_ne hC eX11_holds_18 (fun _ => ?_) (fun _ => ?_)
      · refine J.aload_n (j := 0) hC eX11_holds_21 rfl ?_
        refine J.iload_n (j := 1) hC eX11_holds_22 rfl ?_
        refine J.iload (j := 5) hC eX11_holds_23 rfl ?_
        refine J.iload_n (j := 2) hC eX11_holds_25 rfl ?_
        refine J.iload_n (j := 3) hC eX11_holds_26 rfl ?_
        refine J.callVI (st := []) hC eX11_holds_27 kk_107 (by decide) rfl rfl ml_X11_344 mv_X11_isTermOf (Rle_of (Nat.le_of_ble_eq_true rfl) (Nat.le_of_ble_eq_true rfl)) (c_X11_isTermOf hC.X x1 x5 x2 x3 μ_1) rfl rfl (Nat.le_of_ble_eq_true rfl) (fun r_4 μ_3 => ?_)
        refine J.if_eq hC eX11_holds_30 (fun _ => ?_) (fun _ => ?_)
        · refine J.iconst hC eX11_holds_37 ci_0 ?_
          refine J.sub [0, 1, 2, 3, 5] rfl ?_
          exact j_X11_holds_38 hC hr (L_X11_holds_6  n) ih x1 x2 x3 x5 (0 : Int32) μ_3
        · refine J.sub [0, 1, 2, 3, 5] rfl ?_
          exact j_X11_holds_33 hC hr (L_X11_holds_6  n) ih x1 x2 x3 x5 μ_3
      · refine J.sub [0, 1, 2, 3, 5] rfl ?_
        exact j_X11_holds_33 hC hr (L_X11_holds_6  n) ih x1 x2 x3 x5 μ_1
def G_X11_holds (x1 : Int32) (x2 : Int32) (x3 : Int32) (μ : Mem) : Option (Int32 × Mem) :=
  L_X11_holds_6  100000 x1 x2 x3 (0 : Int32) (0 : Int32) μ
set_option maxHeartbeats 4000000 in
theorem c_X11_holds {X : Wd} (hX : WdOk X) (x1 : Int32) (x2 : Int32) (x3 : Int32) (μ : Mem) : CtI X yX11_holds cX11_holds 6 (some .boolean) (rmF 3 73) [.ref (xad X 107), .int x1, .int x2, .int x3] μ (G_X11_holds x1 x2 x3 μ) := by
  refine CtI.of hX (plainFor_of_name (by decide)) (by exact Nat.le_of_ble_eq_true rfl) ?_
  intro C hCX hC hr
  subst hCX
  show J C (KI C) μ 0 [(0, .ref (xad (cX C) 107)), (1, .int x1), (2, .int x2), (3, .int x3)] [] _
  unfold G_X11_holds
  refine J.iconst hC eX11_holds_0 ci_0 ?_
  refine J.istore [(4, .int (0 : Int32)), (0, .ref (xad (cX C) 107)), (1, .int x1), (2, .int x2), (3, .int x3)] hC eX11_holds_1 (by decide) rfl ?_
  refine J.iconst hC eX11_holds_3 ci_0 ?_
  refine J.istore [(5, .int (0 : Int32)), (4, .int (0 : Int32)), (0, .ref (xad (cX C) 107)), (1, .int x1), (2, .int x2), (3, .int x3)] hC eX11_holds_4 (by decide) rfl ?_
  refine J.sub [2, 3, 4, 5, 1, 0] rfl ?_
  exact j_X11_holds_6 hC hr  100000 x1 x2 x3 (0 : Int32) (0 : Int32) μ
-- X11_truth
theorem eX11_truth_0 : DD cX11_truth 0 (.iconst 0) 1 1 := ⟨by decide +kernel, rfl⟩
theorem eX11_truth_1 : DD cX11_truth 1 (.istore 4) 2 3 := ⟨by decide +kernel, rfl⟩
theorem eX11_truth_3 : DD cX11_truth 3 (.iconst 0) 1 4 := ⟨by decide +kernel, rfl⟩
theorem eX11_truth_4 : DD cX11_truth 4 (.istore 5) 2 6 := ⟨by decide +kernel, rfl⟩
theorem eX11_truth_6 : DD cX11_truth 6 (.iload 5) 2 8 := ⟨by decide +kernel, rfl⟩
theorem eX11_truth_8 : DD cX11_truth 8 (.sipush 289) 3 11 := ⟨by decide +kernel, rfl⟩
theorem eX11_truth_11 : DB cX11_truth 11 (.if_icmp .ge 114) (114) 14 125 := ⟨by decide +kernel, rfl, by decide⟩
theorem eX11_truth_14 : DD cX11_truth 14 (.iload 5) 2 16 := ⟨by decide +kernel, rfl⟩
theorem eX11_truth_16 : DD cX11_truth 16 (.bipush 17) 2 18 := ⟨by decide +kernel, rfl⟩
theorem eX11_truth_18 : DD cX11_truth 18 (.idiv) 1 19 := ⟨by decide +kernel, rfl⟩
theorem eX11_truth_19 : DD cX11_truth 19 (.bipush 16) 2 21 := ⟨by decide +kernel, rfl⟩
theorem eX11_truth_21 : DB cX11_truth 21 (.if_icmp .ne 7) (7) 24 28 := ⟨by decide +kernel, rfl, by decide⟩
theorem eX11_truth_24 : DD cX11_truth 24 (.iconst (-1)) 1 25 := ⟨by decide +kernel, rfl⟩
theorem eX11_truth_25 : DB cX11_truth 25 (.goto 8) (8) 28 33 := ⟨by decide +kernel, rfl, by decide⟩
theorem eX11_truth_28 : DD cX11_truth 28 (.iload 5) 2 30 := ⟨by decide +kernel, rfl⟩
theorem eX11_truth_30 : DD cX11_truth 30 (.bipush 17) 2 32 := ⟨by decide +kernel, rfl⟩
theorem eX11_truth_32 : DD cX11_truth 32 (.idiv) 1 33 := ⟨by decide +kernel, rfl⟩
theorem eX11_truth_33 : DD cX11_truth 33 (.istore 6) 2 35 := ⟨by decide +kernel, rfl⟩
theorem eX11_truth_35 : DD cX11_truth 35 (.iload 5) 2 37 := ⟨by decide +kernel, rfl⟩
theorem eX11_truth_37 : DD cX11_truth 37 (.bipush 17) 2 39 := ⟨by decide +kernel, rfl⟩
theorem eX11_truth_39 : DD cX11_truth 39 (.irem) 1 40 := ⟨by decide +kernel, rfl⟩
theorem eX11_truth_40 : DD cX11_truth 40 (.bipush 16) 2 42 := ⟨by decide +kernel, rfl⟩
theorem eX11_truth_42 : DB cX11_truth 42 (.if_icmp .ne 7) (7) 45 49 := ⟨by decide +kernel, rfl, by decide⟩
theorem eX11_truth_45 : DD cX11_truth 45 (.iconst (-1)) 1 46 := ⟨by decide +kernel, rfl⟩
theorem eX11_truth_46 : DB cX11_truth 46 (.goto 8) (8) 49 54 := ⟨by decide +kernel, rfl, by decide⟩
theorem eX11_truth_49 : DD cX11_truth 49 (.iload 5) 2 51 := ⟨by decide +kernel, rfl⟩
theorem eX11_truth_51 : DD cX11_truth 51 (.bipush 17) 2 53 := ⟨by decide +kernel, rfl⟩
theorem eX11_truth_53 : DD cX11_truth 53 (.irem) 1 54 := ⟨by decide +kernel, rfl⟩
theorem eX11_truth_54 : DD cX11_truth 54 (.istore 7) 2 56 := ⟨by decide +kernel, rfl⟩
theorem eX11_truth_56 : DD cX11_truth 56 (.aload_n 0) 1 57 := ⟨by decide +kernel, rfl⟩
theorem eX11_truth_57 : DD cX11_truth 57 (.getfield 34) 3 60 := ⟨by decide +kernel, rfl⟩
theorem eX11_truth_60 : DD cX11_truth 60 (.sipush 357) 3 63 := ⟨by decide +kernel, rfl⟩
theorem eX11_truth_63 : DD cX11_truth 63 (.iload_n 1) 1 64 := ⟨by decide +kernel, rfl⟩
theorem eX11_truth_64 : DD cX11_truth 64 (.imul) 1 65 := ⟨by decide +kernel, rfl⟩
theorem eX11_truth_65 : DD cX11_truth 65 (.iload 5) 2 67 := ⟨by decide +kernel, rfl⟩
theorem eX11_truth_67 : DD cX11_truth 67 (.iadd) 1 68 := ⟨by decide +kernel, rfl⟩
theorem eX11_truth_68 : DD cX11_truth 68 (.iaload) 1 69 := ⟨by decide +kernel, rfl⟩
theorem eX11_truth_69 : DB cX11_truth 69 (.ifCond .le 50) (50) 72 119 := ⟨by decide +kernel, rfl, by decide⟩
theorem eX11_truth_72 : DD cX11_truth 72 (.iload_n 3) 1 73 := ⟨by decide +kernel, rfl⟩
theorem eX11_truth_73 : DB cX11_truth 73 (.ifCond .eq 12) (12) 76 85 := ⟨by decide +kernel, rfl, by decide⟩
theorem eX11_truth_76 : DD cX11_truth 76 (.aload_n 0) 1 77 := ⟨by decide +kernel, rfl⟩
theorem eX11_truth_77 : DD cX11_truth 77 (.invokevirtual 347) 3 80 := ⟨by decide +kernel, rfl⟩
theorem eX11_truth_80 : DB cX11_truth 80 (.ifCond .eq 5) (5) 83 85 := ⟨by decide +kernel, rfl, by decide⟩
theorem eX11_truth_83 : DD cX11_truth 83 (.iconst (-1)) 1 84 := ⟨by decide +kernel, rfl⟩
theorem eX11_truth_84 : DD cX11_truth 84 (.ireturn) 1 85 := ⟨by decide +kernel, rfl⟩
theorem eX11_truth_85 : DD cX11_truth 85 (.iload 4) 2 87 := ⟨by decide +kernel, rfl⟩
theorem eX11_truth_87 : DD cX11_truth 87 (.aload_n 0) 1 88 := ⟨by decide +kernel, rfl⟩
theorem eX11_truth_88 : DD cX11_truth 88 (.iload_n 2) 1 89 := ⟨by decide +kernel, rfl⟩
theorem eX11_truth_89 : DD cX11_truth 89 (.iload 6) 2 91 := ⟨by decide +kernel, rfl⟩
theorem eX11_truth_91 : DD cX11_truth 91 (.iload 7) 2 93 := ⟨by decide +kernel, rfl⟩
theorem eX11_truth_93 : DD cX11_truth 93 (.invokevirtual 350) 3 96 := ⟨by decide +kernel, rfl⟩
theorem eX11_truth_96 : DB cX11_truth 96 (.ifCond .eq 19) (19) 99 115 := ⟨by decide +kernel, rfl, by decide⟩
theorem eX11_truth_99 : DD cX11_truth 99 (.aload_n 0) 1 100 := ⟨by decide +kernel, rfl⟩
theorem eX11_truth_100 : DD cX11_truth 100 (.getfield 34) 3 103 := ⟨by decide +kernel, rfl⟩
theorem eX11_truth_103 : DD cX11_truth 103 (.sipush 357) 3 106 := ⟨by decide +kernel, rfl⟩
theorem eX11_truth_106 : DD cX11_truth 106 (.iload_n 1) 1 107 := ⟨by decide +kernel, rfl⟩
theorem eX11_truth_107 : DD cX11_truth 107 (.imul) 1 108 := ⟨by decide +kernel, rfl⟩
theorem eX11_truth_108 : DD cX11_truth 108 (.iload 5) 2 110 := ⟨by decide +kernel, rfl⟩
theorem eX11_truth_110 : DD cX11_truth 110 (.iadd) 1 111 := ⟨by decide +kernel, rfl⟩
theorem eX11_truth_111 : DD cX11_truth 111 (.iaload) 1 112 := ⟨by decide +kernel, rfl⟩
theorem eX11_truth_112 : DB cX11_truth 112 (.goto 4) (4) 115 116 := ⟨by decide +kernel, rfl, by decide⟩
theorem eX11_truth_115 : DD cX11_truth 115 (.iconst 0) 1 116 := ⟨by decide +kernel, rfl⟩
theorem eX11_truth_116 : DD cX11_truth 116 (.iadd) 1 117 := ⟨by decide +kernel, rfl⟩
theorem eX11_truth_117 : DD cX11_truth 117 (.istore 4) 2 119 := ⟨by decide +kernel, rfl⟩
theorem eX11_truth_119 : DD cX11_truth 119 (.iinc 5 1) 3 122 := ⟨by decide +kernel, rfl⟩
theorem eX11_truth_122 : DB cX11_truth 122 (.goto (-116)) (-116) 125 6 := ⟨by decide +kernel, rfl, by decide⟩
theorem eX11_truth_125 : DD cX11_truth 125 (.iload 4) 2 127 := ⟨by decide +kernel, rfl⟩
theorem eX11_truth_127 : DD cX11_truth 127 (.ireturn) 1 128 := ⟨by decide +kernel, rfl⟩
def F_X11_truth_119 (kc_6 : Int32 → Int32 → Int32 → Int32 → Int32 → Mem → Option (Int32 × Mem)) (x1 : Int32) (x2 : Int32) (x3 : Int32) (x4 : Int32) (x5 : Int32) (μ : Mem) : Option (Int32 × Mem) :=
  lb (x5 + (1 : Int32)) (fun x5_1 => kc_6 x1 x2 x3 x4 x5_1 μ)
set_option maxHeartbeats 4000000 in
theorem j_X11_truth_119 {C : Cx} (hC : Ok C cX11_truth 8 RX11 (rmF 4 98)) (hr : (cT C).sig.returnType = (some .int)) (kc_6 : Int32 → Int32 → Int32 → Int32 → Int32 → Mem → Option (Int32 × Mem)) (hk_6 : ∀ (x1 : Int32) (x2 : Int32) (x3 : Int32) (x4 : Int32) (x5 : Int32) (μ : Mem), J C (KI C) μ 6 [(0, .ref (xad (cX C) 107)), (1, .int x1), (2, .int x2), (3, .int x3), (4, .int x4), (5, .int x5)] [] (kc_6 x1 x2 x3 x4 x5 μ)) (x1 : Int32) (x2 : Int32) (x3 : Int32) (x4 : Int32) (x5 : Int32) (μ : Mem) : J C (KI C) μ 119 [(0, .ref (xad (cX C) 107)), (1, .int x1), (2, .int x2), (3, .int x3), (4, .int x4), (5, .int x5)] [] (F_X11_truth_119 kc_6 x1 x2 x3 x4 x5 μ) := by
  unfold F_X11_truth_119
  refine J.iinc (j := 5) (fun x5_1 => [(5, .int x5_1), (0, .ref (xad (cX C) 107)), (1, .int x1), (2, .int x2), (3, .int x3), (4, .int x4)]) hC eX11_truth_119 rfl ci_1 (by decide) (fun _ => rfl) (fun x5_1 => ?_)
  refine J.goto hC eX11_truth_122 ?_
  refine J.sub [1, 2, 3, 4, 5, 0] rfl ?_
  exact hk_6 x1 x2 x3 x4 x5_1 μ
def F_X11_truth_116 (kc_6 : Int32 → Int32 → Int32 → Int32 → Int32 → Mem → Option (Int32 × Mem)) (x1 : Int32) (x2 : Int32) (x3 : Int32) (x5 : Int32) (xs0 : Int32) (xs1 : Int32) (μ : Mem) : Option (Int32 × Mem) :=
  lb (xs0 + xs1) (fun x4_1 => F_X11_truth_119 kc_6 x1 x2 x3 x4_1 x5 μ)
set_option maxHeartbeats 4000000 in
theorem j_X11_truth_116 {C : Cx} (hC : Ok C cX11_truth 8 RX11 (rmF 4 98)) (hr : (cT C).sig.returnType = (some .int)) (kc_6 : Int32 → Int32 → Int32 → Int32 → Int32 → Mem → Option (Int32 × Mem)) (hk_6 : ∀ (x1 : Int32) (x2 : Int32) (x3 : Int32) (x4 : Int32) (x5 : Int32) (μ : Mem), J C (KI C) μ 6 [(0, .ref (xad (cX C) 107)), (1, .int x1), (2, .int x2), (3, .int x3), (4, .int x4), (5, .int x5)] [] (kc_6 x1 x2 x3 x4 x5 μ)) (x1 : Int32) (x2 : Int32) (x3 : Int32) (x5 : Int32) (xs0 : Int32) (xs1 : Int32) (μ : Mem) : J C (KI C) μ 116 [(0, .ref (xad (cX C) 107)), (1, .int x1), (2, .int x2), (3, .int x3), (5, .int x5)] [.int xs1, .int xs0] (F_X11_truth_116 kc_6 x1 x2 x3 x5 xs0 xs1 μ) := by
  unfold F_X11_truth_116
  refine J.iadd hC eX11_truth_116 ?_
  refine J.topi (fun x4_1 => ?_)
  refine J.istore [(4, .int x4_1), (0, .ref (xad (cX C) 107)), (1, .int x1), (2, .int x2), (3, .int x3), (5, .int x5)] hC eX11_truth_117 (by decide) rfl ?_
  refine J.sub [1, 2, 3, 4, 0, 5] rfl ?_
  exact j_X11_truth_119 hC hr kc_6 hk_6 x1 x2 x3 x4_1 x5 μ
def F_X11_truth_85 (kc_6 : Int32 → Int32 → Int32 → Int32 → Int32 → Mem → Option (Int32 × Mem)) (x1 : Int32) (x2 : Int32) (x3 : Int32) (x4 : Int32) (x5 : Int32) (x6 : Int32) (x7 : Int32) (μ : Mem) : Option (Int32 × Mem) :=
  bd (G_X11_holds x2 x6 x7 μ) (fun r_2 μ_1 => if r_2 = 0 then F_X11_truth_116 kc_6 x1 x2 x3 x5 x4 (0 : Int32) μ_1 else gq (inB (((357 : Int32) * x1) + x5) 1253) (F_X11_truth_116 kc_6 x1 x2 x3 x5 x4 (rI μ_1 116 (nx (((357 : Int32) * x1) + x5))) μ_1))
set_option maxHeartbeats 4000000 in
theorem j_X11_truth_85 {C : Cx} (hC : Ok C cX11_truth 8 RX11 (rmF 4 98)) (hr : (cT C).sig.returnType = (some .int)) (kc_6 : Int32 → Int32 → Int32 → Int32 → Int32 → Mem → Option (Int32 × Mem)) (hk_6 : ∀ (x1 : Int32) (x2 : Int32) (x3 : Int32) (x4 : Int32) (x5 : Int32) (μ : Mem), J C (KI C) μ 6 [(0, .ref (xad (cX C) 107)), (1, .int x1), (2, .int x2), (3, .int x3), (4, .int x4), (5, .int x5)] [] (kc_6 x1 x2 x3 x4 x5 μ)) (x1 : Int32) (x2 : Int32) (x3 : Int32) (x4 : Int32) (x5 : Int32) (x6 : Int32) (x7 : Int32) (μ : Mem) : J C (KI C) μ 85 [(0, .ref (xad (cX C) 107)), (1, .int x1), (2, .int x2), (3, .int x3), (4, .int x4), (5, .int x5), (6, .int x6), (7, .int x7)] [] (F_X11_truth_85 kc_6 x1 x2 x3 x4 x5 x6 x7 μ) := by
  unfold F_X11_truth_85
  refine J.iload (j := 4) hC eX11_truth_85 rfl ?_
  refine J.aload_n (j := 0) hC eX11_truth_87 rfl ?_
  refine J.iload_n (j := 2) hC eX11_truth_88 rfl ?_
  refine J.iload (j := 6) hC eX11_truth_89 rfl ?_
  refine J.iload (j := 7) hC eX11_truth_91 rfl ?_
  refine J.callVI (st := [.int x4]) hC eX11_truth_93 kk_107 (by decide) rfl rfl ml_X11_350 mv_X11_holds (Rle_of (Nat.le_of_ble_eq_true rfl) (Nat.le_of_ble_eq_true rfl)) (c_X11_holds hC.X x2 x6 x7 μ) rfl rfl (Nat.le_of_ble_eq_true rfl) (fun r_2 μ_1 => ?_)
  refine J.if_eq hC eX11_truth_96 (fun _ => ?_) (fun _ => ?_)
  · refine J.iconst hC eX11_truth_115 ci_0 ?_
    refine J.sub [0, 1, 2, 3, 5] rfl ?_
    exact j_X11_truth_116 hC hr kc_6 hk_6 x1 x2 x3 x5 x4 (0 : Int32) μ_1
  · refine J.aload_n (j := 0) hC eX11_truth_99 rfl ?_
    refine gf_X11_34 (q := 116) hC eX11_truth_100 kk_107 rfl ?_
    refine J.sipush hC eX11_truth_103 cs_357 ?_
    refine J.iload_n (j := 1) hC eX11_truth_106 rfl ?_
    refine J.imul hC eX11_truth_107 ?_
    refine J.iload (j := 5) hC eX11_truth_108 rfl ?_
    refine J.iadd hC eX11_truth_110 ?_
    refine J.iald ik_1253 hC eX11_truth_111 kk_116 ?_
    refine J.goto hC eX11_truth_112 ?_
    refine J.sub [0, 1, 2, 3, 5] rfl ?_
    exact j_X11_truth_116 hC hr kc_6 hk_6 x1 x2 x3 x5 x4 (rI μ_1 116 (nx (((357 : Int32) * x1) + x5))) μ_1
def F_X11_truth_54 (kc_6 : Int32 → Int32 → Int32 → Int32 → Int32 → Mem → Option (Int32 × Mem)) (x1 : Int32) (x2 : Int32) (x3 : Int32) (x4 : Int32) (x5 : Int32) (x6 : Int32) (xs0 : Int32) (μ : Mem) : Option (Int32 × Mem) :=
  gq (inB (((357 : Int32) * x1) + x5) 1253) (if (rI μ 116 (nx (((357 : Int32) * x1) + x5))) ≤ 0 then F_X11_truth_119 kc_6 x1 x2 x3 x4 x5 μ else if x3 = 0 then F_X11_truth_85 kc_6 x1 x2 x3 x4 x5 x6 xs0 μ else bd (G_X11_isOver  μ) (fun r_2 μ_1 => if r_2 = 0 then F_X11_truth_85 kc_6 x1 x2 x3 x4 x5 x6 xs0 μ_1 else some ((-1 : Int32), μ_1)))
set_option maxHeartbeats 4000000 in
theorem j_X11_truth_54 {C : Cx} (hC : Ok C cX11_truth 8 RX11 (rmF 4 98)) (hr : (cT C).sig.returnType = (some .int)) (kc_6 : Int32 → Int32 → Int32 → Int32 → Int32 → Mem → Option (Int32 × Mem)) (hk_6 : ∀ (x1 : Int32) (x2 : Int32) (x3 : Int32) (x4 : Int32) (x5 : Int32) (μ : Mem), J C (KI C) μ 6 [(0, .ref (xad (cX C) 107)), (1, .int x1), (2, .int x2), (3, .int x3), (4, .int x4), (5, .int x5)] [] (kc_6 x1 x2 x3 x4 x5 μ)) (x1 : Int32) (x2 : Int32) (x3 : Int32) (x4 : Int32) (x5 : Int32) (x6 : Int32) (xs0 : Int32) (μ : Mem) : J C (KI C) μ 54 [(0, .ref (xad (cX C) 107)), (1, .int x1), (2, .int x2), (3, .int x3), (4, .int x4), (5, .int x5), (6, .int x6)] [.int xs0] (F_X11_truth_54 kc_6 x1 x2 x3 x4 x5 x6 xs0 μ) := by
  unfold F_X11_truth_54
  refine J.istore [(7, .int xs0), (0, .ref (xad (cX C) 107)), (1, .int x1), (2, .int x2), (3, .int x3), (4, .int x4), (5, .int x5), (6, .int x6)] hC eX11_truth_54 (by decide) rfl ?_
  refine J.aload_n (j := 1) hC eX11_truth_56 rfl ?_
  refine gf_X11_34 (q := 116) hC eX11_truth_57 kk_107 rfl ?_
  refine J.sipush hC eX11_truth_60 cs_357 ?_
  refine J.iload_n (j := 2) hC eX11_truth_63 rfl ?_
  refine J.imul hC eX11_truth_64 ?_
  refine J.iload (j := 6) hC eX11_truth_65 rfl ?_
  refine J.iadd hC eX11_truth_67 ?_
  refine J.iald ik_1253 hC eX11_truth_68 kk_116 ?_
  refine J.if_le hC eX11_truth_69 (fun _ => ?_) (fun _ => ?_)
  · refine J.sub [1, 2, 3, 4, 5, 6] rfl ?_
    exact j_X11_truth_119 hC hr kc_6 hk_6 x1 x2 x3 x4 x5 μ
  · refine J.iload_n (j := 4) hC eX11_truth_72 rfl ?_
    refine J.if_eq hC eX11_truth_73 (fun _ => ?_) (fun _ => ?_)
    · refine J.sub [1, 2, 3, 4, 5, 6, 7, 0] rfl ?_
      exact j_X11_truth_85 hC hr kc_6 hk_6 x1 x2 x3 x4 x5 x6 xs0 μ
    · refine J.aload_n (j := 1) hC eX11_truth_76 rfl ?_
      refine J.callVI (st := []) hC eX11_truth_77 kk_107 (by decide) rfl rfl ml_X11_347 mv_X11_isOver (Rle_of (Nat.le_of_ble_eq_true rfl) (Nat.le_of_ble_eq_true rfl)) (c_X11_isOver hC.X  μ) rfl rfl (Nat.le_of_ble_eq_true rfl) (fun r_2 μ_1 => ?_)
      refine J.if_eq hC eX11_truth_80 (fun _ => ?_) (fun _ => ?_)
      · refine J.sub [1, 2, 3, 4, 5, 6, 7, 0] rfl ?_
        exact j_X11_truth_85 hC hr kc_6 hk_6 x1 x2 x3 x4 x5 x6 xs0 μ_1
      · refine J.iconst hC eX11_truth_83 ci_m1 ?_
        exact J.iret hC hr eX11_truth_84
def F_X11_truth_33 (kc_6 : Int32 → Int32 → Int32 → Int32 → Int32 → Mem → Option (Int32 × Mem)) (x1 : Int32) (x2 : Int32) (x3 : Int32) (x4 : Int32) (x5 : Int32) (xs0 : Int32) (μ : Mem) : Option (Int32 × Mem) :=
  if (x5 - x5 / (17 : Int32) * (17 : Int32)) = (16 : Int32) then F_X11_truth_54 kc_6 x1 x2 x3 x4 x5 xs0 (-1 : Int32) μ else F_X11_truth_54 kc_6 x1 x2 x3 x4 x5 xs0 (x5 - x5 / (17 : Int32) * (17 : Int32)) μ
set_option maxHeartbeats 4000000 in
theorem j_X11_truth_33 {C : Cx} (hC : Ok C cX11_truth 8 RX11 (rmF 4 98)) (hr : (cT C).sig.returnType = (some .int)) (kc_6 : Int32 → Int32 → Int32 → Int32 → Int32 → Mem → Option (Int32 × Mem)) (hk_6 : ∀ (x1 : Int32) (x2 : Int32) (x3 : Int32) (x4 : Int32) (x5 : Int32) (μ : Mem), J C (KI C) μ 6 [(0, .ref (xad (cX C) 107)), (1, .int x1), (2, .int x2), (3, .int x3), (4, .int x4), (5, .int x5)] [] (kc_6 x1 x2 x3 x4 x5 μ)) (x1 : Int32) (x2 : Int32) (x3 : Int32) (x4 : Int32) (x5 : Int32) (xs0 : Int32) (μ : Mem) : J C (KI C) μ 33 [(0, .ref (xad (cX C) 107)), (1, .int x1), (2, .int x2), (3, .int x3), (4, .int x4), (5, .int x5)] [.int xs0] (F_X11_truth_33 kc_6 x1 x2 x3 x4 x5 xs0 μ) := by
  unfold F_X11_truth_33
  refine J.istore [(6, .int xs0), (0, .ref (xad (cX C) 107)), (1, .int x1), (2, .int x2), (3, .int x3), (4, .int x4), (5, .int x5)] hC eX11_truth_33 (by decide) rfl ?_
  refine J.iload (j := 6) hC eX11_truth_35 rfl ?_
  refine J.bipush hC eX11_truth_37 cb_17 ?_
  refine J.iremK hC eX11_truth_39 (by decide) ?_
  refine J.bipush hC eX11_truth_40 cb_16 ?_
  refine J.icmp_ne hC eX11_truth_42 (fun _ => ?_) (fun _ => ?_)
  · refine J.iconst hC eX11_truth_45 ci_m1 ?_
    refine J.goto hC eX11_truth_46 ?_
    refine J.sub [1, 2, 3, 4, 5, 6, 0] rfl ?_
    exact j_X11_truth_54 hC hr kc_6 hk_6 x1 x2 x3 x4 x5 xs0 (-1 : Int32) μ
  · refine J.iload (j := 6) hC eX11_truth_49 rfl ?_
    refine J.bipush hC eX11_truth_51 cb_17 ?_
    refine J.iremK hC eX11_truth_53 (by decide) ?_
    refine J.sub [1, 2, 3, 4, 5, 6, 0] rfl ?_
    exact j_X11_truth_54 hC hr kc_6 hk_6 x1 x2 x3 x4 x5 xs0 (x5 - x5 / (17 : Int32) * (17 : Int32)) μ
def L_X11_truth_6 : Nat → Int32 → Int32 → Int32 → Int32 → Int32 → Mem → Option (Int32 × Mem)
  | 0, _, _, _, _, _, _ => none
  | n + 1, x1, x2, x3, x4, x5, μ => if (289 : Int32) ≤ x5 then some (x4, μ) else if (x5 / (17 : Int32)) = (16 : Int32) then F_X11_truth_33 (L_X11_truth_6  n) x1 x2 x3 x4 x5 (-1 : Int32) μ else F_X11_truth_33 (L_X11_truth_6  n) x1 x2 x3 x4 x5 (x5 / (17 : Int32)) μ
set_option maxHeartbeats 4000000 in
theorem j_X11_truth_6 {C : Cx} (hC : Ok C cX11_truth 8 RX11 (rmF 4 98)) (hr : (cT C).sig.returnType = (some .int)) : ∀ (n : Nat) (x1 : Int32) (x2 : Int32) (x3 : Int32) (x4 : Int32) (x5 : Int32) (μ : Mem), J C (KI C) μ 6 [(0, .ref (xad (cX C) 107)), (1, .int x1), (2, .int x2), (3, .int x3), (4, .int x4), (5, .int x5)] [] (L_X11_truth_6  n x1 x2 x3 x4 x5 μ) := by
  intro n
  induction n with
  | zero => intros; exact J.no
  | succ n ih =>
    intro x1 x2 x3 x4 x5 μ
    rw [L_X11_truth_6]
    refine J.iload (j := 5) hC eX11_truth_6 rfl ?_
    refine J.sipush hC eX11_truth_8 cs_289 ?_
    refine J.icmp_ge hC eX11_truth_11 (fun _ => ?_) (fun _ => ?_)
    · refine J.iload (j := 4) hC eX11_truth_125 rfl ?_
      exact J.iret hC hr eX11_truth_127
    · refine J.iload (j := 5) hC eX11_truth_14 rfl ?_
      refine J.bipush hC eX11_truth_16 cb_17 ?_
      refine J.idivK hC eX11_truth_18 (by decide) ?_
      refine J.bipush hC eX11_truth_19 cb_16 ?_
      refine J.icmp_ne hC eX11_truth_21 (fun _ => ?_) (fun _ => ?_)
      · refine J.iconst hC eX11_truth_24 ci_m1 ?_
        refine J.goto hC eX11_truth_25 ?_
        refine J.sub [0, 1, 2, 3, 4, 5] rfl ?_
        exact j_X11_truth_33 hC hr (L_X11_truth_6  n) ih x1 x2 x3 x4 x5 (-1 : Int32) μ
      · refine J.iload (j := 5) hC eX11_truth_28 rfl ?_
        refine J.bipush hC eX11_truth_30 cb_17 ?_
        refine J.idivK hC eX11_truth_32 (by decide) ?_
        refine J.sub [0, 1, 2, 3, 4, 5] rfl ?_
        exact j_X11_truth_33 hC hr (L_X11_truth_6  n) ih x1 x2 x3 x4 x5 (x5 / (17 : Int32)) μ
def G_X11_truth (x1 : Int32) (x2 : Int32) (x3 : Int32) (μ : Mem) : Option (Int32 × Mem) :=
  L_X11_truth_6  100000 x1 x2 x3 (0 : Int32) (0 : Int32) μ
set_option maxHeartbeats 4000000 in
theorem c_X11_truth {X : Wd} (hX : WdOk X) (x1 : Int32) (x2 : Int32) (x3 : Int32) (μ : Mem) : CtI X yX11_truth cX11_truth 8 (some .int) (rmF 4 98) [.ref (xad X 107), .int x1, .int x2, .int x3] μ (G_X11_truth x1 x2 x3 μ) := by
  refine CtI.of hX (plainFor_of_name (by decide)) (by exact Nat.le_of_ble_eq_true rfl) ?_
  intro C hCX hC hr
  subst hCX
  show J C (KI C) μ 0 [(0, .ref (xad (cX C) 107)), (1, .int x1), (2, .int x2), (3, .int x3)] [] _
  unfold G_X11_truth
  refine J.iconst hC eX11_truth_0 ci_0 ?_
  refine J.istore [(4, .int (0 : Int32)), (0, .ref (xad (cX C) 107)), (1, .int x1), (2, .int x2), (3, .int x3)] hC eX11_truth_1 (by decide) rfl ?_
  refine J.iconst hC eX11_truth_3 ci_0 ?_
  refine J.istore [(5, .int (0 : Int32)), (4, .int (0 : Int32)), (0, .ref (xad (cX C) 107)), (1, .int x1), (2, .int x2), (3, .int x3)] hC eX11_truth_4 (by decide) rfl ?_
  refine J.sub [2, 3, 4, 5, 1, 0] rfl ?_
  exact j_X11_truth_6 hC hr  100000 x1 x2 x3 (0 : Int32) (0 : Int32) μ
-- X11_unitBy
theorem eX11_unitBy_0 : DD cX11_unitBy 0 (.aload_n 0) 1 1 := ⟨by decide +kernel, rfl⟩
theorem eX11_unitBy_1 : DD cX11_unitBy 1 (.iload_n 2) 1 2 := ⟨by decide +kernel, rfl⟩
theorem eX11_unitBy_2 : DD cX11_unitBy 2 (.iload_n 3) 1 3 := ⟨by decide +kernel, rfl⟩
theorem eX11_unitBy_3 : DD cX11_unitBy 3 (.iconst 1) 1 4 := ⟨by decide +kernel, rfl⟩
theorem eX11_unitBy_4 : DD cX11_unitBy 4 (.invokevirtual 335) 3 7 := ⟨by decide +kernel, rfl⟩
theorem eX11_unitBy_7 : DD cX11_unitBy 7 (.istore 5) 2 9 := ⟨by decide +kernel, rfl⟩
theorem eX11_unitBy_9 : DD cX11_unitBy 9 (.aload_n 0) 1 10 := ⟨by decide +kernel, rfl⟩
theorem eX11_unitBy_10 : DD cX11_unitBy 10 (.iload_n 2) 1 11 := ⟨by decide +kernel, rfl⟩
theorem eX11_unitBy_11 : DD cX11_unitBy 11 (.iload_n 3) 1 12 := ⟨by decide +kernel, rfl⟩
theorem eX11_unitBy_12 : DD cX11_unitBy 12 (.iconst 2) 1 13 := ⟨by decide +kernel, rfl⟩
theorem eX11_unitBy_13 : DD cX11_unitBy 13 (.invokevirtual 335) 3 16 := ⟨by decide +kernel, rfl⟩
theorem eX11_unitBy_16 : DD cX11_unitBy 16 (.iconst 3) 1 17 := ⟨by decide +kernel, rfl⟩
theorem eX11_unitBy_17 : DB cX11_unitBy 17 (.if_icmp .ne 12) (12) 20 29 := ⟨by decide +kernel, rfl, by decide⟩
theorem eX11_unitBy_20 : DD cX11_unitBy 20 (.aload_n 0) 1 21 := ⟨by decide +kernel, rfl⟩
theorem eX11_unitBy_21 : DD cX11_unitBy 21 (.iload_n 1) 1 22 := ⟨by decide +kernel, rfl⟩
theorem eX11_unitBy_22 : DD cX11_unitBy 22 (.iload 5) 2 24 := ⟨by decide +kernel, rfl⟩
theorem eX11_unitBy_24 : DD cX11_unitBy 24 (.iconst (-1)) 1 25 := ⟨by decide +kernel, rfl⟩
theorem eX11_unitBy_25 : DD cX11_unitBy 25 (.invokevirtual 167) 3 28 := ⟨by decide +kernel, rfl⟩
theorem eX11_unitBy_28 : DD cX11_unitBy 28 (.ireturn) 1 29 := ⟨by decide +kernel, rfl⟩
theorem eX11_unitBy_29 : DD cX11_unitBy 29 (.iconst 0) 1 30 := ⟨by decide +kernel, rfl⟩
theorem eX11_unitBy_30 : DD cX11_unitBy 30 (.istore 6) 2 32 := ⟨by decide +kernel, rfl⟩
theorem eX11_unitBy_32 : DD cX11_unitBy 32 (.iconst 0) 1 33 := ⟨by decide +kernel, rfl⟩
theorem eX11_unitBy_33 : DD cX11_unitBy 33 (.istore 7) 2 35 := ⟨by decide +kernel, rfl⟩
theorem eX11_unitBy_35 : DD cX11_unitBy 35 (.iload 7) 2 37 := ⟨by decide +kernel, rfl⟩
theorem eX11_unitBy_37 : DD cX11_unitBy 37 (.aload_n 0) 1 38 := ⟨by decide +kernel, rfl⟩
theorem eX11_unitBy_38 : DD cX11_unitBy 38 (.iload_n 1) 1 39 := ⟨by decide +kernel, rfl⟩
theorem eX11_unitBy_39 : DD cX11_unitBy 39 (.iload 5) 2 41 := ⟨by decide +kernel, rfl⟩
theorem eX11_unitBy_41 : DD cX11_unitBy 41 (.invokevirtual 238) 3 44 := ⟨by decide +kernel, rfl⟩
theorem eX11_unitBy_44 : DB cX11_unitBy 44 (.if_icmp .ge 192) (192) 47 236 := ⟨by decide +kernel, rfl, by decide⟩
theorem eX11_unitBy_47 : DD cX11_unitBy 47 (.aload_n 0) 1 48 := ⟨by decide +kernel, rfl⟩
theorem eX11_unitBy_48 : DD cX11_unitBy 48 (.iload_n 1) 1 49 := ⟨by decide +kernel, rfl⟩
theorem eX11_unitBy_49 : DD cX11_unitBy 49 (.iload 5) 2 51 := ⟨by decide +kernel, rfl⟩
theorem eX11_unitBy_51 : DD cX11_unitBy 51 (.iload 7) 2 53 := ⟨by decide +kernel, rfl⟩
theorem eX11_unitBy_53 : DD cX11_unitBy 53 (.iconst 1) 1 54 := ⟨by decide +kernel, rfl⟩
theorem eX11_unitBy_54 : DD cX11_unitBy 54 (.invokevirtual 241) 3 57 := ⟨by decide +kernel, rfl⟩
theorem eX11_unitBy_57 : DD cX11_unitBy 57 (.aload_n 0) 1 58 := ⟨by decide +kernel, rfl⟩
theorem eX11_unitBy_58 : DD cX11_unitBy 58 (.iload_n 1) 1 59 := ⟨by decide +kernel, rfl⟩
theorem eX11_unitBy_59 : DD cX11_unitBy 59 (.iload 5) 2 61 := ⟨by decide +kernel, rfl⟩
theorem eX11_unitBy_61 : DD cX11_unitBy 61 (.iload 7) 2 63 := ⟨by decide +kernel, rfl⟩
theorem eX11_unitBy_63 : DD cX11_unitBy 63 (.iconst 0) 1 64 := ⟨by decide +kernel, rfl⟩
theorem eX11_unitBy_64 : DD cX11_unitBy 64 (.invokevirtual 241) 3 67 := ⟨by decide +kernel, rfl⟩
theorem eX11_unitBy_67 : DD cX11_unitBy 67 (.isub) 1 68 := ⟨by decide +kernel, rfl⟩
theorem eX11_unitBy_68 : DD cX11_unitBy 68 (.iconst 1) 1 69 := ⟨by decide +kernel, rfl⟩
theorem eX11_unitBy_69 : DD cX11_unitBy 69 (.iadd) 1 70 := ⟨by decide +kernel, rfl⟩
theorem eX11_unitBy_70 : DD cX11_unitBy 70 (.istore 8) 2 72 := ⟨by decide +kernel, rfl⟩
theorem eX11_unitBy_72 : DD cX11_unitBy 72 (.iconst 0) 1 73 := ⟨by decide +kernel, rfl⟩
theorem eX11_unitBy_73 : DD cX11_unitBy 73 (.istore 9) 2 75 := ⟨by decide +kernel, rfl⟩
theorem eX11_unitBy_75 : DD cX11_unitBy 75 (.aload_n 0) 1 76 := ⟨by decide +kernel, rfl⟩
theorem eX11_unitBy_76 : DD cX11_unitBy 76 (.iload_n 1) 1 77 := ⟨by decide +kernel, rfl⟩
theorem eX11_unitBy_77 : DD cX11_unitBy 77 (.iload 5) 2 79 := ⟨by decide +kernel, rfl⟩
theorem eX11_unitBy_79 : DD cX11_unitBy 79 (.iload 7) 2 81 := ⟨by decide +kernel, rfl⟩
theorem eX11_unitBy_81 : DD cX11_unitBy 81 (.iconst 0) 1 82 := ⟨by decide +kernel, rfl⟩
theorem eX11_unitBy_82 : DD cX11_unitBy 82 (.invokevirtual 241) 3 85 := ⟨by decide +kernel, rfl⟩
theorem eX11_unitBy_85 : DD cX11_unitBy 85 (.istore 10) 2 87 := ⟨by decide +kernel, rfl⟩
theorem eX11_unitBy_87 : DD cX11_unitBy 87 (.iload 10) 2 89 := ⟨by decide +kernel, rfl⟩
theorem eX11_unitBy_89 : DD cX11_unitBy 89 (.aload_n 0) 1 90 := ⟨by decide +kernel, rfl⟩
theorem eX11_unitBy_90 : DD cX11_unitBy 90 (.iload_n 1) 1 91 := ⟨by decide +kernel, rfl⟩
theorem eX11_unitBy_91 : DD cX11_unitBy 91 (.iload 5) 2 93 := ⟨by decide +kernel, rfl⟩
theorem eX11_unitBy_93 : DD cX11_unitBy 93 (.iload 7) 2 95 := ⟨by decide +kernel, rfl⟩
theorem eX11_unitBy_95 : DD cX11_unitBy 95 (.iconst 1) 1 96 := ⟨by decide +kernel, rfl⟩
theorem eX11_unitBy_96 : DD cX11_unitBy 96 (.invokevirtual 241) 3 99 := ⟨by decide +kernel, rfl⟩
theorem eX11_unitBy_99 : DB cX11_unitBy 99 (.if_icmp .gt 30) (30) 102 129 := ⟨by decide +kernel, rfl, by decide⟩
theorem eX11_unitBy_102 : DD cX11_unitBy 102 (.iload 9) 2 104 := ⟨by decide +kernel, rfl⟩
theorem eX11_unitBy_104 : DD cX11_unitBy 104 (.aload_n 0) 1 105 := ⟨by decide +kernel, rfl⟩
theorem eX11_unitBy_105 : DD cX11_unitBy 105 (.iload_n 2) 1 106 := ⟨by decide +kernel, rfl⟩
theorem eX11_unitBy_106 : DD cX11_unitBy 106 (.iload_n 3) 1 107 := ⟨by decide +kernel, rfl⟩
theorem eX11_unitBy_107 : DD cX11_unitBy 107 (.iload 10) 2 109 := ⟨by decide +kernel, rfl⟩
theorem eX11_unitBy_109 : DD cX11_unitBy 109 (.invokevirtual 338) 3 112 := ⟨by decide +kernel, rfl⟩
theorem eX11_unitBy_112 : DB cX11_unitBy 112 (.ifCond .eq 7) (7) 115 119 := ⟨by decide +kernel, rfl, by decide⟩
theorem eX11_unitBy_115 : DD cX11_unitBy 115 (.iconst 1) 1 116 := ⟨by decide +kernel, rfl⟩
theorem eX11_unitBy_116 : DB cX11_unitBy 116 (.goto 4) (4) 119 120 := ⟨by decide +kernel, rfl, by decide⟩
theorem eX11_unitBy_119 : DD cX11_unitBy 119 (.iconst 0) 1 120 := ⟨by decide +kernel, rfl⟩
theorem eX11_unitBy_120 : DD cX11_unitBy 120 (.iadd) 1 121 := ⟨by decide +kernel, rfl⟩
theorem eX11_unitBy_121 : DD cX11_unitBy 121 (.istore 9) 2 123 := ⟨by decide +kernel, rfl⟩
theorem eX11_unitBy_123 : DD cX11_unitBy 123 (.iinc 10 1) 3 126 := ⟨by decide +kernel, rfl⟩
theorem eX11_unitBy_126 : DB cX11_unitBy 126 (.goto (-39)) (-39) 129 87 := ⟨by decide +kernel, rfl, by decide⟩
theorem eX11_unitBy_129 : DD cX11_unitBy 129 (.aload_n 0) 1 130 := ⟨by decide +kernel, rfl⟩
theorem eX11_unitBy_130 : DD cX11_unitBy 130 (.iload_n 1) 1 131 := ⟨by decide +kernel, rfl⟩
theorem eX11_unitBy_131 : DD cX11_unitBy 131 (.iload 5) 2 133 := ⟨by decide +kernel, rfl⟩
theorem eX11_unitBy_133 : DD cX11_unitBy 133 (.iload 7) 2 135 := ⟨by decide +kernel, rfl⟩
theorem eX11_unitBy_135 : DD cX11_unitBy 135 (.iconst 2) 1 136 := ⟨by decide +kernel, rfl⟩
theorem eX11_unitBy_136 : DD cX11_unitBy 136 (.invokevirtual 241) 3 139 := ⟨by decide +kernel, rfl⟩
theorem eX11_unitBy_139 : DD cX11_unitBy 139 (.istore 10) 2 141 := ⟨by decide +kernel, rfl⟩
theorem eX11_unitBy_141 : DD cX11_unitBy 141 (.aload_n 0) 1 142 := ⟨by decide +kernel, rfl⟩
theorem eX11_unitBy_142 : DD cX11_unitBy 142 (.iload_n 1) 1 143 := ⟨by decide +kernel, rfl⟩
theorem eX11_unitBy_143 : DD cX11_unitBy 143 (.iload 5) 2 145 := ⟨by decide +kernel, rfl⟩
theorem eX11_unitBy_145 : DD cX11_unitBy 145 (.iload 7) 2 147 := ⟨by decide +kernel, rfl⟩
theorem eX11_unitBy_147 : DD cX11_unitBy 147 (.iconst 3) 1 148 := ⟨by decide +kernel, rfl⟩
theorem eX11_unitBy_148 : DD cX11_unitBy 148 (.invokevirtual 241) 3 151 := ⟨by decide +kernel, rfl⟩
theorem eX11_unitBy_151 : DD cX11_unitBy 151 (.istore 11) 2 153 := ⟨by decide +kernel, rfl⟩
theorem eX11_unitBy_153 : DD cX11_unitBy 153 (.iload 9) 2 155 := ⟨by decide +kernel, rfl⟩
theorem eX11_unitBy_155 : DB cX11_unitBy 155 (.ifCond .le 75) (75) 158 230 := ⟨by decide +kernel, rfl, by decide⟩
theorem eX11_unitBy_158 : DD cX11_unitBy 158 (.iload 9) 2 160 := ⟨by decide +kernel, rfl⟩
theorem eX11_unitBy_160 : DD cX11_unitBy 160 (.iload 8) 2 162 := ⟨by decide +kernel, rfl⟩
theorem eX11_unitBy_162 : DB cX11_unitBy 162 (.if_icmp .ne 8) (8) 165 170 := ⟨by decide +kernel, rfl, by decide⟩
theorem eX11_unitBy_165 : DD cX11_unitBy 165 (.iload 10) 2 167 := ⟨by decide +kernel, rfl⟩
theorem eX11_unitBy_167 : DB cX11_unitBy 167 (.goto 18) (18) 170 185 := ⟨by decide +kernel, rfl, by decide⟩
theorem eX11_unitBy_170 : DD cX11_unitBy 170 (.iconst 0) 1 171 := ⟨by decide +kernel, rfl⟩
theorem eX11_unitBy_171 : DD cX11_unitBy 171 (.iload 10) 2 173 := ⟨by decide +kernel, rfl⟩
theorem eX11_unitBy_173 : DD cX11_unitBy 173 (.iload 11) 2 175 := ⟨by decide +kernel, rfl⟩
theorem eX11_unitBy_175 : DD cX11_unitBy 175 (.iload 8) 2 177 := ⟨by decide +kernel, rfl⟩
theorem eX11_unitBy_177 : DD cX11_unitBy 177 (.iload 9) 2 179 := ⟨by decide +kernel, rfl⟩
theorem eX11_unitBy_179 : DD cX11_unitBy 179 (.isub) 1 180 := ⟨by decide +kernel, rfl⟩
theorem eX11_unitBy_180 : DD cX11_unitBy 180 (.imul) 1 181 := ⟨by decide +kernel, rfl⟩
theorem eX11_unitBy_181 : DD cX11_unitBy 181 (.isub) 1 182 := ⟨by decide +kernel, rfl⟩
theorem eX11_unitBy_182 : DD cX11_unitBy 182 (.invokestatic 202) 3 185 := ⟨by decide +kernel, rfl⟩
theorem eX11_unitBy_185 : DD cX11_unitBy 185 (.istore 12) 2 187 := ⟨by decide +kernel, rfl⟩
theorem eX11_unitBy_187 : DD cX11_unitBy 187 (.iload 6) 2 189 := ⟨by decide +kernel, rfl⟩
theorem eX11_unitBy_189 : DD cX11_unitBy 189 (.iload 4) 2 191 := ⟨by decide +kernel, rfl⟩
theorem eX11_unitBy_191 : DD cX11_unitBy 191 (.iconst 1) 1 192 := ⟨by decide +kernel, rfl⟩
theorem eX11_unitBy_192 : DB cX11_unitBy 192 (.if_icmp .ne 8) (8) 195 200 := ⟨by decide +kernel, rfl, by decide⟩
theorem eX11_unitBy_195 : DD cX11_unitBy 195 (.iload 12) 2 197 := ⟨by decide +kernel, rfl⟩
theorem eX11_unitBy_197 : DB cX11_unitBy 197 (.goto 30) (30) 200 227 := ⟨by decide +kernel, rfl, by decide⟩
theorem eX11_unitBy_200 : DD cX11_unitBy 200 (.iload 4) 2 202 := ⟨by decide +kernel, rfl⟩
theorem eX11_unitBy_202 : DD cX11_unitBy 202 (.iconst 2) 1 203 := ⟨by decide +kernel, rfl⟩
theorem eX11_unitBy_203 : DB cX11_unitBy 203 (.if_icmp .ne 16) (16) 206 219 := ⟨by decide +kernel, rfl, by decide⟩
theorem eX11_unitBy_206 : DD cX11_unitBy 206 (.iload 10) 2 208 := ⟨by decide +kernel, rfl⟩
theorem eX11_unitBy_208 : DD cX11_unitBy 208 (.iload 11) 2 210 := ⟨by decide +kernel, rfl⟩
theorem eX11_unitBy_210 : DD cX11_unitBy 210 (.iload 9) 2 212 := ⟨by decide +kernel, rfl⟩
theorem eX11_unitBy_212 : DD cX11_unitBy 212 (.imul) 1 213 := ⟨by decide +kernel, rfl⟩
theorem eX11_unitBy_213 : DD cX11_unitBy 213 (.invokestatic 194) 3 216 := ⟨by decide +kernel, rfl⟩
theorem eX11_unitBy_216 : DB cX11_unitBy 216 (.goto 11) (11) 219 227 := ⟨by decide +kernel, rfl, by decide⟩
theorem eX11_unitBy_219 : DD cX11_unitBy 219 (.iload 10) 2 221 := ⟨by decide +kernel, rfl⟩
theorem eX11_unitBy_221 : DD cX11_unitBy 221 (.iload 9) 2 223 := ⟨by decide +kernel, rfl⟩
theorem eX11_unitBy_223 : DD cX11_unitBy 223 (.imul) 1 224 := ⟨by decide +kernel, rfl⟩
theorem eX11_unitBy_224 : DD cX11_unitBy 224 (.iload 8) 2 226 := ⟨by decide +kernel, rfl⟩
theorem eX11_unitBy_226 : DD cX11_unitBy 226 (.idiv) 1 227 := ⟨by decide +kernel, rfl⟩
theorem eX11_unitBy_227 : DD cX11_unitBy 227 (.iadd) 1 228 := ⟨by decide +kernel, rfl⟩
theorem eX11_unitBy_228 : DD cX11_unitBy 228 (.istore 6) 2 230 := ⟨by decide +kernel, rfl⟩
theorem eX11_unitBy_230 : DD cX11_unitBy 230 (.iinc 7 1) 3 233 := ⟨by decide +kernel, rfl⟩
theorem eX11_unitBy_233 : DB cX11_unitBy 233 (.goto (-198)) (-198) 236 35 := ⟨by decide +kernel, rfl, by decide⟩
theorem eX11_unitBy_236 : DD cX11_unitBy 236 (.iload 6) 2 238 := ⟨by decide +kernel, rfl⟩
theorem eX11_unitBy_238 : DD cX11_unitBy 238 (.ireturn) 1 239 := ⟨by decide +kernel, rfl⟩
def F_X11_unitBy_230 (kc_35 : Int32 → Int32 → Int32 → Int32 → Int32 → Int32 → Int32 → Mem → Option (Int32 × Mem)) (x1 : Int32) (x2 : Int32) (x3 : Int32) (x4 : Int32) (x5 : Int32) (x6 : Int32) (x7 : Int32) (μ : Mem) : Option (Int32 × Mem) :=
  lb (x7 + (1 : Int32)) (fun x7_1 => kc_35 x1 x2 x3 x4 x5 x6 x7_1 μ)
set_option maxHeartbeats 4000000 in
theorem j_X11_unitBy_230 {C : Cx} (hC : Ok C cX11_unitBy 13 RX11 (rmF 2 48)) (hr : (cT C).sig.returnType = (some .int)) (kc_35 : Int32 → Int32 → Int32 → Int32 → Int32 → Int32 → Int32 → Mem → Option (Int32 × Mem)) (hk_35 : ∀ (x1 : Int32) (x2 : Int32) (x3 : Int32) (x4 : Int32) (x5 : Int32) (x6 : Int32) (x7 : Int32) (μ : Mem), J C (KI C) μ 35 [(0, .ref (xad (cX C) 107)), (1, .int x1), (2, .int x2), (3, .int x3), (4, .int x4), (5, .int x5), (6, .int x6), (7, .int x7)] [] (kc_35 x1 x2 x3 x4 x5 x6 x7 μ)) (x1 : Int32) (x2 : Int32) (x3 : Int32) (x4 : Int32) (x5 : Int32) (x6 : Int32) (x7 : Int32) (μ : Mem) : J C (KI C) μ 230 [(0, .ref (xad (cX C) 107)), (1, .int x1), (2, .int x2), (3, .int x3), (4, .int x4), (5, .int x5), (6, .int x6), (7, .int x7)] [] (F_X11_unitBy_230 kc_35 x1 x2 x3 x4 x5 x6 x7 μ) := by
  unfold F_X11_unitBy_230
  refine J.iinc (j := 7) (fun x7_1 => [(7, .int x7_1), (0, .ref (xad (cX C) 107)), (1, .int x1), (2, .int x2), (3, .int x3), (4, .int x4), (5, .int x5), (6, .int x6)]) hC eX11_unitBy_230 rfl ci_1 (by decide) (fun _ => rfl) (fun x7_1 => ?_)
  refine J.goto hC eX11_unitBy_233 ?_
  refine J.sub [1, 2, 3, 4, 5, 6, 7, 0] rfl ?_
  exact hk_35 x1 x2 x3 x4 x5 x6 x7_1 μ
def F_X11_unitBy_227 (kc_35 : Int32 → Int32 → Int32 → Int32 → Int32 → Int32 → Int32 → Mem → Option (Int32 × Mem)) (x1 : Int32) (x2 : Int32) (x3 : Int32) (x4 : Int32) (x5 : Int32) (x7 : Int32) (xs0 : Int32) (xs1 : Int32) (μ : Mem) : Option (Int32 × Mem) :=
  lb (xs0 + xs1) (fun x6_1 => F_X11_unitBy_230 kc_35 x1 x2 x3 x4 x5 x6_1 x7 μ)
set_option maxHeartbeats 4000000 in
theorem j_X11_unitBy_227 {C : Cx} (hC : Ok C cX11_unitBy 13 RX11 (rmF 2 48)) (hr : (cT C).sig.returnType = (some .int)) (kc_35 : Int32 → Int32 → Int32 → Int32 → Int32 → Int32 → Int32 → Mem → Option (Int32 × Mem)) (hk_35 : ∀ (x1 : Int32) (x2 : Int32) (x3 : Int32) (x4 : Int32) (x5 : Int32) (x6 : Int32) (x7 : Int32) (μ : Mem), J C (KI C) μ 35 [(0, .ref (xad (cX C) 107)), (1, .int x1), (2, .int x2), (3, .int x3), (4, .int x4), (5, .int x5), (6, .int x6), (7, .int x7)] [] (kc_35 x1 x2 x3 x4 x5 x6 x7 μ)) (x1 : Int32) (x2 : Int32) (x3 : Int32) (x4 : Int32) (x5 : Int32) (x7 : Int32) (xs0 : Int32) (xs1 : Int32) (μ : Mem) : J C (KI C) μ 227 [(0, .ref (xad (cX C) 107)), (1, .int x1), (2, .int x2), (3, .int x3), (4, .int x4), (5, .int x5), (7, .int x7)] [.int xs1, .int xs0] (F_X11_unitBy_227 kc_35 x1 x2 x3 x4 x5 x7 xs0 xs1 μ) := by
  unfold F_X11_unitBy_227
  refine J.iadd hC eX11_unitBy_227 ?_
  refine J.topi (fun x6_1 => ?_)
  refine J.istore [(6, .int x6_1), (0, .ref (xad (cX C) 107)), (1, .int x1), (2, .int x2), (3, .int x3), (4, .int x4), (5, .int x5), (7, .int x7)] hC eX11_unitBy_228 (by decide) rfl ?_
  refine J.sub [1, 2, 3, 4, 5, 6, 0, 7] rfl ?_
  exact j_X11_unitBy_230 hC hr kc_35 hk_35 x1 x2 x3 x4 x5 x6_1 x7 μ
def F_X11_unitBy_185 (kc_35 : Int32 → Int32 → Int32 → Int32 → Int32 → Int32 → Int32 → Mem → Option (Int32 × Mem)) (x1 : Int32) (x2 : Int32) (x3 : Int32) (x4 : Int32) (x5 : Int32) (x6 : Int32) (x7 : Int32) (x8 : Int32) (x9 : Int32) (x10 : Int32) (x11 : Int32) (xs0 : Int32) (μ : Mem) : Option (Int32 × Mem) :=
  if x4 = (1 : Int32) then F_X11_unitBy_227 kc_35 x1 x2 x3 x4 x5 x7 x6 xs0 μ else if x4 = (2 : Int32) then F_X11_unitBy_227 kc_35 x1 x2 x3 x4 x5 x7 x6 (imin x10 (x11 * x9)) μ else gq (decide (¬ x8 = 0)) (F_X11_unitBy_227 kc_35 x1 x2 x3 x4 x5 x7 x6 ((x10 * x9) / x8) μ)
set_option maxHeartbeats 4000000 in
theorem j_X11_unitBy_185 {C : Cx} (hC : Ok C cX11_unitBy 13 RX11 (rmF 2 48)) (hr : (cT C).sig.returnType = (some .int)) (kc_35 : Int32 → Int32 → Int32 → Int32 → Int32 → Int32 → Int32 → Mem → Option (Int32 × Mem)) (hk_35 : ∀ (x1 : Int32) (x2 : Int32) (x3 : Int32) (x4 : Int32) (x5 : Int32) (x6 : Int32) (x7 : Int32) (μ : Mem), J C (KI C) μ 35 [(0, .ref (xad (cX C) 107)), (1, .int x1), (2, .int x2), (3, .int x3), (4, .int x4), (5, .int x5), (6, .int x6), (7, .int x7)] [] (kc_35 x1 x2 x3 x4 x5 x6 x7 μ)) (x1 : Int32) (x2 : Int32) (x3 : Int32) (x4 : Int32) (x5 : Int32) (x6 : Int32) (x7 : Int32) (x8 : Int32) (x9 : Int32) (x10 : Int32) (x11 : Int32) (xs0 : Int32) (μ : Mem) : J C (KI C) μ 185 [(0, .ref (xad (cX C) 107)), (1, .int x1), (2, .int x2), (3, .int x3), (4, .int x4), (5, .int x5), (6, .int x6), (7, .int x7), (8, .int x8), (9, .int x9), (10, .int x10), (11, .int x11)] [.int xs0] (F_X11_unitBy_185 kc_35 x1 x2 x3 x4 x5 x6 x7 x8 x9 x10 x11 xs0 μ) := by
  unfold F_X11_unitBy_185
  refine J.istore [(12, .int xs0), (0, .ref (xad (cX C) 107)), (1, .int x1), (2, .int x2), (3, .int x3), (4, .int x4), (5, .int x5), (6, .int x6), (7, .int x7), (8, .int x8), (9, .int x9), (10, .int x10), (11, .int x11)] hC eX11_unitBy_185 (by decide) rfl ?_
  refine J.iload (j := 7) hC eX11_unitBy_187 rfl ?_
  refine J.iload (j := 5) hC eX11_unitBy_189 rfl ?_
  refine J.iconst hC eX11_unitBy_191 ci_1 ?_
  refine J.icmp_ne hC eX11_unitBy_192 (fun _ => ?_) (fun _ => ?_)
  · refine J.iload (j := 0) hC eX11_unitBy_195 rfl ?_
    refine J.goto hC eX11_unitBy_197 ?_
    refine J.sub [1, 2, 3, 4, 5, 6, 8] rfl ?_
    exact j_X11_unitBy_227 hC hr kc_35 hk_35 x1 x2 x3 x4 x5 x7 x6 xs0 μ
  · refine J.iload (j := 5) hC eX11_unitBy_200 rfl ?_
    refine J.iconst hC eX11_unitBy_202 ci_2 ?_
    refine J.icmp_ne hC eX11_unitBy_203 (fun _ => ?_) (fun _ => ?_)
    · refine J.iload (j := 11) hC eX11_unitBy_206 rfl ?_
      refine J.iload (j := 12) hC eX11_unitBy_208 rfl ?_
      refine J.iload (j := 10) hC eX11_unitBy_210 rfl ?_
      refine J.imul hC eX11_unitBy_212 ?_
      refine J.mmin hC eX11_unitBy_213 ml_X11_194 w_smin w_im w_cmin (Nat.le_of_ble_eq_true rfl) (Nat.le_of_ble_eq_true rfl) ?_
      refine J.goto hC eX11_unitBy_216 ?_
      refine J.sub [1, 2, 3, 4, 5, 6, 8] rfl ?_
      exact j_X11_unitBy_227 hC hr kc_35 hk_35 x1 x2 x3 x4 x5 x7 x6 (imin x10 (x11 * x9)) μ
    · refine J.iload (j := 11) hC eX11_unitBy_219 rfl ?_
      refine J.iload (j := 10) hC eX11_unitBy_221 rfl ?_
      refine J.imul hC eX11_unitBy_223 ?_
      refine J.iload (j := 9) hC eX11_unitBy_224 rfl ?_
      refine J.idiv hC eX11_unitBy_226 ?_
      refine J.sub [1, 2, 3, 4, 5, 6, 8] rfl ?_
      exact j_X11_unitBy_227 hC hr kc_35 hk_35 x1 x2 x3 x4 x5 x7 x6 ((x10 * x9) / x8) μ
def F_X11_unitBy_120 (kc_35 : Int32 → Int32 → Int32 → Int32 → Int32 → Int32 → Int32 → Mem → Option (Int32 × Mem)) (kc_87 : Int32 → Int32 → Int32 → Int32 → Int32 → Int32 → Int32 → Int32 → Int32 → Int32 → Mem → Option (Int32 × Mem)) (x1 : Int32) (x2 : Int32) (x3 : Int32) (x4 : Int32) (x5 : Int32) (x6 : Int32) (x7 : Int32) (x8 : Int32) (x10 : Int32) (xs0 : Int32) (xs1 : Int32) (μ : Mem) : Option (Int32 × Mem) :=
  lb (xs0 + xs1) (fun x9_1 => lb (x10 + (1 : Int32)) (fun x10_2 => kc_87 x1 x2 x3 x4 x5 x6 x7 x8 x9_1 x10_2 μ))
set_option maxHeartbeats 4000000 in
theorem j_X11_unitBy_120 {C : Cx} (hC : Ok C cX11_unitBy 13 RX11 (rmF 2 48)) (hr : (cT C).sig.returnType = (some .int)) (kc_35 : Int32 → Int32 → Int32 → Int32 → Int32 → Int32 → Int32 → Mem → Option (Int32 × Mem)) (hk_35 : ∀ (x1 : Int32) (x2 : Int32) (x3 : Int32) (x4 : Int32) (x5 : Int32) (x6 : Int32) (x7 : Int32) (μ : Mem), J C (KI C) μ 35 [(0, .ref (xad (cX C) 107)), (1, .int x1), (2, .int x2), (3, .int x3), (4, .int x4), (5, .int x5), (6, .int x6), (7, .int x7)] [] (kc_35 x1 x2 x3 x4 x5 x6 x7 μ)) (kc_87 : Int32 → Int32 → Int32 → Int32 → Int32 → Int32 → Int32 → Int32 → Int32 → Int32 → Mem → Option (Int32 × Mem)) (hk_87 : ∀ (x1 : Int32) (x2 : Int32) (x3 : Int32) (x4 : Int32) (x5 : Int32) (x6 : Int32) (x7 : Int32) (x8 : Int32) (x9 : Int32) (x10 : Int32) (μ : Mem), J C (KI C) μ 87 [(0, .ref (xad (cX C) 107)), (1, .int x1), (2, .int x2), (3, .int x3), (4, .int x4), (5, .int x5), (6, .int x6), (7, .int x7), (8, .int x8), (9, .int x9), (10, .int x10)] [] (kc_87 x1 x2 x3 x4 x5 x6 x7 x8 x9 x10 μ)) (x1 : Int32) (x2 : Int32) (x3 : Int32) (x4 : Int32) (x5 : Int32) (x6 : Int32) (x7 : Int32) (x8 : Int32) (x10 : Int32) (xs0 : Int32) (xs1 : Int32) (μ : Mem) : J C (KI C) μ 120 [(0, .ref (xad (cX C) 107)), (1, .int x1), (2, .int x2), (3, .int x3), (4, .int x4), (5, .int x5), (6, .int x6), (7, .int x7), (8, .int x8), (10, .int x10)] [.int xs1, .int xs0] (F_X11_unitBy_120 kc_35 kc_87 x1 x2 x3 x4 x5 x6 x7 x8 x10 xs0 xs1 μ) := by
  unfold F_X11_unitBy_120
  refine J.iadd hC eX11_unitBy_120 ?_
  refine J.topi (fun x9_1 => ?_)
  refine J.istore [(9, .int x9_1), (0, .ref (xad (cX C) 107)), (1, .int x1), (2, .int x2), (3, .int x3), (4, .int x4), (5, .int x5), (6, .int x6), (7, .int x7), (8, .int x8), (10, .int x10)] hC eX11_unitBy_121 (by decide) rfl ?_
  refine J.iinc (j := 10) (fun x10_2 => [(10, .int x10_2), (9, .int x9_1), (0, .ref (xad (cX C) 107)), (1, .int x1), (2, .int x2), (3, .int x3), (4, .int x4), (5, .int x5), (6, .int x6), (7, .int x7), (8, .int x8)]) hC eX11_unitBy_123 rfl ci_1 (by decide) (fun _ => rfl) (fun x10_2 => ?_)
  refine J.goto hC eX11_unitBy_126 ?_
  refine J.sub [2, 3, 4, 5, 6, 7, 8, 9, 10, 1, 0] rfl ?_
  exact hk_87 x1 x2 x3 x4 x5 x6 x7 x8 x9_1 x10_2 μ
def L_X11_unitBy_87 (kc_35 : Int32 → Int32 → Int32 → Int32 → Int32 → Int32 → Int32 → Mem → Option (Int32 × Mem)) : Nat → Int32 → Int32 → Int32 → Int32 → Int32 → Int32 → Int32 → Int32 → Int32 → Int32 → Mem → Option (Int32 × Mem)
  | 0, _, _, _, _, _, _, _, _, _, _, _ => none
  | n + 1, x1, x2, x3, x4, x5, x6, x7, x8, x9, x10, μ => bd (G_X11_of x1 x5 x7 (1 : Int32) μ) (fun r_2 μ_1 => if r_2 < x10 then bd (G_X11_of x1 x5 x7 (2 : Int32) μ_1) (fun r_4 μ_3 => bd (G_X11_of x1 x5 x7 (3 : Int32) μ_3) (fun r_6 μ_5 => if x9 ≤ 0 then F_X11_unitBy_230 kc_35 x1 x2 x3 x4 x5 x6 x7 μ_5 else if x9 = x8 then F_X11_unitBy_185 kc_35 x1 x2 x3 x4 x5 x6 x7 x8 x9 r_4 r_6 r_4 μ_5 else F_X11_unitBy_185 kc_35 x1 x2 x3 x4 x5 x6 x7 x8 x9 r_4 r_6 (imax (0 : Int32) (r_4 - (r_6 * (x8 - x9)))) μ_5)) else bd (G_X11_isUnitOf x2 x3 x10 μ_1) (fun r_8 μ_7 => if r_8 = 0 then F_X11_unitBy_120 kc_35 (L_X11_unitBy_87 kc_35 n) x1 x2 x3 x4 x5 x6 x7 x8 x10 x9 (0 : Int32) μ_7 else F_X11_unitBy_120 kc_35 (L_X11_unitBy_87 kc_35 n) x1 x2 x3 x4 x5 x6 x7 x8 x10 x9 (1 : Int32) μ_7))
set_option maxHeartbeats 4000000 in
theorem j_X11_unitBy_87 {C : Cx} (hC : Ok C cX11_unitBy 13 RX11 (rmF 2 48)) (hr : (cT C).sig.returnType = (some .int)) (kc_35 : Int32 → Int32 → Int32 → Int32 → Int32 → Int32 → Int32 → Mem → Option (Int32 × Mem)) (hk_35 : ∀ (x1 : Int32) (x2 : Int32) (x3 : Int32) (x4 : Int32) (x5 : Int32) (x6 : Int32) (x7 : Int32) (μ : Mem), J C (KI C) μ 35 [(0, .ref (xad (cX C) 107)), (1, .int x1), (2, .int x2), (3, .int x3), (4, .int x4), (5, .int x5), (6, .int x6), (7, .int x7)] [] (kc_35 x1 x2 x3 x4 x5 x6 x7 μ)) : ∀ (n : Nat) (x1 : Int32) (x2 : Int32) (x3 : Int32) (x4 : Int32) (x5 : Int32) (x6 : Int32) (x7 : Int32) (x8 : Int32) (x9 : Int32) (x10 : Int32) (μ : Mem), J C (KI C) μ 87 [(0, .ref (xad (cX C) 107)), (1, .int x1), (2, .int x2), (3, .int x3), (4, .int x4), (5, .int x5), (6, .int x6), (7, .int x7), (8, .int x8), (9, .int x9), (10, .int x10)] [] (L_X11_unitBy_87 kc_35 n x1 x2 x3 x4 x5 x6 x7 x8 x9 x10 μ) := by
  intro n
  induction n with
  | zero => intros; exact J.no
  | succ n ih =>
    intro x1 x2 x3 x4 x5 x6 x7 x8 x9 x10 μ
    rw [L_X11_unitBy_87]
    refine J.iload (j := 10) hC eX11_unitBy_87 rfl ?_
    refine J.aload_n (j := 0) hC eX11_unitBy_89 rfl ?_
    refine J.iload_n (j := 1) hC eX11_unitBy_90 rfl ?_
    refine J.iload (j := 5) hC eX11_unitBy_91 rfl ?_
    refine J.iload (j := 7) hC eX11_unitBy_93 rfl ?_
    refine J.iconst hC eX11_unitBy_95 ci_1 ?_
    refine J.callVI (st := [.int x10]) hC eX11_unitBy_96 kk_107 (by decide) rfl rfl ml_X11_241 mv_X11_of (Rle_of (Nat.le_of_ble_eq_true rfl) (Nat.le_of_ble_eq_true rfl)) (c_X11_of hC.X x1 x5 x7 (1 : Int32) μ) rfl rfl (Nat.le_of_ble_eq_true rfl) (fun r_2 μ_1 => ?_)
    refine J.icmp_gt hC eX11_unitBy_99 (fun _ => ?_) (fun _ => ?_)
    · refine J.aload_n (j := 0) hC eX11_unitBy_129 rfl ?_
      refine J.iload_n (j := 1) hC eX11_unitBy_130 rfl ?_
      refine J.iload (j := 5) hC eX11_unitBy_131 rfl ?_
      refine J.iload (j := 7) hC eX11_unitBy_133 rfl ?_
      refine J.iconst hC eX11_unitBy_135 ci_2 ?_
      refine J.callVI (st := []) hC eX11_unitBy_136 kk_107 (by decide) rfl rfl ml_X11_241 mv_X11_of (Rle_of (Nat.le_of_ble_eq_true rfl) (Nat.le_of_ble_eq_true rfl)) (c_X11_of hC.X x1 x5 x7 (2 : Int32) μ_1) rfl rfl (Nat.le_of_ble_eq_true rfl) (fun r_4 μ_3 => ?_)
      refine J.istore [(10, .int r_4), (0, .ref (xad (cX C) 107)), (1, .int x1), (2, .int x2), (3, .int x3), (4, .int x4), (5, .int x5), (6, .int x6), (7, .int x7), (8, .int x8), (9, .int x9)] hC eX11_unitBy_139 (by decide) rfl ?_
      refine J.aload_n (j := 1) hC eX11_unitBy_141 rfl ?_
      refine J.iload_n (j := 2) hC eX11_unitBy_142 rfl ?_
      refine J.iload (j := 6) hC eX11_unitBy_143 rfl ?_
      refine J.iload (j := 8) hC eX11_unitBy_145 rfl ?_
      refine J.iconst hC eX11_unitBy_147 ci_3 ?_
      refine J.callVI (st := []) hC eX11_unitBy_148 kk_107 (by decide) rfl rfl ml_X11_241 mv_X11_of (Rle_of (Nat.le_of_ble_eq_true rfl) (Nat.le_of_ble_eq_true rfl)) (c_X11_of hC.X x1 x5 x7 (3 : Int32) μ_3) rfl rfl (Nat.le_of_ble_eq_true rfl) (fun r_6 μ_5 => ?_)
      refine J.istore [(11, .int r_6), (10, .int r_4), (0, .ref (xad (cX C) 107)), (1, .int x1), (2, .int x2), (3, .int x3), (4, .int x4), (5, .int x5), (6, .int x6), (7, .int x7), (8, .int x8), (9, .int x9)] hC eX11_unitBy_151 (by decide) rfl ?_
      refine J.iload (j := 11) hC eX11_unitBy_153 rfl ?_
      refine J.if_le hC eX11_unitBy_155 (fun _ => ?_) (fun _ => ?_)
      · refine J.sub [2, 3, 4, 5, 6, 7, 8, 9] rfl ?_
        exact j_X11_unitBy_230 hC hr kc_35 hk_35 x1 x2 x3 x4 x5 x6 x7 μ_5
      · refine J.iload (j := 11) hC eX11_unitBy_158 rfl ?_
        refine J.iload (j := 10) hC eX11_unitBy_160 rfl ?_
        refine J.icmp_ne hC eX11_unitBy_162 (fun _ => ?_) (fun _ => ?_)
        · refine J.iload (j := 1) hC eX11_unitBy_165 rfl ?_
          refine J.goto hC eX11_unitBy_167 ?_
          refine J.sub [2, 3, 4, 5, 6, 7, 8, 9, 10, 11, 1, 0] rfl ?_
          exact j_X11_unitBy_185 hC hr kc_35 hk_35 x1 x2 x3 x4 x5 x6 x7 x8 x9 r_4 r_6 r_4 μ_5
        · refine J.iconst hC eX11_unitBy_170 ci_0 ?_
          refine J.iload (j := 1) hC eX11_unitBy_171 rfl ?_
          refine J.iload (j := 0) hC eX11_unitBy_173 rfl ?_
          refine J.iload (j := 10) hC eX11_unitBy_175 rfl ?_
          refine J.iload (j := 11) hC eX11_unitBy_177 rfl ?_
          refine J.isub hC eX11_unitBy_179 ?_
          refine J.imul hC eX11_unitBy_180 ?_
          refine J.isub hC eX11_unitBy_181 ?_
          refine J.mmax hC eX11_unitBy_182 ml_X11_202 w_smax w_im w_cmax (Nat.le_of_ble_eq_true rfl) (Nat.le_of_ble_eq_true rfl) ?_
          refine J.sub [2, 3, 4, 5, 6, 7, 8, 9, 10, 11, 1, 0] rfl ?_
          exact j_X11_unitBy_185 hC hr kc_35 hk_35 x1 x2 x3 x4 x5 x6 x7 x8 x9 r_4 r_6 (imax (0 : Int32) (r_4 - (r_6 * (x8 - x9)))) μ_5
    · refine J.iload (j := 9) hC eX11_unitBy_102 rfl ?_
      refine J.aload_n (j := 0) hC eX11_unitBy_104 rfl ?_
      refine J.iload_n (j := 2) hC eX11_unitBy_105 rfl ?_
      refine J.iload_n (j := 3) hC eX11_unitBy_106 rfl ?_
      refine J.iload (j := 10) hC eX11_unitBy_107 rfl ?_
      refine J.callVI (st := [.int x9]) hC eX11_unitBy_109 kk_107 (by decide) rfl rfl ml_X11_338 mv_X11_isUnitOf (Rle_of (Nat.le_of_ble_eq_true rfl) (Nat.le_of_ble_eq_true rfl)) (c_X11_isUnitOf hC.X x2 x3 x10 μ_1) rfl rfl (Nat.le_of_ble_eq_true rfl) (fun r_8 μ_7 => ?_)
      refine J.if_eq hC eX11_unitBy_112 (fun _ => ?_) (fun _ => ?_)
      · refine J.iconst hC eX11_unitBy_119 ci_0 ?_
        refine J.sub [0, 1, 2, 3, 4, 5, 6, 7, 8, 10] rfl ?_
        exact j_X11_unitBy_120 hC hr kc_35 hk_35 (L_X11_unitBy_87 kc_35 n) ih x1 x2 x3 x4 x5 x6 x7 x8 x10 x9 (0 : Int32) μ_7
      · refine J.iconst hC eX11_unitBy_115 ci_1 ?_
        refine J.goto hC eX11_unitBy_116 ?_
        refine J.sub [0, 1, 2, 3, 4, 5, 6, 7, 8, 10] rfl ?_
        exact j_X11_unitBy_120 hC hr kc_35 hk_35 (L_X11_unitBy_87 kc_35 n) ih x1 x2 x3 x4 x5 x6 x7 x8 x10 x9 (1 : Int32) μ_7
def L_X11_unitBy_35 : Nat → Int32 → Int32 → Int32 → Int32 → Int32 → Int32 → Int32 → Mem → Option (Int32 × Mem)
  | 0, _, _, _, _, _, _, _, _ => none
  | n + 1, x1, x2, x3, x4, x5, x6, x7, μ => bd (G_X11_bucketMany x1 x5 μ) (fun r_2 μ_1 => if r_2 ≤ x7 then some (x6, μ_1) else bd (G_X11_of x1 x5 x7 (1 : Int32) μ_1) (fun r_4 μ_3 => bd (G_X11_of x1 x5 x7 (0 : Int32) μ_3) (fun r_6 μ_5 => lb ((r_4 - r_6) + (1 : Int32)) (fun x8_7 => bd (G_X11_of x1 x5 x7 (0 : Int32) μ_5) (fun r_9 μ_8 => L_X11_unitBy_87 (L_X11_unitBy_35  n) 100000 x1 x2 x3 x4 x5 x6 x7 x8_7 (0 : Int32) r_9 μ_8)))))
set_option maxHeartbeats 4000000 in
theorem j_X11_unitBy_35 {C : Cx} (hC : Ok C cX11_unitBy 13 RX11 (rmF 2 48)) (hr : (cT C).sig.returnType = (some .int)) : ∀ (n : Nat) (x1 : Int32) (x2 : Int32) (x3 : Int32) (x4 : Int32) (x5 : Int32) (x6 : Int32) (x7 : Int32) (μ : Mem), J C (KI C) μ 35 [(0, .ref (xad (cX C) 107)), (1, .int x1), (2, .int x2), (3, .int x3), (4, .int x4), (5, .int x5), (6, .int x6), (7, .int x7)] [] (L_X11_unitBy_35  n x1 x2 x3 x4 x5 x6 x7 μ) := by
  intro n
  induction n with
  | zero => intros; exact J.no
  | succ n ih =>
    intro x1 x2 x3 x4 x5 x6 x7 μ
    rw [L_X11_unitBy_35]
    refine J.iload (j := 7) hC eX11_unitBy_35 rfl ?_
    refine J.aload_n (j := 0) hC eX11_unitBy_37 rfl ?_
    refine J.iload_n (j := 1) hC eX11_unitBy_38 rfl ?_
    refine J.iload (j := 5) hC eX11_unitBy_39 rfl ?_
    refine J.callVI (st := [.int x7]) hC eX11_unitBy_41 kk_107 (by decide) rfl rfl ml_X11_238 mv_X11_bucketMany (Rle_of (Nat.le_of_ble_eq_true rfl) (Nat.le_of_ble_eq_true rfl)) (c_X11_bucketMany hC.X x1 x5 μ) rfl rfl (Nat.le_of_ble_eq_true rfl) (fun r_2 μ_1 => ?_)
    refine J.icmp_ge hC eX11_unitBy_44 (fun _ => ?_) (fun _ => ?_)
    · refine J.iload (j := 6) hC eX11_unitBy_236 rfl ?_
      exact J.iret hC hr eX11_unitBy_238
    · refine J.aload_n (j := 0) hC eX11_unitBy_47 rfl ?_
      refine J.iload_n (j := 1) hC eX11_unitBy_48 rfl ?_
      refine J.iload (j := 5) hC eX11_unitBy_49 rfl ?_
      refine J.iload (j := 7) hC eX11_unitBy_51 rfl ?_
      refine J.iconst hC eX11_unitBy_53 ci_1 ?_
      refine J.callVI (st := []) hC eX11_unitBy_54 kk_107 (by decide) rfl rfl ml_X11_241 mv_X11_of (Rle_of (Nat.le_of_ble_eq_true rfl) (Nat.le_of_ble_eq_true rfl)) (c_X11_of hC.X x1 x5 x7 (1 : Int32) μ_1) rfl rfl (Nat.le_of_ble_eq_true rfl) (fun r_4 μ_3 => ?_)
      refine J.aload_n (j := 0) hC eX11_unitBy_57 rfl ?_
      refine J.iload_n (j := 1) hC eX11_unitBy_58 rfl ?_
      refine J.iload (j := 5) hC eX11_unitBy_59 rfl ?_
      refine J.iload (j := 7) hC eX11_unitBy_61 rfl ?_
      refine J.iconst hC eX11_unitBy_63 ci_0 ?_
      refine J.callVI (st := [.int r_4]) hC eX11_unitBy_64 kk_107 (by decide) rfl rfl ml_X11_241 mv_X11_of (Rle_of (Nat.le_of_ble_eq_true rfl) (Nat.le_of_ble_eq_true rfl)) (c_X11_of hC.X x1 x5 x7 (0 : Int32) μ_3) rfl rfl (Nat.le_of_ble_eq_true rfl) (fun r_6 μ_5 => ?_)
      refine J.isub hC eX11_unitBy_67 ?_
      refine J.iconst hC eX11_unitBy_68 ci_1 ?_
      refine J.iadd hC eX11_unitBy_69 ?_
      refine J.topi (fun x8_7 => ?_)
      refine J.istore [(8, .int x8_7), (0, .ref (xad (cX C) 107)), (1, .int x1), (2, .int x2), (3, .int x3), (4, .int x4), (5, .int x5), (6, .int x6), (7, .int x7)] hC eX11_unitBy_70 (by decide) rfl ?_
      refine J.iconst hC eX11_unitBy_72 ci_0 ?_
      refine J.istore [(9, .int (0 : Int32)), (8, .int x8_7), (0, .ref (xad (cX C) 107)), (1, .int x1), (2, .int x2), (3, .int x3), (4, .int x4), (5, .int x5), (6, .int x6), (7, .int x7)] hC eX11_unitBy_73 (by decide) rfl ?_
      refine J.aload_n (j := 2) hC eX11_unitBy_75 rfl ?_
      refine J.iload_n (j := 3) hC eX11_unitBy_76 rfl ?_
      refine J.iload (j := 7) hC eX11_unitBy_77 rfl ?_
      refine J.iload (j := 9) hC eX11_unitBy_79 rfl ?_
      refine J.iconst hC eX11_unitBy_81 ci_0 ?_
      refine J.callVI (st := []) hC eX11_unitBy_82 kk_107 (by decide) rfl rfl ml_X11_241 mv_X11_of (Rle_of (Nat.le_of_ble_eq_true rfl) (Nat.le_of_ble_eq_true rfl)) (c_X11_of hC.X x1 x5 x7 (0 : Int32) μ_5) rfl rfl (Nat.le_of_ble_eq_true rfl) (fun r_9 μ_8 => ?_)
      refine J.istore [(10, .int r_9), (9, .int (0 : Int32)), (8, .int x8_7), (0, .ref (xad (cX C) 107)), (1, .int x1), (2, .int x2), (3, .int x3), (4, .int x4), (5, .int x5), (6, .int x6), (7, .int x7)] hC eX11_unitBy_85 (by decide) rfl ?_
      refine J.sub [3, 4, 5, 6, 7, 8, 9, 10, 2, 1, 0] rfl ?_
      exact j_X11_unitBy_87 hC hr (L_X11_unitBy_35  n) ih 100000 x1 x2 x3 x4 x5 x6 x7 x8_7 (0 : Int32) r_9 μ_8
def G_X11_unitBy (x1 : Int32) (x2 : Int32) (x3 : Int32) (x4 : Int32) (μ : Mem) : Option (Int32 × Mem) :=
  bd (G_X11_unitAt x2 x3 (1 : Int32) μ) (fun r_2 μ_1 => bd (G_X11_unitAt x2 x3 (2 : Int32) μ_1) (fun r_4 μ_3 => if r_4 = (3 : Int32) then bd (G_X11_countAt x1 r_2 (-1 : Int32) μ_3) (fun r_6 μ_5 => some (r_6, μ_5)) else L_X11_unitBy_35  100000 x1 x2 x3 x4 r_2 (0 : Int32) (0 : Int32) μ_3))
set_option maxHeartbeats 4000000 in
theorem c_X11_unitBy {X : Wd} (hX : WdOk X) (x1 : Int32) (x2 : Int32) (x3 : Int32) (x4 : Int32) (μ : Mem) : CtI X yX11_unitBy cX11_unitBy 13 (some .int) (rmF 2 48) [.ref (xad X 107), .int x1, .int x2, .int x3, .int x4] μ (G_X11_unitBy x1 x2 x3 x4 μ) := by
  refine CtI.of hX (plainFor_of_name (by decide)) (by exact Nat.le_of_ble_eq_true rfl) ?_
  intro C hCX hC hr
  subst hCX
  show J C (KI C) μ 0 [(0, .ref (xad (cX C) 107)), (1, .int x1), (2, .int x2), (3, .int x3), (4, .int x4)] [] _
  unfold G_X11_unitBy
  refine J.aload_n (j := 0) hC eX11_unitBy_0 rfl ?_
  refine J.iload_n (j := 2) hC eX11_unitBy_1 rfl ?_
  refine J.iload_n (j := 3) hC eX11_unitBy_2 rfl ?_
  refine J.iconst hC eX11_unitBy_3 ci_1 ?_
  refine J.callVI (st := []) hC eX11_unitBy_4 kk_107 (by decide) rfl rfl ml_X11_335 mv_X11_unitAt (Rle_of (Nat.le_of_ble_eq_true rfl) (Nat.le_of_ble_eq_true rfl)) (c_X11_unitAt hC.X x2 x3 (1 : Int32) μ) rfl rfl (Nat.le_of_ble_eq_true rfl) (fun r_2 μ_1 => ?_)
  refine J.istore [(5, .int r_2), (0, .ref (xad (cX C) 107)), (1, .int x1), (2, .int x2), (3, .int x3), (4, .int x4)] hC eX11_unitBy_7 (by decide) rfl ?_
  refine J.aload_n (j := 1) hC eX11_unitBy_9 rfl ?_
  refine J.iload_n (j := 3) hC eX11_unitBy_10 rfl ?_
  refine J.iload_n (j := 4) hC eX11_unitBy_11 rfl ?_
  refine J.iconst hC eX11_unitBy_12 ci_2 ?_
  refine J.callVI (st := []) hC eX11_unitBy_13 kk_107 (by decide) rfl rfl ml_X11_335 mv_X11_unitAt (Rle_of (Nat.le_of_ble_eq_true rfl) (Nat.le_of_ble_eq_true rfl)) (c_X11_unitAt hC.X x2 x3 (2 : Int32) μ_1) rfl rfl (Nat.le_of_ble_eq_true rfl) (fun r_4 μ_3 => ?_)
  refine J.iconst hC eX11_unitBy_16 ci_3 ?_
  refine J.icmp_ne hC eX11_unitBy_17 (fun _ => ?_) (fun _ => ?_)
  · refine J.aload_n (j := 1) hC eX11_unitBy_20 rfl ?_
    refine J.iload_n (j := 2) hC eX11_unitBy_21 rfl ?_
    refine J.iload (j := 0) hC eX11_unitBy_22 rfl ?_
    refine J.iconst hC eX11_unitBy_24 ci_m1 ?_
    refine J.callVI (st := []) hC eX11_unitBy_25 kk_107 (by decide) rfl rfl ml_X11_167 mv_X11_countAt (Rle_of (Nat.le_of_ble_eq_true rfl) (Nat.le_of_ble_eq_true rfl)) (c_X11_countAt hC.X x1 r_2 (-1 : Int32) μ_3) rfl rfl (Nat.le_of_ble_eq_true rfl) (fun r_6 μ_5 => ?_)
    exact J.iret hC hr eX11_unitBy_28
  · refine J.iconst hC eX11_unitBy_29 ci_0 ?_
    refine J.istore [(6, .int (0 : Int32)), (5, .int r_2), (0, .ref (xad (cX C) 107)), (1, .int x1), (2, .int x2), (3, .int x3), (4, .int x4)] hC eX11_unitBy_30 (by decide) rfl ?_
    refine J.iconst hC eX11_unitBy_32 ci_0 ?_
    refine J.istore [(7, .int (0 : Int32)), (6, .int (0 : Int32)), (5, .int r_2), (0, .ref (xad (cX C) 107)), (1, .int x1), (2, .int x2), (3, .int x3), (4, .int x4)] hC eX11_unitBy_33 (by decide) rfl ?_
    refine J.sub [3, 4, 5, 6, 7, 2, 1, 0] rfl ?_
    exact j_X11_unitBy_35 hC hr  100000 x1 x2 x3 x4 r_2 (0 : Int32) (0 : Int32) μ_3
-- X11_termBy
theorem eX11_termBy_0 : DD cX11_termBy 0 (.iconst 0) 1 1 := ⟨by decide +kernel, rfl⟩
theorem eX11_termBy_1 : DD cX11_termBy 1 (.istore 5) 2 3 := ⟨by decide +kernel, rfl⟩
theorem eX11_termBy_3 : DD cX11_termBy 3 (.iconst 0) 1 4 := ⟨by decide +kernel, rfl⟩
theorem eX11_termBy_4 : DD cX11_termBy 4 (.istore 6) 2 6 := ⟨by decide +kernel, rfl⟩
theorem eX11_termBy_6 : DD cX11_termBy 6 (.iconst (-1)) 1 7 := ⟨by decide +kernel, rfl⟩
theorem eX11_termBy_7 : DD cX11_termBy 7 (.istore 7) 2 9 := ⟨by decide +kernel, rfl⟩
theorem eX11_termBy_9 : DD cX11_termBy 9 (.iconst 0) 1 10 := ⟨by decide +kernel, rfl⟩
theorem eX11_termBy_10 : DD cX11_termBy 10 (.istore 8) 2 12 := ⟨by decide +kernel, rfl⟩
theorem eX11_termBy_12 : DD cX11_termBy 12 (.iload 8) 2 14 := ⟨by decide +kernel, rfl⟩
theorem eX11_termBy_14 : DD cX11_termBy 14 (.aload_n 0) 1 15 := ⟨by decide +kernel, rfl⟩
theorem eX11_termBy_15 : DD cX11_termBy 15 (.getfield 31) 3 18 := ⟨by decide +kernel, rfl⟩
theorem eX11_termBy_18 : DD cX11_termBy 18 (.iload_n 2) 1 19 := ⟨by decide +kernel, rfl⟩
theorem eX11_termBy_19 : DD cX11_termBy 19 (.iaload) 1 20 := ⟨by decide +kernel, rfl⟩
theorem eX11_termBy_20 : DB cX11_termBy 20 (.if_icmp .ge 63) (63) 23 83 := ⟨by decide +kernel, rfl, by decide⟩
theorem eX11_termBy_23 : DD cX11_termBy 23 (.aload_n 0) 1 24 := ⟨by decide +kernel, rfl⟩
theorem eX11_termBy_24 : DD cX11_termBy 24 (.iload_n 2) 1 25 := ⟨by decide +kernel, rfl⟩
theorem eX11_termBy_25 : DD cX11_termBy 25 (.iload 8) 2 27 := ⟨by decide +kernel, rfl⟩
theorem eX11_termBy_27 : DD cX11_termBy 27 (.iconst 0) 1 28 := ⟨by decide +kernel, rfl⟩
theorem eX11_termBy_28 : DD cX11_termBy 28 (.invokevirtual 335) 3 31 := ⟨by decide +kernel, rfl⟩
theorem eX11_termBy_31 : DD cX11_termBy 31 (.iload_n 3) 1 32 := ⟨by decide +kernel, rfl⟩
theorem eX11_termBy_32 : DB cX11_termBy 32 (.if_icmp .ne 45) (45) 35 77 := ⟨by decide +kernel, rfl, by decide⟩
theorem eX11_termBy_35 : DD cX11_termBy 35 (.aload_n 0) 1 36 := ⟨by decide +kernel, rfl⟩
theorem eX11_termBy_36 : DD cX11_termBy 36 (.iload_n 1) 1 37 := ⟨by decide +kernel, rfl⟩
theorem eX11_termBy_37 : DD cX11_termBy 37 (.iload_n 2) 1 38 := ⟨by decide +kernel, rfl⟩
theorem eX11_termBy_38 : DD cX11_termBy 38 (.iload 8) 2 40 := ⟨by decide +kernel, rfl⟩
theorem eX11_termBy_40 : DD cX11_termBy 40 (.iload 4) 2 42 := ⟨by decide +kernel, rfl⟩
theorem eX11_termBy_42 : DD cX11_termBy 42 (.invokevirtual 353) 3 45 := ⟨by decide +kernel, rfl⟩
theorem eX11_termBy_45 : DD cX11_termBy 45 (.istore 9) 2 47 := ⟨by decide +kernel, rfl⟩
theorem eX11_termBy_47 : DD cX11_termBy 47 (.iinc 5 1) 3 50 := ⟨by decide +kernel, rfl⟩
theorem eX11_termBy_50 : DD cX11_termBy 50 (.iload 6) 2 52 := ⟨by decide +kernel, rfl⟩
theorem eX11_termBy_52 : DD cX11_termBy 52 (.iload 9) 2 54 := ⟨by decide +kernel, rfl⟩
theorem eX11_termBy_54 : DD cX11_termBy 54 (.iadd) 1 55 := ⟨by decide +kernel, rfl⟩
theorem eX11_termBy_55 : DD cX11_termBy 55 (.istore 6) 2 57 := ⟨by decide +kernel, rfl⟩
theorem eX11_termBy_57 : DD cX11_termBy 57 (.iload 7) 2 59 := ⟨by decide +kernel, rfl⟩
theorem eX11_termBy_59 : DD cX11_termBy 59 (.iconst (-1)) 1 60 := ⟨by decide +kernel, rfl⟩
theorem eX11_termBy_60 : DB cX11_termBy 60 (.if_icmp .ne 8) (8) 63 68 := ⟨by decide +kernel, rfl, by decide⟩
theorem eX11_termBy_63 : DD cX11_termBy 63 (.iload 9) 2 65 := ⟨by decide +kernel, rfl⟩
theorem eX11_termBy_65 : DB cX11_termBy 65 (.goto 10) (10) 68 75 := ⟨by decide +kernel, rfl, by decide⟩
theorem eX11_termBy_68 : DD cX11_termBy 68 (.iload 7) 2 70 := ⟨by decide +kernel, rfl⟩
theorem eX11_termBy_70 : DD cX11_termBy 70 (.iload 9) 2 72 := ⟨by decide +kernel, rfl⟩
theorem eX11_termBy_72 : DD cX11_termBy 72 (.invokestatic 194) 3 75 := ⟨by decide +kernel, rfl⟩
theorem eX11_termBy_75 : DD cX11_termBy 75 (.istore 7) 2 77 := ⟨by decide +kernel, rfl⟩
theorem eX11_termBy_77 : DD cX11_termBy 77 (.iinc 8 1) 3 80 := ⟨by decide +kernel, rfl⟩
theorem eX11_termBy_80 : DB cX11_termBy 80 (.goto (-68)) (-68) 83 12 := ⟨by decide +kernel, rfl, by decide⟩
theorem eX11_termBy_83 : DD cX11_termBy 83 (.iload 4) 2 85 := ⟨by decide +kernel, rfl⟩
theorem eX11_termBy_85 : DD cX11_termBy 85 (.iconst 1) 1 86 := ⟨by decide +kernel, rfl⟩
theorem eX11_termBy_86 : DB cX11_termBy 86 (.if_icmp .ne 23) (23) 89 109 := ⟨by decide +kernel, rfl, by decide⟩
theorem eX11_termBy_89 : DD cX11_termBy 89 (.iconst 0) 1 90 := ⟨by decide +kernel, rfl⟩
theorem eX11_termBy_90 : DD cX11_termBy 90 (.iload 6) 2 92 := ⟨by decide +kernel, rfl⟩
theorem eX11_termBy_92 : DD cX11_termBy 92 (.iload 5) 2 94 := ⟨by decide +kernel, rfl⟩
theorem eX11_termBy_94 : DD cX11_termBy 94 (.iconst 1) 1 95 := ⟨by decide +kernel, rfl⟩
theorem eX11_termBy_95 : DD cX11_termBy 95 (.isub) 1 96 := ⟨by decide +kernel, rfl⟩
theorem eX11_termBy_96 : DD cX11_termBy 96 (.aload_n 0) 1 97 := ⟨by decide +kernel, rfl⟩
theorem eX11_termBy_97 : DD cX11_termBy 97 (.iload_n 1) 1 98 := ⟨by decide +kernel, rfl⟩
theorem eX11_termBy_98 : DD cX11_termBy 98 (.invokevirtual 161) 3 101 := ⟨by decide +kernel, rfl⟩
theorem eX11_termBy_101 : DD cX11_termBy 101 (.imul) 1 102 := ⟨by decide +kernel, rfl⟩
theorem eX11_termBy_102 : DD cX11_termBy 102 (.isub) 1 103 := ⟨by decide +kernel, rfl⟩
theorem eX11_termBy_103 : DD cX11_termBy 103 (.invokestatic 202) 3 106 := ⟨by decide +kernel, rfl⟩
theorem eX11_termBy_106 : DB cX11_termBy 106 (.goto 5) (5) 109 111 := ⟨by decide +kernel, rfl, by decide⟩
theorem eX11_termBy_109 : DD cX11_termBy 109 (.iload 7) 2 111 := ⟨by decide +kernel, rfl⟩
theorem eX11_termBy_111 : DD cX11_termBy 111 (.ireturn) 1 112 := ⟨by decide +kernel, rfl⟩
def F_X11_termBy_77 (kc_12 : Int32 → Int32 → Int32 → Int32 → Int32 → Int32 → Int32 → Int32 → Mem → Option (Int32 × Mem)) (x1 : Int32) (x2 : Int32) (x3 : Int32) (x4 : Int32) (x5 : Int32) (x6 : Int32) (x7 : Int32) (x8 : Int32) (μ : Mem) : Option (Int32 × Mem) :=
  lb (x8 + (1 : Int32)) (fun x8_1 => kc_12 x1 x2 x3 x4 x5 x6 x7 x8_1 μ)
set_option maxHeartbeats 4000000 in
theorem j_X11_termBy_77 {C : Cx} (hC : Ok C cX11_termBy 10 RX11 (rmF 3 80)) (hr : (cT C).sig.returnType = (some .int)) (kc_12 : Int32 → Int32 → Int32 → Int32 → Int32 → Int32 → Int32 → Int32 → Mem → Option (Int32 × Mem)) (hk_12 : ∀ (x1 : Int32) (x2 : Int32) (x3 : Int32) (x4 : Int32) (x5 : Int32) (x6 : Int32) (x7 : Int32) (x8 : Int32) (μ : Mem), J C (KI C) μ 12 [(0, .ref (xad (cX C) 107)), (1, .int x1), (2, .int x2), (3, .int x3), (4, .int x4), (5, .int x5), (6, .int x6), (7, .int x7), (8, .int x8)] [] (kc_12 x1 x2 x3 x4 x5 x6 x7 x8 μ)) (x1 : Int32) (x2 : Int32) (x3 : Int32) (x4 : Int32) (x5 : Int32) (x6 : Int32) (x7 : Int32) (x8 : Int32) (μ : Mem) : J C (KI C) μ 77 [(0, .ref (xad (cX C) 107)), (1, .int x1), (2, .int x2), (3, .int x3), (4, .int x4), (5, .int x5), (6, .int x6), (7, .int x7), (8, .int x8)] [] (F_X11_termBy_77 kc_12 x1 x2 x3 x4 x5 x6 x7 x8 μ) := by
  unfold F_X11_termBy_77
  refine J.iinc (j := 8) (fun x8_1 => [(8, .int x8_1), (0, .ref (xad (cX C) 107)), (1, .int x1), (2, .int x2), (3, .int x3), (4, .int x4), (5, .int x5), (6, .int x6), (7, .int x7)]) hC eX11_termBy_77 rfl ci_1 (by decide) (fun _ => rfl) (fun x8_1 => ?_)
  refine J.goto hC eX11_termBy_80 ?_
  refine J.sub [1, 2, 3, 4, 5, 6, 7, 8, 0] rfl ?_
  exact hk_12 x1 x2 x3 x4 x5 x6 x7 x8_1 μ
def F_X11_termBy_75 (kc_12 : Int32 → Int32 → Int32 → Int32 → Int32 → Int32 → Int32 → Int32 → Mem → Option (Int32 × Mem)) (x1 : Int32) (x2 : Int32) (x3 : Int32) (x4 : Int32) (x5 : Int32) (x6 : Int32) (x8 : Int32) (xs0 : Int32) (μ : Mem) : Option (Int32 × Mem) :=
  F_X11_termBy_77 kc_12 x1 x2 x3 x4 x5 x6 xs0 x8 μ
set_option maxHeartbeats 4000000 in
theorem j_X11_termBy_75 {C : Cx} (hC : Ok C cX11_termBy 10 RX11 (rmF 3 80)) (hr : (cT C).sig.returnType = (some .int)) (kc_12 : Int32 → Int32 → Int32 → Int32 → Int32 → Int32 → Int32 → Int32 → Mem → Option (Int32 × Mem)) (hk_12 : ∀ (x1 : Int32) (x2 : Int32) (x3 : Int32) (x4 : Int32) (x5 : Int32) (x6 : Int32) (x7 : Int32) (x8 : Int32) (μ : Mem), J C (KI C) μ 12 [(0, .ref (xad (cX C) 107)), (1, .int x1), (2, .int x2), (3, .int x3), (4, .int x4), (5, .int x5), (6, .int x6), (7, .int x7), (8, .int x8)] [] (kc_12 x1 x2 x3 x4 x5 x6 x7 x8 μ)) (x1 : Int32) (x2 : Int32) (x3 : Int32) (x4 : Int32) (x5 : Int32) (x6 : Int32) (x8 : Int32) (xs0 : Int32) (μ : Mem) : J C (KI C) μ 75 [(0, .ref (xad (cX C) 107)), (1, .int x1), (2, .int x2), (3, .int x3), (4, .int x4), (5, .int x5), (6, .int x6), (8, .int x8)] [.int xs0] (F_X11_termBy_75 kc_12 x1 x2 x3 x4 x5 x6 x8 xs0 μ) := by
  unfold F_X11_termBy_75
  refine J.istore [(7, .int xs0), (0, .ref (xad (cX C) 107)), (1, .int x1), (2, .int x2), (3, .int x3), (4, .int x4), (5, .int x5), (6, .int x6), (8, .int x8)] hC eX11_termBy_75 (by decide) rfl ?_
  refine J.sub [1, 2, 3, 4, 5, 6, 7, 0, 8] rfl ?_
  exact j_X11_termBy_77 hC hr kc_12 hk_12 x1 x2 x3 x4 x5 x6 xs0 x8 μ
def L_X11_termBy_12 : Nat → Int32 → Int32 → Int32 → Int32 → Int32 → Int32 → Int32 → Int32 → Mem → Option (Int32 × Mem)
  | 0, _, _, _, _, _, _, _, _, _ => none
  | n + 1, x1, x2, x3, x4, x5, x6, x7, x8, μ => gq (inB x2 5) (if (rI μ 115 (nx x2)) ≤ x8 then if x4 = (1 : Int32) then bd (G_X11_rowsOf x1 μ) (fun r_2 μ_1 => some (imax (0 : Int32) (x6 - ((x5 - (1 : Int32)) * r_2)), μ_1)) else some (x7, μ) else bd (G_X11_unitAt x2 x8 (0 : Int32) μ) (fun r_4 μ_3 => if r_4 = x3 then bd (G_X11_unitBy x1 x2 x8 x4 μ_3) (fun r_6 μ_5 => lb (x5 + (1 : Int32)) (fun x5_7 => lb (x6 + r_6) (fun x6_8 => if x7 = (-1 : Int32) then F_X11_termBy_75 (L_X11_termBy_12  n) x1 x2 x3 x4 x5_7 x6_8 x8 r_6 μ_5 else F_X11_termBy_75 (L_X11_termBy_12  n) x1 x2 x3 x4 x5_7 x6_8 x8 (imin x7 r_6) μ_5))) else F_X11_termBy_77 (L_X11_termBy_12  n) x1 x2 x3 x4 x5 x6 x7 x8 μ_3))
set_option maxHeartbeats 4000000 in
theorem j_X11_termBy_12 {C : Cx} (hC : Ok C cX11_termBy 10 RX11 (rmF 3 80)) (hr : (cT C).sig.returnType = (some .int)) : ∀ (n : Nat) (x1 : Int32) (x2 : Int32) (x3 : Int32) (x4 : Int32) (x5 : Int32) (x6 : Int32) (x7 : Int32) (x8 : Int32) (μ : Mem), J C (KI C) μ 12 [(0, .ref (xad (cX C) 107)), (1, .int x1), (2, .int x2), (3, .int x3), (4, .int x4), (5, .int x5), (6, .int x6), (7, .int x7), (8, .int x8)] [] (L_X11_termBy_12  n x1 x2 x3 x4 x5 x6 x7 x8 μ) := by
  intro n
  induction n with
  | zero => intros; exact J.no
  | succ n ih =>
    intro x1 x2 x3 x4 x5 x6 x7 x8 μ
    rw [L_X11_termBy_12]
    refine J.iload (j := 8) hC eX11_termBy_12 rfl ?_
    refine J.aload_n (j := 0) hC eX11_termBy_14 rfl ?_
    refine gf_X11_31 (q := 115) hC eX11_termBy_15 kk_107 rfl ?_
    refine J.iload_n (j := 2) hC eX11_termBy_18 rfl ?_
    refine J.iald ik_5 hC eX11_termBy_19 kk_115 ?_
    refine J.icmp_ge hC eX11_termBy_20 (fun _ => ?_) (fun _ => ?_)
    · refine J.iload (j := 4) hC eX11_termBy_83 rfl ?_
      refine J.iconst hC eX11_termBy_85 ci_1 ?_
      refine J.icmp_ne hC eX11_termBy_86 (fun _ => ?_) (fun _ => ?_)
      · refine J.iconst hC eX11_termBy_89 ci_0 ?_
        refine J.iload (j := 6) hC eX11_termBy_90 rfl ?_
        refine J.iload (j := 5) hC eX11_termBy_92 rfl ?_
        refine J.iconst hC eX11_termBy_94 ci_1 ?_
        refine J.isub hC eX11_termBy_95 ?_
        refine J.aload_n (j := 0) hC eX11_termBy_96 rfl ?_
        refine J.iload_n (j := 1) hC eX11_termBy_97 rfl ?_
        refine J.callVI (st := [.int (x5 - (1 : Int32)), .int x6, .int (0 : Int32)]) hC eX11_termBy_98 kk_107 (by decide) rfl rfl ml_X11_161 mv_X11_rowsOf (Rle_of (Nat.le_of_ble_eq_true rfl) (Nat.le_of_ble_eq_true rfl)) (c_X11_rowsOf hC.X x1 μ) rfl rfl (Nat.le_of_ble_eq_true rfl) (fun r_2 μ_1 => ?_)
        refine J.imul hC eX11_termBy_101 ?_
        refine J.isub hC eX11_termBy_102 ?_
        refine J.mmax hC eX11_termBy_103 ml_X11_202 w_smax w_im w_cmax (Nat.le_of_ble_eq_true rfl) (Nat.le_of_ble_eq_true rfl) ?_
        refine J.goto hC eX11_termBy_106 ?_
        exact J.iret hC hr eX11_termBy_111
      · refine J.iload (j := 7) hC eX11_termBy_109 rfl ?_
        exact J.iret hC hr eX11_termBy_111
    · refine J.aload_n (j := 0) hC eX11_termBy_23 rfl ?_
      refine J.iload_n (j := 2) hC eX11_termBy_24 rfl ?_
      refine J.iload (j := 8) hC eX11_termBy_25 rfl ?_
      refine J.iconst hC eX11_termBy_27 ci_0 ?_
      refine J.callVI (st := []) hC eX11_termBy_28 kk_107 (by decide) rfl rfl ml_X11_335 mv_X11_unitAt (Rle_of (Nat.le_of_ble_eq_true rfl) (Nat.le_of_ble_eq_true rfl)) (c_X11_unitAt hC.X x2 x8 (0 : Int32) μ) rfl rfl (Nat.le_of_ble_eq_true rfl) (fun r_4 μ_3 => ?_)
      refine J.iload_n (j := 3) hC eX11_termBy_31 rfl ?_
      refine J.icmp_ne hC eX11_termBy_32 (fun _ => ?_) (fun _ => ?_)
      · refine J.aload_n (j := 0) hC eX11_termBy_35 rfl ?_
        refine J.iload_n (j := 1) hC eX11_termBy_36 rfl ?_
        refine J.iload_n (j := 2) hC eX11_termBy_37 rfl ?_
        refine J.iload (j := 8) hC eX11_termBy_38 rfl ?_
        refine J.iload (j := 4) hC eX11_termBy_40 rfl ?_
        refine J.callVI (st := []) hC eX11_termBy_42 kk_107 (by decide) rfl rfl ml_X11_353 mv_X11_unitBy (Rle_of (Nat.le_of_ble_eq_true rfl) (Nat.le_of_ble_eq_true rfl)) (c_X11_unitBy hC.X x1 x2 x8 x4 μ_3) rfl rfl (Nat.le_of_ble_eq_true rfl) (fun r_6 μ_5 => ?_)
        refine J.istore [(9, .int r_6), (0, .ref (xad (cX C) 107)), (1, .int x1), (2, .int x2), (3, .int x3), (4, .int x4), (5, .int x5), (6, .int x6), (7, .int x7), (8, .int x8)] hC eX11_termBy_45 (by decide) rfl ?_
        refine J.iinc (j := 6) (fun x5_7 => [(5, .int x5_7), (9, .int r_6), (0, .ref (xad (cX C) 107)), (1, .int x1), (2, .int x2), (3, .int x3), (4, .int x4), (6, .int x6), (7, .int x7), (8, .int x8)]) hC eX11_termBy_47 rfl ci_1 (by decide) (fun _ => rfl) (fun x5_7 => ?_)
        refine J.iload (j := 7) hC eX11_termBy_50 rfl ?_
        refine J.iload (j := 1) hC eX11_termBy_52 rfl ?_
        refine J.iadd hC eX11_termBy_54 ?_
        refine J.topi (fun x6_8 => ?_)
        refine J.istore [(6, .int x6_8), (5, .int x5_7), (9, .int r_6), (0, .ref (xad (cX C) 107)), (1, .int x1), (2, .int x2), (3, .int x3), (4, .int x4), (7, .int x7), (8, .int x8)] hC eX11_termBy_55 (by decide) rfl ?_
        refine J.iload (j := 8) hC eX11_termBy_57 rfl ?_
        refine J.iconst hC eX11_termBy_59 ci_m1 ?_
        refine J.icmp_ne hC eX11_termBy_60 (fun _ => ?_) (fun _ => ?_)
        · refine J.iload (j := 2) hC eX11_termBy_63 rfl ?_
          refine J.goto hC eX11_termBy_65 ?_
          refine J.sub [3, 4, 5, 6, 7, 1, 0, 9] rfl ?_
          exact j_X11_termBy_75 hC hr (L_X11_termBy_12  n) ih x1 x2 x3 x4 x5_7 x6_8 x8 r_6 μ_5
        · refine J.iload (j := 8) hC eX11_termBy_68 rfl ?_
          refine J.iload (j := 2) hC eX11_termBy_70 rfl ?_
          refine J.mmin hC eX11_termBy_72 ml_X11_194 w_smin w_im w_cmin (Nat.le_of_ble_eq_true rfl) (Nat.le_of_ble_eq_true rfl) ?_
          refine J.sub [3, 4, 5, 6, 7, 1, 0, 9] rfl ?_
          exact j_X11_termBy_75 hC hr (L_X11_termBy_12  n) ih x1 x2 x3 x4 x5_7 x6_8 x8 (imin x7 r_6) μ_5
      · refine J.sub [0, 1, 2, 3, 4, 5, 6, 7, 8] rfl ?_
        exact j_X11_termBy_77 hC hr (L_X11_termBy_12  n) ih x1 x2 x3 x4 x5 x6 x7 x8 μ_3
def G_X11_termBy (x1 : Int32) (x2 : Int32) (x3 : Int32) (x4 : Int32) (μ : Mem) : Option (Int32 × Mem) :=
  L_X11_termBy_12  100000 x1 x2 x3 x4 (0 : Int32) (0 : Int32) (-1 : Int32) (0 : Int32) μ
set_option maxHeartbeats 4000000 in
theorem c_X11_termBy {X : Wd} (hX : WdOk X) (x1 : Int32) (x2 : Int32) (x3 : Int32) (x4 : Int32) (μ : Mem) : CtI X yX11_termBy cX11_termBy 10 (some .int) (rmF 3 80) [.ref (xad X 107), .int x1, .int x2, .int x3, .int x4] μ (G_X11_termBy x1 x2 x3 x4 μ) := by
  refine CtI.of hX (plainFor_of_name (by decide)) (by exact Nat.le_of_ble_eq_true rfl) ?_
  intro C hCX hC hr
  subst hCX
  show J C (KI C) μ 0 [(0, .ref (xad (cX C) 107)), (1, .int x1), (2, .int x2), (3, .int x3), (4, .int x4)] [] _
  unfold G_X11_termBy
  refine J.iconst hC eX11_termBy_0 ci_0 ?_
  refine J.istore [(5, .int (0 : Int32)), (0, .ref (xad (cX C) 107)), (1, .int x1), (2, .int x2), (3, .int x3), (4, .int x4)] hC eX11_termBy_1 (by decide) rfl ?_
  refine J.iconst hC eX11_termBy_3 ci_0 ?_
  refine J.istore [(6, .int (0 : Int32)), (5, .int (0 : Int32)), (0, .ref (xad (cX C) 107)), (1, .int x1), (2, .int x2), (3, .int x3), (4, .int x4)] hC eX11_termBy_4 (by decide) rfl ?_
  refine J.iconst hC eX11_termBy_6 ci_m1 ?_
  refine J.istore [(7, .int (-1 : Int32)), (6, .int (0 : Int32)), (5, .int (0 : Int32)), (0, .ref (xad (cX C) 107)), (1, .int x1), (2, .int x2), (3, .int x3), (4, .int x4)] hC eX11_termBy_7 (by decide) rfl ?_
  refine J.iconst hC eX11_termBy_9 ci_0 ?_
  refine J.istore [(8, .int (0 : Int32)), (7, .int (-1 : Int32)), (6, .int (0 : Int32)), (5, .int (0 : Int32)), (0, .ref (xad (cX C) 107)), (1, .int x1), (2, .int x2), (3, .int x3), (4, .int x4)] hC eX11_termBy_10 (by decide) rfl ?_
  refine J.sub [4, 5, 6, 7, 8, 3, 2, 1, 0] rfl ?_
  exact j_X11_termBy_12 hC hr  100000 x1 x2 x3 x4 (0 : Int32) (0 : Int32) (-1 : Int32) (0 : Int32) μ
