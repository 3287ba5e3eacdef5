-- X11_errorOf
theorem eX11_errorOf_0 : DD cX11_errorOf 0 (.lconst 0) 1 1 := ⟨by decide +kernel, rfl⟩
theorem eX11_errorOf_1 : DD cX11_errorOf 1 (.lstore_n 3) 1 2 := ⟨by decide +kernel, rfl⟩
theorem eX11_errorOf_2 : DD cX11_errorOf 2 (.lconst 0) 1 3 := ⟨by decide +kernel, rfl⟩
theorem eX11_errorOf_3 : DD cX11_errorOf 3 (.lstore 5) 2 5 := ⟨by decide +kernel, rfl⟩
theorem eX11_errorOf_5 : DD cX11_errorOf 5 (.iload_n 1) 1 6 := ⟨by decide +kernel, rfl⟩
theorem eX11_errorOf_6 : DD cX11_errorOf 6 (.istore 7) 2 8 := ⟨by decide +kernel, rfl⟩
theorem eX11_errorOf_8 : DD cX11_errorOf 8 (.iload 7) 2 10 := ⟨by decide +kernel, rfl⟩
theorem eX11_errorOf_10 : DD cX11_errorOf 10 (.iload_n 2) 1 11 := ⟨by decide +kernel, rfl⟩
theorem eX11_errorOf_11 : DB cX11_errorOf 11 (.if_icmp .ge 42) (42) 14 53 := ⟨by decide +kernel, rfl, by decide⟩
theorem eX11_errorOf_14 : DD cX11_errorOf 14 (.lload_n 3) 1 15 := ⟨by decide +kernel, rfl⟩
theorem eX11_errorOf_15 : DD cX11_errorOf 15 (.aload_n 0) 1 16 := ⟨by decide +kernel, rfl⟩
theorem eX11_errorOf_16 : DD cX11_errorOf 16 (.getfield 40) 3 19 := ⟨by decide +kernel, rfl⟩
theorem eX11_errorOf_19 : DD cX11_errorOf 19 (.iload 7) 2 21 := ⟨by decide +kernel, rfl⟩
theorem eX11_errorOf_21 : DD cX11_errorOf 21 (.iaload) 1 22 := ⟨by decide +kernel, rfl⟩
theorem eX11_errorOf_22 : DD cX11_errorOf 22 (.i2l) 1 23 := ⟨by decide +kernel, rfl⟩
theorem eX11_errorOf_23 : DD cX11_errorOf 23 (.aload_n 0) 1 24 := ⟨by decide +kernel, rfl⟩
theorem eX11_errorOf_24 : DD cX11_errorOf 24 (.getfield 40) 3 27 := ⟨by decide +kernel, rfl⟩
theorem eX11_errorOf_27 : DD cX11_errorOf 27 (.iload 7) 2 29 := ⟨by decide +kernel, rfl⟩
theorem eX11_errorOf_29 : DD cX11_errorOf 29 (.iaload) 1 30 := ⟨by decide +kernel, rfl⟩
theorem eX11_errorOf_30 : DD cX11_errorOf 30 (.i2l) 1 31 := ⟨by decide +kernel, rfl⟩
theorem eX11_errorOf_31 : DD cX11_errorOf 31 (.lmul) 1 32 := ⟨by decide +kernel, rfl⟩
theorem eX11_errorOf_32 : DD cX11_errorOf 32 (.ladd) 1 33 := ⟨by decide +kernel, rfl⟩
theorem eX11_errorOf_33 : DD cX11_errorOf 33 (.lstore_n 3) 1 34 := ⟨by decide +kernel, rfl⟩
theorem eX11_errorOf_34 : DD cX11_errorOf 34 (.lload 5) 2 36 := ⟨by decide +kernel, rfl⟩
theorem eX11_errorOf_36 : DD cX11_errorOf 36 (.aload_n 0) 1 37 := ⟨by decide +kernel, rfl⟩
theorem eX11_errorOf_37 : DD cX11_errorOf 37 (.getfield 40) 3 40 := ⟨by decide +kernel, rfl⟩
theorem eX11_errorOf_40 : DD cX11_errorOf 40 (.iload 7) 2 42 := ⟨by decide +kernel, rfl⟩
theorem eX11_errorOf_42 : DD cX11_errorOf 42 (.iaload) 1 43 := ⟨by decide +kernel, rfl⟩
theorem eX11_errorOf_43 : DD cX11_errorOf 43 (.i2l) 1 44 := ⟨by decide +kernel, rfl⟩
theorem eX11_errorOf_44 : DD cX11_errorOf 44 (.ladd) 1 45 := ⟨by decide +kernel, rfl⟩
theorem eX11_errorOf_45 : DD cX11_errorOf 45 (.lstore 5) 2 47 := ⟨by decide +kernel, rfl⟩
theorem eX11_errorOf_47 : DD cX11_errorOf 47 (.iinc 7 1) 3 50 := ⟨by decide +kernel, rfl⟩
theorem eX11_errorOf_50 : DB cX11_errorOf 50 (.goto (-42)) (-42) 53 8 := ⟨by decide +kernel, rfl, by decide⟩
theorem eX11_errorOf_53 : DD cX11_errorOf 53 (.ldc2_w 170) 3 56 := ⟨by decide +kernel, rfl⟩
theorem eX11_errorOf_56 : DD cX11_errorOf 56 (.lload_n 3) 1 57 := ⟨by decide +kernel, rfl⟩
theorem eX11_errorOf_57 : DD cX11_errorOf 57 (.lmul) 1 58 := ⟨by decide +kernel, rfl⟩
theorem eX11_errorOf_58 : DD cX11_errorOf 58 (.ldc2_w 170) 3 61 := ⟨by decide +kernel, rfl⟩
theorem eX11_errorOf_61 : DD cX11_errorOf 61 (.iload_n 2) 1 62 := ⟨by decide +kernel, rfl⟩
theorem eX11_errorOf_62 : DD cX11_errorOf 62 (.iload_n 1) 1 63 := ⟨by decide +kernel, rfl⟩
theorem eX11_errorOf_63 : DD cX11_errorOf 63 (.isub) 1 64 := ⟨by decide +kernel, rfl⟩
theorem eX11_errorOf_64 : DD cX11_errorOf 64 (.i2l) 1 65 := ⟨by decide +kernel, rfl⟩
theorem eX11_errorOf_65 : DD cX11_errorOf 65 (.ldiv) 1 66 := ⟨by decide +kernel, rfl⟩
theorem eX11_errorOf_66 : DD cX11_errorOf 66 (.lload 5) 2 68 := ⟨by decide +kernel, rfl⟩
theorem eX11_errorOf_68 : DD cX11_errorOf 68 (.lmul) 1 69 := ⟨by decide +kernel, rfl⟩
theorem eX11_errorOf_69 : DD cX11_errorOf 69 (.lload 5) 2 71 := ⟨by decide +kernel, rfl⟩
theorem eX11_errorOf_71 : DD cX11_errorOf 71 (.lmul) 1 72 := ⟨by decide +kernel, rfl⟩
theorem eX11_errorOf_72 : DD cX11_errorOf 72 (.lsub) 1 73 := ⟨by decide +kernel, rfl⟩
theorem eX11_errorOf_73 : DD cX11_errorOf 73 (.lreturn) 1 74 := ⟨by decide +kernel, rfl⟩
def L_X11_errorOf_8 : Nat → Int32 → Int32 → Int64 → Int64 → Int32 → Mem → Option (Int64 × Mem)
  | 0, _, _, _, _, _, _ => none
  | n + 1, x1, x2, l3, l5, x7, μ => if x2 ≤ x7 then gq (decide (¬ ((x2 - x1).toInt64) = 0)) (some (((720720 : Int64) * l3) - ((((720720 : Int64) / ((x2 - x1).toInt64)) * l5) * l5), μ)) else gq (inB x7 16) (gq (inB x7 16) (lb (l3 + (((rI μ 118 (nx x7)).toInt64) * ((rI μ 118 (nx x7)).toInt64))) (fun l3_1 => gq (inB x7 16) (lb (l5 + ((rI μ 118 (nx x7)).toInt64)) (fun l5_2 => lb (x7 + (1 : Int32)) (fun x7_3 => L_X11_errorOf_8  n x1 x2 l3_1 l5_2 x7_3 μ))))))
set_option maxHeartbeats 4000000 in
theorem j_X11_errorOf_8 {C : Cx} (hC : Ok C cX11_errorOf 8 RX11 (rmF 0 0)) (hr : (cT C).sig.returnType = (some .long)) : ∀ (n : Nat) (x1 : Int32) (x2 : Int32) (l3 : Int64) (l5 : Int64) (x7 : Int32) (μ : Mem), J C (KL C) μ 8 [(0, .ref (xad (cX C) 107)), (1, .int x1), (2, .int x2), (3, .long l3), (5, .long l5), (7, .int x7)] [] (L_X11_errorOf_8  n x1 x2 l3 l5 x7 μ) := by
  intro n
  induction n with
  | zero => intros; exact J.no
  | succ n ih =>
    intro x1 x2 l3 l5 x7 μ
    rw [L_X11_errorOf_8]
    refine J.iload (j := 5) hC eX11_errorOf_8 rfl ?_
    refine J.iload_n (j := 2) hC eX11_errorOf_10 rfl ?_
    refine J.icmp_ge hC eX11_errorOf_11 (fun _ => ?_) (fun _ => ?_)
    · refine J.ldc2 hC eX11_errorOf_53 mk_X11_170 ?_
      refine J.lload_n (j := 3) hC eX11_errorOf_56 rfl ?_
      refine J.lmul hC eX11_errorOf_57 ?_
      refine J.ldc2 hC eX11_errorOf_58 mk_X11_170 ?_
      refine J.iload_n (j := 2) hC eX11_errorOf_61 rfl ?_
      refine J.iload_n (j := 1) hC eX11_errorOf_62 rfl ?_
      refine J.isub hC eX11_errorOf_63 ?_
      refine J.i2l hC eX11_errorOf_64 ?_
      refine J.ldiv hC eX11_errorOf_65 ?_
      refine J.lload (j := 4) hC eX11_errorOf_66 rfl ?_
      refine J.lmul hC eX11_errorOf_68 ?_
      refine J.lload (j := 4) hC eX11_errorOf_69 rfl ?_
      refine J.lmul hC eX11_errorOf_71 ?_
      refine J.lsub hC eX11_errorOf_72 ?_
      exact J.lret hC hr eX11_errorOf_73
    · refine J.lload_n (j := 3) hC eX11_errorOf_14 rfl ?_
      refine J.aload_n (j := 0) hC eX11_errorOf_15 rfl ?_
      refine gf_X11_40 (q := 118) hC eX11_errorOf_16 kk_107 rfl ?_
      refine J.iload (j := 5) hC eX11_errorOf_19 rfl ?_
      refine J.iald ik_16 hC eX11_errorOf_21 kk_118 ?_
      refine J.i2l hC eX11_errorOf_22 ?_
      refine J.aload_n (j := 0) hC eX11_errorOf_23 rfl ?_
      refine gf_X11_40 (q := 118) hC eX11_errorOf_24 kk_107 rfl ?_
      refine J.iload (j := 5) hC eX11_errorOf_27 rfl ?_
      refine J.iald ik_16 hC eX11_errorOf_29 kk_118 ?_
      refine J.i2l hC eX11_errorOf_30 ?_
      refine J.lmul hC eX11_errorOf_31 ?_
      refine J.ladd hC eX11_errorOf_32 ?_
      refine J.topl (fun l3_1 => ?_)
      refine J.lstore_n [(3, .long l3_1), (0, .ref (xad (cX C) 107)), (1, .int x1), (2, .int x2), (5, .long l5), (7, .int x7)] hC eX11_errorOf_33 (by decide) rfl ?_
      refine J.lload (j := 4) hC eX11_errorOf_34 rfl ?_
      refine J.aload_n (j := 1) hC eX11_errorOf_36 rfl ?_
      refine gf_X11_40 (q := 118) hC eX11_errorOf_37 kk_107 rfl ?_
      refine J.iload (j := 5) hC eX11_errorOf_40 rfl ?_
      refine J.iald ik_16 hC eX11_errorOf_42 kk_118 ?_
      refine J.i2l hC eX11_errorOf_43 ?_
      refine J.ladd hC eX11_errorOf_44 ?_
      refine J.topl (fun l5_2 => ?_)
      refine J.lstore [(5, .long l5_2), (3, .long l3_1), (0, .ref (xad (cX C) 107)), (1, .int x1), (2, .int x2), (7, .int x7)] hC eX11_errorOf_45 (by decide) rfl ?_
      refine J.iinc (j := 5) (fun x7_3 => [(7, .int x7_3), (5, .long l5_2), (3, .long l3_1), (0, .ref (xad (cX C) 107)), (1, .int x1), (2, .int x2)]) hC eX11_errorOf_47 rfl ci_1 (by decide) (fun _ => rfl) (fun x7_3 => ?_)
      refine J.goto hC eX11_errorOf_50 ?_
      refine J.sub [3, 4, 5, 2, 1, 0] rfl ?_
      exact ih x1 x2 l3_1 l5_2 x7_3 μ
def G_X11_errorOf (x1 : Int32) (x2 : Int32) (μ : Mem) : Option (Int64 × Mem) :=
  L_X11_errorOf_8  100000 x1 x2 (0 : Int64) (0 : Int64) x1 μ
set_option maxHeartbeats 4000000 in
theorem c_X11_errorOf {X : Wd} (hX : WdOk X) (x1 : Int32) (x2 : Int32) (μ : Mem) : CtL X yX11_errorOf cX11_errorOf 8 (some .long) (rmF 0 0) [.ref (xad X 107), .int x1, .int x2] μ (G_X11_errorOf x1 x2 μ) := by
  refine CtL.of hX (plainFor_of_name (by decide)) (by exact Nat.le_of_ble_eq_true rfl) ?_
  intro C hCX hC hr
  subst hCX
  show J C (KL C) μ 0 [(0, .ref (xad (cX C) 107)), (1, .int x1), (2, .int x2)] [] _
  unfold G_X11_errorOf
  refine J.lconst hC eX11_errorOf_0 cl_0 ?_
  refine J.lstore_n [(3, .long (0 : Int64)), (0, .ref (xad (cX C) 107)), (1, .int x1), (2, .int x2)] hC eX11_errorOf_1 (by decide) rfl ?_
  refine J.lconst hC eX11_errorOf_2 cl_0 ?_
  refine J.lstore [(5, .long (0 : Int64)), (3, .long (0 : Int64)), (0, .ref (xad (cX C) 107)), (1, .int x1), (2, .int x2)] hC eX11_errorOf_3 (by decide) rfl ?_
  refine J.iload_n (j := 3) hC eX11_errorOf_5 rfl ?_
  refine J.istore [(7, .int x1), (5, .long (0 : Int64)), (3, .long (0 : Int64)), (0, .ref (xad (cX C) 107)), (1, .int x1), (2, .int x2)] hC eX11_errorOf_6 (by decide) rfl ?_
  refine J.sub [3, 4, 5, 2, 1, 0] rfl ?_
  exact j_X11_errorOf_8 hC hr  100000 x1 x2 (0 : Int64) (0 : Int64) x1 μ
-- X11_leastAt
theorem eX11_leastAt_0 : DD cX11_leastAt 0 (.bipush 18) 2 2 := ⟨by decide +kernel, rfl⟩
theorem eX11_leastAt_2 : DD cX11_leastAt 2 (.iload_n 0) 1 3 := ⟨by decide +kernel, rfl⟩
theorem eX11_leastAt_3 : DD cX11_leastAt 3 (.imul) 1 4 := ⟨by decide +kernel, rfl⟩
theorem eX11_leastAt_4 : DD cX11_leastAt 4 (.iload_n 1) 1 5 := ⟨by decide +kernel, rfl⟩
theorem eX11_leastAt_5 : DD cX11_leastAt 5 (.iadd) 1 6 := ⟨by decide +kernel, rfl⟩
theorem eX11_leastAt_6 : DD cX11_leastAt 6 (.ireturn) 1 7 := ⟨by decide +kernel, rfl⟩
def G_X11_leastAt (x0 : Int32) (x1 : Int32) (μ : Mem) : Option (Int32 × Mem) :=
  some (((18 : Int32) * x0) + x1, μ)
set_option maxHeartbeats 4000000 in
theorem c_X11_leastAt {X : Wd} (hX : WdOk X) (x0 : Int32) (x1 : Int32) (μ : Mem) : CtI X yX11_leastAt cX11_leastAt 2 (some .int) (rmF 0 0) [.int x0, .int x1] μ (G_X11_leastAt x0 x1 μ) := by
  refine CtI.of hX (plainFor_of_name (by decide)) (by exact Nat.le_of_ble_eq_true rfl) ?_
  intro C hCX hC hr
  subst hCX
  show J C (KI C) μ 0 [(0, .int x0), (1, .int x1)] [] _
  unfold G_X11_leastAt
  refine J.bipush hC eX11_leastAt_0 cb_18 ?_
  refine J.iload_n (j := 0) hC eX11_leastAt_2 rfl ?_
  refine J.imul hC eX11_leastAt_3 ?_
  refine J.iload_n (j := 1) hC eX11_leastAt_4 rfl ?_
  refine J.iadd hC eX11_leastAt_5 ?_
  exact J.iret hC hr eX11_leastAt_6
-- X11_layLeast
theorem eX11_layLeast_0 : DD cX11_layLeast 0 (.iconst 0) 1 1 := ⟨by decide +kernel, rfl⟩
theorem eX11_layLeast_1 : DD cX11_layLeast 1 (.istore_n 2) 1 2 := ⟨by decide +kernel, rfl⟩
theorem eX11_layLeast_2 : DD cX11_layLeast 2 (.iload_n 2) 1 3 := ⟨by decide +kernel, rfl⟩
theorem eX11_layLeast_3 : DD cX11_layLeast 3 (.iload_n 1) 1 4 := ⟨by decide +kernel, rfl⟩
theorem eX11_layLeast_4 : DB cX11_layLeast 4 (.if_icmp .gt 127) (127) 7 131 := ⟨by decide +kernel, rfl, by decide⟩
theorem eX11_layLeast_7 : DD cX11_layLeast 7 (.aload_n 0) 1 8 := ⟨by decide +kernel, rfl⟩
theorem eX11_layLeast_8 : DD cX11_layLeast 8 (.getfield 164) 3 11 := ⟨by decide +kernel, rfl⟩
theorem eX11_layLeast_11 : DD cX11_layLeast 11 (.istore_n 3) 1 12 := ⟨by decide +kernel, rfl⟩
theorem eX11_layLeast_12 : DD cX11_layLeast 12 (.iload_n 3) 1 13 := ⟨by decide +kernel, rfl⟩
theorem eX11_layLeast_13 : DB cX11_layLeast 13 (.ifCond .lt 112) (112) 16 125 := ⟨by decide +kernel, rfl, by decide⟩
theorem eX11_layLeast_16 : DD cX11_layLeast 16 (.iload_n 2) 1 17 := ⟨by decide +kernel, rfl⟩
theorem eX11_layLeast_17 : DB cX11_layLeast 17 (.ifCond .ne 15) (15) 20 32 := ⟨by decide +kernel, rfl, by decide⟩
theorem eX11_layLeast_20 : DD cX11_layLeast 20 (.iload_n 3) 1 21 := ⟨by decide +kernel, rfl⟩
theorem eX11_layLeast_21 : DD cX11_layLeast 21 (.aload_n 0) 1 22 := ⟨by decide +kernel, rfl⟩
theorem eX11_layLeast_22 : DD cX11_layLeast 22 (.getfield 164) 3 25 := ⟨by decide +kernel, rfl⟩
theorem eX11_layLeast_25 : DB cX11_layLeast 25 (.if_icmp .ne 7) (7) 28 32 := ⟨by decide +kernel, rfl, by decide⟩
theorem eX11_layLeast_28 : DD cX11_layLeast 28 (.lconst 0) 1 29 := ⟨by decide +kernel, rfl⟩
theorem eX11_layLeast_29 : DB cX11_layLeast 29 (.goto 6) (6) 32 35 := ⟨by decide +kernel, rfl, by decide⟩
theorem eX11_layLeast_32 : DD cX11_layLeast 32 (.ldc2_w 172) 3 35 := ⟨by decide +kernel, rfl⟩
theorem eX11_layLeast_35 : DD cX11_layLeast 35 (.lstore 4) 2 37 := ⟨by decide +kernel, rfl⟩
theorem eX11_layLeast_37 : DD cX11_layLeast 37 (.iload_n 3) 1 38 := ⟨by decide +kernel, rfl⟩
theorem eX11_layLeast_38 : DD cX11_layLeast 38 (.iconst 1) 1 39 := ⟨by decide +kernel, rfl⟩
theorem eX11_layLeast_39 : DD cX11_layLeast 39 (.iadd) 1 40 := ⟨by decide +kernel, rfl⟩
theorem eX11_layLeast_40 : DD cX11_layLeast 40 (.istore 6) 2 42 := ⟨by decide +kernel, rfl⟩
theorem eX11_layLeast_42 : DD cX11_layLeast 42 (.iload 6) 2 44 := ⟨by decide +kernel, rfl⟩
theorem eX11_layLeast_44 : DD cX11_layLeast 44 (.aload_n 0) 1 45 := ⟨by decide +kernel, rfl⟩
theorem eX11_layLeast_45 : DD cX11_layLeast 45 (.getfield 164) 3 48 := ⟨by decide +kernel, rfl⟩
theorem eX11_layLeast_48 : DB cX11_layLeast 48 (.if_icmp .gt 59) (59) 51 107 := ⟨by decide +kernel, rfl, by decide⟩
theorem eX11_layLeast_51 : DD cX11_layLeast 51 (.iload_n 2) 1 52 := ⟨by decide +kernel, rfl⟩
theorem eX11_layLeast_52 : DB cX11_layLeast 52 (.ifCond .le 55) (55) 55 107 := ⟨by decide +kernel, rfl, by decide⟩
theorem eX11_layLeast_55 : DD cX11_layLeast 55 (.aload_n 0) 1 56 := ⟨by decide +kernel, rfl⟩
theorem eX11_layLeast_56 : DD cX11_layLeast 56 (.getfield 43) 3 59 := ⟨by decide +kernel, rfl⟩
theorem eX11_layLeast_59 : DD cX11_layLeast 59 (.iload_n 2) 1 60 := ⟨by decide +kernel, rfl⟩
theorem eX11_layLeast_60 : DD cX11_layLeast 60 (.iconst 1) 1 61 := ⟨by decide +kernel, rfl⟩
theorem eX11_layLeast_61 : DD cX11_layLeast 61 (.isub) 1 62 := ⟨by decide +kernel, rfl⟩
theorem eX11_layLeast_62 : DD cX11_layLeast 62 (.iload 6) 2 64 := ⟨by decide +kernel, rfl⟩
theorem eX11_layLeast_64 : DD cX11_layLeast 64 (.invokestatic 174) 3 67 := ⟨by decide +kernel, rfl⟩
theorem eX11_layLeast_67 : DD cX11_layLeast 67 (.laload) 1 68 := ⟨by decide +kernel, rfl⟩
theorem eX11_layLeast_68 : DD cX11_layLeast 68 (.lstore 7) 2 70 := ⟨by decide +kernel, rfl⟩
theorem eX11_layLeast_70 : DD cX11_layLeast 70 (.lload 7) 2 72 := ⟨by decide +kernel, rfl⟩
theorem eX11_layLeast_72 : DD cX11_layLeast 72 (.ldc2_w 172) 3 75 := ⟨by decide +kernel, rfl⟩
theorem eX11_layLeast_75 : DD cX11_layLeast 75 (.lcmp) 1 76 := ⟨by decide +kernel, rfl⟩
theorem eX11_layLeast_76 : DB cX11_layLeast 76 (.ifCond .ne 8) (8) 79 84 := ⟨by decide +kernel, rfl, by decide⟩
theorem eX11_layLeast_79 : DD cX11_layLeast 79 (.lload 4) 2 81 := ⟨by decide +kernel, rfl⟩
theorem eX11_layLeast_81 : DB cX11_layLeast 81 (.goto 18) (18) 84 99 := ⟨by decide +kernel, rfl, by decide⟩
theorem eX11_layLeast_84 : DD cX11_layLeast 84 (.lload 4) 2 86 := ⟨by decide +kernel, rfl⟩
theorem eX11_layLeast_86 : DD cX11_layLeast 86 (.aload_n 0) 1 87 := ⟨by decide +kernel, rfl⟩
theorem eX11_layLeast_87 : DD cX11_layLeast 87 (.iload_n 3) 1 88 := ⟨by decide +kernel, rfl⟩
theorem eX11_layLeast_88 : DD cX11_layLeast 88 (.iload 6) 2 90 := ⟨by decide +kernel, rfl⟩
theorem eX11_layLeast_90 : DD cX11_layLeast 90 (.invokevirtual 177) 3 93 := ⟨by decide +kernel, rfl⟩
theorem eX11_layLeast_93 : DD cX11_layLeast 93 (.lload 7) 2 95 := ⟨by decide +kernel, rfl⟩
theorem eX11_layLeast_95 : DD cX11_layLeast 95 (.ladd) 1 96 := ⟨by decide +kernel, rfl⟩
theorem eX11_layLeast_96 : DD cX11_layLeast 96 (.invokestatic 181) 3 99 := ⟨by decide +kernel, rfl⟩
theorem eX11_layLeast_99 : DD cX11_layLeast 99 (.lstore 4) 2 101 := ⟨by decide +kernel, rfl⟩
theorem eX11_layLeast_101 : DD cX11_layLeast 101 (.iinc 6 1) 3 104 := ⟨by decide +kernel, rfl⟩
theorem eX11_layLeast_104 : DB cX11_layLeast 104 (.goto (-62)) (-62) 107 42 := ⟨by decide +kernel, rfl, by decide⟩
theorem eX11_layLeast_107 : DD cX11_layLeast 107 (.aload_n 0) 1 108 := ⟨by decide +kernel, rfl⟩
theorem eX11_layLeast_108 : DD cX11_layLeast 108 (.getfield 43) 3 111 := ⟨by decide +kernel, rfl⟩
theorem eX11_layLeast_111 : DD cX11_layLeast 111 (.iload_n 2) 1 112 := ⟨by decide +kernel, rfl⟩
theorem eX11_layLeast_112 : DD cX11_layLeast 112 (.iload_n 3) 1 113 := ⟨by decide +kernel, rfl⟩
theorem eX11_layLeast_113 : DD cX11_layLeast 113 (.invokestatic 174) 3 116 := ⟨by decide +kernel, rfl⟩
theorem eX11_layLeast_116 : DD cX11_layLeast 116 (.lload 4) 2 118 := ⟨by decide +kernel, rfl⟩
theorem eX11_layLeast_118 : DD cX11_layLeast 118 (.lastore) 1 119 := ⟨by decide +kernel, rfl⟩
theorem eX11_layLeast_119 : DD cX11_layLeast 119 (.iinc 3 (-1)) 3 122 := ⟨by decide +kernel, rfl⟩
theorem eX11_layLeast_122 : DB cX11_layLeast 122 (.goto (-110)) (-110) 125 12 := ⟨by decide +kernel, rfl, by decide⟩
theorem eX11_layLeast_125 : DD cX11_layLeast 125 (.iinc 2 1) 3 128 := ⟨by decide +kernel, rfl⟩
theorem eX11_layLeast_128 : DB cX11_layLeast 128 (.goto (-126)) (-126) 131 2 := ⟨by decide +kernel, rfl, by decide⟩
theorem eX11_layLeast_131 : DD cX11_layLeast 131 (.return_) 1 132 := ⟨by decide +kernel, rfl⟩
def F_X11_layLeast_107 (kc_2 : Int32 → Int32 → Mem → Option (Unit × Mem)) (kc_12 : Int32 → Int32 → Int32 → Mem → Option (Unit × Mem)) (x1 : Int32) (x2 : Int32) (x3 : Int32) (l4 : Int64) (μ : Mem) : Option (Unit × Mem) :=
  bd (G_X11_leastAt x2 x3 μ) (fun r_2 μ_1 => gq (inB r_2 306) (lb (wL μ_1 119 (nx r_2) l4) (fun μ_3 => lb (x3 + (-1 : Int32)) (fun x3_4 => kc_12 x1 x2 x3_4 μ_3))))
set_option maxHeartbeats 4000000 in
theorem j_X11_layLeast_107 {C : Cx} (hC : Ok C cX11_layLeast 9 RX11 (rmF 1 27)) (hr : (cT C).sig.returnType = none) (kc_2 : Int32 → Int32 → Mem → Option (Unit × Mem)) (hk_2 : ∀ (x1 : Int32) (x2 : Int32) (μ : Mem), J C (KV C) μ 2 [(0, .ref (xad (cX C) 107)), (1, .int x1), (2, .int x2)] [] (kc_2 x1 x2 μ)) (kc_12 : Int32 → Int32 → Int32 → Mem → Option (Unit × Mem)) (hk_12 : ∀ (x1 : Int32) (x2 : Int32) (x3 : Int32) (μ : Mem), J C (KV C) μ 12 [(0, .ref (xad (cX C) 107)), (1, .int x1), (2, .int x2), (3, .int x3)] [] (kc_12 x1 x2 x3 μ)) (x1 : Int32) (x2 : Int32) (x3 : Int32) (l4 : Int64) (μ : Mem) : J C (KV C) μ 107 [(0, .ref (xad (cX C) 107)), (1, .int x1), (2, .int x2), (3, .int x3), (4, .long l4)] [] (F_X11_layLeast_107 kc_2 kc_12 x1 x2 x3 l4 μ) := by
  unfold F_X11_layLeast_107
  refine J.aload_n (j := 0) hC eX11_layLeast_107 rfl ?_
  refine gf_X11_43 (q := 119) hC eX11_layLeast_108 kk_107 rfl ?_
  refine J.iload_n (j := 2) hC eX11_layLeast_111 rfl ?_
  refine J.iload_n (j := 3) hC eX11_layLeast_112 rfl ?_
  refine J.callSI (st := [.ref (xad (cX C) 119)]) hC eX11_layLeast_113 ml_X11_174 mv_X11_leastAt (Rle_of (Nat.le_of_ble_eq_true rfl) (Nat.le_of_ble_eq_true rfl)) (c_X11_leastAt hC.X x2 x3 μ) rfl rfl (Nat.le_of_ble_eq_true rfl) (fun r_2 μ_1 => ?_)
  refine J.lload (j := 4) hC eX11_layLeast_116 rfl ?_
  refine J.last il_306 hC eX11_layLeast_118 kk_119 (fun μ_3 => ?_)
  refine J.iinc (j := 3) (fun x3_4 => [(3, .int x3_4), (0, .ref (xad (cX C) 107)), (1, .int x1), (2, .int x2), (4, .long l4)]) hC eX11_layLeast_119 rfl ci_m1 (by decide) (fun _ => rfl) (fun x3_4 => ?_)
  refine J.goto hC eX11_layLeast_122 ?_
  refine J.sub [1, 2, 3, 0] rfl ?_
  exact hk_12 x1 x2 x3_4 μ_3
def F_X11_layLeast_99 (kc_2 : Int32 → Int32 → Mem → Option (Unit × Mem)) (kc_12 : Int32 → Int32 → Int32 → Mem → Option (Unit × Mem)) (kc_42 : Int32 → Int32 → Int32 → Int64 → Int32 → Mem → Option (Unit × Mem)) (x1 : Int32) (x2 : Int32) (x3 : Int32) (x6 : Int32) (ls0 : Int64) (μ : Mem) : Option (Unit × Mem) :=
  lb (x6 + (1 : Int32)) (fun x6_1 => kc_42 x1 x2 x3 ls0 x6_1 μ)
set_option maxHeartbeats 4000000 in
theorem j_X11_layLeast_99 {C : Cx} (hC : Ok C cX11_layLeast 9 RX11 (rmF 1 27)) (hr : (cT C).sig.returnType = none) (kc_2 : Int32 → Int32 → Mem → Option (Unit × Mem)) (hk_2 : ∀ (x1 : Int32) (x2 : Int32) (μ : Mem), J C (KV C) μ 2 [(0, .ref (xad (cX C) 107)), (1, .int x1), (2, .int x2)] [] (kc_2 x1 x2 μ)) (kc_12 : Int32 → Int32 → Int32 → Mem → Option (Unit × Mem)) (hk_12 : ∀ (x1 : Int32) (x2 : Int32) (x3 : Int32) (μ : Mem), J C (KV C) μ 12 [(0, .ref (xad (cX C) 107)), (1, .int x1), (2, .int x2), (3, .int x3)] [] (kc_12 x1 x2 x3 μ)) (kc_42 : Int32 → Int32 → Int32 → Int64 → Int32 → Mem → Option (Unit × Mem)) (hk_42 : ∀ (x1 : Int32) (x2 : Int32) (x3 : Int32) (l4 : Int64) (x6 : Int32) (μ : Mem), J C (KV C) μ 42 [(0, .ref (xad (cX C) 107)), (1, .int x1), (2, .int x2), (3, .int x3), (4, .long l4), (6, .int x6)] [] (kc_42 x1 x2 x3 l4 x6 μ)) (x1 : Int32) (x2 : Int32) (x3 : Int32) (x6 : Int32) (ls0 : Int64) (μ : Mem) : J C (KV C) μ 99 [(0, .ref (xad (cX C) 107)), (1, .int x1), (2, .int x2), (3, .int x3), (6, .int x6)] [.long ls0] (F_X11_layLeast_99 kc_2 kc_12 kc_42 x1 x2 x3 x6 ls0 μ) := by
  unfold F_X11_layLeast_99
  refine J.lstore [(4, .long ls0), (0, .ref (xad (cX C) 107)), (1, .int x1), (2, .int x2), (3, .int x3), (6, .int x6)] hC eX11_layLeast_99 (by decide) rfl ?_
  refine J.iinc (j := 5) (fun x6_1 => [(6, .int x6_1), (4, .long ls0), (0, .ref (xad (cX C) 107)), (1, .int x1), (2, .int x2), (3, .int x3)]) hC eX11_layLeast_101 rfl ci_1 (by decide) (fun _ => rfl) (fun x6_1 => ?_)
  refine J.goto hC eX11_layLeast_104 ?_
  refine J.sub [2, 3, 4, 5, 1, 0] rfl ?_
  exact hk_42 x1 x2 x3 ls0 x6_1 μ
def L_X11_layLeast_42 (kc_2 : Int32 → Int32 → Mem → Option (Unit × Mem)) (kc_12 : Int32 → Int32 → Int32 → Mem → Option (Unit × Mem)) : Nat → Int32 → Int32 → Int32 → Int64 → Int32 → Mem → Option (Unit × Mem)
  | 0, _, _, _, _, _, _ => none
  | n + 1, x1, x2, x3, l4, x6, μ => if (rI μ 107 19) < x6 then F_X11_layLeast_107 kc_2 kc_12 x1 x2 x3 l4 μ else if x2 ≤ 0 then F_X11_layLeast_107 kc_2 kc_12 x1 x2 x3 l4 μ else bd (G_X11_leastAt (x2 - (1 : Int32)) x6 μ) (fun r_2 μ_1 => gq (inB r_2 306) (lb (rL μ_1 119 (nx r_2)) (fun l7_3 => if (lg_cmp l7_3 (1000000000000000 : Int64)) = 0 then F_X11_layLeast_99 kc_2 kc_12 (L_X11_layLeast_42 kc_2 kc_12 n) x1 x2 x3 x6 l4 μ_1 else bd (G_X11_errorOf x3 x6 μ_1) (fun r_5 μ_4 => F_X11_layLeast_99 kc_2 kc_12 (L_X11_layLeast_42 kc_2 kc_12 n) x1 x2 x3 x6 (lmin l4 (r_5 + l7_3)) μ_4))))
set_option maxHeartbeats 4000000 in
theorem j_X11_layLeast_42 {C : Cx} (hC : Ok C cX11_layLeast 9 RX11 (rmF 1 27)) (hr : (cT C).sig.returnType = none) (kc_2 : Int32 → Int32 → Mem → Option (Unit × Mem)) (hk_2 : ∀ (x1 : Int32) (x2 : Int32) (μ : Mem), J C (KV C) μ 2 [(0, .ref (xad (cX C) 107)), (1, .int x1), (2, .int x2)] [] (kc_2 x1 x2 μ)) (kc_12 : Int32 → Int32 → Int32 → Mem → Option (Unit × Mem)) (hk_12 : ∀ (x1 : Int32) (x2 : Int32) (x3 : Int32) (μ : Mem), J C (KV C) μ 12 [(0, .ref (xad (cX C) 107)), (1, .int x1), (2, .int x2), (3, .int x3)] [] (kc_12 x1 x2 x3 μ)) : ∀ (n : Nat) (x1 : Int32) (x2 : Int32) (x3 : Int32) (l4 : Int64) (x6 : Int32) (μ : Mem), J C (KV C) μ 42 [(0, .ref (xad (cX C) 107)), (1, .int x1), (2, .int x2), (3, .int x3), (4, .long l4), (6, .int x6)] [] (L_X11_layLeast_42 kc_2 kc_12 n x1 x2 x3 l4 x6 μ) := by
  intro n
  induction n with
  | zero => intros; exact J.no
  | succ n ih =>
    intro x1 x2 x3 l4 x6 μ
    rw [L_X11_layLeast_42]
    refine J.iload (j := 5) hC eX11_layLeast_42 rfl ?_
    refine J.aload_n (j := 0) hC eX11_layLeast_44 rfl ?_
    refine gf_X11_164 hC eX11_layLeast_45 kk_107 ?_
    refine J.icmp_gt hC eX11_layLeast_48 (fun _ => ?_) (fun _ => ?_)
    · refine J.sub [0, 1, 2, 3, 4] rfl ?_
      exact j_X11_layLeast_107 hC hr kc_2 hk_2 kc_12 hk_12 x1 x2 x3 l4 μ
    · refine J.iload_n (j := 2) hC eX11_layLeast_51 rfl ?_
      refine J.if_le hC eX11_layLeast_52 (fun _ => ?_) (fun _ => ?_)
      · refine J.sub [0, 1, 2, 3, 4] rfl ?_
        exact j_X11_layLeast_107 hC hr kc_2 hk_2 kc_12 hk_12 x1 x2 x3 l4 μ
      · refine J.aload_n (j := 0) hC eX11_layLeast_55 rfl ?_
        refine gf_X11_43 (q := 119) hC eX11_layLeast_56 kk_107 rfl ?_
        refine J.iload_n (j := 2) hC eX11_layLeast_59 rfl ?_
        refine J.iconst hC eX11_layLeast_60 ci_1 ?_
        refine J.isub hC eX11_layLeast_61 ?_
        refine J.iload (j := 5) hC eX11_layLeast_62 rfl ?_
        refine J.callSI (st := [.ref (xad (cX C) 119)]) hC eX11_layLeast_64 ml_X11_174 mv_X11_leastAt (Rle_of (Nat.le_of_ble_eq_true rfl) (Nat.le_of_ble_eq_true rfl)) (c_X11_leastAt hC.X (x2 - (1 : Int32)) x6 μ) rfl rfl (Nat.le_of_ble_eq_true rfl) (fun r_2 μ_1 => ?_)
        refine J.lald il_306 hC eX11_layLeast_67 kk_119 ?_
        refine J.topl (fun l7_3 => ?_)
        refine J.lstore [(7, .long l7_3), (0, .ref (xad (cX C) 107)), (1, .int x1), (2, .int x2), (3, .int x3), (4, .long l4), (6, .int x6)] hC eX11_layLeast_68 (by decide) rfl ?_
        refine J.lload (j := 0) hC eX11_layLeast_70 rfl ?_
        refine J.ldc2 hC eX11_layLeast_72 mk_X11_172 ?_
        refine J.lcmp hC eX11_layLeast_75 ?_
        refine J.if_ne hC eX11_layLeast_76 (fun _ => ?_) (fun _ => ?_)
        · refine J.lload (j := 5) hC eX11_layLeast_79 rfl ?_
          refine J.goto hC eX11_layLeast_81 ?_
          refine J.sub [1, 2, 3, 4, 6] rfl ?_
          exact j_X11_layLeast_99 hC hr kc_2 hk_2 kc_12 hk_12 (L_X11_layLeast_42 kc_2 kc_12 n) ih x1 x2 x3 x6 l4 μ_1
        · refine J.lload (j := 5) hC eX11_layLeast_84 rfl ?_
          refine J.aload_n (j := 1) hC eX11_layLeast_86 rfl ?_
          refine J.iload_n (j := 4) hC eX11_layLeast_87 rfl ?_
          refine J.iload (j := 6) hC eX11_layLeast_88 rfl ?_
          refine J.callVL (st := [.long l4]) hC eX11_layLeast_90 kk_107 (by decide) rfl rfl ml_X11_177 mv_X11_errorOf (Rle_of (Nat.le_of_ble_eq_true rfl) (Nat.le_of_ble_eq_true rfl)) (c_X11_errorOf hC.X x3 x6 μ_1) rfl rfl (Nat.le_of_ble_eq_true rfl) (fun r_5 μ_4 => ?_)
          refine J.lload (j := 0) hC eX11_layLeast_93 rfl ?_
          refine J.ladd hC eX11_layLeast_95 ?_
          refine J.lmin hC eX11_layLeast_96 ml_X11_181 w_sminL w_im w_cminL (Nat.le_of_ble_eq_true rfl) (Nat.le_of_ble_eq_true rfl) ?_
          refine J.sub [1, 2, 3, 4, 6] rfl ?_
          exact j_X11_layLeast_99 hC hr kc_2 hk_2 kc_12 hk_12 (L_X11_layLeast_42 kc_2 kc_12 n) ih x1 x2 x3 x6 (lmin l4 (r_5 + l7_3)) μ_4
def F_X11_layLeast_35 (kc_2 : Int32 → Int32 → Mem → Option (Unit × Mem)) (kc_12 : Int32 → Int32 → Int32 → Mem → Option (Unit × Mem)) (x1 : Int32) (x2 : Int32) (x3 : Int32) (ls0 : Int64) (μ : Mem) : Option (Unit × Mem) :=
  lb (x3 + (1 : Int32)) (fun x6_1 => L_X11_layLeast_42 kc_2 kc_12 100000 x1 x2 x3 ls0 x6_1 μ)
set_option maxHeartbeats 4000000 in
theorem j_X11_layLeast_35 {C : Cx} (hC : Ok C cX11_layLeast 9 RX11 (rmF 1 27)) (hr : (cT C).sig.returnType = none) (kc_2 : Int32 → Int32 → Mem → Option (Unit × Mem)) (hk_2 : ∀ (x1 : Int32) (x2 : Int32) (μ : Mem), J C (KV C) μ 2 [(0, .ref (xad (cX C) 107)), (1, .int x1), (2, .int x2)] [] (kc_2 x1 x2 μ)) (kc_12 : Int32 → Int32 → Int32 → Mem → Option (Unit × Mem)) (hk_12 : ∀ (x1 : Int32) (x2 : Int32) (x3 : Int32) (μ : Mem), J C (KV C) μ 12 [(0, .ref (xad (cX C) 107)), (1, .int x1), (2, .int x2), (3, .int x3)] [] (kc_12 x1 x2 x3 μ)) (x1 : Int32) (x2 : Int32) (x3 : Int32) (ls0 : Int64) (μ : Mem) : J C (KV C) μ 35 [(0, .ref (xad (cX C) 107)), (1, .int x1), (2, .int x2), (3, .int x3)] [.long ls0] (F_X11_layLeast_35 kc_2 kc_12 x1 x2 x3 ls0 μ) := by
  unfold F_X11_layLeast_35
  refine J.lstore [(4, .long ls0), (0, .ref (xad (cX C) 107)), (1, .int x1), (2, .int x2), (3, .int x3)] hC eX11_layLeast_35 (by decide) rfl ?_
  refine J.iload_n (j := 4) hC eX11_layLeast_37 rfl ?_
  refine J.iconst hC eX11_layLeast_38 ci_1 ?_
  refine J.iadd hC eX11_layLeast_39 ?_
  refine J.topi (fun x6_1 => ?_)
  refine J.istore [(6, .int x6_1), (4, .long ls0), (0, .ref (xad (cX C) 107)), (1, .int x1), (2, .int x2), (3, .int x3)] hC eX11_layLeast_40 (by decide) rfl ?_
  refine J.sub [2, 3, 4, 5, 1, 0] rfl ?_
  exact j_X11_layLeast_42 hC hr kc_2 hk_2 kc_12 hk_12 100000 x1 x2 x3 ls0 x6_1 μ
def F_X11_layLeast_32 (kc_2 : Int32 → Int32 → Mem → Option (Unit × Mem)) (kc_12 : Int32 → Int32 → Int32 → Mem → Option (Unit × Mem)) (x1 : Int32) (x2 : Int32) (x3 : Int32) (μ : Mem) : Option (Unit × Mem) :=
  F_X11_layLeast_35 kc_2 kc_12 x1 x2 x3 (1000000000000000 : Int64) μ
set_option maxHeartbeats 4000000 in
theorem j_X11_layLeast_32 {C : Cx} (hC : Ok C cX11_layLeast 9 RX11 (rmF 1 27)) (hr : (cT C).sig.returnType = none) (kc_2 : Int32 → Int32 → Mem → Option (Unit × Mem)) (hk_2 : ∀ (x1 : Int32) (x2 : Int32) (μ : Mem), J C (KV C) μ 2 [(0, .ref (xad (cX C) 107)), (1, .int x1), (2, .int x2)] [] (kc_2 x1 x2 μ)) (kc_12 : Int32 → Int32 → Int32 → Mem → Option (Unit × Mem)) (hk_12 : ∀ (x1 : Int32) (x2 : Int32) (x3 : Int32) (μ : Mem), J C (KV C) μ 12 [(0, .ref (xad (cX C) 107)), (1, .int x1), (2, .int x2), (3, .int x3)] [] (kc_12 x1 x2 x3 μ)) (x1 : Int32) (x2 : Int32) (x3 : Int32) (μ : Mem) : J C (KV C) μ 32 [(0, .ref (xad (cX C) 107)), (1, .int x1), (2, .int x2), (3, .int x3)] [] (F_X11_layLeast_32 kc_2 kc_12 x1 x2 x3 μ) := by
  unfold F_X11_layLeast_32
  refine J.ldc2 hC eX11_layLeast_32 mk_X11_172 ?_
  refine J.sub [0, 1, 2, 3] rfl ?_
  exact j_X11_layLeast_35 hC hr kc_2 hk_2 kc_12 hk_12 x1 x2 x3 (1000000000000000 : Int64) μ
def L_X11_layLeast_12 (kc_2 : Int32 → Int32 → Mem → Option (Unit × Mem)) : Nat → Int32 → Int32 → Int32 → Mem → Option (Unit × Mem)
  | 0, _, _, _, _ => none
  | n + 1, x1, x2, x3, μ => if x3 < 0 then lb (x2 + (1 : Int32)) (fun x2_1 => kc_2 x1 x2_1 μ) else if x2 = 0 then if x3 = (rI μ 107 19) then F_X11_layLeast_35 kc_2 (L_X11_layLeast_12 kc_2 n) x1 x2 x3 (0 : Int64) μ else F_X11_layLeast_32 kc_2 (L_X11_layLeast_12 kc_2 n) x1 x2 x3 μ else F_X11_layLeast_32 kc_2 (L_X11_layLeast_12 kc_2 n) x1 x2 x3 μ
set_option maxHeartbeats 4000000 in
theorem j_X11_layLeast_12 {C : Cx} (hC : Ok C cX11_layLeast 9 RX11 (rmF 1 27)) (hr : (cT C).sig.returnType = none) (kc_2 : Int32 → Int32 → Mem → Option (Unit × Mem)) (hk_2 : ∀ (x1 : Int32) (x2 : Int32) (μ : Mem), J C (KV C) μ 2 [(0, .ref (xad (cX C) 107)), (1, .int x1), (2, .int x2)] [] (kc_2 x1 x2 μ)) : ∀ (n : Nat) (x1 : Int32) (x2 : Int32) (x3 : Int32) (μ : Mem), J C (KV C) μ 12 [(0, .ref (xad (cX C) 107)), (1, .int x1), (2, .int x2), (3, .int x3)] [] (L_X11_layLeast_12 kc_2 n x1 x2 x3 μ) := by
  intro n
  induction n with
  | zero => intros; exact J.no
  | succ n ih =>
    intro x1 x2 x3 μ
    rw [L_X11_layLeast_12]
    refine J.iload_n (j := 3) hC eX11_layLeast_12 rfl ?_
    refine J.if_lt hC eX11_layLeast_13 (fun _ => ?_) (fun _ => ?_)
    · refine J.iinc (j := 2) (fun x2_1 => [(2, .int x2_1), (0, .ref (xad (cX C) 107)), (1, .int x1), (3, .int x3)]) hC eX11_layLeast_125 rfl ci_1 (by decide) (fun _ => rfl) (fun x2_1 => ?_)
      refine J.goto hC eX11_layLeast_128 ?_
      refine J.sub [1, 2, 0] rfl ?_
      exact hk_2 x1 x2_1 μ
    · refine J.iload_n (j := 2) hC eX11_layLeast_16 rfl ?_
      refine J.if_ne hC eX11_layLeast_17 (fun _ => ?_) (fun _ => ?_)
      · refine J.iload_n (j := 3) hC eX11_layLeast_20 rfl ?_
        refine J.aload_n (j := 0) hC eX11_layLeast_21 rfl ?_
        refine gf_X11_164 hC eX11_layLeast_22 kk_107 ?_
        refine J.icmp_ne hC eX11_layLeast_25 (fun _ => ?_) (fun _ => ?_)
        · refine J.lconst hC eX11_layLeast_28 cl_0 ?_
          refine J.goto hC eX11_layLeast_29 ?_
          refine J.sub [0, 1, 2, 3] rfl ?_
          exact j_X11_layLeast_35 hC hr kc_2 hk_2 (L_X11_layLeast_12 kc_2 n) ih x1 x2 x3 (0 : Int64) μ
        · refine J.sub [0, 1, 2, 3] rfl ?_
          exact j_X11_layLeast_32 hC hr kc_2 hk_2 (L_X11_layLeast_12 kc_2 n) ih x1 x2 x3 μ
      · refine J.sub [0, 1, 2, 3] rfl ?_
        exact j_X11_layLeast_32 hC hr kc_2 hk_2 (L_X11_layLeast_12 kc_2 n) ih x1 x2 x3 μ
def L_X11_layLeast_2 : Nat → Int32 → Int32 → Mem → Option (Unit × Mem)
  | 0, _, _, _ => none
  | n + 1, x1, x2, μ => if x1 < x2 then some ((), μ) else lb (rI μ 107 19) (fun x3_1 => L_X11_layLeast_12 (L_X11_layLeast_2  n) 100000 x1 x2 x3_1 μ)
set_option maxHeartbeats 4000000 in
theorem j_X11_layLeast_2 {C : Cx} (hC : Ok C cX11_layLeast 9 RX11 (rmF 1 27)) (hr : (cT C).sig.returnType = none) : ∀ (n : Nat) (x1 : Int32) (x2 : Int32) (μ : Mem), J C (KV C) μ 2 [(0, .ref (xad (cX C) 107)), (1, .int x1), (2, .int x2)] [] (L_X11_layLeast_2  n x1 x2 μ) := by
  intro n
  induction n with
  | zero => intros; exact J.no
  | succ n ih =>
    intro x1 x2 μ
    rw [L_X11_layLeast_2]
    refine J.iload_n (j := 2) hC eX11_layLeast_2 rfl ?_
    refine J.iload_n (j := 1) hC eX11_layLeast_3 rfl ?_
    refine J.icmp_gt hC eX11_layLeast_4 (fun _ => ?_) (fun _ => ?_)
    · exact J.vret hC hr eX11_layLeast_131
    · refine J.aload_n (j := 0) hC eX11_layLeast_7 rfl ?_
      refine gf_X11_164 hC eX11_layLeast_8 kk_107 ?_
      refine J.topi (fun x3_1 => ?_)
      refine J.istore_n [(3, .int x3_1), (0, .ref (xad (cX C) 107)), (1, .int x1), (2, .int x2)] hC eX11_layLeast_11 (by decide) rfl ?_
      refine J.sub [1, 2, 3, 0] rfl ?_
      exact j_X11_layLeast_12 hC hr (L_X11_layLeast_2  n) ih 100000 x1 x2 x3_1 μ
def G_X11_layLeast (x1 : Int32) (μ : Mem) : Option (Unit × Mem) :=
  L_X11_layLeast_2  100000 x1 (0 : Int32) μ
set_option maxHeartbeats 4000000 in
theorem c_X11_layLeast {X : Wd} (hX : WdOk X) (x1 : Int32) (μ : Mem) : CtV X yX11_layLeast cX11_layLeast 9 none (rmF 1 27) [.ref (xad X 107), .int x1] μ (G_X11_layLeast x1 μ) := by
  refine CtV.of hX (plainFor_of_name (by decide)) (by exact Nat.le_of_ble_eq_true rfl) ?_
  intro C hCX hC hr
  subst hCX
  show J C (KV C) μ 0 [(0, .ref (xad (cX C) 107)), (1, .int x1)] [] _
  unfold G_X11_layLeast
  refine J.iconst hC eX11_layLeast_0 ci_0 ?_
  refine J.istore_n [(2, .int (0 : Int32)), (0, .ref (xad (cX C) 107)), (1, .int x1)] hC eX11_layLeast_1 (by decide) rfl ?_
  refine J.sub [1, 2, 0] rfl ?_
  exact j_X11_layLeast_2 hC hr  100000 x1 (0 : Int32) μ
-- X11_layBorders
theorem eX11_layBorders_0 : DD cX11_layBorders 0 (.aload_n 0) 1 1 := ⟨by decide +kernel, rfl⟩
theorem eX11_layBorders_1 : DD cX11_layBorders 1 (.iload_n 1) 1 2 := ⟨by decide +kernel, rfl⟩
theorem eX11_layBorders_2 : DD cX11_layBorders 2 (.invokevirtual 187) 3 5 := ⟨by decide +kernel, rfl⟩
theorem eX11_layBorders_5 : DD cX11_layBorders 5 (.aload_n 0) 1 6 := ⟨by decide +kernel, rfl⟩
theorem eX11_layBorders_6 : DD cX11_layBorders 6 (.getfield 47) 3 9 := ⟨by decide +kernel, rfl⟩
theorem eX11_layBorders_9 : DD cX11_layBorders 9 (.iconst 0) 1 10 := ⟨by decide +kernel, rfl⟩
theorem eX11_layBorders_10 : DD cX11_layBorders 10 (.iconst 0) 1 11 := ⟨by decide +kernel, rfl⟩
theorem eX11_layBorders_11 : DD cX11_layBorders 11 (.iastore) 1 12 := ⟨by decide +kernel, rfl⟩
theorem eX11_layBorders_12 : DD cX11_layBorders 12 (.iconst 1) 1 13 := ⟨by decide +kernel, rfl⟩
theorem eX11_layBorders_13 : DD cX11_layBorders 13 (.istore_n 2) 1 14 := ⟨by decide +kernel, rfl⟩
theorem eX11_layBorders_14 : DD cX11_layBorders 14 (.iload_n 2) 1 15 := ⟨by decide +kernel, rfl⟩
theorem eX11_layBorders_15 : DD cX11_layBorders 15 (.iload_n 1) 1 16 := ⟨by decide +kernel, rfl⟩
theorem eX11_layBorders_16 : DB cX11_layBorders 16 (.if_icmp .ge 96) (96) 19 112 := ⟨by decide +kernel, rfl, by decide⟩
theorem eX11_layBorders_19 : DD cX11_layBorders 19 (.aload_n 0) 1 20 := ⟨by decide +kernel, rfl⟩
theorem eX11_layBorders_20 : DD cX11_layBorders 20 (.getfield 47) 3 23 := ⟨by decide +kernel, rfl⟩
theorem eX11_layBorders_23 : DD cX11_layBorders 23 (.iload_n 2) 1 24 := ⟨by decide +kernel, rfl⟩
theorem eX11_layBorders_24 : DD cX11_layBorders 24 (.iconst 1) 1 25 := ⟨by decide +kernel, rfl⟩
theorem eX11_layBorders_25 : DD cX11_layBorders 25 (.isub) 1 26 := ⟨by decide +kernel, rfl⟩
theorem eX11_layBorders_26 : DD cX11_layBorders 26 (.iaload) 1 27 := ⟨by decide +kernel, rfl⟩
theorem eX11_layBorders_27 : DD cX11_layBorders 27 (.istore_n 3) 1 28 := ⟨by decide +kernel, rfl⟩
theorem eX11_layBorders_28 : DD cX11_layBorders 28 (.iload_n 3) 1 29 := ⟨by decide +kernel, rfl⟩
theorem eX11_layBorders_29 : DD cX11_layBorders 29 (.iconst 1) 1 30 := ⟨by decide +kernel, rfl⟩
theorem eX11_layBorders_30 : DD cX11_layBorders 30 (.iadd) 1 31 := ⟨by decide +kernel, rfl⟩
theorem eX11_layBorders_31 : DD cX11_layBorders 31 (.istore 4) 2 33 := ⟨by decide +kernel, rfl⟩
theorem eX11_layBorders_33 : DD cX11_layBorders 33 (.aload_n 0) 1 34 := ⟨by decide +kernel, rfl⟩
theorem eX11_layBorders_34 : DD cX11_layBorders 34 (.getfield 43) 3 37 := ⟨by decide +kernel, rfl⟩
theorem eX11_layBorders_37 : DD cX11_layBorders 37 (.iload_n 1) 1 38 := ⟨by decide +kernel, rfl⟩
theorem eX11_layBorders_38 : DD cX11_layBorders 38 (.iload_n 2) 1 39 := ⟨by decide +kernel, rfl⟩
theorem eX11_layBorders_39 : DD cX11_layBorders 39 (.isub) 1 40 := ⟨by decide +kernel, rfl⟩
theorem eX11_layBorders_40 : DD cX11_layBorders 40 (.iload 4) 2 42 := ⟨by decide +kernel, rfl⟩
theorem eX11_layBorders_42 : DD cX11_layBorders 42 (.invokestatic 174) 3 45 := ⟨by decide +kernel, rfl⟩
theorem eX11_layBorders_45 : DD cX11_layBorders 45 (.laload) 1 46 := ⟨by decide +kernel, rfl⟩
theorem eX11_layBorders_46 : DD cX11_layBorders 46 (.ldc2_w 172) 3 49 := ⟨by decide +kernel, rfl⟩
theorem eX11_layBorders_49 : DD cX11_layBorders 49 (.lcmp) 1 50 := ⟨by decide +kernel, rfl⟩
theorem eX11_layBorders_50 : DB cX11_layBorders 50 (.ifCond .eq 42) (42) 53 92 := ⟨by decide +kernel, rfl, by decide⟩
theorem eX11_layBorders_53 : DD cX11_layBorders 53 (.aload_n 0) 1 54 := ⟨by decide +kernel, rfl⟩
theorem eX11_layBorders_54 : DD cX11_layBorders 54 (.iload_n 3) 1 55 := ⟨by decide +kernel, rfl⟩
theorem eX11_layBorders_55 : DD cX11_layBorders 55 (.iload 4) 2 57 := ⟨by decide +kernel, rfl⟩
theorem eX11_layBorders_57 : DD cX11_layBorders 57 (.invokevirtual 177) 3 60 := ⟨by decide +kernel, rfl⟩
theorem eX11_layBorders_60 : DD cX11_layBorders 60 (.aload_n 0) 1 61 := ⟨by decide +kernel, rfl⟩
theorem eX11_layBorders_61 : DD cX11_layBorders 61 (.getfield 43) 3 64 := ⟨by decide +kernel, rfl⟩
theorem eX11_layBorders_64 : DD cX11_layBorders 64 (.iload_n 1) 1 65 := ⟨by decide +kernel, rfl⟩
theorem eX11_layBorders_65 : DD cX11_layBorders 65 (.iload_n 2) 1 66 := ⟨by decide +kernel, rfl⟩
theorem eX11_layBorders_66 : DD cX11_layBorders 66 (.isub) 1 67 := ⟨by decide +kernel, rfl⟩
theorem eX11_layBorders_67 : DD cX11_layBorders 67 (.iload 4) 2 69 := ⟨by decide +kernel, rfl⟩
theorem eX11_layBorders_69 : DD cX11_layBorders 69 (.invokestatic 174) 3 72 := ⟨by decide +kernel, rfl⟩
theorem eX11_layBorders_72 : DD cX11_layBorders 72 (.laload) 1 73 := ⟨by decide +kernel, rfl⟩
theorem eX11_layBorders_73 : DD cX11_layBorders 73 (.ladd) 1 74 := ⟨by decide +kernel, rfl⟩
theorem eX11_layBorders_74 : DD cX11_layBorders 74 (.aload_n 0) 1 75 := ⟨by decide +kernel, rfl⟩
theorem eX11_layBorders_75 : DD cX11_layBorders 75 (.getfield 43) 3 78 := ⟨by decide +kernel, rfl⟩
theorem eX11_layBorders_78 : DD cX11_layBorders 78 (.iload_n 1) 1 79 := ⟨by decide +kernel, rfl⟩
theorem eX11_layBorders_79 : DD cX11_layBorders 79 (.iload_n 2) 1 80 := ⟨by decide +kernel, rfl⟩
theorem eX11_layBorders_80 : DD cX11_layBorders 80 (.isub) 1 81 := ⟨by decide +kernel, rfl⟩
theorem eX11_layBorders_81 : DD cX11_layBorders 81 (.iconst 1) 1 82 := ⟨by decide +kernel, rfl⟩
theorem eX11_layBorders_82 : DD cX11_layBorders 82 (.iadd) 1 83 := ⟨by decide +kernel, rfl⟩
theorem eX11_layBorders_83 : DD cX11_layBorders 83 (.iload_n 3) 1 84 := ⟨by decide +kernel, rfl⟩
theorem eX11_layBorders_84 : DD cX11_layBorders 84 (.invokestatic 174) 3 87 := ⟨by decide +kernel, rfl⟩
theorem eX11_layBorders_87 : DD cX11_layBorders 87 (.laload) 1 88 := ⟨by decide +kernel, rfl⟩
theorem eX11_layBorders_88 : DD cX11_layBorders 88 (.lcmp) 1 89 := ⟨by decide +kernel, rfl⟩
theorem eX11_layBorders_89 : DB cX11_layBorders 89 (.ifCond .eq 9) (9) 92 98 := ⟨by decide +kernel, rfl, by decide⟩
theorem eX11_layBorders_92 : DD cX11_layBorders 92 (.iinc 4 1) 3 95 := ⟨by decide +kernel, rfl⟩
theorem eX11_layBorders_95 : DB cX11_layBorders 95 (.goto (-62)) (-62) 98 33 := ⟨by decide +kernel, rfl, by decide⟩
theorem eX11_layBorders_98 : DD cX11_layBorders 98 (.aload_n 0) 1 99 := ⟨by decide +kernel, rfl⟩
theorem eX11_layBorders_99 : DD cX11_layBorders 99 (.getfield 47) 3 102 := ⟨by decide +kernel, rfl⟩
theorem eX11_layBorders_102 : DD cX11_layBorders 102 (.iload_n 2) 1 103 := ⟨by decide +kernel, rfl⟩
theorem eX11_layBorders_103 : DD cX11_layBorders 103 (.iload 4) 2 105 := ⟨by decide +kernel, rfl⟩
theorem eX11_layBorders_105 : DD cX11_layBorders 105 (.iastore) 1 106 := ⟨by decide +kernel, rfl⟩
theorem eX11_layBorders_106 : DD cX11_layBorders 106 (.iinc 2 1) 3 109 := ⟨by decide +kernel, rfl⟩
theorem eX11_layBorders_109 : DB cX11_layBorders 109 (.goto (-95)) (-95) 112 14 := ⟨by decide +kernel, rfl, by decide⟩
theorem eX11_layBorders_112 : DD cX11_layBorders 112 (.aload_n 0) 1 113 := ⟨by decide +kernel, rfl⟩
theorem eX11_layBorders_113 : DD cX11_layBorders 113 (.getfield 47) 3 116 := ⟨by decide +kernel, rfl⟩
theorem eX11_layBorders_116 : DD cX11_layBorders 116 (.iload_n 1) 1 117 := ⟨by decide +kernel, rfl⟩
theorem eX11_layBorders_117 : DD cX11_layBorders 117 (.aload_n 0) 1 118 := ⟨by decide +kernel, rfl⟩
theorem eX11_layBorders_118 : DD cX11_layBorders 118 (.getfield 164) 3 121 := ⟨by decide +kernel, rfl⟩
theorem eX11_layBorders_121 : DD cX11_layBorders 121 (.iastore) 1 122 := ⟨by decide +kernel, rfl⟩
theorem eX11_layBorders_122 : DD cX11_layBorders 122 (.return_) 1 123 := ⟨by decide +kernel, rfl⟩
def F_X11_layBorders_92 (kc_14 : Int32 → Int32 → Mem → Option (Unit × Mem)) (kc_33 : Int32 → Int32 → Int32 → Int32 → Mem → Option (Unit × Mem)) (x1 : Int32) (x2 : Int32) (x3 : Int32) (x4 : Int32) (μ : Mem) : Option (Unit × Mem) :=
  lb (x4 + (1 : Int32)) (fun x4_1 => kc_33 x1 x2 x3 x4_1 μ)
set_option maxHeartbeats 4000000 in
theorem j_X11_layBorders_92 {C : Cx} (hC : Ok C cX11_layBorders 5 RX11 (rmF 2 55)) (hr : (cT C).sig.returnType = none) (kc_14 : Int32 → Int32 → Mem → Option (Unit × Mem)) (hk_14 : ∀ (x1 : Int32) (x2 : Int32) (μ : Mem), J C (KV C) μ 14 [(0, .ref (xad (cX C) 107)), (1, .int x1), (2, .int x2)] [] (kc_14 x1 x2 μ)) (kc_33 : Int32 → Int32 → Int32 → Int32 → Mem → Option (Unit × Mem)) (hk_33 : ∀ (x1 : Int32) (x2 : Int32) (x3 : Int32) (x4 : Int32) (μ : Mem), J C (KV C) μ 33 [(0, .ref (xad (cX C) 107)), (1, .int x1), (2, .int x2), (3, .int x3), (4, .int x4)] [] (kc_33 x1 x2 x3 x4 μ)) (x1 : Int32) (x2 : Int32) (x3 : Int32) (x4 : Int32) (μ : Mem) : J C (KV C) μ 92 [(0, .ref (xad (cX C) 107)), (1, .int x1), (2, .int x2), (3, .int x3), (4, .int x4)] [] (F_X11_layBorders_92 kc_14 kc_33 x1 x2 x3 x4 μ) := by
  unfold F_X11_layBorders_92
  refine J.iinc (j := 4) (fun x4_1 => [(4, .int x4_1), (0, .ref (xad (cX C) 107)), (1, .int x1), (2, .int x2), (3, .int x3)]) hC eX11_layBorders_92 rfl ci_1 (by decide) (fun _ => rfl) (fun x4_1 => ?_)
  refine J.goto hC eX11_layBorders_95 ?_
  refine J.sub [1, 2, 3, 4, 0] rfl ?_
  exact hk_33 x1 x2 x3 x4_1 μ
def L_X11_layBorders_33 (kc_14 : Int32 → Int32 → Mem → Option (Unit × Mem)) : Nat → Int32 → Int32 → Int32 → Int32 → Mem → Option (Unit × Mem)
  | 0, _, _, _, _, _ => none
  | n + 1, x1, x2, x3, x4, μ => bd (G_X11_leastAt (x1 - x2) x4 μ) (fun r_2 μ_1 => gq (inB r_2 306) (if (lg_cmp (rL μ_1 119 (nx r_2)) (1000000000000000 : Int64)) = 0 then F_X11_layBorders_92 kc_14 (L_X11_layBorders_33 kc_14 n) x1 x2 x3 x4 μ_1 else bd (G_X11_errorOf x3 x4 μ_1) (fun r_4 μ_3 => bd (G_X11_leastAt (x1 - x2) x4 μ_3) (fun r_6 μ_5 => gq (inB r_6 306) (bd (G_X11_leastAt ((x1 - x2) + (1 : Int32)) x3 μ_5) (fun r_8 μ_7 => gq (inB r_8 306) (if (lg_cmp (r_4 + (rL μ_5 119 (nx r_6))) (rL μ_7 119 (nx r_8))) = 0 then gq (inB x2 17) (lb (wI μ_7 120 (nx x2) x4) (fun μ_9 => lb (x2 + (1 : Int32)) (fun x2_10 => kc_14 x1 x2_10 μ_9))) else F_X11_layBorders_92 kc_14 (L_X11_layBorders_33 kc_14 n) x1 x2 x3 x4 μ_7)))))))
set_option maxHeartbeats 4000000 in
theorem j_X11_layBorders_33 {C : Cx} (hC : Ok C cX11_layBorders 5 RX11 (rmF 2 55)) (hr : (cT C).sig.returnType = none) (kc_14 : Int32 → Int32 → Mem → Option (Unit × Mem)) (hk_14 : ∀ (x1 : Int32) (x2 : Int32) (μ : Mem), J C (KV C) μ 14 [(0, .ref (xad (cX C) 107)), (1, .int x1), (2, .int x2)] [] (kc_14 x1 x2 μ)) : ∀ (n : Nat) (x1 : Int32) (x2 : Int32) (x3 : Int32) (x4 : Int32) (μ : Mem), J C (KV C) μ 33 [(0, .ref (xad (cX C) 107)), (1, .int x1), (2, .int x2), (3, .int x3), (4, .int x4)] [] (L_X11_layBorders_33 kc_14 n x1 x2 x3 x4 μ) := by
  intro n
  induction n with
  | zero => intros; exact J.no
  | succ n ih =>
    intro x1 x2 x3 x4 μ
    rw [L_X11_layBorders_33]
    refine J.aload_n (j := 0) hC eX11_layBorders_33 rfl ?_
    refine gf_X11_43 (q := 119) hC eX11_layBorders_34 kk_107 rfl ?_
    refine J.iload_n (j := 1) hC eX11_layBorders_37 rfl ?_
    refine J.iload_n (j := 2) hC eX11_layBorders_38 rfl ?_
    refine J.isub hC eX11_layBorders_39 ?_
    refine J.iload (j := 4) hC eX11_layBorders_40 rfl ?_
    refine J.callSI (st := [.ref (xad (cX C) 119)]) hC eX11_layBorders_42 ml_X11_174 mv_X11_leastAt (Rle_of (Nat.le_of_ble_eq_true rfl) (Nat.le_of_ble_eq_true rfl)) (c_X11_leastAt hC.X (x1 - x2) x4 μ) rfl rfl (Nat.le_of_ble_eq_true rfl) (fun r_2 μ_1 => ?_)
    refine J.lald il_306 hC eX11_layBorders_45 kk_119 ?_
    refine J.ldc2 hC eX11_layBorders_46 mk_X11_172 ?_
    refine J.lcmp hC eX11_layBorders_49 ?_
    refine J.if_eq hC eX11_layBorders_50 (fun _ => ?_) (fun _ => ?_)
    · refine J.sub [0, 1, 2, 3, 4] rfl ?_
      exact j_X11_layBorders_92 hC hr kc_14 hk_14 (L_X11_layBorders_33 kc_14 n) ih x1 x2 x3 x4 μ_1
    · refine J.aload_n (j := 0) hC eX11_layBorders_53 rfl ?_
      refine J.iload_n (j := 3) hC eX11_layBorders_54 rfl ?_
      refine J.iload (j := 4) hC eX11_layBorders_55 rfl ?_
      refine J.callVL (st := []) hC eX11_layBorders_57 kk_107 (by decide) rfl rfl ml_X11_177 mv_X11_errorOf (Rle_of (Nat.le_of_ble_eq_true rfl) (Nat.le_of_ble_eq_true rfl)) (c_X11_errorOf hC.X x3 x4 μ_1) rfl rfl (Nat.le_of_ble_eq_true rfl) (fun r_4 μ_3 => ?_)
      refine J.aload_n (j := 0) hC eX11_layBorders_60 rfl ?_
      refine gf_X11_43 (q := 119) hC eX11_layBorders_61 kk_107 rfl ?_
      refine J.iload_n (j := 1) hC eX11_layBorders_64 rfl ?_
      refine J.iload_n (j := 2) hC eX11_layBorders_65 rfl ?_
      refine J.isub hC eX11_layBorders_66 ?_
      refine J.iload (j := 4) hC eX11_layBorders_67 rfl ?_
      refine J.callSI (st := [.ref (xad (cX C) 119), .long r_4]) hC eX11_layBorders_69 ml_X11_174 mv_X11_leastAt (Rle_of (Nat.le_of_ble_eq_true rfl) (Nat.le_of_ble_eq_true rfl)) (c_X11_leastAt hC.X (x1 - x2) x4 μ_3) rfl rfl (Nat.le_of_ble_eq_true rfl) (fun r_6 μ_5 => ?_)
      refine J.lald il_306 hC eX11_layBorders_72 kk_119 ?_
      refine J.ladd hC eX11_layBorders_73 ?_
      refine J.aload_n (j := 0) hC eX11_layBorders_74 rfl ?_
      refine gf_X11_43 (q := 119) hC eX11_layBorders_75 kk_107 rfl ?_
      refine J.iload_n (j := 1) hC eX11_layBorders_78 rfl ?_
      refine J.iload_n (j := 2) hC eX11_layBorders_79 rfl ?_
      refine J.isub hC eX11_layBorders_80 ?_
      refine J.iconst hC eX11_layBorders_81 ci_1 ?_
      refine J.iadd hC eX11_layBorders_82 ?_
      refine J.iload_n (j := 3) hC eX11_layBorders_83 rfl ?_
      refine J.callSI (st := [.ref (xad (cX C) 119), .long (r_4 + (rL μ_5 119 (nx r_6)))]) hC eX11_layBorders_84 ml_X11_174 mv_X11_leastAt (Rle_of (Nat.le_of_ble_eq_true rfl) (Nat.le_of_ble_eq_true rfl)) (c_X11_leastAt hC.X ((x1 - x2) + (1 : Int32)) x3 μ_5) rfl rfl (Nat.le_of_ble_eq_true rfl) (fun r_8 μ_7 => ?_)
      refine J.lald il_306 hC eX11_layBorders_87 kk_119 ?_
      refine J.lcmp hC eX11_layBorders_88 ?_
      refine J.if_eq hC eX11_layBorders_89 (fun _ => ?_) (fun _ => ?_)
      · refine J.aload_n (j := 0) hC eX11_layBorders_98 rfl ?_
        refine gf_X11_47 (q := 120) hC eX11_layBorders_99 kk_107 rfl ?_
        refine J.iload_n (j := 2) hC eX11_layBorders_102 rfl ?_
        refine J.iload (j := 4) hC eX11_layBorders_103 rfl ?_
        refine J.iast ik_17 hC eX11_layBorders_105 kk_120 (fun μ_9 => ?_)
        refine J.iinc (j := 2) (fun x2_10 => [(2, .int x2_10), (0, .ref (xad (cX C) 107)), (1, .int x1), (3, .int x3), (4, .int x4)]) hC eX11_layBorders_106 rfl ci_1 (by decide) (fun _ => rfl) (fun x2_10 => ?_)
        refine J.goto hC eX11_layBorders_109 ?_
        refine J.sub [1, 2, 0] rfl ?_
        exact hk_14 x1 x2_10 μ_9
      · refine J.sub [0, 1, 2, 3, 4] rfl ?_
        exact j_X11_layBorders_92 hC hr kc_14 hk_14 (L_X11_layBorders_33 kc_14 n) ih x1 x2 x3 x4 μ_7
def L_X11_layBorders_14 : Nat → Int32 → Int32 → Mem → Option (Unit × Mem)
  | 0, _, _, _ => none
  | n + 1, x1, x2, μ => if x1 ≤ x2 then gq (inB x1 17) (lb (wI μ 120 (nx x1) (rI μ 107 19)) (fun μ_1 => some ((), μ_1))) else gq (inB (x2 - (1 : Int32)) 17) (lb (rI μ 120 (nx (x2 - (1 : Int32)))) (fun x3_2 => lb (x3_2 + (1 : Int32)) (fun x4_3 => L_X11_layBorders_33 (L_X11_layBorders_14  n) 100000 x1 x2 x3_2 x4_3 μ)))
set_option maxHeartbeats 4000000 in
theorem j_X11_layBorders_14 {C : Cx} (hC : Ok C cX11_layBorders 5 RX11 (rmF 2 55)) (hr : (cT C).sig.returnType = none) : ∀ (n : Nat) (x1 : Int32) (x2 : Int32) (μ : Mem), J C (KV C) μ 14 [(0, .ref (xad (cX C) 107)), (1, .int x1), (2, .int x2)] [] (L_X11_layBorders_14  n x1 x2 μ) := by
  intro n
  induction n with
  | zero => intros; exact J.no
  | succ n ih =>
    intro x1 x2 μ
    rw [L_X11_layBorders_14]
    refine J.iload_n (j := 2) hC eX11_layBorders_14 rfl ?_
    refine J.iload_n (j := 1) hC eX11_layBorders_15 rfl ?_
    refine J.icmp_ge hC eX11_layBorders_16 (fun _ => ?_) (fun _ => ?_)
    · refine J.aload_n (j := 0) hC eX11_layBorders_112 rfl ?_
      refine gf_X11_47 (q := 120) hC eX11_layBorders_113 kk_107 rfl ?_
      refine J.iload_n (j := 1) hC eX11_layBorders_116 rfl ?_
      refine J.aload_n (j := 0) hC eX11_layBorders_117 rfl ?_
      refine gf_X11_164 hC eX11_layBorders_118 kk_107 ?_
      refine J.iast ik_17 hC eX11_layBorders_121 kk_120 (fun μ_1 => ?_)
      exact J.vret hC hr eX11_layBorders_122
    · refine J.aload_n (j := 0) hC eX11_layBorders_19 rfl ?_
      refine gf_X11_47 (q := 120) hC eX11_layBorders_20 kk_107 rfl ?_
      refine J.iload_n (j := 2) hC eX11_layBorders_23 rfl ?_
      refine J.iconst hC eX11_layBorders_24 ci_1 ?_
      refine J.isub hC eX11_layBorders_25 ?_
      refine J.iald ik_17 hC eX11_layBorders_26 kk_120 ?_
      refine J.topi (fun x3_2 => ?_)
      refine J.istore_n [(3, .int x3_2), (0, .ref (xad (cX C) 107)), (1, .int x1), (2, .int x2)] hC eX11_layBorders_27 (by decide) rfl ?_
      refine J.iload_n (j := 0) hC eX11_layBorders_28 rfl ?_
      refine J.iconst hC eX11_layBorders_29 ci_1 ?_
      refine J.iadd hC eX11_layBorders_30 ?_
      refine J.topi (fun x4_3 => ?_)
      refine J.istore [(4, .int x4_3), (3, .int x3_2), (0, .ref (xad (cX C) 107)), (1, .int x1), (2, .int x2)] hC eX11_layBorders_31 (by decide) rfl ?_
      refine J.sub [2, 3, 4, 1, 0] rfl ?_
      exact j_X11_layBorders_33 hC hr (L_X11_layBorders_14  n) ih 100000 x1 x2 x3_2 x4_3 μ
def G_X11_layBorders (x1 : Int32) (μ : Mem) : Option (Unit × Mem) :=
  bd (G_X11_layLeast x1 μ) (fun r_2 μ_1 => lb (wI μ_1 120 0 (0 : Int32)) (fun μ_3 => L_X11_layBorders_14  100000 x1 (1 : Int32) μ_3))
set_option maxHeartbeats 4000000 in
theorem c_X11_layBorders {X : Wd} (hX : WdOk X) (x1 : Int32) (μ : Mem) : CtV X yX11_layBorders cX11_layBorders 5 none (rmF 2 55) [.ref (xad X 107), .int x1] μ (G_X11_layBorders x1 μ) := by
  refine CtV.of hX (plainFor_of_name (by decide)) (by exact Nat.le_of_ble_eq_true rfl) ?_
  intro C hCX hC hr
  subst hCX
  show J C (KV C) μ 0 [(0, .ref (xad (cX C) 107)), (1, .int x1)] [] _
  unfold G_X11_layBorders
  refine J.aload_n (j := 0) hC eX11_layBorders_0 rfl ?_
  refine J.iload_n (j := 1) hC eX11_layBorders_1 rfl ?_
  refine J.callVV (st := []) hC eX11_layBorders_2 kk_107 (by decide) rfl rfl ml_X11_187 mv_X11_layLeast (Rle_of (Nat.le_of_ble_eq_true rfl) (Nat.le_of_ble_eq_true rfl)) (c_X11_layLeast hC.X x1 μ) rfl rfl (Nat.le_of_ble_eq_true rfl) (fun r_2 μ_1 => ?_)
  refine J.aload_n (j := 0) hC eX11_layBorders_5 rfl ?_
  refine gf_X11_47 (q := 120) hC eX11_layBorders_6 kk_107 rfl ?_
  refine J.iconst hC eX11_layBorders_9 ci_0 ?_
  refine J.iconst hC eX11_layBorders_10 ci_0 ?_
  refine J.iastK (j := 0) ik_17 hC eX11_layBorders_11 kk_120 (by decide) (by decide) (fun μ_3 => ?_)
  refine J.iconst hC eX11_layBorders_12 ci_1 ?_
  refine J.istore_n [(2, .int (1 : Int32)), (0, .ref (xad (cX C) 107)), (1, .int x1)] hC eX11_layBorders_13 (by decide) rfl ?_
  refine J.sub [1, 2, 0] rfl ?_
  exact j_X11_layBorders_14 hC hr  100000 x1 (1 : Int32) μ_3
-- X11_buildNow
theorem eX11_buildNow_0 : DD cX11_buildNow 0 (.aload_n 0) 1 1 := ⟨by decide +kernel, rfl⟩
theorem eX11_buildNow_1 : DD cX11_buildNow 1 (.iload_n 1) 1 2 := ⟨by decide +kernel, rfl⟩
theorem eX11_buildNow_2 : DD cX11_buildNow 2 (.iload_n 2) 1 3 := ⟨by decide +kernel, rfl⟩
theorem eX11_buildNow_3 : DD cX11_buildNow 3 (.invokevirtual 191) 3 6 := ⟨by decide +kernel, rfl⟩
theorem eX11_buildNow_6 : DD cX11_buildNow 6 (.aload_n 0) 1 7 := ⟨by decide +kernel, rfl⟩
theorem eX11_buildNow_7 : DD cX11_buildNow 7 (.getfield 22) 3 10 := ⟨by decide +kernel, rfl⟩
theorem eX11_buildNow_10 : DD cX11_buildNow 10 (.iconst 0) 1 11 := ⟨by decide +kernel, rfl⟩
theorem eX11_buildNow_11 : DD cX11_buildNow 11 (.iaload) 1 12 := ⟨by decide +kernel, rfl⟩
theorem eX11_buildNow_12 : DD cX11_buildNow 12 (.aload_n 0) 1 13 := ⟨by decide +kernel, rfl⟩
theorem eX11_buildNow_13 : DD cX11_buildNow 13 (.getfield 25) 3 16 := ⟨by decide +kernel, rfl⟩
theorem eX11_buildNow_16 : DD cX11_buildNow 16 (.iload_n 1) 1 17 := ⟨by decide +kernel, rfl⟩
theorem eX11_buildNow_17 : DD cX11_buildNow 17 (.iaload) 1 18 := ⟨by decide +kernel, rfl⟩
theorem eX11_buildNow_18 : DD cX11_buildNow 18 (.invokestatic 194) 3 21 := ⟨by decide +kernel, rfl⟩
theorem eX11_buildNow_21 : DD cX11_buildNow 21 (.istore_n 3) 1 22 := ⟨by decide +kernel, rfl⟩
theorem eX11_buildNow_22 : DD cX11_buildNow 22 (.aload_n 0) 1 23 := ⟨by decide +kernel, rfl⟩
theorem eX11_buildNow_23 : DD cX11_buildNow 23 (.iload_n 3) 1 24 := ⟨by decide +kernel, rfl⟩
theorem eX11_buildNow_24 : DD cX11_buildNow 24 (.invokevirtual 196) 3 27 := ⟨by decide +kernel, rfl⟩
theorem eX11_buildNow_27 : DD cX11_buildNow 27 (.aload_n 0) 1 28 := ⟨by decide +kernel, rfl⟩
theorem eX11_buildNow_28 : DD cX11_buildNow 28 (.getfield 34) 3 31 := ⟨by decide +kernel, rfl⟩
theorem eX11_buildNow_31 : DD cX11_buildNow 31 (.iload_n 1) 1 32 := ⟨by decide +kernel, rfl⟩
theorem eX11_buildNow_32 : DD cX11_buildNow 32 (.iload_n 2) 1 33 := ⟨by decide +kernel, rfl⟩
theorem eX11_buildNow_33 : DD cX11_buildNow 33 (.invokestatic 147) 3 36 := ⟨by decide +kernel, rfl⟩
theorem eX11_buildNow_36 : DD cX11_buildNow 36 (.iload_n 3) 1 37 := ⟨by decide +kernel, rfl⟩
theorem eX11_buildNow_37 : DD cX11_buildNow 37 (.iastore) 1 38 := ⟨by decide +kernel, rfl⟩
theorem eX11_buildNow_38 : DD cX11_buildNow 38 (.aload_n 0) 1 39 := ⟨by decide +kernel, rfl⟩
theorem eX11_buildNow_39 : DD cX11_buildNow 39 (.getfield 34) 3 42 := ⟨by decide +kernel, rfl⟩
theorem eX11_buildNow_42 : DD cX11_buildNow 42 (.iload_n 1) 1 43 := ⟨by decide +kernel, rfl⟩
theorem eX11_buildNow_43 : DD cX11_buildNow 43 (.iload_n 2) 1 44 := ⟨by decide +kernel, rfl⟩
theorem eX11_buildNow_44 : DD cX11_buildNow 44 (.invokestatic 199) 3 47 := ⟨by decide +kernel, rfl⟩
theorem eX11_buildNow_47 : DD cX11_buildNow 47 (.iconst 0) 1 48 := ⟨by decide +kernel, rfl⟩
theorem eX11_buildNow_48 : DD cX11_buildNow 48 (.iastore) 1 49 := ⟨by decide +kernel, rfl⟩
theorem eX11_buildNow_49 : DD cX11_buildNow 49 (.iconst 0) 1 50 := ⟨by decide +kernel, rfl⟩
theorem eX11_buildNow_50 : DD cX11_buildNow 50 (.istore 4) 2 52 := ⟨by decide +kernel, rfl⟩
theorem eX11_buildNow_52 : DD cX11_buildNow 52 (.iload 4) 2 54 := ⟨by decide +kernel, rfl⟩
theorem eX11_buildNow_54 : DD cX11_buildNow 54 (.iload_n 3) 1 55 := ⟨by decide +kernel, rfl⟩
theorem eX11_buildNow_55 : DB cX11_buildNow 55 (.if_icmp .ge 128) (128) 58 183 := ⟨by decide +kernel, rfl, by decide⟩
theorem eX11_buildNow_58 : DD cX11_buildNow 58 (.iconst 0) 1 59 := ⟨by decide +kernel, rfl⟩
theorem eX11_buildNow_59 : DD cX11_buildNow 59 (.istore 5) 2 61 := ⟨by decide +kernel, rfl⟩
theorem eX11_buildNow_61 : DD cX11_buildNow 61 (.iconst 0) 1 62 := ⟨by decide +kernel, rfl⟩
theorem eX11_buildNow_62 : DD cX11_buildNow 62 (.istore 6) 2 64 := ⟨by decide +kernel, rfl⟩
theorem eX11_buildNow_64 : DD cX11_buildNow 64 (.aload_n 0) 1 65 := ⟨by decide +kernel, rfl⟩
theorem eX11_buildNow_65 : DD cX11_buildNow 65 (.getfield 47) 3 68 := ⟨by decide +kernel, rfl⟩
theorem eX11_buildNow_68 : DD cX11_buildNow 68 (.iload 4) 2 70 := ⟨by decide +kernel, rfl⟩
theorem eX11_buildNow_70 : DD cX11_buildNow 70 (.iaload) 1 71 := ⟨by decide +kernel, rfl⟩
theorem eX11_buildNow_71 : DD cX11_buildNow 71 (.istore 7) 2 73 := ⟨by decide +kernel, rfl⟩
theorem eX11_buildNow_73 : DD cX11_buildNow 73 (.iload 7) 2 75 := ⟨by decide +kernel, rfl⟩
theorem eX11_buildNow_75 : DD cX11_buildNow 75 (.aload_n 0) 1 76 := ⟨by decide +kernel, rfl⟩
theorem eX11_buildNow_76 : DD cX11_buildNow 76 (.getfield 47) 3 79 := ⟨by decide +kernel, rfl⟩
theorem eX11_buildNow_79 : DD cX11_buildNow 79 (.iload 4) 2 81 := ⟨by decide +kernel, rfl⟩
theorem eX11_buildNow_81 : DD cX11_buildNow 81 (.iconst 1) 1 82 := ⟨by decide +kernel, rfl⟩
theorem eX11_buildNow_82 : DD cX11_buildNow 82 (.iadd) 1 83 := ⟨by decide +kernel, rfl⟩
theorem eX11_buildNow_83 : DD cX11_buildNow 83 (.iaload) 1 84 := ⟨by decide +kernel, rfl⟩
theorem eX11_buildNow_84 : DB cX11_buildNow 84 (.if_icmp .ge 35) (35) 87 119 := ⟨by decide +kernel, rfl, by decide⟩
theorem eX11_buildNow_87 : DD cX11_buildNow 87 (.iload 5) 2 89 := ⟨by decide +kernel, rfl⟩
theorem eX11_buildNow_89 : DD cX11_buildNow 89 (.aload_n 0) 1 90 := ⟨by decide +kernel, rfl⟩
theorem eX11_buildNow_90 : DD cX11_buildNow 90 (.getfield 40) 3 93 := ⟨by decide +kernel, rfl⟩
theorem eX11_buildNow_93 : DD cX11_buildNow 93 (.iload 7) 2 95 := ⟨by decide +kernel, rfl⟩
theorem eX11_buildNow_95 : DD cX11_buildNow 95 (.iaload) 1 96 := ⟨by decide +kernel, rfl⟩
theorem eX11_buildNow_96 : DD cX11_buildNow 96 (.iadd) 1 97 := ⟨by decide +kernel, rfl⟩
theorem eX11_buildNow_97 : DD cX11_buildNow 97 (.istore 5) 2 99 := ⟨by decide +kernel, rfl⟩
theorem eX11_buildNow_99 : DD cX11_buildNow 99 (.iload 6) 2 101 := ⟨by decide +kernel, rfl⟩
theorem eX11_buildNow_101 : DD cX11_buildNow 101 (.aload_n 0) 1 102 := ⟨by decide +kernel, rfl⟩
theorem eX11_buildNow_102 : DD cX11_buildNow 102 (.getfield 40) 3 105 := ⟨by decide +kernel, rfl⟩
theorem eX11_buildNow_105 : DD cX11_buildNow 105 (.iload 7) 2 107 := ⟨by decide +kernel, rfl⟩
theorem eX11_buildNow_107 : DD cX11_buildNow 107 (.iaload) 1 108 := ⟨by decide +kernel, rfl⟩
theorem eX11_buildNow_108 : DD cX11_buildNow 108 (.invokestatic 202) 3 111 := ⟨by decide +kernel, rfl⟩
theorem eX11_buildNow_111 : DD cX11_buildNow 111 (.istore 6) 2 113 := ⟨by decide +kernel, rfl⟩
theorem eX11_buildNow_113 : DD cX11_buildNow 113 (.iinc 7 1) 3 116 := ⟨by decide +kernel, rfl⟩
theorem eX11_buildNow_116 : DB cX11_buildNow 116 (.goto (-43)) (-43) 119 73 := ⟨by decide +kernel, rfl, by decide⟩
theorem eX11_buildNow_119 : DD cX11_buildNow 119 (.aload_n 0) 1 120 := ⟨by decide +kernel, rfl⟩
theorem eX11_buildNow_120 : DD cX11_buildNow 120 (.iload_n 1) 1 121 := ⟨by decide +kernel, rfl⟩
theorem eX11_buildNow_121 : DD cX11_buildNow 121 (.iload_n 2) 1 122 := ⟨by decide +kernel, rfl⟩
theorem eX11_buildNow_122 : DD cX11_buildNow 122 (.iload 4) 2 124 := ⟨by decide +kernel, rfl⟩
theorem eX11_buildNow_124 : DD cX11_buildNow 124 (.iconst 0) 1 125 := ⟨by decide +kernel, rfl⟩
theorem eX11_buildNow_125 : DD cX11_buildNow 125 (.aload_n 0) 1 126 := ⟨by decide +kernel, rfl⟩
theorem eX11_buildNow_126 : DD cX11_buildNow 126 (.getfield 47) 3 129 := ⟨by decide +kernel, rfl⟩
theorem eX11_buildNow_129 : DD cX11_buildNow 129 (.iload 4) 2 131 := ⟨by decide +kernel, rfl⟩
theorem eX11_buildNow_131 : DD cX11_buildNow 131 (.iaload) 1 132 := ⟨by decide +kernel, rfl⟩
theorem eX11_buildNow_132 : DD cX11_buildNow 132 (.invokevirtual 205) 3 135 := ⟨by decide +kernel, rfl⟩
theorem eX11_buildNow_135 : DD cX11_buildNow 135 (.aload_n 0) 1 136 := ⟨by decide +kernel, rfl⟩
theorem eX11_buildNow_136 : DD cX11_buildNow 136 (.iload_n 1) 1 137 := ⟨by decide +kernel, rfl⟩
theorem eX11_buildNow_137 : DD cX11_buildNow 137 (.iload_n 2) 1 138 := ⟨by decide +kernel, rfl⟩
theorem eX11_buildNow_138 : DD cX11_buildNow 138 (.iload 4) 2 140 := ⟨by decide +kernel, rfl⟩
theorem eX11_buildNow_140 : DD cX11_buildNow 140 (.iconst 1) 1 141 := ⟨by decide +kernel, rfl⟩
theorem eX11_buildNow_141 : DD cX11_buildNow 141 (.aload_n 0) 1 142 := ⟨by decide +kernel, rfl⟩
theorem eX11_buildNow_142 : DD cX11_buildNow 142 (.getfield 47) 3 145 := ⟨by decide +kernel, rfl⟩
theorem eX11_buildNow_145 : DD cX11_buildNow 145 (.iload 4) 2 147 := ⟨by decide +kernel, rfl⟩
theorem eX11_buildNow_147 : DD cX11_buildNow 147 (.iconst 1) 1 148 := ⟨by decide +kernel, rfl⟩
theorem eX11_buildNow_148 : DD cX11_buildNow 148 (.iadd) 1 149 := ⟨by decide +kernel, rfl⟩
theorem eX11_buildNow_149 : DD cX11_buildNow 149 (.iaload) 1 150 := ⟨by decide +kernel, rfl⟩
theorem eX11_buildNow_150 : DD cX11_buildNow 150 (.iconst 1) 1 151 := ⟨by decide +kernel, rfl⟩
theorem eX11_buildNow_151 : DD cX11_buildNow 151 (.isub) 1 152 := ⟨by decide +kernel, rfl⟩
theorem eX11_buildNow_152 : DD cX11_buildNow 152 (.invokevirtual 205) 3 155 := ⟨by decide +kernel, rfl⟩
theorem eX11_buildNow_155 : DD cX11_buildNow 155 (.aload_n 0) 1 156 := ⟨by decide +kernel, rfl⟩
theorem eX11_buildNow_156 : DD cX11_buildNow 156 (.iload_n 1) 1 157 := ⟨by decide +kernel, rfl⟩
theorem eX11_buildNow_157 : DD cX11_buildNow 157 (.iload_n 2) 1 158 := ⟨by decide +kernel, rfl⟩
theorem eX11_buildNow_158 : DD cX11_buildNow 158 (.iload 4) 2 160 := ⟨by decide +kernel, rfl⟩
theorem eX11_buildNow_160 : DD cX11_buildNow 160 (.iconst 2) 1 161 := ⟨by decide +kernel, rfl⟩
theorem eX11_buildNow_161 : DD cX11_buildNow 161 (.iload 5) 2 163 := ⟨by decide +kernel, rfl⟩
theorem eX11_buildNow_163 : DD cX11_buildNow 163 (.invokevirtual 205) 3 166 := ⟨by decide +kernel, rfl⟩
theorem eX11_buildNow_166 : DD cX11_buildNow 166 (.aload_n 0) 1 167 := ⟨by decide +kernel, rfl⟩
theorem eX11_buildNow_167 : DD cX11_buildNow 167 (.iload_n 1) 1 168 := ⟨by decide +kernel, rfl⟩
theorem eX11_buildNow_168 : DD cX11_buildNow 168 (.iload_n 2) 1 169 := ⟨by decide +kernel, rfl⟩
theorem eX11_buildNow_169 : DD cX11_buildNow 169 (.iload 4) 2 171 := ⟨by decide +kernel, rfl⟩
theorem eX11_buildNow_171 : DD cX11_buildNow 171 (.iconst 3) 1 172 := ⟨by decide +kernel, rfl⟩
theorem eX11_buildNow_172 : DD cX11_buildNow 172 (.iload 6) 2 174 := ⟨by decide +kernel, rfl⟩
theorem eX11_buildNow_174 : DD cX11_buildNow 174 (.invokevirtual 205) 3 177 := ⟨by decide +kernel, rfl⟩
theorem eX11_buildNow_177 : DD cX11_buildNow 177 (.iinc 4 1) 3 180 := ⟨by decide +kernel, rfl⟩
theorem eX11_buildNow_180 : DB cX11_buildNow 180 (.goto (-128)) (-128) 183 52 := ⟨by decide +kernel, rfl, by decide⟩
theorem eX11_buildNow_183 : DD cX11_buildNow 183 (.return_) 1 184 := ⟨by decide +kernel, rfl⟩
def L_X11_buildNow_73 (kc_52 : Int32 → Int32 → Int32 → Int32 → Mem → Option (Unit × Mem)) : Nat → Int32 → Int32 → Int32 → Int32 → Int32 → Int32 → Int32 → Mem → Option (Unit × Mem)
  | 0, _, _, _, _, _, _, _, _ => none
  | n + 1, x1, x2, x3, x4, x5, x6, x7, μ => gq (inB (x4 + (1 : Int32)) 17) (if (rI μ 120 (nx (x4 + (1 : Int32)))) ≤ x7 then gq (inB x4 17) (bd (G_X11_put x1 x2 x4 (0 : Int32) (rI μ 120 (nx x4)) μ) (fun r_2 μ_1 => gq (inB (x4 + (1 : Int32)) 17) (bd (G_X11_put x1 x2 x4 (1 : Int32) ((rI μ_1 120 (nx (x4 + (1 : Int32)))) - (1 : Int32)) μ_1) (fun r_4 μ_3 => bd (G_X11_put x1 x2 x4 (2 : Int32) x5 μ_3) (fun r_6 μ_5 => bd (G_X11_put x1 x2 x4 (3 : Int32) x6 μ_5) (fun r_8 μ_7 => lb (x4 + (1 : Int32)) (fun x4_9 => kc_52 x1 x2 x3 x4_9 μ_7))))))) else gq (inB x7 16) (lb (x5 + (rI μ 118 (nx x7))) (fun x5_10 => gq (inB x7 16) (lb (imax x6 (rI μ 118 (nx x7))) (fun x6_11 => lb (x7 + (1 : Int32)) (fun x7_12 => L_X11_buildNow_73 kc_52 n x1 x2 x3 x4 x5_10 x6_11 x7_12 μ))))))
set_option maxHeartbeats 4000000 in
theorem j_X11_buildNow_73 {C : Cx} (hC : Ok C cX11_buildNow 8 RX11 (rmF 3 79)) (hr : (cT C).sig.returnType = none) (kc_52 : Int32 → Int32 → Int32 → Int32 → Mem → Option (Unit × Mem)) (hk_52 : ∀ (x1 : Int32) (x2 : Int32) (x3 : Int32) (x4 : Int32) (μ : Mem), J C (KV C) μ 52 [(0, .ref (xad (cX C) 107)), (1, .int x1), (2, .int x2), (3, .int x3), (4, .int x4)] [] (kc_52 x1 x2 x3 x4 μ)) : ∀ (n : Nat) (x1 : Int32) (x2 : Int32) (x3 : Int32) (x4 : Int32) (x5 : Int32) (x6 : Int32) (x7 : Int32) (μ : Mem), J C (KV C) μ 73 [(0, .ref (xad (cX C) 107)), (1, .int x1), (2, .int x2), (3, .int x3), (4, .int x4), (5, .int x5), (6, .int x6), (7, .int x7)] [] (L_X11_buildNow_73 kc_52 n x1 x2 x3 x4 x5 x6 x7 μ) := by
  intro n
  induction n with
  | zero => intros; exact J.no
  | succ n ih =>
    intro x1 x2 x3 x4 x5 x6 x7 μ
    rw [L_X11_buildNow_73]
    refine J.iload (j := 7) hC eX11_buildNow_73 rfl ?_
    refine J.aload_n (j := 0) hC eX11_buildNow_75 rfl ?_
    refine gf_X11_47 (q := 120) hC eX11_buildNow_76 kk_107 rfl ?_
    refine J.iload (j := 4) hC eX11_buildNow_79 rfl ?_
    refine J.iconst hC eX11_buildNow_81 ci_1 ?_
    refine J.iadd hC eX11_buildNow_82 ?_
    refine J.iald ik_17 hC eX11_buildNow_83 kk_120 ?_
    refine J.icmp_ge hC eX11_buildNow_84 (fun _ => ?_) (fun _ => ?_)
    · refine J.aload_n (j := 0) hC eX11_buildNow_119 rfl ?_
      refine J.iload_n (j := 1) hC eX11_buildNow_120 rfl ?_
      refine J.iload_n (j := 2) hC eX11_buildNow_121 rfl ?_
      refine J.iload (j := 4) hC eX11_buildNow_122 rfl ?_
      refine J.iconst hC eX11_buildNow_124 ci_0 ?_
      refine J.aload_n (j := 0) hC eX11_buildNow_125 rfl ?_
      refine gf_X11_47 (q := 120) hC eX11_buildNow_126 kk_107 rfl ?_
      refine J.iload (j := 4) hC eX11_buildNow_129 rfl ?_
      refine J.iald ik_17 hC eX11_buildNow_131 kk_120 ?_
      refine J.callVV (st := []) hC eX11_buildNow_132 kk_107 (by decide) rfl rfl ml_X11_205 mv_X11_put (Rle_of (Nat.le_of_ble_eq_true rfl) (Nat.le_of_ble_eq_true rfl)) (c_X11_put hC.X x1 x2 x4 (0 : Int32) (rI μ 120 (nx x4)) μ) rfl rfl (Nat.le_of_ble_eq_true rfl) (fun r_2 μ_1 => ?_)
      refine J.aload_n (j := 0) hC eX11_buildNow_135 rfl ?_
      refine J.iload_n (j := 1) hC eX11_buildNow_136 rfl ?_
      refine J.iload_n (j := 2) hC eX11_buildNow_137 rfl ?_
      refine J.iload (j := 4) hC eX11_buildNow_138 rfl ?_
      refine J.iconst hC eX11_buildNow_140 ci_1 ?_
      refine J.aload_n (j := 0) hC eX11_buildNow_141 rfl ?_
      refine gf_X11_47 (q := 120) hC eX11_buildNow_142 kk_107 rfl ?_
      refine J.iload (j := 4) hC eX11_buildNow_145 rfl ?_
      refine J.iconst hC eX11_buildNow_147 ci_1 ?_
      refine J.iadd hC eX11_buildNow_148 ?_
      refine J.iald ik_17 hC eX11_buildNow_149 kk_120 ?_
      refine J.iconst hC eX11_buildNow_150 ci_1 ?_
      refine J.isub hC eX11_buildNow_151 ?_
      refine J.callVV (st := []) hC eX11_buildNow_152 kk_107 (by decide) rfl rfl ml_X11_205 mv_X11_put (Rle_of (Nat.le_of_ble_eq_true rfl) (Nat.le_of_ble_eq_true rfl)) (c_X11_put hC.X x1 x2 x4 (1 : Int32) ((rI μ_1 120 (nx (x4 + (1 : Int32)))) - (1 : Int32)) μ_1) rfl rfl (Nat.le_of_ble_eq_true rfl) (fun r_4 μ_3 => ?_)
      refine J.aload_n (j := 0) hC eX11_buildNow_155 rfl ?_
      refine J.iload_n (j := 1) hC eX11_buildNow_156 rfl ?_
      refine J.iload_n (j := 2) hC eX11_buildNow_157 rfl ?_
      refine J.iload (j := 4) hC eX11_buildNow_158 rfl ?_
      refine J.iconst hC eX11_buildNow_160 ci_2 ?_
      refine J.iload (j := 5) hC eX11_buildNow_161 rfl ?_
      refine J.callVV (st := []) hC eX11_buildNow_163 kk_107 (by decide) rfl rfl ml_X11_205 mv_X11_put (Rle_of (Nat.le_of_ble_eq_true rfl) (Nat.le_of_ble_eq_true rfl)) (c_X11_put hC.X x1 x2 x4 (2 : Int32) x5 μ_3) rfl rfl (Nat.le_of_ble_eq_true rfl) (fun r_6 μ_5 => ?_)
      refine J.aload_n (j := 0) hC eX11_buildNow_166 rfl ?_
      refine J.iload_n (j := 1) hC eX11_buildNow_167 rfl ?_
      refine J.iload_n (j := 2) hC eX11_buildNow_168 rfl ?_
      refine J.iload (j := 4) hC eX11_buildNow_169 rfl ?_
      refine J.iconst hC eX11_buildNow_171 ci_3 ?_
      refine J.iload (j := 6) hC eX11_buildNow_172 rfl ?_
      refine J.callVV (st := []) hC eX11_buildNow_174 kk_107 (by decide) rfl rfl ml_X11_205 mv_X11_put (Rle_of (Nat.le_of_ble_eq_true rfl) (Nat.le_of_ble_eq_true rfl)) (c_X11_put hC.X x1 x2 x4 (3 : Int32) x6 μ_5) rfl rfl (Nat.le_of_ble_eq_true rfl) (fun r_8 μ_7 => ?_)
      refine J.iinc (j := 4) (fun x4_9 => [(4, .int x4_9), (0, .ref (xad (cX C) 107)), (1, .int x1), (2, .int x2), (3, .int x3), (5, .int x5), (6, .int x6), (7, .int x7)]) hC eX11_buildNow_177 rfl ci_1 (by decide) (fun _ => rfl) (fun x4_9 => ?_)
      refine J.goto hC eX11_buildNow_180 ?_
      refine J.sub [1, 2, 3, 4, 0] rfl ?_
      exact hk_52 x1 x2 x3 x4_9 μ_7
    · refine J.iload (j := 5) hC eX11_buildNow_87 rfl ?_
      refine J.aload_n (j := 0) hC eX11_buildNow_89 rfl ?_
      refine gf_X11_40 (q := 118) hC eX11_buildNow_90 kk_107 rfl ?_
      refine J.iload (j := 7) hC eX11_buildNow_93 rfl ?_
      refine J.iald ik_16 hC eX11_buildNow_95 kk_118 ?_
      refine J.iadd hC eX11_buildNow_96 ?_
      refine J.topi (fun x5_10 => ?_)
      refine J.istore [(5, .int x5_10), (0, .ref (xad (cX C) 107)), (1, .int x1), (2, .int x2), (3, .int x3), (4, .int x4), (6, .int x6), (7, .int x7)] hC eX11_buildNow_97 (by decide) rfl ?_
      refine J.iload (j := 6) hC eX11_buildNow_99 rfl ?_
      refine J.aload_n (j := 1) hC eX11_buildNow_101 rfl ?_
      refine gf_X11_40 (q := 118) hC eX11_buildNow_102 kk_107 rfl ?_
      refine J.iload (j := 7) hC eX11_buildNow_105 rfl ?_
      refine J.iald ik_16 hC eX11_buildNow_107 kk_118 ?_
      refine J.mmax hC eX11_buildNow_108 ml_X11_202 w_smax w_im w_cmax (Nat.le_of_ble_eq_true rfl) (Nat.le_of_ble_eq_true rfl) ?_
      refine J.topi (fun x6_11 => ?_)
      refine J.istore [(6, .int x6_11), (5, .int x5_10), (0, .ref (xad (cX C) 107)), (1, .int x1), (2, .int x2), (3, .int x3), (4, .int x4), (7, .int x7)] hC eX11_buildNow_111 (by decide) rfl ?_
      refine J.iinc (j := 7) (fun x7_12 => [(7, .int x7_12), (6, .int x6_11), (5, .int x5_10), (0, .ref (xad (cX C) 107)), (1, .int x1), (2, .int x2), (3, .int x3), (4, .int x4)]) hC eX11_buildNow_113 rfl ci_1 (by decide) (fun _ => rfl) (fun x7_12 => ?_)
      refine J.goto hC eX11_buildNow_116 ?_
      refine J.sub [3, 4, 5, 6, 7, 2, 1, 0] rfl ?_
      exact ih x1 x2 x3 x4 x5_10 x6_11 x7_12 μ
def L_X11_buildNow_52 : Nat → Int32 → Int32 → Int32 → Int32 → Mem → Option (Unit × Mem)
  | 0, _, _, _, _, _ => none
  | n + 1, x1, x2, x3, x4, μ => if x3 ≤ x4 then some ((), μ) else gq (inB x4 17) (lb (rI μ 120 (nx x4)) (fun x7_1 => L_X11_buildNow_73 (L_X11_buildNow_52  n) 100000 x1 x2 x3 x4 (0 : Int32) (0 : Int32) x7_1 μ))
set_option maxHeartbeats 4000000 in
theorem j_X11_buildNow_52 {C : Cx} (hC : Ok C cX11_buildNow 8 RX11 (rmF 3 79)) (hr : (cT C).sig.returnType = none) : ∀ (n : Nat) (x1 : Int32) (x2 : Int32) (x3 : Int32) (x4 : Int32) (μ : Mem), J C (KV C) μ 52 [(0, .ref (xad (cX C) 107)), (1, .int x1), (2, .int x2), (3, .int x3), (4, .int x4)] [] (L_X11_buildNow_52  n x1 x2 x3 x4 μ) := by
  intro n
  induction n with
  | zero => intros; exact J.no
  | succ n ih =>
    intro x1 x2 x3 x4 μ
    rw [L_X11_buildNow_52]
    refine J.iload (j := 4) hC eX11_buildNow_52 rfl ?_
    refine J.iload_n (j := 3) hC eX11_buildNow_54 rfl ?_
    refine J.icmp_ge hC eX11_buildNow_55 (fun _ => ?_) (fun _ => ?_)
    · exact J.vret hC hr eX11_buildNow_183
    · refine J.iconst hC eX11_buildNow_58 ci_0 ?_
      refine J.istore [(5, .int (0 : Int32)), (0, .ref (xad (cX C) 107)), (1, .int x1), (2, .int x2), (3, .int x3), (4, .int x4)] hC eX11_buildNow_59 (by decide) rfl ?_
      refine J.iconst hC eX11_buildNow_61 ci_0 ?_
      refine J.istore [(6, .int (0 : Int32)), (5, .int (0 : Int32)), (0, .ref (xad (cX C) 107)), (1, .int x1), (2, .int x2), (3, .int x3), (4, .int x4)] hC eX11_buildNow_62 (by decide) rfl ?_
      refine J.aload_n (j := 2) hC eX11_buildNow_64 rfl ?_
      refine gf_X11_47 (q := 120) hC eX11_buildNow_65 kk_107 rfl ?_
      refine J.iload (j := 6) hC eX11_buildNow_68 rfl ?_
      refine J.iald ik_17 hC eX11_buildNow_70 kk_120 ?_
      refine J.topi (fun x7_1 => ?_)
      refine J.istore [(7, .int x7_1), (6, .int (0 : Int32)), (5, .int (0 : Int32)), (0, .ref (xad (cX C) 107)), (1, .int x1), (2, .int x2), (3, .int x3), (4, .int x4)] hC eX11_buildNow_71 (by decide) rfl ?_
      refine J.sub [3, 4, 5, 6, 7, 2, 1, 0] rfl ?_
      exact j_X11_buildNow_73 hC hr (L_X11_buildNow_52  n) ih 100000 x1 x2 x3 x4 (0 : Int32) (0 : Int32) x7_1 μ
def G_X11_buildNow (x1 : Int32) (x2 : Int32) (μ : Mem) : Option (Unit × Mem) :=
  bd (G_X11_layCounts x1 x2 μ) (fun r_2 μ_1 => gq (inB x1 3) (lb (imin (rI μ_1 112 0) (rI μ_1 113 (nx x1))) (fun x3_3 => bd (G_X11_layBorders x3_3 μ_1) (fun r_5 μ_4 => bd (G_X11_column x1 x2 μ_4) (fun r_7 μ_6 => gq (inB r_7 1253) (lb (wI μ_6 116 (nx r_7) x3_3) (fun μ_8 => bd (G_X11_drift x1 x2 μ_8) (fun r_10 μ_9 => gq (inB r_10 1253) (lb (wI μ_9 116 (nx r_10) (0 : Int32)) (fun μ_11 => L_X11_buildNow_52  100000 x1 x2 x3_3 (0 : Int32) μ_11))))))))))
set_option maxHeartbeats 4000000 in
theorem c_X11_buildNow {X : Wd} (hX : WdOk X) (x1 : Int32) (x2 : Int32) (μ : Mem) : CtV X yX11_buildNow cX11_buildNow 8 none (rmF 3 79) [.ref (xad X 107), .int x1, .int x2] μ (G_X11_buildNow x1 x2 μ) := by
  refine CtV.of hX (plainFor_of_name (by decide)) (by exact Nat.le_of_ble_eq_true rfl) ?_
  intro C hCX hC hr
  subst hCX
  show J C (KV C) μ 0 [(0, .ref (xad (cX C) 107)), (1, .int x1), (2, .int x2)] [] _
  unfold G_X11_buildNow
  refine J.aload_n (j := 0) hC eX11_buildNow_0 rfl ?_
  refine J.iload_n (j := 1) hC eX11_buildNow_1 rfl ?_
  refine J.iload_n (j := 2) hC eX11_buildNow_2 rfl ?_
  refine J.callVV (st := []) hC eX11_buildNow_3 kk_107 (by decide) rfl rfl ml_X11_191 mv_X11_layCounts (Rle_of (Nat.le_of_ble_eq_true rfl) (Nat.le_of_ble_eq_true rfl)) (c_X11_layCounts hC.X x1 x2 μ) rfl rfl (Nat.le_of_ble_eq_true rfl) (fun r_2 μ_1 => ?_)
  refine J.aload_n (j := 0) hC eX11_buildNow_6 rfl ?_
  refine gf_X11_22 (q := 112) hC eX11_buildNow_7 kk_107 rfl ?_
  refine J.iconst hC eX11_buildNow_10 ci_0 ?_
  refine J.ialdK (j := 0) ik_3 hC eX11_buildNow_11 kk_112 (by decide) (by decide) ?_
  refine J.aload_n (j := 0) hC eX11_buildNow_12 rfl ?_
  refine gf_X11_25 (q := 113) hC eX11_buildNow_13 kk_107 rfl ?_
  refine J.iload_n (j := 1) hC eX11_buildNow_16 rfl ?_
  refine J.iald ik_3 hC eX11_buildNow_17 kk_113 ?_
  refine J.mmin hC eX11_buildNow_18 ml_X11_194 w_smin w_im w_cmin (Nat.le_of_ble_eq_true rfl) (Nat.le_of_ble_eq_true rfl) ?_
  refine J.topi (fun x3_3 => ?_)
  refine J.istore_n [(3, .int x3_3), (0, .ref (xad (cX C) 107)), (1, .int x1), (2, .int x2)] hC eX11_buildNow_21 (by decide) rfl ?_
  refine J.aload_n (j := 1) hC eX11_buildNow_22 rfl ?_
  refine J.iload_n (j := 0) hC eX11_buildNow_23 rfl ?_
  refine J.callVV (st := []) hC eX11_buildNow_24 kk_107 (by decide) rfl rfl ml_X11_196 mv_X11_layBorders (Rle_of (Nat.le_of_ble_eq_true rfl) (Nat.le_of_ble_eq_true rfl)) (c_X11_layBorders hC.X x3_3 μ_1) rfl rfl (Nat.le_of_ble_eq_true rfl) (fun r_5 μ_4 => ?_)
  refine J.aload_n (j := 1) hC eX11_buildNow_27 rfl ?_
  refine gf_X11_34 (q := 116) hC eX11_buildNow_28 kk_107 rfl ?_
  refine J.iload_n (j := 2) hC eX11_buildNow_31 rfl ?_
  refine J.iload_n (j := 3) hC eX11_buildNow_32 rfl ?_
  refine J.callSI (st := [.ref (xad (cX C) 116)]) hC eX11_buildNow_33 ml_X11_147 mv_X11_column (Rle_of (Nat.le_of_ble_eq_true rfl) (Nat.le_of_ble_eq_true rfl)) (c_X11_column hC.X x1 x2 μ_4) rfl rfl (Nat.le_of_ble_eq_true rfl) (fun r_7 μ_6 => ?_)
  refine J.iload_n (j := 0) hC eX11_buildNow_36 rfl ?_
  refine J.iast ik_1253 hC eX11_buildNow_37 kk_116 (fun μ_8 => ?_)
  refine J.aload_n (j := 1) hC eX11_buildNow_38 rfl ?_
  refine gf_X11_34 (q := 116) hC eX11_buildNow_39 kk_107 rfl ?_
  refine J.iload_n (j := 2) hC eX11_buildNow_42 rfl ?_
  refine J.iload_n (j := 3) hC eX11_buildNow_43 rfl ?_
  refine J.callSI (st := [.ref (xad (cX C) 116)]) hC eX11_buildNow_44 ml_X11_199 mv_X11_drift (Rle_of (Nat.le_of_ble_eq_true rfl) (Nat.le_of_ble_eq_true rfl)) (c_X11_drift hC.X x1 x2 μ_8) rfl rfl (Nat.le_of_ble_eq_true rfl) (fun r_10 μ_9 => ?_)
  refine J.iconst hC eX11_buildNow_47 ci_0 ?_
  refine J.iast ik_1253 hC eX11_buildNow_48 kk_116 (fun μ_11 => ?_)
  refine J.iconst hC eX11_buildNow_49 ci_0 ?_
  refine J.istore [(4, .int (0 : Int32)), (3, .int x3_3), (0, .ref (xad (cX C) 107)), (1, .int x1), (2, .int x2)] hC eX11_buildNow_50 (by decide) rfl ?_
  refine J.sub [2, 3, 4, 1, 0] rfl ?_
  exact j_X11_buildNow_52 hC hr  100000 x1 x2 x3_3 (0 : Int32) μ_11
-- X11_takeBook
theorem eX11_takeBook_0 : DD cX11_takeBook 0 (.aload_n 0) 1 1 := ⟨by decide +kernel, rfl⟩
theorem eX11_takeBook_1 : DD cX11_takeBook 1 (.aload_n 0) 1 2 := ⟨by decide +kernel, rfl⟩
theorem eX11_takeBook_2 : DD cX11_takeBook 2 (.getfield 122) 3 5 := ⟨by decide +kernel, rfl⟩
theorem eX11_takeBook_5 : DD cX11_takeBook 5 (.putfield 150) 3 8 := ⟨by decide +kernel, rfl⟩
theorem eX11_takeBook_8 : DD cX11_takeBook 8 (.iconst 0) 1 9 := ⟨by decide +kernel, rfl⟩
theorem eX11_takeBook_9 : DD cX11_takeBook 9 (.istore_n 1) 1 10 := ⟨by decide +kernel, rfl⟩
theorem eX11_takeBook_10 : DD cX11_takeBook 10 (.iload_n 1) 1 11 := ⟨by decide +kernel, rfl⟩
theorem eX11_takeBook_11 : DD cX11_takeBook 11 (.iconst 3) 1 12 := ⟨by decide +kernel, rfl⟩
theorem eX11_takeBook_12 : DB cX11_takeBook 12 (.if_icmp .ge 21) (21) 15 33 := ⟨by decide +kernel, rfl, by decide⟩
theorem eX11_takeBook_15 : DD cX11_takeBook 15 (.aload_n 0) 1 16 := ⟨by decide +kernel, rfl⟩
theorem eX11_takeBook_16 : DD cX11_takeBook 16 (.getfield 22) 3 19 := ⟨by decide +kernel, rfl⟩
theorem eX11_takeBook_19 : DD cX11_takeBook 19 (.iload_n 1) 1 20 := ⟨by decide +kernel, rfl⟩
theorem eX11_takeBook_20 : DD cX11_takeBook 20 (.aload_n 0) 1 21 := ⟨by decide +kernel, rfl⟩
theorem eX11_takeBook_21 : DD cX11_takeBook 21 (.getfield 13) 3 24 := ⟨by decide +kernel, rfl⟩
theorem eX11_takeBook_24 : DD cX11_takeBook 24 (.iload_n 1) 1 25 := ⟨by decide +kernel, rfl⟩
theorem eX11_takeBook_25 : DD cX11_takeBook 25 (.iaload) 1 26 := ⟨by decide +kernel, rfl⟩
theorem eX11_takeBook_26 : DD cX11_takeBook 26 (.iastore) 1 27 := ⟨by decide +kernel, rfl⟩
theorem eX11_takeBook_27 : DD cX11_takeBook 27 (.iinc 1 1) 3 30 := ⟨by decide +kernel, rfl⟩
theorem eX11_takeBook_30 : DB cX11_takeBook 30 (.goto (-20)) (-20) 33 10 := ⟨by decide +kernel, rfl, by decide⟩
theorem eX11_takeBook_33 : DD cX11_takeBook 33 (.iconst 0) 1 34 := ⟨by decide +kernel, rfl⟩
theorem eX11_takeBook_34 : DD cX11_takeBook 34 (.istore_n 1) 1 35 := ⟨by decide +kernel, rfl⟩
theorem eX11_takeBook_35 : DD cX11_takeBook 35 (.iload_n 1) 1 36 := ⟨by decide +kernel, rfl⟩
theorem eX11_takeBook_36 : DD cX11_takeBook 36 (.sipush 1253) 3 39 := ⟨by decide +kernel, rfl⟩
theorem eX11_takeBook_39 : DB cX11_takeBook 39 (.if_icmp .ge 16) (16) 42 55 := ⟨by decide +kernel, rfl, by decide⟩
theorem eX11_takeBook_42 : DD cX11_takeBook 42 (.aload_n 0) 1 43 := ⟨by decide +kernel, rfl⟩
theorem eX11_takeBook_43 : DD cX11_takeBook 43 (.getfield 34) 3 46 := ⟨by decide +kernel, rfl⟩
theorem eX11_takeBook_46 : DD cX11_takeBook 46 (.iload_n 1) 1 47 := ⟨by decide +kernel, rfl⟩
theorem eX11_takeBook_47 : DD cX11_takeBook 47 (.iconst 0) 1 48 := ⟨by decide +kernel, rfl⟩
theorem eX11_takeBook_48 : DD cX11_takeBook 48 (.iastore) 1 49 := ⟨by decide +kernel, rfl⟩
theorem eX11_takeBook_49 : DD cX11_takeBook 49 (.iinc 1 1) 3 52 := ⟨by decide +kernel, rfl⟩
theorem eX11_takeBook_52 : DB cX11_takeBook 52 (.goto (-17)) (-17) 55 35 := ⟨by decide +kernel, rfl, by decide⟩
theorem eX11_takeBook_55 : DD cX11_takeBook 55 (.aload_n 0) 1 56 := ⟨by decide +kernel, rfl⟩
theorem eX11_takeBook_56 : DD cX11_takeBook 56 (.getfield 34) 3 59 := ⟨by decide +kernel, rfl⟩
theorem eX11_takeBook_59 : DD cX11_takeBook 59 (.sipush 1071) 3 62 := ⟨by decide +kernel, rfl⟩
theorem eX11_takeBook_62 : DD cX11_takeBook 62 (.aload_n 0) 1 63 := ⟨by decide +kernel, rfl⟩
theorem eX11_takeBook_63 : DD cX11_takeBook 63 (.getfield 22) 3 66 := ⟨by decide +kernel, rfl⟩
theorem eX11_takeBook_66 : DD cX11_takeBook 66 (.iconst 2) 1 67 := ⟨by decide +kernel, rfl⟩
theorem eX11_takeBook_67 : DD cX11_takeBook 67 (.iaload) 1 68 := ⟨by decide +kernel, rfl⟩
theorem eX11_takeBook_68 : DD cX11_takeBook 68 (.iastore) 1 69 := ⟨by decide +kernel, rfl⟩
theorem eX11_takeBook_69 : DD cX11_takeBook 69 (.iconst 0) 1 70 := ⟨by decide +kernel, rfl⟩
theorem eX11_takeBook_70 : DD cX11_takeBook 70 (.istore_n 1) 1 71 := ⟨by decide +kernel, rfl⟩
theorem eX11_takeBook_71 : DD cX11_takeBook 71 (.iload_n 1) 1 72 := ⟨by decide +kernel, rfl⟩
theorem eX11_takeBook_72 : DD cX11_takeBook 72 (.aload_n 0) 1 73 := ⟨by decide +kernel, rfl⟩
theorem eX11_takeBook_73 : DD cX11_takeBook 73 (.getfield 150) 3 76 := ⟨by decide +kernel, rfl⟩
theorem eX11_takeBook_76 : DB cX11_takeBook 76 (.if_icmp .ge 21) (21) 79 97 := ⟨by decide +kernel, rfl, by decide⟩
theorem eX11_takeBook_79 : DD cX11_takeBook 79 (.aload_n 0) 1 80 := ⟨by decide +kernel, rfl⟩
theorem eX11_takeBook_80 : DD cX11_takeBook 80 (.getfield 25) 3 83 := ⟨by decide +kernel, rfl⟩
theorem eX11_takeBook_83 : DD cX11_takeBook 83 (.iload_n 1) 1 84 := ⟨by decide +kernel, rfl⟩
theorem eX11_takeBook_84 : DD cX11_takeBook 84 (.aload_n 0) 1 85 := ⟨by decide +kernel, rfl⟩
theorem eX11_takeBook_85 : DD cX11_takeBook 85 (.getfield 16) 3 88 := ⟨by decide +kernel, rfl⟩
theorem eX11_takeBook_88 : DD cX11_takeBook 88 (.iload_n 1) 1 89 := ⟨by decide +kernel, rfl⟩
theorem eX11_takeBook_89 : DD cX11_takeBook 89 (.iaload) 1 90 := ⟨by decide +kernel, rfl⟩
theorem eX11_takeBook_90 : DD cX11_takeBook 90 (.iastore) 1 91 := ⟨by decide +kernel, rfl⟩
theorem eX11_takeBook_91 : DD cX11_takeBook 91 (.iinc 1 1) 3 94 := ⟨by decide +kernel, rfl⟩
theorem eX11_takeBook_94 : DB cX11_takeBook 94 (.goto (-23)) (-23) 97 71 := ⟨by decide +kernel, rfl, by decide⟩
theorem eX11_takeBook_97 : DD cX11_takeBook 97 (.iconst 0) 1 98 := ⟨by decide +kernel, rfl⟩
theorem eX11_takeBook_98 : DD cX11_takeBook 98 (.istore_n 1) 1 99 := ⟨by decide +kernel, rfl⟩
theorem eX11_takeBook_99 : DD cX11_takeBook 99 (.iload_n 1) 1 100 := ⟨by decide +kernel, rfl⟩
theorem eX11_takeBook_100 : DD cX11_takeBook 100 (.aload_n 0) 1 101 := ⟨by decide +kernel, rfl⟩
theorem eX11_takeBook_101 : DD cX11_takeBook 101 (.getfield 125) 3 104 := ⟨by decide +kernel, rfl⟩
theorem eX11_takeBook_104 : DB cX11_takeBook 104 (.if_icmp .ge 60) (60) 107 164 := ⟨by decide +kernel, rfl, by decide⟩
theorem eX11_takeBook_107 : DD cX11_takeBook 107 (.aload_n 0) 1 108 := ⟨by decide +kernel, rfl⟩
theorem eX11_takeBook_108 : DD cX11_takeBook 108 (.getfield 34) 3 111 := ⟨by decide +kernel, rfl⟩
theorem eX11_takeBook_111 : DD cX11_takeBook 111 (.aload_n 0) 1 112 := ⟨by decide +kernel, rfl⟩
theorem eX11_takeBook_112 : DD cX11_takeBook 112 (.getfield 19) 3 115 := ⟨by decide +kernel, rfl⟩
theorem eX11_takeBook_115 : DD cX11_takeBook 115 (.iconst 4) 1 116 := ⟨by decide +kernel, rfl⟩
theorem eX11_takeBook_116 : DD cX11_takeBook 116 (.iload_n 1) 1 117 := ⟨by decide +kernel, rfl⟩
theorem eX11_takeBook_117 : DD cX11_takeBook 117 (.imul) 1 118 := ⟨by decide +kernel, rfl⟩
theorem eX11_takeBook_118 : DD cX11_takeBook 118 (.iconst 0) 1 119 := ⟨by decide +kernel, rfl⟩
theorem eX11_takeBook_119 : DD cX11_takeBook 119 (.iadd) 1 120 := ⟨by decide +kernel, rfl⟩
theorem eX11_takeBook_120 : DD cX11_takeBook 120 (.iaload) 1 121 := ⟨by decide +kernel, rfl⟩
theorem eX11_takeBook_121 : DD cX11_takeBook 121 (.aload_n 0) 1 122 := ⟨by decide +kernel, rfl⟩
theorem eX11_takeBook_122 : DD cX11_takeBook 122 (.getfield 19) 3 125 := ⟨by decide +kernel, rfl⟩
theorem eX11_takeBook_125 : DD cX11_takeBook 125 (.iconst 4) 1 126 := ⟨by decide +kernel, rfl⟩
theorem eX11_takeBook_126 : DD cX11_takeBook 126 (.iload_n 1) 1 127 := ⟨by decide +kernel, rfl⟩
theorem eX11_takeBook_127 : DD cX11_takeBook 127 (.imul) 1 128 := ⟨by decide +kernel, rfl⟩
theorem eX11_takeBook_128 : DD cX11_takeBook 128 (.iconst 1) 1 129 := ⟨by decide +kernel, rfl⟩
theorem eX11_takeBook_129 : DD cX11_takeBook 129 (.iadd) 1 130 := ⟨by decide +kernel, rfl⟩
theorem eX11_takeBook_130 : DD cX11_takeBook 130 (.iaload) 1 131 := ⟨by decide +kernel, rfl⟩
theorem eX11_takeBook_131 : DD cX11_takeBook 131 (.aload_n 0) 1 132 := ⟨by decide +kernel, rfl⟩
theorem eX11_takeBook_132 : DD cX11_takeBook 132 (.getfield 19) 3 135 := ⟨by decide +kernel, rfl⟩
theorem eX11_takeBook_135 : DD cX11_takeBook 135 (.iconst 4) 1 136 := ⟨by decide +kernel, rfl⟩
theorem eX11_takeBook_136 : DD cX11_takeBook 136 (.iload_n 1) 1 137 := ⟨by decide +kernel, rfl⟩
theorem eX11_takeBook_137 : DD cX11_takeBook 137 (.imul) 1 138 := ⟨by decide +kernel, rfl⟩
theorem eX11_takeBook_138 : DD cX11_takeBook 138 (.iconst 2) 1 139 := ⟨by decide +kernel, rfl⟩
theorem eX11_takeBook_139 : DD cX11_takeBook 139 (.iadd) 1 140 := ⟨by decide +kernel, rfl⟩
theorem eX11_takeBook_140 : DD cX11_takeBook 140 (.iaload) 1 141 := ⟨by decide +kernel, rfl⟩
theorem eX11_takeBook_141 : DD cX11_takeBook 141 (.invokestatic 158) 3 144 := ⟨by decide +kernel, rfl⟩
theorem eX11_takeBook_144 : DD cX11_takeBook 144 (.dup2) 1 145 := ⟨by decide +kernel, rfl⟩
theorem eX11_takeBook_145 : DD cX11_takeBook 145 (.iaload) 1 146 := ⟨by decide +kernel, rfl⟩
theorem eX11_takeBook_146 : DD cX11_takeBook 146 (.aload_n 0) 1 147 := ⟨by decide +kernel, rfl⟩
theorem eX11_takeBook_147 : DD cX11_takeBook 147 (.getfield 19) 3 150 := ⟨by decide +kernel, rfl⟩
theorem eX11_takeBook_150 : DD cX11_takeBook 150 (.iconst 4) 1 151 := ⟨by decide +kernel, rfl⟩
theorem eX11_takeBook_151 : DD cX11_takeBook 151 (.iload_n 1) 1 152 := ⟨by decide +kernel, rfl⟩
theorem eX11_takeBook_152 : DD cX11_takeBook 152 (.imul) 1 153 := ⟨by decide +kernel, rfl⟩
theorem eX11_takeBook_153 : DD cX11_takeBook 153 (.iconst 3) 1 154 := ⟨by decide +kernel, rfl⟩
theorem eX11_takeBook_154 : DD cX11_takeBook 154 (.iadd) 1 155 := ⟨by decide +kernel, rfl⟩
theorem eX11_takeBook_155 : DD cX11_takeBook 155 (.iaload) 1 156 := ⟨by decide +kernel, rfl⟩
theorem eX11_takeBook_156 : DD cX11_takeBook 156 (.iadd) 1 157 := ⟨by decide +kernel, rfl⟩
theorem eX11_takeBook_157 : DD cX11_takeBook 157 (.iastore) 1 158 := ⟨by decide +kernel, rfl⟩
theorem eX11_takeBook_158 : DD cX11_takeBook 158 (.iinc 1 1) 3 161 := ⟨by decide +kernel, rfl⟩
theorem eX11_takeBook_161 : DB cX11_takeBook 161 (.goto (-62)) (-62) 164 99 := ⟨by decide +kernel, rfl, by decide⟩
theorem eX11_takeBook_164 : DD cX11_takeBook 164 (.iconst 0) 1 165 := ⟨by decide +kernel, rfl⟩
theorem eX11_takeBook_165 : DD cX11_takeBook 165 (.istore_n 1) 1 166 := ⟨by decide +kernel, rfl⟩
theorem eX11_takeBook_166 : DD cX11_takeBook 166 (.iload_n 1) 1 167 := ⟨by decide +kernel, rfl⟩
theorem eX11_takeBook_167 : DD cX11_takeBook 167 (.aload_n 0) 1 168 := ⟨by decide +kernel, rfl⟩
theorem eX11_takeBook_168 : DD cX11_takeBook 168 (.getfield 150) 3 171 := ⟨by decide +kernel, rfl⟩
theorem eX11_takeBook_171 : DB cX11_takeBook 171 (.if_icmp .ge 21) (21) 174 192 := ⟨by decide +kernel, rfl, by decide⟩
theorem eX11_takeBook_174 : DD cX11_takeBook 174 (.aload_n 0) 1 175 := ⟨by decide +kernel, rfl⟩
theorem eX11_takeBook_175 : DD cX11_takeBook 175 (.iload_n 1) 1 176 := ⟨by decide +kernel, rfl⟩
theorem eX11_takeBook_176 : DD cX11_takeBook 176 (.iconst 0) 1 177 := ⟨by decide +kernel, rfl⟩
theorem eX11_takeBook_177 : DD cX11_takeBook 177 (.invokevirtual 209) 3 180 := ⟨by decide +kernel, rfl⟩
theorem eX11_takeBook_180 : DD cX11_takeBook 180 (.aload_n 0) 1 181 := ⟨by decide +kernel, rfl⟩
theorem eX11_takeBook_181 : DD cX11_takeBook 181 (.iload_n 1) 1 182 := ⟨by decide +kernel, rfl⟩
theorem eX11_takeBook_182 : DD cX11_takeBook 182 (.iconst 1) 1 183 := ⟨by decide +kernel, rfl⟩
theorem eX11_takeBook_183 : DD cX11_takeBook 183 (.invokevirtual 209) 3 186 := ⟨by decide +kernel, rfl⟩
theorem eX11_takeBook_186 : DD cX11_takeBook 186 (.iinc 1 1) 3 189 := ⟨by decide +kernel, rfl⟩
theorem eX11_takeBook_189 : DB cX11_takeBook 189 (.goto (-23)) (-23) 192 166 := ⟨by decide +kernel, rfl, by decide⟩
theorem eX11_takeBook_192 : DD cX11_takeBook 192 (.aload_n 0) 1 193 := ⟨by decide +kernel, rfl⟩
theorem eX11_takeBook_193 : DD cX11_takeBook 193 (.iconst 0) 1 194 := ⟨by decide +kernel, rfl⟩
theorem eX11_takeBook_194 : DD cX11_takeBook 194 (.putfield 212) 3 197 := ⟨by decide +kernel, rfl⟩
theorem eX11_takeBook_197 : DD cX11_takeBook 197 (.aload_n 0) 1 198 := ⟨by decide +kernel, rfl⟩
theorem eX11_takeBook_198 : DD cX11_takeBook 198 (.iconst 0) 1 199 := ⟨by decide +kernel, rfl⟩
theorem eX11_takeBook_199 : DD cX11_takeBook 199 (.putfield 215) 3 202 := ⟨by decide +kernel, rfl⟩
theorem eX11_takeBook_202 : DD cX11_takeBook 202 (.aload_n 0) 1 203 := ⟨by decide +kernel, rfl⟩
theorem eX11_takeBook_203 : DD cX11_takeBook 203 (.getfield 150) 3 206 := ⟨by decide +kernel, rfl⟩
theorem eX11_takeBook_206 : DD cX11_takeBook 206 (.ireturn) 1 207 := ⟨by decide +kernel, rfl⟩
def L_X11_takeBook_166 : Nat → Int32 → Mem → Option (Int32 × Mem)
  | 0, _, _ => none
  | n + 1, x1, μ => if (rI μ 107 12) ≤ x1 then lb (wI μ 107 23 (0 : Int32)) (fun μ_1 => lb (wI μ_1 107 32 (0 : Int32)) (fun μ_2 => some (rI μ_2 107 12, μ_2))) else bd (G_X11_buildNow x1 (0 : Int32) μ) (fun r_4 μ_3 => bd (G_X11_buildNow x1 (1 : Int32) μ_3) (fun r_6 μ_5 => lb (x1 + (1 : Int32)) (fun x1_7 => L_X11_takeBook_166  n x1_7 μ_5)))
set_option maxHeartbeats 4000000 in
theorem j_X11_takeBook_166 {C : Cx} (hC : Ok C cX11_takeBook 2 RX11 (rmF 4 106)) (hr : (cT C).sig.returnType = (some .int)) : ∀ (n : Nat) (x1 : Int32) (μ : Mem), J C (KI C) μ 166 [(0, .ref (xad (cX C) 107)), (1, .int x1)] [] (L_X11_takeBook_166  n x1 μ) := by
  intro n
  induction n with
  | zero => intros; exact J.no
  | succ n ih =>
    intro x1 μ
    rw [L_X11_takeBook_166]
    refine J.iload_n (j := 1) hC eX11_takeBook_166 rfl ?_
    refine J.aload_n (j := 0) hC eX11_takeBook_167 rfl ?_
    refine gf_X11_150 hC eX11_takeBook_168 kk_107 ?_
    refine J.icmp_ge hC eX11_takeBook_171 (fun _ => ?_) (fun _ => ?_)
    · refine J.aload_n (j := 0) hC eX11_takeBook_192 rfl ?_
      refine J.iconst hC eX11_takeBook_193 ci_0 ?_
      refine pf_X11_212 hC eX11_takeBook_194 kk_107 (fun μ_1 => ?_)
      refine J.aload_n (j := 0) hC eX11_takeBook_197 rfl ?_
      refine J.iconst hC eX11_takeBook_198 ci_0 ?_
      refine pf_X11_215 hC eX11_takeBook_199 kk_107 rfl (fun μ_2 => ?_)
      refine J.aload_n (j := 0) hC eX11_takeBook_202 rfl ?_
      refine gf_X11_150 hC eX11_takeBook_203 kk_107 ?_
      exact J.iret hC hr eX11_takeBook_206
    · refine J.aload_n (j := 0) hC eX11_takeBook_174 rfl ?_
      refine J.iload_n (j := 1) hC eX11_takeBook_175 rfl ?_
      refine J.iconst hC eX11_takeBook_176 ci_0 ?_
      refine J.callVV (st := []) hC eX11_takeBook_177 kk_107 (by decide) rfl rfl ml_X11_209 mv_X11_buildNow (Rle_of (Nat.le_of_ble_eq_true rfl) (Nat.le_of_ble_eq_true rfl)) (c_X11_buildNow hC.X x1 (0 : Int32) μ) rfl rfl (Nat.le_of_ble_eq_true rfl) (fun r_4 μ_3 => ?_)
      refine J.aload_n (j := 0) hC eX11_takeBook_180 rfl ?_
      refine J.iload_n (j := 1) hC eX11_takeBook_181 rfl ?_
      refine J.iconst hC eX11_takeBook_182 ci_1 ?_
      refine J.callVV (st := []) hC eX11_takeBook_183 kk_107 (by decide) rfl rfl ml_X11_209 mv_X11_buildNow (Rle_of (Nat.le_of_ble_eq_true rfl) (Nat.le_of_ble_eq_true rfl)) (c_X11_buildNow hC.X x1 (1 : Int32) μ_3) rfl rfl (Nat.le_of_ble_eq_true rfl) (fun r_6 μ_5 => ?_)
      refine J.iinc (j := 1) (fun x1_7 => [(1, .int x1_7), (0, .ref (xad (cX C) 107))]) hC eX11_takeBook_186 rfl ci_1 (by decide) (fun _ => rfl) (fun x1_7 => ?_)
      refine J.goto hC eX11_takeBook_189 ?_
      refine J.sub [1, 0] rfl ?_
      exact ih x1_7 μ_5
def L_X11_takeBook_99 : Nat → Int32 → Mem → Option (Int32 × Mem)
  | 0, _, _ => none
  | n + 1, x1, μ => if (rI μ 107 9) ≤ x1 then L_X11_takeBook_166  100000 (0 : Int32) μ else gq (inB (((4 : Int32) * x1) + (0 : Int32)) 80) (gq (inB (((4 : Int32) * x1) + (1 : Int32)) 80) (gq (inB (((4 : Int32) * x1) + (2 : Int32)) 80) (bd (G_X11_place (rI μ 111 (nx (((4 : Int32) * x1) + (0 : Int32)))) (rI μ 111 (nx (((4 : Int32) * x1) + (1 : Int32)))) (rI μ 111 (nx (((4 : Int32) * x1) + (2 : Int32)))) μ) (fun r_2 μ_1 => gq (inB r_2 1253) (gq (inB (((4 : Int32) * x1) + (3 : Int32)) 80) (gq (inB r_2 1253) (lb (wI μ_1 116 (nx r_2) ((rI μ_1 116 (nx r_2)) + (rI μ_1 111 (nx (((4 : Int32) * x1) + (3 : Int32)))))) (fun μ_3 => lb (x1 + (1 : Int32)) (fun x1_4 => L_X11_takeBook_99  n x1_4 μ_3)))))))))
set_option maxHeartbeats 4000000 in
theorem j_X11_takeBook_99 {C : Cx} (hC : Ok C cX11_takeBook 2 RX11 (rmF 4 106)) (hr : (cT C).sig.returnType = (some .int)) : ∀ (n : Nat) (x1 : Int32) (μ : Mem), J C (KI C) μ 99 [(0, .ref (xad (cX C) 107)), (1, .int x1)] [] (L_X11_takeBook_99  n x1 μ) := by
  intro n
  induction n with
  | zero => intros; exact J.no
  | succ n ih =>
    intro x1 μ
    rw [L_X11_takeBook_99]
    refine J.iload_n (j := 1) hC eX11_takeBook_99 rfl ?_
    refine J.aload_n (j := 0) hC eX11_takeBook_100 rfl ?_
    refine gf_X11_125 hC eX11_takeBook_101 kk_107 ?_
    refine J.icmp_ge hC eX11_takeBook_104 (fun _ => ?_) (fun _ => ?_)
    · refine J.iconst hC eX11_takeBook_164 ci_0 ?_
      refine J.istore_n [(1, .int (0 : Int32)), (0, .ref (xad (cX C) 107))] hC eX11_takeBook_165 (by decide) rfl ?_
      refine J.sub [1, 0] rfl ?_
      exact j_X11_takeBook_166 hC hr  100000 (0 : Int32) μ
    · refine J.aload_n (j := 0) hC eX11_takeBook_107 rfl ?_
      refine gf_X11_34 (q := 116) hC eX11_takeBook_108 kk_107 rfl ?_
      refine J.aload_n (j := 0) hC eX11_takeBook_111 rfl ?_
      refine gf_X11_19 (q := 111) hC eX11_takeBook_112 kk_107 rfl ?_
      refine J.iconst hC eX11_takeBook_115 ci_4 ?_
      refine J.iload_n (j := 1) hC eX11_takeBook_116 rfl ?_
      refine J.imul hC eX11_takeBook_117 ?_
      refine J.iconst hC eX11_takeBook_118 ci_0 ?_
      refine J.iadd hC eX11_takeBook_119 ?_
      refine J.iald ik_80 hC eX11_takeBook_120 kk_111 ?_
      refine J.aload_n (j := 0) hC eX11_takeBook_121 rfl ?_
      refine gf_X11_19 (q := 111) hC eX11_takeBook_122 kk_107 rfl ?_
      refine J.iconst hC eX11_takeBook_125 ci_4 ?_
      refine J.iload_n (j := 1) hC eX11_takeBook_126 rfl ?_
      refine J.imul hC eX11_takeBook_127 ?_
      refine J.iconst hC eX11_takeBook_128 ci_1 ?_
      refine J.iadd hC eX11_takeBook_129 ?_
      refine J.iald ik_80 hC eX11_takeBook_130 kk_111 ?_
      refine J.aload_n (j := 0) hC eX11_takeBook_131 rfl ?_
      refine gf_X11_19 (q := 111) hC eX11_takeBook_132 kk_107 rfl ?_
      refine J.iconst hC eX11_takeBook_135 ci_4 ?_
      refine J.iload_n (j := 1) hC eX11_takeBook_136 rfl ?_
      refine J.imul hC eX11_takeBook_137 ?_
      refine J.iconst hC eX11_takeBook_138 ci_2 ?_
      refine J.iadd hC eX11_takeBook_139 ?_
      refine J.iald ik_80 hC eX11_takeBook_140 kk_111 ?_
      refine J.callSI (st := [.ref (xad (cX C) 116)]) hC eX11_takeBook_141 ml_X11_158 mv_X11_place (Rle_of (Nat.le_of_ble_eq_true rfl) (Nat.le_of_ble_eq_true rfl)) (c_X11_place hC.X (rI μ 111 (nx (((4 : Int32) * x1) + (0 : Int32)))) (rI μ 111 (nx (((4 : Int32) * x1) + (1 : Int32)))) (rI μ 111 (nx (((4 : Int32) * x1) + (2 : Int32)))) μ) rfl rfl (Nat.le_of_ble_eq_true rfl) (fun r_2 μ_1 => ?_)
      refine J.dup2 hC eX11_takeBook_144 rfl rfl ?_
      refine J.iald ik_1253 hC eX11_takeBook_145 kk_116 ?_
      refine J.aload_n (j := 0) hC eX11_takeBook_146 rfl ?_
      refine gf_X11_19 (q := 111) hC eX11_takeBook_147 kk_107 rfl ?_
      refine J.iconst hC eX11_takeBook_150 ci_4 ?_
      refine J.iload_n (j := 1) hC eX11_takeBook_151 rfl ?_
      refine J.imul hC eX11_takeBook_152 ?_
      refine J.iconst hC eX11_takeBook_153 ci_3 ?_
      refine J.iadd hC eX11_takeBook_154 ?_
      refine J.iald ik_80 hC eX11_takeBook_155 kk_111 ?_
      refine J.iadd hC eX11_takeBook_156 ?_
      refine J.iast ik_1253 hC eX11_takeBook_157 kk_116 (fun μ_3 => ?_)
      refine J.iinc (j := 1) (fun x1_4 => [(1, .int x1_4), (0, .ref (xad (cX C) 107))]) hC eX11_takeBook_158 rfl ci_1 (by decide) (fun _ => rfl) (fun x1_4 => ?_)
      refine J.goto hC eX11_takeBook_161 ?_
      refine J.sub [1, 0] rfl ?_
      exact ih x1_4 μ_3
def L_X11_takeBook_71 : Nat → Int32 → Mem → Option (Int32 × Mem)
  | 0, _, _ => none
  | n + 1, x1, μ => if (rI μ 107 12) ≤ x1 then L_X11_takeBook_99  100000 (0 : Int32) μ else gq (inB x1 3) (gq (inB x1 3) (lb (wI μ 113 (nx x1) (rI μ 110 (nx x1))) (fun μ_1 => lb (x1 + (1 : Int32)) (fun x1_2 => L_X11_takeBook_71  n x1_2 μ_1))))
set_option maxHeartbeats 4000000 in
theorem j_X11_takeBook_71 {C : Cx} (hC : Ok C cX11_takeBook 2 RX11 (rmF 4 106)) (hr : (cT C).sig.returnType = (some .int)) : ∀ (n : Nat) (x1 : Int32) (μ : Mem), J C (KI C) μ 71 [(0, .ref (xad (cX C) 107)), (1, .int x1)] [] (L_X11_takeBook_71  n x1 μ) := by
  intro n
  induction n with
  | zero => intros; exact J.no
  | succ n ih =>
    intro x1 μ
    rw [L_X11_takeBook_71]
    refine J.iload_n (j := 1) hC eX11_takeBook_71 rfl ?_
    refine J.aload_n (j := 0) hC eX11_takeBook_72 rfl ?_
    refine gf_X11_150 hC eX11_takeBook_73 kk_107 ?_
    refine J.icmp_ge hC eX11_takeBook_76 (fun _ => ?_) (fun _ => ?_)
    · refine J.iconst hC eX11_takeBook_97 ci_0 ?_
      refine J.istore_n [(1, .int (0 : Int32)), (0, .ref (xad (cX C) 107))] hC eX11_takeBook_98 (by decide) rfl ?_
      refine J.sub [1, 0] rfl ?_
      exact j_X11_takeBook_99 hC hr  100000 (0 : Int32) μ
    · refine J.aload_n (j := 0) hC eX11_takeBook_79 rfl ?_
      refine gf_X11_25 (q := 113) hC eX11_takeBook_80 kk_107 rfl ?_
      refine J.iload_n (j := 1) hC eX11_takeBook_83 rfl ?_
      refine J.aload_n (j := 0) hC eX11_takeBook_84 rfl ?_
      refine gf_X11_16 (q := 110) hC eX11_takeBook_85 kk_107 rfl ?_
      refine J.iload_n (j := 1) hC eX11_takeBook_88 rfl ?_
      refine J.iald ik_3 hC eX11_takeBook_89 kk_110 ?_
      refine J.iast ik_3 hC eX11_takeBook_90 kk_113 (fun μ_1 => ?_)
      refine J.iinc (j := 1) (fun x1_2 => [(1, .int x1_2), (0, .ref (xad (cX C) 107))]) hC eX11_takeBook_91 rfl ci_1 (by decide) (fun _ => rfl) (fun x1_2 => ?_)
      refine J.goto hC eX11_takeBook_94 ?_
      refine J.sub [1, 0] rfl ?_
      exact ih x1_2 μ_1
def L_X11_takeBook_35 : Nat → Int32 → Mem → Option (Int32 × Mem)
  | 0, _, _ => none
  | n + 1, x1, μ => if (1253 : Int32) ≤ x1 then lb (wI μ 116 1071 (rI μ 112 2)) (fun μ_1 => L_X11_takeBook_71  100000 (0 : Int32) μ_1) else gq (inB x1 1253) (lb (wI μ 116 (nx x1) (0 : Int32)) (fun μ_2 => lb (x1 + (1 : Int32)) (fun x1_3 => L_X11_takeBook_35  n x1_3 μ_2)))
set_option maxHeartbeats 4000000 in
theorem j_X11_takeBook_35 {C : Cx} (hC : Ok C cX11_takeBook 2 RX11 (rmF 4 106)) (hr : (cT C).sig.returnType = (some .int)) : ∀ (n : Nat) (x1 : Int32) (μ : Mem), J C (KI C) μ 35 [(0, .ref (xad (cX C) 107)), (1, .int x1)] [] (L_X11_takeBook_35  n x1 μ) := by
  intro n
  induction n with
  | zero => intros; exact J.no
  | succ n ih =>
    intro x1 μ
    rw [L_X11_takeBook_35]
    refine J.iload_n (j := 1) hC eX11_takeBook_35 rfl ?_
    refine J.sipush hC eX11_takeBook_36 cs_1253 ?_
    refine J.icmp_ge hC eX11_takeBook_39 (fun _ => ?_) (fun _ => ?_)
    · refine J.aload_n (j := 0) hC eX11_takeBook_55 rfl ?_
      refine gf_X11_34 (q := 116) hC eX11_takeBook_56 kk_107 rfl ?_
      refine J.sipush hC eX11_takeBook_59 cs_1071 ?_
      refine J.aload_n (j := 0) hC eX11_takeBook_62 rfl ?_
      refine gf_X11_22 (q := 112) hC eX11_takeBook_63 kk_107 rfl ?_
      refine J.iconst hC eX11_takeBook_66 ci_2 ?_
      refine J.ialdK (j := 2) ik_3 hC eX11_takeBook_67 kk_112 (by decide) (by decide) ?_
      refine J.iastK (j := 1071) ik_1253 hC eX11_takeBook_68 kk_116 (by decide) (by decide) (fun μ_1 => ?_)
      refine J.iconst hC eX11_takeBook_69 ci_0 ?_
      refine J.istore_n [(1, .int (0 : Int32)), (0, .ref (xad (cX C) 107))] hC eX11_takeBook_70 (by decide) rfl ?_
      refine J.sub [1, 0] rfl ?_
      exact j_X11_takeBook_71 hC hr  100000 (0 : Int32) μ_1
    · refine J.aload_n (j := 0) hC eX11_takeBook_42 rfl ?_
      refine gf_X11_34 (q := 116) hC eX11_takeBook_43 kk_107 rfl ?_
      refine J.iload_n (j := 1) hC eX11_takeBook_46 rfl ?_
      refine J.iconst hC eX11_takeBook_47 ci_0 ?_
      refine J.iast ik_1253 hC eX11_takeBook_48 kk_116 (fun μ_2 => ?_)
      refine J.iinc (j := 1) (fun x1_3 => [(1, .int x1_3), (0, .ref (xad (cX C) 107))]) hC eX11_takeBook_49 rfl ci_1 (by decide) (fun _ => rfl) (fun x1_3 => ?_)
      refine J.goto hC eX11_takeBook_52 ?_
      refine J.sub [1, 0] rfl ?_
      exact ih x1_3 μ_2
def L_X11_takeBook_10 : Nat → Int32 → Mem → Option (Int32 × Mem)
  | 0, _, _ => none
  | n + 1, x1, μ => if (3 : Int32) ≤ x1 then L_X11_takeBook_35  100000 (0 : Int32) μ else gq (inB x1 3) (gq (inB x1 3) (lb (wI μ 112 (nx x1) (rI μ 109 (nx x1))) (fun μ_1 => lb (x1 + (1 : Int32)) (fun x1_2 => L_X11_takeBook_10  n x1_2 μ_1))))
set_option maxHeartbeats 4000000 in
theorem j_X11_takeBook_10 {C : Cx} (hC : Ok C cX11_takeBook 2 RX11 (rmF 4 106)) (hr : (cT C).sig.returnType = (some .int)) : ∀ (n : Nat) (x1 : Int32) (μ : Mem), J C (KI C) μ 10 [(0, .ref (xad (cX C) 107)), (1, .int x1)] [] (L_X11_takeBook_10  n x1 μ) := by
  intro n
  induction n with
  | zero => intros; exact J.no
  | succ n ih =>
    intro x1 μ
    rw [L_X11_takeBook_10]
    refine J.iload_n (j := 1) hC eX11_takeBook_10 rfl ?_
    refine J.iconst hC eX11_takeBook_11 ci_3 ?_
    refine J.icmp_ge hC eX11_takeBook_12 (fun _ => ?_) (fun _ => ?_)
    · refine J.iconst hC eX11_takeBook_33 ci_0 ?_
      refine J.istore_n [(1, .int (0 : Int32)), (0, .ref (xad (cX C) 107))] hC eX11_takeBook_34 (by decide) rfl ?_
      refine J.sub [1, 0] rfl ?_
      exact j_X11_takeBook_35 hC hr  100000 (0 : Int32) μ
    · refine J.aload_n (j := 0) hC eX11_takeBook_15 rfl ?_
      refine gf_X11_22 (q := 112) hC eX11_takeBook_16 kk_107 rfl ?_
      refine J.iload_n (j := 1) hC eX11_takeBook_19 rfl ?_
      refine J.aload_n (j := 0) hC eX11_takeBook_20 rfl ?_
      refine gf_X11_13 (q := 109) hC eX11_takeBook_21 kk_107 rfl ?_
      refine J.iload_n (j := 1) hC eX11_takeBook_24 rfl ?_
      refine J.iald ik_3 hC eX11_takeBook_25 kk_109 ?_
      refine J.iast ik_3 hC eX11_takeBook_26 kk_112 (fun μ_1 => ?_)
      refine J.iinc (j := 1) (fun x1_2 => [(1, .int x1_2), (0, .ref (xad (cX C) 107))]) hC eX11_takeBook_27 rfl ci_1 (by decide) (fun _ => rfl) (fun x1_2 => ?_)
      refine J.goto hC eX11_takeBook_30 ?_
      refine J.sub [1, 0] rfl ?_
      exact ih x1_2 μ_1
def G_X11_takeBook  (μ : Mem) : Option (Int32 × Mem) :=
  lb (wI μ 107 12 (rI μ 107 8)) (fun μ_1 => L_X11_takeBook_10  100000 (0 : Int32) μ_1)
set_option maxHeartbeats 4000000 in
theorem c_X11_takeBook {X : Wd} (hX : WdOk X)  (μ : Mem) : CtI X yX11_takeBook cX11_takeBook 2 (some .int) (rmF 4 106) [.ref (xad X 107)] μ (G_X11_takeBook  μ) := by
  refine CtI.of hX (plainFor_of_name (by decide)) (by exact Nat.le_of_ble_eq_true rfl) ?_
  intro C hCX hC hr
  subst hCX
  show J C (KI C) μ 0 [(0, .ref (xad (cX C) 107))] [] _
  unfold G_X11_takeBook
  refine J.aload_n (j := 0) hC eX11_takeBook_0 rfl ?_
  refine J.aload_n (j := 0) hC eX11_takeBook_1 rfl ?_
  refine gf_X11_122 hC eX11_takeBook_2 kk_107 ?_
  refine pf_X11_150 hC eX11_takeBook_5 kk_107 (fun μ_1 => ?_)
  refine J.iconst hC eX11_takeBook_8 ci_0 ?_
  refine J.istore_n [(1, .int (0 : Int32)), (0, .ref (xad (cX C) 107))] hC eX11_takeBook_9 (by decide) rfl ?_
  refine J.sub [1, 0] rfl ?_
  exact j_X11_takeBook_10 hC hr  100000 (0 : Int32) μ_1
