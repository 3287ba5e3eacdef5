-- X11_whereBy
theorem eX11_whereBy_0 : DD cX11_whereBy 0 (.iconst 0) 1 1 := ⟨by decide +kernel, rfl⟩
theorem eX11_whereBy_1 : DD cX11_whereBy 1 (.istore 4) 2 3 := ⟨by decide +kernel, rfl⟩
theorem eX11_whereBy_3 : DD cX11_whereBy 3 (.iconst 0) 1 4 := ⟨by decide +kernel, rfl⟩
theorem eX11_whereBy_4 : DD cX11_whereBy 4 (.istore 5) 2 6 := ⟨by decide +kernel, rfl⟩
theorem eX11_whereBy_6 : DD cX11_whereBy 6 (.iconst 0) 1 7 := ⟨by decide +kernel, rfl⟩
theorem eX11_whereBy_7 : DD cX11_whereBy 7 (.istore 6) 2 9 := ⟨by decide +kernel, rfl⟩
theorem eX11_whereBy_9 : DD cX11_whereBy 9 (.iload 6) 2 11 := ⟨by decide +kernel, rfl⟩
theorem eX11_whereBy_11 : DD cX11_whereBy 11 (.aload_n 0) 1 12 := ⟨by decide +kernel, rfl⟩
theorem eX11_whereBy_12 : DD cX11_whereBy 12 (.iload_n 2) 1 13 := ⟨by decide +kernel, rfl⟩
theorem eX11_whereBy_13 : DD cX11_whereBy 13 (.invokevirtual 341) 3 16 := ⟨by decide +kernel, rfl⟩
theorem eX11_whereBy_16 : DB cX11_whereBy 16 (.if_icmp .ge 36) (36) 19 52 := ⟨by decide +kernel, rfl, by decide⟩
theorem eX11_whereBy_19 : DD cX11_whereBy 19 (.aload_n 0) 1 20 := ⟨by decide +kernel, rfl⟩
theorem eX11_whereBy_20 : DD cX11_whereBy 20 (.iload_n 1) 1 21 := ⟨by decide +kernel, rfl⟩
theorem eX11_whereBy_21 : DD cX11_whereBy 21 (.iload_n 2) 1 22 := ⟨by decide +kernel, rfl⟩
theorem eX11_whereBy_22 : DD cX11_whereBy 22 (.iload 6) 2 24 := ⟨by decide +kernel, rfl⟩
theorem eX11_whereBy_24 : DD cX11_whereBy 24 (.iload_n 3) 1 25 := ⟨by decide +kernel, rfl⟩
theorem eX11_whereBy_25 : DD cX11_whereBy 25 (.invokevirtual 356) 3 28 := ⟨by decide +kernel, rfl⟩
theorem eX11_whereBy_28 : DD cX11_whereBy 28 (.istore 7) 2 30 := ⟨by decide +kernel, rfl⟩
theorem eX11_whereBy_30 : DD cX11_whereBy 30 (.iload 4) 2 32 := ⟨by decide +kernel, rfl⟩
theorem eX11_whereBy_32 : DD cX11_whereBy 32 (.iload 7) 2 34 := ⟨by decide +kernel, rfl⟩
theorem eX11_whereBy_34 : DD cX11_whereBy 34 (.iadd) 1 35 := ⟨by decide +kernel, rfl⟩
theorem eX11_whereBy_35 : DD cX11_whereBy 35 (.istore 4) 2 37 := ⟨by decide +kernel, rfl⟩
theorem eX11_whereBy_37 : DD cX11_whereBy 37 (.iload 5) 2 39 := ⟨by decide +kernel, rfl⟩
theorem eX11_whereBy_39 : DD cX11_whereBy 39 (.iload 7) 2 41 := ⟨by decide +kernel, rfl⟩
theorem eX11_whereBy_41 : DD cX11_whereBy 41 (.invokestatic 202) 3 44 := ⟨by decide +kernel, rfl⟩
theorem eX11_whereBy_44 : DD cX11_whereBy 44 (.istore 5) 2 46 := ⟨by decide +kernel, rfl⟩
theorem eX11_whereBy_46 : DD cX11_whereBy 46 (.iinc 6 1) 3 49 := ⟨by decide +kernel, rfl⟩
theorem eX11_whereBy_49 : DB cX11_whereBy 49 (.goto (-40)) (-40) 52 9 := ⟨by decide +kernel, rfl, by decide⟩
theorem eX11_whereBy_52 : DD cX11_whereBy 52 (.iload_n 3) 1 53 := ⟨by decide +kernel, rfl⟩
theorem eX11_whereBy_53 : DD cX11_whereBy 53 (.iconst 1) 1 54 := ⟨by decide +kernel, rfl⟩
theorem eX11_whereBy_54 : DB cX11_whereBy 54 (.if_icmp .ne 8) (8) 57 62 := ⟨by decide +kernel, rfl, by decide⟩
theorem eX11_whereBy_57 : DD cX11_whereBy 57 (.iload 5) 2 59 := ⟨by decide +kernel, rfl⟩
theorem eX11_whereBy_59 : DB cX11_whereBy 59 (.goto 13) (13) 62 72 := ⟨by decide +kernel, rfl, by decide⟩
theorem eX11_whereBy_62 : DD cX11_whereBy 62 (.iload 4) 2 64 := ⟨by decide +kernel, rfl⟩
theorem eX11_whereBy_64 : DD cX11_whereBy 64 (.aload_n 0) 1 65 := ⟨by decide +kernel, rfl⟩
theorem eX11_whereBy_65 : DD cX11_whereBy 65 (.iload_n 1) 1 66 := ⟨by decide +kernel, rfl⟩
theorem eX11_whereBy_66 : DD cX11_whereBy 66 (.invokevirtual 161) 3 69 := ⟨by decide +kernel, rfl⟩
theorem eX11_whereBy_69 : DD cX11_whereBy 69 (.invokestatic 194) 3 72 := ⟨by decide +kernel, rfl⟩
theorem eX11_whereBy_72 : DD cX11_whereBy 72 (.ireturn) 1 73 := ⟨by decide +kernel, rfl⟩
def L_X11_whereBy_9 : Nat → Int32 → Int32 → Int32 → Int32 → Int32 → Int32 → Mem → Option (Int32 × Mem)
  | 0, _, _, _, _, _, _, _ => none
  | n + 1, x1, x2, x3, x4, x5, x6, μ => bd (G_X11_terms x2 μ) (fun r_2 μ_1 => if r_2 ≤ x6 then if x3 = (1 : Int32) then some (x5, μ_1) else bd (G_X11_rowsOf x1 μ_1) (fun r_4 μ_3 => some (imin x4 r_4, μ_3)) else bd (G_X11_termBy x1 x2 x6 x3 μ_1) (fun r_6 μ_5 => lb (x4 + r_6) (fun x4_7 => lb (imax x5 r_6) (fun x5_8 => lb (x6 + (1 : Int32)) (fun x6_9 => L_X11_whereBy_9  n x1 x2 x3 x4_7 x5_8 x6_9 μ_5)))))
set_option maxHeartbeats 4000000 in
theorem j_X11_whereBy_9 {C : Cx} (hC : Ok C cX11_whereBy 8 RX11 (rmF 4 109)) (hr : (cT C).sig.returnType = (some .int)) : ∀ (n : Nat) (x1 : Int32) (x2 : Int32) (x3 : Int32) (x4 : Int32) (x5 : Int32) (x6 : Int32) (μ : Mem), J C (KI C) μ 9 [(0, .ref (xad (cX C) 107)), (1, .int x1), (2, .int x2), (3, .int x3), (4, .int x4), (5, .int x5), (6, .int x6)] [] (L_X11_whereBy_9  n x1 x2 x3 x4 x5 x6 μ) := by
  intro n
  induction n with
  | zero => intros; exact J.no
  | succ n ih =>
    intro x1 x2 x3 x4 x5 x6 μ
    rw [L_X11_whereBy_9]
    refine J.iload (j := 6) hC eX11_whereBy_9 rfl ?_
    refine J.aload_n (j := 0) hC eX11_whereBy_11 rfl ?_
    refine J.iload_n (j := 2) hC eX11_whereBy_12 rfl ?_
    refine J.callVI (st := [.int x6]) hC eX11_whereBy_13 kk_107 (by decide) rfl rfl ml_X11_341 mv_X11_terms (Rle_of (Nat.le_of_ble_eq_true rfl) (Nat.le_of_ble_eq_true rfl)) (c_X11_terms hC.X x2 μ) rfl rfl (Nat.le_of_ble_eq_true rfl) (fun r_2 μ_1 => ?_)
    refine J.icmp_ge hC eX11_whereBy_16 (fun _ => ?_) (fun _ => ?_)
    · refine J.iload_n (j := 3) hC eX11_whereBy_52 rfl ?_
      refine J.iconst hC eX11_whereBy_53 ci_1 ?_
      refine J.icmp_ne hC eX11_whereBy_54 (fun _ => ?_) (fun _ => ?_)
      · refine J.iload (j := 5) hC eX11_whereBy_57 rfl ?_
        refine J.goto hC eX11_whereBy_59 ?_
        exact J.iret hC hr eX11_whereBy_72
      · refine J.iload (j := 4) hC eX11_whereBy_62 rfl ?_
        refine J.aload_n (j := 0) hC eX11_whereBy_64 rfl ?_
        refine J.iload_n (j := 1) hC eX11_whereBy_65 rfl ?_
        refine J.callVI (st := [.int x4]) hC eX11_whereBy_66 kk_107 (by decide) rfl rfl ml_X11_161 mv_X11_rowsOf (Rle_of (Nat.le_of_ble_eq_true rfl) (Nat.le_of_ble_eq_true rfl)) (c_X11_rowsOf hC.X x1 μ_1) rfl rfl (Nat.le_of_ble_eq_true rfl) (fun r_4 μ_3 => ?_)
        refine J.mmin hC eX11_whereBy_69 ml_X11_194 w_smin w_im w_cmin (Nat.le_of_ble_eq_true rfl) (Nat.le_of_ble_eq_true rfl) ?_
        exact J.iret hC hr eX11_whereBy_72
    · refine J.aload_n (j := 0) hC eX11_whereBy_19 rfl ?_
      refine J.iload_n (j := 1) hC eX11_whereBy_20 rfl ?_
      refine J.iload_n (j := 2) hC eX11_whereBy_21 rfl ?_
      refine J.iload (j := 6) hC eX11_whereBy_22 rfl ?_
      refine J.iload_n (j := 3) hC eX11_whereBy_24 rfl ?_
      refine J.callVI (st := []) hC eX11_whereBy_25 kk_107 (by decide) rfl rfl ml_X11_356 mv_X11_termBy (Rle_of (Nat.le_of_ble_eq_true rfl) (Nat.le_of_ble_eq_true rfl)) (c_X11_termBy hC.X x1 x2 x6 x3 μ_1) rfl rfl (Nat.le_of_ble_eq_true rfl) (fun r_6 μ_5 => ?_)
      refine J.istore [(7, .int r_6), (0, .ref (xad (cX C) 107)), (1, .int x1), (2, .int x2), (3, .int x3), (4, .int x4), (5, .int x5), (6, .int x6)] hC eX11_whereBy_28 (by decide) rfl ?_
      refine J.iload (j := 5) hC eX11_whereBy_30 rfl ?_
      refine J.iload (j := 0) hC eX11_whereBy_32 rfl ?_
      refine J.iadd hC eX11_whereBy_34 ?_
      refine J.topi (fun x4_7 => ?_)
      refine J.istore [(4, .int x4_7), (7, .int r_6), (0, .ref (xad (cX C) 107)), (1, .int x1), (2, .int x2), (3, .int x3), (5, .int x5), (6, .int x6)] hC eX11_whereBy_35 (by decide) rfl ?_
      refine J.iload (j := 6) hC eX11_whereBy_37 rfl ?_
      refine J.iload (j := 1) hC eX11_whereBy_39 rfl ?_
      refine J.mmax hC eX11_whereBy_41 ml_X11_202 w_smax w_im w_cmax (Nat.le_of_ble_eq_true rfl) (Nat.le_of_ble_eq_true rfl) ?_
      refine J.topi (fun x5_8 => ?_)
      refine J.istore [(5, .int x5_8), (4, .int x4_7), (7, .int r_6), (0, .ref (xad (cX C) 107)), (1, .int x1), (2, .int x2), (3, .int x3), (6, .int x6)] hC eX11_whereBy_44 (by decide) rfl ?_
      refine J.iinc (j := 7) (fun x6_9 => [(6, .int x6_9), (5, .int x5_8), (4, .int x4_7), (7, .int r_6), (0, .ref (xad (cX C) 107)), (1, .int x1), (2, .int x2), (3, .int x3)]) hC eX11_whereBy_46 rfl ci_1 (by decide) (fun _ => rfl) (fun x6_9 => ?_)
      refine J.goto hC eX11_whereBy_49 ?_
      refine J.sub [4, 5, 6, 7, 2, 1, 0] rfl ?_
      exact ih x1 x2 x3 x4_7 x5_8 x6_9 μ_5
def G_X11_whereBy (x1 : Int32) (x2 : Int32) (x3 : Int32) (μ : Mem) : Option (Int32 × Mem) :=
  L_X11_whereBy_9  100000 x1 x2 x3 (0 : Int32) (0 : Int32) (0 : Int32) μ
set_option maxHeartbeats 4000000 in
theorem c_X11_whereBy {X : Wd} (hX : WdOk X) (x1 : Int32) (x2 : Int32) (x3 : Int32) (μ : Mem) : CtI X yX11_whereBy cX11_whereBy 8 (some .int) (rmF 4 109) [.ref (xad X 107), .int x1, .int x2, .int x3] μ (G_X11_whereBy x1 x2 x3 μ) := by
  refine CtI.of hX (plainFor_of_name (by decide)) (by exact Nat.le_of_ble_eq_true rfl) ?_
  intro C hCX hC hr
  subst hCX
  show J C (KI C) μ 0 [(0, .ref (xad (cX C) 107)), (1, .int x1), (2, .int x2), (3, .int x3)] [] _
  unfold G_X11_whereBy
  refine J.iconst hC eX11_whereBy_0 ci_0 ?_
  refine J.istore [(4, .int (0 : Int32)), (0, .ref (xad (cX C) 107)), (1, .int x1), (2, .int x2), (3, .int x3)] hC eX11_whereBy_1 (by decide) rfl ?_
  refine J.iconst hC eX11_whereBy_3 ci_0 ?_
  refine J.istore [(5, .int (0 : Int32)), (4, .int (0 : Int32)), (0, .ref (xad (cX C) 107)), (1, .int x1), (2, .int x2), (3, .int x3)] hC eX11_whereBy_4 (by decide) rfl ?_
  refine J.iconst hC eX11_whereBy_6 ci_0 ?_
  refine J.istore [(6, .int (0 : Int32)), (5, .int (0 : Int32)), (4, .int (0 : Int32)), (0, .ref (xad (cX C) 107)), (1, .int x1), (2, .int x2), (3, .int x3)] hC eX11_whereBy_7 (by decide) rfl ?_
  refine J.sub [3, 4, 5, 6, 2, 1, 0] rfl ?_
  exact j_X11_whereBy_9 hC hr  100000 x1 x2 x3 (0 : Int32) (0 : Int32) (0 : Int32) μ
-- X11_isWhere
theorem eX11_isWhere_0 : DD cX11_isWhere 0 (.iload_n 1) 1 1 := ⟨by decide +kernel, rfl⟩
theorem eX11_isWhere_1 : DD cX11_isWhere 1 (.i2l) 1 2 := ⟨by decide +kernel, rfl⟩
theorem eX11_isWhere_2 : DD cX11_isWhere 2 (.lconst 0) 1 3 := ⟨by decide +kernel, rfl⟩
theorem eX11_isWhere_3 : DD cX11_isWhere 3 (.aload_n 0) 1 4 := ⟨by decide +kernel, rfl⟩
theorem eX11_isWhere_4 : DD cX11_isWhere 4 (.getfield 222) 3 7 := ⟨by decide +kernel, rfl⟩
theorem eX11_isWhere_7 : DD cX11_isWhere 7 (.iconst 1) 1 8 := ⟨by decide +kernel, rfl⟩
theorem eX11_isWhere_8 : DD cX11_isWhere 8 (.isub) 1 9 := ⟨by decide +kernel, rfl⟩
theorem eX11_isWhere_9 : DD cX11_isWhere 9 (.i2l) 1 10 := ⟨by decide +kernel, rfl⟩
theorem eX11_isWhere_10 : DD cX11_isWhere 10 (.invokestatic 77) 3 13 := ⟨by decide +kernel, rfl⟩
theorem eX11_isWhere_13 : DD cX11_isWhere 13 (.ireturn) 1 14 := ⟨by decide +kernel, rfl⟩
def G_X11_isWhere (x1 : Int32) (μ : Mem) : Option (Int32 × Mem) :=
  bd (G_X11_in x1.toInt64 (0 : Int64) (((rI μ 107 15) - (1 : Int32)).toInt64) μ) (fun r_2 μ_1 => gq (bB r_2) (some (r_2, μ_1)))
set_option maxHeartbeats 4000000 in
theorem c_X11_isWhere {X : Wd} (hX : WdOk X) (x1 : Int32) (μ : Mem) : CtI X yX11_isWhere cX11_isWhere 2 (some .boolean) (rmF 1 25) [.ref (xad X 107), .int x1] μ (G_X11_isWhere x1 μ) := by
  refine CtI.of hX (plainFor_of_name (by decide)) (by exact Nat.le_of_ble_eq_true rfl) ?_
  intro C hCX hC hr
  subst hCX
  show J C (KI C) μ 0 [(0, .ref (xad (cX C) 107)), (1, .int x1)] [] _
  unfold G_X11_isWhere
  refine J.iload_n (j := 1) hC eX11_isWhere_0 rfl ?_
  refine J.i2l hC eX11_isWhere_1 ?_
  refine J.lconst hC eX11_isWhere_2 cl_0 ?_
  refine J.aload_n (j := 0) hC eX11_isWhere_3 rfl ?_
  refine gf_X11_222 hC eX11_isWhere_4 kk_107 ?_
  refine J.iconst hC eX11_isWhere_7 ci_1 ?_
  refine J.isub hC eX11_isWhere_8 ?_
  refine J.i2l hC eX11_isWhere_9 ?_
  refine J.callSI (st := []) hC eX11_isWhere_10 ml_X11_77 mv_X11_in (Rle_of (Nat.le_of_ble_eq_true rfl) (Nat.le_of_ble_eq_true rfl)) (c_X11_in hC.X x1.toInt64 (0 : Int64) (((rI μ 107 15) - (1 : Int32)).toInt64) μ) rfl rfl (Nat.le_of_ble_eq_true rfl) (fun r_2 μ_1 => ?_)
  exact J.zret hC hr eX11_isWhere_13
-- X11_where
theorem eX11_where_0 : DD cX11_where 0 (.aload_n 0) 1 1 := ⟨by decide +kernel, rfl⟩
theorem eX11_where_1 : DD cX11_where 1 (.iload_n 1) 1 2 := ⟨by decide +kernel, rfl⟩
theorem eX11_where_2 : DD cX11_where 2 (.invokevirtual 153) 3 5 := ⟨by decide +kernel, rfl⟩
theorem eX11_where_5 : DB cX11_where 5 (.ifCond .eq 23) (23) 8 28 := ⟨by decide +kernel, rfl, by decide⟩
theorem eX11_where_8 : DD cX11_where 8 (.aload_n 0) 1 9 := ⟨by decide +kernel, rfl⟩
theorem eX11_where_9 : DD cX11_where 9 (.iload_n 2) 1 10 := ⟨by decide +kernel, rfl⟩
theorem eX11_where_10 : DD cX11_where 10 (.invokevirtual 359) 3 13 := ⟨by decide +kernel, rfl⟩
theorem eX11_where_13 : DB cX11_where 13 (.ifCond .eq 15) (15) 16 28 := ⟨by decide +kernel, rfl, by decide⟩
theorem eX11_where_16 : DD cX11_where 16 (.iload_n 3) 1 17 := ⟨by decide +kernel, rfl⟩
theorem eX11_where_17 : DD cX11_where 17 (.i2l) 1 18 := ⟨by decide +kernel, rfl⟩
theorem eX11_where_18 : DD cX11_where 18 (.lconst 0) 1 19 := ⟨by decide +kernel, rfl⟩
theorem eX11_where_19 : DD cX11_where 19 (.ldc2_w 230) 3 22 := ⟨by decide +kernel, rfl⟩
theorem eX11_where_22 : DD cX11_where 22 (.invokestatic 77) 3 25 := ⟨by decide +kernel, rfl⟩
theorem eX11_where_25 : DB cX11_where 25 (.ifCond .ne 5) (5) 28 30 := ⟨by decide +kernel, rfl, by decide⟩
theorem eX11_where_28 : DD cX11_where 28 (.iconst (-1)) 1 29 := ⟨by decide +kernel, rfl⟩
theorem eX11_where_29 : DD cX11_where 29 (.ireturn) 1 30 := ⟨by decide +kernel, rfl⟩
theorem eX11_where_30 : DD cX11_where 30 (.iload_n 3) 1 31 := ⟨by decide +kernel, rfl⟩
theorem eX11_where_31 : DB cX11_where 31 (.ifCond .le 11) (11) 34 42 := ⟨by decide +kernel, rfl, by decide⟩
theorem eX11_where_34 : DD cX11_where 34 (.aload_n 0) 1 35 := ⟨by decide +kernel, rfl⟩
theorem eX11_where_35 : DD cX11_where 35 (.iload_n 1) 1 36 := ⟨by decide +kernel, rfl⟩
theorem eX11_where_36 : DD cX11_where 36 (.iload_n 2) 1 37 := ⟨by decide +kernel, rfl⟩
theorem eX11_where_37 : DD cX11_where 37 (.iload_n 3) 1 38 := ⟨by decide +kernel, rfl⟩
theorem eX11_where_38 : DD cX11_where 38 (.invokevirtual 362) 3 41 := ⟨by decide +kernel, rfl⟩
theorem eX11_where_41 : DD cX11_where 41 (.ireturn) 1 42 := ⟨by decide +kernel, rfl⟩
theorem eX11_where_42 : DD cX11_where 42 (.aload_n 0) 1 43 := ⟨by decide +kernel, rfl⟩
theorem eX11_where_43 : DD cX11_where 43 (.invokevirtual 365) 3 46 := ⟨by decide +kernel, rfl⟩
theorem eX11_where_46 : DD cX11_where 46 (.aload_n 0) 1 47 := ⟨by decide +kernel, rfl⟩
theorem eX11_where_47 : DD cX11_where 47 (.iload_n 1) 1 48 := ⟨by decide +kernel, rfl⟩
theorem eX11_where_48 : DD cX11_where 48 (.invokevirtual 332) 3 51 := ⟨by decide +kernel, rfl⟩
theorem eX11_where_51 : DD cX11_where 51 (.aload_n 0) 1 52 := ⟨by decide +kernel, rfl⟩
theorem eX11_where_52 : DD cX11_where 52 (.aload_n 0) 1 53 := ⟨by decide +kernel, rfl⟩
theorem eX11_where_53 : DD cX11_where 53 (.iload_n 1) 1 54 := ⟨by decide +kernel, rfl⟩
theorem eX11_where_54 : DD cX11_where 54 (.iload_n 2) 1 55 := ⟨by decide +kernel, rfl⟩
theorem eX11_where_55 : DD cX11_where 55 (.iconst 1) 1 56 := ⟨by decide +kernel, rfl⟩
theorem eX11_where_56 : DD cX11_where 56 (.invokevirtual 368) 3 59 := ⟨by decide +kernel, rfl⟩
theorem eX11_where_59 : DD cX11_where 59 (.i2l) 1 60 := ⟨by decide +kernel, rfl⟩
theorem eX11_where_60 : DD cX11_where 60 (.invokevirtual 371) 3 63 := ⟨by decide +kernel, rfl⟩
theorem eX11_where_63 : DD cX11_where 63 (.l2i) 1 64 := ⟨by decide +kernel, rfl⟩
theorem eX11_where_64 : DD cX11_where 64 (.ireturn) 1 65 := ⟨by decide +kernel, rfl⟩
def G_X11_where (x1 : Int32) (x2 : Int32) (x3 : Int32) (μ : Mem) : Option (Int32 × Mem) :=
  bd (G_X11_isTable x1 μ) (fun r_2 μ_1 => if r_2 = 0 then some ((-1 : Int32), μ_1) else bd (G_X11_isWhere x2 μ_1) (fun r_4 μ_3 => if r_4 = 0 then some ((-1 : Int32), μ_3) else bd (G_X11_in x3.toInt64 (0 : Int64) (3 : Int64) μ_3) (fun r_6 μ_5 => if r_6 = 0 then some ((-1 : Int32), μ_5) else if x3 ≤ 0 then bd (G_X11_begin  μ_5) (fun r_8 μ_7 => bd (G_X11_take x1 μ_7) (fun r_10 μ_9 => bd (G_X11_truth x1 x2 (1 : Int32) μ_9) (fun r_12 μ_11 => bd (G_X11_finish r_12.toInt64 μ_11) (fun r_14 μ_13 => some (r_14.toInt32, μ_13))))) else bd (G_X11_whereBy x1 x2 x3 μ_5) (fun r_16 μ_15 => some (r_16, μ_15)))))
set_option maxHeartbeats 4000000 in
theorem c_X11_where {X : Wd} (hX : WdOk X) (x1 : Int32) (x2 : Int32) (x3 : Int32) (μ : Mem) : CtI X yX11_where cX11_where 4 (some .int) (rmF 5 136) [.ref (xad X 107), .int x1, .int x2, .int x3] μ (G_X11_where x1 x2 x3 μ) := by
  refine CtI.of hX (plainFor_of_name (by decide)) (by exact Nat.le_of_ble_eq_true rfl) ?_
  intro C hCX hC hr
  subst hCX
  show J C (KI C) μ 0 [(0, .ref (xad (cX C) 107)), (1, .int x1), (2, .int x2), (3, .int x3)] [] _
  unfold G_X11_where
  refine J.aload_n (j := 0) hC eX11_where_0 rfl ?_
  refine J.iload_n (j := 1) hC eX11_where_1 rfl ?_
  refine J.callVI (st := []) hC eX11_where_2 kk_107 (by decide) rfl rfl ml_X11_153 mv_X11_isTable (Rle_of (Nat.le_of_ble_eq_true rfl) (Nat.le_of_ble_eq_true rfl)) (c_X11_isTable hC.X x1 μ) rfl rfl (Nat.le_of_ble_eq_true rfl) (fun r_2 μ_1 => ?_)
  refine J.if_eq hC eX11_where_5 (fun _ => ?_) (fun _ => ?_)
  · refine J.iconst hC eX11_where_28 ci_m1 ?_
    exact J.iret hC hr eX11_where_29
  · refine J.aload_n (j := 0) hC eX11_where_8 rfl ?_
    refine J.iload_n (j := 2) hC eX11_where_9 rfl ?_
    refine J.callVI (st := []) hC eX11_where_10 kk_107 (by decide) rfl rfl ml_X11_359 mv_X11_isWhere (Rle_of (Nat.le_of_ble_eq_true rfl) (Nat.le_of_ble_eq_true rfl)) (c_X11_isWhere hC.X x2 μ_1) rfl rfl (Nat.le_of_ble_eq_true rfl) (fun r_4 μ_3 => ?_)
    refine J.if_eq hC eX11_where_13 (fun _ => ?_) (fun _ => ?_)
    · refine J.iconst hC eX11_where_28 ci_m1 ?_
      exact J.iret hC hr eX11_where_29
    · refine J.iload_n (j := 3) hC eX11_where_16 rfl ?_
      refine J.i2l hC eX11_where_17 ?_
      refine J.lconst hC eX11_where_18 cl_0 ?_
      refine J.ldc2 hC eX11_where_19 mk_X11_230 ?_
      refine J.callSI (st := []) hC eX11_where_22 ml_X11_77 mv_X11_in (Rle_of (Nat.le_of_ble_eq_true rfl) (Nat.le_of_ble_eq_true rfl)) (c_X11_in hC.X x3.toInt64 (0 : Int64) (3 : Int64) μ_3) rfl rfl (Nat.le_of_ble_eq_true rfl) (fun r_6 μ_5 => ?_)
      refine J.if_ne hC eX11_where_25 (fun _ => ?_) (fun _ => ?_)
      · refine J.iconst hC eX11_where_28 ci_m1 ?_
        exact J.iret hC hr eX11_where_29
      · refine J.iload_n (j := 3) hC eX11_where_30 rfl ?_
        refine J.if_le hC eX11_where_31 (fun _ => ?_) (fun _ => ?_)
        · refine J.aload_n (j := 0) hC eX11_where_42 rfl ?_
          refine J.callVV (st := []) hC eX11_where_43 kk_107 (by decide) rfl rfl ml_X11_365 mv_X11_begin (Rle_of (Nat.le_of_ble_eq_true rfl) (Nat.le_of_ble_eq_true rfl)) (c_X11_begin hC.X  μ_5) rfl rfl (Nat.le_of_ble_eq_true rfl) (fun r_8 μ_7 => ?_)
          refine J.aload_n (j := 0) hC eX11_where_46 rfl ?_
          refine J.iload_n (j := 1) hC eX11_where_47 rfl ?_
          refine J.callVV (st := []) hC eX11_where_48 kk_107 (by decide) rfl rfl ml_X11_332 mv_X11_take (Rle_of (Nat.le_of_ble_eq_true rfl) (Nat.le_of_ble_eq_true rfl)) (c_X11_take hC.X x1 μ_7) rfl rfl (Nat.le_of_ble_eq_true rfl) (fun r_10 μ_9 => ?_)
          refine J.aload_n (j := 0) hC eX11_where_51 rfl ?_
          refine J.aload_n (j := 0) hC eX11_where_52 rfl ?_
          refine J.iload_n (j := 1) hC eX11_where_53 rfl ?_
          refine J.iload_n (j := 2) hC eX11_where_54 rfl ?_
          refine J.iconst hC eX11_where_55 ci_1 ?_
          refine J.callVI (st := [.ref (xad (cX C) 107)]) hC eX11_where_56 kk_107 (by decide) rfl rfl ml_X11_368 mv_X11_truth (Rle_of (Nat.le_of_ble_eq_true rfl) (Nat.le_of_ble_eq_true rfl)) (c_X11_truth hC.X x1 x2 (1 : Int32) μ_9) rfl rfl (Nat.le_of_ble_eq_true rfl) (fun r_12 μ_11 => ?_)
          refine J.i2l hC eX11_where_59 ?_
          refine J.callVL (st := []) hC eX11_where_60 kk_107 (by decide) rfl rfl ml_X11_371 mv_X11_finish (Rle_of (Nat.le_of_ble_eq_true rfl) (Nat.le_of_ble_eq_true rfl)) (c_X11_finish hC.X r_12.toInt64 μ_11) rfl rfl (Nat.le_of_ble_eq_true rfl) (fun r_14 μ_13 => ?_)
          refine J.l2i hC eX11_where_63 ?_
          exact J.iret hC hr eX11_where_64
        · refine J.aload_n (j := 0) hC eX11_where_34 rfl ?_
          refine J.iload_n (j := 1) hC eX11_where_35 rfl ?_
          refine J.iload_n (j := 2) hC eX11_where_36 rfl ?_
          refine J.iload_n (j := 3) hC eX11_where_37 rfl ?_
          refine J.callVI (st := []) hC eX11_where_38 kk_107 (by decide) rfl rfl ml_X11_362 mv_X11_whereBy (Rle_of (Nat.le_of_ble_eq_true rfl) (Nat.le_of_ble_eq_true rfl)) (c_X11_whereBy hC.X x1 x2 x3 μ_5) rfl rfl (Nat.le_of_ble_eq_true rfl) (fun r_16 μ_15 => ?_)
          exact J.iret hC hr eX11_where_41
-- X11_countIn
theorem eX11_countIn_0 : DD cX11_countIn 0 (.iload_n 3) 1 1 := ⟨by decide +kernel, rfl⟩
theorem eX11_countIn_1 : DD cX11_countIn 1 (.aload_n 0) 1 2 := ⟨by decide +kernel, rfl⟩
theorem eX11_countIn_2 : DD cX11_countIn 2 (.getfield 25) 3 5 := ⟨by decide +kernel, rfl⟩
theorem eX11_countIn_5 : DD cX11_countIn 5 (.iload_n 1) 1 6 := ⟨by decide +kernel, rfl⟩
theorem eX11_countIn_6 : DD cX11_countIn 6 (.iaload) 1 7 := ⟨by decide +kernel, rfl⟩
theorem eX11_countIn_7 : DB cX11_countIn 7 (.if_icmp .ge 13) (13) 10 20 := ⟨by decide +kernel, rfl, by decide⟩
theorem eX11_countIn_10 : DD cX11_countIn 10 (.aload_n 0) 1 11 := ⟨by decide +kernel, rfl⟩
theorem eX11_countIn_11 : DD cX11_countIn 11 (.iload_n 1) 1 12 := ⟨by decide +kernel, rfl⟩
theorem eX11_countIn_12 : DD cX11_countIn 12 (.iload_n 2) 1 13 := ⟨by decide +kernel, rfl⟩
theorem eX11_countIn_13 : DD cX11_countIn 13 (.iload_n 3) 1 14 := ⟨by decide +kernel, rfl⟩
theorem eX11_countIn_14 : DD cX11_countIn 14 (.invokevirtual 167) 3 17 := ⟨by decide +kernel, rfl⟩
theorem eX11_countIn_17 : DB cX11_countIn 17 (.goto 4) (4) 20 21 := ⟨by decide +kernel, rfl, by decide⟩
theorem eX11_countIn_20 : DD cX11_countIn 20 (.iconst 0) 1 21 := ⟨by decide +kernel, rfl⟩
theorem eX11_countIn_21 : DD cX11_countIn 21 (.ireturn) 1 22 := ⟨by decide +kernel, rfl⟩
def G_X11_countIn (x1 : Int32) (x2 : Int32) (x3 : Int32) (μ : Mem) : Option (Int32 × Mem) :=
  gq (inB x1 3) (if (rI μ 113 (nx x1)) ≤ x3 then some ((0 : Int32), μ) else bd (G_X11_countAt x1 x2 x3 μ) (fun r_2 μ_1 => some (r_2, μ_1)))
set_option maxHeartbeats 4000000 in
theorem c_X11_countIn {X : Wd} (hX : WdOk X) (x1 : Int32) (x2 : Int32) (x3 : Int32) (μ : Mem) : CtI X yX11_countIn cX11_countIn 4 (some .int) (rmF 2 48) [.ref (xad X 107), .int x1, .int x2, .int x3] μ (G_X11_countIn x1 x2 x3 μ) := by
  refine CtI.of hX (plainFor_of_name (by decide)) (by exact Nat.le_of_ble_eq_true rfl) ?_
  intro C hCX hC hr
  subst hCX
  show J C (KI C) μ 0 [(0, .ref (xad (cX C) 107)), (1, .int x1), (2, .int x2), (3, .int x3)] [] _
  unfold G_X11_countIn
  refine J.iload_n (j := 3) hC eX11_countIn_0 rfl ?_
  refine J.aload_n (j := 0) hC eX11_countIn_1 rfl ?_
  refine gf_X11_25 (q := 113) hC eX11_countIn_2 kk_107 rfl ?_
  refine J.iload_n (j := 1) hC eX11_countIn_5 rfl ?_
  refine J.iald ik_3 hC eX11_countIn_6 kk_113 ?_
  refine J.icmp_ge hC eX11_countIn_7 (fun _ => ?_) (fun _ => ?_)
  · refine J.iconst hC eX11_countIn_20 ci_0 ?_
    exact J.iret hC hr eX11_countIn_21
  · refine J.aload_n (j := 0) hC eX11_countIn_10 rfl ?_
    refine J.iload_n (j := 1) hC eX11_countIn_11 rfl ?_
    refine J.iload_n (j := 2) hC eX11_countIn_12 rfl ?_
    refine J.iload_n (j := 3) hC eX11_countIn_13 rfl ?_
    refine J.callVI (st := []) hC eX11_countIn_14 kk_107 (by decide) rfl rfl ml_X11_167 mv_X11_countAt (Rle_of (Nat.le_of_ble_eq_true rfl) (Nat.le_of_ble_eq_true rfl)) (c_X11_countAt hC.X x1 x2 x3 μ) rfl rfl (Nat.le_of_ble_eq_true rfl) (fun r_2 μ_1 => ?_)
    refine J.goto hC eX11_countIn_17 ?_
    exact J.iret hC hr eX11_countIn_21
-- X11_joinTruth
theorem eX11_joinTruth_0 : DD cX11_joinTruth 0 (.lconst 0) 1 1 := ⟨by decide +kernel, rfl⟩
theorem eX11_joinTruth_1 : DD cX11_joinTruth 1 (.lstore 5) 2 3 := ⟨by decide +kernel, rfl⟩
theorem eX11_joinTruth_3 : DD cX11_joinTruth 3 (.iconst 0) 1 4 := ⟨by decide +kernel, rfl⟩
theorem eX11_joinTruth_4 : DD cX11_joinTruth 4 (.istore 7) 2 6 := ⟨by decide +kernel, rfl⟩
theorem eX11_joinTruth_6 : DD cX11_joinTruth 6 (.iload 7) 2 8 := ⟨by decide +kernel, rfl⟩
theorem eX11_joinTruth_8 : DD cX11_joinTruth 8 (.aload_n 0) 1 9 := ⟨by decide +kernel, rfl⟩
theorem eX11_joinTruth_9 : DD cX11_joinTruth 9 (.getfield 25) 3 12 := ⟨by decide +kernel, rfl⟩
theorem eX11_joinTruth_12 : DD cX11_joinTruth 12 (.iload_n 1) 1 13 := ⟨by decide +kernel, rfl⟩
theorem eX11_joinTruth_13 : DD cX11_joinTruth 13 (.iaload) 1 14 := ⟨by decide +kernel, rfl⟩
theorem eX11_joinTruth_14 : DB cX11_joinTruth 14 (.if_icmp .ge 54) (54) 17 68 := ⟨by decide +kernel, rfl, by decide⟩
theorem eX11_joinTruth_17 : DD cX11_joinTruth 17 (.aload_n 0) 1 18 := ⟨by decide +kernel, rfl⟩
theorem eX11_joinTruth_18 : DD cX11_joinTruth 18 (.iload_n 1) 1 19 := ⟨by decide +kernel, rfl⟩
theorem eX11_joinTruth_19 : DD cX11_joinTruth 19 (.iload_n 2) 1 20 := ⟨by decide +kernel, rfl⟩
theorem eX11_joinTruth_20 : DD cX11_joinTruth 20 (.iload 7) 2 22 := ⟨by decide +kernel, rfl⟩
theorem eX11_joinTruth_22 : DD cX11_joinTruth 22 (.invokevirtual 167) 3 25 := ⟨by decide +kernel, rfl⟩
theorem eX11_joinTruth_25 : DD cX11_joinTruth 25 (.istore 8) 2 27 := ⟨by decide +kernel, rfl⟩
theorem eX11_joinTruth_27 : DD cX11_joinTruth 27 (.iload 8) 2 29 := ⟨by decide +kernel, rfl⟩
theorem eX11_joinTruth_29 : DB cX11_joinTruth 29 (.ifCond .le 33) (33) 32 62 := ⟨by decide +kernel, rfl, by decide⟩
theorem eX11_joinTruth_32 : DD cX11_joinTruth 32 (.aload_n 0) 1 33 := ⟨by decide +kernel, rfl⟩
theorem eX11_joinTruth_33 : DD cX11_joinTruth 33 (.invokevirtual 347) 3 36 := ⟨by decide +kernel, rfl⟩
theorem eX11_joinTruth_36 : DB cX11_joinTruth 36 (.ifCond .eq 7) (7) 39 43 := ⟨by decide +kernel, rfl, by decide⟩
theorem eX11_joinTruth_39 : DD cX11_joinTruth 39 (.ldc2_w 156) 3 42 := ⟨by decide +kernel, rfl⟩
theorem eX11_joinTruth_42 : DD cX11_joinTruth 42 (.lreturn) 1 43 := ⟨by decide +kernel, rfl⟩
theorem eX11_joinTruth_43 : DD cX11_joinTruth 43 (.lload 5) 2 45 := ⟨by decide +kernel, rfl⟩
theorem eX11_joinTruth_45 : DD cX11_joinTruth 45 (.iload 8) 2 47 := ⟨by decide +kernel, rfl⟩
theorem eX11_joinTruth_47 : DD cX11_joinTruth 47 (.i2l) 1 48 := ⟨by decide +kernel, rfl⟩
theorem eX11_joinTruth_48 : DD cX11_joinTruth 48 (.aload_n 0) 1 49 := ⟨by decide +kernel, rfl⟩
theorem eX11_joinTruth_49 : DD cX11_joinTruth 49 (.iload_n 3) 1 50 := ⟨by decide +kernel, rfl⟩
theorem eX11_joinTruth_50 : DD cX11_joinTruth 50 (.iload 4) 2 52 := ⟨by decide +kernel, rfl⟩
theorem eX11_joinTruth_52 : DD cX11_joinTruth 52 (.iload 7) 2 54 := ⟨by decide +kernel, rfl⟩
theorem eX11_joinTruth_54 : DD cX11_joinTruth 54 (.invokevirtual 375) 3 57 := ⟨by decide +kernel, rfl⟩
theorem eX11_joinTruth_57 : DD cX11_joinTruth 57 (.i2l) 1 58 := ⟨by decide +kernel, rfl⟩
theorem eX11_joinTruth_58 : DD cX11_joinTruth 58 (.lmul) 1 59 := ⟨by decide +kernel, rfl⟩
theorem eX11_joinTruth_59 : DD cX11_joinTruth 59 (.ladd) 1 60 := ⟨by decide +kernel, rfl⟩
theorem eX11_joinTruth_60 : DD cX11_joinTruth 60 (.lstore 5) 2 62 := ⟨by decide +kernel, rfl⟩
theorem eX11_joinTruth_62 : DD cX11_joinTruth 62 (.iinc 7 1) 3 65 := ⟨by decide +kernel, rfl⟩
theorem eX11_joinTruth_65 : DB cX11_joinTruth 65 (.goto (-59)) (-59) 68 6 := ⟨by decide +kernel, rfl, by decide⟩
theorem eX11_joinTruth_68 : DD cX11_joinTruth 68 (.lload 5) 2 70 := ⟨by decide +kernel, rfl⟩
theorem eX11_joinTruth_70 : DD cX11_joinTruth 70 (.lreturn) 1 71 := ⟨by decide +kernel, rfl⟩
def F_X11_joinTruth_62 (kc_6 : Int32 → Int32 → Int32 → Int32 → Int64 → Int32 → Mem → Option (Int64 × Mem)) (x1 : Int32) (x2 : Int32) (x3 : Int32) (x4 : Int32) (l5 : Int64) (x7 : Int32) (μ : Mem) : Option (Int64 × Mem) :=
  lb (x7 + (1 : Int32)) (fun x7_1 => kc_6 x1 x2 x3 x4 l5 x7_1 μ)
set_option maxHeartbeats 4000000 in
theorem j_X11_joinTruth_62 {C : Cx} (hC : Ok C cX11_joinTruth 9 RX11 (rmF 3 71)) (hr : (cT C).sig.returnType = (some .long)) (kc_6 : Int32 → Int32 → Int32 → Int32 → Int64 → Int32 → Mem → Option (Int64 × Mem)) (hk_6 : ∀ (x1 : Int32) (x2 : Int32) (x3 : Int32) (x4 : Int32) (l5 : Int64) (x7 : Int32) (μ : Mem), J C (KL C) μ 6 [(0, .ref (xad (cX C) 107)), (1, .int x1), (2, .int x2), (3, .int x3), (4, .int x4), (5, .long l5), (7, .int x7)] [] (kc_6 x1 x2 x3 x4 l5 x7 μ)) (x1 : Int32) (x2 : Int32) (x3 : Int32) (x4 : Int32) (l5 : Int64) (x7 : Int32) (μ : Mem) : J C (KL C) μ 62 [(0, .ref (xad (cX C) 107)), (1, .int x1), (2, .int x2), (3, .int x3), (4, .int x4), (5, .long l5), (7, .int x7)] [] (F_X11_joinTruth_62 kc_6 x1 x2 x3 x4 l5 x7 μ) := by
  unfold F_X11_joinTruth_62
  refine J.iinc (j := 6) (fun x7_1 => [(7, .int x7_1), (0, .ref (xad (cX C) 107)), (1, .int x1), (2, .int x2), (3, .int x3), (4, .int x4), (5, .long l5)]) hC eX11_joinTruth_62 rfl ci_1 (by decide) (fun _ => rfl) (fun x7_1 => ?_)
  refine J.goto hC eX11_joinTruth_65 ?_
  refine J.sub [1, 2, 3, 4, 5, 6, 0] rfl ?_
  exact hk_6 x1 x2 x3 x4 l5 x7_1 μ
def L_X11_joinTruth_6 : Nat → Int32 → Int32 → Int32 → Int32 → Int64 → Int32 → Mem → Option (Int64 × Mem)
  | 0, _, _, _, _, _, _, _ => none
  | n + 1, x1, x2, x3, x4, l5, x7, μ => gq (inB x1 3) (if (rI μ 113 (nx x1)) ≤ x7 then some (l5, μ) else bd (G_X11_countAt x1 x2 x7 μ) (fun r_2 μ_1 => if r_2 ≤ 0 then F_X11_joinTruth_62 (L_X11_joinTruth_6  n) x1 x2 x3 x4 l5 x7 μ_1 else bd (G_X11_isOver  μ_1) (fun r_4 μ_3 => if r_4 = 0 then bd (G_X11_countIn x3 x4 x7 μ_3) (fun r_6 μ_5 => lb (l5 + (r_2.toInt64 * r_6.toInt64)) (fun l5_7 => F_X11_joinTruth_62 (L_X11_joinTruth_6  n) x1 x2 x3 x4 l5_7 x7 μ_5)) else some ((-1 : Int64), μ_3))))
set_option maxHeartbeats 4000000 in
theorem j_X11_joinTruth_6 {C : Cx} (hC : Ok C cX11_joinTruth 9 RX11 (rmF 3 71)) (hr : (cT C).sig.returnType = (some .long)) : ∀ (n : Nat) (x1 : Int32) (x2 : Int32) (x3 : Int32) (x4 : Int32) (l5 : Int64) (x7 : Int32) (μ : Mem), J C (KL C) μ 6 [(0, .ref (xad (cX C) 107)), (1, .int x1), (2, .int x2), (3, .int x3), (4, .int x4), (5, .long l5), (7, .int x7)] [] (L_X11_joinTruth_6  n x1 x2 x3 x4 l5 x7 μ) := by
  intro n
  induction n with
  | zero => intros; exact J.no
  | succ n ih =>
    intro x1 x2 x3 x4 l5 x7 μ
    rw [L_X11_joinTruth_6]
    refine J.iload (j := 6) hC eX11_joinTruth_6 rfl ?_
    refine J.aload_n (j := 0) hC eX11_joinTruth_8 rfl ?_
    refine gf_X11_25 (q := 113) hC eX11_joinTruth_9 kk_107 rfl ?_
    refine J.iload_n (j := 1) hC eX11_joinTruth_12 rfl ?_
    refine J.iald ik_3 hC eX11_joinTruth_13 kk_113 ?_
    refine J.icmp_ge hC eX11_joinTruth_14 (fun _ => ?_) (fun _ => ?_)
    · refine J.lload (j := 5) hC eX11_joinTruth_68 rfl ?_
      exact J.lret hC hr eX11_joinTruth_70
    · refine J.aload_n (j := 0) hC eX11_joinTruth_17 rfl ?_
      refine J.iload_n (j := 1) hC eX11_joinTruth_18 rfl ?_
      refine J.iload_n (j := 2) hC eX11_joinTruth_19 rfl ?_
      refine J.iload (j := 6) hC eX11_joinTruth_20 rfl ?_
      refine J.callVI (st := []) hC eX11_joinTruth_22 kk_107 (by decide) rfl rfl ml_X11_167 mv_X11_countAt (Rle_of (Nat.le_of_ble_eq_true rfl) (Nat.le_of_ble_eq_true rfl)) (c_X11_countAt hC.X x1 x2 x7 μ) rfl rfl (Nat.le_of_ble_eq_true rfl) (fun r_2 μ_1 => ?_)
      refine J.istore [(8, .int r_2), (0, .ref (xad (cX C) 107)), (1, .int x1), (2, .int x2), (3, .int x3), (4, .int x4), (5, .long l5), (7, .int x7)] hC eX11_joinTruth_25 (by decide) rfl ?_
      refine J.iload (j := 0) hC eX11_joinTruth_27 rfl ?_
      refine J.if_le hC eX11_joinTruth_29 (fun _ => ?_) (fun _ => ?_)
      · refine J.sub [1, 2, 3, 4, 5, 6, 7] rfl ?_
        exact j_X11_joinTruth_62 hC hr (L_X11_joinTruth_6  n) ih x1 x2 x3 x4 l5 x7 μ_1
      · refine J.aload_n (j := 1) hC eX11_joinTruth_32 rfl ?_
        refine J.callVI (st := []) hC eX11_joinTruth_33 kk_107 (by decide) rfl rfl ml_X11_347 mv_X11_isOver (Rle_of (Nat.le_of_ble_eq_true rfl) (Nat.le_of_ble_eq_true rfl)) (c_X11_isOver hC.X  μ_1) rfl rfl (Nat.le_of_ble_eq_true rfl) (fun r_4 μ_3 => ?_)
        refine J.if_eq hC eX11_joinTruth_36 (fun _ => ?_) (fun _ => ?_)
        · refine J.lload (j := 6) hC eX11_joinTruth_43 rfl ?_
          refine J.iload (j := 0) hC eX11_joinTruth_45 rfl ?_
          refine J.i2l hC eX11_joinTruth_47 ?_
          refine J.aload_n (j := 1) hC eX11_joinTruth_48 rfl ?_
          refine J.iload_n (j := 4) hC eX11_joinTruth_49 rfl ?_
          refine J.iload (j := 5) hC eX11_joinTruth_50 rfl ?_
          refine J.iload (j := 7) hC eX11_joinTruth_52 rfl ?_
          refine J.callVI (st := [.long r_2.toInt64, .long l5]) hC eX11_joinTruth_54 kk_107 (by decide) rfl rfl ml_X11_375 mv_X11_countIn (Rle_of (Nat.le_of_ble_eq_true rfl) (Nat.le_of_ble_eq_true rfl)) (c_X11_countIn hC.X x3 x4 x7 μ_3) rfl rfl (Nat.le_of_ble_eq_true rfl) (fun r_6 μ_5 => ?_)
          refine J.i2l hC eX11_joinTruth_57 ?_
          refine J.lmul hC eX11_joinTruth_58 ?_
          refine J.ladd hC eX11_joinTruth_59 ?_
          refine J.topl (fun l5_7 => ?_)
          refine J.lstore [(5, .long l5_7), (8, .int r_2), (0, .ref (xad (cX C) 107)), (1, .int x1), (2, .int x2), (3, .int x3), (4, .int x4), (7, .int x7)] hC eX11_joinTruth_60 (by decide) rfl ?_
          refine J.sub [2, 3, 4, 5, 6, 0, 7] rfl ?_
          exact j_X11_joinTruth_62 hC hr (L_X11_joinTruth_6  n) ih x1 x2 x3 x4 l5_7 x7 μ_5
        · refine J.ldc2 hC eX11_joinTruth_39 mk_X11_156 ?_
          exact J.lret hC hr eX11_joinTruth_42
def G_X11_joinTruth (x1 : Int32) (x2 : Int32) (x3 : Int32) (x4 : Int32) (μ : Mem) : Option (Int64 × Mem) :=
  L_X11_joinTruth_6  100000 x1 x2 x3 x4 (0 : Int64) (0 : Int32) μ
set_option maxHeartbeats 4000000 in
theorem c_X11_joinTruth {X : Wd} (hX : WdOk X) (x1 : Int32) (x2 : Int32) (x3 : Int32) (x4 : Int32) (μ : Mem) : CtL X yX11_joinTruth cX11_joinTruth 9 (some .long) (rmF 3 71) [.ref (xad X 107), .int x1, .int x2, .int x3, .int x4] μ (G_X11_joinTruth x1 x2 x3 x4 μ) := by
  refine CtL.of hX (plainFor_of_name (by decide)) (by exact Nat.le_of_ble_eq_true rfl) ?_
  intro C hCX hC hr
  subst hCX
  show J C (KL C) μ 0 [(0, .ref (xad (cX C) 107)), (1, .int x1), (2, .int x2), (3, .int x3), (4, .int x4)] [] _
  unfold G_X11_joinTruth
  refine J.lconst hC eX11_joinTruth_0 cl_0 ?_
  refine J.lstore [(5, .long (0 : Int64)), (0, .ref (xad (cX C) 107)), (1, .int x1), (2, .int x2), (3, .int x3), (4, .int x4)] hC eX11_joinTruth_1 (by decide) rfl ?_
  refine J.iconst hC eX11_joinTruth_3 ci_0 ?_
  refine J.istore [(7, .int (0 : Int32)), (5, .long (0 : Int64)), (0, .ref (xad (cX C) 107)), (1, .int x1), (2, .int x2), (3, .int x3), (4, .int x4)] hC eX11_joinTruth_4 (by decide) rfl ?_
  refine J.sub [2, 3, 4, 5, 6, 1, 0] rfl ?_
  exact j_X11_joinTruth_6 hC hr  100000 x1 x2 x3 x4 (0 : Int64) (0 : Int32) μ
-- X11_joinBy
theorem eX11_joinBy_0 : DD cX11_joinBy 0 (.lconst 0) 1 1 := ⟨by decide +kernel, rfl⟩
theorem eX11_joinBy_1 : DD cX11_joinBy 1 (.lstore 6) 2 3 := ⟨by decide +kernel, rfl⟩
theorem eX11_joinBy_3 : DD cX11_joinBy 3 (.iconst 0) 1 4 := ⟨by decide +kernel, rfl⟩
theorem eX11_joinBy_4 : DD cX11_joinBy 4 (.istore 8) 2 6 := ⟨by decide +kernel, rfl⟩
theorem eX11_joinBy_6 : DD cX11_joinBy 6 (.iload 8) 2 8 := ⟨by decide +kernel, rfl⟩
theorem eX11_joinBy_8 : DD cX11_joinBy 8 (.aload_n 0) 1 9 := ⟨by decide +kernel, rfl⟩
theorem eX11_joinBy_9 : DD cX11_joinBy 9 (.iload_n 1) 1 10 := ⟨by decide +kernel, rfl⟩
theorem eX11_joinBy_10 : DD cX11_joinBy 10 (.iload_n 2) 1 11 := ⟨by decide +kernel, rfl⟩
theorem eX11_joinBy_11 : DD cX11_joinBy 11 (.invokevirtual 238) 3 14 := ⟨by decide +kernel, rfl⟩
theorem eX11_joinBy_14 : DB cX11_joinBy 14 (.if_icmp .ge 234) (234) 17 248 := ⟨by decide +kernel, rfl, by decide⟩
theorem eX11_joinBy_17 : DD cX11_joinBy 17 (.iconst 0) 1 18 := ⟨by decide +kernel, rfl⟩
theorem eX11_joinBy_18 : DD cX11_joinBy 18 (.istore 9) 2 20 := ⟨by decide +kernel, rfl⟩
theorem eX11_joinBy_20 : DD cX11_joinBy 20 (.iload 9) 2 22 := ⟨by decide +kernel, rfl⟩
theorem eX11_joinBy_22 : DD cX11_joinBy 22 (.aload_n 0) 1 23 := ⟨by decide +kernel, rfl⟩
theorem eX11_joinBy_23 : DD cX11_joinBy 23 (.iload_n 3) 1 24 := ⟨by decide +kernel, rfl⟩
theorem eX11_joinBy_24 : DD cX11_joinBy 24 (.iload 4) 2 26 := ⟨by decide +kernel, rfl⟩
theorem eX11_joinBy_26 : DD cX11_joinBy 26 (.invokevirtual 238) 3 29 := ⟨by decide +kernel, rfl⟩
theorem eX11_joinBy_29 : DB cX11_joinBy 29 (.if_icmp .ge 213) (213) 32 242 := ⟨by decide +kernel, rfl, by decide⟩
theorem eX11_joinBy_32 : DD cX11_joinBy 32 (.aload_n 0) 1 33 := ⟨by decide +kernel, rfl⟩
theorem eX11_joinBy_33 : DD cX11_joinBy 33 (.iload_n 1) 1 34 := ⟨by decide +kernel, rfl⟩
theorem eX11_joinBy_34 : DD cX11_joinBy 34 (.iload_n 2) 1 35 := ⟨by decide +kernel, rfl⟩
theorem eX11_joinBy_35 : DD cX11_joinBy 35 (.iload 8) 2 37 := ⟨by decide +kernel, rfl⟩
theorem eX11_joinBy_37 : DD cX11_joinBy 37 (.iconst 1) 1 38 := ⟨by decide +kernel, rfl⟩
theorem eX11_joinBy_38 : DD cX11_joinBy 38 (.invokevirtual 241) 3 41 := ⟨by decide +kernel, rfl⟩
theorem eX11_joinBy_41 : DD cX11_joinBy 41 (.aload_n 0) 1 42 := ⟨by decide +kernel, rfl⟩
theorem eX11_joinBy_42 : DD cX11_joinBy 42 (.iload_n 3) 1 43 := ⟨by decide +kernel, rfl⟩
theorem eX11_joinBy_43 : DD cX11_joinBy 43 (.iload 4) 2 45 := ⟨by decide +kernel, rfl⟩
theorem eX11_joinBy_45 : DD cX11_joinBy 45 (.iload 9) 2 47 := ⟨by decide +kernel, rfl⟩
theorem eX11_joinBy_47 : DD cX11_joinBy 47 (.iconst 1) 1 48 := ⟨by decide +kernel, rfl⟩
theorem eX11_joinBy_48 : DD cX11_joinBy 48 (.invokevirtual 241) 3 51 := ⟨by decide +kernel, rfl⟩
theorem eX11_joinBy_51 : DD cX11_joinBy 51 (.invokestatic 194) 3 54 := ⟨by decide +kernel, rfl⟩
theorem eX11_joinBy_54 : DD cX11_joinBy 54 (.aload_n 0) 1 55 := ⟨by decide +kernel, rfl⟩
theorem eX11_joinBy_55 : DD cX11_joinBy 55 (.iload_n 1) 1 56 := ⟨by decide +kernel, rfl⟩
theorem eX11_joinBy_56 : DD cX11_joinBy 56 (.iload_n 2) 1 57 := ⟨by decide +kernel, rfl⟩
theorem eX11_joinBy_57 : DD cX11_joinBy 57 (.iload 8) 2 59 := ⟨by decide +kernel, rfl⟩
theorem eX11_joinBy_59 : DD cX11_joinBy 59 (.iconst 0) 1 60 := ⟨by decide +kernel, rfl⟩
theorem eX11_joinBy_60 : DD cX11_joinBy 60 (.invokevirtual 241) 3 63 := ⟨by decide +kernel, rfl⟩
theorem eX11_joinBy_63 : DD cX11_joinBy 63 (.aload_n 0) 1 64 := ⟨by decide +kernel, rfl⟩
theorem eX11_joinBy_64 : DD cX11_joinBy 64 (.iload_n 3) 1 65 := ⟨by decide +kernel, rfl⟩
theorem eX11_joinBy_65 : DD cX11_joinBy 65 (.iload 4) 2 67 := ⟨by decide +kernel, rfl⟩
theorem eX11_joinBy_67 : DD cX11_joinBy 67 (.iload 9) 2 69 := ⟨by decide +kernel, rfl⟩
theorem eX11_joinBy_69 : DD cX11_joinBy 69 (.iconst 0) 1 70 := ⟨by decide +kernel, rfl⟩
theorem eX11_joinBy_70 : DD cX11_joinBy 70 (.invokevirtual 241) 3 73 := ⟨by decide +kernel, rfl⟩
theorem eX11_joinBy_73 : DD cX11_joinBy 73 (.invokestatic 202) 3 76 := ⟨by decide +kernel, rfl⟩
theorem eX11_joinBy_76 : DD cX11_joinBy 76 (.isub) 1 77 := ⟨by decide +kernel, rfl⟩
theorem eX11_joinBy_77 : DD cX11_joinBy 77 (.iconst 1) 1 78 := ⟨by decide +kernel, rfl⟩
theorem eX11_joinBy_78 : DD cX11_joinBy 78 (.iadd) 1 79 := ⟨by decide +kernel, rfl⟩
theorem eX11_joinBy_79 : DD cX11_joinBy 79 (.i2l) 1 80 := ⟨by decide +kernel, rfl⟩
theorem eX11_joinBy_80 : DD cX11_joinBy 80 (.lstore 10) 2 82 := ⟨by decide +kernel, rfl⟩
theorem eX11_joinBy_82 : DD cX11_joinBy 82 (.lload 10) 2 84 := ⟨by decide +kernel, rfl⟩
theorem eX11_joinBy_84 : DD cX11_joinBy 84 (.lconst 0) 1 85 := ⟨by decide +kernel, rfl⟩
theorem eX11_joinBy_85 : DD cX11_joinBy 85 (.lcmp) 1 86 := ⟨by decide +kernel, rfl⟩
theorem eX11_joinBy_86 : DB cX11_joinBy 86 (.ifCond .le 150) (150) 89 236 := ⟨by decide +kernel, rfl, by decide⟩
theorem eX11_joinBy_89 : DD cX11_joinBy 89 (.aload_n 0) 1 90 := ⟨by decide +kernel, rfl⟩
theorem eX11_joinBy_90 : DD cX11_joinBy 90 (.iload_n 1) 1 91 := ⟨by decide +kernel, rfl⟩
theorem eX11_joinBy_91 : DD cX11_joinBy 91 (.iload_n 2) 1 92 := ⟨by decide +kernel, rfl⟩
theorem eX11_joinBy_92 : DD cX11_joinBy 92 (.iload 8) 2 94 := ⟨by decide +kernel, rfl⟩
theorem eX11_joinBy_94 : DD cX11_joinBy 94 (.iconst 2) 1 95 := ⟨by decide +kernel, rfl⟩
theorem eX11_joinBy_95 : DD cX11_joinBy 95 (.invokevirtual 241) 3 98 := ⟨by decide +kernel, rfl⟩
theorem eX11_joinBy_98 : DD cX11_joinBy 98 (.i2l) 1 99 := ⟨by decide +kernel, rfl⟩
theorem eX11_joinBy_99 : DD cX11_joinBy 99 (.lstore 12) 2 101 := ⟨by decide +kernel, rfl⟩
theorem eX11_joinBy_101 : DD cX11_joinBy 101 (.aload_n 0) 1 102 := ⟨by decide +kernel, rfl⟩
theorem eX11_joinBy_102 : DD cX11_joinBy 102 (.iload_n 3) 1 103 := ⟨by decide +kernel, rfl⟩
theorem eX11_joinBy_103 : DD cX11_joinBy 103 (.iload 4) 2 105 := ⟨by decide +kernel, rfl⟩
theorem eX11_joinBy_105 : DD cX11_joinBy 105 (.iload 9) 2 107 := ⟨by decide +kernel, rfl⟩
theorem eX11_joinBy_107 : DD cX11_joinBy 107 (.iconst 2) 1 108 := ⟨by decide +kernel, rfl⟩
theorem eX11_joinBy_108 : DD cX11_joinBy 108 (.invokevirtual 241) 3 111 := ⟨by decide +kernel, rfl⟩
theorem eX11_joinBy_111 : DD cX11_joinBy 111 (.i2l) 1 112 := ⟨by decide +kernel, rfl⟩
theorem eX11_joinBy_112 : DD cX11_joinBy 112 (.lstore 14) 2 114 := ⟨by decide +kernel, rfl⟩
theorem eX11_joinBy_114 : DD cX11_joinBy 114 (.aload_n 0) 1 115 := ⟨by decide +kernel, rfl⟩
theorem eX11_joinBy_115 : DD cX11_joinBy 115 (.iload_n 1) 1 116 := ⟨by decide +kernel, rfl⟩
theorem eX11_joinBy_116 : DD cX11_joinBy 116 (.iload_n 2) 1 117 := ⟨by decide +kernel, rfl⟩
theorem eX11_joinBy_117 : DD cX11_joinBy 117 (.iload 8) 2 119 := ⟨by decide +kernel, rfl⟩
theorem eX11_joinBy_119 : DD cX11_joinBy 119 (.iconst 3) 1 120 := ⟨by decide +kernel, rfl⟩
theorem eX11_joinBy_120 : DD cX11_joinBy 120 (.invokevirtual 241) 3 123 := ⟨by decide +kernel, rfl⟩
theorem eX11_joinBy_123 : DD cX11_joinBy 123 (.i2l) 1 124 := ⟨by decide +kernel, rfl⟩
theorem eX11_joinBy_124 : DD cX11_joinBy 124 (.lstore 16) 2 126 := ⟨by decide +kernel, rfl⟩
theorem eX11_joinBy_126 : DD cX11_joinBy 126 (.aload_n 0) 1 127 := ⟨by decide +kernel, rfl⟩
theorem eX11_joinBy_127 : DD cX11_joinBy 127 (.iload_n 3) 1 128 := ⟨by decide +kernel, rfl⟩
theorem eX11_joinBy_128 : DD cX11_joinBy 128 (.iload 4) 2 130 := ⟨by decide +kernel, rfl⟩
theorem eX11_joinBy_130 : DD cX11_joinBy 130 (.iload 9) 2 132 := ⟨by decide +kernel, rfl⟩
theorem eX11_joinBy_132 : DD cX11_joinBy 132 (.iconst 3) 1 133 := ⟨by decide +kernel, rfl⟩
theorem eX11_joinBy_133 : DD cX11_joinBy 133 (.invokevirtual 241) 3 136 := ⟨by decide +kernel, rfl⟩
theorem eX11_joinBy_136 : DD cX11_joinBy 136 (.i2l) 1 137 := ⟨by decide +kernel, rfl⟩
theorem eX11_joinBy_137 : DD cX11_joinBy 137 (.lstore 18) 2 139 := ⟨by decide +kernel, rfl⟩
theorem eX11_joinBy_139 : DD cX11_joinBy 139 (.aload_n 0) 1 140 := ⟨by decide +kernel, rfl⟩
theorem eX11_joinBy_140 : DD cX11_joinBy 140 (.iload_n 1) 1 141 := ⟨by decide +kernel, rfl⟩
theorem eX11_joinBy_141 : DD cX11_joinBy 141 (.iload_n 2) 1 142 := ⟨by decide +kernel, rfl⟩
theorem eX11_joinBy_142 : DD cX11_joinBy 142 (.iload 8) 2 144 := ⟨by decide +kernel, rfl⟩
theorem eX11_joinBy_144 : DD cX11_joinBy 144 (.iconst 1) 1 145 := ⟨by decide +kernel, rfl⟩
theorem eX11_joinBy_145 : DD cX11_joinBy 145 (.invokevirtual 241) 3 148 := ⟨by decide +kernel, rfl⟩
theorem eX11_joinBy_148 : DD cX11_joinBy 148 (.aload_n 0) 1 149 := ⟨by decide +kernel, rfl⟩
theorem eX11_joinBy_149 : DD cX11_joinBy 149 (.iload_n 1) 1 150 := ⟨by decide +kernel, rfl⟩
theorem eX11_joinBy_150 : DD cX11_joinBy 150 (.iload_n 2) 1 151 := ⟨by decide +kernel, rfl⟩
theorem eX11_joinBy_151 : DD cX11_joinBy 151 (.iload 8) 2 153 := ⟨by decide +kernel, rfl⟩
theorem eX11_joinBy_153 : DD cX11_joinBy 153 (.iconst 0) 1 154 := ⟨by decide +kernel, rfl⟩
theorem eX11_joinBy_154 : DD cX11_joinBy 154 (.invokevirtual 241) 3 157 := ⟨by decide +kernel, rfl⟩
theorem eX11_joinBy_157 : DD cX11_joinBy 157 (.isub) 1 158 := ⟨by decide +kernel, rfl⟩
theorem eX11_joinBy_158 : DD cX11_joinBy 158 (.iconst 1) 1 159 := ⟨by decide +kernel, rfl⟩
theorem eX11_joinBy_159 : DD cX11_joinBy 159 (.iadd) 1 160 := ⟨by decide +kernel, rfl⟩
theorem eX11_joinBy_160 : DD cX11_joinBy 160 (.i2l) 1 161 := ⟨by decide +kernel, rfl⟩
theorem eX11_joinBy_161 : DD cX11_joinBy 161 (.aload_n 0) 1 162 := ⟨by decide +kernel, rfl⟩
theorem eX11_joinBy_162 : DD cX11_joinBy 162 (.iload_n 3) 1 163 := ⟨by decide +kernel, rfl⟩
theorem eX11_joinBy_163 : DD cX11_joinBy 163 (.iload 4) 2 165 := ⟨by decide +kernel, rfl⟩
theorem eX11_joinBy_165 : DD cX11_joinBy 165 (.iload 9) 2 167 := ⟨by decide +kernel, rfl⟩
theorem eX11_joinBy_167 : DD cX11_joinBy 167 (.iconst 1) 1 168 := ⟨by decide +kernel, rfl⟩
theorem eX11_joinBy_168 : DD cX11_joinBy 168 (.invokevirtual 241) 3 171 := ⟨by decide +kernel, rfl⟩
theorem eX11_joinBy_171 : DD cX11_joinBy 171 (.aload_n 0) 1 172 := ⟨by decide +kernel, rfl⟩
theorem eX11_joinBy_172 : DD cX11_joinBy 172 (.iload_n 3) 1 173 := ⟨by decide +kernel, rfl⟩
theorem eX11_joinBy_173 : DD cX11_joinBy 173 (.iload 4) 2 175 := ⟨by decide +kernel, rfl⟩
theorem eX11_joinBy_175 : DD cX11_joinBy 175 (.iload 9) 2 177 := ⟨by decide +kernel, rfl⟩
theorem eX11_joinBy_177 : DD cX11_joinBy 177 (.iconst 0) 1 178 := ⟨by decide +kernel, rfl⟩
theorem eX11_joinBy_178 : DD cX11_joinBy 178 (.invokevirtual 241) 3 181 := ⟨by decide +kernel, rfl⟩
theorem eX11_joinBy_181 : DD cX11_joinBy 181 (.isub) 1 182 := ⟨by decide +kernel, rfl⟩
theorem eX11_joinBy_182 : DD cX11_joinBy 182 (.iconst 1) 1 183 := ⟨by decide +kernel, rfl⟩
theorem eX11_joinBy_183 : DD cX11_joinBy 183 (.iadd) 1 184 := ⟨by decide +kernel, rfl⟩
theorem eX11_joinBy_184 : DD cX11_joinBy 184 (.i2l) 1 185 := ⟨by decide +kernel, rfl⟩
theorem eX11_joinBy_185 : DD cX11_joinBy 185 (.lmul) 1 186 := ⟨by decide +kernel, rfl⟩
theorem eX11_joinBy_186 : DD cX11_joinBy 186 (.lstore 20) 2 188 := ⟨by decide +kernel, rfl⟩
theorem eX11_joinBy_188 : DD cX11_joinBy 188 (.lload 6) 2 190 := ⟨by decide +kernel, rfl⟩
theorem eX11_joinBy_190 : DD cX11_joinBy 190 (.iload 5) 2 192 := ⟨by decide +kernel, rfl⟩
theorem eX11_joinBy_192 : DB cX11_joinBy 192 (.ifCond .eq 30) (30) 195 222 := ⟨by decide +kernel, rfl, by decide⟩
theorem eX11_joinBy_195 : DD cX11_joinBy 195 (.lload 10) 2 197 := ⟨by decide +kernel, rfl⟩
theorem eX11_joinBy_197 : DD cX11_joinBy 197 (.lload 16) 2 199 := ⟨by decide +kernel, rfl⟩
theorem eX11_joinBy_199 : DD cX11_joinBy 199 (.lmul) 1 200 := ⟨by decide +kernel, rfl⟩
theorem eX11_joinBy_200 : DD cX11_joinBy 200 (.lload 18) 2 202 := ⟨by decide +kernel, rfl⟩
theorem eX11_joinBy_202 : DD cX11_joinBy 202 (.lmul) 1 203 := ⟨by decide +kernel, rfl⟩
theorem eX11_joinBy_203 : DD cX11_joinBy 203 (.lload 12) 2 205 := ⟨by decide +kernel, rfl⟩
theorem eX11_joinBy_205 : DD cX11_joinBy 205 (.lload 18) 2 207 := ⟨by decide +kernel, rfl⟩
theorem eX11_joinBy_207 : DD cX11_joinBy 207 (.lmul) 1 208 := ⟨by decide +kernel, rfl⟩
theorem eX11_joinBy_208 : DD cX11_joinBy 208 (.lload 14) 2 210 := ⟨by decide +kernel, rfl⟩
theorem eX11_joinBy_210 : DD cX11_joinBy 210 (.lload 16) 2 212 := ⟨by decide +kernel, rfl⟩
theorem eX11_joinBy_212 : DD cX11_joinBy 212 (.lmul) 1 213 := ⟨by decide +kernel, rfl⟩
theorem eX11_joinBy_213 : DD cX11_joinBy 213 (.invokestatic 181) 3 216 := ⟨by decide +kernel, rfl⟩
theorem eX11_joinBy_216 : DD cX11_joinBy 216 (.invokestatic 181) 3 219 := ⟨by decide +kernel, rfl⟩
theorem eX11_joinBy_219 : DB cX11_joinBy 219 (.goto 14) (14) 222 233 := ⟨by decide +kernel, rfl, by decide⟩
theorem eX11_joinBy_222 : DD cX11_joinBy 222 (.lload 10) 2 224 := ⟨by decide +kernel, rfl⟩
theorem eX11_joinBy_224 : DD cX11_joinBy 224 (.lload 12) 2 226 := ⟨by decide +kernel, rfl⟩
theorem eX11_joinBy_226 : DD cX11_joinBy 226 (.lmul) 1 227 := ⟨by decide +kernel, rfl⟩
theorem eX11_joinBy_227 : DD cX11_joinBy 227 (.lload 14) 2 229 := ⟨by decide +kernel, rfl⟩
theorem eX11_joinBy_229 : DD cX11_joinBy 229 (.lmul) 1 230 := ⟨by decide +kernel, rfl⟩
theorem eX11_joinBy_230 : DD cX11_joinBy 230 (.lload 20) 2 232 := ⟨by decide +kernel, rfl⟩
theorem eX11_joinBy_232 : DD cX11_joinBy 232 (.ldiv) 1 233 := ⟨by decide +kernel, rfl⟩
theorem eX11_joinBy_233 : DD cX11_joinBy 233 (.ladd) 1 234 := ⟨by decide +kernel, rfl⟩
theorem eX11_joinBy_234 : DD cX11_joinBy 234 (.lstore 6) 2 236 := ⟨by decide +kernel, rfl⟩
theorem eX11_joinBy_236 : DD cX11_joinBy 236 (.iinc 9 1) 3 239 := ⟨by decide +kernel, rfl⟩
theorem eX11_joinBy_239 : DB cX11_joinBy 239 (.goto (-219)) (-219) 242 20 := ⟨by decide +kernel, rfl, by decide⟩
theorem eX11_joinBy_242 : DD cX11_joinBy 242 (.iinc 8 1) 3 245 := ⟨by decide +kernel, rfl⟩
theorem eX11_joinBy_245 : DB cX11_joinBy 245 (.goto (-239)) (-239) 248 6 := ⟨by decide +kernel, rfl, by decide⟩
theorem eX11_joinBy_248 : DD cX11_joinBy 248 (.lload 6) 2 250 := ⟨by decide +kernel, rfl⟩
theorem eX11_joinBy_250 : DD cX11_joinBy 250 (.lreturn) 1 251 := ⟨by decide +kernel, rfl⟩
def F_X11_joinBy_236 (kc_6 : Int32 → Int32 → Int32 → Int32 → Int32 → Int64 → Int32 → Mem → Option (Int64 × Mem)) (kc_20 : Int32 → Int32 → Int32 → Int32 → Int32 → Int64 → Int32 → Int32 → Mem → Option (Int64 × Mem)) (x1 : Int32) (x2 : Int32) (x3 : Int32) (x4 : Int32) (x5 : Int32) (l6 : Int64) (x8 : Int32) (x9 : Int32) (μ : Mem) : Option (Int64 × Mem) :=
  lb (x9 + (1 : Int32)) (fun x9_1 => kc_20 x1 x2 x3 x4 x5 l6 x8 x9_1 μ)
set_option maxHeartbeats 4000000 in
theorem j_X11_joinBy_236 {C : Cx} (hC : Ok C cX11_joinBy 22 RX11 (rmF 2 45)) (hr : (cT C).sig.returnType = (some .long)) (kc_6 : Int32 → Int32 → Int32 → Int32 → Int32 → Int64 → Int32 → Mem → Option (Int64 × Mem)) (hk_6 : ∀ (x1 : Int32) (x2 : Int32) (x3 : Int32) (x4 : Int32) (x5 : Int32) (l6 : Int64) (x8 : Int32) (μ : Mem), J C (KL C) μ 6 [(0, .ref (xad (cX C) 107)), (1, .int x1), (2, .int x2), (3, .int x3), (4, .int x4), (5, .int x5), (6, .long l6), (8, .int x8)] [] (kc_6 x1 x2 x3 x4 x5 l6 x8 μ)) (kc_20 : Int32 → Int32 → Int32 → Int32 → Int32 → Int64 → Int32 → Int32 → Mem → Option (Int64 × Mem)) (hk_20 : ∀ (x1 : Int32) (x2 : Int32) (x3 : Int32) (x4 : Int32) (x5 : Int32) (l6 : Int64) (x8 : Int32) (x9 : Int32) (μ : Mem), J C (KL C) μ 20 [(0, .ref (xad (cX C) 107)), (1, .int x1), (2, .int x2), (3, .int x3), (4, .int x4), (5, .int x5), (6, .long l6), (8, .int x8), (9, .int x9)] [] (kc_20 x1 x2 x3 x4 x5 l6 x8 x9 μ)) (x1 : Int32) (x2 : Int32) (x3 : Int32) (x4 : Int32) (x5 : Int32) (l6 : Int64) (x8 : Int32) (x9 : Int32) (μ : Mem) : J C (KL C) μ 236 [(0, .ref (xad (cX C) 107)), (1, .int x1), (2, .int x2), (3, .int x3), (4, .int x4), (5, .int x5), (6, .long l6), (8, .int x8), (9, .int x9)] [] (F_X11_joinBy_236 kc_6 kc_20 x1 x2 x3 x4 x5 l6 x8 x9 μ) := by
  unfold F_X11_joinBy_236
  refine J.iinc (j := 8) (fun x9_1 => [(9, .int x9_1), (0, .ref (xad (cX C) 107)), (1, .int x1), (2, .int x2), (3, .int x3), (4, .int x4), (5, .int x5), (6, .long l6), (8, .int x8)]) hC eX11_joinBy_236 rfl ci_1 (by decide) (fun _ => rfl) (fun x9_1 => ?_)
  refine J.goto hC eX11_joinBy_239 ?_
  refine J.sub [1, 2, 3, 4, 5, 6, 7, 8, 0] rfl ?_
  exact hk_20 x1 x2 x3 x4 x5 l6 x8 x9_1 μ
def F_X11_joinBy_233 (kc_6 : Int32 → Int32 → Int32 → Int32 → Int32 → Int64 → Int32 → Mem → Option (Int64 × Mem)) (kc_20 : Int32 → Int32 → Int32 → Int32 → Int32 → Int64 → Int32 → Int32 → Mem → Option (Int64 × Mem)) (x1 : Int32) (x2 : Int32) (x3 : Int32) (x4 : Int32) (x5 : Int32) (x8 : Int32) (x9 : Int32) (ls0 : Int64) (ls1 : Int64) (μ : Mem) : Option (Int64 × Mem) :=
  lb (ls0 + ls1) (fun l6_1 => F_X11_joinBy_236 kc_6 kc_20 x1 x2 x3 x4 x5 l6_1 x8 x9 μ)
set_option maxHeartbeats 4000000 in
theorem j_X11_joinBy_233 {C : Cx} (hC : Ok C cX11_joinBy 22 RX11 (rmF 2 45)) (hr : (cT C).sig.returnType = (some .long)) (kc_6 : Int32 → Int32 → Int32 → Int32 → Int32 → Int64 → Int32 → Mem → Option (Int64 × Mem)) (hk_6 : ∀ (x1 : Int32) (x2 : Int32) (x3 : Int32) (x4 : Int32) (x5 : Int32) (l6 : Int64) (x8 : Int32) (μ : Mem), J C (KL C) μ 6 [(0, .ref (xad (cX C) 107)), (1, .int x1), (2, .int x2), (3, .int x3), (4, .int x4), (5, .int x5), (6, .long l6), (8, .int x8)] [] (kc_6 x1 x2 x3 x4 x5 l6 x8 μ)) (kc_20 : Int32 → Int32 → Int32 → Int32 → Int32 → Int64 → Int32 → Int32 → Mem → Option (Int64 × Mem)) (hk_20 : ∀ (x1 : Int32) (x2 : Int32) (x3 : Int32) (x4 : Int32) (x5 : Int32) (l6 : Int64) (x8 : Int32) (x9 : Int32) (μ : Mem), J C (KL C) μ 20 [(0, .ref (xad (cX C) 107)), (1, .int x1), (2, .int x2), (3, .int x3), (4, .int x4), (5, .int x5), (6, .long l6), (8, .int x8), (9, .int x9)] [] (kc_20 x1 x2 x3 x4 x5 l6 x8 x9 μ)) (x1 : Int32) (x2 : Int32) (x3 : Int32) (x4 : Int32) (x5 : Int32) (x8 : Int32) (x9 : Int32) (ls0 : Int64) (ls1 : Int64) (μ : Mem) : J C (KL C) μ 233 [(0, .ref (xad (cX C) 107)), (1, .int x1), (2, .int x2), (3, .int x3), (4, .int x4), (5, .int x5), (8, .int x8), (9, .int x9)] [.long ls1, .long ls0] (F_X11_joinBy_233 kc_6 kc_20 x1 x2 x3 x4 x5 x8 x9 ls0 ls1 μ) := by
  unfold F_X11_joinBy_233
  refine J.ladd hC eX11_joinBy_233 ?_
  refine J.topl (fun l6_1 => ?_)
  refine J.lstore [(6, .long l6_1), (0, .ref (xad (cX C) 107)), (1, .int x1), (2, .int x2), (3, .int x3), (4, .int x4), (5, .int x5), (8, .int x8), (9, .int x9)] hC eX11_joinBy_234 (by decide) rfl ?_
  refine J.sub [1, 2, 3, 4, 5, 6, 0, 7, 8] rfl ?_
  exact j_X11_joinBy_236 hC hr kc_6 hk_6 kc_20 hk_20 x1 x2 x3 x4 x5 l6_1 x8 x9 μ
def L_X11_joinBy_20 (kc_6 : Int32 → Int32 → Int32 → Int32 → Int32 → Int64 → Int32 → Mem → Option (Int64 × Mem)) : Nat → Int32 → Int32 → Int32 → Int32 → Int32 → Int64 → Int32 → Int32 → Mem → Option (Int64 × Mem)
  | 0, _, _, _, _, _, _, _, _, _ => none
  | n + 1, x1, x2, x3, x4, x5, l6, x8, x9, μ => bd (G_X11_bucketMany x3 x4 μ) (fun r_2 μ_1 => if r_2 ≤ x9 then lb (x8 + (1 : Int32)) (fun x8_3 => kc_6 x1 x2 x3 x4 x5 l6 x8_3 μ_1) else bd (G_X11_of x1 x2 x8 (1 : Int32) μ_1) (fun r_5 μ_4 => bd (G_X11_of x3 x4 x9 (1 : Int32) μ_4) (fun r_7 μ_6 => bd (G_X11_of x1 x2 x8 (0 : Int32) μ_6) (fun r_9 μ_8 => bd (G_X11_of x3 x4 x9 (0 : Int32) μ_8) (fun r_11 μ_10 => lb ((((imin r_5 r_7) - (imax r_9 r_11)) + (1 : Int32)).toInt64) (fun l10_12 => if (lg_cmp l10_12 (0 : Int64)) ≤ 0 then F_X11_joinBy_236 kc_6 (L_X11_joinBy_20 kc_6 n) x1 x2 x3 x4 x5 l6 x8 x9 μ_10 else bd (G_X11_of x1 x2 x8 (2 : Int32) μ_10) (fun r_14 μ_13 => lb (r_14.toInt64) (fun l12_15 => bd (G_X11_of x3 x4 x9 (2 : Int32) μ_13) (fun r_17 μ_16 => lb (r_17.toInt64) (fun l14_18 => bd (G_X11_of x1 x2 x8 (3 : Int32) μ_16) (fun r_20 μ_19 => lb (r_20.toInt64) (fun l16_21 => bd (G_X11_of x3 x4 x9 (3 : Int32) μ_19) (fun r_23 μ_22 => lb (r_23.toInt64) (fun l18_24 => bd (G_X11_of x1 x2 x8 (1 : Int32) μ_22) (fun r_26 μ_25 => bd (G_X11_of x1 x2 x8 (0 : Int32) μ_25) (fun r_28 μ_27 => bd (G_X11_of x3 x4 x9 (1 : Int32) μ_27) (fun r_30 μ_29 => bd (G_X11_of x3 x4 x9 (0 : Int32) μ_29) (fun r_32 μ_31 => lb ((((r_26 - r_28) + (1 : Int32)).toInt64) * (((r_30 - r_32) + (1 : Int32)).toInt64)) (fun l20_33 => if x5 = 0 then gq (decide (¬ l20_33 = 0)) (F_X11_joinBy_233 kc_6 (L_X11_joinBy_20 kc_6 n) x1 x2 x3 x4 x5 x8 x9 l6 (((l10_12 * l12_15) * l14_18) / l20_33) μ_31) else F_X11_joinBy_233 kc_6 (L_X11_joinBy_20 kc_6 n) x1 x2 x3 x4 x5 x8 x9 l6 (lmin ((l10_12 * l16_21) * l18_24) (lmin (l12_15 * l18_24) (l14_18 * l16_21))) μ_31)))))))))))))))))))
set_option maxHeartbeats 4000000 in
theorem j_X11_joinBy_20 {C : Cx} (hC : Ok C cX11_joinBy 22 RX11 (rmF 2 45)) (hr : (cT C).sig.returnType = (some .long)) (kc_6 : Int32 → Int32 → Int32 → Int32 → Int32 → Int64 → Int32 → Mem → Option (Int64 × Mem)) (hk_6 : ∀ (x1 : Int32) (x2 : Int32) (x3 : Int32) (x4 : Int32) (x5 : Int32) (l6 : Int64) (x8 : Int32) (μ : Mem), J C (KL C) μ 6 [(0, .ref (xad (cX C) 107)), (1, .int x1), (2, .int x2), (3, .int x3), (4, .int x4), (5, .int x5), (6, .long l6), (8, .int x8)] [] (kc_6 x1 x2 x3 x4 x5 l6 x8 μ)) : ∀ (n : Nat) (x1 : Int32) (x2 : Int32) (x3 : Int32) (x4 : Int32) (x5 : Int32) (l6 : Int64) (x8 : Int32) (x9 : Int32) (μ : Mem), J C (KL C) μ 20 [(0, .ref (xad (cX C) 107)), (1, .int x1), (2, .int x2), (3, .int x3), (4, .int x4), (5, .int x5), (6, .long l6), (8, .int x8), (9, .int x9)] [] (L_X11_joinBy_20 kc_6 n x1 x2 x3 x4 x5 l6 x8 x9 μ) := by
  intro n
  induction n with
  | zero => intros; exact J.no
  | succ n ih =>
    intro x1 x2 x3 x4 x5 l6 x8 x9 μ
    rw [L_X11_joinBy_20]
    refine J.iload (j := 8) hC eX11_joinBy_20 rfl ?_
    refine J.aload_n (j := 0) hC eX11_joinBy_22 rfl ?_
    refine J.iload_n (j := 3) hC eX11_joinBy_23 rfl ?_
    refine J.iload (j := 4) hC eX11_joinBy_24 rfl ?_
    refine J.callVI (st := [.int x9]) hC eX11_joinBy_26 kk_107 (by decide) rfl rfl ml_X11_238 mv_X11_bucketMany (Rle_of (Nat.le_of_ble_eq_true rfl) (Nat.le_of_ble_eq_true rfl)) (c_X11_bucketMany hC.X x3 x4 μ) rfl rfl (Nat.le_of_ble_eq_true rfl) (fun r_2 μ_1 => ?_)
    refine J.icmp_ge hC eX11_joinBy_29 (fun _ => ?_) (fun _ => ?_)
    · refine J.iinc (j := 7) (fun x8_3 => [(8, .int x8_3), (0, .ref (xad (cX C) 107)), (1, .int x1), (2, .int x2), (3, .int x3), (4, .int x4), (5, .int x5), (6, .long l6), (9, .int x9)]) hC eX11_joinBy_242 rfl ci_1 (by decide) (fun _ => rfl) (fun x8_3 => ?_)
      refine J.goto hC eX11_joinBy_245 ?_
      refine J.sub [1, 2, 3, 4, 5, 6, 7, 0] rfl ?_
      exact hk_6 x1 x2 x3 x4 x5 l6 x8_3 μ_1
    · refine J.aload_n (j := 0) hC eX11_joinBy_32 rfl ?_
      refine J.iload_n (j := 1) hC eX11_joinBy_33 rfl ?_
      refine J.iload_n (j := 2) hC eX11_joinBy_34 rfl ?_
      refine J.iload (j := 7) hC eX11_joinBy_35 rfl ?_
      refine J.iconst hC eX11_joinBy_37 ci_1 ?_
      refine J.callVI (st := []) hC eX11_joinBy_38 kk_107 (by decide) rfl rfl ml_X11_241 mv_X11_of (Rle_of (Nat.le_of_ble_eq_true rfl) (Nat.le_of_ble_eq_true rfl)) (c_X11_of hC.X x1 x2 x8 (1 : Int32) μ_1) rfl rfl (Nat.le_of_ble_eq_true rfl) (fun r_5 μ_4 => ?_)
      refine J.aload_n (j := 0) hC eX11_joinBy_41 rfl ?_
      refine J.iload_n (j := 3) hC eX11_joinBy_42 rfl ?_
      refine J.iload (j := 4) hC eX11_joinBy_43 rfl ?_
      refine J.iload (j := 8) hC eX11_joinBy_45 rfl ?_
      refine J.iconst hC eX11_joinBy_47 ci_1 ?_
      refine J.callVI (st := [.int r_5]) hC eX11_joinBy_48 kk_107 (by decide) rfl rfl ml_X11_241 mv_X11_of (Rle_of (Nat.le_of_ble_eq_true rfl) (Nat.le_of_ble_eq_true rfl)) (c_X11_of hC.X x3 x4 x9 (1 : Int32) μ_4) rfl rfl (Nat.le_of_ble_eq_true rfl) (fun r_7 μ_6 => ?_)
      refine J.mmin hC eX11_joinBy_51 ml_X11_194 w_smin w_im w_cmin (Nat.le_of_ble_eq_true rfl) (Nat.le_of_ble_eq_true rfl) ?_
      refine J.aload_n (j := 0) hC eX11_joinBy_54 rfl ?_
      refine J.iload_n (j := 1) hC eX11_joinBy_55 rfl ?_
      refine J.iload_n (j := 2) hC eX11_joinBy_56 rfl ?_
      refine J.iload (j := 7) hC eX11_joinBy_57 rfl ?_
      refine J.iconst hC eX11_joinBy_59 ci_0 ?_
      refine J.callVI (st := [.int (imin r_5 r_7)]) hC eX11_joinBy_60 kk_107 (by decide) rfl rfl ml_X11_241 mv_X11_of (Rle_of (Nat.le_of_ble_eq_true rfl) (Nat.le_of_ble_eq_true rfl)) (c_X11_of hC.X x1 x2 x8 (0 : Int32) μ_6) rfl rfl (Nat.le_of_ble_eq_true rfl) (fun r_9 μ_8 => ?_)
      refine J.aload_n (j := 0) hC eX11_joinBy_63 rfl ?_
      refine J.iload_n (j := 3) hC eX11_joinBy_64 rfl ?_
      refine J.iload (j := 4) hC eX11_joinBy_65 rfl ?_
      refine J.iload (j := 8) hC eX11_joinBy_67 rfl ?_
      refine J.iconst hC eX11_joinBy_69 ci_0 ?_
      refine J.callVI (st := [.int r_9, .int (imin r_5 r_7)]) hC eX11_joinBy_70 kk_107 (by decide) rfl rfl ml_X11_241 mv_X11_of (Rle_of (Nat.le_of_ble_eq_true rfl) (Nat.le_of_ble_eq_true rfl)) (c_X11_of hC.X x3 x4 x9 (0 : Int32) μ_8) rfl rfl (Nat.le_of_ble_eq_true rfl) (fun r_11 μ_10 => ?_)
      refine J.mmax hC eX11_joinBy_73 ml_X11_202 w_smax w_im w_cmax (Nat.le_of_ble_eq_true rfl) (Nat.le_of_ble_eq_true rfl) ?_
      refine J.isub hC eX11_joinBy_76 ?_
      refine J.iconst hC eX11_joinBy_77 ci_1 ?_
      refine J.iadd hC eX11_joinBy_78 ?_
      refine J.i2l hC eX11_joinBy_79 ?_
      refine J.topl (fun l10_12 => ?_)
      refine J.lstore [(10, .long l10_12), (0, .ref (xad (cX C) 107)), (1, .int x1), (2, .int x2), (3, .int x3), (4, .int x4), (5, .int x5), (6, .long l6), (8, .int x8), (9, .int x9)] hC eX11_joinBy_80 (by decide) rfl ?_
      refine J.lload (j := 0) hC eX11_joinBy_82 rfl ?_
      refine J.lconst hC eX11_joinBy_84 cl_0 ?_
      refine J.lcmp hC eX11_joinBy_85 ?_
      refine J.if_le hC eX11_joinBy_86 (fun _ => ?_) (fun _ => ?_)
      · refine J.sub [1, 2, 3, 4, 5, 6, 7, 8, 9] rfl ?_
        exact j_X11_joinBy_236 hC hr kc_6 hk_6 (L_X11_joinBy_20 kc_6 n) ih x1 x2 x3 x4 x5 l6 x8 x9 μ_10
      · refine J.aload_n (j := 1) hC eX11_joinBy_89 rfl ?_
        refine J.iload_n (j := 2) hC eX11_joinBy_90 rfl ?_
        refine J.iload_n (j := 3) hC eX11_joinBy_91 rfl ?_
        refine J.iload (j := 8) hC eX11_joinBy_92 rfl ?_
        refine J.iconst hC eX11_joinBy_94 ci_2 ?_
        refine J.callVI (st := []) hC eX11_joinBy_95 kk_107 (by decide) rfl rfl ml_X11_241 mv_X11_of (Rle_of (Nat.le_of_ble_eq_true rfl) (Nat.le_of_ble_eq_true rfl)) (c_X11_of hC.X x1 x2 x8 (2 : Int32) μ_10) rfl rfl (Nat.le_of_ble_eq_true rfl) (fun r_14 μ_13 => ?_)
        refine J.i2l hC eX11_joinBy_98 ?_
        refine J.topl (fun l12_15 => ?_)
        refine J.lstore [(12, .long l12_15), (10, .long l10_12), (0, .ref (xad (cX C) 107)), (1, .int x1), (2, .int x2), (3, .int x3), (4, .int x4), (5, .int x5), (6, .long l6), (8, .int x8), (9, .int x9)] hC eX11_joinBy_99 (by decide) rfl ?_
        refine J.aload_n (j := 2) hC eX11_joinBy_101 rfl ?_
        refine J.iload_n (j := 5) hC eX11_joinBy_102 rfl ?_
        refine J.iload (j := 6) hC eX11_joinBy_103 rfl ?_
        refine J.iload (j := 10) hC eX11_joinBy_105 rfl ?_
        refine J.iconst hC eX11_joinBy_107 ci_2 ?_
        refine J.callVI (st := []) hC eX11_joinBy_108 kk_107 (by decide) rfl rfl ml_X11_241 mv_X11_of (Rle_of (Nat.le_of_ble_eq_true rfl) (Nat.le_of_ble_eq_true rfl)) (c_X11_of hC.X x3 x4 x9 (2 : Int32) μ_13) rfl rfl (Nat.le_of_ble_eq_true rfl) (fun r_17 μ_16 => ?_)
        refine J.i2l hC eX11_joinBy_111 ?_
        refine J.topl (fun l14_18 => ?_)
        refine J.lstore [(14, .long l14_18), (12, .long l12_15), (10, .long l10_12), (0, .ref (xad (cX C) 107)), (1, .int x1), (2, .int x2), (3, .int x3), (4, .int x4), (5, .int x5), (6, .long l6), (8, .int x8), (9, .int x9)] hC eX11_joinBy_112 (by decide) rfl ?_
        refine J.aload_n (j := 3) hC eX11_joinBy_114 rfl ?_
        refine J.iload_n (j := 4) hC eX11_joinBy_115 rfl ?_
        refine J.iload_n (j := 5) hC eX11_joinBy_116 rfl ?_
        refine J.iload (j := 10) hC eX11_joinBy_117 rfl ?_
        refine J.iconst hC eX11_joinBy_119 ci_3 ?_
        refine J.callVI (st := []) hC eX11_joinBy_120 kk_107 (by decide) rfl rfl ml_X11_241 mv_X11_of (Rle_of (Nat.le_of_ble_eq_true rfl) (Nat.le_of_ble_eq_true rfl)) (c_X11_of hC.X x1 x2 x8 (3 : Int32) μ_16) rfl rfl (Nat.le_of_ble_eq_true rfl) (fun r_20 μ_19 => ?_)
        refine J.i2l hC eX11_joinBy_123 ?_
        refine J.topl (fun l16_21 => ?_)
        refine J.lstore [(16, .long l16_21), (14, .long l14_18), (12, .long l12_15), (10, .long l10_12), (0, .ref (xad (cX C) 107)), (1, .int x1), (2, .int x2), (3, .int x3), (4, .int x4), (5, .int x5), (6, .long l6), (8, .int x8), (9, .int x9)] hC eX11_joinBy_124 (by decide) rfl ?_
        refine J.aload_n (j := 4) hC eX11_joinBy_126 rfl ?_
        refine J.iload_n (j := 7) hC eX11_joinBy_127 rfl ?_
        refine J.iload (j := 8) hC eX11_joinBy_128 rfl ?_
        refine J.iload (j := 12) hC eX11_joinBy_130 rfl ?_
        refine J.iconst hC eX11_joinBy_132 ci_3 ?_
        refine J.callVI (st := []) hC eX11_joinBy_133 kk_107 (by decide) rfl rfl ml_X11_241 mv_X11_of (Rle_of (Nat.le_of_ble_eq_true rfl) (Nat.le_of_ble_eq_true rfl)) (c_X11_of hC.X x3 x4 x9 (3 : Int32) μ_19) rfl rfl (Nat.le_of_ble_eq_true rfl) (fun r_23 μ_22 => ?_)
        refine J.i2l hC eX11_joinBy_136 ?_
        refine J.topl (fun l18_24 => ?_)
        refine J.lstore [(18, .long l18_24), (16, .long l16_21), (14, .long l14_18), (12, .long l12_15), (10, .long l10_12), (0, .ref (xad (cX C) 107)), (1, .int x1), (2, .int x2), (3, .int x3), (4, .int x4), (5, .int x5), (6, .long l6), (8, .int x8), (9, .int x9)] hC eX11_joinBy_137 (by decide) rfl ?_
        refine J.aload_n (j := 5) hC eX11_joinBy_139 rfl ?_
        refine J.iload_n (j := 6) hC eX11_joinBy_140 rfl ?_
        refine J.iload_n (j := 7) hC eX11_joinBy_141 rfl ?_
        refine J.iload (j := 12) hC eX11_joinBy_142 rfl ?_
        refine J.iconst hC eX11_joinBy_144 ci_1 ?_
        refine J.callVI (st := []) hC eX11_joinBy_145 kk_107 (by decide) rfl rfl ml_X11_241 mv_X11_of (Rle_of (Nat.le_of_ble_eq_true rfl) (Nat.le_of_ble_eq_true rfl)) (c_X11_of hC.X x1 x2 x8 (1 : Int32) μ_22) rfl rfl (Nat.le_of_ble_eq_true rfl) (fun r_26 μ_25 => ?_)
        refine J.aload_n (j := 5) hC eX11_joinBy_148 rfl ?_
        refine J.iload_n (j := 6) hC eX11_joinBy_149 rfl ?_
        refine J.iload_n (j := 7) hC eX11_joinBy_150 rfl ?_
        refine J.iload (j := 12) hC eX11_joinBy_151 rfl ?_
        refine J.iconst hC eX11_joinBy_153 ci_0 ?_
        refine J.callVI (st := [.int r_26]) hC eX11_joinBy_154 kk_107 (by decide) rfl rfl ml_X11_241 mv_X11_of (Rle_of (Nat.le_of_ble_eq_true rfl) (Nat.le_of_ble_eq_true rfl)) (c_X11_of hC.X x1 x2 x8 (0 : Int32) μ_25) rfl rfl (Nat.le_of_ble_eq_true rfl) (fun r_28 μ_27 => ?_)
        refine J.isub hC eX11_joinBy_157 ?_
        refine J.iconst hC eX11_joinBy_158 ci_1 ?_
        refine J.iadd hC eX11_joinBy_159 ?_
        refine J.i2l hC eX11_joinBy_160 ?_
        refine J.aload_n (j := 5) hC eX11_joinBy_161 rfl ?_
        refine J.iload_n (j := 8) hC eX11_joinBy_162 rfl ?_
        refine J.iload (j := 9) hC eX11_joinBy_163 rfl ?_
        refine J.iload (j := 13) hC eX11_joinBy_165 rfl ?_
        refine J.iconst hC eX11_joinBy_167 ci_1 ?_
        refine J.callVI (st := [.long (((r_26 - r_28) + (1 : Int32)).toInt64)]) hC eX11_joinBy_168 kk_107 (by decide) rfl rfl ml_X11_241 mv_X11_of (Rle_of (Nat.le_of_ble_eq_true rfl) (Nat.le_of_ble_eq_true rfl)) (c_X11_of hC.X x3 x4 x9 (1 : Int32) μ_27) rfl rfl (Nat.le_of_ble_eq_true rfl) (fun r_30 μ_29 => ?_)
        refine J.aload_n (j := 5) hC eX11_joinBy_171 rfl ?_
        refine J.iload_n (j := 8) hC eX11_joinBy_172 rfl ?_
        refine J.iload (j := 9) hC eX11_joinBy_173 rfl ?_
        refine J.iload (j := 13) hC eX11_joinBy_175 rfl ?_
        refine J.iconst hC eX11_joinBy_177 ci_0 ?_
        refine J.callVI (st := [.int r_30, .long (((r_26 - r_28) + (1 : Int32)).toInt64)]) hC eX11_joinBy_178 kk_107 (by decide) rfl rfl ml_X11_241 mv_X11_of (Rle_of (Nat.le_of_ble_eq_true rfl) (Nat.le_of_ble_eq_true rfl)) (c_X11_of hC.X x3 x4 x9 (0 : Int32) μ_29) rfl rfl (Nat.le_of_ble_eq_true rfl) (fun r_32 μ_31 => ?_)
        refine J.isub hC eX11_joinBy_181 ?_
        refine J.iconst hC eX11_joinBy_182 ci_1 ?_
        refine J.iadd hC eX11_joinBy_183 ?_
        refine J.i2l hC eX11_joinBy_184 ?_
        refine J.lmul hC eX11_joinBy_185 ?_
        refine J.topl (fun l20_33 => ?_)
        refine J.lstore [(20, .long l20_33), (18, .long l18_24), (16, .long l16_21), (14, .long l14_18), (12, .long l12_15), (10, .long l10_12), (0, .ref (xad (cX C) 107)), (1, .int x1), (2, .int x2), (3, .int x3), (4, .int x4), (5, .int x5), (6, .long l6), (8, .int x8), (9, .int x9)] hC eX11_joinBy_186 (by decide) rfl ?_
        refine J.lload (j := 12) hC eX11_joinBy_188 rfl ?_
        refine J.iload (j := 11) hC eX11_joinBy_190 rfl ?_
        refine J.if_eq hC eX11_joinBy_192 (fun _ => ?_) (fun _ => ?_)
        · refine J.lload (j := 5) hC eX11_joinBy_222 rfl ?_
          refine J.lload (j := 4) hC eX11_joinBy_224 rfl ?_
          refine J.lmul hC eX11_joinBy_226 ?_
          refine J.lload (j := 3) hC eX11_joinBy_227 rfl ?_
          refine J.lmul hC eX11_joinBy_229 ?_
          refine J.lload (j := 0) hC eX11_joinBy_230 rfl ?_
          refine J.ldiv hC eX11_joinBy_232 ?_
          refine J.sub [6, 7, 8, 9, 10, 11, 13, 14] rfl ?_
          exact j_X11_joinBy_233 hC hr kc_6 hk_6 (L_X11_joinBy_20 kc_6 n) ih x1 x2 x3 x4 x5 x8 x9 l6 (((l10_12 * l12_15) * l14_18) / l20_33) μ_31
        · refine J.lload (j := 5) hC eX11_joinBy_195 rfl ?_
          refine J.lload (j := 2) hC eX11_joinBy_197 rfl ?_
          refine J.lmul hC eX11_joinBy_199 ?_
          refine J.lload (j := 1) hC eX11_joinBy_200 rfl ?_
          refine J.lmul hC eX11_joinBy_202 ?_
          refine J.lload (j := 4) hC eX11_joinBy_203 rfl ?_
          refine J.lload (j := 1) hC eX11_joinBy_205 rfl ?_
          refine J.lmul hC eX11_joinBy_207 ?_
          refine J.lload (j := 3) hC eX11_joinBy_208 rfl ?_
          refine J.lload (j := 2) hC eX11_joinBy_210 rfl ?_
          refine J.lmul hC eX11_joinBy_212 ?_
          refine J.lmin hC eX11_joinBy_213 ml_X11_181 w_sminL w_im w_cminL (Nat.le_of_ble_eq_true rfl) (Nat.le_of_ble_eq_true rfl) ?_
          refine J.lmin hC eX11_joinBy_216 ml_X11_181 w_sminL w_im w_cminL (Nat.le_of_ble_eq_true rfl) (Nat.le_of_ble_eq_true rfl) ?_
          refine J.goto hC eX11_joinBy_219 ?_
          refine J.sub [6, 7, 8, 9, 10, 11, 13, 14] rfl ?_
          exact j_X11_joinBy_233 hC hr kc_6 hk_6 (L_X11_joinBy_20 kc_6 n) ih x1 x2 x3 x4 x5 x8 x9 l6 (lmin ((l10_12 * l16_21) * l18_24) (lmin (l12_15 * l18_24) (l14_18 * l16_21))) μ_31
def L_X11_joinBy_6 : Nat → Int32 → Int32 → Int32 → Int32 → Int32 → Int64 → Int32 → Mem → Option (Int64 × Mem)
  | 0, _, _, _, _, _, _, _, _ => none
  | n + 1, x1, x2, x3, x4, x5, l6, x8, μ => bd (G_X11_bucketMany x1 x2 μ) (fun r_2 μ_1 => if r_2 ≤ x8 then some (l6, μ_1) else L_X11_joinBy_20 (L_X11_joinBy_6  n) 100000 x1 x2 x3 x4 x5 l6 x8 (0 : Int32) μ_1)
set_option maxHeartbeats 4000000 in
theorem j_X11_joinBy_6 {C : Cx} (hC : Ok C cX11_joinBy 22 RX11 (rmF 2 45)) (hr : (cT C).sig.returnType = (some .long)) : ∀ (n : Nat) (x1 : Int32) (x2 : Int32) (x3 : Int32) (x4 : Int32) (x5 : Int32) (l6 : Int64) (x8 : Int32) (μ : Mem), J C (KL C) μ 6 [(0, .ref (xad (cX C) 107)), (1, .int x1), (2, .int x2), (3, .int x3), (4, .int x4), (5, .int x5), (6, .long l6), (8, .int x8)] [] (L_X11_joinBy_6  n x1 x2 x3 x4 x5 l6 x8 μ) := by
  intro n
  induction n with
  | zero => intros; exact J.no
  | succ n ih =>
    intro x1 x2 x3 x4 x5 l6 x8 μ
    rw [L_X11_joinBy_6]
    refine J.iload (j := 7) hC eX11_joinBy_6 rfl ?_
    refine J.aload_n (j := 0) hC eX11_joinBy_8 rfl ?_
    refine J.iload_n (j := 1) hC eX11_joinBy_9 rfl ?_
    refine J.iload_n (j := 2) hC eX11_joinBy_10 rfl ?_
    refine J.callVI (st := [.int x8]) hC eX11_joinBy_11 kk_107 (by decide) rfl rfl ml_X11_238 mv_X11_bucketMany (Rle_of (Nat.le_of_ble_eq_true rfl) (Nat.le_of_ble_eq_true rfl)) (c_X11_bucketMany hC.X x1 x2 μ) rfl rfl (Nat.le_of_ble_eq_true rfl) (fun r_2 μ_1 => ?_)
    refine J.icmp_ge hC eX11_joinBy_14 (fun _ => ?_) (fun _ => ?_)
    · refine J.lload (j := 6) hC eX11_joinBy_248 rfl ?_
      exact J.lret hC hr eX11_joinBy_250
    · refine J.iconst hC eX11_joinBy_17 ci_0 ?_
      refine J.istore [(9, .int (0 : Int32)), (0, .ref (xad (cX C) 107)), (1, .int x1), (2, .int x2), (3, .int x3), (4, .int x4), (5, .int x5), (6, .long l6), (8, .int x8)] hC eX11_joinBy_18 (by decide) rfl ?_
      refine J.sub [1, 2, 3, 4, 5, 6, 7, 8, 0] rfl ?_
      exact j_X11_joinBy_20 hC hr (L_X11_joinBy_6  n) ih 100000 x1 x2 x3 x4 x5 l6 x8 (0 : Int32) μ_1
def G_X11_joinBy (x1 : Int32) (x2 : Int32) (x3 : Int32) (x4 : Int32) (x5 : Int32) (μ : Mem) : Option (Int64 × Mem) :=
  L_X11_joinBy_6  100000 x1 x2 x3 x4 x5 (0 : Int64) (0 : Int32) μ
set_option maxHeartbeats 4000000 in
theorem c_X11_joinBy {X : Wd} (hX : WdOk X) (x1 : Int32) (x2 : Int32) (x3 : Int32) (x4 : Int32) (x5 : Int32) (μ : Mem) : CtL X yX11_joinBy cX11_joinBy 22 (some .long) (rmF 2 45) [.ref (xad X 107), .int x1, .int x2, .int x3, .int x4, .int x5] μ (G_X11_joinBy x1 x2 x3 x4 x5 μ) := by
  refine CtL.of hX (plainFor_of_name (by decide)) (by exact Nat.le_of_ble_eq_true rfl) ?_
  intro C hCX hC hr
  subst hCX
  show J C (KL C) μ 0 [(0, .ref (xad (cX C) 107)), (1, .int x1), (2, .int x2), (3, .int x3), (4, .int x4), (5, .int x5)] [] _
  unfold G_X11_joinBy
  refine J.lconst hC eX11_joinBy_0 cl_0 ?_
  refine J.lstore [(6, .long (0 : Int64)), (0, .ref (xad (cX C) 107)), (1, .int x1), (2, .int x2), (3, .int x3), (4, .int x4), (5, .int x5)] hC eX11_joinBy_1 (by decide) rfl ?_
  refine J.iconst hC eX11_joinBy_3 ci_0 ?_
  refine J.istore [(8, .int (0 : Int32)), (6, .long (0 : Int64)), (0, .ref (xad (cX C) 107)), (1, .int x1), (2, .int x2), (3, .int x3), (4, .int x4), (5, .int x5)] hC eX11_joinBy_4 (by decide) rfl ?_
  refine J.sub [2, 3, 4, 5, 6, 7, 1, 0] rfl ?_
  exact j_X11_joinBy_6 hC hr  100000 x1 x2 x3 x4 x5 (0 : Int64) (0 : Int32) μ
-- X11_sortCounts
theorem eX11_sortCounts_0 : DD cX11_sortCounts 0 (.iconst 0) 1 1 := ⟨by decide +kernel, rfl⟩
theorem eX11_sortCounts_1 : DD cX11_sortCounts 1 (.istore 4) 2 3 := ⟨by decide +kernel, rfl⟩
theorem eX11_sortCounts_3 : DD cX11_sortCounts 3 (.iload 4) 2 5 := ⟨by decide +kernel, rfl⟩
theorem eX11_sortCounts_5 : DD cX11_sortCounts 5 (.bipush 16) 2 7 := ⟨by decide +kernel, rfl⟩
theorem eX11_sortCounts_7 : DB cX11_sortCounts 7 (.if_icmp .ge 81) (81) 10 88 := ⟨by decide +kernel, rfl, by decide⟩
theorem eX11_sortCounts_10 : DD cX11_sortCounts 10 (.aload_n 0) 1 11 := ⟨by decide +kernel, rfl⟩
theorem eX11_sortCounts_11 : DD cX11_sortCounts 11 (.iload_n 1) 1 12 := ⟨by decide +kernel, rfl⟩
theorem eX11_sortCounts_12 : DD cX11_sortCounts 12 (.iload_n 2) 1 13 := ⟨by decide +kernel, rfl⟩
theorem eX11_sortCounts_13 : DD cX11_sortCounts 13 (.iload 4) 2 15 := ⟨by decide +kernel, rfl⟩
theorem eX11_sortCounts_15 : DD cX11_sortCounts 15 (.invokevirtual 375) 3 18 := ⟨by decide +kernel, rfl⟩
theorem eX11_sortCounts_18 : DD cX11_sortCounts 18 (.istore 5) 2 20 := ⟨by decide +kernel, rfl⟩
theorem eX11_sortCounts_20 : DD cX11_sortCounts 20 (.iload 4) 2 22 := ⟨by decide +kernel, rfl⟩
theorem eX11_sortCounts_22 : DD cX11_sortCounts 22 (.istore 6) 2 24 := ⟨by decide +kernel, rfl⟩
theorem eX11_sortCounts_24 : DD cX11_sortCounts 24 (.iload 6) 2 26 := ⟨by decide +kernel, rfl⟩
theorem eX11_sortCounts_26 : DB cX11_sortCounts 26 (.ifCond .le 45) (45) 29 71 := ⟨by decide +kernel, rfl, by decide⟩
theorem eX11_sortCounts_29 : DD cX11_sortCounts 29 (.aload_n 0) 1 30 := ⟨by decide +kernel, rfl⟩
theorem eX11_sortCounts_30 : DD cX11_sortCounts 30 (.getfield 57) 3 33 := ⟨by decide +kernel, rfl⟩
theorem eX11_sortCounts_33 : DD cX11_sortCounts 33 (.iload_n 3) 1 34 := ⟨by decide +kernel, rfl⟩
theorem eX11_sortCounts_34 : DD cX11_sortCounts 34 (.iload 6) 2 36 := ⟨by decide +kernel, rfl⟩
theorem eX11_sortCounts_36 : DD cX11_sortCounts 36 (.iadd) 1 37 := ⟨by decide +kernel, rfl⟩
theorem eX11_sortCounts_37 : DD cX11_sortCounts 37 (.iconst 1) 1 38 := ⟨by decide +kernel, rfl⟩
theorem eX11_sortCounts_38 : DD cX11_sortCounts 38 (.isub) 1 39 := ⟨by decide +kernel, rfl⟩
theorem eX11_sortCounts_39 : DD cX11_sortCounts 39 (.iaload) 1 40 := ⟨by decide +kernel, rfl⟩
theorem eX11_sortCounts_40 : DD cX11_sortCounts 40 (.iload 5) 2 42 := ⟨by decide +kernel, rfl⟩
theorem eX11_sortCounts_42 : DB cX11_sortCounts 42 (.if_icmp .ge 29) (29) 45 71 := ⟨by decide +kernel, rfl, by decide⟩
theorem eX11_sortCounts_45 : DD cX11_sortCounts 45 (.aload_n 0) 1 46 := ⟨by decide +kernel, rfl⟩
theorem eX11_sortCounts_46 : DD cX11_sortCounts 46 (.getfield 57) 3 49 := ⟨by decide +kernel, rfl⟩
theorem eX11_sortCounts_49 : DD cX11_sortCounts 49 (.iload_n 3) 1 50 := ⟨by decide +kernel, rfl⟩
theorem eX11_sortCounts_50 : DD cX11_sortCounts 50 (.iload 6) 2 52 := ⟨by decide +kernel, rfl⟩
theorem eX11_sortCounts_52 : DD cX11_sortCounts 52 (.iadd) 1 53 := ⟨by decide +kernel, rfl⟩
theorem eX11_sortCounts_53 : DD cX11_sortCounts 53 (.aload_n 0) 1 54 := ⟨by decide +kernel, rfl⟩
theorem eX11_sortCounts_54 : DD cX11_sortCounts 54 (.getfield 57) 3 57 := ⟨by decide +kernel, rfl⟩
theorem eX11_sortCounts_57 : DD cX11_sortCounts 57 (.iload_n 3) 1 58 := ⟨by decide +kernel, rfl⟩
theorem eX11_sortCounts_58 : DD cX11_sortCounts 58 (.iload 6) 2 60 := ⟨by decide +kernel, rfl⟩
theorem eX11_sortCounts_60 : DD cX11_sortCounts 60 (.iadd) 1 61 := ⟨by decide +kernel, rfl⟩
theorem eX11_sortCounts_61 : DD cX11_sortCounts 61 (.iconst 1) 1 62 := ⟨by decide +kernel, rfl⟩
theorem eX11_sortCounts_62 : DD cX11_sortCounts 62 (.isub) 1 63 := ⟨by decide +kernel, rfl⟩
theorem eX11_sortCounts_63 : DD cX11_sortCounts 63 (.iaload) 1 64 := ⟨by decide +kernel, rfl⟩
theorem eX11_sortCounts_64 : DD cX11_sortCounts 64 (.iastore) 1 65 := ⟨by decide +kernel, rfl⟩
theorem eX11_sortCounts_65 : DD cX11_sortCounts 65 (.iinc 6 (-1)) 3 68 := ⟨by decide +kernel, rfl⟩
theorem eX11_sortCounts_68 : DB cX11_sortCounts 68 (.goto (-44)) (-44) 71 24 := ⟨by decide +kernel, rfl, by decide⟩
theorem eX11_sortCounts_71 : DD cX11_sortCounts 71 (.aload_n 0) 1 72 := ⟨by decide +kernel, rfl⟩
theorem eX11_sortCounts_72 : DD cX11_sortCounts 72 (.getfield 57) 3 75 := ⟨by decide +kernel, rfl⟩
theorem eX11_sortCounts_75 : DD cX11_sortCounts 75 (.iload_n 3) 1 76 := ⟨by decide +kernel, rfl⟩
theorem eX11_sortCounts_76 : DD cX11_sortCounts 76 (.iload 6) 2 78 := ⟨by decide +kernel, rfl⟩
theorem eX11_sortCounts_78 : DD cX11_sortCounts 78 (.iadd) 1 79 := ⟨by decide +kernel, rfl⟩
theorem eX11_sortCounts_79 : DD cX11_sortCounts 79 (.iload 5) 2 81 := ⟨by decide +kernel, rfl⟩
theorem eX11_sortCounts_81 : DD cX11_sortCounts 81 (.iastore) 1 82 := ⟨by decide +kernel, rfl⟩
theorem eX11_sortCounts_82 : DD cX11_sortCounts 82 (.iinc 4 1) 3 85 := ⟨by decide +kernel, rfl⟩
theorem eX11_sortCounts_85 : DB cX11_sortCounts 85 (.goto (-82)) (-82) 88 3 := ⟨by decide +kernel, rfl, by decide⟩
theorem eX11_sortCounts_88 : DD cX11_sortCounts 88 (.return_) 1 89 := ⟨by decide +kernel, rfl⟩
def F_X11_sortCounts_71 (kc_3 : Int32 → Int32 → Int32 → Int32 → Mem → Option (Unit × Mem)) (x1 : Int32) (x2 : Int32) (x3 : Int32) (x4 : Int32) (x5 : Int32) (x6 : Int32) (μ : Mem) : Option (Unit × Mem) :=
  gq (inB (x3 + x6) 32) (lb (wI μ 123 (nx (x3 + x6)) x5) (fun μ_1 => lb (x4 + (1 : Int32)) (fun x4_2 => kc_3 x1 x2 x3 x4_2 μ_1)))
set_option maxHeartbeats 4000000 in
theorem j_X11_sortCounts_71 {C : Cx} (hC : Ok C cX11_sortCounts 7 RX11 (rmF 3 71)) (hr : (cT C).sig.returnType = none) (kc_3 : Int32 → Int32 → Int32 → Int32 → Mem → Option (Unit × Mem)) (hk_3 : ∀ (x1 : Int32) (x2 : Int32) (x3 : Int32) (x4 : Int32) (μ : Mem), J C (KV C) μ 3 [(0, .ref (xad (cX C) 107)), (1, .int x1), (2, .int x2), (3, .int x3), (4, .int x4)] [] (kc_3 x1 x2 x3 x4 μ)) (x1 : Int32) (x2 : Int32) (x3 : Int32) (x4 : Int32) (x5 : Int32) (x6 : Int32) (μ : Mem) : J C (KV C) μ 71 [(0, .ref (xad (cX C) 107)), (1, .int x1), (2, .int x2), (3, .int x3), (4, .int x4), (5, .int x5), (6, .int x6)] [] (F_X11_sortCounts_71 kc_3 x1 x2 x3 x4 x5 x6 μ) := by
  unfold F_X11_sortCounts_71
  refine J.aload_n (j := 0) hC eX11_sortCounts_71 rfl ?_
  refine gf_X11_57 (q := 123) hC eX11_sortCounts_72 kk_107 rfl ?_
  refine J.iload_n (j := 3) hC eX11_sortCounts_75 rfl ?_
  refine J.iload (j := 6) hC eX11_sortCounts_76 rfl ?_
  refine J.iadd hC eX11_sortCounts_78 ?_
  refine J.iload (j := 5) hC eX11_sortCounts_79 rfl ?_
  refine J.iast ik_32 hC eX11_sortCounts_81 kk_123 (fun μ_1 => ?_)
  refine J.iinc (j := 4) (fun x4_2 => [(4, .int x4_2), (0, .ref (xad (cX C) 107)), (1, .int x1), (2, .int x2), (3, .int x3), (5, .int x5), (6, .int x6)]) hC eX11_sortCounts_82 rfl ci_1 (by decide) (fun _ => rfl) (fun x4_2 => ?_)
  refine J.goto hC eX11_sortCounts_85 ?_
  refine J.sub [1, 2, 3, 4, 0] rfl ?_
  exact hk_3 x1 x2 x3 x4_2 μ_1
def L_X11_sortCounts_24 (kc_3 : Int32 → Int32 → Int32 → Int32 → Mem → Option (Unit × Mem)) : Nat → Int32 → Int32 → Int32 → Int32 → Int32 → Int32 → Mem → Option (Unit × Mem)
  | 0, _, _, _, _, _, _, _ => none
  | n + 1, x1, x2, x3, x4, x5, x6, μ => if x6 ≤ 0 then F_X11_sortCounts_71 kc_3 x1 x2 x3 x4 x5 x6 μ else gq (inB ((x3 + x6) - (1 : Int32)) 32) (if x5 ≤ (rI μ 123 (nx ((x3 + x6) - (1 : Int32)))) then F_X11_sortCounts_71 kc_3 x1 x2 x3 x4 x5 x6 μ else gq (inB ((x3 + x6) - (1 : Int32)) 32) (gq (inB (x3 + x6) 32) (lb (wI μ 123 (nx (x3 + x6)) (rI μ 123 (nx ((x3 + x6) - (1 : Int32))))) (fun μ_1 => lb (x6 + (-1 : Int32)) (fun x6_2 => L_X11_sortCounts_24 kc_3 n x1 x2 x3 x4 x5 x6_2 μ_1)))))
set_option maxHeartbeats 4000000 in
theorem j_X11_sortCounts_24 {C : Cx} (hC : Ok C cX11_sortCounts 7 RX11 (rmF 3 71)) (hr : (cT C).sig.returnType = none) (kc_3 : Int32 → Int32 → Int32 → Int32 → Mem → Option (Unit × Mem)) (hk_3 : ∀ (x1 : Int32) (x2 : Int32) (x3 : Int32) (x4 : Int32) (μ : Mem), J C (KV C) μ 3 [(0, .ref (xad (cX C) 107)), (1, .int x1), (2, .int x2), (3, .int x3), (4, .int x4)] [] (kc_3 x1 x2 x3 x4 μ)) : ∀ (n : Nat) (x1 : Int32) (x2 : Int32) (x3 : Int32) (x4 : Int32) (x5 : Int32) (x6 : Int32) (μ : Mem), J C (KV C) μ 24 [(0, .ref (xad (cX C) 107)), (1, .int x1), (2, .int x2), (3, .int x3), (4, .int x4), (5, .int x5), (6, .int x6)] [] (L_X11_sortCounts_24 kc_3 n x1 x2 x3 x4 x5 x6 μ) := by
  intro n
  induction n with
  | zero => intros; exact J.no
  | succ n ih =>
    intro x1 x2 x3 x4 x5 x6 μ
    rw [L_X11_sortCounts_24]
    refine J.iload (j := 6) hC eX11_sortCounts_24 rfl ?_
    refine J.if_le hC eX11_sortCounts_26 (fun _ => ?_) (fun _ => ?_)
    · refine J.sub [0, 1, 2, 3, 4, 5, 6] rfl ?_
      exact j_X11_sortCounts_71 hC hr kc_3 hk_3 x1 x2 x3 x4 x5 x6 μ
    · refine J.aload_n (j := 0) hC eX11_sortCounts_29 rfl ?_
      refine gf_X11_57 (q := 123) hC eX11_sortCounts_30 kk_107 rfl ?_
      refine J.iload_n (j := 3) hC eX11_sortCounts_33 rfl ?_
      refine J.iload (j := 6) hC eX11_sortCounts_34 rfl ?_
      refine J.iadd hC eX11_sortCounts_36 ?_
      refine J.iconst hC eX11_sortCounts_37 ci_1 ?_
      refine J.isub hC eX11_sortCounts_38 ?_
      refine J.iald ik_32 hC eX11_sortCounts_39 kk_123 ?_
      refine J.iload (j := 5) hC eX11_sortCounts_40 rfl ?_
      refine J.icmp_ge hC eX11_sortCounts_42 (fun _ => ?_) (fun _ => ?_)
      · refine J.sub [0, 1, 2, 3, 4, 5, 6] rfl ?_
        exact j_X11_sortCounts_71 hC hr kc_3 hk_3 x1 x2 x3 x4 x5 x6 μ
      · refine J.aload_n (j := 0) hC eX11_sortCounts_45 rfl ?_
        refine gf_X11_57 (q := 123) hC eX11_sortCounts_46 kk_107 rfl ?_
        refine J.iload_n (j := 3) hC eX11_sortCounts_49 rfl ?_
        refine J.iload (j := 6) hC eX11_sortCounts_50 rfl ?_
        refine J.iadd hC eX11_sortCounts_52 ?_
        refine J.aload_n (j := 0) hC eX11_sortCounts_53 rfl ?_
        refine gf_X11_57 (q := 123) hC eX11_sortCounts_54 kk_107 rfl ?_
        refine J.iload_n (j := 3) hC eX11_sortCounts_57 rfl ?_
        refine J.iload (j := 6) hC eX11_sortCounts_58 rfl ?_
        refine J.iadd hC eX11_sortCounts_60 ?_
        refine J.iconst hC eX11_sortCounts_61 ci_1 ?_
        refine J.isub hC eX11_sortCounts_62 ?_
        refine J.iald ik_32 hC eX11_sortCounts_63 kk_123 ?_
        refine J.iast ik_32 hC eX11_sortCounts_64 kk_123 (fun μ_1 => ?_)
        refine J.iinc (j := 6) (fun x6_2 => [(6, .int x6_2), (0, .ref (xad (cX C) 107)), (1, .int x1), (2, .int x2), (3, .int x3), (4, .int x4), (5, .int x5)]) hC eX11_sortCounts_65 rfl ci_m1 (by decide) (fun _ => rfl) (fun x6_2 => ?_)
        refine J.goto hC eX11_sortCounts_68 ?_
        refine J.sub [1, 2, 3, 4, 5, 6, 0] rfl ?_
        exact ih x1 x2 x3 x4 x5 x6_2 μ_1
def L_X11_sortCounts_3 : Nat → Int32 → Int32 → Int32 → Int32 → Mem → Option (Unit × Mem)
  | 0, _, _, _, _, _ => none
  | n + 1, x1, x2, x3, x4, μ => if (16 : Int32) ≤ x4 then some ((), μ) else bd (G_X11_countIn x1 x2 x4 μ) (fun r_2 μ_1 => L_X11_sortCounts_24 (L_X11_sortCounts_3  n) 100000 x1 x2 x3 x4 r_2 x4 μ_1)
set_option maxHeartbeats 4000000 in
theorem j_X11_sortCounts_3 {C : Cx} (hC : Ok C cX11_sortCounts 7 RX11 (rmF 3 71)) (hr : (cT C).sig.returnType = none) : ∀ (n : Nat) (x1 : Int32) (x2 : Int32) (x3 : Int32) (x4 : Int32) (μ : Mem), J C (KV C) μ 3 [(0, .ref (xad (cX C) 107)), (1, .int x1), (2, .int x2), (3, .int x3), (4, .int x4)] [] (L_X11_sortCounts_3  n x1 x2 x3 x4 μ) := by
  intro n
  induction n with
  | zero => intros; exact J.no
  | succ n ih =>
    intro x1 x2 x3 x4 μ
    rw [L_X11_sortCounts_3]
    refine J.iload (j := 4) hC eX11_sortCounts_3 rfl ?_
    refine J.bipush hC eX11_sortCounts_5 cb_16 ?_
    refine J.icmp_ge hC eX11_sortCounts_7 (fun _ => ?_) (fun _ => ?_)
    · exact J.vret hC hr eX11_sortCounts_88
    · refine J.aload_n (j := 0) hC eX11_sortCounts_10 rfl ?_
      refine J.iload_n (j := 1) hC eX11_sortCounts_11 rfl ?_
      refine J.iload_n (j := 2) hC eX11_sortCounts_12 rfl ?_
      refine J.iload (j := 4) hC eX11_sortCounts_13 rfl ?_
      refine J.callVI (st := []) hC eX11_sortCounts_15 kk_107 (by decide) rfl rfl ml_X11_375 mv_X11_countIn (Rle_of (Nat.le_of_ble_eq_true rfl) (Nat.le_of_ble_eq_true rfl)) (c_X11_countIn hC.X x1 x2 x4 μ) rfl rfl (Nat.le_of_ble_eq_true rfl) (fun r_2 μ_1 => ?_)
      refine J.istore [(5, .int r_2), (0, .ref (xad (cX C) 107)), (1, .int x1), (2, .int x2), (3, .int x3), (4, .int x4)] hC eX11_sortCounts_18 (by decide) rfl ?_
      refine J.iload (j := 5) hC eX11_sortCounts_20 rfl ?_
      refine J.istore [(6, .int x4), (5, .int r_2), (0, .ref (xad (cX C) 107)), (1, .int x1), (2, .int x2), (3, .int x3), (4, .int x4)] hC eX11_sortCounts_22 (by decide) rfl ?_
      refine J.sub [2, 3, 4, 5, 6, 1, 0] rfl ?_
      exact j_X11_sortCounts_24 hC hr (L_X11_sortCounts_3  n) ih 100000 x1 x2 x3 x4 r_2 x4 μ_1
def G_X11_sortCounts (x1 : Int32) (x2 : Int32) (x3 : Int32) (μ : Mem) : Option (Unit × Mem) :=
  L_X11_sortCounts_3  100000 x1 x2 x3 (0 : Int32) μ
set_option maxHeartbeats 4000000 in
theorem c_X11_sortCounts {X : Wd} (hX : WdOk X) (x1 : Int32) (x2 : Int32) (x3 : Int32) (μ : Mem) : CtV X yX11_sortCounts cX11_sortCounts 7 none (rmF 3 71) [.ref (xad X 107), .int x1, .int x2, .int x3] μ (G_X11_sortCounts x1 x2 x3 μ) := by
  refine CtV.of hX (plainFor_of_name (by decide)) (by exact Nat.le_of_ble_eq_true rfl) ?_
  intro C hCX hC hr
  subst hCX
  show J C (KV C) μ 0 [(0, .ref (xad (cX C) 107)), (1, .int x1), (2, .int x2), (3, .int x3)] [] _
  unfold G_X11_sortCounts
  refine J.iconst hC eX11_sortCounts_0 ci_0 ?_
  refine J.istore [(4, .int (0 : Int32)), (0, .ref (xad (cX C) 107)), (1, .int x1), (2, .int x2), (3, .int x3)] hC eX11_sortCounts_1 (by decide) rfl ?_
  refine J.sub [1, 2, 3, 4, 0] rfl ?_
  exact j_X11_sortCounts_3 hC hr  100000 x1 x2 x3 (0 : Int32) μ
-- X11_degrees
theorem eX11_degrees_0 : DD cX11_degrees 0 (.aload_n 0) 1 1 := ⟨by decide +kernel, rfl⟩
theorem eX11_degrees_1 : DD cX11_degrees 1 (.iload_n 1) 1 2 := ⟨by decide +kernel, rfl⟩
theorem eX11_degrees_2 : DD cX11_degrees 2 (.iload_n 2) 1 3 := ⟨by decide +kernel, rfl⟩
theorem eX11_degrees_3 : DD cX11_degrees 3 (.iconst 0) 1 4 := ⟨by decide +kernel, rfl⟩
theorem eX11_degrees_4 : DD cX11_degrees 4 (.invokevirtual 378) 3 7 := ⟨by decide +kernel, rfl⟩
theorem eX11_degrees_7 : DD cX11_degrees 7 (.aload_n 0) 1 8 := ⟨by decide +kernel, rfl⟩
theorem eX11_degrees_8 : DD cX11_degrees 8 (.iload_n 3) 1 9 := ⟨by decide +kernel, rfl⟩
theorem eX11_degrees_9 : DD cX11_degrees 9 (.iload 4) 2 11 := ⟨by decide +kernel, rfl⟩
theorem eX11_degrees_11 : DD cX11_degrees 11 (.bipush 16) 2 13 := ⟨by decide +kernel, rfl⟩
theorem eX11_degrees_13 : DD cX11_degrees 13 (.invokevirtual 378) 3 16 := ⟨by decide +kernel, rfl⟩
theorem eX11_degrees_16 : DD cX11_degrees 16 (.lconst 0) 1 17 := ⟨by decide +kernel, rfl⟩
theorem eX11_degrees_17 : DD cX11_degrees 17 (.lstore 5) 2 19 := ⟨by decide +kernel, rfl⟩
theorem eX11_degrees_19 : DD cX11_degrees 19 (.iconst 0) 1 20 := ⟨by decide +kernel, rfl⟩
theorem eX11_degrees_20 : DD cX11_degrees 20 (.istore 7) 2 22 := ⟨by decide +kernel, rfl⟩
theorem eX11_degrees_22 : DD cX11_degrees 22 (.iload 7) 2 24 := ⟨by decide +kernel, rfl⟩
theorem eX11_degrees_24 : DD cX11_degrees 24 (.bipush 16) 2 26 := ⟨by decide +kernel, rfl⟩
theorem eX11_degrees_26 : DB cX11_degrees 26 (.if_icmp .ge 34) (34) 29 60 := ⟨by decide +kernel, rfl, by decide⟩
theorem eX11_degrees_29 : DD cX11_degrees 29 (.lload 5) 2 31 := ⟨by decide +kernel, rfl⟩
theorem eX11_degrees_31 : DD cX11_degrees 31 (.aload_n 0) 1 32 := ⟨by decide +kernel, rfl⟩
theorem eX11_degrees_32 : DD cX11_degrees 32 (.getfield 57) 3 35 := ⟨by decide +kernel, rfl⟩
theorem eX11_degrees_35 : DD cX11_degrees 35 (.iload 7) 2 37 := ⟨by decide +kernel, rfl⟩
theorem eX11_degrees_37 : DD cX11_degrees 37 (.iaload) 1 38 := ⟨by decide +kernel, rfl⟩
theorem eX11_degrees_38 : DD cX11_degrees 38 (.i2l) 1 39 := ⟨by decide +kernel, rfl⟩
theorem eX11_degrees_39 : DD cX11_degrees 39 (.aload_n 0) 1 40 := ⟨by decide +kernel, rfl⟩
theorem eX11_degrees_40 : DD cX11_degrees 40 (.getfield 57) 3 43 := ⟨by decide +kernel, rfl⟩
theorem eX11_degrees_43 : DD cX11_degrees 43 (.bipush 16) 2 45 := ⟨by decide +kernel, rfl⟩
theorem eX11_degrees_45 : DD cX11_degrees 45 (.iload 7) 2 47 := ⟨by decide +kernel, rfl⟩
theorem eX11_degrees_47 : DD cX11_degrees 47 (.iadd) 1 48 := ⟨by decide +kernel, rfl⟩
theorem eX11_degrees_48 : DD cX11_degrees 48 (.iaload) 1 49 := ⟨by decide +kernel, rfl⟩
theorem eX11_degrees_49 : DD cX11_degrees 49 (.i2l) 1 50 := ⟨by decide +kernel, rfl⟩
theorem eX11_degrees_50 : DD cX11_degrees 50 (.lmul) 1 51 := ⟨by decide +kernel, rfl⟩
theorem eX11_degrees_51 : DD cX11_degrees 51 (.ladd) 1 52 := ⟨by decide +kernel, rfl⟩
theorem eX11_degrees_52 : DD cX11_degrees 52 (.lstore 5) 2 54 := ⟨by decide +kernel, rfl⟩
theorem eX11_degrees_54 : DD cX11_degrees 54 (.iinc 7 1) 3 57 := ⟨by decide +kernel, rfl⟩
theorem eX11_degrees_57 : DB cX11_degrees 57 (.goto (-35)) (-35) 60 22 := ⟨by decide +kernel, rfl, by decide⟩
theorem eX11_degrees_60 : DD cX11_degrees 60 (.lload 5) 2 62 := ⟨by decide +kernel, rfl⟩
theorem eX11_degrees_62 : DD cX11_degrees 62 (.lreturn) 1 63 := ⟨by decide +kernel, rfl⟩
def L_X11_degrees_22 : Nat → Int64 → Int32 → Mem → Option (Int64 × Mem)
  | 0, _, _, _ => none
  | n + 1, l5, x7, μ => if (16 : Int32) ≤ x7 then some (l5, μ) else gq (inB x7 32) (gq (inB ((16 : Int32) + x7) 32) (lb (l5 + (((rI μ 123 (nx x7)).toInt64) * ((rI μ 123 (nx ((16 : Int32) + x7))).toInt64))) (fun l5_1 => lb (x7 + (1 : Int32)) (fun x7_2 => L_X11_degrees_22  n l5_1 x7_2 μ))))
set_option maxHeartbeats 4000000 in
theorem j_X11_degrees_22 {C : Cx} (hC : Ok C cX11_degrees 8 RX11 (rmF 4 97)) (hr : (cT C).sig.returnType = (some .long)) : ∀ (n : Nat) (l5 : Int64) (x7 : Int32) (μ : Mem), J C (KL C) μ 22 [(0, .ref (xad (cX C) 107)), (5, .long l5), (7, .int x7)] [] (L_X11_degrees_22  n l5 x7 μ) := by
  intro n
  induction n with
  | zero => intros; exact J.no
  | succ n ih =>
    intro l5 x7 μ
    rw [L_X11_degrees_22]
    refine J.iload (j := 2) hC eX11_degrees_22 rfl ?_
    refine J.bipush hC eX11_degrees_24 cb_16 ?_
    refine J.icmp_ge hC eX11_degrees_26 (fun _ => ?_) (fun _ => ?_)
    · refine J.lload (j := 1) hC eX11_degrees_60 rfl ?_
      exact J.lret hC hr eX11_degrees_62
    · refine J.lload (j := 1) hC eX11_degrees_29 rfl ?_
      refine J.aload_n (j := 0) hC eX11_degrees_31 rfl ?_
      refine gf_X11_57 (q := 123) hC eX11_degrees_32 kk_107 rfl ?_
      refine J.iload (j := 2) hC eX11_degrees_35 rfl ?_
      refine J.iald ik_32 hC eX11_degrees_37 kk_123 ?_
      refine J.i2l hC eX11_degrees_38 ?_
      refine J.aload_n (j := 0) hC eX11_degrees_39 rfl ?_
      refine gf_X11_57 (q := 123) hC eX11_degrees_40 kk_107 rfl ?_
      refine J.bipush hC eX11_degrees_43 cb_16 ?_
      refine J.iload (j := 2) hC eX11_degrees_45 rfl ?_
      refine J.iadd hC eX11_degrees_47 ?_
      refine J.iald ik_32 hC eX11_degrees_48 kk_123 ?_
      refine J.i2l hC eX11_degrees_49 ?_
      refine J.lmul hC eX11_degrees_50 ?_
      refine J.ladd hC eX11_degrees_51 ?_
      refine J.topl (fun l5_1 => ?_)
      refine J.lstore [(5, .long l5_1), (0, .ref (xad (cX C) 107)), (7, .int x7)] hC eX11_degrees_52 (by decide) rfl ?_
      refine J.iinc (j := 2) (fun x7_2 => [(7, .int x7_2), (5, .long l5_1), (0, .ref (xad (cX C) 107))]) hC eX11_degrees_54 rfl ci_1 (by decide) (fun _ => rfl) (fun x7_2 => ?_)
      refine J.goto hC eX11_degrees_57 ?_
      refine J.sub [2, 1, 0] rfl ?_
      exact ih l5_1 x7_2 μ
def G_X11_degrees (x1 : Int32) (x2 : Int32) (x3 : Int32) (x4 : Int32) (μ : Mem) : Option (Int64 × Mem) :=
  bd (G_X11_sortCounts x1 x2 (0 : Int32) μ) (fun r_2 μ_1 => bd (G_X11_sortCounts x3 x4 (16 : Int32) μ_1) (fun r_4 μ_3 => L_X11_degrees_22  100000 (0 : Int64) (0 : Int32) μ_3))
set_option maxHeartbeats 4000000 in
theorem c_X11_degrees {X : Wd} (hX : WdOk X) (x1 : Int32) (x2 : Int32) (x3 : Int32) (x4 : Int32) (μ : Mem) : CtL X yX11_degrees cX11_degrees 8 (some .long) (rmF 4 97) [.ref (xad X 107), .int x1, .int x2, .int x3, .int x4] μ (G_X11_degrees x1 x2 x3 x4 μ) := by
  refine CtL.of hX (plainFor_of_name (by decide)) (by exact Nat.le_of_ble_eq_true rfl) ?_
  intro C hCX hC hr
  subst hCX
  show J C (KL C) μ 0 [(0, .ref (xad (cX C) 107)), (1, .int x1), (2, .int x2), (3, .int x3), (4, .int x4)] [] _
  unfold G_X11_degrees
  refine J.aload_n (j := 0) hC eX11_degrees_0 rfl ?_
  refine J.iload_n (j := 1) hC eX11_degrees_1 rfl ?_
  refine J.iload_n (j := 2) hC eX11_degrees_2 rfl ?_
  refine J.iconst hC eX11_degrees_3 ci_0 ?_
  refine J.callVV (st := []) hC eX11_degrees_4 kk_107 (by decide) rfl rfl ml_X11_378 mv_X11_sortCounts (Rle_of (Nat.le_of_ble_eq_true rfl) (Nat.le_of_ble_eq_true rfl)) (c_X11_sortCounts hC.X x1 x2 (0 : Int32) μ) rfl rfl (Nat.le_of_ble_eq_true rfl) (fun r_2 μ_1 => ?_)
  refine J.aload_n (j := 0) hC eX11_degrees_7 rfl ?_
  refine J.iload_n (j := 3) hC eX11_degrees_8 rfl ?_
  refine J.iload (j := 4) hC eX11_degrees_9 rfl ?_
  refine J.bipush hC eX11_degrees_11 cb_16 ?_
  refine J.callVV (st := []) hC eX11_degrees_13 kk_107 (by decide) rfl rfl ml_X11_378 mv_X11_sortCounts (Rle_of (Nat.le_of_ble_eq_true rfl) (Nat.le_of_ble_eq_true rfl)) (c_X11_sortCounts hC.X x3 x4 (16 : Int32) μ_1) rfl rfl (Nat.le_of_ble_eq_true rfl) (fun r_4 μ_3 => ?_)
  refine J.lconst hC eX11_degrees_16 cl_0 ?_
  refine J.lstore [(5, .long (0 : Int64)), (0, .ref (xad (cX C) 107)), (1, .int x1), (2, .int x2), (3, .int x3), (4, .int x4)] hC eX11_degrees_17 (by decide) rfl ?_
  refine J.iconst hC eX11_degrees_19 ci_0 ?_
  refine J.istore [(7, .int (0 : Int32)), (5, .long (0 : Int64)), (0, .ref (xad (cX C) 107)), (1, .int x1), (2, .int x2), (3, .int x3), (4, .int x4)] hC eX11_degrees_20 (by decide) rfl ?_
  refine J.sub [2, 1, 0] rfl ?_
  exact j_X11_degrees_22 hC hr  100000 (0 : Int64) (0 : Int32) μ_3
-- X11_join
theorem eX11_join_0 : DD cX11_join 0 (.aload_n 0) 1 1 := ⟨by decide +kernel, rfl⟩
theorem eX11_join_1 : DD cX11_join 1 (.iload_n 1) 1 2 := ⟨by decide +kernel, rfl⟩
theorem eX11_join_2 : DD cX11_join 2 (.iload_n 2) 1 3 := ⟨by decide +kernel, rfl⟩
theorem eX11_join_3 : DD cX11_join 3 (.invokevirtual 235) 3 6 := ⟨by decide +kernel, rfl⟩
theorem eX11_join_6 : DB cX11_join 6 (.ifCond .eq 26) (26) 9 32 := ⟨by decide +kernel, rfl, by decide⟩
theorem eX11_join_9 : DD cX11_join 9 (.aload_n 0) 1 10 := ⟨by decide +kernel, rfl⟩
theorem eX11_join_10 : DD cX11_join 10 (.iload_n 3) 1 11 := ⟨by decide +kernel, rfl⟩
theorem eX11_join_11 : DD cX11_join 11 (.iload 4) 2 13 := ⟨by decide +kernel, rfl⟩
theorem eX11_join_13 : DD cX11_join 13 (.invokevirtual 235) 3 16 := ⟨by decide +kernel, rfl⟩
theorem eX11_join_16 : DB cX11_join 16 (.ifCond .eq 16) (16) 19 32 := ⟨by decide +kernel, rfl, by decide⟩
theorem eX11_join_19 : DD cX11_join 19 (.iload 5) 2 21 := ⟨by decide +kernel, rfl⟩
theorem eX11_join_21 : DD cX11_join 21 (.i2l) 1 22 := ⟨by decide +kernel, rfl⟩
theorem eX11_join_22 : DD cX11_join 22 (.lconst 0) 1 23 := ⟨by decide +kernel, rfl⟩
theorem eX11_join_23 : DD cX11_join 23 (.ldc2_w 230) 3 26 := ⟨by decide +kernel, rfl⟩
theorem eX11_join_26 : DD cX11_join 26 (.invokestatic 77) 3 29 := ⟨by decide +kernel, rfl⟩
theorem eX11_join_29 : DB cX11_join 29 (.ifCond .ne 7) (7) 32 36 := ⟨by decide +kernel, rfl, by decide⟩
theorem eX11_join_32 : DD cX11_join 32 (.ldc2_w 156) 3 35 := ⟨by decide +kernel, rfl⟩
theorem eX11_join_35 : DD cX11_join 35 (.lreturn) 1 36 := ⟨by decide +kernel, rfl⟩
theorem eX11_join_36 : DD cX11_join 36 (.iload 5) 2 38 := ⟨by decide +kernel, rfl⟩
theorem eX11_join_38 : DB cX11_join 38 (.ifCond .le 42) (42) 41 80 := ⟨by decide +kernel, rfl, by decide⟩
theorem eX11_join_41 : DD cX11_join 41 (.iload 5) 2 43 := ⟨by decide +kernel, rfl⟩
theorem eX11_join_43 : DD cX11_join 43 (.iconst 2) 1 44 := ⟨by decide +kernel, rfl⟩
theorem eX11_join_44 : DB cX11_join 44 (.if_icmp .ne 15) (15) 47 59 := ⟨by decide +kernel, rfl, by decide⟩
theorem eX11_join_47 : DD cX11_join 47 (.aload_n 0) 1 48 := ⟨by decide +kernel, rfl⟩
theorem eX11_join_48 : DD cX11_join 48 (.iload_n 1) 1 49 := ⟨by decide +kernel, rfl⟩
theorem eX11_join_49 : DD cX11_join 49 (.iload_n 2) 1 50 := ⟨by decide +kernel, rfl⟩
theorem eX11_join_50 : DD cX11_join 50 (.iload_n 3) 1 51 := ⟨by decide +kernel, rfl⟩
theorem eX11_join_51 : DD cX11_join 51 (.iload 4) 2 53 := ⟨by decide +kernel, rfl⟩
theorem eX11_join_53 : DD cX11_join 53 (.invokevirtual 382) 3 56 := ⟨by decide +kernel, rfl⟩
theorem eX11_join_56 : DB cX11_join 56 (.goto 23) (23) 59 79 := ⟨by decide +kernel, rfl, by decide⟩
theorem eX11_join_59 : DD cX11_join 59 (.aload_n 0) 1 60 := ⟨by decide +kernel, rfl⟩
theorem eX11_join_60 : DD cX11_join 60 (.iload_n 1) 1 61 := ⟨by decide +kernel, rfl⟩
theorem eX11_join_61 : DD cX11_join 61 (.iload_n 2) 1 62 := ⟨by decide +kernel, rfl⟩
theorem eX11_join_62 : DD cX11_join 62 (.iload_n 3) 1 63 := ⟨by decide +kernel, rfl⟩
theorem eX11_join_63 : DD cX11_join 63 (.iload 4) 2 65 := ⟨by decide +kernel, rfl⟩
theorem eX11_join_65 : DD cX11_join 65 (.iload 5) 2 67 := ⟨by decide +kernel, rfl⟩
theorem eX11_join_67 : DD cX11_join 67 (.iconst 1) 1 68 := ⟨by decide +kernel, rfl⟩
theorem eX11_join_68 : DB cX11_join 68 (.if_icmp .ne 7) (7) 71 75 := ⟨by decide +kernel, rfl, by decide⟩
theorem eX11_join_71 : DD cX11_join 71 (.iconst 1) 1 72 := ⟨by decide +kernel, rfl⟩
theorem eX11_join_72 : DB cX11_join 72 (.goto 4) (4) 75 76 := ⟨by decide +kernel, rfl, by decide⟩
theorem eX11_join_75 : DD cX11_join 75 (.iconst 0) 1 76 := ⟨by decide +kernel, rfl⟩
theorem eX11_join_76 : DD cX11_join 76 (.invokevirtual 386) 3 79 := ⟨by decide +kernel, rfl⟩
theorem eX11_join_79 : DD cX11_join 79 (.lreturn) 1 80 := ⟨by decide +kernel, rfl⟩
theorem eX11_join_80 : DD cX11_join 80 (.aload_n 0) 1 81 := ⟨by decide +kernel, rfl⟩
theorem eX11_join_81 : DD cX11_join 81 (.invokevirtual 365) 3 84 := ⟨by decide +kernel, rfl⟩
theorem eX11_join_84 : DD cX11_join 84 (.aload_n 0) 1 85 := ⟨by decide +kernel, rfl⟩
theorem eX11_join_85 : DD cX11_join 85 (.iload_n 1) 1 86 := ⟨by decide +kernel, rfl⟩
theorem eX11_join_86 : DD cX11_join 86 (.invokevirtual 332) 3 89 := ⟨by decide +kernel, rfl⟩
theorem eX11_join_89 : DD cX11_join 89 (.aload_n 0) 1 90 := ⟨by decide +kernel, rfl⟩
theorem eX11_join_90 : DD cX11_join 90 (.iload_n 3) 1 91 := ⟨by decide +kernel, rfl⟩
theorem eX11_join_91 : DD cX11_join 91 (.invokevirtual 332) 3 94 := ⟨by decide +kernel, rfl⟩
theorem eX11_join_94 : DD cX11_join 94 (.aload_n 0) 1 95 := ⟨by decide +kernel, rfl⟩
theorem eX11_join_95 : DD cX11_join 95 (.aload_n 0) 1 96 := ⟨by decide +kernel, rfl⟩
theorem eX11_join_96 : DD cX11_join 96 (.iload_n 1) 1 97 := ⟨by decide +kernel, rfl⟩
theorem eX11_join_97 : DD cX11_join 97 (.iload_n 2) 1 98 := ⟨by decide +kernel, rfl⟩
theorem eX11_join_98 : DD cX11_join 98 (.iload_n 3) 1 99 := ⟨by decide +kernel, rfl⟩
theorem eX11_join_99 : DD cX11_join 99 (.iload 4) 2 101 := ⟨by decide +kernel, rfl⟩
theorem eX11_join_101 : DD cX11_join 101 (.invokevirtual 390) 3 104 := ⟨by decide +kernel, rfl⟩
theorem eX11_join_104 : DD cX11_join 104 (.invokevirtual 371) 3 107 := ⟨by decide +kernel, rfl⟩
theorem eX11_join_107 : DD cX11_join 107 (.lreturn) 1 108 := ⟨by decide +kernel, rfl⟩
def F_X11_join_76 (xs1 : Int32) (xs2 : Int32) (xs3 : Int32) (xs4 : Int32) (xs5 : Int32) (μ : Mem) : Option (Int64 × Mem) :=
  bd (G_X11_joinBy xs1 xs2 xs3 xs4 xs5 μ) (fun r_2 μ_1 => some (r_2, μ_1))
set_option maxHeartbeats 4000000 in
theorem j_X11_join_76 {C : Cx} (hC : Ok C cX11_join 6 RX11 (rmF 5 124)) (hr : (cT C).sig.returnType = (some .long)) (xs1 : Int32) (xs2 : Int32) (xs3 : Int32) (xs4 : Int32) (xs5 : Int32) (μ : Mem) : J C (KL C) μ 76 [] [.int xs5, .int xs4, .int xs3, .int xs2, .int xs1, .ref (xad (cX C) 107)] (F_X11_join_76  xs1 xs2 xs3 xs4 xs5 μ) := by
  unfold F_X11_join_76
  refine J.callVL (st := []) hC eX11_join_76 kk_107 (by decide) rfl rfl ml_X11_386 mv_X11_joinBy (Rle_of (Nat.le_of_ble_eq_true rfl) (Nat.le_of_ble_eq_true rfl)) (c_X11_joinBy hC.X xs1 xs2 xs3 xs4 xs5 μ) rfl rfl (Nat.le_of_ble_eq_true rfl) (fun r_2 μ_1 => ?_)
  exact J.lret hC hr eX11_join_79
def G_X11_join (x1 : Int32) (x2 : Int32) (x3 : Int32) (x4 : Int32) (x5 : Int32) (μ : Mem) : Option (Int64 × Mem) :=
  bd (G_X11_isColumn x1 x2 μ) (fun r_2 μ_1 => if r_2 = 0 then some ((-1 : Int64), μ_1) else bd (G_X11_isColumn x3 x4 μ_1) (fun r_4 μ_3 => if r_4 = 0 then some ((-1 : Int64), μ_3) else bd (G_X11_in x5.toInt64 (0 : Int64) (3 : Int64) μ_3) (fun r_6 μ_5 => if r_6 = 0 then some ((-1 : Int64), μ_5) else if x5 ≤ 0 then bd (G_X11_begin  μ_5) (fun r_8 μ_7 => bd (G_X11_take x1 μ_7) (fun r_10 μ_9 => bd (G_X11_take x3 μ_9) (fun r_12 μ_11 => bd (G_X11_joinTruth x1 x2 x3 x4 μ_11) (fun r_14 μ_13 => bd (G_X11_finish r_14 μ_13) (fun r_16 μ_15 => some (r_16, μ_15)))))) else if x5 = (2 : Int32) then bd (G_X11_degrees x1 x2 x3 x4 μ_5) (fun r_18 μ_17 => some (r_18, μ_17)) else if x5 = (1 : Int32) then F_X11_join_76  x1 x2 x3 x4 (1 : Int32) μ_5 else F_X11_join_76  x1 x2 x3 x4 (0 : Int32) μ_5)))
set_option maxHeartbeats 4000000 in
theorem c_X11_join {X : Wd} (hX : WdOk X) (x1 : Int32) (x2 : Int32) (x3 : Int32) (x4 : Int32) (x5 : Int32) (μ : Mem) : CtL X yX11_join cX11_join 6 (some .long) (rmF 5 124) [.ref (xad X 107), .int x1, .int x2, .int x3, .int x4, .int x5] μ (G_X11_join x1 x2 x3 x4 x5 μ) := by
  refine CtL.of hX (plainFor_of_name (by decide)) (by exact Nat.le_of_ble_eq_true rfl) ?_
  intro C hCX hC hr
  subst hCX
  show J C (KL C) μ 0 [(0, .ref (xad (cX C) 107)), (1, .int x1), (2, .int x2), (3, .int x3), (4, .int x4), (5, .int x5)] [] _
  unfold G_X11_join
  refine J.aload_n (j := 0) hC eX11_join_0 rfl ?_
  refine J.iload_n (j := 1) hC eX11_join_1 rfl ?_
  refine J.iload_n (j := 2) hC eX11_join_2 rfl ?_
  refine J.callVI (st := []) hC eX11_join_3 kk_107 (by decide) rfl rfl ml_X11_235 mv_X11_isColumn (Rle_of (Nat.le_of_ble_eq_true rfl) (Nat.le_of_ble_eq_true rfl)) (c_X11_isColumn hC.X x1 x2 μ) rfl rfl (Nat.le_of_ble_eq_true rfl) (fun r_2 μ_1 => ?_)
  refine J.if_eq hC eX11_join_6 (fun _ => ?_) (fun _ => ?_)
  · refine J.ldc2 hC eX11_join_32 mk_X11_156 ?_
    exact J.lret hC hr eX11_join_35
  · refine J.aload_n (j := 0) hC eX11_join_9 rfl ?_
    refine J.iload_n (j := 3) hC eX11_join_10 rfl ?_
    refine J.iload (j := 4) hC eX11_join_11 rfl ?_
    refine J.callVI (st := []) hC eX11_join_13 kk_107 (by decide) rfl rfl ml_X11_235 mv_X11_isColumn (Rle_of (Nat.le_of_ble_eq_true rfl) (Nat.le_of_ble_eq_true rfl)) (c_X11_isColumn hC.X x3 x4 μ_1) rfl rfl (Nat.le_of_ble_eq_true rfl) (fun r_4 μ_3 => ?_)
    refine J.if_eq hC eX11_join_16 (fun _ => ?_) (fun _ => ?_)
    · refine J.ldc2 hC eX11_join_32 mk_X11_156 ?_
      exact J.lret hC hr eX11_join_35
    · refine J.iload (j := 5) hC eX11_join_19 rfl ?_
      refine J.i2l hC eX11_join_21 ?_
      refine J.lconst hC eX11_join_22 cl_0 ?_
      refine J.ldc2 hC eX11_join_23 mk_X11_230 ?_
      refine J.callSI (st := []) hC eX11_join_26 ml_X11_77 mv_X11_in (Rle_of (Nat.le_of_ble_eq_true rfl) (Nat.le_of_ble_eq_true rfl)) (c_X11_in hC.X x5.toInt64 (0 : Int64) (3 : Int64) μ_3) rfl rfl (Nat.le_of_ble_eq_true rfl) (fun r_6 μ_5 => ?_)
      refine J.if_ne hC eX11_join_29 (fun _ => ?_) (fun _ => ?_)
      · refine J.ldc2 hC eX11_join_32 mk_X11_156 ?_
        exact J.lret hC hr eX11_join_35
      · refine J.iload (j := 5) hC eX11_join_36 rfl ?_
        refine J.if_le hC eX11_join_38 (fun _ => ?_) (fun _ => ?_)
        · refine J.aload_n (j := 0) hC eX11_join_80 rfl ?_
          refine J.callVV (st := []) hC eX11_join_81 kk_107 (by decide) rfl rfl ml_X11_365 mv_X11_begin (Rle_of (Nat.le_of_ble_eq_true rfl) (Nat.le_of_ble_eq_true rfl)) (c_X11_begin hC.X  μ_5) rfl rfl (Nat.le_of_ble_eq_true rfl) (fun r_8 μ_7 => ?_)
          refine J.aload_n (j := 0) hC eX11_join_84 rfl ?_
          refine J.iload_n (j := 1) hC eX11_join_85 rfl ?_
          refine J.callVV (st := []) hC eX11_join_86 kk_107 (by decide) rfl rfl ml_X11_332 mv_X11_take (Rle_of (Nat.le_of_ble_eq_true rfl) (Nat.le_of_ble_eq_true rfl)) (c_X11_take hC.X x1 μ_7) rfl rfl (Nat.le_of_ble_eq_true rfl) (fun r_10 μ_9 => ?_)
          refine J.aload_n (j := 0) hC eX11_join_89 rfl ?_
          refine J.iload_n (j := 3) hC eX11_join_90 rfl ?_
          refine J.callVV (st := []) hC eX11_join_91 kk_107 (by decide) rfl rfl ml_X11_332 mv_X11_take (Rle_of (Nat.le_of_ble_eq_true rfl) (Nat.le_of_ble_eq_true rfl)) (c_X11_take hC.X x3 μ_9) rfl rfl (Nat.le_of_ble_eq_true rfl) (fun r_12 μ_11 => ?_)
          refine J.aload_n (j := 0) hC eX11_join_94 rfl ?_
          refine J.aload_n (j := 0) hC eX11_join_95 rfl ?_
          refine J.iload_n (j := 1) hC eX11_join_96 rfl ?_
          refine J.iload_n (j := 2) hC eX11_join_97 rfl ?_
          refine J.iload_n (j := 3) hC eX11_join_98 rfl ?_
          refine J.iload (j := 4) hC eX11_join_99 rfl ?_
          refine J.callVL (st := [.ref (xad (cX C) 107)]) hC eX11_join_101 kk_107 (by decide) rfl rfl ml_X11_390 mv_X11_joinTruth (Rle_of (Nat.le_of_ble_eq_true rfl) (Nat.le_of_ble_eq_true rfl)) (c_X11_joinTruth hC.X x1 x2 x3 x4 μ_11) rfl rfl (Nat.le_of_ble_eq_true rfl) (fun r_14 μ_13 => ?_)
          refine J.callVL (st := []) hC eX11_join_104 kk_107 (by decide) rfl rfl ml_X11_371 mv_X11_finish (Rle_of (Nat.le_of_ble_eq_true rfl) (Nat.le_of_ble_eq_true rfl)) (c_X11_finish hC.X r_14 μ_13) rfl rfl (Nat.le_of_ble_eq_true rfl) (fun r_16 μ_15 => ?_)
          exact J.lret hC hr eX11_join_107
        · refine J.iload (j := 5) hC eX11_join_41 rfl ?_
          refine J.iconst hC eX11_join_43 ci_2 ?_
          refine J.icmp_ne hC eX11_join_44 (fun _ => ?_) (fun _ => ?_)
          · refine J.aload_n (j := 0) hC eX11_join_47 rfl ?_
            refine J.iload_n (j := 1) hC eX11_join_48 rfl ?_
            refine J.iload_n (j := 2) hC eX11_join_49 rfl ?_
            refine J.iload_n (j := 3) hC eX11_join_50 rfl ?_
            refine J.iload (j := 4) hC eX11_join_51 rfl ?_
            refine J.callVL (st := []) hC eX11_join_53 kk_107 (by decide) rfl rfl ml_X11_382 mv_X11_degrees (Rle_of (Nat.le_of_ble_eq_true rfl) (Nat.le_of_ble_eq_true rfl)) (c_X11_degrees hC.X x1 x2 x3 x4 μ_5) rfl rfl (Nat.le_of_ble_eq_true rfl) (fun r_18 μ_17 => ?_)
            refine J.goto hC eX11_join_56 ?_
            exact J.lret hC hr eX11_join_79
          · refine J.aload_n (j := 0) hC eX11_join_59 rfl ?_
            refine J.iload_n (j := 1) hC eX11_join_60 rfl ?_
            refine J.iload_n (j := 2) hC eX11_join_61 rfl ?_
            refine J.iload_n (j := 3) hC eX11_join_62 rfl ?_
            refine J.iload (j := 4) hC eX11_join_63 rfl ?_
            refine J.iload (j := 5) hC eX11_join_65 rfl ?_
            refine J.iconst hC eX11_join_67 ci_1 ?_
            refine J.icmp_ne hC eX11_join_68 (fun _ => ?_) (fun _ => ?_)
            · refine J.iconst hC eX11_join_71 ci_1 ?_
              refine J.goto hC eX11_join_72 ?_
              refine J.sub [] rfl ?_
              exact j_X11_join_76 hC hr  x1 x2 x3 x4 (1 : Int32) μ_5
            · refine J.iconst hC eX11_join_75 ci_0 ?_
              refine J.sub [] rfl ?_
              exact j_X11_join_76 hC hr  x1 x2 x3 x4 (0 : Int32) μ_5
