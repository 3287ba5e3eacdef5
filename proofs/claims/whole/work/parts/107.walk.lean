-- X10_tellBook
theorem eX10_tellBook_0 : DD cX10_tellBook 0 (.aload_n 0) 1 1 := ⟨by decide +kernel, rfl⟩
theorem eX10_tellBook_1 : DD cX10_tellBook 1 (.getfield 19) 3 4 := ⟨by decide +kernel, rfl⟩
theorem eX10_tellBook_4 : DD cX10_tellBook 4 (.aload_n 0) 1 5 := ⟨by decide +kernel, rfl⟩
theorem eX10_tellBook_5 : DD cX10_tellBook 5 (.getfield 12) 3 8 := ⟨by decide +kernel, rfl⟩
theorem eX10_tellBook_8 : DD cX10_tellBook 8 (.invokevirtual 97) 3 11 := ⟨by decide +kernel, rfl⟩
theorem eX10_tellBook_11 : DD cX10_tellBook 11 (.iconst (-1)) 1 12 := ⟨by decide +kernel, rfl⟩
theorem eX10_tellBook_12 : DB cX10_tellBook 12 (.if_icmp .eq 5) (5) 15 17 := ⟨by decide +kernel, rfl, by decide⟩
theorem eX10_tellBook_15 : DD cX10_tellBook 15 (.iconst (-1)) 1 16 := ⟨by decide +kernel, rfl⟩
theorem eX10_tellBook_16 : DD cX10_tellBook 16 (.ireturn) 1 17 := ⟨by decide +kernel, rfl⟩
theorem eX10_tellBook_17 : DD cX10_tellBook 17 (.aload_n 0) 1 18 := ⟨by decide +kernel, rfl⟩
theorem eX10_tellBook_18 : DD cX10_tellBook 18 (.getfield 26) 3 21 := ⟨by decide +kernel, rfl⟩
theorem eX10_tellBook_21 : DD cX10_tellBook 21 (.aload_n 0) 1 22 := ⟨by decide +kernel, rfl⟩
theorem eX10_tellBook_22 : DD cX10_tellBook 22 (.getfield 19) 3 25 := ⟨by decide +kernel, rfl⟩
theorem eX10_tellBook_25 : DD cX10_tellBook 25 (.aload_n 0) 1 26 := ⟨by decide +kernel, rfl⟩
theorem eX10_tellBook_26 : DD cX10_tellBook 26 (.getfield 57) 3 29 := ⟨by decide +kernel, rfl⟩
theorem eX10_tellBook_29 : DD cX10_tellBook 29 (.invokevirtual 109) 3 32 := ⟨by decide +kernel, rfl⟩
theorem eX10_tellBook_32 : DD cX10_tellBook 32 (.aload_n 0) 1 33 := ⟨by decide +kernel, rfl⟩
theorem eX10_tellBook_33 : DD cX10_tellBook 33 (.getfield 44) 3 36 := ⟨by decide +kernel, rfl⟩
theorem eX10_tellBook_36 : DD cX10_tellBook 36 (.invokevirtual 113) 3 39 := ⟨by decide +kernel, rfl⟩
theorem eX10_tellBook_39 : DD cX10_tellBook 39 (.aload_n 0) 1 40 := ⟨by decide +kernel, rfl⟩
theorem eX10_tellBook_40 : DD cX10_tellBook 40 (.getfield 48) 3 43 := ⟨by decide +kernel, rfl⟩
theorem eX10_tellBook_43 : DD cX10_tellBook 43 (.iconst 0) 1 44 := ⟨by decide +kernel, rfl⟩
theorem eX10_tellBook_44 : DD cX10_tellBook 44 (.putfield 116) 3 47 := ⟨by decide +kernel, rfl⟩
theorem eX10_tellBook_47 : DD cX10_tellBook 47 (.aload_n 0) 1 48 := ⟨by decide +kernel, rfl⟩
theorem eX10_tellBook_48 : DD cX10_tellBook 48 (.getfield 12) 3 51 := ⟨by decide +kernel, rfl⟩
theorem eX10_tellBook_51 : DD cX10_tellBook 51 (.iconst 0) 1 52 := ⟨by decide +kernel, rfl⟩
theorem eX10_tellBook_52 : DD cX10_tellBook 52 (.putfield 90) 3 55 := ⟨by decide +kernel, rfl⟩
theorem eX10_tellBook_55 : DD cX10_tellBook 55 (.aload_n 0) 1 56 := ⟨by decide +kernel, rfl⟩
theorem eX10_tellBook_56 : DD cX10_tellBook 56 (.getfield 26) 3 59 := ⟨by decide +kernel, rfl⟩
theorem eX10_tellBook_59 : DD cX10_tellBook 59 (.getfield 116) 3 62 := ⟨by decide +kernel, rfl⟩
theorem eX10_tellBook_62 : DD cX10_tellBook 62 (.ireturn) 1 63 := ⟨by decide +kernel, rfl⟩
def G_X10_tellBook  (μ : Mem) : Option (Int32 × Mem) :=
  bd (G_X1_read  μ) (fun r_2 μ_1 => if r_2 = (-1 : Int32) then bd (G_X0_tell 7 μ_1) (fun r_4 μ_3 => bd (G_X6_forget  μ_3) (fun r_6 μ_5 => lb (wI μ_5 67 2 (0 : Int32)) (fun μ_7 => lb (wI μ_7 1 1 (0 : Int32)) (fun μ_8 => some (rI μ_8 7 2, μ_8))))) else some ((-1 : Int32), μ_1))
set_option maxHeartbeats 4000000 in
theorem c_X10_tellBook {X : Wd} (hX : WdOk X)  (μ : Mem) : CtI X yX10_tellBook cX10_tellBook 1 (some .int) (rmF 8 179) [.ref (xad X 0)] μ (G_X10_tellBook  μ) := by
  refine CtI.of hX (plainFor_of_name (by decide)) (by exact Nat.le_of_ble_eq_true rfl) ?_
  intro C hCX hC hr
  subst hCX
  show J C (KI C) μ 0 [(0, .ref (xad (cX C) 0))] [] _
  unfold G_X10_tellBook
  refine J.aload_n (j := 0) hC eX10_tellBook_0 rfl ?_
  refine gf_X10_19 (q := 3) hC eX10_tellBook_1 kk_0 rfl ?_
  refine J.aload_n (j := 0) hC eX10_tellBook_4 rfl ?_
  refine gf_X10_12 (q := 1) hC eX10_tellBook_5 kk_0 rfl ?_
  refine J.callVI (st := []) hC eX10_tellBook_8 kk_3 (by decide) rfl rfl ml_X10_97 mv_X1_read (Rle_of (Nat.le_of_ble_eq_true rfl) (Nat.le_of_ble_eq_true rfl)) (c_X1_read hC.X  μ) rfl rfl (Nat.le_of_ble_eq_true rfl) (fun r_2 μ_1 => ?_)
  refine J.iconst hC eX10_tellBook_11 ci_m1 ?_
  refine J.icmp_eq hC eX10_tellBook_12 (fun _ => ?_) (fun _ => ?_)
  · refine J.aload_n (j := 0) hC eX10_tellBook_17 rfl ?_
    refine gf_X10_26 (q := 7) hC eX10_tellBook_18 kk_0 rfl ?_
    refine J.aload_n (j := 0) hC eX10_tellBook_21 rfl ?_
    refine gf_X10_19 (q := 3) hC eX10_tellBook_22 kk_0 rfl ?_
    refine J.aload_n (j := 0) hC eX10_tellBook_25 rfl ?_
    refine gf_X10_57 (q := 99) hC eX10_tellBook_26 kk_0 rfl ?_
    refine J.callVV (st := []) hC eX10_tellBook_29 kk_7 (by decide) rfl rfl ml_X10_109 mv_X0_tell (Rle_of (Nat.le_of_ble_eq_true rfl) (Nat.le_of_ble_eq_true rfl)) (c_X0_tell hC.X 7 kk_7 μ_1) rfl rfl (Nat.le_of_ble_eq_true rfl) (fun r_4 μ_3 => ?_)
    refine J.aload_n (j := 0) hC eX10_tellBook_32 rfl ?_
    refine gf_X10_44 (q := 65) hC eX10_tellBook_33 kk_0 rfl ?_
    refine J.callVV (st := []) hC eX10_tellBook_36 kk_65 (by decide) rfl rfl ml_X10_113 mv_X6_forget (Rle_of (Nat.le_of_ble_eq_true rfl) (Nat.le_of_ble_eq_true rfl)) (c_X6_forget hC.X  μ_3) rfl rfl (Nat.le_of_ble_eq_true rfl) (fun r_6 μ_5 => ?_)
    refine J.aload_n (j := 0) hC eX10_tellBook_39 rfl ?_
    refine gf_X10_48 (q := 67) hC eX10_tellBook_40 kk_0 rfl ?_
    refine J.iconst hC eX10_tellBook_43 ci_0 ?_
    refine pf_X10_116 hC eX10_tellBook_44 kk_67 (fun μ_7 => ?_)
    refine J.aload_n (j := 0) hC eX10_tellBook_47 rfl ?_
    refine gf_X10_12 (q := 1) hC eX10_tellBook_48 kk_0 rfl ?_
    refine J.iconst hC eX10_tellBook_51 ci_0 ?_
    refine pf_X10_90 hC eX10_tellBook_52 kk_1 (fun μ_8 => ?_)
    refine J.aload_n (j := 0) hC eX10_tellBook_55 rfl ?_
    refine gf_X10_26 (q := 7) hC eX10_tellBook_56 kk_0 rfl ?_
    refine gf_X10_116 hC eX10_tellBook_59 kk_7 ?_
    exact J.iret hC hr eX10_tellBook_62
  · refine J.iconst hC eX10_tellBook_15 ci_m1 ?_
    exact J.iret hC hr eX10_tellBook_16
-- X10_tellWhere
theorem eX10_tellWhere_0 : DD cX10_tellWhere 0 (.aload_n 0) 1 1 := ⟨by decide +kernel, rfl⟩
theorem eX10_tellWhere_1 : DD cX10_tellWhere 1 (.getfield 75) 3 4 := ⟨by decide +kernel, rfl⟩
theorem eX10_tellWhere_4 : DD cX10_tellWhere 4 (.iconst 4) 1 5 := ⟨by decide +kernel, rfl⟩
theorem eX10_tellWhere_5 : DB cX10_tellWhere 5 (.if_icmp .ge 23) (23) 8 28 := ⟨by decide +kernel, rfl, by decide⟩
theorem eX10_tellWhere_8 : DD cX10_tellWhere 8 (.aload_n 0) 1 9 := ⟨by decide +kernel, rfl⟩
theorem eX10_tellWhere_9 : DD cX10_tellWhere 9 (.getfield 32) 3 12 := ⟨by decide +kernel, rfl⟩
theorem eX10_tellWhere_12 : DD cX10_tellWhere 12 (.aload_n 0) 1 13 := ⟨by decide +kernel, rfl⟩
theorem eX10_tellWhere_13 : DD cX10_tellWhere 13 (.getfield 75) 3 16 := ⟨by decide +kernel, rfl⟩
theorem eX10_tellWhere_16 : DD cX10_tellWhere 16 (.aaload) 1 17 := ⟨by decide +kernel, rfl⟩
theorem eX10_tellWhere_17 : DD cX10_tellWhere 17 (.aload_n 0) 1 18 := ⟨by decide +kernel, rfl⟩
theorem eX10_tellWhere_18 : DD cX10_tellWhere 18 (.getfield 12) 3 21 := ⟨by decide +kernel, rfl⟩
theorem eX10_tellWhere_21 : DD cX10_tellWhere 21 (.invokevirtual 101) 3 24 := ⟨by decide +kernel, rfl⟩
theorem eX10_tellWhere_24 : DD cX10_tellWhere 24 (.iconst (-1)) 1 25 := ⟨by decide +kernel, rfl⟩
theorem eX10_tellWhere_25 : DB cX10_tellWhere 25 (.if_icmp .eq 5) (5) 28 30 := ⟨by decide +kernel, rfl, by decide⟩
theorem eX10_tellWhere_28 : DD cX10_tellWhere 28 (.iconst (-1)) 1 29 := ⟨by decide +kernel, rfl⟩
theorem eX10_tellWhere_29 : DD cX10_tellWhere 29 (.ireturn) 1 30 := ⟨by decide +kernel, rfl⟩
theorem eX10_tellWhere_30 : DD cX10_tellWhere 30 (.aload_n 0) 1 31 := ⟨by decide +kernel, rfl⟩
theorem eX10_tellWhere_31 : DD cX10_tellWhere 31 (.dup) 1 32 := ⟨by decide +kernel, rfl⟩
theorem eX10_tellWhere_32 : DD cX10_tellWhere 32 (.getfield 75) 3 35 := ⟨by decide +kernel, rfl⟩
theorem eX10_tellWhere_35 : DD cX10_tellWhere 35 (.iconst 1) 1 36 := ⟨by decide +kernel, rfl⟩
theorem eX10_tellWhere_36 : DD cX10_tellWhere 36 (.iadd) 1 37 := ⟨by decide +kernel, rfl⟩
theorem eX10_tellWhere_37 : DD cX10_tellWhere 37 (.putfield 75) 3 40 := ⟨by decide +kernel, rfl⟩
theorem eX10_tellWhere_40 : DD cX10_tellWhere 40 (.aload_n 0) 1 41 := ⟨by decide +kernel, rfl⟩
theorem eX10_tellWhere_41 : DD cX10_tellWhere 41 (.getfield 12) 3 44 := ⟨by decide +kernel, rfl⟩
theorem eX10_tellWhere_44 : DD cX10_tellWhere 44 (.iconst 0) 1 45 := ⟨by decide +kernel, rfl⟩
theorem eX10_tellWhere_45 : DD cX10_tellWhere 45 (.putfield 90) 3 48 := ⟨by decide +kernel, rfl⟩
theorem eX10_tellWhere_48 : DD cX10_tellWhere 48 (.aload_n 0) 1 49 := ⟨by decide +kernel, rfl⟩
theorem eX10_tellWhere_49 : DD cX10_tellWhere 49 (.getfield 75) 3 52 := ⟨by decide +kernel, rfl⟩
theorem eX10_tellWhere_52 : DD cX10_tellWhere 52 (.iconst 1) 1 53 := ⟨by decide +kernel, rfl⟩
theorem eX10_tellWhere_53 : DD cX10_tellWhere 53 (.isub) 1 54 := ⟨by decide +kernel, rfl⟩
theorem eX10_tellWhere_54 : DD cX10_tellWhere 54 (.ireturn) 1 55 := ⟨by decide +kernel, rfl⟩
def G_X10_tellWhere  (μ : Mem) : Option (Int32 × Mem) :=
  if (4 : Int32) ≤ (rI μ 0 11) then some ((-1 : Int32), μ) else gq (inB (rI μ 0 11) 5) (bd (G_X9_read (whP 38 (rI μ 0 11)) μ) (fun r_3 μ_2 => if r_3 = (-1 : Int32) then lb (wI μ_2 0 11 ((rI μ_2 0 11) + (1 : Int32))) (fun μ_4 => lb (wI μ_4 1 1 (0 : Int32)) (fun μ_5 => some ((rI μ_5 0 11) - (1 : Int32), μ_5))) else some ((-1 : Int32), μ_2)))
set_option maxHeartbeats 4000000 in
theorem c_X10_tellWhere {X : Wd} (hX : WdOk X)  (μ : Mem) : CtI X yX10_tellWhere cX10_tellWhere 1 (some .int) (rmF 6 138) [.ref (xad X 0)] μ (G_X10_tellWhere  μ) := by
  refine CtI.of hX (plainFor_of_name (by decide)) (by exact Nat.le_of_ble_eq_true rfl) ?_
  intro C hCX hC hr
  subst hCX
  show J C (KI C) μ 0 [(0, .ref (xad (cX C) 0))] [] _
  unfold G_X10_tellWhere
  refine J.aload_n (j := 0) hC eX10_tellWhere_0 rfl ?_
  refine gf_X10_75 hC eX10_tellWhere_1 kk_0 ?_
  refine J.iconst hC eX10_tellWhere_4 ci_4 ?_
  refine J.icmp_ge hC eX10_tellWhere_5 (fun _ => ?_) (fun _ => ?_)
  · refine J.iconst hC eX10_tellWhere_28 ci_m1 ?_
    exact J.iret hC hr eX10_tellWhere_29
  · refine J.aload_n (j := 0) hC eX10_tellWhere_8 rfl ?_
    refine gf_X10_32 (q := 38) hC eX10_tellWhere_9 kk_0 rfl ?_
    refine J.aload_n (j := 0) hC eX10_tellWhere_12 rfl ?_
    refine gf_X10_75 hC eX10_tellWhere_13 kk_0 ?_
    refine J.aaldW hC eX10_tellWhere_16 kk_38 (fun hq_1 => ?_)
    refine J.aload_n (j := 0) hC eX10_tellWhere_17 rfl ?_
    refine gf_X10_12 (q := 1) hC eX10_tellWhere_18 kk_0 rfl ?_
    refine J.callVI (st := []) hC eX10_tellWhere_21 hq_1 (by decide) rfl rfl ml_X10_101 mv_X9_read (Rle_of (Nat.le_of_ble_eq_true rfl) (Nat.le_of_ble_eq_true rfl)) (c_X9_read hC.X (whP 38 (rI μ 0 11)) hq_1 μ) rfl rfl (Nat.le_of_ble_eq_true rfl) (fun r_3 μ_2 => ?_)
    refine J.iconst hC eX10_tellWhere_24 ci_m1 ?_
    refine J.icmp_eq hC eX10_tellWhere_25 (fun _ => ?_) (fun _ => ?_)
    · refine J.aload_n (j := 0) hC eX10_tellWhere_30 rfl ?_
      refine J.dup hC eX10_tellWhere_31 rfl ?_
      refine gf_X10_75 hC eX10_tellWhere_32 kk_0 ?_
      refine J.iconst hC eX10_tellWhere_35 ci_1 ?_
      refine J.iadd hC eX10_tellWhere_36 ?_
      refine pf_X10_75 hC eX10_tellWhere_37 kk_0 (fun μ_4 => ?_)
      refine J.aload_n (j := 0) hC eX10_tellWhere_40 rfl ?_
      refine gf_X10_12 (q := 1) hC eX10_tellWhere_41 kk_0 rfl ?_
      refine J.iconst hC eX10_tellWhere_44 ci_0 ?_
      refine pf_X10_90 hC eX10_tellWhere_45 kk_1 (fun μ_5 => ?_)
      refine J.aload_n (j := 0) hC eX10_tellWhere_48 rfl ?_
      refine gf_X10_75 hC eX10_tellWhere_49 kk_0 ?_
      refine J.iconst hC eX10_tellWhere_52 ci_1 ?_
      refine J.isub hC eX10_tellWhere_53 ?_
      exact J.iret hC hr eX10_tellWhere_54
    · refine J.iconst hC eX10_tellWhere_28 ci_m1 ?_
      exact J.iret hC hr eX10_tellWhere_29
-- X10_text
theorem eX10_text_0 : DD cX10_text 0 (.iload_n 1) 1 1 := ⟨by decide +kernel, rfl⟩
theorem eX10_text_1 : DB cX10_text 1 (.ifCond .ne 8) (8) 4 9 := ⟨by decide +kernel, rfl, by decide⟩
theorem eX10_text_4 : DD cX10_text 4 (.aload_n 0) 1 5 := ⟨by decide +kernel, rfl⟩
theorem eX10_text_5 : DD cX10_text 5 (.invokevirtual 102) 3 8 := ⟨by decide +kernel, rfl⟩
theorem eX10_text_8 : DD cX10_text 8 (.ireturn) 1 9 := ⟨by decide +kernel, rfl⟩
theorem eX10_text_9 : DD cX10_text 9 (.iload_n 1) 1 10 := ⟨by decide +kernel, rfl⟩
theorem eX10_text_10 : DD cX10_text 10 (.iconst 1) 1 11 := ⟨by decide +kernel, rfl⟩
theorem eX10_text_11 : DB cX10_text 11 (.if_icmp .ne 10) (10) 14 21 := ⟨by decide +kernel, rfl, by decide⟩
theorem eX10_text_14 : DD cX10_text 14 (.aload_n 0) 1 15 := ⟨by decide +kernel, rfl⟩
theorem eX10_text_15 : DD cX10_text 15 (.invokevirtual 106) 3 18 := ⟨by decide +kernel, rfl⟩
theorem eX10_text_18 : DB cX10_text 18 (.goto 4) (4) 21 22 := ⟨by decide +kernel, rfl, by decide⟩
theorem eX10_text_21 : DD cX10_text 21 (.iconst (-1)) 1 22 := ⟨by decide +kernel, rfl⟩
theorem eX10_text_22 : DD cX10_text 22 (.ireturn) 1 23 := ⟨by decide +kernel, rfl⟩
def G_X10_text (x1 : Int32) (μ : Mem) : Option (Int32 × Mem) :=
  if x1 = 0 then bd (G_X10_tellBook  μ) (fun r_2 μ_1 => some (r_2, μ_1)) else if x1 = (1 : Int32) then bd (G_X10_tellWhere  μ) (fun r_4 μ_3 => some (r_4, μ_3)) else some ((-1 : Int32), μ)
set_option maxHeartbeats 4000000 in
theorem c_X10_text {X : Wd} (hX : WdOk X) (x1 : Int32) (μ : Mem) : CtI X yX10_text cX10_text 2 (some .int) (rmF 9 199) [.ref (xad X 0), .int x1] μ (G_X10_text x1 μ) := by
  refine CtI.of hX (plainFor_of_name (by decide)) (by exact Nat.le_of_ble_eq_true rfl) ?_
  intro C hCX hC hr
  subst hCX
  show J C (KI C) μ 0 [(0, .ref (xad (cX C) 0)), (1, .int x1)] [] _
  unfold G_X10_text
  refine J.iload_n (j := 1) hC eX10_text_0 rfl ?_
  refine J.if_ne hC eX10_text_1 (fun _ => ?_) (fun _ => ?_)
  · refine J.aload_n (j := 0) hC eX10_text_4 rfl ?_
    refine J.callVI (st := []) hC eX10_text_5 kk_0 (by decide) rfl rfl ml_X10_102 mv_X10_tellBook (Rle_of (Nat.le_of_ble_eq_true rfl) (Nat.le_of_ble_eq_true rfl)) (c_X10_tellBook hC.X  μ) rfl rfl (Nat.le_of_ble_eq_true rfl) (fun r_2 μ_1 => ?_)
    exact J.iret hC hr eX10_text_8
  · refine J.iload_n (j := 1) hC eX10_text_9 rfl ?_
    refine J.iconst hC eX10_text_10 ci_1 ?_
    refine J.icmp_ne hC eX10_text_11 (fun _ => ?_) (fun _ => ?_)
    · refine J.aload_n (j := 0) hC eX10_text_14 rfl ?_
      refine J.callVI (st := []) hC eX10_text_15 kk_0 (by decide) rfl rfl ml_X10_106 mv_X10_tellWhere (Rle_of (Nat.le_of_ble_eq_true rfl) (Nat.le_of_ble_eq_true rfl)) (c_X10_tellWhere hC.X  μ) rfl rfl (Nat.le_of_ble_eq_true rfl) (fun r_4 μ_3 => ?_)
      refine J.goto hC eX10_text_18 ?_
      exact J.iret hC hr eX10_text_22
    · refine J.iconst hC eX10_text_21 ci_m1 ?_
      exact J.iret hC hr eX10_text_22
-- X10_hasBook
theorem eX10_hasBook_0 : DD cX10_hasBook 0 (.aload_n 0) 1 1 := ⟨by decide +kernel, rfl⟩
theorem eX10_hasBook_1 : DD cX10_hasBook 1 (.getfield 26) 3 4 := ⟨by decide +kernel, rfl⟩
theorem eX10_hasBook_4 : DD cX10_hasBook 4 (.getfield 116) 3 7 := ⟨by decide +kernel, rfl⟩
theorem eX10_hasBook_7 : DB cX10_hasBook 7 (.ifCond .le 7) (7) 10 14 := ⟨by decide +kernel, rfl, by decide⟩
theorem eX10_hasBook_10 : DD cX10_hasBook 10 (.iconst 1) 1 11 := ⟨by decide +kernel, rfl⟩
theorem eX10_hasBook_11 : DB cX10_hasBook 11 (.goto 4) (4) 14 15 := ⟨by decide +kernel, rfl, by decide⟩
theorem eX10_hasBook_14 : DD cX10_hasBook 14 (.iconst 0) 1 15 := ⟨by decide +kernel, rfl⟩
theorem eX10_hasBook_15 : DD cX10_hasBook 15 (.ireturn) 1 16 := ⟨by decide +kernel, rfl⟩
def G_X10_hasBook  (μ : Mem) : Option (Int32 × Mem) :=
  if (rI μ 7 2) ≤ 0 then some ((0 : Int32), μ) else some ((1 : Int32), μ)
set_option maxHeartbeats 4000000 in
theorem c_X10_hasBook {X : Wd} (hX : WdOk X)  (μ : Mem) : CtI X yX10_hasBook cX10_hasBook 1 (some .boolean) (rmF 0 0) [.ref (xad X 0)] μ (G_X10_hasBook  μ) := by
  refine CtI.of hX (plainFor_of_name (by decide)) (by exact Nat.le_of_ble_eq_true rfl) ?_
  intro C hCX hC hr
  subst hCX
  show J C (KI C) μ 0 [(0, .ref (xad (cX C) 0))] [] _
  unfold G_X10_hasBook
  refine J.aload_n (j := 0) hC eX10_hasBook_0 rfl ?_
  refine gf_X10_26 (q := 7) hC eX10_hasBook_1 kk_0 rfl ?_
  refine gf_X10_116 hC eX10_hasBook_4 kk_7 ?_
  refine J.if_le hC eX10_hasBook_7 (fun _ => ?_) (fun _ => ?_)
  · refine J.iconst hC eX10_hasBook_14 ci_0 ?_
    exact J.zretB hC hr eX10_hasBook_15 rfl
  · refine J.iconst hC eX10_hasBook_10 ci_1 ?_
    refine J.goto hC eX10_hasBook_11 ?_
    exact J.zretB hC hr eX10_hasBook_15 rfl
-- X10_rule
theorem eX10_rule_0 : DD cX10_rule 0 (.aload_n 0) 1 1 := ⟨by decide +kernel, rfl⟩
theorem eX10_rule_1 : DD cX10_rule 1 (.invokevirtual 119) 3 4 := ⟨by decide +kernel, rfl⟩
theorem eX10_rule_4 : DB cX10_rule 4 (.ifCond .ne 5) (5) 7 9 := ⟨by decide +kernel, rfl, by decide⟩
theorem eX10_rule_7 : DD cX10_rule 7 (.iconst (-1)) 1 8 := ⟨by decide +kernel, rfl⟩
theorem eX10_rule_8 : DD cX10_rule 8 (.ireturn) 1 9 := ⟨by decide +kernel, rfl⟩
theorem eX10_rule_9 : DD cX10_rule 9 (.iload_n 1) 1 10 := ⟨by decide +kernel, rfl⟩
theorem eX10_rule_10 : decode cX10_rule 10 = .ok (.tableswitch 50 0 2 #[26, 34, 42], 26) := by decide +kernel
theorem eX10_rule_36 : DD cX10_rule 36 (.aload_n 0) 1 37 := ⟨by decide +kernel, rfl⟩
theorem eX10_rule_37 : DD cX10_rule 37 (.getfield 26) 3 40 := ⟨by decide +kernel, rfl⟩
theorem eX10_rule_40 : DD cX10_rule 40 (.getfield 123) 3 43 := ⟨by decide +kernel, rfl⟩
theorem eX10_rule_43 : DD cX10_rule 43 (.ireturn) 1 44 := ⟨by decide +kernel, rfl⟩
theorem eX10_rule_44 : DD cX10_rule 44 (.aload_n 0) 1 45 := ⟨by decide +kernel, rfl⟩
theorem eX10_rule_45 : DD cX10_rule 45 (.getfield 26) 3 48 := ⟨by decide +kernel, rfl⟩
theorem eX10_rule_48 : DD cX10_rule 48 (.getfield 126) 3 51 := ⟨by decide +kernel, rfl⟩
theorem eX10_rule_51 : DD cX10_rule 51 (.ireturn) 1 52 := ⟨by decide +kernel, rfl⟩
theorem eX10_rule_52 : DD cX10_rule 52 (.aload_n 0) 1 53 := ⟨by decide +kernel, rfl⟩
theorem eX10_rule_53 : DD cX10_rule 53 (.getfield 26) 3 56 := ⟨by decide +kernel, rfl⟩
theorem eX10_rule_56 : DD cX10_rule 56 (.getfield 129) 3 59 := ⟨by decide +kernel, rfl⟩
theorem eX10_rule_59 : DD cX10_rule 59 (.ireturn) 1 60 := ⟨by decide +kernel, rfl⟩
theorem eX10_rule_60 : DD cX10_rule 60 (.iconst (-1)) 1 61 := ⟨by decide +kernel, rfl⟩
theorem eX10_rule_61 : DD cX10_rule 61 (.ireturn) 1 62 := ⟨by decide +kernel, rfl⟩
def G_X10_rule (x1 : Int32) (μ : Mem) : Option (Int32 × Mem) :=
  bd (G_X10_hasBook  μ) (fun r_2 μ_1 => if r_2 = 0 then some ((-1 : Int32), μ_1) else if x1 = (0 : Int32) then some (rI μ_1 7 3, μ_1) else (if x1 = (1 : Int32) then some (rI μ_1 7 4, μ_1) else (if x1 = (2 : Int32) then some (rI μ_1 7 5, μ_1) else (some ((-1 : Int32), μ_1)))))
set_option maxHeartbeats 4000000 in
theorem c_X10_rule {X : Wd} (hX : WdOk X) (x1 : Int32) (μ : Mem) : CtI X yX10_rule cX10_rule 2 (some .int) (rmF 1 20) [.ref (xad X 0), .int x1] μ (G_X10_rule x1 μ) := by
  refine CtI.of hX (plainFor_of_name (by decide)) (by exact Nat.le_of_ble_eq_true rfl) ?_
  intro C hCX hC hr
  subst hCX
  show J C (KI C) μ 0 [(0, .ref (xad (cX C) 0)), (1, .int x1)] [] _
  unfold G_X10_rule
  refine J.aload_n (j := 0) hC eX10_rule_0 rfl ?_
  refine J.callVI (st := []) hC eX10_rule_1 kk_0 (by decide) rfl rfl ml_X10_119 mv_X10_hasBook (Rle_of (Nat.le_of_ble_eq_true rfl) (Nat.le_of_ble_eq_true rfl)) (c_X10_hasBook hC.X  μ) rfl rfl (Nat.le_of_ble_eq_true rfl) (fun r_2 μ_1 => ?_)
  refine J.if_ne hC eX10_rule_4 (fun _ => ?_) (fun _ => ?_)
  · refine J.iconst hC eX10_rule_7 ci_m1 ?_
    exact J.iret hC hr eX10_rule_8
  · refine J.iload_n (j := 1) hC eX10_rule_9 rfl ?_
    refine J.ite (fun h_3 => ?_) (fun h_3 => ?_)
    · refine J.tsI (off := 26) (tgt := 36) hC eX10_rule_10 (by rw [h_3]; decide) (by rw [h_3]; decide) (by rw [h_3]; rfl) (by decide) ?_
      refine J.aload_n (j := 0) hC eX10_rule_36 rfl ?_
      refine gf_X10_26 (q := 7) hC eX10_rule_37 kk_0 rfl ?_
      refine gf_X10_123 hC eX10_rule_40 kk_7 ?_
      exact J.iret hC hr eX10_rule_43
    refine J.ite (fun h_4 => ?_) (fun h_4 => ?_)
    · refine J.tsI (off := 34) (tgt := 44) hC eX10_rule_10 (by rw [h_4]; decide) (by rw [h_4]; decide) (by rw [h_4]; rfl) (by decide) ?_
      refine J.aload_n (j := 0) hC eX10_rule_44 rfl ?_
      refine gf_X10_26 (q := 7) hC eX10_rule_45 kk_0 rfl ?_
      refine gf_X10_126 hC eX10_rule_48 kk_7 ?_
      exact J.iret hC hr eX10_rule_51
    refine J.ite (fun h_5 => ?_) (fun h_5 => ?_)
    · refine J.tsI (off := 42) (tgt := 52) hC eX10_rule_10 (by rw [h_5]; decide) (by rw [h_5]; decide) (by rw [h_5]; rfl) (by decide) ?_
      refine J.aload_n (j := 0) hC eX10_rule_52 rfl ?_
      refine gf_X10_26 (q := 7) hC eX10_rule_53 kk_0 rfl ?_
      refine gf_X10_129 hC eX10_rule_56 kk_7 ?_
      exact J.iret hC hr eX10_rule_59
    refine J.tsO (tgt := 60) hC eX10_rule_10 (by have th_3 := lv_neT h_3 (show ((0 : Int32)).toInt = 0 from rfl); have th_4 := lv_neT h_4 (show ((1 : Int32)).toInt = 1 from rfl); have th_5 := lv_neT h_5 (show ((2 : Int32)).toInt = 2 from rfl); omega) (by decide) ?_
    refine J.iconst hC eX10_rule_60 ci_m1 ?_
    exact J.iret hC hr eX10_rule_61
-- X10_hasTable
theorem eX10_hasTable_0 : DD cX10_hasTable 0 (.iload_n 1) 1 1 := ⟨by decide +kernel, rfl⟩
theorem eX10_hasTable_1 : DB cX10_hasTable 1 (.ifCond .lt 18) (18) 4 19 := ⟨by decide +kernel, rfl, by decide⟩
theorem eX10_hasTable_4 : DD cX10_hasTable 4 (.iload_n 1) 1 5 := ⟨by decide +kernel, rfl⟩
theorem eX10_hasTable_5 : DD cX10_hasTable 5 (.aload_n 0) 1 6 := ⟨by decide +kernel, rfl⟩
theorem eX10_hasTable_6 : DD cX10_hasTable 6 (.getfield 26) 3 9 := ⟨by decide +kernel, rfl⟩
theorem eX10_hasTable_9 : DD cX10_hasTable 9 (.getfield 116) 3 12 := ⟨by decide +kernel, rfl⟩
theorem eX10_hasTable_12 : DB cX10_hasTable 12 (.if_icmp .ge 7) (7) 15 19 := ⟨by decide +kernel, rfl, by decide⟩
theorem eX10_hasTable_15 : DD cX10_hasTable 15 (.iconst 1) 1 16 := ⟨by decide +kernel, rfl⟩
theorem eX10_hasTable_16 : DB cX10_hasTable 16 (.goto 4) (4) 19 20 := ⟨by decide +kernel, rfl, by decide⟩
theorem eX10_hasTable_19 : DD cX10_hasTable 19 (.iconst 0) 1 20 := ⟨by decide +kernel, rfl⟩
theorem eX10_hasTable_20 : DD cX10_hasTable 20 (.ireturn) 1 21 := ⟨by decide +kernel, rfl⟩
def G_X10_hasTable (x1 : Int32) (μ : Mem) : Option (Int32 × Mem) :=
  if x1 < 0 then some ((0 : Int32), μ) else if (rI μ 7 2) ≤ x1 then some ((0 : Int32), μ) else some ((1 : Int32), μ)
set_option maxHeartbeats 4000000 in
theorem c_X10_hasTable {X : Wd} (hX : WdOk X) (x1 : Int32) (μ : Mem) : CtI X yX10_hasTable cX10_hasTable 2 (some .boolean) (rmF 0 0) [.ref (xad X 0), .int x1] μ (G_X10_hasTable x1 μ) := by
  refine CtI.of hX (plainFor_of_name (by decide)) (by exact Nat.le_of_ble_eq_true rfl) ?_
  intro C hCX hC hr
  subst hCX
  show J C (KI C) μ 0 [(0, .ref (xad (cX C) 0)), (1, .int x1)] [] _
  unfold G_X10_hasTable
  refine J.iload_n (j := 1) hC eX10_hasTable_0 rfl ?_
  refine J.if_lt hC eX10_hasTable_1 (fun _ => ?_) (fun _ => ?_)
  · refine J.iconst hC eX10_hasTable_19 ci_0 ?_
    exact J.zretB hC hr eX10_hasTable_20 rfl
  · refine J.iload_n (j := 1) hC eX10_hasTable_4 rfl ?_
    refine J.aload_n (j := 0) hC eX10_hasTable_5 rfl ?_
    refine gf_X10_26 (q := 7) hC eX10_hasTable_6 kk_0 rfl ?_
    refine gf_X10_116 hC eX10_hasTable_9 kk_7 ?_
    refine J.icmp_ge hC eX10_hasTable_12 (fun _ => ?_) (fun _ => ?_)
    · refine J.iconst hC eX10_hasTable_19 ci_0 ?_
      exact J.zretB hC hr eX10_hasTable_20 rfl
    · refine J.iconst hC eX10_hasTable_15 ci_1 ?_
      refine J.goto hC eX10_hasTable_16 ?_
      exact J.zretB hC hr eX10_hasTable_20 rfl
-- X10_hasCell
theorem eX10_hasCell_0 : DD cX10_hasCell 0 (.aload_n 0) 1 1 := ⟨by decide +kernel, rfl⟩
theorem eX10_hasCell_1 : DD cX10_hasCell 1 (.iload_n 1) 1 2 := ⟨by decide +kernel, rfl⟩
theorem eX10_hasCell_2 : DD cX10_hasCell 2 (.invokevirtual 132) 3 5 := ⟨by decide +kernel, rfl⟩
theorem eX10_hasCell_5 : DB cX10_hasCell 5 (.ifCond .eq 24) (24) 8 29 := ⟨by decide +kernel, rfl, by decide⟩
theorem eX10_hasCell_8 : DD cX10_hasCell 8 (.aload_n 0) 1 9 := ⟨by decide +kernel, rfl⟩
theorem eX10_hasCell_9 : DD cX10_hasCell 9 (.getfield 26) 3 12 := ⟨by decide +kernel, rfl⟩
theorem eX10_hasCell_12 : DD cX10_hasCell 12 (.getfield 143) 3 15 := ⟨by decide +kernel, rfl⟩
theorem eX10_hasCell_15 : DD cX10_hasCell 15 (.iload_n 1) 1 16 := ⟨by decide +kernel, rfl⟩
theorem eX10_hasCell_16 : DD cX10_hasCell 16 (.aaload) 1 17 := ⟨by decide +kernel, rfl⟩
theorem eX10_hasCell_17 : DD cX10_hasCell 17 (.iload_n 2) 1 18 := ⟨by decide +kernel, rfl⟩
theorem eX10_hasCell_18 : DD cX10_hasCell 18 (.iload_n 3) 1 19 := ⟨by decide +kernel, rfl⟩
theorem eX10_hasCell_19 : DD cX10_hasCell 19 (.invokevirtual 402) 3 22 := ⟨by decide +kernel, rfl⟩
theorem eX10_hasCell_22 : DB cX10_hasCell 22 (.ifCond .eq 7) (7) 25 29 := ⟨by decide +kernel, rfl, by decide⟩
theorem eX10_hasCell_25 : DD cX10_hasCell 25 (.iconst 1) 1 26 := ⟨by decide +kernel, rfl⟩
theorem eX10_hasCell_26 : DB cX10_hasCell 26 (.goto 4) (4) 29 30 := ⟨by decide +kernel, rfl, by decide⟩
theorem eX10_hasCell_29 : DD cX10_hasCell 29 (.iconst 0) 1 30 := ⟨by decide +kernel, rfl⟩
theorem eX10_hasCell_30 : DD cX10_hasCell 30 (.ireturn) 1 31 := ⟨by decide +kernel, rfl⟩
def G_X10_hasCell (x1 : Int32) (x2 : Int32) (x3 : Int32) (μ : Mem) : Option (Int32 × Mem) :=
  bd (G_X10_hasTable x1 μ) (fun r_2 μ_1 => if r_2 = 0 then some ((0 : Int32), μ_1) else gq (inB x1 3) (bd (G_X7_hasCell (shP 8 x1) x2 x3 μ_1) (fun r_5 μ_4 => if r_5 = 0 then some ((0 : Int32), μ_4) else some ((1 : Int32), μ_4))))
set_option maxHeartbeats 4000000 in
theorem c_X10_hasCell {X : Wd} (hX : WdOk X) (x1 : Int32) (x2 : Int32) (x3 : Int32) (μ : Mem) : CtI X yX10_hasCell cX10_hasCell 4 (some .boolean) (rmF 1 22) [.ref (xad X 0), .int x1, .int x2, .int x3] μ (G_X10_hasCell x1 x2 x3 μ) := by
  refine CtI.of hX (plainFor_of_name (by decide)) (by exact Nat.le_of_ble_eq_true rfl) ?_
  intro C hCX hC hr
  subst hCX
  show J C (KI C) μ 0 [(0, .ref (xad (cX C) 0)), (1, .int x1), (2, .int x2), (3, .int x3)] [] _
  unfold G_X10_hasCell
  refine J.aload_n (j := 0) hC eX10_hasCell_0 rfl ?_
  refine J.iload_n (j := 1) hC eX10_hasCell_1 rfl ?_
  refine J.callVI (st := []) hC eX10_hasCell_2 kk_0 (by decide) rfl rfl ml_X10_132 mv_X10_hasTable (Rle_of (Nat.le_of_ble_eq_true rfl) (Nat.le_of_ble_eq_true rfl)) (c_X10_hasTable hC.X x1 μ) rfl rfl (Nat.le_of_ble_eq_true rfl) (fun r_2 μ_1 => ?_)
  refine J.if_eq hC eX10_hasCell_5 (fun _ => ?_) (fun _ => ?_)
  · refine J.iconst hC eX10_hasCell_29 ci_0 ?_
    exact J.zretB hC hr eX10_hasCell_30 rfl
  · refine J.aload_n (j := 0) hC eX10_hasCell_8 rfl ?_
    refine gf_X10_26 (q := 7) hC eX10_hasCell_9 kk_0 rfl ?_
    refine gf_X10_143 (q := 8) hC eX10_hasCell_12 kk_7 rfl ?_
    refine J.iload_n (j := 1) hC eX10_hasCell_15 rfl ?_
    refine J.aaldS hC eX10_hasCell_16 kk_8 (fun hq_3 => ?_)
    refine J.iload_n (j := 2) hC eX10_hasCell_17 rfl ?_
    refine J.iload_n (j := 3) hC eX10_hasCell_18 rfl ?_
    refine J.callVI (st := []) hC eX10_hasCell_19 hq_3 (by decide) rfl rfl ml_X10_402 mv_X7_hasCell (Rle_of (Nat.le_of_ble_eq_true rfl) (Nat.le_of_ble_eq_true rfl)) (c_X7_hasCell hC.X (shP 8 x1) hq_3 x2 x3 μ_1) rfl rfl (Nat.le_of_ble_eq_true rfl) (fun r_5 μ_4 => ?_)
    refine J.if_eq hC eX10_hasCell_22 (fun _ => ?_) (fun _ => ?_)
    · refine J.iconst hC eX10_hasCell_29 ci_0 ?_
      exact J.zretB hC hr eX10_hasCell_30 rfl
    · refine J.iconst hC eX10_hasCell_25 ci_1 ?_
      refine J.goto hC eX10_hasCell_26 ?_
      exact J.zretB hC hr eX10_hasCell_30 rfl
-- X10_rows
theorem eX10_rows_0 : DD cX10_rows 0 (.aload_n 0) 1 1 := ⟨by decide +kernel, rfl⟩
theorem eX10_rows_1 : DD cX10_rows 1 (.iload_n 1) 1 2 := ⟨by decide +kernel, rfl⟩
theorem eX10_rows_2 : DD cX10_rows 2 (.iload_n 2) 1 3 := ⟨by decide +kernel, rfl⟩
theorem eX10_rows_3 : DD cX10_rows 3 (.iload_n 3) 1 4 := ⟨by decide +kernel, rfl⟩
theorem eX10_rows_4 : DD cX10_rows 4 (.invokevirtual 162) 3 7 := ⟨by decide +kernel, rfl⟩
theorem eX10_rows_7 : DB cX10_rows 7 (.ifCond .eq 20) (20) 10 27 := ⟨by decide +kernel, rfl, by decide⟩
theorem eX10_rows_10 : DD cX10_rows 10 (.aload_n 0) 1 11 := ⟨by decide +kernel, rfl⟩
theorem eX10_rows_11 : DD cX10_rows 11 (.getfield 26) 3 14 := ⟨by decide +kernel, rfl⟩
theorem eX10_rows_14 : DD cX10_rows 14 (.getfield 143) 3 17 := ⟨by decide +kernel, rfl⟩
theorem eX10_rows_17 : DD cX10_rows 17 (.iload_n 1) 1 18 := ⟨by decide +kernel, rfl⟩
theorem eX10_rows_18 : DD cX10_rows 18 (.aaload) 1 19 := ⟨by decide +kernel, rfl⟩
theorem eX10_rows_19 : DD cX10_rows 19 (.iload_n 2) 1 20 := ⟨by decide +kernel, rfl⟩
theorem eX10_rows_20 : DD cX10_rows 20 (.iload_n 3) 1 21 := ⟨by decide +kernel, rfl⟩
theorem eX10_rows_21 : DD cX10_rows 21 (.invokevirtual 166) 3 24 := ⟨by decide +kernel, rfl⟩
theorem eX10_rows_24 : DB cX10_rows 24 (.goto 4) (4) 27 28 := ⟨by decide +kernel, rfl, by decide⟩
theorem eX10_rows_27 : DD cX10_rows 27 (.iconst (-1)) 1 28 := ⟨by decide +kernel, rfl⟩
theorem eX10_rows_28 : DD cX10_rows 28 (.ireturn) 1 29 := ⟨by decide +kernel, rfl⟩
def G_X10_rows (x1 : Int32) (x2 : Int32) (x3 : Int32) (μ : Mem) : Option (Int32 × Mem) :=
  bd (G_X10_hasCell x1 x2 x3 μ) (fun r_2 μ_1 => if r_2 = 0 then some ((-1 : Int32), μ_1) else gq (inB x1 3) (bd (G_X7_alike (shP 8 x1) x2 x3 μ_1) (fun r_5 μ_4 => some (r_5, μ_4))))
set_option maxHeartbeats 4000000 in
theorem c_X10_rows {X : Wd} (hX : WdOk X) (x1 : Int32) (x2 : Int32) (x3 : Int32) (μ : Mem) : CtI X yX10_rows cX10_rows 4 (some .int) (rmF 2 45) [.ref (xad X 0), .int x1, .int x2, .int x3] μ (G_X10_rows x1 x2 x3 μ) := by
  refine CtI.of hX (plainFor_of_name (by decide)) (by exact Nat.le_of_ble_eq_true rfl) ?_
  intro C hCX hC hr
  subst hCX
  show J C (KI C) μ 0 [(0, .ref (xad (cX C) 0)), (1, .int x1), (2, .int x2), (3, .int x3)] [] _
  unfold G_X10_rows
  refine J.aload_n (j := 0) hC eX10_rows_0 rfl ?_
  refine J.iload_n (j := 1) hC eX10_rows_1 rfl ?_
  refine J.iload_n (j := 2) hC eX10_rows_2 rfl ?_
  refine J.iload_n (j := 3) hC eX10_rows_3 rfl ?_
  refine J.callVI (st := []) hC eX10_rows_4 kk_0 (by decide) rfl rfl ml_X10_162 mv_X10_hasCell (Rle_of (Nat.le_of_ble_eq_true rfl) (Nat.le_of_ble_eq_true rfl)) (c_X10_hasCell hC.X x1 x2 x3 μ) rfl rfl (Nat.le_of_ble_eq_true rfl) (fun r_2 μ_1 => ?_)
  refine J.if_eq hC eX10_rows_7 (fun _ => ?_) (fun _ => ?_)
  · refine J.iconst hC eX10_rows_27 ci_m1 ?_
    exact J.iret hC hr eX10_rows_28
  · refine J.aload_n (j := 0) hC eX10_rows_10 rfl ?_
    refine gf_X10_26 (q := 7) hC eX10_rows_11 kk_0 rfl ?_
    refine gf_X10_143 (q := 8) hC eX10_rows_14 kk_7 rfl ?_
    refine J.iload_n (j := 1) hC eX10_rows_17 rfl ?_
    refine J.aaldS hC eX10_rows_18 kk_8 (fun hq_3 => ?_)
    refine J.iload_n (j := 2) hC eX10_rows_19 rfl ?_
    refine J.iload_n (j := 3) hC eX10_rows_20 rfl ?_
    refine J.callVI (st := []) hC eX10_rows_21 hq_3 (by decide) rfl rfl ml_X10_166 mv_X7_alike (Rle_of (Nat.le_of_ble_eq_true rfl) (Nat.le_of_ble_eq_true rfl)) (c_X7_alike hC.X (shP 8 x1) hq_3 x2 x3 μ_1) rfl rfl (Nat.le_of_ble_eq_true rfl) (fun r_5 μ_4 => ?_)
    refine J.goto hC eX10_rows_24 ?_
    exact J.iret hC hr eX10_rows_28
-- X10_hasColumn
theorem eX10_hasColumn_0 : DD cX10_hasColumn 0 (.aload_n 0) 1 1 := ⟨by decide +kernel, rfl⟩
theorem eX10_hasColumn_1 : DD cX10_hasColumn 1 (.iload_n 1) 1 2 := ⟨by decide +kernel, rfl⟩
theorem eX10_hasColumn_2 : DD cX10_hasColumn 2 (.invokevirtual 132) 3 5 := ⟨by decide +kernel, rfl⟩
theorem eX10_hasColumn_5 : DB cX10_hasColumn 5 (.ifCond .eq 16) (16) 8 21 := ⟨by decide +kernel, rfl, by decide⟩
theorem eX10_hasColumn_8 : DD cX10_hasColumn 8 (.iload_n 2) 1 9 := ⟨by decide +kernel, rfl⟩
theorem eX10_hasColumn_9 : DB cX10_hasColumn 9 (.ifCond .lt 12) (12) 12 21 := ⟨by decide +kernel, rfl, by decide⟩
theorem eX10_hasColumn_12 : DD cX10_hasColumn 12 (.iload_n 2) 1 13 := ⟨by decide +kernel, rfl⟩
theorem eX10_hasColumn_13 : DD cX10_hasColumn 13 (.iconst 2) 1 14 := ⟨by decide +kernel, rfl⟩
theorem eX10_hasColumn_14 : DB cX10_hasColumn 14 (.if_icmp .ge 7) (7) 17 21 := ⟨by decide +kernel, rfl, by decide⟩
theorem eX10_hasColumn_17 : DD cX10_hasColumn 17 (.iconst 1) 1 18 := ⟨by decide +kernel, rfl⟩
theorem eX10_hasColumn_18 : DB cX10_hasColumn 18 (.goto 4) (4) 21 22 := ⟨by decide +kernel, rfl, by decide⟩
theorem eX10_hasColumn_21 : DD cX10_hasColumn 21 (.iconst 0) 1 22 := ⟨by decide +kernel, rfl⟩
theorem eX10_hasColumn_22 : DD cX10_hasColumn 22 (.ireturn) 1 23 := ⟨by decide +kernel, rfl⟩
def G_X10_hasColumn (x1 : Int32) (x2 : Int32) (μ : Mem) : Option (Int32 × Mem) :=
  bd (G_X10_hasTable x1 μ) (fun r_2 μ_1 => if r_2 = 0 then some ((0 : Int32), μ_1) else if x2 < 0 then some ((0 : Int32), μ_1) else if (2 : Int32) ≤ x2 then some ((0 : Int32), μ_1) else some ((1 : Int32), μ_1))
set_option maxHeartbeats 4000000 in
theorem c_X10_hasColumn {X : Wd} (hX : WdOk X) (x1 : Int32) (x2 : Int32) (μ : Mem) : CtI X yX10_hasColumn cX10_hasColumn 3 (some .boolean) (rmF 1 21) [.ref (xad X 0), .int x1, .int x2] μ (G_X10_hasColumn x1 x2 μ) := by
  refine CtI.of hX (plainFor_of_name (by decide)) (by exact Nat.le_of_ble_eq_true rfl) ?_
  intro C hCX hC hr
  subst hCX
  show J C (KI C) μ 0 [(0, .ref (xad (cX C) 0)), (1, .int x1), (2, .int x2)] [] _
  unfold G_X10_hasColumn
  refine J.aload_n (j := 0) hC eX10_hasColumn_0 rfl ?_
  refine J.iload_n (j := 1) hC eX10_hasColumn_1 rfl ?_
  refine J.callVI (st := []) hC eX10_hasColumn_2 kk_0 (by decide) rfl rfl ml_X10_132 mv_X10_hasTable (Rle_of (Nat.le_of_ble_eq_true rfl) (Nat.le_of_ble_eq_true rfl)) (c_X10_hasTable hC.X x1 μ) rfl rfl (Nat.le_of_ble_eq_true rfl) (fun r_2 μ_1 => ?_)
  refine J.if_eq hC eX10_hasColumn_5 (fun _ => ?_) (fun _ => ?_)
  · refine J.iconst hC eX10_hasColumn_21 ci_0 ?_
    exact J.zretB hC hr eX10_hasColumn_22 rfl
  · refine J.iload_n (j := 2) hC eX10_hasColumn_8 rfl ?_
    refine J.if_lt hC eX10_hasColumn_9 (fun _ => ?_) (fun _ => ?_)
    · refine J.iconst hC eX10_hasColumn_21 ci_0 ?_
      exact J.zretB hC hr eX10_hasColumn_22 rfl
    · refine J.iload_n (j := 2) hC eX10_hasColumn_12 rfl ?_
      refine J.iconst hC eX10_hasColumn_13 ci_2 ?_
      refine J.icmp_ge hC eX10_hasColumn_14 (fun _ => ?_) (fun _ => ?_)
      · refine J.iconst hC eX10_hasColumn_21 ci_0 ?_
        exact J.zretB hC hr eX10_hasColumn_22 rfl
      · refine J.iconst hC eX10_hasColumn_17 ci_1 ?_
        refine J.goto hC eX10_hasColumn_18 ?_
        exact J.zretB hC hr eX10_hasColumn_22 rfl
-- X10_countOf
theorem eX10_countOf_0 : DD cX10_countOf 0 (.aload_n 0) 1 1 := ⟨by decide +kernel, rfl⟩
theorem eX10_countOf_1 : DD cX10_countOf 1 (.iload_n 1) 1 2 := ⟨by decide +kernel, rfl⟩
theorem eX10_countOf_2 : DD cX10_countOf 2 (.iload_n 2) 1 3 := ⟨by decide +kernel, rfl⟩
theorem eX10_countOf_3 : DD cX10_countOf 3 (.invokevirtual 170) 3 6 := ⟨by decide +kernel, rfl⟩
theorem eX10_countOf_6 : DB cX10_countOf 6 (.ifCond .ne 5) (5) 9 11 := ⟨by decide +kernel, rfl, by decide⟩
theorem eX10_countOf_9 : DD cX10_countOf 9 (.iconst (-1)) 1 10 := ⟨by decide +kernel, rfl⟩
theorem eX10_countOf_10 : DD cX10_countOf 10 (.ireturn) 1 11 := ⟨by decide +kernel, rfl⟩
theorem eX10_countOf_11 : DD cX10_countOf 11 (.aload_n 0) 1 12 := ⟨by decide +kernel, rfl⟩
theorem eX10_countOf_12 : DD cX10_countOf 12 (.getfield 26) 3 15 := ⟨by decide +kernel, rfl⟩
theorem eX10_countOf_15 : DD cX10_countOf 15 (.getfield 143) 3 18 := ⟨by decide +kernel, rfl⟩
theorem eX10_countOf_18 : DD cX10_countOf 18 (.iload_n 1) 1 19 := ⟨by decide +kernel, rfl⟩
theorem eX10_countOf_19 : DD cX10_countOf 19 (.aaload) 1 20 := ⟨by decide +kernel, rfl⟩
theorem eX10_countOf_20 : DD cX10_countOf 20 (.getfield 155) 3 23 := ⟨by decide +kernel, rfl⟩
theorem eX10_countOf_23 : DD cX10_countOf 23 (.iload_n 2) 1 24 := ⟨by decide +kernel, rfl⟩
theorem eX10_countOf_24 : DD cX10_countOf 24 (.aaload) 1 25 := ⟨by decide +kernel, rfl⟩
theorem eX10_countOf_25 : DD cX10_countOf 25 (.astore 4) 2 27 := ⟨by decide +kernel, rfl⟩
theorem eX10_countOf_27 : DD cX10_countOf 27 (.iload_n 3) 1 28 := ⟨by decide +kernel, rfl⟩
theorem eX10_countOf_28 : DB cX10_countOf 28 (.ifCond .lt 22) (22) 31 50 := ⟨by decide +kernel, rfl, by decide⟩
theorem eX10_countOf_31 : DD cX10_countOf 31 (.iload_n 3) 1 32 := ⟨by decide +kernel, rfl⟩
theorem eX10_countOf_32 : DD cX10_countOf 32 (.aload 4) 2 34 := ⟨by decide +kernel, rfl⟩
theorem eX10_countOf_34 : DD cX10_countOf 34 (.getfield 174) 3 37 := ⟨by decide +kernel, rfl⟩
theorem eX10_countOf_37 : DB cX10_countOf 37 (.if_icmp .ge 13) (13) 40 50 := ⟨by decide +kernel, rfl, by decide⟩
theorem eX10_countOf_40 : DD cX10_countOf 40 (.aload 4) 2 42 := ⟨by decide +kernel, rfl⟩
theorem eX10_countOf_42 : DD cX10_countOf 42 (.getfield 175) 3 45 := ⟨by decide +kernel, rfl⟩
theorem eX10_countOf_45 : DD cX10_countOf 45 (.iload_n 3) 1 46 := ⟨by decide +kernel, rfl⟩
theorem eX10_countOf_46 : DD cX10_countOf 46 (.iaload) 1 47 := ⟨by decide +kernel, rfl⟩
theorem eX10_countOf_47 : DB cX10_countOf 47 (.goto 4) (4) 50 51 := ⟨by decide +kernel, rfl, by decide⟩
theorem eX10_countOf_50 : DD cX10_countOf 50 (.iconst (-1)) 1 51 := ⟨by decide +kernel, rfl⟩
theorem eX10_countOf_51 : DD cX10_countOf 51 (.ireturn) 1 52 := ⟨by decide +kernel, rfl⟩
def G_X10_countOf (x1 : Int32) (x2 : Int32) (x3 : Int32) (μ : Mem) : Option (Int32 × Mem) :=
  bd (G_X10_hasColumn x1 x2 μ) (fun r_2 μ_1 => if r_2 = 0 then some ((-1 : Int32), μ_1) else gq (inB x1 3) (gq (inB x2 2) (if x3 < 0 then some ((-1 : Int32), μ_1) else if (rI μ_1 (lnP ((shP 8 x1) + 2) x2) 2) ≤ x3 then some ((-1 : Int32), μ_1) else gq (inB x3 16) (some (rI μ_1 ((lnP ((shP 8 x1) + 2) x2) + 1) (nx x3), μ_1)))))
set_option maxHeartbeats 4000000 in
theorem c_X10_countOf {X : Wd} (hX : WdOk X) (x1 : Int32) (x2 : Int32) (x3 : Int32) (μ : Mem) : CtI X yX10_countOf cX10_countOf 5 (some .int) (rmF 2 43) [.ref (xad X 0), .int x1, .int x2, .int x3] μ (G_X10_countOf x1 x2 x3 μ) := by
  refine CtI.of hX (plainFor_of_name (by decide)) (by exact Nat.le_of_ble_eq_true rfl) ?_
  intro C hCX hC hr
  subst hCX
  show J C (KI C) μ 0 [(0, .ref (xad (cX C) 0)), (1, .int x1), (2, .int x2), (3, .int x3)] [] _
  unfold G_X10_countOf
  refine J.aload_n (j := 0) hC eX10_countOf_0 rfl ?_
  refine J.iload_n (j := 1) hC eX10_countOf_1 rfl ?_
  refine J.iload_n (j := 2) hC eX10_countOf_2 rfl ?_
  refine J.callVI (st := []) hC eX10_countOf_3 kk_0 (by decide) rfl rfl ml_X10_170 mv_X10_hasColumn (Rle_of (Nat.le_of_ble_eq_true rfl) (Nat.le_of_ble_eq_true rfl)) (c_X10_hasColumn hC.X x1 x2 μ) rfl rfl (Nat.le_of_ble_eq_true rfl) (fun r_2 μ_1 => ?_)
  refine J.if_ne hC eX10_countOf_6 (fun _ => ?_) (fun _ => ?_)
  · refine J.iconst hC eX10_countOf_9 ci_m1 ?_
    exact J.iret hC hr eX10_countOf_10
  · refine J.aload_n (j := 0) hC eX10_countOf_11 rfl ?_
    refine gf_X10_26 (q := 7) hC eX10_countOf_12 kk_0 rfl ?_
    refine gf_X10_143 (q := 8) hC eX10_countOf_15 kk_7 rfl ?_
    refine J.iload_n (j := 1) hC eX10_countOf_18 rfl ?_
    refine J.aaldS hC eX10_countOf_19 kk_8 (fun hq_3 => ?_)
    refine gf_X10_155 (q := (shP 8 x1) + 2) hC eX10_countOf_20 hq_3 rfl ?_
    refine J.iload_n (j := 2) hC eX10_countOf_23 rfl ?_
    refine J.aaldL hC eX10_countOf_24 (kf_X7_lanes hq_3) (fun hq_4 => ?_)
    refine J.astore [(4, .ref (xad (cX C) (lnP ((shP 8 x1) + 2) x2))), (0, .ref (xad (cX C) 0)), (1, .int x1), (2, .int x2), (3, .int x3)] hC eX10_countOf_25 (by decide) rfl ?_
    refine J.iload_n (j := 4) hC eX10_countOf_27 rfl ?_
    refine J.if_lt hC eX10_countOf_28 (fun _ => ?_) (fun _ => ?_)
    · refine J.iconst hC eX10_countOf_50 ci_m1 ?_
      exact J.iret hC hr eX10_countOf_51
    · refine J.iload_n (j := 4) hC eX10_countOf_31 rfl ?_
      refine J.aload (j := 0) hC eX10_countOf_32 rfl ?_
      refine gf_X10_174 hC eX10_countOf_34 hq_4 ?_
      refine J.icmp_ge hC eX10_countOf_37 (fun _ => ?_) (fun _ => ?_)
      · refine J.iconst hC eX10_countOf_50 ci_m1 ?_
        exact J.iret hC hr eX10_countOf_51
      · refine J.aload (j := 0) hC eX10_countOf_40 rfl ?_
        refine gf_X10_175 (q := (lnP ((shP 8 x1) + 2) x2) + 1) hC eX10_countOf_42 hq_4 rfl ?_
        refine J.iload_n (j := 4) hC eX10_countOf_45 rfl ?_
        refine J.iald ik_16 hC eX10_countOf_46 (kf_X4_counts hq_4) ?_
        refine J.goto hC eX10_countOf_47 ?_
        exact J.iret hC hr eX10_countOf_51
-- X10_bucket
theorem eX10_bucket_0 : DD cX10_bucket 0 (.aload_n 0) 1 1 := ⟨by decide +kernel, rfl⟩
theorem eX10_bucket_1 : DD cX10_bucket 1 (.iload_n 1) 1 2 := ⟨by decide +kernel, rfl⟩
theorem eX10_bucket_2 : DD cX10_bucket 2 (.iload_n 2) 1 3 := ⟨by decide +kernel, rfl⟩
theorem eX10_bucket_3 : DD cX10_bucket 3 (.invokevirtual 170) 3 6 := ⟨by decide +kernel, rfl⟩
theorem eX10_bucket_6 : DB cX10_bucket 6 (.ifCond .ne 6) (6) 9 12 := ⟨by decide +kernel, rfl, by decide⟩
theorem eX10_bucket_9 : DD cX10_bucket 9 (.ldc 178) 2 11 := ⟨by decide +kernel, rfl⟩
theorem eX10_bucket_11 : DD cX10_bucket 11 (.ireturn) 1 12 := ⟨by decide +kernel, rfl⟩
theorem eX10_bucket_12 : DD cX10_bucket 12 (.aload_n 0) 1 13 := ⟨by decide +kernel, rfl⟩
theorem eX10_bucket_13 : DD cX10_bucket 13 (.getfield 26) 3 16 := ⟨by decide +kernel, rfl⟩
theorem eX10_bucket_16 : DD cX10_bucket 16 (.getfield 143) 3 19 := ⟨by decide +kernel, rfl⟩
theorem eX10_bucket_19 : DD cX10_bucket 19 (.iload_n 1) 1 20 := ⟨by decide +kernel, rfl⟩
theorem eX10_bucket_20 : DD cX10_bucket 20 (.aaload) 1 21 := ⟨by decide +kernel, rfl⟩
theorem eX10_bucket_21 : DD cX10_bucket 21 (.getfield 155) 3 24 := ⟨by decide +kernel, rfl⟩
theorem eX10_bucket_24 : DD cX10_bucket 24 (.iload_n 2) 1 25 := ⟨by decide +kernel, rfl⟩
theorem eX10_bucket_25 : DD cX10_bucket 25 (.aaload) 1 26 := ⟨by decide +kernel, rfl⟩
theorem eX10_bucket_26 : DD cX10_bucket 26 (.astore 5) 2 28 := ⟨by decide +kernel, rfl⟩
theorem eX10_bucket_28 : DD cX10_bucket 28 (.iload_n 3) 1 29 := ⟨by decide +kernel, rfl⟩
theorem eX10_bucket_29 : DB cX10_bucket 29 (.ifCond .lt 12) (12) 32 41 := ⟨by decide +kernel, rfl, by decide⟩
theorem eX10_bucket_32 : DD cX10_bucket 32 (.iload_n 3) 1 33 := ⟨by decide +kernel, rfl⟩
theorem eX10_bucket_33 : DD cX10_bucket 33 (.aload 5) 2 35 := ⟨by decide +kernel, rfl⟩
theorem eX10_bucket_35 : DD cX10_bucket 35 (.invokevirtual 179) 3 38 := ⟨by decide +kernel, rfl⟩
theorem eX10_bucket_38 : DB cX10_bucket 38 (.if_icmp .lt 6) (6) 41 44 := ⟨by decide +kernel, rfl, by decide⟩
theorem eX10_bucket_41 : DD cX10_bucket 41 (.ldc 178) 2 43 := ⟨by decide +kernel, rfl⟩
theorem eX10_bucket_43 : DD cX10_bucket 43 (.ireturn) 1 44 := ⟨by decide +kernel, rfl⟩
theorem eX10_bucket_44 : DD cX10_bucket 44 (.iload 4) 2 46 := ⟨by decide +kernel, rfl⟩
theorem eX10_bucket_46 : decode cX10_bucket 46 = .ok (.tableswitch 58 0 3 #[30, 37, 44, 51], 30) := by decide +kernel
theorem eX10_bucket_76 : DD cX10_bucket 76 (.aload 5) 2 78 := ⟨by decide +kernel, rfl⟩
theorem eX10_bucket_78 : DD cX10_bucket 78 (.iload_n 3) 1 79 := ⟨by decide +kernel, rfl⟩
theorem eX10_bucket_79 : DD cX10_bucket 79 (.invokevirtual 182) 3 82 := ⟨by decide +kernel, rfl⟩
theorem eX10_bucket_82 : DD cX10_bucket 82 (.ireturn) 1 83 := ⟨by decide +kernel, rfl⟩
theorem eX10_bucket_83 : DD cX10_bucket 83 (.aload 5) 2 85 := ⟨by decide +kernel, rfl⟩
theorem eX10_bucket_85 : DD cX10_bucket 85 (.iload_n 3) 1 86 := ⟨by decide +kernel, rfl⟩
theorem eX10_bucket_86 : DD cX10_bucket 86 (.invokevirtual 185) 3 89 := ⟨by decide +kernel, rfl⟩
theorem eX10_bucket_89 : DD cX10_bucket 89 (.ireturn) 1 90 := ⟨by decide +kernel, rfl⟩
theorem eX10_bucket_90 : DD cX10_bucket 90 (.aload 5) 2 92 := ⟨by decide +kernel, rfl⟩
theorem eX10_bucket_92 : DD cX10_bucket 92 (.iload_n 3) 1 93 := ⟨by decide +kernel, rfl⟩
theorem eX10_bucket_93 : DD cX10_bucket 93 (.invokevirtual 188) 3 96 := ⟨by decide +kernel, rfl⟩
theorem eX10_bucket_96 : DD cX10_bucket 96 (.ireturn) 1 97 := ⟨by decide +kernel, rfl⟩
theorem eX10_bucket_97 : DD cX10_bucket 97 (.aload 5) 2 99 := ⟨by decide +kernel, rfl⟩
theorem eX10_bucket_99 : DD cX10_bucket 99 (.iload_n 3) 1 100 := ⟨by decide +kernel, rfl⟩
theorem eX10_bucket_100 : DD cX10_bucket 100 (.invokevirtual 191) 3 103 := ⟨by decide +kernel, rfl⟩
theorem eX10_bucket_103 : DD cX10_bucket 103 (.ireturn) 1 104 := ⟨by decide +kernel, rfl⟩
theorem eX10_bucket_104 : DD cX10_bucket 104 (.ldc 178) 2 106 := ⟨by decide +kernel, rfl⟩
theorem eX10_bucket_106 : DD cX10_bucket 106 (.ireturn) 1 107 := ⟨by decide +kernel, rfl⟩
def G_X10_bucket (x1 : Int32) (x2 : Int32) (x3 : Int32) (x4 : Int32) (μ : Mem) : Option (Int32 × Mem) :=
  bd (G_X10_hasColumn x1 x2 μ) (fun r_2 μ_1 => if r_2 = 0 then some ((-1000000 : Int32), μ_1) else gq (inB x1 3) (gq (inB x2 2) (if x3 < 0 then some ((-1000000 : Int32), μ_1) else bd (G_X4_size (lnP ((shP 8 x1) + 2) x2) μ_1) (fun r_6 μ_5 => if x3 < r_6 then if x4 = (0 : Int32) then bd (G_X4_firstOf (lnP ((shP 8 x1) + 2) x2) x3 μ_5) (fun r_9 μ_8 => some (r_9, μ_8)) else (if x4 = (1 : Int32) then bd (G_X4_lastOf (lnP ((shP 8 x1) + 2) x2) x3 μ_5) (fun r_12 μ_11 => some (r_12, μ_11)) else (if x4 = (2 : Int32) then bd (G_X4_totalOf (lnP ((shP 8 x1) + 2) x2) x3 μ_5) (fun r_15 μ_14 => some (r_15, μ_14)) else (if x4 = (3 : Int32) then bd (G_X4_greatestOf (lnP ((shP 8 x1) + 2) x2) x3 μ_5) (fun r_18 μ_17 => some (r_18, μ_17)) else (some ((-1000000 : Int32), μ_5))))) else some ((-1000000 : Int32), μ_5)))))
set_option maxHeartbeats 4000000 in
theorem c_X10_bucket {X : Wd} (hX : WdOk X) (x1 : Int32) (x2 : Int32) (x3 : Int32) (x4 : Int32) (μ : Mem) : CtI X yX10_bucket cX10_bucket 6 (some .int) (rmF 2 43) [.ref (xad X 0), .int x1, .int x2, .int x3, .int x4] μ (G_X10_bucket x1 x2 x3 x4 μ) := by
  refine CtI.of hX (plainFor_of_name (by decide)) (by exact Nat.le_of_ble_eq_true rfl) ?_
  intro C hCX hC hr
  subst hCX
  show J C (KI C) μ 0 [(0, .ref (xad (cX C) 0)), (1, .int x1), (2, .int x2), (3, .int x3), (4, .int x4)] [] _
  unfold G_X10_bucket
  refine J.aload_n (j := 0) hC eX10_bucket_0 rfl ?_
  refine J.iload_n (j := 1) hC eX10_bucket_1 rfl ?_
  refine J.iload_n (j := 2) hC eX10_bucket_2 rfl ?_
  refine J.callVI (st := []) hC eX10_bucket_3 kk_0 (by decide) rfl rfl ml_X10_170 mv_X10_hasColumn (Rle_of (Nat.le_of_ble_eq_true rfl) (Nat.le_of_ble_eq_true rfl)) (c_X10_hasColumn hC.X x1 x2 μ) rfl rfl (Nat.le_of_ble_eq_true rfl) (fun r_2 μ_1 => ?_)
  refine J.if_ne hC eX10_bucket_6 (fun _ => ?_) (fun _ => ?_)
  · refine J.ldc hC eX10_bucket_9 mk_X10_178 ?_
    exact J.iret hC hr eX10_bucket_11
  · refine J.aload_n (j := 0) hC eX10_bucket_12 rfl ?_
    refine gf_X10_26 (q := 7) hC eX10_bucket_13 kk_0 rfl ?_
    refine gf_X10_143 (q := 8) hC eX10_bucket_16 kk_7 rfl ?_
    refine J.iload_n (j := 1) hC eX10_bucket_19 rfl ?_
    refine J.aaldS hC eX10_bucket_20 kk_8 (fun hq_3 => ?_)
    refine gf_X10_155 (q := (shP 8 x1) + 2) hC eX10_bucket_21 hq_3 rfl ?_
    refine J.iload_n (j := 2) hC eX10_bucket_24 rfl ?_
    refine J.aaldL hC eX10_bucket_25 (kf_X7_lanes hq_3) (fun hq_4 => ?_)
    refine J.astore [(5, .ref (xad (cX C) (lnP ((shP 8 x1) + 2) x2))), (0, .ref (xad (cX C) 0)), (1, .int x1), (2, .int x2), (3, .int x3), (4, .int x4)] hC eX10_bucket_26 (by decide) rfl ?_
    refine J.iload_n (j := 4) hC eX10_bucket_28 rfl ?_
    refine J.if_lt hC eX10_bucket_29 (fun _ => ?_) (fun _ => ?_)
    · refine J.ldc hC eX10_bucket_41 mk_X10_178 ?_
      exact J.iret hC hr eX10_bucket_43
    · refine J.iload_n (j := 4) hC eX10_bucket_32 rfl ?_
      refine J.aload (j := 0) hC eX10_bucket_33 rfl ?_
      refine J.callVI (st := [.int x3]) hC eX10_bucket_35 hq_4 (by decide) rfl rfl ml_X10_179 mv_X4_size (Rle_of (Nat.le_of_ble_eq_true rfl) (Nat.le_of_ble_eq_true rfl)) (c_X4_size hC.X (lnP ((shP 8 x1) + 2) x2) hq_4 μ_1) rfl rfl (Nat.le_of_ble_eq_true rfl) (fun r_6 μ_5 => ?_)
      refine J.icmp_lt hC eX10_bucket_38 (fun _ => ?_) (fun _ => ?_)
      · refine J.iload (j := 5) hC eX10_bucket_44 rfl ?_
        refine J.ite (fun h_7 => ?_) (fun h_7 => ?_)
        · refine J.tsI (off := 30) (tgt := 76) hC eX10_bucket_46 (by rw [h_7]; decide) (by rw [h_7]; decide) (by rw [h_7]; rfl) (by decide) ?_
          refine J.aload (j := 0) hC eX10_bucket_76 rfl ?_
          refine J.iload_n (j := 4) hC eX10_bucket_78 rfl ?_
          refine J.callVI (st := []) hC eX10_bucket_79 hq_4 (by decide) rfl rfl ml_X10_182 mv_X4_firstOf (Rle_of (Nat.le_of_ble_eq_true rfl) (Nat.le_of_ble_eq_true rfl)) (c_X4_firstOf hC.X (lnP ((shP 8 x1) + 2) x2) hq_4 x3 μ_5) rfl rfl (Nat.le_of_ble_eq_true rfl) (fun r_9 μ_8 => ?_)
          exact J.iret hC hr eX10_bucket_82
        refine J.ite (fun h_10 => ?_) (fun h_10 => ?_)
        · refine J.tsI (off := 37) (tgt := 83) hC eX10_bucket_46 (by rw [h_10]; decide) (by rw [h_10]; decide) (by rw [h_10]; rfl) (by decide) ?_
          refine J.aload (j := 0) hC eX10_bucket_83 rfl ?_
          refine J.iload_n (j := 4) hC eX10_bucket_85 rfl ?_
          refine J.callVI (st := []) hC eX10_bucket_86 hq_4 (by decide) rfl rfl ml_X10_185 mv_X4_lastOf (Rle_of (Nat.le_of_ble_eq_true rfl) (Nat.le_of_ble_eq_true rfl)) (c_X4_lastOf hC.X (lnP ((shP 8 x1) + 2) x2) hq_4 x3 μ_5) rfl rfl (Nat.le_of_ble_eq_true rfl) (fun r_12 μ_11 => ?_)
          exact J.iret hC hr eX10_bucket_89
        refine J.ite (fun h_13 => ?_) (fun h_13 => ?_)
        · refine J.tsI (off := 44) (tgt := 90) hC eX10_bucket_46 (by rw [h_13]; decide) (by rw [h_13]; decide) (by rw [h_13]; rfl) (by decide) ?_
          refine J.aload (j := 0) hC eX10_bucket_90 rfl ?_
          refine J.iload_n (j := 4) hC eX10_bucket_92 rfl ?_
          refine J.callVI (st := []) hC eX10_bucket_93 hq_4 (by decide) rfl rfl ml_X10_188 mv_X4_totalOf (Rle_of (Nat.le_of_ble_eq_true rfl) (Nat.le_of_ble_eq_true rfl)) (c_X4_totalOf hC.X (lnP ((shP 8 x1) + 2) x2) hq_4 x3 μ_5) rfl rfl (Nat.le_of_ble_eq_true rfl) (fun r_15 μ_14 => ?_)
          exact J.iret hC hr eX10_bucket_96
        refine J.ite (fun h_16 => ?_) (fun h_16 => ?_)
        · refine J.tsI (off := 51) (tgt := 97) hC eX10_bucket_46 (by rw [h_16]; decide) (by rw [h_16]; decide) (by rw [h_16]; rfl) (by decide) ?_
          refine J.aload (j := 0) hC eX10_bucket_97 rfl ?_
          refine J.iload_n (j := 4) hC eX10_bucket_99 rfl ?_
          refine J.callVI (st := []) hC eX10_bucket_100 hq_4 (by decide) rfl rfl ml_X10_191 mv_X4_greatestOf (Rle_of (Nat.le_of_ble_eq_true rfl) (Nat.le_of_ble_eq_true rfl)) (c_X4_greatestOf hC.X (lnP ((shP 8 x1) + 2) x2) hq_4 x3 μ_5) rfl rfl (Nat.le_of_ble_eq_true rfl) (fun r_18 μ_17 => ?_)
          exact J.iret hC hr eX10_bucket_103
        refine J.tsO (tgt := 104) hC eX10_bucket_46 (by have th_7 := lv_neT h_7 (show ((0 : Int32)).toInt = 0 from rfl); have th_10 := lv_neT h_10 (show ((1 : Int32)).toInt = 1 from rfl); have th_13 := lv_neT h_13 (show ((2 : Int32)).toInt = 2 from rfl); have th_16 := lv_neT h_16 (show ((3 : Int32)).toInt = 3 from rfl); omega) (by decide) ?_
        refine J.ldc hC eX10_bucket_104 mk_X10_178 ?_
        exact J.iret hC hr eX10_bucket_106
      · refine J.ldc hC eX10_bucket_41 mk_X10_178 ?_
        exact J.iret hC hr eX10_bucket_43
-- X10_column
theorem eX10_column_0 : DD cX10_column 0 (.aload_n 0) 1 1 := ⟨by decide +kernel, rfl⟩
theorem eX10_column_1 : DD cX10_column 1 (.iload_n 1) 1 2 := ⟨by decide +kernel, rfl⟩
theorem eX10_column_2 : DD cX10_column 2 (.iload_n 2) 1 3 := ⟨by decide +kernel, rfl⟩
theorem eX10_column_3 : DD cX10_column 3 (.invokevirtual 170) 3 6 := ⟨by decide +kernel, rfl⟩
theorem eX10_column_6 : DB cX10_column 6 (.ifCond .ne 5) (5) 9 11 := ⟨by decide +kernel, rfl, by decide⟩
theorem eX10_column_9 : DD cX10_column 9 (.iconst (-1)) 1 10 := ⟨by decide +kernel, rfl⟩
theorem eX10_column_10 : DD cX10_column 10 (.ireturn) 1 11 := ⟨by decide +kernel, rfl⟩
theorem eX10_column_11 : DD cX10_column 11 (.aload_n 0) 1 12 := ⟨by decide +kernel, rfl⟩
theorem eX10_column_12 : DD cX10_column 12 (.getfield 26) 3 15 := ⟨by decide +kernel, rfl⟩
theorem eX10_column_15 : DD cX10_column 15 (.getfield 143) 3 18 := ⟨by decide +kernel, rfl⟩
theorem eX10_column_18 : DD cX10_column 18 (.iload_n 1) 1 19 := ⟨by decide +kernel, rfl⟩
theorem eX10_column_19 : DD cX10_column 19 (.aaload) 1 20 := ⟨by decide +kernel, rfl⟩
theorem eX10_column_20 : DD cX10_column 20 (.getfield 155) 3 23 := ⟨by decide +kernel, rfl⟩
theorem eX10_column_23 : DD cX10_column 23 (.iload_n 2) 1 24 := ⟨by decide +kernel, rfl⟩
theorem eX10_column_24 : DD cX10_column 24 (.aaload) 1 25 := ⟨by decide +kernel, rfl⟩
theorem eX10_column_25 : DD cX10_column 25 (.astore 4) 2 27 := ⟨by decide +kernel, rfl⟩
theorem eX10_column_27 : DD cX10_column 27 (.iload_n 3) 1 28 := ⟨by decide +kernel, rfl⟩
theorem eX10_column_28 : decode cX10_column 28 = .ok (.tableswitch 68 0 3 #[32, 38, 44, 54], 32) := by decide +kernel
theorem eX10_column_60 : DD cX10_column 60 (.aload 4) 2 62 := ⟨by decide +kernel, rfl⟩
theorem eX10_column_62 : DD cX10_column 62 (.invokevirtual 179) 3 65 := ⟨by decide +kernel, rfl⟩
theorem eX10_column_65 : DD cX10_column 65 (.ireturn) 1 66 := ⟨by decide +kernel, rfl⟩
theorem eX10_column_66 : DD cX10_column 66 (.aload 4) 2 68 := ⟨by decide +kernel, rfl⟩
theorem eX10_column_68 : DD cX10_column 68 (.invokevirtual 194) 3 71 := ⟨by decide +kernel, rfl⟩
theorem eX10_column_71 : DD cX10_column 71 (.ireturn) 1 72 := ⟨by decide +kernel, rfl⟩
theorem eX10_column_72 : DD cX10_column 72 (.aload_n 0) 1 73 := ⟨by decide +kernel, rfl⟩
theorem eX10_column_73 : DD cX10_column 73 (.getfield 57) 3 76 := ⟨by decide +kernel, rfl⟩
theorem eX10_column_76 : DD cX10_column 76 (.aload 4) 2 78 := ⟨by decide +kernel, rfl⟩
theorem eX10_column_78 : DD cX10_column 78 (.invokevirtual 196) 3 81 := ⟨by decide +kernel, rfl⟩
theorem eX10_column_81 : DD cX10_column 81 (.ireturn) 1 82 := ⟨by decide +kernel, rfl⟩
theorem eX10_column_82 : DD cX10_column 82 (.aload_n 0) 1 83 := ⟨by decide +kernel, rfl⟩
theorem eX10_column_83 : DD cX10_column 83 (.getfield 26) 3 86 := ⟨by decide +kernel, rfl⟩
theorem eX10_column_86 : DD cX10_column 86 (.getfield 126) 3 89 := ⟨by decide +kernel, rfl⟩
theorem eX10_column_89 : DD cX10_column 89 (.aload 4) 2 91 := ⟨by decide +kernel, rfl⟩
theorem eX10_column_91 : DD cX10_column 91 (.invokevirtual 194) 3 94 := ⟨by decide +kernel, rfl⟩
theorem eX10_column_94 : DD cX10_column 94 (.isub) 1 95 := ⟨by decide +kernel, rfl⟩
theorem eX10_column_95 : DD cX10_column 95 (.ireturn) 1 96 := ⟨by decide +kernel, rfl⟩
theorem eX10_column_96 : DD cX10_column 96 (.iconst (-1)) 1 97 := ⟨by decide +kernel, rfl⟩
theorem eX10_column_97 : DD cX10_column 97 (.ireturn) 1 98 := ⟨by decide +kernel, rfl⟩
def G_X10_column (x1 : Int32) (x2 : Int32) (x3 : Int32) (μ : Mem) : Option (Int32 × Mem) :=
  bd (G_X10_hasColumn x1 x2 μ) (fun r_2 μ_1 => if r_2 = 0 then some ((-1 : Int32), μ_1) else gq (inB x1 3) (gq (inB x2 2) (if x3 = (0 : Int32) then bd (G_X4_size (lnP ((shP 8 x1) + 2) x2) μ_1) (fun r_7 μ_6 => some (r_7, μ_6)) else (if x3 = (1 : Int32) then bd (G_X4_drift (lnP ((shP 8 x1) + 2) x2) μ_1) (fun r_10 μ_9 => some (r_10, μ_9)) else (if x3 = (2 : Int32) then bd (G_X5_worstOf (lnP ((shP 8 x1) + 2) x2) μ_1) (fun r_13 μ_12 => some (r_13, μ_12)) else (if x3 = (3 : Int32) then bd (G_X4_drift (lnP ((shP 8 x1) + 2) x2) μ_1) (fun r_16 μ_15 => some ((rI μ_1 7 4) - r_16, μ_15)) else (some ((-1 : Int32), μ_1))))))))
set_option maxHeartbeats 4000000 in
theorem c_X10_column {X : Wd} (hX : WdOk X) (x1 : Int32) (x2 : Int32) (x3 : Int32) (μ : Mem) : CtI X yX10_column cX10_column 5 (some .int) (rmF 2 56) [.ref (xad X 0), .int x1, .int x2, .int x3] μ (G_X10_column x1 x2 x3 μ) := by
  refine CtI.of hX (plainFor_of_name (by decide)) (by exact Nat.le_of_ble_eq_true rfl) ?_
  intro C hCX hC hr
  subst hCX
  show J C (KI C) μ 0 [(0, .ref (xad (cX C) 0)), (1, .int x1), (2, .int x2), (3, .int x3)] [] _
  unfold G_X10_column
  refine J.aload_n (j := 0) hC eX10_column_0 rfl ?_
  refine J.iload_n (j := 1) hC eX10_column_1 rfl ?_
  refine J.iload_n (j := 2) hC eX10_column_2 rfl ?_
  refine J.callVI (st := []) hC eX10_column_3 kk_0 (by decide) rfl rfl ml_X10_170 mv_X10_hasColumn (Rle_of (Nat.le_of_ble_eq_true rfl) (Nat.le_of_ble_eq_true rfl)) (c_X10_hasColumn hC.X x1 x2 μ) rfl rfl (Nat.le_of_ble_eq_true rfl) (fun r_2 μ_1 => ?_)
  refine J.if_ne hC eX10_column_6 (fun _ => ?_) (fun _ => ?_)
  · refine J.iconst hC eX10_column_9 ci_m1 ?_
    exact J.iret hC hr eX10_column_10
  · refine J.aload_n (j := 0) hC eX10_column_11 rfl ?_
    refine gf_X10_26 (q := 7) hC eX10_column_12 kk_0 rfl ?_
    refine gf_X10_143 (q := 8) hC eX10_column_15 kk_7 rfl ?_
    refine J.iload_n (j := 1) hC eX10_column_18 rfl ?_
    refine J.aaldS hC eX10_column_19 kk_8 (fun hq_3 => ?_)
    refine gf_X10_155 (q := (shP 8 x1) + 2) hC eX10_column_20 hq_3 rfl ?_
    refine J.iload_n (j := 2) hC eX10_column_23 rfl ?_
    refine J.aaldL hC eX10_column_24 (kf_X7_lanes hq_3) (fun hq_4 => ?_)
    refine J.astore [(4, .ref (xad (cX C) (lnP ((shP 8 x1) + 2) x2))), (0, .ref (xad (cX C) 0)), (1, .int x1), (2, .int x2), (3, .int x3)] hC eX10_column_25 (by decide) rfl ?_
    refine J.iload_n (j := 4) hC eX10_column_27 rfl ?_
    refine J.ite (fun h_5 => ?_) (fun h_5 => ?_)
    · refine J.tsI (off := 32) (tgt := 60) hC eX10_column_28 (by rw [h_5]; decide) (by rw [h_5]; decide) (by rw [h_5]; rfl) (by decide) ?_
      refine J.aload (j := 0) hC eX10_column_60 rfl ?_
      refine J.callVI (st := []) hC eX10_column_62 hq_4 (by decide) rfl rfl ml_X10_179 mv_X4_size (Rle_of (Nat.le_of_ble_eq_true rfl) (Nat.le_of_ble_eq_true rfl)) (c_X4_size hC.X (lnP ((shP 8 x1) + 2) x2) hq_4 μ_1) rfl rfl (Nat.le_of_ble_eq_true rfl) (fun r_7 μ_6 => ?_)
      exact J.iret hC hr eX10_column_65
    refine J.ite (fun h_8 => ?_) (fun h_8 => ?_)
    · refine J.tsI (off := 38) (tgt := 66) hC eX10_column_28 (by rw [h_8]; decide) (by rw [h_8]; decide) (by rw [h_8]; rfl) (by decide) ?_
      refine J.aload (j := 0) hC eX10_column_66 rfl ?_
      refine J.callVI (st := []) hC eX10_column_68 hq_4 (by decide) rfl rfl ml_X10_194 mv_X4_drift (Rle_of (Nat.le_of_ble_eq_true rfl) (Nat.le_of_ble_eq_true rfl)) (c_X4_drift hC.X (lnP ((shP 8 x1) + 2) x2) hq_4 μ_1) rfl rfl (Nat.le_of_ble_eq_true rfl) (fun r_10 μ_9 => ?_)
      exact J.iret hC hr eX10_column_71
    refine J.ite (fun h_11 => ?_) (fun h_11 => ?_)
    · refine J.tsI (off := 44) (tgt := 72) hC eX10_column_28 (by rw [h_11]; decide) (by rw [h_11]; decide) (by rw [h_11]; rfl) (by decide) ?_
      refine J.aload_n (j := 1) hC eX10_column_72 rfl ?_
      refine gf_X10_57 (q := 99) hC eX10_column_73 kk_0 rfl ?_
      refine J.aload (j := 0) hC eX10_column_76 rfl ?_
      refine J.callVI (st := []) hC eX10_column_78 kk_99 (by decide) rfl rfl ml_X10_196 mv_X5_worstOf (Rle_of (Nat.le_of_ble_eq_true rfl) (Nat.le_of_ble_eq_true rfl)) (c_X5_worstOf hC.X (lnP ((shP 8 x1) + 2) x2) hq_4 μ_1) rfl rfl (Nat.le_of_ble_eq_true rfl) (fun r_13 μ_12 => ?_)
      exact J.iret hC hr eX10_column_81
    refine J.ite (fun h_14 => ?_) (fun h_14 => ?_)
    · refine J.tsI (off := 54) (tgt := 82) hC eX10_column_28 (by rw [h_14]; decide) (by rw [h_14]; decide) (by rw [h_14]; rfl) (by decide) ?_
      refine J.aload_n (j := 1) hC eX10_column_82 rfl ?_
      refine gf_X10_26 (q := 7) hC eX10_column_83 kk_0 rfl ?_
      refine gf_X10_126 hC eX10_column_86 kk_7 ?_
      refine J.aload (j := 0) hC eX10_column_89 rfl ?_
      refine J.callVI (st := [.int (rI μ_1 7 4)]) hC eX10_column_91 hq_4 (by decide) rfl rfl ml_X10_194 mv_X4_drift (Rle_of (Nat.le_of_ble_eq_true rfl) (Nat.le_of_ble_eq_true rfl)) (c_X4_drift hC.X (lnP ((shP 8 x1) + 2) x2) hq_4 μ_1) rfl rfl (Nat.le_of_ble_eq_true rfl) (fun r_16 μ_15 => ?_)
      refine J.isub hC eX10_column_94 ?_
      exact J.iret hC hr eX10_column_95
    refine J.tsO (tgt := 96) hC eX10_column_28 (by have th_5 := lv_neT h_5 (show ((0 : Int32)).toInt = 0 from rfl); have th_8 := lv_neT h_8 (show ((1 : Int32)).toInt = 1 from rfl); have th_11 := lv_neT h_11 (show ((2 : Int32)).toInt = 2 from rfl); have th_14 := lv_neT h_14 (show ((3 : Int32)).toInt = 3 from rfl); omega) (by decide) ?_
    refine J.iconst hC eX10_column_96 ci_m1 ?_
    exact J.iret hC hr eX10_column_97
-- X10_solve
theorem eX10_solve_0 : DD cX10_solve 0 (.aload_n 0) 1 1 := ⟨by decide +kernel, rfl⟩
theorem eX10_solve_1 : DD cX10_solve 1 (.iload_n 1) 1 2 := ⟨by decide +kernel, rfl⟩
theorem eX10_solve_2 : DD cX10_solve 2 (.iload_n 2) 1 3 := ⟨by decide +kernel, rfl⟩
theorem eX10_solve_3 : DD cX10_solve 3 (.invokevirtual 170) 3 6 := ⟨by decide +kernel, rfl⟩
theorem eX10_solve_6 : DB cX10_solve 6 (.ifCond .eq 24) (24) 9 30 := ⟨by decide +kernel, rfl, by decide⟩
theorem eX10_solve_9 : DD cX10_solve 9 (.iload_n 3) 1 10 := ⟨by decide +kernel, rfl⟩
theorem eX10_solve_10 : DD cX10_solve 10 (.iconst 1) 1 11 := ⟨by decide +kernel, rfl⟩
theorem eX10_solve_11 : DB cX10_solve 11 (.if_icmp .lt 19) (19) 14 30 := ⟨by decide +kernel, rfl, by decide⟩
theorem eX10_solve_14 : DD cX10_solve 14 (.iload_n 3) 1 15 := ⟨by decide +kernel, rfl⟩
theorem eX10_solve_15 : DD cX10_solve 15 (.aload_n 0) 1 16 := ⟨by decide +kernel, rfl⟩
theorem eX10_solve_16 : DD cX10_solve 16 (.getfield 26) 3 19 := ⟨by decide +kernel, rfl⟩
theorem eX10_solve_19 : DD cX10_solve 19 (.getfield 143) 3 22 := ⟨by decide +kernel, rfl⟩
theorem eX10_solve_22 : DD cX10_solve 22 (.iload_n 1) 1 23 := ⟨by decide +kernel, rfl⟩
theorem eX10_solve_23 : DD cX10_solve 23 (.aaload) 1 24 := ⟨by decide +kernel, rfl⟩
theorem eX10_solve_24 : DD cX10_solve 24 (.getfield 147) 3 27 := ⟨by decide +kernel, rfl⟩
theorem eX10_solve_27 : DB cX10_solve 27 (.if_icmp .le 5) (5) 30 32 := ⟨by decide +kernel, rfl, by decide⟩
theorem eX10_solve_30 : DD cX10_solve 30 (.iconst 0) 1 31 := ⟨by decide +kernel, rfl⟩
theorem eX10_solve_31 : DD cX10_solve 31 (.ireturn) 1 32 := ⟨by decide +kernel, rfl⟩
theorem eX10_solve_32 : DD cX10_solve 32 (.aload_n 0) 1 33 := ⟨by decide +kernel, rfl⟩
theorem eX10_solve_33 : DD cX10_solve 33 (.getfield 57) 3 36 := ⟨by decide +kernel, rfl⟩
theorem eX10_solve_36 : DD cX10_solve 36 (.aload_n 0) 1 37 := ⟨by decide +kernel, rfl⟩
theorem eX10_solve_37 : DD cX10_solve 37 (.getfield 26) 3 40 := ⟨by decide +kernel, rfl⟩
theorem eX10_solve_40 : DD cX10_solve 40 (.getfield 143) 3 43 := ⟨by decide +kernel, rfl⟩
theorem eX10_solve_43 : DD cX10_solve 43 (.iload_n 1) 1 44 := ⟨by decide +kernel, rfl⟩
theorem eX10_solve_44 : DD cX10_solve 44 (.aaload) 1 45 := ⟨by decide +kernel, rfl⟩
theorem eX10_solve_45 : DD cX10_solve 45 (.getfield 155) 3 48 := ⟨by decide +kernel, rfl⟩
theorem eX10_solve_48 : DD cX10_solve 48 (.iload_n 2) 1 49 := ⟨by decide +kernel, rfl⟩
theorem eX10_solve_49 : DD cX10_solve 49 (.aaload) 1 50 := ⟨by decide +kernel, rfl⟩
theorem eX10_solve_50 : DD cX10_solve 50 (.iload_n 3) 1 51 := ⟨by decide +kernel, rfl⟩
theorem eX10_solve_51 : DD cX10_solve 51 (.invokevirtual 218) 3 54 := ⟨by decide +kernel, rfl⟩
theorem eX10_solve_54 : DD cX10_solve 54 (.iconst 1) 1 55 := ⟨by decide +kernel, rfl⟩
theorem eX10_solve_55 : DD cX10_solve 55 (.ireturn) 1 56 := ⟨by decide +kernel, rfl⟩
def G_X10_solve (x1 : Int32) (x2 : Int32) (x3 : Int32) (μ : Mem) : Option (Int32 × Mem) :=
  bd (G_X10_hasColumn x1 x2 μ) (fun r_2 μ_1 => if r_2 = 0 then some ((0 : Int32), μ_1) else if x3 < (1 : Int32) then some ((0 : Int32), μ_1) else gq (inB x1 3) (if x3 ≤ (rI μ_1 (shP 8 x1) 2) then gq (inB x1 3) (gq (inB x2 2) (bd (G_X5_solve (lnP ((shP 8 x1) + 2) x2) x3 μ_1) (fun r_7 μ_6 => some ((1 : Int32), μ_6)))) else some ((0 : Int32), μ_1)))
set_option maxHeartbeats 4000000 in
theorem c_X10_solve {X : Wd} (hX : WdOk X) (x1 : Int32) (x2 : Int32) (x3 : Int32) (μ : Mem) : CtI X yX10_solve cX10_solve 4 (some .boolean) (rmF 2 55) [.ref (xad X 0), .int x1, .int x2, .int x3] μ (G_X10_solve x1 x2 x3 μ) := by
  refine CtI.of hX (plainFor_of_name (by decide)) (by exact Nat.le_of_ble_eq_true rfl) ?_
  intro C hCX hC hr
  subst hCX
  show J C (KI C) μ 0 [(0, .ref (xad (cX C) 0)), (1, .int x1), (2, .int x2), (3, .int x3)] [] _
  unfold G_X10_solve
  refine J.aload_n (j := 0) hC eX10_solve_0 rfl ?_
  refine J.iload_n (j := 1) hC eX10_solve_1 rfl ?_
  refine J.iload_n (j := 2) hC eX10_solve_2 rfl ?_
  refine J.callVI (st := []) hC eX10_solve_3 kk_0 (by decide) rfl rfl ml_X10_170 mv_X10_hasColumn (Rle_of (Nat.le_of_ble_eq_true rfl) (Nat.le_of_ble_eq_true rfl)) (c_X10_hasColumn hC.X x1 x2 μ) rfl rfl (Nat.le_of_ble_eq_true rfl) (fun r_2 μ_1 => ?_)
  refine J.if_eq hC eX10_solve_6 (fun _ => ?_) (fun _ => ?_)
  · refine J.iconst hC eX10_solve_30 ci_0 ?_
    exact J.zretB hC hr eX10_solve_31 rfl
  · refine J.iload_n (j := 3) hC eX10_solve_9 rfl ?_
    refine J.iconst hC eX10_solve_10 ci_1 ?_
    refine J.icmp_lt hC eX10_solve_11 (fun _ => ?_) (fun _ => ?_)
    · refine J.iconst hC eX10_solve_30 ci_0 ?_
      exact J.zretB hC hr eX10_solve_31 rfl
    · refine J.iload_n (j := 3) hC eX10_solve_14 rfl ?_
      refine J.aload_n (j := 0) hC eX10_solve_15 rfl ?_
      refine gf_X10_26 (q := 7) hC eX10_solve_16 kk_0 rfl ?_
      refine gf_X10_143 (q := 8) hC eX10_solve_19 kk_7 rfl ?_
      refine J.iload_n (j := 1) hC eX10_solve_22 rfl ?_
      refine J.aaldS hC eX10_solve_23 kk_8 (fun hq_3 => ?_)
      refine gf_X10_147 hC eX10_solve_24 hq_3 ?_
      refine J.icmp_le hC eX10_solve_27 (fun _ => ?_) (fun _ => ?_)
      · refine J.aload_n (j := 0) hC eX10_solve_32 rfl ?_
        refine gf_X10_57 (q := 99) hC eX10_solve_33 kk_0 rfl ?_
        refine J.aload_n (j := 0) hC eX10_solve_36 rfl ?_
        refine gf_X10_26 (q := 7) hC eX10_solve_37 kk_0 rfl ?_
        refine gf_X10_143 (q := 8) hC eX10_solve_40 kk_7 rfl ?_
        refine J.iload_n (j := 1) hC eX10_solve_43 rfl ?_
        refine J.aaldS hC eX10_solve_44 kk_8 (fun hq_4 => ?_)
        refine gf_X10_155 (q := (shP 8 x1) + 2) hC eX10_solve_45 hq_4 rfl ?_
        refine J.iload_n (j := 2) hC eX10_solve_48 rfl ?_
        refine J.aaldL hC eX10_solve_49 (kf_X7_lanes hq_4) (fun hq_5 => ?_)
        refine J.iload_n (j := 3) hC eX10_solve_50 rfl ?_
        refine J.callVV (st := []) hC eX10_solve_51 kk_99 (by decide) rfl rfl ml_X10_218 mv_X5_solve (Rle_of (Nat.le_of_ble_eq_true rfl) (Nat.le_of_ble_eq_true rfl)) (c_X5_solve hC.X (lnP ((shP 8 x1) + 2) x2) hq_5 x3 μ_1) rfl rfl (Nat.le_of_ble_eq_true rfl) (fun r_7 μ_6 => ?_)
        refine J.iconst hC eX10_solve_54 ci_1 ?_
        exact J.zretB hC hr eX10_solve_55 rfl
      · refine J.iconst hC eX10_solve_30 ci_0 ?_
        exact J.zretB hC hr eX10_solve_31 rfl
-- X10_error
theorem eX10_error_0 : DD cX10_error 0 (.aload_n 0) 1 1 := ⟨by decide +kernel, rfl⟩
theorem eX10_error_1 : DD cX10_error 1 (.iload_n 1) 1 2 := ⟨by decide +kernel, rfl⟩
theorem eX10_error_2 : DD cX10_error 2 (.iload_n 2) 1 3 := ⟨by decide +kernel, rfl⟩
theorem eX10_error_3 : DD cX10_error 3 (.iload_n 3) 1 4 := ⟨by decide +kernel, rfl⟩
theorem eX10_error_4 : DD cX10_error 4 (.invokevirtual 200) 3 7 := ⟨by decide +kernel, rfl⟩
theorem eX10_error_7 : DB cX10_error 7 (.ifCond .eq 14) (14) 10 21 := ⟨by decide +kernel, rfl, by decide⟩
theorem eX10_error_10 : DD cX10_error 10 (.aload_n 0) 1 11 := ⟨by decide +kernel, rfl⟩
theorem eX10_error_11 : DD cX10_error 11 (.getfield 57) 3 14 := ⟨by decide +kernel, rfl⟩
theorem eX10_error_14 : DD cX10_error 14 (.iload_n 3) 1 15 := ⟨by decide +kernel, rfl⟩
theorem eX10_error_15 : DD cX10_error 15 (.invokevirtual 203) 3 18 := ⟨by decide +kernel, rfl⟩
theorem eX10_error_18 : DB cX10_error 18 (.goto 6) (6) 21 24 := ⟨by decide +kernel, rfl, by decide⟩
theorem eX10_error_21 : DD cX10_error 21 (.ldc2_w 207) 3 24 := ⟨by decide +kernel, rfl⟩
theorem eX10_error_24 : DD cX10_error 24 (.lreturn) 1 25 := ⟨by decide +kernel, rfl⟩
def G_X10_error (x1 : Int32) (x2 : Int32) (x3 : Int32) (μ : Mem) : Option (Int64 × Mem) :=
  bd (G_X10_solve x1 x2 x3 μ) (fun r_2 μ_1 => if r_2 = 0 then some ((-1 : Int64), μ_1) else bd (G_X5_leastBy x3 μ_1) (fun r_4 μ_3 => some (r_4, μ_3)))
set_option maxHeartbeats 4000000 in
theorem c_X10_error {X : Wd} (hX : WdOk X) (x1 : Int32) (x2 : Int32) (x3 : Int32) (μ : Mem) : CtL X yX10_error cX10_error 4 (some .long) (rmF 3 78) [.ref (xad X 0), .int x1, .int x2, .int x3] μ (G_X10_error x1 x2 x3 μ) := by
  refine CtL.of hX (plainFor_of_name (by decide)) (by exact Nat.le_of_ble_eq_true rfl) ?_
  intro C hCX hC hr
  subst hCX
  show J C (KL C) μ 0 [(0, .ref (xad (cX C) 0)), (1, .int x1), (2, .int x2), (3, .int x3)] [] _
  unfold G_X10_error
  refine J.aload_n (j := 0) hC eX10_error_0 rfl ?_
  refine J.iload_n (j := 1) hC eX10_error_1 rfl ?_
  refine J.iload_n (j := 2) hC eX10_error_2 rfl ?_
  refine J.iload_n (j := 3) hC eX10_error_3 rfl ?_
  refine J.callVI (st := []) hC eX10_error_4 kk_0 (by decide) rfl rfl ml_X10_200 mv_X10_solve (Rle_of (Nat.le_of_ble_eq_true rfl) (Nat.le_of_ble_eq_true rfl)) (c_X10_solve hC.X x1 x2 x3 μ) rfl rfl (Nat.le_of_ble_eq_true rfl) (fun r_2 μ_1 => ?_)
  refine J.if_eq hC eX10_error_7 (fun _ => ?_) (fun _ => ?_)
  · refine J.ldc2 hC eX10_error_21 mk_X10_207 ?_
    exact J.lret hC hr eX10_error_24
  · refine J.aload_n (j := 0) hC eX10_error_10 rfl ?_
    refine gf_X10_57 (q := 99) hC eX10_error_11 kk_0 rfl ?_
    refine J.iload_n (j := 3) hC eX10_error_14 rfl ?_
    refine J.callVL (st := []) hC eX10_error_15 kk_99 (by decide) rfl rfl ml_X10_203 mv_X5_leastBy (Rle_of (Nat.le_of_ble_eq_true rfl) (Nat.le_of_ble_eq_true rfl)) (c_X5_leastBy hC.X x3 μ_1) rfl rfl (Nat.le_of_ble_eq_true rfl) (fun r_4 μ_3 => ?_)
    refine J.goto hC eX10_error_18 ?_
    exact J.lret hC hr eX10_error_24
-- X10_border
theorem eX10_border_0 : DD cX10_border 0 (.iload 4) 2 2 := ⟨by decide +kernel, rfl⟩
theorem eX10_border_2 : DB cX10_border 2 (.ifCond .lt 19) (19) 5 21 := ⟨by decide +kernel, rfl, by decide⟩
theorem eX10_border_5 : DD cX10_border 5 (.iload 4) 2 7 := ⟨by decide +kernel, rfl⟩
theorem eX10_border_7 : DD cX10_border 7 (.iload_n 3) 1 8 := ⟨by decide +kernel, rfl⟩
theorem eX10_border_8 : DB cX10_border 8 (.if_icmp .ge 13) (13) 11 21 := ⟨by decide +kernel, rfl, by decide⟩
theorem eX10_border_11 : DD cX10_border 11 (.aload_n 0) 1 12 := ⟨by decide +kernel, rfl⟩
theorem eX10_border_12 : DD cX10_border 12 (.iload_n 1) 1 13 := ⟨by decide +kernel, rfl⟩
theorem eX10_border_13 : DD cX10_border 13 (.iload_n 2) 1 14 := ⟨by decide +kernel, rfl⟩
theorem eX10_border_14 : DD cX10_border 14 (.iload_n 3) 1 15 := ⟨by decide +kernel, rfl⟩
theorem eX10_border_15 : DD cX10_border 15 (.invokevirtual 200) 3 18 := ⟨by decide +kernel, rfl⟩
theorem eX10_border_18 : DB cX10_border 18 (.ifCond .ne 5) (5) 21 23 := ⟨by decide +kernel, rfl, by decide⟩
theorem eX10_border_21 : DD cX10_border 21 (.iconst (-1)) 1 22 := ⟨by decide +kernel, rfl⟩
theorem eX10_border_22 : DD cX10_border 22 (.ireturn) 1 23 := ⟨by decide +kernel, rfl⟩
theorem eX10_border_23 : DD cX10_border 23 (.aload_n 0) 1 24 := ⟨by decide +kernel, rfl⟩
theorem eX10_border_24 : DD cX10_border 24 (.getfield 57) 3 27 := ⟨by decide +kernel, rfl⟩
theorem eX10_border_27 : DD cX10_border 27 (.iload_n 3) 1 28 := ⟨by decide +kernel, rfl⟩
theorem eX10_border_28 : DD cX10_border 28 (.iload 4) 2 30 := ⟨by decide +kernel, rfl⟩
theorem eX10_border_30 : DD cX10_border 30 (.invokevirtual 209) 3 33 := ⟨by decide +kernel, rfl⟩
theorem eX10_border_33 : DD cX10_border 33 (.ireturn) 1 34 := ⟨by decide +kernel, rfl⟩
def G_X10_border (x1 : Int32) (x2 : Int32) (x3 : Int32) (x4 : Int32) (μ : Mem) : Option (Int32 × Mem) :=
  if x4 < 0 then some ((-1 : Int32), μ) else if x3 ≤ x4 then some ((-1 : Int32), μ) else bd (G_X10_solve x1 x2 x3 μ) (fun r_2 μ_1 => if r_2 = 0 then some ((-1 : Int32), μ_1) else bd (G_X5_borderOf x3 x4 μ_1) (fun r_4 μ_3 => some (r_4, μ_3)))
set_option maxHeartbeats 4000000 in
theorem c_X10_border {X : Wd} (hX : WdOk X) (x1 : Int32) (x2 : Int32) (x3 : Int32) (x4 : Int32) (μ : Mem) : CtI X yX10_border cX10_border 5 (some .int) (rmF 3 78) [.ref (xad X 0), .int x1, .int x2, .int x3, .int x4] μ (G_X10_border x1 x2 x3 x4 μ) := by
  refine CtI.of hX (plainFor_of_name (by decide)) (by exact Nat.le_of_ble_eq_true rfl) ?_
  intro C hCX hC hr
  subst hCX
  show J C (KI C) μ 0 [(0, .ref (xad (cX C) 0)), (1, .int x1), (2, .int x2), (3, .int x3), (4, .int x4)] [] _
  unfold G_X10_border
  refine J.iload (j := 4) hC eX10_border_0 rfl ?_
  refine J.if_lt hC eX10_border_2 (fun _ => ?_) (fun _ => ?_)
  · refine J.iconst hC eX10_border_21 ci_m1 ?_
    exact J.iret hC hr eX10_border_22
  · refine J.iload (j := 4) hC eX10_border_5 rfl ?_
    refine J.iload_n (j := 3) hC eX10_border_7 rfl ?_
    refine J.icmp_ge hC eX10_border_8 (fun _ => ?_) (fun _ => ?_)
    · refine J.iconst hC eX10_border_21 ci_m1 ?_
      exact J.iret hC hr eX10_border_22
    · refine J.aload_n (j := 0) hC eX10_border_11 rfl ?_
      refine J.iload_n (j := 1) hC eX10_border_12 rfl ?_
      refine J.iload_n (j := 2) hC eX10_border_13 rfl ?_
      refine J.iload_n (j := 3) hC eX10_border_14 rfl ?_
      refine J.callVI (st := []) hC eX10_border_15 kk_0 (by decide) rfl rfl ml_X10_200 mv_X10_solve (Rle_of (Nat.le_of_ble_eq_true rfl) (Nat.le_of_ble_eq_true rfl)) (c_X10_solve hC.X x1 x2 x3 μ) rfl rfl (Nat.le_of_ble_eq_true rfl) (fun r_2 μ_1 => ?_)
      refine J.if_ne hC eX10_border_18 (fun _ => ?_) (fun _ => ?_)
      · refine J.iconst hC eX10_border_21 ci_m1 ?_
        exact J.iret hC hr eX10_border_22
      · refine J.aload_n (j := 0) hC eX10_border_23 rfl ?_
        refine gf_X10_57 (q := 99) hC eX10_border_24 kk_0 rfl ?_
        refine J.iload_n (j := 3) hC eX10_border_27 rfl ?_
        refine J.iload (j := 4) hC eX10_border_28 rfl ?_
        refine J.callVI (st := []) hC eX10_border_30 kk_99 (by decide) rfl rfl ml_X10_209 mv_X5_borderOf (Rle_of (Nat.le_of_ble_eq_true rfl) (Nat.le_of_ble_eq_true rfl)) (c_X5_borderOf hC.X x3 x4 μ_1) rfl rfl (Nat.le_of_ble_eq_true rfl) (fun r_4 μ_3 => ?_)
        exact J.iret hC hr eX10_border_33
-- X10_tried
theorem eX10_tried_0 : DD cX10_tried 0 (.iload 4) 2 2 := ⟨by decide +kernel, rfl⟩
theorem eX10_tried_2 : DB cX10_tried 2 (.ifCond .lt 19) (19) 5 21 := ⟨by decide +kernel, rfl, by decide⟩
theorem eX10_tried_5 : DD cX10_tried 5 (.iload 4) 2 7 := ⟨by decide +kernel, rfl⟩
theorem eX10_tried_7 : DD cX10_tried 7 (.iconst 1) 1 8 := ⟨by decide +kernel, rfl⟩
theorem eX10_tried_8 : DB cX10_tried 8 (.if_icmp .gt 13) (13) 11 21 := ⟨by decide +kernel, rfl, by decide⟩
theorem eX10_tried_11 : DD cX10_tried 11 (.aload_n 0) 1 12 := ⟨by decide +kernel, rfl⟩
theorem eX10_tried_12 : DD cX10_tried 12 (.iload_n 1) 1 13 := ⟨by decide +kernel, rfl⟩
theorem eX10_tried_13 : DD cX10_tried 13 (.iload_n 2) 1 14 := ⟨by decide +kernel, rfl⟩
theorem eX10_tried_14 : DD cX10_tried 14 (.iload_n 3) 1 15 := ⟨by decide +kernel, rfl⟩
theorem eX10_tried_15 : DD cX10_tried 15 (.invokevirtual 200) 3 18 := ⟨by decide +kernel, rfl⟩
theorem eX10_tried_18 : DB cX10_tried 18 (.ifCond .ne 5) (5) 21 23 := ⟨by decide +kernel, rfl, by decide⟩
theorem eX10_tried_21 : DD cX10_tried 21 (.iconst (-1)) 1 22 := ⟨by decide +kernel, rfl⟩
theorem eX10_tried_22 : DD cX10_tried 22 (.ireturn) 1 23 := ⟨by decide +kernel, rfl⟩
theorem eX10_tried_23 : DD cX10_tried 23 (.iload 4) 2 25 := ⟨by decide +kernel, rfl⟩
theorem eX10_tried_25 : DB cX10_tried 25 (.ifCond .ne 13) (13) 28 38 := ⟨by decide +kernel, rfl, by decide⟩
theorem eX10_tried_28 : DD cX10_tried 28 (.aload_n 0) 1 29 := ⟨by decide +kernel, rfl⟩
theorem eX10_tried_29 : DD cX10_tried 29 (.getfield 57) 3 32 := ⟨by decide +kernel, rfl⟩
theorem eX10_tried_32 : DD cX10_tried 32 (.getfield 212) 3 35 := ⟨by decide +kernel, rfl⟩
theorem eX10_tried_35 : DB cX10_tried 35 (.goto 10) (10) 38 45 := ⟨by decide +kernel, rfl, by decide⟩
theorem eX10_tried_38 : DD cX10_tried 38 (.aload_n 0) 1 39 := ⟨by decide +kernel, rfl⟩
theorem eX10_tried_39 : DD cX10_tried 39 (.getfield 57) 3 42 := ⟨by decide +kernel, rfl⟩
theorem eX10_tried_42 : DD cX10_tried 42 (.getfield 215) 3 45 := ⟨by decide +kernel, rfl⟩
theorem eX10_tried_45 : DD cX10_tried 45 (.ireturn) 1 46 := ⟨by decide +kernel, rfl⟩
def G_X10_tried (x1 : Int32) (x2 : Int32) (x3 : Int32) (x4 : Int32) (μ : Mem) : Option (Int32 × Mem) :=
  if x4 < 0 then some ((-1 : Int32), μ) else if (1 : Int32) < x4 then some ((-1 : Int32), μ) else bd (G_X10_solve x1 x2 x3 μ) (fun r_2 μ_1 => if r_2 = 0 then some ((-1 : Int32), μ_1) else if x4 = 0 then some (rI μ_1 99 4, μ_1) else some (rI μ_1 99 5, μ_1))
set_option maxHeartbeats 4000000 in
theorem c_X10_tried {X : Wd} (hX : WdOk X) (x1 : Int32) (x2 : Int32) (x3 : Int32) (x4 : Int32) (μ : Mem) : CtI X yX10_tried cX10_tried 5 (some .int) (rmF 3 78) [.ref (xad X 0), .int x1, .int x2, .int x3, .int x4] μ (G_X10_tried x1 x2 x3 x4 μ) := by
  refine CtI.of hX (plainFor_of_name (by decide)) (by exact Nat.le_of_ble_eq_true rfl) ?_
  intro C hCX hC hr
  subst hCX
  show J C (KI C) μ 0 [(0, .ref (xad (cX C) 0)), (1, .int x1), (2, .int x2), (3, .int x3), (4, .int x4)] [] _
  unfold G_X10_tried
  refine J.iload (j := 4) hC eX10_tried_0 rfl ?_
  refine J.if_lt hC eX10_tried_2 (fun _ => ?_) (fun _ => ?_)
  · refine J.iconst hC eX10_tried_21 ci_m1 ?_
    exact J.iret hC hr eX10_tried_22
  · refine J.iload (j := 4) hC eX10_tried_5 rfl ?_
    refine J.iconst hC eX10_tried_7 ci_1 ?_
    refine J.icmp_gt hC eX10_tried_8 (fun _ => ?_) (fun _ => ?_)
    · refine J.iconst hC eX10_tried_21 ci_m1 ?_
      exact J.iret hC hr eX10_tried_22
    · refine J.aload_n (j := 0) hC eX10_tried_11 rfl ?_
      refine J.iload_n (j := 1) hC eX10_tried_12 rfl ?_
      refine J.iload_n (j := 2) hC eX10_tried_13 rfl ?_
      refine J.iload_n (j := 3) hC eX10_tried_14 rfl ?_
      refine J.callVI (st := []) hC eX10_tried_15 kk_0 (by decide) rfl rfl ml_X10_200 mv_X10_solve (Rle_of (Nat.le_of_ble_eq_true rfl) (Nat.le_of_ble_eq_true rfl)) (c_X10_solve hC.X x1 x2 x3 μ) rfl rfl (Nat.le_of_ble_eq_true rfl) (fun r_2 μ_1 => ?_)
      refine J.if_ne hC eX10_tried_18 (fun _ => ?_) (fun _ => ?_)
      · refine J.iconst hC eX10_tried_21 ci_m1 ?_
        exact J.iret hC hr eX10_tried_22
      · refine J.iload (j := 4) hC eX10_tried_23 rfl ?_
        refine J.if_ne hC eX10_tried_25 (fun _ => ?_) (fun _ => ?_)
        · refine J.aload_n (j := 0) hC eX10_tried_28 rfl ?_
          refine gf_X10_57 (q := 99) hC eX10_tried_29 kk_0 rfl ?_
          refine gf_X10_212 hC eX10_tried_32 kk_99 ?_
          refine J.goto hC eX10_tried_35 ?_
          exact J.iret hC hr eX10_tried_45
        · refine J.aload_n (j := 0) hC eX10_tried_38 rfl ?_
          refine gf_X10_57 (q := 99) hC eX10_tried_39 kk_0 rfl ?_
          refine gf_X10_215 hC eX10_tried_42 kk_99 ?_
          exact J.iret hC hr eX10_tried_45
-- X10_fewest
theorem eX10_fewest_0 : DD cX10_fewest 0 (.lload_n 3) 1 1 := ⟨by decide +kernel, rfl⟩
theorem eX10_fewest_1 : DD cX10_fewest 1 (.lconst 0) 1 2 := ⟨by decide +kernel, rfl⟩
theorem eX10_fewest_2 : DD cX10_fewest 2 (.lcmp) 1 3 := ⟨by decide +kernel, rfl⟩
theorem eX10_fewest_3 : DB cX10_fewest 3 (.ifCond .lt 12) (12) 6 15 := ⟨by decide +kernel, rfl, by decide⟩
theorem eX10_fewest_6 : DD cX10_fewest 6 (.aload_n 0) 1 7 := ⟨by decide +kernel, rfl⟩
theorem eX10_fewest_7 : DD cX10_fewest 7 (.iload_n 1) 1 8 := ⟨by decide +kernel, rfl⟩
theorem eX10_fewest_8 : DD cX10_fewest 8 (.iload_n 2) 1 9 := ⟨by decide +kernel, rfl⟩
theorem eX10_fewest_9 : DD cX10_fewest 9 (.invokevirtual 170) 3 12 := ⟨by decide +kernel, rfl⟩
theorem eX10_fewest_12 : DB cX10_fewest 12 (.ifCond .ne 5) (5) 15 17 := ⟨by decide +kernel, rfl, by decide⟩
theorem eX10_fewest_15 : DD cX10_fewest 15 (.iconst (-1)) 1 16 := ⟨by decide +kernel, rfl⟩
theorem eX10_fewest_16 : DD cX10_fewest 16 (.ireturn) 1 17 := ⟨by decide +kernel, rfl⟩
theorem eX10_fewest_17 : DD cX10_fewest 17 (.aload_n 0) 1 18 := ⟨by decide +kernel, rfl⟩
theorem eX10_fewest_18 : DD cX10_fewest 18 (.getfield 26) 3 21 := ⟨by decide +kernel, rfl⟩
theorem eX10_fewest_21 : DD cX10_fewest 21 (.getfield 143) 3 24 := ⟨by decide +kernel, rfl⟩
theorem eX10_fewest_24 : DD cX10_fewest 24 (.iload_n 1) 1 25 := ⟨by decide +kernel, rfl⟩
theorem eX10_fewest_25 : DD cX10_fewest 25 (.aaload) 1 26 := ⟨by decide +kernel, rfl⟩
theorem eX10_fewest_26 : DD cX10_fewest 26 (.getfield 147) 3 29 := ⟨by decide +kernel, rfl⟩
theorem eX10_fewest_29 : DD cX10_fewest 29 (.istore 5) 2 31 := ⟨by decide +kernel, rfl⟩
theorem eX10_fewest_31 : DD cX10_fewest 31 (.aload_n 0) 1 32 := ⟨by decide +kernel, rfl⟩
theorem eX10_fewest_32 : DD cX10_fewest 32 (.getfield 57) 3 35 := ⟨by decide +kernel, rfl⟩
theorem eX10_fewest_35 : DD cX10_fewest 35 (.aload_n 0) 1 36 := ⟨by decide +kernel, rfl⟩
theorem eX10_fewest_36 : DD cX10_fewest 36 (.getfield 26) 3 39 := ⟨by decide +kernel, rfl⟩
theorem eX10_fewest_39 : DD cX10_fewest 39 (.getfield 143) 3 42 := ⟨by decide +kernel, rfl⟩
theorem eX10_fewest_42 : DD cX10_fewest 42 (.iload_n 1) 1 43 := ⟨by decide +kernel, rfl⟩
theorem eX10_fewest_43 : DD cX10_fewest 43 (.aaload) 1 44 := ⟨by decide +kernel, rfl⟩
theorem eX10_fewest_44 : DD cX10_fewest 44 (.getfield 155) 3 47 := ⟨by decide +kernel, rfl⟩
theorem eX10_fewest_47 : DD cX10_fewest 47 (.iload_n 2) 1 48 := ⟨by decide +kernel, rfl⟩
theorem eX10_fewest_48 : DD cX10_fewest 48 (.aaload) 1 49 := ⟨by decide +kernel, rfl⟩
theorem eX10_fewest_49 : DD cX10_fewest 49 (.iload 5) 2 51 := ⟨by decide +kernel, rfl⟩
theorem eX10_fewest_51 : DD cX10_fewest 51 (.invokevirtual 218) 3 54 := ⟨by decide +kernel, rfl⟩
theorem eX10_fewest_54 : DD cX10_fewest 54 (.iconst 1) 1 55 := ⟨by decide +kernel, rfl⟩
theorem eX10_fewest_55 : DD cX10_fewest 55 (.istore 6) 2 57 := ⟨by decide +kernel, rfl⟩
theorem eX10_fewest_57 : DD cX10_fewest 57 (.iload 6) 2 59 := ⟨by decide +kernel, rfl⟩
theorem eX10_fewest_59 : DD cX10_fewest 59 (.iload 5) 2 61 := ⟨by decide +kernel, rfl⟩
theorem eX10_fewest_61 : DB cX10_fewest 61 (.if_icmp .ge 26) (26) 64 87 := ⟨by decide +kernel, rfl, by decide⟩
theorem eX10_fewest_64 : DD cX10_fewest 64 (.aload_n 0) 1 65 := ⟨by decide +kernel, rfl⟩
theorem eX10_fewest_65 : DD cX10_fewest 65 (.getfield 57) 3 68 := ⟨by decide +kernel, rfl⟩
theorem eX10_fewest_68 : DD cX10_fewest 68 (.iload 6) 2 70 := ⟨by decide +kernel, rfl⟩
theorem eX10_fewest_70 : DD cX10_fewest 70 (.invokevirtual 203) 3 73 := ⟨by decide +kernel, rfl⟩
theorem eX10_fewest_73 : DD cX10_fewest 73 (.lload_n 3) 1 74 := ⟨by decide +kernel, rfl⟩
theorem eX10_fewest_74 : DD cX10_fewest 74 (.lcmp) 1 75 := ⟨by decide +kernel, rfl⟩
theorem eX10_fewest_75 : DB cX10_fewest 75 (.ifCond .gt 6) (6) 78 81 := ⟨by decide +kernel, rfl, by decide⟩
theorem eX10_fewest_78 : DD cX10_fewest 78 (.iload 6) 2 80 := ⟨by decide +kernel, rfl⟩
theorem eX10_fewest_80 : DD cX10_fewest 80 (.ireturn) 1 81 := ⟨by decide +kernel, rfl⟩
theorem eX10_fewest_81 : DD cX10_fewest 81 (.iinc 6 1) 3 84 := ⟨by decide +kernel, rfl⟩
theorem eX10_fewest_84 : DB cX10_fewest 84 (.goto (-27)) (-27) 87 57 := ⟨by decide +kernel, rfl, by decide⟩
theorem eX10_fewest_87 : DD cX10_fewest 87 (.iload 5) 2 89 := ⟨by decide +kernel, rfl⟩
theorem eX10_fewest_89 : DD cX10_fewest 89 (.ireturn) 1 90 := ⟨by decide +kernel, rfl⟩
def L_X10_fewest_57 : Nat → Int64 → Int32 → Int32 → Mem → Option (Int32 × Mem)
  | 0, _, _, _, _ => none
  | n + 1, l3, x5, x6, μ => if x5 ≤ x6 then some (x5, μ) else bd (G_X5_leastBy x6 μ) (fun r_2 μ_1 => if 0 < (lg_cmp r_2 l3) then lb (x6 + (1 : Int32)) (fun x6_3 => L_X10_fewest_57  n l3 x5 x6_3 μ_1) else some (x6, μ_1))
set_option maxHeartbeats 4000000 in
theorem j_X10_fewest_57 {C : Cx} (hC : Ok C cX10_fewest 7 RX10 (rmF 2 55)) (hr : (cT C).sig.returnType = (some .int)) : ∀ (n : Nat) (l3 : Int64) (x5 : Int32) (x6 : Int32) (μ : Mem), J C (KI C) μ 57 [(0, .ref (xad (cX C) 0)), (3, .long l3), (5, .int x5), (6, .int x6)] [] (L_X10_fewest_57  n l3 x5 x6 μ) := by
  intro n
  induction n with
  | zero => intros; exact J.no
  | succ n ih =>
    intro l3 x5 x6 μ
    rw [L_X10_fewest_57]
    refine J.iload (j := 3) hC eX10_fewest_57 rfl ?_
    refine J.iload (j := 2) hC eX10_fewest_59 rfl ?_
    refine J.icmp_ge hC eX10_fewest_61 (fun _ => ?_) (fun _ => ?_)
    · refine J.iload (j := 2) hC eX10_fewest_87 rfl ?_
      exact J.iret hC hr eX10_fewest_89
    · refine J.aload_n (j := 0) hC eX10_fewest_64 rfl ?_
      refine gf_X10_57 (q := 99) hC eX10_fewest_65 kk_0 rfl ?_
      refine J.iload (j := 3) hC eX10_fewest_68 rfl ?_
      refine J.callVL (st := []) hC eX10_fewest_70 kk_99 (by decide) rfl rfl ml_X10_203 mv_X5_leastBy (Rle_of (Nat.le_of_ble_eq_true rfl) (Nat.le_of_ble_eq_true rfl)) (c_X5_leastBy hC.X x6 μ) rfl rfl (Nat.le_of_ble_eq_true rfl) (fun r_2 μ_1 => ?_)
      refine J.lload_n (j := 1) hC eX10_fewest_73 rfl ?_
      refine J.lcmp hC eX10_fewest_74 ?_
      refine J.if_gt hC eX10_fewest_75 (fun _ => ?_) (fun _ => ?_)
      · refine J.iinc (j := 3) (fun x6_3 => [(6, .int x6_3), (0, .ref (xad (cX C) 0)), (3, .long l3), (5, .int x5)]) hC eX10_fewest_81 rfl ci_1 (by decide) (fun _ => rfl) (fun x6_3 => ?_)
        refine J.goto hC eX10_fewest_84 ?_
        refine J.sub [1, 2, 3, 0] rfl ?_
        exact ih l3 x5 x6_3 μ_1
      · refine J.iload (j := 3) hC eX10_fewest_78 rfl ?_
        exact J.iret hC hr eX10_fewest_80
def G_X10_fewest (x1 : Int32) (x2 : Int32) (l3 : Int64) (μ : Mem) : Option (Int32 × Mem) :=
  if (lg_cmp l3 (0 : Int64)) < 0 then some ((-1 : Int32), μ) else bd (G_X10_hasColumn x1 x2 μ) (fun r_2 μ_1 => if r_2 = 0 then some ((-1 : Int32), μ_1) else gq (inB x1 3) (lb (rI μ_1 (shP 8 x1) 2) (fun x5_4 => gq (inB x1 3) (gq (inB x2 2) (bd (G_X5_solve (lnP ((shP 8 x1) + 2) x2) x5_4 μ_1) (fun r_8 μ_7 => L_X10_fewest_57  100000 l3 x5_4 (1 : Int32) μ_7))))))
set_option maxHeartbeats 4000000 in
theorem c_X10_fewest {X : Wd} (hX : WdOk X) (x1 : Int32) (x2 : Int32) (l3 : Int64) (μ : Mem) : CtI X yX10_fewest cX10_fewest 7 (some .int) (rmF 2 55) [.ref (xad X 0), .int x1, .int x2, .long l3] μ (G_X10_fewest x1 x2 l3 μ) := by
  refine CtI.of hX (plainFor_of_name (by decide)) (by exact Nat.le_of_ble_eq_true rfl) ?_
  intro C hCX hC hr
  subst hCX
  show J C (KI C) μ 0 [(0, .ref (xad (cX C) 0)), (1, .int x1), (2, .int x2), (3, .long l3)] [] _
  unfold G_X10_fewest
  refine J.lload_n (j := 3) hC eX10_fewest_0 rfl ?_
  refine J.lconst hC eX10_fewest_1 cl_0 ?_
  refine J.lcmp hC eX10_fewest_2 ?_
  refine J.if_lt hC eX10_fewest_3 (fun _ => ?_) (fun _ => ?_)
  · refine J.iconst hC eX10_fewest_15 ci_m1 ?_
    exact J.iret hC hr eX10_fewest_16
  · refine J.aload_n (j := 0) hC eX10_fewest_6 rfl ?_
    refine J.iload_n (j := 1) hC eX10_fewest_7 rfl ?_
    refine J.iload_n (j := 2) hC eX10_fewest_8 rfl ?_
    refine J.callVI (st := []) hC eX10_fewest_9 kk_0 (by decide) rfl rfl ml_X10_170 mv_X10_hasColumn (Rle_of (Nat.le_of_ble_eq_true rfl) (Nat.le_of_ble_eq_true rfl)) (c_X10_hasColumn hC.X x1 x2 μ) rfl rfl (Nat.le_of_ble_eq_true rfl) (fun r_2 μ_1 => ?_)
    refine J.if_ne hC eX10_fewest_12 (fun _ => ?_) (fun _ => ?_)
    · refine J.iconst hC eX10_fewest_15 ci_m1 ?_
      exact J.iret hC hr eX10_fewest_16
    · refine J.aload_n (j := 0) hC eX10_fewest_17 rfl ?_
      refine gf_X10_26 (q := 7) hC eX10_fewest_18 kk_0 rfl ?_
      refine gf_X10_143 (q := 8) hC eX10_fewest_21 kk_7 rfl ?_
      refine J.iload_n (j := 1) hC eX10_fewest_24 rfl ?_
      refine J.aaldS hC eX10_fewest_25 kk_8 (fun hq_3 => ?_)
      refine gf_X10_147 hC eX10_fewest_26 hq_3 ?_
      refine J.topi (fun x5_4 => ?_)
      refine J.istore [(5, .int x5_4), (0, .ref (xad (cX C) 0)), (1, .int x1), (2, .int x2), (3, .long l3)] hC eX10_fewest_29 (by decide) rfl ?_
      refine J.aload_n (j := 1) hC eX10_fewest_31 rfl ?_
      refine gf_X10_57 (q := 99) hC eX10_fewest_32 kk_0 rfl ?_
      refine J.aload_n (j := 1) hC eX10_fewest_35 rfl ?_
      refine gf_X10_26 (q := 7) hC eX10_fewest_36 kk_0 rfl ?_
      refine gf_X10_143 (q := 8) hC eX10_fewest_39 kk_7 rfl ?_
      refine J.iload_n (j := 2) hC eX10_fewest_42 rfl ?_
      refine J.aaldS hC eX10_fewest_43 kk_8 (fun hq_5 => ?_)
      refine gf_X10_155 (q := (shP 8 x1) + 2) hC eX10_fewest_44 hq_5 rfl ?_
      refine J.iload_n (j := 3) hC eX10_fewest_47 rfl ?_
      refine J.aaldL hC eX10_fewest_48 (kf_X7_lanes hq_5) (fun hq_6 => ?_)
      refine J.iload (j := 0) hC eX10_fewest_49 rfl ?_
      refine J.callVV (st := []) hC eX10_fewest_51 kk_99 (by decide) rfl rfl ml_X10_218 mv_X5_solve (Rle_of (Nat.le_of_ble_eq_true rfl) (Nat.le_of_ble_eq_true rfl)) (c_X5_solve hC.X (lnP ((shP 8 x1) + 2) x2) hq_6 x5_4 μ_1) rfl rfl (Nat.le_of_ble_eq_true rfl) (fun r_8 μ_7 => ?_)
      refine J.iconst hC eX10_fewest_54 ci_1 ?_
      refine J.istore [(6, .int (1 : Int32)), (5, .int x5_4), (0, .ref (xad (cX C) 0)), (1, .int x1), (2, .int x2), (3, .long l3)] hC eX10_fewest_55 (by decide) rfl ?_
      refine J.sub [2, 5, 1, 0] rfl ?_
      exact j_X10_fewest_57 hC hr  100000 l3 x5_4 (1 : Int32) μ_7
-- X10_whyNoRows
theorem eX10_whyNoRows_0 : DD cX10_whyNoRows 0 (.aload_n 0) 1 1 := ⟨by decide +kernel, rfl⟩
theorem eX10_whyNoRows_1 : DD cX10_whyNoRows 1 (.iload_n 1) 1 2 := ⟨by decide +kernel, rfl⟩
theorem eX10_whyNoRows_2 : DD cX10_whyNoRows 2 (.iload_n 2) 1 3 := ⟨by decide +kernel, rfl⟩
theorem eX10_whyNoRows_3 : DD cX10_whyNoRows 3 (.iload_n 3) 1 4 := ⟨by decide +kernel, rfl⟩
theorem eX10_whyNoRows_4 : DD cX10_whyNoRows 4 (.invokevirtual 162) 3 7 := ⟨by decide +kernel, rfl⟩
theorem eX10_whyNoRows_7 : DB cX10_whyNoRows 7 (.ifCond .ne 5) (5) 10 12 := ⟨by decide +kernel, rfl, by decide⟩
theorem eX10_whyNoRows_10 : DD cX10_whyNoRows 10 (.iconst 0) 1 11 := ⟨by decide +kernel, rfl⟩
theorem eX10_whyNoRows_11 : DD cX10_whyNoRows 11 (.ireturn) 1 12 := ⟨by decide +kernel, rfl⟩
theorem eX10_whyNoRows_12 : DD cX10_whyNoRows 12 (.iload 4) 2 14 := ⟨by decide +kernel, rfl⟩
theorem eX10_whyNoRows_14 : DD cX10_whyNoRows 14 (.iconst 1) 1 15 := ⟨by decide +kernel, rfl⟩
theorem eX10_whyNoRows_15 : DB cX10_whyNoRows 15 (.if_icmp .lt 10) (10) 18 25 := ⟨by decide +kernel, rfl, by decide⟩
theorem eX10_whyNoRows_18 : DD cX10_whyNoRows 18 (.iload 4) 2 20 := ⟨by decide +kernel, rfl⟩
theorem eX10_whyNoRows_20 : DD cX10_whyNoRows 20 (.bipush 99) 2 22 := ⟨by decide +kernel, rfl⟩
theorem eX10_whyNoRows_22 : DB cX10_whyNoRows 22 (.if_icmp .le 7) (7) 25 29 := ⟨by decide +kernel, rfl, by decide⟩
theorem eX10_whyNoRows_25 : DD cX10_whyNoRows 25 (.iconst 1) 1 26 := ⟨by decide +kernel, rfl⟩
theorem eX10_whyNoRows_26 : DB cX10_whyNoRows 26 (.goto 4) (4) 29 30 := ⟨by decide +kernel, rfl, by decide⟩
theorem eX10_whyNoRows_29 : DD cX10_whyNoRows 29 (.iconst (-1)) 1 30 := ⟨by decide +kernel, rfl⟩
theorem eX10_whyNoRows_30 : DD cX10_whyNoRows 30 (.ireturn) 1 31 := ⟨by decide +kernel, rfl⟩
def G_X10_whyNoRows (x1 : Int32) (x2 : Int32) (x3 : Int32) (x4 : Int32) (μ : Mem) : Option (Int32 × Mem) :=
  bd (G_X10_hasCell x1 x2 x3 μ) (fun r_2 μ_1 => if r_2 = 0 then some ((0 : Int32), μ_1) else if x4 < (1 : Int32) then some ((1 : Int32), μ_1) else if x4 ≤ (99 : Int32) then some ((-1 : Int32), μ_1) else some ((1 : Int32), μ_1))
set_option maxHeartbeats 4000000 in
theorem c_X10_whyNoRows {X : Wd} (hX : WdOk X) (x1 : Int32) (x2 : Int32) (x3 : Int32) (x4 : Int32) (μ : Mem) : CtI X yX10_whyNoRows cX10_whyNoRows 5 (some .int) (rmF 2 45) [.ref (xad X 0), .int x1, .int x2, .int x3, .int x4] μ (G_X10_whyNoRows x1 x2 x3 x4 μ) := by
  refine CtI.of hX (plainFor_of_name (by decide)) (by exact Nat.le_of_ble_eq_true rfl) ?_
  intro C hCX hC hr
  subst hCX
  show J C (KI C) μ 0 [(0, .ref (xad (cX C) 0)), (1, .int x1), (2, .int x2), (3, .int x3), (4, .int x4)] [] _
  unfold G_X10_whyNoRows
  refine J.aload_n (j := 0) hC eX10_whyNoRows_0 rfl ?_
  refine J.iload_n (j := 1) hC eX10_whyNoRows_1 rfl ?_
  refine J.iload_n (j := 2) hC eX10_whyNoRows_2 rfl ?_
  refine J.iload_n (j := 3) hC eX10_whyNoRows_3 rfl ?_
  refine J.callVI (st := []) hC eX10_whyNoRows_4 kk_0 (by decide) rfl rfl ml_X10_162 mv_X10_hasCell (Rle_of (Nat.le_of_ble_eq_true rfl) (Nat.le_of_ble_eq_true rfl)) (c_X10_hasCell hC.X x1 x2 x3 μ) rfl rfl (Nat.le_of_ble_eq_true rfl) (fun r_2 μ_1 => ?_)
  refine J.if_ne hC eX10_whyNoRows_7 (fun _ => ?_) (fun _ => ?_)
  · refine J.iconst hC eX10_whyNoRows_10 ci_0 ?_
    exact J.iret hC hr eX10_whyNoRows_11
  · refine J.iload (j := 4) hC eX10_whyNoRows_12 rfl ?_
    refine J.iconst hC eX10_whyNoRows_14 ci_1 ?_
    refine J.icmp_lt hC eX10_whyNoRows_15 (fun _ => ?_) (fun _ => ?_)
    · refine J.iconst hC eX10_whyNoRows_25 ci_1 ?_
      refine J.goto hC eX10_whyNoRows_26 ?_
      exact J.iret hC hr eX10_whyNoRows_30
    · refine J.iload (j := 4) hC eX10_whyNoRows_18 rfl ?_
      refine J.bipush hC eX10_whyNoRows_20 cb_99 ?_
      refine J.icmp_le hC eX10_whyNoRows_22 (fun _ => ?_) (fun _ => ?_)
      · refine J.iconst hC eX10_whyNoRows_29 ci_m1 ?_
        exact J.iret hC hr eX10_whyNoRows_30
      · refine J.iconst hC eX10_whyNoRows_25 ci_1 ?_
        refine J.goto hC eX10_whyNoRows_26 ?_
        exact J.iret hC hr eX10_whyNoRows_30
