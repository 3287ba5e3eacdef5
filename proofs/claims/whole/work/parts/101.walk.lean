-- X5_solve
theorem eX5_solve_0 : DD cX5_solve 0 (.aload_n 0) 1 1 := ⟨by decide +kernel, rfl⟩
theorem eX5_solve_1 : DD cX5_solve 1 (.aload_n 1) 1 2 := ⟨by decide +kernel, rfl⟩
theorem eX5_solve_2 : DD cX5_solve 2 (.invokevirtual 22) 3 5 := ⟨by decide +kernel, rfl⟩
theorem eX5_solve_5 : DD cX5_solve 5 (.aload_n 0) 1 6 := ⟨by decide +kernel, rfl⟩
theorem eX5_solve_6 : DD cX5_solve 6 (.iconst 0) 1 7 := ⟨by decide +kernel, rfl⟩
theorem eX5_solve_7 : DD cX5_solve 7 (.putfield 26) 3 10 := ⟨by decide +kernel, rfl⟩
theorem eX5_solve_10 : DD cX5_solve 10 (.aload_n 0) 1 11 := ⟨by decide +kernel, rfl⟩
theorem eX5_solve_11 : DD cX5_solve 11 (.iconst 0) 1 12 := ⟨by decide +kernel, rfl⟩
theorem eX5_solve_12 : DD cX5_solve 12 (.putfield 30) 3 15 := ⟨by decide +kernel, rfl⟩
theorem eX5_solve_15 : DD cX5_solve 15 (.iconst 0) 1 16 := ⟨by decide +kernel, rfl⟩
theorem eX5_solve_16 : DD cX5_solve 16 (.istore_n 3) 1 17 := ⟨by decide +kernel, rfl⟩
theorem eX5_solve_17 : DD cX5_solve 17 (.iload_n 3) 1 18 := ⟨by decide +kernel, rfl⟩
theorem eX5_solve_18 : DD cX5_solve 18 (.aload_n 0) 1 19 := ⟨by decide +kernel, rfl⟩
theorem eX5_solve_19 : DD cX5_solve 19 (.getfield 33) 3 22 := ⟨by decide +kernel, rfl⟩
theorem eX5_solve_22 : DB cX5_solve 22 (.if_icmp .ge 52) (52) 25 74 := ⟨by decide +kernel, rfl, by decide⟩
theorem eX5_solve_25 : DD cX5_solve 25 (.aload_n 0) 1 26 := ⟨by decide +kernel, rfl⟩
theorem eX5_solve_26 : DD cX5_solve 26 (.getfield 15) 3 29 := ⟨by decide +kernel, rfl⟩
theorem eX5_solve_29 : DD cX5_solve 29 (.bipush 17) 2 31 := ⟨by decide +kernel, rfl⟩
theorem eX5_solve_31 : DD cX5_solve 31 (.iload_n 3) 1 32 := ⟨by decide +kernel, rfl⟩
theorem eX5_solve_32 : DD cX5_solve 32 (.iadd) 1 33 := ⟨by decide +kernel, rfl⟩
theorem eX5_solve_33 : DD cX5_solve 33 (.aload_n 0) 1 34 := ⟨by decide +kernel, rfl⟩
theorem eX5_solve_34 : DD cX5_solve 34 (.getfield 9) 3 37 := ⟨by decide +kernel, rfl⟩
theorem eX5_solve_37 : DD cX5_solve 37 (.iload_n 3) 1 38 := ⟨by decide +kernel, rfl⟩
theorem eX5_solve_38 : DD cX5_solve 38 (.bipush 17) 2 40 := ⟨by decide +kernel, rfl⟩
theorem eX5_solve_40 : DD cX5_solve 40 (.imul) 1 41 := ⟨by decide +kernel, rfl⟩
theorem eX5_solve_41 : DD cX5_solve 41 (.aload_n 0) 1 42 := ⟨by decide +kernel, rfl⟩
theorem eX5_solve_42 : DD cX5_solve 42 (.getfield 33) 3 45 := ⟨by decide +kernel, rfl⟩
theorem eX5_solve_45 : DD cX5_solve 45 (.iadd) 1 46 := ⟨by decide +kernel, rfl⟩
theorem eX5_solve_46 : DD cX5_solve 46 (.laload) 1 47 := ⟨by decide +kernel, rfl⟩
theorem eX5_solve_47 : DD cX5_solve 47 (.lastore) 1 48 := ⟨by decide +kernel, rfl⟩
theorem eX5_solve_48 : DD cX5_solve 48 (.aload_n 0) 1 49 := ⟨by decide +kernel, rfl⟩
theorem eX5_solve_49 : DD cX5_solve 49 (.dup) 1 50 := ⟨by decide +kernel, rfl⟩
theorem eX5_solve_50 : DD cX5_solve 50 (.getfield 26) 3 53 := ⟨by decide +kernel, rfl⟩
theorem eX5_solve_53 : DD cX5_solve 53 (.iconst 1) 1 54 := ⟨by decide +kernel, rfl⟩
theorem eX5_solve_54 : DD cX5_solve 54 (.iadd) 1 55 := ⟨by decide +kernel, rfl⟩
theorem eX5_solve_55 : DD cX5_solve 55 (.putfield 26) 3 58 := ⟨by decide +kernel, rfl⟩
theorem eX5_solve_58 : DD cX5_solve 58 (.aload_n 0) 1 59 := ⟨by decide +kernel, rfl⟩
theorem eX5_solve_59 : DD cX5_solve 59 (.dup) 1 60 := ⟨by decide +kernel, rfl⟩
theorem eX5_solve_60 : DD cX5_solve 60 (.getfield 30) 3 63 := ⟨by decide +kernel, rfl⟩
theorem eX5_solve_63 : DD cX5_solve 63 (.iconst 1) 1 64 := ⟨by decide +kernel, rfl⟩
theorem eX5_solve_64 : DD cX5_solve 64 (.iadd) 1 65 := ⟨by decide +kernel, rfl⟩
theorem eX5_solve_65 : DD cX5_solve 65 (.putfield 30) 3 68 := ⟨by decide +kernel, rfl⟩
theorem eX5_solve_68 : DD cX5_solve 68 (.iinc 3 1) 3 71 := ⟨by decide +kernel, rfl⟩
theorem eX5_solve_71 : DB cX5_solve 71 (.goto (-54)) (-54) 74 17 := ⟨by decide +kernel, rfl, by decide⟩
theorem eX5_solve_74 : DD cX5_solve 74 (.iconst 2) 1 75 := ⟨by decide +kernel, rfl⟩
theorem eX5_solve_75 : DD cX5_solve 75 (.istore_n 3) 1 76 := ⟨by decide +kernel, rfl⟩
theorem eX5_solve_76 : DD cX5_solve 76 (.iload_n 3) 1 77 := ⟨by decide +kernel, rfl⟩
theorem eX5_solve_77 : DD cX5_solve 77 (.iload_n 2) 1 78 := ⟨by decide +kernel, rfl⟩
theorem eX5_solve_78 : DB cX5_solve 78 (.if_icmp .gt 36) (36) 81 114 := ⟨by decide +kernel, rfl, by decide⟩
theorem eX5_solve_81 : DD cX5_solve 81 (.iconst 0) 1 82 := ⟨by decide +kernel, rfl⟩
theorem eX5_solve_82 : DD cX5_solve 82 (.istore 4) 2 84 := ⟨by decide +kernel, rfl⟩
theorem eX5_solve_84 : DD cX5_solve 84 (.iload 4) 2 86 := ⟨by decide +kernel, rfl⟩
theorem eX5_solve_86 : DD cX5_solve 86 (.aload_n 0) 1 87 := ⟨by decide +kernel, rfl⟩
theorem eX5_solve_87 : DD cX5_solve 87 (.getfield 33) 3 90 := ⟨by decide +kernel, rfl⟩
theorem eX5_solve_90 : DD cX5_solve 90 (.iload_n 3) 1 91 := ⟨by decide +kernel, rfl⟩
theorem eX5_solve_91 : DD cX5_solve 91 (.isub) 1 92 := ⟨by decide +kernel, rfl⟩
theorem eX5_solve_92 : DB cX5_solve 92 (.if_icmp .gt 16) (16) 95 108 := ⟨by decide +kernel, rfl, by decide⟩
theorem eX5_solve_95 : DD cX5_solve 95 (.aload_n 0) 1 96 := ⟨by decide +kernel, rfl⟩
theorem eX5_solve_96 : DD cX5_solve 96 (.iload_n 3) 1 97 := ⟨by decide +kernel, rfl⟩
theorem eX5_solve_97 : DD cX5_solve 97 (.iload 4) 2 99 := ⟨by decide +kernel, rfl⟩
theorem eX5_solve_99 : DD cX5_solve 99 (.invokevirtual 36) 3 102 := ⟨by decide +kernel, rfl⟩
theorem eX5_solve_102 : DD cX5_solve 102 (.iinc 4 1) 3 105 := ⟨by decide +kernel, rfl⟩
theorem eX5_solve_105 : DB cX5_solve 105 (.goto (-21)) (-21) 108 84 := ⟨by decide +kernel, rfl, by decide⟩
theorem eX5_solve_108 : DD cX5_solve 108 (.iinc 3 1) 3 111 := ⟨by decide +kernel, rfl⟩
theorem eX5_solve_111 : DB cX5_solve 111 (.goto (-35)) (-35) 114 76 := ⟨by decide +kernel, rfl, by decide⟩
theorem eX5_solve_114 : DD cX5_solve 114 (.return_) 1 115 := ⟨by decide +kernel, rfl⟩
def L_X5_solve_84 (kc_76 : Int32 → Int32 → Mem → Option (Unit × Mem)) : Nat → Int32 → Int32 → Int32 → Mem → Option (Unit × Mem)
  | 0, _, _, _, _ => none
  | n + 1, x2, x3, x4, μ => if ((rI μ 99 3) - x3) < x4 then lb (x3 + (1 : Int32)) (fun x3_1 => kc_76 x2 x3_1 μ) else bd (G_X5_seek x3 x4 μ) (fun r_3 μ_2 => lb (x4 + (1 : Int32)) (fun x4_4 => L_X5_solve_84 kc_76 n x2 x3 x4_4 μ_2))
set_option maxHeartbeats 4000000 in
theorem j_X5_solve_84 {C : Cx} (hC : Ok C cX5_solve 5 RX5 (rmF 1 31)) (hr : (cT C).sig.returnType = none) (kc_76 : Int32 → Int32 → Mem → Option (Unit × Mem)) (hk_76 : ∀ (x2 : Int32) (x3 : Int32) (μ : Mem), J C (KV C) μ 76 [(0, .ref (xad (cX C) 99)), (2, .int x2), (3, .int x3)] [] (kc_76 x2 x3 μ)) : ∀ (n : Nat) (x2 : Int32) (x3 : Int32) (x4 : Int32) (μ : Mem), J C (KV C) μ 84 [(0, .ref (xad (cX C) 99)), (2, .int x2), (3, .int x3), (4, .int x4)] [] (L_X5_solve_84 kc_76 n x2 x3 x4 μ) := by
  intro n
  induction n with
  | zero => intros; exact J.no
  | succ n ih =>
    intro x2 x3 x4 μ
    rw [L_X5_solve_84]
    refine J.iload (j := 3) hC eX5_solve_84 rfl ?_
    refine J.aload_n (j := 0) hC eX5_solve_86 rfl ?_
    refine gf_X5_33 hC eX5_solve_87 kk_99 ?_
    refine J.iload_n (j := 2) hC eX5_solve_90 rfl ?_
    refine J.isub hC eX5_solve_91 ?_
    refine J.icmp_gt hC eX5_solve_92 (fun _ => ?_) (fun _ => ?_)
    · refine J.iinc (j := 2) (fun x3_1 => [(3, .int x3_1), (0, .ref (xad (cX C) 99)), (2, .int x2), (4, .int x4)]) hC eX5_solve_108 rfl ci_1 (by decide) (fun _ => rfl) (fun x3_1 => ?_)
      refine J.goto hC eX5_solve_111 ?_
      refine J.sub [1, 2, 0] rfl ?_
      exact hk_76 x2 x3_1 μ
    · refine J.aload_n (j := 0) hC eX5_solve_95 rfl ?_
      refine J.iload_n (j := 2) hC eX5_solve_96 rfl ?_
      refine J.iload (j := 3) hC eX5_solve_97 rfl ?_
      refine J.callVV (st := []) hC eX5_solve_99 kk_99 (by decide) rfl rfl ml_X5_36 mv_X5_seek (Rle_of (Nat.le_of_ble_eq_true rfl) (Nat.le_of_ble_eq_true rfl)) (c_X5_seek hC.X x3 x4 μ) rfl rfl (Nat.le_of_ble_eq_true rfl) (fun r_3 μ_2 => ?_)
      refine J.iinc (j := 3) (fun x4_4 => [(4, .int x4_4), (0, .ref (xad (cX C) 99)), (2, .int x2), (3, .int x3)]) hC eX5_solve_102 rfl ci_1 (by decide) (fun _ => rfl) (fun x4_4 => ?_)
      refine J.goto hC eX5_solve_105 ?_
      refine J.sub [1, 2, 3, 0] rfl ?_
      exact ih x2 x3 x4_4 μ_2
def L_X5_solve_76 : Nat → Int32 → Int32 → Mem → Option (Unit × Mem)
  | 0, _, _, _ => none
  | n + 1, x2, x3, μ => if x2 < x3 then some ((), μ) else L_X5_solve_84 (L_X5_solve_76  n) 100000 x2 x3 (0 : Int32) μ
set_option maxHeartbeats 4000000 in
theorem j_X5_solve_76 {C : Cx} (hC : Ok C cX5_solve 5 RX5 (rmF 1 31)) (hr : (cT C).sig.returnType = none) : ∀ (n : Nat) (x2 : Int32) (x3 : Int32) (μ : Mem), J C (KV C) μ 76 [(0, .ref (xad (cX C) 99)), (2, .int x2), (3, .int x3)] [] (L_X5_solve_76  n x2 x3 μ) := by
  intro n
  induction n with
  | zero => intros; exact J.no
  | succ n ih =>
    intro x2 x3 μ
    rw [L_X5_solve_76]
    refine J.iload_n (j := 2) hC eX5_solve_76 rfl ?_
    refine J.iload_n (j := 1) hC eX5_solve_77 rfl ?_
    refine J.icmp_gt hC eX5_solve_78 (fun _ => ?_) (fun _ => ?_)
    · exact J.vret hC hr eX5_solve_114
    · refine J.iconst hC eX5_solve_81 ci_0 ?_
      refine J.istore [(4, .int (0 : Int32)), (0, .ref (xad (cX C) 99)), (2, .int x2), (3, .int x3)] hC eX5_solve_82 (by decide) rfl ?_
      refine J.sub [1, 2, 3, 0] rfl ?_
      exact j_X5_solve_84 hC hr (L_X5_solve_76  n) ih 100000 x2 x3 (0 : Int32) μ
def L_X5_solve_17 : Nat → Int32 → Int32 → Mem → Option (Unit × Mem)
  | 0, _, _, _ => none
  | n + 1, x2, x3, μ => if (rI μ 99 3) ≤ x3 then L_X5_solve_76  100000 x2 (2 : Int32) μ else gq (inB ((x3 * (17 : Int32)) + (rI μ 99 3)) 289) (gq (inB ((17 : Int32) + x3) 289) (lb (wL μ 101 (nx ((17 : Int32) + x3)) (rL μ 100 (nx ((x3 * (17 : Int32)) + (rI μ 99 3))))) (fun μ_1 => lb (wI μ_1 99 4 ((rI μ_1 99 4) + (1 : Int32))) (fun μ_2 => lb (wI μ_2 99 5 ((rI μ_2 99 5) + (1 : Int32))) (fun μ_3 => lb (x3 + (1 : Int32)) (fun x3_4 => L_X5_solve_17  n x2 x3_4 μ_3))))))
set_option maxHeartbeats 4000000 in
theorem j_X5_solve_17 {C : Cx} (hC : Ok C cX5_solve 5 RX5 (rmF 1 31)) (hr : (cT C).sig.returnType = none) : ∀ (n : Nat) (x2 : Int32) (x3 : Int32) (μ : Mem), J C (KV C) μ 17 [(0, .ref (xad (cX C) 99)), (2, .int x2), (3, .int x3)] [] (L_X5_solve_17  n x2 x3 μ) := by
  intro n
  induction n with
  | zero => intros; exact J.no
  | succ n ih =>
    intro x2 x3 μ
    rw [L_X5_solve_17]
    refine J.iload_n (j := 2) hC eX5_solve_17 rfl ?_
    refine J.aload_n (j := 0) hC eX5_solve_18 rfl ?_
    refine gf_X5_33 hC eX5_solve_19 kk_99 ?_
    refine J.icmp_ge hC eX5_solve_22 (fun _ => ?_) (fun _ => ?_)
    · refine J.iconst hC eX5_solve_74 ci_2 ?_
      refine J.istore_n [(3, .int (2 : Int32)), (0, .ref (xad (cX C) 99)), (2, .int x2)] hC eX5_solve_75 (by decide) rfl ?_
      refine J.sub [1, 2, 0] rfl ?_
      exact j_X5_solve_76 hC hr  100000 x2 (2 : Int32) μ
    · refine J.aload_n (j := 0) hC eX5_solve_25 rfl ?_
      refine gf_X5_15 (q := 101) hC eX5_solve_26 kk_99 rfl ?_
      refine J.bipush hC eX5_solve_29 cb_17 ?_
      refine J.iload_n (j := 2) hC eX5_solve_31 rfl ?_
      refine J.iadd hC eX5_solve_32 ?_
      refine J.aload_n (j := 0) hC eX5_solve_33 rfl ?_
      refine gf_X5_9 (q := 100) hC eX5_solve_34 kk_99 rfl ?_
      refine J.iload_n (j := 2) hC eX5_solve_37 rfl ?_
      refine J.bipush hC eX5_solve_38 cb_17 ?_
      refine J.imul hC eX5_solve_40 ?_
      refine J.aload_n (j := 0) hC eX5_solve_41 rfl ?_
      refine gf_X5_33 hC eX5_solve_42 kk_99 ?_
      refine J.iadd hC eX5_solve_45 ?_
      refine J.lald il_289 hC eX5_solve_46 kk_100 ?_
      refine J.last il_289 hC eX5_solve_47 kk_101 (fun μ_1 => ?_)
      refine J.aload_n (j := 0) hC eX5_solve_48 rfl ?_
      refine J.dup hC eX5_solve_49 rfl ?_
      refine gf_X5_26 hC eX5_solve_50 kk_99 ?_
      refine J.iconst hC eX5_solve_53 ci_1 ?_
      refine J.iadd hC eX5_solve_54 ?_
      refine pf_X5_26 hC eX5_solve_55 kk_99 (fun μ_2 => ?_)
      refine J.aload_n (j := 0) hC eX5_solve_58 rfl ?_
      refine J.dup hC eX5_solve_59 rfl ?_
      refine gf_X5_30 hC eX5_solve_60 kk_99 ?_
      refine J.iconst hC eX5_solve_63 ci_1 ?_
      refine J.iadd hC eX5_solve_64 ?_
      refine pf_X5_30 hC eX5_solve_65 kk_99 (fun μ_3 => ?_)
      refine J.iinc (j := 2) (fun x3_4 => [(3, .int x3_4), (0, .ref (xad (cX C) 99)), (2, .int x2)]) hC eX5_solve_68 rfl ci_1 (by decide) (fun _ => rfl) (fun x3_4 => ?_)
      refine J.goto hC eX5_solve_71 ?_
      refine J.sub [1, 2, 0] rfl ?_
      exact ih x2 x3_4 μ_3
def G_X5_solve (p1 : Nat) (x2 : Int32) (μ : Mem) : Option (Unit × Mem) :=
  bd (G_X5_findErrors p1 μ) (fun r_2 μ_1 => lb (wI μ_1 99 4 (0 : Int32)) (fun μ_3 => lb (wI μ_3 99 5 (0 : Int32)) (fun μ_4 => L_X5_solve_17  100000 x2 (0 : Int32) μ_4)))
set_option maxHeartbeats 4000000 in
theorem c_X5_solve {X : Wd} (hX : WdOk X) (p1 : Nat) (h1 : kd p1 = 4) (x2 : Int32) (μ : Mem) : CtV X yX5_solve cX5_solve 5 none (rmF 1 31) [.ref (xad X 99), .ref (xad X p1), .int x2] μ (G_X5_solve p1 x2 μ) := by
  refine CtV.of hX (plainFor_of_name (by decide)) (by exact Nat.le_of_ble_eq_true rfl) ?_
  intro C hCX hC hr
  subst hCX
  show J C (KV C) μ 0 [(0, .ref (xad (cX C) 99)), (1, .ref (xad (cX C) p1)), (2, .int x2)] [] _
  unfold G_X5_solve
  refine J.aload_n (j := 0) hC eX5_solve_0 rfl ?_
  refine J.aload_n (j := 1) hC eX5_solve_1 rfl ?_
  refine J.callVV (st := []) hC eX5_solve_2 kk_99 (by decide) rfl rfl ml_X5_22 mv_X5_findErrors (Rle_of (Nat.le_of_ble_eq_true rfl) (Nat.le_of_ble_eq_true rfl)) (c_X5_findErrors hC.X p1 h1 μ) rfl rfl (Nat.le_of_ble_eq_true rfl) (fun r_2 μ_1 => ?_)
  refine J.aload_n (j := 0) hC eX5_solve_5 rfl ?_
  refine J.iconst hC eX5_solve_6 ci_0 ?_
  refine pf_X5_26 hC eX5_solve_7 kk_99 (fun μ_3 => ?_)
  refine J.aload_n (j := 0) hC eX5_solve_10 rfl ?_
  refine J.iconst hC eX5_solve_11 ci_0 ?_
  refine pf_X5_30 hC eX5_solve_12 kk_99 (fun μ_4 => ?_)
  refine J.iconst hC eX5_solve_15 ci_0 ?_
  refine J.istore_n [(3, .int (0 : Int32)), (0, .ref (xad (cX C) 99)), (1, .ref (xad (cX C) p1)), (2, .int x2)] hC eX5_solve_16 (by decide) rfl ?_
  refine J.sub [1, 3, 0] rfl ?_
  exact j_X5_solve_17 hC hr  100000 x2 (0 : Int32) μ_4
-- X5_borderOf
theorem eX5_borderOf_0 : DD cX5_borderOf 0 (.iconst 0) 1 1 := ⟨by decide +kernel, rfl⟩
theorem eX5_borderOf_1 : DD cX5_borderOf 1 (.istore_n 3) 1 2 := ⟨by decide +kernel, rfl⟩
theorem eX5_borderOf_2 : DD cX5_borderOf 2 (.iconst 0) 1 3 := ⟨by decide +kernel, rfl⟩
theorem eX5_borderOf_3 : DD cX5_borderOf 3 (.istore 4) 2 5 := ⟨by decide +kernel, rfl⟩
theorem eX5_borderOf_5 : DD cX5_borderOf 5 (.iload 4) 2 7 := ⟨by decide +kernel, rfl⟩
theorem eX5_borderOf_7 : DD cX5_borderOf 7 (.iload_n 2) 1 8 := ⟨by decide +kernel, rfl⟩
theorem eX5_borderOf_8 : DB cX5_borderOf 8 (.if_icmp .ge 24) (24) 11 32 := ⟨by decide +kernel, rfl, by decide⟩
theorem eX5_borderOf_11 : DD cX5_borderOf 11 (.aload_n 0) 1 12 := ⟨by decide +kernel, rfl⟩
theorem eX5_borderOf_12 : DD cX5_borderOf 12 (.getfield 18) 3 15 := ⟨by decide +kernel, rfl⟩
theorem eX5_borderOf_15 : DD cX5_borderOf 15 (.iload_n 1) 1 16 := ⟨by decide +kernel, rfl⟩
theorem eX5_borderOf_16 : DD cX5_borderOf 16 (.iload 4) 2 18 := ⟨by decide +kernel, rfl⟩
theorem eX5_borderOf_18 : DD cX5_borderOf 18 (.isub) 1 19 := ⟨by decide +kernel, rfl⟩
theorem eX5_borderOf_19 : DD cX5_borderOf 19 (.bipush 17) 2 21 := ⟨by decide +kernel, rfl⟩
theorem eX5_borderOf_21 : DD cX5_borderOf 21 (.imul) 1 22 := ⟨by decide +kernel, rfl⟩
theorem eX5_borderOf_22 : DD cX5_borderOf 22 (.iload_n 3) 1 23 := ⟨by decide +kernel, rfl⟩
theorem eX5_borderOf_23 : DD cX5_borderOf 23 (.iadd) 1 24 := ⟨by decide +kernel, rfl⟩
theorem eX5_borderOf_24 : DD cX5_borderOf 24 (.iaload) 1 25 := ⟨by decide +kernel, rfl⟩
theorem eX5_borderOf_25 : DD cX5_borderOf 25 (.istore_n 3) 1 26 := ⟨by decide +kernel, rfl⟩
theorem eX5_borderOf_26 : DD cX5_borderOf 26 (.iinc 4 1) 3 29 := ⟨by decide +kernel, rfl⟩
theorem eX5_borderOf_29 : DB cX5_borderOf 29 (.goto (-24)) (-24) 32 5 := ⟨by decide +kernel, rfl, by decide⟩
theorem eX5_borderOf_32 : DD cX5_borderOf 32 (.iload_n 3) 1 33 := ⟨by decide +kernel, rfl⟩
theorem eX5_borderOf_33 : DD cX5_borderOf 33 (.ireturn) 1 34 := ⟨by decide +kernel, rfl⟩
def L_X5_borderOf_5 : Nat → Int32 → Int32 → Int32 → Int32 → Mem → Option (Int32 × Mem)
  | 0, _, _, _, _, _ => none
  | n + 1, x1, x2, x3, x4, μ => if x2 ≤ x4 then some (x3, μ) else gq (inB (((x1 - x4) * (17 : Int32)) + x3) 289) (lb (rI μ 102 (nx (((x1 - x4) * (17 : Int32)) + x3))) (fun x3_1 => lb (x4 + (1 : Int32)) (fun x4_2 => L_X5_borderOf_5  n x1 x2 x3_1 x4_2 μ)))
set_option maxHeartbeats 4000000 in
theorem j_X5_borderOf_5 {C : Cx} (hC : Ok C cX5_borderOf 5 RX5 (rmF 0 0)) (hr : (cT C).sig.returnType = (some .int)) : ∀ (n : Nat) (x1 : Int32) (x2 : Int32) (x3 : Int32) (x4 : Int32) (μ : Mem), J C (KI C) μ 5 [(0, .ref (xad (cX C) 99)), (1, .int x1), (2, .int x2), (3, .int x3), (4, .int x4)] [] (L_X5_borderOf_5  n x1 x2 x3 x4 μ) := by
  intro n
  induction n with
  | zero => intros; exact J.no
  | succ n ih =>
    intro x1 x2 x3 x4 μ
    rw [L_X5_borderOf_5]
    refine J.iload (j := 4) hC eX5_borderOf_5 rfl ?_
    refine J.iload_n (j := 2) hC eX5_borderOf_7 rfl ?_
    refine J.icmp_ge hC eX5_borderOf_8 (fun _ => ?_) (fun _ => ?_)
    · refine J.iload_n (j := 3) hC eX5_borderOf_32 rfl ?_
      exact J.iret hC hr eX5_borderOf_33
    · refine J.aload_n (j := 0) hC eX5_borderOf_11 rfl ?_
      refine gf_X5_18 (q := 102) hC eX5_borderOf_12 kk_99 rfl ?_
      refine J.iload_n (j := 1) hC eX5_borderOf_15 rfl ?_
      refine J.iload (j := 4) hC eX5_borderOf_16 rfl ?_
      refine J.isub hC eX5_borderOf_18 ?_
      refine J.bipush hC eX5_borderOf_19 cb_17 ?_
      refine J.imul hC eX5_borderOf_21 ?_
      refine J.iload_n (j := 3) hC eX5_borderOf_22 rfl ?_
      refine J.iadd hC eX5_borderOf_23 ?_
      refine J.iald ik_289 hC eX5_borderOf_24 kk_102 ?_
      refine J.topi (fun x3_1 => ?_)
      refine J.istore_n [(3, .int x3_1), (0, .ref (xad (cX C) 99)), (1, .int x1), (2, .int x2), (4, .int x4)] hC eX5_borderOf_25 (by decide) rfl ?_
      refine J.iinc (j := 4) (fun x4_2 => [(4, .int x4_2), (3, .int x3_1), (0, .ref (xad (cX C) 99)), (1, .int x1), (2, .int x2)]) hC eX5_borderOf_26 rfl ci_1 (by decide) (fun _ => rfl) (fun x4_2 => ?_)
      refine J.goto hC eX5_borderOf_29 ?_
      refine J.sub [2, 3, 4, 1, 0] rfl ?_
      exact ih x1 x2 x3_1 x4_2 μ
def G_X5_borderOf (x1 : Int32) (x2 : Int32) (μ : Mem) : Option (Int32 × Mem) :=
  L_X5_borderOf_5  100000 x1 x2 (0 : Int32) (0 : Int32) μ
set_option maxHeartbeats 4000000 in
theorem c_X5_borderOf {X : Wd} (hX : WdOk X) (x1 : Int32) (x2 : Int32) (μ : Mem) : CtI X yX5_borderOf cX5_borderOf 5 (some .int) (rmF 0 0) [.ref (xad X 99), .int x1, .int x2] μ (G_X5_borderOf x1 x2 μ) := by
  refine CtI.of hX (plainFor_of_name (by decide)) (by exact Nat.le_of_ble_eq_true rfl) ?_
  intro C hCX hC hr
  subst hCX
  show J C (KI C) μ 0 [(0, .ref (xad (cX C) 99)), (1, .int x1), (2, .int x2)] [] _
  unfold G_X5_borderOf
  refine J.iconst hC eX5_borderOf_0 ci_0 ?_
  refine J.istore_n [(3, .int (0 : Int32)), (0, .ref (xad (cX C) 99)), (1, .int x1), (2, .int x2)] hC eX5_borderOf_1 (by decide) rfl ?_
  refine J.iconst hC eX5_borderOf_2 ci_0 ?_
  refine J.istore [(4, .int (0 : Int32)), (3, .int (0 : Int32)), (0, .ref (xad (cX C) 99)), (1, .int x1), (2, .int x2)] hC eX5_borderOf_3 (by decide) rfl ?_
  refine J.sub [2, 3, 4, 1, 0] rfl ?_
  exact j_X5_borderOf_5 hC hr  100000 x1 x2 (0 : Int32) (0 : Int32) μ
-- X4_firstOf
theorem eX4_firstOf_0 : DD cX4_firstOf 0 (.aload_n 0) 1 1 := ⟨by decide +kernel, rfl⟩
theorem eX4_firstOf_1 : DD cX4_firstOf 1 (.getfield 15) 3 4 := ⟨by decide +kernel, rfl⟩
theorem eX4_firstOf_4 : DD cX4_firstOf 4 (.iconst 2) 1 5 := ⟨by decide +kernel, rfl⟩
theorem eX4_firstOf_5 : DD cX4_firstOf 5 (.iload_n 1) 1 6 := ⟨by decide +kernel, rfl⟩
theorem eX4_firstOf_6 : DD cX4_firstOf 6 (.iadd) 1 7 := ⟨by decide +kernel, rfl⟩
theorem eX4_firstOf_7 : DD cX4_firstOf 7 (.iaload) 1 8 := ⟨by decide +kernel, rfl⟩
theorem eX4_firstOf_8 : DD cX4_firstOf 8 (.ireturn) 1 9 := ⟨by decide +kernel, rfl⟩
def G_X4_firstOf (p0 : Nat) (x1 : Int32) (μ : Mem) : Option (Int32 × Mem) :=
  gq (inB ((2 : Int32) + x1) 26) (some (rI μ (p0 + 2) (nx ((2 : Int32) + x1)), μ))
set_option maxHeartbeats 4000000 in
theorem c_X4_firstOf {X : Wd} (hX : WdOk X) (p0 : Nat) (h0 : kd p0 = 4) (x1 : Int32) (μ : Mem) : CtI X yX4_firstOf cX4_firstOf 2 (some .int) (rmF 0 0) [.ref (xad X p0), .int x1] μ (G_X4_firstOf p0 x1 μ) := by
  refine CtI.of hX (plainFor_of_name (by decide)) (by exact Nat.le_of_ble_eq_true rfl) ?_
  intro C hCX hC hr
  subst hCX
  show J C (KI C) μ 0 [(0, .ref (xad (cX C) p0)), (1, .int x1)] [] _
  unfold G_X4_firstOf
  refine J.aload_n (j := 0) hC eX4_firstOf_0 rfl ?_
  refine gf_X4_15 (q := p0 + 2) hC eX4_firstOf_1 h0 rfl ?_
  refine J.iconst hC eX4_firstOf_4 ci_2 ?_
  refine J.iload_n (j := 1) hC eX4_firstOf_5 rfl ?_
  refine J.iadd hC eX4_firstOf_6 ?_
  refine J.iald ik_26 hC eX4_firstOf_7 (kf_X4_state h0) ?_
  exact J.iret hC hr eX4_firstOf_8
-- X4_lastOf
theorem eX4_lastOf_0 : DD cX4_lastOf 0 (.iload_n 1) 1 1 := ⟨by decide +kernel, rfl⟩
theorem eX4_lastOf_1 : DD cX4_lastOf 1 (.iconst 1) 1 2 := ⟨by decide +kernel, rfl⟩
theorem eX4_lastOf_2 : DD cX4_lastOf 2 (.iadd) 1 3 := ⟨by decide +kernel, rfl⟩
theorem eX4_lastOf_3 : DD cX4_lastOf 3 (.aload_n 0) 1 4 := ⟨by decide +kernel, rfl⟩
theorem eX4_lastOf_4 : DD cX4_lastOf 4 (.getfield 15) 3 7 := ⟨by decide +kernel, rfl⟩
theorem eX4_lastOf_7 : DD cX4_lastOf 7 (.iconst 0) 1 8 := ⟨by decide +kernel, rfl⟩
theorem eX4_lastOf_8 : DD cX4_lastOf 8 (.iaload) 1 9 := ⟨by decide +kernel, rfl⟩
theorem eX4_lastOf_9 : DB cX4_lastOf 9 (.if_icmp .ge 16) (16) 12 25 := ⟨by decide +kernel, rfl, by decide⟩
theorem eX4_lastOf_12 : DD cX4_lastOf 12 (.aload_n 0) 1 13 := ⟨by decide +kernel, rfl⟩
theorem eX4_lastOf_13 : DD cX4_lastOf 13 (.getfield 15) 3 16 := ⟨by decide +kernel, rfl⟩
theorem eX4_lastOf_16 : DD cX4_lastOf 16 (.iconst 2) 1 17 := ⟨by decide +kernel, rfl⟩
theorem eX4_lastOf_17 : DD cX4_lastOf 17 (.iload_n 1) 1 18 := ⟨by decide +kernel, rfl⟩
theorem eX4_lastOf_18 : DD cX4_lastOf 18 (.iadd) 1 19 := ⟨by decide +kernel, rfl⟩
theorem eX4_lastOf_19 : DD cX4_lastOf 19 (.iconst 1) 1 20 := ⟨by decide +kernel, rfl⟩
theorem eX4_lastOf_20 : DD cX4_lastOf 20 (.iadd) 1 21 := ⟨by decide +kernel, rfl⟩
theorem eX4_lastOf_21 : DD cX4_lastOf 21 (.iaload) 1 22 := ⟨by decide +kernel, rfl⟩
theorem eX4_lastOf_22 : DB cX4_lastOf 22 (.goto 7) (7) 25 29 := ⟨by decide +kernel, rfl, by decide⟩
theorem eX4_lastOf_25 : DD cX4_lastOf 25 (.aload_n 0) 1 26 := ⟨by decide +kernel, rfl⟩
theorem eX4_lastOf_26 : DD cX4_lastOf 26 (.getfield 18) 3 29 := ⟨by decide +kernel, rfl⟩
theorem eX4_lastOf_29 : DD cX4_lastOf 29 (.iconst 1) 1 30 := ⟨by decide +kernel, rfl⟩
theorem eX4_lastOf_30 : DD cX4_lastOf 30 (.isub) 1 31 := ⟨by decide +kernel, rfl⟩
theorem eX4_lastOf_31 : DD cX4_lastOf 31 (.ireturn) 1 32 := ⟨by decide +kernel, rfl⟩
def F_X4_lastOf_29 (xs0 : Int32) (μ : Mem) : Option (Int32 × Mem) :=
  some (xs0 - (1 : Int32), μ)
set_option maxHeartbeats 4000000 in
theorem j_X4_lastOf_29 {C : Cx} (hC : Ok C cX4_lastOf 2 RX4 (rmF 0 0)) (hr : (cT C).sig.returnType = (some .int)) (xs0 : Int32) (μ : Mem) : J C (KI C) μ 29 [] [.int xs0] (F_X4_lastOf_29  xs0 μ) := by
  unfold F_X4_lastOf_29
  refine J.iconst hC eX4_lastOf_29 ci_1 ?_
  refine J.isub hC eX4_lastOf_30 ?_
  exact J.iret hC hr eX4_lastOf_31
def G_X4_lastOf (p0 : Nat) (x1 : Int32) (μ : Mem) : Option (Int32 × Mem) :=
  if (rI μ (p0 + 2) 0) ≤ (x1 + (1 : Int32)) then F_X4_lastOf_29  (rI μ p0 2) μ else gq (inB (((2 : Int32) + x1) + (1 : Int32)) 26) (F_X4_lastOf_29  (rI μ (p0 + 2) (nx (((2 : Int32) + x1) + (1 : Int32)))) μ)
set_option maxHeartbeats 4000000 in
theorem c_X4_lastOf {X : Wd} (hX : WdOk X) (p0 : Nat) (h0 : kd p0 = 4) (x1 : Int32) (μ : Mem) : CtI X yX4_lastOf cX4_lastOf 2 (some .int) (rmF 0 0) [.ref (xad X p0), .int x1] μ (G_X4_lastOf p0 x1 μ) := by
  refine CtI.of hX (plainFor_of_name (by decide)) (by exact Nat.le_of_ble_eq_true rfl) ?_
  intro C hCX hC hr
  subst hCX
  show J C (KI C) μ 0 [(0, .ref (xad (cX C) p0)), (1, .int x1)] [] _
  unfold G_X4_lastOf
  refine J.iload_n (j := 1) hC eX4_lastOf_0 rfl ?_
  refine J.iconst hC eX4_lastOf_1 ci_1 ?_
  refine J.iadd hC eX4_lastOf_2 ?_
  refine J.aload_n (j := 0) hC eX4_lastOf_3 rfl ?_
  refine gf_X4_15 (q := p0 + 2) hC eX4_lastOf_4 h0 rfl ?_
  refine J.iconst hC eX4_lastOf_7 ci_0 ?_
  refine J.ialdK (j := 0) ik_26 hC eX4_lastOf_8 (kf_X4_state h0) (by decide) (by decide) ?_
  refine J.icmp_ge hC eX4_lastOf_9 (fun _ => ?_) (fun _ => ?_)
  · refine J.aload_n (j := 0) hC eX4_lastOf_25 rfl ?_
    refine gf_X4_18 hC eX4_lastOf_26 h0 ?_
    refine J.sub [] rfl ?_
    exact j_X4_lastOf_29 hC hr  (rI μ p0 2) μ
  · refine J.aload_n (j := 0) hC eX4_lastOf_12 rfl ?_
    refine gf_X4_15 (q := p0 + 2) hC eX4_lastOf_13 h0 rfl ?_
    refine J.iconst hC eX4_lastOf_16 ci_2 ?_
    refine J.iload_n (j := 1) hC eX4_lastOf_17 rfl ?_
    refine J.iadd hC eX4_lastOf_18 ?_
    refine J.iconst hC eX4_lastOf_19 ci_1 ?_
    refine J.iadd hC eX4_lastOf_20 ?_
    refine J.iald ik_26 hC eX4_lastOf_21 (kf_X4_state h0) ?_
    refine J.goto hC eX4_lastOf_22 ?_
    refine J.sub [] rfl ?_
    exact j_X4_lastOf_29 hC hr  (rI μ (p0 + 2) (nx (((2 : Int32) + x1) + (1 : Int32)))) μ
-- X4_weigh
theorem eX4_weigh_0 : DD cX4_weigh 0 (.iconst 0) 1 1 := ⟨by decide +kernel, rfl⟩
theorem eX4_weigh_1 : DD cX4_weigh 1 (.istore_n 2) 1 2 := ⟨by decide +kernel, rfl⟩
theorem eX4_weigh_2 : DD cX4_weigh 2 (.iconst 0) 1 3 := ⟨by decide +kernel, rfl⟩
theorem eX4_weigh_3 : DD cX4_weigh 3 (.istore_n 3) 1 4 := ⟨by decide +kernel, rfl⟩
theorem eX4_weigh_4 : DD cX4_weigh 4 (.aload_n 0) 1 5 := ⟨by decide +kernel, rfl⟩
theorem eX4_weigh_5 : DD cX4_weigh 5 (.iload_n 1) 1 6 := ⟨by decide +kernel, rfl⟩
theorem eX4_weigh_6 : DD cX4_weigh 6 (.invokevirtual 26) 3 9 := ⟨by decide +kernel, rfl⟩
theorem eX4_weigh_9 : DD cX4_weigh 9 (.istore 4) 2 11 := ⟨by decide +kernel, rfl⟩
theorem eX4_weigh_11 : DD cX4_weigh 11 (.iload 4) 2 13 := ⟨by decide +kernel, rfl⟩
theorem eX4_weigh_13 : DD cX4_weigh 13 (.aload_n 0) 1 14 := ⟨by decide +kernel, rfl⟩
theorem eX4_weigh_14 : DD cX4_weigh 14 (.iload_n 1) 1 15 := ⟨by decide +kernel, rfl⟩
theorem eX4_weigh_15 : DD cX4_weigh 15 (.invokevirtual 22) 3 18 := ⟨by decide +kernel, rfl⟩
theorem eX4_weigh_18 : DB cX4_weigh 18 (.if_icmp .gt 31) (31) 21 49 := ⟨by decide +kernel, rfl, by decide⟩
theorem eX4_weigh_21 : DD cX4_weigh 21 (.iload_n 2) 1 22 := ⟨by decide +kernel, rfl⟩
theorem eX4_weigh_22 : DD cX4_weigh 22 (.aload_n 0) 1 23 := ⟨by decide +kernel, rfl⟩
theorem eX4_weigh_23 : DD cX4_weigh 23 (.getfield 11) 3 26 := ⟨by decide +kernel, rfl⟩
theorem eX4_weigh_26 : DD cX4_weigh 26 (.iload 4) 2 28 := ⟨by decide +kernel, rfl⟩
theorem eX4_weigh_28 : DD cX4_weigh 28 (.iaload) 1 29 := ⟨by decide +kernel, rfl⟩
theorem eX4_weigh_29 : DD cX4_weigh 29 (.iadd) 1 30 := ⟨by decide +kernel, rfl⟩
theorem eX4_weigh_30 : DD cX4_weigh 30 (.istore_n 2) 1 31 := ⟨by decide +kernel, rfl⟩
theorem eX4_weigh_31 : DD cX4_weigh 31 (.iload_n 3) 1 32 := ⟨by decide +kernel, rfl⟩
theorem eX4_weigh_32 : DD cX4_weigh 32 (.aload_n 0) 1 33 := ⟨by decide +kernel, rfl⟩
theorem eX4_weigh_33 : DD cX4_weigh 33 (.getfield 11) 3 36 := ⟨by decide +kernel, rfl⟩
theorem eX4_weigh_36 : DD cX4_weigh 36 (.iload 4) 2 38 := ⟨by decide +kernel, rfl⟩
theorem eX4_weigh_38 : DD cX4_weigh 38 (.iaload) 1 39 := ⟨by decide +kernel, rfl⟩
theorem eX4_weigh_39 : DD cX4_weigh 39 (.invokestatic 63) 3 42 := ⟨by decide +kernel, rfl⟩
theorem eX4_weigh_42 : DD cX4_weigh 42 (.istore_n 3) 1 43 := ⟨by decide +kernel, rfl⟩
theorem eX4_weigh_43 : DD cX4_weigh 43 (.iinc 4 1) 3 46 := ⟨by decide +kernel, rfl⟩
theorem eX4_weigh_46 : DB cX4_weigh 46 (.goto (-35)) (-35) 49 11 := ⟨by decide +kernel, rfl, by decide⟩
theorem eX4_weigh_49 : DD cX4_weigh 49 (.aload_n 0) 1 50 := ⟨by decide +kernel, rfl⟩
theorem eX4_weigh_50 : DD cX4_weigh 50 (.getfield 15) 3 53 := ⟨by decide +kernel, rfl⟩
theorem eX4_weigh_53 : DD cX4_weigh 53 (.bipush 10) 2 55 := ⟨by decide +kernel, rfl⟩
theorem eX4_weigh_55 : DD cX4_weigh 55 (.iload_n 1) 1 56 := ⟨by decide +kernel, rfl⟩
theorem eX4_weigh_56 : DD cX4_weigh 56 (.iadd) 1 57 := ⟨by decide +kernel, rfl⟩
theorem eX4_weigh_57 : DD cX4_weigh 57 (.iload_n 2) 1 58 := ⟨by decide +kernel, rfl⟩
theorem eX4_weigh_58 : DD cX4_weigh 58 (.iastore) 1 59 := ⟨by decide +kernel, rfl⟩
theorem eX4_weigh_59 : DD cX4_weigh 59 (.aload_n 0) 1 60 := ⟨by decide +kernel, rfl⟩
theorem eX4_weigh_60 : DD cX4_weigh 60 (.getfield 15) 3 63 := ⟨by decide +kernel, rfl⟩
theorem eX4_weigh_63 : DD cX4_weigh 63 (.bipush 18) 2 65 := ⟨by decide +kernel, rfl⟩
theorem eX4_weigh_65 : DD cX4_weigh 65 (.iload_n 1) 1 66 := ⟨by decide +kernel, rfl⟩
theorem eX4_weigh_66 : DD cX4_weigh 66 (.iadd) 1 67 := ⟨by decide +kernel, rfl⟩
theorem eX4_weigh_67 : DD cX4_weigh 67 (.iload_n 3) 1 68 := ⟨by decide +kernel, rfl⟩
theorem eX4_weigh_68 : DD cX4_weigh 68 (.iastore) 1 69 := ⟨by decide +kernel, rfl⟩
theorem eX4_weigh_69 : DD cX4_weigh 69 (.return_) 1 70 := ⟨by decide +kernel, rfl⟩
def L_X4_weigh_11 : Nat → Nat → Int32 → Int32 → Int32 → Int32 → Mem → Option (Unit × Mem)
  | 0, _, _, _, _, _, _ => none
  | n + 1, p0, x1, x2, x3, x4, μ => bd (G_X4_lastOf p0 x1 μ) (fun r_2 μ_1 => if r_2 < x4 then gq (inB ((10 : Int32) + x1) 26) (lb (wI μ_1 (p0 + 2) (nx ((10 : Int32) + x1)) x2) (fun μ_3 => gq (inB ((18 : Int32) + x1) 26) (lb (wI μ_3 (p0 + 2) (nx ((18 : Int32) + x1)) x3) (fun μ_4 => some ((), μ_4))))) else gq (inB x4 16) (lb (x2 + (rI μ_1 (p0 + 1) (nx x4))) (fun x2_5 => gq (inB x4 16) (lb (imax x3 (rI μ_1 (p0 + 1) (nx x4))) (fun x3_6 => lb (x4 + (1 : Int32)) (fun x4_7 => L_X4_weigh_11  n p0 x1 x2_5 x3_6 x4_7 μ_1))))))
set_option maxHeartbeats 4000000 in
theorem j_X4_weigh_11 {C : Cx} (hC : Ok C cX4_weigh 5 RX4 (rmF 1 21)) (hr : (cT C).sig.returnType = none) : ∀ (n : Nat) (p0 : Nat) (h0 : kd p0 = 4) (x1 : Int32) (x2 : Int32) (x3 : Int32) (x4 : Int32) (μ : Mem), J C (KV C) μ 11 [(0, .ref (xad (cX C) p0)), (1, .int x1), (2, .int x2), (3, .int x3), (4, .int x4)] [] (L_X4_weigh_11  n p0 x1 x2 x3 x4 μ) := by
  intro n
  induction n with
  | zero => intros; exact J.no
  | succ n ih =>
    intro p0 h0 x1 x2 x3 x4 μ
    rw [L_X4_weigh_11]
    refine J.iload (j := 4) hC eX4_weigh_11 rfl ?_
    refine J.aload_n (j := 0) hC eX4_weigh_13 rfl ?_
    refine J.iload_n (j := 1) hC eX4_weigh_14 rfl ?_
    refine J.callVI (st := [.int x4]) hC eX4_weigh_15 h0 (by decide) rfl rfl ml_X4_22 mv_X4_lastOf (Rle_of (Nat.le_of_ble_eq_true rfl) (Nat.le_of_ble_eq_true rfl)) (c_X4_lastOf hC.X p0 h0 x1 μ) rfl rfl (Nat.le_of_ble_eq_true rfl) (fun r_2 μ_1 => ?_)
    refine J.icmp_gt hC eX4_weigh_18 (fun _ => ?_) (fun _ => ?_)
    · refine J.aload_n (j := 0) hC eX4_weigh_49 rfl ?_
      refine gf_X4_15 (q := p0 + 2) hC eX4_weigh_50 h0 rfl ?_
      refine J.bipush hC eX4_weigh_53 cb_10 ?_
      refine J.iload_n (j := 1) hC eX4_weigh_55 rfl ?_
      refine J.iadd hC eX4_weigh_56 ?_
      refine J.iload_n (j := 2) hC eX4_weigh_57 rfl ?_
      refine J.iast ik_26 hC eX4_weigh_58 (kf_X4_state h0) (fun μ_3 => ?_)
      refine J.aload_n (j := 0) hC eX4_weigh_59 rfl ?_
      refine gf_X4_15 (q := p0 + 2) hC eX4_weigh_60 h0 rfl ?_
      refine J.bipush hC eX4_weigh_63 cb_18 ?_
      refine J.iload_n (j := 1) hC eX4_weigh_65 rfl ?_
      refine J.iadd hC eX4_weigh_66 ?_
      refine J.iload_n (j := 3) hC eX4_weigh_67 rfl ?_
      refine J.iast ik_26 hC eX4_weigh_68 (kf_X4_state h0) (fun μ_4 => ?_)
      exact J.vret hC hr eX4_weigh_69
    · refine J.iload_n (j := 2) hC eX4_weigh_21 rfl ?_
      refine J.aload_n (j := 0) hC eX4_weigh_22 rfl ?_
      refine gf_X4_11 (q := p0 + 1) hC eX4_weigh_23 h0 rfl ?_
      refine J.iload (j := 4) hC eX4_weigh_26 rfl ?_
      refine J.iald ik_16 hC eX4_weigh_28 (kf_X4_counts h0) ?_
      refine J.iadd hC eX4_weigh_29 ?_
      refine J.topi (fun x2_5 => ?_)
      refine J.istore_n [(2, .int x2_5), (0, .ref (xad (cX C) p0)), (1, .int x1), (3, .int x3), (4, .int x4)] hC eX4_weigh_30 (by decide) rfl ?_
      refine J.iload_n (j := 3) hC eX4_weigh_31 rfl ?_
      refine J.aload_n (j := 1) hC eX4_weigh_32 rfl ?_
      refine gf_X4_11 (q := p0 + 1) hC eX4_weigh_33 h0 rfl ?_
      refine J.iload (j := 4) hC eX4_weigh_36 rfl ?_
      refine J.iald ik_16 hC eX4_weigh_38 (kf_X4_counts h0) ?_
      refine J.mmax hC eX4_weigh_39 ml_X4_63 w_smax w_im w_cmax (Nat.le_of_ble_eq_true rfl) (Nat.le_of_ble_eq_true rfl) ?_
      refine J.topi (fun x3_6 => ?_)
      refine J.istore_n [(3, .int x3_6), (2, .int x2_5), (0, .ref (xad (cX C) p0)), (1, .int x1), (4, .int x4)] hC eX4_weigh_42 (by decide) rfl ?_
      refine J.iinc (j := 4) (fun x4_7 => [(4, .int x4_7), (3, .int x3_6), (2, .int x2_5), (0, .ref (xad (cX C) p0)), (1, .int x1)]) hC eX4_weigh_43 rfl ci_1 (by decide) (fun _ => rfl) (fun x4_7 => ?_)
      refine J.goto hC eX4_weigh_46 ?_
      refine J.sub [3, 4, 2, 1, 0] rfl ?_
      exact ih p0 h0 x1 x2_5 x3_6 x4_7 μ_1
def G_X4_weigh (p0 : Nat) (x1 : Int32) (μ : Mem) : Option (Unit × Mem) :=
  bd (G_X4_firstOf p0 x1 μ) (fun r_2 μ_1 => L_X4_weigh_11  100000 p0 x1 (0 : Int32) (0 : Int32) r_2 μ_1)
set_option maxHeartbeats 4000000 in
theorem c_X4_weigh {X : Wd} (hX : WdOk X) (p0 : Nat) (h0 : kd p0 = 4) (x1 : Int32) (μ : Mem) : CtV X yX4_weigh cX4_weigh 5 none (rmF 1 21) [.ref (xad X p0), .int x1] μ (G_X4_weigh p0 x1 μ) := by
  refine CtV.of hX (plainFor_of_name (by decide)) (by exact Nat.le_of_ble_eq_true rfl) ?_
  intro C hCX hC hr
  subst hCX
  show J C (KV C) μ 0 [(0, .ref (xad (cX C) p0)), (1, .int x1)] [] _
  unfold G_X4_weigh
  refine J.iconst hC eX4_weigh_0 ci_0 ?_
  refine J.istore_n [(2, .int (0 : Int32)), (0, .ref (xad (cX C) p0)), (1, .int x1)] hC eX4_weigh_1 (by decide) rfl ?_
  refine J.iconst hC eX4_weigh_2 ci_0 ?_
  refine J.istore_n [(3, .int (0 : Int32)), (2, .int (0 : Int32)), (0, .ref (xad (cX C) p0)), (1, .int x1)] hC eX4_weigh_3 (by decide) rfl ?_
  refine J.aload_n (j := 2) hC eX4_weigh_4 rfl ?_
  refine J.iload_n (j := 3) hC eX4_weigh_5 rfl ?_
  refine J.callVI (st := []) hC eX4_weigh_6 h0 (by decide) rfl rfl ml_X4_26 mv_X4_firstOf (Rle_of (Nat.le_of_ble_eq_true rfl) (Nat.le_of_ble_eq_true rfl)) (c_X4_firstOf hC.X p0 h0 x1 μ) rfl rfl (Nat.le_of_ble_eq_true rfl) (fun r_2 μ_1 => ?_)
  refine J.istore [(4, .int r_2), (3, .int (0 : Int32)), (2, .int (0 : Int32)), (0, .ref (xad (cX C) p0)), (1, .int x1)] hC eX4_weigh_9 (by decide) rfl ?_
  refine J.sub [3, 4, 2, 1, 0] rfl ?_
  exact j_X4_weigh_11 hC hr  100000 p0 h0 x1 (0 : Int32) (0 : Int32) r_2 μ_1
-- X4_layAnew
theorem eX4_layAnew_0 : DD cX4_layAnew 0 (.iload_n 2) 1 1 := ⟨by decide +kernel, rfl⟩
theorem eX4_layAnew_1 : DD cX4_layAnew 1 (.aload_n 0) 1 2 := ⟨by decide +kernel, rfl⟩
theorem eX4_layAnew_2 : DD cX4_layAnew 2 (.getfield 18) 3 5 := ⟨by decide +kernel, rfl⟩
theorem eX4_layAnew_5 : DD cX4_layAnew 5 (.invokestatic 44) 3 8 := ⟨by decide +kernel, rfl⟩
theorem eX4_layAnew_8 : DD cX4_layAnew 8 (.istore_n 3) 1 9 := ⟨by decide +kernel, rfl⟩
theorem eX4_layAnew_9 : DD cX4_layAnew 9 (.aload_n 1) 1 10 := ⟨by decide +kernel, rfl⟩
theorem eX4_layAnew_10 : DD cX4_layAnew 10 (.aload_n 0) 1 11 := ⟨by decide +kernel, rfl⟩
theorem eX4_layAnew_11 : DD cX4_layAnew 11 (.iload_n 3) 1 12 := ⟨by decide +kernel, rfl⟩
theorem eX4_layAnew_12 : DD cX4_layAnew 12 (.invokevirtual 50) 3 15 := ⟨by decide +kernel, rfl⟩
theorem eX4_layAnew_15 : DD cX4_layAnew 15 (.aload_n 0) 1 16 := ⟨by decide +kernel, rfl⟩
theorem eX4_layAnew_16 : DD cX4_layAnew 16 (.getfield 15) 3 19 := ⟨by decide +kernel, rfl⟩
theorem eX4_layAnew_19 : DD cX4_layAnew 19 (.iconst 0) 1 20 := ⟨by decide +kernel, rfl⟩
theorem eX4_layAnew_20 : DD cX4_layAnew 20 (.iload_n 3) 1 21 := ⟨by decide +kernel, rfl⟩
theorem eX4_layAnew_21 : DD cX4_layAnew 21 (.iastore) 1 22 := ⟨by decide +kernel, rfl⟩
theorem eX4_layAnew_22 : DD cX4_layAnew 22 (.aload_n 0) 1 23 := ⟨by decide +kernel, rfl⟩
theorem eX4_layAnew_23 : DD cX4_layAnew 23 (.getfield 15) 3 26 := ⟨by decide +kernel, rfl⟩
theorem eX4_layAnew_26 : DD cX4_layAnew 26 (.iconst 1) 1 27 := ⟨by decide +kernel, rfl⟩
theorem eX4_layAnew_27 : DD cX4_layAnew 27 (.iconst 0) 1 28 := ⟨by decide +kernel, rfl⟩
theorem eX4_layAnew_28 : DD cX4_layAnew 28 (.iastore) 1 29 := ⟨by decide +kernel, rfl⟩
theorem eX4_layAnew_29 : DD cX4_layAnew 29 (.iconst 0) 1 30 := ⟨by decide +kernel, rfl⟩
theorem eX4_layAnew_30 : DD cX4_layAnew 30 (.istore 4) 2 32 := ⟨by decide +kernel, rfl⟩
theorem eX4_layAnew_32 : DD cX4_layAnew 32 (.iload 4) 2 34 := ⟨by decide +kernel, rfl⟩
theorem eX4_layAnew_34 : DD cX4_layAnew 34 (.iload_n 3) 1 35 := ⟨by decide +kernel, rfl⟩
theorem eX4_layAnew_35 : DB cX4_layAnew 35 (.if_icmp .ge 25) (25) 38 60 := ⟨by decide +kernel, rfl, by decide⟩
theorem eX4_layAnew_38 : DD cX4_layAnew 38 (.aload_n 0) 1 39 := ⟨by decide +kernel, rfl⟩
theorem eX4_layAnew_39 : DD cX4_layAnew 39 (.getfield 15) 3 42 := ⟨by decide +kernel, rfl⟩
theorem eX4_layAnew_42 : DD cX4_layAnew 42 (.iconst 2) 1 43 := ⟨by decide +kernel, rfl⟩
theorem eX4_layAnew_43 : DD cX4_layAnew 43 (.iload 4) 2 45 := ⟨by decide +kernel, rfl⟩
theorem eX4_layAnew_45 : DD cX4_layAnew 45 (.iadd) 1 46 := ⟨by decide +kernel, rfl⟩
theorem eX4_layAnew_46 : DD cX4_layAnew 46 (.aload_n 1) 1 47 := ⟨by decide +kernel, rfl⟩
theorem eX4_layAnew_47 : DD cX4_layAnew 47 (.iload_n 3) 1 48 := ⟨by decide +kernel, rfl⟩
theorem eX4_layAnew_48 : DD cX4_layAnew 48 (.iload 4) 2 50 := ⟨by decide +kernel, rfl⟩
theorem eX4_layAnew_50 : DD cX4_layAnew 50 (.invokevirtual 56) 3 53 := ⟨by decide +kernel, rfl⟩
theorem eX4_layAnew_53 : DD cX4_layAnew 53 (.iastore) 1 54 := ⟨by decide +kernel, rfl⟩
theorem eX4_layAnew_54 : DD cX4_layAnew 54 (.iinc 4 1) 3 57 := ⟨by decide +kernel, rfl⟩
theorem eX4_layAnew_57 : DB cX4_layAnew 57 (.goto (-25)) (-25) 60 32 := ⟨by decide +kernel, rfl, by decide⟩
theorem eX4_layAnew_60 : DD cX4_layAnew 60 (.iconst 0) 1 61 := ⟨by decide +kernel, rfl⟩
theorem eX4_layAnew_61 : DD cX4_layAnew 61 (.istore 4) 2 63 := ⟨by decide +kernel, rfl⟩
theorem eX4_layAnew_63 : DD cX4_layAnew 63 (.iload 4) 2 65 := ⟨by decide +kernel, rfl⟩
theorem eX4_layAnew_65 : DD cX4_layAnew 65 (.iload_n 3) 1 66 := ⟨by decide +kernel, rfl⟩
theorem eX4_layAnew_66 : DB cX4_layAnew 66 (.if_icmp .ge 15) (15) 69 81 := ⟨by decide +kernel, rfl, by decide⟩
theorem eX4_layAnew_69 : DD cX4_layAnew 69 (.aload_n 0) 1 70 := ⟨by decide +kernel, rfl⟩
theorem eX4_layAnew_70 : DD cX4_layAnew 70 (.iload 4) 2 72 := ⟨by decide +kernel, rfl⟩
theorem eX4_layAnew_72 : DD cX4_layAnew 72 (.invokevirtual 59) 3 75 := ⟨by decide +kernel, rfl⟩
theorem eX4_layAnew_75 : DD cX4_layAnew 75 (.iinc 4 1) 3 78 := ⟨by decide +kernel, rfl⟩
theorem eX4_layAnew_78 : DB cX4_layAnew 78 (.goto (-15)) (-15) 81 63 := ⟨by decide +kernel, rfl, by decide⟩
theorem eX4_layAnew_81 : DD cX4_layAnew 81 (.return_) 1 82 := ⟨by decide +kernel, rfl⟩
def L_X4_layAnew_63 : Nat → Nat → Int32 → Int32 → Mem → Option (Unit × Mem)
  | 0, _, _, _, _ => none
  | n + 1, p0, x3, x4, μ => if x3 ≤ x4 then some ((), μ) else bd (G_X4_weigh p0 x4 μ) (fun r_2 μ_1 => lb (x4 + (1 : Int32)) (fun x4_3 => L_X4_layAnew_63  n p0 x3 x4_3 μ_1))
set_option maxHeartbeats 4000000 in
theorem j_X4_layAnew_63 {C : Cx} (hC : Ok C cX4_layAnew 5 RX4 (rmF 2 55)) (hr : (cT C).sig.returnType = none) : ∀ (n : Nat) (p0 : Nat) (h0 : kd p0 = 4) (x3 : Int32) (x4 : Int32) (μ : Mem), J C (KV C) μ 63 [(0, .ref (xad (cX C) p0)), (3, .int x3), (4, .int x4)] [] (L_X4_layAnew_63  n p0 x3 x4 μ) := by
  intro n
  induction n with
  | zero => intros; exact J.no
  | succ n ih =>
    intro p0 h0 x3 x4 μ
    rw [L_X4_layAnew_63]
    refine J.iload (j := 2) hC eX4_layAnew_63 rfl ?_
    refine J.iload_n (j := 1) hC eX4_layAnew_65 rfl ?_
    refine J.icmp_ge hC eX4_layAnew_66 (fun _ => ?_) (fun _ => ?_)
    · exact J.vret hC hr eX4_layAnew_81
    · refine J.aload_n (j := 0) hC eX4_layAnew_69 rfl ?_
      refine J.iload (j := 2) hC eX4_layAnew_70 rfl ?_
      refine J.callVV (st := []) hC eX4_layAnew_72 h0 (by decide) rfl rfl ml_X4_59 mv_X4_weigh (Rle_of (Nat.le_of_ble_eq_true rfl) (Nat.le_of_ble_eq_true rfl)) (c_X4_weigh hC.X p0 h0 x4 μ) rfl rfl (Nat.le_of_ble_eq_true rfl) (fun r_2 μ_1 => ?_)
      refine J.iinc (j := 2) (fun x4_3 => [(4, .int x4_3), (0, .ref (xad (cX C) p0)), (3, .int x3)]) hC eX4_layAnew_75 rfl ci_1 (by decide) (fun _ => rfl) (fun x4_3 => ?_)
      refine J.goto hC eX4_layAnew_78 ?_
      refine J.sub [1, 2, 0] rfl ?_
      exact ih p0 h0 x3 x4_3 μ_1
def L_X4_layAnew_32 : Nat → Nat → Int32 → Int32 → Mem → Option (Unit × Mem)
  | 0, _, _, _, _ => none
  | n + 1, p0, x3, x4, μ => if x3 ≤ x4 then L_X4_layAnew_63  100000 p0 x3 (0 : Int32) μ else bd (G_X5_borderOf x3 x4 μ) (fun r_2 μ_1 => gq (inB ((2 : Int32) + x4) 26) (lb (wI μ_1 (p0 + 2) (nx ((2 : Int32) + x4)) r_2) (fun μ_3 => lb (x4 + (1 : Int32)) (fun x4_4 => L_X4_layAnew_32  n p0 x3 x4_4 μ_3))))
set_option maxHeartbeats 4000000 in
theorem j_X4_layAnew_32 {C : Cx} (hC : Ok C cX4_layAnew 5 RX4 (rmF 2 55)) (hr : (cT C).sig.returnType = none) : ∀ (n : Nat) (p0 : Nat) (h0 : kd p0 = 4) (x3 : Int32) (x4 : Int32) (μ : Mem), J C (KV C) μ 32 [(0, .ref (xad (cX C) p0)), (1, .ref (xad (cX C) 99)), (3, .int x3), (4, .int x4)] [] (L_X4_layAnew_32  n p0 x3 x4 μ) := by
  intro n
  induction n with
  | zero => intros; exact J.no
  | succ n ih =>
    intro p0 h0 x3 x4 μ
    rw [L_X4_layAnew_32]
    refine J.iload (j := 3) hC eX4_layAnew_32 rfl ?_
    refine J.iload_n (j := 2) hC eX4_layAnew_34 rfl ?_
    refine J.icmp_ge hC eX4_layAnew_35 (fun _ => ?_) (fun _ => ?_)
    · refine J.iconst hC eX4_layAnew_60 ci_0 ?_
      refine J.istore [(4, .int (0 : Int32)), (0, .ref (xad (cX C) p0)), (1, .ref (xad (cX C) 99)), (3, .int x3)] hC eX4_layAnew_61 (by decide) rfl ?_
      refine J.sub [1, 3, 0] rfl ?_
      exact j_X4_layAnew_63 hC hr  100000 p0 h0 x3 (0 : Int32) μ
    · refine J.aload_n (j := 0) hC eX4_layAnew_38 rfl ?_
      refine gf_X4_15 (q := p0 + 2) hC eX4_layAnew_39 h0 rfl ?_
      refine J.iconst hC eX4_layAnew_42 ci_2 ?_
      refine J.iload (j := 3) hC eX4_layAnew_43 rfl ?_
      refine J.iadd hC eX4_layAnew_45 ?_
      refine J.aload_n (j := 1) hC eX4_layAnew_46 rfl ?_
      refine J.iload_n (j := 2) hC eX4_layAnew_47 rfl ?_
      refine J.iload (j := 3) hC eX4_layAnew_48 rfl ?_
      refine J.callVI (st := [.int ((2 : Int32) + x4), .ref (xad (cX C) (p0 + 2))]) hC eX4_layAnew_50 kk_99 (by decide) rfl rfl ml_X4_56 mv_X5_borderOf (Rle_of (Nat.le_of_ble_eq_true rfl) (Nat.le_of_ble_eq_true rfl)) (c_X5_borderOf hC.X x3 x4 μ) rfl rfl (Nat.le_of_ble_eq_true rfl) (fun r_2 μ_1 => ?_)
      refine J.iast ik_26 hC eX4_layAnew_53 (kf_X4_state h0) (fun μ_3 => ?_)
      refine J.iinc (j := 3) (fun x4_4 => [(4, .int x4_4), (0, .ref (xad (cX C) p0)), (1, .ref (xad (cX C) 99)), (3, .int x3)]) hC eX4_layAnew_54 rfl ci_1 (by decide) (fun _ => rfl) (fun x4_4 => ?_)
      refine J.goto hC eX4_layAnew_57 ?_
      refine J.sub [1, 2, 3, 0] rfl ?_
      exact ih p0 h0 x3 x4_4 μ_3
def G_X4_layAnew (p0 : Nat) (x2 : Int32) (μ : Mem) : Option (Unit × Mem) :=
  lb (imin x2 (rI μ p0 2)) (fun x3_1 => bd (G_X5_solve p0 x3_1 μ) (fun r_3 μ_2 => lb (wI μ_2 (p0 + 2) 0 x3_1) (fun μ_4 => lb (wI μ_4 (p0 + 2) 1 (0 : Int32)) (fun μ_5 => L_X4_layAnew_32  100000 p0 x3_1 (0 : Int32) μ_5))))
set_option maxHeartbeats 4000000 in
theorem c_X4_layAnew {X : Wd} (hX : WdOk X) (p0 : Nat) (h0 : kd p0 = 4) (x2 : Int32) (μ : Mem) : CtV X yX4_layAnew cX4_layAnew 5 none (rmF 2 55) [.ref (xad X p0), .ref (xad X 99), .int x2] μ (G_X4_layAnew p0 x2 μ) := by
  refine CtV.of hX (plainFor_of_name (by decide)) (by exact Nat.le_of_ble_eq_true rfl) ?_
  intro C hCX hC hr
  subst hCX
  show J C (KV C) μ 0 [(0, .ref (xad (cX C) p0)), (1, .ref (xad (cX C) 99)), (2, .int x2)] [] _
  unfold G_X4_layAnew
  refine J.iload_n (j := 2) hC eX4_layAnew_0 rfl ?_
  refine J.aload_n (j := 0) hC eX4_layAnew_1 rfl ?_
  refine gf_X4_18 hC eX4_layAnew_2 h0 ?_
  refine J.mmin hC eX4_layAnew_5 ml_X4_44 w_smin w_im w_cmin (Nat.le_of_ble_eq_true rfl) (Nat.le_of_ble_eq_true rfl) ?_
  refine J.topi (fun x3_1 => ?_)
  refine J.istore_n [(3, .int x3_1), (0, .ref (xad (cX C) p0)), (1, .ref (xad (cX C) 99)), (2, .int x2)] hC eX4_layAnew_8 (by decide) rfl ?_
  refine J.aload_n (j := 2) hC eX4_layAnew_9 rfl ?_
  refine J.aload_n (j := 1) hC eX4_layAnew_10 rfl ?_
  refine J.iload_n (j := 0) hC eX4_layAnew_11 rfl ?_
  refine J.callVV (st := []) hC eX4_layAnew_12 kk_99 (by decide) rfl rfl ml_X4_50 mv_X5_solve (Rle_of (Nat.le_of_ble_eq_true rfl) (Nat.le_of_ble_eq_true rfl)) (c_X5_solve hC.X p0 h0 x3_1 μ) rfl rfl (Nat.le_of_ble_eq_true rfl) (fun r_3 μ_2 => ?_)
  refine J.aload_n (j := 1) hC eX4_layAnew_15 rfl ?_
  refine gf_X4_15 (q := p0 + 2) hC eX4_layAnew_16 h0 rfl ?_
  refine J.iconst hC eX4_layAnew_19 ci_0 ?_
  refine J.iload_n (j := 0) hC eX4_layAnew_20 rfl ?_
  refine J.iastK (j := 0) ik_26 hC eX4_layAnew_21 (kf_X4_state h0) (by decide) (by decide) (fun μ_4 => ?_)
  refine J.aload_n (j := 1) hC eX4_layAnew_22 rfl ?_
  refine gf_X4_15 (q := p0 + 2) hC eX4_layAnew_23 h0 rfl ?_
  refine J.iconst hC eX4_layAnew_26 ci_1 ?_
  refine J.iconst hC eX4_layAnew_27 ci_0 ?_
  refine J.iastK (j := 1) ik_26 hC eX4_layAnew_28 (kf_X4_state h0) (by decide) (by decide) (fun μ_5 => ?_)
  refine J.iconst hC eX4_layAnew_29 ci_0 ?_
  refine J.istore [(4, .int (0 : Int32)), (3, .int x3_1), (0, .ref (xad (cX C) p0)), (1, .ref (xad (cX C) 99)), (2, .int x2)] hC eX4_layAnew_30 (by decide) rfl ?_
  refine J.sub [2, 3, 1, 0] rfl ?_
  exact j_X4_layAnew_32 hC hr  100000 p0 h0 x3_1 (0 : Int32) μ_5
-- X0_tell
theorem eX0_tell_0 : DD cX0_tell 0 (.aload_n 0) 1 1 := ⟨by decide +kernel, rfl⟩
theorem eX0_tell_1 : DD cX0_tell 1 (.aload_n 1) 1 2 := ⟨by decide +kernel, rfl⟩
theorem eX0_tell_2 : DD cX0_tell 2 (.getfield 25) 3 5 := ⟨by decide +kernel, rfl⟩
theorem eX0_tell_5 : DD cX0_tell 5 (.putfield 31) 3 8 := ⟨by decide +kernel, rfl⟩
theorem eX0_tell_8 : DD cX0_tell 8 (.aload_n 0) 1 9 := ⟨by decide +kernel, rfl⟩
theorem eX0_tell_9 : DD cX0_tell 9 (.aload_n 1) 1 10 := ⟨by decide +kernel, rfl⟩
theorem eX0_tell_10 : DD cX0_tell 10 (.getfield 32) 3 13 := ⟨by decide +kernel, rfl⟩
theorem eX0_tell_13 : DD cX0_tell 13 (.iconst 0) 1 14 := ⟨by decide +kernel, rfl⟩
theorem eX0_tell_14 : DD cX0_tell 14 (.iaload) 1 15 := ⟨by decide +kernel, rfl⟩
theorem eX0_tell_15 : DD cX0_tell 15 (.putfield 36) 3 18 := ⟨by decide +kernel, rfl⟩
theorem eX0_tell_18 : DD cX0_tell 18 (.aload_n 0) 1 19 := ⟨by decide +kernel, rfl⟩
theorem eX0_tell_19 : DD cX0_tell 19 (.aload_n 1) 1 20 := ⟨by decide +kernel, rfl⟩
theorem eX0_tell_20 : DD cX0_tell 20 (.getfield 32) 3 23 := ⟨by decide +kernel, rfl⟩
theorem eX0_tell_23 : DD cX0_tell 23 (.iconst 1) 1 24 := ⟨by decide +kernel, rfl⟩
theorem eX0_tell_24 : DD cX0_tell 24 (.iaload) 1 25 := ⟨by decide +kernel, rfl⟩
theorem eX0_tell_25 : DD cX0_tell 25 (.putfield 39) 3 28 := ⟨by decide +kernel, rfl⟩
theorem eX0_tell_28 : DD cX0_tell 28 (.aload_n 0) 1 29 := ⟨by decide +kernel, rfl⟩
theorem eX0_tell_29 : DD cX0_tell 29 (.aload_n 1) 1 30 := ⟨by decide +kernel, rfl⟩
theorem eX0_tell_30 : DD cX0_tell 30 (.getfield 32) 3 33 := ⟨by decide +kernel, rfl⟩
theorem eX0_tell_33 : DD cX0_tell 33 (.iconst 2) 1 34 := ⟨by decide +kernel, rfl⟩
theorem eX0_tell_34 : DD cX0_tell 34 (.iaload) 1 35 := ⟨by decide +kernel, rfl⟩
theorem eX0_tell_35 : DD cX0_tell 35 (.putfield 42) 3 38 := ⟨by decide +kernel, rfl⟩
theorem eX0_tell_38 : DD cX0_tell 38 (.aload_n 0) 1 39 := ⟨by decide +kernel, rfl⟩
theorem eX0_tell_39 : DD cX0_tell 39 (.getfield 21) 3 42 := ⟨by decide +kernel, rfl⟩
theorem eX0_tell_42 : DD cX0_tell 42 (.iconst 0) 1 43 := ⟨by decide +kernel, rfl⟩
theorem eX0_tell_43 : DD cX0_tell 43 (.putfield 45) 3 46 := ⟨by decide +kernel, rfl⟩
theorem eX0_tell_46 : DD cX0_tell 46 (.iconst 0) 1 47 := ⟨by decide +kernel, rfl⟩
theorem eX0_tell_47 : DD cX0_tell 47 (.istore_n 3) 1 48 := ⟨by decide +kernel, rfl⟩
theorem eX0_tell_48 : DD cX0_tell 48 (.iload_n 3) 1 49 := ⟨by decide +kernel, rfl⟩
theorem eX0_tell_49 : DD cX0_tell 49 (.aload_n 0) 1 50 := ⟨by decide +kernel, rfl⟩
theorem eX0_tell_50 : DD cX0_tell 50 (.getfield 31) 3 53 := ⟨by decide +kernel, rfl⟩
theorem eX0_tell_53 : DB cX0_tell 53 (.if_icmp .ge 24) (24) 56 77 := ⟨by decide +kernel, rfl, by decide⟩
theorem eX0_tell_56 : DD cX0_tell 56 (.aload_n 0) 1 57 := ⟨by decide +kernel, rfl⟩
theorem eX0_tell_57 : DD cX0_tell 57 (.getfield 12) 3 60 := ⟨by decide +kernel, rfl⟩
theorem eX0_tell_60 : DD cX0_tell 60 (.iload_n 3) 1 61 := ⟨by decide +kernel, rfl⟩
theorem eX0_tell_61 : DD cX0_tell 61 (.aaload) 1 62 := ⟨by decide +kernel, rfl⟩
theorem eX0_tell_62 : DD cX0_tell 62 (.aload_n 1) 1 63 := ⟨by decide +kernel, rfl⟩
theorem eX0_tell_63 : DD cX0_tell 63 (.getfield 48) 3 66 := ⟨by decide +kernel, rfl⟩
theorem eX0_tell_66 : DD cX0_tell 66 (.iload_n 3) 1 67 := ⟨by decide +kernel, rfl⟩
theorem eX0_tell_67 : DD cX0_tell 67 (.iaload) 1 68 := ⟨by decide +kernel, rfl⟩
theorem eX0_tell_68 : DD cX0_tell 68 (.invokevirtual 51) 3 71 := ⟨by decide +kernel, rfl⟩
theorem eX0_tell_71 : DD cX0_tell 71 (.iinc 3 1) 3 74 := ⟨by decide +kernel, rfl⟩
theorem eX0_tell_74 : DB cX0_tell 74 (.goto (-26)) (-26) 77 48 := ⟨by decide +kernel, rfl, by decide⟩
theorem eX0_tell_77 : DD cX0_tell 77 (.iconst 0) 1 78 := ⟨by decide +kernel, rfl⟩
theorem eX0_tell_78 : DD cX0_tell 78 (.istore_n 3) 1 79 := ⟨by decide +kernel, rfl⟩
theorem eX0_tell_79 : DD cX0_tell 79 (.iload_n 3) 1 80 := ⟨by decide +kernel, rfl⟩
theorem eX0_tell_80 : DD cX0_tell 80 (.aload_n 1) 1 81 := ⟨by decide +kernel, rfl⟩
theorem eX0_tell_81 : DD cX0_tell 81 (.getfield 55) 3 84 := ⟨by decide +kernel, rfl⟩
theorem eX0_tell_84 : DB cX0_tell 84 (.if_icmp .ge 45) (45) 87 129 := ⟨by decide +kernel, rfl, by decide⟩
theorem eX0_tell_87 : DD cX0_tell 87 (.aload_n 0) 1 88 := ⟨by decide +kernel, rfl⟩
theorem eX0_tell_88 : DD cX0_tell 88 (.getfield 12) 3 91 := ⟨by decide +kernel, rfl⟩
theorem eX0_tell_91 : DD cX0_tell 91 (.aload_n 1) 1 92 := ⟨by decide +kernel, rfl⟩
theorem eX0_tell_92 : DD cX0_tell 92 (.iload_n 3) 1 93 := ⟨by decide +kernel, rfl⟩
theorem eX0_tell_93 : DD cX0_tell 93 (.iconst 0) 1 94 := ⟨by decide +kernel, rfl⟩
theorem eX0_tell_94 : DD cX0_tell 94 (.invokevirtual 58) 3 97 := ⟨by decide +kernel, rfl⟩
theorem eX0_tell_97 : DD cX0_tell 97 (.aaload) 1 98 := ⟨by decide +kernel, rfl⟩
theorem eX0_tell_98 : DD cX0_tell 98 (.astore 4) 2 100 := ⟨by decide +kernel, rfl⟩
theorem eX0_tell_100 : DD cX0_tell 100 (.aload 4) 2 102 := ⟨by decide +kernel, rfl⟩
theorem eX0_tell_102 : DD cX0_tell 102 (.aload_n 1) 1 103 := ⟨by decide +kernel, rfl⟩
theorem eX0_tell_103 : DD cX0_tell 103 (.iload_n 3) 1 104 := ⟨by decide +kernel, rfl⟩
theorem eX0_tell_104 : DD cX0_tell 104 (.iconst 1) 1 105 := ⟨by decide +kernel, rfl⟩
theorem eX0_tell_105 : DD cX0_tell 105 (.invokevirtual 58) 3 108 := ⟨by decide +kernel, rfl⟩
theorem eX0_tell_108 : DD cX0_tell 108 (.aload_n 1) 1 109 := ⟨by decide +kernel, rfl⟩
theorem eX0_tell_109 : DD cX0_tell 109 (.iload_n 3) 1 110 := ⟨by decide +kernel, rfl⟩
theorem eX0_tell_110 : DD cX0_tell 110 (.iconst 2) 1 111 := ⟨by decide +kernel, rfl⟩
theorem eX0_tell_111 : DD cX0_tell 111 (.invokevirtual 58) 3 114 := ⟨by decide +kernel, rfl⟩
theorem eX0_tell_114 : DD cX0_tell 114 (.aload_n 1) 1 115 := ⟨by decide +kernel, rfl⟩
theorem eX0_tell_115 : DD cX0_tell 115 (.iload_n 3) 1 116 := ⟨by decide +kernel, rfl⟩
theorem eX0_tell_116 : DD cX0_tell 116 (.iconst 3) 1 117 := ⟨by decide +kernel, rfl⟩
theorem eX0_tell_117 : DD cX0_tell 117 (.invokevirtual 58) 3 120 := ⟨by decide +kernel, rfl⟩
theorem eX0_tell_120 : DD cX0_tell 120 (.invokevirtual 62) 3 123 := ⟨by decide +kernel, rfl⟩
theorem eX0_tell_123 : DD cX0_tell 123 (.iinc 3 1) 3 126 := ⟨by decide +kernel, rfl⟩
theorem eX0_tell_126 : DB cX0_tell 126 (.goto (-47)) (-47) 129 79 := ⟨by decide +kernel, rfl, by decide⟩
theorem eX0_tell_129 : DD cX0_tell 129 (.iconst 0) 1 130 := ⟨by decide +kernel, rfl⟩
theorem eX0_tell_130 : DD cX0_tell 130 (.istore_n 3) 1 131 := ⟨by decide +kernel, rfl⟩
theorem eX0_tell_131 : DD cX0_tell 131 (.iload_n 3) 1 132 := ⟨by decide +kernel, rfl⟩
theorem eX0_tell_132 : DD cX0_tell 132 (.aload_n 0) 1 133 := ⟨by decide +kernel, rfl⟩
theorem eX0_tell_133 : DD cX0_tell 133 (.getfield 31) 3 136 := ⟨by decide +kernel, rfl⟩
theorem eX0_tell_136 : DB cX0_tell 136 (.if_icmp .ge 47) (47) 139 183 := ⟨by decide +kernel, rfl, by decide⟩
theorem eX0_tell_139 : DD cX0_tell 139 (.aload_n 0) 1 140 := ⟨by decide +kernel, rfl⟩
theorem eX0_tell_140 : DD cX0_tell 140 (.getfield 12) 3 143 := ⟨by decide +kernel, rfl⟩
theorem eX0_tell_143 : DD cX0_tell 143 (.iload_n 3) 1 144 := ⟨by decide +kernel, rfl⟩
theorem eX0_tell_144 : DD cX0_tell 144 (.aaload) 1 145 := ⟨by decide +kernel, rfl⟩
theorem eX0_tell_145 : DD cX0_tell 145 (.getfield 66) 3 148 := ⟨by decide +kernel, rfl⟩
theorem eX0_tell_148 : DD cX0_tell 148 (.iconst 0) 1 149 := ⟨by decide +kernel, rfl⟩
theorem eX0_tell_149 : DD cX0_tell 149 (.aaload) 1 150 := ⟨by decide +kernel, rfl⟩
theorem eX0_tell_150 : DD cX0_tell 150 (.aload_n 2) 1 151 := ⟨by decide +kernel, rfl⟩
theorem eX0_tell_151 : DD cX0_tell 151 (.aload_n 0) 1 152 := ⟨by decide +kernel, rfl⟩
theorem eX0_tell_152 : DD cX0_tell 152 (.getfield 36) 3 155 := ⟨by decide +kernel, rfl⟩
theorem eX0_tell_155 : DD cX0_tell 155 (.invokevirtual 70) 3 158 := ⟨by decide +kernel, rfl⟩
theorem eX0_tell_158 : DD cX0_tell 158 (.aload_n 0) 1 159 := ⟨by decide +kernel, rfl⟩
theorem eX0_tell_159 : DD cX0_tell 159 (.getfield 12) 3 162 := ⟨by decide +kernel, rfl⟩
theorem eX0_tell_162 : DD cX0_tell 162 (.iload_n 3) 1 163 := ⟨by decide +kernel, rfl⟩
theorem eX0_tell_163 : DD cX0_tell 163 (.aaload) 1 164 := ⟨by decide +kernel, rfl⟩
theorem eX0_tell_164 : DD cX0_tell 164 (.getfield 66) 3 167 := ⟨by decide +kernel, rfl⟩
theorem eX0_tell_167 : DD cX0_tell 167 (.iconst 1) 1 168 := ⟨by decide +kernel, rfl⟩
theorem eX0_tell_168 : DD cX0_tell 168 (.aaload) 1 169 := ⟨by decide +kernel, rfl⟩
theorem eX0_tell_169 : DD cX0_tell 169 (.aload_n 2) 1 170 := ⟨by decide +kernel, rfl⟩
theorem eX0_tell_170 : DD cX0_tell 170 (.aload_n 0) 1 171 := ⟨by decide +kernel, rfl⟩
theorem eX0_tell_171 : DD cX0_tell 171 (.getfield 36) 3 174 := ⟨by decide +kernel, rfl⟩
theorem eX0_tell_174 : DD cX0_tell 174 (.invokevirtual 70) 3 177 := ⟨by decide +kernel, rfl⟩
theorem eX0_tell_177 : DD cX0_tell 177 (.iinc 3 1) 3 180 := ⟨by decide +kernel, rfl⟩
theorem eX0_tell_180 : DB cX0_tell 180 (.goto (-49)) (-49) 183 131 := ⟨by decide +kernel, rfl, by decide⟩
theorem eX0_tell_183 : DD cX0_tell 183 (.return_) 1 184 := ⟨by decide +kernel, rfl⟩
def L_X0_tell_131 : Nat → Nat → Int32 → Mem → Option (Unit × Mem)
  | 0, _, _, _ => none
  | n + 1, p0, x3, μ => if (rI μ p0 2) ≤ x3 then some ((), μ) else gq (inB x3 3) (bd (G_X4_layAnew ((shP (p0 + 1) x3) + 3) (rI μ p0 3) μ) (fun r_4 μ_3 => gq (inB x3 3) (bd (G_X4_layAnew ((shP (p0 + 1) x3) + 6) (rI μ_3 p0 3) μ_3) (fun r_8 μ_7 => lb (x3 + (1 : Int32)) (fun x3_9 => L_X0_tell_131  n p0 x3_9 μ_7)))))
set_option maxHeartbeats 4000000 in
theorem j_X0_tell_131 {C : Cx} (hC : Ok C cX0_tell 5 RX0 (rmF 3 79)) (hr : (cT C).sig.returnType = none) : ∀ (n : Nat) (p0 : Nat) (h0 : kd p0 = 0) (x3 : Int32) (μ : Mem), J C (KV C) μ 131 [(0, .ref (xad (cX C) p0)), (2, .ref (xad (cX C) 99)), (3, .int x3)] [] (L_X0_tell_131  n p0 x3 μ) := by
  intro n
  induction n with
  | zero => intros; exact J.no
  | succ n ih =>
    intro p0 h0 x3 μ
    rw [L_X0_tell_131]
    refine J.iload_n (j := 2) hC eX0_tell_131 rfl ?_
    refine J.aload_n (j := 0) hC eX0_tell_132 rfl ?_
    refine gf_X0_31 hC eX0_tell_133 h0 ?_
    refine J.icmp_ge hC eX0_tell_136 (fun _ => ?_) (fun _ => ?_)
    · exact J.vret hC hr eX0_tell_183
    · refine J.aload_n (j := 0) hC eX0_tell_139 rfl ?_
      refine gf_X0_12 (q := p0 + 1) hC eX0_tell_140 h0 rfl ?_
      refine J.iload_n (j := 2) hC eX0_tell_143 rfl ?_
      refine J.aaldS hC eX0_tell_144 (kf_X0_sheets h0) (fun hq_1 => ?_)
      refine gf_X0_66 (q := (shP (p0 + 1) x3) + 2) hC eX0_tell_145 hq_1 rfl ?_
      refine J.iconst hC eX0_tell_148 ci_0 ?_
      refine J.aaldLK (q := (shP (p0 + 1) x3) + 3) hC eX0_tell_149 (kf_X7_lanes hq_1) (by decide) rfl (fun hq_2 => ?_)
      refine J.aload_n (j := 1) hC eX0_tell_150 rfl ?_
      refine J.aload_n (j := 0) hC eX0_tell_151 rfl ?_
      refine gf_X0_36 hC eX0_tell_152 h0 ?_
      refine J.callVV (st := []) hC eX0_tell_155 hq_2 (by decide) rfl rfl ml_X0_70 mv_X4_layAnew (Rle_of (Nat.le_of_ble_eq_true rfl) (Nat.le_of_ble_eq_true rfl)) (c_X4_layAnew hC.X ((shP (p0 + 1) x3) + 3) hq_2 (rI μ p0 3) μ) rfl rfl (Nat.le_of_ble_eq_true rfl) (fun r_4 μ_3 => ?_)
      refine J.aload_n (j := 0) hC eX0_tell_158 rfl ?_
      refine gf_X0_12 (q := p0 + 1) hC eX0_tell_159 h0 rfl ?_
      refine J.iload_n (j := 2) hC eX0_tell_162 rfl ?_
      refine J.aaldS hC eX0_tell_163 (kf_X0_sheets h0) (fun hq_5 => ?_)
      refine gf_X0_66 (q := (shP (p0 + 1) x3) + 2) hC eX0_tell_164 hq_5 rfl ?_
      refine J.iconst hC eX0_tell_167 ci_1 ?_
      refine J.aaldLK (q := (shP (p0 + 1) x3) + 6) hC eX0_tell_168 (kf_X7_lanes hq_5) (by decide) rfl (fun hq_6 => ?_)
      refine J.aload_n (j := 1) hC eX0_tell_169 rfl ?_
      refine J.aload_n (j := 0) hC eX0_tell_170 rfl ?_
      refine gf_X0_36 hC eX0_tell_171 h0 ?_
      refine J.callVV (st := []) hC eX0_tell_174 hq_6 (by decide) rfl rfl ml_X0_70 mv_X4_layAnew (Rle_of (Nat.le_of_ble_eq_true rfl) (Nat.le_of_ble_eq_true rfl)) (c_X4_layAnew hC.X ((shP (p0 + 1) x3) + 6) hq_6 (rI μ_3 p0 3) μ_3) rfl rfl (Nat.le_of_ble_eq_true rfl) (fun r_8 μ_7 => ?_)
      refine J.iinc (j := 2) (fun x3_9 => [(3, .int x3_9), (0, .ref (xad (cX C) p0)), (2, .ref (xad (cX C) 99))]) hC eX0_tell_177 rfl ci_1 (by decide) (fun _ => rfl) (fun x3_9 => ?_)
      refine J.goto hC eX0_tell_180 ?_
      refine J.sub [1, 2, 0] rfl ?_
      exact ih p0 h0 x3_9 μ_7
def L_X0_tell_79 : Nat → Nat → Int32 → Mem → Option (Unit × Mem)
  | 0, _, _, _ => none
  | n + 1, p0, x3, μ => if (rI μ 3 5) ≤ x3 then L_X0_tell_131  100000 p0 (0 : Int32) μ else bd (G_X1_rowItem x3 (0 : Int32) μ) (fun r_2 μ_1 => gq (inB r_2 3) (bd (G_X1_rowItem x3 (1 : Int32) μ_1) (fun r_5 μ_4 => bd (G_X1_rowItem x3 (2 : Int32) μ_4) (fun r_7 μ_6 => bd (G_X1_rowItem x3 (3 : Int32) μ_6) (fun r_9 μ_8 => bd (G_X7_changeRows (shP (p0 + 1) r_2) r_5 r_7 r_9 μ_8) (fun r_11 μ_10 => lb (x3 + (1 : Int32)) (fun x3_12 => L_X0_tell_79  n p0 x3_12 μ_10)))))))
set_option maxHeartbeats 4000000 in
theorem j_X0_tell_79 {C : Cx} (hC : Ok C cX0_tell 5 RX0 (rmF 3 79)) (hr : (cT C).sig.returnType = none) : ∀ (n : Nat) (p0 : Nat) (h0 : kd p0 = 0) (x3 : Int32) (μ : Mem), J C (KV C) μ 79 [(0, .ref (xad (cX C) p0)), (1, .ref (xad (cX C) 3)), (2, .ref (xad (cX C) 99)), (3, .int x3)] [] (L_X0_tell_79  n p0 x3 μ) := by
  intro n
  induction n with
  | zero => intros; exact J.no
  | succ n ih =>
    intro p0 h0 x3 μ
    rw [L_X0_tell_79]
    refine J.iload_n (j := 3) hC eX0_tell_79 rfl ?_
    refine J.aload_n (j := 1) hC eX0_tell_80 rfl ?_
    refine gf_X0_55 hC eX0_tell_81 kk_3 ?_
    refine J.icmp_ge hC eX0_tell_84 (fun _ => ?_) (fun _ => ?_)
    · refine J.iconst hC eX0_tell_129 ci_0 ?_
      refine J.istore_n [(3, .int (0 : Int32)), (0, .ref (xad (cX C) p0)), (1, .ref (xad (cX C) 3)), (2, .ref (xad (cX C) 99))] hC eX0_tell_130 (by decide) rfl ?_
      refine J.sub [1, 3, 0] rfl ?_
      exact j_X0_tell_131 hC hr  100000 p0 h0 (0 : Int32) μ
    · refine J.aload_n (j := 0) hC eX0_tell_87 rfl ?_
      refine gf_X0_12 (q := p0 + 1) hC eX0_tell_88 h0 rfl ?_
      refine J.aload_n (j := 1) hC eX0_tell_91 rfl ?_
      refine J.iload_n (j := 3) hC eX0_tell_92 rfl ?_
      refine J.iconst hC eX0_tell_93 ci_0 ?_
      refine J.callVI (st := [.ref (xad (cX C) (p0 + 1))]) hC eX0_tell_94 kk_3 (by decide) rfl rfl ml_X0_58 mv_X1_rowItem (Rle_of (Nat.le_of_ble_eq_true rfl) (Nat.le_of_ble_eq_true rfl)) (c_X1_rowItem hC.X x3 (0 : Int32) μ) rfl rfl (Nat.le_of_ble_eq_true rfl) (fun r_2 μ_1 => ?_)
      refine J.aaldS hC eX0_tell_97 (kf_X0_sheets h0) (fun hq_3 => ?_)
      refine J.astore [(4, .ref (xad (cX C) (shP (p0 + 1) r_2))), (0, .ref (xad (cX C) p0)), (1, .ref (xad (cX C) 3)), (2, .ref (xad (cX C) 99)), (3, .int x3)] hC eX0_tell_98 (by decide) rfl ?_
      refine J.aload (j := 0) hC eX0_tell_100 rfl ?_
      refine J.aload_n (j := 2) hC eX0_tell_102 rfl ?_
      refine J.iload_n (j := 4) hC eX0_tell_103 rfl ?_
      refine J.iconst hC eX0_tell_104 ci_1 ?_
      refine J.callVI (st := [.ref (xad (cX C) (shP (p0 + 1) r_2))]) hC eX0_tell_105 kk_3 (by decide) rfl rfl ml_X0_58 mv_X1_rowItem (Rle_of (Nat.le_of_ble_eq_true rfl) (Nat.le_of_ble_eq_true rfl)) (c_X1_rowItem hC.X x3 (1 : Int32) μ_1) rfl rfl (Nat.le_of_ble_eq_true rfl) (fun r_5 μ_4 => ?_)
      refine J.aload_n (j := 2) hC eX0_tell_108 rfl ?_
      refine J.iload_n (j := 4) hC eX0_tell_109 rfl ?_
      refine J.iconst hC eX0_tell_110 ci_2 ?_
      refine J.callVI (st := [.int r_5, .ref (xad (cX C) (shP (p0 + 1) r_2))]) hC eX0_tell_111 kk_3 (by decide) rfl rfl ml_X0_58 mv_X1_rowItem (Rle_of (Nat.le_of_ble_eq_true rfl) (Nat.le_of_ble_eq_true rfl)) (c_X1_rowItem hC.X x3 (2 : Int32) μ_4) rfl rfl (Nat.le_of_ble_eq_true rfl) (fun r_7 μ_6 => ?_)
      refine J.aload_n (j := 2) hC eX0_tell_114 rfl ?_
      refine J.iload_n (j := 4) hC eX0_tell_115 rfl ?_
      refine J.iconst hC eX0_tell_116 ci_3 ?_
      refine J.callVI (st := [.int r_7, .int r_5, .ref (xad (cX C) (shP (p0 + 1) r_2))]) hC eX0_tell_117 kk_3 (by decide) rfl rfl ml_X0_58 mv_X1_rowItem (Rle_of (Nat.le_of_ble_eq_true rfl) (Nat.le_of_ble_eq_true rfl)) (c_X1_rowItem hC.X x3 (3 : Int32) μ_6) rfl rfl (Nat.le_of_ble_eq_true rfl) (fun r_9 μ_8 => ?_)
      refine J.callVV (st := []) hC eX0_tell_120 hq_3 (by decide) rfl rfl ml_X0_62 mv_X7_changeRows (Rle_of (Nat.le_of_ble_eq_true rfl) (Nat.le_of_ble_eq_true rfl)) (c_X7_changeRows hC.X (shP (p0 + 1) r_2) hq_3 r_5 r_7 r_9 μ_8) rfl rfl (Nat.le_of_ble_eq_true rfl) (fun r_11 μ_10 => ?_)
      refine J.iinc (j := 4) (fun x3_12 => [(3, .int x3_12), (4, .ref (xad (cX C) (shP (p0 + 1) r_2))), (0, .ref (xad (cX C) p0)), (1, .ref (xad (cX C) 3)), (2, .ref (xad (cX C) 99))]) hC eX0_tell_123 rfl ci_1 (by decide) (fun _ => rfl) (fun x3_12 => ?_)
      refine J.goto hC eX0_tell_126 ?_
      refine J.sub [2, 3, 4, 0] rfl ?_
      exact ih p0 h0 x3_12 μ_10
def L_X0_tell_48 : Nat → Nat → Int32 → Mem → Option (Unit × Mem)
  | 0, _, _, _ => none
  | n + 1, p0, x3, μ => if (rI μ p0 2) ≤ x3 then L_X0_tell_79  100000 p0 (0 : Int32) μ else gq (inB x3 3) (gq (inB x3 3) (bd (G_X7_clear (shP (p0 + 1) x3) (rI μ 5 (nx x3)) μ) (fun r_3 μ_2 => lb (x3 + (1 : Int32)) (fun x3_4 => L_X0_tell_48  n p0 x3_4 μ_2))))
set_option maxHeartbeats 4000000 in
theorem j_X0_tell_48 {C : Cx} (hC : Ok C cX0_tell 5 RX0 (rmF 3 79)) (hr : (cT C).sig.returnType = none) : ∀ (n : Nat) (p0 : Nat) (h0 : kd p0 = 0) (x3 : Int32) (μ : Mem), J C (KV C) μ 48 [(0, .ref (xad (cX C) p0)), (1, .ref (xad (cX C) 3)), (2, .ref (xad (cX C) 99)), (3, .int x3)] [] (L_X0_tell_48  n p0 x3 μ) := by
  intro n
  induction n with
  | zero => intros; exact J.no
  | succ n ih =>
    intro p0 h0 x3 μ
    rw [L_X0_tell_48]
    refine J.iload_n (j := 3) hC eX0_tell_48 rfl ?_
    refine J.aload_n (j := 0) hC eX0_tell_49 rfl ?_
    refine gf_X0_31 hC eX0_tell_50 h0 ?_
    refine J.icmp_ge hC eX0_tell_53 (fun _ => ?_) (fun _ => ?_)
    · refine J.iconst hC eX0_tell_77 ci_0 ?_
      refine J.istore_n [(3, .int (0 : Int32)), (0, .ref (xad (cX C) p0)), (1, .ref (xad (cX C) 3)), (2, .ref (xad (cX C) 99))] hC eX0_tell_78 (by decide) rfl ?_
      refine J.sub [1, 2, 3, 0] rfl ?_
      exact j_X0_tell_79 hC hr  100000 p0 h0 (0 : Int32) μ
    · refine J.aload_n (j := 0) hC eX0_tell_56 rfl ?_
      refine gf_X0_12 (q := p0 + 1) hC eX0_tell_57 h0 rfl ?_
      refine J.iload_n (j := 3) hC eX0_tell_60 rfl ?_
      refine J.aaldS hC eX0_tell_61 (kf_X0_sheets h0) (fun hq_1 => ?_)
      refine J.aload_n (j := 1) hC eX0_tell_62 rfl ?_
      refine gf_X0_48 (q := 5) hC eX0_tell_63 kk_3 rfl ?_
      refine J.iload_n (j := 3) hC eX0_tell_66 rfl ?_
      refine J.iald ik_3 hC eX0_tell_67 kk_5 ?_
      refine J.callVV (st := []) hC eX0_tell_68 hq_1 (by decide) rfl rfl ml_X0_51 mv_X7_clear (Rle_of (Nat.le_of_ble_eq_true rfl) (Nat.le_of_ble_eq_true rfl)) (c_X7_clear hC.X (shP (p0 + 1) x3) hq_1 (rI μ 5 (nx x3)) μ) rfl rfl (Nat.le_of_ble_eq_true rfl) (fun r_3 μ_2 => ?_)
      refine J.iinc (j := 3) (fun x3_4 => [(3, .int x3_4), (0, .ref (xad (cX C) p0)), (1, .ref (xad (cX C) 3)), (2, .ref (xad (cX C) 99))]) hC eX0_tell_71 rfl ci_1 (by decide) (fun _ => rfl) (fun x3_4 => ?_)
      refine J.goto hC eX0_tell_74 ?_
      refine J.sub [1, 2, 3, 0] rfl ?_
      exact ih p0 h0 x3_4 μ_2
def G_X0_tell (p0 : Nat) (μ : Mem) : Option (Unit × Mem) :=
  lb (wI μ p0 2 (rI μ 3 4)) (fun μ_1 => lb (wI μ_1 p0 3 (rI μ_1 4 0)) (fun μ_2 => lb (wI μ_2 p0 4 (rI μ_2 4 1)) (fun μ_3 => lb (wI μ_3 p0 5 (rI μ_3 4 2)) (fun μ_4 => lb (wI μ_4 (p0 + 29) 1 (0 : Int32)) (fun μ_5 => L_X0_tell_48  100000 p0 (0 : Int32) μ_5)))))
set_option maxHeartbeats 4000000 in
theorem c_X0_tell {X : Wd} (hX : WdOk X) (p0 : Nat) (h0 : kd p0 = 0) (μ : Mem) : CtV X yX0_tell cX0_tell 5 none (rmF 3 79) [.ref (xad X p0), .ref (xad X 3), .ref (xad X 99)] μ (G_X0_tell p0 μ) := by
  refine CtV.of hX (plainFor_of_name (by decide)) (by exact Nat.le_of_ble_eq_true rfl) ?_
  intro C hCX hC hr
  subst hCX
  show J C (KV C) μ 0 [(0, .ref (xad (cX C) p0)), (1, .ref (xad (cX C) 3)), (2, .ref (xad (cX C) 99))] [] _
  unfold G_X0_tell
  refine J.aload_n (j := 0) hC eX0_tell_0 rfl ?_
  refine J.aload_n (j := 1) hC eX0_tell_1 rfl ?_
  refine gf_X0_25 hC eX0_tell_2 kk_3 ?_
  refine pf_X0_31 hC eX0_tell_5 h0 (fun μ_1 => ?_)
  refine J.aload_n (j := 0) hC eX0_tell_8 rfl ?_
  refine J.aload_n (j := 1) hC eX0_tell_9 rfl ?_
  refine gf_X0_32 (q := 4) hC eX0_tell_10 kk_3 rfl ?_
  refine J.iconst hC eX0_tell_13 ci_0 ?_
  refine J.ialdK (j := 0) ik_8 hC eX0_tell_14 kk_4 (by decide) (by decide) ?_
  refine pf_X0_36 hC eX0_tell_15 h0 (fun μ_2 => ?_)
  refine J.aload_n (j := 0) hC eX0_tell_18 rfl ?_
  refine J.aload_n (j := 1) hC eX0_tell_19 rfl ?_
  refine gf_X0_32 (q := 4) hC eX0_tell_20 kk_3 rfl ?_
  refine J.iconst hC eX0_tell_23 ci_1 ?_
  refine J.ialdK (j := 1) ik_8 hC eX0_tell_24 kk_4 (by decide) (by decide) ?_
  refine pf_X0_39 hC eX0_tell_25 h0 (fun μ_3 => ?_)
  refine J.aload_n (j := 0) hC eX0_tell_28 rfl ?_
  refine J.aload_n (j := 1) hC eX0_tell_29 rfl ?_
  refine gf_X0_32 (q := 4) hC eX0_tell_30 kk_3 rfl ?_
  refine J.iconst hC eX0_tell_33 ci_2 ?_
  refine J.ialdK (j := 2) ik_8 hC eX0_tell_34 kk_4 (by decide) (by decide) ?_
  refine pf_X0_42 hC eX0_tell_35 h0 (fun μ_4 => ?_)
  refine J.aload_n (j := 0) hC eX0_tell_38 rfl ?_
  refine gf_X0_21 (q := p0 + 29) hC eX0_tell_39 h0 rfl ?_
  refine J.iconst hC eX0_tell_42 ci_0 ?_
  refine pf_X0_45 hC eX0_tell_43 (kf_X0_diary h0) (fun μ_5 => ?_)
  refine J.iconst hC eX0_tell_46 ci_0 ?_
  refine J.istore_n [(3, .int (0 : Int32)), (0, .ref (xad (cX C) p0)), (1, .ref (xad (cX C) 3)), (2, .ref (xad (cX C) 99))] hC eX0_tell_47 (by decide) rfl ?_
  refine J.sub [1, 2, 3, 0] rfl ?_
  exact j_X0_tell_48 hC hr  100000 p0 h0 (0 : Int32) μ_5
-- X3_copyFrom
theorem eX3_copyFrom_0 : DD cX3_copyFrom 0 (.aload_n 0) 1 1 := ⟨by decide +kernel, rfl⟩
theorem eX3_copyFrom_1 : DD cX3_copyFrom 1 (.aload_n 1) 1 2 := ⟨by decide +kernel, rfl⟩
theorem eX3_copyFrom_2 : DD cX3_copyFrom 2 (.getfield 15) 3 5 := ⟨by decide +kernel, rfl⟩
theorem eX3_copyFrom_5 : DD cX3_copyFrom 5 (.putfield 15) 3 8 := ⟨by decide +kernel, rfl⟩
theorem eX3_copyFrom_8 : DD cX3_copyFrom 8 (.aload_n 1) 1 9 := ⟨by decide +kernel, rfl⟩
theorem eX3_copyFrom_9 : DD cX3_copyFrom 9 (.getfield 11) 3 12 := ⟨by decide +kernel, rfl⟩
theorem eX3_copyFrom_12 : DD cX3_copyFrom 12 (.iconst 0) 1 13 := ⟨by decide +kernel, rfl⟩
theorem eX3_copyFrom_13 : DD cX3_copyFrom 13 (.aload_n 0) 1 14 := ⟨by decide +kernel, rfl⟩
theorem eX3_copyFrom_14 : DD cX3_copyFrom 14 (.getfield 11) 3 17 := ⟨by decide +kernel, rfl⟩
theorem eX3_copyFrom_17 : DD cX3_copyFrom 17 (.iconst 0) 1 18 := ⟨by decide +kernel, rfl⟩
theorem eX3_copyFrom_18 : DD cX3_copyFrom 18 (.aload_n 0) 1 19 := ⟨by decide +kernel, rfl⟩
theorem eX3_copyFrom_19 : DD cX3_copyFrom 19 (.getfield 11) 3 22 := ⟨by decide +kernel, rfl⟩
theorem eX3_copyFrom_22 : DD cX3_copyFrom 22 (.arraylength) 1 23 := ⟨by decide +kernel, rfl⟩
theorem eX3_copyFrom_23 : DD cX3_copyFrom 23 (.invokestatic 28) 3 26 := ⟨by decide +kernel, rfl⟩
theorem eX3_copyFrom_26 : DD cX3_copyFrom 26 (.return_) 1 27 := ⟨by decide +kernel, rfl⟩
def G_X3_copyFrom (p0 : Nat) (p1 : Nat) (μ : Mem) : Option (Unit × Mem) :=
  lb (wI μ p0 1 (rI μ p1 1)) (fun μ_1 => lb (wC μ_1 (p1 + 1) 0 (p0 + 1) 0 300) (fun μ_2 => some ((), μ_2)))
set_option maxHeartbeats 4000000 in
theorem c_X3_copyFrom {X : Wd} (hX : WdOk X) (p0 : Nat) (h0 : kd p0 = 3) (p1 : Nat) (h1 : kd p1 = 3) (μ : Mem) : CtV X yX3_copyFrom cX3_copyFrom 2 none (rmF 1 23) [.ref (xad X p0), .ref (xad X p1)] μ (G_X3_copyFrom p0 p1 μ) := by
  refine CtV.of hX (plainFor_of_name (by decide)) (by exact Nat.le_of_ble_eq_true rfl) ?_
  intro C hCX hC hr
  subst hCX
  show J C (KV C) μ 0 [(0, .ref (xad (cX C) p0)), (1, .ref (xad (cX C) p1))] [] _
  unfold G_X3_copyFrom
  refine J.aload_n (j := 0) hC eX3_copyFrom_0 rfl ?_
  refine J.aload_n (j := 1) hC eX3_copyFrom_1 rfl ?_
  refine gf_X3_15 hC eX3_copyFrom_2 h1 ?_
  refine pf_X3_15 hC eX3_copyFrom_5 h0 (fun μ_1 => ?_)
  refine J.aload_n (j := 1) hC eX3_copyFrom_8 rfl ?_
  refine gf_X3_11 (q := p1 + 1) hC eX3_copyFrom_9 h1 rfl ?_
  refine J.iconst hC eX3_copyFrom_12 ci_0 ?_
  refine J.aload_n (j := 0) hC eX3_copyFrom_13 rfl ?_
  refine gf_X3_11 (q := p0 + 1) hC eX3_copyFrom_14 h0 rfl ?_
  refine J.iconst hC eX3_copyFrom_17 ci_0 ?_
  refine J.aload_n (j := 0) hC eX3_copyFrom_18 rfl ?_
  refine gf_X3_11 (q := p0 + 1) hC eX3_copyFrom_19 h0 rfl ?_
  refine J.alen (v := (300 : Int32)) ik_300 hC eX3_copyFrom_22 (kf_X3_entries h0) (by decide) ?_
  refine J.acpyK (a := 0) (b := 0) (c := 300) ik_300 ik_300 hC eX3_copyFrom_23 (kf_X3_entries h1) (kf_X3_entries h0) ml_X3_28 w_an w_as w_is (Nat.le_of_ble_eq_true rfl) (Nat.le_of_ble_eq_true rfl) (by decide) (by decide) (by decide) (by decide) (fun μ_2 => ?_)
  exact J.vret hC hr eX3_copyFrom_26
-- X4_copyFrom
theorem eX4_copyFrom_0 : DD cX4_copyFrom 0 (.aload_n 0) 1 1 := ⟨by decide +kernel, rfl⟩
theorem eX4_copyFrom_1 : DD cX4_copyFrom 1 (.aload_n 1) 1 2 := ⟨by decide +kernel, rfl⟩
theorem eX4_copyFrom_2 : DD cX4_copyFrom 2 (.getfield 18) 3 5 := ⟨by decide +kernel, rfl⟩
theorem eX4_copyFrom_5 : DD cX4_copyFrom 5 (.putfield 18) 3 8 := ⟨by decide +kernel, rfl⟩
theorem eX4_copyFrom_8 : DD cX4_copyFrom 8 (.aload_n 0) 1 9 := ⟨by decide +kernel, rfl⟩
theorem eX4_copyFrom_9 : DD cX4_copyFrom 9 (.aload_n 1) 1 10 := ⟨by decide +kernel, rfl⟩
theorem eX4_copyFrom_10 : DD cX4_copyFrom 10 (.getfield 29) 3 13 := ⟨by decide +kernel, rfl⟩
theorem eX4_copyFrom_13 : DD cX4_copyFrom 13 (.putfield 29) 3 16 := ⟨by decide +kernel, rfl⟩
theorem eX4_copyFrom_16 : DD cX4_copyFrom 16 (.aload_n 1) 1 17 := ⟨by decide +kernel, rfl⟩
theorem eX4_copyFrom_17 : DD cX4_copyFrom 17 (.getfield 11) 3 20 := ⟨by decide +kernel, rfl⟩
theorem eX4_copyFrom_20 : DD cX4_copyFrom 20 (.iconst 0) 1 21 := ⟨by decide +kernel, rfl⟩
theorem eX4_copyFrom_21 : DD cX4_copyFrom 21 (.aload_n 0) 1 22 := ⟨by decide +kernel, rfl⟩
theorem eX4_copyFrom_22 : DD cX4_copyFrom 22 (.getfield 11) 3 25 := ⟨by decide +kernel, rfl⟩
theorem eX4_copyFrom_25 : DD cX4_copyFrom 25 (.iconst 0) 1 26 := ⟨by decide +kernel, rfl⟩
theorem eX4_copyFrom_26 : DD cX4_copyFrom 26 (.bipush 16) 2 28 := ⟨by decide +kernel, rfl⟩
theorem eX4_copyFrom_28 : DD cX4_copyFrom 28 (.invokestatic 38) 3 31 := ⟨by decide +kernel, rfl⟩
theorem eX4_copyFrom_31 : DD cX4_copyFrom 31 (.aload_n 1) 1 32 := ⟨by decide +kernel, rfl⟩
theorem eX4_copyFrom_32 : DD cX4_copyFrom 32 (.getfield 15) 3 35 := ⟨by decide +kernel, rfl⟩
theorem eX4_copyFrom_35 : DD cX4_copyFrom 35 (.iconst 0) 1 36 := ⟨by decide +kernel, rfl⟩
theorem eX4_copyFrom_36 : DD cX4_copyFrom 36 (.aload_n 0) 1 37 := ⟨by decide +kernel, rfl⟩
theorem eX4_copyFrom_37 : DD cX4_copyFrom 37 (.getfield 15) 3 40 := ⟨by decide +kernel, rfl⟩
theorem eX4_copyFrom_40 : DD cX4_copyFrom 40 (.iconst 0) 1 41 := ⟨by decide +kernel, rfl⟩
theorem eX4_copyFrom_41 : DD cX4_copyFrom 41 (.bipush 26) 2 43 := ⟨by decide +kernel, rfl⟩
theorem eX4_copyFrom_43 : DD cX4_copyFrom 43 (.invokestatic 38) 3 46 := ⟨by decide +kernel, rfl⟩
theorem eX4_copyFrom_46 : DD cX4_copyFrom 46 (.return_) 1 47 := ⟨by decide +kernel, rfl⟩
def G_X4_copyFrom (p0 : Nat) (p1 : Nat) (μ : Mem) : Option (Unit × Mem) :=
  lb (wI μ p0 2 (rI μ p1 2)) (fun μ_1 => lb (wI μ_1 p0 3 (rI μ_1 p1 3)) (fun μ_2 => lb (wC μ_2 (p1 + 1) 0 (p0 + 1) 0 16) (fun μ_3 => lb (wC μ_3 (p1 + 2) 0 (p0 + 2) 0 26) (fun μ_4 => some ((), μ_4)))))
set_option maxHeartbeats 4000000 in
theorem c_X4_copyFrom {X : Wd} (hX : WdOk X) (p0 : Nat) (h0 : kd p0 = 4) (p1 : Nat) (h1 : kd p1 = 4) (μ : Mem) : CtV X yX4_copyFrom cX4_copyFrom 2 none (rmF 1 23) [.ref (xad X p0), .ref (xad X p1)] μ (G_X4_copyFrom p0 p1 μ) := by
  refine CtV.of hX (plainFor_of_name (by decide)) (by exact Nat.le_of_ble_eq_true rfl) ?_
  intro C hCX hC hr
  subst hCX
  show J C (KV C) μ 0 [(0, .ref (xad (cX C) p0)), (1, .ref (xad (cX C) p1))] [] _
  unfold G_X4_copyFrom
  refine J.aload_n (j := 0) hC eX4_copyFrom_0 rfl ?_
  refine J.aload_n (j := 1) hC eX4_copyFrom_1 rfl ?_
  refine gf_X4_18 hC eX4_copyFrom_2 h1 ?_
  refine pf_X4_18 hC eX4_copyFrom_5 h0 (fun μ_1 => ?_)
  refine J.aload_n (j := 0) hC eX4_copyFrom_8 rfl ?_
  refine J.aload_n (j := 1) hC eX4_copyFrom_9 rfl ?_
  refine gf_X4_29 hC eX4_copyFrom_10 h1 ?_
  refine pf_X4_29 hC eX4_copyFrom_13 h0 (fun μ_2 => ?_)
  refine J.aload_n (j := 1) hC eX4_copyFrom_16 rfl ?_
  refine gf_X4_11 (q := p1 + 1) hC eX4_copyFrom_17 h1 rfl ?_
  refine J.iconst hC eX4_copyFrom_20 ci_0 ?_
  refine J.aload_n (j := 0) hC eX4_copyFrom_21 rfl ?_
  refine gf_X4_11 (q := p0 + 1) hC eX4_copyFrom_22 h0 rfl ?_
  refine J.iconst hC eX4_copyFrom_25 ci_0 ?_
  refine J.bipush hC eX4_copyFrom_26 cb_16 ?_
  refine J.acpyK (a := 0) (b := 0) (c := 16) ik_16 ik_16 hC eX4_copyFrom_28 (kf_X4_counts h1) (kf_X4_counts h0) ml_X4_38 w_an w_as w_is (Nat.le_of_ble_eq_true rfl) (Nat.le_of_ble_eq_true rfl) (by decide) (by decide) (by decide) (by decide) (fun μ_3 => ?_)
  refine J.aload_n (j := 1) hC eX4_copyFrom_31 rfl ?_
  refine gf_X4_15 (q := p1 + 2) hC eX4_copyFrom_32 h1 rfl ?_
  refine J.iconst hC eX4_copyFrom_35 ci_0 ?_
  refine J.aload_n (j := 0) hC eX4_copyFrom_36 rfl ?_
  refine gf_X4_15 (q := p0 + 2) hC eX4_copyFrom_37 h0 rfl ?_
  refine J.iconst hC eX4_copyFrom_40 ci_0 ?_
  refine J.bipush hC eX4_copyFrom_41 cb_26 ?_
  refine J.acpyK (a := 0) (b := 0) (c := 26) ik_26 ik_26 hC eX4_copyFrom_43 (kf_X4_state h1) (kf_X4_state h0) ml_X4_38 w_an w_as w_is (Nat.le_of_ble_eq_true rfl) (Nat.le_of_ble_eq_true rfl) (by decide) (by decide) (by decide) (by decide) (fun μ_4 => ?_)
  exact J.vret hC hr eX4_copyFrom_46
-- X7_copyFrom
theorem eX7_copyFrom_0 : DD cX7_copyFrom 0 (.aload_n 0) 1 1 := ⟨by decide +kernel, rfl⟩
theorem eX7_copyFrom_1 : DD cX7_copyFrom 1 (.aload_n 1) 1 2 := ⟨by decide +kernel, rfl⟩
theorem eX7_copyFrom_2 : DD cX7_copyFrom 2 (.getfield 22) 3 5 := ⟨by decide +kernel, rfl⟩
theorem eX7_copyFrom_5 : DD cX7_copyFrom 5 (.putfield 22) 3 8 := ⟨by decide +kernel, rfl⟩
theorem eX7_copyFrom_8 : DD cX7_copyFrom 8 (.aload_n 0) 1 9 := ⟨by decide +kernel, rfl⟩
theorem eX7_copyFrom_9 : DD cX7_copyFrom 9 (.aload_n 1) 1 10 := ⟨by decide +kernel, rfl⟩
theorem eX7_copyFrom_10 : DD cX7_copyFrom 10 (.getfield 30) 3 13 := ⟨by decide +kernel, rfl⟩
theorem eX7_copyFrom_13 : DD cX7_copyFrom 13 (.putfield 30) 3 16 := ⟨by decide +kernel, rfl⟩
theorem eX7_copyFrom_16 : DD cX7_copyFrom 16 (.aload_n 1) 1 17 := ⟨by decide +kernel, rfl⟩
theorem eX7_copyFrom_17 : DD cX7_copyFrom 17 (.getfield 9) 3 20 := ⟨by decide +kernel, rfl⟩
theorem eX7_copyFrom_20 : DD cX7_copyFrom 20 (.iconst 0) 1 21 := ⟨by decide +kernel, rfl⟩
theorem eX7_copyFrom_21 : DD cX7_copyFrom 21 (.aload_n 0) 1 22 := ⟨by decide +kernel, rfl⟩
theorem eX7_copyFrom_22 : DD cX7_copyFrom 22 (.getfield 9) 3 25 := ⟨by decide +kernel, rfl⟩
theorem eX7_copyFrom_25 : DD cX7_copyFrom 25 (.iconst 0) 1 26 := ⟨by decide +kernel, rfl⟩
theorem eX7_copyFrom_26 : DD cX7_copyFrom 26 (.sipush 289) 3 29 := ⟨by decide +kernel, rfl⟩
theorem eX7_copyFrom_29 : DD cX7_copyFrom 29 (.invokestatic 43) 3 32 := ⟨by decide +kernel, rfl⟩
theorem eX7_copyFrom_32 : DD cX7_copyFrom 32 (.aload_n 0) 1 33 := ⟨by decide +kernel, rfl⟩
theorem eX7_copyFrom_33 : DD cX7_copyFrom 33 (.getfield 18) 3 36 := ⟨by decide +kernel, rfl⟩
theorem eX7_copyFrom_36 : DD cX7_copyFrom 36 (.iconst 0) 1 37 := ⟨by decide +kernel, rfl⟩
theorem eX7_copyFrom_37 : DD cX7_copyFrom 37 (.aaload) 1 38 := ⟨by decide +kernel, rfl⟩
theorem eX7_copyFrom_38 : DD cX7_copyFrom 38 (.aload_n 1) 1 39 := ⟨by decide +kernel, rfl⟩
theorem eX7_copyFrom_39 : DD cX7_copyFrom 39 (.getfield 18) 3 42 := ⟨by decide +kernel, rfl⟩
theorem eX7_copyFrom_42 : DD cX7_copyFrom 42 (.iconst 0) 1 43 := ⟨by decide +kernel, rfl⟩
theorem eX7_copyFrom_43 : DD cX7_copyFrom 43 (.aaload) 1 44 := ⟨by decide +kernel, rfl⟩
theorem eX7_copyFrom_44 : DD cX7_copyFrom 44 (.invokevirtual 49) 3 47 := ⟨by decide +kernel, rfl⟩
theorem eX7_copyFrom_47 : DD cX7_copyFrom 47 (.aload_n 0) 1 48 := ⟨by decide +kernel, rfl⟩
theorem eX7_copyFrom_48 : DD cX7_copyFrom 48 (.getfield 18) 3 51 := ⟨by decide +kernel, rfl⟩
theorem eX7_copyFrom_51 : DD cX7_copyFrom 51 (.iconst 1) 1 52 := ⟨by decide +kernel, rfl⟩
theorem eX7_copyFrom_52 : DD cX7_copyFrom 52 (.aaload) 1 53 := ⟨by decide +kernel, rfl⟩
theorem eX7_copyFrom_53 : DD cX7_copyFrom 53 (.aload_n 1) 1 54 := ⟨by decide +kernel, rfl⟩
theorem eX7_copyFrom_54 : DD cX7_copyFrom 54 (.getfield 18) 3 57 := ⟨by decide +kernel, rfl⟩
theorem eX7_copyFrom_57 : DD cX7_copyFrom 57 (.iconst 1) 1 58 := ⟨by decide +kernel, rfl⟩
theorem eX7_copyFrom_58 : DD cX7_copyFrom 58 (.aaload) 1 59 := ⟨by decide +kernel, rfl⟩
theorem eX7_copyFrom_59 : DD cX7_copyFrom 59 (.invokevirtual 49) 3 62 := ⟨by decide +kernel, rfl⟩
theorem eX7_copyFrom_62 : DD cX7_copyFrom 62 (.return_) 1 63 := ⟨by decide +kernel, rfl⟩
def G_X7_copyFrom (p0 : Nat) (p1 : Nat) (μ : Mem) : Option (Unit × Mem) :=
  lb (wI μ p0 2 (rI μ p1 2)) (fun μ_1 => lb (wI μ_1 p0 3 (rI μ_1 p1 3)) (fun μ_2 => lb (wC μ_2 (p1 + 1) 0 (p0 + 1) 0 289) (fun μ_3 => bd (G_X4_copyFrom (p0 + 3) (p1 + 3) μ_3) (fun r_7 μ_6 => bd (G_X4_copyFrom (p0 + 6) (p1 + 6) μ_6) (fun r_11 μ_10 => some ((), μ_10))))))
set_option maxHeartbeats 4000000 in
theorem c_X7_copyFrom {X : Wd} (hX : WdOk X) (p0 : Nat) (h0 : kd p0 = 7) (p1 : Nat) (h1 : kd p1 = 7) (μ : Mem) : CtV X yX7_copyFrom cX7_copyFrom 2 none (rmF 2 44) [.ref (xad X p0), .ref (xad X p1)] μ (G_X7_copyFrom p0 p1 μ) := by
  refine CtV.of hX (plainFor_of_name (by decide)) (by exact Nat.le_of_ble_eq_true rfl) ?_
  intro C hCX hC hr
  subst hCX
  show J C (KV C) μ 0 [(0, .ref (xad (cX C) p0)), (1, .ref (xad (cX C) p1))] [] _
  unfold G_X7_copyFrom
  refine J.aload_n (j := 0) hC eX7_copyFrom_0 rfl ?_
  refine J.aload_n (j := 1) hC eX7_copyFrom_1 rfl ?_
  refine gf_X7_22 hC eX7_copyFrom_2 h1 ?_
  refine pf_X7_22 hC eX7_copyFrom_5 h0 (fun μ_1 => ?_)
  refine J.aload_n (j := 0) hC eX7_copyFrom_8 rfl ?_
  refine J.aload_n (j := 1) hC eX7_copyFrom_9 rfl ?_
  refine gf_X7_30 hC eX7_copyFrom_10 h1 ?_
  refine pf_X7_30 hC eX7_copyFrom_13 h0 (fun μ_2 => ?_)
  refine J.aload_n (j := 1) hC eX7_copyFrom_16 rfl ?_
  refine gf_X7_9 (q := p1 + 1) hC eX7_copyFrom_17 h1 rfl ?_
  refine J.iconst hC eX7_copyFrom_20 ci_0 ?_
  refine J.aload_n (j := 0) hC eX7_copyFrom_21 rfl ?_
  refine gf_X7_9 (q := p0 + 1) hC eX7_copyFrom_22 h0 rfl ?_
  refine J.iconst hC eX7_copyFrom_25 ci_0 ?_
  refine J.sipush hC eX7_copyFrom_26 cs_289 ?_
  refine J.acpyK (a := 0) (b := 0) (c := 289) ik_289 ik_289 hC eX7_copyFrom_29 (kf_X7_cells h1) (kf_X7_cells h0) ml_X7_43 w_an w_as w_is (Nat.le_of_ble_eq_true rfl) (Nat.le_of_ble_eq_true rfl) (by decide) (by decide) (by decide) (by decide) (fun μ_3 => ?_)
  refine J.aload_n (j := 0) hC eX7_copyFrom_32 rfl ?_
  refine gf_X7_18 (q := p0 + 2) hC eX7_copyFrom_33 h0 rfl ?_
  refine J.iconst hC eX7_copyFrom_36 ci_0 ?_
  refine J.aaldLK (q := p0 + 3) hC eX7_copyFrom_37 (kf_X7_lanes h0) (by decide) rfl (fun hq_4 => ?_)
  refine J.aload_n (j := 1) hC eX7_copyFrom_38 rfl ?_
  refine gf_X7_18 (q := p1 + 2) hC eX7_copyFrom_39 h1 rfl ?_
  refine J.iconst hC eX7_copyFrom_42 ci_0 ?_
  refine J.aaldLK (q := p1 + 3) hC eX7_copyFrom_43 (kf_X7_lanes h1) (by decide) rfl (fun hq_5 => ?_)
  refine J.callVV (st := []) hC eX7_copyFrom_44 hq_4 (by decide) rfl rfl ml_X7_49 mv_X4_copyFrom (Rle_of (Nat.le_of_ble_eq_true rfl) (Nat.le_of_ble_eq_true rfl)) (c_X4_copyFrom hC.X (p0 + 3) hq_4 (p1 + 3) hq_5 μ_3) rfl rfl (Nat.le_of_ble_eq_true rfl) (fun r_7 μ_6 => ?_)
  refine J.aload_n (j := 0) hC eX7_copyFrom_47 rfl ?_
  refine gf_X7_18 (q := p0 + 2) hC eX7_copyFrom_48 h0 rfl ?_
  refine J.iconst hC eX7_copyFrom_51 ci_1 ?_
  refine J.aaldLK (q := p0 + 6) hC eX7_copyFrom_52 (kf_X7_lanes h0) (by decide) rfl (fun hq_8 => ?_)
  refine J.aload_n (j := 1) hC eX7_copyFrom_53 rfl ?_
  refine gf_X7_18 (q := p1 + 2) hC eX7_copyFrom_54 h1 rfl ?_
  refine J.iconst hC eX7_copyFrom_57 ci_1 ?_
  refine J.aaldLK (q := p1 + 6) hC eX7_copyFrom_58 (kf_X7_lanes h1) (by decide) rfl (fun hq_9 => ?_)
  refine J.callVV (st := []) hC eX7_copyFrom_59 hq_8 (by decide) rfl rfl ml_X7_49 mv_X4_copyFrom (Rle_of (Nat.le_of_ble_eq_true rfl) (Nat.le_of_ble_eq_true rfl)) (c_X4_copyFrom hC.X (p0 + 6) hq_8 (p1 + 6) hq_9 μ_6) rfl rfl (Nat.le_of_ble_eq_true rfl) (fun r_11 μ_10 => ?_)
  exact J.vret hC hr eX7_copyFrom_62
-- X0_copyFrom
theorem eX0_copyFrom_0 : DD cX0_copyFrom 0 (.aload_n 0) 1 1 := ⟨by decide +kernel, rfl⟩
theorem eX0_copyFrom_1 : DD cX0_copyFrom 1 (.aload_n 1) 1 2 := ⟨by decide +kernel, rfl⟩
theorem eX0_copyFrom_2 : DD cX0_copyFrom 2 (.getfield 31) 3 5 := ⟨by decide +kernel, rfl⟩
theorem eX0_copyFrom_5 : DD cX0_copyFrom 5 (.putfield 31) 3 8 := ⟨by decide +kernel, rfl⟩
theorem eX0_copyFrom_8 : DD cX0_copyFrom 8 (.aload_n 0) 1 9 := ⟨by decide +kernel, rfl⟩
theorem eX0_copyFrom_9 : DD cX0_copyFrom 9 (.aload_n 1) 1 10 := ⟨by decide +kernel, rfl⟩
theorem eX0_copyFrom_10 : DD cX0_copyFrom 10 (.getfield 36) 3 13 := ⟨by decide +kernel, rfl⟩
theorem eX0_copyFrom_13 : DD cX0_copyFrom 13 (.putfield 36) 3 16 := ⟨by decide +kernel, rfl⟩
theorem eX0_copyFrom_16 : DD cX0_copyFrom 16 (.aload_n 0) 1 17 := ⟨by decide +kernel, rfl⟩
theorem eX0_copyFrom_17 : DD cX0_copyFrom 17 (.aload_n 1) 1 18 := ⟨by decide +kernel, rfl⟩
theorem eX0_copyFrom_18 : DD cX0_copyFrom 18 (.getfield 39) 3 21 := ⟨by decide +kernel, rfl⟩
theorem eX0_copyFrom_21 : DD cX0_copyFrom 21 (.putfield 39) 3 24 := ⟨by decide +kernel, rfl⟩
theorem eX0_copyFrom_24 : DD cX0_copyFrom 24 (.aload_n 0) 1 25 := ⟨by decide +kernel, rfl⟩
theorem eX0_copyFrom_25 : DD cX0_copyFrom 25 (.aload_n 1) 1 26 := ⟨by decide +kernel, rfl⟩
theorem eX0_copyFrom_26 : DD cX0_copyFrom 26 (.getfield 42) 3 29 := ⟨by decide +kernel, rfl⟩
theorem eX0_copyFrom_29 : DD cX0_copyFrom 29 (.putfield 42) 3 32 := ⟨by decide +kernel, rfl⟩
theorem eX0_copyFrom_32 : DD cX0_copyFrom 32 (.aload_n 0) 1 33 := ⟨by decide +kernel, rfl⟩
theorem eX0_copyFrom_33 : DD cX0_copyFrom 33 (.getfield 21) 3 36 := ⟨by decide +kernel, rfl⟩
theorem eX0_copyFrom_36 : DD cX0_copyFrom 36 (.aload_n 1) 1 37 := ⟨by decide +kernel, rfl⟩
theorem eX0_copyFrom_37 : DD cX0_copyFrom 37 (.getfield 21) 3 40 := ⟨by decide +kernel, rfl⟩
theorem eX0_copyFrom_40 : DD cX0_copyFrom 40 (.invokevirtual 76) 3 43 := ⟨by decide +kernel, rfl⟩
theorem eX0_copyFrom_43 : DD cX0_copyFrom 43 (.iconst 0) 1 44 := ⟨by decide +kernel, rfl⟩
theorem eX0_copyFrom_44 : DD cX0_copyFrom 44 (.istore_n 2) 1 45 := ⟨by decide +kernel, rfl⟩
theorem eX0_copyFrom_45 : DD cX0_copyFrom 45 (.iload_n 2) 1 46 := ⟨by decide +kernel, rfl⟩
theorem eX0_copyFrom_46 : DD cX0_copyFrom 46 (.aload_n 0) 1 47 := ⟨by decide +kernel, rfl⟩
theorem eX0_copyFrom_47 : DD cX0_copyFrom 47 (.getfield 31) 3 50 := ⟨by decide +kernel, rfl⟩
theorem eX0_copyFrom_50 : DB cX0_copyFrom 50 (.if_icmp .ge 24) (24) 53 74 := ⟨by decide +kernel, rfl, by decide⟩
theorem eX0_copyFrom_53 : DD cX0_copyFrom 53 (.aload_n 0) 1 54 := ⟨by decide +kernel, rfl⟩
theorem eX0_copyFrom_54 : DD cX0_copyFrom 54 (.getfield 12) 3 57 := ⟨by decide +kernel, rfl⟩
theorem eX0_copyFrom_57 : DD cX0_copyFrom 57 (.iload_n 2) 1 58 := ⟨by decide +kernel, rfl⟩
theorem eX0_copyFrom_58 : DD cX0_copyFrom 58 (.aaload) 1 59 := ⟨by decide +kernel, rfl⟩
theorem eX0_copyFrom_59 : DD cX0_copyFrom 59 (.aload_n 1) 1 60 := ⟨by decide +kernel, rfl⟩
theorem eX0_copyFrom_60 : DD cX0_copyFrom 60 (.getfield 12) 3 63 := ⟨by decide +kernel, rfl⟩
theorem eX0_copyFrom_63 : DD cX0_copyFrom 63 (.iload_n 2) 1 64 := ⟨by decide +kernel, rfl⟩
theorem eX0_copyFrom_64 : DD cX0_copyFrom 64 (.aaload) 1 65 := ⟨by decide +kernel, rfl⟩
theorem eX0_copyFrom_65 : DD cX0_copyFrom 65 (.invokevirtual 80) 3 68 := ⟨by decide +kernel, rfl⟩
theorem eX0_copyFrom_68 : DD cX0_copyFrom 68 (.iinc 2 1) 3 71 := ⟨by decide +kernel, rfl⟩
theorem eX0_copyFrom_71 : DB cX0_copyFrom 71 (.goto (-26)) (-26) 74 45 := ⟨by decide +kernel, rfl, by decide⟩
theorem eX0_copyFrom_74 : DD cX0_copyFrom 74 (.return_) 1 75 := ⟨by decide +kernel, rfl⟩
def L_X0_copyFrom_45 : Nat → Nat → Nat → Int32 → Mem → Option (Unit × Mem)
  | 0, _, _, _, _ => none
  | n + 1, p0, p1, x2, μ => if (rI μ p0 2) ≤ x2 then some ((), μ) else gq (inB x2 3) (gq (inB x2 3) (bd (G_X7_copyFrom (shP (p0 + 1) x2) (shP (p1 + 1) x2) μ) (fun r_4 μ_3 => lb (x2 + (1 : Int32)) (fun x2_5 => L_X0_copyFrom_45  n p0 p1 x2_5 μ_3))))
set_option maxHeartbeats 4000000 in
theorem j_X0_copyFrom_45 {C : Cx} (hC : Ok C cX0_copyFrom 3 RX0 (rmF 3 65)) (hr : (cT C).sig.returnType = none) : ∀ (n : Nat) (p0 : Nat) (h0 : kd p0 = 0) (p1 : Nat) (h1 : kd p1 = 0) (x2 : Int32) (μ : Mem), J C (KV C) μ 45 [(0, .ref (xad (cX C) p0)), (1, .ref (xad (cX C) p1)), (2, .int x2)] [] (L_X0_copyFrom_45  n p0 p1 x2 μ) := by
  intro n
  induction n with
  | zero => intros; exact J.no
  | succ n ih =>
    intro p0 h0 p1 h1 x2 μ
    rw [L_X0_copyFrom_45]
    refine J.iload_n (j := 2) hC eX0_copyFrom_45 rfl ?_
    refine J.aload_n (j := 0) hC eX0_copyFrom_46 rfl ?_
    refine gf_X0_31 hC eX0_copyFrom_47 h0 ?_
    refine J.icmp_ge hC eX0_copyFrom_50 (fun _ => ?_) (fun _ => ?_)
    · exact J.vret hC hr eX0_copyFrom_74
    · refine J.aload_n (j := 0) hC eX0_copyFrom_53 rfl ?_
      refine gf_X0_12 (q := p0 + 1) hC eX0_copyFrom_54 h0 rfl ?_
      refine J.iload_n (j := 2) hC eX0_copyFrom_57 rfl ?_
      refine J.aaldS hC eX0_copyFrom_58 (kf_X0_sheets h0) (fun hq_1 => ?_)
      refine J.aload_n (j := 1) hC eX0_copyFrom_59 rfl ?_
      refine gf_X0_12 (q := p1 + 1) hC eX0_copyFrom_60 h1 rfl ?_
      refine J.iload_n (j := 2) hC eX0_copyFrom_63 rfl ?_
      refine J.aaldS hC eX0_copyFrom_64 (kf_X0_sheets h1) (fun hq_2 => ?_)
      refine J.callVV (st := []) hC eX0_copyFrom_65 hq_1 (by decide) rfl rfl ml_X0_80 mv_X7_copyFrom (Rle_of (Nat.le_of_ble_eq_true rfl) (Nat.le_of_ble_eq_true rfl)) (c_X7_copyFrom hC.X (shP (p0 + 1) x2) hq_1 (shP (p1 + 1) x2) hq_2 μ) rfl rfl (Nat.le_of_ble_eq_true rfl) (fun r_4 μ_3 => ?_)
      refine J.iinc (j := 2) (fun x2_5 => [(2, .int x2_5), (0, .ref (xad (cX C) p0)), (1, .ref (xad (cX C) p1))]) hC eX0_copyFrom_68 rfl ci_1 (by decide) (fun _ => rfl) (fun x2_5 => ?_)
      refine J.goto hC eX0_copyFrom_71 ?_
      refine J.sub [1, 2, 0] rfl ?_
      exact ih p0 h0 p1 h1 x2_5 μ_3
def G_X0_copyFrom (p0 : Nat) (p1 : Nat) (μ : Mem) : Option (Unit × Mem) :=
  lb (wI μ p0 2 (rI μ p1 2)) (fun μ_1 => lb (wI μ_1 p0 3 (rI μ_1 p1 3)) (fun μ_2 => lb (wI μ_2 p0 4 (rI μ_2 p1 4)) (fun μ_3 => lb (wI μ_3 p0 5 (rI μ_3 p1 5)) (fun μ_4 => bd (G_X3_copyFrom (p0 + 29) (p1 + 29) μ_4) (fun r_6 μ_5 => L_X0_copyFrom_45  100000 p0 p1 (0 : Int32) μ_5)))))
set_option maxHeartbeats 4000000 in
theorem c_X0_copyFrom {X : Wd} (hX : WdOk X) (p0 : Nat) (h0 : kd p0 = 0) (p1 : Nat) (h1 : kd p1 = 0) (μ : Mem) : CtV X yX0_copyFrom cX0_copyFrom 3 none (rmF 3 65) [.ref (xad X p0), .ref (xad X p1)] μ (G_X0_copyFrom p0 p1 μ) := by
  refine CtV.of hX (plainFor_of_name (by decide)) (by exact Nat.le_of_ble_eq_true rfl) ?_
  intro C hCX hC hr
  subst hCX
  show J C (KV C) μ 0 [(0, .ref (xad (cX C) p0)), (1, .ref (xad (cX C) p1))] [] _
  unfold G_X0_copyFrom
  refine J.aload_n (j := 0) hC eX0_copyFrom_0 rfl ?_
  refine J.aload_n (j := 1) hC eX0_copyFrom_1 rfl ?_
  refine gf_X0_31 hC eX0_copyFrom_2 h1 ?_
  refine pf_X0_31 hC eX0_copyFrom_5 h0 (fun μ_1 => ?_)
  refine J.aload_n (j := 0) hC eX0_copyFrom_8 rfl ?_
  refine J.aload_n (j := 1) hC eX0_copyFrom_9 rfl ?_
  refine gf_X0_36 hC eX0_copyFrom_10 h1 ?_
  refine pf_X0_36 hC eX0_copyFrom_13 h0 (fun μ_2 => ?_)
  refine J.aload_n (j := 0) hC eX0_copyFrom_16 rfl ?_
  refine J.aload_n (j := 1) hC eX0_copyFrom_17 rfl ?_
  refine gf_X0_39 hC eX0_copyFrom_18 h1 ?_
  refine pf_X0_39 hC eX0_copyFrom_21 h0 (fun μ_3 => ?_)
  refine J.aload_n (j := 0) hC eX0_copyFrom_24 rfl ?_
  refine J.aload_n (j := 1) hC eX0_copyFrom_25 rfl ?_
  refine gf_X0_42 hC eX0_copyFrom_26 h1 ?_
  refine pf_X0_42 hC eX0_copyFrom_29 h0 (fun μ_4 => ?_)
  refine J.aload_n (j := 0) hC eX0_copyFrom_32 rfl ?_
  refine gf_X0_21 (q := p0 + 29) hC eX0_copyFrom_33 h0 rfl ?_
  refine J.aload_n (j := 1) hC eX0_copyFrom_36 rfl ?_
  refine gf_X0_21 (q := p1 + 29) hC eX0_copyFrom_37 h1 rfl ?_
  refine J.callVV (st := []) hC eX0_copyFrom_40 (kf_X0_diary h0) (by decide) rfl rfl ml_X0_76 mv_X3_copyFrom (Rle_of (Nat.le_of_ble_eq_true rfl) (Nat.le_of_ble_eq_true rfl)) (c_X3_copyFrom hC.X (p0 + 29) (kf_X0_diary h0) (p1 + 29) (kf_X0_diary h1) μ_4) rfl rfl (Nat.le_of_ble_eq_true rfl) (fun r_6 μ_5 => ?_)
  refine J.iconst hC eX0_copyFrom_43 ci_0 ?_
  refine J.istore_n [(2, .int (0 : Int32)), (0, .ref (xad (cX C) p0)), (1, .ref (xad (cX C) p1))] hC eX0_copyFrom_44 (by decide) rfl ?_
  refine J.sub [1, 2, 0] rfl ?_
  exact j_X0_copyFrom_45 hC hr  100000 p0 h0 p1 h1 (0 : Int32) μ_5
