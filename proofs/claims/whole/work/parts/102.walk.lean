-- X4_size
theorem eX4_size_0 : DD cX4_size 0 (.aload_n 0) 1 1 := ⟨by decide +kernel, rfl⟩
theorem eX4_size_1 : DD cX4_size 1 (.getfield 15) 3 4 := ⟨by decide +kernel, rfl⟩
theorem eX4_size_4 : DD cX4_size 4 (.iconst 0) 1 5 := ⟨by decide +kernel, rfl⟩
theorem eX4_size_5 : DD cX4_size 5 (.iaload) 1 6 := ⟨by decide +kernel, rfl⟩
theorem eX4_size_6 : DD cX4_size 6 (.ireturn) 1 7 := ⟨by decide +kernel, rfl⟩
def G_X4_size (p0 : Nat) (μ : Mem) : Option (Int32 × Mem) :=
  some (rI μ (p0 + 2) 0, μ)
set_option maxHeartbeats 4000000 in
theorem c_X4_size {X : Wd} (hX : WdOk X) (p0 : Nat) (h0 : kd p0 = 4) (μ : Mem) : CtI X yX4_size cX4_size 1 (some .int) (rmF 0 0) [.ref (xad X p0)] μ (G_X4_size p0 μ) := by
  refine CtI.of hX (plainFor_of_name (by decide)) (by exact Nat.le_of_ble_eq_true rfl) ?_
  intro C hCX hC hr
  subst hCX
  show J C (KI C) μ 0 [(0, .ref (xad (cX C) p0))] [] _
  unfold G_X4_size
  refine J.aload_n (j := 0) hC eX4_size_0 rfl ?_
  refine gf_X4_15 (q := p0 + 2) hC eX4_size_1 h0 rfl ?_
  refine J.iconst hC eX4_size_4 ci_0 ?_
  refine J.ialdK (j := 0) ik_26 hC eX4_size_5 (kf_X4_state h0) (by decide) (by decide) ?_
  exact J.iret hC hr eX4_size_6
-- X4_bucketOf
theorem eX4_bucketOf_0 : DD cX4_bucketOf 0 (.iconst 0) 1 1 := ⟨by decide +kernel, rfl⟩
theorem eX4_bucketOf_1 : DD cX4_bucketOf 1 (.istore_n 2) 1 2 := ⟨by decide +kernel, rfl⟩
theorem eX4_bucketOf_2 : DD cX4_bucketOf 2 (.iconst 1) 1 3 := ⟨by decide +kernel, rfl⟩
theorem eX4_bucketOf_3 : DD cX4_bucketOf 3 (.istore_n 3) 1 4 := ⟨by decide +kernel, rfl⟩
theorem eX4_bucketOf_4 : DD cX4_bucketOf 4 (.iload_n 3) 1 5 := ⟨by decide +kernel, rfl⟩
theorem eX4_bucketOf_5 : DD cX4_bucketOf 5 (.aload_n 0) 1 6 := ⟨by decide +kernel, rfl⟩
theorem eX4_bucketOf_6 : DD cX4_bucketOf 6 (.invokevirtual 78) 3 9 := ⟨by decide +kernel, rfl⟩
theorem eX4_bucketOf_9 : DB cX4_bucketOf 9 (.if_icmp .ge 20) (20) 12 29 := ⟨by decide +kernel, rfl, by decide⟩
theorem eX4_bucketOf_12 : DD cX4_bucketOf 12 (.aload_n 0) 1 13 := ⟨by decide +kernel, rfl⟩
theorem eX4_bucketOf_13 : DD cX4_bucketOf 13 (.iload_n 3) 1 14 := ⟨by decide +kernel, rfl⟩
theorem eX4_bucketOf_14 : DD cX4_bucketOf 14 (.invokevirtual 26) 3 17 := ⟨by decide +kernel, rfl⟩
theorem eX4_bucketOf_17 : DD cX4_bucketOf 17 (.iload_n 1) 1 18 := ⟨by decide +kernel, rfl⟩
theorem eX4_bucketOf_18 : DB cX4_bucketOf 18 (.if_icmp .gt 5) (5) 21 23 := ⟨by decide +kernel, rfl, by decide⟩
theorem eX4_bucketOf_21 : DD cX4_bucketOf 21 (.iload_n 3) 1 22 := ⟨by decide +kernel, rfl⟩
theorem eX4_bucketOf_22 : DD cX4_bucketOf 22 (.istore_n 2) 1 23 := ⟨by decide +kernel, rfl⟩
theorem eX4_bucketOf_23 : DD cX4_bucketOf 23 (.iinc 3 1) 3 26 := ⟨by decide +kernel, rfl⟩
theorem eX4_bucketOf_26 : DB cX4_bucketOf 26 (.goto (-22)) (-22) 29 4 := ⟨by decide +kernel, rfl, by decide⟩
theorem eX4_bucketOf_29 : DD cX4_bucketOf 29 (.iload_n 2) 1 30 := ⟨by decide +kernel, rfl⟩
theorem eX4_bucketOf_30 : DD cX4_bucketOf 30 (.ireturn) 1 31 := ⟨by decide +kernel, rfl⟩
def F_X4_bucketOf_23 (kc_4 : Nat → Int32 → Int32 → Int32 → Mem → Option (Int32 × Mem)) (p0 : Nat) (x1 : Int32) (x2 : Int32) (x3 : Int32) (μ : Mem) : Option (Int32 × Mem) :=
  lb (x3 + (1 : Int32)) (fun x3_1 => kc_4 p0 x1 x2 x3_1 μ)
set_option maxHeartbeats 4000000 in
theorem j_X4_bucketOf_23 {C : Cx} (hC : Ok C cX4_bucketOf 4 RX4 (rmF 1 21)) (hr : (cT C).sig.returnType = (some .int)) (kc_4 : Nat → Int32 → Int32 → Int32 → Mem → Option (Int32 × Mem)) (hk_4 : ∀ (p0 : Nat) (h0 : kd p0 = 4) (x1 : Int32) (x2 : Int32) (x3 : Int32) (μ : Mem), J C (KI C) μ 4 [(0, .ref (xad (cX C) p0)), (1, .int x1), (2, .int x2), (3, .int x3)] [] (kc_4 p0 x1 x2 x3 μ)) (p0 : Nat) (h0 : kd p0 = 4) (x1 : Int32) (x2 : Int32) (x3 : Int32) (μ : Mem) : J C (KI C) μ 23 [(0, .ref (xad (cX C) p0)), (1, .int x1), (2, .int x2), (3, .int x3)] [] (F_X4_bucketOf_23 kc_4 p0 x1 x2 x3 μ) := by
  unfold F_X4_bucketOf_23
  refine J.iinc (j := 3) (fun x3_1 => [(3, .int x3_1), (0, .ref (xad (cX C) p0)), (1, .int x1), (2, .int x2)]) hC eX4_bucketOf_23 rfl ci_1 (by decide) (fun _ => rfl) (fun x3_1 => ?_)
  refine J.goto hC eX4_bucketOf_26 ?_
  refine J.sub [1, 2, 3, 0] rfl ?_
  exact hk_4 p0 h0 x1 x2 x3_1 μ
def L_X4_bucketOf_4 : Nat → Nat → Int32 → Int32 → Int32 → Mem → Option (Int32 × Mem)
  | 0, _, _, _, _, _ => none
  | n + 1, p0, x1, x2, x3, μ => bd (G_X4_size p0 μ) (fun r_2 μ_1 => if r_2 ≤ x3 then some (x2, μ_1) else bd (G_X4_firstOf p0 x3 μ_1) (fun r_4 μ_3 => if x1 < r_4 then F_X4_bucketOf_23 (L_X4_bucketOf_4  n) p0 x1 x2 x3 μ_3 else F_X4_bucketOf_23 (L_X4_bucketOf_4  n) p0 x1 x3 x3 μ_3))
set_option maxHeartbeats 4000000 in
theorem j_X4_bucketOf_4 {C : Cx} (hC : Ok C cX4_bucketOf 4 RX4 (rmF 1 21)) (hr : (cT C).sig.returnType = (some .int)) : ∀ (n : Nat) (p0 : Nat) (h0 : kd p0 = 4) (x1 : Int32) (x2 : Int32) (x3 : Int32) (μ : Mem), J C (KI C) μ 4 [(0, .ref (xad (cX C) p0)), (1, .int x1), (2, .int x2), (3, .int x3)] [] (L_X4_bucketOf_4  n p0 x1 x2 x3 μ) := by
  intro n
  induction n with
  | zero => intros; exact J.no
  | succ n ih =>
    intro p0 h0 x1 x2 x3 μ
    rw [L_X4_bucketOf_4]
    refine J.iload_n (j := 3) hC eX4_bucketOf_4 rfl ?_
    refine J.aload_n (j := 0) hC eX4_bucketOf_5 rfl ?_
    refine J.callVI (st := [.int x3]) hC eX4_bucketOf_6 h0 (by decide) rfl rfl ml_X4_78 mv_X4_size (Rle_of (Nat.le_of_ble_eq_true rfl) (Nat.le_of_ble_eq_true rfl)) (c_X4_size hC.X p0 h0 μ) rfl rfl (Nat.le_of_ble_eq_true rfl) (fun r_2 μ_1 => ?_)
    refine J.icmp_ge hC eX4_bucketOf_9 (fun _ => ?_) (fun _ => ?_)
    · refine J.iload_n (j := 2) hC eX4_bucketOf_29 rfl ?_
      exact J.iret hC hr eX4_bucketOf_30
    · refine J.aload_n (j := 0) hC eX4_bucketOf_12 rfl ?_
      refine J.iload_n (j := 3) hC eX4_bucketOf_13 rfl ?_
      refine J.callVI (st := []) hC eX4_bucketOf_14 h0 (by decide) rfl rfl ml_X4_26 mv_X4_firstOf (Rle_of (Nat.le_of_ble_eq_true rfl) (Nat.le_of_ble_eq_true rfl)) (c_X4_firstOf hC.X p0 h0 x3 μ_1) rfl rfl (Nat.le_of_ble_eq_true rfl) (fun r_4 μ_3 => ?_)
      refine J.iload_n (j := 1) hC eX4_bucketOf_17 rfl ?_
      refine J.icmp_gt hC eX4_bucketOf_18 (fun _ => ?_) (fun _ => ?_)
      · refine J.sub [0, 1, 2, 3] rfl ?_
        exact j_X4_bucketOf_23 hC hr (L_X4_bucketOf_4  n) ih p0 h0 x1 x2 x3 μ_3
      · refine J.iload_n (j := 3) hC eX4_bucketOf_21 rfl ?_
        refine J.istore_n [(2, .int x3), (0, .ref (xad (cX C) p0)), (1, .int x1), (3, .int x3)] hC eX4_bucketOf_22 (by decide) rfl ?_
        refine J.sub [1, 2, 0, 3] rfl ?_
        exact j_X4_bucketOf_23 hC hr (L_X4_bucketOf_4  n) ih p0 h0 x1 x3 x3 μ_3
def G_X4_bucketOf (p0 : Nat) (x1 : Int32) (μ : Mem) : Option (Int32 × Mem) :=
  L_X4_bucketOf_4  100000 p0 x1 (0 : Int32) (1 : Int32) μ
set_option maxHeartbeats 4000000 in
theorem c_X4_bucketOf {X : Wd} (hX : WdOk X) (p0 : Nat) (h0 : kd p0 = 4) (x1 : Int32) (μ : Mem) : CtI X yX4_bucketOf cX4_bucketOf 4 (some .int) (rmF 1 21) [.ref (xad X p0), .int x1] μ (G_X4_bucketOf p0 x1 μ) := by
  refine CtI.of hX (plainFor_of_name (by decide)) (by exact Nat.le_of_ble_eq_true rfl) ?_
  intro C hCX hC hr
  subst hCX
  show J C (KI C) μ 0 [(0, .ref (xad (cX C) p0)), (1, .int x1)] [] _
  unfold G_X4_bucketOf
  refine J.iconst hC eX4_bucketOf_0 ci_0 ?_
  refine J.istore_n [(2, .int (0 : Int32)), (0, .ref (xad (cX C) p0)), (1, .int x1)] hC eX4_bucketOf_1 (by decide) rfl ?_
  refine J.iconst hC eX4_bucketOf_2 ci_1 ?_
  refine J.istore_n [(3, .int (1 : Int32)), (2, .int (0 : Int32)), (0, .ref (xad (cX C) p0)), (1, .int x1)] hC eX4_bucketOf_3 (by decide) rfl ?_
  refine J.sub [2, 3, 1, 0] rfl ?_
  exact j_X4_bucketOf_4 hC hr  100000 p0 h0 x1 (0 : Int32) (1 : Int32) μ
-- X4_totalOf
theorem eX4_totalOf_0 : DD cX4_totalOf 0 (.aload_n 0) 1 1 := ⟨by decide +kernel, rfl⟩
theorem eX4_totalOf_1 : DD cX4_totalOf 1 (.getfield 15) 3 4 := ⟨by decide +kernel, rfl⟩
theorem eX4_totalOf_4 : DD cX4_totalOf 4 (.bipush 10) 2 6 := ⟨by decide +kernel, rfl⟩
theorem eX4_totalOf_6 : DD cX4_totalOf 6 (.iload_n 1) 1 7 := ⟨by decide +kernel, rfl⟩
theorem eX4_totalOf_7 : DD cX4_totalOf 7 (.iadd) 1 8 := ⟨by decide +kernel, rfl⟩
theorem eX4_totalOf_8 : DD cX4_totalOf 8 (.iaload) 1 9 := ⟨by decide +kernel, rfl⟩
theorem eX4_totalOf_9 : DD cX4_totalOf 9 (.ireturn) 1 10 := ⟨by decide +kernel, rfl⟩
def G_X4_totalOf (p0 : Nat) (x1 : Int32) (μ : Mem) : Option (Int32 × Mem) :=
  gq (inB ((10 : Int32) + x1) 26) (some (rI μ (p0 + 2) (nx ((10 : Int32) + x1)), μ))
set_option maxHeartbeats 4000000 in
theorem c_X4_totalOf {X : Wd} (hX : WdOk X) (p0 : Nat) (h0 : kd p0 = 4) (x1 : Int32) (μ : Mem) : CtI X yX4_totalOf cX4_totalOf 2 (some .int) (rmF 0 0) [.ref (xad X p0), .int x1] μ (G_X4_totalOf p0 x1 μ) := by
  refine CtI.of hX (plainFor_of_name (by decide)) (by exact Nat.le_of_ble_eq_true rfl) ?_
  intro C hCX hC hr
  subst hCX
  show J C (KI C) μ 0 [(0, .ref (xad (cX C) p0)), (1, .int x1)] [] _
  unfold G_X4_totalOf
  refine J.aload_n (j := 0) hC eX4_totalOf_0 rfl ?_
  refine gf_X4_15 (q := p0 + 2) hC eX4_totalOf_1 h0 rfl ?_
  refine J.bipush hC eX4_totalOf_4 cb_10 ?_
  refine J.iload_n (j := 1) hC eX4_totalOf_6 rfl ?_
  refine J.iadd hC eX4_totalOf_7 ?_
  refine J.iald ik_26 hC eX4_totalOf_8 (kf_X4_state h0) ?_
  exact J.iret hC hr eX4_totalOf_9
-- X4_greatestOf
theorem eX4_greatestOf_0 : DD cX4_greatestOf 0 (.aload_n 0) 1 1 := ⟨by decide +kernel, rfl⟩
theorem eX4_greatestOf_1 : DD cX4_greatestOf 1 (.getfield 15) 3 4 := ⟨by decide +kernel, rfl⟩
theorem eX4_greatestOf_4 : DD cX4_greatestOf 4 (.bipush 18) 2 6 := ⟨by decide +kernel, rfl⟩
theorem eX4_greatestOf_6 : DD cX4_greatestOf 6 (.iload_n 1) 1 7 := ⟨by decide +kernel, rfl⟩
theorem eX4_greatestOf_7 : DD cX4_greatestOf 7 (.iadd) 1 8 := ⟨by decide +kernel, rfl⟩
theorem eX4_greatestOf_8 : DD cX4_greatestOf 8 (.iaload) 1 9 := ⟨by decide +kernel, rfl⟩
theorem eX4_greatestOf_9 : DD cX4_greatestOf 9 (.ireturn) 1 10 := ⟨by decide +kernel, rfl⟩
def G_X4_greatestOf (p0 : Nat) (x1 : Int32) (μ : Mem) : Option (Int32 × Mem) :=
  gq (inB ((18 : Int32) + x1) 26) (some (rI μ (p0 + 2) (nx ((18 : Int32) + x1)), μ))
set_option maxHeartbeats 4000000 in
theorem c_X4_greatestOf {X : Wd} (hX : WdOk X) (p0 : Nat) (h0 : kd p0 = 4) (x1 : Int32) (μ : Mem) : CtI X yX4_greatestOf cX4_greatestOf 2 (some .int) (rmF 0 0) [.ref (xad X p0), .int x1] μ (G_X4_greatestOf p0 x1 μ) := by
  refine CtI.of hX (plainFor_of_name (by decide)) (by exact Nat.le_of_ble_eq_true rfl) ?_
  intro C hCX hC hr
  subst hCX
  show J C (KI C) μ 0 [(0, .ref (xad (cX C) p0)), (1, .int x1)] [] _
  unfold G_X4_greatestOf
  refine J.aload_n (j := 0) hC eX4_greatestOf_0 rfl ?_
  refine gf_X4_15 (q := p0 + 2) hC eX4_greatestOf_1 h0 rfl ?_
  refine J.bipush hC eX4_greatestOf_4 cb_18 ?_
  refine J.iload_n (j := 1) hC eX4_greatestOf_6 rfl ?_
  refine J.iadd hC eX4_greatestOf_7 ?_
  refine J.iald ik_26 hC eX4_greatestOf_8 (kf_X4_state h0) ?_
  exact J.iret hC hr eX4_greatestOf_9
-- X4_follow
theorem eX4_follow_0 : DD cX4_follow 0 (.aload_n 0) 1 1 := ⟨by decide +kernel, rfl⟩
theorem eX4_follow_1 : DD cX4_follow 1 (.iload_n 1) 1 2 := ⟨by decide +kernel, rfl⟩
theorem eX4_follow_2 : DD cX4_follow 2 (.invokevirtual 66) 3 5 := ⟨by decide +kernel, rfl⟩
theorem eX4_follow_5 : DD cX4_follow 5 (.istore_n 3) 1 6 := ⟨by decide +kernel, rfl⟩
theorem eX4_follow_6 : DD cX4_follow 6 (.aload_n 0) 1 7 := ⟨by decide +kernel, rfl⟩
theorem eX4_follow_7 : DD cX4_follow 7 (.iload_n 3) 1 8 := ⟨by decide +kernel, rfl⟩
theorem eX4_follow_8 : DD cX4_follow 8 (.invokevirtual 69) 3 11 := ⟨by decide +kernel, rfl⟩
theorem eX4_follow_11 : DD cX4_follow 11 (.iload_n 2) 1 12 := ⟨by decide +kernel, rfl⟩
theorem eX4_follow_12 : DD cX4_follow 12 (.iadd) 1 13 := ⟨by decide +kernel, rfl⟩
theorem eX4_follow_13 : DD cX4_follow 13 (.istore 4) 2 15 := ⟨by decide +kernel, rfl⟩
theorem eX4_follow_15 : DD cX4_follow 15 (.aload_n 0) 1 16 := ⟨by decide +kernel, rfl⟩
theorem eX4_follow_16 : DD cX4_follow 16 (.iload_n 3) 1 17 := ⟨by decide +kernel, rfl⟩
theorem eX4_follow_17 : DD cX4_follow 17 (.invokevirtual 72) 3 20 := ⟨by decide +kernel, rfl⟩
theorem eX4_follow_20 : DD cX4_follow 20 (.iload_n 2) 1 21 := ⟨by decide +kernel, rfl⟩
theorem eX4_follow_21 : DD cX4_follow 21 (.iconst 0) 1 22 := ⟨by decide +kernel, rfl⟩
theorem eX4_follow_22 : DD cX4_follow 22 (.invokestatic 63) 3 25 := ⟨by decide +kernel, rfl⟩
theorem eX4_follow_25 : DD cX4_follow 25 (.iadd) 1 26 := ⟨by decide +kernel, rfl⟩
theorem eX4_follow_26 : DD cX4_follow 26 (.istore 5) 2 28 := ⟨by decide +kernel, rfl⟩
theorem eX4_follow_28 : DD cX4_follow 28 (.aload_n 0) 1 29 := ⟨by decide +kernel, rfl⟩
theorem eX4_follow_29 : DD cX4_follow 29 (.getfield 15) 3 32 := ⟨by decide +kernel, rfl⟩
theorem eX4_follow_32 : DD cX4_follow 32 (.bipush 10) 2 34 := ⟨by decide +kernel, rfl⟩
theorem eX4_follow_34 : DD cX4_follow 34 (.iload_n 3) 1 35 := ⟨by decide +kernel, rfl⟩
theorem eX4_follow_35 : DD cX4_follow 35 (.iadd) 1 36 := ⟨by decide +kernel, rfl⟩
theorem eX4_follow_36 : DD cX4_follow 36 (.iload 4) 2 38 := ⟨by decide +kernel, rfl⟩
theorem eX4_follow_38 : DD cX4_follow 38 (.iastore) 1 39 := ⟨by decide +kernel, rfl⟩
theorem eX4_follow_39 : DD cX4_follow 39 (.aload_n 0) 1 40 := ⟨by decide +kernel, rfl⟩
theorem eX4_follow_40 : DD cX4_follow 40 (.getfield 15) 3 43 := ⟨by decide +kernel, rfl⟩
theorem eX4_follow_43 : DD cX4_follow 43 (.bipush 18) 2 45 := ⟨by decide +kernel, rfl⟩
theorem eX4_follow_45 : DD cX4_follow 45 (.iload_n 3) 1 46 := ⟨by decide +kernel, rfl⟩
theorem eX4_follow_46 : DD cX4_follow 46 (.iadd) 1 47 := ⟨by decide +kernel, rfl⟩
theorem eX4_follow_47 : DD cX4_follow 47 (.iload 5) 2 49 := ⟨by decide +kernel, rfl⟩
theorem eX4_follow_49 : DD cX4_follow 49 (.iload 4) 2 51 := ⟨by decide +kernel, rfl⟩
theorem eX4_follow_51 : DD cX4_follow 51 (.invokestatic 44) 3 54 := ⟨by decide +kernel, rfl⟩
theorem eX4_follow_54 : DD cX4_follow 54 (.iastore) 1 55 := ⟨by decide +kernel, rfl⟩
theorem eX4_follow_55 : DD cX4_follow 55 (.aload_n 0) 1 56 := ⟨by decide +kernel, rfl⟩
theorem eX4_follow_56 : DD cX4_follow 56 (.getfield 15) 3 59 := ⟨by decide +kernel, rfl⟩
theorem eX4_follow_59 : DD cX4_follow 59 (.iconst 1) 1 60 := ⟨by decide +kernel, rfl⟩
theorem eX4_follow_60 : DD cX4_follow 60 (.dup2) 1 61 := ⟨by decide +kernel, rfl⟩
theorem eX4_follow_61 : DD cX4_follow 61 (.iaload) 1 62 := ⟨by decide +kernel, rfl⟩
theorem eX4_follow_62 : DD cX4_follow 62 (.iload_n 2) 1 63 := ⟨by decide +kernel, rfl⟩
theorem eX4_follow_63 : DD cX4_follow 63 (.invokestatic 75) 3 66 := ⟨by decide +kernel, rfl⟩
theorem eX4_follow_66 : DD cX4_follow 66 (.iadd) 1 67 := ⟨by decide +kernel, rfl⟩
theorem eX4_follow_67 : DD cX4_follow 67 (.iastore) 1 68 := ⟨by decide +kernel, rfl⟩
theorem eX4_follow_68 : DD cX4_follow 68 (.return_) 1 69 := ⟨by decide +kernel, rfl⟩
def G_X4_follow (p0 : Nat) (x1 : Int32) (x2 : Int32) (μ : Mem) : Option (Unit × Mem) :=
  bd (G_X4_bucketOf p0 x1 μ) (fun r_2 μ_1 => bd (G_X4_totalOf p0 r_2 μ_1) (fun r_4 μ_3 => lb (r_4 + x2) (fun x4_5 => bd (G_X4_greatestOf p0 r_2 μ_3) (fun r_7 μ_6 => lb (r_7 + (imax x2 (0 : Int32))) (fun x5_8 => gq (inB ((10 : Int32) + r_2) 26) (lb (wI μ_6 (p0 + 2) (nx ((10 : Int32) + r_2)) x4_5) (fun μ_9 => gq (inB ((18 : Int32) + r_2) 26) (lb (wI μ_9 (p0 + 2) (nx ((18 : Int32) + r_2)) (imin x5_8 x4_5)) (fun μ_10 => lb (wI μ_10 (p0 + 2) 1 ((rI μ_10 (p0 + 2) 1) + (iabs x2))) (fun μ_11 => some ((), μ_11)))))))))))
set_option maxHeartbeats 4000000 in
theorem c_X4_follow {X : Wd} (hX : WdOk X) (p0 : Nat) (h0 : kd p0 = 4) (x1 : Int32) (x2 : Int32) (μ : Mem) : CtV X yX4_follow cX4_follow 6 none (rmF 2 44) [.ref (xad X p0), .int x1, .int x2] μ (G_X4_follow p0 x1 x2 μ) := by
  refine CtV.of hX (plainFor_of_name (by decide)) (by exact Nat.le_of_ble_eq_true rfl) ?_
  intro C hCX hC hr
  subst hCX
  show J C (KV C) μ 0 [(0, .ref (xad (cX C) p0)), (1, .int x1), (2, .int x2)] [] _
  unfold G_X4_follow
  refine J.aload_n (j := 0) hC eX4_follow_0 rfl ?_
  refine J.iload_n (j := 1) hC eX4_follow_1 rfl ?_
  refine J.callVI (st := []) hC eX4_follow_2 h0 (by decide) rfl rfl ml_X4_66 mv_X4_bucketOf (Rle_of (Nat.le_of_ble_eq_true rfl) (Nat.le_of_ble_eq_true rfl)) (c_X4_bucketOf hC.X p0 h0 x1 μ) rfl rfl (Nat.le_of_ble_eq_true rfl) (fun r_2 μ_1 => ?_)
  refine J.istore_n [(3, .int r_2), (0, .ref (xad (cX C) p0)), (1, .int x1), (2, .int x2)] hC eX4_follow_5 (by decide) rfl ?_
  refine J.aload_n (j := 1) hC eX4_follow_6 rfl ?_
  refine J.iload_n (j := 0) hC eX4_follow_7 rfl ?_
  refine J.callVI (st := []) hC eX4_follow_8 h0 (by decide) rfl rfl ml_X4_69 mv_X4_totalOf (Rle_of (Nat.le_of_ble_eq_true rfl) (Nat.le_of_ble_eq_true rfl)) (c_X4_totalOf hC.X p0 h0 r_2 μ_1) rfl rfl (Nat.le_of_ble_eq_true rfl) (fun r_4 μ_3 => ?_)
  refine J.iload_n (j := 3) hC eX4_follow_11 rfl ?_
  refine J.iadd hC eX4_follow_12 ?_
  refine J.topi (fun x4_5 => ?_)
  refine J.istore [(4, .int x4_5), (3, .int r_2), (0, .ref (xad (cX C) p0)), (1, .int x1), (2, .int x2)] hC eX4_follow_13 (by decide) rfl ?_
  refine J.aload_n (j := 2) hC eX4_follow_15 rfl ?_
  refine J.iload_n (j := 1) hC eX4_follow_16 rfl ?_
  refine J.callVI (st := []) hC eX4_follow_17 h0 (by decide) rfl rfl ml_X4_72 mv_X4_greatestOf (Rle_of (Nat.le_of_ble_eq_true rfl) (Nat.le_of_ble_eq_true rfl)) (c_X4_greatestOf hC.X p0 h0 r_2 μ_3) rfl rfl (Nat.le_of_ble_eq_true rfl) (fun r_7 μ_6 => ?_)
  refine J.iload_n (j := 4) hC eX4_follow_20 rfl ?_
  refine J.iconst hC eX4_follow_21 ci_0 ?_
  refine J.mmax hC eX4_follow_22 ml_X4_63 w_smax w_im w_cmax (Nat.le_of_ble_eq_true rfl) (Nat.le_of_ble_eq_true rfl) ?_
  refine J.iadd hC eX4_follow_25 ?_
  refine J.topi (fun x5_8 => ?_)
  refine J.istore [(5, .int x5_8), (4, .int x4_5), (3, .int r_2), (0, .ref (xad (cX C) p0)), (1, .int x1), (2, .int x2)] hC eX4_follow_26 (by decide) rfl ?_
  refine J.aload_n (j := 3) hC eX4_follow_28 rfl ?_
  refine gf_X4_15 (q := p0 + 2) hC eX4_follow_29 h0 rfl ?_
  refine J.bipush hC eX4_follow_32 cb_10 ?_
  refine J.iload_n (j := 2) hC eX4_follow_34 rfl ?_
  refine J.iadd hC eX4_follow_35 ?_
  refine J.iload (j := 1) hC eX4_follow_36 rfl ?_
  refine J.iast ik_26 hC eX4_follow_38 (kf_X4_state h0) (fun μ_9 => ?_)
  refine J.aload_n (j := 3) hC eX4_follow_39 rfl ?_
  refine gf_X4_15 (q := p0 + 2) hC eX4_follow_40 h0 rfl ?_
  refine J.bipush hC eX4_follow_43 cb_18 ?_
  refine J.iload_n (j := 2) hC eX4_follow_45 rfl ?_
  refine J.iadd hC eX4_follow_46 ?_
  refine J.iload (j := 0) hC eX4_follow_47 rfl ?_
  refine J.iload (j := 1) hC eX4_follow_49 rfl ?_
  refine J.mmin hC eX4_follow_51 ml_X4_44 w_smin w_im w_cmin (Nat.le_of_ble_eq_true rfl) (Nat.le_of_ble_eq_true rfl) ?_
  refine J.iast ik_26 hC eX4_follow_54 (kf_X4_state h0) (fun μ_10 => ?_)
  refine J.aload_n (j := 3) hC eX4_follow_55 rfl ?_
  refine gf_X4_15 (q := p0 + 2) hC eX4_follow_56 h0 rfl ?_
  refine J.iconst hC eX4_follow_59 ci_1 ?_
  refine J.dup2 hC eX4_follow_60 rfl rfl ?_
  refine J.ialdK (j := 1) ik_26 hC eX4_follow_61 (kf_X4_state h0) (by decide) (by decide) ?_
  refine J.iload_n (j := 5) hC eX4_follow_62 rfl ?_
  refine J.mabs hC eX4_follow_63 ml_X4_75 w_sabs w_im w_cabs (Nat.le_of_ble_eq_true rfl) (Nat.le_of_ble_eq_true rfl) ?_
  refine J.iadd hC eX4_follow_66 ?_
  refine J.iastK (j := 1) ik_26 hC eX4_follow_67 (kf_X4_state h0) (by decide) (by decide) (fun μ_11 => ?_)
  exact J.vret hC hr eX4_follow_68
-- X4_drift
theorem eX4_drift_0 : DD cX4_drift 0 (.aload_n 0) 1 1 := ⟨by decide +kernel, rfl⟩
theorem eX4_drift_1 : DD cX4_drift 1 (.getfield 15) 3 4 := ⟨by decide +kernel, rfl⟩
theorem eX4_drift_4 : DD cX4_drift 4 (.iconst 1) 1 5 := ⟨by decide +kernel, rfl⟩
theorem eX4_drift_5 : DD cX4_drift 5 (.iaload) 1 6 := ⟨by decide +kernel, rfl⟩
theorem eX4_drift_6 : DD cX4_drift 6 (.ireturn) 1 7 := ⟨by decide +kernel, rfl⟩
def G_X4_drift (p0 : Nat) (μ : Mem) : Option (Int32 × Mem) :=
  some (rI μ (p0 + 2) 1, μ)
set_option maxHeartbeats 4000000 in
theorem c_X4_drift {X : Wd} (hX : WdOk X) (p0 : Nat) (h0 : kd p0 = 4) (μ : Mem) : CtI X yX4_drift cX4_drift 1 (some .int) (rmF 0 0) [.ref (xad X p0)] μ (G_X4_drift p0 μ) := by
  refine CtI.of hX (plainFor_of_name (by decide)) (by exact Nat.le_of_ble_eq_true rfl) ?_
  intro C hCX hC hr
  subst hCX
  show J C (KI C) μ 0 [(0, .ref (xad (cX C) p0))] [] _
  unfold G_X4_drift
  refine J.aload_n (j := 0) hC eX4_drift_0 rfl ?_
  refine gf_X4_15 (q := p0 + 2) hC eX4_drift_1 h0 rfl ?_
  refine J.iconst hC eX4_drift_4 ci_1 ?_
  refine J.ialdK (j := 1) ik_26 hC eX4_drift_5 (kf_X4_state h0) (by decide) (by decide) ?_
  exact J.iret hC hr eX4_drift_6
-- X0_changeRows
theorem eX0_changeRows_0 : DD cX0_changeRows 0 (.aload_n 1) 1 1 := ⟨by decide +kernel, rfl⟩
theorem eX0_changeRows_1 : DD cX0_changeRows 1 (.iload_n 2) 1 2 := ⟨by decide +kernel, rfl⟩
theorem eX0_changeRows_2 : DD cX0_changeRows 2 (.iload_n 3) 1 3 := ⟨by decide +kernel, rfl⟩
theorem eX0_changeRows_3 : DD cX0_changeRows 3 (.iload 4) 2 5 := ⟨by decide +kernel, rfl⟩
theorem eX0_changeRows_5 : DD cX0_changeRows 5 (.invokevirtual 62) 3 8 := ⟨by decide +kernel, rfl⟩
theorem eX0_changeRows_8 : DD cX0_changeRows 8 (.iconst 0) 1 9 := ⟨by decide +kernel, rfl⟩
theorem eX0_changeRows_9 : DD cX0_changeRows 9 (.istore 6) 2 11 := ⟨by decide +kernel, rfl⟩
theorem eX0_changeRows_11 : DD cX0_changeRows 11 (.iload 6) 2 13 := ⟨by decide +kernel, rfl⟩
theorem eX0_changeRows_13 : DD cX0_changeRows 13 (.iconst 2) 1 14 := ⟨by decide +kernel, rfl⟩
theorem eX0_changeRows_14 : DB cX0_changeRows 14 (.if_icmp .ge 68) (68) 17 82 := ⟨by decide +kernel, rfl, by decide⟩
theorem eX0_changeRows_17 : DD cX0_changeRows 17 (.aload_n 1) 1 18 := ⟨by decide +kernel, rfl⟩
theorem eX0_changeRows_18 : DD cX0_changeRows 18 (.getfield 66) 3 21 := ⟨by decide +kernel, rfl⟩
theorem eX0_changeRows_21 : DD cX0_changeRows 21 (.iload 6) 2 23 := ⟨by decide +kernel, rfl⟩
theorem eX0_changeRows_23 : DD cX0_changeRows 23 (.aaload) 1 24 := ⟨by decide +kernel, rfl⟩
theorem eX0_changeRows_24 : DD cX0_changeRows 24 (.astore 7) 2 26 := ⟨by decide +kernel, rfl⟩
theorem eX0_changeRows_26 : DD cX0_changeRows 26 (.iload 6) 2 28 := ⟨by decide +kernel, rfl⟩
theorem eX0_changeRows_28 : DB cX0_changeRows 28 (.ifCond .ne 7) (7) 31 35 := ⟨by decide +kernel, rfl, by decide⟩
theorem eX0_changeRows_31 : DD cX0_changeRows 31 (.iload_n 2) 1 32 := ⟨by decide +kernel, rfl⟩
theorem eX0_changeRows_32 : DB cX0_changeRows 32 (.goto 4) (4) 35 36 := ⟨by decide +kernel, rfl, by decide⟩
theorem eX0_changeRows_35 : DD cX0_changeRows 35 (.iload_n 3) 1 36 := ⟨by decide +kernel, rfl⟩
theorem eX0_changeRows_36 : DD cX0_changeRows 36 (.istore 8) 2 38 := ⟨by decide +kernel, rfl⟩
theorem eX0_changeRows_38 : DD cX0_changeRows 38 (.iload 8) 2 40 := ⟨by decide +kernel, rfl⟩
theorem eX0_changeRows_40 : DD cX0_changeRows 40 (.iconst (-1)) 1 41 := ⟨by decide +kernel, rfl⟩
theorem eX0_changeRows_41 : DB cX0_changeRows 41 (.if_icmp .eq 35) (35) 44 76 := ⟨by decide +kernel, rfl, by decide⟩
theorem eX0_changeRows_44 : DD cX0_changeRows 44 (.aload 7) 2 46 := ⟨by decide +kernel, rfl⟩
theorem eX0_changeRows_46 : DD cX0_changeRows 46 (.iload 8) 2 48 := ⟨by decide +kernel, rfl⟩
theorem eX0_changeRows_48 : DD cX0_changeRows 48 (.iload 4) 2 50 := ⟨by decide +kernel, rfl⟩
theorem eX0_changeRows_50 : DD cX0_changeRows 50 (.invokevirtual 83) 3 53 := ⟨by decide +kernel, rfl⟩
theorem eX0_changeRows_53 : DD cX0_changeRows 53 (.aload 7) 2 55 := ⟨by decide +kernel, rfl⟩
theorem eX0_changeRows_55 : DD cX0_changeRows 55 (.invokevirtual 87) 3 58 := ⟨by decide +kernel, rfl⟩
theorem eX0_changeRows_58 : DD cX0_changeRows 58 (.aload_n 0) 1 59 := ⟨by decide +kernel, rfl⟩
theorem eX0_changeRows_59 : DD cX0_changeRows 59 (.getfield 39) 3 62 := ⟨by decide +kernel, rfl⟩
theorem eX0_changeRows_62 : DB cX0_changeRows 62 (.if_icmp .le 14) (14) 65 76 := ⟨by decide +kernel, rfl, by decide⟩
theorem eX0_changeRows_65 : DD cX0_changeRows 65 (.aload 7) 2 67 := ⟨by decide +kernel, rfl⟩
theorem eX0_changeRows_67 : DD cX0_changeRows 67 (.aload 5) 2 69 := ⟨by decide +kernel, rfl⟩
theorem eX0_changeRows_69 : DD cX0_changeRows 69 (.aload_n 0) 1 70 := ⟨by decide +kernel, rfl⟩
theorem eX0_changeRows_70 : DD cX0_changeRows 70 (.getfield 36) 3 73 := ⟨by decide +kernel, rfl⟩
theorem eX0_changeRows_73 : DD cX0_changeRows 73 (.invokevirtual 70) 3 76 := ⟨by decide +kernel, rfl⟩
theorem eX0_changeRows_76 : DD cX0_changeRows 76 (.iinc 6 1) 3 79 := ⟨by decide +kernel, rfl⟩
theorem eX0_changeRows_79 : DB cX0_changeRows 79 (.goto (-68)) (-68) 82 11 := ⟨by decide +kernel, rfl, by decide⟩
theorem eX0_changeRows_82 : DD cX0_changeRows 82 (.return_) 1 83 := ⟨by decide +kernel, rfl⟩
def F_X0_changeRows_76 (kc_11 : Nat → Nat → Int32 → Int32 → Int32 → Int32 → Mem → Option (Unit × Mem)) (p0 : Nat) (p1 : Nat) (x2 : Int32) (x3 : Int32) (x4 : Int32) (x6 : Int32) (μ : Mem) : Option (Unit × Mem) :=
  lb (x6 + (1 : Int32)) (fun x6_1 => kc_11 p0 p1 x2 x3 x4 x6_1 μ)
set_option maxHeartbeats 4000000 in
theorem j_X0_changeRows_76 {C : Cx} (hC : Ok C cX0_changeRows 9 RX0 (rmF 3 79)) (hr : (cT C).sig.returnType = none) (kc_11 : Nat → Nat → Int32 → Int32 → Int32 → Int32 → Mem → Option (Unit × Mem)) (hk_11 : ∀ (p0 : Nat) (h0 : kd p0 = 0) (p1 : Nat) (h1 : kd p1 = 7) (x2 : Int32) (x3 : Int32) (x4 : Int32) (x6 : Int32) (μ : Mem), J C (KV C) μ 11 [(0, .ref (xad (cX C) p0)), (1, .ref (xad (cX C) p1)), (2, .int x2), (3, .int x3), (4, .int x4), (5, .ref (xad (cX C) 99)), (6, .int x6)] [] (kc_11 p0 p1 x2 x3 x4 x6 μ)) (p0 : Nat) (h0 : kd p0 = 0) (p1 : Nat) (h1 : kd p1 = 7) (x2 : Int32) (x3 : Int32) (x4 : Int32) (x6 : Int32) (μ : Mem) : J C (KV C) μ 76 [(0, .ref (xad (cX C) p0)), (1, .ref (xad (cX C) p1)), (2, .int x2), (3, .int x3), (4, .int x4), (5, .ref (xad (cX C) 99)), (6, .int x6)] [] (F_X0_changeRows_76 kc_11 p0 p1 x2 x3 x4 x6 μ) := by
  unfold F_X0_changeRows_76
  refine J.iinc (j := 6) (fun x6_1 => [(6, .int x6_1), (0, .ref (xad (cX C) p0)), (1, .ref (xad (cX C) p1)), (2, .int x2), (3, .int x3), (4, .int x4), (5, .ref (xad (cX C) 99))]) hC eX0_changeRows_76 rfl ci_1 (by decide) (fun _ => rfl) (fun x6_1 => ?_)
  refine J.goto hC eX0_changeRows_79 ?_
  refine J.sub [1, 2, 3, 4, 5, 6, 0] rfl ?_
  exact hk_11 p0 h0 p1 h1 x2 x3 x4 x6_1 μ
def F_X0_changeRows_36 (kc_11 : Nat → Nat → Int32 → Int32 → Int32 → Int32 → Mem → Option (Unit × Mem)) (p0 : Nat) (p1 : Nat) (x2 : Int32) (x3 : Int32) (x4 : Int32) (x6 : Int32) (p7 : Nat) (xs0 : Int32) (μ : Mem) : Option (Unit × Mem) :=
  if xs0 = (-1 : Int32) then F_X0_changeRows_76 kc_11 p0 p1 x2 x3 x4 x6 μ else bd (G_X4_follow p7 xs0 x4 μ) (fun r_2 μ_1 => bd (G_X4_drift p7 μ_1) (fun r_4 μ_3 => if r_4 ≤ (rI μ_3 p0 4) then F_X0_changeRows_76 kc_11 p0 p1 x2 x3 x4 x6 μ_3 else bd (G_X4_layAnew p7 (rI μ_3 p0 3) μ_3) (fun r_6 μ_5 => F_X0_changeRows_76 kc_11 p0 p1 x2 x3 x4 x6 μ_5)))
set_option maxHeartbeats 4000000 in
theorem j_X0_changeRows_36 {C : Cx} (hC : Ok C cX0_changeRows 9 RX0 (rmF 3 79)) (hr : (cT C).sig.returnType = none) (kc_11 : Nat → Nat → Int32 → Int32 → Int32 → Int32 → Mem → Option (Unit × Mem)) (hk_11 : ∀ (p0 : Nat) (h0 : kd p0 = 0) (p1 : Nat) (h1 : kd p1 = 7) (x2 : Int32) (x3 : Int32) (x4 : Int32) (x6 : Int32) (μ : Mem), J C (KV C) μ 11 [(0, .ref (xad (cX C) p0)), (1, .ref (xad (cX C) p1)), (2, .int x2), (3, .int x3), (4, .int x4), (5, .ref (xad (cX C) 99)), (6, .int x6)] [] (kc_11 p0 p1 x2 x3 x4 x6 μ)) (p0 : Nat) (h0 : kd p0 = 0) (p1 : Nat) (h1 : kd p1 = 7) (x2 : Int32) (x3 : Int32) (x4 : Int32) (x6 : Int32) (p7 : Nat) (h7 : kd p7 = 4) (xs0 : Int32) (μ : Mem) : J C (KV C) μ 36 [(0, .ref (xad (cX C) p0)), (1, .ref (xad (cX C) p1)), (2, .int x2), (3, .int x3), (4, .int x4), (5, .ref (xad (cX C) 99)), (6, .int x6), (7, .ref (xad (cX C) p7))] [.int xs0] (F_X0_changeRows_36 kc_11 p0 p1 x2 x3 x4 x6 p7 xs0 μ) := by
  unfold F_X0_changeRows_36
  refine J.istore [(8, .int xs0), (0, .ref (xad (cX C) p0)), (1, .ref (xad (cX C) p1)), (2, .int x2), (3, .int x3), (4, .int x4), (5, .ref (xad (cX C) 99)), (6, .int x6), (7, .ref (xad (cX C) p7))] hC eX0_changeRows_36 (by decide) rfl ?_
  refine J.iload (j := 0) hC eX0_changeRows_38 rfl ?_
  refine J.iconst hC eX0_changeRows_40 ci_m1 ?_
  refine J.icmp_eq hC eX0_changeRows_41 (fun _ => ?_) (fun _ => ?_)
  · refine J.sub [1, 2, 3, 4, 5, 6, 7] rfl ?_
    exact j_X0_changeRows_76 hC hr kc_11 hk_11 p0 h0 p1 h1 x2 x3 x4 x6 μ
  · refine J.aload (j := 8) hC eX0_changeRows_44 rfl ?_
    refine J.iload (j := 0) hC eX0_changeRows_46 rfl ?_
    refine J.iload (j := 5) hC eX0_changeRows_48 rfl ?_
    refine J.callVV (st := []) hC eX0_changeRows_50 h7 (by decide) rfl rfl ml_X0_83 mv_X4_follow (Rle_of (Nat.le_of_ble_eq_true rfl) (Nat.le_of_ble_eq_true rfl)) (c_X4_follow hC.X p7 h7 xs0 x4 μ) rfl rfl (Nat.le_of_ble_eq_true rfl) (fun r_2 μ_1 => ?_)
    refine J.aload (j := 8) hC eX0_changeRows_53 rfl ?_
    refine J.callVI (st := []) hC eX0_changeRows_55 h7 (by decide) rfl rfl ml_X0_87 mv_X4_drift (Rle_of (Nat.le_of_ble_eq_true rfl) (Nat.le_of_ble_eq_true rfl)) (c_X4_drift hC.X p7 h7 μ_1) rfl rfl (Nat.le_of_ble_eq_true rfl) (fun r_4 μ_3 => ?_)
    refine J.aload_n (j := 1) hC eX0_changeRows_58 rfl ?_
    refine gf_X0_39 hC eX0_changeRows_59 h0 ?_
    refine J.icmp_le hC eX0_changeRows_62 (fun _ => ?_) (fun _ => ?_)
    · refine J.sub [1, 2, 3, 4, 5, 6, 7] rfl ?_
      exact j_X0_changeRows_76 hC hr kc_11 hk_11 p0 h0 p1 h1 x2 x3 x4 x6 μ_3
    · refine J.aload (j := 8) hC eX0_changeRows_65 rfl ?_
      refine J.aload (j := 6) hC eX0_changeRows_67 rfl ?_
      refine J.aload_n (j := 1) hC eX0_changeRows_69 rfl ?_
      refine gf_X0_36 hC eX0_changeRows_70 h0 ?_
      refine J.callVV (st := []) hC eX0_changeRows_73 h7 (by decide) rfl rfl ml_X0_70 mv_X4_layAnew (Rle_of (Nat.le_of_ble_eq_true rfl) (Nat.le_of_ble_eq_true rfl)) (c_X4_layAnew hC.X p7 h7 (rI μ_3 p0 3) μ_3) rfl rfl (Nat.le_of_ble_eq_true rfl) (fun r_6 μ_5 => ?_)
      refine J.sub [1, 2, 3, 4, 5, 6, 7] rfl ?_
      exact j_X0_changeRows_76 hC hr kc_11 hk_11 p0 h0 p1 h1 x2 x3 x4 x6 μ_5
def L_X0_changeRows_11 : Nat → Nat → Nat → Int32 → Int32 → Int32 → Int32 → Mem → Option (Unit × Mem)
  | 0, _, _, _, _, _, _, _ => none
  | n + 1, p0, p1, x2, x3, x4, x6, μ => if (2 : Int32) ≤ x6 then some ((), μ) else gq (inB x6 2) (if x6 = 0 then F_X0_changeRows_36 (L_X0_changeRows_11  n) p0 p1 x2 x3 x4 x6 (lnP (p1 + 2) x6) x2 μ else F_X0_changeRows_36 (L_X0_changeRows_11  n) p0 p1 x2 x3 x4 x6 (lnP (p1 + 2) x6) x3 μ)
set_option maxHeartbeats 4000000 in
theorem j_X0_changeRows_11 {C : Cx} (hC : Ok C cX0_changeRows 9 RX0 (rmF 3 79)) (hr : (cT C).sig.returnType = none) : ∀ (n : Nat) (p0 : Nat) (h0 : kd p0 = 0) (p1 : Nat) (h1 : kd p1 = 7) (x2 : Int32) (x3 : Int32) (x4 : Int32) (x6 : Int32) (μ : Mem), J C (KV C) μ 11 [(0, .ref (xad (cX C) p0)), (1, .ref (xad (cX C) p1)), (2, .int x2), (3, .int x3), (4, .int x4), (5, .ref (xad (cX C) 99)), (6, .int x6)] [] (L_X0_changeRows_11  n p0 p1 x2 x3 x4 x6 μ) := by
  intro n
  induction n with
  | zero => intros; exact J.no
  | succ n ih =>
    intro p0 h0 p1 h1 x2 x3 x4 x6 μ
    rw [L_X0_changeRows_11]
    refine J.iload (j := 6) hC eX0_changeRows_11 rfl ?_
    refine J.iconst hC eX0_changeRows_13 ci_2 ?_
    refine J.icmp_ge hC eX0_changeRows_14 (fun _ => ?_) (fun _ => ?_)
    · exact J.vret hC hr eX0_changeRows_82
    · refine J.aload_n (j := 1) hC eX0_changeRows_17 rfl ?_
      refine gf_X0_66 (q := p1 + 2) hC eX0_changeRows_18 h1 rfl ?_
      refine J.iload (j := 6) hC eX0_changeRows_21 rfl ?_
      refine J.aaldL hC eX0_changeRows_23 (kf_X7_lanes h1) (fun hq_1 => ?_)
      refine J.astore [(7, .ref (xad (cX C) (lnP (p1 + 2) x6))), (0, .ref (xad (cX C) p0)), (1, .ref (xad (cX C) p1)), (2, .int x2), (3, .int x3), (4, .int x4), (5, .ref (xad (cX C) 99)), (6, .int x6)] hC eX0_changeRows_24 (by decide) rfl ?_
      refine J.iload (j := 7) hC eX0_changeRows_26 rfl ?_
      refine J.if_ne hC eX0_changeRows_28 (fun _ => ?_) (fun _ => ?_)
      · refine J.iload_n (j := 3) hC eX0_changeRows_31 rfl ?_
        refine J.goto hC eX0_changeRows_32 ?_
        refine J.sub [1, 2, 3, 4, 5, 6, 7, 0] rfl ?_
        exact j_X0_changeRows_36 hC hr (L_X0_changeRows_11  n) ih p0 h0 p1 h1 x2 x3 x4 x6 (lnP (p1 + 2) x6) hq_1 x2 μ
      · refine J.iload_n (j := 4) hC eX0_changeRows_35 rfl ?_
        refine J.sub [1, 2, 3, 4, 5, 6, 7, 0] rfl ?_
        exact j_X0_changeRows_36 hC hr (L_X0_changeRows_11  n) ih p0 h0 p1 h1 x2 x3 x4 x6 (lnP (p1 + 2) x6) hq_1 x3 μ
def G_X0_changeRows (p0 : Nat) (p1 : Nat) (x2 : Int32) (x3 : Int32) (x4 : Int32) (μ : Mem) : Option (Unit × Mem) :=
  bd (G_X7_changeRows p1 x2 x3 x4 μ) (fun r_2 μ_1 => L_X0_changeRows_11  100000 p0 p1 x2 x3 x4 (0 : Int32) μ_1)
set_option maxHeartbeats 4000000 in
theorem c_X0_changeRows {X : Wd} (hX : WdOk X) (p0 : Nat) (h0 : kd p0 = 0) (p1 : Nat) (h1 : kd p1 = 7) (x2 : Int32) (x3 : Int32) (x4 : Int32) (μ : Mem) : CtV X yX0_changeRows cX0_changeRows 9 none (rmF 3 79) [.ref (xad X p0), .ref (xad X p1), .int x2, .int x3, .int x4, .ref (xad X 99)] μ (G_X0_changeRows p0 p1 x2 x3 x4 μ) := by
  refine CtV.of hX (plainFor_of_name (by decide)) (by exact Nat.le_of_ble_eq_true rfl) ?_
  intro C hCX hC hr
  subst hCX
  show J C (KV C) μ 0 [(0, .ref (xad (cX C) p0)), (1, .ref (xad (cX C) p1)), (2, .int x2), (3, .int x3), (4, .int x4), (5, .ref (xad (cX C) 99))] [] _
  unfold G_X0_changeRows
  refine J.aload_n (j := 1) hC eX0_changeRows_0 rfl ?_
  refine J.iload_n (j := 2) hC eX0_changeRows_1 rfl ?_
  refine J.iload_n (j := 3) hC eX0_changeRows_2 rfl ?_
  refine J.iload (j := 4) hC eX0_changeRows_3 rfl ?_
  refine J.callVV (st := []) hC eX0_changeRows_5 h1 (by decide) rfl rfl ml_X0_62 mv_X7_changeRows (Rle_of (Nat.le_of_ble_eq_true rfl) (Nat.le_of_ble_eq_true rfl)) (c_X7_changeRows hC.X p1 h1 x2 x3 x4 μ) rfl rfl (Nat.le_of_ble_eq_true rfl) (fun r_2 μ_1 => ?_)
  refine J.iconst hC eX0_changeRows_8 ci_0 ?_
  refine J.istore [(6, .int (0 : Int32)), (0, .ref (xad (cX C) p0)), (1, .ref (xad (cX C) p1)), (2, .int x2), (3, .int x3), (4, .int x4), (5, .ref (xad (cX C) 99))] hC eX0_changeRows_9 (by decide) rfl ?_
  refine J.sub [1, 2, 3, 4, 5, 6, 0] rfl ?_
  exact j_X0_changeRows_11 hC hr  100000 p0 h0 p1 h1 x2 x3 x4 (0 : Int32) μ_1
-- X0_allRows
theorem eX0_allRows_0 : DD cX0_allRows 0 (.iconst 0) 1 1 := ⟨by decide +kernel, rfl⟩
theorem eX0_allRows_1 : DD cX0_allRows 1 (.istore_n 1) 1 2 := ⟨by decide +kernel, rfl⟩
theorem eX0_allRows_2 : DD cX0_allRows 2 (.iconst 0) 1 3 := ⟨by decide +kernel, rfl⟩
theorem eX0_allRows_3 : DD cX0_allRows 3 (.istore_n 2) 1 4 := ⟨by decide +kernel, rfl⟩
theorem eX0_allRows_4 : DD cX0_allRows 4 (.iload_n 2) 1 5 := ⟨by decide +kernel, rfl⟩
theorem eX0_allRows_5 : DD cX0_allRows 5 (.aload_n 0) 1 6 := ⟨by decide +kernel, rfl⟩
theorem eX0_allRows_6 : DD cX0_allRows 6 (.getfield 31) 3 9 := ⟨by decide +kernel, rfl⟩
theorem eX0_allRows_9 : DB cX0_allRows 9 (.if_icmp .ge 21) (21) 12 30 := ⟨by decide +kernel, rfl, by decide⟩
theorem eX0_allRows_12 : DD cX0_allRows 12 (.iload_n 1) 1 13 := ⟨by decide +kernel, rfl⟩
theorem eX0_allRows_13 : DD cX0_allRows 13 (.aload_n 0) 1 14 := ⟨by decide +kernel, rfl⟩
theorem eX0_allRows_14 : DD cX0_allRows 14 (.getfield 12) 3 17 := ⟨by decide +kernel, rfl⟩
theorem eX0_allRows_17 : DD cX0_allRows 17 (.iload_n 2) 1 18 := ⟨by decide +kernel, rfl⟩
theorem eX0_allRows_18 : DD cX0_allRows 18 (.aaload) 1 19 := ⟨by decide +kernel, rfl⟩
theorem eX0_allRows_19 : DD cX0_allRows 19 (.getfield 90) 3 22 := ⟨by decide +kernel, rfl⟩
theorem eX0_allRows_22 : DD cX0_allRows 22 (.iadd) 1 23 := ⟨by decide +kernel, rfl⟩
theorem eX0_allRows_23 : DD cX0_allRows 23 (.istore_n 1) 1 24 := ⟨by decide +kernel, rfl⟩
theorem eX0_allRows_24 : DD cX0_allRows 24 (.iinc 2 1) 3 27 := ⟨by decide +kernel, rfl⟩
theorem eX0_allRows_27 : DB cX0_allRows 27 (.goto (-23)) (-23) 30 4 := ⟨by decide +kernel, rfl, by decide⟩
theorem eX0_allRows_30 : DD cX0_allRows 30 (.iload_n 1) 1 31 := ⟨by decide +kernel, rfl⟩
theorem eX0_allRows_31 : DD cX0_allRows 31 (.ireturn) 1 32 := ⟨by decide +kernel, rfl⟩
def L_X0_allRows_4 : Nat → Nat → Int32 → Int32 → Mem → Option (Int32 × Mem)
  | 0, _, _, _, _ => none
  | n + 1, p0, x1, x2, μ => if (rI μ p0 2) ≤ x2 then some (x1, μ) else gq (inB x2 3) (lb (x1 + (rI μ (shP (p0 + 1) x2) 3)) (fun x1_2 => lb (x2 + (1 : Int32)) (fun x2_3 => L_X0_allRows_4  n p0 x1_2 x2_3 μ)))
set_option maxHeartbeats 4000000 in
theorem j_X0_allRows_4 {C : Cx} (hC : Ok C cX0_allRows 3 RX0 (rmF 0 0)) (hr : (cT C).sig.returnType = (some .int)) : ∀ (n : Nat) (p0 : Nat) (h0 : kd p0 = 0) (x1 : Int32) (x2 : Int32) (μ : Mem), J C (KI C) μ 4 [(0, .ref (xad (cX C) p0)), (1, .int x1), (2, .int x2)] [] (L_X0_allRows_4  n p0 x1 x2 μ) := by
  intro n
  induction n with
  | zero => intros; exact J.no
  | succ n ih =>
    intro p0 h0 x1 x2 μ
    rw [L_X0_allRows_4]
    refine J.iload_n (j := 2) hC eX0_allRows_4 rfl ?_
    refine J.aload_n (j := 0) hC eX0_allRows_5 rfl ?_
    refine gf_X0_31 hC eX0_allRows_6 h0 ?_
    refine J.icmp_ge hC eX0_allRows_9 (fun _ => ?_) (fun _ => ?_)
    · refine J.iload_n (j := 1) hC eX0_allRows_30 rfl ?_
      exact J.iret hC hr eX0_allRows_31
    · refine J.iload_n (j := 1) hC eX0_allRows_12 rfl ?_
      refine J.aload_n (j := 0) hC eX0_allRows_13 rfl ?_
      refine gf_X0_12 (q := p0 + 1) hC eX0_allRows_14 h0 rfl ?_
      refine J.iload_n (j := 2) hC eX0_allRows_17 rfl ?_
      refine J.aaldS hC eX0_allRows_18 (kf_X0_sheets h0) (fun hq_1 => ?_)
      refine gf_X0_90 hC eX0_allRows_19 hq_1 ?_
      refine J.iadd hC eX0_allRows_22 ?_
      refine J.topi (fun x1_2 => ?_)
      refine J.istore_n [(1, .int x1_2), (0, .ref (xad (cX C) p0)), (2, .int x2)] hC eX0_allRows_23 (by decide) rfl ?_
      refine J.iinc (j := 2) (fun x2_3 => [(2, .int x2_3), (1, .int x1_2), (0, .ref (xad (cX C) p0))]) hC eX0_allRows_24 rfl ci_1 (by decide) (fun _ => rfl) (fun x2_3 => ?_)
      refine J.goto hC eX0_allRows_27 ?_
      refine J.sub [2, 1, 0] rfl ?_
      exact ih p0 h0 x1_2 x2_3 μ
def G_X0_allRows (p0 : Nat) (μ : Mem) : Option (Int32 × Mem) :=
  L_X0_allRows_4  100000 p0 (0 : Int32) (0 : Int32) μ
set_option maxHeartbeats 4000000 in
theorem c_X0_allRows {X : Wd} (hX : WdOk X) (p0 : Nat) (h0 : kd p0 = 0) (μ : Mem) : CtI X yX0_allRows cX0_allRows 3 (some .int) (rmF 0 0) [.ref (xad X p0)] μ (G_X0_allRows p0 μ) := by
  refine CtI.of hX (plainFor_of_name (by decide)) (by exact Nat.le_of_ble_eq_true rfl) ?_
  intro C hCX hC hr
  subst hCX
  show J C (KI C) μ 0 [(0, .ref (xad (cX C) p0))] [] _
  unfold G_X0_allRows
  refine J.iconst hC eX0_allRows_0 ci_0 ?_
  refine J.istore_n [(1, .int (0 : Int32)), (0, .ref (xad (cX C) p0))] hC eX0_allRows_1 (by decide) rfl ?_
  refine J.iconst hC eX0_allRows_2 ci_0 ?_
  refine J.istore_n [(2, .int (0 : Int32)), (1, .int (0 : Int32)), (0, .ref (xad (cX C) p0))] hC eX0_allRows_3 (by decide) rfl ?_
  refine J.sub [2, 1, 0] rfl ?_
  exact j_X0_allRows_4 hC hr  100000 p0 h0 (0 : Int32) (0 : Int32) μ
-- X0_tableWithMostRows
theorem eX0_tableWithMostRows_0 : DD cX0_tableWithMostRows 0 (.iconst 0) 1 1 := ⟨by decide +kernel, rfl⟩
theorem eX0_tableWithMostRows_1 : DD cX0_tableWithMostRows 1 (.istore_n 1) 1 2 := ⟨by decide +kernel, rfl⟩
theorem eX0_tableWithMostRows_2 : DD cX0_tableWithMostRows 2 (.iconst 1) 1 3 := ⟨by decide +kernel, rfl⟩
theorem eX0_tableWithMostRows_3 : DD cX0_tableWithMostRows 3 (.istore_n 2) 1 4 := ⟨by decide +kernel, rfl⟩
theorem eX0_tableWithMostRows_4 : DD cX0_tableWithMostRows 4 (.iload_n 2) 1 5 := ⟨by decide +kernel, rfl⟩
theorem eX0_tableWithMostRows_5 : DD cX0_tableWithMostRows 5 (.aload_n 0) 1 6 := ⟨by decide +kernel, rfl⟩
theorem eX0_tableWithMostRows_6 : DD cX0_tableWithMostRows 6 (.getfield 31) 3 9 := ⟨by decide +kernel, rfl⟩
theorem eX0_tableWithMostRows_9 : DB cX0_tableWithMostRows 9 (.if_icmp .ge 32) (32) 12 41 := ⟨by decide +kernel, rfl, by decide⟩
theorem eX0_tableWithMostRows_12 : DD cX0_tableWithMostRows 12 (.aload_n 0) 1 13 := ⟨by decide +kernel, rfl⟩
theorem eX0_tableWithMostRows_13 : DD cX0_tableWithMostRows 13 (.getfield 12) 3 16 := ⟨by decide +kernel, rfl⟩
theorem eX0_tableWithMostRows_16 : DD cX0_tableWithMostRows 16 (.iload_n 2) 1 17 := ⟨by decide +kernel, rfl⟩
theorem eX0_tableWithMostRows_17 : DD cX0_tableWithMostRows 17 (.aaload) 1 18 := ⟨by decide +kernel, rfl⟩
theorem eX0_tableWithMostRows_18 : DD cX0_tableWithMostRows 18 (.getfield 90) 3 21 := ⟨by decide +kernel, rfl⟩
theorem eX0_tableWithMostRows_21 : DD cX0_tableWithMostRows 21 (.aload_n 0) 1 22 := ⟨by decide +kernel, rfl⟩
theorem eX0_tableWithMostRows_22 : DD cX0_tableWithMostRows 22 (.getfield 12) 3 25 := ⟨by decide +kernel, rfl⟩
theorem eX0_tableWithMostRows_25 : DD cX0_tableWithMostRows 25 (.iload_n 1) 1 26 := ⟨by decide +kernel, rfl⟩
theorem eX0_tableWithMostRows_26 : DD cX0_tableWithMostRows 26 (.aaload) 1 27 := ⟨by decide +kernel, rfl⟩
theorem eX0_tableWithMostRows_27 : DD cX0_tableWithMostRows 27 (.getfield 90) 3 30 := ⟨by decide +kernel, rfl⟩
theorem eX0_tableWithMostRows_30 : DB cX0_tableWithMostRows 30 (.if_icmp .le 5) (5) 33 35 := ⟨by decide +kernel, rfl, by decide⟩
theorem eX0_tableWithMostRows_33 : DD cX0_tableWithMostRows 33 (.iload_n 2) 1 34 := ⟨by decide +kernel, rfl⟩
theorem eX0_tableWithMostRows_34 : DD cX0_tableWithMostRows 34 (.istore_n 1) 1 35 := ⟨by decide +kernel, rfl⟩
theorem eX0_tableWithMostRows_35 : DD cX0_tableWithMostRows 35 (.iinc 2 1) 3 38 := ⟨by decide +kernel, rfl⟩
theorem eX0_tableWithMostRows_38 : DB cX0_tableWithMostRows 38 (.goto (-34)) (-34) 41 4 := ⟨by decide +kernel, rfl, by decide⟩
theorem eX0_tableWithMostRows_41 : DD cX0_tableWithMostRows 41 (.iload_n 1) 1 42 := ⟨by decide +kernel, rfl⟩
theorem eX0_tableWithMostRows_42 : DD cX0_tableWithMostRows 42 (.ireturn) 1 43 := ⟨by decide +kernel, rfl⟩
def F_X0_tableWithMostRows_35 (kc_4 : Nat → Int32 → Int32 → Mem → Option (Int32 × Mem)) (p0 : Nat) (x1 : Int32) (x2 : Int32) (μ : Mem) : Option (Int32 × Mem) :=
  lb (x2 + (1 : Int32)) (fun x2_1 => kc_4 p0 x1 x2_1 μ)
set_option maxHeartbeats 4000000 in
theorem j_X0_tableWithMostRows_35 {C : Cx} (hC : Ok C cX0_tableWithMostRows 3 RX0 (rmF 0 0)) (hr : (cT C).sig.returnType = (some .int)) (kc_4 : Nat → Int32 → Int32 → Mem → Option (Int32 × Mem)) (hk_4 : ∀ (p0 : Nat) (h0 : kd p0 = 0) (x1 : Int32) (x2 : Int32) (μ : Mem), J C (KI C) μ 4 [(0, .ref (xad (cX C) p0)), (1, .int x1), (2, .int x2)] [] (kc_4 p0 x1 x2 μ)) (p0 : Nat) (h0 : kd p0 = 0) (x1 : Int32) (x2 : Int32) (μ : Mem) : J C (KI C) μ 35 [(0, .ref (xad (cX C) p0)), (1, .int x1), (2, .int x2)] [] (F_X0_tableWithMostRows_35 kc_4 p0 x1 x2 μ) := by
  unfold F_X0_tableWithMostRows_35
  refine J.iinc (j := 2) (fun x2_1 => [(2, .int x2_1), (0, .ref (xad (cX C) p0)), (1, .int x1)]) hC eX0_tableWithMostRows_35 rfl ci_1 (by decide) (fun _ => rfl) (fun x2_1 => ?_)
  refine J.goto hC eX0_tableWithMostRows_38 ?_
  refine J.sub [1, 2, 0] rfl ?_
  exact hk_4 p0 h0 x1 x2_1 μ
def L_X0_tableWithMostRows_4 : Nat → Nat → Int32 → Int32 → Mem → Option (Int32 × Mem)
  | 0, _, _, _, _ => none
  | n + 1, p0, x1, x2, μ => if (rI μ p0 2) ≤ x2 then some (x1, μ) else gq (inB x2 3) (gq (inB x1 3) (if (rI μ (shP (p0 + 1) x2) 3) ≤ (rI μ (shP (p0 + 1) x1) 3) then F_X0_tableWithMostRows_35 (L_X0_tableWithMostRows_4  n) p0 x1 x2 μ else F_X0_tableWithMostRows_35 (L_X0_tableWithMostRows_4  n) p0 x2 x2 μ))
set_option maxHeartbeats 4000000 in
theorem j_X0_tableWithMostRows_4 {C : Cx} (hC : Ok C cX0_tableWithMostRows 3 RX0 (rmF 0 0)) (hr : (cT C).sig.returnType = (some .int)) : ∀ (n : Nat) (p0 : Nat) (h0 : kd p0 = 0) (x1 : Int32) (x2 : Int32) (μ : Mem), J C (KI C) μ 4 [(0, .ref (xad (cX C) p0)), (1, .int x1), (2, .int x2)] [] (L_X0_tableWithMostRows_4  n p0 x1 x2 μ) := by
  intro n
  induction n with
  | zero => intros; exact J.no
  | succ n ih =>
    intro p0 h0 x1 x2 μ
    rw [L_X0_tableWithMostRows_4]
    refine J.iload_n (j := 2) hC eX0_tableWithMostRows_4 rfl ?_
    refine J.aload_n (j := 0) hC eX0_tableWithMostRows_5 rfl ?_
    refine gf_X0_31 hC eX0_tableWithMostRows_6 h0 ?_
    refine J.icmp_ge hC eX0_tableWithMostRows_9 (fun _ => ?_) (fun _ => ?_)
    · refine J.iload_n (j := 1) hC eX0_tableWithMostRows_41 rfl ?_
      exact J.iret hC hr eX0_tableWithMostRows_42
    · refine J.aload_n (j := 0) hC eX0_tableWithMostRows_12 rfl ?_
      refine gf_X0_12 (q := p0 + 1) hC eX0_tableWithMostRows_13 h0 rfl ?_
      refine J.iload_n (j := 2) hC eX0_tableWithMostRows_16 rfl ?_
      refine J.aaldS hC eX0_tableWithMostRows_17 (kf_X0_sheets h0) (fun hq_1 => ?_)
      refine gf_X0_90 hC eX0_tableWithMostRows_18 hq_1 ?_
      refine J.aload_n (j := 0) hC eX0_tableWithMostRows_21 rfl ?_
      refine gf_X0_12 (q := p0 + 1) hC eX0_tableWithMostRows_22 h0 rfl ?_
      refine J.iload_n (j := 1) hC eX0_tableWithMostRows_25 rfl ?_
      refine J.aaldS hC eX0_tableWithMostRows_26 (kf_X0_sheets h0) (fun hq_2 => ?_)
      refine gf_X0_90 hC eX0_tableWithMostRows_27 hq_2 ?_
      refine J.icmp_le hC eX0_tableWithMostRows_30 (fun _ => ?_) (fun _ => ?_)
      · refine J.sub [0, 1, 2] rfl ?_
        exact j_X0_tableWithMostRows_35 hC hr (L_X0_tableWithMostRows_4  n) ih p0 h0 x1 x2 μ
      · refine J.iload_n (j := 2) hC eX0_tableWithMostRows_33 rfl ?_
        refine J.istore_n [(1, .int x2), (0, .ref (xad (cX C) p0)), (2, .int x2)] hC eX0_tableWithMostRows_34 (by decide) rfl ?_
        refine J.sub [1, 0, 2] rfl ?_
        exact j_X0_tableWithMostRows_35 hC hr (L_X0_tableWithMostRows_4  n) ih p0 h0 x2 x2 μ
def G_X0_tableWithMostRows (p0 : Nat) (μ : Mem) : Option (Int32 × Mem) :=
  L_X0_tableWithMostRows_4  100000 p0 (0 : Int32) (1 : Int32) μ
set_option maxHeartbeats 4000000 in
theorem c_X0_tableWithMostRows {X : Wd} (hX : WdOk X) (p0 : Nat) (h0 : kd p0 = 0) (μ : Mem) : CtI X yX0_tableWithMostRows cX0_tableWithMostRows 3 (some .int) (rmF 0 0) [.ref (xad X p0)] μ (G_X0_tableWithMostRows p0 μ) := by
  refine CtI.of hX (plainFor_of_name (by decide)) (by exact Nat.le_of_ble_eq_true rfl) ?_
  intro C hCX hC hr
  subst hCX
  show J C (KI C) μ 0 [(0, .ref (xad (cX C) p0))] [] _
  unfold G_X0_tableWithMostRows
  refine J.iconst hC eX0_tableWithMostRows_0 ci_0 ?_
  refine J.istore_n [(1, .int (0 : Int32)), (0, .ref (xad (cX C) p0))] hC eX0_tableWithMostRows_1 (by decide) rfl ?_
  refine J.iconst hC eX0_tableWithMostRows_2 ci_1 ?_
  refine J.istore_n [(2, .int (1 : Int32)), (1, .int (0 : Int32)), (0, .ref (xad (cX C) p0))] hC eX0_tableWithMostRows_3 (by decide) rfl ?_
  refine J.sub [2, 1, 0] rfl ?_
  exact j_X0_tableWithMostRows_4 hC hr  100000 p0 h0 (0 : Int32) (1 : Int32) μ
-- X0_columnDriftedMost
theorem eX0_columnDriftedMost_0 : DD cX0_columnDriftedMost 0 (.iconst 0) 1 1 := ⟨by decide +kernel, rfl⟩
theorem eX0_columnDriftedMost_1 : DD cX0_columnDriftedMost 1 (.istore_n 1) 1 2 := ⟨by decide +kernel, rfl⟩
theorem eX0_columnDriftedMost_2 : DD cX0_columnDriftedMost 2 (.iconst (-1)) 1 3 := ⟨by decide +kernel, rfl⟩
theorem eX0_columnDriftedMost_3 : DD cX0_columnDriftedMost 3 (.istore_n 2) 1 4 := ⟨by decide +kernel, rfl⟩
theorem eX0_columnDriftedMost_4 : DD cX0_columnDriftedMost 4 (.iconst 0) 1 5 := ⟨by decide +kernel, rfl⟩
theorem eX0_columnDriftedMost_5 : DD cX0_columnDriftedMost 5 (.istore_n 3) 1 6 := ⟨by decide +kernel, rfl⟩
theorem eX0_columnDriftedMost_6 : DD cX0_columnDriftedMost 6 (.iload_n 3) 1 7 := ⟨by decide +kernel, rfl⟩
theorem eX0_columnDriftedMost_7 : DD cX0_columnDriftedMost 7 (.aload_n 0) 1 8 := ⟨by decide +kernel, rfl⟩
theorem eX0_columnDriftedMost_8 : DD cX0_columnDriftedMost 8 (.getfield 31) 3 11 := ⟨by decide +kernel, rfl⟩
theorem eX0_columnDriftedMost_11 : DB cX0_columnDriftedMost 11 (.if_icmp .ge 58) (58) 14 69 := ⟨by decide +kernel, rfl, by decide⟩
theorem eX0_columnDriftedMost_14 : DD cX0_columnDriftedMost 14 (.iconst 0) 1 15 := ⟨by decide +kernel, rfl⟩
theorem eX0_columnDriftedMost_15 : DD cX0_columnDriftedMost 15 (.istore 4) 2 17 := ⟨by decide +kernel, rfl⟩
theorem eX0_columnDriftedMost_17 : DD cX0_columnDriftedMost 17 (.iload 4) 2 19 := ⟨by decide +kernel, rfl⟩
theorem eX0_columnDriftedMost_19 : DD cX0_columnDriftedMost 19 (.iconst 2) 1 20 := ⟨by decide +kernel, rfl⟩
theorem eX0_columnDriftedMost_20 : DB cX0_columnDriftedMost 20 (.if_icmp .ge 43) (43) 23 63 := ⟨by decide +kernel, rfl, by decide⟩
theorem eX0_columnDriftedMost_23 : DD cX0_columnDriftedMost 23 (.aload_n 0) 1 24 := ⟨by decide +kernel, rfl⟩
theorem eX0_columnDriftedMost_24 : DD cX0_columnDriftedMost 24 (.getfield 12) 3 27 := ⟨by decide +kernel, rfl⟩
theorem eX0_columnDriftedMost_27 : DD cX0_columnDriftedMost 27 (.iload_n 3) 1 28 := ⟨by decide +kernel, rfl⟩
theorem eX0_columnDriftedMost_28 : DD cX0_columnDriftedMost 28 (.aaload) 1 29 := ⟨by decide +kernel, rfl⟩
theorem eX0_columnDriftedMost_29 : DD cX0_columnDriftedMost 29 (.getfield 66) 3 32 := ⟨by decide +kernel, rfl⟩
theorem eX0_columnDriftedMost_32 : DD cX0_columnDriftedMost 32 (.iload 4) 2 34 := ⟨by decide +kernel, rfl⟩
theorem eX0_columnDriftedMost_34 : DD cX0_columnDriftedMost 34 (.aaload) 1 35 := ⟨by decide +kernel, rfl⟩
theorem eX0_columnDriftedMost_35 : DD cX0_columnDriftedMost 35 (.invokevirtual 87) 3 38 := ⟨by decide +kernel, rfl⟩
theorem eX0_columnDriftedMost_38 : DD cX0_columnDriftedMost 38 (.istore 5) 2 40 := ⟨by decide +kernel, rfl⟩
theorem eX0_columnDriftedMost_40 : DD cX0_columnDriftedMost 40 (.iload 5) 2 42 := ⟨by decide +kernel, rfl⟩
theorem eX0_columnDriftedMost_42 : DD cX0_columnDriftedMost 42 (.iload_n 2) 1 43 := ⟨by decide +kernel, rfl⟩
theorem eX0_columnDriftedMost_43 : DB cX0_columnDriftedMost 43 (.if_icmp .le 14) (14) 46 57 := ⟨by decide +kernel, rfl, by decide⟩
theorem eX0_columnDriftedMost_46 : DD cX0_columnDriftedMost 46 (.iload 5) 2 48 := ⟨by decide +kernel, rfl⟩
theorem eX0_columnDriftedMost_48 : DD cX0_columnDriftedMost 48 (.istore_n 2) 1 49 := ⟨by decide +kernel, rfl⟩
theorem eX0_columnDriftedMost_49 : DD cX0_columnDriftedMost 49 (.bipush 10) 2 51 := ⟨by decide +kernel, rfl⟩
theorem eX0_columnDriftedMost_51 : DD cX0_columnDriftedMost 51 (.iload_n 3) 1 52 := ⟨by decide +kernel, rfl⟩
theorem eX0_columnDriftedMost_52 : DD cX0_columnDriftedMost 52 (.imul) 1 53 := ⟨by decide +kernel, rfl⟩
theorem eX0_columnDriftedMost_53 : DD cX0_columnDriftedMost 53 (.iload 4) 2 55 := ⟨by decide +kernel, rfl⟩
theorem eX0_columnDriftedMost_55 : DD cX0_columnDriftedMost 55 (.iadd) 1 56 := ⟨by decide +kernel, rfl⟩
theorem eX0_columnDriftedMost_56 : DD cX0_columnDriftedMost 56 (.istore_n 1) 1 57 := ⟨by decide +kernel, rfl⟩
theorem eX0_columnDriftedMost_57 : DD cX0_columnDriftedMost 57 (.iinc 4 1) 3 60 := ⟨by decide +kernel, rfl⟩
theorem eX0_columnDriftedMost_60 : DB cX0_columnDriftedMost 60 (.goto (-43)) (-43) 63 17 := ⟨by decide +kernel, rfl, by decide⟩
theorem eX0_columnDriftedMost_63 : DD cX0_columnDriftedMost 63 (.iinc 3 1) 3 66 := ⟨by decide +kernel, rfl⟩
theorem eX0_columnDriftedMost_66 : DB cX0_columnDriftedMost 66 (.goto (-60)) (-60) 69 6 := ⟨by decide +kernel, rfl, by decide⟩
theorem eX0_columnDriftedMost_69 : DD cX0_columnDriftedMost 69 (.iload_n 1) 1 70 := ⟨by decide +kernel, rfl⟩
theorem eX0_columnDriftedMost_70 : DD cX0_columnDriftedMost 70 (.ireturn) 1 71 := ⟨by decide +kernel, rfl⟩
def F_X0_columnDriftedMost_57 (kc_6 : Nat → Int32 → Int32 → Int32 → Mem → Option (Int32 × Mem)) (kc_17 : Nat → Int32 → Int32 → Int32 → Int32 → Mem → Option (Int32 × Mem)) (p0 : Nat) (x1 : Int32) (x2 : Int32) (x3 : Int32) (x4 : Int32) (μ : Mem) : Option (Int32 × Mem) :=
  lb (x4 + (1 : Int32)) (fun x4_1 => kc_17 p0 x1 x2 x3 x4_1 μ)
set_option maxHeartbeats 4000000 in
theorem j_X0_columnDriftedMost_57 {C : Cx} (hC : Ok C cX0_columnDriftedMost 6 RX0 (rmF 1 20)) (hr : (cT C).sig.returnType = (some .int)) (kc_6 : Nat → Int32 → Int32 → Int32 → Mem → Option (Int32 × Mem)) (hk_6 : ∀ (p0 : Nat) (h0 : kd p0 = 0) (x1 : Int32) (x2 : Int32) (x3 : Int32) (μ : Mem), J C (KI C) μ 6 [(0, .ref (xad (cX C) p0)), (1, .int x1), (2, .int x2), (3, .int x3)] [] (kc_6 p0 x1 x2 x3 μ)) (kc_17 : Nat → Int32 → Int32 → Int32 → Int32 → Mem → Option (Int32 × Mem)) (hk_17 : ∀ (p0 : Nat) (h0 : kd p0 = 0) (x1 : Int32) (x2 : Int32) (x3 : Int32) (x4 : Int32) (μ : Mem), J C (KI C) μ 17 [(0, .ref (xad (cX C) p0)), (1, .int x1), (2, .int x2), (3, .int x3), (4, .int x4)] [] (kc_17 p0 x1 x2 x3 x4 μ)) (p0 : Nat) (h0 : kd p0 = 0) (x1 : Int32) (x2 : Int32) (x3 : Int32) (x4 : Int32) (μ : Mem) : J C (KI C) μ 57 [(0, .ref (xad (cX C) p0)), (1, .int x1), (2, .int x2), (3, .int x3), (4, .int x4)] [] (F_X0_columnDriftedMost_57 kc_6 kc_17 p0 x1 x2 x3 x4 μ) := by
  unfold F_X0_columnDriftedMost_57
  refine J.iinc (j := 4) (fun x4_1 => [(4, .int x4_1), (0, .ref (xad (cX C) p0)), (1, .int x1), (2, .int x2), (3, .int x3)]) hC eX0_columnDriftedMost_57 rfl ci_1 (by decide) (fun _ => rfl) (fun x4_1 => ?_)
  refine J.goto hC eX0_columnDriftedMost_60 ?_
  refine J.sub [1, 2, 3, 4, 0] rfl ?_
  exact hk_17 p0 h0 x1 x2 x3 x4_1 μ
def L_X0_columnDriftedMost_17 (kc_6 : Nat → Int32 → Int32 → Int32 → Mem → Option (Int32 × Mem)) : Nat → Nat → Int32 → Int32 → Int32 → Int32 → Mem → Option (Int32 × Mem)
  | 0, _, _, _, _, _, _ => none
  | n + 1, p0, x1, x2, x3, x4, μ => if (2 : Int32) ≤ x4 then lb (x3 + (1 : Int32)) (fun x3_1 => kc_6 p0 x1 x2 x3_1 μ) else gq (inB x3 3) (gq (inB x4 2) (bd (G_X4_drift (lnP ((shP (p0 + 1) x3) + 2) x4) μ) (fun r_5 μ_4 => if r_5 ≤ x2 then F_X0_columnDriftedMost_57 kc_6 (L_X0_columnDriftedMost_17 kc_6 n) p0 x1 x2 x3 x4 μ_4 else lb (((10 : Int32) * x3) + x4) (fun x1_6 => F_X0_columnDriftedMost_57 kc_6 (L_X0_columnDriftedMost_17 kc_6 n) p0 x1_6 r_5 x3 x4 μ_4))))
set_option maxHeartbeats 4000000 in
theorem j_X0_columnDriftedMost_17 {C : Cx} (hC : Ok C cX0_columnDriftedMost 6 RX0 (rmF 1 20)) (hr : (cT C).sig.returnType = (some .int)) (kc_6 : Nat → Int32 → Int32 → Int32 → Mem → Option (Int32 × Mem)) (hk_6 : ∀ (p0 : Nat) (h0 : kd p0 = 0) (x1 : Int32) (x2 : Int32) (x3 : Int32) (μ : Mem), J C (KI C) μ 6 [(0, .ref (xad (cX C) p0)), (1, .int x1), (2, .int x2), (3, .int x3)] [] (kc_6 p0 x1 x2 x3 μ)) : ∀ (n : Nat) (p0 : Nat) (h0 : kd p0 = 0) (x1 : Int32) (x2 : Int32) (x3 : Int32) (x4 : Int32) (μ : Mem), J C (KI C) μ 17 [(0, .ref (xad (cX C) p0)), (1, .int x1), (2, .int x2), (3, .int x3), (4, .int x4)] [] (L_X0_columnDriftedMost_17 kc_6 n p0 x1 x2 x3 x4 μ) := by
  intro n
  induction n with
  | zero => intros; exact J.no
  | succ n ih =>
    intro p0 h0 x1 x2 x3 x4 μ
    rw [L_X0_columnDriftedMost_17]
    refine J.iload (j := 4) hC eX0_columnDriftedMost_17 rfl ?_
    refine J.iconst hC eX0_columnDriftedMost_19 ci_2 ?_
    refine J.icmp_ge hC eX0_columnDriftedMost_20 (fun _ => ?_) (fun _ => ?_)
    · refine J.iinc (j := 3) (fun x3_1 => [(3, .int x3_1), (0, .ref (xad (cX C) p0)), (1, .int x1), (2, .int x2), (4, .int x4)]) hC eX0_columnDriftedMost_63 rfl ci_1 (by decide) (fun _ => rfl) (fun x3_1 => ?_)
      refine J.goto hC eX0_columnDriftedMost_66 ?_
      refine J.sub [1, 2, 3, 0] rfl ?_
      exact hk_6 p0 h0 x1 x2 x3_1 μ
    · refine J.aload_n (j := 0) hC eX0_columnDriftedMost_23 rfl ?_
      refine gf_X0_12 (q := p0 + 1) hC eX0_columnDriftedMost_24 h0 rfl ?_
      refine J.iload_n (j := 3) hC eX0_columnDriftedMost_27 rfl ?_
      refine J.aaldS hC eX0_columnDriftedMost_28 (kf_X0_sheets h0) (fun hq_2 => ?_)
      refine gf_X0_66 (q := (shP (p0 + 1) x3) + 2) hC eX0_columnDriftedMost_29 hq_2 rfl ?_
      refine J.iload (j := 4) hC eX0_columnDriftedMost_32 rfl ?_
      refine J.aaldL hC eX0_columnDriftedMost_34 (kf_X7_lanes hq_2) (fun hq_3 => ?_)
      refine J.callVI (st := []) hC eX0_columnDriftedMost_35 hq_3 (by decide) rfl rfl ml_X0_87 mv_X4_drift (Rle_of (Nat.le_of_ble_eq_true rfl) (Nat.le_of_ble_eq_true rfl)) (c_X4_drift hC.X (lnP ((shP (p0 + 1) x3) + 2) x4) hq_3 μ) rfl rfl (Nat.le_of_ble_eq_true rfl) (fun r_5 μ_4 => ?_)
      refine J.istore [(5, .int r_5), (0, .ref (xad (cX C) p0)), (1, .int x1), (2, .int x2), (3, .int x3), (4, .int x4)] hC eX0_columnDriftedMost_38 (by decide) rfl ?_
      refine J.iload (j := 0) hC eX0_columnDriftedMost_40 rfl ?_
      refine J.iload_n (j := 3) hC eX0_columnDriftedMost_42 rfl ?_
      refine J.icmp_le hC eX0_columnDriftedMost_43 (fun _ => ?_) (fun _ => ?_)
      · refine J.sub [1, 2, 3, 4, 5] rfl ?_
        exact j_X0_columnDriftedMost_57 hC hr kc_6 hk_6 (L_X0_columnDriftedMost_17 kc_6 n) ih p0 h0 x1 x2 x3 x4 μ_4
      · refine J.iload (j := 0) hC eX0_columnDriftedMost_46 rfl ?_
        refine J.istore_n [(2, .int r_5), (5, .int r_5), (0, .ref (xad (cX C) p0)), (1, .int x1), (3, .int x3), (4, .int x4)] hC eX0_columnDriftedMost_48 (by decide) rfl ?_
        refine J.bipush hC eX0_columnDriftedMost_49 cb_10 ?_
        refine J.iload_n (j := 4) hC eX0_columnDriftedMost_51 rfl ?_
        refine J.imul hC eX0_columnDriftedMost_52 ?_
        refine J.iload (j := 5) hC eX0_columnDriftedMost_53 rfl ?_
        refine J.iadd hC eX0_columnDriftedMost_55 ?_
        refine J.topi (fun x1_6 => ?_)
        refine J.istore_n [(1, .int x1_6), (2, .int r_5), (5, .int r_5), (0, .ref (xad (cX C) p0)), (3, .int x3), (4, .int x4)] hC eX0_columnDriftedMost_56 (by decide) rfl ?_
        refine J.sub [3, 0, 1, 4, 5] rfl ?_
        exact j_X0_columnDriftedMost_57 hC hr kc_6 hk_6 (L_X0_columnDriftedMost_17 kc_6 n) ih p0 h0 x1_6 r_5 x3 x4 μ_4
def L_X0_columnDriftedMost_6 : Nat → Nat → Int32 → Int32 → Int32 → Mem → Option (Int32 × Mem)
  | 0, _, _, _, _, _ => none
  | n + 1, p0, x1, x2, x3, μ => if (rI μ p0 2) ≤ x3 then some (x1, μ) else L_X0_columnDriftedMost_17 (L_X0_columnDriftedMost_6  n) 100000 p0 x1 x2 x3 (0 : Int32) μ
set_option maxHeartbeats 4000000 in
theorem j_X0_columnDriftedMost_6 {C : Cx} (hC : Ok C cX0_columnDriftedMost 6 RX0 (rmF 1 20)) (hr : (cT C).sig.returnType = (some .int)) : ∀ (n : Nat) (p0 : Nat) (h0 : kd p0 = 0) (x1 : Int32) (x2 : Int32) (x3 : Int32) (μ : Mem), J C (KI C) μ 6 [(0, .ref (xad (cX C) p0)), (1, .int x1), (2, .int x2), (3, .int x3)] [] (L_X0_columnDriftedMost_6  n p0 x1 x2 x3 μ) := by
  intro n
  induction n with
  | zero => intros; exact J.no
  | succ n ih =>
    intro p0 h0 x1 x2 x3 μ
    rw [L_X0_columnDriftedMost_6]
    refine J.iload_n (j := 3) hC eX0_columnDriftedMost_6 rfl ?_
    refine J.aload_n (j := 0) hC eX0_columnDriftedMost_7 rfl ?_
    refine gf_X0_31 hC eX0_columnDriftedMost_8 h0 ?_
    refine J.icmp_ge hC eX0_columnDriftedMost_11 (fun _ => ?_) (fun _ => ?_)
    · refine J.iload_n (j := 1) hC eX0_columnDriftedMost_69 rfl ?_
      exact J.iret hC hr eX0_columnDriftedMost_70
    · refine J.iconst hC eX0_columnDriftedMost_14 ci_0 ?_
      refine J.istore [(4, .int (0 : Int32)), (0, .ref (xad (cX C) p0)), (1, .int x1), (2, .int x2), (3, .int x3)] hC eX0_columnDriftedMost_15 (by decide) rfl ?_
      refine J.sub [1, 2, 3, 4, 0] rfl ?_
      exact j_X0_columnDriftedMost_17 hC hr (L_X0_columnDriftedMost_6  n) ih 100000 p0 h0 x1 x2 x3 (0 : Int32) μ
def G_X0_columnDriftedMost (p0 : Nat) (μ : Mem) : Option (Int32 × Mem) :=
  L_X0_columnDriftedMost_6  100000 p0 (0 : Int32) (-1 : Int32) (0 : Int32) μ
set_option maxHeartbeats 4000000 in
theorem c_X0_columnDriftedMost {X : Wd} (hX : WdOk X) (p0 : Nat) (h0 : kd p0 = 0) (μ : Mem) : CtI X yX0_columnDriftedMost cX0_columnDriftedMost 6 (some .int) (rmF 1 20) [.ref (xad X p0)] μ (G_X0_columnDriftedMost p0 μ) := by
  refine CtI.of hX (plainFor_of_name (by decide)) (by exact Nat.le_of_ble_eq_true rfl) ?_
  intro C hCX hC hr
  subst hCX
  show J C (KI C) μ 0 [(0, .ref (xad (cX C) p0))] [] _
  unfold G_X0_columnDriftedMost
  refine J.iconst hC eX0_columnDriftedMost_0 ci_0 ?_
  refine J.istore_n [(1, .int (0 : Int32)), (0, .ref (xad (cX C) p0))] hC eX0_columnDriftedMost_1 (by decide) rfl ?_
  refine J.iconst hC eX0_columnDriftedMost_2 ci_m1 ?_
  refine J.istore_n [(2, .int (-1 : Int32)), (1, .int (0 : Int32)), (0, .ref (xad (cX C) p0))] hC eX0_columnDriftedMost_3 (by decide) rfl ?_
  refine J.iconst hC eX0_columnDriftedMost_4 ci_0 ?_
  refine J.istore_n [(3, .int (0 : Int32)), (2, .int (-1 : Int32)), (1, .int (0 : Int32)), (0, .ref (xad (cX C) p0))] hC eX0_columnDriftedMost_5 (by decide) rfl ?_
  refine J.sub [3, 2, 1, 0] rfl ?_
  exact j_X0_columnDriftedMost_6 hC hr  100000 p0 h0 (0 : Int32) (-1 : Int32) (0 : Int32) μ
-- X0_greatestTotal
theorem eX0_greatestTotal_0 : DD cX0_greatestTotal 0 (.iconst 0) 1 1 := ⟨by decide +kernel, rfl⟩
theorem eX0_greatestTotal_1 : DD cX0_greatestTotal 1 (.istore_n 1) 1 2 := ⟨by decide +kernel, rfl⟩
theorem eX0_greatestTotal_2 : DD cX0_greatestTotal 2 (.iconst 0) 1 3 := ⟨by decide +kernel, rfl⟩
theorem eX0_greatestTotal_3 : DD cX0_greatestTotal 3 (.istore_n 2) 1 4 := ⟨by decide +kernel, rfl⟩
theorem eX0_greatestTotal_4 : DD cX0_greatestTotal 4 (.iload_n 2) 1 5 := ⟨by decide +kernel, rfl⟩
theorem eX0_greatestTotal_5 : DD cX0_greatestTotal 5 (.aload_n 0) 1 6 := ⟨by decide +kernel, rfl⟩
theorem eX0_greatestTotal_6 : DD cX0_greatestTotal 6 (.getfield 31) 3 9 := ⟨by decide +kernel, rfl⟩
theorem eX0_greatestTotal_9 : DB cX0_greatestTotal 9 (.if_icmp .ge 66) (66) 12 75 := ⟨by decide +kernel, rfl, by decide⟩
theorem eX0_greatestTotal_12 : DD cX0_greatestTotal 12 (.iconst 0) 1 13 := ⟨by decide +kernel, rfl⟩
theorem eX0_greatestTotal_13 : DD cX0_greatestTotal 13 (.istore_n 3) 1 14 := ⟨by decide +kernel, rfl⟩
theorem eX0_greatestTotal_14 : DD cX0_greatestTotal 14 (.iload_n 3) 1 15 := ⟨by decide +kernel, rfl⟩
theorem eX0_greatestTotal_15 : DD cX0_greatestTotal 15 (.iconst 2) 1 16 := ⟨by decide +kernel, rfl⟩
theorem eX0_greatestTotal_16 : DB cX0_greatestTotal 16 (.if_icmp .ge 53) (53) 19 69 := ⟨by decide +kernel, rfl, by decide⟩
theorem eX0_greatestTotal_19 : DD cX0_greatestTotal 19 (.aload_n 0) 1 20 := ⟨by decide +kernel, rfl⟩
theorem eX0_greatestTotal_20 : DD cX0_greatestTotal 20 (.getfield 12) 3 23 := ⟨by decide +kernel, rfl⟩
theorem eX0_greatestTotal_23 : DD cX0_greatestTotal 23 (.iload_n 2) 1 24 := ⟨by decide +kernel, rfl⟩
theorem eX0_greatestTotal_24 : DD cX0_greatestTotal 24 (.aaload) 1 25 := ⟨by decide +kernel, rfl⟩
theorem eX0_greatestTotal_25 : DD cX0_greatestTotal 25 (.getfield 66) 3 28 := ⟨by decide +kernel, rfl⟩
theorem eX0_greatestTotal_28 : DD cX0_greatestTotal 28 (.iload_n 3) 1 29 := ⟨by decide +kernel, rfl⟩
theorem eX0_greatestTotal_29 : DD cX0_greatestTotal 29 (.aaload) 1 30 := ⟨by decide +kernel, rfl⟩
theorem eX0_greatestTotal_30 : DD cX0_greatestTotal 30 (.astore 4) 2 32 := ⟨by decide +kernel, rfl⟩
theorem eX0_greatestTotal_32 : DD cX0_greatestTotal 32 (.iconst 0) 1 33 := ⟨by decide +kernel, rfl⟩
theorem eX0_greatestTotal_33 : DD cX0_greatestTotal 33 (.istore 5) 2 35 := ⟨by decide +kernel, rfl⟩
theorem eX0_greatestTotal_35 : DD cX0_greatestTotal 35 (.iload 5) 2 37 := ⟨by decide +kernel, rfl⟩
theorem eX0_greatestTotal_37 : DD cX0_greatestTotal 37 (.aload 4) 2 39 := ⟨by decide +kernel, rfl⟩
theorem eX0_greatestTotal_39 : DD cX0_greatestTotal 39 (.invokevirtual 93) 3 42 := ⟨by decide +kernel, rfl⟩
theorem eX0_greatestTotal_42 : DB cX0_greatestTotal 42 (.if_icmp .ge 21) (21) 45 63 := ⟨by decide +kernel, rfl, by decide⟩
theorem eX0_greatestTotal_45 : DD cX0_greatestTotal 45 (.iload_n 1) 1 46 := ⟨by decide +kernel, rfl⟩
theorem eX0_greatestTotal_46 : DD cX0_greatestTotal 46 (.aload 4) 2 48 := ⟨by decide +kernel, rfl⟩
theorem eX0_greatestTotal_48 : DD cX0_greatestTotal 48 (.iload 5) 2 50 := ⟨by decide +kernel, rfl⟩
theorem eX0_greatestTotal_50 : DD cX0_greatestTotal 50 (.invokevirtual 96) 3 53 := ⟨by decide +kernel, rfl⟩
theorem eX0_greatestTotal_53 : DD cX0_greatestTotal 53 (.invokestatic 100) 3 56 := ⟨by decide +kernel, rfl⟩
theorem eX0_greatestTotal_56 : DD cX0_greatestTotal 56 (.istore_n 1) 1 57 := ⟨by decide +kernel, rfl⟩
theorem eX0_greatestTotal_57 : DD cX0_greatestTotal 57 (.iinc 5 1) 3 60 := ⟨by decide +kernel, rfl⟩
theorem eX0_greatestTotal_60 : DB cX0_greatestTotal 60 (.goto (-25)) (-25) 63 35 := ⟨by decide +kernel, rfl, by decide⟩
theorem eX0_greatestTotal_63 : DD cX0_greatestTotal 63 (.iinc 3 1) 3 66 := ⟨by decide +kernel, rfl⟩
theorem eX0_greatestTotal_66 : DB cX0_greatestTotal 66 (.goto (-52)) (-52) 69 14 := ⟨by decide +kernel, rfl, by decide⟩
theorem eX0_greatestTotal_69 : DD cX0_greatestTotal 69 (.iinc 2 1) 3 72 := ⟨by decide +kernel, rfl⟩
theorem eX0_greatestTotal_72 : DB cX0_greatestTotal 72 (.goto (-68)) (-68) 75 4 := ⟨by decide +kernel, rfl, by decide⟩
theorem eX0_greatestTotal_75 : DD cX0_greatestTotal 75 (.iload_n 1) 1 76 := ⟨by decide +kernel, rfl⟩
theorem eX0_greatestTotal_76 : DD cX0_greatestTotal 76 (.ireturn) 1 77 := ⟨by decide +kernel, rfl⟩
def L_X0_greatestTotal_35 (kc_4 : Nat → Int32 → Int32 → Mem → Option (Int32 × Mem)) (kc_14 : Nat → Int32 → Int32 → Int32 → Mem → Option (Int32 × Mem)) : Nat → Nat → Int32 → Int32 → Int32 → Nat → Int32 → Mem → Option (Int32 × Mem)
  | 0, _, _, _, _, _, _, _ => none
  | n + 1, p0, x1, x2, x3, p4, x5, μ => bd (G_X4_size p4 μ) (fun r_2 μ_1 => if r_2 ≤ x5 then lb (x3 + (1 : Int32)) (fun x3_3 => kc_14 p0 x1 x2 x3_3 μ_1) else bd (G_X4_totalOf p4 x5 μ_1) (fun r_5 μ_4 => lb (imax x1 r_5) (fun x1_6 => lb (x5 + (1 : Int32)) (fun x5_7 => L_X0_greatestTotal_35 kc_4 kc_14 n p0 x1_6 x2 x3 p4 x5_7 μ_4))))
set_option maxHeartbeats 4000000 in
theorem j_X0_greatestTotal_35 {C : Cx} (hC : Ok C cX0_greatestTotal 6 RX0 (rmF 1 21)) (hr : (cT C).sig.returnType = (some .int)) (kc_4 : Nat → Int32 → Int32 → Mem → Option (Int32 × Mem)) (hk_4 : ∀ (p0 : Nat) (h0 : kd p0 = 0) (x1 : Int32) (x2 : Int32) (μ : Mem), J C (KI C) μ 4 [(0, .ref (xad (cX C) p0)), (1, .int x1), (2, .int x2)] [] (kc_4 p0 x1 x2 μ)) (kc_14 : Nat → Int32 → Int32 → Int32 → Mem → Option (Int32 × Mem)) (hk_14 : ∀ (p0 : Nat) (h0 : kd p0 = 0) (x1 : Int32) (x2 : Int32) (x3 : Int32) (μ : Mem), J C (KI C) μ 14 [(0, .ref (xad (cX C) p0)), (1, .int x1), (2, .int x2), (3, .int x3)] [] (kc_14 p0 x1 x2 x3 μ)) : ∀ (n : Nat) (p0 : Nat) (h0 : kd p0 = 0) (x1 : Int32) (x2 : Int32) (x3 : Int32) (p4 : Nat) (h4 : kd p4 = 4) (x5 : Int32) (μ : Mem), J C (KI C) μ 35 [(0, .ref (xad (cX C) p0)), (1, .int x1), (2, .int x2), (3, .int x3), (4, .ref (xad (cX C) p4)), (5, .int x5)] [] (L_X0_greatestTotal_35 kc_4 kc_14 n p0 x1 x2 x3 p4 x5 μ) := by
  intro n
  induction n with
  | zero => intros; exact J.no
  | succ n ih =>
    intro p0 h0 x1 x2 x3 p4 h4 x5 μ
    rw [L_X0_greatestTotal_35]
    refine J.iload (j := 5) hC eX0_greatestTotal_35 rfl ?_
    refine J.aload (j := 4) hC eX0_greatestTotal_37 rfl ?_
    refine J.callVI (st := [.int x5]) hC eX0_greatestTotal_39 h4 (by decide) rfl rfl ml_X0_93 mv_X4_size (Rle_of (Nat.le_of_ble_eq_true rfl) (Nat.le_of_ble_eq_true rfl)) (c_X4_size hC.X p4 h4 μ) rfl rfl (Nat.le_of_ble_eq_true rfl) (fun r_2 μ_1 => ?_)
    refine J.icmp_ge hC eX0_greatestTotal_42 (fun _ => ?_) (fun _ => ?_)
    · refine J.iinc (j := 3) (fun x3_3 => [(3, .int x3_3), (0, .ref (xad (cX C) p0)), (1, .int x1), (2, .int x2), (4, .ref (xad (cX C) p4)), (5, .int x5)]) hC eX0_greatestTotal_63 rfl ci_1 (by decide) (fun _ => rfl) (fun x3_3 => ?_)
      refine J.goto hC eX0_greatestTotal_66 ?_
      refine J.sub [1, 2, 3, 0] rfl ?_
      exact hk_14 p0 h0 x1 x2 x3_3 μ_1
    · refine J.iload_n (j := 1) hC eX0_greatestTotal_45 rfl ?_
      refine J.aload (j := 4) hC eX0_greatestTotal_46 rfl ?_
      refine J.iload (j := 5) hC eX0_greatestTotal_48 rfl ?_
      refine J.callVI (st := [.int x1]) hC eX0_greatestTotal_50 h4 (by decide) rfl rfl ml_X0_96 mv_X4_totalOf (Rle_of (Nat.le_of_ble_eq_true rfl) (Nat.le_of_ble_eq_true rfl)) (c_X4_totalOf hC.X p4 h4 x5 μ_1) rfl rfl (Nat.le_of_ble_eq_true rfl) (fun r_5 μ_4 => ?_)
      refine J.mmax hC eX0_greatestTotal_53 ml_X0_100 w_smax w_im w_cmax (Nat.le_of_ble_eq_true rfl) (Nat.le_of_ble_eq_true rfl) ?_
      refine J.topi (fun x1_6 => ?_)
      refine J.istore_n [(1, .int x1_6), (0, .ref (xad (cX C) p0)), (2, .int x2), (3, .int x3), (4, .ref (xad (cX C) p4)), (5, .int x5)] hC eX0_greatestTotal_56 (by decide) rfl ?_
      refine J.iinc (j := 5) (fun x5_7 => [(5, .int x5_7), (1, .int x1_6), (0, .ref (xad (cX C) p0)), (2, .int x2), (3, .int x3), (4, .ref (xad (cX C) p4))]) hC eX0_greatestTotal_57 rfl ci_1 (by decide) (fun _ => rfl) (fun x5_7 => ?_)
      refine J.goto hC eX0_greatestTotal_60 ?_
      refine J.sub [2, 1, 3, 4, 5, 0] rfl ?_
      exact ih p0 h0 x1_6 x2 x3 p4 h4 x5_7 μ_4
def L_X0_greatestTotal_14 (kc_4 : Nat → Int32 → Int32 → Mem → Option (Int32 × Mem)) : Nat → Nat → Int32 → Int32 → Int32 → Mem → Option (Int32 × Mem)
  | 0, _, _, _, _, _ => none
  | n + 1, p0, x1, x2, x3, μ => if (2 : Int32) ≤ x3 then lb (x2 + (1 : Int32)) (fun x2_1 => kc_4 p0 x1 x2_1 μ) else gq (inB x2 3) (gq (inB x3 2) (L_X0_greatestTotal_35 kc_4 (L_X0_greatestTotal_14 kc_4 n) 100000 p0 x1 x2 x3 (lnP ((shP (p0 + 1) x2) + 2) x3) (0 : Int32) μ))
set_option maxHeartbeats 4000000 in
theorem j_X0_greatestTotal_14 {C : Cx} (hC : Ok C cX0_greatestTotal 6 RX0 (rmF 1 21)) (hr : (cT C).sig.returnType = (some .int)) (kc_4 : Nat → Int32 → Int32 → Mem → Option (Int32 × Mem)) (hk_4 : ∀ (p0 : Nat) (h0 : kd p0 = 0) (x1 : Int32) (x2 : Int32) (μ : Mem), J C (KI C) μ 4 [(0, .ref (xad (cX C) p0)), (1, .int x1), (2, .int x2)] [] (kc_4 p0 x1 x2 μ)) : ∀ (n : Nat) (p0 : Nat) (h0 : kd p0 = 0) (x1 : Int32) (x2 : Int32) (x3 : Int32) (μ : Mem), J C (KI C) μ 14 [(0, .ref (xad (cX C) p0)), (1, .int x1), (2, .int x2), (3, .int x3)] [] (L_X0_greatestTotal_14 kc_4 n p0 x1 x2 x3 μ) := by
  intro n
  induction n with
  | zero => intros; exact J.no
  | succ n ih =>
    intro p0 h0 x1 x2 x3 μ
    rw [L_X0_greatestTotal_14]
    refine J.iload_n (j := 3) hC eX0_greatestTotal_14 rfl ?_
    refine J.iconst hC eX0_greatestTotal_15 ci_2 ?_
    refine J.icmp_ge hC eX0_greatestTotal_16 (fun _ => ?_) (fun _ => ?_)
    · refine J.iinc (j := 2) (fun x2_1 => [(2, .int x2_1), (0, .ref (xad (cX C) p0)), (1, .int x1), (3, .int x3)]) hC eX0_greatestTotal_69 rfl ci_1 (by decide) (fun _ => rfl) (fun x2_1 => ?_)
      refine J.goto hC eX0_greatestTotal_72 ?_
      refine J.sub [1, 2, 0] rfl ?_
      exact hk_4 p0 h0 x1 x2_1 μ
    · refine J.aload_n (j := 0) hC eX0_greatestTotal_19 rfl ?_
      refine gf_X0_12 (q := p0 + 1) hC eX0_greatestTotal_20 h0 rfl ?_
      refine J.iload_n (j := 2) hC eX0_greatestTotal_23 rfl ?_
      refine J.aaldS hC eX0_greatestTotal_24 (kf_X0_sheets h0) (fun hq_2 => ?_)
      refine gf_X0_66 (q := (shP (p0 + 1) x2) + 2) hC eX0_greatestTotal_25 hq_2 rfl ?_
      refine J.iload_n (j := 3) hC eX0_greatestTotal_28 rfl ?_
      refine J.aaldL hC eX0_greatestTotal_29 (kf_X7_lanes hq_2) (fun hq_3 => ?_)
      refine J.astore [(4, .ref (xad (cX C) (lnP ((shP (p0 + 1) x2) + 2) x3))), (0, .ref (xad (cX C) p0)), (1, .int x1), (2, .int x2), (3, .int x3)] hC eX0_greatestTotal_30 (by decide) rfl ?_
      refine J.iconst hC eX0_greatestTotal_32 ci_0 ?_
      refine J.istore [(5, .int (0 : Int32)), (4, .ref (xad (cX C) (lnP ((shP (p0 + 1) x2) + 2) x3))), (0, .ref (xad (cX C) p0)), (1, .int x1), (2, .int x2), (3, .int x3)] hC eX0_greatestTotal_33 (by decide) rfl ?_
      refine J.sub [2, 3, 4, 5, 1, 0] rfl ?_
      exact j_X0_greatestTotal_35 hC hr kc_4 hk_4 (L_X0_greatestTotal_14 kc_4 n) ih 100000 p0 h0 x1 x2 x3 (lnP ((shP (p0 + 1) x2) + 2) x3) hq_3 (0 : Int32) μ
def L_X0_greatestTotal_4 : Nat → Nat → Int32 → Int32 → Mem → Option (Int32 × Mem)
  | 0, _, _, _, _ => none
  | n + 1, p0, x1, x2, μ => if (rI μ p0 2) ≤ x2 then some (x1, μ) else L_X0_greatestTotal_14 (L_X0_greatestTotal_4  n) 100000 p0 x1 x2 (0 : Int32) μ
set_option maxHeartbeats 4000000 in
theorem j_X0_greatestTotal_4 {C : Cx} (hC : Ok C cX0_greatestTotal 6 RX0 (rmF 1 21)) (hr : (cT C).sig.returnType = (some .int)) : ∀ (n : Nat) (p0 : Nat) (h0 : kd p0 = 0) (x1 : Int32) (x2 : Int32) (μ : Mem), J C (KI C) μ 4 [(0, .ref (xad (cX C) p0)), (1, .int x1), (2, .int x2)] [] (L_X0_greatestTotal_4  n p0 x1 x2 μ) := by
  intro n
  induction n with
  | zero => intros; exact J.no
  | succ n ih =>
    intro p0 h0 x1 x2 μ
    rw [L_X0_greatestTotal_4]
    refine J.iload_n (j := 2) hC eX0_greatestTotal_4 rfl ?_
    refine J.aload_n (j := 0) hC eX0_greatestTotal_5 rfl ?_
    refine gf_X0_31 hC eX0_greatestTotal_6 h0 ?_
    refine J.icmp_ge hC eX0_greatestTotal_9 (fun _ => ?_) (fun _ => ?_)
    · refine J.iload_n (j := 1) hC eX0_greatestTotal_75 rfl ?_
      exact J.iret hC hr eX0_greatestTotal_76
    · refine J.iconst hC eX0_greatestTotal_12 ci_0 ?_
      refine J.istore_n [(3, .int (0 : Int32)), (0, .ref (xad (cX C) p0)), (1, .int x1), (2, .int x2)] hC eX0_greatestTotal_13 (by decide) rfl ?_
      refine J.sub [1, 2, 3, 0] rfl ?_
      exact j_X0_greatestTotal_14 hC hr (L_X0_greatestTotal_4  n) ih 100000 p0 h0 x1 x2 (0 : Int32) μ
def G_X0_greatestTotal (p0 : Nat) (μ : Mem) : Option (Int32 × Mem) :=
  L_X0_greatestTotal_4  100000 p0 (0 : Int32) (0 : Int32) μ
set_option maxHeartbeats 4000000 in
theorem c_X0_greatestTotal {X : Wd} (hX : WdOk X) (p0 : Nat) (h0 : kd p0 = 0) (μ : Mem) : CtI X yX0_greatestTotal cX0_greatestTotal 6 (some .int) (rmF 1 21) [.ref (xad X p0)] μ (G_X0_greatestTotal p0 μ) := by
  refine CtI.of hX (plainFor_of_name (by decide)) (by exact Nat.le_of_ble_eq_true rfl) ?_
  intro C hCX hC hr
  subst hCX
  show J C (KI C) μ 0 [(0, .ref (xad (cX C) p0))] [] _
  unfold G_X0_greatestTotal
  refine J.iconst hC eX0_greatestTotal_0 ci_0 ?_
  refine J.istore_n [(1, .int (0 : Int32)), (0, .ref (xad (cX C) p0))] hC eX0_greatestTotal_1 (by decide) rfl ?_
  refine J.iconst hC eX0_greatestTotal_2 ci_0 ?_
  refine J.istore_n [(2, .int (0 : Int32)), (1, .int (0 : Int32)), (0, .ref (xad (cX C) p0))] hC eX0_greatestTotal_3 (by decide) rfl ?_
  refine J.sub [2, 1, 0] rfl ?_
  exact j_X0_greatestTotal_4 hC hr  100000 p0 h0 (0 : Int32) (0 : Int32) μ
-- X7_mostAlike
theorem eX7_mostAlike_0 : DD cX7_mostAlike 0 (.iconst 0) 1 1 := ⟨by decide +kernel, rfl⟩
theorem eX7_mostAlike_1 : DD cX7_mostAlike 1 (.istore_n 1) 1 2 := ⟨by decide +kernel, rfl⟩
theorem eX7_mostAlike_2 : DD cX7_mostAlike 2 (.iconst 0) 1 3 := ⟨by decide +kernel, rfl⟩
theorem eX7_mostAlike_3 : DD cX7_mostAlike 3 (.istore_n 2) 1 4 := ⟨by decide +kernel, rfl⟩
theorem eX7_mostAlike_4 : DD cX7_mostAlike 4 (.iload_n 2) 1 5 := ⟨by decide +kernel, rfl⟩
theorem eX7_mostAlike_5 : DD cX7_mostAlike 5 (.sipush 289) 3 8 := ⟨by decide +kernel, rfl⟩
theorem eX7_mostAlike_8 : DB cX7_mostAlike 8 (.if_icmp .ge 20) (20) 11 28 := ⟨by decide +kernel, rfl, by decide⟩
theorem eX7_mostAlike_11 : DD cX7_mostAlike 11 (.iload_n 1) 1 12 := ⟨by decide +kernel, rfl⟩
theorem eX7_mostAlike_12 : DD cX7_mostAlike 12 (.aload_n 0) 1 13 := ⟨by decide +kernel, rfl⟩
theorem eX7_mostAlike_13 : DD cX7_mostAlike 13 (.getfield 9) 3 16 := ⟨by decide +kernel, rfl⟩
theorem eX7_mostAlike_16 : DD cX7_mostAlike 16 (.iload_n 2) 1 17 := ⟨by decide +kernel, rfl⟩
theorem eX7_mostAlike_17 : DD cX7_mostAlike 17 (.iaload) 1 18 := ⟨by decide +kernel, rfl⟩
theorem eX7_mostAlike_18 : DD cX7_mostAlike 18 (.invokestatic 86) 3 21 := ⟨by decide +kernel, rfl⟩
theorem eX7_mostAlike_21 : DD cX7_mostAlike 21 (.istore_n 1) 1 22 := ⟨by decide +kernel, rfl⟩
theorem eX7_mostAlike_22 : DD cX7_mostAlike 22 (.iinc 2 1) 3 25 := ⟨by decide +kernel, rfl⟩
theorem eX7_mostAlike_25 : DB cX7_mostAlike 25 (.goto (-21)) (-21) 28 4 := ⟨by decide +kernel, rfl, by decide⟩
theorem eX7_mostAlike_28 : DD cX7_mostAlike 28 (.iload_n 1) 1 29 := ⟨by decide +kernel, rfl⟩
theorem eX7_mostAlike_29 : DD cX7_mostAlike 29 (.ireturn) 1 30 := ⟨by decide +kernel, rfl⟩
def L_X7_mostAlike_4 : Nat → Nat → Int32 → Int32 → Mem → Option (Int32 × Mem)
  | 0, _, _, _, _ => none
  | n + 1, p0, x1, x2, μ => if (289 : Int32) ≤ x2 then some (x1, μ) else gq (inB x2 289) (lb (imax x1 (rI μ (p0 + 1) (nx x2))) (fun x1_1 => lb (x2 + (1 : Int32)) (fun x2_2 => L_X7_mostAlike_4  n p0 x1_1 x2_2 μ)))
set_option maxHeartbeats 4000000 in
theorem j_X7_mostAlike_4 {C : Cx} (hC : Ok C cX7_mostAlike 3 RX7 (rmF 1 15)) (hr : (cT C).sig.returnType = (some .int)) : ∀ (n : Nat) (p0 : Nat) (h0 : kd p0 = 7) (x1 : Int32) (x2 : Int32) (μ : Mem), J C (KI C) μ 4 [(0, .ref (xad (cX C) p0)), (1, .int x1), (2, .int x2)] [] (L_X7_mostAlike_4  n p0 x1 x2 μ) := by
  intro n
  induction n with
  | zero => intros; exact J.no
  | succ n ih =>
    intro p0 h0 x1 x2 μ
    rw [L_X7_mostAlike_4]
    refine J.iload_n (j := 2) hC eX7_mostAlike_4 rfl ?_
    refine J.sipush hC eX7_mostAlike_5 cs_289 ?_
    refine J.icmp_ge hC eX7_mostAlike_8 (fun _ => ?_) (fun _ => ?_)
    · refine J.iload_n (j := 1) hC eX7_mostAlike_28 rfl ?_
      exact J.iret hC hr eX7_mostAlike_29
    · refine J.iload_n (j := 1) hC eX7_mostAlike_11 rfl ?_
      refine J.aload_n (j := 0) hC eX7_mostAlike_12 rfl ?_
      refine gf_X7_9 (q := p0 + 1) hC eX7_mostAlike_13 h0 rfl ?_
      refine J.iload_n (j := 2) hC eX7_mostAlike_16 rfl ?_
      refine J.iald ik_289 hC eX7_mostAlike_17 (kf_X7_cells h0) ?_
      refine J.mmax hC eX7_mostAlike_18 ml_X7_86 w_smax w_im w_cmax (Nat.le_of_ble_eq_true rfl) (Nat.le_of_ble_eq_true rfl) ?_
      refine J.topi (fun x1_1 => ?_)
      refine J.istore_n [(1, .int x1_1), (0, .ref (xad (cX C) p0)), (2, .int x2)] hC eX7_mostAlike_21 (by decide) rfl ?_
      refine J.iinc (j := 2) (fun x2_2 => [(2, .int x2_2), (1, .int x1_1), (0, .ref (xad (cX C) p0))]) hC eX7_mostAlike_22 rfl ci_1 (by decide) (fun _ => rfl) (fun x2_2 => ?_)
      refine J.goto hC eX7_mostAlike_25 ?_
      refine J.sub [2, 1, 0] rfl ?_
      exact ih p0 h0 x1_1 x2_2 μ
def G_X7_mostAlike (p0 : Nat) (μ : Mem) : Option (Int32 × Mem) :=
  L_X7_mostAlike_4  100000 p0 (0 : Int32) (0 : Int32) μ
set_option maxHeartbeats 4000000 in
theorem c_X7_mostAlike {X : Wd} (hX : WdOk X) (p0 : Nat) (h0 : kd p0 = 7) (μ : Mem) : CtI X yX7_mostAlike cX7_mostAlike 3 (some .int) (rmF 1 15) [.ref (xad X p0)] μ (G_X7_mostAlike p0 μ) := by
  refine CtI.of hX (plainFor_of_name (by decide)) (by exact Nat.le_of_ble_eq_true rfl) ?_
  intro C hCX hC hr
  subst hCX
  show J C (KI C) μ 0 [(0, .ref (xad (cX C) p0))] [] _
  unfold G_X7_mostAlike
  refine J.iconst hC eX7_mostAlike_0 ci_0 ?_
  refine J.istore_n [(1, .int (0 : Int32)), (0, .ref (xad (cX C) p0))] hC eX7_mostAlike_1 (by decide) rfl ?_
  refine J.iconst hC eX7_mostAlike_2 ci_0 ?_
  refine J.istore_n [(2, .int (0 : Int32)), (1, .int (0 : Int32)), (0, .ref (xad (cX C) p0))] hC eX7_mostAlike_3 (by decide) rfl ?_
  refine J.sub [2, 1, 0] rfl ?_
  exact j_X7_mostAlike_4 hC hr  100000 p0 h0 (0 : Int32) (0 : Int32) μ
-- X0_mostAlike
theorem eX0_mostAlike_0 : DD cX0_mostAlike 0 (.iconst 0) 1 1 := ⟨by decide +kernel, rfl⟩
theorem eX0_mostAlike_1 : DD cX0_mostAlike 1 (.istore_n 1) 1 2 := ⟨by decide +kernel, rfl⟩
theorem eX0_mostAlike_2 : DD cX0_mostAlike 2 (.iconst 0) 1 3 := ⟨by decide +kernel, rfl⟩
theorem eX0_mostAlike_3 : DD cX0_mostAlike 3 (.istore_n 2) 1 4 := ⟨by decide +kernel, rfl⟩
theorem eX0_mostAlike_4 : DD cX0_mostAlike 4 (.iload_n 2) 1 5 := ⟨by decide +kernel, rfl⟩
theorem eX0_mostAlike_5 : DD cX0_mostAlike 5 (.aload_n 0) 1 6 := ⟨by decide +kernel, rfl⟩
theorem eX0_mostAlike_6 : DD cX0_mostAlike 6 (.getfield 31) 3 9 := ⟨by decide +kernel, rfl⟩
theorem eX0_mostAlike_9 : DB cX0_mostAlike 9 (.if_icmp .ge 23) (23) 12 32 := ⟨by decide +kernel, rfl, by decide⟩
theorem eX0_mostAlike_12 : DD cX0_mostAlike 12 (.iload_n 1) 1 13 := ⟨by decide +kernel, rfl⟩
theorem eX0_mostAlike_13 : DD cX0_mostAlike 13 (.aload_n 0) 1 14 := ⟨by decide +kernel, rfl⟩
theorem eX0_mostAlike_14 : DD cX0_mostAlike 14 (.getfield 12) 3 17 := ⟨by decide +kernel, rfl⟩
theorem eX0_mostAlike_17 : DD cX0_mostAlike 17 (.iload_n 2) 1 18 := ⟨by decide +kernel, rfl⟩
theorem eX0_mostAlike_18 : DD cX0_mostAlike 18 (.aaload) 1 19 := ⟨by decide +kernel, rfl⟩
theorem eX0_mostAlike_19 : DD cX0_mostAlike 19 (.invokevirtual 105) 3 22 := ⟨by decide +kernel, rfl⟩
theorem eX0_mostAlike_22 : DD cX0_mostAlike 22 (.invokestatic 100) 3 25 := ⟨by decide +kernel, rfl⟩
theorem eX0_mostAlike_25 : DD cX0_mostAlike 25 (.istore_n 1) 1 26 := ⟨by decide +kernel, rfl⟩
theorem eX0_mostAlike_26 : DD cX0_mostAlike 26 (.iinc 2 1) 3 29 := ⟨by decide +kernel, rfl⟩
theorem eX0_mostAlike_29 : DB cX0_mostAlike 29 (.goto (-25)) (-25) 32 4 := ⟨by decide +kernel, rfl, by decide⟩
theorem eX0_mostAlike_32 : DD cX0_mostAlike 32 (.iload_n 1) 1 33 := ⟨by decide +kernel, rfl⟩
theorem eX0_mostAlike_33 : DD cX0_mostAlike 33 (.ireturn) 1 34 := ⟨by decide +kernel, rfl⟩
def L_X0_mostAlike_4 : Nat → Nat → Int32 → Int32 → Mem → Option (Int32 × Mem)
  | 0, _, _, _, _ => none
  | n + 1, p0, x1, x2, μ => if (rI μ p0 2) ≤ x2 then some (x1, μ) else gq (inB x2 3) (bd (G_X7_mostAlike (shP (p0 + 1) x2) μ) (fun r_3 μ_2 => lb (imax x1 r_3) (fun x1_4 => lb (x2 + (1 : Int32)) (fun x2_5 => L_X0_mostAlike_4  n p0 x1_4 x2_5 μ_2))))
set_option maxHeartbeats 4000000 in
theorem j_X0_mostAlike_4 {C : Cx} (hC : Ok C cX0_mostAlike 3 RX0 (rmF 2 37)) (hr : (cT C).sig.returnType = (some .int)) : ∀ (n : Nat) (p0 : Nat) (h0 : kd p0 = 0) (x1 : Int32) (x2 : Int32) (μ : Mem), J C (KI C) μ 4 [(0, .ref (xad (cX C) p0)), (1, .int x1), (2, .int x2)] [] (L_X0_mostAlike_4  n p0 x1 x2 μ) := by
  intro n
  induction n with
  | zero => intros; exact J.no
  | succ n ih =>
    intro p0 h0 x1 x2 μ
    rw [L_X0_mostAlike_4]
    refine J.iload_n (j := 2) hC eX0_mostAlike_4 rfl ?_
    refine J.aload_n (j := 0) hC eX0_mostAlike_5 rfl ?_
    refine gf_X0_31 hC eX0_mostAlike_6 h0 ?_
    refine J.icmp_ge hC eX0_mostAlike_9 (fun _ => ?_) (fun _ => ?_)
    · refine J.iload_n (j := 1) hC eX0_mostAlike_32 rfl ?_
      exact J.iret hC hr eX0_mostAlike_33
    · refine J.iload_n (j := 1) hC eX0_mostAlike_12 rfl ?_
      refine J.aload_n (j := 0) hC eX0_mostAlike_13 rfl ?_
      refine gf_X0_12 (q := p0 + 1) hC eX0_mostAlike_14 h0 rfl ?_
      refine J.iload_n (j := 2) hC eX0_mostAlike_17 rfl ?_
      refine J.aaldS hC eX0_mostAlike_18 (kf_X0_sheets h0) (fun hq_1 => ?_)
      refine J.callVI (st := [.int x1]) hC eX0_mostAlike_19 hq_1 (by decide) rfl rfl ml_X0_105 mv_X7_mostAlike (Rle_of (Nat.le_of_ble_eq_true rfl) (Nat.le_of_ble_eq_true rfl)) (c_X7_mostAlike hC.X (shP (p0 + 1) x2) hq_1 μ) rfl rfl (Nat.le_of_ble_eq_true rfl) (fun r_3 μ_2 => ?_)
      refine J.mmax hC eX0_mostAlike_22 ml_X0_100 w_smax w_im w_cmax (Nat.le_of_ble_eq_true rfl) (Nat.le_of_ble_eq_true rfl) ?_
      refine J.topi (fun x1_4 => ?_)
      refine J.istore_n [(1, .int x1_4), (0, .ref (xad (cX C) p0)), (2, .int x2)] hC eX0_mostAlike_25 (by decide) rfl ?_
      refine J.iinc (j := 2) (fun x2_5 => [(2, .int x2_5), (1, .int x1_4), (0, .ref (xad (cX C) p0))]) hC eX0_mostAlike_26 rfl ci_1 (by decide) (fun _ => rfl) (fun x2_5 => ?_)
      refine J.goto hC eX0_mostAlike_29 ?_
      refine J.sub [2, 1, 0] rfl ?_
      exact ih p0 h0 x1_4 x2_5 μ_2
def G_X0_mostAlike (p0 : Nat) (μ : Mem) : Option (Int32 × Mem) :=
  L_X0_mostAlike_4  100000 p0 (0 : Int32) (0 : Int32) μ
set_option maxHeartbeats 4000000 in
theorem c_X0_mostAlike {X : Wd} (hX : WdOk X) (p0 : Nat) (h0 : kd p0 = 0) (μ : Mem) : CtI X yX0_mostAlike cX0_mostAlike 3 (some .int) (rmF 2 37) [.ref (xad X p0)] μ (G_X0_mostAlike p0 μ) := by
  refine CtI.of hX (plainFor_of_name (by decide)) (by exact Nat.le_of_ble_eq_true rfl) ?_
  intro C hCX hC hr
  subst hCX
  show J C (KI C) μ 0 [(0, .ref (xad (cX C) p0))] [] _
  unfold G_X0_mostAlike
  refine J.iconst hC eX0_mostAlike_0 ci_0 ?_
  refine J.istore_n [(1, .int (0 : Int32)), (0, .ref (xad (cX C) p0))] hC eX0_mostAlike_1 (by decide) rfl ?_
  refine J.iconst hC eX0_mostAlike_2 ci_0 ?_
  refine J.istore_n [(2, .int (0 : Int32)), (1, .int (0 : Int32)), (0, .ref (xad (cX C) p0))] hC eX0_mostAlike_3 (by decide) rfl ?_
  refine J.sub [2, 1, 0] rfl ?_
  exact j_X0_mostAlike_4 hC hr  100000 p0 h0 (0 : Int32) (0 : Int32) μ
-- X4_countAt
theorem eX4_countAt_0 : DD cX4_countAt 0 (.iload_n 1) 1 1 := ⟨by decide +kernel, rfl⟩
theorem eX4_countAt_1 : DD cX4_countAt 1 (.aload_n 0) 1 2 := ⟨by decide +kernel, rfl⟩
theorem eX4_countAt_2 : DD cX4_countAt 2 (.getfield 18) 3 5 := ⟨by decide +kernel, rfl⟩
theorem eX4_countAt_5 : DB cX4_countAt 5 (.if_icmp .ge 12) (12) 8 17 := ⟨by decide +kernel, rfl, by decide⟩
theorem eX4_countAt_8 : DD cX4_countAt 8 (.aload_n 0) 1 9 := ⟨by decide +kernel, rfl⟩
theorem eX4_countAt_9 : DD cX4_countAt 9 (.getfield 11) 3 12 := ⟨by decide +kernel, rfl⟩
theorem eX4_countAt_12 : DD cX4_countAt 12 (.iload_n 1) 1 13 := ⟨by decide +kernel, rfl⟩
theorem eX4_countAt_13 : DD cX4_countAt 13 (.iaload) 1 14 := ⟨by decide +kernel, rfl⟩
theorem eX4_countAt_14 : DB cX4_countAt 14 (.goto 4) (4) 17 18 := ⟨by decide +kernel, rfl, by decide⟩
theorem eX4_countAt_17 : DD cX4_countAt 17 (.iconst 0) 1 18 := ⟨by decide +kernel, rfl⟩
theorem eX4_countAt_18 : DD cX4_countAt 18 (.ireturn) 1 19 := ⟨by decide +kernel, rfl⟩
def G_X4_countAt (p0 : Nat) (x1 : Int32) (μ : Mem) : Option (Int32 × Mem) :=
  if (rI μ p0 2) ≤ x1 then some ((0 : Int32), μ) else gq (inB x1 16) (some (rI μ (p0 + 1) (nx x1), μ))
set_option maxHeartbeats 4000000 in
theorem c_X4_countAt {X : Wd} (hX : WdOk X) (p0 : Nat) (h0 : kd p0 = 4) (x1 : Int32) (μ : Mem) : CtI X yX4_countAt cX4_countAt 2 (some .int) (rmF 0 0) [.ref (xad X p0), .int x1] μ (G_X4_countAt p0 x1 μ) := by
  refine CtI.of hX (plainFor_of_name (by decide)) (by exact Nat.le_of_ble_eq_true rfl) ?_
  intro C hCX hC hr
  subst hCX
  show J C (KI C) μ 0 [(0, .ref (xad (cX C) p0)), (1, .int x1)] [] _
  unfold G_X4_countAt
  refine J.iload_n (j := 1) hC eX4_countAt_0 rfl ?_
  refine J.aload_n (j := 0) hC eX4_countAt_1 rfl ?_
  refine gf_X4_18 hC eX4_countAt_2 h0 ?_
  refine J.icmp_ge hC eX4_countAt_5 (fun _ => ?_) (fun _ => ?_)
  · refine J.iconst hC eX4_countAt_17 ci_0 ?_
    exact J.iret hC hr eX4_countAt_18
  · refine J.aload_n (j := 0) hC eX4_countAt_8 rfl ?_
    refine gf_X4_11 (q := p0 + 1) hC eX4_countAt_9 h0 rfl ?_
    refine J.iload_n (j := 1) hC eX4_countAt_12 rfl ?_
    refine J.iald ik_16 hC eX4_countAt_13 (kf_X4_counts h0) ?_
    refine J.goto hC eX4_countAt_14 ?_
    exact J.iret hC hr eX4_countAt_18
-- X0_valueSeenMost
theorem eX0_valueSeenMost_0 : DD cX0_valueSeenMost 0 (.iconst 0) 1 1 := ⟨by decide +kernel, rfl⟩
theorem eX0_valueSeenMost_1 : DD cX0_valueSeenMost 1 (.istore_n 1) 1 2 := ⟨by decide +kernel, rfl⟩
theorem eX0_valueSeenMost_2 : DD cX0_valueSeenMost 2 (.iconst (-1)) 1 3 := ⟨by decide +kernel, rfl⟩
theorem eX0_valueSeenMost_3 : DD cX0_valueSeenMost 3 (.istore_n 2) 1 4 := ⟨by decide +kernel, rfl⟩
theorem eX0_valueSeenMost_4 : DD cX0_valueSeenMost 4 (.iconst 0) 1 5 := ⟨by decide +kernel, rfl⟩
theorem eX0_valueSeenMost_5 : DD cX0_valueSeenMost 5 (.istore_n 3) 1 6 := ⟨by decide +kernel, rfl⟩
theorem eX0_valueSeenMost_6 : DD cX0_valueSeenMost 6 (.iload_n 3) 1 7 := ⟨by decide +kernel, rfl⟩
theorem eX0_valueSeenMost_7 : DD cX0_valueSeenMost 7 (.bipush 16) 2 9 := ⟨by decide +kernel, rfl⟩
theorem eX0_valueSeenMost_9 : DB cX0_valueSeenMost 9 (.if_icmp .ge 72) (72) 12 81 := ⟨by decide +kernel, rfl, by decide⟩
theorem eX0_valueSeenMost_12 : DD cX0_valueSeenMost 12 (.iconst 0) 1 13 := ⟨by decide +kernel, rfl⟩
theorem eX0_valueSeenMost_13 : DD cX0_valueSeenMost 13 (.istore 4) 2 15 := ⟨by decide +kernel, rfl⟩
theorem eX0_valueSeenMost_15 : DD cX0_valueSeenMost 15 (.iload 4) 2 17 := ⟨by decide +kernel, rfl⟩
theorem eX0_valueSeenMost_17 : DD cX0_valueSeenMost 17 (.aload_n 0) 1 18 := ⟨by decide +kernel, rfl⟩
theorem eX0_valueSeenMost_18 : DD cX0_valueSeenMost 18 (.getfield 31) 3 21 := ⟨by decide +kernel, rfl⟩
theorem eX0_valueSeenMost_21 : DB cX0_valueSeenMost 21 (.if_icmp .ge 54) (54) 24 75 := ⟨by decide +kernel, rfl, by decide⟩
theorem eX0_valueSeenMost_24 : DD cX0_valueSeenMost 24 (.iconst 0) 1 25 := ⟨by decide +kernel, rfl⟩
theorem eX0_valueSeenMost_25 : DD cX0_valueSeenMost 25 (.istore 5) 2 27 := ⟨by decide +kernel, rfl⟩
theorem eX0_valueSeenMost_27 : DD cX0_valueSeenMost 27 (.iload 5) 2 29 := ⟨by decide +kernel, rfl⟩
theorem eX0_valueSeenMost_29 : DD cX0_valueSeenMost 29 (.iconst 2) 1 30 := ⟨by decide +kernel, rfl⟩
theorem eX0_valueSeenMost_30 : DB cX0_valueSeenMost 30 (.if_icmp .ge 39) (39) 33 69 := ⟨by decide +kernel, rfl, by decide⟩
theorem eX0_valueSeenMost_33 : DD cX0_valueSeenMost 33 (.aload_n 0) 1 34 := ⟨by decide +kernel, rfl⟩
theorem eX0_valueSeenMost_34 : DD cX0_valueSeenMost 34 (.getfield 12) 3 37 := ⟨by decide +kernel, rfl⟩
theorem eX0_valueSeenMost_37 : DD cX0_valueSeenMost 37 (.iload 4) 2 39 := ⟨by decide +kernel, rfl⟩
theorem eX0_valueSeenMost_39 : DD cX0_valueSeenMost 39 (.aaload) 1 40 := ⟨by decide +kernel, rfl⟩
theorem eX0_valueSeenMost_40 : DD cX0_valueSeenMost 40 (.getfield 66) 3 43 := ⟨by decide +kernel, rfl⟩
theorem eX0_valueSeenMost_43 : DD cX0_valueSeenMost 43 (.iload 5) 2 45 := ⟨by decide +kernel, rfl⟩
theorem eX0_valueSeenMost_45 : DD cX0_valueSeenMost 45 (.aaload) 1 46 := ⟨by decide +kernel, rfl⟩
theorem eX0_valueSeenMost_46 : DD cX0_valueSeenMost 46 (.iload_n 3) 1 47 := ⟨by decide +kernel, rfl⟩
theorem eX0_valueSeenMost_47 : DD cX0_valueSeenMost 47 (.invokevirtual 108) 3 50 := ⟨by decide +kernel, rfl⟩
theorem eX0_valueSeenMost_50 : DD cX0_valueSeenMost 50 (.istore 6) 2 52 := ⟨by decide +kernel, rfl⟩
theorem eX0_valueSeenMost_52 : DD cX0_valueSeenMost 52 (.iload 6) 2 54 := ⟨by decide +kernel, rfl⟩
theorem eX0_valueSeenMost_54 : DD cX0_valueSeenMost 54 (.iload_n 2) 1 55 := ⟨by decide +kernel, rfl⟩
theorem eX0_valueSeenMost_55 : DB cX0_valueSeenMost 55 (.if_icmp .le 8) (8) 58 63 := ⟨by decide +kernel, rfl, by decide⟩
theorem eX0_valueSeenMost_58 : DD cX0_valueSeenMost 58 (.iload 6) 2 60 := ⟨by decide +kernel, rfl⟩
theorem eX0_valueSeenMost_60 : DD cX0_valueSeenMost 60 (.istore_n 2) 1 61 := ⟨by decide +kernel, rfl⟩
theorem eX0_valueSeenMost_61 : DD cX0_valueSeenMost 61 (.iload_n 3) 1 62 := ⟨by decide +kernel, rfl⟩
theorem eX0_valueSeenMost_62 : DD cX0_valueSeenMost 62 (.istore_n 1) 1 63 := ⟨by decide +kernel, rfl⟩
theorem eX0_valueSeenMost_63 : DD cX0_valueSeenMost 63 (.iinc 5 1) 3 66 := ⟨by decide +kernel, rfl⟩
theorem eX0_valueSeenMost_66 : DB cX0_valueSeenMost 66 (.goto (-39)) (-39) 69 27 := ⟨by decide +kernel, rfl, by decide⟩
theorem eX0_valueSeenMost_69 : DD cX0_valueSeenMost 69 (.iinc 4 1) 3 72 := ⟨by decide +kernel, rfl⟩
theorem eX0_valueSeenMost_72 : DB cX0_valueSeenMost 72 (.goto (-57)) (-57) 75 15 := ⟨by decide +kernel, rfl, by decide⟩
theorem eX0_valueSeenMost_75 : DD cX0_valueSeenMost 75 (.iinc 3 1) 3 78 := ⟨by decide +kernel, rfl⟩
theorem eX0_valueSeenMost_78 : DB cX0_valueSeenMost 78 (.goto (-72)) (-72) 81 6 := ⟨by decide +kernel, rfl, by decide⟩
theorem eX0_valueSeenMost_81 : DD cX0_valueSeenMost 81 (.iload_n 1) 1 82 := ⟨by decide +kernel, rfl⟩
theorem eX0_valueSeenMost_82 : DD cX0_valueSeenMost 82 (.ireturn) 1 83 := ⟨by decide +kernel, rfl⟩
def F_X0_valueSeenMost_63 (kc_6 : Nat → Int32 → Int32 → Int32 → Mem → Option (Int32 × Mem)) (kc_15 : Nat → Int32 → Int32 → Int32 → Int32 → Mem → Option (Int32 × Mem)) (kc_27 : Nat → Int32 → Int32 → Int32 → Int32 → Int32 → Mem → Option (Int32 × Mem)) (p0 : Nat) (x1 : Int32) (x2 : Int32) (x3 : Int32) (x4 : Int32) (x5 : Int32) (μ : Mem) : Option (Int32 × Mem) :=
  lb (x5 + (1 : Int32)) (fun x5_1 => kc_27 p0 x1 x2 x3 x4 x5_1 μ)
set_option maxHeartbeats 4000000 in
theorem j_X0_valueSeenMost_63 {C : Cx} (hC : Ok C cX0_valueSeenMost 7 RX0 (rmF 1 21)) (hr : (cT C).sig.returnType = (some .int)) (kc_6 : Nat → Int32 → Int32 → Int32 → Mem → Option (Int32 × Mem)) (hk_6 : ∀ (p0 : Nat) (h0 : kd p0 = 0) (x1 : Int32) (x2 : Int32) (x3 : Int32) (μ : Mem), J C (KI C) μ 6 [(0, .ref (xad (cX C) p0)), (1, .int x1), (2, .int x2), (3, .int x3)] [] (kc_6 p0 x1 x2 x3 μ)) (kc_15 : Nat → Int32 → Int32 → Int32 → Int32 → Mem → Option (Int32 × Mem)) (hk_15 : ∀ (p0 : Nat) (h0 : kd p0 = 0) (x1 : Int32) (x2 : Int32) (x3 : Int32) (x4 : Int32) (μ : Mem), J C (KI C) μ 15 [(0, .ref (xad (cX C) p0)), (1, .int x1), (2, .int x2), (3, .int x3), (4, .int x4)] [] (kc_15 p0 x1 x2 x3 x4 μ)) (kc_27 : Nat → Int32 → Int32 → Int32 → Int32 → Int32 → Mem → Option (Int32 × Mem)) (hk_27 : ∀ (p0 : Nat) (h0 : kd p0 = 0) (x1 : Int32) (x2 : Int32) (x3 : Int32) (x4 : Int32) (x5 : Int32) (μ : Mem), J C (KI C) μ 27 [(0, .ref (xad (cX C) p0)), (1, .int x1), (2, .int x2), (3, .int x3), (4, .int x4), (5, .int x5)] [] (kc_27 p0 x1 x2 x3 x4 x5 μ)) (p0 : Nat) (h0 : kd p0 = 0) (x1 : Int32) (x2 : Int32) (x3 : Int32) (x4 : Int32) (x5 : Int32) (μ : Mem) : J C (KI C) μ 63 [(0, .ref (xad (cX C) p0)), (1, .int x1), (2, .int x2), (3, .int x3), (4, .int x4), (5, .int x5)] [] (F_X0_valueSeenMost_63 kc_6 kc_15 kc_27 p0 x1 x2 x3 x4 x5 μ) := by
  unfold F_X0_valueSeenMost_63
  refine J.iinc (j := 5) (fun x5_1 => [(5, .int x5_1), (0, .ref (xad (cX C) p0)), (1, .int x1), (2, .int x2), (3, .int x3), (4, .int x4)]) hC eX0_valueSeenMost_63 rfl ci_1 (by decide) (fun _ => rfl) (fun x5_1 => ?_)
  refine J.goto hC eX0_valueSeenMost_66 ?_
  refine J.sub [1, 2, 3, 4, 5, 0] rfl ?_
  exact hk_27 p0 h0 x1 x2 x3 x4 x5_1 μ
def L_X0_valueSeenMost_27 (kc_6 : Nat → Int32 → Int32 → Int32 → Mem → Option (Int32 × Mem)) (kc_15 : Nat → Int32 → Int32 → Int32 → Int32 → Mem → Option (Int32 × Mem)) : Nat → Nat → Int32 → Int32 → Int32 → Int32 → Int32 → Mem → Option (Int32 × Mem)
  | 0, _, _, _, _, _, _, _ => none
  | n + 1, p0, x1, x2, x3, x4, x5, μ => if (2 : Int32) ≤ x5 then lb (x4 + (1 : Int32)) (fun x4_1 => kc_15 p0 x1 x2 x3 x4_1 μ) else gq (inB x4 3) (gq (inB x5 2) (bd (G_X4_countAt (lnP ((shP (p0 + 1) x4) + 2) x5) x3 μ) (fun r_5 μ_4 => if r_5 ≤ x2 then F_X0_valueSeenMost_63 kc_6 kc_15 (L_X0_valueSeenMost_27 kc_6 kc_15 n) p0 x1 x2 x3 x4 x5 μ_4 else F_X0_valueSeenMost_63 kc_6 kc_15 (L_X0_valueSeenMost_27 kc_6 kc_15 n) p0 x3 r_5 x3 x4 x5 μ_4)))
set_option maxHeartbeats 4000000 in
theorem j_X0_valueSeenMost_27 {C : Cx} (hC : Ok C cX0_valueSeenMost 7 RX0 (rmF 1 21)) (hr : (cT C).sig.returnType = (some .int)) (kc_6 : Nat → Int32 → Int32 → Int32 → Mem → Option (Int32 × Mem)) (hk_6 : ∀ (p0 : Nat) (h0 : kd p0 = 0) (x1 : Int32) (x2 : Int32) (x3 : Int32) (μ : Mem), J C (KI C) μ 6 [(0, .ref (xad (cX C) p0)), (1, .int x1), (2, .int x2), (3, .int x3)] [] (kc_6 p0 x1 x2 x3 μ)) (kc_15 : Nat → Int32 → Int32 → Int32 → Int32 → Mem → Option (Int32 × Mem)) (hk_15 : ∀ (p0 : Nat) (h0 : kd p0 = 0) (x1 : Int32) (x2 : Int32) (x3 : Int32) (x4 : Int32) (μ : Mem), J C (KI C) μ 15 [(0, .ref (xad (cX C) p0)), (1, .int x1), (2, .int x2), (3, .int x3), (4, .int x4)] [] (kc_15 p0 x1 x2 x3 x4 μ)) : ∀ (n : Nat) (p0 : Nat) (h0 : kd p0 = 0) (x1 : Int32) (x2 : Int32) (x3 : Int32) (x4 : Int32) (x5 : Int32) (μ : Mem), J C (KI C) μ 27 [(0, .ref (xad (cX C) p0)), (1, .int x1), (2, .int x2), (3, .int x3), (4, .int x4), (5, .int x5)] [] (L_X0_valueSeenMost_27 kc_6 kc_15 n p0 x1 x2 x3 x4 x5 μ) := by
  intro n
  induction n with
  | zero => intros; exact J.no
  | succ n ih =>
    intro p0 h0 x1 x2 x3 x4 x5 μ
    rw [L_X0_valueSeenMost_27]
    refine J.iload (j := 5) hC eX0_valueSeenMost_27 rfl ?_
    refine J.iconst hC eX0_valueSeenMost_29 ci_2 ?_
    refine J.icmp_ge hC eX0_valueSeenMost_30 (fun _ => ?_) (fun _ => ?_)
    · refine J.iinc (j := 4) (fun x4_1 => [(4, .int x4_1), (0, .ref (xad (cX C) p0)), (1, .int x1), (2, .int x2), (3, .int x3), (5, .int x5)]) hC eX0_valueSeenMost_69 rfl ci_1 (by decide) (fun _ => rfl) (fun x4_1 => ?_)
      refine J.goto hC eX0_valueSeenMost_72 ?_
      refine J.sub [1, 2, 3, 4, 0] rfl ?_
      exact hk_15 p0 h0 x1 x2 x3 x4_1 μ
    · refine J.aload_n (j := 0) hC eX0_valueSeenMost_33 rfl ?_
      refine gf_X0_12 (q := p0 + 1) hC eX0_valueSeenMost_34 h0 rfl ?_
      refine J.iload (j := 4) hC eX0_valueSeenMost_37 rfl ?_
      refine J.aaldS hC eX0_valueSeenMost_39 (kf_X0_sheets h0) (fun hq_2 => ?_)
      refine gf_X0_66 (q := (shP (p0 + 1) x4) + 2) hC eX0_valueSeenMost_40 hq_2 rfl ?_
      refine J.iload (j := 5) hC eX0_valueSeenMost_43 rfl ?_
      refine J.aaldL hC eX0_valueSeenMost_45 (kf_X7_lanes hq_2) (fun hq_3 => ?_)
      refine J.iload_n (j := 3) hC eX0_valueSeenMost_46 rfl ?_
      refine J.callVI (st := []) hC eX0_valueSeenMost_47 hq_3 (by decide) rfl rfl ml_X0_108 mv_X4_countAt (Rle_of (Nat.le_of_ble_eq_true rfl) (Nat.le_of_ble_eq_true rfl)) (c_X4_countAt hC.X (lnP ((shP (p0 + 1) x4) + 2) x5) hq_3 x3 μ) rfl rfl (Nat.le_of_ble_eq_true rfl) (fun r_5 μ_4 => ?_)
      refine J.istore [(6, .int r_5), (0, .ref (xad (cX C) p0)), (1, .int x1), (2, .int x2), (3, .int x3), (4, .int x4), (5, .int x5)] hC eX0_valueSeenMost_50 (by decide) rfl ?_
      refine J.iload (j := 0) hC eX0_valueSeenMost_52 rfl ?_
      refine J.iload_n (j := 3) hC eX0_valueSeenMost_54 rfl ?_
      refine J.icmp_le hC eX0_valueSeenMost_55 (fun _ => ?_) (fun _ => ?_)
      · refine J.sub [1, 2, 3, 4, 5, 6] rfl ?_
        exact j_X0_valueSeenMost_63 hC hr kc_6 hk_6 kc_15 hk_15 (L_X0_valueSeenMost_27 kc_6 kc_15 n) ih p0 h0 x1 x2 x3 x4 x5 μ_4
      · refine J.iload (j := 0) hC eX0_valueSeenMost_58 rfl ?_
        refine J.istore_n [(2, .int r_5), (6, .int r_5), (0, .ref (xad (cX C) p0)), (1, .int x1), (3, .int x3), (4, .int x4), (5, .int x5)] hC eX0_valueSeenMost_60 (by decide) rfl ?_
        refine J.iload_n (j := 4) hC eX0_valueSeenMost_61 rfl ?_
        refine J.istore_n [(1, .int x3), (2, .int r_5), (6, .int r_5), (0, .ref (xad (cX C) p0)), (3, .int x3), (4, .int x4), (5, .int x5)] hC eX0_valueSeenMost_62 (by decide) rfl ?_
        refine J.sub [3, 0, 1, 4, 5, 6] rfl ?_
        exact j_X0_valueSeenMost_63 hC hr kc_6 hk_6 kc_15 hk_15 (L_X0_valueSeenMost_27 kc_6 kc_15 n) ih p0 h0 x3 r_5 x3 x4 x5 μ_4
def L_X0_valueSeenMost_15 (kc_6 : Nat → Int32 → Int32 → Int32 → Mem → Option (Int32 × Mem)) : Nat → Nat → Int32 → Int32 → Int32 → Int32 → Mem → Option (Int32 × Mem)
  | 0, _, _, _, _, _, _ => none
  | n + 1, p0, x1, x2, x3, x4, μ => if (rI μ p0 2) ≤ x4 then lb (x3 + (1 : Int32)) (fun x3_1 => kc_6 p0 x1 x2 x3_1 μ) else L_X0_valueSeenMost_27 kc_6 (L_X0_valueSeenMost_15 kc_6 n) 100000 p0 x1 x2 x3 x4 (0 : Int32) μ
set_option maxHeartbeats 4000000 in
theorem j_X0_valueSeenMost_15 {C : Cx} (hC : Ok C cX0_valueSeenMost 7 RX0 (rmF 1 21)) (hr : (cT C).sig.returnType = (some .int)) (kc_6 : Nat → Int32 → Int32 → Int32 → Mem → Option (Int32 × Mem)) (hk_6 : ∀ (p0 : Nat) (h0 : kd p0 = 0) (x1 : Int32) (x2 : Int32) (x3 : Int32) (μ : Mem), J C (KI C) μ 6 [(0, .ref (xad (cX C) p0)), (1, .int x1), (2, .int x2), (3, .int x3)] [] (kc_6 p0 x1 x2 x3 μ)) : ∀ (n : Nat) (p0 : Nat) (h0 : kd p0 = 0) (x1 : Int32) (x2 : Int32) (x3 : Int32) (x4 : Int32) (μ : Mem), J C (KI C) μ 15 [(0, .ref (xad (cX C) p0)), (1, .int x1), (2, .int x2), (3, .int x3), (4, .int x4)] [] (L_X0_valueSeenMost_15 kc_6 n p0 x1 x2 x3 x4 μ) := by
  intro n
  induction n with
  | zero => intros; exact J.no
  | succ n ih =>
    intro p0 h0 x1 x2 x3 x4 μ
    rw [L_X0_valueSeenMost_15]
    refine J.iload (j := 4) hC eX0_valueSeenMost_15 rfl ?_
    refine J.aload_n (j := 0) hC eX0_valueSeenMost_17 rfl ?_
    refine gf_X0_31 hC eX0_valueSeenMost_18 h0 ?_
    refine J.icmp_ge hC eX0_valueSeenMost_21 (fun _ => ?_) (fun _ => ?_)
    · refine J.iinc (j := 3) (fun x3_1 => [(3, .int x3_1), (0, .ref (xad (cX C) p0)), (1, .int x1), (2, .int x2), (4, .int x4)]) hC eX0_valueSeenMost_75 rfl ci_1 (by decide) (fun _ => rfl) (fun x3_1 => ?_)
      refine J.goto hC eX0_valueSeenMost_78 ?_
      refine J.sub [1, 2, 3, 0] rfl ?_
      exact hk_6 p0 h0 x1 x2 x3_1 μ
    · refine J.iconst hC eX0_valueSeenMost_24 ci_0 ?_
      refine J.istore [(5, .int (0 : Int32)), (0, .ref (xad (cX C) p0)), (1, .int x1), (2, .int x2), (3, .int x3), (4, .int x4)] hC eX0_valueSeenMost_25 (by decide) rfl ?_
      refine J.sub [1, 2, 3, 4, 5, 0] rfl ?_
      exact j_X0_valueSeenMost_27 hC hr kc_6 hk_6 (L_X0_valueSeenMost_15 kc_6 n) ih 100000 p0 h0 x1 x2 x3 x4 (0 : Int32) μ
def L_X0_valueSeenMost_6 : Nat → Nat → Int32 → Int32 → Int32 → Mem → Option (Int32 × Mem)
  | 0, _, _, _, _, _ => none
  | n + 1, p0, x1, x2, x3, μ => if (16 : Int32) ≤ x3 then some (x1, μ) else L_X0_valueSeenMost_15 (L_X0_valueSeenMost_6  n) 100000 p0 x1 x2 x3 (0 : Int32) μ
set_option maxHeartbeats 4000000 in
theorem j_X0_valueSeenMost_6 {C : Cx} (hC : Ok C cX0_valueSeenMost 7 RX0 (rmF 1 21)) (hr : (cT C).sig.returnType = (some .int)) : ∀ (n : Nat) (p0 : Nat) (h0 : kd p0 = 0) (x1 : Int32) (x2 : Int32) (x3 : Int32) (μ : Mem), J C (KI C) μ 6 [(0, .ref (xad (cX C) p0)), (1, .int x1), (2, .int x2), (3, .int x3)] [] (L_X0_valueSeenMost_6  n p0 x1 x2 x3 μ) := by
  intro n
  induction n with
  | zero => intros; exact J.no
  | succ n ih =>
    intro p0 h0 x1 x2 x3 μ
    rw [L_X0_valueSeenMost_6]
    refine J.iload_n (j := 3) hC eX0_valueSeenMost_6 rfl ?_
    refine J.bipush hC eX0_valueSeenMost_7 cb_16 ?_
    refine J.icmp_ge hC eX0_valueSeenMost_9 (fun _ => ?_) (fun _ => ?_)
    · refine J.iload_n (j := 1) hC eX0_valueSeenMost_81 rfl ?_
      exact J.iret hC hr eX0_valueSeenMost_82
    · refine J.iconst hC eX0_valueSeenMost_12 ci_0 ?_
      refine J.istore [(4, .int (0 : Int32)), (0, .ref (xad (cX C) p0)), (1, .int x1), (2, .int x2), (3, .int x3)] hC eX0_valueSeenMost_13 (by decide) rfl ?_
      refine J.sub [1, 2, 3, 4, 0] rfl ?_
      exact j_X0_valueSeenMost_15 hC hr (L_X0_valueSeenMost_6  n) ih 100000 p0 h0 x1 x2 x3 (0 : Int32) μ
def G_X0_valueSeenMost (p0 : Nat) (μ : Mem) : Option (Int32 × Mem) :=
  L_X0_valueSeenMost_6  100000 p0 (0 : Int32) (-1 : Int32) (0 : Int32) μ
set_option maxHeartbeats 4000000 in
theorem c_X0_valueSeenMost {X : Wd} (hX : WdOk X) (p0 : Nat) (h0 : kd p0 = 0) (μ : Mem) : CtI X yX0_valueSeenMost cX0_valueSeenMost 7 (some .int) (rmF 1 21) [.ref (xad X p0)] μ (G_X0_valueSeenMost p0 μ) := by
  refine CtI.of hX (plainFor_of_name (by decide)) (by exact Nat.le_of_ble_eq_true rfl) ?_
  intro C hCX hC hr
  subst hCX
  show J C (KI C) μ 0 [(0, .ref (xad (cX C) p0))] [] _
  unfold G_X0_valueSeenMost
  refine J.iconst hC eX0_valueSeenMost_0 ci_0 ?_
  refine J.istore_n [(1, .int (0 : Int32)), (0, .ref (xad (cX C) p0))] hC eX0_valueSeenMost_1 (by decide) rfl ?_
  refine J.iconst hC eX0_valueSeenMost_2 ci_m1 ?_
  refine J.istore_n [(2, .int (-1 : Int32)), (1, .int (0 : Int32)), (0, .ref (xad (cX C) p0))] hC eX0_valueSeenMost_3 (by decide) rfl ?_
  refine J.iconst hC eX0_valueSeenMost_4 ci_0 ?_
  refine J.istore_n [(3, .int (0 : Int32)), (2, .int (-1 : Int32)), (1, .int (0 : Int32)), (0, .ref (xad (cX C) p0))] hC eX0_valueSeenMost_5 (by decide) rfl ?_
  refine J.sub [3, 2, 1, 0] rfl ?_
  exact j_X0_valueSeenMost_6 hC hr  100000 p0 h0 (0 : Int32) (-1 : Int32) (0 : Int32) μ
-- X8_rewind
theorem eX8_rewind_0 : DD cX8_rewind 0 (.aload_n 0) 1 1 := ⟨by decide +kernel, rfl⟩
theorem eX8_rewind_1 : DD cX8_rewind 1 (.iconst 0) 1 2 := ⟨by decide +kernel, rfl⟩
theorem eX8_rewind_2 : DD cX8_rewind 2 (.putfield 19) 3 5 := ⟨by decide +kernel, rfl⟩
theorem eX8_rewind_5 : DD cX8_rewind 5 (.aload_n 0) 1 6 := ⟨by decide +kernel, rfl⟩
theorem eX8_rewind_6 : DD cX8_rewind 6 (.iconst (-1)) 1 7 := ⟨by decide +kernel, rfl⟩
theorem eX8_rewind_7 : DD cX8_rewind 7 (.putfield 22) 3 10 := ⟨by decide +kernel, rfl⟩
theorem eX8_rewind_10 : DD cX8_rewind 10 (.return_) 1 11 := ⟨by decide +kernel, rfl⟩
def G_X8_rewind  (μ : Mem) : Option (Unit × Mem) :=
  lb (wI μ 1 2 (0 : Int32)) (fun μ_1 => lb (wI μ_1 1 3 (-1 : Int32)) (fun μ_2 => some ((), μ_2)))
set_option maxHeartbeats 4000000 in
theorem c_X8_rewind {X : Wd} (hX : WdOk X)  (μ : Mem) : CtV X yX8_rewind cX8_rewind 1 none (rmF 0 0) [.ref (xad X 1)] μ (G_X8_rewind  μ) := by
  refine CtV.of hX (plainFor_of_name (by decide)) (by exact Nat.le_of_ble_eq_true rfl) ?_
  intro C hCX hC hr
  subst hCX
  show J C (KV C) μ 0 [(0, .ref (xad (cX C) 1))] [] _
  unfold G_X8_rewind
  refine J.aload_n (j := 0) hC eX8_rewind_0 rfl ?_
  refine J.iconst hC eX8_rewind_1 ci_0 ?_
  refine pf_X8_19 hC eX8_rewind_2 kk_1 (fun μ_1 => ?_)
  refine J.aload_n (j := 0) hC eX8_rewind_5 rfl ?_
  refine J.iconst hC eX8_rewind_6 ci_m1 ?_
  refine pf_X8_22 hC eX8_rewind_7 kk_1 (fun μ_2 => ?_)
  exact J.vret hC hr eX8_rewind_10
-- X1_resetItems
theorem eX1_resetItems_0 : DD cX1_resetItems 0 (.getstatic 89) 3 3 := ⟨by decide +kernel, rfl⟩
theorem eX1_resetItems_3 : DD cX1_resetItems 3 (.iload_n 1) 1 4 := ⟨by decide +kernel, rfl⟩
theorem eX1_resetItems_4 : DD cX1_resetItems 4 (.aload_n 0) 1 5 := ⟨by decide +kernel, rfl⟩
theorem eX1_resetItems_5 : DD cX1_resetItems 5 (.getfield 11) 3 8 := ⟨by decide +kernel, rfl⟩
theorem eX1_resetItems_8 : DD cX1_resetItems 8 (.iload_n 1) 1 9 := ⟨by decide +kernel, rfl⟩
theorem eX1_resetItems_9 : DD cX1_resetItems 9 (.iload_n 2) 1 10 := ⟨by decide +kernel, rfl⟩
theorem eX1_resetItems_10 : DD cX1_resetItems 10 (.iload_n 1) 1 11 := ⟨by decide +kernel, rfl⟩
theorem eX1_resetItems_11 : DD cX1_resetItems 11 (.isub) 1 12 := ⟨by decide +kernel, rfl⟩
theorem eX1_resetItems_12 : DD cX1_resetItems 12 (.invokestatic 66) 3 15 := ⟨by decide +kernel, rfl⟩
theorem eX1_resetItems_15 : DD cX1_resetItems 15 (.return_) 1 16 := ⟨by decide +kernel, rfl⟩
def G_X1_resetItems (x1 : Int32) (x2 : Int32) (μ : Mem) : Option (Unit × Mem) :=
  gq (cpB x1 x1 (x2 - x1) 8 8) (lb (wT μ tUSUAL (nx x1) 4 (nx x1) (nx (x2 - x1))) (fun μ_1 => some ((), μ_1)))
set_option maxHeartbeats 4000000 in
theorem c_X1_resetItems {X : Wd} (hX : WdOk X) (x1 : Int32) (x2 : Int32) (μ : Mem) : CtV X yX1_resetItems cX1_resetItems 3 none (rmF 1 23) [.ref (xad X 3), .int x1, .int x2] μ (G_X1_resetItems x1 x2 μ) := by
  refine CtV.of hX (plainFor_of_name (by decide)) (by exact Nat.le_of_ble_eq_true rfl) ?_
  intro C hCX hC hr
  subst hCX
  show J C (KV C) μ 0 [(0, .ref (xad (cX C) 3)), (1, .int x1), (2, .int x2)] [] _
  unfold G_X1_resetItems
  refine J.gets hC eX1_resetItems_0 hC.St.2.2.1.1 fl_X1_89 rfl ?_
  refine J.iload_n (j := 1) hC eX1_resetItems_3 rfl ?_
  refine J.aload_n (j := 0) hC eX1_resetItems_4 rfl ?_
  refine gf_X1_11 (q := 4) hC eX1_resetItems_5 kk_3 rfl ?_
  refine J.iload_n (j := 1) hC eX1_resetItems_8 rfl ?_
  refine J.iload_n (j := 2) hC eX1_resetItems_9 rfl ?_
  refine J.iload_n (j := 1) hC eX1_resetItems_10 rfl ?_
  refine J.isub hC eX1_resetItems_11 ?_
  refine J.tcpy ik_8 hC eX1_resetItems_12 hC.St.2.2.1.2 kk_4 ml_X1_66 w_an w_as w_is (Nat.le_of_ble_eq_true rfl) (Nat.le_of_ble_eq_true rfl) (fun μ_1 => ?_)
  exact J.vret hC hr eX1_resetItems_15
-- X8_peek
theorem eX8_peek_0 : DD cX8_peek 0 (.aload_n 0) 1 1 := ⟨by decide +kernel, rfl⟩
theorem eX8_peek_1 : DD cX8_peek 1 (.getfield 19) 3 4 := ⟨by decide +kernel, rfl⟩
theorem eX8_peek_4 : DD cX8_peek 4 (.aload_n 0) 1 5 := ⟨by decide +kernel, rfl⟩
theorem eX8_peek_5 : DD cX8_peek 5 (.getfield 15) 3 8 := ⟨by decide +kernel, rfl⟩
theorem eX8_peek_8 : DB cX8_peek 8 (.if_icmp .ge 30) (30) 11 38 := ⟨by decide +kernel, rfl, by decide⟩
theorem eX8_peek_11 : DD cX8_peek 11 (.aload_n 0) 1 12 := ⟨by decide +kernel, rfl⟩
theorem eX8_peek_12 : DD cX8_peek 12 (.getfield 9) 3 15 := ⟨by decide +kernel, rfl⟩
theorem eX8_peek_15 : DD cX8_peek 15 (.aload_n 0) 1 16 := ⟨by decide +kernel, rfl⟩
theorem eX8_peek_16 : DD cX8_peek 16 (.getfield 19) 3 19 := ⟨by decide +kernel, rfl⟩
theorem eX8_peek_19 : DD cX8_peek 19 (.iaload) 1 20 := ⟨by decide +kernel, rfl⟩
theorem eX8_peek_20 : DD cX8_peek 20 (.bipush 32) 2 22 := ⟨by decide +kernel, rfl⟩
theorem eX8_peek_22 : DB cX8_peek 22 (.if_icmp .ne 16) (16) 25 38 := ⟨by decide +kernel, rfl, by decide⟩
theorem eX8_peek_25 : DD cX8_peek 25 (.aload_n 0) 1 26 := ⟨by decide +kernel, rfl⟩
theorem eX8_peek_26 : DD cX8_peek 26 (.dup) 1 27 := ⟨by decide +kernel, rfl⟩
theorem eX8_peek_27 : DD cX8_peek 27 (.getfield 19) 3 30 := ⟨by decide +kernel, rfl⟩
theorem eX8_peek_30 : DD cX8_peek 30 (.iconst 1) 1 31 := ⟨by decide +kernel, rfl⟩
theorem eX8_peek_31 : DD cX8_peek 31 (.iadd) 1 32 := ⟨by decide +kernel, rfl⟩
theorem eX8_peek_32 : DD cX8_peek 32 (.putfield 19) 3 35 := ⟨by decide +kernel, rfl⟩
theorem eX8_peek_35 : DB cX8_peek 35 (.goto (-35)) (-35) 38 0 := ⟨by decide +kernel, rfl, by decide⟩
theorem eX8_peek_38 : DD cX8_peek 38 (.aload_n 0) 1 39 := ⟨by decide +kernel, rfl⟩
theorem eX8_peek_39 : DD cX8_peek 39 (.getfield 19) 3 42 := ⟨by decide +kernel, rfl⟩
theorem eX8_peek_42 : DD cX8_peek 42 (.aload_n 0) 1 43 := ⟨by decide +kernel, rfl⟩
theorem eX8_peek_43 : DD cX8_peek 43 (.getfield 15) 3 46 := ⟨by decide +kernel, rfl⟩
theorem eX8_peek_46 : DB cX8_peek 46 (.if_icmp .ge 15) (15) 49 61 := ⟨by decide +kernel, rfl, by decide⟩
theorem eX8_peek_49 : DD cX8_peek 49 (.aload_n 0) 1 50 := ⟨by decide +kernel, rfl⟩
theorem eX8_peek_50 : DD cX8_peek 50 (.getfield 9) 3 53 := ⟨by decide +kernel, rfl⟩
theorem eX8_peek_53 : DD cX8_peek 53 (.aload_n 0) 1 54 := ⟨by decide +kernel, rfl⟩
theorem eX8_peek_54 : DD cX8_peek 54 (.getfield 19) 3 57 := ⟨by decide +kernel, rfl⟩
theorem eX8_peek_57 : DD cX8_peek 57 (.iaload) 1 58 := ⟨by decide +kernel, rfl⟩
theorem eX8_peek_58 : DB cX8_peek 58 (.goto 4) (4) 61 62 := ⟨by decide +kernel, rfl, by decide⟩
theorem eX8_peek_61 : DD cX8_peek 61 (.iconst 0) 1 62 := ⟨by decide +kernel, rfl⟩
theorem eX8_peek_62 : DD cX8_peek 62 (.ireturn) 1 63 := ⟨by decide +kernel, rfl⟩
def F_X8_peek_38  (μ : Mem) : Option (Int32 × Mem) :=
  if (rI μ 1 1) ≤ (rI μ 1 2) then some ((0 : Int32), μ) else gq (inB (rI μ 1 2) 240) (some (rI μ 2 (nx (rI μ 1 2)), μ))
set_option maxHeartbeats 4000000 in
theorem j_X8_peek_38 {C : Cx} (hC : Ok C cX8_peek 1 RX8 (rmF 0 0)) (hr : (cT C).sig.returnType = (some .int))  (μ : Mem) : J C (KI C) μ 38 [(0, .ref (xad (cX C) 1))] [] (F_X8_peek_38   μ) := by
  unfold F_X8_peek_38
  refine J.aload_n (j := 0) hC eX8_peek_38 rfl ?_
  refine gf_X8_19 hC eX8_peek_39 kk_1 ?_
  refine J.aload_n (j := 0) hC eX8_peek_42 rfl ?_
  refine gf_X8_15 hC eX8_peek_43 kk_1 ?_
  refine J.icmp_ge hC eX8_peek_46 (fun _ => ?_) (fun _ => ?_)
  · refine J.iconst hC eX8_peek_61 ci_0 ?_
    exact J.iret hC hr eX8_peek_62
  · refine J.aload_n (j := 0) hC eX8_peek_49 rfl ?_
    refine gf_X8_9 (q := 2) hC eX8_peek_50 kk_1 rfl ?_
    refine J.aload_n (j := 0) hC eX8_peek_53 rfl ?_
    refine gf_X8_19 hC eX8_peek_54 kk_1 ?_
    refine J.iald ik_240 hC eX8_peek_57 kk_2 ?_
    refine J.goto hC eX8_peek_58 ?_
    exact J.iret hC hr eX8_peek_62
def L_X8_peek_0 : Nat → Mem → Option (Int32 × Mem)
  | 0, _ => none
  | n + 1, μ => if (rI μ 1 1) ≤ (rI μ 1 2) then F_X8_peek_38   μ else gq (inB (rI μ 1 2) 240) (if (rI μ 2 (nx (rI μ 1 2))) = (32 : Int32) then lb (wI μ 1 2 ((rI μ 1 2) + (1 : Int32))) (fun μ_1 => L_X8_peek_0  n  μ_1) else F_X8_peek_38   μ)
set_option maxHeartbeats 4000000 in
theorem j_X8_peek_0 {C : Cx} (hC : Ok C cX8_peek 1 RX8 (rmF 0 0)) (hr : (cT C).sig.returnType = (some .int)) : ∀ (n : Nat)  (μ : Mem), J C (KI C) μ 0 [(0, .ref (xad (cX C) 1))] [] (L_X8_peek_0  n  μ) := by
  intro n
  induction n with
  | zero => intros; exact J.no
  | succ n ih =>
    intro  μ
    rw [L_X8_peek_0]
    refine J.aload_n (j := 0) hC eX8_peek_0 rfl ?_
    refine gf_X8_19 hC eX8_peek_1 kk_1 ?_
    refine J.aload_n (j := 0) hC eX8_peek_4 rfl ?_
    refine gf_X8_15 hC eX8_peek_5 kk_1 ?_
    refine J.icmp_ge hC eX8_peek_8 (fun _ => ?_) (fun _ => ?_)
    · refine J.sub [0] rfl ?_
      exact j_X8_peek_38 hC hr   μ
    · refine J.aload_n (j := 0) hC eX8_peek_11 rfl ?_
      refine gf_X8_9 (q := 2) hC eX8_peek_12 kk_1 rfl ?_
      refine J.aload_n (j := 0) hC eX8_peek_15 rfl ?_
      refine gf_X8_19 hC eX8_peek_16 kk_1 ?_
      refine J.iald ik_240 hC eX8_peek_19 kk_2 ?_
      refine J.bipush hC eX8_peek_20 cb_32 ?_
      refine J.icmp_ne hC eX8_peek_22 (fun _ => ?_) (fun _ => ?_)
      · refine J.aload_n (j := 0) hC eX8_peek_25 rfl ?_
        refine J.dup hC eX8_peek_26 rfl ?_
        refine gf_X8_19 hC eX8_peek_27 kk_1 ?_
        refine J.iconst hC eX8_peek_30 ci_1 ?_
        refine J.iadd hC eX8_peek_31 ?_
        refine pf_X8_19 hC eX8_peek_32 kk_1 (fun μ_1 => ?_)
        refine J.goto hC eX8_peek_35 ?_
        refine J.sub [0] rfl ?_
        exact ih  μ_1
      · refine J.sub [0] rfl ?_
        exact j_X8_peek_38 hC hr   μ
def G_X8_peek  (μ : Mem) : Option (Int32 × Mem) :=
  L_X8_peek_0  100000  μ
set_option maxHeartbeats 4000000 in
theorem c_X8_peek {X : Wd} (hX : WdOk X)  (μ : Mem) : CtI X yX8_peek cX8_peek 1 (some .int) (rmF 0 0) [.ref (xad X 1)] μ (G_X8_peek  μ) := by
  refine CtI.of hX (plainFor_of_name (by decide)) (by exact Nat.le_of_ble_eq_true rfl) ?_
  intro C hCX hC hr
  subst hCX
  show J C (KI C) μ 0 [(0, .ref (xad (cX C) 1))] [] _
  unfold G_X8_peek
  refine J.sub [0] rfl ?_
  exact j_X8_peek_0 hC hr  100000  μ
-- X1_itemOf
theorem eX1_itemOf_0 : DD cX1_itemOf 0 (.iload_n 1) 1 1 := ⟨by decide +kernel, rfl⟩
theorem eX1_itemOf_1 : DD cX1_itemOf 1 (.istore_n 3) 1 2 := ⟨by decide +kernel, rfl⟩
theorem eX1_itemOf_2 : DD cX1_itemOf 2 (.iload_n 3) 1 3 := ⟨by decide +kernel, rfl⟩
theorem eX1_itemOf_3 : DD cX1_itemOf 3 (.iload_n 2) 1 4 := ⟨by decide +kernel, rfl⟩
theorem eX1_itemOf_4 : DB cX1_itemOf 4 (.if_icmp .ge 21) (21) 7 25 := ⟨by decide +kernel, rfl, by decide⟩
theorem eX1_itemOf_7 : DD cX1_itemOf 7 (.ldc 92) 2 9 := ⟨by decide +kernel, rfl⟩
theorem eX1_itemOf_9 : DD cX1_itemOf 9 (.iload_n 3) 1 10 := ⟨by decide +kernel, rfl⟩
theorem eX1_itemOf_10 : DD cX1_itemOf 10 (.invokevirtual 94) 3 13 := ⟨by decide +kernel, rfl⟩
theorem eX1_itemOf_13 : DD cX1_itemOf 13 (.iload_n 0) 1 14 := ⟨by decide +kernel, rfl⟩
theorem eX1_itemOf_14 : DB cX1_itemOf 14 (.if_icmp .ne 5) (5) 17 19 := ⟨by decide +kernel, rfl, by decide⟩
theorem eX1_itemOf_17 : DD cX1_itemOf 17 (.iload_n 3) 1 18 := ⟨by decide +kernel, rfl⟩
theorem eX1_itemOf_18 : DD cX1_itemOf 18 (.ireturn) 1 19 := ⟨by decide +kernel, rfl⟩
theorem eX1_itemOf_19 : DD cX1_itemOf 19 (.iinc 3 1) 3 22 := ⟨by decide +kernel, rfl⟩
theorem eX1_itemOf_22 : DB cX1_itemOf 22 (.goto (-20)) (-20) 25 2 := ⟨by decide +kernel, rfl, by decide⟩
theorem eX1_itemOf_25 : DD cX1_itemOf 25 (.iconst (-1)) 1 26 := ⟨by decide +kernel, rfl⟩
theorem eX1_itemOf_26 : DD cX1_itemOf 26 (.ireturn) 1 27 := ⟨by decide +kernel, rfl⟩
def L_X1_itemOf_2 : Nat → Int32 → Int32 → Int32 → Mem → Option (Int32 × Mem)
  | 0, _, _, _, _ => none
  | n + 1, x0, x2, x3, μ => if x2 ≤ x3 then some ((-1 : Int32), μ) else bd (G_J0_charAt_5068e_s0 x3 μ) (fun r_2 μ_1 => if r_2 = x0 then some (x3, μ_1) else lb (x3 + (1 : Int32)) (fun x3_3 => L_X1_itemOf_2  n x0 x2 x3_3 μ_1))
set_option maxHeartbeats 4000000 in
theorem j_X1_itemOf_2 {C : Cx} (hC : Ok C cX1_itemOf 4 RX1 (rmF 4 85)) (hr : (cT C).sig.returnType = (some .int)) : ∀ (n : Nat) (x0 : Int32) (x2 : Int32) (x3 : Int32) (μ : Mem), J C (KI C) μ 2 [(0, .int x0), (2, .int x2), (3, .int x3)] [] (L_X1_itemOf_2  n x0 x2 x3 μ) := by
  intro n
  induction n with
  | zero => intros; exact J.no
  | succ n ih =>
    intro x0 x2 x3 μ
    rw [L_X1_itemOf_2]
    refine J.iload_n (j := 2) hC eX1_itemOf_2 rfl ?_
    refine J.iload_n (j := 1) hC eX1_itemOf_3 rfl ?_
    refine J.icmp_ge hC eX1_itemOf_4 (fun _ => ?_) (fun _ => ?_)
    · refine J.iconst hC eX1_itemOf_25 ci_m1 ?_
      exact J.iret hC hr eX1_itemOf_26
    · refine J.ldcS hC eX1_itemOf_7 hC.St.2.2.2.2.2.1.1 ?_
      refine J.iload_n (j := 2) hC eX1_itemOf_9 rfl ?_
      refine J.callTI (i := 0) (st := []) hC eX1_itemOf_10 (by decide) rfl ml_X1_94 mv_J0_charAt_5068e (Rle_of (Nat.le_of_ble_eq_true rfl) (Nat.le_of_ble_eq_true rfl)) (c_J0_charAt_5068e_s0 hC.X x3 μ) rfl rfl (Nat.le_of_ble_eq_true rfl) (fun r_2 μ_1 => ?_)
      refine J.iload_n (j := 0) hC eX1_itemOf_13 rfl ?_
      refine J.icmp_ne hC eX1_itemOf_14 (fun _ => ?_) (fun _ => ?_)
      · refine J.iload_n (j := 2) hC eX1_itemOf_17 rfl ?_
        exact J.iret hC hr eX1_itemOf_18
      · refine J.iinc (j := 2) (fun x3_3 => [(3, .int x3_3), (0, .int x0), (2, .int x2)]) hC eX1_itemOf_19 rfl ci_1 (by decide) (fun _ => rfl) (fun x3_3 => ?_)
        refine J.goto hC eX1_itemOf_22 ?_
        refine J.sub [1, 2, 0] rfl ?_
        exact ih x0 x2 x3_3 μ_1
def G_X1_itemOf (x0 : Int32) (x1 : Int32) (x2 : Int32) (μ : Mem) : Option (Int32 × Mem) :=
  L_X1_itemOf_2  100000 x0 x2 x1 μ
set_option maxHeartbeats 4000000 in
theorem c_X1_itemOf {X : Wd} (hX : WdOk X) (x0 : Int32) (x1 : Int32) (x2 : Int32) (μ : Mem) : CtI X yX1_itemOf cX1_itemOf 4 (some .int) (rmF 4 85) [.int x0, .int x1, .int x2] μ (G_X1_itemOf x0 x1 x2 μ) := by
  refine CtI.of hX (plainFor_of_name (by decide)) (by exact Nat.le_of_ble_eq_true rfl) ?_
  intro C hCX hC hr
  subst hCX
  show J C (KI C) μ 0 [(0, .int x0), (1, .int x1), (2, .int x2)] [] _
  unfold G_X1_itemOf
  refine J.iload_n (j := 1) hC eX1_itemOf_0 rfl ?_
  refine J.istore_n [(3, .int x1), (0, .int x0), (1, .int x1), (2, .int x2)] hC eX1_itemOf_1 (by decide) rfl ?_
  refine J.sub [1, 3, 0] rfl ?_
  exact j_X1_itemOf_2 hC hr  100000 x0 x2 x1 μ
-- X8_fail
theorem eX8_fail_0 : DD cX8_fail 0 (.aload_n 0) 1 1 := ⟨by decide +kernel, rfl⟩
theorem eX8_fail_1 : DD cX8_fail 1 (.iload_n 1) 1 2 := ⟨by decide +kernel, rfl⟩
theorem eX8_fail_2 : DD cX8_fail 2 (.putfield 22) 3 5 := ⟨by decide +kernel, rfl⟩
theorem eX8_fail_5 : DD cX8_fail 5 (.iconst 0) 1 6 := ⟨by decide +kernel, rfl⟩
theorem eX8_fail_6 : DD cX8_fail 6 (.ireturn) 1 7 := ⟨by decide +kernel, rfl⟩
def G_X8_fail (x1 : Int32) (μ : Mem) : Option (Int32 × Mem) :=
  lb (wI μ 1 3 x1) (fun μ_1 => some ((0 : Int32), μ_1))
set_option maxHeartbeats 4000000 in
theorem c_X8_fail {X : Wd} (hX : WdOk X) (x1 : Int32) (μ : Mem) : CtI X yX8_fail cX8_fail 2 (some .boolean) (rmF 0 0) [.ref (xad X 1), .int x1] μ (G_X8_fail x1 μ) := by
  refine CtI.of hX (plainFor_of_name (by decide)) (by exact Nat.le_of_ble_eq_true rfl) ?_
  intro C hCX hC hr
  subst hCX
  show J C (KI C) μ 0 [(0, .ref (xad (cX C) 1)), (1, .int x1)] [] _
  unfold G_X8_fail
  refine J.aload_n (j := 0) hC eX8_fail_0 rfl ?_
  refine J.iload_n (j := 1) hC eX8_fail_1 rfl ?_
  refine pf_X8_22 hC eX8_fail_2 kk_1 (fun μ_1 => ?_)
  refine J.iconst hC eX8_fail_5 ci_0 ?_
  exact J.zretB hC hr eX8_fail_6 rfl
-- X8_isDigitNext
theorem eX8_isDigitNext_0 : DD cX8_isDigitNext 0 (.aload_n 0) 1 1 := ⟨by decide +kernel, rfl⟩
theorem eX8_isDigitNext_1 : DD cX8_isDigitNext 1 (.getfield 19) 3 4 := ⟨by decide +kernel, rfl⟩
theorem eX8_isDigitNext_4 : DD cX8_isDigitNext 4 (.aload_n 0) 1 5 := ⟨by decide +kernel, rfl⟩
theorem eX8_isDigitNext_5 : DD cX8_isDigitNext 5 (.getfield 15) 3 8 := ⟨by decide +kernel, rfl⟩
theorem eX8_isDigitNext_8 : DB cX8_isDigitNext 8 (.if_icmp .ge 35) (35) 11 43 := ⟨by decide +kernel, rfl, by decide⟩
theorem eX8_isDigitNext_11 : DD cX8_isDigitNext 11 (.aload_n 0) 1 12 := ⟨by decide +kernel, rfl⟩
theorem eX8_isDigitNext_12 : DD cX8_isDigitNext 12 (.getfield 9) 3 15 := ⟨by decide +kernel, rfl⟩
theorem eX8_isDigitNext_15 : DD cX8_isDigitNext 15 (.aload_n 0) 1 16 := ⟨by decide +kernel, rfl⟩
theorem eX8_isDigitNext_16 : DD cX8_isDigitNext 16 (.getfield 19) 3 19 := ⟨by decide +kernel, rfl⟩
theorem eX8_isDigitNext_19 : DD cX8_isDigitNext 19 (.iaload) 1 20 := ⟨by decide +kernel, rfl⟩
theorem eX8_isDigitNext_20 : DD cX8_isDigitNext 20 (.bipush 48) 2 22 := ⟨by decide +kernel, rfl⟩
theorem eX8_isDigitNext_22 : DB cX8_isDigitNext 22 (.if_icmp .lt 21) (21) 25 43 := ⟨by decide +kernel, rfl, by decide⟩
theorem eX8_isDigitNext_25 : DD cX8_isDigitNext 25 (.aload_n 0) 1 26 := ⟨by decide +kernel, rfl⟩
theorem eX8_isDigitNext_26 : DD cX8_isDigitNext 26 (.getfield 9) 3 29 := ⟨by decide +kernel, rfl⟩
theorem eX8_isDigitNext_29 : DD cX8_isDigitNext 29 (.aload_n 0) 1 30 := ⟨by decide +kernel, rfl⟩
theorem eX8_isDigitNext_30 : DD cX8_isDigitNext 30 (.getfield 19) 3 33 := ⟨by decide +kernel, rfl⟩
theorem eX8_isDigitNext_33 : DD cX8_isDigitNext 33 (.iaload) 1 34 := ⟨by decide +kernel, rfl⟩
theorem eX8_isDigitNext_34 : DD cX8_isDigitNext 34 (.bipush 57) 2 36 := ⟨by decide +kernel, rfl⟩
theorem eX8_isDigitNext_36 : DB cX8_isDigitNext 36 (.if_icmp .gt 7) (7) 39 43 := ⟨by decide +kernel, rfl, by decide⟩
theorem eX8_isDigitNext_39 : DD cX8_isDigitNext 39 (.iconst 1) 1 40 := ⟨by decide +kernel, rfl⟩
theorem eX8_isDigitNext_40 : DB cX8_isDigitNext 40 (.goto 4) (4) 43 44 := ⟨by decide +kernel, rfl, by decide⟩
theorem eX8_isDigitNext_43 : DD cX8_isDigitNext 43 (.iconst 0) 1 44 := ⟨by decide +kernel, rfl⟩
theorem eX8_isDigitNext_44 : DD cX8_isDigitNext 44 (.ireturn) 1 45 := ⟨by decide +kernel, rfl⟩
def G_X8_isDigitNext  (μ : Mem) : Option (Int32 × Mem) :=
  if (rI μ 1 1) ≤ (rI μ 1 2) then some ((0 : Int32), μ) else gq (inB (rI μ 1 2) 240) (if (rI μ 2 (nx (rI μ 1 2))) < (48 : Int32) then some ((0 : Int32), μ) else gq (inB (rI μ 1 2) 240) (if (57 : Int32) < (rI μ 2 (nx (rI μ 1 2))) then some ((0 : Int32), μ) else some ((1 : Int32), μ)))
set_option maxHeartbeats 4000000 in
theorem c_X8_isDigitNext {X : Wd} (hX : WdOk X)  (μ : Mem) : CtI X yX8_isDigitNext cX8_isDigitNext 1 (some .boolean) (rmF 0 0) [.ref (xad X 1)] μ (G_X8_isDigitNext  μ) := by
  refine CtI.of hX (plainFor_of_name (by decide)) (by exact Nat.le_of_ble_eq_true rfl) ?_
  intro C hCX hC hr
  subst hCX
  show J C (KI C) μ 0 [(0, .ref (xad (cX C) 1))] [] _
  unfold G_X8_isDigitNext
  refine J.aload_n (j := 0) hC eX8_isDigitNext_0 rfl ?_
  refine gf_X8_19 hC eX8_isDigitNext_1 kk_1 ?_
  refine J.aload_n (j := 0) hC eX8_isDigitNext_4 rfl ?_
  refine gf_X8_15 hC eX8_isDigitNext_5 kk_1 ?_
  refine J.icmp_ge hC eX8_isDigitNext_8 (fun _ => ?_) (fun _ => ?_)
  · refine J.iconst hC eX8_isDigitNext_43 ci_0 ?_
    exact J.zretB hC hr eX8_isDigitNext_44 rfl
  · refine J.aload_n (j := 0) hC eX8_isDigitNext_11 rfl ?_
    refine gf_X8_9 (q := 2) hC eX8_isDigitNext_12 kk_1 rfl ?_
    refine J.aload_n (j := 0) hC eX8_isDigitNext_15 rfl ?_
    refine gf_X8_19 hC eX8_isDigitNext_16 kk_1 ?_
    refine J.iald ik_240 hC eX8_isDigitNext_19 kk_2 ?_
    refine J.bipush hC eX8_isDigitNext_20 cb_48 ?_
    refine J.icmp_lt hC eX8_isDigitNext_22 (fun _ => ?_) (fun _ => ?_)
    · refine J.iconst hC eX8_isDigitNext_43 ci_0 ?_
      exact J.zretB hC hr eX8_isDigitNext_44 rfl
    · refine J.aload_n (j := 0) hC eX8_isDigitNext_25 rfl ?_
      refine gf_X8_9 (q := 2) hC eX8_isDigitNext_26 kk_1 rfl ?_
      refine J.aload_n (j := 0) hC eX8_isDigitNext_29 rfl ?_
      refine gf_X8_19 hC eX8_isDigitNext_30 kk_1 ?_
      refine J.iald ik_240 hC eX8_isDigitNext_33 kk_2 ?_
      refine J.bipush hC eX8_isDigitNext_34 cb_57 ?_
      refine J.icmp_gt hC eX8_isDigitNext_36 (fun _ => ?_) (fun _ => ?_)
      · refine J.iconst hC eX8_isDigitNext_43 ci_0 ?_
        exact J.zretB hC hr eX8_isDigitNext_44 rfl
      · refine J.iconst hC eX8_isDigitNext_39 ci_1 ?_
        refine J.goto hC eX8_isDigitNext_40 ?_
        exact J.zretB hC hr eX8_isDigitNext_44 rfl
