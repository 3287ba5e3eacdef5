-- X2_findUnit
theorem eX2_findUnit_0 : DD cX2_findUnit 0 (.aload_n 1) 1 1 := ⟨by decide +kernel, rfl⟩
theorem eX2_findUnit_1 : DD cX2_findUnit 1 (.getfield 72) 3 4 := ⟨by decide +kernel, rfl⟩
theorem eX2_findUnit_4 : DD cX2_findUnit 4 (.iload_n 2) 1 5 := ⟨by decide +kernel, rfl⟩
theorem eX2_findUnit_5 : DD cX2_findUnit 5 (.iaload) 1 6 := ⟨by decide +kernel, rfl⟩
theorem eX2_findUnit_6 : DD cX2_findUnit 6 (.iconst 3) 1 7 := ⟨by decide +kernel, rfl⟩
theorem eX2_findUnit_7 : DB cX2_findUnit 7 (.if_icmp .ne 28) (28) 10 35 := ⟨by decide +kernel, rfl, by decide⟩
theorem eX2_findUnit_10 : DD cX2_findUnit 10 (.aload_n 0) 1 11 := ⟨by decide +kernel, rfl⟩
theorem eX2_findUnit_11 : DD cX2_findUnit 11 (.aload_n 3) 1 12 := ⟨by decide +kernel, rfl⟩
theorem eX2_findUnit_12 : DD cX2_findUnit 12 (.getfield 75) 3 15 := ⟨by decide +kernel, rfl⟩
theorem eX2_findUnit_15 : DD cX2_findUnit 15 (.putfield 40) 3 18 := ⟨by decide +kernel, rfl⟩
theorem eX2_findUnit_18 : DD cX2_findUnit 18 (.aload_n 0) 1 19 := ⟨by decide +kernel, rfl⟩
theorem eX2_findUnit_19 : DD cX2_findUnit 19 (.aload_n 3) 1 20 := ⟨by decide +kernel, rfl⟩
theorem eX2_findUnit_20 : DD cX2_findUnit 20 (.getfield 75) 3 23 := ⟨by decide +kernel, rfl⟩
theorem eX2_findUnit_23 : DD cX2_findUnit 23 (.putfield 46) 3 26 := ⟨by decide +kernel, rfl⟩
theorem eX2_findUnit_26 : DD cX2_findUnit 26 (.aload_n 0) 1 27 := ⟨by decide +kernel, rfl⟩
theorem eX2_findUnit_27 : DD cX2_findUnit 27 (.aload_n 3) 1 28 := ⟨by decide +kernel, rfl⟩
theorem eX2_findUnit_28 : DD cX2_findUnit 28 (.getfield 75) 3 31 := ⟨by decide +kernel, rfl⟩
theorem eX2_findUnit_31 : DD cX2_findUnit 31 (.putfield 52) 3 34 := ⟨by decide +kernel, rfl⟩
theorem eX2_findUnit_34 : DD cX2_findUnit 34 (.return_) 1 35 := ⟨by decide +kernel, rfl⟩
theorem eX2_findUnit_35 : DD cX2_findUnit 35 (.aload_n 0) 1 36 := ⟨by decide +kernel, rfl⟩
theorem eX2_findUnit_36 : DD cX2_findUnit 36 (.iconst 0) 1 37 := ⟨by decide +kernel, rfl⟩
theorem eX2_findUnit_37 : DD cX2_findUnit 37 (.putfield 40) 3 40 := ⟨by decide +kernel, rfl⟩
theorem eX2_findUnit_40 : DD cX2_findUnit 40 (.aload_n 0) 1 41 := ⟨by decide +kernel, rfl⟩
theorem eX2_findUnit_41 : DD cX2_findUnit 41 (.iconst 0) 1 42 := ⟨by decide +kernel, rfl⟩
theorem eX2_findUnit_42 : DD cX2_findUnit 42 (.putfield 46) 3 45 := ⟨by decide +kernel, rfl⟩
theorem eX2_findUnit_45 : DD cX2_findUnit 45 (.aload_n 0) 1 46 := ⟨by decide +kernel, rfl⟩
theorem eX2_findUnit_46 : DD cX2_findUnit 46 (.iconst 0) 1 47 := ⟨by decide +kernel, rfl⟩
theorem eX2_findUnit_47 : DD cX2_findUnit 47 (.putfield 52) 3 50 := ⟨by decide +kernel, rfl⟩
theorem eX2_findUnit_50 : DD cX2_findUnit 50 (.iconst 0) 1 51 := ⟨by decide +kernel, rfl⟩
theorem eX2_findUnit_51 : DD cX2_findUnit 51 (.istore 4) 2 53 := ⟨by decide +kernel, rfl⟩
theorem eX2_findUnit_53 : DD cX2_findUnit 53 (.iload 4) 2 55 := ⟨by decide +kernel, rfl⟩
theorem eX2_findUnit_55 : DD cX2_findUnit 55 (.aload_n 3) 1 56 := ⟨by decide +kernel, rfl⟩
theorem eX2_findUnit_56 : DD cX2_findUnit 56 (.invokevirtual 80) 3 59 := ⟨by decide +kernel, rfl⟩
theorem eX2_findUnit_59 : DB cX2_findUnit 59 (.if_icmp .ge 24) (24) 62 83 := ⟨by decide +kernel, rfl, by decide⟩
theorem eX2_findUnit_62 : DD cX2_findUnit 62 (.aload_n 0) 1 63 := ⟨by decide +kernel, rfl⟩
theorem eX2_findUnit_63 : DD cX2_findUnit 63 (.aload_n 3) 1 64 := ⟨by decide +kernel, rfl⟩
theorem eX2_findUnit_64 : DD cX2_findUnit 64 (.iload 4) 2 66 := ⟨by decide +kernel, rfl⟩
theorem eX2_findUnit_66 : DD cX2_findUnit 66 (.aload_n 1) 1 67 := ⟨by decide +kernel, rfl⟩
theorem eX2_findUnit_67 : DD cX2_findUnit 67 (.iload_n 2) 1 68 := ⟨by decide +kernel, rfl⟩
theorem eX2_findUnit_68 : DD cX2_findUnit 68 (.aload_n 3) 1 69 := ⟨by decide +kernel, rfl⟩
theorem eX2_findUnit_69 : DD cX2_findUnit 69 (.iload 4) 2 71 := ⟨by decide +kernel, rfl⟩
theorem eX2_findUnit_71 : DD cX2_findUnit 71 (.invokestatic 83) 3 74 := ⟨by decide +kernel, rfl⟩
theorem eX2_findUnit_74 : DD cX2_findUnit 74 (.invokevirtual 87) 3 77 := ⟨by decide +kernel, rfl⟩
theorem eX2_findUnit_77 : DD cX2_findUnit 77 (.iinc 4 1) 3 80 := ⟨by decide +kernel, rfl⟩
theorem eX2_findUnit_80 : DB cX2_findUnit 80 (.goto (-27)) (-27) 83 53 := ⟨by decide +kernel, rfl, by decide⟩
theorem eX2_findUnit_83 : DD cX2_findUnit 83 (.return_) 1 84 := ⟨by decide +kernel, rfl⟩
def L_X2_findUnit_53 : Nat → Nat → Int32 → Nat → Int32 → Mem → Option (Unit × Mem)
  | 0, _, _, _, _, _ => none
  | n + 1, p1, x2, p3, x4, μ => bd (G_X4_size p3 μ) (fun r_2 μ_1 => if r_2 ≤ x4 then some ((), μ_1) else bd (G_X2_heldIn p1 x2 p3 x4 μ_1) (fun r_4 μ_3 => bd (G_X2_addBucket p3 x4 r_4 μ_3) (fun r_6 μ_5 => lb (x4 + (1 : Int32)) (fun x4_7 => L_X2_findUnit_53  n p1 x2 p3 x4_7 μ_5))))
set_option maxHeartbeats 4000000 in
theorem j_X2_findUnit_53 {C : Cx} (hC : Ok C cX2_findUnit 5 RX2 (rmF 3 68)) (hr : (cT C).sig.returnType = none) : ∀ (n : Nat) (p1 : Nat) (h1 : kd p1 = 9) (x2 : Int32) (p3 : Nat) (h3 : kd p3 = 4) (x4 : Int32) (μ : Mem), J C (KV C) μ 53 [(0, .ref (xad (cX C) 103)), (1, .ref (xad (cX C) p1)), (2, .int x2), (3, .ref (xad (cX C) p3)), (4, .int x4)] [] (L_X2_findUnit_53  n p1 x2 p3 x4 μ) := by
  intro n
  induction n with
  | zero => intros; exact J.no
  | succ n ih =>
    intro p1 h1 x2 p3 h3 x4 μ
    rw [L_X2_findUnit_53]
    refine J.iload (j := 4) hC eX2_findUnit_53 rfl ?_
    refine J.aload_n (j := 3) hC eX2_findUnit_55 rfl ?_
    refine J.callVI (st := [.int x4]) hC eX2_findUnit_56 h3 (by decide) rfl rfl ml_X2_80 mv_X4_size (Rle_of (Nat.le_of_ble_eq_true rfl) (Nat.le_of_ble_eq_true rfl)) (c_X4_size hC.X p3 h3 μ) rfl rfl (Nat.le_of_ble_eq_true rfl) (fun r_2 μ_1 => ?_)
    refine J.icmp_ge hC eX2_findUnit_59 (fun _ => ?_) (fun _ => ?_)
    · exact J.vret hC hr eX2_findUnit_83
    · refine J.aload_n (j := 0) hC eX2_findUnit_62 rfl ?_
      refine J.aload_n (j := 3) hC eX2_findUnit_63 rfl ?_
      refine J.iload (j := 4) hC eX2_findUnit_64 rfl ?_
      refine J.aload_n (j := 1) hC eX2_findUnit_66 rfl ?_
      refine J.iload_n (j := 2) hC eX2_findUnit_67 rfl ?_
      refine J.aload_n (j := 3) hC eX2_findUnit_68 rfl ?_
      refine J.iload (j := 4) hC eX2_findUnit_69 rfl ?_
      refine J.callSI (st := [.int x4, .ref (xad (cX C) p3), .ref (xad (cX C) 103)]) hC eX2_findUnit_71 ml_X2_83 mv_X2_heldIn (Rle_of (Nat.le_of_ble_eq_true rfl) (Nat.le_of_ble_eq_true rfl)) (c_X2_heldIn hC.X p1 h1 x2 p3 h3 x4 μ_1) rfl rfl (Nat.le_of_ble_eq_true rfl) (fun r_4 μ_3 => ?_)
      refine J.callVV (st := []) hC eX2_findUnit_74 kk_103 (by decide) rfl rfl ml_X2_87 mv_X2_addBucket (Rle_of (Nat.le_of_ble_eq_true rfl) (Nat.le_of_ble_eq_true rfl)) (c_X2_addBucket hC.X p3 h3 x4 r_4 μ_3) rfl rfl (Nat.le_of_ble_eq_true rfl) (fun r_6 μ_5 => ?_)
      refine J.iinc (j := 4) (fun x4_7 => [(4, .int x4_7), (0, .ref (xad (cX C) 103)), (1, .ref (xad (cX C) p1)), (2, .int x2), (3, .ref (xad (cX C) p3))]) hC eX2_findUnit_77 rfl ci_1 (by decide) (fun _ => rfl) (fun x4_7 => ?_)
      refine J.goto hC eX2_findUnit_80 ?_
      refine J.sub [1, 2, 3, 4, 0] rfl ?_
      exact ih p1 h1 x2 p3 h3 x4_7 μ_5
def G_X2_findUnit (p1 : Nat) (x2 : Int32) (p3 : Nat) (μ : Mem) : Option (Unit × Mem) :=
  gq (inB x2 6) (if (rI μ (p1 + 3) (nx x2)) = (3 : Int32) then lb (wI μ 103 3 (rI μ p3 3)) (fun μ_1 => lb (wI μ_1 103 4 (rI μ_1 p3 3)) (fun μ_2 => lb (wI μ_2 103 5 (rI μ_2 p3 3)) (fun μ_3 => some ((), μ_3)))) else lb (wI μ 103 3 (0 : Int32)) (fun μ_4 => lb (wI μ_4 103 4 (0 : Int32)) (fun μ_5 => lb (wI μ_5 103 5 (0 : Int32)) (fun μ_6 => L_X2_findUnit_53  100000 p1 x2 p3 (0 : Int32) μ_6))))
set_option maxHeartbeats 4000000 in
theorem c_X2_findUnit {X : Wd} (hX : WdOk X) (p1 : Nat) (h1 : kd p1 = 9) (x2 : Int32) (p3 : Nat) (h3 : kd p3 = 4) (μ : Mem) : CtV X yX2_findUnit cX2_findUnit 5 none (rmF 3 68) [.ref (xad X 103), .ref (xad X p1), .int x2, .ref (xad X p3)] μ (G_X2_findUnit p1 x2 p3 μ) := by
  refine CtV.of hX (plainFor_of_name (by decide)) (by exact Nat.le_of_ble_eq_true rfl) ?_
  intro C hCX hC hr
  subst hCX
  show J C (KV C) μ 0 [(0, .ref (xad (cX C) 103)), (1, .ref (xad (cX C) p1)), (2, .int x2), (3, .ref (xad (cX C) p3))] [] _
  unfold G_X2_findUnit
  refine J.aload_n (j := 1) hC eX2_findUnit_0 rfl ?_
  refine gf_X2_72 (q := p1 + 3) hC eX2_findUnit_1 h1 rfl ?_
  refine J.iload_n (j := 2) hC eX2_findUnit_4 rfl ?_
  refine J.iald ik_6 hC eX2_findUnit_5 (kf_X9_signs h1) ?_
  refine J.iconst hC eX2_findUnit_6 ci_3 ?_
  refine J.icmp_ne hC eX2_findUnit_7 (fun _ => ?_) (fun _ => ?_)
  · refine J.aload_n (j := 0) hC eX2_findUnit_10 rfl ?_
    refine J.aload_n (j := 3) hC eX2_findUnit_11 rfl ?_
    refine gf_X2_75 hC eX2_findUnit_12 h3 ?_
    refine pf_X2_40 hC eX2_findUnit_15 kk_103 (fun μ_1 => ?_)
    refine J.aload_n (j := 0) hC eX2_findUnit_18 rfl ?_
    refine J.aload_n (j := 3) hC eX2_findUnit_19 rfl ?_
    refine gf_X2_75 hC eX2_findUnit_20 h3 ?_
    refine pf_X2_46 hC eX2_findUnit_23 kk_103 (fun μ_2 => ?_)
    refine J.aload_n (j := 0) hC eX2_findUnit_26 rfl ?_
    refine J.aload_n (j := 3) hC eX2_findUnit_27 rfl ?_
    refine gf_X2_75 hC eX2_findUnit_28 h3 ?_
    refine pf_X2_52 hC eX2_findUnit_31 kk_103 (fun μ_3 => ?_)
    exact J.vret hC hr eX2_findUnit_34
  · refine J.aload_n (j := 0) hC eX2_findUnit_35 rfl ?_
    refine J.iconst hC eX2_findUnit_36 ci_0 ?_
    refine pf_X2_40 hC eX2_findUnit_37 kk_103 (fun μ_4 => ?_)
    refine J.aload_n (j := 0) hC eX2_findUnit_40 rfl ?_
    refine J.iconst hC eX2_findUnit_41 ci_0 ?_
    refine pf_X2_46 hC eX2_findUnit_42 kk_103 (fun μ_5 => ?_)
    refine J.aload_n (j := 0) hC eX2_findUnit_45 rfl ?_
    refine J.iconst hC eX2_findUnit_46 ci_0 ?_
    refine pf_X2_52 hC eX2_findUnit_47 kk_103 (fun μ_6 => ?_)
    refine J.iconst hC eX2_findUnit_50 ci_0 ?_
    refine J.istore [(4, .int (0 : Int32)), (0, .ref (xad (cX C) 103)), (1, .ref (xad (cX C) p1)), (2, .int x2), (3, .ref (xad (cX C) p3))] hC eX2_findUnit_51 (by decide) rfl ?_
    refine J.sub [1, 2, 3, 4, 0] rfl ?_
    exact j_X2_findUnit_53 hC hr  100000 p1 h1 x2 p3 h3 (0 : Int32) μ_6
-- X9_beginsTerm
theorem eX9_beginsTerm_0 : DD cX9_beginsTerm 0 (.iload_n 1) 1 1 := ⟨by decide +kernel, rfl⟩
theorem eX9_beginsTerm_1 : DB cX9_beginsTerm 1 (.ifCond .eq 20) (20) 4 21 := ⟨by decide +kernel, rfl, by decide⟩
theorem eX9_beginsTerm_4 : DD cX9_beginsTerm 4 (.aload_n 0) 1 5 := ⟨by decide +kernel, rfl⟩
theorem eX9_beginsTerm_5 : DD cX9_beginsTerm 5 (.getfield 9) 3 8 := ⟨by decide +kernel, rfl⟩
theorem eX9_beginsTerm_8 : DD cX9_beginsTerm 8 (.iload_n 1) 1 9 := ⟨by decide +kernel, rfl⟩
theorem eX9_beginsTerm_9 : DD cX9_beginsTerm 9 (.iaload) 1 10 := ⟨by decide +kernel, rfl⟩
theorem eX9_beginsTerm_10 : DD cX9_beginsTerm 10 (.aload_n 0) 1 11 := ⟨by decide +kernel, rfl⟩
theorem eX9_beginsTerm_11 : DD cX9_beginsTerm 11 (.getfield 9) 3 14 := ⟨by decide +kernel, rfl⟩
theorem eX9_beginsTerm_14 : DD cX9_beginsTerm 14 (.iload_n 1) 1 15 := ⟨by decide +kernel, rfl⟩
theorem eX9_beginsTerm_15 : DD cX9_beginsTerm 15 (.iconst 1) 1 16 := ⟨by decide +kernel, rfl⟩
theorem eX9_beginsTerm_16 : DD cX9_beginsTerm 16 (.isub) 1 17 := ⟨by decide +kernel, rfl⟩
theorem eX9_beginsTerm_17 : DD cX9_beginsTerm 17 (.iaload) 1 18 := ⟨by decide +kernel, rfl⟩
theorem eX9_beginsTerm_18 : DB cX9_beginsTerm 18 (.if_icmp .eq 7) (7) 21 25 := ⟨by decide +kernel, rfl, by decide⟩
theorem eX9_beginsTerm_21 : DD cX9_beginsTerm 21 (.iconst 1) 1 22 := ⟨by decide +kernel, rfl⟩
theorem eX9_beginsTerm_22 : DB cX9_beginsTerm 22 (.goto 4) (4) 25 26 := ⟨by decide +kernel, rfl, by decide⟩
theorem eX9_beginsTerm_25 : DD cX9_beginsTerm 25 (.iconst 0) 1 26 := ⟨by decide +kernel, rfl⟩
theorem eX9_beginsTerm_26 : DD cX9_beginsTerm 26 (.ireturn) 1 27 := ⟨by decide +kernel, rfl⟩
def G_X9_beginsTerm (p0 : Nat) (x1 : Int32) (μ : Mem) : Option (Int32 × Mem) :=
  if x1 = 0 then some ((1 : Int32), μ) else gq (inB x1 6) (gq (inB (x1 - (1 : Int32)) 6) (if (rI μ (p0 + 1) (nx x1)) = (rI μ (p0 + 1) (nx (x1 - (1 : Int32)))) then some ((0 : Int32), μ) else some ((1 : Int32), μ)))
set_option maxHeartbeats 4000000 in
theorem c_X9_beginsTerm {X : Wd} (hX : WdOk X) (p0 : Nat) (h0 : kd p0 = 9) (x1 : Int32) (μ : Mem) : CtI X yX9_beginsTerm cX9_beginsTerm 2 (some .boolean) (rmF 0 0) [.ref (xad X p0), .int x1] μ (G_X9_beginsTerm p0 x1 μ) := by
  refine CtI.of hX (plainFor_of_name (by decide)) (by exact Nat.le_of_ble_eq_true rfl) ?_
  intro C hCX hC hr
  subst hCX
  show J C (KI C) μ 0 [(0, .ref (xad (cX C) p0)), (1, .int x1)] [] _
  unfold G_X9_beginsTerm
  refine J.iload_n (j := 1) hC eX9_beginsTerm_0 rfl ?_
  refine J.if_eq hC eX9_beginsTerm_1 (fun _ => ?_) (fun _ => ?_)
  · refine J.iconst hC eX9_beginsTerm_21 ci_1 ?_
    refine J.goto hC eX9_beginsTerm_22 ?_
    exact J.zretB hC hr eX9_beginsTerm_26 rfl
  · refine J.aload_n (j := 0) hC eX9_beginsTerm_4 rfl ?_
    refine gf_X9_9 (q := p0 + 1) hC eX9_beginsTerm_5 h0 rfl ?_
    refine J.iload_n (j := 1) hC eX9_beginsTerm_8 rfl ?_
    refine J.iald ik_6 hC eX9_beginsTerm_9 (kf_X9_terms h0) ?_
    refine J.aload_n (j := 0) hC eX9_beginsTerm_10 rfl ?_
    refine gf_X9_9 (q := p0 + 1) hC eX9_beginsTerm_11 h0 rfl ?_
    refine J.iload_n (j := 1) hC eX9_beginsTerm_14 rfl ?_
    refine J.iconst hC eX9_beginsTerm_15 ci_1 ?_
    refine J.isub hC eX9_beginsTerm_16 ?_
    refine J.iald ik_6 hC eX9_beginsTerm_17 (kf_X9_terms h0) ?_
    refine J.icmp_eq hC eX9_beginsTerm_18 (fun _ => ?_) (fun _ => ?_)
    · refine J.iconst hC eX9_beginsTerm_25 ci_0 ?_
      exact J.zretB hC hr eX9_beginsTerm_26 rfl
    · refine J.iconst hC eX9_beginsTerm_21 ci_1 ?_
      refine J.goto hC eX9_beginsTerm_22 ?_
      exact J.zretB hC hr eX9_beginsTerm_26 rfl
-- X2_find
theorem eX2_find_0 : DD cX2_find 0 (.aload_n 0) 1 1 := ⟨by decide +kernel, rfl⟩
theorem eX2_find_1 : DD cX2_find 1 (.iconst 0) 1 2 := ⟨by decide +kernel, rfl⟩
theorem eX2_find_2 : DD cX2_find 2 (.putfield 17) 3 5 := ⟨by decide +kernel, rfl⟩
theorem eX2_find_5 : DD cX2_find 5 (.aload_n 0) 1 6 := ⟨by decide +kernel, rfl⟩
theorem eX2_find_6 : DD cX2_find 6 (.iconst 0) 1 7 := ⟨by decide +kernel, rfl⟩
theorem eX2_find_7 : DD cX2_find 7 (.putfield 13) 3 10 := ⟨by decide +kernel, rfl⟩
theorem eX2_find_10 : DD cX2_find 10 (.aload_n 0) 1 11 := ⟨by decide +kernel, rfl⟩
theorem eX2_find_11 : DD cX2_find 11 (.iconst 0) 1 12 := ⟨by decide +kernel, rfl⟩
theorem eX2_find_12 : DD cX2_find 12 (.putfield 20) 3 15 := ⟨by decide +kernel, rfl⟩
theorem eX2_find_15 : DD cX2_find 15 (.iconst 0) 1 16 := ⟨by decide +kernel, rfl⟩
theorem eX2_find_16 : DD cX2_find 16 (.istore 5) 2 18 := ⟨by decide +kernel, rfl⟩
theorem eX2_find_18 : DD cX2_find 18 (.iload 5) 2 20 := ⟨by decide +kernel, rfl⟩
theorem eX2_find_20 : DD cX2_find 20 (.aload_n 1) 1 21 := ⟨by decide +kernel, rfl⟩
theorem eX2_find_21 : DD cX2_find 21 (.getfield 23) 3 24 := ⟨by decide +kernel, rfl⟩
theorem eX2_find_24 : DB cX2_find 24 (.if_icmp .ge 179) (179) 27 203 := ⟨by decide +kernel, rfl, by decide⟩
theorem eX2_find_27 : DD cX2_find 27 (.aload_n 0) 1 28 := ⟨by decide +kernel, rfl⟩
theorem eX2_find_28 : DD cX2_find 28 (.aload_n 1) 1 29 := ⟨by decide +kernel, rfl⟩
theorem eX2_find_29 : DD cX2_find 29 (.iload 5) 2 31 := ⟨by decide +kernel, rfl⟩
theorem eX2_find_31 : DD cX2_find 31 (.aload_n 1) 1 32 := ⟨by decide +kernel, rfl⟩
theorem eX2_find_32 : DD cX2_find 32 (.getfield 28) 3 35 := ⟨by decide +kernel, rfl⟩
theorem eX2_find_35 : DD cX2_find 35 (.iload 5) 2 37 := ⟨by decide +kernel, rfl⟩
theorem eX2_find_37 : DD cX2_find 37 (.iaload) 1 38 := ⟨by decide +kernel, rfl⟩
theorem eX2_find_38 : DB cX2_find 38 (.ifCond .ne 7) (7) 41 45 := ⟨by decide +kernel, rfl, by decide⟩
theorem eX2_find_41 : DD cX2_find 41 (.aload_n 3) 1 42 := ⟨by decide +kernel, rfl⟩
theorem eX2_find_42 : DB cX2_find 42 (.goto 5) (5) 45 47 := ⟨by decide +kernel, rfl, by decide⟩
theorem eX2_find_45 : DD cX2_find 45 (.aload 4) 2 47 := ⟨by decide +kernel, rfl⟩
theorem eX2_find_47 : DD cX2_find 47 (.invokevirtual 32) 3 50 := ⟨by decide +kernel, rfl⟩
theorem eX2_find_50 : DD cX2_find 50 (.aload_n 1) 1 51 := ⟨by decide +kernel, rfl⟩
theorem eX2_find_51 : DD cX2_find 51 (.iload 5) 2 53 := ⟨by decide +kernel, rfl⟩
theorem eX2_find_53 : DD cX2_find 53 (.invokevirtual 36) 3 56 := ⟨by decide +kernel, rfl⟩
theorem eX2_find_56 : DB cX2_find 56 (.ifCond .eq 30) (30) 59 86 := ⟨by decide +kernel, rfl, by decide⟩
theorem eX2_find_59 : DD cX2_find 59 (.aload_n 0) 1 60 := ⟨by decide +kernel, rfl⟩
theorem eX2_find_60 : DD cX2_find 60 (.aload_n 0) 1 61 := ⟨by decide +kernel, rfl⟩
theorem eX2_find_61 : DD cX2_find 61 (.getfield 40) 3 64 := ⟨by decide +kernel, rfl⟩
theorem eX2_find_64 : DD cX2_find 64 (.putfield 43) 3 67 := ⟨by decide +kernel, rfl⟩
theorem eX2_find_67 : DD cX2_find 67 (.aload_n 0) 1 68 := ⟨by decide +kernel, rfl⟩
theorem eX2_find_68 : DD cX2_find 68 (.aload_n 0) 1 69 := ⟨by decide +kernel, rfl⟩
theorem eX2_find_69 : DD cX2_find 69 (.getfield 46) 3 72 := ⟨by decide +kernel, rfl⟩
theorem eX2_find_72 : DD cX2_find 72 (.putfield 49) 3 75 := ⟨by decide +kernel, rfl⟩
theorem eX2_find_75 : DD cX2_find 75 (.aload_n 0) 1 76 := ⟨by decide +kernel, rfl⟩
theorem eX2_find_76 : DD cX2_find 76 (.aload_n 0) 1 77 := ⟨by decide +kernel, rfl⟩
theorem eX2_find_77 : DD cX2_find 77 (.getfield 52) 3 80 := ⟨by decide +kernel, rfl⟩
theorem eX2_find_80 : DD cX2_find 80 (.putfield 55) 3 83 := ⟨by decide +kernel, rfl⟩
theorem eX2_find_83 : DB cX2_find 83 (.goto 51) (51) 86 134 := ⟨by decide +kernel, rfl, by decide⟩
theorem eX2_find_86 : DD cX2_find 86 (.aload_n 0) 1 87 := ⟨by decide +kernel, rfl⟩
theorem eX2_find_87 : DD cX2_find 87 (.dup) 1 88 := ⟨by decide +kernel, rfl⟩
theorem eX2_find_88 : DD cX2_find 88 (.getfield 43) 3 91 := ⟨by decide +kernel, rfl⟩
theorem eX2_find_91 : DD cX2_find 91 (.aload_n 0) 1 92 := ⟨by decide +kernel, rfl⟩
theorem eX2_find_92 : DD cX2_find 92 (.getfield 40) 3 95 := ⟨by decide +kernel, rfl⟩
theorem eX2_find_95 : DD cX2_find 95 (.aload_n 2) 1 96 := ⟨by decide +kernel, rfl⟩
theorem eX2_find_96 : DD cX2_find 96 (.getfield 58) 3 99 := ⟨by decide +kernel, rfl⟩
theorem eX2_find_99 : DD cX2_find 99 (.isub) 1 100 := ⟨by decide +kernel, rfl⟩
theorem eX2_find_100 : DD cX2_find 100 (.iadd) 1 101 := ⟨by decide +kernel, rfl⟩
theorem eX2_find_101 : DD cX2_find 101 (.putfield 43) 3 104 := ⟨by decide +kernel, rfl⟩
theorem eX2_find_104 : DD cX2_find 104 (.aload_n 0) 1 105 := ⟨by decide +kernel, rfl⟩
theorem eX2_find_105 : DD cX2_find 105 (.aload_n 0) 1 106 := ⟨by decide +kernel, rfl⟩
theorem eX2_find_106 : DD cX2_find 106 (.getfield 49) 3 109 := ⟨by decide +kernel, rfl⟩
theorem eX2_find_109 : DD cX2_find 109 (.aload_n 0) 1 110 := ⟨by decide +kernel, rfl⟩
theorem eX2_find_110 : DD cX2_find 110 (.getfield 46) 3 113 := ⟨by decide +kernel, rfl⟩
theorem eX2_find_113 : DD cX2_find 113 (.invokestatic 63) 3 116 := ⟨by decide +kernel, rfl⟩
theorem eX2_find_116 : DD cX2_find 116 (.putfield 49) 3 119 := ⟨by decide +kernel, rfl⟩
theorem eX2_find_119 : DD cX2_find 119 (.aload_n 0) 1 120 := ⟨by decide +kernel, rfl⟩
theorem eX2_find_120 : DD cX2_find 120 (.aload_n 0) 1 121 := ⟨by decide +kernel, rfl⟩
theorem eX2_find_121 : DD cX2_find 121 (.getfield 55) 3 124 := ⟨by decide +kernel, rfl⟩
theorem eX2_find_124 : DD cX2_find 124 (.aload_n 0) 1 125 := ⟨by decide +kernel, rfl⟩
theorem eX2_find_125 : DD cX2_find 125 (.getfield 52) 3 128 := ⟨by decide +kernel, rfl⟩
theorem eX2_find_128 : DD cX2_find 128 (.invokestatic 63) 3 131 := ⟨by decide +kernel, rfl⟩
theorem eX2_find_131 : DD cX2_find 131 (.putfield 55) 3 134 := ⟨by decide +kernel, rfl⟩
theorem eX2_find_134 : DD cX2_find 134 (.iload 5) 2 136 := ⟨by decide +kernel, rfl⟩
theorem eX2_find_136 : DD cX2_find 136 (.iconst 1) 1 137 := ⟨by decide +kernel, rfl⟩
theorem eX2_find_137 : DD cX2_find 137 (.iadd) 1 138 := ⟨by decide +kernel, rfl⟩
theorem eX2_find_138 : DD cX2_find 138 (.aload_n 1) 1 139 := ⟨by decide +kernel, rfl⟩
theorem eX2_find_139 : DD cX2_find 139 (.getfield 23) 3 142 := ⟨by decide +kernel, rfl⟩
theorem eX2_find_142 : DB cX2_find 142 (.if_icmp .eq 14) (14) 145 156 := ⟨by decide +kernel, rfl, by decide⟩
theorem eX2_find_145 : DD cX2_find 145 (.aload_n 1) 1 146 := ⟨by decide +kernel, rfl⟩
theorem eX2_find_146 : DD cX2_find 146 (.iload 5) 2 148 := ⟨by decide +kernel, rfl⟩
theorem eX2_find_148 : DD cX2_find 148 (.iconst 1) 1 149 := ⟨by decide +kernel, rfl⟩
theorem eX2_find_149 : DD cX2_find 149 (.iadd) 1 150 := ⟨by decide +kernel, rfl⟩
theorem eX2_find_150 : DD cX2_find 150 (.invokevirtual 36) 3 153 := ⟨by decide +kernel, rfl⟩
theorem eX2_find_153 : DB cX2_find 153 (.ifCond .eq 44) (44) 156 197 := ⟨by decide +kernel, rfl, by decide⟩
theorem eX2_find_156 : DD cX2_find 156 (.aload_n 0) 1 157 := ⟨by decide +kernel, rfl⟩
theorem eX2_find_157 : DD cX2_find 157 (.aload_n 0) 1 158 := ⟨by decide +kernel, rfl⟩
theorem eX2_find_158 : DD cX2_find 158 (.getfield 17) 3 161 := ⟨by decide +kernel, rfl⟩
theorem eX2_find_161 : DD cX2_find 161 (.aload_n 0) 1 162 := ⟨by decide +kernel, rfl⟩
theorem eX2_find_162 : DD cX2_find 162 (.getfield 43) 3 165 := ⟨by decide +kernel, rfl⟩
theorem eX2_find_165 : DD cX2_find 165 (.invokestatic 69) 3 168 := ⟨by decide +kernel, rfl⟩
theorem eX2_find_168 : DD cX2_find 168 (.putfield 17) 3 171 := ⟨by decide +kernel, rfl⟩
theorem eX2_find_171 : DD cX2_find 171 (.aload_n 0) 1 172 := ⟨by decide +kernel, rfl⟩
theorem eX2_find_172 : DD cX2_find 172 (.dup) 1 173 := ⟨by decide +kernel, rfl⟩
theorem eX2_find_173 : DD cX2_find 173 (.getfield 13) 3 176 := ⟨by decide +kernel, rfl⟩
theorem eX2_find_176 : DD cX2_find 176 (.aload_n 0) 1 177 := ⟨by decide +kernel, rfl⟩
theorem eX2_find_177 : DD cX2_find 177 (.getfield 49) 3 180 := ⟨by decide +kernel, rfl⟩
theorem eX2_find_180 : DD cX2_find 180 (.iadd) 1 181 := ⟨by decide +kernel, rfl⟩
theorem eX2_find_181 : DD cX2_find 181 (.putfield 13) 3 184 := ⟨by decide +kernel, rfl⟩
theorem eX2_find_184 : DD cX2_find 184 (.aload_n 0) 1 185 := ⟨by decide +kernel, rfl⟩
theorem eX2_find_185 : DD cX2_find 185 (.dup) 1 186 := ⟨by decide +kernel, rfl⟩
theorem eX2_find_186 : DD cX2_find 186 (.getfield 20) 3 189 := ⟨by decide +kernel, rfl⟩
theorem eX2_find_189 : DD cX2_find 189 (.aload_n 0) 1 190 := ⟨by decide +kernel, rfl⟩
theorem eX2_find_190 : DD cX2_find 190 (.getfield 55) 3 193 := ⟨by decide +kernel, rfl⟩
theorem eX2_find_193 : DD cX2_find 193 (.iadd) 1 194 := ⟨by decide +kernel, rfl⟩
theorem eX2_find_194 : DD cX2_find 194 (.putfield 20) 3 197 := ⟨by decide +kernel, rfl⟩
theorem eX2_find_197 : DD cX2_find 197 (.iinc 5 1) 3 200 := ⟨by decide +kernel, rfl⟩
theorem eX2_find_200 : DB cX2_find 200 (.goto (-182)) (-182) 203 18 := ⟨by decide +kernel, rfl, by decide⟩
theorem eX2_find_203 : DD cX2_find 203 (.aload_n 0) 1 204 := ⟨by decide +kernel, rfl⟩
theorem eX2_find_204 : DD cX2_find 204 (.aload_n 0) 1 205 := ⟨by decide +kernel, rfl⟩
theorem eX2_find_205 : DD cX2_find 205 (.getfield 13) 3 208 := ⟨by decide +kernel, rfl⟩
theorem eX2_find_208 : DD cX2_find 208 (.aload_n 2) 1 209 := ⟨by decide +kernel, rfl⟩
theorem eX2_find_209 : DD cX2_find 209 (.getfield 58) 3 212 := ⟨by decide +kernel, rfl⟩
theorem eX2_find_212 : DD cX2_find 212 (.invokestatic 63) 3 215 := ⟨by decide +kernel, rfl⟩
theorem eX2_find_215 : DD cX2_find 215 (.putfield 13) 3 218 := ⟨by decide +kernel, rfl⟩
theorem eX2_find_218 : DD cX2_find 218 (.aload_n 0) 1 219 := ⟨by decide +kernel, rfl⟩
theorem eX2_find_219 : DD cX2_find 219 (.aload_n 0) 1 220 := ⟨by decide +kernel, rfl⟩
theorem eX2_find_220 : DD cX2_find 220 (.getfield 20) 3 223 := ⟨by decide +kernel, rfl⟩
theorem eX2_find_223 : DD cX2_find 223 (.aload_n 2) 1 224 := ⟨by decide +kernel, rfl⟩
theorem eX2_find_224 : DD cX2_find 224 (.getfield 58) 3 227 := ⟨by decide +kernel, rfl⟩
theorem eX2_find_227 : DD cX2_find 227 (.invokestatic 63) 3 230 := ⟨by decide +kernel, rfl⟩
theorem eX2_find_230 : DD cX2_find 230 (.putfield 20) 3 233 := ⟨by decide +kernel, rfl⟩
theorem eX2_find_233 : DD cX2_find 233 (.return_) 1 234 := ⟨by decide +kernel, rfl⟩
def F_X2_find_197 (kc_18 : Nat → Nat → Nat → Nat → Int32 → Mem → Option (Unit × Mem)) (p1 : Nat) (p2 : Nat) (p3 : Nat) (p4 : Nat) (x5 : Int32) (μ : Mem) : Option (Unit × Mem) :=
  lb (x5 + (1 : Int32)) (fun x5_1 => kc_18 p1 p2 p3 p4 x5_1 μ)
set_option maxHeartbeats 4000000 in
theorem j_X2_find_197 {C : Cx} (hC : Ok C cX2_find 6 RX2 (rmF 4 92)) (hr : (cT C).sig.returnType = none) (kc_18 : Nat → Nat → Nat → Nat → Int32 → Mem → Option (Unit × Mem)) (hk_18 : ∀ (p1 : Nat) (h1 : kd p1 = 9) (p2 : Nat) (h2 : kd p2 = 7) (p3 : Nat) (h3 : kd p3 = 4) (p4 : Nat) (h4 : kd p4 = 4) (x5 : Int32) (μ : Mem), J C (KV C) μ 18 [(0, .ref (xad (cX C) 103)), (1, .ref (xad (cX C) p1)), (2, .ref (xad (cX C) p2)), (3, .ref (xad (cX C) p3)), (4, .ref (xad (cX C) p4)), (5, .int x5)] [] (kc_18 p1 p2 p3 p4 x5 μ)) (p1 : Nat) (h1 : kd p1 = 9) (p2 : Nat) (h2 : kd p2 = 7) (p3 : Nat) (h3 : kd p3 = 4) (p4 : Nat) (h4 : kd p4 = 4) (x5 : Int32) (μ : Mem) : J C (KV C) μ 197 [(0, .ref (xad (cX C) 103)), (1, .ref (xad (cX C) p1)), (2, .ref (xad (cX C) p2)), (3, .ref (xad (cX C) p3)), (4, .ref (xad (cX C) p4)), (5, .int x5)] [] (F_X2_find_197 kc_18 p1 p2 p3 p4 x5 μ) := by
  unfold F_X2_find_197
  refine J.iinc (j := 5) (fun x5_1 => [(5, .int x5_1), (0, .ref (xad (cX C) 103)), (1, .ref (xad (cX C) p1)), (2, .ref (xad (cX C) p2)), (3, .ref (xad (cX C) p3)), (4, .ref (xad (cX C) p4))]) hC eX2_find_197 rfl ci_1 (by decide) (fun _ => rfl) (fun x5_1 => ?_)
  refine J.goto hC eX2_find_200 ?_
  refine J.sub [1, 2, 3, 4, 5, 0] rfl ?_
  exact hk_18 p1 h1 p2 h2 p3 h3 p4 h4 x5_1 μ
def F_X2_find_156 (kc_18 : Nat → Nat → Nat → Nat → Int32 → Mem → Option (Unit × Mem)) (p1 : Nat) (p2 : Nat) (p3 : Nat) (p4 : Nat) (x5 : Int32) (μ : Mem) : Option (Unit × Mem) :=
  lb (wI μ 103 0 (imax (rI μ 103 0) (rI μ 103 6))) (fun μ_1 => lb (wI μ_1 103 1 ((rI μ_1 103 1) + (rI μ_1 103 7))) (fun μ_2 => lb (wI μ_2 103 2 ((rI μ_2 103 2) + (rI μ_2 103 8))) (fun μ_3 => F_X2_find_197 kc_18 p1 p2 p3 p4 x5 μ_3)))
set_option maxHeartbeats 4000000 in
theorem j_X2_find_156 {C : Cx} (hC : Ok C cX2_find 6 RX2 (rmF 4 92)) (hr : (cT C).sig.returnType = none) (kc_18 : Nat → Nat → Nat → Nat → Int32 → Mem → Option (Unit × Mem)) (hk_18 : ∀ (p1 : Nat) (h1 : kd p1 = 9) (p2 : Nat) (h2 : kd p2 = 7) (p3 : Nat) (h3 : kd p3 = 4) (p4 : Nat) (h4 : kd p4 = 4) (x5 : Int32) (μ : Mem), J C (KV C) μ 18 [(0, .ref (xad (cX C) 103)), (1, .ref (xad (cX C) p1)), (2, .ref (xad (cX C) p2)), (3, .ref (xad (cX C) p3)), (4, .ref (xad (cX C) p4)), (5, .int x5)] [] (kc_18 p1 p2 p3 p4 x5 μ)) (p1 : Nat) (h1 : kd p1 = 9) (p2 : Nat) (h2 : kd p2 = 7) (p3 : Nat) (h3 : kd p3 = 4) (p4 : Nat) (h4 : kd p4 = 4) (x5 : Int32) (μ : Mem) : J C (KV C) μ 156 [(0, .ref (xad (cX C) 103)), (1, .ref (xad (cX C) p1)), (2, .ref (xad (cX C) p2)), (3, .ref (xad (cX C) p3)), (4, .ref (xad (cX C) p4)), (5, .int x5)] [] (F_X2_find_156 kc_18 p1 p2 p3 p4 x5 μ) := by
  unfold F_X2_find_156
  refine J.aload_n (j := 0) hC eX2_find_156 rfl ?_
  refine J.aload_n (j := 0) hC eX2_find_157 rfl ?_
  refine gf_X2_17 hC eX2_find_158 kk_103 ?_
  refine J.aload_n (j := 0) hC eX2_find_161 rfl ?_
  refine gf_X2_43 hC eX2_find_162 kk_103 ?_
  refine J.mmax hC eX2_find_165 ml_X2_69 w_smax w_im w_cmax (Nat.le_of_ble_eq_true rfl) (Nat.le_of_ble_eq_true rfl) ?_
  refine pf_X2_17 hC eX2_find_168 kk_103 (fun μ_1 => ?_)
  refine J.aload_n (j := 0) hC eX2_find_171 rfl ?_
  refine J.dup hC eX2_find_172 rfl ?_
  refine gf_X2_13 hC eX2_find_173 kk_103 ?_
  refine J.aload_n (j := 0) hC eX2_find_176 rfl ?_
  refine gf_X2_49 hC eX2_find_177 kk_103 ?_
  refine J.iadd hC eX2_find_180 ?_
  refine pf_X2_13 hC eX2_find_181 kk_103 (fun μ_2 => ?_)
  refine J.aload_n (j := 0) hC eX2_find_184 rfl ?_
  refine J.dup hC eX2_find_185 rfl ?_
  refine gf_X2_20 hC eX2_find_186 kk_103 ?_
  refine J.aload_n (j := 0) hC eX2_find_189 rfl ?_
  refine gf_X2_55 hC eX2_find_190 kk_103 ?_
  refine J.iadd hC eX2_find_193 ?_
  refine pf_X2_20 hC eX2_find_194 kk_103 (fun μ_3 => ?_)
  refine J.sub [0, 1, 2, 3, 4, 5] rfl ?_
  exact j_X2_find_197 hC hr kc_18 hk_18 p1 h1 p2 h2 p3 h3 p4 h4 x5 μ_3
def F_X2_find_134 (kc_18 : Nat → Nat → Nat → Nat → Int32 → Mem → Option (Unit × Mem)) (p1 : Nat) (p2 : Nat) (p3 : Nat) (p4 : Nat) (x5 : Int32) (μ : Mem) : Option (Unit × Mem) :=
  if (x5 + (1 : Int32)) = (rI μ p1 4) then F_X2_find_156 kc_18 p1 p2 p3 p4 x5 μ else bd (G_X9_beginsTerm p1 (x5 + (1 : Int32)) μ) (fun r_2 μ_1 => if r_2 = 0 then F_X2_find_197 kc_18 p1 p2 p3 p4 x5 μ_1 else F_X2_find_156 kc_18 p1 p2 p3 p4 x5 μ_1)
set_option maxHeartbeats 4000000 in
theorem j_X2_find_134 {C : Cx} (hC : Ok C cX2_find 6 RX2 (rmF 4 92)) (hr : (cT C).sig.returnType = none) (kc_18 : Nat → Nat → Nat → Nat → Int32 → Mem → Option (Unit × Mem)) (hk_18 : ∀ (p1 : Nat) (h1 : kd p1 = 9) (p2 : Nat) (h2 : kd p2 = 7) (p3 : Nat) (h3 : kd p3 = 4) (p4 : Nat) (h4 : kd p4 = 4) (x5 : Int32) (μ : Mem), J C (KV C) μ 18 [(0, .ref (xad (cX C) 103)), (1, .ref (xad (cX C) p1)), (2, .ref (xad (cX C) p2)), (3, .ref (xad (cX C) p3)), (4, .ref (xad (cX C) p4)), (5, .int x5)] [] (kc_18 p1 p2 p3 p4 x5 μ)) (p1 : Nat) (h1 : kd p1 = 9) (p2 : Nat) (h2 : kd p2 = 7) (p3 : Nat) (h3 : kd p3 = 4) (p4 : Nat) (h4 : kd p4 = 4) (x5 : Int32) (μ : Mem) : J C (KV C) μ 134 [(0, .ref (xad (cX C) 103)), (1, .ref (xad (cX C) p1)), (2, .ref (xad (cX C) p2)), (3, .ref (xad (cX C) p3)), (4, .ref (xad (cX C) p4)), (5, .int x5)] [] (F_X2_find_134 kc_18 p1 p2 p3 p4 x5 μ) := by
  unfold F_X2_find_134
  refine J.iload (j := 5) hC eX2_find_134 rfl ?_
  refine J.iconst hC eX2_find_136 ci_1 ?_
  refine J.iadd hC eX2_find_137 ?_
  refine J.aload_n (j := 1) hC eX2_find_138 rfl ?_
  refine gf_X2_23 hC eX2_find_139 h1 ?_
  refine J.icmp_eq hC eX2_find_142 (fun _ => ?_) (fun _ => ?_)
  · refine J.sub [0, 1, 2, 3, 4, 5] rfl ?_
    exact j_X2_find_156 hC hr kc_18 hk_18 p1 h1 p2 h2 p3 h3 p4 h4 x5 μ
  · refine J.aload_n (j := 1) hC eX2_find_145 rfl ?_
    refine J.iload (j := 5) hC eX2_find_146 rfl ?_
    refine J.iconst hC eX2_find_148 ci_1 ?_
    refine J.iadd hC eX2_find_149 ?_
    refine J.callVI (st := []) hC eX2_find_150 h1 (by decide) rfl rfl ml_X2_36 mv_X9_beginsTerm (Rle_of (Nat.le_of_ble_eq_true rfl) (Nat.le_of_ble_eq_true rfl)) (c_X9_beginsTerm hC.X p1 h1 (x5 + (1 : Int32)) μ) rfl rfl (Nat.le_of_ble_eq_true rfl) (fun r_2 μ_1 => ?_)
    refine J.if_eq hC eX2_find_153 (fun _ => ?_) (fun _ => ?_)
    · refine J.sub [0, 1, 2, 3, 4, 5] rfl ?_
      exact j_X2_find_197 hC hr kc_18 hk_18 p1 h1 p2 h2 p3 h3 p4 h4 x5 μ_1
    · refine J.sub [0, 1, 2, 3, 4, 5] rfl ?_
      exact j_X2_find_156 hC hr kc_18 hk_18 p1 h1 p2 h2 p3 h3 p4 h4 x5 μ_1
def F_X2_find_47 (kc_18 : Nat → Nat → Nat → Nat → Int32 → Mem → Option (Unit × Mem)) (p1 : Nat) (p2 : Nat) (p3 : Nat) (p4 : Nat) (x5 : Int32) (ps1 : Nat) (xs2 : Int32) (ps3 : Nat) (μ : Mem) : Option (Unit × Mem) :=
  bd (G_X2_findUnit ps1 xs2 ps3 μ) (fun r_2 μ_1 => bd (G_X9_beginsTerm p1 x5 μ_1) (fun r_4 μ_3 => if r_4 = 0 then lb (wI μ_3 103 6 ((rI μ_3 103 6) + ((rI μ_3 103 3) - (rI μ_3 p2 3)))) (fun μ_5 => lb (wI μ_5 103 7 (imin (rI μ_5 103 7) (rI μ_5 103 4))) (fun μ_6 => lb (wI μ_6 103 8 (imin (rI μ_6 103 8) (rI μ_6 103 5))) (fun μ_7 => F_X2_find_134 kc_18 p1 p2 p3 p4 x5 μ_7))) else lb (wI μ_3 103 6 (rI μ_3 103 3)) (fun μ_8 => lb (wI μ_8 103 7 (rI μ_8 103 4)) (fun μ_9 => lb (wI μ_9 103 8 (rI μ_9 103 5)) (fun μ_10 => F_X2_find_134 kc_18 p1 p2 p3 p4 x5 μ_10)))))
set_option maxHeartbeats 4000000 in
theorem j_X2_find_47 {C : Cx} (hC : Ok C cX2_find 6 RX2 (rmF 4 92)) (hr : (cT C).sig.returnType = none) (kc_18 : Nat → Nat → Nat → Nat → Int32 → Mem → Option (Unit × Mem)) (hk_18 : ∀ (p1 : Nat) (h1 : kd p1 = 9) (p2 : Nat) (h2 : kd p2 = 7) (p3 : Nat) (h3 : kd p3 = 4) (p4 : Nat) (h4 : kd p4 = 4) (x5 : Int32) (μ : Mem), J C (KV C) μ 18 [(0, .ref (xad (cX C) 103)), (1, .ref (xad (cX C) p1)), (2, .ref (xad (cX C) p2)), (3, .ref (xad (cX C) p3)), (4, .ref (xad (cX C) p4)), (5, .int x5)] [] (kc_18 p1 p2 p3 p4 x5 μ)) (p1 : Nat) (h1 : kd p1 = 9) (p2 : Nat) (h2 : kd p2 = 7) (p3 : Nat) (h3 : kd p3 = 4) (p4 : Nat) (h4 : kd p4 = 4) (x5 : Int32) (ps1 : Nat) (hs1 : kd ps1 = 9) (xs2 : Int32) (ps3 : Nat) (hs3 : kd ps3 = 4) (μ : Mem) : J C (KV C) μ 47 [(0, .ref (xad (cX C) 103)), (1, .ref (xad (cX C) p1)), (2, .ref (xad (cX C) p2)), (3, .ref (xad (cX C) p3)), (4, .ref (xad (cX C) p4)), (5, .int x5)] [.ref (xad (cX C) ps3), .int xs2, .ref (xad (cX C) ps1), .ref (xad (cX C) 103)] (F_X2_find_47 kc_18 p1 p2 p3 p4 x5 ps1 xs2 ps3 μ) := by
  unfold F_X2_find_47
  refine J.callVV (st := []) hC eX2_find_47 kk_103 (by decide) rfl rfl ml_X2_32 mv_X2_findUnit (Rle_of (Nat.le_of_ble_eq_true rfl) (Nat.le_of_ble_eq_true rfl)) (c_X2_findUnit hC.X ps1 hs1 xs2 ps3 hs3 μ) rfl rfl (Nat.le_of_ble_eq_true rfl) (fun r_2 μ_1 => ?_)
  refine J.aload_n (j := 1) hC eX2_find_50 rfl ?_
  refine J.iload (j := 5) hC eX2_find_51 rfl ?_
  refine J.callVI (st := []) hC eX2_find_53 h1 (by decide) rfl rfl ml_X2_36 mv_X9_beginsTerm (Rle_of (Nat.le_of_ble_eq_true rfl) (Nat.le_of_ble_eq_true rfl)) (c_X9_beginsTerm hC.X p1 h1 x5 μ_1) rfl rfl (Nat.le_of_ble_eq_true rfl) (fun r_4 μ_3 => ?_)
  refine J.if_eq hC eX2_find_56 (fun _ => ?_) (fun _ => ?_)
  · refine J.aload_n (j := 0) hC eX2_find_86 rfl ?_
    refine J.dup hC eX2_find_87 rfl ?_
    refine gf_X2_43 hC eX2_find_88 kk_103 ?_
    refine J.aload_n (j := 0) hC eX2_find_91 rfl ?_
    refine gf_X2_40 hC eX2_find_92 kk_103 ?_
    refine J.aload_n (j := 2) hC eX2_find_95 rfl ?_
    refine gf_X2_58 hC eX2_find_96 h2 ?_
    refine J.isub hC eX2_find_99 ?_
    refine J.iadd hC eX2_find_100 ?_
    refine pf_X2_43 hC eX2_find_101 kk_103 (fun μ_5 => ?_)
    refine J.aload_n (j := 0) hC eX2_find_104 rfl ?_
    refine J.aload_n (j := 0) hC eX2_find_105 rfl ?_
    refine gf_X2_49 hC eX2_find_106 kk_103 ?_
    refine J.aload_n (j := 0) hC eX2_find_109 rfl ?_
    refine gf_X2_46 hC eX2_find_110 kk_103 ?_
    refine J.mmin hC eX2_find_113 ml_X2_63 w_smin w_im w_cmin (Nat.le_of_ble_eq_true rfl) (Nat.le_of_ble_eq_true rfl) ?_
    refine pf_X2_49 hC eX2_find_116 kk_103 (fun μ_6 => ?_)
    refine J.aload_n (j := 0) hC eX2_find_119 rfl ?_
    refine J.aload_n (j := 0) hC eX2_find_120 rfl ?_
    refine gf_X2_55 hC eX2_find_121 kk_103 ?_
    refine J.aload_n (j := 0) hC eX2_find_124 rfl ?_
    refine gf_X2_52 hC eX2_find_125 kk_103 ?_
    refine J.mmin hC eX2_find_128 ml_X2_63 w_smin w_im w_cmin (Nat.le_of_ble_eq_true rfl) (Nat.le_of_ble_eq_true rfl) ?_
    refine pf_X2_55 hC eX2_find_131 kk_103 (fun μ_7 => ?_)
    refine J.sub [0, 1, 2, 3, 4, 5] rfl ?_
    exact j_X2_find_134 hC hr kc_18 hk_18 p1 h1 p2 h2 p3 h3 p4 h4 x5 μ_7
  · refine J.aload_n (j := 0) hC eX2_find_59 rfl ?_
    refine J.aload_n (j := 0) hC eX2_find_60 rfl ?_
    refine gf_X2_40 hC eX2_find_61 kk_103 ?_
    refine pf_X2_43 hC eX2_find_64 kk_103 (fun μ_8 => ?_)
    refine J.aload_n (j := 0) hC eX2_find_67 rfl ?_
    refine J.aload_n (j := 0) hC eX2_find_68 rfl ?_
    refine gf_X2_46 hC eX2_find_69 kk_103 ?_
    refine pf_X2_49 hC eX2_find_72 kk_103 (fun μ_9 => ?_)
    refine J.aload_n (j := 0) hC eX2_find_75 rfl ?_
    refine J.aload_n (j := 0) hC eX2_find_76 rfl ?_
    refine gf_X2_52 hC eX2_find_77 kk_103 ?_
    refine pf_X2_55 hC eX2_find_80 kk_103 (fun μ_10 => ?_)
    refine J.goto hC eX2_find_83 ?_
    refine J.sub [0, 1, 2, 3, 4, 5] rfl ?_
    exact j_X2_find_134 hC hr kc_18 hk_18 p1 h1 p2 h2 p3 h3 p4 h4 x5 μ_10
def L_X2_find_18 : Nat → Nat → Nat → Nat → Nat → Int32 → Mem → Option (Unit × Mem)
  | 0, _, _, _, _, _, _ => none
  | n + 1, p1, p2, p3, p4, x5, μ => if (rI μ p1 4) ≤ x5 then lb (wI μ 103 1 (imin (rI μ 103 1) (rI μ p2 3))) (fun μ_1 => lb (wI μ_1 103 2 (imin (rI μ_1 103 2) (rI μ_1 p2 3))) (fun μ_2 => some ((), μ_2))) else gq (inB x5 6) (if (rI μ (p1 + 2) (nx x5)) = 0 then F_X2_find_47 (L_X2_find_18  n) p1 p2 p3 p4 x5 p1 x5 p3 μ else F_X2_find_47 (L_X2_find_18  n) p1 p2 p3 p4 x5 p1 x5 p4 μ)
set_option maxHeartbeats 4000000 in
theorem j_X2_find_18 {C : Cx} (hC : Ok C cX2_find 6 RX2 (rmF 4 92)) (hr : (cT C).sig.returnType = none) : ∀ (n : Nat) (p1 : Nat) (h1 : kd p1 = 9) (p2 : Nat) (h2 : kd p2 = 7) (p3 : Nat) (h3 : kd p3 = 4) (p4 : Nat) (h4 : kd p4 = 4) (x5 : Int32) (μ : Mem), J C (KV C) μ 18 [(0, .ref (xad (cX C) 103)), (1, .ref (xad (cX C) p1)), (2, .ref (xad (cX C) p2)), (3, .ref (xad (cX C) p3)), (4, .ref (xad (cX C) p4)), (5, .int x5)] [] (L_X2_find_18  n p1 p2 p3 p4 x5 μ) := by
  intro n
  induction n with
  | zero => intros; exact J.no
  | succ n ih =>
    intro p1 h1 p2 h2 p3 h3 p4 h4 x5 μ
    rw [L_X2_find_18]
    refine J.iload (j := 5) hC eX2_find_18 rfl ?_
    refine J.aload_n (j := 1) hC eX2_find_20 rfl ?_
    refine gf_X2_23 hC eX2_find_21 h1 ?_
    refine J.icmp_ge hC eX2_find_24 (fun _ => ?_) (fun _ => ?_)
    · refine J.aload_n (j := 0) hC eX2_find_203 rfl ?_
      refine J.aload_n (j := 0) hC eX2_find_204 rfl ?_
      refine gf_X2_13 hC eX2_find_205 kk_103 ?_
      refine J.aload_n (j := 2) hC eX2_find_208 rfl ?_
      refine gf_X2_58 hC eX2_find_209 h2 ?_
      refine J.mmin hC eX2_find_212 ml_X2_63 w_smin w_im w_cmin (Nat.le_of_ble_eq_true rfl) (Nat.le_of_ble_eq_true rfl) ?_
      refine pf_X2_13 hC eX2_find_215 kk_103 (fun μ_1 => ?_)
      refine J.aload_n (j := 0) hC eX2_find_218 rfl ?_
      refine J.aload_n (j := 0) hC eX2_find_219 rfl ?_
      refine gf_X2_20 hC eX2_find_220 kk_103 ?_
      refine J.aload_n (j := 2) hC eX2_find_223 rfl ?_
      refine gf_X2_58 hC eX2_find_224 h2 ?_
      refine J.mmin hC eX2_find_227 ml_X2_63 w_smin w_im w_cmin (Nat.le_of_ble_eq_true rfl) (Nat.le_of_ble_eq_true rfl) ?_
      refine pf_X2_20 hC eX2_find_230 kk_103 (fun μ_2 => ?_)
      exact J.vret hC hr eX2_find_233
    · refine J.aload_n (j := 0) hC eX2_find_27 rfl ?_
      refine J.aload_n (j := 1) hC eX2_find_28 rfl ?_
      refine J.iload (j := 5) hC eX2_find_29 rfl ?_
      refine J.aload_n (j := 1) hC eX2_find_31 rfl ?_
      refine gf_X2_28 (q := p1 + 2) hC eX2_find_32 h1 rfl ?_
      refine J.iload (j := 5) hC eX2_find_35 rfl ?_
      refine J.iald ik_6 hC eX2_find_37 (kf_X9_columns h1) ?_
      refine J.if_ne hC eX2_find_38 (fun _ => ?_) (fun _ => ?_)
      · refine J.aload_n (j := 3) hC eX2_find_41 rfl ?_
        refine J.goto hC eX2_find_42 ?_
        refine J.sub [0, 1, 2, 3, 4, 5] rfl ?_
        exact j_X2_find_47 hC hr (L_X2_find_18  n) ih p1 h1 p2 h2 p3 h3 p4 h4 x5 p1 h1 x5 p3 h3 μ
      · refine J.aload (j := 4) hC eX2_find_45 rfl ?_
        refine J.sub [0, 1, 2, 3, 4, 5] rfl ?_
        exact j_X2_find_47 hC hr (L_X2_find_18  n) ih p1 h1 p2 h2 p3 h3 p4 h4 x5 p1 h1 x5 p4 h4 μ
def G_X2_find (p1 : Nat) (p2 : Nat) (p3 : Nat) (p4 : Nat) (μ : Mem) : Option (Unit × Mem) :=
  lb (wI μ 103 0 (0 : Int32)) (fun μ_1 => lb (wI μ_1 103 1 (0 : Int32)) (fun μ_2 => lb (wI μ_2 103 2 (0 : Int32)) (fun μ_3 => L_X2_find_18  100000 p1 p2 p3 p4 (0 : Int32) μ_3)))
set_option maxHeartbeats 4000000 in
theorem c_X2_find {X : Wd} (hX : WdOk X) (p1 : Nat) (h1 : kd p1 = 9) (p2 : Nat) (h2 : kd p2 = 7) (p3 : Nat) (h3 : kd p3 = 4) (p4 : Nat) (h4 : kd p4 = 4) (μ : Mem) : CtV X yX2_find cX2_find 6 none (rmF 4 92) [.ref (xad X 103), .ref (xad X p1), .ref (xad X p2), .ref (xad X p3), .ref (xad X p4)] μ (G_X2_find p1 p2 p3 p4 μ) := by
  refine CtV.of hX (plainFor_of_name (by decide)) (by exact Nat.le_of_ble_eq_true rfl) ?_
  intro C hCX hC hr
  subst hCX
  show J C (KV C) μ 0 [(0, .ref (xad (cX C) 103)), (1, .ref (xad (cX C) p1)), (2, .ref (xad (cX C) p2)), (3, .ref (xad (cX C) p3)), (4, .ref (xad (cX C) p4))] [] _
  unfold G_X2_find
  refine J.aload_n (j := 0) hC eX2_find_0 rfl ?_
  refine J.iconst hC eX2_find_1 ci_0 ?_
  refine pf_X2_17 hC eX2_find_2 kk_103 (fun μ_1 => ?_)
  refine J.aload_n (j := 0) hC eX2_find_5 rfl ?_
  refine J.iconst hC eX2_find_6 ci_0 ?_
  refine pf_X2_13 hC eX2_find_7 kk_103 (fun μ_2 => ?_)
  refine J.aload_n (j := 0) hC eX2_find_10 rfl ?_
  refine J.iconst hC eX2_find_11 ci_0 ?_
  refine pf_X2_20 hC eX2_find_12 kk_103 (fun μ_3 => ?_)
  refine J.iconst hC eX2_find_15 ci_0 ?_
  refine J.istore [(5, .int (0 : Int32)), (0, .ref (xad (cX C) 103)), (1, .ref (xad (cX C) p1)), (2, .ref (xad (cX C) p2)), (3, .ref (xad (cX C) p3)), (4, .ref (xad (cX C) p4))] hC eX2_find_16 (by decide) rfl ?_
  refine J.sub [1, 2, 3, 4, 5, 0] rfl ?_
  exact j_X2_find_18 hC hr  100000 p1 h1 p2 h2 p3 h3 p4 h4 (0 : Int32) μ_3
-- X2_spread
theorem eX2_spread_0 : DD cX2_spread 0 (.aload_n 0) 1 1 := ⟨by decide +kernel, rfl⟩
theorem eX2_spread_1 : DD cX2_spread 1 (.aload_n 1) 1 2 := ⟨by decide +kernel, rfl⟩
theorem eX2_spread_2 : DD cX2_spread 2 (.aload_n 2) 1 3 := ⟨by decide +kernel, rfl⟩
theorem eX2_spread_3 : DD cX2_spread 3 (.aload_n 3) 1 4 := ⟨by decide +kernel, rfl⟩
theorem eX2_spread_4 : DD cX2_spread 4 (.aload 4) 2 6 := ⟨by decide +kernel, rfl⟩
theorem eX2_spread_6 : DD cX2_spread 6 (.invokevirtual 7) 3 9 := ⟨by decide +kernel, rfl⟩
theorem eX2_spread_9 : DD cX2_spread 9 (.aload_n 0) 1 10 := ⟨by decide +kernel, rfl⟩
theorem eX2_spread_10 : DD cX2_spread 10 (.getfield 13) 3 13 := ⟨by decide +kernel, rfl⟩
theorem eX2_spread_13 : DD cX2_spread 13 (.aload_n 0) 1 14 := ⟨by decide +kernel, rfl⟩
theorem eX2_spread_14 : DD cX2_spread 14 (.getfield 17) 3 17 := ⟨by decide +kernel, rfl⟩
theorem eX2_spread_17 : DD cX2_spread 17 (.isub) 1 18 := ⟨by decide +kernel, rfl⟩
theorem eX2_spread_18 : DD cX2_spread 18 (.ireturn) 1 19 := ⟨by decide +kernel, rfl⟩
def G_X2_spread (p1 : Nat) (p2 : Nat) (p3 : Nat) (p4 : Nat) (μ : Mem) : Option (Int32 × Mem) :=
  bd (G_X2_find p1 p2 p3 p4 μ) (fun r_2 μ_1 => some ((rI μ_1 103 1) - (rI μ_1 103 0), μ_1))
set_option maxHeartbeats 4000000 in
theorem c_X2_spread {X : Wd} (hX : WdOk X) (p1 : Nat) (h1 : kd p1 = 9) (p2 : Nat) (h2 : kd p2 = 7) (p3 : Nat) (h3 : kd p3 = 4) (p4 : Nat) (h4 : kd p4 = 4) (μ : Mem) : CtI X yX2_spread cX2_spread 5 (some .int) (rmF 5 117) [.ref (xad X 103), .ref (xad X p1), .ref (xad X p2), .ref (xad X p3), .ref (xad X p4)] μ (G_X2_spread p1 p2 p3 p4 μ) := by
  refine CtI.of hX (plainFor_of_name (by decide)) (by exact Nat.le_of_ble_eq_true rfl) ?_
  intro C hCX hC hr
  subst hCX
  show J C (KI C) μ 0 [(0, .ref (xad (cX C) 103)), (1, .ref (xad (cX C) p1)), (2, .ref (xad (cX C) p2)), (3, .ref (xad (cX C) p3)), (4, .ref (xad (cX C) p4))] [] _
  unfold G_X2_spread
  refine J.aload_n (j := 0) hC eX2_spread_0 rfl ?_
  refine J.aload_n (j := 1) hC eX2_spread_1 rfl ?_
  refine J.aload_n (j := 2) hC eX2_spread_2 rfl ?_
  refine J.aload_n (j := 3) hC eX2_spread_3 rfl ?_
  refine J.aload (j := 4) hC eX2_spread_4 rfl ?_
  refine J.callVV (st := []) hC eX2_spread_6 kk_103 (by decide) rfl rfl ml_X2_7 mv_X2_find (Rle_of (Nat.le_of_ble_eq_true rfl) (Nat.le_of_ble_eq_true rfl)) (c_X2_find hC.X p1 h1 p2 h2 p3 h3 p4 h4 μ) rfl rfl (Nat.le_of_ble_eq_true rfl) (fun r_2 μ_1 => ?_)
  refine J.aload_n (j := 0) hC eX2_spread_9 rfl ?_
  refine gf_X2_13 hC eX2_spread_10 kk_103 ?_
  refine J.aload_n (j := 0) hC eX2_spread_13 rfl ?_
  refine gf_X2_17 hC eX2_spread_14 kk_103 ?_
  refine J.isub hC eX2_spread_17 ?_
  exact J.iret hC hr eX2_spread_18
-- X3_length
theorem eX3_length_0 : DD cX3_length 0 (.aload_n 0) 1 1 := ⟨by decide +kernel, rfl⟩
theorem eX3_length_1 : DD cX3_length 1 (.getfield 15) 3 4 := ⟨by decide +kernel, rfl⟩
theorem eX3_length_4 : DD cX3_length 4 (.bipush 60) 2 6 := ⟨by decide +kernel, rfl⟩
theorem eX3_length_6 : DD cX3_length 6 (.invokestatic 19) 3 9 := ⟨by decide +kernel, rfl⟩
theorem eX3_length_9 : DD cX3_length 9 (.ireturn) 1 10 := ⟨by decide +kernel, rfl⟩
def G_X3_length (p0 : Nat) (μ : Mem) : Option (Int32 × Mem) :=
  some (imin (rI μ p0 1) (60 : Int32), μ)
set_option maxHeartbeats 4000000 in
theorem c_X3_length {X : Wd} (hX : WdOk X) (p0 : Nat) (h0 : kd p0 = 3) (μ : Mem) : CtI X yX3_length cX3_length 1 (some .int) (rmF 1 15) [.ref (xad X p0)] μ (G_X3_length p0 μ) := by
  refine CtI.of hX (plainFor_of_name (by decide)) (by exact Nat.le_of_ble_eq_true rfl) ?_
  intro C hCX hC hr
  subst hCX
  show J C (KI C) μ 0 [(0, .ref (xad (cX C) p0))] [] _
  unfold G_X3_length
  refine J.aload_n (j := 0) hC eX3_length_0 rfl ?_
  refine gf_X3_15 hC eX3_length_1 h0 ?_
  refine J.bipush hC eX3_length_4 cb_60 ?_
  refine J.mmin hC eX3_length_6 ml_X3_19 w_smin w_im w_cmin (Nat.le_of_ble_eq_true rfl) (Nat.le_of_ble_eq_true rfl) ?_
  exact J.iret hC hr eX3_length_9
-- J9_floorMod_7cf53
theorem eJ9_floorMod_7cf53_0 : DD cJ9_floorMod_7cf53 0 (.iload_n 0) 1 1 := ⟨by decide +kernel, rfl⟩
theorem eJ9_floorMod_7cf53_1 : DD cJ9_floorMod_7cf53 1 (.iload_n 1) 1 2 := ⟨by decide +kernel, rfl⟩
theorem eJ9_floorMod_7cf53_2 : DD cJ9_floorMod_7cf53 2 (.irem) 1 3 := ⟨by decide +kernel, rfl⟩
theorem eJ9_floorMod_7cf53_3 : DD cJ9_floorMod_7cf53 3 (.istore_n 2) 1 4 := ⟨by decide +kernel, rfl⟩
theorem eJ9_floorMod_7cf53_4 : DD cJ9_floorMod_7cf53 4 (.iload_n 0) 1 5 := ⟨by decide +kernel, rfl⟩
theorem eJ9_floorMod_7cf53_5 : DD cJ9_floorMod_7cf53 5 (.iload_n 1) 1 6 := ⟨by decide +kernel, rfl⟩
theorem eJ9_floorMod_7cf53_6 : DD cJ9_floorMod_7cf53 6 (.ixor) 1 7 := ⟨by decide +kernel, rfl⟩
theorem eJ9_floorMod_7cf53_7 : DB cJ9_floorMod_7cf53 7 (.ifCond .ge 11) (11) 10 18 := ⟨by decide +kernel, rfl, by decide⟩
theorem eJ9_floorMod_7cf53_10 : DD cJ9_floorMod_7cf53 10 (.iload_n 2) 1 11 := ⟨by decide +kernel, rfl⟩
theorem eJ9_floorMod_7cf53_11 : DB cJ9_floorMod_7cf53 11 (.ifCond .eq 7) (7) 14 18 := ⟨by decide +kernel, rfl, by decide⟩
theorem eJ9_floorMod_7cf53_14 : DD cJ9_floorMod_7cf53 14 (.iload_n 2) 1 15 := ⟨by decide +kernel, rfl⟩
theorem eJ9_floorMod_7cf53_15 : DD cJ9_floorMod_7cf53 15 (.iload_n 1) 1 16 := ⟨by decide +kernel, rfl⟩
theorem eJ9_floorMod_7cf53_16 : DD cJ9_floorMod_7cf53 16 (.iadd) 1 17 := ⟨by decide +kernel, rfl⟩
theorem eJ9_floorMod_7cf53_17 : DD cJ9_floorMod_7cf53 17 (.ireturn) 1 18 := ⟨by decide +kernel, rfl⟩
theorem eJ9_floorMod_7cf53_18 : DD cJ9_floorMod_7cf53 18 (.iload_n 2) 1 19 := ⟨by decide +kernel, rfl⟩
theorem eJ9_floorMod_7cf53_19 : DD cJ9_floorMod_7cf53 19 (.ireturn) 1 20 := ⟨by decide +kernel, rfl⟩
def G_J9_floorMod_7cf53 (x0 : Int32) (x1 : Int32) (μ : Mem) : Option (Int32 × Mem) :=
  gq (decide (¬ x1 = 0)) (lb (x0 - x0 / x1 * x1) (fun x2_1 => if 0 ≤ (x0 ^^^ x1) then some (x2_1, μ) else if x2_1 = 0 then some (x2_1, μ) else some (x2_1 + x1, μ)))
set_option maxHeartbeats 4000000 in
theorem c_J9_floorMod_7cf53 {X : Wd} (hX : WdOk X) (x0 : Int32) (x1 : Int32) (μ : Mem) : CtI X yJ9_floorMod_7cf53 cJ9_floorMod_7cf53 3 (some .int) (rmF 0 0) [.int x0, .int x1] μ (G_J9_floorMod_7cf53 x0 x1 μ) := by
  refine CtI.of hX (by decide +kernel) (by exact Nat.le_of_ble_eq_true rfl) ?_
  intro C hCX hC hr
  subst hCX
  show J C (KI C) μ 0 [(0, .int x0), (1, .int x1)] [] _
  unfold G_J9_floorMod_7cf53
  refine J.iload_n (j := 0) hC eJ9_floorMod_7cf53_0 rfl ?_
  refine J.iload_n (j := 1) hC eJ9_floorMod_7cf53_1 rfl ?_
  refine J.irem hC eJ9_floorMod_7cf53_2 ?_
  refine J.topi (fun x2_1 => ?_)
  refine J.istore_n [(2, .int x2_1), (0, .int x0), (1, .int x1)] hC eJ9_floorMod_7cf53_3 (by decide) rfl ?_
  refine J.iload_n (j := 1) hC eJ9_floorMod_7cf53_4 rfl ?_
  refine J.iload_n (j := 2) hC eJ9_floorMod_7cf53_5 rfl ?_
  refine J.ixor hC eJ9_floorMod_7cf53_6 ?_
  refine J.if_ge hC eJ9_floorMod_7cf53_7 (fun _ => ?_) (fun _ => ?_)
  · refine J.iload_n (j := 0) hC eJ9_floorMod_7cf53_18 rfl ?_
    exact J.iret hC hr eJ9_floorMod_7cf53_19
  · refine J.iload_n (j := 0) hC eJ9_floorMod_7cf53_10 rfl ?_
    refine J.if_eq hC eJ9_floorMod_7cf53_11 (fun _ => ?_) (fun _ => ?_)
    · refine J.iload_n (j := 0) hC eJ9_floorMod_7cf53_18 rfl ?_
      exact J.iret hC hr eJ9_floorMod_7cf53_19
    · refine J.iload_n (j := 0) hC eJ9_floorMod_7cf53_14 rfl ?_
      refine J.iload_n (j := 2) hC eJ9_floorMod_7cf53_15 rfl ?_
      refine J.iadd hC eJ9_floorMod_7cf53_16 ?_
      exact J.iret hC hr eJ9_floorMod_7cf53_17
-- X3_note
theorem eX3_note_0 : DD cX3_note 0 (.aload_n 0) 1 1 := ⟨by decide +kernel, rfl⟩
theorem eX3_note_1 : DD cX3_note 1 (.getfield 15) 3 4 := ⟨by decide +kernel, rfl⟩
theorem eX3_note_4 : DD cX3_note 4 (.bipush 100) 2 6 := ⟨by decide +kernel, rfl⟩
theorem eX3_note_6 : DD cX3_note 6 (.invokestatic 25) 3 9 := ⟨by decide +kernel, rfl⟩
theorem eX3_note_9 : DD cX3_note 9 (.iconst 3) 1 10 := ⟨by decide +kernel, rfl⟩
theorem eX3_note_10 : DD cX3_note 10 (.imul) 1 11 := ⟨by decide +kernel, rfl⟩
theorem eX3_note_11 : DD cX3_note 11 (.istore 4) 2 13 := ⟨by decide +kernel, rfl⟩
theorem eX3_note_13 : DD cX3_note 13 (.aload_n 0) 1 14 := ⟨by decide +kernel, rfl⟩
theorem eX3_note_14 : DD cX3_note 14 (.getfield 11) 3 17 := ⟨by decide +kernel, rfl⟩
theorem eX3_note_17 : DD cX3_note 17 (.iload 4) 2 19 := ⟨by decide +kernel, rfl⟩
theorem eX3_note_19 : DD cX3_note 19 (.iload_n 1) 1 20 := ⟨by decide +kernel, rfl⟩
theorem eX3_note_20 : DD cX3_note 20 (.iastore) 1 21 := ⟨by decide +kernel, rfl⟩
theorem eX3_note_21 : DD cX3_note 21 (.aload_n 0) 1 22 := ⟨by decide +kernel, rfl⟩
theorem eX3_note_22 : DD cX3_note 22 (.getfield 11) 3 25 := ⟨by decide +kernel, rfl⟩
theorem eX3_note_25 : DD cX3_note 25 (.iload 4) 2 27 := ⟨by decide +kernel, rfl⟩
theorem eX3_note_27 : DD cX3_note 27 (.iconst 1) 1 28 := ⟨by decide +kernel, rfl⟩
theorem eX3_note_28 : DD cX3_note 28 (.iadd) 1 29 := ⟨by decide +kernel, rfl⟩
theorem eX3_note_29 : DD cX3_note 29 (.iload_n 2) 1 30 := ⟨by decide +kernel, rfl⟩
theorem eX3_note_30 : DD cX3_note 30 (.iastore) 1 31 := ⟨by decide +kernel, rfl⟩
theorem eX3_note_31 : DD cX3_note 31 (.aload_n 0) 1 32 := ⟨by decide +kernel, rfl⟩
theorem eX3_note_32 : DD cX3_note 32 (.getfield 11) 3 35 := ⟨by decide +kernel, rfl⟩
theorem eX3_note_35 : DD cX3_note 35 (.iload 4) 2 37 := ⟨by decide +kernel, rfl⟩
theorem eX3_note_37 : DD cX3_note 37 (.iconst 2) 1 38 := ⟨by decide +kernel, rfl⟩
theorem eX3_note_38 : DD cX3_note 38 (.iadd) 1 39 := ⟨by decide +kernel, rfl⟩
theorem eX3_note_39 : DD cX3_note 39 (.iload_n 3) 1 40 := ⟨by decide +kernel, rfl⟩
theorem eX3_note_40 : DD cX3_note 40 (.iastore) 1 41 := ⟨by decide +kernel, rfl⟩
theorem eX3_note_41 : DD cX3_note 41 (.aload_n 0) 1 42 := ⟨by decide +kernel, rfl⟩
theorem eX3_note_42 : DD cX3_note 42 (.dup) 1 43 := ⟨by decide +kernel, rfl⟩
theorem eX3_note_43 : DD cX3_note 43 (.getfield 15) 3 46 := ⟨by decide +kernel, rfl⟩
theorem eX3_note_46 : DD cX3_note 46 (.iconst 1) 1 47 := ⟨by decide +kernel, rfl⟩
theorem eX3_note_47 : DD cX3_note 47 (.iadd) 1 48 := ⟨by decide +kernel, rfl⟩
theorem eX3_note_48 : DD cX3_note 48 (.putfield 15) 3 51 := ⟨by decide +kernel, rfl⟩
theorem eX3_note_51 : DD cX3_note 51 (.return_) 1 52 := ⟨by decide +kernel, rfl⟩
def G_X3_note (p0 : Nat) (x1 : Int32) (x2 : Int32) (x3 : Int32) (μ : Mem) : Option (Unit × Mem) :=
  bd (G_J9_floorMod_7cf53 (rI μ p0 1) (100 : Int32) μ) (fun r_2 μ_1 => lb (r_2 * (3 : Int32)) (fun x4_3 => gq (inB x4_3 300) (lb (wI μ_1 (p0 + 1) (nx x4_3) x1) (fun μ_4 => gq (inB (x4_3 + (1 : Int32)) 300) (lb (wI μ_4 (p0 + 1) (nx (x4_3 + (1 : Int32))) x2) (fun μ_5 => gq (inB (x4_3 + (2 : Int32)) 300) (lb (wI μ_5 (p0 + 1) (nx (x4_3 + (2 : Int32))) x3) (fun μ_6 => lb (wI μ_6 p0 1 ((rI μ_6 p0 1) + (1 : Int32))) (fun μ_7 => some ((), μ_7))))))))))
set_option maxHeartbeats 4000000 in
theorem c_X3_note {X : Wd} (hX : WdOk X) (p0 : Nat) (h0 : kd p0 = 3) (x1 : Int32) (x2 : Int32) (x3 : Int32) (μ : Mem) : CtV X yX3_note cX3_note 5 none (rmF 1 22) [.ref (xad X p0), .int x1, .int x2, .int x3] μ (G_X3_note p0 x1 x2 x3 μ) := by
  refine CtV.of hX (plainFor_of_name (by decide)) (by exact Nat.le_of_ble_eq_true rfl) ?_
  intro C hCX hC hr
  subst hCX
  show J C (KV C) μ 0 [(0, .ref (xad (cX C) p0)), (1, .int x1), (2, .int x2), (3, .int x3)] [] _
  unfold G_X3_note
  refine J.aload_n (j := 0) hC eX3_note_0 rfl ?_
  refine gf_X3_15 hC eX3_note_1 h0 ?_
  refine J.bipush hC eX3_note_4 cb_100 ?_
  refine J.callSI (st := []) hC eX3_note_6 ml_X3_25 mv_J9_floorMod_7cf53 (Rle_of (Nat.le_of_ble_eq_true rfl) (Nat.le_of_ble_eq_true rfl)) (c_J9_floorMod_7cf53 hC.X (rI μ p0 1) (100 : Int32) μ) rfl rfl (Nat.le_of_ble_eq_true rfl) (fun r_2 μ_1 => ?_)
  refine J.iconst hC eX3_note_9 ci_3 ?_
  refine J.imul hC eX3_note_10 ?_
  refine J.topi (fun x4_3 => ?_)
  refine J.istore [(4, .int x4_3), (0, .ref (xad (cX C) p0)), (1, .int x1), (2, .int x2), (3, .int x3)] hC eX3_note_11 (by decide) rfl ?_
  refine J.aload_n (j := 1) hC eX3_note_13 rfl ?_
  refine gf_X3_11 (q := p0 + 1) hC eX3_note_14 h0 rfl ?_
  refine J.iload (j := 0) hC eX3_note_17 rfl ?_
  refine J.iload_n (j := 2) hC eX3_note_19 rfl ?_
  refine J.iast ik_300 hC eX3_note_20 (kf_X3_entries h0) (fun μ_4 => ?_)
  refine J.aload_n (j := 1) hC eX3_note_21 rfl ?_
  refine gf_X3_11 (q := p0 + 1) hC eX3_note_22 h0 rfl ?_
  refine J.iload (j := 0) hC eX3_note_25 rfl ?_
  refine J.iconst hC eX3_note_27 ci_1 ?_
  refine J.iadd hC eX3_note_28 ?_
  refine J.iload_n (j := 3) hC eX3_note_29 rfl ?_
  refine J.iast ik_300 hC eX3_note_30 (kf_X3_entries h0) (fun μ_5 => ?_)
  refine J.aload_n (j := 1) hC eX3_note_31 rfl ?_
  refine gf_X3_11 (q := p0 + 1) hC eX3_note_32 h0 rfl ?_
  refine J.iload (j := 0) hC eX3_note_35 rfl ?_
  refine J.iconst hC eX3_note_37 ci_2 ?_
  refine J.iadd hC eX3_note_38 ?_
  refine J.iload_n (j := 4) hC eX3_note_39 rfl ?_
  refine J.iast ik_300 hC eX3_note_40 (kf_X3_entries h0) (fun μ_6 => ?_)
  refine J.aload_n (j := 1) hC eX3_note_41 rfl ?_
  refine J.dup hC eX3_note_42 rfl ?_
  refine gf_X3_15 hC eX3_note_43 h0 ?_
  refine J.iconst hC eX3_note_46 ci_1 ?_
  refine J.iadd hC eX3_note_47 ?_
  refine pf_X3_15 hC eX3_note_48 h0 (fun μ_7 => ?_)
  exact J.vret hC hr eX3_note_51
-- X3_eraseLatest
theorem eX3_eraseLatest_0 : DD cX3_eraseLatest 0 (.aload_n 0) 1 1 := ⟨by decide +kernel, rfl⟩
theorem eX3_eraseLatest_1 : DD cX3_eraseLatest 1 (.getfield 15) 3 4 := ⟨by decide +kernel, rfl⟩
theorem eX3_eraseLatest_4 : DB cX3_eraseLatest 4 (.ifCond .le 13) (13) 7 17 := ⟨by decide +kernel, rfl, by decide⟩
theorem eX3_eraseLatest_7 : DD cX3_eraseLatest 7 (.aload_n 0) 1 8 := ⟨by decide +kernel, rfl⟩
theorem eX3_eraseLatest_8 : DD cX3_eraseLatest 8 (.dup) 1 9 := ⟨by decide +kernel, rfl⟩
theorem eX3_eraseLatest_9 : DD cX3_eraseLatest 9 (.getfield 15) 3 12 := ⟨by decide +kernel, rfl⟩
theorem eX3_eraseLatest_12 : DD cX3_eraseLatest 12 (.iconst 1) 1 13 := ⟨by decide +kernel, rfl⟩
theorem eX3_eraseLatest_13 : DD cX3_eraseLatest 13 (.isub) 1 14 := ⟨by decide +kernel, rfl⟩
theorem eX3_eraseLatest_14 : DD cX3_eraseLatest 14 (.putfield 15) 3 17 := ⟨by decide +kernel, rfl⟩
theorem eX3_eraseLatest_17 : DD cX3_eraseLatest 17 (.return_) 1 18 := ⟨by decide +kernel, rfl⟩
def G_X3_eraseLatest (p0 : Nat) (μ : Mem) : Option (Unit × Mem) :=
  if (rI μ p0 1) ≤ 0 then some ((), μ) else lb (wI μ p0 1 ((rI μ p0 1) - (1 : Int32))) (fun μ_1 => some ((), μ_1))
set_option maxHeartbeats 4000000 in
theorem c_X3_eraseLatest {X : Wd} (hX : WdOk X) (p0 : Nat) (h0 : kd p0 = 3) (μ : Mem) : CtV X yX3_eraseLatest cX3_eraseLatest 1 none (rmF 0 0) [.ref (xad X p0)] μ (G_X3_eraseLatest p0 μ) := by
  refine CtV.of hX (plainFor_of_name (by decide)) (by exact Nat.le_of_ble_eq_true rfl) ?_
  intro C hCX hC hr
  subst hCX
  show J C (KV C) μ 0 [(0, .ref (xad (cX C) p0))] [] _
  unfold G_X3_eraseLatest
  refine J.aload_n (j := 0) hC eX3_eraseLatest_0 rfl ?_
  refine gf_X3_15 hC eX3_eraseLatest_1 h0 ?_
  refine J.if_le hC eX3_eraseLatest_4 (fun _ => ?_) (fun _ => ?_)
  · exact J.vret hC hr eX3_eraseLatest_17
  · refine J.aload_n (j := 0) hC eX3_eraseLatest_7 rfl ?_
    refine J.dup hC eX3_eraseLatest_8 rfl ?_
    refine gf_X3_15 hC eX3_eraseLatest_9 h0 ?_
    refine J.iconst hC eX3_eraseLatest_12 ci_1 ?_
    refine J.isub hC eX3_eraseLatest_13 ?_
    refine pf_X3_15 hC eX3_eraseLatest_14 h0 (fun μ_1 => ?_)
    exact J.vret hC hr eX3_eraseLatest_17
-- X3_read
theorem eX3_read_0 : DD cX3_read 0 (.aload_n 0) 1 1 := ⟨by decide +kernel, rfl⟩
theorem eX3_read_1 : DD cX3_read 1 (.getfield 11) 3 4 := ⟨by decide +kernel, rfl⟩
theorem eX3_read_4 : DD cX3_read 4 (.aload_n 0) 1 5 := ⟨by decide +kernel, rfl⟩
theorem eX3_read_5 : DD cX3_read 5 (.getfield 15) 3 8 := ⟨by decide +kernel, rfl⟩
theorem eX3_read_8 : DD cX3_read 8 (.iconst 1) 1 9 := ⟨by decide +kernel, rfl⟩
theorem eX3_read_9 : DD cX3_read 9 (.isub) 1 10 := ⟨by decide +kernel, rfl⟩
theorem eX3_read_10 : DD cX3_read 10 (.iload_n 1) 1 11 := ⟨by decide +kernel, rfl⟩
theorem eX3_read_11 : DD cX3_read 11 (.isub) 1 12 := ⟨by decide +kernel, rfl⟩
theorem eX3_read_12 : DD cX3_read 12 (.bipush 100) 2 14 := ⟨by decide +kernel, rfl⟩
theorem eX3_read_14 : DD cX3_read 14 (.invokestatic 25) 3 17 := ⟨by decide +kernel, rfl⟩
theorem eX3_read_17 : DD cX3_read 17 (.iconst 3) 1 18 := ⟨by decide +kernel, rfl⟩
theorem eX3_read_18 : DD cX3_read 18 (.imul) 1 19 := ⟨by decide +kernel, rfl⟩
theorem eX3_read_19 : DD cX3_read 19 (.iload_n 2) 1 20 := ⟨by decide +kernel, rfl⟩
theorem eX3_read_20 : DD cX3_read 20 (.iadd) 1 21 := ⟨by decide +kernel, rfl⟩
theorem eX3_read_21 : DD cX3_read 21 (.iaload) 1 22 := ⟨by decide +kernel, rfl⟩
theorem eX3_read_22 : DD cX3_read 22 (.ireturn) 1 23 := ⟨by decide +kernel, rfl⟩
def G_X3_read (p0 : Nat) (x1 : Int32) (x2 : Int32) (μ : Mem) : Option (Int32 × Mem) :=
  bd (G_J9_floorMod_7cf53 (((rI μ p0 1) - (1 : Int32)) - x1) (100 : Int32) μ) (fun r_2 μ_1 => gq (inB ((r_2 * (3 : Int32)) + x2) 300) (some (rI μ_1 (p0 + 1) (nx ((r_2 * (3 : Int32)) + x2)), μ_1)))
set_option maxHeartbeats 4000000 in
theorem c_X3_read {X : Wd} (hX : WdOk X) (p0 : Nat) (h0 : kd p0 = 3) (x1 : Int32) (x2 : Int32) (μ : Mem) : CtI X yX3_read cX3_read 3 (some .int) (rmF 1 22) [.ref (xad X p0), .int x1, .int x2] μ (G_X3_read p0 x1 x2 μ) := by
  refine CtI.of hX (plainFor_of_name (by decide)) (by exact Nat.le_of_ble_eq_true rfl) ?_
  intro C hCX hC hr
  subst hCX
  show J C (KI C) μ 0 [(0, .ref (xad (cX C) p0)), (1, .int x1), (2, .int x2)] [] _
  unfold G_X3_read
  refine J.aload_n (j := 0) hC eX3_read_0 rfl ?_
  refine gf_X3_11 (q := p0 + 1) hC eX3_read_1 h0 rfl ?_
  refine J.aload_n (j := 0) hC eX3_read_4 rfl ?_
  refine gf_X3_15 hC eX3_read_5 h0 ?_
  refine J.iconst hC eX3_read_8 ci_1 ?_
  refine J.isub hC eX3_read_9 ?_
  refine J.iload_n (j := 1) hC eX3_read_10 rfl ?_
  refine J.isub hC eX3_read_11 ?_
  refine J.bipush hC eX3_read_12 cb_100 ?_
  refine J.callSI (st := [.ref (xad (cX C) (p0 + 1))]) hC eX3_read_14 ml_X3_25 mv_J9_floorMod_7cf53 (Rle_of (Nat.le_of_ble_eq_true rfl) (Nat.le_of_ble_eq_true rfl)) (c_J9_floorMod_7cf53 hC.X (((rI μ p0 1) - (1 : Int32)) - x1) (100 : Int32) μ) rfl rfl (Nat.le_of_ble_eq_true rfl) (fun r_2 μ_1 => ?_)
  refine J.iconst hC eX3_read_17 ci_3 ?_
  refine J.imul hC eX3_read_18 ?_
  refine J.iload_n (j := 2) hC eX3_read_19 rfl ?_
  refine J.iadd hC eX3_read_20 ?_
  refine J.iald ik_300 hC eX3_read_21 (kf_X3_entries h0) ?_
  exact J.iret hC hr eX3_read_22
-- X4_greatestOfAll
theorem eX4_greatestOfAll_0 : DD cX4_greatestOfAll 0 (.iconst 0) 1 1 := ⟨by decide +kernel, rfl⟩
theorem eX4_greatestOfAll_1 : DD cX4_greatestOfAll 1 (.istore_n 1) 1 2 := ⟨by decide +kernel, rfl⟩
theorem eX4_greatestOfAll_2 : DD cX4_greatestOfAll 2 (.iconst 0) 1 3 := ⟨by decide +kernel, rfl⟩
theorem eX4_greatestOfAll_3 : DD cX4_greatestOfAll 3 (.istore_n 2) 1 4 := ⟨by decide +kernel, rfl⟩
theorem eX4_greatestOfAll_4 : DD cX4_greatestOfAll 4 (.iload_n 2) 1 5 := ⟨by decide +kernel, rfl⟩
theorem eX4_greatestOfAll_5 : DD cX4_greatestOfAll 5 (.aload_n 0) 1 6 := ⟨by decide +kernel, rfl⟩
theorem eX4_greatestOfAll_6 : DD cX4_greatestOfAll 6 (.invokevirtual 78) 3 9 := ⟨by decide +kernel, rfl⟩
theorem eX4_greatestOfAll_9 : DB cX4_greatestOfAll 9 (.if_icmp .ge 19) (19) 12 28 := ⟨by decide +kernel, rfl, by decide⟩
theorem eX4_greatestOfAll_12 : DD cX4_greatestOfAll 12 (.iload_n 1) 1 13 := ⟨by decide +kernel, rfl⟩
theorem eX4_greatestOfAll_13 : DD cX4_greatestOfAll 13 (.aload_n 0) 1 14 := ⟨by decide +kernel, rfl⟩
theorem eX4_greatestOfAll_14 : DD cX4_greatestOfAll 14 (.iload_n 2) 1 15 := ⟨by decide +kernel, rfl⟩
theorem eX4_greatestOfAll_15 : DD cX4_greatestOfAll 15 (.invokevirtual 72) 3 18 := ⟨by decide +kernel, rfl⟩
theorem eX4_greatestOfAll_18 : DD cX4_greatestOfAll 18 (.invokestatic 63) 3 21 := ⟨by decide +kernel, rfl⟩
theorem eX4_greatestOfAll_21 : DD cX4_greatestOfAll 21 (.istore_n 1) 1 22 := ⟨by decide +kernel, rfl⟩
theorem eX4_greatestOfAll_22 : DD cX4_greatestOfAll 22 (.iinc 2 1) 3 25 := ⟨by decide +kernel, rfl⟩
theorem eX4_greatestOfAll_25 : DB cX4_greatestOfAll 25 (.goto (-21)) (-21) 28 4 := ⟨by decide +kernel, rfl, by decide⟩
theorem eX4_greatestOfAll_28 : DD cX4_greatestOfAll 28 (.iload_n 1) 1 29 := ⟨by decide +kernel, rfl⟩
theorem eX4_greatestOfAll_29 : DD cX4_greatestOfAll 29 (.ireturn) 1 30 := ⟨by decide +kernel, rfl⟩
def L_X4_greatestOfAll_4 : Nat → Nat → Int32 → Int32 → Mem → Option (Int32 × Mem)
  | 0, _, _, _, _ => none
  | n + 1, p0, x1, x2, μ => bd (G_X4_size p0 μ) (fun r_2 μ_1 => if r_2 ≤ x2 then some (x1, μ_1) else bd (G_X4_greatestOf p0 x2 μ_1) (fun r_4 μ_3 => lb (imax x1 r_4) (fun x1_5 => lb (x2 + (1 : Int32)) (fun x2_6 => L_X4_greatestOfAll_4  n p0 x1_5 x2_6 μ_3))))
set_option maxHeartbeats 4000000 in
theorem j_X4_greatestOfAll_4 {C : Cx} (hC : Ok C cX4_greatestOfAll 3 RX4 (rmF 1 21)) (hr : (cT C).sig.returnType = (some .int)) : ∀ (n : Nat) (p0 : Nat) (h0 : kd p0 = 4) (x1 : Int32) (x2 : Int32) (μ : Mem), J C (KI C) μ 4 [(0, .ref (xad (cX C) p0)), (1, .int x1), (2, .int x2)] [] (L_X4_greatestOfAll_4  n p0 x1 x2 μ) := by
  intro n
  induction n with
  | zero => intros; exact J.no
  | succ n ih =>
    intro p0 h0 x1 x2 μ
    rw [L_X4_greatestOfAll_4]
    refine J.iload_n (j := 2) hC eX4_greatestOfAll_4 rfl ?_
    refine J.aload_n (j := 0) hC eX4_greatestOfAll_5 rfl ?_
    refine J.callVI (st := [.int x2]) hC eX4_greatestOfAll_6 h0 (by decide) rfl rfl ml_X4_78 mv_X4_size (Rle_of (Nat.le_of_ble_eq_true rfl) (Nat.le_of_ble_eq_true rfl)) (c_X4_size hC.X p0 h0 μ) rfl rfl (Nat.le_of_ble_eq_true rfl) (fun r_2 μ_1 => ?_)
    refine J.icmp_ge hC eX4_greatestOfAll_9 (fun _ => ?_) (fun _ => ?_)
    · refine J.iload_n (j := 1) hC eX4_greatestOfAll_28 rfl ?_
      exact J.iret hC hr eX4_greatestOfAll_29
    · refine J.iload_n (j := 1) hC eX4_greatestOfAll_12 rfl ?_
      refine J.aload_n (j := 0) hC eX4_greatestOfAll_13 rfl ?_
      refine J.iload_n (j := 2) hC eX4_greatestOfAll_14 rfl ?_
      refine J.callVI (st := [.int x1]) hC eX4_greatestOfAll_15 h0 (by decide) rfl rfl ml_X4_72 mv_X4_greatestOf (Rle_of (Nat.le_of_ble_eq_true rfl) (Nat.le_of_ble_eq_true rfl)) (c_X4_greatestOf hC.X p0 h0 x2 μ_1) rfl rfl (Nat.le_of_ble_eq_true rfl) (fun r_4 μ_3 => ?_)
      refine J.mmax hC eX4_greatestOfAll_18 ml_X4_63 w_smax w_im w_cmax (Nat.le_of_ble_eq_true rfl) (Nat.le_of_ble_eq_true rfl) ?_
      refine J.topi (fun x1_5 => ?_)
      refine J.istore_n [(1, .int x1_5), (0, .ref (xad (cX C) p0)), (2, .int x2)] hC eX4_greatestOfAll_21 (by decide) rfl ?_
      refine J.iinc (j := 2) (fun x2_6 => [(2, .int x2_6), (1, .int x1_5), (0, .ref (xad (cX C) p0))]) hC eX4_greatestOfAll_22 rfl ci_1 (by decide) (fun _ => rfl) (fun x2_6 => ?_)
      refine J.goto hC eX4_greatestOfAll_25 ?_
      refine J.sub [2, 1, 0] rfl ?_
      exact ih p0 h0 x1_5 x2_6 μ_3
def G_X4_greatestOfAll (p0 : Nat) (μ : Mem) : Option (Int32 × Mem) :=
  L_X4_greatestOfAll_4  100000 p0 (0 : Int32) (0 : Int32) μ
set_option maxHeartbeats 4000000 in
theorem c_X4_greatestOfAll {X : Wd} (hX : WdOk X) (p0 : Nat) (h0 : kd p0 = 4) (μ : Mem) : CtI X yX4_greatestOfAll cX4_greatestOfAll 3 (some .int) (rmF 1 21) [.ref (xad X p0)] μ (G_X4_greatestOfAll p0 μ) := by
  refine CtI.of hX (plainFor_of_name (by decide)) (by exact Nat.le_of_ble_eq_true rfl) ?_
  intro C hCX hC hr
  subst hCX
  show J C (KI C) μ 0 [(0, .ref (xad (cX C) p0))] [] _
  unfold G_X4_greatestOfAll
  refine J.iconst hC eX4_greatestOfAll_0 ci_0 ?_
  refine J.istore_n [(1, .int (0 : Int32)), (0, .ref (xad (cX C) p0))] hC eX4_greatestOfAll_1 (by decide) rfl ?_
  refine J.iconst hC eX4_greatestOfAll_2 ci_0 ?_
  refine J.istore_n [(2, .int (0 : Int32)), (1, .int (0 : Int32)), (0, .ref (xad (cX C) p0))] hC eX4_greatestOfAll_3 (by decide) rfl ?_
  refine J.sub [2, 1, 0] rfl ?_
  exact j_X4_greatestOfAll_4 hC hr  100000 p0 h0 (0 : Int32) (0 : Int32) μ
-- X4_joinTruth
theorem eX4_joinTruth_0 : DD cX4_joinTruth 0 (.iconst 0) 1 1 := ⟨by decide +kernel, rfl⟩
theorem eX4_joinTruth_1 : DD cX4_joinTruth 1 (.istore_n 3) 1 2 := ⟨by decide +kernel, rfl⟩
theorem eX4_joinTruth_2 : DD cX4_joinTruth 2 (.lconst 0) 1 3 := ⟨by decide +kernel, rfl⟩
theorem eX4_joinTruth_3 : DD cX4_joinTruth 3 (.lstore 4) 2 5 := ⟨by decide +kernel, rfl⟩
theorem eX4_joinTruth_5 : DD cX4_joinTruth 5 (.iconst 0) 1 6 := ⟨by decide +kernel, rfl⟩
theorem eX4_joinTruth_6 : DD cX4_joinTruth 6 (.istore 6) 2 8 := ⟨by decide +kernel, rfl⟩
theorem eX4_joinTruth_8 : DD cX4_joinTruth 8 (.iload 6) 2 10 := ⟨by decide +kernel, rfl⟩
theorem eX4_joinTruth_10 : DD cX4_joinTruth 10 (.aload_n 0) 1 11 := ⟨by decide +kernel, rfl⟩
theorem eX4_joinTruth_11 : DD cX4_joinTruth 11 (.getfield 18) 3 14 := ⟨by decide +kernel, rfl⟩
theorem eX4_joinTruth_14 : DB cX4_joinTruth 14 (.if_icmp .ge 52) (52) 17 66 := ⟨by decide +kernel, rfl, by decide⟩
theorem eX4_joinTruth_17 : DD cX4_joinTruth 17 (.aload_n 0) 1 18 := ⟨by decide +kernel, rfl⟩
theorem eX4_joinTruth_18 : DD cX4_joinTruth 18 (.getfield 11) 3 21 := ⟨by decide +kernel, rfl⟩
theorem eX4_joinTruth_21 : DD cX4_joinTruth 21 (.iload 6) 2 23 := ⟨by decide +kernel, rfl⟩
theorem eX4_joinTruth_23 : DD cX4_joinTruth 23 (.iaload) 1 24 := ⟨by decide +kernel, rfl⟩
theorem eX4_joinTruth_24 : DB cX4_joinTruth 24 (.ifCond .le 36) (36) 27 60 := ⟨by decide +kernel, rfl, by decide⟩
theorem eX4_joinTruth_27 : DD cX4_joinTruth 27 (.iinc 3 1) 3 30 := ⟨by decide +kernel, rfl⟩
theorem eX4_joinTruth_30 : DD cX4_joinTruth 30 (.iload_n 3) 1 31 := ⟨by decide +kernel, rfl⟩
theorem eX4_joinTruth_31 : DD cX4_joinTruth 31 (.iload_n 2) 1 32 := ⟨by decide +kernel, rfl⟩
theorem eX4_joinTruth_32 : DB cX4_joinTruth 32 (.if_icmp .le 7) (7) 35 39 := ⟨by decide +kernel, rfl, by decide⟩
theorem eX4_joinTruth_35 : DD cX4_joinTruth 35 (.ldc2_w 82) 3 38 := ⟨by decide +kernel, rfl⟩
theorem eX4_joinTruth_38 : DD cX4_joinTruth 38 (.lreturn) 1 39 := ⟨by decide +kernel, rfl⟩
theorem eX4_joinTruth_39 : DD cX4_joinTruth 39 (.lload 4) 2 41 := ⟨by decide +kernel, rfl⟩
theorem eX4_joinTruth_41 : DD cX4_joinTruth 41 (.aload_n 0) 1 42 := ⟨by decide +kernel, rfl⟩
theorem eX4_joinTruth_42 : DD cX4_joinTruth 42 (.getfield 11) 3 45 := ⟨by decide +kernel, rfl⟩
theorem eX4_joinTruth_45 : DD cX4_joinTruth 45 (.iload 6) 2 47 := ⟨by decide +kernel, rfl⟩
theorem eX4_joinTruth_47 : DD cX4_joinTruth 47 (.iaload) 1 48 := ⟨by decide +kernel, rfl⟩
theorem eX4_joinTruth_48 : DD cX4_joinTruth 48 (.i2l) 1 49 := ⟨by decide +kernel, rfl⟩
theorem eX4_joinTruth_49 : DD cX4_joinTruth 49 (.aload_n 1) 1 50 := ⟨by decide +kernel, rfl⟩
theorem eX4_joinTruth_50 : DD cX4_joinTruth 50 (.iload 6) 2 52 := ⟨by decide +kernel, rfl⟩
theorem eX4_joinTruth_52 : DD cX4_joinTruth 52 (.invokevirtual 84) 3 55 := ⟨by decide +kernel, rfl⟩
theorem eX4_joinTruth_55 : DD cX4_joinTruth 55 (.i2l) 1 56 := ⟨by decide +kernel, rfl⟩
theorem eX4_joinTruth_56 : DD cX4_joinTruth 56 (.lmul) 1 57 := ⟨by decide +kernel, rfl⟩
theorem eX4_joinTruth_57 : DD cX4_joinTruth 57 (.ladd) 1 58 := ⟨by decide +kernel, rfl⟩
theorem eX4_joinTruth_58 : DD cX4_joinTruth 58 (.lstore 4) 2 60 := ⟨by decide +kernel, rfl⟩
theorem eX4_joinTruth_60 : DD cX4_joinTruth 60 (.iinc 6 1) 3 63 := ⟨by decide +kernel, rfl⟩
theorem eX4_joinTruth_63 : DB cX4_joinTruth 63 (.goto (-55)) (-55) 66 8 := ⟨by decide +kernel, rfl, by decide⟩
theorem eX4_joinTruth_66 : DD cX4_joinTruth 66 (.lload 4) 2 68 := ⟨by decide +kernel, rfl⟩
theorem eX4_joinTruth_68 : DD cX4_joinTruth 68 (.lreturn) 1 69 := ⟨by decide +kernel, rfl⟩
def F_X4_joinTruth_60 (kc_8 : Nat → Nat → Int32 → Int32 → Int64 → Int32 → Mem → Option (Int64 × Mem)) (p0 : Nat) (p1 : Nat) (x2 : Int32) (x3 : Int32) (l4 : Int64) (x6 : Int32) (μ : Mem) : Option (Int64 × Mem) :=
  lb (x6 + (1 : Int32)) (fun x6_1 => kc_8 p0 p1 x2 x3 l4 x6_1 μ)
set_option maxHeartbeats 4000000 in
theorem j_X4_joinTruth_60 {C : Cx} (hC : Ok C cX4_joinTruth 7 RX4 (rmF 1 21)) (hr : (cT C).sig.returnType = (some .long)) (kc_8 : Nat → Nat → Int32 → Int32 → Int64 → Int32 → Mem → Option (Int64 × Mem)) (hk_8 : ∀ (p0 : Nat) (h0 : kd p0 = 4) (p1 : Nat) (h1 : kd p1 = 4) (x2 : Int32) (x3 : Int32) (l4 : Int64) (x6 : Int32) (μ : Mem), J C (KL C) μ 8 [(0, .ref (xad (cX C) p0)), (1, .ref (xad (cX C) p1)), (2, .int x2), (3, .int x3), (4, .long l4), (6, .int x6)] [] (kc_8 p0 p1 x2 x3 l4 x6 μ)) (p0 : Nat) (h0 : kd p0 = 4) (p1 : Nat) (h1 : kd p1 = 4) (x2 : Int32) (x3 : Int32) (l4 : Int64) (x6 : Int32) (μ : Mem) : J C (KL C) μ 60 [(0, .ref (xad (cX C) p0)), (1, .ref (xad (cX C) p1)), (2, .int x2), (3, .int x3), (4, .long l4), (6, .int x6)] [] (F_X4_joinTruth_60 kc_8 p0 p1 x2 x3 l4 x6 μ) := by
  unfold F_X4_joinTruth_60
  refine J.iinc (j := 5) (fun x6_1 => [(6, .int x6_1), (0, .ref (xad (cX C) p0)), (1, .ref (xad (cX C) p1)), (2, .int x2), (3, .int x3), (4, .long l4)]) hC eX4_joinTruth_60 rfl ci_1 (by decide) (fun _ => rfl) (fun x6_1 => ?_)
  refine J.goto hC eX4_joinTruth_63 ?_
  refine J.sub [1, 2, 3, 4, 5, 0] rfl ?_
  exact hk_8 p0 h0 p1 h1 x2 x3 l4 x6_1 μ
def L_X4_joinTruth_8 : Nat → Nat → Nat → Int32 → Int32 → Int64 → Int32 → Mem → Option (Int64 × Mem)
  | 0, _, _, _, _, _, _, _ => none
  | n + 1, p0, p1, x2, x3, l4, x6, μ => if (rI μ p0 2) ≤ x6 then some (l4, μ) else gq (inB x6 16) (if (rI μ (p0 + 1) (nx x6)) ≤ 0 then F_X4_joinTruth_60 (L_X4_joinTruth_8  n) p0 p1 x2 x3 l4 x6 μ else lb (x3 + (1 : Int32)) (fun x3_1 => if x3_1 ≤ x2 then gq (inB x6 16) (bd (G_X4_countAt p1 x6 μ) (fun r_3 μ_2 => lb (l4 + (((rI μ (p0 + 1) (nx x6)).toInt64) * r_3.toInt64)) (fun l4_4 => F_X4_joinTruth_60 (L_X4_joinTruth_8  n) p0 p1 x2 x3_1 l4_4 x6 μ_2))) else some ((-1 : Int64), μ)))
set_option maxHeartbeats 4000000 in
theorem j_X4_joinTruth_8 {C : Cx} (hC : Ok C cX4_joinTruth 7 RX4 (rmF 1 21)) (hr : (cT C).sig.returnType = (some .long)) : ∀ (n : Nat) (p0 : Nat) (h0 : kd p0 = 4) (p1 : Nat) (h1 : kd p1 = 4) (x2 : Int32) (x3 : Int32) (l4 : Int64) (x6 : Int32) (μ : Mem), J C (KL C) μ 8 [(0, .ref (xad (cX C) p0)), (1, .ref (xad (cX C) p1)), (2, .int x2), (3, .int x3), (4, .long l4), (6, .int x6)] [] (L_X4_joinTruth_8  n p0 p1 x2 x3 l4 x6 μ) := by
  intro n
  induction n with
  | zero => intros; exact J.no
  | succ n ih =>
    intro p0 h0 p1 h1 x2 x3 l4 x6 μ
    rw [L_X4_joinTruth_8]
    refine J.iload (j := 5) hC eX4_joinTruth_8 rfl ?_
    refine J.aload_n (j := 0) hC eX4_joinTruth_10 rfl ?_
    refine gf_X4_18 hC eX4_joinTruth_11 h0 ?_
    refine J.icmp_ge hC eX4_joinTruth_14 (fun _ => ?_) (fun _ => ?_)
    · refine J.lload (j := 4) hC eX4_joinTruth_66 rfl ?_
      exact J.lret hC hr eX4_joinTruth_68
    · refine J.aload_n (j := 0) hC eX4_joinTruth_17 rfl ?_
      refine gf_X4_11 (q := p0 + 1) hC eX4_joinTruth_18 h0 rfl ?_
      refine J.iload (j := 5) hC eX4_joinTruth_21 rfl ?_
      refine J.iald ik_16 hC eX4_joinTruth_23 (kf_X4_counts h0) ?_
      refine J.if_le hC eX4_joinTruth_24 (fun _ => ?_) (fun _ => ?_)
      · refine J.sub [0, 1, 2, 3, 4, 5] rfl ?_
        exact j_X4_joinTruth_60 hC hr (L_X4_joinTruth_8  n) ih p0 h0 p1 h1 x2 x3 l4 x6 μ
      · refine J.iinc (j := 3) (fun x3_1 => [(3, .int x3_1), (0, .ref (xad (cX C) p0)), (1, .ref (xad (cX C) p1)), (2, .int x2), (4, .long l4), (6, .int x6)]) hC eX4_joinTruth_27 rfl ci_1 (by decide) (fun _ => rfl) (fun x3_1 => ?_)
        refine J.iload_n (j := 0) hC eX4_joinTruth_30 rfl ?_
        refine J.iload_n (j := 3) hC eX4_joinTruth_31 rfl ?_
        refine J.icmp_le hC eX4_joinTruth_32 (fun _ => ?_) (fun _ => ?_)
        · refine J.lload (j := 4) hC eX4_joinTruth_39 rfl ?_
          refine J.aload_n (j := 1) hC eX4_joinTruth_41 rfl ?_
          refine gf_X4_11 (q := p0 + 1) hC eX4_joinTruth_42 h0 rfl ?_
          refine J.iload (j := 5) hC eX4_joinTruth_45 rfl ?_
          refine J.iald ik_16 hC eX4_joinTruth_47 (kf_X4_counts h0) ?_
          refine J.i2l hC eX4_joinTruth_48 ?_
          refine J.aload_n (j := 2) hC eX4_joinTruth_49 rfl ?_
          refine J.iload (j := 5) hC eX4_joinTruth_50 rfl ?_
          refine J.callVI (st := [.long ((rI μ (p0 + 1) (nx x6)).toInt64), .long l4]) hC eX4_joinTruth_52 h1 (by decide) rfl rfl ml_X4_84 mv_X4_countAt (Rle_of (Nat.le_of_ble_eq_true rfl) (Nat.le_of_ble_eq_true rfl)) (c_X4_countAt hC.X p1 h1 x6 μ) rfl rfl (Nat.le_of_ble_eq_true rfl) (fun r_3 μ_2 => ?_)
          refine J.i2l hC eX4_joinTruth_55 ?_
          refine J.lmul hC eX4_joinTruth_56 ?_
          refine J.ladd hC eX4_joinTruth_57 ?_
          refine J.topl (fun l4_4 => ?_)
          refine J.lstore [(4, .long l4_4), (3, .int x3_1), (0, .ref (xad (cX C) p0)), (1, .ref (xad (cX C) p1)), (2, .int x2), (6, .int x6)] hC eX4_joinTruth_58 (by decide) rfl ?_
          refine J.sub [2, 3, 4, 1, 0, 5] rfl ?_
          exact j_X4_joinTruth_60 hC hr (L_X4_joinTruth_8  n) ih p0 h0 p1 h1 x2 x3_1 l4_4 x6 μ_2
        · refine J.ldc2 hC eX4_joinTruth_35 mk_X4_82 ?_
          exact J.lret hC hr eX4_joinTruth_38
def G_X4_joinTruth (p0 : Nat) (p1 : Nat) (x2 : Int32) (μ : Mem) : Option (Int64 × Mem) :=
  L_X4_joinTruth_8  100000 p0 p1 x2 (0 : Int32) (0 : Int64) (0 : Int32) μ
set_option maxHeartbeats 4000000 in
theorem c_X4_joinTruth {X : Wd} (hX : WdOk X) (p0 : Nat) (h0 : kd p0 = 4) (p1 : Nat) (h1 : kd p1 = 4) (x2 : Int32) (μ : Mem) : CtL X yX4_joinTruth cX4_joinTruth 7 (some .long) (rmF 1 21) [.ref (xad X p0), .ref (xad X p1), .int x2] μ (G_X4_joinTruth p0 p1 x2 μ) := by
  refine CtL.of hX (plainFor_of_name (by decide)) (by exact Nat.le_of_ble_eq_true rfl) ?_
  intro C hCX hC hr
  subst hCX
  show J C (KL C) μ 0 [(0, .ref (xad (cX C) p0)), (1, .ref (xad (cX C) p1)), (2, .int x2)] [] _
  unfold G_X4_joinTruth
  refine J.iconst hC eX4_joinTruth_0 ci_0 ?_
  refine J.istore_n [(3, .int (0 : Int32)), (0, .ref (xad (cX C) p0)), (1, .ref (xad (cX C) p1)), (2, .int x2)] hC eX4_joinTruth_1 (by decide) rfl ?_
  refine J.lconst hC eX4_joinTruth_2 cl_0 ?_
  refine J.lstore [(4, .long (0 : Int64)), (3, .int (0 : Int32)), (0, .ref (xad (cX C) p0)), (1, .ref (xad (cX C) p1)), (2, .int x2)] hC eX4_joinTruth_3 (by decide) rfl ?_
  refine J.iconst hC eX4_joinTruth_5 ci_0 ?_
  refine J.istore [(6, .int (0 : Int32)), (4, .long (0 : Int64)), (3, .int (0 : Int32)), (0, .ref (xad (cX C) p0)), (1, .ref (xad (cX C) p1)), (2, .int x2)] hC eX4_joinTruth_6 (by decide) rfl ?_
  refine J.sub [3, 4, 5, 2, 1, 0] rfl ?_
  exact j_X4_joinTruth_8 hC hr  100000 p0 h0 p1 h1 x2 (0 : Int32) (0 : Int64) (0 : Int32) μ
-- X4_commonValues
theorem eX4_commonValues_0 : DD cX4_commonValues 0 (.aload_n 0) 1 1 := ⟨by decide +kernel, rfl⟩
theorem eX4_commonValues_1 : DD cX4_commonValues 1 (.iload_n 1) 1 2 := ⟨by decide +kernel, rfl⟩
theorem eX4_commonValues_2 : DD cX4_commonValues 2 (.invokevirtual 26) 3 5 := ⟨by decide +kernel, rfl⟩
theorem eX4_commonValues_5 : DD cX4_commonValues 5 (.aload_n 2) 1 6 := ⟨by decide +kernel, rfl⟩
theorem eX4_commonValues_6 : DD cX4_commonValues 6 (.iload_n 3) 1 7 := ⟨by decide +kernel, rfl⟩
theorem eX4_commonValues_7 : DD cX4_commonValues 7 (.invokevirtual 26) 3 10 := ⟨by decide +kernel, rfl⟩
theorem eX4_commonValues_10 : DD cX4_commonValues 10 (.invokestatic 63) 3 13 := ⟨by decide +kernel, rfl⟩
theorem eX4_commonValues_13 : DD cX4_commonValues 13 (.istore 4) 2 15 := ⟨by decide +kernel, rfl⟩
theorem eX4_commonValues_15 : DD cX4_commonValues 15 (.aload_n 0) 1 16 := ⟨by decide +kernel, rfl⟩
theorem eX4_commonValues_16 : DD cX4_commonValues 16 (.iload_n 1) 1 17 := ⟨by decide +kernel, rfl⟩
theorem eX4_commonValues_17 : DD cX4_commonValues 17 (.invokevirtual 22) 3 20 := ⟨by decide +kernel, rfl⟩
theorem eX4_commonValues_20 : DD cX4_commonValues 20 (.aload_n 2) 1 21 := ⟨by decide +kernel, rfl⟩
theorem eX4_commonValues_21 : DD cX4_commonValues 21 (.iload_n 3) 1 22 := ⟨by decide +kernel, rfl⟩
theorem eX4_commonValues_22 : DD cX4_commonValues 22 (.invokevirtual 22) 3 25 := ⟨by decide +kernel, rfl⟩
theorem eX4_commonValues_25 : DD cX4_commonValues 25 (.invokestatic 44) 3 28 := ⟨by decide +kernel, rfl⟩
theorem eX4_commonValues_28 : DD cX4_commonValues 28 (.istore 5) 2 30 := ⟨by decide +kernel, rfl⟩
theorem eX4_commonValues_30 : DD cX4_commonValues 30 (.iconst 0) 1 31 := ⟨by decide +kernel, rfl⟩
theorem eX4_commonValues_31 : DD cX4_commonValues 31 (.iload 5) 2 33 := ⟨by decide +kernel, rfl⟩
theorem eX4_commonValues_33 : DD cX4_commonValues 33 (.iload 4) 2 35 := ⟨by decide +kernel, rfl⟩
theorem eX4_commonValues_35 : DD cX4_commonValues 35 (.isub) 1 36 := ⟨by decide +kernel, rfl⟩
theorem eX4_commonValues_36 : DD cX4_commonValues 36 (.iconst 1) 1 37 := ⟨by decide +kernel, rfl⟩
theorem eX4_commonValues_37 : DD cX4_commonValues 37 (.iadd) 1 38 := ⟨by decide +kernel, rfl⟩
theorem eX4_commonValues_38 : DD cX4_commonValues 38 (.invokestatic 63) 3 41 := ⟨by decide +kernel, rfl⟩
theorem eX4_commonValues_41 : DD cX4_commonValues 41 (.ireturn) 1 42 := ⟨by decide +kernel, rfl⟩
def G_X4_commonValues (p0 : Nat) (x1 : Int32) (p2 : Nat) (x3 : Int32) (μ : Mem) : Option (Int32 × Mem) :=
  bd (G_X4_firstOf p0 x1 μ) (fun r_2 μ_1 => bd (G_X4_firstOf p2 x3 μ_1) (fun r_4 μ_3 => lb (imax r_2 r_4) (fun x4_5 => bd (G_X4_lastOf p0 x1 μ_3) (fun r_7 μ_6 => bd (G_X4_lastOf p2 x3 μ_6) (fun r_9 μ_8 => lb (imin r_7 r_9) (fun x5_10 => some (imax (0 : Int32) ((x5_10 - x4_5) + (1 : Int32)), μ_8)))))))
set_option maxHeartbeats 4000000 in
theorem c_X4_commonValues {X : Wd} (hX : WdOk X) (p0 : Nat) (h0 : kd p0 = 4) (x1 : Int32) (p2 : Nat) (h2 : kd p2 = 4) (x3 : Int32) (μ : Mem) : CtI X yX4_commonValues cX4_commonValues 6 (some .int) (rmF 1 21) [.ref (xad X p0), .int x1, .ref (xad X p2), .int x3] μ (G_X4_commonValues p0 x1 p2 x3 μ) := by
  refine CtI.of hX (plainFor_of_name (by decide)) (by exact Nat.le_of_ble_eq_true rfl) ?_
  intro C hCX hC hr
  subst hCX
  show J C (KI C) μ 0 [(0, .ref (xad (cX C) p0)), (1, .int x1), (2, .ref (xad (cX C) p2)), (3, .int x3)] [] _
  unfold G_X4_commonValues
  refine J.aload_n (j := 0) hC eX4_commonValues_0 rfl ?_
  refine J.iload_n (j := 1) hC eX4_commonValues_1 rfl ?_
  refine J.callVI (st := []) hC eX4_commonValues_2 h0 (by decide) rfl rfl ml_X4_26 mv_X4_firstOf (Rle_of (Nat.le_of_ble_eq_true rfl) (Nat.le_of_ble_eq_true rfl)) (c_X4_firstOf hC.X p0 h0 x1 μ) rfl rfl (Nat.le_of_ble_eq_true rfl) (fun r_2 μ_1 => ?_)
  refine J.aload_n (j := 2) hC eX4_commonValues_5 rfl ?_
  refine J.iload_n (j := 3) hC eX4_commonValues_6 rfl ?_
  refine J.callVI (st := [.int r_2]) hC eX4_commonValues_7 h2 (by decide) rfl rfl ml_X4_26 mv_X4_firstOf (Rle_of (Nat.le_of_ble_eq_true rfl) (Nat.le_of_ble_eq_true rfl)) (c_X4_firstOf hC.X p2 h2 x3 μ_1) rfl rfl (Nat.le_of_ble_eq_true rfl) (fun r_4 μ_3 => ?_)
  refine J.mmax hC eX4_commonValues_10 ml_X4_63 w_smax w_im w_cmax (Nat.le_of_ble_eq_true rfl) (Nat.le_of_ble_eq_true rfl) ?_
  refine J.topi (fun x4_5 => ?_)
  refine J.istore [(4, .int x4_5), (0, .ref (xad (cX C) p0)), (1, .int x1), (2, .ref (xad (cX C) p2)), (3, .int x3)] hC eX4_commonValues_13 (by decide) rfl ?_
  refine J.aload_n (j := 1) hC eX4_commonValues_15 rfl ?_
  refine J.iload_n (j := 2) hC eX4_commonValues_16 rfl ?_
  refine J.callVI (st := []) hC eX4_commonValues_17 h0 (by decide) rfl rfl ml_X4_22 mv_X4_lastOf (Rle_of (Nat.le_of_ble_eq_true rfl) (Nat.le_of_ble_eq_true rfl)) (c_X4_lastOf hC.X p0 h0 x1 μ_3) rfl rfl (Nat.le_of_ble_eq_true rfl) (fun r_7 μ_6 => ?_)
  refine J.aload_n (j := 3) hC eX4_commonValues_20 rfl ?_
  refine J.iload_n (j := 4) hC eX4_commonValues_21 rfl ?_
  refine J.callVI (st := [.int r_7]) hC eX4_commonValues_22 h2 (by decide) rfl rfl ml_X4_22 mv_X4_lastOf (Rle_of (Nat.le_of_ble_eq_true rfl) (Nat.le_of_ble_eq_true rfl)) (c_X4_lastOf hC.X p2 h2 x3 μ_6) rfl rfl (Nat.le_of_ble_eq_true rfl) (fun r_9 μ_8 => ?_)
  refine J.mmin hC eX4_commonValues_25 ml_X4_44 w_smin w_im w_cmin (Nat.le_of_ble_eq_true rfl) (Nat.le_of_ble_eq_true rfl) ?_
  refine J.topi (fun x5_10 => ?_)
  refine J.istore [(5, .int x5_10), (4, .int x4_5), (0, .ref (xad (cX C) p0)), (1, .int x1), (2, .ref (xad (cX C) p2)), (3, .int x3)] hC eX4_commonValues_28 (by decide) rfl ?_
  refine J.iconst hC eX4_commonValues_30 ci_0 ?_
  refine J.iload (j := 0) hC eX4_commonValues_31 rfl ?_
  refine J.iload (j := 1) hC eX4_commonValues_33 rfl ?_
  refine J.isub hC eX4_commonValues_35 ?_
  refine J.iconst hC eX4_commonValues_36 ci_1 ?_
  refine J.iadd hC eX4_commonValues_37 ?_
  refine J.mmax hC eX4_commonValues_38 ml_X4_63 w_smax w_im w_cmax (Nat.le_of_ble_eq_true rfl) (Nat.le_of_ble_eq_true rfl) ?_
  exact J.iret hC hr eX4_commonValues_41
-- X4_joinUpper
theorem eX4_joinUpper_0 : DD cX4_joinUpper 0 (.lconst 0) 1 1 := ⟨by decide +kernel, rfl⟩
theorem eX4_joinUpper_1 : DD cX4_joinUpper 1 (.lstore_n 2) 1 2 := ⟨by decide +kernel, rfl⟩
theorem eX4_joinUpper_2 : DD cX4_joinUpper 2 (.iconst 0) 1 3 := ⟨by decide +kernel, rfl⟩
theorem eX4_joinUpper_3 : DD cX4_joinUpper 3 (.istore 4) 2 5 := ⟨by decide +kernel, rfl⟩
theorem eX4_joinUpper_5 : DD cX4_joinUpper 5 (.iload 4) 2 7 := ⟨by decide +kernel, rfl⟩
theorem eX4_joinUpper_7 : DD cX4_joinUpper 7 (.aload_n 0) 1 8 := ⟨by decide +kernel, rfl⟩
theorem eX4_joinUpper_8 : DD cX4_joinUpper 8 (.invokevirtual 78) 3 11 := ⟨by decide +kernel, rfl⟩
theorem eX4_joinUpper_11 : DB cX4_joinUpper 11 (.if_icmp .ge 105) (105) 14 116 := ⟨by decide +kernel, rfl, by decide⟩
theorem eX4_joinUpper_14 : DD cX4_joinUpper 14 (.iconst 0) 1 15 := ⟨by decide +kernel, rfl⟩
theorem eX4_joinUpper_15 : DD cX4_joinUpper 15 (.istore 5) 2 17 := ⟨by decide +kernel, rfl⟩
theorem eX4_joinUpper_17 : DD cX4_joinUpper 17 (.iload 5) 2 19 := ⟨by decide +kernel, rfl⟩
theorem eX4_joinUpper_19 : DD cX4_joinUpper 19 (.aload_n 1) 1 20 := ⟨by decide +kernel, rfl⟩
theorem eX4_joinUpper_20 : DD cX4_joinUpper 20 (.invokevirtual 78) 3 23 := ⟨by decide +kernel, rfl⟩
theorem eX4_joinUpper_23 : DB cX4_joinUpper 23 (.if_icmp .ge 87) (87) 26 110 := ⟨by decide +kernel, rfl, by decide⟩
theorem eX4_joinUpper_26 : DD cX4_joinUpper 26 (.aload_n 0) 1 27 := ⟨by decide +kernel, rfl⟩
theorem eX4_joinUpper_27 : DD cX4_joinUpper 27 (.iload 4) 2 29 := ⟨by decide +kernel, rfl⟩
theorem eX4_joinUpper_29 : DD cX4_joinUpper 29 (.aload_n 1) 1 30 := ⟨by decide +kernel, rfl⟩
theorem eX4_joinUpper_30 : DD cX4_joinUpper 30 (.iload 5) 2 32 := ⟨by decide +kernel, rfl⟩
theorem eX4_joinUpper_32 : DD cX4_joinUpper 32 (.invokevirtual 87) 3 35 := ⟨by decide +kernel, rfl⟩
theorem eX4_joinUpper_35 : DD cX4_joinUpper 35 (.i2l) 1 36 := ⟨by decide +kernel, rfl⟩
theorem eX4_joinUpper_36 : DD cX4_joinUpper 36 (.lstore 6) 2 38 := ⟨by decide +kernel, rfl⟩
theorem eX4_joinUpper_38 : DD cX4_joinUpper 38 (.aload_n 0) 1 39 := ⟨by decide +kernel, rfl⟩
theorem eX4_joinUpper_39 : DD cX4_joinUpper 39 (.iload 4) 2 41 := ⟨by decide +kernel, rfl⟩
theorem eX4_joinUpper_41 : DD cX4_joinUpper 41 (.invokevirtual 72) 3 44 := ⟨by decide +kernel, rfl⟩
theorem eX4_joinUpper_44 : DD cX4_joinUpper 44 (.i2l) 1 45 := ⟨by decide +kernel, rfl⟩
theorem eX4_joinUpper_45 : DD cX4_joinUpper 45 (.lstore 8) 2 47 := ⟨by decide +kernel, rfl⟩
theorem eX4_joinUpper_47 : DD cX4_joinUpper 47 (.aload_n 1) 1 48 := ⟨by decide +kernel, rfl⟩
theorem eX4_joinUpper_48 : DD cX4_joinUpper 48 (.iload 5) 2 50 := ⟨by decide +kernel, rfl⟩
theorem eX4_joinUpper_50 : DD cX4_joinUpper 50 (.invokevirtual 72) 3 53 := ⟨by decide +kernel, rfl⟩
theorem eX4_joinUpper_53 : DD cX4_joinUpper 53 (.i2l) 1 54 := ⟨by decide +kernel, rfl⟩
theorem eX4_joinUpper_54 : DD cX4_joinUpper 54 (.lstore 10) 2 56 := ⟨by decide +kernel, rfl⟩
theorem eX4_joinUpper_56 : DD cX4_joinUpper 56 (.lload 6) 2 58 := ⟨by decide +kernel, rfl⟩
theorem eX4_joinUpper_58 : DD cX4_joinUpper 58 (.lconst 0) 1 59 := ⟨by decide +kernel, rfl⟩
theorem eX4_joinUpper_59 : DD cX4_joinUpper 59 (.lcmp) 1 60 := ⟨by decide +kernel, rfl⟩
theorem eX4_joinUpper_60 : DB cX4_joinUpper 60 (.ifCond .le 44) (44) 63 104 := ⟨by decide +kernel, rfl, by decide⟩
theorem eX4_joinUpper_63 : DD cX4_joinUpper 63 (.aload_n 0) 1 64 := ⟨by decide +kernel, rfl⟩
theorem eX4_joinUpper_64 : DD cX4_joinUpper 64 (.iload 4) 2 66 := ⟨by decide +kernel, rfl⟩
theorem eX4_joinUpper_66 : DD cX4_joinUpper 66 (.invokevirtual 69) 3 69 := ⟨by decide +kernel, rfl⟩
theorem eX4_joinUpper_69 : DD cX4_joinUpper 69 (.i2l) 1 70 := ⟨by decide +kernel, rfl⟩
theorem eX4_joinUpper_70 : DD cX4_joinUpper 70 (.lload 10) 2 72 := ⟨by decide +kernel, rfl⟩
theorem eX4_joinUpper_72 : DD cX4_joinUpper 72 (.lmul) 1 73 := ⟨by decide +kernel, rfl⟩
theorem eX4_joinUpper_73 : DD cX4_joinUpper 73 (.aload_n 1) 1 74 := ⟨by decide +kernel, rfl⟩
theorem eX4_joinUpper_74 : DD cX4_joinUpper 74 (.iload 5) 2 76 := ⟨by decide +kernel, rfl⟩
theorem eX4_joinUpper_76 : DD cX4_joinUpper 76 (.invokevirtual 69) 3 79 := ⟨by decide +kernel, rfl⟩
theorem eX4_joinUpper_79 : DD cX4_joinUpper 79 (.i2l) 1 80 := ⟨by decide +kernel, rfl⟩
theorem eX4_joinUpper_80 : DD cX4_joinUpper 80 (.lload 8) 2 82 := ⟨by decide +kernel, rfl⟩
theorem eX4_joinUpper_82 : DD cX4_joinUpper 82 (.lmul) 1 83 := ⟨by decide +kernel, rfl⟩
theorem eX4_joinUpper_83 : DD cX4_joinUpper 83 (.invokestatic 91) 3 86 := ⟨by decide +kernel, rfl⟩
theorem eX4_joinUpper_86 : DD cX4_joinUpper 86 (.lstore 12) 2 88 := ⟨by decide +kernel, rfl⟩
theorem eX4_joinUpper_88 : DD cX4_joinUpper 88 (.lload_n 2) 1 89 := ⟨by decide +kernel, rfl⟩
theorem eX4_joinUpper_89 : DD cX4_joinUpper 89 (.lload 12) 2 91 := ⟨by decide +kernel, rfl⟩
theorem eX4_joinUpper_91 : DD cX4_joinUpper 91 (.lload 6) 2 93 := ⟨by decide +kernel, rfl⟩
theorem eX4_joinUpper_93 : DD cX4_joinUpper 93 (.lload 8) 2 95 := ⟨by decide +kernel, rfl⟩
theorem eX4_joinUpper_95 : DD cX4_joinUpper 95 (.lmul) 1 96 := ⟨by decide +kernel, rfl⟩
theorem eX4_joinUpper_96 : DD cX4_joinUpper 96 (.lload 10) 2 98 := ⟨by decide +kernel, rfl⟩
theorem eX4_joinUpper_98 : DD cX4_joinUpper 98 (.lmul) 1 99 := ⟨by decide +kernel, rfl⟩
theorem eX4_joinUpper_99 : DD cX4_joinUpper 99 (.invokestatic 91) 3 102 := ⟨by decide +kernel, rfl⟩
theorem eX4_joinUpper_102 : DD cX4_joinUpper 102 (.ladd) 1 103 := ⟨by decide +kernel, rfl⟩
theorem eX4_joinUpper_103 : DD cX4_joinUpper 103 (.lstore_n 2) 1 104 := ⟨by decide +kernel, rfl⟩
theorem eX4_joinUpper_104 : DD cX4_joinUpper 104 (.iinc 5 1) 3 107 := ⟨by decide +kernel, rfl⟩
theorem eX4_joinUpper_107 : DB cX4_joinUpper 107 (.goto (-90)) (-90) 110 17 := ⟨by decide +kernel, rfl, by decide⟩
theorem eX4_joinUpper_110 : DD cX4_joinUpper 110 (.iinc 4 1) 3 113 := ⟨by decide +kernel, rfl⟩
theorem eX4_joinUpper_113 : DB cX4_joinUpper 113 (.goto (-108)) (-108) 116 5 := ⟨by decide +kernel, rfl, by decide⟩
theorem eX4_joinUpper_116 : DD cX4_joinUpper 116 (.lload_n 2) 1 117 := ⟨by decide +kernel, rfl⟩
theorem eX4_joinUpper_117 : DD cX4_joinUpper 117 (.lreturn) 1 118 := ⟨by decide +kernel, rfl⟩
def F_X4_joinUpper_104 (kc_5 : Nat → Nat → Int64 → Int32 → Mem → Option (Int64 × Mem)) (kc_17 : Nat → Nat → Int64 → Int32 → Int32 → Mem → Option (Int64 × Mem)) (p0 : Nat) (p1 : Nat) (l2 : Int64) (x4 : Int32) (x5 : Int32) (μ : Mem) : Option (Int64 × Mem) :=
  lb (x5 + (1 : Int32)) (fun x5_1 => kc_17 p0 p1 l2 x4 x5_1 μ)
set_option maxHeartbeats 4000000 in
theorem j_X4_joinUpper_104 {C : Cx} (hC : Ok C cX4_joinUpper 14 RX4 (rmF 2 46)) (hr : (cT C).sig.returnType = (some .long)) (kc_5 : Nat → Nat → Int64 → Int32 → Mem → Option (Int64 × Mem)) (hk_5 : ∀ (p0 : Nat) (h0 : kd p0 = 4) (p1 : Nat) (h1 : kd p1 = 4) (l2 : Int64) (x4 : Int32) (μ : Mem), J C (KL C) μ 5 [(0, .ref (xad (cX C) p0)), (1, .ref (xad (cX C) p1)), (2, .long l2), (4, .int x4)] [] (kc_5 p0 p1 l2 x4 μ)) (kc_17 : Nat → Nat → Int64 → Int32 → Int32 → Mem → Option (Int64 × Mem)) (hk_17 : ∀ (p0 : Nat) (h0 : kd p0 = 4) (p1 : Nat) (h1 : kd p1 = 4) (l2 : Int64) (x4 : Int32) (x5 : Int32) (μ : Mem), J C (KL C) μ 17 [(0, .ref (xad (cX C) p0)), (1, .ref (xad (cX C) p1)), (2, .long l2), (4, .int x4), (5, .int x5)] [] (kc_17 p0 p1 l2 x4 x5 μ)) (p0 : Nat) (h0 : kd p0 = 4) (p1 : Nat) (h1 : kd p1 = 4) (l2 : Int64) (x4 : Int32) (x5 : Int32) (μ : Mem) : J C (KL C) μ 104 [(0, .ref (xad (cX C) p0)), (1, .ref (xad (cX C) p1)), (2, .long l2), (4, .int x4), (5, .int x5)] [] (F_X4_joinUpper_104 kc_5 kc_17 p0 p1 l2 x4 x5 μ) := by
  unfold F_X4_joinUpper_104
  refine J.iinc (j := 4) (fun x5_1 => [(5, .int x5_1), (0, .ref (xad (cX C) p0)), (1, .ref (xad (cX C) p1)), (2, .long l2), (4, .int x4)]) hC eX4_joinUpper_104 rfl ci_1 (by decide) (fun _ => rfl) (fun x5_1 => ?_)
  refine J.goto hC eX4_joinUpper_107 ?_
  refine J.sub [1, 2, 3, 4, 0] rfl ?_
  exact hk_17 p0 h0 p1 h1 l2 x4 x5_1 μ
def L_X4_joinUpper_17 (kc_5 : Nat → Nat → Int64 → Int32 → Mem → Option (Int64 × Mem)) : Nat → Nat → Nat → Int64 → Int32 → Int32 → Mem → Option (Int64 × Mem)
  | 0, _, _, _, _, _, _ => none
  | n + 1, p0, p1, l2, x4, x5, μ => bd (G_X4_size p1 μ) (fun r_2 μ_1 => if r_2 ≤ x5 then lb (x4 + (1 : Int32)) (fun x4_3 => kc_5 p0 p1 l2 x4_3 μ_1) else bd (G_X4_commonValues p0 x4 p1 x5 μ_1) (fun r_5 μ_4 => lb (r_5.toInt64) (fun l6_6 => bd (G_X4_greatestOf p0 x4 μ_4) (fun r_8 μ_7 => lb (r_8.toInt64) (fun l8_9 => bd (G_X4_greatestOf p1 x5 μ_7) (fun r_11 μ_10 => lb (r_11.toInt64) (fun l10_12 => if (lg_cmp l6_6 (0 : Int64)) ≤ 0 then F_X4_joinUpper_104 kc_5 (L_X4_joinUpper_17 kc_5 n) p0 p1 l2 x4 x5 μ_10 else bd (G_X4_totalOf p0 x4 μ_10) (fun r_14 μ_13 => bd (G_X4_totalOf p1 x5 μ_13) (fun r_16 μ_15 => lb (lmin (r_14.toInt64 * l10_12) (r_16.toInt64 * l8_9)) (fun l12_17 => lb (l2 + (lmin l12_17 ((l6_6 * l8_9) * l10_12))) (fun l2_18 => F_X4_joinUpper_104 kc_5 (L_X4_joinUpper_17 kc_5 n) p0 p1 l2_18 x4 x5 μ_15)))))))))))
set_option maxHeartbeats 4000000 in
theorem j_X4_joinUpper_17 {C : Cx} (hC : Ok C cX4_joinUpper 14 RX4 (rmF 2 46)) (hr : (cT C).sig.returnType = (some .long)) (kc_5 : Nat → Nat → Int64 → Int32 → Mem → Option (Int64 × Mem)) (hk_5 : ∀ (p0 : Nat) (h0 : kd p0 = 4) (p1 : Nat) (h1 : kd p1 = 4) (l2 : Int64) (x4 : Int32) (μ : Mem), J C (KL C) μ 5 [(0, .ref (xad (cX C) p0)), (1, .ref (xad (cX C) p1)), (2, .long l2), (4, .int x4)] [] (kc_5 p0 p1 l2 x4 μ)) : ∀ (n : Nat) (p0 : Nat) (h0 : kd p0 = 4) (p1 : Nat) (h1 : kd p1 = 4) (l2 : Int64) (x4 : Int32) (x5 : Int32) (μ : Mem), J C (KL C) μ 17 [(0, .ref (xad (cX C) p0)), (1, .ref (xad (cX C) p1)), (2, .long l2), (4, .int x4), (5, .int x5)] [] (L_X4_joinUpper_17 kc_5 n p0 p1 l2 x4 x5 μ) := by
  intro n
  induction n with
  | zero => intros; exact J.no
  | succ n ih =>
    intro p0 h0 p1 h1 l2 x4 x5 μ
    rw [L_X4_joinUpper_17]
    refine J.iload (j := 4) hC eX4_joinUpper_17 rfl ?_
    refine J.aload_n (j := 1) hC eX4_joinUpper_19 rfl ?_
    refine J.callVI (st := [.int x5]) hC eX4_joinUpper_20 h1 (by decide) rfl rfl ml_X4_78 mv_X4_size (Rle_of (Nat.le_of_ble_eq_true rfl) (Nat.le_of_ble_eq_true rfl)) (c_X4_size hC.X p1 h1 μ) rfl rfl (Nat.le_of_ble_eq_true rfl) (fun r_2 μ_1 => ?_)
    refine J.icmp_ge hC eX4_joinUpper_23 (fun _ => ?_) (fun _ => ?_)
    · refine J.iinc (j := 3) (fun x4_3 => [(4, .int x4_3), (0, .ref (xad (cX C) p0)), (1, .ref (xad (cX C) p1)), (2, .long l2), (5, .int x5)]) hC eX4_joinUpper_110 rfl ci_1 (by decide) (fun _ => rfl) (fun x4_3 => ?_)
      refine J.goto hC eX4_joinUpper_113 ?_
      refine J.sub [1, 2, 3, 0] rfl ?_
      exact hk_5 p0 h0 p1 h1 l2 x4_3 μ_1
    · refine J.aload_n (j := 0) hC eX4_joinUpper_26 rfl ?_
      refine J.iload (j := 3) hC eX4_joinUpper_27 rfl ?_
      refine J.aload_n (j := 1) hC eX4_joinUpper_29 rfl ?_
      refine J.iload (j := 4) hC eX4_joinUpper_30 rfl ?_
      refine J.callVI (st := []) hC eX4_joinUpper_32 h0 (by decide) rfl rfl ml_X4_87 mv_X4_commonValues (Rle_of (Nat.le_of_ble_eq_true rfl) (Nat.le_of_ble_eq_true rfl)) (c_X4_commonValues hC.X p0 h0 x4 p1 h1 x5 μ_1) rfl rfl (Nat.le_of_ble_eq_true rfl) (fun r_5 μ_4 => ?_)
      refine J.i2l hC eX4_joinUpper_35 ?_
      refine J.topl (fun l6_6 => ?_)
      refine J.lstore [(6, .long l6_6), (0, .ref (xad (cX C) p0)), (1, .ref (xad (cX C) p1)), (2, .long l2), (4, .int x4), (5, .int x5)] hC eX4_joinUpper_36 (by decide) rfl ?_
      refine J.aload_n (j := 1) hC eX4_joinUpper_38 rfl ?_
      refine J.iload (j := 4) hC eX4_joinUpper_39 rfl ?_
      refine J.callVI (st := []) hC eX4_joinUpper_41 h0 (by decide) rfl rfl ml_X4_72 mv_X4_greatestOf (Rle_of (Nat.le_of_ble_eq_true rfl) (Nat.le_of_ble_eq_true rfl)) (c_X4_greatestOf hC.X p0 h0 x4 μ_4) rfl rfl (Nat.le_of_ble_eq_true rfl) (fun r_8 μ_7 => ?_)
      refine J.i2l hC eX4_joinUpper_44 ?_
      refine J.topl (fun l8_9 => ?_)
      refine J.lstore [(8, .long l8_9), (6, .long l6_6), (0, .ref (xad (cX C) p0)), (1, .ref (xad (cX C) p1)), (2, .long l2), (4, .int x4), (5, .int x5)] hC eX4_joinUpper_45 (by decide) rfl ?_
      refine J.aload_n (j := 3) hC eX4_joinUpper_47 rfl ?_
      refine J.iload (j := 6) hC eX4_joinUpper_48 rfl ?_
      refine J.callVI (st := []) hC eX4_joinUpper_50 h1 (by decide) rfl rfl ml_X4_72 mv_X4_greatestOf (Rle_of (Nat.le_of_ble_eq_true rfl) (Nat.le_of_ble_eq_true rfl)) (c_X4_greatestOf hC.X p1 h1 x5 μ_7) rfl rfl (Nat.le_of_ble_eq_true rfl) (fun r_11 μ_10 => ?_)
      refine J.i2l hC eX4_joinUpper_53 ?_
      refine J.topl (fun l10_12 => ?_)
      refine J.lstore [(10, .long l10_12), (8, .long l8_9), (6, .long l6_6), (0, .ref (xad (cX C) p0)), (1, .ref (xad (cX C) p1)), (2, .long l2), (4, .int x4), (5, .int x5)] hC eX4_joinUpper_54 (by decide) rfl ?_
      refine J.lload (j := 2) hC eX4_joinUpper_56 rfl ?_
      refine J.lconst hC eX4_joinUpper_58 cl_0 ?_
      refine J.lcmp hC eX4_joinUpper_59 ?_
      refine J.if_le hC eX4_joinUpper_60 (fun _ => ?_) (fun _ => ?_)
      · refine J.sub [3, 4, 5, 6, 7] rfl ?_
        exact j_X4_joinUpper_104 hC hr kc_5 hk_5 (L_X4_joinUpper_17 kc_5 n) ih p0 h0 p1 h1 l2 x4 x5 μ_10
      · refine J.aload_n (j := 3) hC eX4_joinUpper_63 rfl ?_
        refine J.iload (j := 6) hC eX4_joinUpper_64 rfl ?_
        refine J.callVI (st := []) hC eX4_joinUpper_66 h0 (by decide) rfl rfl ml_X4_69 mv_X4_totalOf (Rle_of (Nat.le_of_ble_eq_true rfl) (Nat.le_of_ble_eq_true rfl)) (c_X4_totalOf hC.X p0 h0 x4 μ_10) rfl rfl (Nat.le_of_ble_eq_true rfl) (fun r_14 μ_13 => ?_)
        refine J.i2l hC eX4_joinUpper_69 ?_
        refine J.lload (j := 0) hC eX4_joinUpper_70 rfl ?_
        refine J.lmul hC eX4_joinUpper_72 ?_
        refine J.aload_n (j := 4) hC eX4_joinUpper_73 rfl ?_
        refine J.iload (j := 7) hC eX4_joinUpper_74 rfl ?_
        refine J.callVI (st := [.long (r_14.toInt64 * l10_12)]) hC eX4_joinUpper_76 h1 (by decide) rfl rfl ml_X4_69 mv_X4_totalOf (Rle_of (Nat.le_of_ble_eq_true rfl) (Nat.le_of_ble_eq_true rfl)) (c_X4_totalOf hC.X p1 h1 x5 μ_13) rfl rfl (Nat.le_of_ble_eq_true rfl) (fun r_16 μ_15 => ?_)
        refine J.i2l hC eX4_joinUpper_79 ?_
        refine J.lload (j := 1) hC eX4_joinUpper_80 rfl ?_
        refine J.lmul hC eX4_joinUpper_82 ?_
        refine J.lmin hC eX4_joinUpper_83 ml_X4_91 w_sminL w_im w_cminL (Nat.le_of_ble_eq_true rfl) (Nat.le_of_ble_eq_true rfl) ?_
        refine J.topl (fun l12_17 => ?_)
        refine J.lstore [(12, .long l12_17), (10, .long l10_12), (8, .long l8_9), (6, .long l6_6), (0, .ref (xad (cX C) p0)), (1, .ref (xad (cX C) p1)), (2, .long l2), (4, .int x4), (5, .int x5)] hC eX4_joinUpper_86 (by decide) rfl ?_
        refine J.lload_n (j := 6) hC eX4_joinUpper_88 rfl ?_
        refine J.lload (j := 0) hC eX4_joinUpper_89 rfl ?_
        refine J.lload (j := 3) hC eX4_joinUpper_91 rfl ?_
        refine J.lload (j := 2) hC eX4_joinUpper_93 rfl ?_
        refine J.lmul hC eX4_joinUpper_95 ?_
        refine J.lload (j := 1) hC eX4_joinUpper_96 rfl ?_
        refine J.lmul hC eX4_joinUpper_98 ?_
        refine J.lmin hC eX4_joinUpper_99 ml_X4_91 w_sminL w_im w_cminL (Nat.le_of_ble_eq_true rfl) (Nat.le_of_ble_eq_true rfl) ?_
        refine J.ladd hC eX4_joinUpper_102 ?_
        refine J.topl (fun l2_18 => ?_)
        refine J.lstore_n [(2, .long l2_18), (12, .long l12_17), (10, .long l10_12), (8, .long l8_9), (6, .long l6_6), (0, .ref (xad (cX C) p0)), (1, .ref (xad (cX C) p1)), (4, .int x4), (5, .int x5)] hC eX4_joinUpper_103 (by decide) rfl ?_
        refine J.sub [5, 6, 0, 7, 8] rfl ?_
        exact j_X4_joinUpper_104 hC hr kc_5 hk_5 (L_X4_joinUpper_17 kc_5 n) ih p0 h0 p1 h1 l2_18 x4 x5 μ_15
def L_X4_joinUpper_5 : Nat → Nat → Nat → Int64 → Int32 → Mem → Option (Int64 × Mem)
  | 0, _, _, _, _, _ => none
  | n + 1, p0, p1, l2, x4, μ => bd (G_X4_size p0 μ) (fun r_2 μ_1 => if r_2 ≤ x4 then some (l2, μ_1) else L_X4_joinUpper_17 (L_X4_joinUpper_5  n) 100000 p0 p1 l2 x4 (0 : Int32) μ_1)
set_option maxHeartbeats 4000000 in
theorem j_X4_joinUpper_5 {C : Cx} (hC : Ok C cX4_joinUpper 14 RX4 (rmF 2 46)) (hr : (cT C).sig.returnType = (some .long)) : ∀ (n : Nat) (p0 : Nat) (h0 : kd p0 = 4) (p1 : Nat) (h1 : kd p1 = 4) (l2 : Int64) (x4 : Int32) (μ : Mem), J C (KL C) μ 5 [(0, .ref (xad (cX C) p0)), (1, .ref (xad (cX C) p1)), (2, .long l2), (4, .int x4)] [] (L_X4_joinUpper_5  n p0 p1 l2 x4 μ) := by
  intro n
  induction n with
  | zero => intros; exact J.no
  | succ n ih =>
    intro p0 h0 p1 h1 l2 x4 μ
    rw [L_X4_joinUpper_5]
    refine J.iload (j := 3) hC eX4_joinUpper_5 rfl ?_
    refine J.aload_n (j := 0) hC eX4_joinUpper_7 rfl ?_
    refine J.callVI (st := [.int x4]) hC eX4_joinUpper_8 h0 (by decide) rfl rfl ml_X4_78 mv_X4_size (Rle_of (Nat.le_of_ble_eq_true rfl) (Nat.le_of_ble_eq_true rfl)) (c_X4_size hC.X p0 h0 μ) rfl rfl (Nat.le_of_ble_eq_true rfl) (fun r_2 μ_1 => ?_)
    refine J.icmp_ge hC eX4_joinUpper_11 (fun _ => ?_) (fun _ => ?_)
    · refine J.lload_n (j := 2) hC eX4_joinUpper_116 rfl ?_
      exact J.lret hC hr eX4_joinUpper_117
    · refine J.iconst hC eX4_joinUpper_14 ci_0 ?_
      refine J.istore [(5, .int (0 : Int32)), (0, .ref (xad (cX C) p0)), (1, .ref (xad (cX C) p1)), (2, .long l2), (4, .int x4)] hC eX4_joinUpper_15 (by decide) rfl ?_
      refine J.sub [1, 2, 3, 4, 0] rfl ?_
      exact j_X4_joinUpper_17 hC hr (L_X4_joinUpper_5  n) ih 100000 p0 h0 p1 h1 l2 x4 (0 : Int32) μ_1
def G_X4_joinUpper (p0 : Nat) (p1 : Nat) (μ : Mem) : Option (Int64 × Mem) :=
  L_X4_joinUpper_5  100000 p0 p1 (0 : Int64) (0 : Int32) μ
set_option maxHeartbeats 4000000 in
theorem c_X4_joinUpper {X : Wd} (hX : WdOk X) (p0 : Nat) (h0 : kd p0 = 4) (p1 : Nat) (h1 : kd p1 = 4) (μ : Mem) : CtL X yX4_joinUpper cX4_joinUpper 14 (some .long) (rmF 2 46) [.ref (xad X p0), .ref (xad X p1)] μ (G_X4_joinUpper p0 p1 μ) := by
  refine CtL.of hX (plainFor_of_name (by decide)) (by exact Nat.le_of_ble_eq_true rfl) ?_
  intro C hCX hC hr
  subst hCX
  show J C (KL C) μ 0 [(0, .ref (xad (cX C) p0)), (1, .ref (xad (cX C) p1))] [] _
  unfold G_X4_joinUpper
  refine J.lconst hC eX4_joinUpper_0 cl_0 ?_
  refine J.lstore_n [(2, .long (0 : Int64)), (0, .ref (xad (cX C) p0)), (1, .ref (xad (cX C) p1))] hC eX4_joinUpper_1 (by decide) rfl ?_
  refine J.iconst hC eX4_joinUpper_2 ci_0 ?_
  refine J.istore [(4, .int (0 : Int32)), (2, .long (0 : Int64)), (0, .ref (xad (cX C) p0)), (1, .ref (xad (cX C) p1))] hC eX4_joinUpper_3 (by decide) rfl ?_
  refine J.sub [2, 3, 1, 0] rfl ?_
  exact j_X4_joinUpper_5 hC hr  100000 p0 h0 p1 h1 (0 : Int64) (0 : Int32) μ
-- X4_joinEstimate
theorem eX4_joinEstimate_0 : DD cX4_joinEstimate 0 (.lconst 0) 1 1 := ⟨by decide +kernel, rfl⟩
theorem eX4_joinEstimate_1 : DD cX4_joinEstimate 1 (.lstore_n 2) 1 2 := ⟨by decide +kernel, rfl⟩
theorem eX4_joinEstimate_2 : DD cX4_joinEstimate 2 (.iconst 0) 1 3 := ⟨by decide +kernel, rfl⟩
theorem eX4_joinEstimate_3 : DD cX4_joinEstimate 3 (.istore 4) 2 5 := ⟨by decide +kernel, rfl⟩
theorem eX4_joinEstimate_5 : DD cX4_joinEstimate 5 (.iload 4) 2 7 := ⟨by decide +kernel, rfl⟩
theorem eX4_joinEstimate_7 : DD cX4_joinEstimate 7 (.aload_n 0) 1 8 := ⟨by decide +kernel, rfl⟩
theorem eX4_joinEstimate_8 : DD cX4_joinEstimate 8 (.invokevirtual 78) 3 11 := ⟨by decide +kernel, rfl⟩
theorem eX4_joinEstimate_11 : DB cX4_joinEstimate 11 (.if_icmp .ge 94) (94) 14 105 := ⟨by decide +kernel, rfl, by decide⟩
theorem eX4_joinEstimate_14 : DD cX4_joinEstimate 14 (.iconst 0) 1 15 := ⟨by decide +kernel, rfl⟩
theorem eX4_joinEstimate_15 : DD cX4_joinEstimate 15 (.istore 5) 2 17 := ⟨by decide +kernel, rfl⟩
theorem eX4_joinEstimate_17 : DD cX4_joinEstimate 17 (.iload 5) 2 19 := ⟨by decide +kernel, rfl⟩
theorem eX4_joinEstimate_19 : DD cX4_joinEstimate 19 (.aload_n 1) 1 20 := ⟨by decide +kernel, rfl⟩
theorem eX4_joinEstimate_20 : DD cX4_joinEstimate 20 (.invokevirtual 78) 3 23 := ⟨by decide +kernel, rfl⟩
theorem eX4_joinEstimate_23 : DB cX4_joinEstimate 23 (.if_icmp .ge 76) (76) 26 99 := ⟨by decide +kernel, rfl, by decide⟩
theorem eX4_joinEstimate_26 : DD cX4_joinEstimate 26 (.aload_n 0) 1 27 := ⟨by decide +kernel, rfl⟩
theorem eX4_joinEstimate_27 : DD cX4_joinEstimate 27 (.iload 4) 2 29 := ⟨by decide +kernel, rfl⟩
theorem eX4_joinEstimate_29 : DD cX4_joinEstimate 29 (.aload_n 1) 1 30 := ⟨by decide +kernel, rfl⟩
theorem eX4_joinEstimate_30 : DD cX4_joinEstimate 30 (.iload 5) 2 32 := ⟨by decide +kernel, rfl⟩
theorem eX4_joinEstimate_32 : DD cX4_joinEstimate 32 (.invokevirtual 87) 3 35 := ⟨by decide +kernel, rfl⟩
theorem eX4_joinEstimate_35 : DD cX4_joinEstimate 35 (.i2l) 1 36 := ⟨by decide +kernel, rfl⟩
theorem eX4_joinEstimate_36 : DD cX4_joinEstimate 36 (.lstore 6) 2 38 := ⟨by decide +kernel, rfl⟩
theorem eX4_joinEstimate_38 : DD cX4_joinEstimate 38 (.aload_n 0) 1 39 := ⟨by decide +kernel, rfl⟩
theorem eX4_joinEstimate_39 : DD cX4_joinEstimate 39 (.iload 4) 2 41 := ⟨by decide +kernel, rfl⟩
theorem eX4_joinEstimate_41 : DD cX4_joinEstimate 41 (.invokevirtual 94) 3 44 := ⟨by decide +kernel, rfl⟩
theorem eX4_joinEstimate_44 : DD cX4_joinEstimate 44 (.i2l) 1 45 := ⟨by decide +kernel, rfl⟩
theorem eX4_joinEstimate_45 : DD cX4_joinEstimate 45 (.aload_n 1) 1 46 := ⟨by decide +kernel, rfl⟩
theorem eX4_joinEstimate_46 : DD cX4_joinEstimate 46 (.iload 5) 2 48 := ⟨by decide +kernel, rfl⟩
theorem eX4_joinEstimate_48 : DD cX4_joinEstimate 48 (.invokevirtual 94) 3 51 := ⟨by decide +kernel, rfl⟩
theorem eX4_joinEstimate_51 : DD cX4_joinEstimate 51 (.i2l) 1 52 := ⟨by decide +kernel, rfl⟩
theorem eX4_joinEstimate_52 : DD cX4_joinEstimate 52 (.lmul) 1 53 := ⟨by decide +kernel, rfl⟩
theorem eX4_joinEstimate_53 : DD cX4_joinEstimate 53 (.lstore 8) 2 55 := ⟨by decide +kernel, rfl⟩
theorem eX4_joinEstimate_55 : DD cX4_joinEstimate 55 (.lload 6) 2 57 := ⟨by decide +kernel, rfl⟩
theorem eX4_joinEstimate_57 : DD cX4_joinEstimate 57 (.lconst 0) 1 58 := ⟨by decide +kernel, rfl⟩
theorem eX4_joinEstimate_58 : DD cX4_joinEstimate 58 (.lcmp) 1 59 := ⟨by decide +kernel, rfl⟩
theorem eX4_joinEstimate_59 : DB cX4_joinEstimate 59 (.ifCond .le 34) (34) 62 93 := ⟨by decide +kernel, rfl, by decide⟩
theorem eX4_joinEstimate_62 : DD cX4_joinEstimate 62 (.lload 8) 2 64 := ⟨by decide +kernel, rfl⟩
theorem eX4_joinEstimate_64 : DD cX4_joinEstimate 64 (.lconst 0) 1 65 := ⟨by decide +kernel, rfl⟩
theorem eX4_joinEstimate_65 : DD cX4_joinEstimate 65 (.lcmp) 1 66 := ⟨by decide +kernel, rfl⟩
theorem eX4_joinEstimate_66 : DB cX4_joinEstimate 66 (.ifCond .le 27) (27) 69 93 := ⟨by decide +kernel, rfl, by decide⟩
theorem eX4_joinEstimate_69 : DD cX4_joinEstimate 69 (.lload_n 2) 1 70 := ⟨by decide +kernel, rfl⟩
theorem eX4_joinEstimate_70 : DD cX4_joinEstimate 70 (.lload 6) 2 72 := ⟨by decide +kernel, rfl⟩
theorem eX4_joinEstimate_72 : DD cX4_joinEstimate 72 (.aload_n 0) 1 73 := ⟨by decide +kernel, rfl⟩
theorem eX4_joinEstimate_73 : DD cX4_joinEstimate 73 (.iload 4) 2 75 := ⟨by decide +kernel, rfl⟩
theorem eX4_joinEstimate_75 : DD cX4_joinEstimate 75 (.invokevirtual 69) 3 78 := ⟨by decide +kernel, rfl⟩
theorem eX4_joinEstimate_78 : DD cX4_joinEstimate 78 (.i2l) 1 79 := ⟨by decide +kernel, rfl⟩
theorem eX4_joinEstimate_79 : DD cX4_joinEstimate 79 (.lmul) 1 80 := ⟨by decide +kernel, rfl⟩
theorem eX4_joinEstimate_80 : DD cX4_joinEstimate 80 (.aload_n 1) 1 81 := ⟨by decide +kernel, rfl⟩
theorem eX4_joinEstimate_81 : DD cX4_joinEstimate 81 (.iload 5) 2 83 := ⟨by decide +kernel, rfl⟩
theorem eX4_joinEstimate_83 : DD cX4_joinEstimate 83 (.invokevirtual 69) 3 86 := ⟨by decide +kernel, rfl⟩
theorem eX4_joinEstimate_86 : DD cX4_joinEstimate 86 (.i2l) 1 87 := ⟨by decide +kernel, rfl⟩
theorem eX4_joinEstimate_87 : DD cX4_joinEstimate 87 (.lmul) 1 88 := ⟨by decide +kernel, rfl⟩
theorem eX4_joinEstimate_88 : DD cX4_joinEstimate 88 (.lload 8) 2 90 := ⟨by decide +kernel, rfl⟩
theorem eX4_joinEstimate_90 : DD cX4_joinEstimate 90 (.ldiv) 1 91 := ⟨by decide +kernel, rfl⟩
theorem eX4_joinEstimate_91 : DD cX4_joinEstimate 91 (.ladd) 1 92 := ⟨by decide +kernel, rfl⟩
theorem eX4_joinEstimate_92 : DD cX4_joinEstimate 92 (.lstore_n 2) 1 93 := ⟨by decide +kernel, rfl⟩
theorem eX4_joinEstimate_93 : DD cX4_joinEstimate 93 (.iinc 5 1) 3 96 := ⟨by decide +kernel, rfl⟩
theorem eX4_joinEstimate_96 : DB cX4_joinEstimate 96 (.goto (-79)) (-79) 99 17 := ⟨by decide +kernel, rfl, by decide⟩
theorem eX4_joinEstimate_99 : DD cX4_joinEstimate 99 (.iinc 4 1) 3 102 := ⟨by decide +kernel, rfl⟩
theorem eX4_joinEstimate_102 : DB cX4_joinEstimate 102 (.goto (-97)) (-97) 105 5 := ⟨by decide +kernel, rfl, by decide⟩
theorem eX4_joinEstimate_105 : DD cX4_joinEstimate 105 (.lload_n 2) 1 106 := ⟨by decide +kernel, rfl⟩
theorem eX4_joinEstimate_106 : DD cX4_joinEstimate 106 (.lreturn) 1 107 := ⟨by decide +kernel, rfl⟩
def F_X4_joinEstimate_93 (kc_5 : Nat → Nat → Int64 → Int32 → Mem → Option (Int64 × Mem)) (kc_17 : Nat → Nat → Int64 → Int32 → Int32 → Mem → Option (Int64 × Mem)) (p0 : Nat) (p1 : Nat) (l2 : Int64) (x4 : Int32) (x5 : Int32) (μ : Mem) : Option (Int64 × Mem) :=
  lb (x5 + (1 : Int32)) (fun x5_1 => kc_17 p0 p1 l2 x4 x5_1 μ)
set_option maxHeartbeats 4000000 in
theorem j_X4_joinEstimate_93 {C : Cx} (hC : Ok C cX4_joinEstimate 10 RX4 (rmF 2 46)) (hr : (cT C).sig.returnType = (some .long)) (kc_5 : Nat → Nat → Int64 → Int32 → Mem → Option (Int64 × Mem)) (hk_5 : ∀ (p0 : Nat) (h0 : kd p0 = 4) (p1 : Nat) (h1 : kd p1 = 4) (l2 : Int64) (x4 : Int32) (μ : Mem), J C (KL C) μ 5 [(0, .ref (xad (cX C) p0)), (1, .ref (xad (cX C) p1)), (2, .long l2), (4, .int x4)] [] (kc_5 p0 p1 l2 x4 μ)) (kc_17 : Nat → Nat → Int64 → Int32 → Int32 → Mem → Option (Int64 × Mem)) (hk_17 : ∀ (p0 : Nat) (h0 : kd p0 = 4) (p1 : Nat) (h1 : kd p1 = 4) (l2 : Int64) (x4 : Int32) (x5 : Int32) (μ : Mem), J C (KL C) μ 17 [(0, .ref (xad (cX C) p0)), (1, .ref (xad (cX C) p1)), (2, .long l2), (4, .int x4), (5, .int x5)] [] (kc_17 p0 p1 l2 x4 x5 μ)) (p0 : Nat) (h0 : kd p0 = 4) (p1 : Nat) (h1 : kd p1 = 4) (l2 : Int64) (x4 : Int32) (x5 : Int32) (μ : Mem) : J C (KL C) μ 93 [(0, .ref (xad (cX C) p0)), (1, .ref (xad (cX C) p1)), (2, .long l2), (4, .int x4), (5, .int x5)] [] (F_X4_joinEstimate_93 kc_5 kc_17 p0 p1 l2 x4 x5 μ) := by
  unfold F_X4_joinEstimate_93
  refine J.iinc (j := 4) (fun x5_1 => [(5, .int x5_1), (0, .ref (xad (cX C) p0)), (1, .ref (xad (cX C) p1)), (2, .long l2), (4, .int x4)]) hC eX4_joinEstimate_93 rfl ci_1 (by decide) (fun _ => rfl) (fun x5_1 => ?_)
  refine J.goto hC eX4_joinEstimate_96 ?_
  refine J.sub [1, 2, 3, 4, 0] rfl ?_
  exact hk_17 p0 h0 p1 h1 l2 x4 x5_1 μ
def L_X4_joinEstimate_17 (kc_5 : Nat → Nat → Int64 → Int32 → Mem → Option (Int64 × Mem)) : Nat → Nat → Nat → Int64 → Int32 → Int32 → Mem → Option (Int64 × Mem)
  | 0, _, _, _, _, _, _ => none
  | n + 1, p0, p1, l2, x4, x5, μ => bd (G_X4_size p1 μ) (fun r_2 μ_1 => if r_2 ≤ x5 then lb (x4 + (1 : Int32)) (fun x4_3 => kc_5 p0 p1 l2 x4_3 μ_1) else bd (G_X4_commonValues p0 x4 p1 x5 μ_1) (fun r_5 μ_4 => lb (r_5.toInt64) (fun l6_6 => bd (G_X4_widthOf p0 x4 μ_4) (fun r_8 μ_7 => bd (G_X4_widthOf p1 x5 μ_7) (fun r_10 μ_9 => lb (r_8.toInt64 * r_10.toInt64) (fun l8_11 => if (lg_cmp l6_6 (0 : Int64)) ≤ 0 then F_X4_joinEstimate_93 kc_5 (L_X4_joinEstimate_17 kc_5 n) p0 p1 l2 x4 x5 μ_9 else if (lg_cmp l8_11 (0 : Int64)) ≤ 0 then F_X4_joinEstimate_93 kc_5 (L_X4_joinEstimate_17 kc_5 n) p0 p1 l2 x4 x5 μ_9 else bd (G_X4_totalOf p0 x4 μ_9) (fun r_13 μ_12 => bd (G_X4_totalOf p1 x5 μ_12) (fun r_15 μ_14 => gq (decide (¬ l8_11 = 0)) (lb (l2 + (((l6_6 * r_13.toInt64) * r_15.toInt64) / l8_11)) (fun l2_16 => F_X4_joinEstimate_93 kc_5 (L_X4_joinEstimate_17 kc_5 n) p0 p1 l2_16 x4 x5 μ_14))))))))))
set_option maxHeartbeats 4000000 in
theorem j_X4_joinEstimate_17 {C : Cx} (hC : Ok C cX4_joinEstimate 10 RX4 (rmF 2 46)) (hr : (cT C).sig.returnType = (some .long)) (kc_5 : Nat → Nat → Int64 → Int32 → Mem → Option (Int64 × Mem)) (hk_5 : ∀ (p0 : Nat) (h0 : kd p0 = 4) (p1 : Nat) (h1 : kd p1 = 4) (l2 : Int64) (x4 : Int32) (μ : Mem), J C (KL C) μ 5 [(0, .ref (xad (cX C) p0)), (1, .ref (xad (cX C) p1)), (2, .long l2), (4, .int x4)] [] (kc_5 p0 p1 l2 x4 μ)) : ∀ (n : Nat) (p0 : Nat) (h0 : kd p0 = 4) (p1 : Nat) (h1 : kd p1 = 4) (l2 : Int64) (x4 : Int32) (x5 : Int32) (μ : Mem), J C (KL C) μ 17 [(0, .ref (xad (cX C) p0)), (1, .ref (xad (cX C) p1)), (2, .long l2), (4, .int x4), (5, .int x5)] [] (L_X4_joinEstimate_17 kc_5 n p0 p1 l2 x4 x5 μ) := by
  intro n
  induction n with
  | zero => intros; exact J.no
  | succ n ih =>
    intro p0 h0 p1 h1 l2 x4 x5 μ
    rw [L_X4_joinEstimate_17]
    refine J.iload (j := 4) hC eX4_joinEstimate_17 rfl ?_
    refine J.aload_n (j := 1) hC eX4_joinEstimate_19 rfl ?_
    refine J.callVI (st := [.int x5]) hC eX4_joinEstimate_20 h1 (by decide) rfl rfl ml_X4_78 mv_X4_size (Rle_of (Nat.le_of_ble_eq_true rfl) (Nat.le_of_ble_eq_true rfl)) (c_X4_size hC.X p1 h1 μ) rfl rfl (Nat.le_of_ble_eq_true rfl) (fun r_2 μ_1 => ?_)
    refine J.icmp_ge hC eX4_joinEstimate_23 (fun _ => ?_) (fun _ => ?_)
    · refine J.iinc (j := 3) (fun x4_3 => [(4, .int x4_3), (0, .ref (xad (cX C) p0)), (1, .ref (xad (cX C) p1)), (2, .long l2), (5, .int x5)]) hC eX4_joinEstimate_99 rfl ci_1 (by decide) (fun _ => rfl) (fun x4_3 => ?_)
      refine J.goto hC eX4_joinEstimate_102 ?_
      refine J.sub [1, 2, 3, 0] rfl ?_
      exact hk_5 p0 h0 p1 h1 l2 x4_3 μ_1
    · refine J.aload_n (j := 0) hC eX4_joinEstimate_26 rfl ?_
      refine J.iload (j := 3) hC eX4_joinEstimate_27 rfl ?_
      refine J.aload_n (j := 1) hC eX4_joinEstimate_29 rfl ?_
      refine J.iload (j := 4) hC eX4_joinEstimate_30 rfl ?_
      refine J.callVI (st := []) hC eX4_joinEstimate_32 h0 (by decide) rfl rfl ml_X4_87 mv_X4_commonValues (Rle_of (Nat.le_of_ble_eq_true rfl) (Nat.le_of_ble_eq_true rfl)) (c_X4_commonValues hC.X p0 h0 x4 p1 h1 x5 μ_1) rfl rfl (Nat.le_of_ble_eq_true rfl) (fun r_5 μ_4 => ?_)
      refine J.i2l hC eX4_joinEstimate_35 ?_
      refine J.topl (fun l6_6 => ?_)
      refine J.lstore [(6, .long l6_6), (0, .ref (xad (cX C) p0)), (1, .ref (xad (cX C) p1)), (2, .long l2), (4, .int x4), (5, .int x5)] hC eX4_joinEstimate_36 (by decide) rfl ?_
      refine J.aload_n (j := 1) hC eX4_joinEstimate_38 rfl ?_
      refine J.iload (j := 4) hC eX4_joinEstimate_39 rfl ?_
      refine J.callVI (st := []) hC eX4_joinEstimate_41 h0 (by decide) rfl rfl ml_X4_94 mv_X4_widthOf (Rle_of (Nat.le_of_ble_eq_true rfl) (Nat.le_of_ble_eq_true rfl)) (c_X4_widthOf hC.X p0 h0 x4 μ_4) rfl rfl (Nat.le_of_ble_eq_true rfl) (fun r_8 μ_7 => ?_)
      refine J.i2l hC eX4_joinEstimate_44 ?_
      refine J.aload_n (j := 2) hC eX4_joinEstimate_45 rfl ?_
      refine J.iload (j := 5) hC eX4_joinEstimate_46 rfl ?_
      refine J.callVI (st := [.long r_8.toInt64]) hC eX4_joinEstimate_48 h1 (by decide) rfl rfl ml_X4_94 mv_X4_widthOf (Rle_of (Nat.le_of_ble_eq_true rfl) (Nat.le_of_ble_eq_true rfl)) (c_X4_widthOf hC.X p1 h1 x5 μ_7) rfl rfl (Nat.le_of_ble_eq_true rfl) (fun r_10 μ_9 => ?_)
      refine J.i2l hC eX4_joinEstimate_51 ?_
      refine J.lmul hC eX4_joinEstimate_52 ?_
      refine J.topl (fun l8_11 => ?_)
      refine J.lstore [(8, .long l8_11), (6, .long l6_6), (0, .ref (xad (cX C) p0)), (1, .ref (xad (cX C) p1)), (2, .long l2), (4, .int x4), (5, .int x5)] hC eX4_joinEstimate_53 (by decide) rfl ?_
      refine J.lload (j := 1) hC eX4_joinEstimate_55 rfl ?_
      refine J.lconst hC eX4_joinEstimate_57 cl_0 ?_
      refine J.lcmp hC eX4_joinEstimate_58 ?_
      refine J.if_le hC eX4_joinEstimate_59 (fun _ => ?_) (fun _ => ?_)
      · refine J.sub [2, 3, 4, 5, 6] rfl ?_
        exact j_X4_joinEstimate_93 hC hr kc_5 hk_5 (L_X4_joinEstimate_17 kc_5 n) ih p0 h0 p1 h1 l2 x4 x5 μ_9
      · refine J.lload (j := 0) hC eX4_joinEstimate_62 rfl ?_
        refine J.lconst hC eX4_joinEstimate_64 cl_0 ?_
        refine J.lcmp hC eX4_joinEstimate_65 ?_
        refine J.if_le hC eX4_joinEstimate_66 (fun _ => ?_) (fun _ => ?_)
        · refine J.sub [2, 3, 4, 5, 6] rfl ?_
          exact j_X4_joinEstimate_93 hC hr kc_5 hk_5 (L_X4_joinEstimate_17 kc_5 n) ih p0 h0 p1 h1 l2 x4 x5 μ_9
        · refine J.lload_n (j := 4) hC eX4_joinEstimate_69 rfl ?_
          refine J.lload (j := 1) hC eX4_joinEstimate_70 rfl ?_
          refine J.aload_n (j := 2) hC eX4_joinEstimate_72 rfl ?_
          refine J.iload (j := 5) hC eX4_joinEstimate_73 rfl ?_
          refine J.callVI (st := [.long l6_6, .long l2]) hC eX4_joinEstimate_75 h0 (by decide) rfl rfl ml_X4_69 mv_X4_totalOf (Rle_of (Nat.le_of_ble_eq_true rfl) (Nat.le_of_ble_eq_true rfl)) (c_X4_totalOf hC.X p0 h0 x4 μ_9) rfl rfl (Nat.le_of_ble_eq_true rfl) (fun r_13 μ_12 => ?_)
          refine J.i2l hC eX4_joinEstimate_78 ?_
          refine J.lmul hC eX4_joinEstimate_79 ?_
          refine J.aload_n (j := 3) hC eX4_joinEstimate_80 rfl ?_
          refine J.iload (j := 6) hC eX4_joinEstimate_81 rfl ?_
          refine J.callVI (st := [.long (l6_6 * r_13.toInt64), .long l2]) hC eX4_joinEstimate_83 h1 (by decide) rfl rfl ml_X4_69 mv_X4_totalOf (Rle_of (Nat.le_of_ble_eq_true rfl) (Nat.le_of_ble_eq_true rfl)) (c_X4_totalOf hC.X p1 h1 x5 μ_12) rfl rfl (Nat.le_of_ble_eq_true rfl) (fun r_15 μ_14 => ?_)
          refine J.i2l hC eX4_joinEstimate_86 ?_
          refine J.lmul hC eX4_joinEstimate_87 ?_
          refine J.lload (j := 0) hC eX4_joinEstimate_88 rfl ?_
          refine J.ldiv hC eX4_joinEstimate_90 ?_
          refine J.ladd hC eX4_joinEstimate_91 ?_
          refine J.topl (fun l2_16 => ?_)
          refine J.lstore_n [(2, .long l2_16), (8, .long l8_11), (6, .long l6_6), (0, .ref (xad (cX C) p0)), (1, .ref (xad (cX C) p1)), (4, .int x4), (5, .int x5)] hC eX4_joinEstimate_92 (by decide) rfl ?_
          refine J.sub [3, 4, 0, 5, 6] rfl ?_
          exact j_X4_joinEstimate_93 hC hr kc_5 hk_5 (L_X4_joinEstimate_17 kc_5 n) ih p0 h0 p1 h1 l2_16 x4 x5 μ_14
def L_X4_joinEstimate_5 : Nat → Nat → Nat → Int64 → Int32 → Mem → Option (Int64 × Mem)
  | 0, _, _, _, _, _ => none
  | n + 1, p0, p1, l2, x4, μ => bd (G_X4_size p0 μ) (fun r_2 μ_1 => if r_2 ≤ x4 then some (l2, μ_1) else L_X4_joinEstimate_17 (L_X4_joinEstimate_5  n) 100000 p0 p1 l2 x4 (0 : Int32) μ_1)
set_option maxHeartbeats 4000000 in
theorem j_X4_joinEstimate_5 {C : Cx} (hC : Ok C cX4_joinEstimate 10 RX4 (rmF 2 46)) (hr : (cT C).sig.returnType = (some .long)) : ∀ (n : Nat) (p0 : Nat) (h0 : kd p0 = 4) (p1 : Nat) (h1 : kd p1 = 4) (l2 : Int64) (x4 : Int32) (μ : Mem), J C (KL C) μ 5 [(0, .ref (xad (cX C) p0)), (1, .ref (xad (cX C) p1)), (2, .long l2), (4, .int x4)] [] (L_X4_joinEstimate_5  n p0 p1 l2 x4 μ) := by
  intro n
  induction n with
  | zero => intros; exact J.no
  | succ n ih =>
    intro p0 h0 p1 h1 l2 x4 μ
    rw [L_X4_joinEstimate_5]
    refine J.iload (j := 3) hC eX4_joinEstimate_5 rfl ?_
    refine J.aload_n (j := 0) hC eX4_joinEstimate_7 rfl ?_
    refine J.callVI (st := [.int x4]) hC eX4_joinEstimate_8 h0 (by decide) rfl rfl ml_X4_78 mv_X4_size (Rle_of (Nat.le_of_ble_eq_true rfl) (Nat.le_of_ble_eq_true rfl)) (c_X4_size hC.X p0 h0 μ) rfl rfl (Nat.le_of_ble_eq_true rfl) (fun r_2 μ_1 => ?_)
    refine J.icmp_ge hC eX4_joinEstimate_11 (fun _ => ?_) (fun _ => ?_)
    · refine J.lload_n (j := 2) hC eX4_joinEstimate_105 rfl ?_
      exact J.lret hC hr eX4_joinEstimate_106
    · refine J.iconst hC eX4_joinEstimate_14 ci_0 ?_
      refine J.istore [(5, .int (0 : Int32)), (0, .ref (xad (cX C) p0)), (1, .ref (xad (cX C) p1)), (2, .long l2), (4, .int x4)] hC eX4_joinEstimate_15 (by decide) rfl ?_
      refine J.sub [1, 2, 3, 4, 0] rfl ?_
      exact j_X4_joinEstimate_17 hC hr (L_X4_joinEstimate_5  n) ih 100000 p0 h0 p1 h1 l2 x4 (0 : Int32) μ_1
def G_X4_joinEstimate (p0 : Nat) (p1 : Nat) (μ : Mem) : Option (Int64 × Mem) :=
  L_X4_joinEstimate_5  100000 p0 p1 (0 : Int64) (0 : Int32) μ
set_option maxHeartbeats 4000000 in
theorem c_X4_joinEstimate {X : Wd} (hX : WdOk X) (p0 : Nat) (h0 : kd p0 = 4) (p1 : Nat) (h1 : kd p1 = 4) (μ : Mem) : CtL X yX4_joinEstimate cX4_joinEstimate 10 (some .long) (rmF 2 46) [.ref (xad X p0), .ref (xad X p1)] μ (G_X4_joinEstimate p0 p1 μ) := by
  refine CtL.of hX (plainFor_of_name (by decide)) (by exact Nat.le_of_ble_eq_true rfl) ?_
  intro C hCX hC hr
  subst hCX
  show J C (KL C) μ 0 [(0, .ref (xad (cX C) p0)), (1, .ref (xad (cX C) p1))] [] _
  unfold G_X4_joinEstimate
  refine J.lconst hC eX4_joinEstimate_0 cl_0 ?_
  refine J.lstore_n [(2, .long (0 : Int64)), (0, .ref (xad (cX C) p0)), (1, .ref (xad (cX C) p1))] hC eX4_joinEstimate_1 (by decide) rfl ?_
  refine J.iconst hC eX4_joinEstimate_2 ci_0 ?_
  refine J.istore [(4, .int (0 : Int32)), (2, .long (0 : Int64)), (0, .ref (xad (cX C) p0)), (1, .ref (xad (cX C) p1))] hC eX4_joinEstimate_3 (by decide) rfl ?_
  refine J.sub [2, 3, 1, 0] rfl ?_
  exact j_X4_joinEstimate_5 hC hr  100000 p0 h0 p1 h1 (0 : Int64) (0 : Int32) μ
