-- X11_chainTruth
theorem eX11_chainTruth_0 : DD cX11_chainTruth 0 (.lconst 0) 1 1 := ⟨by decide +kernel, rfl⟩
theorem eX11_chainTruth_1 : DD cX11_chainTruth 1 (.lstore_n 1) 1 2 := ⟨by decide +kernel, rfl⟩
theorem eX11_chainTruth_2 : DD cX11_chainTruth 2 (.iconst 0) 1 3 := ⟨by decide +kernel, rfl⟩
theorem eX11_chainTruth_3 : DD cX11_chainTruth 3 (.istore_n 3) 1 4 := ⟨by decide +kernel, rfl⟩
theorem eX11_chainTruth_4 : DD cX11_chainTruth 4 (.iload_n 3) 1 5 := ⟨by decide +kernel, rfl⟩
theorem eX11_chainTruth_5 : DD cX11_chainTruth 5 (.aload_n 0) 1 6 := ⟨by decide +kernel, rfl⟩
theorem eX11_chainTruth_6 : DD cX11_chainTruth 6 (.getfield 25) 3 9 := ⟨by decide +kernel, rfl⟩
theorem eX11_chainTruth_9 : DD cX11_chainTruth 9 (.iconst 1) 1 10 := ⟨by decide +kernel, rfl⟩
theorem eX11_chainTruth_10 : DD cX11_chainTruth 10 (.iaload) 1 11 := ⟨by decide +kernel, rfl⟩
theorem eX11_chainTruth_11 : DB cX11_chainTruth 11 (.if_icmp .ge 84) (84) 14 95 := ⟨by decide +kernel, rfl, by decide⟩
theorem eX11_chainTruth_14 : DD cX11_chainTruth 14 (.iconst 0) 1 15 := ⟨by decide +kernel, rfl⟩
theorem eX11_chainTruth_15 : DD cX11_chainTruth 15 (.istore 4) 2 17 := ⟨by decide +kernel, rfl⟩
theorem eX11_chainTruth_17 : DD cX11_chainTruth 17 (.iload 4) 2 19 := ⟨by decide +kernel, rfl⟩
theorem eX11_chainTruth_19 : DD cX11_chainTruth 19 (.aload_n 0) 1 20 := ⟨by decide +kernel, rfl⟩
theorem eX11_chainTruth_20 : DD cX11_chainTruth 20 (.getfield 25) 3 23 := ⟨by decide +kernel, rfl⟩
theorem eX11_chainTruth_23 : DD cX11_chainTruth 23 (.iconst 1) 1 24 := ⟨by decide +kernel, rfl⟩
theorem eX11_chainTruth_24 : DD cX11_chainTruth 24 (.iaload) 1 25 := ⟨by decide +kernel, rfl⟩
theorem eX11_chainTruth_25 : DB cX11_chainTruth 25 (.if_icmp .ge 64) (64) 28 89 := ⟨by decide +kernel, rfl, by decide⟩
theorem eX11_chainTruth_28 : DD cX11_chainTruth 28 (.aload_n 0) 1 29 := ⟨by decide +kernel, rfl⟩
theorem eX11_chainTruth_29 : DD cX11_chainTruth 29 (.getfield 34) 3 32 := ⟨by decide +kernel, rfl⟩
theorem eX11_chainTruth_32 : DD cX11_chainTruth 32 (.iconst 1) 1 33 := ⟨by decide +kernel, rfl⟩
theorem eX11_chainTruth_33 : DD cX11_chainTruth 33 (.iload_n 3) 1 34 := ⟨by decide +kernel, rfl⟩
theorem eX11_chainTruth_34 : DD cX11_chainTruth 34 (.iload 4) 2 36 := ⟨by decide +kernel, rfl⟩
theorem eX11_chainTruth_36 : DD cX11_chainTruth 36 (.invokestatic 158) 3 39 := ⟨by decide +kernel, rfl⟩
theorem eX11_chainTruth_39 : DD cX11_chainTruth 39 (.iaload) 1 40 := ⟨by decide +kernel, rfl⟩
theorem eX11_chainTruth_40 : DD cX11_chainTruth 40 (.istore 5) 2 42 := ⟨by decide +kernel, rfl⟩
theorem eX11_chainTruth_42 : DD cX11_chainTruth 42 (.iload 5) 2 44 := ⟨by decide +kernel, rfl⟩
theorem eX11_chainTruth_44 : DB cX11_chainTruth 44 (.ifCond .le 39) (39) 47 83 := ⟨by decide +kernel, rfl, by decide⟩
theorem eX11_chainTruth_47 : DD cX11_chainTruth 47 (.aload_n 0) 1 48 := ⟨by decide +kernel, rfl⟩
theorem eX11_chainTruth_48 : DD cX11_chainTruth 48 (.invokevirtual 347) 3 51 := ⟨by decide +kernel, rfl⟩
theorem eX11_chainTruth_51 : DB cX11_chainTruth 51 (.ifCond .eq 7) (7) 54 58 := ⟨by decide +kernel, rfl, by decide⟩
theorem eX11_chainTruth_54 : DD cX11_chainTruth 54 (.ldc2_w 156) 3 57 := ⟨by decide +kernel, rfl⟩
theorem eX11_chainTruth_57 : DD cX11_chainTruth 57 (.lreturn) 1 58 := ⟨by decide +kernel, rfl⟩
theorem eX11_chainTruth_58 : DD cX11_chainTruth 58 (.lload_n 1) 1 59 := ⟨by decide +kernel, rfl⟩
theorem eX11_chainTruth_59 : DD cX11_chainTruth 59 (.iload 5) 2 61 := ⟨by decide +kernel, rfl⟩
theorem eX11_chainTruth_61 : DD cX11_chainTruth 61 (.i2l) 1 62 := ⟨by decide +kernel, rfl⟩
theorem eX11_chainTruth_62 : DD cX11_chainTruth 62 (.aload_n 0) 1 63 := ⟨by decide +kernel, rfl⟩
theorem eX11_chainTruth_63 : DD cX11_chainTruth 63 (.iconst 0) 1 64 := ⟨by decide +kernel, rfl⟩
theorem eX11_chainTruth_64 : DD cX11_chainTruth 64 (.iconst 1) 1 65 := ⟨by decide +kernel, rfl⟩
theorem eX11_chainTruth_65 : DD cX11_chainTruth 65 (.iload_n 3) 1 66 := ⟨by decide +kernel, rfl⟩
theorem eX11_chainTruth_66 : DD cX11_chainTruth 66 (.invokevirtual 375) 3 69 := ⟨by decide +kernel, rfl⟩
theorem eX11_chainTruth_69 : DD cX11_chainTruth 69 (.i2l) 1 70 := ⟨by decide +kernel, rfl⟩
theorem eX11_chainTruth_70 : DD cX11_chainTruth 70 (.lmul) 1 71 := ⟨by decide +kernel, rfl⟩
theorem eX11_chainTruth_71 : DD cX11_chainTruth 71 (.aload_n 0) 1 72 := ⟨by decide +kernel, rfl⟩
theorem eX11_chainTruth_72 : DD cX11_chainTruth 72 (.iconst 2) 1 73 := ⟨by decide +kernel, rfl⟩
theorem eX11_chainTruth_73 : DD cX11_chainTruth 73 (.iconst 0) 1 74 := ⟨by decide +kernel, rfl⟩
theorem eX11_chainTruth_74 : DD cX11_chainTruth 74 (.iload 4) 2 76 := ⟨by decide +kernel, rfl⟩
theorem eX11_chainTruth_76 : DD cX11_chainTruth 76 (.invokevirtual 375) 3 79 := ⟨by decide +kernel, rfl⟩
theorem eX11_chainTruth_79 : DD cX11_chainTruth 79 (.i2l) 1 80 := ⟨by decide +kernel, rfl⟩
theorem eX11_chainTruth_80 : DD cX11_chainTruth 80 (.lmul) 1 81 := ⟨by decide +kernel, rfl⟩
theorem eX11_chainTruth_81 : DD cX11_chainTruth 81 (.ladd) 1 82 := ⟨by decide +kernel, rfl⟩
theorem eX11_chainTruth_82 : DD cX11_chainTruth 82 (.lstore_n 1) 1 83 := ⟨by decide +kernel, rfl⟩
theorem eX11_chainTruth_83 : DD cX11_chainTruth 83 (.iinc 4 1) 3 86 := ⟨by decide +kernel, rfl⟩
theorem eX11_chainTruth_86 : DB cX11_chainTruth 86 (.goto (-69)) (-69) 89 17 := ⟨by decide +kernel, rfl, by decide⟩
theorem eX11_chainTruth_89 : DD cX11_chainTruth 89 (.iinc 3 1) 3 92 := ⟨by decide +kernel, rfl⟩
theorem eX11_chainTruth_92 : DB cX11_chainTruth 92 (.goto (-88)) (-88) 95 4 := ⟨by decide +kernel, rfl, by decide⟩
theorem eX11_chainTruth_95 : DD cX11_chainTruth 95 (.lload_n 1) 1 96 := ⟨by decide +kernel, rfl⟩
theorem eX11_chainTruth_96 : DD cX11_chainTruth 96 (.lreturn) 1 97 := ⟨by decide +kernel, rfl⟩
def F_X11_chainTruth_83 (kc_4 : Int64 → Int32 → Mem → Option (Int64 × Mem)) (kc_17 : Int64 → Int32 → Int32 → Mem → Option (Int64 × Mem)) (l1 : Int64) (x3 : Int32) (x4 : Int32) (μ : Mem) : Option (Int64 × Mem) :=
  lb (x4 + (1 : Int32)) (fun x4_1 => kc_17 l1 x3 x4_1 μ)
set_option maxHeartbeats 4000000 in
theorem j_X11_chainTruth_83 {C : Cx} (hC : Ok C cX11_chainTruth 6 RX11 (rmF 3 71)) (hr : (cT C).sig.returnType = (some .long)) (kc_4 : Int64 → Int32 → Mem → Option (Int64 × Mem)) (hk_4 : ∀ (l1 : Int64) (x3 : Int32) (μ : Mem), J C (KL C) μ 4 [(0, .ref (xad (cX C) 107)), (1, .long l1), (3, .int x3)] [] (kc_4 l1 x3 μ)) (kc_17 : Int64 → Int32 → Int32 → Mem → Option (Int64 × Mem)) (hk_17 : ∀ (l1 : Int64) (x3 : Int32) (x4 : Int32) (μ : Mem), J C (KL C) μ 17 [(0, .ref (xad (cX C) 107)), (1, .long l1), (3, .int x3), (4, .int x4)] [] (kc_17 l1 x3 x4 μ)) (l1 : Int64) (x3 : Int32) (x4 : Int32) (μ : Mem) : J C (KL C) μ 83 [(0, .ref (xad (cX C) 107)), (1, .long l1), (3, .int x3), (4, .int x4)] [] (F_X11_chainTruth_83 kc_4 kc_17 l1 x3 x4 μ) := by
  unfold F_X11_chainTruth_83
  refine J.iinc (j := 3) (fun x4_1 => [(4, .int x4_1), (0, .ref (xad (cX C) 107)), (1, .long l1), (3, .int x3)]) hC eX11_chainTruth_83 rfl ci_1 (by decide) (fun _ => rfl) (fun x4_1 => ?_)
  refine J.goto hC eX11_chainTruth_86 ?_
  refine J.sub [1, 2, 3, 0] rfl ?_
  exact hk_17 l1 x3 x4_1 μ
def L_X11_chainTruth_17 (kc_4 : Int64 → Int32 → Mem → Option (Int64 × Mem)) : Nat → Int64 → Int32 → Int32 → Mem → Option (Int64 × Mem)
  | 0, _, _, _, _ => none
  | n + 1, l1, x3, x4, μ => if (rI μ 113 1) ≤ x4 then lb (x3 + (1 : Int32)) (fun x3_1 => kc_4 l1 x3_1 μ) else bd (G_X11_place (1 : Int32) x3 x4 μ) (fun r_3 μ_2 => gq (inB r_3 1253) (lb (rI μ_2 116 (nx r_3)) (fun x5_4 => if x5_4 ≤ 0 then F_X11_chainTruth_83 kc_4 (L_X11_chainTruth_17 kc_4 n) l1 x3 x4 μ_2 else bd (G_X11_isOver  μ_2) (fun r_6 μ_5 => if r_6 = 0 then bd (G_X11_countIn (0 : Int32) (1 : Int32) x3 μ_5) (fun r_8 μ_7 => bd (G_X11_countIn (2 : Int32) (0 : Int32) x4 μ_7) (fun r_10 μ_9 => lb (l1 + ((x5_4.toInt64 * r_8.toInt64) * r_10.toInt64)) (fun l1_11 => F_X11_chainTruth_83 kc_4 (L_X11_chainTruth_17 kc_4 n) l1_11 x3 x4 μ_9))) else some ((-1 : Int64), μ_5)))))
set_option maxHeartbeats 4000000 in
theorem j_X11_chainTruth_17 {C : Cx} (hC : Ok C cX11_chainTruth 6 RX11 (rmF 3 71)) (hr : (cT C).sig.returnType = (some .long)) (kc_4 : Int64 → Int32 → Mem → Option (Int64 × Mem)) (hk_4 : ∀ (l1 : Int64) (x3 : Int32) (μ : Mem), J C (KL C) μ 4 [(0, .ref (xad (cX C) 107)), (1, .long l1), (3, .int x3)] [] (kc_4 l1 x3 μ)) : ∀ (n : Nat) (l1 : Int64) (x3 : Int32) (x4 : Int32) (μ : Mem), J C (KL C) μ 17 [(0, .ref (xad (cX C) 107)), (1, .long l1), (3, .int x3), (4, .int x4)] [] (L_X11_chainTruth_17 kc_4 n l1 x3 x4 μ) := by
  intro n
  induction n with
  | zero => intros; exact J.no
  | succ n ih =>
    intro l1 x3 x4 μ
    rw [L_X11_chainTruth_17]
    refine J.iload (j := 3) hC eX11_chainTruth_17 rfl ?_
    refine J.aload_n (j := 0) hC eX11_chainTruth_19 rfl ?_
    refine gf_X11_25 (q := 113) hC eX11_chainTruth_20 kk_107 rfl ?_
    refine J.iconst hC eX11_chainTruth_23 ci_1 ?_
    refine J.ialdK (j := 1) ik_3 hC eX11_chainTruth_24 kk_113 (by decide) (by decide) ?_
    refine J.icmp_ge hC eX11_chainTruth_25 (fun _ => ?_) (fun _ => ?_)
    · refine J.iinc (j := 2) (fun x3_1 => [(3, .int x3_1), (0, .ref (xad (cX C) 107)), (1, .long l1), (4, .int x4)]) hC eX11_chainTruth_89 rfl ci_1 (by decide) (fun _ => rfl) (fun x3_1 => ?_)
      refine J.goto hC eX11_chainTruth_92 ?_
      refine J.sub [1, 2, 0] rfl ?_
      exact hk_4 l1 x3_1 μ
    · refine J.aload_n (j := 0) hC eX11_chainTruth_28 rfl ?_
      refine gf_X11_34 (q := 116) hC eX11_chainTruth_29 kk_107 rfl ?_
      refine J.iconst hC eX11_chainTruth_32 ci_1 ?_
      refine J.iload_n (j := 2) hC eX11_chainTruth_33 rfl ?_
      refine J.iload (j := 3) hC eX11_chainTruth_34 rfl ?_
      refine J.callSI (st := [.ref (xad (cX C) 116)]) hC eX11_chainTruth_36 ml_X11_158 mv_X11_place (Rle_of (Nat.le_of_ble_eq_true rfl) (Nat.le_of_ble_eq_true rfl)) (c_X11_place hC.X (1 : Int32) x3 x4 μ) rfl rfl (Nat.le_of_ble_eq_true rfl) (fun r_3 μ_2 => ?_)
      refine J.iald ik_1253 hC eX11_chainTruth_39 kk_116 ?_
      refine J.topi (fun x5_4 => ?_)
      refine J.istore [(5, .int x5_4), (0, .ref (xad (cX C) 107)), (1, .long l1), (3, .int x3), (4, .int x4)] hC eX11_chainTruth_40 (by decide) rfl ?_
      refine J.iload (j := 0) hC eX11_chainTruth_42 rfl ?_
      refine J.if_le hC eX11_chainTruth_44 (fun _ => ?_) (fun _ => ?_)
      · refine J.sub [1, 2, 3, 4] rfl ?_
        exact j_X11_chainTruth_83 hC hr kc_4 hk_4 (L_X11_chainTruth_17 kc_4 n) ih l1 x3 x4 μ_2
      · refine J.aload_n (j := 1) hC eX11_chainTruth_47 rfl ?_
        refine J.callVI (st := []) hC eX11_chainTruth_48 kk_107 (by decide) rfl rfl ml_X11_347 mv_X11_isOver (Rle_of (Nat.le_of_ble_eq_true rfl) (Nat.le_of_ble_eq_true rfl)) (c_X11_isOver hC.X  μ_2) rfl rfl (Nat.le_of_ble_eq_true rfl) (fun r_6 μ_5 => ?_)
        refine J.if_eq hC eX11_chainTruth_51 (fun _ => ?_) (fun _ => ?_)
        · refine J.lload_n (j := 2) hC eX11_chainTruth_58 rfl ?_
          refine J.iload (j := 0) hC eX11_chainTruth_59 rfl ?_
          refine J.i2l hC eX11_chainTruth_61 ?_
          refine J.aload_n (j := 1) hC eX11_chainTruth_62 rfl ?_
          refine J.iconst hC eX11_chainTruth_63 ci_0 ?_
          refine J.iconst hC eX11_chainTruth_64 ci_1 ?_
          refine J.iload_n (j := 3) hC eX11_chainTruth_65 rfl ?_
          refine J.callVI (st := [.long x5_4.toInt64, .long l1]) hC eX11_chainTruth_66 kk_107 (by decide) rfl rfl ml_X11_375 mv_X11_countIn (Rle_of (Nat.le_of_ble_eq_true rfl) (Nat.le_of_ble_eq_true rfl)) (c_X11_countIn hC.X (0 : Int32) (1 : Int32) x3 μ_5) rfl rfl (Nat.le_of_ble_eq_true rfl) (fun r_8 μ_7 => ?_)
          refine J.i2l hC eX11_chainTruth_69 ?_
          refine J.lmul hC eX11_chainTruth_70 ?_
          refine J.aload_n (j := 1) hC eX11_chainTruth_71 rfl ?_
          refine J.iconst hC eX11_chainTruth_72 ci_2 ?_
          refine J.iconst hC eX11_chainTruth_73 ci_0 ?_
          refine J.iload (j := 4) hC eX11_chainTruth_74 rfl ?_
          refine J.callVI (st := [.long (x5_4.toInt64 * r_8.toInt64), .long l1]) hC eX11_chainTruth_76 kk_107 (by decide) rfl rfl ml_X11_375 mv_X11_countIn (Rle_of (Nat.le_of_ble_eq_true rfl) (Nat.le_of_ble_eq_true rfl)) (c_X11_countIn hC.X (2 : Int32) (0 : Int32) x4 μ_7) rfl rfl (Nat.le_of_ble_eq_true rfl) (fun r_10 μ_9 => ?_)
          refine J.i2l hC eX11_chainTruth_79 ?_
          refine J.lmul hC eX11_chainTruth_80 ?_
          refine J.ladd hC eX11_chainTruth_81 ?_
          refine J.topl (fun l1_11 => ?_)
          refine J.lstore_n [(1, .long l1_11), (5, .int x5_4), (0, .ref (xad (cX C) 107)), (3, .int x3), (4, .int x4)] hC eX11_chainTruth_82 (by decide) rfl ?_
          refine J.sub [2, 0, 3, 4] rfl ?_
          exact j_X11_chainTruth_83 hC hr kc_4 hk_4 (L_X11_chainTruth_17 kc_4 n) ih l1_11 x3 x4 μ_9
        · refine J.ldc2 hC eX11_chainTruth_54 mk_X11_156 ?_
          exact J.lret hC hr eX11_chainTruth_57
def L_X11_chainTruth_4 : Nat → Int64 → Int32 → Mem → Option (Int64 × Mem)
  | 0, _, _, _ => none
  | n + 1, l1, x3, μ => if (rI μ 113 1) ≤ x3 then some (l1, μ) else L_X11_chainTruth_17 (L_X11_chainTruth_4  n) 100000 l1 x3 (0 : Int32) μ
set_option maxHeartbeats 4000000 in
theorem j_X11_chainTruth_4 {C : Cx} (hC : Ok C cX11_chainTruth 6 RX11 (rmF 3 71)) (hr : (cT C).sig.returnType = (some .long)) : ∀ (n : Nat) (l1 : Int64) (x3 : Int32) (μ : Mem), J C (KL C) μ 4 [(0, .ref (xad (cX C) 107)), (1, .long l1), (3, .int x3)] [] (L_X11_chainTruth_4  n l1 x3 μ) := by
  intro n
  induction n with
  | zero => intros; exact J.no
  | succ n ih =>
    intro l1 x3 μ
    rw [L_X11_chainTruth_4]
    refine J.iload_n (j := 2) hC eX11_chainTruth_4 rfl ?_
    refine J.aload_n (j := 0) hC eX11_chainTruth_5 rfl ?_
    refine gf_X11_25 (q := 113) hC eX11_chainTruth_6 kk_107 rfl ?_
    refine J.iconst hC eX11_chainTruth_9 ci_1 ?_
    refine J.ialdK (j := 1) ik_3 hC eX11_chainTruth_10 kk_113 (by decide) (by decide) ?_
    refine J.icmp_ge hC eX11_chainTruth_11 (fun _ => ?_) (fun _ => ?_)
    · refine J.lload_n (j := 1) hC eX11_chainTruth_95 rfl ?_
      exact J.lret hC hr eX11_chainTruth_96
    · refine J.iconst hC eX11_chainTruth_14 ci_0 ?_
      refine J.istore [(4, .int (0 : Int32)), (0, .ref (xad (cX C) 107)), (1, .long l1), (3, .int x3)] hC eX11_chainTruth_15 (by decide) rfl ?_
      refine J.sub [1, 2, 3, 0] rfl ?_
      exact j_X11_chainTruth_17 hC hr (L_X11_chainTruth_4  n) ih 100000 l1 x3 (0 : Int32) μ
def G_X11_chainTruth  (μ : Mem) : Option (Int64 × Mem) :=
  L_X11_chainTruth_4  100000 (0 : Int64) (0 : Int32) μ
set_option maxHeartbeats 4000000 in
theorem c_X11_chainTruth {X : Wd} (hX : WdOk X)  (μ : Mem) : CtL X yX11_chainTruth cX11_chainTruth 6 (some .long) (rmF 3 71) [.ref (xad X 107)] μ (G_X11_chainTruth  μ) := by
  refine CtL.of hX (plainFor_of_name (by decide)) (by exact Nat.le_of_ble_eq_true rfl) ?_
  intro C hCX hC hr
  subst hCX
  show J C (KL C) μ 0 [(0, .ref (xad (cX C) 107))] [] _
  unfold G_X11_chainTruth
  refine J.lconst hC eX11_chainTruth_0 cl_0 ?_
  refine J.lstore_n [(1, .long (0 : Int64)), (0, .ref (xad (cX C) 107))] hC eX11_chainTruth_1 (by decide) rfl ?_
  refine J.iconst hC eX11_chainTruth_2 ci_0 ?_
  refine J.istore_n [(3, .int (0 : Int32)), (1, .long (0 : Int64)), (0, .ref (xad (cX C) 107))] hC eX11_chainTruth_3 (by decide) rfl ?_
  refine J.sub [2, 1, 0] rfl ?_
  exact j_X11_chainTruth_4 hC hr  100000 (0 : Int64) (0 : Int32) μ
-- X11_greatestOf
theorem eX11_greatestOf_0 : DD cX11_greatestOf 0 (.iconst 0) 1 1 := ⟨by decide +kernel, rfl⟩
theorem eX11_greatestOf_1 : DD cX11_greatestOf 1 (.istore_n 3) 1 2 := ⟨by decide +kernel, rfl⟩
theorem eX11_greatestOf_2 : DD cX11_greatestOf 2 (.iconst 0) 1 3 := ⟨by decide +kernel, rfl⟩
theorem eX11_greatestOf_3 : DD cX11_greatestOf 3 (.istore 4) 2 5 := ⟨by decide +kernel, rfl⟩
theorem eX11_greatestOf_5 : DD cX11_greatestOf 5 (.iload 4) 2 7 := ⟨by decide +kernel, rfl⟩
theorem eX11_greatestOf_7 : DD cX11_greatestOf 7 (.aload_n 0) 1 8 := ⟨by decide +kernel, rfl⟩
theorem eX11_greatestOf_8 : DD cX11_greatestOf 8 (.iload_n 1) 1 9 := ⟨by decide +kernel, rfl⟩
theorem eX11_greatestOf_9 : DD cX11_greatestOf 9 (.iload_n 2) 1 10 := ⟨by decide +kernel, rfl⟩
theorem eX11_greatestOf_10 : DD cX11_greatestOf 10 (.invokevirtual 238) 3 13 := ⟨by decide +kernel, rfl⟩
theorem eX11_greatestOf_13 : DB cX11_greatestOf 13 (.if_icmp .ge 23) (23) 16 36 := ⟨by decide +kernel, rfl, by decide⟩
theorem eX11_greatestOf_16 : DD cX11_greatestOf 16 (.iload_n 3) 1 17 := ⟨by decide +kernel, rfl⟩
theorem eX11_greatestOf_17 : DD cX11_greatestOf 17 (.aload_n 0) 1 18 := ⟨by decide +kernel, rfl⟩
theorem eX11_greatestOf_18 : DD cX11_greatestOf 18 (.iload_n 1) 1 19 := ⟨by decide +kernel, rfl⟩
theorem eX11_greatestOf_19 : DD cX11_greatestOf 19 (.iload_n 2) 1 20 := ⟨by decide +kernel, rfl⟩
theorem eX11_greatestOf_20 : DD cX11_greatestOf 20 (.iload 4) 2 22 := ⟨by decide +kernel, rfl⟩
theorem eX11_greatestOf_22 : DD cX11_greatestOf 22 (.iconst 3) 1 23 := ⟨by decide +kernel, rfl⟩
theorem eX11_greatestOf_23 : DD cX11_greatestOf 23 (.invokevirtual 241) 3 26 := ⟨by decide +kernel, rfl⟩
theorem eX11_greatestOf_26 : DD cX11_greatestOf 26 (.invokestatic 202) 3 29 := ⟨by decide +kernel, rfl⟩
theorem eX11_greatestOf_29 : DD cX11_greatestOf 29 (.istore_n 3) 1 30 := ⟨by decide +kernel, rfl⟩
theorem eX11_greatestOf_30 : DD cX11_greatestOf 30 (.iinc 4 1) 3 33 := ⟨by decide +kernel, rfl⟩
theorem eX11_greatestOf_33 : DB cX11_greatestOf 33 (.goto (-28)) (-28) 36 5 := ⟨by decide +kernel, rfl, by decide⟩
theorem eX11_greatestOf_36 : DD cX11_greatestOf 36 (.iload_n 3) 1 37 := ⟨by decide +kernel, rfl⟩
theorem eX11_greatestOf_37 : DD cX11_greatestOf 37 (.i2l) 1 38 := ⟨by decide +kernel, rfl⟩
theorem eX11_greatestOf_38 : DD cX11_greatestOf 38 (.lreturn) 1 39 := ⟨by decide +kernel, rfl⟩
def L_X11_greatestOf_5 : Nat → Int32 → Int32 → Int32 → Int32 → Mem → Option (Int64 × Mem)
  | 0, _, _, _, _, _ => none
  | n + 1, x1, x2, x3, x4, μ => bd (G_X11_bucketMany x1 x2 μ) (fun r_2 μ_1 => if r_2 ≤ x4 then some (x3.toInt64, μ_1) else bd (G_X11_of x1 x2 x4 (3 : Int32) μ_1) (fun r_4 μ_3 => lb (imax x3 r_4) (fun x3_5 => lb (x4 + (1 : Int32)) (fun x4_6 => L_X11_greatestOf_5  n x1 x2 x3_5 x4_6 μ_3))))
set_option maxHeartbeats 4000000 in
theorem j_X11_greatestOf_5 {C : Cx} (hC : Ok C cX11_greatestOf 5 RX11 (rmF 2 45)) (hr : (cT C).sig.returnType = (some .long)) : ∀ (n : Nat) (x1 : Int32) (x2 : Int32) (x3 : Int32) (x4 : Int32) (μ : Mem), J C (KL C) μ 5 [(0, .ref (xad (cX C) 107)), (1, .int x1), (2, .int x2), (3, .int x3), (4, .int x4)] [] (L_X11_greatestOf_5  n x1 x2 x3 x4 μ) := by
  intro n
  induction n with
  | zero => intros; exact J.no
  | succ n ih =>
    intro x1 x2 x3 x4 μ
    rw [L_X11_greatestOf_5]
    refine J.iload (j := 4) hC eX11_greatestOf_5 rfl ?_
    refine J.aload_n (j := 0) hC eX11_greatestOf_7 rfl ?_
    refine J.iload_n (j := 1) hC eX11_greatestOf_8 rfl ?_
    refine J.iload_n (j := 2) hC eX11_greatestOf_9 rfl ?_
    refine J.callVI (st := [.int x4]) hC eX11_greatestOf_10 kk_107 (by decide) rfl rfl ml_X11_238 mv_X11_bucketMany (Rle_of (Nat.le_of_ble_eq_true rfl) (Nat.le_of_ble_eq_true rfl)) (c_X11_bucketMany hC.X x1 x2 μ) rfl rfl (Nat.le_of_ble_eq_true rfl) (fun r_2 μ_1 => ?_)
    refine J.icmp_ge hC eX11_greatestOf_13 (fun _ => ?_) (fun _ => ?_)
    · refine J.iload_n (j := 3) hC eX11_greatestOf_36 rfl ?_
      refine J.i2l hC eX11_greatestOf_37 ?_
      exact J.lret hC hr eX11_greatestOf_38
    · refine J.iload_n (j := 3) hC eX11_greatestOf_16 rfl ?_
      refine J.aload_n (j := 0) hC eX11_greatestOf_17 rfl ?_
      refine J.iload_n (j := 1) hC eX11_greatestOf_18 rfl ?_
      refine J.iload_n (j := 2) hC eX11_greatestOf_19 rfl ?_
      refine J.iload (j := 4) hC eX11_greatestOf_20 rfl ?_
      refine J.iconst hC eX11_greatestOf_22 ci_3 ?_
      refine J.callVI (st := [.int x3]) hC eX11_greatestOf_23 kk_107 (by decide) rfl rfl ml_X11_241 mv_X11_of (Rle_of (Nat.le_of_ble_eq_true rfl) (Nat.le_of_ble_eq_true rfl)) (c_X11_of hC.X x1 x2 x4 (3 : Int32) μ_1) rfl rfl (Nat.le_of_ble_eq_true rfl) (fun r_4 μ_3 => ?_)
      refine J.mmax hC eX11_greatestOf_26 ml_X11_202 w_smax w_im w_cmax (Nat.le_of_ble_eq_true rfl) (Nat.le_of_ble_eq_true rfl) ?_
      refine J.topi (fun x3_5 => ?_)
      refine J.istore_n [(3, .int x3_5), (0, .ref (xad (cX C) 107)), (1, .int x1), (2, .int x2), (4, .int x4)] hC eX11_greatestOf_29 (by decide) rfl ?_
      refine J.iinc (j := 4) (fun x4_6 => [(4, .int x4_6), (3, .int x3_5), (0, .ref (xad (cX C) 107)), (1, .int x1), (2, .int x2)]) hC eX11_greatestOf_30 rfl ci_1 (by decide) (fun _ => rfl) (fun x4_6 => ?_)
      refine J.goto hC eX11_greatestOf_33 ?_
      refine J.sub [2, 3, 4, 1, 0] rfl ?_
      exact ih x1 x2 x3_5 x4_6 μ_3
def G_X11_greatestOf (x1 : Int32) (x2 : Int32) (μ : Mem) : Option (Int64 × Mem) :=
  L_X11_greatestOf_5  100000 x1 x2 (0 : Int32) (0 : Int32) μ
set_option maxHeartbeats 4000000 in
theorem c_X11_greatestOf {X : Wd} (hX : WdOk X) (x1 : Int32) (x2 : Int32) (μ : Mem) : CtL X yX11_greatestOf cX11_greatestOf 5 (some .long) (rmF 2 45) [.ref (xad X 107), .int x1, .int x2] μ (G_X11_greatestOf x1 x2 μ) := by
  refine CtL.of hX (plainFor_of_name (by decide)) (by exact Nat.le_of_ble_eq_true rfl) ?_
  intro C hCX hC hr
  subst hCX
  show J C (KL C) μ 0 [(0, .ref (xad (cX C) 107)), (1, .int x1), (2, .int x2)] [] _
  unfold G_X11_greatestOf
  refine J.iconst hC eX11_greatestOf_0 ci_0 ?_
  refine J.istore_n [(3, .int (0 : Int32)), (0, .ref (xad (cX C) 107)), (1, .int x1), (2, .int x2)] hC eX11_greatestOf_1 (by decide) rfl ?_
  refine J.iconst hC eX11_greatestOf_2 ci_0 ?_
  refine J.istore [(4, .int (0 : Int32)), (3, .int (0 : Int32)), (0, .ref (xad (cX C) 107)), (1, .int x1), (2, .int x2)] hC eX11_greatestOf_3 (by decide) rfl ?_
  refine J.sub [2, 3, 4, 1, 0] rfl ?_
  exact j_X11_greatestOf_5 hC hr  100000 x1 x2 (0 : Int32) (0 : Int32) μ
-- X11_chain
theorem eX11_chain_0 : DD cX11_chain 0 (.aload_n 0) 1 1 := ⟨by decide +kernel, rfl⟩
theorem eX11_chain_1 : DD cX11_chain 1 (.getfield 150) 3 4 := ⟨by decide +kernel, rfl⟩
theorem eX11_chain_4 : DD cX11_chain 4 (.iconst 3) 1 5 := ⟨by decide +kernel, rfl⟩
theorem eX11_chain_5 : DB cX11_chain 5 (.if_icmp .lt 13) (13) 8 18 := ⟨by decide +kernel, rfl, by decide⟩
theorem eX11_chain_8 : DD cX11_chain 8 (.iload_n 1) 1 9 := ⟨by decide +kernel, rfl⟩
theorem eX11_chain_9 : DD cX11_chain 9 (.i2l) 1 10 := ⟨by decide +kernel, rfl⟩
theorem eX11_chain_10 : DD cX11_chain 10 (.lconst 0) 1 11 := ⟨by decide +kernel, rfl⟩
theorem eX11_chain_11 : DD cX11_chain 11 (.lconst 1) 1 12 := ⟨by decide +kernel, rfl⟩
theorem eX11_chain_12 : DD cX11_chain 12 (.invokestatic 77) 3 15 := ⟨by decide +kernel, rfl⟩
theorem eX11_chain_15 : DB cX11_chain 15 (.ifCond .ne 7) (7) 18 22 := ⟨by decide +kernel, rfl, by decide⟩
theorem eX11_chain_18 : DD cX11_chain 18 (.ldc2_w 156) 3 21 := ⟨by decide +kernel, rfl⟩
theorem eX11_chain_21 : DD cX11_chain 21 (.lreturn) 1 22 := ⟨by decide +kernel, rfl⟩
theorem eX11_chain_22 : DD cX11_chain 22 (.iload_n 1) 1 23 := ⟨by decide +kernel, rfl⟩
theorem eX11_chain_23 : DD cX11_chain 23 (.iconst 1) 1 24 := ⟨by decide +kernel, rfl⟩
theorem eX11_chain_24 : DB cX11_chain 24 (.if_icmp .ne 39) (39) 27 63 := ⟨by decide +kernel, rfl, by decide⟩
theorem eX11_chain_27 : DD cX11_chain 27 (.aload_n 0) 1 28 := ⟨by decide +kernel, rfl⟩
theorem eX11_chain_28 : DD cX11_chain 28 (.iconst 0) 1 29 := ⟨by decide +kernel, rfl⟩
theorem eX11_chain_29 : DD cX11_chain 29 (.iconst 1) 1 30 := ⟨by decide +kernel, rfl⟩
theorem eX11_chain_30 : DD cX11_chain 30 (.iconst 1) 1 31 := ⟨by decide +kernel, rfl⟩
theorem eX11_chain_31 : DD cX11_chain 31 (.iconst 0) 1 32 := ⟨by decide +kernel, rfl⟩
theorem eX11_chain_32 : DD cX11_chain 32 (.iconst 1) 1 33 := ⟨by decide +kernel, rfl⟩
theorem eX11_chain_33 : DD cX11_chain 33 (.invokevirtual 386) 3 36 := ⟨by decide +kernel, rfl⟩
theorem eX11_chain_36 : DD cX11_chain 36 (.aload_n 0) 1 37 := ⟨by decide +kernel, rfl⟩
theorem eX11_chain_37 : DD cX11_chain 37 (.iconst 2) 1 38 := ⟨by decide +kernel, rfl⟩
theorem eX11_chain_38 : DD cX11_chain 38 (.iconst 0) 1 39 := ⟨by decide +kernel, rfl⟩
theorem eX11_chain_39 : DD cX11_chain 39 (.invokevirtual 393) 3 42 := ⟨by decide +kernel, rfl⟩
theorem eX11_chain_42 : DD cX11_chain 42 (.lmul) 1 43 := ⟨by decide +kernel, rfl⟩
theorem eX11_chain_43 : DD cX11_chain 43 (.aload_n 0) 1 44 := ⟨by decide +kernel, rfl⟩
theorem eX11_chain_44 : DD cX11_chain 44 (.iconst 1) 1 45 := ⟨by decide +kernel, rfl⟩
theorem eX11_chain_45 : DD cX11_chain 45 (.iconst 1) 1 46 := ⟨by decide +kernel, rfl⟩
theorem eX11_chain_46 : DD cX11_chain 46 (.iconst 2) 1 47 := ⟨by decide +kernel, rfl⟩
theorem eX11_chain_47 : DD cX11_chain 47 (.iconst 0) 1 48 := ⟨by decide +kernel, rfl⟩
theorem eX11_chain_48 : DD cX11_chain 48 (.iconst 1) 1 49 := ⟨by decide +kernel, rfl⟩
theorem eX11_chain_49 : DD cX11_chain 49 (.invokevirtual 386) 3 52 := ⟨by decide +kernel, rfl⟩
theorem eX11_chain_52 : DD cX11_chain 52 (.aload_n 0) 1 53 := ⟨by decide +kernel, rfl⟩
theorem eX11_chain_53 : DD cX11_chain 53 (.iconst 0) 1 54 := ⟨by decide +kernel, rfl⟩
theorem eX11_chain_54 : DD cX11_chain 54 (.iconst 1) 1 55 := ⟨by decide +kernel, rfl⟩
theorem eX11_chain_55 : DD cX11_chain 55 (.invokevirtual 393) 3 58 := ⟨by decide +kernel, rfl⟩
theorem eX11_chain_58 : DD cX11_chain 58 (.lmul) 1 59 := ⟨by decide +kernel, rfl⟩
theorem eX11_chain_59 : DD cX11_chain 59 (.invokestatic 181) 3 62 := ⟨by decide +kernel, rfl⟩
theorem eX11_chain_62 : DD cX11_chain 62 (.lreturn) 1 63 := ⟨by decide +kernel, rfl⟩
theorem eX11_chain_63 : DD cX11_chain 63 (.aload_n 0) 1 64 := ⟨by decide +kernel, rfl⟩
theorem eX11_chain_64 : DD cX11_chain 64 (.invokevirtual 365) 3 67 := ⟨by decide +kernel, rfl⟩
theorem eX11_chain_67 : DD cX11_chain 67 (.aload_n 0) 1 68 := ⟨by decide +kernel, rfl⟩
theorem eX11_chain_68 : DD cX11_chain 68 (.iconst 0) 1 69 := ⟨by decide +kernel, rfl⟩
theorem eX11_chain_69 : DD cX11_chain 69 (.invokevirtual 332) 3 72 := ⟨by decide +kernel, rfl⟩
theorem eX11_chain_72 : DD cX11_chain 72 (.aload_n 0) 1 73 := ⟨by decide +kernel, rfl⟩
theorem eX11_chain_73 : DD cX11_chain 73 (.iconst 1) 1 74 := ⟨by decide +kernel, rfl⟩
theorem eX11_chain_74 : DD cX11_chain 74 (.invokevirtual 332) 3 77 := ⟨by decide +kernel, rfl⟩
theorem eX11_chain_77 : DD cX11_chain 77 (.aload_n 0) 1 78 := ⟨by decide +kernel, rfl⟩
theorem eX11_chain_78 : DD cX11_chain 78 (.iconst 2) 1 79 := ⟨by decide +kernel, rfl⟩
theorem eX11_chain_79 : DD cX11_chain 79 (.invokevirtual 332) 3 82 := ⟨by decide +kernel, rfl⟩
theorem eX11_chain_82 : DD cX11_chain 82 (.aload_n 0) 1 83 := ⟨by decide +kernel, rfl⟩
theorem eX11_chain_83 : DD cX11_chain 83 (.aload_n 0) 1 84 := ⟨by decide +kernel, rfl⟩
theorem eX11_chain_84 : DD cX11_chain 84 (.invokevirtual 396) 3 87 := ⟨by decide +kernel, rfl⟩
theorem eX11_chain_87 : DD cX11_chain 87 (.invokevirtual 371) 3 90 := ⟨by decide +kernel, rfl⟩
theorem eX11_chain_90 : DD cX11_chain 90 (.lreturn) 1 91 := ⟨by decide +kernel, rfl⟩
def G_X11_chain (x1 : Int32) (μ : Mem) : Option (Int64 × Mem) :=
  if (rI μ 107 12) < (3 : Int32) then some ((-1 : Int64), μ) else bd (G_X11_in x1.toInt64 (0 : Int64) (1 : Int64) μ) (fun r_2 μ_1 => if r_2 = 0 then some ((-1 : Int64), μ_1) else if x1 = (1 : Int32) then bd (G_X11_joinBy (0 : Int32) (1 : Int32) (1 : Int32) (0 : Int32) (1 : Int32) μ_1) (fun r_4 μ_3 => bd (G_X11_greatestOf (2 : Int32) (0 : Int32) μ_3) (fun r_6 μ_5 => bd (G_X11_joinBy (1 : Int32) (1 : Int32) (2 : Int32) (0 : Int32) (1 : Int32) μ_5) (fun r_8 μ_7 => bd (G_X11_greatestOf (0 : Int32) (1 : Int32) μ_7) (fun r_10 μ_9 => some (lmin (r_4 * r_6) (r_8 * r_10), μ_9))))) else bd (G_X11_begin  μ_1) (fun r_12 μ_11 => bd (G_X11_take (0 : Int32) μ_11) (fun r_14 μ_13 => bd (G_X11_take (1 : Int32) μ_13) (fun r_16 μ_15 => bd (G_X11_take (2 : Int32) μ_15) (fun r_18 μ_17 => bd (G_X11_chainTruth  μ_17) (fun r_20 μ_19 => bd (G_X11_finish r_20 μ_19) (fun r_22 μ_21 => some (r_22, μ_21))))))))
set_option maxHeartbeats 4000000 in
theorem c_X11_chain {X : Wd} (hX : WdOk X) (x1 : Int32) (μ : Mem) : CtL X yX11_chain cX11_chain 2 (some .long) (rmF 4 96) [.ref (xad X 107), .int x1] μ (G_X11_chain x1 μ) := by
  refine CtL.of hX (plainFor_of_name (by decide)) (by exact Nat.le_of_ble_eq_true rfl) ?_
  intro C hCX hC hr
  subst hCX
  show J C (KL C) μ 0 [(0, .ref (xad (cX C) 107)), (1, .int x1)] [] _
  unfold G_X11_chain
  refine J.aload_n (j := 0) hC eX11_chain_0 rfl ?_
  refine gf_X11_150 hC eX11_chain_1 kk_107 ?_
  refine J.iconst hC eX11_chain_4 ci_3 ?_
  refine J.icmp_lt hC eX11_chain_5 (fun _ => ?_) (fun _ => ?_)
  · refine J.ldc2 hC eX11_chain_18 mk_X11_156 ?_
    exact J.lret hC hr eX11_chain_21
  · refine J.iload_n (j := 1) hC eX11_chain_8 rfl ?_
    refine J.i2l hC eX11_chain_9 ?_
    refine J.lconst hC eX11_chain_10 cl_0 ?_
    refine J.lconst hC eX11_chain_11 cl_1 ?_
    refine J.callSI (st := []) hC eX11_chain_12 ml_X11_77 mv_X11_in (Rle_of (Nat.le_of_ble_eq_true rfl) (Nat.le_of_ble_eq_true rfl)) (c_X11_in hC.X x1.toInt64 (0 : Int64) (1 : Int64) μ) rfl rfl (Nat.le_of_ble_eq_true rfl) (fun r_2 μ_1 => ?_)
    refine J.if_ne hC eX11_chain_15 (fun _ => ?_) (fun _ => ?_)
    · refine J.ldc2 hC eX11_chain_18 mk_X11_156 ?_
      exact J.lret hC hr eX11_chain_21
    · refine J.iload_n (j := 1) hC eX11_chain_22 rfl ?_
      refine J.iconst hC eX11_chain_23 ci_1 ?_
      refine J.icmp_ne hC eX11_chain_24 (fun _ => ?_) (fun _ => ?_)
      · refine J.aload_n (j := 0) hC eX11_chain_27 rfl ?_
        refine J.iconst hC eX11_chain_28 ci_0 ?_
        refine J.iconst hC eX11_chain_29 ci_1 ?_
        refine J.iconst hC eX11_chain_30 ci_1 ?_
        refine J.iconst hC eX11_chain_31 ci_0 ?_
        refine J.iconst hC eX11_chain_32 ci_1 ?_
        refine J.callVL (st := []) hC eX11_chain_33 kk_107 (by decide) rfl rfl ml_X11_386 mv_X11_joinBy (Rle_of (Nat.le_of_ble_eq_true rfl) (Nat.le_of_ble_eq_true rfl)) (c_X11_joinBy hC.X (0 : Int32) (1 : Int32) (1 : Int32) (0 : Int32) (1 : Int32) μ_1) rfl rfl (Nat.le_of_ble_eq_true rfl) (fun r_4 μ_3 => ?_)
        refine J.aload_n (j := 0) hC eX11_chain_36 rfl ?_
        refine J.iconst hC eX11_chain_37 ci_2 ?_
        refine J.iconst hC eX11_chain_38 ci_0 ?_
        refine J.callVL (st := [.long r_4]) hC eX11_chain_39 kk_107 (by decide) rfl rfl ml_X11_393 mv_X11_greatestOf (Rle_of (Nat.le_of_ble_eq_true rfl) (Nat.le_of_ble_eq_true rfl)) (c_X11_greatestOf hC.X (2 : Int32) (0 : Int32) μ_3) rfl rfl (Nat.le_of_ble_eq_true rfl) (fun r_6 μ_5 => ?_)
        refine J.lmul hC eX11_chain_42 ?_
        refine J.aload_n (j := 0) hC eX11_chain_43 rfl ?_
        refine J.iconst hC eX11_chain_44 ci_1 ?_
        refine J.iconst hC eX11_chain_45 ci_1 ?_
        refine J.iconst hC eX11_chain_46 ci_2 ?_
        refine J.iconst hC eX11_chain_47 ci_0 ?_
        refine J.iconst hC eX11_chain_48 ci_1 ?_
        refine J.callVL (st := [.long (r_4 * r_6)]) hC eX11_chain_49 kk_107 (by decide) rfl rfl ml_X11_386 mv_X11_joinBy (Rle_of (Nat.le_of_ble_eq_true rfl) (Nat.le_of_ble_eq_true rfl)) (c_X11_joinBy hC.X (1 : Int32) (1 : Int32) (2 : Int32) (0 : Int32) (1 : Int32) μ_5) rfl rfl (Nat.le_of_ble_eq_true rfl) (fun r_8 μ_7 => ?_)
        refine J.aload_n (j := 0) hC eX11_chain_52 rfl ?_
        refine J.iconst hC eX11_chain_53 ci_0 ?_
        refine J.iconst hC eX11_chain_54 ci_1 ?_
        refine J.callVL (st := [.long r_8, .long (r_4 * r_6)]) hC eX11_chain_55 kk_107 (by decide) rfl rfl ml_X11_393 mv_X11_greatestOf (Rle_of (Nat.le_of_ble_eq_true rfl) (Nat.le_of_ble_eq_true rfl)) (c_X11_greatestOf hC.X (0 : Int32) (1 : Int32) μ_7) rfl rfl (Nat.le_of_ble_eq_true rfl) (fun r_10 μ_9 => ?_)
        refine J.lmul hC eX11_chain_58 ?_
        refine J.lmin hC eX11_chain_59 ml_X11_181 w_sminL w_im w_cminL (Nat.le_of_ble_eq_true rfl) (Nat.le_of_ble_eq_true rfl) ?_
        exact J.lret hC hr eX11_chain_62
      · refine J.aload_n (j := 0) hC eX11_chain_63 rfl ?_
        refine J.callVV (st := []) hC eX11_chain_64 kk_107 (by decide) rfl rfl ml_X11_365 mv_X11_begin (Rle_of (Nat.le_of_ble_eq_true rfl) (Nat.le_of_ble_eq_true rfl)) (c_X11_begin hC.X  μ_1) rfl rfl (Nat.le_of_ble_eq_true rfl) (fun r_12 μ_11 => ?_)
        refine J.aload_n (j := 0) hC eX11_chain_67 rfl ?_
        refine J.iconst hC eX11_chain_68 ci_0 ?_
        refine J.callVV (st := []) hC eX11_chain_69 kk_107 (by decide) rfl rfl ml_X11_332 mv_X11_take (Rle_of (Nat.le_of_ble_eq_true rfl) (Nat.le_of_ble_eq_true rfl)) (c_X11_take hC.X (0 : Int32) μ_11) rfl rfl (Nat.le_of_ble_eq_true rfl) (fun r_14 μ_13 => ?_)
        refine J.aload_n (j := 0) hC eX11_chain_72 rfl ?_
        refine J.iconst hC eX11_chain_73 ci_1 ?_
        refine J.callVV (st := []) hC eX11_chain_74 kk_107 (by decide) rfl rfl ml_X11_332 mv_X11_take (Rle_of (Nat.le_of_ble_eq_true rfl) (Nat.le_of_ble_eq_true rfl)) (c_X11_take hC.X (1 : Int32) μ_13) rfl rfl (Nat.le_of_ble_eq_true rfl) (fun r_16 μ_15 => ?_)
        refine J.aload_n (j := 0) hC eX11_chain_77 rfl ?_
        refine J.iconst hC eX11_chain_78 ci_2 ?_
        refine J.callVV (st := []) hC eX11_chain_79 kk_107 (by decide) rfl rfl ml_X11_332 mv_X11_take (Rle_of (Nat.le_of_ble_eq_true rfl) (Nat.le_of_ble_eq_true rfl)) (c_X11_take hC.X (2 : Int32) μ_15) rfl rfl (Nat.le_of_ble_eq_true rfl) (fun r_18 μ_17 => ?_)
        refine J.aload_n (j := 0) hC eX11_chain_82 rfl ?_
        refine J.aload_n (j := 0) hC eX11_chain_83 rfl ?_
        refine J.callVL (st := [.ref (xad (cX C) 107)]) hC eX11_chain_84 kk_107 (by decide) rfl rfl ml_X11_396 mv_X11_chainTruth (Rle_of (Nat.le_of_ble_eq_true rfl) (Nat.le_of_ble_eq_true rfl)) (c_X11_chainTruth hC.X  μ_17) rfl rfl (Nat.le_of_ble_eq_true rfl) (fun r_20 μ_19 => ?_)
        refine J.callVL (st := []) hC eX11_chain_87 kk_107 (by decide) rfl rfl ml_X11_371 mv_X11_finish (Rle_of (Nat.le_of_ble_eq_true rfl) (Nat.le_of_ble_eq_true rfl)) (c_X11_finish hC.X r_20 μ_19) rfl rfl (Nat.le_of_ble_eq_true rfl) (fun r_22 μ_21 => ?_)
        exact J.lret hC hr eX11_chain_90
-- X11_gapIfBuilt
theorem eX11_gapIfBuilt_0 : DD cX11_gapIfBuilt 0 (.iconst 0) 1 1 := ⟨by decide +kernel, rfl⟩
theorem eX11_gapIfBuilt_1 : DD cX11_gapIfBuilt 1 (.istore 4) 2 3 := ⟨by decide +kernel, rfl⟩
theorem eX11_gapIfBuilt_3 : DD cX11_gapIfBuilt 3 (.iload 4) 2 5 := ⟨by decide +kernel, rfl⟩
theorem eX11_gapIfBuilt_5 : DD cX11_gapIfBuilt 5 (.sipush 1072) 3 8 := ⟨by decide +kernel, rfl⟩
theorem eX11_gapIfBuilt_8 : DB cX11_gapIfBuilt 8 (.if_icmp .ge 23) (23) 11 31 := ⟨by decide +kernel, rfl, by decide⟩
theorem eX11_gapIfBuilt_11 : DD cX11_gapIfBuilt 11 (.aload_n 0) 1 12 := ⟨by decide +kernel, rfl⟩
theorem eX11_gapIfBuilt_12 : DD cX11_gapIfBuilt 12 (.getfield 60) 3 15 := ⟨by decide +kernel, rfl⟩
theorem eX11_gapIfBuilt_15 : DD cX11_gapIfBuilt 15 (.iload 4) 2 17 := ⟨by decide +kernel, rfl⟩
theorem eX11_gapIfBuilt_17 : DD cX11_gapIfBuilt 17 (.aload_n 0) 1 18 := ⟨by decide +kernel, rfl⟩
theorem eX11_gapIfBuilt_18 : DD cX11_gapIfBuilt 18 (.getfield 34) 3 21 := ⟨by decide +kernel, rfl⟩
theorem eX11_gapIfBuilt_21 : DD cX11_gapIfBuilt 21 (.iload 4) 2 23 := ⟨by decide +kernel, rfl⟩
theorem eX11_gapIfBuilt_23 : DD cX11_gapIfBuilt 23 (.iaload) 1 24 := ⟨by decide +kernel, rfl⟩
theorem eX11_gapIfBuilt_24 : DD cX11_gapIfBuilt 24 (.iastore) 1 25 := ⟨by decide +kernel, rfl⟩
theorem eX11_gapIfBuilt_25 : DD cX11_gapIfBuilt 25 (.iinc 4 1) 3 28 := ⟨by decide +kernel, rfl⟩
theorem eX11_gapIfBuilt_28 : DB cX11_gapIfBuilt 28 (.goto (-25)) (-25) 31 3 := ⟨by decide +kernel, rfl, by decide⟩
theorem eX11_gapIfBuilt_31 : DD cX11_gapIfBuilt 31 (.aload_n 0) 1 32 := ⟨by decide +kernel, rfl⟩
theorem eX11_gapIfBuilt_32 : DD cX11_gapIfBuilt 32 (.iload_n 1) 1 33 := ⟨by decide +kernel, rfl⟩
theorem eX11_gapIfBuilt_33 : DD cX11_gapIfBuilt 33 (.iload_n 3) 1 34 := ⟨by decide +kernel, rfl⟩
theorem eX11_gapIfBuilt_34 : DD cX11_gapIfBuilt 34 (.invokevirtual 209) 3 37 := ⟨by decide +kernel, rfl⟩
theorem eX11_gapIfBuilt_37 : DD cX11_gapIfBuilt 37 (.aload_n 0) 1 38 := ⟨by decide +kernel, rfl⟩
theorem eX11_gapIfBuilt_38 : DD cX11_gapIfBuilt 38 (.iload_n 1) 1 39 := ⟨by decide +kernel, rfl⟩
theorem eX11_gapIfBuilt_39 : DD cX11_gapIfBuilt 39 (.iload_n 2) 1 40 := ⟨by decide +kernel, rfl⟩
theorem eX11_gapIfBuilt_40 : DD cX11_gapIfBuilt 40 (.iconst 2) 1 41 := ⟨by decide +kernel, rfl⟩
theorem eX11_gapIfBuilt_41 : DD cX11_gapIfBuilt 41 (.invokevirtual 362) 3 44 := ⟨by decide +kernel, rfl⟩
theorem eX11_gapIfBuilt_44 : DD cX11_gapIfBuilt 44 (.aload_n 0) 1 45 := ⟨by decide +kernel, rfl⟩
theorem eX11_gapIfBuilt_45 : DD cX11_gapIfBuilt 45 (.iload_n 1) 1 46 := ⟨by decide +kernel, rfl⟩
theorem eX11_gapIfBuilt_46 : DD cX11_gapIfBuilt 46 (.iload_n 2) 1 47 := ⟨by decide +kernel, rfl⟩
theorem eX11_gapIfBuilt_47 : DD cX11_gapIfBuilt 47 (.iconst 1) 1 48 := ⟨by decide +kernel, rfl⟩
theorem eX11_gapIfBuilt_48 : DD cX11_gapIfBuilt 48 (.invokevirtual 362) 3 51 := ⟨by decide +kernel, rfl⟩
theorem eX11_gapIfBuilt_51 : DD cX11_gapIfBuilt 51 (.isub) 1 52 := ⟨by decide +kernel, rfl⟩
theorem eX11_gapIfBuilt_52 : DD cX11_gapIfBuilt 52 (.istore 4) 2 54 := ⟨by decide +kernel, rfl⟩
theorem eX11_gapIfBuilt_54 : DD cX11_gapIfBuilt 54 (.iconst 0) 1 55 := ⟨by decide +kernel, rfl⟩
theorem eX11_gapIfBuilt_55 : DD cX11_gapIfBuilt 55 (.istore 5) 2 57 := ⟨by decide +kernel, rfl⟩
theorem eX11_gapIfBuilt_57 : DD cX11_gapIfBuilt 57 (.iload 5) 2 59 := ⟨by decide +kernel, rfl⟩
theorem eX11_gapIfBuilt_59 : DD cX11_gapIfBuilt 59 (.sipush 1072) 3 62 := ⟨by decide +kernel, rfl⟩
theorem eX11_gapIfBuilt_62 : DB cX11_gapIfBuilt 62 (.if_icmp .ge 23) (23) 65 85 := ⟨by decide +kernel, rfl, by decide⟩
theorem eX11_gapIfBuilt_65 : DD cX11_gapIfBuilt 65 (.aload_n 0) 1 66 := ⟨by decide +kernel, rfl⟩
theorem eX11_gapIfBuilt_66 : DD cX11_gapIfBuilt 66 (.getfield 34) 3 69 := ⟨by decide +kernel, rfl⟩
theorem eX11_gapIfBuilt_69 : DD cX11_gapIfBuilt 69 (.iload 5) 2 71 := ⟨by decide +kernel, rfl⟩
theorem eX11_gapIfBuilt_71 : DD cX11_gapIfBuilt 71 (.aload_n 0) 1 72 := ⟨by decide +kernel, rfl⟩
theorem eX11_gapIfBuilt_72 : DD cX11_gapIfBuilt 72 (.getfield 60) 3 75 := ⟨by decide +kernel, rfl⟩
theorem eX11_gapIfBuilt_75 : DD cX11_gapIfBuilt 75 (.iload 5) 2 77 := ⟨by decide +kernel, rfl⟩
theorem eX11_gapIfBuilt_77 : DD cX11_gapIfBuilt 77 (.iaload) 1 78 := ⟨by decide +kernel, rfl⟩
theorem eX11_gapIfBuilt_78 : DD cX11_gapIfBuilt 78 (.iastore) 1 79 := ⟨by decide +kernel, rfl⟩
theorem eX11_gapIfBuilt_79 : DD cX11_gapIfBuilt 79 (.iinc 5 1) 3 82 := ⟨by decide +kernel, rfl⟩
theorem eX11_gapIfBuilt_82 : DB cX11_gapIfBuilt 82 (.goto (-25)) (-25) 85 57 := ⟨by decide +kernel, rfl, by decide⟩
theorem eX11_gapIfBuilt_85 : DD cX11_gapIfBuilt 85 (.iload 4) 2 87 := ⟨by decide +kernel, rfl⟩
theorem eX11_gapIfBuilt_87 : DD cX11_gapIfBuilt 87 (.ireturn) 1 88 := ⟨by decide +kernel, rfl⟩
def L_X11_gapIfBuilt_57 : Nat → Int32 → Int32 → Mem → Option (Int32 × Mem)
  | 0, _, _, _ => none
  | n + 1, x4, x5, μ => if (1072 : Int32) ≤ x5 then some (x4, μ) else gq (inB x5 1072) (gq (inB x5 1253) (lb (wI μ 116 (nx x5) (rI μ 124 (nx x5))) (fun μ_1 => lb (x5 + (1 : Int32)) (fun x5_2 => L_X11_gapIfBuilt_57  n x4 x5_2 μ_1))))
set_option maxHeartbeats 4000000 in
theorem j_X11_gapIfBuilt_57 {C : Cx} (hC : Ok C cX11_gapIfBuilt 6 RX11 (rmF 5 136)) (hr : (cT C).sig.returnType = (some .int)) : ∀ (n : Nat) (x4 : Int32) (x5 : Int32) (μ : Mem), J C (KI C) μ 57 [(0, .ref (xad (cX C) 107)), (4, .int x4), (5, .int x5)] [] (L_X11_gapIfBuilt_57  n x4 x5 μ) := by
  intro n
  induction n with
  | zero => intros; exact J.no
  | succ n ih =>
    intro x4 x5 μ
    rw [L_X11_gapIfBuilt_57]
    refine J.iload (j := 2) hC eX11_gapIfBuilt_57 rfl ?_
    refine J.sipush hC eX11_gapIfBuilt_59 cs_1072 ?_
    refine J.icmp_ge hC eX11_gapIfBuilt_62 (fun _ => ?_) (fun _ => ?_)
    · refine J.iload (j := 1) hC eX11_gapIfBuilt_85 rfl ?_
      exact J.iret hC hr eX11_gapIfBuilt_87
    · refine J.aload_n (j := 0) hC eX11_gapIfBuilt_65 rfl ?_
      refine gf_X11_34 (q := 116) hC eX11_gapIfBuilt_66 kk_107 rfl ?_
      refine J.iload (j := 2) hC eX11_gapIfBuilt_69 rfl ?_
      refine J.aload_n (j := 0) hC eX11_gapIfBuilt_71 rfl ?_
      refine gf_X11_60 (q := 124) hC eX11_gapIfBuilt_72 kk_107 rfl ?_
      refine J.iload (j := 2) hC eX11_gapIfBuilt_75 rfl ?_
      refine J.iald ik_1072 hC eX11_gapIfBuilt_77 kk_124 ?_
      refine J.iast ik_1253 hC eX11_gapIfBuilt_78 kk_116 (fun μ_1 => ?_)
      refine J.iinc (j := 2) (fun x5_2 => [(5, .int x5_2), (0, .ref (xad (cX C) 107)), (4, .int x4)]) hC eX11_gapIfBuilt_79 rfl ci_1 (by decide) (fun _ => rfl) (fun x5_2 => ?_)
      refine J.goto hC eX11_gapIfBuilt_82 ?_
      refine J.sub [1, 2, 0] rfl ?_
      exact ih x4 x5_2 μ_1
def L_X11_gapIfBuilt_3 : Nat → Int32 → Int32 → Int32 → Int32 → Mem → Option (Int32 × Mem)
  | 0, _, _, _, _, _ => none
  | n + 1, x1, x2, x3, x4, μ => if (1072 : Int32) ≤ x4 then bd (G_X11_buildNow x1 x3 μ) (fun r_2 μ_1 => bd (G_X11_whereBy x1 x2 (2 : Int32) μ_1) (fun r_4 μ_3 => bd (G_X11_whereBy x1 x2 (1 : Int32) μ_3) (fun r_6 μ_5 => lb (r_4 - r_6) (fun x4_7 => L_X11_gapIfBuilt_57  100000 x4_7 (0 : Int32) μ_5)))) else gq (inB x4 1253) (gq (inB x4 1072) (lb (wI μ 124 (nx x4) (rI μ 116 (nx x4))) (fun μ_8 => lb (x4 + (1 : Int32)) (fun x4_9 => L_X11_gapIfBuilt_3  n x1 x2 x3 x4_9 μ_8))))
set_option maxHeartbeats 4000000 in
theorem j_X11_gapIfBuilt_3 {C : Cx} (hC : Ok C cX11_gapIfBuilt 6 RX11 (rmF 5 136)) (hr : (cT C).sig.returnType = (some .int)) : ∀ (n : Nat) (x1 : Int32) (x2 : Int32) (x3 : Int32) (x4 : Int32) (μ : Mem), J C (KI C) μ 3 [(0, .ref (xad (cX C) 107)), (1, .int x1), (2, .int x2), (3, .int x3), (4, .int x4)] [] (L_X11_gapIfBuilt_3  n x1 x2 x3 x4 μ) := by
  intro n
  induction n with
  | zero => intros; exact J.no
  | succ n ih =>
    intro x1 x2 x3 x4 μ
    rw [L_X11_gapIfBuilt_3]
    refine J.iload (j := 4) hC eX11_gapIfBuilt_3 rfl ?_
    refine J.sipush hC eX11_gapIfBuilt_5 cs_1072 ?_
    refine J.icmp_ge hC eX11_gapIfBuilt_8 (fun _ => ?_) (fun _ => ?_)
    · refine J.aload_n (j := 0) hC eX11_gapIfBuilt_31 rfl ?_
      refine J.iload_n (j := 1) hC eX11_gapIfBuilt_32 rfl ?_
      refine J.iload_n (j := 3) hC eX11_gapIfBuilt_33 rfl ?_
      refine J.callVV (st := []) hC eX11_gapIfBuilt_34 kk_107 (by decide) rfl rfl ml_X11_209 mv_X11_buildNow (Rle_of (Nat.le_of_ble_eq_true rfl) (Nat.le_of_ble_eq_true rfl)) (c_X11_buildNow hC.X x1 x3 μ) rfl rfl (Nat.le_of_ble_eq_true rfl) (fun r_2 μ_1 => ?_)
      refine J.aload_n (j := 0) hC eX11_gapIfBuilt_37 rfl ?_
      refine J.iload_n (j := 1) hC eX11_gapIfBuilt_38 rfl ?_
      refine J.iload_n (j := 2) hC eX11_gapIfBuilt_39 rfl ?_
      refine J.iconst hC eX11_gapIfBuilt_40 ci_2 ?_
      refine J.callVI (st := []) hC eX11_gapIfBuilt_41 kk_107 (by decide) rfl rfl ml_X11_362 mv_X11_whereBy (Rle_of (Nat.le_of_ble_eq_true rfl) (Nat.le_of_ble_eq_true rfl)) (c_X11_whereBy hC.X x1 x2 (2 : Int32) μ_1) rfl rfl (Nat.le_of_ble_eq_true rfl) (fun r_4 μ_3 => ?_)
      refine J.aload_n (j := 0) hC eX11_gapIfBuilt_44 rfl ?_
      refine J.iload_n (j := 1) hC eX11_gapIfBuilt_45 rfl ?_
      refine J.iload_n (j := 2) hC eX11_gapIfBuilt_46 rfl ?_
      refine J.iconst hC eX11_gapIfBuilt_47 ci_1 ?_
      refine J.callVI (st := [.int r_4]) hC eX11_gapIfBuilt_48 kk_107 (by decide) rfl rfl ml_X11_362 mv_X11_whereBy (Rle_of (Nat.le_of_ble_eq_true rfl) (Nat.le_of_ble_eq_true rfl)) (c_X11_whereBy hC.X x1 x2 (1 : Int32) μ_3) rfl rfl (Nat.le_of_ble_eq_true rfl) (fun r_6 μ_5 => ?_)
      refine J.isub hC eX11_gapIfBuilt_51 ?_
      refine J.topi (fun x4_7 => ?_)
      refine J.istore [(4, .int x4_7), (0, .ref (xad (cX C) 107)), (1, .int x1), (2, .int x2), (3, .int x3)] hC eX11_gapIfBuilt_52 (by decide) rfl ?_
      refine J.iconst hC eX11_gapIfBuilt_54 ci_0 ?_
      refine J.istore [(5, .int (0 : Int32)), (4, .int x4_7), (0, .ref (xad (cX C) 107)), (1, .int x1), (2, .int x2), (3, .int x3)] hC eX11_gapIfBuilt_55 (by decide) rfl ?_
      refine J.sub [2, 1, 0] rfl ?_
      exact j_X11_gapIfBuilt_57 hC hr  100000 x4_7 (0 : Int32) μ_5
    · refine J.aload_n (j := 0) hC eX11_gapIfBuilt_11 rfl ?_
      refine gf_X11_60 (q := 124) hC eX11_gapIfBuilt_12 kk_107 rfl ?_
      refine J.iload (j := 4) hC eX11_gapIfBuilt_15 rfl ?_
      refine J.aload_n (j := 0) hC eX11_gapIfBuilt_17 rfl ?_
      refine gf_X11_34 (q := 116) hC eX11_gapIfBuilt_18 kk_107 rfl ?_
      refine J.iload (j := 4) hC eX11_gapIfBuilt_21 rfl ?_
      refine J.iald ik_1253 hC eX11_gapIfBuilt_23 kk_116 ?_
      refine J.iast ik_1072 hC eX11_gapIfBuilt_24 kk_124 (fun μ_8 => ?_)
      refine J.iinc (j := 4) (fun x4_9 => [(4, .int x4_9), (0, .ref (xad (cX C) 107)), (1, .int x1), (2, .int x2), (3, .int x3)]) hC eX11_gapIfBuilt_25 rfl ci_1 (by decide) (fun _ => rfl) (fun x4_9 => ?_)
      refine J.goto hC eX11_gapIfBuilt_28 ?_
      refine J.sub [1, 2, 3, 4, 0] rfl ?_
      exact ih x1 x2 x3 x4_9 μ_8
def G_X11_gapIfBuilt (x1 : Int32) (x2 : Int32) (x3 : Int32) (μ : Mem) : Option (Int32 × Mem) :=
  L_X11_gapIfBuilt_3  100000 x1 x2 x3 (0 : Int32) μ
set_option maxHeartbeats 4000000 in
theorem c_X11_gapIfBuilt {X : Wd} (hX : WdOk X) (x1 : Int32) (x2 : Int32) (x3 : Int32) (μ : Mem) : CtI X yX11_gapIfBuilt cX11_gapIfBuilt 6 (some .int) (rmF 5 136) [.ref (xad X 107), .int x1, .int x2, .int x3] μ (G_X11_gapIfBuilt x1 x2 x3 μ) := by
  refine CtI.of hX (plainFor_of_name (by decide)) (by exact Nat.le_of_ble_eq_true rfl) ?_
  intro C hCX hC hr
  subst hCX
  show J C (KI C) μ 0 [(0, .ref (xad (cX C) 107)), (1, .int x1), (2, .int x2), (3, .int x3)] [] _
  unfold G_X11_gapIfBuilt
  refine J.iconst hC eX11_gapIfBuilt_0 ci_0 ?_
  refine J.istore [(4, .int (0 : Int32)), (0, .ref (xad (cX C) 107)), (1, .int x1), (2, .int x2), (3, .int x3)] hC eX11_gapIfBuilt_1 (by decide) rfl ?_
  refine J.sub [1, 2, 3, 4, 0] rfl ?_
  exact j_X11_gapIfBuilt_3 hC hr  100000 x1 x2 x3 (0 : Int32) μ
-- X11_narrow
theorem eX11_narrow_0 : DD cX11_narrow 0 (.aload_n 0) 1 1 := ⟨by decide +kernel, rfl⟩
theorem eX11_narrow_1 : DD cX11_narrow 1 (.iload_n 1) 1 2 := ⟨by decide +kernel, rfl⟩
theorem eX11_narrow_2 : DD cX11_narrow 2 (.invokevirtual 153) 3 5 := ⟨by decide +kernel, rfl⟩
theorem eX11_narrow_5 : DB cX11_narrow 5 (.ifCond .eq 21) (21) 8 26 := ⟨by decide +kernel, rfl, by decide⟩
theorem eX11_narrow_8 : DD cX11_narrow 8 (.aload_n 0) 1 9 := ⟨by decide +kernel, rfl⟩
theorem eX11_narrow_9 : DD cX11_narrow 9 (.iload_n 2) 1 10 := ⟨by decide +kernel, rfl⟩
theorem eX11_narrow_10 : DD cX11_narrow 10 (.invokevirtual 359) 3 13 := ⟨by decide +kernel, rfl⟩
theorem eX11_narrow_13 : DB cX11_narrow 13 (.ifCond .eq 13) (13) 16 26 := ⟨by decide +kernel, rfl, by decide⟩
theorem eX11_narrow_16 : DD cX11_narrow 16 (.iload_n 3) 1 17 := ⟨by decide +kernel, rfl⟩
theorem eX11_narrow_17 : DD cX11_narrow 17 (.i2l) 1 18 := ⟨by decide +kernel, rfl⟩
theorem eX11_narrow_18 : DD cX11_narrow 18 (.lconst 0) 1 19 := ⟨by decide +kernel, rfl⟩
theorem eX11_narrow_19 : DD cX11_narrow 19 (.lconst 1) 1 20 := ⟨by decide +kernel, rfl⟩
theorem eX11_narrow_20 : DD cX11_narrow 20 (.invokestatic 77) 3 23 := ⟨by decide +kernel, rfl⟩
theorem eX11_narrow_23 : DB cX11_narrow 23 (.ifCond .ne 6) (6) 26 29 := ⟨by decide +kernel, rfl, by decide⟩
theorem eX11_narrow_26 : DD cX11_narrow 26 (.ldc 245) 2 28 := ⟨by decide +kernel, rfl⟩
theorem eX11_narrow_28 : DD cX11_narrow 28 (.ireturn) 1 29 := ⟨by decide +kernel, rfl⟩
theorem eX11_narrow_29 : DD cX11_narrow 29 (.aload_n 0) 1 30 := ⟨by decide +kernel, rfl⟩
theorem eX11_narrow_30 : DD cX11_narrow 30 (.iload_n 1) 1 31 := ⟨by decide +kernel, rfl⟩
theorem eX11_narrow_31 : DD cX11_narrow 31 (.iload_n 2) 1 32 := ⟨by decide +kernel, rfl⟩
theorem eX11_narrow_32 : DD cX11_narrow 32 (.iconst 2) 1 33 := ⟨by decide +kernel, rfl⟩
theorem eX11_narrow_33 : DD cX11_narrow 33 (.invokevirtual 362) 3 36 := ⟨by decide +kernel, rfl⟩
theorem eX11_narrow_36 : DD cX11_narrow 36 (.aload_n 0) 1 37 := ⟨by decide +kernel, rfl⟩
theorem eX11_narrow_37 : DD cX11_narrow 37 (.iload_n 1) 1 38 := ⟨by decide +kernel, rfl⟩
theorem eX11_narrow_38 : DD cX11_narrow 38 (.iload_n 2) 1 39 := ⟨by decide +kernel, rfl⟩
theorem eX11_narrow_39 : DD cX11_narrow 39 (.iconst 1) 1 40 := ⟨by decide +kernel, rfl⟩
theorem eX11_narrow_40 : DD cX11_narrow 40 (.invokevirtual 362) 3 43 := ⟨by decide +kernel, rfl⟩
theorem eX11_narrow_43 : DD cX11_narrow 43 (.isub) 1 44 := ⟨by decide +kernel, rfl⟩
theorem eX11_narrow_44 : DD cX11_narrow 44 (.istore 4) 2 46 := ⟨by decide +kernel, rfl⟩
theorem eX11_narrow_46 : DD cX11_narrow 46 (.iconst (-1)) 1 47 := ⟨by decide +kernel, rfl⟩
theorem eX11_narrow_47 : DD cX11_narrow 47 (.istore 5) 2 49 := ⟨by decide +kernel, rfl⟩
theorem eX11_narrow_49 : DD cX11_narrow 49 (.iload 4) 2 51 := ⟨by decide +kernel, rfl⟩
theorem eX11_narrow_51 : DD cX11_narrow 51 (.istore 6) 2 53 := ⟨by decide +kernel, rfl⟩
theorem eX11_narrow_53 : DD cX11_narrow 53 (.iconst 0) 1 54 := ⟨by decide +kernel, rfl⟩
theorem eX11_narrow_54 : DD cX11_narrow 54 (.istore 7) 2 56 := ⟨by decide +kernel, rfl⟩
theorem eX11_narrow_56 : DD cX11_narrow 56 (.iload 7) 2 58 := ⟨by decide +kernel, rfl⟩
theorem eX11_narrow_58 : DD cX11_narrow 58 (.iconst 2) 1 59 := ⟨by decide +kernel, rfl⟩
theorem eX11_narrow_59 : DB cX11_narrow 59 (.if_icmp .ge 34) (34) 62 93 := ⟨by decide +kernel, rfl, by decide⟩
theorem eX11_narrow_62 : DD cX11_narrow 62 (.aload_n 0) 1 63 := ⟨by decide +kernel, rfl⟩
theorem eX11_narrow_63 : DD cX11_narrow 63 (.iload_n 1) 1 64 := ⟨by decide +kernel, rfl⟩
theorem eX11_narrow_64 : DD cX11_narrow 64 (.iload_n 2) 1 65 := ⟨by decide +kernel, rfl⟩
theorem eX11_narrow_65 : DD cX11_narrow 65 (.iload 7) 2 67 := ⟨by decide +kernel, rfl⟩
theorem eX11_narrow_67 : DD cX11_narrow 67 (.invokevirtual 400) 3 70 := ⟨by decide +kernel, rfl⟩
theorem eX11_narrow_70 : DD cX11_narrow 70 (.istore 8) 2 72 := ⟨by decide +kernel, rfl⟩
theorem eX11_narrow_72 : DD cX11_narrow 72 (.iload 8) 2 74 := ⟨by decide +kernel, rfl⟩
theorem eX11_narrow_74 : DD cX11_narrow 74 (.iload 6) 2 76 := ⟨by decide +kernel, rfl⟩
theorem eX11_narrow_76 : DB cX11_narrow 76 (.if_icmp .ge 11) (11) 79 87 := ⟨by decide +kernel, rfl, by decide⟩
theorem eX11_narrow_79 : DD cX11_narrow 79 (.iload 7) 2 81 := ⟨by decide +kernel, rfl⟩
theorem eX11_narrow_81 : DD cX11_narrow 81 (.istore 5) 2 83 := ⟨by decide +kernel, rfl⟩
theorem eX11_narrow_83 : DD cX11_narrow 83 (.iload 8) 2 85 := ⟨by decide +kernel, rfl⟩
theorem eX11_narrow_85 : DD cX11_narrow 85 (.istore 6) 2 87 := ⟨by decide +kernel, rfl⟩
theorem eX11_narrow_87 : DD cX11_narrow 87 (.iinc 7 1) 3 90 := ⟨by decide +kernel, rfl⟩
theorem eX11_narrow_90 : DB cX11_narrow 90 (.goto (-34)) (-34) 93 56 := ⟨by decide +kernel, rfl, by decide⟩
theorem eX11_narrow_93 : DD cX11_narrow 93 (.iload_n 3) 1 94 := ⟨by decide +kernel, rfl⟩
theorem eX11_narrow_94 : DB cX11_narrow 94 (.ifCond .ne 8) (8) 97 102 := ⟨by decide +kernel, rfl, by decide⟩
theorem eX11_narrow_97 : DD cX11_narrow 97 (.iload 5) 2 99 := ⟨by decide +kernel, rfl⟩
theorem eX11_narrow_99 : DB cX11_narrow 99 (.goto 8) (8) 102 107 := ⟨by decide +kernel, rfl, by decide⟩
theorem eX11_narrow_102 : DD cX11_narrow 102 (.iload 4) 2 104 := ⟨by decide +kernel, rfl⟩
theorem eX11_narrow_104 : DD cX11_narrow 104 (.iload 6) 2 106 := ⟨by decide +kernel, rfl⟩
theorem eX11_narrow_106 : DD cX11_narrow 106 (.isub) 1 107 := ⟨by decide +kernel, rfl⟩
theorem eX11_narrow_107 : DD cX11_narrow 107 (.ireturn) 1 108 := ⟨by decide +kernel, rfl⟩
def F_X11_narrow_87 (kc_56 : Int32 → Int32 → Int32 → Int32 → Int32 → Int32 → Int32 → Mem → Option (Int32 × Mem)) (x1 : Int32) (x2 : Int32) (x3 : Int32) (x4 : Int32) (x5 : Int32) (x6 : Int32) (x7 : Int32) (μ : Mem) : Option (Int32 × Mem) :=
  lb (x7 + (1 : Int32)) (fun x7_1 => kc_56 x1 x2 x3 x4 x5 x6 x7_1 μ)
set_option maxHeartbeats 4000000 in
theorem j_X11_narrow_87 {C : Cx} (hC : Ok C cX11_narrow 9 RX11 (rmF 6 161)) (hr : (cT C).sig.returnType = (some .int)) (kc_56 : Int32 → Int32 → Int32 → Int32 → Int32 → Int32 → Int32 → Mem → Option (Int32 × Mem)) (hk_56 : ∀ (x1 : Int32) (x2 : Int32) (x3 : Int32) (x4 : Int32) (x5 : Int32) (x6 : Int32) (x7 : Int32) (μ : Mem), J C (KI C) μ 56 [(0, .ref (xad (cX C) 107)), (1, .int x1), (2, .int x2), (3, .int x3), (4, .int x4), (5, .int x5), (6, .int x6), (7, .int x7)] [] (kc_56 x1 x2 x3 x4 x5 x6 x7 μ)) (x1 : Int32) (x2 : Int32) (x3 : Int32) (x4 : Int32) (x5 : Int32) (x6 : Int32) (x7 : Int32) (μ : Mem) : J C (KI C) μ 87 [(0, .ref (xad (cX C) 107)), (1, .int x1), (2, .int x2), (3, .int x3), (4, .int x4), (5, .int x5), (6, .int x6), (7, .int x7)] [] (F_X11_narrow_87 kc_56 x1 x2 x3 x4 x5 x6 x7 μ) := by
  unfold F_X11_narrow_87
  refine J.iinc (j := 7) (fun x7_1 => [(7, .int x7_1), (0, .ref (xad (cX C) 107)), (1, .int x1), (2, .int x2), (3, .int x3), (4, .int x4), (5, .int x5), (6, .int x6)]) hC eX11_narrow_87 rfl ci_1 (by decide) (fun _ => rfl) (fun x7_1 => ?_)
  refine J.goto hC eX11_narrow_90 ?_
  refine J.sub [1, 2, 3, 4, 5, 6, 7, 0] rfl ?_
  exact hk_56 x1 x2 x3 x4 x5 x6 x7_1 μ
def L_X11_narrow_56 : Nat → Int32 → Int32 → Int32 → Int32 → Int32 → Int32 → Int32 → Mem → Option (Int32 × Mem)
  | 0, _, _, _, _, _, _, _, _ => none
  | n + 1, x1, x2, x3, x4, x5, x6, x7, μ => if (2 : Int32) ≤ x7 then if x3 = 0 then some (x5, μ) else some (x4 - x6, μ) else bd (G_X11_gapIfBuilt x1 x2 x7 μ) (fun r_2 μ_1 => if x6 ≤ r_2 then F_X11_narrow_87 (L_X11_narrow_56  n) x1 x2 x3 x4 x5 x6 x7 μ_1 else F_X11_narrow_87 (L_X11_narrow_56  n) x1 x2 x3 x4 x7 r_2 x7 μ_1)
set_option maxHeartbeats 4000000 in
theorem j_X11_narrow_56 {C : Cx} (hC : Ok C cX11_narrow 9 RX11 (rmF 6 161)) (hr : (cT C).sig.returnType = (some .int)) : ∀ (n : Nat) (x1 : Int32) (x2 : Int32) (x3 : Int32) (x4 : Int32) (x5 : Int32) (x6 : Int32) (x7 : Int32) (μ : Mem), J C (KI C) μ 56 [(0, .ref (xad (cX C) 107)), (1, .int x1), (2, .int x2), (3, .int x3), (4, .int x4), (5, .int x5), (6, .int x6), (7, .int x7)] [] (L_X11_narrow_56  n x1 x2 x3 x4 x5 x6 x7 μ) := by
  intro n
  induction n with
  | zero => intros; exact J.no
  | succ n ih =>
    intro x1 x2 x3 x4 x5 x6 x7 μ
    rw [L_X11_narrow_56]
    refine J.iload (j := 7) hC eX11_narrow_56 rfl ?_
    refine J.iconst hC eX11_narrow_58 ci_2 ?_
    refine J.icmp_ge hC eX11_narrow_59 (fun _ => ?_) (fun _ => ?_)
    · refine J.iload_n (j := 3) hC eX11_narrow_93 rfl ?_
      refine J.if_ne hC eX11_narrow_94 (fun _ => ?_) (fun _ => ?_)
      · refine J.iload (j := 5) hC eX11_narrow_97 rfl ?_
        refine J.goto hC eX11_narrow_99 ?_
        exact J.iret hC hr eX11_narrow_107
      · refine J.iload (j := 4) hC eX11_narrow_102 rfl ?_
        refine J.iload (j := 6) hC eX11_narrow_104 rfl ?_
        refine J.isub hC eX11_narrow_106 ?_
        exact J.iret hC hr eX11_narrow_107
    · refine J.aload_n (j := 0) hC eX11_narrow_62 rfl ?_
      refine J.iload_n (j := 1) hC eX11_narrow_63 rfl ?_
      refine J.iload_n (j := 2) hC eX11_narrow_64 rfl ?_
      refine J.iload (j := 7) hC eX11_narrow_65 rfl ?_
      refine J.callVI (st := []) hC eX11_narrow_67 kk_107 (by decide) rfl rfl ml_X11_400 mv_X11_gapIfBuilt (Rle_of (Nat.le_of_ble_eq_true rfl) (Nat.le_of_ble_eq_true rfl)) (c_X11_gapIfBuilt hC.X x1 x2 x7 μ) rfl rfl (Nat.le_of_ble_eq_true rfl) (fun r_2 μ_1 => ?_)
      refine J.istore [(8, .int r_2), (0, .ref (xad (cX C) 107)), (1, .int x1), (2, .int x2), (3, .int x3), (4, .int x4), (5, .int x5), (6, .int x6), (7, .int x7)] hC eX11_narrow_70 (by decide) rfl ?_
      refine J.iload (j := 0) hC eX11_narrow_72 rfl ?_
      refine J.iload (j := 7) hC eX11_narrow_74 rfl ?_
      refine J.icmp_ge hC eX11_narrow_76 (fun _ => ?_) (fun _ => ?_)
      · refine J.sub [1, 2, 3, 4, 5, 6, 7, 8] rfl ?_
        exact j_X11_narrow_87 hC hr (L_X11_narrow_56  n) ih x1 x2 x3 x4 x5 x6 x7 μ_1
      · refine J.iload (j := 8) hC eX11_narrow_79 rfl ?_
        refine J.istore [(5, .int x7), (8, .int r_2), (0, .ref (xad (cX C) 107)), (1, .int x1), (2, .int x2), (3, .int x3), (4, .int x4), (6, .int x6), (7, .int x7)] hC eX11_narrow_81 (by decide) rfl ?_
        refine J.iload (j := 1) hC eX11_narrow_83 rfl ?_
        refine J.istore [(6, .int r_2), (5, .int x7), (8, .int r_2), (0, .ref (xad (cX C) 107)), (1, .int x1), (2, .int x2), (3, .int x3), (4, .int x4), (7, .int x7)] hC eX11_narrow_85 (by decide) rfl ?_
        refine J.sub [3, 4, 5, 6, 7, 1, 0, 8] rfl ?_
        exact j_X11_narrow_87 hC hr (L_X11_narrow_56  n) ih x1 x2 x3 x4 x7 r_2 x7 μ_1
def G_X11_narrow (x1 : Int32) (x2 : Int32) (x3 : Int32) (μ : Mem) : Option (Int32 × Mem) :=
  bd (G_X11_isTable x1 μ) (fun r_2 μ_1 => if r_2 = 0 then some ((-1000000 : Int32), μ_1) else bd (G_X11_isWhere x2 μ_1) (fun r_4 μ_3 => if r_4 = 0 then some ((-1000000 : Int32), μ_3) else bd (G_X11_in x3.toInt64 (0 : Int64) (1 : Int64) μ_3) (fun r_6 μ_5 => if r_6 = 0 then some ((-1000000 : Int32), μ_5) else bd (G_X11_whereBy x1 x2 (2 : Int32) μ_5) (fun r_8 μ_7 => bd (G_X11_whereBy x1 x2 (1 : Int32) μ_7) (fun r_10 μ_9 => lb (r_8 - r_10) (fun x4_11 => L_X11_narrow_56  100000 x1 x2 x3 x4_11 (-1 : Int32) x4_11 (0 : Int32) μ_9))))))
set_option maxHeartbeats 4000000 in
theorem c_X11_narrow {X : Wd} (hX : WdOk X) (x1 : Int32) (x2 : Int32) (x3 : Int32) (μ : Mem) : CtI X yX11_narrow cX11_narrow 9 (some .int) (rmF 6 161) [.ref (xad X 107), .int x1, .int x2, .int x3] μ (G_X11_narrow x1 x2 x3 μ) := by
  refine CtI.of hX (plainFor_of_name (by decide)) (by exact Nat.le_of_ble_eq_true rfl) ?_
  intro C hCX hC hr
  subst hCX
  show J C (KI C) μ 0 [(0, .ref (xad (cX C) 107)), (1, .int x1), (2, .int x2), (3, .int x3)] [] _
  unfold G_X11_narrow
  refine J.aload_n (j := 0) hC eX11_narrow_0 rfl ?_
  refine J.iload_n (j := 1) hC eX11_narrow_1 rfl ?_
  refine J.callVI (st := []) hC eX11_narrow_2 kk_107 (by decide) rfl rfl ml_X11_153 mv_X11_isTable (Rle_of (Nat.le_of_ble_eq_true rfl) (Nat.le_of_ble_eq_true rfl)) (c_X11_isTable hC.X x1 μ) rfl rfl (Nat.le_of_ble_eq_true rfl) (fun r_2 μ_1 => ?_)
  refine J.if_eq hC eX11_narrow_5 (fun _ => ?_) (fun _ => ?_)
  · refine J.ldc hC eX11_narrow_26 mk_X11_245 ?_
    exact J.iret hC hr eX11_narrow_28
  · refine J.aload_n (j := 0) hC eX11_narrow_8 rfl ?_
    refine J.iload_n (j := 2) hC eX11_narrow_9 rfl ?_
    refine J.callVI (st := []) hC eX11_narrow_10 kk_107 (by decide) rfl rfl ml_X11_359 mv_X11_isWhere (Rle_of (Nat.le_of_ble_eq_true rfl) (Nat.le_of_ble_eq_true rfl)) (c_X11_isWhere hC.X x2 μ_1) rfl rfl (Nat.le_of_ble_eq_true rfl) (fun r_4 μ_3 => ?_)
    refine J.if_eq hC eX11_narrow_13 (fun _ => ?_) (fun _ => ?_)
    · refine J.ldc hC eX11_narrow_26 mk_X11_245 ?_
      exact J.iret hC hr eX11_narrow_28
    · refine J.iload_n (j := 3) hC eX11_narrow_16 rfl ?_
      refine J.i2l hC eX11_narrow_17 ?_
      refine J.lconst hC eX11_narrow_18 cl_0 ?_
      refine J.lconst hC eX11_narrow_19 cl_1 ?_
      refine J.callSI (st := []) hC eX11_narrow_20 ml_X11_77 mv_X11_in (Rle_of (Nat.le_of_ble_eq_true rfl) (Nat.le_of_ble_eq_true rfl)) (c_X11_in hC.X x3.toInt64 (0 : Int64) (1 : Int64) μ_3) rfl rfl (Nat.le_of_ble_eq_true rfl) (fun r_6 μ_5 => ?_)
      refine J.if_ne hC eX11_narrow_23 (fun _ => ?_) (fun _ => ?_)
      · refine J.ldc hC eX11_narrow_26 mk_X11_245 ?_
        exact J.iret hC hr eX11_narrow_28
      · refine J.aload_n (j := 0) hC eX11_narrow_29 rfl ?_
        refine J.iload_n (j := 1) hC eX11_narrow_30 rfl ?_
        refine J.iload_n (j := 2) hC eX11_narrow_31 rfl ?_
        refine J.iconst hC eX11_narrow_32 ci_2 ?_
        refine J.callVI (st := []) hC eX11_narrow_33 kk_107 (by decide) rfl rfl ml_X11_362 mv_X11_whereBy (Rle_of (Nat.le_of_ble_eq_true rfl) (Nat.le_of_ble_eq_true rfl)) (c_X11_whereBy hC.X x1 x2 (2 : Int32) μ_5) rfl rfl (Nat.le_of_ble_eq_true rfl) (fun r_8 μ_7 => ?_)
        refine J.aload_n (j := 0) hC eX11_narrow_36 rfl ?_
        refine J.iload_n (j := 1) hC eX11_narrow_37 rfl ?_
        refine J.iload_n (j := 2) hC eX11_narrow_38 rfl ?_
        refine J.iconst hC eX11_narrow_39 ci_1 ?_
        refine J.callVI (st := [.int r_8]) hC eX11_narrow_40 kk_107 (by decide) rfl rfl ml_X11_362 mv_X11_whereBy (Rle_of (Nat.le_of_ble_eq_true rfl) (Nat.le_of_ble_eq_true rfl)) (c_X11_whereBy hC.X x1 x2 (1 : Int32) μ_7) rfl rfl (Nat.le_of_ble_eq_true rfl) (fun r_10 μ_9 => ?_)
        refine J.isub hC eX11_narrow_43 ?_
        refine J.topi (fun x4_11 => ?_)
        refine J.istore [(4, .int x4_11), (0, .ref (xad (cX C) 107)), (1, .int x1), (2, .int x2), (3, .int x3)] hC eX11_narrow_44 (by decide) rfl ?_
        refine J.iconst hC eX11_narrow_46 ci_m1 ?_
        refine J.istore [(5, .int (-1 : Int32)), (4, .int x4_11), (0, .ref (xad (cX C) 107)), (1, .int x1), (2, .int x2), (3, .int x3)] hC eX11_narrow_47 (by decide) rfl ?_
        refine J.iload (j := 1) hC eX11_narrow_49 rfl ?_
        refine J.istore [(6, .int x4_11), (5, .int (-1 : Int32)), (4, .int x4_11), (0, .ref (xad (cX C) 107)), (1, .int x1), (2, .int x2), (3, .int x3)] hC eX11_narrow_51 (by decide) rfl ?_
        refine J.iconst hC eX11_narrow_53 ci_0 ?_
        refine J.istore [(7, .int (0 : Int32)), (6, .int x4_11), (5, .int (-1 : Int32)), (4, .int x4_11), (0, .ref (xad (cX C) 107)), (1, .int x1), (2, .int x2), (3, .int x3)] hC eX11_narrow_54 (by decide) rfl ?_
        refine J.sub [4, 5, 6, 7, 3, 2, 1, 0] rfl ?_
        exact j_X11_narrow_56 hC hr  100000 x1 x2 x3 x4_11 (-1 : Int32) x4_11 (0 : Int32) μ_9
-- X11_odds
theorem eX11_odds_0 : DD cX11_odds 0 (.aload_n 0) 1 1 := ⟨by decide +kernel, rfl⟩
theorem eX11_odds_1 : DD cX11_odds 1 (.iload_n 1) 1 2 := ⟨by decide +kernel, rfl⟩
theorem eX11_odds_2 : DD cX11_odds 2 (.invokevirtual 153) 3 5 := ⟨by decide +kernel, rfl⟩
theorem eX11_odds_5 : DB cX11_odds 5 (.ifCond .eq 43) (43) 8 48 := ⟨by decide +kernel, rfl, by decide⟩
theorem eX11_odds_8 : DD cX11_odds 8 (.aload_n 0) 1 9 := ⟨by decide +kernel, rfl⟩
theorem eX11_odds_9 : DD cX11_odds 9 (.iload_n 2) 1 10 := ⟨by decide +kernel, rfl⟩
theorem eX11_odds_10 : DD cX11_odds 10 (.invokevirtual 359) 3 13 := ⟨by decide +kernel, rfl⟩
theorem eX11_odds_13 : DB cX11_odds 13 (.ifCond .eq 35) (35) 16 48 := ⟨by decide +kernel, rfl, by decide⟩
theorem eX11_odds_16 : DD cX11_odds 16 (.iload_n 3) 1 17 := ⟨by decide +kernel, rfl⟩
theorem eX11_odds_17 : DD cX11_odds 17 (.i2l) 1 18 := ⟨by decide +kernel, rfl⟩
theorem eX11_odds_18 : DD cX11_odds 18 (.lconst 1) 1 19 := ⟨by decide +kernel, rfl⟩
theorem eX11_odds_19 : DD cX11_odds 19 (.ldc2_w 321) 3 22 := ⟨by decide +kernel, rfl⟩
theorem eX11_odds_22 : DD cX11_odds 22 (.invokestatic 77) 3 25 := ⟨by decide +kernel, rfl⟩
theorem eX11_odds_25 : DB cX11_odds 25 (.ifCond .eq 23) (23) 28 48 := ⟨by decide +kernel, rfl, by decide⟩
theorem eX11_odds_28 : DD cX11_odds 28 (.iload 4) 2 30 := ⟨by decide +kernel, rfl⟩
theorem eX11_odds_30 : DD cX11_odds 30 (.i2l) 1 31 := ⟨by decide +kernel, rfl⟩
theorem eX11_odds_31 : DD cX11_odds 31 (.lconst 0) 1 32 := ⟨by decide +kernel, rfl⟩
theorem eX11_odds_32 : DD cX11_odds 32 (.lconst 1) 1 33 := ⟨by decide +kernel, rfl⟩
theorem eX11_odds_33 : DD cX11_odds 33 (.invokestatic 77) 3 36 := ⟨by decide +kernel, rfl⟩
theorem eX11_odds_36 : DB cX11_odds 36 (.ifCond .eq 12) (12) 39 48 := ⟨by decide +kernel, rfl, by decide⟩
theorem eX11_odds_39 : DD cX11_odds 39 (.aload_n 0) 1 40 := ⟨by decide +kernel, rfl⟩
theorem eX11_odds_40 : DD cX11_odds 40 (.iload_n 1) 1 41 := ⟨by decide +kernel, rfl⟩
theorem eX11_odds_41 : DD cX11_odds 41 (.invokevirtual 161) 3 44 := ⟨by decide +kernel, rfl⟩
theorem eX11_odds_44 : DD cX11_odds 44 (.iload_n 3) 1 45 := ⟨by decide +kernel, rfl⟩
theorem eX11_odds_45 : DB cX11_odds 45 (.if_icmp .ge 7) (7) 48 52 := ⟨by decide +kernel, rfl, by decide⟩
theorem eX11_odds_48 : DD cX11_odds 48 (.ldc2_w 156) 3 51 := ⟨by decide +kernel, rfl⟩
theorem eX11_odds_51 : DD cX11_odds 51 (.lreturn) 1 52 := ⟨by decide +kernel, rfl⟩
theorem eX11_odds_52 : DD cX11_odds 52 (.lconst 1) 1 53 := ⟨by decide +kernel, rfl⟩
theorem eX11_odds_53 : DD cX11_odds 53 (.lstore 5) 2 55 := ⟨by decide +kernel, rfl⟩
theorem eX11_odds_55 : DD cX11_odds 55 (.lconst 1) 1 56 := ⟨by decide +kernel, rfl⟩
theorem eX11_odds_56 : DD cX11_odds 56 (.lstore 7) 2 58 := ⟨by decide +kernel, rfl⟩
theorem eX11_odds_58 : DD cX11_odds 58 (.iconst 0) 1 59 := ⟨by decide +kernel, rfl⟩
theorem eX11_odds_59 : DD cX11_odds 59 (.istore 9) 2 61 := ⟨by decide +kernel, rfl⟩
theorem eX11_odds_61 : DD cX11_odds 61 (.iload 9) 2 63 := ⟨by decide +kernel, rfl⟩
theorem eX11_odds_63 : DD cX11_odds 63 (.iload_n 3) 1 64 := ⟨by decide +kernel, rfl⟩
theorem eX11_odds_64 : DB cX11_odds 64 (.if_icmp .ge 43) (43) 67 107 := ⟨by decide +kernel, rfl, by decide⟩
theorem eX11_odds_67 : DD cX11_odds 67 (.lload 5) 2 69 := ⟨by decide +kernel, rfl⟩
theorem eX11_odds_69 : DD cX11_odds 69 (.iconst 0) 1 70 := ⟨by decide +kernel, rfl⟩
theorem eX11_odds_70 : DD cX11_odds 70 (.aload_n 0) 1 71 := ⟨by decide +kernel, rfl⟩
theorem eX11_odds_71 : DD cX11_odds 71 (.iload_n 1) 1 72 := ⟨by decide +kernel, rfl⟩
theorem eX11_odds_72 : DD cX11_odds 72 (.iload_n 2) 1 73 := ⟨by decide +kernel, rfl⟩
theorem eX11_odds_73 : DD cX11_odds 73 (.iconst 0) 1 74 := ⟨by decide +kernel, rfl⟩
theorem eX11_odds_74 : DD cX11_odds 74 (.invokevirtual 368) 3 77 := ⟨by decide +kernel, rfl⟩
theorem eX11_odds_77 : DD cX11_odds 77 (.iload 9) 2 79 := ⟨by decide +kernel, rfl⟩
theorem eX11_odds_79 : DD cX11_odds 79 (.isub) 1 80 := ⟨by decide +kernel, rfl⟩
theorem eX11_odds_80 : DD cX11_odds 80 (.invokestatic 202) 3 83 := ⟨by decide +kernel, rfl⟩
theorem eX11_odds_83 : DD cX11_odds 83 (.i2l) 1 84 := ⟨by decide +kernel, rfl⟩
theorem eX11_odds_84 : DD cX11_odds 84 (.lmul) 1 85 := ⟨by decide +kernel, rfl⟩
theorem eX11_odds_85 : DD cX11_odds 85 (.lstore 5) 2 87 := ⟨by decide +kernel, rfl⟩
theorem eX11_odds_87 : DD cX11_odds 87 (.lload 7) 2 89 := ⟨by decide +kernel, rfl⟩
theorem eX11_odds_89 : DD cX11_odds 89 (.aload_n 0) 1 90 := ⟨by decide +kernel, rfl⟩
theorem eX11_odds_90 : DD cX11_odds 90 (.iload_n 1) 1 91 := ⟨by decide +kernel, rfl⟩
theorem eX11_odds_91 : DD cX11_odds 91 (.invokevirtual 161) 3 94 := ⟨by decide +kernel, rfl⟩
theorem eX11_odds_94 : DD cX11_odds 94 (.iload 9) 2 96 := ⟨by decide +kernel, rfl⟩
theorem eX11_odds_96 : DD cX11_odds 96 (.isub) 1 97 := ⟨by decide +kernel, rfl⟩
theorem eX11_odds_97 : DD cX11_odds 97 (.i2l) 1 98 := ⟨by decide +kernel, rfl⟩
theorem eX11_odds_98 : DD cX11_odds 98 (.lmul) 1 99 := ⟨by decide +kernel, rfl⟩
theorem eX11_odds_99 : DD cX11_odds 99 (.lstore 7) 2 101 := ⟨by decide +kernel, rfl⟩
theorem eX11_odds_101 : DD cX11_odds 101 (.iinc 9 1) 3 104 := ⟨by decide +kernel, rfl⟩
theorem eX11_odds_104 : DB cX11_odds 104 (.goto (-43)) (-43) 107 61 := ⟨by decide +kernel, rfl, by decide⟩
theorem eX11_odds_107 : DD cX11_odds 107 (.lload 7) 2 109 := ⟨by decide +kernel, rfl⟩
theorem eX11_odds_109 : DD cX11_odds 109 (.lstore 9) 2 111 := ⟨by decide +kernel, rfl⟩
theorem eX11_odds_111 : DD cX11_odds 111 (.lload 5) 2 113 := ⟨by decide +kernel, rfl⟩
theorem eX11_odds_113 : DD cX11_odds 113 (.lstore 11) 2 115 := ⟨by decide +kernel, rfl⟩
theorem eX11_odds_115 : DD cX11_odds 115 (.lload 11) 2 117 := ⟨by decide +kernel, rfl⟩
theorem eX11_odds_117 : DD cX11_odds 117 (.lconst 0) 1 118 := ⟨by decide +kernel, rfl⟩
theorem eX11_odds_118 : DD cX11_odds 118 (.lcmp) 1 119 := ⟨by decide +kernel, rfl⟩
theorem eX11_odds_119 : DB cX11_odds 119 (.ifCond .eq 21) (21) 122 140 := ⟨by decide +kernel, rfl, by decide⟩
theorem eX11_odds_122 : DD cX11_odds 122 (.lload 9) 2 124 := ⟨by decide +kernel, rfl⟩
theorem eX11_odds_124 : DD cX11_odds 124 (.lload 11) 2 126 := ⟨by decide +kernel, rfl⟩
theorem eX11_odds_126 : DD cX11_odds 126 (.lrem) 1 127 := ⟨by decide +kernel, rfl⟩
theorem eX11_odds_127 : DD cX11_odds 127 (.lstore 13) 2 129 := ⟨by decide +kernel, rfl⟩
theorem eX11_odds_129 : DD cX11_odds 129 (.lload 11) 2 131 := ⟨by decide +kernel, rfl⟩
theorem eX11_odds_131 : DD cX11_odds 131 (.lstore 9) 2 133 := ⟨by decide +kernel, rfl⟩
theorem eX11_odds_133 : DD cX11_odds 133 (.lload 13) 2 135 := ⟨by decide +kernel, rfl⟩
theorem eX11_odds_135 : DD cX11_odds 135 (.lstore 11) 2 137 := ⟨by decide +kernel, rfl⟩
theorem eX11_odds_137 : DB cX11_odds 137 (.goto (-22)) (-22) 140 115 := ⟨by decide +kernel, rfl, by decide⟩
theorem eX11_odds_140 : DD cX11_odds 140 (.iload 4) 2 142 := ⟨by decide +kernel, rfl⟩
theorem eX11_odds_142 : DB cX11_odds 142 (.ifCond .ne 11) (11) 145 153 := ⟨by decide +kernel, rfl, by decide⟩
theorem eX11_odds_145 : DD cX11_odds 145 (.lload 5) 2 147 := ⟨by decide +kernel, rfl⟩
theorem eX11_odds_147 : DD cX11_odds 147 (.lload 9) 2 149 := ⟨by decide +kernel, rfl⟩
theorem eX11_odds_149 : DD cX11_odds 149 (.ldiv) 1 150 := ⟨by decide +kernel, rfl⟩
theorem eX11_odds_150 : DB cX11_odds 150 (.goto 8) (8) 153 158 := ⟨by decide +kernel, rfl, by decide⟩
theorem eX11_odds_153 : DD cX11_odds 153 (.lload 7) 2 155 := ⟨by decide +kernel, rfl⟩
theorem eX11_odds_155 : DD cX11_odds 155 (.lload 9) 2 157 := ⟨by decide +kernel, rfl⟩
theorem eX11_odds_157 : DD cX11_odds 157 (.ldiv) 1 158 := ⟨by decide +kernel, rfl⟩
theorem eX11_odds_158 : DD cX11_odds 158 (.lreturn) 1 159 := ⟨by decide +kernel, rfl⟩
def L_X11_odds_115 : Nat → Int32 → Int64 → Int64 → Int64 → Int64 → Mem → Option (Int64 × Mem)
  | 0, _, _, _, _, _, _ => none
  | n + 1, x4, l5, l7, l9, l11, μ => if (lg_cmp l11 (0 : Int64)) = 0 then if x4 = 0 then gq (decide (¬ l9 = 0)) (some (l5 / l9, μ)) else gq (decide (¬ l9 = 0)) (some (l7 / l9, μ)) else gq (decide (¬ l11 = 0)) (lb (l9 - l9 / l11 * l11) (fun l13_1 => L_X11_odds_115  n x4 l5 l7 l11 l13_1 μ))
set_option maxHeartbeats 4000000 in
theorem j_X11_odds_115 {C : Cx} (hC : Ok C cX11_odds 15 RX11 (rmF 5 125)) (hr : (cT C).sig.returnType = (some .long)) : ∀ (n : Nat) (x4 : Int32) (l5 : Int64) (l7 : Int64) (l9 : Int64) (l11 : Int64) (μ : Mem), J C (KL C) μ 115 [(4, .int x4), (5, .long l5), (7, .long l7), (9, .long l9), (11, .long l11)] [] (L_X11_odds_115  n x4 l5 l7 l9 l11 μ) := by
  intro n
  induction n with
  | zero => intros; exact J.no
  | succ n ih =>
    intro x4 l5 l7 l9 l11 μ
    rw [L_X11_odds_115]
    refine J.lload (j := 4) hC eX11_odds_115 rfl ?_
    refine J.lconst hC eX11_odds_117 cl_0 ?_
    refine J.lcmp hC eX11_odds_118 ?_
    refine J.if_eq hC eX11_odds_119 (fun _ => ?_) (fun _ => ?_)
    · refine J.iload (j := 0) hC eX11_odds_140 rfl ?_
      refine J.if_ne hC eX11_odds_142 (fun _ => ?_) (fun _ => ?_)
      · refine J.lload (j := 1) hC eX11_odds_145 rfl ?_
        refine J.lload (j := 3) hC eX11_odds_147 rfl ?_
        refine J.ldiv hC eX11_odds_149 ?_
        refine J.goto hC eX11_odds_150 ?_
        exact J.lret hC hr eX11_odds_158
      · refine J.lload (j := 2) hC eX11_odds_153 rfl ?_
        refine J.lload (j := 3) hC eX11_odds_155 rfl ?_
        refine J.ldiv hC eX11_odds_157 ?_
        exact J.lret hC hr eX11_odds_158
    · refine J.lload (j := 3) hC eX11_odds_122 rfl ?_
      refine J.lload (j := 4) hC eX11_odds_124 rfl ?_
      refine J.lrem hC eX11_odds_126 ?_
      refine J.topl (fun l13_1 => ?_)
      refine J.lstore [(13, .long l13_1), (4, .int x4), (5, .long l5), (7, .long l7), (9, .long l9), (11, .long l11)] hC eX11_odds_127 (by decide) rfl ?_
      refine J.lload (j := 5) hC eX11_odds_129 rfl ?_
      refine J.lstore [(9, .long l11), (13, .long l13_1), (4, .int x4), (5, .long l5), (7, .long l7), (11, .long l11)] hC eX11_odds_131 (by decide) rfl ?_
      refine J.lload (j := 1) hC eX11_odds_133 rfl ?_
      refine J.lstore [(11, .long l13_1), (9, .long l11), (13, .long l13_1), (4, .int x4), (5, .long l5), (7, .long l7)] hC eX11_odds_135 (by decide) rfl ?_
      refine J.goto hC eX11_odds_137 ?_
      refine J.sub [3, 4, 5, 1, 0] rfl ?_
      exact ih x4 l5 l7 l11 l13_1 μ
def L_X11_odds_61 : Nat → Int32 → Int32 → Int32 → Int32 → Int64 → Int64 → Int32 → Mem → Option (Int64 × Mem)
  | 0, _, _, _, _, _, _, _, _ => none
  | n + 1, x1, x2, x3, x4, l5, l7, x9, μ => if x3 ≤ x9 then L_X11_odds_115  100000 x4 l5 l7 l7 l5 μ else bd (G_X11_truth x1 x2 (0 : Int32) μ) (fun r_2 μ_1 => lb (l5 * ((imax (0 : Int32) (r_2 - x9)).toInt64)) (fun l5_3 => bd (G_X11_rowsOf x1 μ_1) (fun r_5 μ_4 => lb (l7 * ((r_5 - x9).toInt64)) (fun l7_6 => lb (x9 + (1 : Int32)) (fun x9_7 => L_X11_odds_61  n x1 x2 x3 x4 l5_3 l7_6 x9_7 μ_4)))))
set_option maxHeartbeats 4000000 in
theorem j_X11_odds_61 {C : Cx} (hC : Ok C cX11_odds 15 RX11 (rmF 5 125)) (hr : (cT C).sig.returnType = (some .long)) : ∀ (n : Nat) (x1 : Int32) (x2 : Int32) (x3 : Int32) (x4 : Int32) (l5 : Int64) (l7 : Int64) (x9 : Int32) (μ : Mem), J C (KL C) μ 61 [(0, .ref (xad (cX C) 107)), (1, .int x1), (2, .int x2), (3, .int x3), (4, .int x4), (5, .long l5), (7, .long l7), (9, .int x9)] [] (L_X11_odds_61  n x1 x2 x3 x4 l5 l7 x9 μ) := by
  intro n
  induction n with
  | zero => intros; exact J.no
  | succ n ih =>
    intro x1 x2 x3 x4 l5 l7 x9 μ
    rw [L_X11_odds_61]
    refine J.iload (j := 7) hC eX11_odds_61 rfl ?_
    refine J.iload_n (j := 3) hC eX11_odds_63 rfl ?_
    refine J.icmp_ge hC eX11_odds_64 (fun _ => ?_) (fun _ => ?_)
    · refine J.lload (j := 6) hC eX11_odds_107 rfl ?_
      refine J.lstore [(9, .long l7), (0, .ref (xad (cX C) 107)), (1, .int x1), (2, .int x2), (3, .int x3), (4, .int x4), (5, .long l5), (7, .long l7)] hC eX11_odds_109 (by decide) rfl ?_
      refine J.lload (j := 6) hC eX11_odds_111 rfl ?_
      refine J.lstore [(11, .long l5), (9, .long l7), (0, .ref (xad (cX C) 107)), (1, .int x1), (2, .int x2), (3, .int x3), (4, .int x4), (5, .long l5), (7, .long l7)] hC eX11_odds_113 (by decide) rfl ?_
      refine J.sub [6, 7, 8, 1, 0] rfl ?_
      exact j_X11_odds_115 hC hr  100000 x4 l5 l7 l7 l5 μ
    · refine J.lload (j := 5) hC eX11_odds_67 rfl ?_
      refine J.iconst hC eX11_odds_69 ci_0 ?_
      refine J.aload_n (j := 0) hC eX11_odds_70 rfl ?_
      refine J.iload_n (j := 1) hC eX11_odds_71 rfl ?_
      refine J.iload_n (j := 2) hC eX11_odds_72 rfl ?_
      refine J.iconst hC eX11_odds_73 ci_0 ?_
      refine J.callVI (st := [.int (0 : Int32), .long l5]) hC eX11_odds_74 kk_107 (by decide) rfl rfl ml_X11_368 mv_X11_truth (Rle_of (Nat.le_of_ble_eq_true rfl) (Nat.le_of_ble_eq_true rfl)) (c_X11_truth hC.X x1 x2 (0 : Int32) μ) rfl rfl (Nat.le_of_ble_eq_true rfl) (fun r_2 μ_1 => ?_)
      refine J.iload (j := 7) hC eX11_odds_77 rfl ?_
      refine J.isub hC eX11_odds_79 ?_
      refine J.mmax hC eX11_odds_80 ml_X11_202 w_smax w_im w_cmax (Nat.le_of_ble_eq_true rfl) (Nat.le_of_ble_eq_true rfl) ?_
      refine J.i2l hC eX11_odds_83 ?_
      refine J.lmul hC eX11_odds_84 ?_
      refine J.topl (fun l5_3 => ?_)
      refine J.lstore [(5, .long l5_3), (0, .ref (xad (cX C) 107)), (1, .int x1), (2, .int x2), (3, .int x3), (4, .int x4), (7, .long l7), (9, .int x9)] hC eX11_odds_85 (by decide) rfl ?_
      refine J.lload (j := 6) hC eX11_odds_87 rfl ?_
      refine J.aload_n (j := 1) hC eX11_odds_89 rfl ?_
      refine J.iload_n (j := 2) hC eX11_odds_90 rfl ?_
      refine J.callVI (st := [.long l7]) hC eX11_odds_91 kk_107 (by decide) rfl rfl ml_X11_161 mv_X11_rowsOf (Rle_of (Nat.le_of_ble_eq_true rfl) (Nat.le_of_ble_eq_true rfl)) (c_X11_rowsOf hC.X x1 μ_1) rfl rfl (Nat.le_of_ble_eq_true rfl) (fun r_5 μ_4 => ?_)
      refine J.iload (j := 7) hC eX11_odds_94 rfl ?_
      refine J.isub hC eX11_odds_96 ?_
      refine J.i2l hC eX11_odds_97 ?_
      refine J.lmul hC eX11_odds_98 ?_
      refine J.topl (fun l7_6 => ?_)
      refine J.lstore [(7, .long l7_6), (5, .long l5_3), (0, .ref (xad (cX C) 107)), (1, .int x1), (2, .int x2), (3, .int x3), (4, .int x4), (9, .int x9)] hC eX11_odds_99 (by decide) rfl ?_
      refine J.iinc (j := 7) (fun x9_7 => [(9, .int x9_7), (7, .long l7_6), (5, .long l5_3), (0, .ref (xad (cX C) 107)), (1, .int x1), (2, .int x2), (3, .int x3), (4, .int x4)]) hC eX11_odds_101 rfl ci_1 (by decide) (fun _ => rfl) (fun x9_7 => ?_)
      refine J.goto hC eX11_odds_104 ?_
      refine J.sub [3, 4, 5, 6, 7, 2, 1, 0] rfl ?_
      exact ih x1 x2 x3 x4 l5_3 l7_6 x9_7 μ_4
def G_X11_odds (x1 : Int32) (x2 : Int32) (x3 : Int32) (x4 : Int32) (μ : Mem) : Option (Int64 × Mem) :=
  bd (G_X11_isTable x1 μ) (fun r_2 μ_1 => if r_2 = 0 then some ((-1 : Int64), μ_1) else bd (G_X11_isWhere x2 μ_1) (fun r_4 μ_3 => if r_4 = 0 then some ((-1 : Int64), μ_3) else bd (G_X11_in x3.toInt64 (1 : Int64) (4 : Int64) μ_3) (fun r_6 μ_5 => if r_6 = 0 then some ((-1 : Int64), μ_5) else bd (G_X11_in x4.toInt64 (0 : Int64) (1 : Int64) μ_5) (fun r_8 μ_7 => if r_8 = 0 then some ((-1 : Int64), μ_7) else bd (G_X11_rowsOf x1 μ_7) (fun r_10 μ_9 => if x3 ≤ r_10 then L_X11_odds_61  100000 x1 x2 x3 x4 (1 : Int64) (1 : Int64) (0 : Int32) μ_9 else some ((-1 : Int64), μ_9))))))
set_option maxHeartbeats 4000000 in
theorem c_X11_odds {X : Wd} (hX : WdOk X) (x1 : Int32) (x2 : Int32) (x3 : Int32) (x4 : Int32) (μ : Mem) : CtL X yX11_odds cX11_odds 15 (some .long) (rmF 5 125) [.ref (xad X 107), .int x1, .int x2, .int x3, .int x4] μ (G_X11_odds x1 x2 x3 x4 μ) := by
  refine CtL.of hX (plainFor_of_name (by decide)) (by exact Nat.le_of_ble_eq_true rfl) ?_
  intro C hCX hC hr
  subst hCX
  show J C (KL C) μ 0 [(0, .ref (xad (cX C) 107)), (1, .int x1), (2, .int x2), (3, .int x3), (4, .int x4)] [] _
  unfold G_X11_odds
  refine J.aload_n (j := 0) hC eX11_odds_0 rfl ?_
  refine J.iload_n (j := 1) hC eX11_odds_1 rfl ?_
  refine J.callVI (st := []) hC eX11_odds_2 kk_107 (by decide) rfl rfl ml_X11_153 mv_X11_isTable (Rle_of (Nat.le_of_ble_eq_true rfl) (Nat.le_of_ble_eq_true rfl)) (c_X11_isTable hC.X x1 μ) rfl rfl (Nat.le_of_ble_eq_true rfl) (fun r_2 μ_1 => ?_)
  refine J.if_eq hC eX11_odds_5 (fun _ => ?_) (fun _ => ?_)
  · refine J.ldc2 hC eX11_odds_48 mk_X11_156 ?_
    exact J.lret hC hr eX11_odds_51
  · refine J.aload_n (j := 0) hC eX11_odds_8 rfl ?_
    refine J.iload_n (j := 2) hC eX11_odds_9 rfl ?_
    refine J.callVI (st := []) hC eX11_odds_10 kk_107 (by decide) rfl rfl ml_X11_359 mv_X11_isWhere (Rle_of (Nat.le_of_ble_eq_true rfl) (Nat.le_of_ble_eq_true rfl)) (c_X11_isWhere hC.X x2 μ_1) rfl rfl (Nat.le_of_ble_eq_true rfl) (fun r_4 μ_3 => ?_)
    refine J.if_eq hC eX11_odds_13 (fun _ => ?_) (fun _ => ?_)
    · refine J.ldc2 hC eX11_odds_48 mk_X11_156 ?_
      exact J.lret hC hr eX11_odds_51
    · refine J.iload_n (j := 3) hC eX11_odds_16 rfl ?_
      refine J.i2l hC eX11_odds_17 ?_
      refine J.lconst hC eX11_odds_18 cl_1 ?_
      refine J.ldc2 hC eX11_odds_19 mk_X11_321 ?_
      refine J.callSI (st := []) hC eX11_odds_22 ml_X11_77 mv_X11_in (Rle_of (Nat.le_of_ble_eq_true rfl) (Nat.le_of_ble_eq_true rfl)) (c_X11_in hC.X x3.toInt64 (1 : Int64) (4 : Int64) μ_3) rfl rfl (Nat.le_of_ble_eq_true rfl) (fun r_6 μ_5 => ?_)
      refine J.if_eq hC eX11_odds_25 (fun _ => ?_) (fun _ => ?_)
      · refine J.ldc2 hC eX11_odds_48 mk_X11_156 ?_
        exact J.lret hC hr eX11_odds_51
      · refine J.iload (j := 4) hC eX11_odds_28 rfl ?_
        refine J.i2l hC eX11_odds_30 ?_
        refine J.lconst hC eX11_odds_31 cl_0 ?_
        refine J.lconst hC eX11_odds_32 cl_1 ?_
        refine J.callSI (st := []) hC eX11_odds_33 ml_X11_77 mv_X11_in (Rle_of (Nat.le_of_ble_eq_true rfl) (Nat.le_of_ble_eq_true rfl)) (c_X11_in hC.X x4.toInt64 (0 : Int64) (1 : Int64) μ_5) rfl rfl (Nat.le_of_ble_eq_true rfl) (fun r_8 μ_7 => ?_)
        refine J.if_eq hC eX11_odds_36 (fun _ => ?_) (fun _ => ?_)
        · refine J.ldc2 hC eX11_odds_48 mk_X11_156 ?_
          exact J.lret hC hr eX11_odds_51
        · refine J.aload_n (j := 0) hC eX11_odds_39 rfl ?_
          refine J.iload_n (j := 1) hC eX11_odds_40 rfl ?_
          refine J.callVI (st := []) hC eX11_odds_41 kk_107 (by decide) rfl rfl ml_X11_161 mv_X11_rowsOf (Rle_of (Nat.le_of_ble_eq_true rfl) (Nat.le_of_ble_eq_true rfl)) (c_X11_rowsOf hC.X x1 μ_7) rfl rfl (Nat.le_of_ble_eq_true rfl) (fun r_10 μ_9 => ?_)
          refine J.iload_n (j := 3) hC eX11_odds_44 rfl ?_
          refine J.icmp_ge hC eX11_odds_45 (fun _ => ?_) (fun _ => ?_)
          · refine J.lconst hC eX11_odds_52 cl_1 ?_
            refine J.lstore [(5, .long (1 : Int64)), (0, .ref (xad (cX C) 107)), (1, .int x1), (2, .int x2), (3, .int x3), (4, .int x4)] hC eX11_odds_53 (by decide) rfl ?_
            refine J.lconst hC eX11_odds_55 cl_1 ?_
            refine J.lstore [(7, .long (1 : Int64)), (5, .long (1 : Int64)), (0, .ref (xad (cX C) 107)), (1, .int x1), (2, .int x2), (3, .int x3), (4, .int x4)] hC eX11_odds_56 (by decide) rfl ?_
            refine J.iconst hC eX11_odds_58 ci_0 ?_
            refine J.istore [(9, .int (0 : Int32)), (7, .long (1 : Int64)), (5, .long (1 : Int64)), (0, .ref (xad (cX C) 107)), (1, .int x1), (2, .int x2), (3, .int x3), (4, .int x4)] hC eX11_odds_59 (by decide) rfl ?_
            refine J.sub [3, 4, 5, 6, 7, 2, 1, 0] rfl ?_
            exact j_X11_odds_61 hC hr  100000 x1 x2 x3 x4 (1 : Int64) (1 : Int64) (0 : Int32) μ_9
          · refine J.ldc2 hC eX11_odds_48 mk_X11_156 ?_
            exact J.lret hC hr eX11_odds_51
-- X11_unit
theorem eX11_unit_0 : DD cX11_unit 0 (.aload_n 0) 1 1 := ⟨by decide +kernel, rfl⟩
theorem eX11_unit_1 : DD cX11_unit 1 (.iload_n 1) 1 2 := ⟨by decide +kernel, rfl⟩
theorem eX11_unit_2 : DD cX11_unit 2 (.invokevirtual 359) 3 5 := ⟨by decide +kernel, rfl⟩
theorem eX11_unit_5 : DB cX11_unit 5 (.ifCond .eq 43) (43) 8 48 := ⟨by decide +kernel, rfl, by decide⟩
theorem eX11_unit_8 : DD cX11_unit 8 (.iload_n 2) 1 9 := ⟨by decide +kernel, rfl⟩
theorem eX11_unit_9 : DD cX11_unit 9 (.i2l) 1 10 := ⟨by decide +kernel, rfl⟩
theorem eX11_unit_10 : DD cX11_unit 10 (.lconst 0) 1 11 := ⟨by decide +kernel, rfl⟩
theorem eX11_unit_11 : DD cX11_unit 11 (.aload_n 0) 1 12 := ⟨by decide +kernel, rfl⟩
theorem eX11_unit_12 : DD cX11_unit 12 (.getfield 31) 3 15 := ⟨by decide +kernel, rfl⟩
theorem eX11_unit_15 : DD cX11_unit 15 (.iload_n 1) 1 16 := ⟨by decide +kernel, rfl⟩
theorem eX11_unit_16 : DD cX11_unit 16 (.iaload) 1 17 := ⟨by decide +kernel, rfl⟩
theorem eX11_unit_17 : DD cX11_unit 17 (.iconst 1) 1 18 := ⟨by decide +kernel, rfl⟩
theorem eX11_unit_18 : DD cX11_unit 18 (.isub) 1 19 := ⟨by decide +kernel, rfl⟩
theorem eX11_unit_19 : DD cX11_unit 19 (.i2l) 1 20 := ⟨by decide +kernel, rfl⟩
theorem eX11_unit_20 : DD cX11_unit 20 (.invokestatic 77) 3 23 := ⟨by decide +kernel, rfl⟩
theorem eX11_unit_23 : DB cX11_unit 23 (.ifCond .eq 25) (25) 26 48 := ⟨by decide +kernel, rfl, by decide⟩
theorem eX11_unit_26 : DD cX11_unit 26 (.iload_n 3) 1 27 := ⟨by decide +kernel, rfl⟩
theorem eX11_unit_27 : DD cX11_unit 27 (.i2l) 1 28 := ⟨by decide +kernel, rfl⟩
theorem eX11_unit_28 : DD cX11_unit 28 (.lconst 0) 1 29 := ⟨by decide +kernel, rfl⟩
theorem eX11_unit_29 : DD cX11_unit 29 (.ldc2_w 230) 3 32 := ⟨by decide +kernel, rfl⟩
theorem eX11_unit_32 : DD cX11_unit 32 (.invokestatic 77) 3 35 := ⟨by decide +kernel, rfl⟩
theorem eX11_unit_35 : DB cX11_unit 35 (.ifCond .eq 13) (13) 38 48 := ⟨by decide +kernel, rfl, by decide⟩
theorem eX11_unit_38 : DD cX11_unit 38 (.aload_n 0) 1 39 := ⟨by decide +kernel, rfl⟩
theorem eX11_unit_39 : DD cX11_unit 39 (.iload_n 1) 1 40 := ⟨by decide +kernel, rfl⟩
theorem eX11_unit_40 : DD cX11_unit 40 (.iload_n 2) 1 41 := ⟨by decide +kernel, rfl⟩
theorem eX11_unit_41 : DD cX11_unit 41 (.iload_n 3) 1 42 := ⟨by decide +kernel, rfl⟩
theorem eX11_unit_42 : DD cX11_unit 42 (.invokevirtual 335) 3 45 := ⟨by decide +kernel, rfl⟩
theorem eX11_unit_45 : DB cX11_unit 45 (.goto 5) (5) 48 50 := ⟨by decide +kernel, rfl, by decide⟩
theorem eX11_unit_48 : DD cX11_unit 48 (.ldc 245) 2 50 := ⟨by decide +kernel, rfl⟩
theorem eX11_unit_50 : DD cX11_unit 50 (.ireturn) 1 51 := ⟨by decide +kernel, rfl⟩
def G_X11_unit (x1 : Int32) (x2 : Int32) (x3 : Int32) (μ : Mem) : Option (Int32 × Mem) :=
  bd (G_X11_isWhere x1 μ) (fun r_2 μ_1 => if r_2 = 0 then some ((-1000000 : Int32), μ_1) else gq (inB x1 5) (bd (G_X11_in x2.toInt64 (0 : Int64) (((rI μ_1 115 (nx x1)) - (1 : Int32)).toInt64) μ_1) (fun r_4 μ_3 => if r_4 = 0 then some ((-1000000 : Int32), μ_3) else bd (G_X11_in x3.toInt64 (0 : Int64) (3 : Int64) μ_3) (fun r_6 μ_5 => if r_6 = 0 then some ((-1000000 : Int32), μ_5) else bd (G_X11_unitAt x1 x2 x3 μ_5) (fun r_8 μ_7 => some (r_8, μ_7))))))
set_option maxHeartbeats 4000000 in
theorem c_X11_unit {X : Wd} (hX : WdOk X) (x1 : Int32) (x2 : Int32) (x3 : Int32) (μ : Mem) : CtI X yX11_unit cX11_unit 4 (some .int) (rmF 2 46) [.ref (xad X 107), .int x1, .int x2, .int x3] μ (G_X11_unit x1 x2 x3 μ) := by
  refine CtI.of hX (plainFor_of_name (by decide)) (by exact Nat.le_of_ble_eq_true rfl) ?_
  intro C hCX hC hr
  subst hCX
  show J C (KI C) μ 0 [(0, .ref (xad (cX C) 107)), (1, .int x1), (2, .int x2), (3, .int x3)] [] _
  unfold G_X11_unit
  refine J.aload_n (j := 0) hC eX11_unit_0 rfl ?_
  refine J.iload_n (j := 1) hC eX11_unit_1 rfl ?_
  refine J.callVI (st := []) hC eX11_unit_2 kk_107 (by decide) rfl rfl ml_X11_359 mv_X11_isWhere (Rle_of (Nat.le_of_ble_eq_true rfl) (Nat.le_of_ble_eq_true rfl)) (c_X11_isWhere hC.X x1 μ) rfl rfl (Nat.le_of_ble_eq_true rfl) (fun r_2 μ_1 => ?_)
  refine J.if_eq hC eX11_unit_5 (fun _ => ?_) (fun _ => ?_)
  · refine J.ldc hC eX11_unit_48 mk_X11_245 ?_
    exact J.iret hC hr eX11_unit_50
  · refine J.iload_n (j := 2) hC eX11_unit_8 rfl ?_
    refine J.i2l hC eX11_unit_9 ?_
    refine J.lconst hC eX11_unit_10 cl_0 ?_
    refine J.aload_n (j := 0) hC eX11_unit_11 rfl ?_
    refine gf_X11_31 (q := 115) hC eX11_unit_12 kk_107 rfl ?_
    refine J.iload_n (j := 1) hC eX11_unit_15 rfl ?_
    refine J.iald ik_5 hC eX11_unit_16 kk_115 ?_
    refine J.iconst hC eX11_unit_17 ci_1 ?_
    refine J.isub hC eX11_unit_18 ?_
    refine J.i2l hC eX11_unit_19 ?_
    refine J.callSI (st := []) hC eX11_unit_20 ml_X11_77 mv_X11_in (Rle_of (Nat.le_of_ble_eq_true rfl) (Nat.le_of_ble_eq_true rfl)) (c_X11_in hC.X x2.toInt64 (0 : Int64) (((rI μ_1 115 (nx x1)) - (1 : Int32)).toInt64) μ_1) rfl rfl (Nat.le_of_ble_eq_true rfl) (fun r_4 μ_3 => ?_)
    refine J.if_eq hC eX11_unit_23 (fun _ => ?_) (fun _ => ?_)
    · refine J.ldc hC eX11_unit_48 mk_X11_245 ?_
      exact J.iret hC hr eX11_unit_50
    · refine J.iload_n (j := 3) hC eX11_unit_26 rfl ?_
      refine J.i2l hC eX11_unit_27 ?_
      refine J.lconst hC eX11_unit_28 cl_0 ?_
      refine J.ldc2 hC eX11_unit_29 mk_X11_230 ?_
      refine J.callSI (st := []) hC eX11_unit_32 ml_X11_77 mv_X11_in (Rle_of (Nat.le_of_ble_eq_true rfl) (Nat.le_of_ble_eq_true rfl)) (c_X11_in hC.X x3.toInt64 (0 : Int64) (3 : Int64) μ_3) rfl rfl (Nat.le_of_ble_eq_true rfl) (fun r_6 μ_5 => ?_)
      refine J.if_eq hC eX11_unit_35 (fun _ => ?_) (fun _ => ?_)
      · refine J.ldc hC eX11_unit_48 mk_X11_245 ?_
        exact J.iret hC hr eX11_unit_50
      · refine J.aload_n (j := 0) hC eX11_unit_38 rfl ?_
        refine J.iload_n (j := 1) hC eX11_unit_39 rfl ?_
        refine J.iload_n (j := 2) hC eX11_unit_40 rfl ?_
        refine J.iload_n (j := 3) hC eX11_unit_41 rfl ?_
        refine J.callVI (st := []) hC eX11_unit_42 kk_107 (by decide) rfl rfl ml_X11_335 mv_X11_unitAt (Rle_of (Nat.le_of_ble_eq_true rfl) (Nat.le_of_ble_eq_true rfl)) (c_X11_unitAt hC.X x1 x2 x3 μ_5) rfl rfl (Nat.le_of_ble_eq_true rfl) (fun r_8 μ_7 => ?_)
        refine J.goto hC eX11_unit_45 ?_
        exact J.iret hC hr eX11_unit_50
-- X11_shares
theorem eX11_shares_0 : DD cX11_shares 0 (.aload_n 0) 1 1 := ⟨by decide +kernel, rfl⟩
theorem eX11_shares_1 : DD cX11_shares 1 (.iload_n 1) 1 2 := ⟨by decide +kernel, rfl⟩
theorem eX11_shares_2 : DD cX11_shares 2 (.invokevirtual 153) 3 5 := ⟨by decide +kernel, rfl⟩
theorem eX11_shares_5 : DB cX11_shares 5 (.ifCond .eq 15) (15) 8 20 := ⟨by decide +kernel, rfl, by decide⟩
theorem eX11_shares_8 : DD cX11_shares 8 (.iload_n 2) 1 9 := ⟨by decide +kernel, rfl⟩
theorem eX11_shares_9 : DD cX11_shares 9 (.i2l) 1 10 := ⟨by decide +kernel, rfl⟩
theorem eX11_shares_10 : DD cX11_shares 10 (.lconst 0) 1 11 := ⟨by decide +kernel, rfl⟩
theorem eX11_shares_11 : DD cX11_shares 11 (.ldc2_w 288) 3 14 := ⟨by decide +kernel, rfl⟩
theorem eX11_shares_14 : DD cX11_shares 14 (.invokestatic 77) 3 17 := ⟨by decide +kernel, rfl⟩
theorem eX11_shares_17 : DB cX11_shares 17 (.ifCond .ne 5) (5) 20 22 := ⟨by decide +kernel, rfl, by decide⟩
theorem eX11_shares_20 : DD cX11_shares 20 (.iconst (-1)) 1 21 := ⟨by decide +kernel, rfl⟩
theorem eX11_shares_21 : DD cX11_shares 21 (.ireturn) 1 22 := ⟨by decide +kernel, rfl⟩
theorem eX11_shares_22 : DD cX11_shares 22 (.aload_n 0) 1 23 := ⟨by decide +kernel, rfl⟩
theorem eX11_shares_23 : DD cX11_shares 23 (.invokevirtual 318) 3 26 := ⟨by decide +kernel, rfl⟩
theorem eX11_shares_26 : DB cX11_shares 26 (.ifCond .ne 7) (7) 29 33 := ⟨by decide +kernel, rfl, by decide⟩
theorem eX11_shares_29 : DD cX11_shares 29 (.iconst 0) 1 30 := ⟨by decide +kernel, rfl⟩
theorem eX11_shares_30 : DB cX11_shares 30 (.goto 15) (15) 33 45 := ⟨by decide +kernel, rfl, by decide⟩
theorem eX11_shares_33 : DD cX11_shares 33 (.iload_n 2) 1 34 := ⟨by decide +kernel, rfl⟩
theorem eX11_shares_34 : DD cX11_shares 34 (.aload_n 0) 1 35 := ⟨by decide +kernel, rfl⟩
theorem eX11_shares_35 : DD cX11_shares 35 (.iload_n 1) 1 36 := ⟨by decide +kernel, rfl⟩
theorem eX11_shares_36 : DD cX11_shares 36 (.invokevirtual 161) 3 39 := ⟨by decide +kernel, rfl⟩
theorem eX11_shares_39 : DD cX11_shares 39 (.imul) 1 40 := ⟨by decide +kernel, rfl⟩
theorem eX11_shares_40 : DD cX11_shares 40 (.aload_n 0) 1 41 := ⟨by decide +kernel, rfl⟩
theorem eX11_shares_41 : DD cX11_shares 41 (.invokevirtual 318) 3 44 := ⟨by decide +kernel, rfl⟩
theorem eX11_shares_44 : DD cX11_shares 44 (.idiv) 1 45 := ⟨by decide +kernel, rfl⟩
theorem eX11_shares_45 : DD cX11_shares 45 (.ireturn) 1 46 := ⟨by decide +kernel, rfl⟩
def G_X11_shares (x1 : Int32) (x2 : Int32) (μ : Mem) : Option (Int32 × Mem) :=
  bd (G_X11_isTable x1 μ) (fun r_2 μ_1 => if r_2 = 0 then some ((-1 : Int32), μ_1) else bd (G_X11_in x2.toInt64 (0 : Int64) (999 : Int64) μ_1) (fun r_4 μ_3 => if r_4 = 0 then some ((-1 : Int32), μ_3) else bd (G_X11_rowsOfAll  μ_3) (fun r_6 μ_5 => if r_6 = 0 then some ((0 : Int32), μ_5) else bd (G_X11_rowsOf x1 μ_5) (fun r_8 μ_7 => bd (G_X11_rowsOfAll  μ_7) (fun r_10 μ_9 => gq (decide (¬ r_10 = 0)) (some ((x2 * r_8) / r_10, μ_9)))))))
set_option maxHeartbeats 4000000 in
theorem c_X11_shares {X : Wd} (hX : WdOk X) (x1 : Int32) (x2 : Int32) (μ : Mem) : CtI X yX11_shares cX11_shares 3 (some .int) (rmF 2 46) [.ref (xad X 107), .int x1, .int x2] μ (G_X11_shares x1 x2 μ) := by
  refine CtI.of hX (plainFor_of_name (by decide)) (by exact Nat.le_of_ble_eq_true rfl) ?_
  intro C hCX hC hr
  subst hCX
  show J C (KI C) μ 0 [(0, .ref (xad (cX C) 107)), (1, .int x1), (2, .int x2)] [] _
  unfold G_X11_shares
  refine J.aload_n (j := 0) hC eX11_shares_0 rfl ?_
  refine J.iload_n (j := 1) hC eX11_shares_1 rfl ?_
  refine J.callVI (st := []) hC eX11_shares_2 kk_107 (by decide) rfl rfl ml_X11_153 mv_X11_isTable (Rle_of (Nat.le_of_ble_eq_true rfl) (Nat.le_of_ble_eq_true rfl)) (c_X11_isTable hC.X x1 μ) rfl rfl (Nat.le_of_ble_eq_true rfl) (fun r_2 μ_1 => ?_)
  refine J.if_eq hC eX11_shares_5 (fun _ => ?_) (fun _ => ?_)
  · refine J.iconst hC eX11_shares_20 ci_m1 ?_
    exact J.iret hC hr eX11_shares_21
  · refine J.iload_n (j := 2) hC eX11_shares_8 rfl ?_
    refine J.i2l hC eX11_shares_9 ?_
    refine J.lconst hC eX11_shares_10 cl_0 ?_
    refine J.ldc2 hC eX11_shares_11 mk_X11_288 ?_
    refine J.callSI (st := []) hC eX11_shares_14 ml_X11_77 mv_X11_in (Rle_of (Nat.le_of_ble_eq_true rfl) (Nat.le_of_ble_eq_true rfl)) (c_X11_in hC.X x2.toInt64 (0 : Int64) (999 : Int64) μ_1) rfl rfl (Nat.le_of_ble_eq_true rfl) (fun r_4 μ_3 => ?_)
    refine J.if_ne hC eX11_shares_17 (fun _ => ?_) (fun _ => ?_)
    · refine J.iconst hC eX11_shares_20 ci_m1 ?_
      exact J.iret hC hr eX11_shares_21
    · refine J.aload_n (j := 0) hC eX11_shares_22 rfl ?_
      refine J.callVI (st := []) hC eX11_shares_23 kk_107 (by decide) rfl rfl ml_X11_318 mv_X11_rowsOfAll (Rle_of (Nat.le_of_ble_eq_true rfl) (Nat.le_of_ble_eq_true rfl)) (c_X11_rowsOfAll hC.X  μ_3) rfl rfl (Nat.le_of_ble_eq_true rfl) (fun r_6 μ_5 => ?_)
      refine J.if_ne hC eX11_shares_26 (fun _ => ?_) (fun _ => ?_)
      · refine J.iconst hC eX11_shares_29 ci_0 ?_
        refine J.goto hC eX11_shares_30 ?_
        exact J.iret hC hr eX11_shares_45
      · refine J.iload_n (j := 2) hC eX11_shares_33 rfl ?_
        refine J.aload_n (j := 0) hC eX11_shares_34 rfl ?_
        refine J.iload_n (j := 1) hC eX11_shares_35 rfl ?_
        refine J.callVI (st := [.int x2]) hC eX11_shares_36 kk_107 (by decide) rfl rfl ml_X11_161 mv_X11_rowsOf (Rle_of (Nat.le_of_ble_eq_true rfl) (Nat.le_of_ble_eq_true rfl)) (c_X11_rowsOf hC.X x1 μ_5) rfl rfl (Nat.le_of_ble_eq_true rfl) (fun r_8 μ_7 => ?_)
        refine J.imul hC eX11_shares_39 ?_
        refine J.aload_n (j := 0) hC eX11_shares_40 rfl ?_
        refine J.callVI (st := [.int (x2 * r_8)]) hC eX11_shares_41 kk_107 (by decide) rfl rfl ml_X11_318 mv_X11_rowsOfAll (Rle_of (Nat.le_of_ble_eq_true rfl) (Nat.le_of_ble_eq_true rfl)) (c_X11_rowsOfAll hC.X  μ_7) rfl rfl (Nat.le_of_ble_eq_true rfl) (fun r_10 μ_9 => ?_)
        refine J.idiv hC eX11_shares_44 ?_
        exact J.iret hC hr eX11_shares_45
-- X11_longest
theorem eX11_longest_0 : DD cX11_longest 0 (.iconst 0) 1 1 := ⟨by decide +kernel, rfl⟩
theorem eX11_longest_1 : DD cX11_longest 1 (.istore_n 1) 1 2 := ⟨by decide +kernel, rfl⟩
theorem eX11_longest_2 : DD cX11_longest 2 (.iconst 1) 1 3 := ⟨by decide +kernel, rfl⟩
theorem eX11_longest_3 : DD cX11_longest 3 (.istore_n 2) 1 4 := ⟨by decide +kernel, rfl⟩
theorem eX11_longest_4 : DD cX11_longest 4 (.iload_n 2) 1 5 := ⟨by decide +kernel, rfl⟩
theorem eX11_longest_5 : DD cX11_longest 5 (.aload_n 0) 1 6 := ⟨by decide +kernel, rfl⟩
theorem eX11_longest_6 : DD cX11_longest 6 (.getfield 150) 3 9 := ⟨by decide +kernel, rfl⟩
theorem eX11_longest_9 : DB cX11_longest 9 (.if_icmp .ge 28) (28) 12 37 := ⟨by decide +kernel, rfl, by decide⟩
theorem eX11_longest_12 : DD cX11_longest 12 (.aload_n 0) 1 13 := ⟨by decide +kernel, rfl⟩
theorem eX11_longest_13 : DD cX11_longest 13 (.iload_n 2) 1 14 := ⟨by decide +kernel, rfl⟩
theorem eX11_longest_14 : DD cX11_longest 14 (.invokevirtual 161) 3 17 := ⟨by decide +kernel, rfl⟩
theorem eX11_longest_17 : DD cX11_longest 17 (.aload_n 0) 1 18 := ⟨by decide +kernel, rfl⟩
theorem eX11_longest_18 : DD cX11_longest 18 (.iload_n 1) 1 19 := ⟨by decide +kernel, rfl⟩
theorem eX11_longest_19 : DD cX11_longest 19 (.invokevirtual 161) 3 22 := ⟨by decide +kernel, rfl⟩
theorem eX11_longest_22 : DB cX11_longest 22 (.if_icmp .le 7) (7) 25 29 := ⟨by decide +kernel, rfl, by decide⟩
theorem eX11_longest_25 : DD cX11_longest 25 (.iload_n 2) 1 26 := ⟨by decide +kernel, rfl⟩
theorem eX11_longest_26 : DB cX11_longest 26 (.goto 4) (4) 29 30 := ⟨by decide +kernel, rfl, by decide⟩
theorem eX11_longest_29 : DD cX11_longest 29 (.iload_n 1) 1 30 := ⟨by decide +kernel, rfl⟩
theorem eX11_longest_30 : DD cX11_longest 30 (.istore_n 1) 1 31 := ⟨by decide +kernel, rfl⟩
theorem eX11_longest_31 : DD cX11_longest 31 (.iinc 2 1) 3 34 := ⟨by decide +kernel, rfl⟩
theorem eX11_longest_34 : DB cX11_longest 34 (.goto (-30)) (-30) 37 4 := ⟨by decide +kernel, rfl, by decide⟩
theorem eX11_longest_37 : DD cX11_longest 37 (.iload_n 1) 1 38 := ⟨by decide +kernel, rfl⟩
theorem eX11_longest_38 : DD cX11_longest 38 (.ireturn) 1 39 := ⟨by decide +kernel, rfl⟩
def F_X11_longest_30 (kc_4 : Int32 → Int32 → Mem → Option (Int32 × Mem)) (x2 : Int32) (xs0 : Int32) (μ : Mem) : Option (Int32 × Mem) :=
  lb (x2 + (1 : Int32)) (fun x2_1 => kc_4 xs0 x2_1 μ)
set_option maxHeartbeats 4000000 in
theorem j_X11_longest_30 {C : Cx} (hC : Ok C cX11_longest 3 RX11 (rmF 1 23)) (hr : (cT C).sig.returnType = (some .int)) (kc_4 : Int32 → Int32 → Mem → Option (Int32 × Mem)) (hk_4 : ∀ (x1 : Int32) (x2 : Int32) (μ : Mem), J C (KI C) μ 4 [(0, .ref (xad (cX C) 107)), (1, .int x1), (2, .int x2)] [] (kc_4 x1 x2 μ)) (x2 : Int32) (xs0 : Int32) (μ : Mem) : J C (KI C) μ 30 [(0, .ref (xad (cX C) 107)), (2, .int x2)] [.int xs0] (F_X11_longest_30 kc_4 x2 xs0 μ) := by
  unfold F_X11_longest_30
  refine J.istore_n [(1, .int xs0), (0, .ref (xad (cX C) 107)), (2, .int x2)] hC eX11_longest_30 (by decide) rfl ?_
  refine J.iinc (j := 2) (fun x2_1 => [(2, .int x2_1), (1, .int xs0), (0, .ref (xad (cX C) 107))]) hC eX11_longest_31 rfl ci_1 (by decide) (fun _ => rfl) (fun x2_1 => ?_)
  refine J.goto hC eX11_longest_34 ?_
  refine J.sub [2, 1, 0] rfl ?_
  exact hk_4 xs0 x2_1 μ
def L_X11_longest_4 : Nat → Int32 → Int32 → Mem → Option (Int32 × Mem)
  | 0, _, _, _ => none
  | n + 1, x1, x2, μ => if (rI μ 107 12) ≤ x2 then some (x1, μ) else bd (G_X11_rowsOf x2 μ) (fun r_2 μ_1 => bd (G_X11_rowsOf x1 μ_1) (fun r_4 μ_3 => if r_2 ≤ r_4 then F_X11_longest_30 (L_X11_longest_4  n) x2 x1 μ_3 else F_X11_longest_30 (L_X11_longest_4  n) x2 x2 μ_3))
set_option maxHeartbeats 4000000 in
theorem j_X11_longest_4 {C : Cx} (hC : Ok C cX11_longest 3 RX11 (rmF 1 23)) (hr : (cT C).sig.returnType = (some .int)) : ∀ (n : Nat) (x1 : Int32) (x2 : Int32) (μ : Mem), J C (KI C) μ 4 [(0, .ref (xad (cX C) 107)), (1, .int x1), (2, .int x2)] [] (L_X11_longest_4  n x1 x2 μ) := by
  intro n
  induction n with
  | zero => intros; exact J.no
  | succ n ih =>
    intro x1 x2 μ
    rw [L_X11_longest_4]
    refine J.iload_n (j := 2) hC eX11_longest_4 rfl ?_
    refine J.aload_n (j := 0) hC eX11_longest_5 rfl ?_
    refine gf_X11_150 hC eX11_longest_6 kk_107 ?_
    refine J.icmp_ge hC eX11_longest_9 (fun _ => ?_) (fun _ => ?_)
    · refine J.iload_n (j := 1) hC eX11_longest_37 rfl ?_
      exact J.iret hC hr eX11_longest_38
    · refine J.aload_n (j := 0) hC eX11_longest_12 rfl ?_
      refine J.iload_n (j := 2) hC eX11_longest_13 rfl ?_
      refine J.callVI (st := []) hC eX11_longest_14 kk_107 (by decide) rfl rfl ml_X11_161 mv_X11_rowsOf (Rle_of (Nat.le_of_ble_eq_true rfl) (Nat.le_of_ble_eq_true rfl)) (c_X11_rowsOf hC.X x2 μ) rfl rfl (Nat.le_of_ble_eq_true rfl) (fun r_2 μ_1 => ?_)
      refine J.aload_n (j := 0) hC eX11_longest_17 rfl ?_
      refine J.iload_n (j := 1) hC eX11_longest_18 rfl ?_
      refine J.callVI (st := [.int r_2]) hC eX11_longest_19 kk_107 (by decide) rfl rfl ml_X11_161 mv_X11_rowsOf (Rle_of (Nat.le_of_ble_eq_true rfl) (Nat.le_of_ble_eq_true rfl)) (c_X11_rowsOf hC.X x1 μ_1) rfl rfl (Nat.le_of_ble_eq_true rfl) (fun r_4 μ_3 => ?_)
      refine J.icmp_le hC eX11_longest_22 (fun _ => ?_) (fun _ => ?_)
      · refine J.iload_n (j := 1) hC eX11_longest_29 rfl ?_
        refine J.sub [0, 2] rfl ?_
        exact j_X11_longest_30 hC hr (L_X11_longest_4  n) ih x2 x1 μ_3
      · refine J.iload_n (j := 2) hC eX11_longest_25 rfl ?_
        refine J.goto hC eX11_longest_26 ?_
        refine J.sub [0, 2] rfl ?_
        exact j_X11_longest_30 hC hr (L_X11_longest_4  n) ih x2 x2 μ_3
def G_X11_longest  (μ : Mem) : Option (Int32 × Mem) :=
  L_X11_longest_4  100000 (0 : Int32) (1 : Int32) μ
set_option maxHeartbeats 4000000 in
theorem c_X11_longest {X : Wd} (hX : WdOk X)  (μ : Mem) : CtI X yX11_longest cX11_longest 3 (some .int) (rmF 1 23) [.ref (xad X 107)] μ (G_X11_longest  μ) := by
  refine CtI.of hX (plainFor_of_name (by decide)) (by exact Nat.le_of_ble_eq_true rfl) ?_
  intro C hCX hC hr
  subst hCX
  show J C (KI C) μ 0 [(0, .ref (xad (cX C) 107))] [] _
  unfold G_X11_longest
  refine J.iconst hC eX11_longest_0 ci_0 ?_
  refine J.istore_n [(1, .int (0 : Int32)), (0, .ref (xad (cX C) 107))] hC eX11_longest_1 (by decide) rfl ?_
  refine J.iconst hC eX11_longest_2 ci_1 ?_
  refine J.istore_n [(2, .int (1 : Int32)), (1, .int (0 : Int32)), (0, .ref (xad (cX C) 107))] hC eX11_longest_3 (by decide) rfl ?_
  refine J.sub [2, 1, 0] rfl ?_
  exact j_X11_longest_4 hC hr  100000 (0 : Int32) (1 : Int32) μ
-- X11_mostDrifted
theorem eX11_mostDrifted_0 : DD cX11_mostDrifted 0 (.iconst 0) 1 1 := ⟨by decide +kernel, rfl⟩
theorem eX11_mostDrifted_1 : DD cX11_mostDrifted 1 (.istore_n 1) 1 2 := ⟨by decide +kernel, rfl⟩
theorem eX11_mostDrifted_2 : DD cX11_mostDrifted 2 (.iconst 1) 1 3 := ⟨by decide +kernel, rfl⟩
theorem eX11_mostDrifted_3 : DD cX11_mostDrifted 3 (.istore_n 2) 1 4 := ⟨by decide +kernel, rfl⟩
theorem eX11_mostDrifted_4 : DD cX11_mostDrifted 4 (.iload_n 2) 1 5 := ⟨by decide +kernel, rfl⟩
theorem eX11_mostDrifted_5 : DD cX11_mostDrifted 5 (.iconst 2) 1 6 := ⟨by decide +kernel, rfl⟩
theorem eX11_mostDrifted_6 : DD cX11_mostDrifted 6 (.aload_n 0) 1 7 := ⟨by decide +kernel, rfl⟩
theorem eX11_mostDrifted_7 : DD cX11_mostDrifted 7 (.getfield 150) 3 10 := ⟨by decide +kernel, rfl⟩
theorem eX11_mostDrifted_10 : DD cX11_mostDrifted 10 (.imul) 1 11 := ⟨by decide +kernel, rfl⟩
theorem eX11_mostDrifted_11 : DB cX11_mostDrifted 11 (.if_icmp .ge 46) (46) 14 57 := ⟨by decide +kernel, rfl, by decide⟩
theorem eX11_mostDrifted_14 : DD cX11_mostDrifted 14 (.aload_n 0) 1 15 := ⟨by decide +kernel, rfl⟩
theorem eX11_mostDrifted_15 : DD cX11_mostDrifted 15 (.getfield 34) 3 18 := ⟨by decide +kernel, rfl⟩
theorem eX11_mostDrifted_18 : DD cX11_mostDrifted 18 (.iload_n 2) 1 19 := ⟨by decide +kernel, rfl⟩
theorem eX11_mostDrifted_19 : DD cX11_mostDrifted 19 (.iconst 2) 1 20 := ⟨by decide +kernel, rfl⟩
theorem eX11_mostDrifted_20 : DD cX11_mostDrifted 20 (.idiv) 1 21 := ⟨by decide +kernel, rfl⟩
theorem eX11_mostDrifted_21 : DD cX11_mostDrifted 21 (.iload_n 2) 1 22 := ⟨by decide +kernel, rfl⟩
theorem eX11_mostDrifted_22 : DD cX11_mostDrifted 22 (.iconst 2) 1 23 := ⟨by decide +kernel, rfl⟩
theorem eX11_mostDrifted_23 : DD cX11_mostDrifted 23 (.irem) 1 24 := ⟨by decide +kernel, rfl⟩
theorem eX11_mostDrifted_24 : DD cX11_mostDrifted 24 (.invokestatic 199) 3 27 := ⟨by decide +kernel, rfl⟩
theorem eX11_mostDrifted_27 : DD cX11_mostDrifted 27 (.iaload) 1 28 := ⟨by decide +kernel, rfl⟩
theorem eX11_mostDrifted_28 : DD cX11_mostDrifted 28 (.aload_n 0) 1 29 := ⟨by decide +kernel, rfl⟩
theorem eX11_mostDrifted_29 : DD cX11_mostDrifted 29 (.getfield 34) 3 32 := ⟨by decide +kernel, rfl⟩
theorem eX11_mostDrifted_32 : DD cX11_mostDrifted 32 (.iload_n 1) 1 33 := ⟨by decide +kernel, rfl⟩
theorem eX11_mostDrifted_33 : DD cX11_mostDrifted 33 (.iconst 2) 1 34 := ⟨by decide +kernel, rfl⟩
theorem eX11_mostDrifted_34 : DD cX11_mostDrifted 34 (.idiv) 1 35 := ⟨by decide +kernel, rfl⟩
theorem eX11_mostDrifted_35 : DD cX11_mostDrifted 35 (.iload_n 1) 1 36 := ⟨by decide +kernel, rfl⟩
theorem eX11_mostDrifted_36 : DD cX11_mostDrifted 36 (.iconst 2) 1 37 := ⟨by decide +kernel, rfl⟩
theorem eX11_mostDrifted_37 : DD cX11_mostDrifted 37 (.irem) 1 38 := ⟨by decide +kernel, rfl⟩
theorem eX11_mostDrifted_38 : DD cX11_mostDrifted 38 (.invokestatic 199) 3 41 := ⟨by decide +kernel, rfl⟩
theorem eX11_mostDrifted_41 : DD cX11_mostDrifted 41 (.iaload) 1 42 := ⟨by decide +kernel, rfl⟩
theorem eX11_mostDrifted_42 : DB cX11_mostDrifted 42 (.if_icmp .le 7) (7) 45 49 := ⟨by decide +kernel, rfl, by decide⟩
theorem eX11_mostDrifted_45 : DD cX11_mostDrifted 45 (.iload_n 2) 1 46 := ⟨by decide +kernel, rfl⟩
theorem eX11_mostDrifted_46 : DB cX11_mostDrifted 46 (.goto 4) (4) 49 50 := ⟨by decide +kernel, rfl, by decide⟩
theorem eX11_mostDrifted_49 : DD cX11_mostDrifted 49 (.iload_n 1) 1 50 := ⟨by decide +kernel, rfl⟩
theorem eX11_mostDrifted_50 : DD cX11_mostDrifted 50 (.istore_n 1) 1 51 := ⟨by decide +kernel, rfl⟩
theorem eX11_mostDrifted_51 : DD cX11_mostDrifted 51 (.iinc 2 1) 3 54 := ⟨by decide +kernel, rfl⟩
theorem eX11_mostDrifted_54 : DB cX11_mostDrifted 54 (.goto (-50)) (-50) 57 4 := ⟨by decide +kernel, rfl, by decide⟩
theorem eX11_mostDrifted_57 : DD cX11_mostDrifted 57 (.bipush 10) 2 59 := ⟨by decide +kernel, rfl⟩
theorem eX11_mostDrifted_59 : DD cX11_mostDrifted 59 (.iload_n 1) 1 60 := ⟨by decide +kernel, rfl⟩
theorem eX11_mostDrifted_60 : DD cX11_mostDrifted 60 (.iconst 2) 1 61 := ⟨by decide +kernel, rfl⟩
theorem eX11_mostDrifted_61 : DD cX11_mostDrifted 61 (.idiv) 1 62 := ⟨by decide +kernel, rfl⟩
theorem eX11_mostDrifted_62 : DD cX11_mostDrifted 62 (.imul) 1 63 := ⟨by decide +kernel, rfl⟩
theorem eX11_mostDrifted_63 : DD cX11_mostDrifted 63 (.iload_n 1) 1 64 := ⟨by decide +kernel, rfl⟩
theorem eX11_mostDrifted_64 : DD cX11_mostDrifted 64 (.iconst 2) 1 65 := ⟨by decide +kernel, rfl⟩
theorem eX11_mostDrifted_65 : DD cX11_mostDrifted 65 (.irem) 1 66 := ⟨by decide +kernel, rfl⟩
theorem eX11_mostDrifted_66 : DD cX11_mostDrifted 66 (.iadd) 1 67 := ⟨by decide +kernel, rfl⟩
theorem eX11_mostDrifted_67 : DD cX11_mostDrifted 67 (.ireturn) 1 68 := ⟨by decide +kernel, rfl⟩
def F_X11_mostDrifted_50 (kc_4 : Int32 → Int32 → Mem → Option (Int32 × Mem)) (x2 : Int32) (xs0 : Int32) (μ : Mem) : Option (Int32 × Mem) :=
  lb (x2 + (1 : Int32)) (fun x2_1 => kc_4 xs0 x2_1 μ)
set_option maxHeartbeats 4000000 in
theorem j_X11_mostDrifted_50 {C : Cx} (hC : Ok C cX11_mostDrifted 3 RX11 (rmF 2 42)) (hr : (cT C).sig.returnType = (some .int)) (kc_4 : Int32 → Int32 → Mem → Option (Int32 × Mem)) (hk_4 : ∀ (x1 : Int32) (x2 : Int32) (μ : Mem), J C (KI C) μ 4 [(0, .ref (xad (cX C) 107)), (1, .int x1), (2, .int x2)] [] (kc_4 x1 x2 μ)) (x2 : Int32) (xs0 : Int32) (μ : Mem) : J C (KI C) μ 50 [(0, .ref (xad (cX C) 107)), (2, .int x2)] [.int xs0] (F_X11_mostDrifted_50 kc_4 x2 xs0 μ) := by
  unfold F_X11_mostDrifted_50
  refine J.istore_n [(1, .int xs0), (0, .ref (xad (cX C) 107)), (2, .int x2)] hC eX11_mostDrifted_50 (by decide) rfl ?_
  refine J.iinc (j := 2) (fun x2_1 => [(2, .int x2_1), (1, .int xs0), (0, .ref (xad (cX C) 107))]) hC eX11_mostDrifted_51 rfl ci_1 (by decide) (fun _ => rfl) (fun x2_1 => ?_)
  refine J.goto hC eX11_mostDrifted_54 ?_
  refine J.sub [2, 1, 0] rfl ?_
  exact hk_4 xs0 x2_1 μ
def L_X11_mostDrifted_4 : Nat → Int32 → Int32 → Mem → Option (Int32 × Mem)
  | 0, _, _, _ => none
  | n + 1, x1, x2, μ => if ((2 : Int32) * (rI μ 107 12)) ≤ x2 then some (((10 : Int32) * (x1 / (2 : Int32))) + (x1 - x1 / (2 : Int32) * (2 : Int32)), μ) else bd (G_X11_drift (x2 / (2 : Int32)) (x2 - x2 / (2 : Int32) * (2 : Int32)) μ) (fun r_2 μ_1 => gq (inB r_2 1253) (bd (G_X11_drift (x1 / (2 : Int32)) (x1 - x1 / (2 : Int32) * (2 : Int32)) μ_1) (fun r_4 μ_3 => gq (inB r_4 1253) (if (rI μ_1 116 (nx r_2)) ≤ (rI μ_3 116 (nx r_4)) then F_X11_mostDrifted_50 (L_X11_mostDrifted_4  n) x2 x1 μ_3 else F_X11_mostDrifted_50 (L_X11_mostDrifted_4  n) x2 x2 μ_3))))
set_option maxHeartbeats 4000000 in
theorem j_X11_mostDrifted_4 {C : Cx} (hC : Ok C cX11_mostDrifted 3 RX11 (rmF 2 42)) (hr : (cT C).sig.returnType = (some .int)) : ∀ (n : Nat) (x1 : Int32) (x2 : Int32) (μ : Mem), J C (KI C) μ 4 [(0, .ref (xad (cX C) 107)), (1, .int x1), (2, .int x2)] [] (L_X11_mostDrifted_4  n x1 x2 μ) := by
  intro n
  induction n with
  | zero => intros; exact J.no
  | succ n ih =>
    intro x1 x2 μ
    rw [L_X11_mostDrifted_4]
    refine J.iload_n (j := 2) hC eX11_mostDrifted_4 rfl ?_
    refine J.iconst hC eX11_mostDrifted_5 ci_2 ?_
    refine J.aload_n (j := 0) hC eX11_mostDrifted_6 rfl ?_
    refine gf_X11_150 hC eX11_mostDrifted_7 kk_107 ?_
    refine J.imul hC eX11_mostDrifted_10 ?_
    refine J.icmp_ge hC eX11_mostDrifted_11 (fun _ => ?_) (fun _ => ?_)
    · refine J.bipush hC eX11_mostDrifted_57 cb_10 ?_
      refine J.iload_n (j := 1) hC eX11_mostDrifted_59 rfl ?_
      refine J.iconst hC eX11_mostDrifted_60 ci_2 ?_
      refine J.idivK hC eX11_mostDrifted_61 (by decide) ?_
      refine J.imul hC eX11_mostDrifted_62 ?_
      refine J.iload_n (j := 1) hC eX11_mostDrifted_63 rfl ?_
      refine J.iconst hC eX11_mostDrifted_64 ci_2 ?_
      refine J.iremK hC eX11_mostDrifted_65 (by decide) ?_
      refine J.iadd hC eX11_mostDrifted_66 ?_
      exact J.iret hC hr eX11_mostDrifted_67
    · refine J.aload_n (j := 0) hC eX11_mostDrifted_14 rfl ?_
      refine gf_X11_34 (q := 116) hC eX11_mostDrifted_15 kk_107 rfl ?_
      refine J.iload_n (j := 2) hC eX11_mostDrifted_18 rfl ?_
      refine J.iconst hC eX11_mostDrifted_19 ci_2 ?_
      refine J.idivK hC eX11_mostDrifted_20 (by decide) ?_
      refine J.iload_n (j := 2) hC eX11_mostDrifted_21 rfl ?_
      refine J.iconst hC eX11_mostDrifted_22 ci_2 ?_
      refine J.iremK hC eX11_mostDrifted_23 (by decide) ?_
      refine J.callSI (st := [.ref (xad (cX C) 116)]) hC eX11_mostDrifted_24 ml_X11_199 mv_X11_drift (Rle_of (Nat.le_of_ble_eq_true rfl) (Nat.le_of_ble_eq_true rfl)) (c_X11_drift hC.X (x2 / (2 : Int32)) (x2 - x2 / (2 : Int32) * (2 : Int32)) μ) rfl rfl (Nat.le_of_ble_eq_true rfl) (fun r_2 μ_1 => ?_)
      refine J.iald ik_1253 hC eX11_mostDrifted_27 kk_116 ?_
      refine J.aload_n (j := 0) hC eX11_mostDrifted_28 rfl ?_
      refine gf_X11_34 (q := 116) hC eX11_mostDrifted_29 kk_107 rfl ?_
      refine J.iload_n (j := 1) hC eX11_mostDrifted_32 rfl ?_
      refine J.iconst hC eX11_mostDrifted_33 ci_2 ?_
      refine J.idivK hC eX11_mostDrifted_34 (by decide) ?_
      refine J.iload_n (j := 1) hC eX11_mostDrifted_35 rfl ?_
      refine J.iconst hC eX11_mostDrifted_36 ci_2 ?_
      refine J.iremK hC eX11_mostDrifted_37 (by decide) ?_
      refine J.callSI (st := [.ref (xad (cX C) 116), .int (rI μ_1 116 (nx r_2))]) hC eX11_mostDrifted_38 ml_X11_199 mv_X11_drift (Rle_of (Nat.le_of_ble_eq_true rfl) (Nat.le_of_ble_eq_true rfl)) (c_X11_drift hC.X (x1 / (2 : Int32)) (x1 - x1 / (2 : Int32) * (2 : Int32)) μ_1) rfl rfl (Nat.le_of_ble_eq_true rfl) (fun r_4 μ_3 => ?_)
      refine J.iald ik_1253 hC eX11_mostDrifted_41 kk_116 ?_
      refine J.icmp_le hC eX11_mostDrifted_42 (fun _ => ?_) (fun _ => ?_)
      · refine J.iload_n (j := 1) hC eX11_mostDrifted_49 rfl ?_
        refine J.sub [0, 2] rfl ?_
        exact j_X11_mostDrifted_50 hC hr (L_X11_mostDrifted_4  n) ih x2 x1 μ_3
      · refine J.iload_n (j := 2) hC eX11_mostDrifted_45 rfl ?_
        refine J.goto hC eX11_mostDrifted_46 ?_
        refine J.sub [0, 2] rfl ?_
        exact j_X11_mostDrifted_50 hC hr (L_X11_mostDrifted_4  n) ih x2 x2 μ_3
def G_X11_mostDrifted  (μ : Mem) : Option (Int32 × Mem) :=
  L_X11_mostDrifted_4  100000 (0 : Int32) (1 : Int32) μ
set_option maxHeartbeats 4000000 in
theorem c_X11_mostDrifted {X : Wd} (hX : WdOk X)  (μ : Mem) : CtI X yX11_mostDrifted cX11_mostDrifted 3 (some .int) (rmF 2 42) [.ref (xad X 107)] μ (G_X11_mostDrifted  μ) := by
  refine CtI.of hX (plainFor_of_name (by decide)) (by exact Nat.le_of_ble_eq_true rfl) ?_
  intro C hCX hC hr
  subst hCX
  show J C (KI C) μ 0 [(0, .ref (xad (cX C) 107))] [] _
  unfold G_X11_mostDrifted
  refine J.iconst hC eX11_mostDrifted_0 ci_0 ?_
  refine J.istore_n [(1, .int (0 : Int32)), (0, .ref (xad (cX C) 107))] hC eX11_mostDrifted_1 (by decide) rfl ?_
  refine J.iconst hC eX11_mostDrifted_2 ci_1 ?_
  refine J.istore_n [(2, .int (1 : Int32)), (1, .int (0 : Int32)), (0, .ref (xad (cX C) 107))] hC eX11_mostDrifted_3 (by decide) rfl ?_
  refine J.sub [2, 1, 0] rfl ?_
  exact j_X11_mostDrifted_4 hC hr  100000 (0 : Int32) (1 : Int32) μ
