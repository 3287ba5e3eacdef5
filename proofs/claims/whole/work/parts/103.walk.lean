-- X8_readNumber
theorem eX8_readNumber_0 : DD cX8_readNumber 0 (.aload_n 0) 1 1 := ⟨by decide +kernel, rfl⟩
theorem eX8_readNumber_1 : DD cX8_readNumber 1 (.invokevirtual 25) 3 4 := ⟨by decide +kernel, rfl⟩
theorem eX8_readNumber_4 : DD cX8_readNumber 4 (.pop) 1 5 := ⟨by decide +kernel, rfl⟩
theorem eX8_readNumber_5 : DD cX8_readNumber 5 (.iconst 0) 1 6 := ⟨by decide +kernel, rfl⟩
theorem eX8_readNumber_6 : DD cX8_readNumber 6 (.istore 4) 2 8 := ⟨by decide +kernel, rfl⟩
theorem eX8_readNumber_8 : DD cX8_readNumber 8 (.iconst 0) 1 9 := ⟨by decide +kernel, rfl⟩
theorem eX8_readNumber_9 : DD cX8_readNumber 9 (.istore 5) 2 11 := ⟨by decide +kernel, rfl⟩
theorem eX8_readNumber_11 : DD cX8_readNumber 11 (.iload 4) 2 13 := ⟨by decide +kernel, rfl⟩
theorem eX8_readNumber_13 : DD cX8_readNumber 13 (.iload_n 1) 1 14 := ⟨by decide +kernel, rfl⟩
theorem eX8_readNumber_14 : DB cX8_readNumber 14 (.if_icmp .ge 46) (46) 17 60 := ⟨by decide +kernel, rfl, by decide⟩
theorem eX8_readNumber_17 : DD cX8_readNumber 17 (.aload_n 0) 1 18 := ⟨by decide +kernel, rfl⟩
theorem eX8_readNumber_18 : DD cX8_readNumber 18 (.invokevirtual 29) 3 21 := ⟨by decide +kernel, rfl⟩
theorem eX8_readNumber_21 : DB cX8_readNumber 21 (.ifCond .eq 39) (39) 24 60 := ⟨by decide +kernel, rfl, by decide⟩
theorem eX8_readNumber_24 : DD cX8_readNumber 24 (.iload 5) 2 26 := ⟨by decide +kernel, rfl⟩
theorem eX8_readNumber_26 : DD cX8_readNumber 26 (.bipush 10) 2 28 := ⟨by decide +kernel, rfl⟩
theorem eX8_readNumber_28 : DD cX8_readNumber 28 (.imul) 1 29 := ⟨by decide +kernel, rfl⟩
theorem eX8_readNumber_29 : DD cX8_readNumber 29 (.aload_n 0) 1 30 := ⟨by decide +kernel, rfl⟩
theorem eX8_readNumber_30 : DD cX8_readNumber 30 (.getfield 9) 3 33 := ⟨by decide +kernel, rfl⟩
theorem eX8_readNumber_33 : DD cX8_readNumber 33 (.aload_n 0) 1 34 := ⟨by decide +kernel, rfl⟩
theorem eX8_readNumber_34 : DD cX8_readNumber 34 (.getfield 19) 3 37 := ⟨by decide +kernel, rfl⟩
theorem eX8_readNumber_37 : DD cX8_readNumber 37 (.iaload) 1 38 := ⟨by decide +kernel, rfl⟩
theorem eX8_readNumber_38 : DD cX8_readNumber 38 (.iadd) 1 39 := ⟨by decide +kernel, rfl⟩
theorem eX8_readNumber_39 : DD cX8_readNumber 39 (.bipush 48) 2 41 := ⟨by decide +kernel, rfl⟩
theorem eX8_readNumber_41 : DD cX8_readNumber 41 (.isub) 1 42 := ⟨by decide +kernel, rfl⟩
theorem eX8_readNumber_42 : DD cX8_readNumber 42 (.istore 5) 2 44 := ⟨by decide +kernel, rfl⟩
theorem eX8_readNumber_44 : DD cX8_readNumber 44 (.iinc 4 1) 3 47 := ⟨by decide +kernel, rfl⟩
theorem eX8_readNumber_47 : DD cX8_readNumber 47 (.aload_n 0) 1 48 := ⟨by decide +kernel, rfl⟩
theorem eX8_readNumber_48 : DD cX8_readNumber 48 (.dup) 1 49 := ⟨by decide +kernel, rfl⟩
theorem eX8_readNumber_49 : DD cX8_readNumber 49 (.getfield 19) 3 52 := ⟨by decide +kernel, rfl⟩
theorem eX8_readNumber_52 : DD cX8_readNumber 52 (.iconst 1) 1 53 := ⟨by decide +kernel, rfl⟩
theorem eX8_readNumber_53 : DD cX8_readNumber 53 (.iadd) 1 54 := ⟨by decide +kernel, rfl⟩
theorem eX8_readNumber_54 : DD cX8_readNumber 54 (.putfield 19) 3 57 := ⟨by decide +kernel, rfl⟩
theorem eX8_readNumber_57 : DB cX8_readNumber 57 (.goto (-46)) (-46) 60 11 := ⟨by decide +kernel, rfl, by decide⟩
theorem eX8_readNumber_60 : DD cX8_readNumber 60 (.iload 4) 2 62 := ⟨by decide +kernel, rfl⟩
theorem eX8_readNumber_62 : DB cX8_readNumber 62 (.ifCond .eq 10) (10) 65 72 := ⟨by decide +kernel, rfl, by decide⟩
theorem eX8_readNumber_65 : DD cX8_readNumber 65 (.aload_n 0) 1 66 := ⟨by decide +kernel, rfl⟩
theorem eX8_readNumber_66 : DD cX8_readNumber 66 (.invokevirtual 29) 3 69 := ⟨by decide +kernel, rfl⟩
theorem eX8_readNumber_69 : DB cX8_readNumber 69 (.ifCond .eq 13) (13) 72 82 := ⟨by decide +kernel, rfl, by decide⟩
theorem eX8_readNumber_72 : DD cX8_readNumber 72 (.aload_n 0) 1 73 := ⟨by decide +kernel, rfl⟩
theorem eX8_readNumber_73 : DD cX8_readNumber 73 (.aload_n 0) 1 74 := ⟨by decide +kernel, rfl⟩
theorem eX8_readNumber_74 : DD cX8_readNumber 74 (.getfield 19) 3 77 := ⟨by decide +kernel, rfl⟩
theorem eX8_readNumber_77 : DD cX8_readNumber 77 (.putfield 22) 3 80 := ⟨by decide +kernel, rfl⟩
theorem eX8_readNumber_80 : DD cX8_readNumber 80 (.iconst (-1)) 1 81 := ⟨by decide +kernel, rfl⟩
theorem eX8_readNumber_81 : DD cX8_readNumber 81 (.ireturn) 1 82 := ⟨by decide +kernel, rfl⟩
theorem eX8_readNumber_82 : DD cX8_readNumber 82 (.iload 5) 2 84 := ⟨by decide +kernel, rfl⟩
theorem eX8_readNumber_84 : DD cX8_readNumber 84 (.iload_n 2) 1 85 := ⟨by decide +kernel, rfl⟩
theorem eX8_readNumber_85 : DB cX8_readNumber 85 (.if_icmp .lt 9) (9) 88 94 := ⟨by decide +kernel, rfl, by decide⟩
theorem eX8_readNumber_88 : DD cX8_readNumber 88 (.iload 5) 2 90 := ⟨by decide +kernel, rfl⟩
theorem eX8_readNumber_90 : DD cX8_readNumber 90 (.iload_n 3) 1 91 := ⟨by decide +kernel, rfl⟩
theorem eX8_readNumber_91 : DB cX8_readNumber 91 (.if_icmp .le 15) (15) 94 106 := ⟨by decide +kernel, rfl, by decide⟩
theorem eX8_readNumber_94 : DD cX8_readNumber 94 (.aload_n 0) 1 95 := ⟨by decide +kernel, rfl⟩
theorem eX8_readNumber_95 : DD cX8_readNumber 95 (.aload_n 0) 1 96 := ⟨by decide +kernel, rfl⟩
theorem eX8_readNumber_96 : DD cX8_readNumber 96 (.getfield 19) 3 99 := ⟨by decide +kernel, rfl⟩
theorem eX8_readNumber_99 : DD cX8_readNumber 99 (.iconst 1) 1 100 := ⟨by decide +kernel, rfl⟩
theorem eX8_readNumber_100 : DD cX8_readNumber 100 (.isub) 1 101 := ⟨by decide +kernel, rfl⟩
theorem eX8_readNumber_101 : DD cX8_readNumber 101 (.putfield 22) 3 104 := ⟨by decide +kernel, rfl⟩
theorem eX8_readNumber_104 : DD cX8_readNumber 104 (.iconst (-1)) 1 105 := ⟨by decide +kernel, rfl⟩
theorem eX8_readNumber_105 : DD cX8_readNumber 105 (.ireturn) 1 106 := ⟨by decide +kernel, rfl⟩
theorem eX8_readNumber_106 : DD cX8_readNumber 106 (.iload 5) 2 108 := ⟨by decide +kernel, rfl⟩
theorem eX8_readNumber_108 : DD cX8_readNumber 108 (.ireturn) 1 109 := ⟨by decide +kernel, rfl⟩
def F_X8_readNumber_72  (μ : Mem) : Option (Int32 × Mem) :=
  lb (wI μ 1 3 (rI μ 1 2)) (fun μ_1 => some ((-1 : Int32), μ_1))
set_option maxHeartbeats 4000000 in
theorem j_X8_readNumber_72 {C : Cx} (hC : Ok C cX8_readNumber 6 RX8 (rmF 1 20)) (hr : (cT C).sig.returnType = (some .int))  (μ : Mem) : J C (KI C) μ 72 [(0, .ref (xad (cX C) 1))] [] (F_X8_readNumber_72   μ) := by
  unfold F_X8_readNumber_72
  refine J.aload_n (j := 0) hC eX8_readNumber_72 rfl ?_
  refine J.aload_n (j := 0) hC eX8_readNumber_73 rfl ?_
  refine gf_X8_19 hC eX8_readNumber_74 kk_1 ?_
  refine pf_X8_22 hC eX8_readNumber_77 kk_1 (fun μ_1 => ?_)
  refine J.iconst hC eX8_readNumber_80 ci_m1 ?_
  exact J.iret hC hr eX8_readNumber_81
def F_X8_readNumber_94  (μ : Mem) : Option (Int32 × Mem) :=
  lb (wI μ 1 3 ((rI μ 1 2) - (1 : Int32))) (fun μ_1 => some ((-1 : Int32), μ_1))
set_option maxHeartbeats 4000000 in
theorem j_X8_readNumber_94 {C : Cx} (hC : Ok C cX8_readNumber 6 RX8 (rmF 1 20)) (hr : (cT C).sig.returnType = (some .int))  (μ : Mem) : J C (KI C) μ 94 [(0, .ref (xad (cX C) 1))] [] (F_X8_readNumber_94   μ) := by
  unfold F_X8_readNumber_94
  refine J.aload_n (j := 0) hC eX8_readNumber_94 rfl ?_
  refine J.aload_n (j := 0) hC eX8_readNumber_95 rfl ?_
  refine gf_X8_19 hC eX8_readNumber_96 kk_1 ?_
  refine J.iconst hC eX8_readNumber_99 ci_1 ?_
  refine J.isub hC eX8_readNumber_100 ?_
  refine pf_X8_22 hC eX8_readNumber_101 kk_1 (fun μ_1 => ?_)
  refine J.iconst hC eX8_readNumber_104 ci_m1 ?_
  exact J.iret hC hr eX8_readNumber_105
def F_X8_readNumber_60 (x2 : Int32) (x3 : Int32) (x4 : Int32) (x5 : Int32) (μ : Mem) : Option (Int32 × Mem) :=
  if x4 = 0 then F_X8_readNumber_72   μ else bd (G_X8_isDigitNext  μ) (fun r_2 μ_1 => if r_2 = 0 then if x5 < x2 then F_X8_readNumber_94   μ_1 else if x5 ≤ x3 then some (x5, μ_1) else F_X8_readNumber_94   μ_1 else F_X8_readNumber_72   μ_1)
set_option maxHeartbeats 4000000 in
theorem j_X8_readNumber_60 {C : Cx} (hC : Ok C cX8_readNumber 6 RX8 (rmF 1 20)) (hr : (cT C).sig.returnType = (some .int)) (x2 : Int32) (x3 : Int32) (x4 : Int32) (x5 : Int32) (μ : Mem) : J C (KI C) μ 60 [(0, .ref (xad (cX C) 1)), (2, .int x2), (3, .int x3), (4, .int x4), (5, .int x5)] [] (F_X8_readNumber_60  x2 x3 x4 x5 μ) := by
  unfold F_X8_readNumber_60
  refine J.iload (j := 3) hC eX8_readNumber_60 rfl ?_
  refine J.if_eq hC eX8_readNumber_62 (fun _ => ?_) (fun _ => ?_)
  · refine J.sub [0] rfl ?_
    exact j_X8_readNumber_72 hC hr   μ
  · refine J.aload_n (j := 0) hC eX8_readNumber_65 rfl ?_
    refine J.callVI (st := []) hC eX8_readNumber_66 kk_1 (by decide) rfl rfl ml_X8_29 mv_X8_isDigitNext (Rle_of (Nat.le_of_ble_eq_true rfl) (Nat.le_of_ble_eq_true rfl)) (c_X8_isDigitNext hC.X  μ) rfl rfl (Nat.le_of_ble_eq_true rfl) (fun r_2 μ_1 => ?_)
    refine J.if_eq hC eX8_readNumber_69 (fun _ => ?_) (fun _ => ?_)
    · refine J.iload (j := 4) hC eX8_readNumber_82 rfl ?_
      refine J.iload_n (j := 1) hC eX8_readNumber_84 rfl ?_
      refine J.icmp_lt hC eX8_readNumber_85 (fun _ => ?_) (fun _ => ?_)
      · refine J.sub [0] rfl ?_
        exact j_X8_readNumber_94 hC hr   μ_1
      · refine J.iload (j := 4) hC eX8_readNumber_88 rfl ?_
        refine J.iload_n (j := 2) hC eX8_readNumber_90 rfl ?_
        refine J.icmp_le hC eX8_readNumber_91 (fun _ => ?_) (fun _ => ?_)
        · refine J.iload (j := 4) hC eX8_readNumber_106 rfl ?_
          exact J.iret hC hr eX8_readNumber_108
        · refine J.sub [0] rfl ?_
          exact j_X8_readNumber_94 hC hr   μ_1
    · refine J.sub [0] rfl ?_
      exact j_X8_readNumber_72 hC hr   μ_1
def L_X8_readNumber_11 : Nat → Int32 → Int32 → Int32 → Int32 → Int32 → Mem → Option (Int32 × Mem)
  | 0, _, _, _, _, _, _ => none
  | n + 1, x1, x2, x3, x4, x5, μ => if x1 ≤ x4 then F_X8_readNumber_60  x2 x3 x4 x5 μ else bd (G_X8_isDigitNext  μ) (fun r_2 μ_1 => if r_2 = 0 then F_X8_readNumber_60  x2 x3 x4 x5 μ_1 else gq (inB (rI μ_1 1 2) 240) (lb (((x5 * (10 : Int32)) + (rI μ_1 2 (nx (rI μ_1 1 2)))) - (48 : Int32)) (fun x5_3 => lb (x4 + (1 : Int32)) (fun x4_4 => lb (wI μ_1 1 2 ((rI μ_1 1 2) + (1 : Int32))) (fun μ_5 => L_X8_readNumber_11  n x1 x2 x3 x4_4 x5_3 μ_5)))))
set_option maxHeartbeats 4000000 in
theorem j_X8_readNumber_11 {C : Cx} (hC : Ok C cX8_readNumber 6 RX8 (rmF 1 20)) (hr : (cT C).sig.returnType = (some .int)) : ∀ (n : Nat) (x1 : Int32) (x2 : Int32) (x3 : Int32) (x4 : Int32) (x5 : Int32) (μ : Mem), J C (KI C) μ 11 [(0, .ref (xad (cX C) 1)), (1, .int x1), (2, .int x2), (3, .int x3), (4, .int x4), (5, .int x5)] [] (L_X8_readNumber_11  n x1 x2 x3 x4 x5 μ) := by
  intro n
  induction n with
  | zero => intros; exact J.no
  | succ n ih =>
    intro x1 x2 x3 x4 x5 μ
    rw [L_X8_readNumber_11]
    refine J.iload (j := 4) hC eX8_readNumber_11 rfl ?_
    refine J.iload_n (j := 1) hC eX8_readNumber_13 rfl ?_
    refine J.icmp_ge hC eX8_readNumber_14 (fun _ => ?_) (fun _ => ?_)
    · refine J.sub [0, 2, 3, 4, 5] rfl ?_
      exact j_X8_readNumber_60 hC hr  x2 x3 x4 x5 μ
    · refine J.aload_n (j := 0) hC eX8_readNumber_17 rfl ?_
      refine J.callVI (st := []) hC eX8_readNumber_18 kk_1 (by decide) rfl rfl ml_X8_29 mv_X8_isDigitNext (Rle_of (Nat.le_of_ble_eq_true rfl) (Nat.le_of_ble_eq_true rfl)) (c_X8_isDigitNext hC.X  μ) rfl rfl (Nat.le_of_ble_eq_true rfl) (fun r_2 μ_1 => ?_)
      refine J.if_eq hC eX8_readNumber_21 (fun _ => ?_) (fun _ => ?_)
      · refine J.sub [0, 2, 3, 4, 5] rfl ?_
        exact j_X8_readNumber_60 hC hr  x2 x3 x4 x5 μ_1
      · refine J.iload (j := 5) hC eX8_readNumber_24 rfl ?_
        refine J.bipush hC eX8_readNumber_26 cb_10 ?_
        refine J.imul hC eX8_readNumber_28 ?_
        refine J.aload_n (j := 0) hC eX8_readNumber_29 rfl ?_
        refine gf_X8_9 (q := 2) hC eX8_readNumber_30 kk_1 rfl ?_
        refine J.aload_n (j := 0) hC eX8_readNumber_33 rfl ?_
        refine gf_X8_19 hC eX8_readNumber_34 kk_1 ?_
        refine J.iald ik_240 hC eX8_readNumber_37 kk_2 ?_
        refine J.iadd hC eX8_readNumber_38 ?_
        refine J.bipush hC eX8_readNumber_39 cb_48 ?_
        refine J.isub hC eX8_readNumber_41 ?_
        refine J.topi (fun x5_3 => ?_)
        refine J.istore [(5, .int x5_3), (0, .ref (xad (cX C) 1)), (1, .int x1), (2, .int x2), (3, .int x3), (4, .int x4)] hC eX8_readNumber_42 (by decide) rfl ?_
        refine J.iinc (j := 5) (fun x4_4 => [(4, .int x4_4), (5, .int x5_3), (0, .ref (xad (cX C) 1)), (1, .int x1), (2, .int x2), (3, .int x3)]) hC eX8_readNumber_44 rfl ci_1 (by decide) (fun _ => rfl) (fun x4_4 => ?_)
        refine J.aload_n (j := 2) hC eX8_readNumber_47 rfl ?_
        refine J.dup hC eX8_readNumber_48 rfl ?_
        refine gf_X8_19 hC eX8_readNumber_49 kk_1 ?_
        refine J.iconst hC eX8_readNumber_52 ci_1 ?_
        refine J.iadd hC eX8_readNumber_53 ?_
        refine pf_X8_19 hC eX8_readNumber_54 kk_1 (fun μ_5 => ?_)
        refine J.goto hC eX8_readNumber_57 ?_
        refine J.sub [2, 3, 4, 5, 0, 1] rfl ?_
        exact ih x1 x2 x3 x4_4 x5_3 μ_5
def G_X8_readNumber (x1 : Int32) (x2 : Int32) (x3 : Int32) (μ : Mem) : Option (Int32 × Mem) :=
  bd (G_X8_peek  μ) (fun r_2 μ_1 => L_X8_readNumber_11  100000 x1 x2 x3 (0 : Int32) (0 : Int32) μ_1)
set_option maxHeartbeats 4000000 in
theorem c_X8_readNumber {X : Wd} (hX : WdOk X) (x1 : Int32) (x2 : Int32) (x3 : Int32) (μ : Mem) : CtI X yX8_readNumber cX8_readNumber 6 (some .int) (rmF 1 20) [.ref (xad X 1), .int x1, .int x2, .int x3] μ (G_X8_readNumber x1 x2 x3 μ) := by
  refine CtI.of hX (plainFor_of_name (by decide)) (by exact Nat.le_of_ble_eq_true rfl) ?_
  intro C hCX hC hr
  subst hCX
  show J C (KI C) μ 0 [(0, .ref (xad (cX C) 1)), (1, .int x1), (2, .int x2), (3, .int x3)] [] _
  unfold G_X8_readNumber
  refine J.aload_n (j := 0) hC eX8_readNumber_0 rfl ?_
  refine J.callVI (st := []) hC eX8_readNumber_1 kk_1 (by decide) rfl rfl ml_X8_25 mv_X8_peek (Rle_of (Nat.le_of_ble_eq_true rfl) (Nat.le_of_ble_eq_true rfl)) (c_X8_peek hC.X  μ) rfl rfl (Nat.le_of_ble_eq_true rfl) (fun r_2 μ_1 => ?_)
  refine J.pop hC eX8_readNumber_4 rfl ?_
  refine J.iconst hC eX8_readNumber_5 ci_0 ?_
  refine J.istore [(4, .int (0 : Int32)), (0, .ref (xad (cX C) 1)), (1, .int x1), (2, .int x2), (3, .int x3)] hC eX8_readNumber_6 (by decide) rfl ?_
  refine J.iconst hC eX8_readNumber_8 ci_0 ?_
  refine J.istore [(5, .int (0 : Int32)), (4, .int (0 : Int32)), (0, .ref (xad (cX C) 1)), (1, .int x1), (2, .int x2), (3, .int x3)] hC eX8_readNumber_9 (by decide) rfl ?_
  refine J.sub [2, 3, 4, 5, 1, 0] rfl ?_
  exact j_X8_readNumber_11 hC hr  100000 x1 x2 x3 (0 : Int32) (0 : Int32) μ_1
-- X1_readItems
theorem eX1_readItems_0 : DD cX1_readItems 0 (.aload_n 1) 1 1 := ⟨by decide +kernel, rfl⟩
theorem eX1_readItems_1 : DD cX1_readItems 1 (.dup) 1 2 := ⟨by decide +kernel, rfl⟩
theorem eX1_readItems_2 : DD cX1_readItems 2 (.getfield 52) 3 5 := ⟨by decide +kernel, rfl⟩
theorem eX1_readItems_5 : DD cX1_readItems 5 (.iconst 1) 1 6 := ⟨by decide +kernel, rfl⟩
theorem eX1_readItems_6 : DD cX1_readItems 6 (.iadd) 1 7 := ⟨by decide +kernel, rfl⟩
theorem eX1_readItems_7 : DD cX1_readItems 7 (.putfield 52) 3 10 := ⟨by decide +kernel, rfl⟩
theorem eX1_readItems_10 : DD cX1_readItems 10 (.aload_n 0) 1 11 := ⟨by decide +kernel, rfl⟩
theorem eX1_readItems_11 : DD cX1_readItems 11 (.iload_n 2) 1 12 := ⟨by decide +kernel, rfl⟩
theorem eX1_readItems_12 : DD cX1_readItems 12 (.iload_n 3) 1 13 := ⟨by decide +kernel, rfl⟩
theorem eX1_readItems_13 : DD cX1_readItems 13 (.invokevirtual 37) 3 16 := ⟨by decide +kernel, rfl⟩
theorem eX1_readItems_16 : DD cX1_readItems 16 (.iconst 0) 1 17 := ⟨by decide +kernel, rfl⟩
theorem eX1_readItems_17 : DD cX1_readItems 17 (.istore 4) 2 19 := ⟨by decide +kernel, rfl⟩
theorem eX1_readItems_19 : DD cX1_readItems 19 (.iload_n 2) 1 20 := ⟨by decide +kernel, rfl⟩
theorem eX1_readItems_20 : DD cX1_readItems 20 (.istore 5) 2 22 := ⟨by decide +kernel, rfl⟩
theorem eX1_readItems_22 : DD cX1_readItems 22 (.iload 5) 2 24 := ⟨by decide +kernel, rfl⟩
theorem eX1_readItems_24 : DD cX1_readItems 24 (.iload_n 3) 1 25 := ⟨by decide +kernel, rfl⟩
theorem eX1_readItems_25 : DB cX1_readItems 25 (.if_icmp .gt 119) (119) 28 144 := ⟨by decide +kernel, rfl, by decide⟩
theorem eX1_readItems_28 : DD cX1_readItems 28 (.aload_n 1) 1 29 := ⟨by decide +kernel, rfl⟩
theorem eX1_readItems_29 : DD cX1_readItems 29 (.invokevirtual 48) 3 32 := ⟨by decide +kernel, rfl⟩
theorem eX1_readItems_32 : DD cX1_readItems 32 (.istore 6) 2 34 := ⟨by decide +kernel, rfl⟩
theorem eX1_readItems_34 : DD cX1_readItems 34 (.iload 6) 2 36 := ⟨by decide +kernel, rfl⟩
theorem eX1_readItems_36 : DD cX1_readItems 36 (.bipush 59) 2 38 := ⟨by decide +kernel, rfl⟩
theorem eX1_readItems_38 : DB cX1_readItems 38 (.if_icmp .eq 8) (8) 41 46 := ⟨by decide +kernel, rfl, by decide⟩
theorem eX1_readItems_41 : DD cX1_readItems 41 (.iload 6) 2 43 := ⟨by decide +kernel, rfl⟩
theorem eX1_readItems_43 : DB cX1_readItems 43 (.ifCond .ne 5) (5) 46 48 := ⟨by decide +kernel, rfl, by decide⟩
theorem eX1_readItems_46 : DD cX1_readItems 46 (.iconst 1) 1 47 := ⟨by decide +kernel, rfl⟩
theorem eX1_readItems_47 : DD cX1_readItems 47 (.ireturn) 1 48 := ⟨by decide +kernel, rfl⟩
theorem eX1_readItems_48 : DD cX1_readItems 48 (.iload 6) 2 50 := ⟨by decide +kernel, rfl⟩
theorem eX1_readItems_50 : DD cX1_readItems 50 (.iload_n 2) 1 51 := ⟨by decide +kernel, rfl⟩
theorem eX1_readItems_51 : DD cX1_readItems 51 (.iload_n 3) 1 52 := ⟨by decide +kernel, rfl⟩
theorem eX1_readItems_52 : DD cX1_readItems 52 (.invokestatic 76) 3 55 := ⟨by decide +kernel, rfl⟩
theorem eX1_readItems_55 : DD cX1_readItems 55 (.istore 7) 2 57 := ⟨by decide +kernel, rfl⟩
theorem eX1_readItems_57 : DD cX1_readItems 57 (.iload 7) 2 59 := ⟨by decide +kernel, rfl⟩
theorem eX1_readItems_59 : DD cX1_readItems 59 (.iconst (-1)) 1 60 := ⟨by decide +kernel, rfl⟩
theorem eX1_readItems_60 : DB cX1_readItems 60 (.if_icmp .eq 13) (13) 63 73 := ⟨by decide +kernel, rfl, by decide⟩
theorem eX1_readItems_63 : DD cX1_readItems 63 (.iload 4) 2 65 := ⟨by decide +kernel, rfl⟩
theorem eX1_readItems_65 : DD cX1_readItems 65 (.iconst 1) 1 66 := ⟨by decide +kernel, rfl⟩
theorem eX1_readItems_66 : DD cX1_readItems 66 (.iload 7) 2 68 := ⟨by decide +kernel, rfl⟩
theorem eX1_readItems_68 : DD cX1_readItems 68 (.ishl) 1 69 := ⟨by decide +kernel, rfl⟩
theorem eX1_readItems_69 : DD cX1_readItems 69 (.iand) 1 70 := ⟨by decide +kernel, rfl⟩
theorem eX1_readItems_70 : DB cX1_readItems 70 (.ifCond .eq 12) (12) 73 82 := ⟨by decide +kernel, rfl, by decide⟩
theorem eX1_readItems_73 : DD cX1_readItems 73 (.aload_n 1) 1 74 := ⟨by decide +kernel, rfl⟩
theorem eX1_readItems_74 : DD cX1_readItems 74 (.aload_n 1) 1 75 := ⟨by decide +kernel, rfl⟩
theorem eX1_readItems_75 : DD cX1_readItems 75 (.getfield 52) 3 78 := ⟨by decide +kernel, rfl⟩
theorem eX1_readItems_78 : DD cX1_readItems 78 (.invokevirtual 72) 3 81 := ⟨by decide +kernel, rfl⟩
theorem eX1_readItems_81 : DD cX1_readItems 81 (.ireturn) 1 82 := ⟨by decide +kernel, rfl⟩
theorem eX1_readItems_82 : DD cX1_readItems 82 (.iload 4) 2 84 := ⟨by decide +kernel, rfl⟩
theorem eX1_readItems_84 : DD cX1_readItems 84 (.iconst 1) 1 85 := ⟨by decide +kernel, rfl⟩
theorem eX1_readItems_85 : DD cX1_readItems 85 (.iload 7) 2 87 := ⟨by decide +kernel, rfl⟩
theorem eX1_readItems_87 : DD cX1_readItems 87 (.ishl) 1 88 := ⟨by decide +kernel, rfl⟩
theorem eX1_readItems_88 : DD cX1_readItems 88 (.ior) 1 89 := ⟨by decide +kernel, rfl⟩
theorem eX1_readItems_89 : DD cX1_readItems 89 (.istore 4) 2 91 := ⟨by decide +kernel, rfl⟩
theorem eX1_readItems_91 : DD cX1_readItems 91 (.aload_n 1) 1 92 := ⟨by decide +kernel, rfl⟩
theorem eX1_readItems_92 : DD cX1_readItems 92 (.dup) 1 93 := ⟨by decide +kernel, rfl⟩
theorem eX1_readItems_93 : DD cX1_readItems 93 (.getfield 52) 3 96 := ⟨by decide +kernel, rfl⟩
theorem eX1_readItems_96 : DD cX1_readItems 96 (.iconst 1) 1 97 := ⟨by decide +kernel, rfl⟩
theorem eX1_readItems_97 : DD cX1_readItems 97 (.iadd) 1 98 := ⟨by decide +kernel, rfl⟩
theorem eX1_readItems_98 : DD cX1_readItems 98 (.putfield 52) 3 101 := ⟨by decide +kernel, rfl⟩
theorem eX1_readItems_101 : DD cX1_readItems 101 (.aload_n 0) 1 102 := ⟨by decide +kernel, rfl⟩
theorem eX1_readItems_102 : DD cX1_readItems 102 (.getfield 11) 3 105 := ⟨by decide +kernel, rfl⟩
theorem eX1_readItems_105 : DD cX1_readItems 105 (.iload 7) 2 107 := ⟨by decide +kernel, rfl⟩
theorem eX1_readItems_107 : DD cX1_readItems 107 (.aload_n 1) 1 108 := ⟨by decide +kernel, rfl⟩
theorem eX1_readItems_108 : DD cX1_readItems 108 (.iconst 3) 1 109 := ⟨by decide +kernel, rfl⟩
theorem eX1_readItems_109 : DD cX1_readItems 109 (.getstatic 80) 3 112 := ⟨by decide +kernel, rfl⟩
theorem eX1_readItems_112 : DD cX1_readItems 112 (.iload 7) 2 114 := ⟨by decide +kernel, rfl⟩
theorem eX1_readItems_114 : DD cX1_readItems 114 (.iaload) 1 115 := ⟨by decide +kernel, rfl⟩
theorem eX1_readItems_115 : DD cX1_readItems 115 (.getstatic 83) 3 118 := ⟨by decide +kernel, rfl⟩
theorem eX1_readItems_118 : DD cX1_readItems 118 (.iload 7) 2 120 := ⟨by decide +kernel, rfl⟩
theorem eX1_readItems_120 : DD cX1_readItems 120 (.iaload) 1 121 := ⟨by decide +kernel, rfl⟩
theorem eX1_readItems_121 : DD cX1_readItems 121 (.invokevirtual 86) 3 124 := ⟨by decide +kernel, rfl⟩
theorem eX1_readItems_124 : DD cX1_readItems 124 (.iastore) 1 125 := ⟨by decide +kernel, rfl⟩
theorem eX1_readItems_125 : DD cX1_readItems 125 (.aload_n 0) 1 126 := ⟨by decide +kernel, rfl⟩
theorem eX1_readItems_126 : DD cX1_readItems 126 (.getfield 11) 3 129 := ⟨by decide +kernel, rfl⟩
theorem eX1_readItems_129 : DD cX1_readItems 129 (.iload 7) 2 131 := ⟨by decide +kernel, rfl⟩
theorem eX1_readItems_131 : DD cX1_readItems 131 (.iaload) 1 132 := ⟨by decide +kernel, rfl⟩
theorem eX1_readItems_132 : DD cX1_readItems 132 (.iconst (-1)) 1 133 := ⟨by decide +kernel, rfl⟩
theorem eX1_readItems_133 : DB cX1_readItems 133 (.if_icmp .ne 5) (5) 136 138 := ⟨by decide +kernel, rfl, by decide⟩
theorem eX1_readItems_136 : DD cX1_readItems 136 (.iconst 0) 1 137 := ⟨by decide +kernel, rfl⟩
theorem eX1_readItems_137 : DD cX1_readItems 137 (.ireturn) 1 138 := ⟨by decide +kernel, rfl⟩
theorem eX1_readItems_138 : DD cX1_readItems 138 (.iinc 5 1) 3 141 := ⟨by decide +kernel, rfl⟩
theorem eX1_readItems_141 : DB cX1_readItems 141 (.goto (-119)) (-119) 144 22 := ⟨by decide +kernel, rfl, by decide⟩
theorem eX1_readItems_144 : DD cX1_readItems 144 (.aload_n 1) 1 145 := ⟨by decide +kernel, rfl⟩
theorem eX1_readItems_145 : DD cX1_readItems 145 (.aload_n 1) 1 146 := ⟨by decide +kernel, rfl⟩
theorem eX1_readItems_146 : DD cX1_readItems 146 (.getfield 52) 3 149 := ⟨by decide +kernel, rfl⟩
theorem eX1_readItems_149 : DD cX1_readItems 149 (.invokevirtual 72) 3 152 := ⟨by decide +kernel, rfl⟩
theorem eX1_readItems_152 : DD cX1_readItems 152 (.ireturn) 1 153 := ⟨by decide +kernel, rfl⟩
def F_X1_readItems_73  (μ : Mem) : Option (Int32 × Mem) :=
  bd (G_X8_fail (rI μ 1 2) μ) (fun r_2 μ_1 => gq (bB r_2) (some (r_2, μ_1)))
set_option maxHeartbeats 4000000 in
theorem j_X1_readItems_73 {C : Cx} (hC : Ok C cX1_readItems 8 RX1 (rmF 5 108)) (hr : (cT C).sig.returnType = (some .boolean))  (μ : Mem) : J C (KI C) μ 73 [(1, .ref (xad (cX C) 1))] [] (F_X1_readItems_73   μ) := by
  unfold F_X1_readItems_73
  refine J.aload_n (j := 0) hC eX1_readItems_73 rfl ?_
  refine J.aload_n (j := 0) hC eX1_readItems_74 rfl ?_
  refine gf_X1_52 hC eX1_readItems_75 kk_1 ?_
  refine J.callVI (st := []) hC eX1_readItems_78 kk_1 (by decide) rfl rfl ml_X1_72 mv_X8_fail (Rle_of (Nat.le_of_ble_eq_true rfl) (Nat.le_of_ble_eq_true rfl)) (c_X8_fail hC.X (rI μ 1 2) μ) rfl rfl (Nat.le_of_ble_eq_true rfl) (fun r_2 μ_1 => ?_)
  exact J.zret hC hr eX1_readItems_81
def L_X1_readItems_22 : Nat → Int32 → Int32 → Int32 → Int32 → Mem → Option (Int32 × Mem)
  | 0, _, _, _, _, _ => none
  | n + 1, x2, x3, x4, x5, μ => if x3 < x5 then bd (G_X8_fail (rI μ 1 2) μ) (fun r_2 μ_1 => gq (bB r_2) (some (r_2, μ_1))) else bd (G_X8_peek  μ) (fun r_4 μ_3 => if r_4 = (59 : Int32) then some ((1 : Int32), μ_3) else if r_4 = 0 then some ((1 : Int32), μ_3) else bd (G_X1_itemOf r_4 x2 x3 μ_3) (fun r_6 μ_5 => if r_6 = (-1 : Int32) then F_X1_readItems_73   μ_5 else if (x4 &&& ((1 : Int32) <<< (r_6 &&& 31))) = 0 then lb (x4 ||| ((1 : Int32) <<< (r_6 &&& 31))) (fun x4_7 => lb (wI μ_5 1 2 ((rI μ_5 1 2) + (1 : Int32))) (fun μ_8 => gq (inB r_6 8) (gq (inB r_6 8) (bd (G_X8_readNumber (3 : Int32) (tLOW (nx r_6)) (tHIGH (nx r_6)) μ_8) (fun r_10 μ_9 => gq (inB r_6 8) (lb (wI μ_9 4 (nx r_6) r_10) (fun μ_11 => gq (inB r_6 8) (if (rI μ_11 4 (nx r_6)) = (-1 : Int32) then some ((0 : Int32), μ_11) else lb (x5 + (1 : Int32)) (fun x5_12 => L_X1_readItems_22  n x2 x3 x4_7 x5_12 μ_11))))))))) else F_X1_readItems_73   μ_5))
set_option maxHeartbeats 4000000 in
theorem j_X1_readItems_22 {C : Cx} (hC : Ok C cX1_readItems 8 RX1 (rmF 5 108)) (hr : (cT C).sig.returnType = (some .boolean)) : ∀ (n : Nat) (x2 : Int32) (x3 : Int32) (x4 : Int32) (x5 : Int32) (μ : Mem), J C (KI C) μ 22 [(0, .ref (xad (cX C) 3)), (1, .ref (xad (cX C) 1)), (2, .int x2), (3, .int x3), (4, .int x4), (5, .int x5)] [] (L_X1_readItems_22  n x2 x3 x4 x5 μ) := by
  intro n
  induction n with
  | zero => intros; exact J.no
  | succ n ih =>
    intro x2 x3 x4 x5 μ
    rw [L_X1_readItems_22]
    refine J.iload (j := 5) hC eX1_readItems_22 rfl ?_
    refine J.iload_n (j := 3) hC eX1_readItems_24 rfl ?_
    refine J.icmp_gt hC eX1_readItems_25 (fun _ => ?_) (fun _ => ?_)
    · refine J.aload_n (j := 1) hC eX1_readItems_144 rfl ?_
      refine J.aload_n (j := 1) hC eX1_readItems_145 rfl ?_
      refine gf_X1_52 hC eX1_readItems_146 kk_1 ?_
      refine J.callVI (st := []) hC eX1_readItems_149 kk_1 (by decide) rfl rfl ml_X1_72 mv_X8_fail (Rle_of (Nat.le_of_ble_eq_true rfl) (Nat.le_of_ble_eq_true rfl)) (c_X8_fail hC.X (rI μ 1 2) μ) rfl rfl (Nat.le_of_ble_eq_true rfl) (fun r_2 μ_1 => ?_)
      exact J.zret hC hr eX1_readItems_152
    · refine J.aload_n (j := 1) hC eX1_readItems_28 rfl ?_
      refine J.callVI (st := []) hC eX1_readItems_29 kk_1 (by decide) rfl rfl ml_X1_48 mv_X8_peek (Rle_of (Nat.le_of_ble_eq_true rfl) (Nat.le_of_ble_eq_true rfl)) (c_X8_peek hC.X  μ) rfl rfl (Nat.le_of_ble_eq_true rfl) (fun r_4 μ_3 => ?_)
      refine J.istore [(6, .int r_4), (0, .ref (xad (cX C) 3)), (1, .ref (xad (cX C) 1)), (2, .int x2), (3, .int x3), (4, .int x4), (5, .int x5)] hC eX1_readItems_32 (by decide) rfl ?_
      refine J.iload (j := 0) hC eX1_readItems_34 rfl ?_
      refine J.bipush hC eX1_readItems_36 cb_59 ?_
      refine J.icmp_eq hC eX1_readItems_38 (fun _ => ?_) (fun _ => ?_)
      · refine J.iconst hC eX1_readItems_46 ci_1 ?_
        exact J.zretB hC hr eX1_readItems_47 rfl
      · refine J.iload (j := 0) hC eX1_readItems_41 rfl ?_
        refine J.if_ne hC eX1_readItems_43 (fun _ => ?_) (fun _ => ?_)
        · refine J.iconst hC eX1_readItems_46 ci_1 ?_
          exact J.zretB hC hr eX1_readItems_47 rfl
        · refine J.iload (j := 0) hC eX1_readItems_48 rfl ?_
          refine J.iload_n (j := 3) hC eX1_readItems_50 rfl ?_
          refine J.iload_n (j := 4) hC eX1_readItems_51 rfl ?_
          refine J.callSI (st := []) hC eX1_readItems_52 ml_X1_76 mv_X1_itemOf (Rle_of (Nat.le_of_ble_eq_true rfl) (Nat.le_of_ble_eq_true rfl)) (c_X1_itemOf hC.X r_4 x2 x3 μ_3) rfl rfl (Nat.le_of_ble_eq_true rfl) (fun r_6 μ_5 => ?_)
          refine J.istore [(7, .int r_6), (6, .int r_4), (0, .ref (xad (cX C) 3)), (1, .ref (xad (cX C) 1)), (2, .int x2), (3, .int x3), (4, .int x4), (5, .int x5)] hC eX1_readItems_55 (by decide) rfl ?_
          refine J.iload (j := 0) hC eX1_readItems_57 rfl ?_
          refine J.iconst hC eX1_readItems_59 ci_m1 ?_
          refine J.icmp_eq hC eX1_readItems_60 (fun _ => ?_) (fun _ => ?_)
          · refine J.sub [3] rfl ?_
            exact j_X1_readItems_73 hC hr   μ_5
          · refine J.iload (j := 6) hC eX1_readItems_63 rfl ?_
            refine J.iconst hC eX1_readItems_65 ci_1 ?_
            refine J.iload (j := 0) hC eX1_readItems_66 rfl ?_
            refine J.ishl hC eX1_readItems_68 ?_
            refine J.iand hC eX1_readItems_69 ?_
            refine J.if_eq hC eX1_readItems_70 (fun _ => ?_) (fun _ => ?_)
            · refine J.iload (j := 6) hC eX1_readItems_82 rfl ?_
              refine J.iconst hC eX1_readItems_84 ci_1 ?_
              refine J.iload (j := 0) hC eX1_readItems_85 rfl ?_
              refine J.ishl hC eX1_readItems_87 ?_
              refine J.ior hC eX1_readItems_88 ?_
              refine J.topi (fun x4_7 => ?_)
              refine J.istore [(4, .int x4_7), (7, .int r_6), (6, .int r_4), (0, .ref (xad (cX C) 3)), (1, .ref (xad (cX C) 1)), (2, .int x2), (3, .int x3), (5, .int x5)] hC eX1_readItems_89 (by decide) rfl ?_
              refine J.aload_n (j := 4) hC eX1_readItems_91 rfl ?_
              refine J.dup hC eX1_readItems_92 rfl ?_
              refine gf_X1_52 hC eX1_readItems_93 kk_1 ?_
              refine J.iconst hC eX1_readItems_96 ci_1 ?_
              refine J.iadd hC eX1_readItems_97 ?_
              refine pf_X1_52 hC eX1_readItems_98 kk_1 (fun μ_8 => ?_)
              refine J.aload_n (j := 3) hC eX1_readItems_101 rfl ?_
              refine gf_X1_11 (q := 4) hC eX1_readItems_102 kk_3 rfl ?_
              refine J.iload (j := 1) hC eX1_readItems_105 rfl ?_
              refine J.aload_n (j := 4) hC eX1_readItems_107 rfl ?_
              refine J.iconst hC eX1_readItems_108 ci_3 ?_
              refine J.gets hC eX1_readItems_109 hC.St.1.1 fl_X1_80 rfl ?_
              refine J.iload (j := 1) hC eX1_readItems_112 rfl ?_
              refine J.tald hC eX1_readItems_114 hC.St.1.2 ?_
              refine J.gets hC eX1_readItems_115 hC.St.2.1.1 fl_X1_83 rfl ?_
              refine J.iload (j := 1) hC eX1_readItems_118 rfl ?_
              refine J.tald hC eX1_readItems_120 hC.St.2.1.2 ?_
              refine J.callVI (st := [.int r_6, .ref (xad (cX C) 4)]) hC eX1_readItems_121 kk_1 (by decide) rfl rfl ml_X1_86 mv_X8_readNumber (Rle_of (Nat.le_of_ble_eq_true rfl) (Nat.le_of_ble_eq_true rfl)) (c_X8_readNumber hC.X (3 : Int32) (tLOW (nx r_6)) (tHIGH (nx r_6)) μ_8) rfl rfl (Nat.le_of_ble_eq_true rfl) (fun r_10 μ_9 => ?_)
              refine J.iast ik_8 hC eX1_readItems_124 kk_4 (fun μ_11 => ?_)
              refine J.aload_n (j := 3) hC eX1_readItems_125 rfl ?_
              refine gf_X1_11 (q := 4) hC eX1_readItems_126 kk_3 rfl ?_
              refine J.iload (j := 1) hC eX1_readItems_129 rfl ?_
              refine J.iald ik_8 hC eX1_readItems_131 kk_4 ?_
              refine J.iconst hC eX1_readItems_132 ci_m1 ?_
              refine J.icmp_ne hC eX1_readItems_133 (fun _ => ?_) (fun _ => ?_)
              · refine J.iconst hC eX1_readItems_136 ci_0 ?_
                exact J.zretB hC hr eX1_readItems_137 rfl
              · refine J.iinc (j := 7) (fun x5_12 => [(5, .int x5_12), (4, .int x4_7), (7, .int r_6), (6, .int r_4), (0, .ref (xad (cX C) 3)), (1, .ref (xad (cX C) 1)), (2, .int x2), (3, .int x3)]) hC eX1_readItems_138 rfl ci_1 (by decide) (fun _ => rfl) (fun x5_12 => ?_)
                refine J.goto hC eX1_readItems_141 ?_
                refine J.sub [4, 5, 6, 7, 1, 0] rfl ?_
                exact ih x2 x3 x4_7 x5_12 μ_11
            · refine J.sub [3] rfl ?_
              exact j_X1_readItems_73 hC hr   μ_5
def G_X1_readItems (x2 : Int32) (x3 : Int32) (μ : Mem) : Option (Int32 × Mem) :=
  lb (wI μ 1 2 ((rI μ 1 2) + (1 : Int32))) (fun μ_1 => bd (G_X1_resetItems x2 x3 μ_1) (fun r_3 μ_2 => L_X1_readItems_22  100000 x2 x3 (0 : Int32) x2 μ_2))
set_option maxHeartbeats 4000000 in
theorem c_X1_readItems {X : Wd} (hX : WdOk X) (x2 : Int32) (x3 : Int32) (μ : Mem) : CtI X yX1_readItems cX1_readItems 8 (some .boolean) (rmF 5 108) [.ref (xad X 3), .ref (xad X 1), .int x2, .int x3] μ (G_X1_readItems x2 x3 μ) := by
  refine CtI.of hX (plainFor_of_name (by decide)) (by exact Nat.le_of_ble_eq_true rfl) ?_
  intro C hCX hC hr
  subst hCX
  show J C (KI C) μ 0 [(0, .ref (xad (cX C) 3)), (1, .ref (xad (cX C) 1)), (2, .int x2), (3, .int x3)] [] _
  unfold G_X1_readItems
  refine J.aload_n (j := 1) hC eX1_readItems_0 rfl ?_
  refine J.dup hC eX1_readItems_1 rfl ?_
  refine gf_X1_52 hC eX1_readItems_2 kk_1 ?_
  refine J.iconst hC eX1_readItems_5 ci_1 ?_
  refine J.iadd hC eX1_readItems_6 ?_
  refine pf_X1_52 hC eX1_readItems_7 kk_1 (fun μ_1 => ?_)
  refine J.aload_n (j := 0) hC eX1_readItems_10 rfl ?_
  refine J.iload_n (j := 2) hC eX1_readItems_11 rfl ?_
  refine J.iload_n (j := 3) hC eX1_readItems_12 rfl ?_
  refine J.callVV (st := []) hC eX1_readItems_13 kk_3 (by decide) rfl rfl ml_X1_37 mv_X1_resetItems (Rle_of (Nat.le_of_ble_eq_true rfl) (Nat.le_of_ble_eq_true rfl)) (c_X1_resetItems hC.X x2 x3 μ_1) rfl rfl (Nat.le_of_ble_eq_true rfl) (fun r_3 μ_2 => ?_)
  refine J.iconst hC eX1_readItems_16 ci_0 ?_
  refine J.istore [(4, .int (0 : Int32)), (0, .ref (xad (cX C) 3)), (1, .ref (xad (cX C) 1)), (2, .int x2), (3, .int x3)] hC eX1_readItems_17 (by decide) rfl ?_
  refine J.iload_n (j := 3) hC eX1_readItems_19 rfl ?_
  refine J.istore [(5, .int x2), (4, .int (0 : Int32)), (0, .ref (xad (cX C) 3)), (1, .ref (xad (cX C) 1)), (2, .int x2), (3, .int x3)] hC eX1_readItems_20 (by decide) rfl ?_
  refine J.sub [2, 3, 4, 5, 1, 0] rfl ?_
  exact j_X1_readItems_22 hC hr  100000 x2 x3 (0 : Int32) x2 μ_2
-- X1_readClause
theorem eX1_readClause_0 : DD cX1_readClause 0 (.aload_n 1) 1 1 := ⟨by decide +kernel, rfl⟩
theorem eX1_readClause_1 : DD cX1_readClause 1 (.invokevirtual 48) 3 4 := ⟨by decide +kernel, rfl⟩
theorem eX1_readClause_4 : DD cX1_readClause 4 (.istore_n 2) 1 5 := ⟨by decide +kernel, rfl⟩
theorem eX1_readClause_5 : DD cX1_readClause 5 (.iload_n 2) 1 6 := ⟨by decide +kernel, rfl⟩
theorem eX1_readClause_6 : DD cX1_readClause 6 (.bipush 115) 2 8 := ⟨by decide +kernel, rfl⟩
theorem eX1_readClause_8 : DB cX1_readClause 8 (.if_icmp .ne 23) (23) 11 31 := ⟨by decide +kernel, rfl, by decide⟩
theorem eX1_readClause_11 : DD cX1_readClause 11 (.aload_n 0) 1 12 := ⟨by decide +kernel, rfl⟩
theorem eX1_readClause_12 : DD cX1_readClause 12 (.getfield 26) 3 15 := ⟨by decide +kernel, rfl⟩
theorem eX1_readClause_15 : DB cX1_readClause 15 (.ifCond .ne 16) (16) 18 31 := ⟨by decide +kernel, rfl, by decide⟩
theorem eX1_readClause_18 : DD cX1_readClause 18 (.aload_n 0) 1 19 := ⟨by decide +kernel, rfl⟩
theorem eX1_readClause_19 : DD cX1_readClause 19 (.iconst 1) 1 20 := ⟨by decide +kernel, rfl⟩
theorem eX1_readClause_20 : DD cX1_readClause 20 (.putfield 26) 3 23 := ⟨by decide +kernel, rfl⟩
theorem eX1_readClause_23 : DD cX1_readClause 23 (.aload_n 0) 1 24 := ⟨by decide +kernel, rfl⟩
theorem eX1_readClause_24 : DD cX1_readClause 24 (.aload_n 1) 1 25 := ⟨by decide +kernel, rfl⟩
theorem eX1_readClause_25 : DD cX1_readClause 25 (.iconst 0) 1 26 := ⟨by decide +kernel, rfl⟩
theorem eX1_readClause_26 : DD cX1_readClause 26 (.iconst 3) 1 27 := ⟨by decide +kernel, rfl⟩
theorem eX1_readClause_27 : DD cX1_readClause 27 (.invokevirtual 62) 3 30 := ⟨by decide +kernel, rfl⟩
theorem eX1_readClause_30 : DD cX1_readClause 30 (.ireturn) 1 31 := ⟨by decide +kernel, rfl⟩
theorem eX1_readClause_31 : DD cX1_readClause 31 (.iload_n 2) 1 32 := ⟨by decide +kernel, rfl⟩
theorem eX1_readClause_32 : DD cX1_readClause 32 (.bipush 116) 2 34 := ⟨by decide +kernel, rfl⟩
theorem eX1_readClause_34 : DB cX1_readClause 34 (.if_icmp .ne 50) (50) 37 84 := ⟨by decide +kernel, rfl, by decide⟩
theorem eX1_readClause_37 : DD cX1_readClause 37 (.aload_n 0) 1 38 := ⟨by decide +kernel, rfl⟩
theorem eX1_readClause_38 : DD cX1_readClause 38 (.getfield 30) 3 41 := ⟨by decide +kernel, rfl⟩
theorem eX1_readClause_41 : DD cX1_readClause 41 (.iconst 3) 1 42 := ⟨by decide +kernel, rfl⟩
theorem eX1_readClause_42 : DB cX1_readClause 42 (.if_icmp .ge 42) (42) 45 84 := ⟨by decide +kernel, rfl, by decide⟩
theorem eX1_readClause_45 : DD cX1_readClause 45 (.aload_n 0) 1 46 := ⟨by decide +kernel, rfl⟩
theorem eX1_readClause_46 : DD cX1_readClause 46 (.aload_n 1) 1 47 := ⟨by decide +kernel, rfl⟩
theorem eX1_readClause_47 : DD cX1_readClause 47 (.iconst 3) 1 48 := ⟨by decide +kernel, rfl⟩
theorem eX1_readClause_48 : DD cX1_readClause 48 (.iconst 4) 1 49 := ⟨by decide +kernel, rfl⟩
theorem eX1_readClause_49 : DD cX1_readClause 49 (.invokevirtual 62) 3 52 := ⟨by decide +kernel, rfl⟩
theorem eX1_readClause_52 : DB cX1_readClause 52 (.ifCond .ne 5) (5) 55 57 := ⟨by decide +kernel, rfl, by decide⟩
theorem eX1_readClause_55 : DD cX1_readClause 55 (.iconst 0) 1 56 := ⟨by decide +kernel, rfl⟩
theorem eX1_readClause_56 : DD cX1_readClause 56 (.ireturn) 1 57 := ⟨by decide +kernel, rfl⟩
theorem eX1_readClause_57 : DD cX1_readClause 57 (.aload_n 0) 1 58 := ⟨by decide +kernel, rfl⟩
theorem eX1_readClause_58 : DD cX1_readClause 58 (.getfield 15) 3 61 := ⟨by decide +kernel, rfl⟩
theorem eX1_readClause_61 : DD cX1_readClause 61 (.aload_n 0) 1 62 := ⟨by decide +kernel, rfl⟩
theorem eX1_readClause_62 : DD cX1_readClause 62 (.getfield 30) 3 65 := ⟨by decide +kernel, rfl⟩
theorem eX1_readClause_65 : DD cX1_readClause 65 (.aload_n 0) 1 66 := ⟨by decide +kernel, rfl⟩
theorem eX1_readClause_66 : DD cX1_readClause 66 (.getfield 11) 3 69 := ⟨by decide +kernel, rfl⟩
theorem eX1_readClause_69 : DD cX1_readClause 69 (.iconst 3) 1 70 := ⟨by decide +kernel, rfl⟩
theorem eX1_readClause_70 : DD cX1_readClause 70 (.iaload) 1 71 := ⟨by decide +kernel, rfl⟩
theorem eX1_readClause_71 : DD cX1_readClause 71 (.iastore) 1 72 := ⟨by decide +kernel, rfl⟩
theorem eX1_readClause_72 : DD cX1_readClause 72 (.aload_n 0) 1 73 := ⟨by decide +kernel, rfl⟩
theorem eX1_readClause_73 : DD cX1_readClause 73 (.dup) 1 74 := ⟨by decide +kernel, rfl⟩
theorem eX1_readClause_74 : DD cX1_readClause 74 (.getfield 30) 3 77 := ⟨by decide +kernel, rfl⟩
theorem eX1_readClause_77 : DD cX1_readClause 77 (.iconst 1) 1 78 := ⟨by decide +kernel, rfl⟩
theorem eX1_readClause_78 : DD cX1_readClause 78 (.iadd) 1 79 := ⟨by decide +kernel, rfl⟩
theorem eX1_readClause_79 : DD cX1_readClause 79 (.putfield 30) 3 82 := ⟨by decide +kernel, rfl⟩
theorem eX1_readClause_82 : DD cX1_readClause 82 (.iconst 1) 1 83 := ⟨by decide +kernel, rfl⟩
theorem eX1_readClause_83 : DD cX1_readClause 83 (.ireturn) 1 84 := ⟨by decide +kernel, rfl⟩
theorem eX1_readClause_84 : DD cX1_readClause 84 (.iload_n 2) 1 85 := ⟨by decide +kernel, rfl⟩
theorem eX1_readClause_85 : DD cX1_readClause 85 (.bipush 114) 2 87 := ⟨by decide +kernel, rfl⟩
theorem eX1_readClause_87 : DB cX1_readClause 87 (.if_icmp .ne 56) (56) 90 143 := ⟨by decide +kernel, rfl, by decide⟩
theorem eX1_readClause_90 : DD cX1_readClause 90 (.aload_n 0) 1 91 := ⟨by decide +kernel, rfl⟩
theorem eX1_readClause_91 : DD cX1_readClause 91 (.getfield 34) 3 94 := ⟨by decide +kernel, rfl⟩
theorem eX1_readClause_94 : DD cX1_readClause 94 (.bipush 20) 2 96 := ⟨by decide +kernel, rfl⟩
theorem eX1_readClause_96 : DB cX1_readClause 96 (.if_icmp .ge 47) (47) 99 143 := ⟨by decide +kernel, rfl, by decide⟩
theorem eX1_readClause_99 : DD cX1_readClause 99 (.aload_n 0) 1 100 := ⟨by decide +kernel, rfl⟩
theorem eX1_readClause_100 : DD cX1_readClause 100 (.aload_n 1) 1 101 := ⟨by decide +kernel, rfl⟩
theorem eX1_readClause_101 : DD cX1_readClause 101 (.iconst 4) 1 102 := ⟨by decide +kernel, rfl⟩
theorem eX1_readClause_102 : DD cX1_readClause 102 (.bipush 8) 2 104 := ⟨by decide +kernel, rfl⟩
theorem eX1_readClause_104 : DD cX1_readClause 104 (.invokevirtual 62) 3 107 := ⟨by decide +kernel, rfl⟩
theorem eX1_readClause_107 : DB cX1_readClause 107 (.ifCond .ne 5) (5) 110 112 := ⟨by decide +kernel, rfl, by decide⟩
theorem eX1_readClause_110 : DD cX1_readClause 110 (.iconst 0) 1 111 := ⟨by decide +kernel, rfl⟩
theorem eX1_readClause_111 : DD cX1_readClause 111 (.ireturn) 1 112 := ⟨by decide +kernel, rfl⟩
theorem eX1_readClause_112 : DD cX1_readClause 112 (.aload_n 0) 1 113 := ⟨by decide +kernel, rfl⟩
theorem eX1_readClause_113 : DD cX1_readClause 113 (.getfield 11) 3 116 := ⟨by decide +kernel, rfl⟩
theorem eX1_readClause_116 : DD cX1_readClause 116 (.iconst 4) 1 117 := ⟨by decide +kernel, rfl⟩
theorem eX1_readClause_117 : DD cX1_readClause 117 (.aload_n 0) 1 118 := ⟨by decide +kernel, rfl⟩
theorem eX1_readClause_118 : DD cX1_readClause 118 (.getfield 18) 3 121 := ⟨by decide +kernel, rfl⟩
theorem eX1_readClause_121 : DD cX1_readClause 121 (.aload_n 0) 1 122 := ⟨by decide +kernel, rfl⟩
theorem eX1_readClause_122 : DD cX1_readClause 122 (.getfield 34) 3 125 := ⟨by decide +kernel, rfl⟩
theorem eX1_readClause_125 : DD cX1_readClause 125 (.iconst 4) 1 126 := ⟨by decide +kernel, rfl⟩
theorem eX1_readClause_126 : DD cX1_readClause 126 (.imul) 1 127 := ⟨by decide +kernel, rfl⟩
theorem eX1_readClause_127 : DD cX1_readClause 127 (.iconst 4) 1 128 := ⟨by decide +kernel, rfl⟩
theorem eX1_readClause_128 : DD cX1_readClause 128 (.invokestatic 66) 3 131 := ⟨by decide +kernel, rfl⟩
theorem eX1_readClause_131 : DD cX1_readClause 131 (.aload_n 0) 1 132 := ⟨by decide +kernel, rfl⟩
theorem eX1_readClause_132 : DD cX1_readClause 132 (.dup) 1 133 := ⟨by decide +kernel, rfl⟩
theorem eX1_readClause_133 : DD cX1_readClause 133 (.getfield 34) 3 136 := ⟨by decide +kernel, rfl⟩
theorem eX1_readClause_136 : DD cX1_readClause 136 (.iconst 1) 1 137 := ⟨by decide +kernel, rfl⟩
theorem eX1_readClause_137 : DD cX1_readClause 137 (.iadd) 1 138 := ⟨by decide +kernel, rfl⟩
theorem eX1_readClause_138 : DD cX1_readClause 138 (.putfield 34) 3 141 := ⟨by decide +kernel, rfl⟩
theorem eX1_readClause_141 : DD cX1_readClause 141 (.iconst 1) 1 142 := ⟨by decide +kernel, rfl⟩
theorem eX1_readClause_142 : DD cX1_readClause 142 (.ireturn) 1 143 := ⟨by decide +kernel, rfl⟩
theorem eX1_readClause_143 : DD cX1_readClause 143 (.aload_n 1) 1 144 := ⟨by decide +kernel, rfl⟩
theorem eX1_readClause_144 : DD cX1_readClause 144 (.aload_n 1) 1 145 := ⟨by decide +kernel, rfl⟩
theorem eX1_readClause_145 : DD cX1_readClause 145 (.getfield 52) 3 148 := ⟨by decide +kernel, rfl⟩
theorem eX1_readClause_148 : DD cX1_readClause 148 (.invokevirtual 72) 3 151 := ⟨by decide +kernel, rfl⟩
theorem eX1_readClause_151 : DD cX1_readClause 151 (.ireturn) 1 152 := ⟨by decide +kernel, rfl⟩
def F_X1_readClause_143  (μ : Mem) : Option (Int32 × Mem) :=
  bd (G_X8_fail (rI μ 1 2) μ) (fun r_2 μ_1 => gq (bB r_2) (some (r_2, μ_1)))
set_option maxHeartbeats 4000000 in
theorem j_X1_readClause_143 {C : Cx} (hC : Ok C cX1_readClause 3 RX1 (rmF 6 135)) (hr : (cT C).sig.returnType = (some .boolean))  (μ : Mem) : J C (KI C) μ 143 [(1, .ref (xad (cX C) 1))] [] (F_X1_readClause_143   μ) := by
  unfold F_X1_readClause_143
  refine J.aload_n (j := 0) hC eX1_readClause_143 rfl ?_
  refine J.aload_n (j := 0) hC eX1_readClause_144 rfl ?_
  refine gf_X1_52 hC eX1_readClause_145 kk_1 ?_
  refine J.callVI (st := []) hC eX1_readClause_148 kk_1 (by decide) rfl rfl ml_X1_72 mv_X8_fail (Rle_of (Nat.le_of_ble_eq_true rfl) (Nat.le_of_ble_eq_true rfl)) (c_X8_fail hC.X (rI μ 1 2) μ) rfl rfl (Nat.le_of_ble_eq_true rfl) (fun r_2 μ_1 => ?_)
  exact J.zret hC hr eX1_readClause_151
def F_X1_readClause_84 (x2 : Int32) (μ : Mem) : Option (Int32 × Mem) :=
  if x2 = (114 : Int32) then if (20 : Int32) ≤ (rI μ 3 5) then F_X1_readClause_143   μ else bd (G_X1_readItems (4 : Int32) (8 : Int32) μ) (fun r_2 μ_1 => if r_2 = 0 then some ((0 : Int32), μ_1) else gq (cpB (4 : Int32) ((rI μ_1 3 5) * (4 : Int32)) (4 : Int32) 8 80) (lb (wC μ_1 4 (nx (4 : Int32)) 6 (nx ((rI μ_1 3 5) * (4 : Int32))) (nx (4 : Int32))) (fun μ_3 => lb (wI μ_3 3 5 ((rI μ_3 3 5) + (1 : Int32))) (fun μ_4 => some ((1 : Int32), μ_4))))) else F_X1_readClause_143   μ
set_option maxHeartbeats 4000000 in
theorem j_X1_readClause_84 {C : Cx} (hC : Ok C cX1_readClause 3 RX1 (rmF 6 135)) (hr : (cT C).sig.returnType = (some .boolean)) (x2 : Int32) (μ : Mem) : J C (KI C) μ 84 [(0, .ref (xad (cX C) 3)), (1, .ref (xad (cX C) 1)), (2, .int x2)] [] (F_X1_readClause_84  x2 μ) := by
  unfold F_X1_readClause_84
  refine J.iload_n (j := 2) hC eX1_readClause_84 rfl ?_
  refine J.bipush hC eX1_readClause_85 cb_114 ?_
  refine J.icmp_ne hC eX1_readClause_87 (fun _ => ?_) (fun _ => ?_)
  · refine J.aload_n (j := 0) hC eX1_readClause_90 rfl ?_
    refine gf_X1_34 hC eX1_readClause_91 kk_3 ?_
    refine J.bipush hC eX1_readClause_94 cb_20 ?_
    refine J.icmp_ge hC eX1_readClause_96 (fun _ => ?_) (fun _ => ?_)
    · refine J.sub [1] rfl ?_
      exact j_X1_readClause_143 hC hr   μ
    · refine J.aload_n (j := 0) hC eX1_readClause_99 rfl ?_
      refine J.aload_n (j := 1) hC eX1_readClause_100 rfl ?_
      refine J.iconst hC eX1_readClause_101 ci_4 ?_
      refine J.bipush hC eX1_readClause_102 cb_8 ?_
      refine J.callVI (st := []) hC eX1_readClause_104 kk_3 (by decide) rfl rfl ml_X1_62 mv_X1_readItems (Rle_of (Nat.le_of_ble_eq_true rfl) (Nat.le_of_ble_eq_true rfl)) (c_X1_readItems hC.X (4 : Int32) (8 : Int32) μ) rfl rfl (Nat.le_of_ble_eq_true rfl) (fun r_2 μ_1 => ?_)
      refine J.if_ne hC eX1_readClause_107 (fun _ => ?_) (fun _ => ?_)
      · refine J.iconst hC eX1_readClause_110 ci_0 ?_
        exact J.zretB hC hr eX1_readClause_111 rfl
      · refine J.aload_n (j := 0) hC eX1_readClause_112 rfl ?_
        refine gf_X1_11 (q := 4) hC eX1_readClause_113 kk_3 rfl ?_
        refine J.iconst hC eX1_readClause_116 ci_4 ?_
        refine J.aload_n (j := 0) hC eX1_readClause_117 rfl ?_
        refine gf_X1_18 (q := 6) hC eX1_readClause_118 kk_3 rfl ?_
        refine J.aload_n (j := 0) hC eX1_readClause_121 rfl ?_
        refine gf_X1_34 hC eX1_readClause_122 kk_3 ?_
        refine J.iconst hC eX1_readClause_125 ci_4 ?_
        refine J.imul hC eX1_readClause_126 ?_
        refine J.iconst hC eX1_readClause_127 ci_4 ?_
        refine J.acpy ik_8 ik_80 hC eX1_readClause_128 kk_4 kk_6 ml_X1_66 w_an w_as w_is (Nat.le_of_ble_eq_true rfl) (Nat.le_of_ble_eq_true rfl) (fun μ_3 => ?_)
        refine J.aload_n (j := 0) hC eX1_readClause_131 rfl ?_
        refine J.dup hC eX1_readClause_132 rfl ?_
        refine gf_X1_34 hC eX1_readClause_133 kk_3 ?_
        refine J.iconst hC eX1_readClause_136 ci_1 ?_
        refine J.iadd hC eX1_readClause_137 ?_
        refine pf_X1_34 hC eX1_readClause_138 kk_3 (fun μ_4 => ?_)
        refine J.iconst hC eX1_readClause_141 ci_1 ?_
        exact J.zretB hC hr eX1_readClause_142 rfl
  · refine J.sub [1] rfl ?_
    exact j_X1_readClause_143 hC hr   μ
def F_X1_readClause_31 (x2 : Int32) (μ : Mem) : Option (Int32 × Mem) :=
  if x2 = (116 : Int32) then if (3 : Int32) ≤ (rI μ 3 4) then F_X1_readClause_84  x2 μ else bd (G_X1_readItems (3 : Int32) (4 : Int32) μ) (fun r_2 μ_1 => if r_2 = 0 then some ((0 : Int32), μ_1) else gq (inB (rI μ_1 3 4) 3) (lb (wI μ_1 5 (nx (rI μ_1 3 4)) (rI μ_1 4 3)) (fun μ_3 => lb (wI μ_3 3 4 ((rI μ_3 3 4) + (1 : Int32))) (fun μ_4 => some ((1 : Int32), μ_4))))) else F_X1_readClause_84  x2 μ
set_option maxHeartbeats 4000000 in
theorem j_X1_readClause_31 {C : Cx} (hC : Ok C cX1_readClause 3 RX1 (rmF 6 135)) (hr : (cT C).sig.returnType = (some .boolean)) (x2 : Int32) (μ : Mem) : J C (KI C) μ 31 [(0, .ref (xad (cX C) 3)), (1, .ref (xad (cX C) 1)), (2, .int x2)] [] (F_X1_readClause_31  x2 μ) := by
  unfold F_X1_readClause_31
  refine J.iload_n (j := 2) hC eX1_readClause_31 rfl ?_
  refine J.bipush hC eX1_readClause_32 cb_116 ?_
  refine J.icmp_ne hC eX1_readClause_34 (fun _ => ?_) (fun _ => ?_)
  · refine J.aload_n (j := 0) hC eX1_readClause_37 rfl ?_
    refine gf_X1_30 hC eX1_readClause_38 kk_3 ?_
    refine J.iconst hC eX1_readClause_41 ci_3 ?_
    refine J.icmp_ge hC eX1_readClause_42 (fun _ => ?_) (fun _ => ?_)
    · refine J.sub [0, 1, 2] rfl ?_
      exact j_X1_readClause_84 hC hr  x2 μ
    · refine J.aload_n (j := 0) hC eX1_readClause_45 rfl ?_
      refine J.aload_n (j := 1) hC eX1_readClause_46 rfl ?_
      refine J.iconst hC eX1_readClause_47 ci_3 ?_
      refine J.iconst hC eX1_readClause_48 ci_4 ?_
      refine J.callVI (st := []) hC eX1_readClause_49 kk_3 (by decide) rfl rfl ml_X1_62 mv_X1_readItems (Rle_of (Nat.le_of_ble_eq_true rfl) (Nat.le_of_ble_eq_true rfl)) (c_X1_readItems hC.X (3 : Int32) (4 : Int32) μ) rfl rfl (Nat.le_of_ble_eq_true rfl) (fun r_2 μ_1 => ?_)
      refine J.if_ne hC eX1_readClause_52 (fun _ => ?_) (fun _ => ?_)
      · refine J.iconst hC eX1_readClause_55 ci_0 ?_
        exact J.zretB hC hr eX1_readClause_56 rfl
      · refine J.aload_n (j := 0) hC eX1_readClause_57 rfl ?_
        refine gf_X1_15 (q := 5) hC eX1_readClause_58 kk_3 rfl ?_
        refine J.aload_n (j := 0) hC eX1_readClause_61 rfl ?_
        refine gf_X1_30 hC eX1_readClause_62 kk_3 ?_
        refine J.aload_n (j := 0) hC eX1_readClause_65 rfl ?_
        refine gf_X1_11 (q := 4) hC eX1_readClause_66 kk_3 rfl ?_
        refine J.iconst hC eX1_readClause_69 ci_3 ?_
        refine J.ialdK (j := 3) ik_8 hC eX1_readClause_70 kk_4 (by decide) (by decide) ?_
        refine J.iast ik_3 hC eX1_readClause_71 kk_5 (fun μ_3 => ?_)
        refine J.aload_n (j := 0) hC eX1_readClause_72 rfl ?_
        refine J.dup hC eX1_readClause_73 rfl ?_
        refine gf_X1_30 hC eX1_readClause_74 kk_3 ?_
        refine J.iconst hC eX1_readClause_77 ci_1 ?_
        refine J.iadd hC eX1_readClause_78 ?_
        refine pf_X1_30 hC eX1_readClause_79 kk_3 (fun μ_4 => ?_)
        refine J.iconst hC eX1_readClause_82 ci_1 ?_
        exact J.zretB hC hr eX1_readClause_83 rfl
  · refine J.sub [0, 1, 2] rfl ?_
    exact j_X1_readClause_84 hC hr  x2 μ
def G_X1_readClause  (μ : Mem) : Option (Int32 × Mem) :=
  bd (G_X8_peek  μ) (fun r_2 μ_1 => if r_2 = (115 : Int32) then if (rI μ_1 3 3) = 0 then lb (wI μ_1 3 3 (1 : Int32)) (fun μ_3 => bd (G_X1_readItems (0 : Int32) (3 : Int32) μ_3) (fun r_5 μ_4 => gq (bB r_5) (some (r_5, μ_4)))) else F_X1_readClause_31  r_2 μ_1 else F_X1_readClause_31  r_2 μ_1)
set_option maxHeartbeats 4000000 in
theorem c_X1_readClause {X : Wd} (hX : WdOk X)  (μ : Mem) : CtI X yX1_readClause cX1_readClause 3 (some .boolean) (rmF 6 135) [.ref (xad X 3), .ref (xad X 1)] μ (G_X1_readClause  μ) := by
  refine CtI.of hX (plainFor_of_name (by decide)) (by exact Nat.le_of_ble_eq_true rfl) ?_
  intro C hCX hC hr
  subst hCX
  show J C (KI C) μ 0 [(0, .ref (xad (cX C) 3)), (1, .ref (xad (cX C) 1))] [] _
  unfold G_X1_readClause
  refine J.aload_n (j := 1) hC eX1_readClause_0 rfl ?_
  refine J.callVI (st := []) hC eX1_readClause_1 kk_1 (by decide) rfl rfl ml_X1_48 mv_X8_peek (Rle_of (Nat.le_of_ble_eq_true rfl) (Nat.le_of_ble_eq_true rfl)) (c_X8_peek hC.X  μ) rfl rfl (Nat.le_of_ble_eq_true rfl) (fun r_2 μ_1 => ?_)
  refine J.istore_n [(2, .int r_2), (0, .ref (xad (cX C) 3)), (1, .ref (xad (cX C) 1))] hC eX1_readClause_4 (by decide) rfl ?_
  refine J.iload_n (j := 0) hC eX1_readClause_5 rfl ?_
  refine J.bipush hC eX1_readClause_6 cb_115 ?_
  refine J.icmp_ne hC eX1_readClause_8 (fun _ => ?_) (fun _ => ?_)
  · refine J.aload_n (j := 1) hC eX1_readClause_11 rfl ?_
    refine gf_X1_26 hC eX1_readClause_12 kk_3 ?_
    refine J.if_ne hC eX1_readClause_15 (fun _ => ?_) (fun _ => ?_)
    · refine J.aload_n (j := 1) hC eX1_readClause_18 rfl ?_
      refine J.iconst hC eX1_readClause_19 ci_1 ?_
      refine pf_X1_26 hC eX1_readClause_20 kk_3 rfl (fun μ_3 => ?_)
      refine J.aload_n (j := 1) hC eX1_readClause_23 rfl ?_
      refine J.aload_n (j := 2) hC eX1_readClause_24 rfl ?_
      refine J.iconst hC eX1_readClause_25 ci_0 ?_
      refine J.iconst hC eX1_readClause_26 ci_3 ?_
      refine J.callVI (st := []) hC eX1_readClause_27 kk_3 (by decide) rfl rfl ml_X1_62 mv_X1_readItems (Rle_of (Nat.le_of_ble_eq_true rfl) (Nat.le_of_ble_eq_true rfl)) (c_X1_readItems hC.X (0 : Int32) (3 : Int32) μ_3) rfl rfl (Nat.le_of_ble_eq_true rfl) (fun r_5 μ_4 => ?_)
      exact J.zret hC hr eX1_readClause_30
    · refine J.sub [1, 2, 0] rfl ?_
      exact j_X1_readClause_31 hC hr  r_2 μ_1
  · refine J.sub [1, 2, 0] rfl ?_
    exact j_X1_readClause_31 hC hr  r_2 μ_1
-- X1_fits
theorem eX1_fits_0 : DD cX1_fits 0 (.iconst 0) 1 1 := ⟨by decide +kernel, rfl⟩
theorem eX1_fits_1 : DD cX1_fits 1 (.istore_n 1) 1 2 := ⟨by decide +kernel, rfl⟩
theorem eX1_fits_2 : DD cX1_fits 2 (.iload_n 1) 1 3 := ⟨by decide +kernel, rfl⟩
theorem eX1_fits_3 : DD cX1_fits 3 (.aload_n 0) 1 4 := ⟨by decide +kernel, rfl⟩
theorem eX1_fits_4 : DD cX1_fits 4 (.getfield 34) 3 7 := ⟨by decide +kernel, rfl⟩
theorem eX1_fits_7 : DB cX1_fits 7 (.if_icmp .ge 56) (56) 10 63 := ⟨by decide +kernel, rfl, by decide⟩
theorem eX1_fits_10 : DD cX1_fits 10 (.aload_n 0) 1 11 := ⟨by decide +kernel, rfl⟩
theorem eX1_fits_11 : DD cX1_fits 11 (.iload_n 1) 1 12 := ⟨by decide +kernel, rfl⟩
theorem eX1_fits_12 : DD cX1_fits 12 (.iconst 0) 1 13 := ⟨by decide +kernel, rfl⟩
theorem eX1_fits_13 : DD cX1_fits 13 (.invokevirtual 100) 3 16 := ⟨by decide +kernel, rfl⟩
theorem eX1_fits_16 : DD cX1_fits 16 (.istore_n 2) 1 17 := ⟨by decide +kernel, rfl⟩
theorem eX1_fits_17 : DD cX1_fits 17 (.iload_n 2) 1 18 := ⟨by decide +kernel, rfl⟩
theorem eX1_fits_18 : DD cX1_fits 18 (.aload_n 0) 1 19 := ⟨by decide +kernel, rfl⟩
theorem eX1_fits_19 : DD cX1_fits 19 (.getfield 30) 3 22 := ⟨by decide +kernel, rfl⟩
theorem eX1_fits_22 : DB cX1_fits 22 (.if_icmp .ge 33) (33) 25 55 := ⟨by decide +kernel, rfl, by decide⟩
theorem eX1_fits_25 : DD cX1_fits 25 (.aload_n 0) 1 26 := ⟨by decide +kernel, rfl⟩
theorem eX1_fits_26 : DD cX1_fits 26 (.iload_n 1) 1 27 := ⟨by decide +kernel, rfl⟩
theorem eX1_fits_27 : DD cX1_fits 27 (.iconst 1) 1 28 := ⟨by decide +kernel, rfl⟩
theorem eX1_fits_28 : DD cX1_fits 28 (.invokevirtual 100) 3 31 := ⟨by decide +kernel, rfl⟩
theorem eX1_fits_31 : DD cX1_fits 31 (.aload_n 0) 1 32 := ⟨by decide +kernel, rfl⟩
theorem eX1_fits_32 : DD cX1_fits 32 (.getfield 15) 3 35 := ⟨by decide +kernel, rfl⟩
theorem eX1_fits_35 : DD cX1_fits 35 (.iload_n 2) 1 36 := ⟨by decide +kernel, rfl⟩
theorem eX1_fits_36 : DD cX1_fits 36 (.iaload) 1 37 := ⟨by decide +kernel, rfl⟩
theorem eX1_fits_37 : DB cX1_fits 37 (.if_icmp .ge 18) (18) 40 55 := ⟨by decide +kernel, rfl, by decide⟩
theorem eX1_fits_40 : DD cX1_fits 40 (.aload_n 0) 1 41 := ⟨by decide +kernel, rfl⟩
theorem eX1_fits_41 : DD cX1_fits 41 (.iload_n 1) 1 42 := ⟨by decide +kernel, rfl⟩
theorem eX1_fits_42 : DD cX1_fits 42 (.iconst 2) 1 43 := ⟨by decide +kernel, rfl⟩
theorem eX1_fits_43 : DD cX1_fits 43 (.invokevirtual 100) 3 46 := ⟨by decide +kernel, rfl⟩
theorem eX1_fits_46 : DD cX1_fits 46 (.aload_n 0) 1 47 := ⟨by decide +kernel, rfl⟩
theorem eX1_fits_47 : DD cX1_fits 47 (.getfield 15) 3 50 := ⟨by decide +kernel, rfl⟩
theorem eX1_fits_50 : DD cX1_fits 50 (.iload_n 2) 1 51 := ⟨by decide +kernel, rfl⟩
theorem eX1_fits_51 : DD cX1_fits 51 (.iaload) 1 52 := ⟨by decide +kernel, rfl⟩
theorem eX1_fits_52 : DB cX1_fits 52 (.if_icmp .lt 5) (5) 55 57 := ⟨by decide +kernel, rfl, by decide⟩
theorem eX1_fits_55 : DD cX1_fits 55 (.iconst 0) 1 56 := ⟨by decide +kernel, rfl⟩
theorem eX1_fits_56 : DD cX1_fits 56 (.ireturn) 1 57 := ⟨by decide +kernel, rfl⟩
theorem eX1_fits_57 : DD cX1_fits 57 (.iinc 1 1) 3 60 := ⟨by decide +kernel, rfl⟩
theorem eX1_fits_60 : DB cX1_fits 60 (.goto (-58)) (-58) 63 2 := ⟨by decide +kernel, rfl, by decide⟩
theorem eX1_fits_63 : DD cX1_fits 63 (.aload_n 0) 1 64 := ⟨by decide +kernel, rfl⟩
theorem eX1_fits_64 : DD cX1_fits 64 (.getfield 30) 3 67 := ⟨by decide +kernel, rfl⟩
theorem eX1_fits_67 : DB cX1_fits 67 (.ifCond .le 7) (7) 70 74 := ⟨by decide +kernel, rfl, by decide⟩
theorem eX1_fits_70 : DD cX1_fits 70 (.iconst 1) 1 71 := ⟨by decide +kernel, rfl⟩
theorem eX1_fits_71 : DB cX1_fits 71 (.goto 4) (4) 74 75 := ⟨by decide +kernel, rfl, by decide⟩
theorem eX1_fits_74 : DD cX1_fits 74 (.iconst 0) 1 75 := ⟨by decide +kernel, rfl⟩
theorem eX1_fits_75 : DD cX1_fits 75 (.ireturn) 1 76 := ⟨by decide +kernel, rfl⟩
def L_X1_fits_2 : Nat → Int32 → Mem → Option (Int32 × Mem)
  | 0, _, _ => none
  | n + 1, x1, μ => if (rI μ 3 5) ≤ x1 then if (rI μ 3 4) ≤ 0 then some ((0 : Int32), μ) else some ((1 : Int32), μ) else bd (G_X1_rowItem x1 (0 : Int32) μ) (fun r_2 μ_1 => if (rI μ_1 3 4) ≤ r_2 then some ((0 : Int32), μ_1) else bd (G_X1_rowItem x1 (1 : Int32) μ_1) (fun r_4 μ_3 => gq (inB r_2 3) (if (rI μ_3 5 (nx r_2)) ≤ r_4 then some ((0 : Int32), μ_3) else bd (G_X1_rowItem x1 (2 : Int32) μ_3) (fun r_6 μ_5 => gq (inB r_2 3) (if r_6 < (rI μ_5 5 (nx r_2)) then lb (x1 + (1 : Int32)) (fun x1_7 => L_X1_fits_2  n x1_7 μ_5) else some ((0 : Int32), μ_5))))))
set_option maxHeartbeats 4000000 in
theorem j_X1_fits_2 {C : Cx} (hC : Ok C cX1_fits 3 RX1 (rmF 1 22)) (hr : (cT C).sig.returnType = (some .boolean)) : ∀ (n : Nat) (x1 : Int32) (μ : Mem), J C (KI C) μ 2 [(0, .ref (xad (cX C) 3)), (1, .int x1)] [] (L_X1_fits_2  n x1 μ) := by
  intro n
  induction n with
  | zero => intros; exact J.no
  | succ n ih =>
    intro x1 μ
    rw [L_X1_fits_2]
    refine J.iload_n (j := 1) hC eX1_fits_2 rfl ?_
    refine J.aload_n (j := 0) hC eX1_fits_3 rfl ?_
    refine gf_X1_34 hC eX1_fits_4 kk_3 ?_
    refine J.icmp_ge hC eX1_fits_7 (fun _ => ?_) (fun _ => ?_)
    · refine J.aload_n (j := 0) hC eX1_fits_63 rfl ?_
      refine gf_X1_30 hC eX1_fits_64 kk_3 ?_
      refine J.if_le hC eX1_fits_67 (fun _ => ?_) (fun _ => ?_)
      · refine J.iconst hC eX1_fits_74 ci_0 ?_
        exact J.zretB hC hr eX1_fits_75 rfl
      · refine J.iconst hC eX1_fits_70 ci_1 ?_
        refine J.goto hC eX1_fits_71 ?_
        exact J.zretB hC hr eX1_fits_75 rfl
    · refine J.aload_n (j := 0) hC eX1_fits_10 rfl ?_
      refine J.iload_n (j := 1) hC eX1_fits_11 rfl ?_
      refine J.iconst hC eX1_fits_12 ci_0 ?_
      refine J.callVI (st := []) hC eX1_fits_13 kk_3 (by decide) rfl rfl ml_X1_100 mv_X1_rowItem (Rle_of (Nat.le_of_ble_eq_true rfl) (Nat.le_of_ble_eq_true rfl)) (c_X1_rowItem hC.X x1 (0 : Int32) μ) rfl rfl (Nat.le_of_ble_eq_true rfl) (fun r_2 μ_1 => ?_)
      refine J.istore_n [(2, .int r_2), (0, .ref (xad (cX C) 3)), (1, .int x1)] hC eX1_fits_16 (by decide) rfl ?_
      refine J.iload_n (j := 0) hC eX1_fits_17 rfl ?_
      refine J.aload_n (j := 1) hC eX1_fits_18 rfl ?_
      refine gf_X1_30 hC eX1_fits_19 kk_3 ?_
      refine J.icmp_ge hC eX1_fits_22 (fun _ => ?_) (fun _ => ?_)
      · refine J.iconst hC eX1_fits_55 ci_0 ?_
        exact J.zretB hC hr eX1_fits_56 rfl
      · refine J.aload_n (j := 1) hC eX1_fits_25 rfl ?_
        refine J.iload_n (j := 2) hC eX1_fits_26 rfl ?_
        refine J.iconst hC eX1_fits_27 ci_1 ?_
        refine J.callVI (st := []) hC eX1_fits_28 kk_3 (by decide) rfl rfl ml_X1_100 mv_X1_rowItem (Rle_of (Nat.le_of_ble_eq_true rfl) (Nat.le_of_ble_eq_true rfl)) (c_X1_rowItem hC.X x1 (1 : Int32) μ_1) rfl rfl (Nat.le_of_ble_eq_true rfl) (fun r_4 μ_3 => ?_)
        refine J.aload_n (j := 1) hC eX1_fits_31 rfl ?_
        refine gf_X1_15 (q := 5) hC eX1_fits_32 kk_3 rfl ?_
        refine J.iload_n (j := 0) hC eX1_fits_35 rfl ?_
        refine J.iald ik_3 hC eX1_fits_36 kk_5 ?_
        refine J.icmp_ge hC eX1_fits_37 (fun _ => ?_) (fun _ => ?_)
        · refine J.iconst hC eX1_fits_55 ci_0 ?_
          exact J.zretB hC hr eX1_fits_56 rfl
        · refine J.aload_n (j := 1) hC eX1_fits_40 rfl ?_
          refine J.iload_n (j := 2) hC eX1_fits_41 rfl ?_
          refine J.iconst hC eX1_fits_42 ci_2 ?_
          refine J.callVI (st := []) hC eX1_fits_43 kk_3 (by decide) rfl rfl ml_X1_100 mv_X1_rowItem (Rle_of (Nat.le_of_ble_eq_true rfl) (Nat.le_of_ble_eq_true rfl)) (c_X1_rowItem hC.X x1 (2 : Int32) μ_3) rfl rfl (Nat.le_of_ble_eq_true rfl) (fun r_6 μ_5 => ?_)
          refine J.aload_n (j := 1) hC eX1_fits_46 rfl ?_
          refine gf_X1_15 (q := 5) hC eX1_fits_47 kk_3 rfl ?_
          refine J.iload_n (j := 0) hC eX1_fits_50 rfl ?_
          refine J.iald ik_3 hC eX1_fits_51 kk_5 ?_
          refine J.icmp_lt hC eX1_fits_52 (fun _ => ?_) (fun _ => ?_)
          · refine J.iinc (j := 2) (fun x1_7 => [(1, .int x1_7), (2, .int r_2), (0, .ref (xad (cX C) 3))]) hC eX1_fits_57 rfl ci_1 (by decide) (fun _ => rfl) (fun x1_7 => ?_)
            refine J.goto hC eX1_fits_60 ?_
            refine J.sub [2, 0] rfl ?_
            exact ih x1_7 μ_5
          · refine J.iconst hC eX1_fits_55 ci_0 ?_
            exact J.zretB hC hr eX1_fits_56 rfl
def G_X1_fits  (μ : Mem) : Option (Int32 × Mem) :=
  L_X1_fits_2  100000 (0 : Int32) μ
set_option maxHeartbeats 4000000 in
theorem c_X1_fits {X : Wd} (hX : WdOk X)  (μ : Mem) : CtI X yX1_fits cX1_fits 3 (some .boolean) (rmF 1 22) [.ref (xad X 3)] μ (G_X1_fits  μ) := by
  refine CtI.of hX (plainFor_of_name (by decide)) (by exact Nat.le_of_ble_eq_true rfl) ?_
  intro C hCX hC hr
  subst hCX
  show J C (KI C) μ 0 [(0, .ref (xad (cX C) 3))] [] _
  unfold G_X1_fits
  refine J.iconst hC eX1_fits_0 ci_0 ?_
  refine J.istore_n [(1, .int (0 : Int32)), (0, .ref (xad (cX C) 3))] hC eX1_fits_1 (by decide) rfl ?_
  refine J.sub [1, 0] rfl ?_
  exact j_X1_fits_2 hC hr  100000 (0 : Int32) μ
-- X1_read
theorem eX1_read_0 : DD cX1_read 0 (.aload_n 1) 1 1 := ⟨by decide +kernel, rfl⟩
theorem eX1_read_1 : DD cX1_read 1 (.invokevirtual 21) 3 4 := ⟨by decide +kernel, rfl⟩
theorem eX1_read_4 : DD cX1_read 4 (.aload_n 0) 1 5 := ⟨by decide +kernel, rfl⟩
theorem eX1_read_5 : DD cX1_read 5 (.iconst 0) 1 6 := ⟨by decide +kernel, rfl⟩
theorem eX1_read_6 : DD cX1_read 6 (.putfield 26) 3 9 := ⟨by decide +kernel, rfl⟩
theorem eX1_read_9 : DD cX1_read 9 (.aload_n 0) 1 10 := ⟨by decide +kernel, rfl⟩
theorem eX1_read_10 : DD cX1_read 10 (.iconst 0) 1 11 := ⟨by decide +kernel, rfl⟩
theorem eX1_read_11 : DD cX1_read 11 (.putfield 30) 3 14 := ⟨by decide +kernel, rfl⟩
theorem eX1_read_14 : DD cX1_read 14 (.aload_n 0) 1 15 := ⟨by decide +kernel, rfl⟩
theorem eX1_read_15 : DD cX1_read 15 (.iconst 0) 1 16 := ⟨by decide +kernel, rfl⟩
theorem eX1_read_16 : DD cX1_read 16 (.putfield 34) 3 19 := ⟨by decide +kernel, rfl⟩
theorem eX1_read_19 : DD cX1_read 19 (.aload_n 0) 1 20 := ⟨by decide +kernel, rfl⟩
theorem eX1_read_20 : DD cX1_read 20 (.iconst 0) 1 21 := ⟨by decide +kernel, rfl⟩
theorem eX1_read_21 : DD cX1_read 21 (.iconst 3) 1 22 := ⟨by decide +kernel, rfl⟩
theorem eX1_read_22 : DD cX1_read 22 (.invokevirtual 37) 3 25 := ⟨by decide +kernel, rfl⟩
theorem eX1_read_25 : DD cX1_read 25 (.iconst 0) 1 26 := ⟨by decide +kernel, rfl⟩
theorem eX1_read_26 : DD cX1_read 26 (.istore_n 2) 1 27 := ⟨by decide +kernel, rfl⟩
theorem eX1_read_27 : DD cX1_read 27 (.iload_n 2) 1 28 := ⟨by decide +kernel, rfl⟩
theorem eX1_read_28 : DD cX1_read 28 (.sipush 240) 3 31 := ⟨by decide +kernel, rfl⟩
theorem eX1_read_31 : DB cX1_read 31 (.if_icmp .gt 42) (42) 34 73 := ⟨by decide +kernel, rfl, by decide⟩
theorem eX1_read_34 : DD cX1_read 34 (.aload_n 0) 1 35 := ⟨by decide +kernel, rfl⟩
theorem eX1_read_35 : DD cX1_read 35 (.aload_n 1) 1 36 := ⟨by decide +kernel, rfl⟩
theorem eX1_read_36 : DD cX1_read 36 (.invokevirtual 41) 3 39 := ⟨by decide +kernel, rfl⟩
theorem eX1_read_39 : DB cX1_read 39 (.ifCond .ne 8) (8) 42 47 := ⟨by decide +kernel, rfl, by decide⟩
theorem eX1_read_42 : DD cX1_read 42 (.aload_n 1) 1 43 := ⟨by decide +kernel, rfl⟩
theorem eX1_read_43 : DD cX1_read 43 (.getfield 45) 3 46 := ⟨by decide +kernel, rfl⟩
theorem eX1_read_46 : DD cX1_read 46 (.ireturn) 1 47 := ⟨by decide +kernel, rfl⟩
theorem eX1_read_47 : DD cX1_read 47 (.aload_n 1) 1 48 := ⟨by decide +kernel, rfl⟩
theorem eX1_read_48 : DD cX1_read 48 (.invokevirtual 48) 3 51 := ⟨by decide +kernel, rfl⟩
theorem eX1_read_51 : DB cX1_read 51 (.ifCond .ne 6) (6) 54 57 := ⟨by decide +kernel, rfl, by decide⟩
theorem eX1_read_54 : DB cX1_read 54 (.goto 19) (19) 57 73 := ⟨by decide +kernel, rfl, by decide⟩
theorem eX1_read_57 : DD cX1_read 57 (.aload_n 1) 1 58 := ⟨by decide +kernel, rfl⟩
theorem eX1_read_58 : DD cX1_read 58 (.dup) 1 59 := ⟨by decide +kernel, rfl⟩
theorem eX1_read_59 : DD cX1_read 59 (.getfield 52) 3 62 := ⟨by decide +kernel, rfl⟩
theorem eX1_read_62 : DD cX1_read 62 (.iconst 1) 1 63 := ⟨by decide +kernel, rfl⟩
theorem eX1_read_63 : DD cX1_read 63 (.iadd) 1 64 := ⟨by decide +kernel, rfl⟩
theorem eX1_read_64 : DD cX1_read 64 (.putfield 52) 3 67 := ⟨by decide +kernel, rfl⟩
theorem eX1_read_67 : DD cX1_read 67 (.iinc 2 1) 3 70 := ⟨by decide +kernel, rfl⟩
theorem eX1_read_70 : DB cX1_read 70 (.goto (-43)) (-43) 73 27 := ⟨by decide +kernel, rfl, by decide⟩
theorem eX1_read_73 : DD cX1_read 73 (.aload_n 0) 1 74 := ⟨by decide +kernel, rfl⟩
theorem eX1_read_74 : DD cX1_read 74 (.invokevirtual 55) 3 77 := ⟨by decide +kernel, rfl⟩
theorem eX1_read_77 : DB cX1_read 77 (.ifCond .eq 7) (7) 80 84 := ⟨by decide +kernel, rfl, by decide⟩
theorem eX1_read_80 : DD cX1_read 80 (.iconst (-1)) 1 81 := ⟨by decide +kernel, rfl⟩
theorem eX1_read_81 : DB cX1_read 81 (.goto 7) (7) 84 88 := ⟨by decide +kernel, rfl, by decide⟩
theorem eX1_read_84 : DD cX1_read 84 (.aload_n 1) 1 85 := ⟨by decide +kernel, rfl⟩
theorem eX1_read_85 : DD cX1_read 85 (.getfield 59) 3 88 := ⟨by decide +kernel, rfl⟩
theorem eX1_read_88 : DD cX1_read 88 (.ireturn) 1 89 := ⟨by decide +kernel, rfl⟩
def F_X1_read_73  (μ : Mem) : Option (Int32 × Mem) :=
  bd (G_X1_fits  μ) (fun r_2 μ_1 => if r_2 = 0 then some (rI μ_1 1 1, μ_1) else some ((-1 : Int32), μ_1))
set_option maxHeartbeats 4000000 in
theorem j_X1_read_73 {C : Cx} (hC : Ok C cX1_read 3 RX1 (rmF 7 157)) (hr : (cT C).sig.returnType = (some .int))  (μ : Mem) : J C (KI C) μ 73 [(0, .ref (xad (cX C) 3)), (1, .ref (xad (cX C) 1))] [] (F_X1_read_73   μ) := by
  unfold F_X1_read_73
  refine J.aload_n (j := 0) hC eX1_read_73 rfl ?_
  refine J.callVI (st := []) hC eX1_read_74 kk_3 (by decide) rfl rfl ml_X1_55 mv_X1_fits (Rle_of (Nat.le_of_ble_eq_true rfl) (Nat.le_of_ble_eq_true rfl)) (c_X1_fits hC.X  μ) rfl rfl (Nat.le_of_ble_eq_true rfl) (fun r_2 μ_1 => ?_)
  refine J.if_eq hC eX1_read_77 (fun _ => ?_) (fun _ => ?_)
  · refine J.aload_n (j := 1) hC eX1_read_84 rfl ?_
    refine gf_X1_59 hC eX1_read_85 kk_1 ?_
    exact J.iret hC hr eX1_read_88
  · refine J.iconst hC eX1_read_80 ci_m1 ?_
    refine J.goto hC eX1_read_81 ?_
    exact J.iret hC hr eX1_read_88
def L_X1_read_27 : Nat → Int32 → Mem → Option (Int32 × Mem)
  | 0, _, _ => none
  | n + 1, x2, μ => if (240 : Int32) < x2 then F_X1_read_73   μ else bd (G_X1_readClause  μ) (fun r_2 μ_1 => if r_2 = 0 then some (rI μ_1 1 3, μ_1) else bd (G_X8_peek  μ_1) (fun r_4 μ_3 => if r_4 = 0 then F_X1_read_73   μ_3 else lb (wI μ_3 1 2 ((rI μ_3 1 2) + (1 : Int32))) (fun μ_5 => lb (x2 + (1 : Int32)) (fun x2_6 => L_X1_read_27  n x2_6 μ_5))))
set_option maxHeartbeats 4000000 in
theorem j_X1_read_27 {C : Cx} (hC : Ok C cX1_read 3 RX1 (rmF 7 157)) (hr : (cT C).sig.returnType = (some .int)) : ∀ (n : Nat) (x2 : Int32) (μ : Mem), J C (KI C) μ 27 [(0, .ref (xad (cX C) 3)), (1, .ref (xad (cX C) 1)), (2, .int x2)] [] (L_X1_read_27  n x2 μ) := by
  intro n
  induction n with
  | zero => intros; exact J.no
  | succ n ih =>
    intro x2 μ
    rw [L_X1_read_27]
    refine J.iload_n (j := 2) hC eX1_read_27 rfl ?_
    refine J.sipush hC eX1_read_28 cs_240 ?_
    refine J.icmp_gt hC eX1_read_31 (fun _ => ?_) (fun _ => ?_)
    · refine J.sub [0, 1] rfl ?_
      exact j_X1_read_73 hC hr   μ
    · refine J.aload_n (j := 0) hC eX1_read_34 rfl ?_
      refine J.aload_n (j := 1) hC eX1_read_35 rfl ?_
      refine J.callVI (st := []) hC eX1_read_36 kk_3 (by decide) rfl rfl ml_X1_41 mv_X1_readClause (Rle_of (Nat.le_of_ble_eq_true rfl) (Nat.le_of_ble_eq_true rfl)) (c_X1_readClause hC.X  μ) rfl rfl (Nat.le_of_ble_eq_true rfl) (fun r_2 μ_1 => ?_)
      refine J.if_ne hC eX1_read_39 (fun _ => ?_) (fun _ => ?_)
      · refine J.aload_n (j := 1) hC eX1_read_42 rfl ?_
        refine gf_X1_45 hC eX1_read_43 kk_1 ?_
        exact J.iret hC hr eX1_read_46
      · refine J.aload_n (j := 1) hC eX1_read_47 rfl ?_
        refine J.callVI (st := []) hC eX1_read_48 kk_1 (by decide) rfl rfl ml_X1_48 mv_X8_peek (Rle_of (Nat.le_of_ble_eq_true rfl) (Nat.le_of_ble_eq_true rfl)) (c_X8_peek hC.X  μ_1) rfl rfl (Nat.le_of_ble_eq_true rfl) (fun r_4 μ_3 => ?_)
        refine J.if_ne hC eX1_read_51 (fun _ => ?_) (fun _ => ?_)
        · refine J.goto hC eX1_read_54 ?_
          refine J.sub [0, 1] rfl ?_
          exact j_X1_read_73 hC hr   μ_3
        · refine J.aload_n (j := 1) hC eX1_read_57 rfl ?_
          refine J.dup hC eX1_read_58 rfl ?_
          refine gf_X1_52 hC eX1_read_59 kk_1 ?_
          refine J.iconst hC eX1_read_62 ci_1 ?_
          refine J.iadd hC eX1_read_63 ?_
          refine pf_X1_52 hC eX1_read_64 kk_1 (fun μ_5 => ?_)
          refine J.iinc (j := 2) (fun x2_6 => [(2, .int x2_6), (0, .ref (xad (cX C) 3)), (1, .ref (xad (cX C) 1))]) hC eX1_read_67 rfl ci_1 (by decide) (fun _ => rfl) (fun x2_6 => ?_)
          refine J.goto hC eX1_read_70 ?_
          refine J.sub [1, 2, 0] rfl ?_
          exact ih x2_6 μ_5
def G_X1_read  (μ : Mem) : Option (Int32 × Mem) :=
  bd (G_X8_rewind  μ) (fun r_2 μ_1 => lb (wI μ_1 3 3 (0 : Int32)) (fun μ_3 => lb (wI μ_3 3 4 (0 : Int32)) (fun μ_4 => lb (wI μ_4 3 5 (0 : Int32)) (fun μ_5 => bd (G_X1_resetItems (0 : Int32) (3 : Int32) μ_5) (fun r_7 μ_6 => L_X1_read_27  100000 (0 : Int32) μ_6)))))
set_option maxHeartbeats 4000000 in
theorem c_X1_read {X : Wd} (hX : WdOk X)  (μ : Mem) : CtI X yX1_read cX1_read 3 (some .int) (rmF 7 157) [.ref (xad X 3), .ref (xad X 1)] μ (G_X1_read  μ) := by
  refine CtI.of hX (plainFor_of_name (by decide)) (by exact Nat.le_of_ble_eq_true rfl) ?_
  intro C hCX hC hr
  subst hCX
  show J C (KI C) μ 0 [(0, .ref (xad (cX C) 3)), (1, .ref (xad (cX C) 1))] [] _
  unfold G_X1_read
  refine J.aload_n (j := 1) hC eX1_read_0 rfl ?_
  refine J.callVV (st := []) hC eX1_read_1 kk_1 (by decide) rfl rfl ml_X1_21 mv_X8_rewind (Rle_of (Nat.le_of_ble_eq_true rfl) (Nat.le_of_ble_eq_true rfl)) (c_X8_rewind hC.X  μ) rfl rfl (Nat.le_of_ble_eq_true rfl) (fun r_2 μ_1 => ?_)
  refine J.aload_n (j := 0) hC eX1_read_4 rfl ?_
  refine J.iconst hC eX1_read_5 ci_0 ?_
  refine pf_X1_26 hC eX1_read_6 kk_3 rfl (fun μ_3 => ?_)
  refine J.aload_n (j := 0) hC eX1_read_9 rfl ?_
  refine J.iconst hC eX1_read_10 ci_0 ?_
  refine pf_X1_30 hC eX1_read_11 kk_3 (fun μ_4 => ?_)
  refine J.aload_n (j := 0) hC eX1_read_14 rfl ?_
  refine J.iconst hC eX1_read_15 ci_0 ?_
  refine pf_X1_34 hC eX1_read_16 kk_3 (fun μ_5 => ?_)
  refine J.aload_n (j := 0) hC eX1_read_19 rfl ?_
  refine J.iconst hC eX1_read_20 ci_0 ?_
  refine J.iconst hC eX1_read_21 ci_3 ?_
  refine J.callVV (st := []) hC eX1_read_22 kk_3 (by decide) rfl rfl ml_X1_37 mv_X1_resetItems (Rle_of (Nat.le_of_ble_eq_true rfl) (Nat.le_of_ble_eq_true rfl)) (c_X1_resetItems hC.X (0 : Int32) (3 : Int32) μ_5) rfl rfl (Nat.le_of_ble_eq_true rfl) (fun r_7 μ_6 => ?_)
  refine J.iconst hC eX1_read_25 ci_0 ?_
  refine J.istore_n [(2, .int (0 : Int32)), (0, .ref (xad (cX C) 3)), (1, .ref (xad (cX C) 1))] hC eX1_read_26 (by decide) rfl ?_
  refine J.sub [1, 2, 0] rfl ?_
  exact j_X1_read_27 hC hr  100000 (0 : Int32) μ_6
-- X9_unitHolds
theorem eX9_unitHolds_0 : DD cX9_unitHolds 0 (.iload_n 2) 1 1 := ⟨by decide +kernel, rfl⟩
theorem eX9_unitHolds_1 : DD cX9_unitHolds 1 (.iconst (-1)) 1 2 := ⟨by decide +kernel, rfl⟩
theorem eX9_unitHolds_2 : DB cX9_unitHolds 2 (.if_icmp .ne 19) (19) 5 21 := ⟨by decide +kernel, rfl, by decide⟩
theorem eX9_unitHolds_5 : DD cX9_unitHolds 5 (.aload_n 0) 1 6 := ⟨by decide +kernel, rfl⟩
theorem eX9_unitHolds_6 : DD cX9_unitHolds 6 (.getfield 18) 3 9 := ⟨by decide +kernel, rfl⟩
theorem eX9_unitHolds_9 : DD cX9_unitHolds 9 (.iload_n 1) 1 10 := ⟨by decide +kernel, rfl⟩
theorem eX9_unitHolds_10 : DD cX9_unitHolds 10 (.iaload) 1 11 := ⟨by decide +kernel, rfl⟩
theorem eX9_unitHolds_11 : DD cX9_unitHolds 11 (.iconst 3) 1 12 := ⟨by decide +kernel, rfl⟩
theorem eX9_unitHolds_12 : DB cX9_unitHolds 12 (.if_icmp .ne 7) (7) 15 19 := ⟨by decide +kernel, rfl, by decide⟩
theorem eX9_unitHolds_15 : DD cX9_unitHolds 15 (.iconst 1) 1 16 := ⟨by decide +kernel, rfl⟩
theorem eX9_unitHolds_16 : DB cX9_unitHolds 16 (.goto 4) (4) 19 20 := ⟨by decide +kernel, rfl, by decide⟩
theorem eX9_unitHolds_19 : DD cX9_unitHolds 19 (.iconst 0) 1 20 := ⟨by decide +kernel, rfl⟩
theorem eX9_unitHolds_20 : DD cX9_unitHolds 20 (.ireturn) 1 21 := ⟨by decide +kernel, rfl⟩
theorem eX9_unitHolds_21 : DD cX9_unitHolds 21 (.aload_n 0) 1 22 := ⟨by decide +kernel, rfl⟩
theorem eX9_unitHolds_22 : DD cX9_unitHolds 22 (.getfield 18) 3 25 := ⟨by decide +kernel, rfl⟩
theorem eX9_unitHolds_25 : DD cX9_unitHolds 25 (.iload_n 1) 1 26 := ⟨by decide +kernel, rfl⟩
theorem eX9_unitHolds_26 : DD cX9_unitHolds 26 (.iaload) 1 27 := ⟨by decide +kernel, rfl⟩
theorem eX9_unitHolds_27 : decode cX9_unitHolds 27 = .ok (.tableswitch 73 0 2 #[25, 41, 57], 25) := by decide +kernel
theorem eX9_unitHolds_52 : DD cX9_unitHolds 52 (.iload_n 2) 1 53 := ⟨by decide +kernel, rfl⟩
theorem eX9_unitHolds_53 : DD cX9_unitHolds 53 (.aload_n 0) 1 54 := ⟨by decide +kernel, rfl⟩
theorem eX9_unitHolds_54 : DD cX9_unitHolds 54 (.getfield 21) 3 57 := ⟨by decide +kernel, rfl⟩
theorem eX9_unitHolds_57 : DD cX9_unitHolds 57 (.iload_n 1) 1 58 := ⟨by decide +kernel, rfl⟩
theorem eX9_unitHolds_58 : DD cX9_unitHolds 58 (.iaload) 1 59 := ⟨by decide +kernel, rfl⟩
theorem eX9_unitHolds_59 : DB cX9_unitHolds 59 (.if_icmp .ne 7) (7) 62 66 := ⟨by decide +kernel, rfl, by decide⟩
theorem eX9_unitHolds_62 : DD cX9_unitHolds 62 (.iconst 1) 1 63 := ⟨by decide +kernel, rfl⟩
theorem eX9_unitHolds_63 : DB cX9_unitHolds 63 (.goto 4) (4) 66 67 := ⟨by decide +kernel, rfl, by decide⟩
theorem eX9_unitHolds_66 : DD cX9_unitHolds 66 (.iconst 0) 1 67 := ⟨by decide +kernel, rfl⟩
theorem eX9_unitHolds_67 : DD cX9_unitHolds 67 (.ireturn) 1 68 := ⟨by decide +kernel, rfl⟩
theorem eX9_unitHolds_68 : DD cX9_unitHolds 68 (.iload_n 2) 1 69 := ⟨by decide +kernel, rfl⟩
theorem eX9_unitHolds_69 : DD cX9_unitHolds 69 (.aload_n 0) 1 70 := ⟨by decide +kernel, rfl⟩
theorem eX9_unitHolds_70 : DD cX9_unitHolds 70 (.getfield 21) 3 73 := ⟨by decide +kernel, rfl⟩
theorem eX9_unitHolds_73 : DD cX9_unitHolds 73 (.iload_n 1) 1 74 := ⟨by decide +kernel, rfl⟩
theorem eX9_unitHolds_74 : DD cX9_unitHolds 74 (.iaload) 1 75 := ⟨by decide +kernel, rfl⟩
theorem eX9_unitHolds_75 : DB cX9_unitHolds 75 (.if_icmp .ge 7) (7) 78 82 := ⟨by decide +kernel, rfl, by decide⟩
theorem eX9_unitHolds_78 : DD cX9_unitHolds 78 (.iconst 1) 1 79 := ⟨by decide +kernel, rfl⟩
theorem eX9_unitHolds_79 : DB cX9_unitHolds 79 (.goto 4) (4) 82 83 := ⟨by decide +kernel, rfl, by decide⟩
theorem eX9_unitHolds_82 : DD cX9_unitHolds 82 (.iconst 0) 1 83 := ⟨by decide +kernel, rfl⟩
theorem eX9_unitHolds_83 : DD cX9_unitHolds 83 (.ireturn) 1 84 := ⟨by decide +kernel, rfl⟩
theorem eX9_unitHolds_84 : DD cX9_unitHolds 84 (.iload_n 2) 1 85 := ⟨by decide +kernel, rfl⟩
theorem eX9_unitHolds_85 : DD cX9_unitHolds 85 (.aload_n 0) 1 86 := ⟨by decide +kernel, rfl⟩
theorem eX9_unitHolds_86 : DD cX9_unitHolds 86 (.getfield 21) 3 89 := ⟨by decide +kernel, rfl⟩
theorem eX9_unitHolds_89 : DD cX9_unitHolds 89 (.iload_n 1) 1 90 := ⟨by decide +kernel, rfl⟩
theorem eX9_unitHolds_90 : DD cX9_unitHolds 90 (.iaload) 1 91 := ⟨by decide +kernel, rfl⟩
theorem eX9_unitHolds_91 : DB cX9_unitHolds 91 (.if_icmp .le 7) (7) 94 98 := ⟨by decide +kernel, rfl, by decide⟩
theorem eX9_unitHolds_94 : DD cX9_unitHolds 94 (.iconst 1) 1 95 := ⟨by decide +kernel, rfl⟩
theorem eX9_unitHolds_95 : DB cX9_unitHolds 95 (.goto 4) (4) 98 99 := ⟨by decide +kernel, rfl, by decide⟩
theorem eX9_unitHolds_98 : DD cX9_unitHolds 98 (.iconst 0) 1 99 := ⟨by decide +kernel, rfl⟩
theorem eX9_unitHolds_99 : DD cX9_unitHolds 99 (.ireturn) 1 100 := ⟨by decide +kernel, rfl⟩
theorem eX9_unitHolds_100 : DD cX9_unitHolds 100 (.iconst 0) 1 101 := ⟨by decide +kernel, rfl⟩
theorem eX9_unitHolds_101 : DD cX9_unitHolds 101 (.ireturn) 1 102 := ⟨by decide +kernel, rfl⟩
def G_X9_unitHolds (p0 : Nat) (x1 : Int32) (x2 : Int32) (μ : Mem) : Option (Int32 × Mem) :=
  if x2 = (-1 : Int32) then gq (inB x1 6) (if (rI μ (p0 + 3) (nx x1)) = (3 : Int32) then some ((1 : Int32), μ) else some ((0 : Int32), μ)) else gq (inB x1 6) (lb (rI μ (p0 + 3) (nx x1)) (fun x_1 => if x_1 = (0 : Int32) then gq (inB x1 6) (if x2 = (rI μ (p0 + 4) (nx x1)) then some ((1 : Int32), μ) else some ((0 : Int32), μ)) else (if x_1 = (1 : Int32) then gq (inB x1 6) (if (rI μ (p0 + 4) (nx x1)) ≤ x2 then some ((0 : Int32), μ) else some ((1 : Int32), μ)) else (if x_1 = (2 : Int32) then gq (inB x1 6) (if x2 ≤ (rI μ (p0 + 4) (nx x1)) then some ((0 : Int32), μ) else some ((1 : Int32), μ)) else (some ((0 : Int32), μ))))))
set_option maxHeartbeats 4000000 in
theorem c_X9_unitHolds {X : Wd} (hX : WdOk X) (p0 : Nat) (h0 : kd p0 = 9) (x1 : Int32) (x2 : Int32) (μ : Mem) : CtI X yX9_unitHolds cX9_unitHolds 3 (some .boolean) (rmF 0 0) [.ref (xad X p0), .int x1, .int x2] μ (G_X9_unitHolds p0 x1 x2 μ) := by
  refine CtI.of hX (plainFor_of_name (by decide)) (by exact Nat.le_of_ble_eq_true rfl) ?_
  intro C hCX hC hr
  subst hCX
  show J C (KI C) μ 0 [(0, .ref (xad (cX C) p0)), (1, .int x1), (2, .int x2)] [] _
  unfold G_X9_unitHolds
  refine J.iload_n (j := 2) hC eX9_unitHolds_0 rfl ?_
  refine J.iconst hC eX9_unitHolds_1 ci_m1 ?_
  refine J.icmp_ne hC eX9_unitHolds_2 (fun _ => ?_) (fun _ => ?_)
  · refine J.aload_n (j := 0) hC eX9_unitHolds_5 rfl ?_
    refine gf_X9_18 (q := p0 + 3) hC eX9_unitHolds_6 h0 rfl ?_
    refine J.iload_n (j := 1) hC eX9_unitHolds_9 rfl ?_
    refine J.iald ik_6 hC eX9_unitHolds_10 (kf_X9_signs h0) ?_
    refine J.iconst hC eX9_unitHolds_11 ci_3 ?_
    refine J.icmp_ne hC eX9_unitHolds_12 (fun _ => ?_) (fun _ => ?_)
    · refine J.iconst hC eX9_unitHolds_15 ci_1 ?_
      refine J.goto hC eX9_unitHolds_16 ?_
      exact J.zretB hC hr eX9_unitHolds_20 rfl
    · refine J.iconst hC eX9_unitHolds_19 ci_0 ?_
      exact J.zretB hC hr eX9_unitHolds_20 rfl
  · refine J.aload_n (j := 0) hC eX9_unitHolds_21 rfl ?_
    refine gf_X9_18 (q := p0 + 3) hC eX9_unitHolds_22 h0 rfl ?_
    refine J.iload_n (j := 1) hC eX9_unitHolds_25 rfl ?_
    refine J.iald ik_6 hC eX9_unitHolds_26 (kf_X9_signs h0) ?_
    refine J.topi (fun x_1 => ?_)
    refine J.ite (fun h_2 => ?_) (fun h_2 => ?_)
    · refine J.tsI (off := 25) (tgt := 52) hC eX9_unitHolds_27 (by rw [h_2]; decide) (by rw [h_2]; decide) (by rw [h_2]; rfl) (by decide) ?_
      refine J.iload_n (j := 2) hC eX9_unitHolds_52 rfl ?_
      refine J.aload_n (j := 0) hC eX9_unitHolds_53 rfl ?_
      refine gf_X9_21 (q := p0 + 4) hC eX9_unitHolds_54 h0 rfl ?_
      refine J.iload_n (j := 1) hC eX9_unitHolds_57 rfl ?_
      refine J.iald ik_6 hC eX9_unitHolds_58 (kf_X9_numbers h0) ?_
      refine J.icmp_ne hC eX9_unitHolds_59 (fun _ => ?_) (fun _ => ?_)
      · refine J.iconst hC eX9_unitHolds_62 ci_1 ?_
        refine J.goto hC eX9_unitHolds_63 ?_
        exact J.zretB hC hr eX9_unitHolds_67 rfl
      · refine J.iconst hC eX9_unitHolds_66 ci_0 ?_
        exact J.zretB hC hr eX9_unitHolds_67 rfl
    refine J.ite (fun h_3 => ?_) (fun h_3 => ?_)
    · refine J.tsI (off := 41) (tgt := 68) hC eX9_unitHolds_27 (by rw [h_3]; decide) (by rw [h_3]; decide) (by rw [h_3]; rfl) (by decide) ?_
      refine J.iload_n (j := 2) hC eX9_unitHolds_68 rfl ?_
      refine J.aload_n (j := 0) hC eX9_unitHolds_69 rfl ?_
      refine gf_X9_21 (q := p0 + 4) hC eX9_unitHolds_70 h0 rfl ?_
      refine J.iload_n (j := 1) hC eX9_unitHolds_73 rfl ?_
      refine J.iald ik_6 hC eX9_unitHolds_74 (kf_X9_numbers h0) ?_
      refine J.icmp_ge hC eX9_unitHolds_75 (fun _ => ?_) (fun _ => ?_)
      · refine J.iconst hC eX9_unitHolds_82 ci_0 ?_
        exact J.zretB hC hr eX9_unitHolds_83 rfl
      · refine J.iconst hC eX9_unitHolds_78 ci_1 ?_
        refine J.goto hC eX9_unitHolds_79 ?_
        exact J.zretB hC hr eX9_unitHolds_83 rfl
    refine J.ite (fun h_4 => ?_) (fun h_4 => ?_)
    · refine J.tsI (off := 57) (tgt := 84) hC eX9_unitHolds_27 (by rw [h_4]; decide) (by rw [h_4]; decide) (by rw [h_4]; rfl) (by decide) ?_
      refine J.iload_n (j := 2) hC eX9_unitHolds_84 rfl ?_
      refine J.aload_n (j := 0) hC eX9_unitHolds_85 rfl ?_
      refine gf_X9_21 (q := p0 + 4) hC eX9_unitHolds_86 h0 rfl ?_
      refine J.iload_n (j := 1) hC eX9_unitHolds_89 rfl ?_
      refine J.iald ik_6 hC eX9_unitHolds_90 (kf_X9_numbers h0) ?_
      refine J.icmp_le hC eX9_unitHolds_91 (fun _ => ?_) (fun _ => ?_)
      · refine J.iconst hC eX9_unitHolds_98 ci_0 ?_
        exact J.zretB hC hr eX9_unitHolds_99 rfl
      · refine J.iconst hC eX9_unitHolds_94 ci_1 ?_
        refine J.goto hC eX9_unitHolds_95 ?_
        exact J.zretB hC hr eX9_unitHolds_99 rfl
    refine J.tsO (tgt := 100) hC eX9_unitHolds_27 (by have th_2 := lv_neT h_2 (show ((0 : Int32)).toInt = 0 from rfl); have th_3 := lv_neT h_3 (show ((1 : Int32)).toInt = 1 from rfl); have th_4 := lv_neT h_4 (show ((2 : Int32)).toInt = 2 from rfl); omega) (by decide) ?_
    refine J.iconst hC eX9_unitHolds_100 ci_0 ?_
    exact J.zretB hC hr eX9_unitHolds_101 rfl
-- X2_heldIn
theorem eX2_heldIn_0 : DD cX2_heldIn 0 (.iconst 0) 1 1 := ⟨by decide +kernel, rfl⟩
theorem eX2_heldIn_1 : DD cX2_heldIn 1 (.istore 4) 2 3 := ⟨by decide +kernel, rfl⟩
theorem eX2_heldIn_3 : DD cX2_heldIn 3 (.aload_n 2) 1 4 := ⟨by decide +kernel, rfl⟩
theorem eX2_heldIn_4 : DD cX2_heldIn 4 (.iload_n 3) 1 5 := ⟨by decide +kernel, rfl⟩
theorem eX2_heldIn_5 : DD cX2_heldIn 5 (.invokevirtual 91) 3 8 := ⟨by decide +kernel, rfl⟩
theorem eX2_heldIn_8 : DD cX2_heldIn 8 (.istore 5) 2 10 := ⟨by decide +kernel, rfl⟩
theorem eX2_heldIn_10 : DD cX2_heldIn 10 (.iload 5) 2 12 := ⟨by decide +kernel, rfl⟩
theorem eX2_heldIn_12 : DD cX2_heldIn 12 (.aload_n 2) 1 13 := ⟨by decide +kernel, rfl⟩
theorem eX2_heldIn_13 : DD cX2_heldIn 13 (.iload_n 3) 1 14 := ⟨by decide +kernel, rfl⟩
theorem eX2_heldIn_14 : DD cX2_heldIn 14 (.invokevirtual 95) 3 17 := ⟨by decide +kernel, rfl⟩
theorem eX2_heldIn_17 : DB cX2_heldIn 17 (.if_icmp .gt 29) (29) 20 46 := ⟨by decide +kernel, rfl, by decide⟩
theorem eX2_heldIn_20 : DD cX2_heldIn 20 (.iload 4) 2 22 := ⟨by decide +kernel, rfl⟩
theorem eX2_heldIn_22 : DD cX2_heldIn 22 (.aload_n 0) 1 23 := ⟨by decide +kernel, rfl⟩
theorem eX2_heldIn_23 : DD cX2_heldIn 23 (.iload_n 1) 1 24 := ⟨by decide +kernel, rfl⟩
theorem eX2_heldIn_24 : DD cX2_heldIn 24 (.iload 5) 2 26 := ⟨by decide +kernel, rfl⟩
theorem eX2_heldIn_26 : DD cX2_heldIn 26 (.invokevirtual 98) 3 29 := ⟨by decide +kernel, rfl⟩
theorem eX2_heldIn_29 : DB cX2_heldIn 29 (.ifCond .eq 7) (7) 32 36 := ⟨by decide +kernel, rfl, by decide⟩
theorem eX2_heldIn_32 : DD cX2_heldIn 32 (.iconst 1) 1 33 := ⟨by decide +kernel, rfl⟩
theorem eX2_heldIn_33 : DB cX2_heldIn 33 (.goto 4) (4) 36 37 := ⟨by decide +kernel, rfl, by decide⟩
theorem eX2_heldIn_36 : DD cX2_heldIn 36 (.iconst 0) 1 37 := ⟨by decide +kernel, rfl⟩
theorem eX2_heldIn_37 : DD cX2_heldIn 37 (.iadd) 1 38 := ⟨by decide +kernel, rfl⟩
theorem eX2_heldIn_38 : DD cX2_heldIn 38 (.istore 4) 2 40 := ⟨by decide +kernel, rfl⟩
theorem eX2_heldIn_40 : DD cX2_heldIn 40 (.iinc 5 1) 3 43 := ⟨by decide +kernel, rfl⟩
theorem eX2_heldIn_43 : DB cX2_heldIn 43 (.goto (-33)) (-33) 46 10 := ⟨by decide +kernel, rfl, by decide⟩
theorem eX2_heldIn_46 : DD cX2_heldIn 46 (.iload 4) 2 48 := ⟨by decide +kernel, rfl⟩
theorem eX2_heldIn_48 : DD cX2_heldIn 48 (.ireturn) 1 49 := ⟨by decide +kernel, rfl⟩
def F_X2_heldIn_37 (kc_10 : Nat → Int32 → Nat → Int32 → Int32 → Int32 → Mem → Option (Int32 × Mem)) (p0 : Nat) (x1 : Int32) (p2 : Nat) (x3 : Int32) (x5 : Int32) (xs0 : Int32) (xs1 : Int32) (μ : Mem) : Option (Int32 × Mem) :=
  lb (xs0 + xs1) (fun x4_1 => lb (x5 + (1 : Int32)) (fun x5_2 => kc_10 p0 x1 p2 x3 x4_1 x5_2 μ))
set_option maxHeartbeats 4000000 in
theorem j_X2_heldIn_37 {C : Cx} (hC : Ok C cX2_heldIn 6 RX2 (rmF 1 22)) (hr : (cT C).sig.returnType = (some .int)) (kc_10 : Nat → Int32 → Nat → Int32 → Int32 → Int32 → Mem → Option (Int32 × Mem)) (hk_10 : ∀ (p0 : Nat) (h0 : kd p0 = 9) (x1 : Int32) (p2 : Nat) (h2 : kd p2 = 4) (x3 : Int32) (x4 : Int32) (x5 : Int32) (μ : Mem), J C (KI C) μ 10 [(0, .ref (xad (cX C) p0)), (1, .int x1), (2, .ref (xad (cX C) p2)), (3, .int x3), (4, .int x4), (5, .int x5)] [] (kc_10 p0 x1 p2 x3 x4 x5 μ)) (p0 : Nat) (h0 : kd p0 = 9) (x1 : Int32) (p2 : Nat) (h2 : kd p2 = 4) (x3 : Int32) (x5 : Int32) (xs0 : Int32) (xs1 : Int32) (μ : Mem) : J C (KI C) μ 37 [(0, .ref (xad (cX C) p0)), (1, .int x1), (2, .ref (xad (cX C) p2)), (3, .int x3), (5, .int x5)] [.int xs1, .int xs0] (F_X2_heldIn_37 kc_10 p0 x1 p2 x3 x5 xs0 xs1 μ) := by
  unfold F_X2_heldIn_37
  refine J.iadd hC eX2_heldIn_37 ?_
  refine J.topi (fun x4_1 => ?_)
  refine J.istore [(4, .int x4_1), (0, .ref (xad (cX C) p0)), (1, .int x1), (2, .ref (xad (cX C) p2)), (3, .int x3), (5, .int x5)] hC eX2_heldIn_38 (by decide) rfl ?_
  refine J.iinc (j := 5) (fun x5_2 => [(5, .int x5_2), (4, .int x4_1), (0, .ref (xad (cX C) p0)), (1, .int x1), (2, .ref (xad (cX C) p2)), (3, .int x3)]) hC eX2_heldIn_40 rfl ci_1 (by decide) (fun _ => rfl) (fun x5_2 => ?_)
  refine J.goto hC eX2_heldIn_43 ?_
  refine J.sub [2, 3, 4, 5, 1, 0] rfl ?_
  exact hk_10 p0 h0 x1 p2 h2 x3 x4_1 x5_2 μ
def L_X2_heldIn_10 : Nat → Nat → Int32 → Nat → Int32 → Int32 → Int32 → Mem → Option (Int32 × Mem)
  | 0, _, _, _, _, _, _, _ => none
  | n + 1, p0, x1, p2, x3, x4, x5, μ => bd (G_X4_lastOf p2 x3 μ) (fun r_2 μ_1 => if r_2 < x5 then some (x4, μ_1) else bd (G_X9_unitHolds p0 x1 x5 μ_1) (fun r_4 μ_3 => if r_4 = 0 then F_X2_heldIn_37 (L_X2_heldIn_10  n) p0 x1 p2 x3 x5 x4 (0 : Int32) μ_3 else F_X2_heldIn_37 (L_X2_heldIn_10  n) p0 x1 p2 x3 x5 x4 (1 : Int32) μ_3))
set_option maxHeartbeats 4000000 in
theorem j_X2_heldIn_10 {C : Cx} (hC : Ok C cX2_heldIn 6 RX2 (rmF 1 22)) (hr : (cT C).sig.returnType = (some .int)) : ∀ (n : Nat) (p0 : Nat) (h0 : kd p0 = 9) (x1 : Int32) (p2 : Nat) (h2 : kd p2 = 4) (x3 : Int32) (x4 : Int32) (x5 : Int32) (μ : Mem), J C (KI C) μ 10 [(0, .ref (xad (cX C) p0)), (1, .int x1), (2, .ref (xad (cX C) p2)), (3, .int x3), (4, .int x4), (5, .int x5)] [] (L_X2_heldIn_10  n p0 x1 p2 x3 x4 x5 μ) := by
  intro n
  induction n with
  | zero => intros; exact J.no
  | succ n ih =>
    intro p0 h0 x1 p2 h2 x3 x4 x5 μ
    rw [L_X2_heldIn_10]
    refine J.iload (j := 5) hC eX2_heldIn_10 rfl ?_
    refine J.aload_n (j := 2) hC eX2_heldIn_12 rfl ?_
    refine J.iload_n (j := 3) hC eX2_heldIn_13 rfl ?_
    refine J.callVI (st := [.int x5]) hC eX2_heldIn_14 h2 (by decide) rfl rfl ml_X2_95 mv_X4_lastOf (Rle_of (Nat.le_of_ble_eq_true rfl) (Nat.le_of_ble_eq_true rfl)) (c_X4_lastOf hC.X p2 h2 x3 μ) rfl rfl (Nat.le_of_ble_eq_true rfl) (fun r_2 μ_1 => ?_)
    refine J.icmp_gt hC eX2_heldIn_17 (fun _ => ?_) (fun _ => ?_)
    · refine J.iload (j := 4) hC eX2_heldIn_46 rfl ?_
      exact J.iret hC hr eX2_heldIn_48
    · refine J.iload (j := 4) hC eX2_heldIn_20 rfl ?_
      refine J.aload_n (j := 0) hC eX2_heldIn_22 rfl ?_
      refine J.iload_n (j := 1) hC eX2_heldIn_23 rfl ?_
      refine J.iload (j := 5) hC eX2_heldIn_24 rfl ?_
      refine J.callVI (st := [.int x4]) hC eX2_heldIn_26 h0 (by decide) rfl rfl ml_X2_98 mv_X9_unitHolds (Rle_of (Nat.le_of_ble_eq_true rfl) (Nat.le_of_ble_eq_true rfl)) (c_X9_unitHolds hC.X p0 h0 x1 x5 μ_1) rfl rfl (Nat.le_of_ble_eq_true rfl) (fun r_4 μ_3 => ?_)
      refine J.if_eq hC eX2_heldIn_29 (fun _ => ?_) (fun _ => ?_)
      · refine J.iconst hC eX2_heldIn_36 ci_0 ?_
        refine J.sub [0, 1, 2, 3, 5] rfl ?_
        exact j_X2_heldIn_37 hC hr (L_X2_heldIn_10  n) ih p0 h0 x1 p2 h2 x3 x5 x4 (0 : Int32) μ_3
      · refine J.iconst hC eX2_heldIn_32 ci_1 ?_
        refine J.goto hC eX2_heldIn_33 ?_
        refine J.sub [0, 1, 2, 3, 5] rfl ?_
        exact j_X2_heldIn_37 hC hr (L_X2_heldIn_10  n) ih p0 h0 x1 p2 h2 x3 x5 x4 (1 : Int32) μ_3
def G_X2_heldIn (p0 : Nat) (x1 : Int32) (p2 : Nat) (x3 : Int32) (μ : Mem) : Option (Int32 × Mem) :=
  bd (G_X4_firstOf p2 x3 μ) (fun r_2 μ_1 => L_X2_heldIn_10  100000 p0 x1 p2 x3 (0 : Int32) r_2 μ_1)
set_option maxHeartbeats 4000000 in
theorem c_X2_heldIn {X : Wd} (hX : WdOk X) (p0 : Nat) (h0 : kd p0 = 9) (x1 : Int32) (p2 : Nat) (h2 : kd p2 = 4) (x3 : Int32) (μ : Mem) : CtI X yX2_heldIn cX2_heldIn 6 (some .int) (rmF 1 22) [.ref (xad X p0), .int x1, .ref (xad X p2), .int x3] μ (G_X2_heldIn p0 x1 p2 x3 μ) := by
  refine CtI.of hX (plainFor_of_name (by decide)) (by exact Nat.le_of_ble_eq_true rfl) ?_
  intro C hCX hC hr
  subst hCX
  show J C (KI C) μ 0 [(0, .ref (xad (cX C) p0)), (1, .int x1), (2, .ref (xad (cX C) p2)), (3, .int x3)] [] _
  unfold G_X2_heldIn
  refine J.iconst hC eX2_heldIn_0 ci_0 ?_
  refine J.istore [(4, .int (0 : Int32)), (0, .ref (xad (cX C) p0)), (1, .int x1), (2, .ref (xad (cX C) p2)), (3, .int x3)] hC eX2_heldIn_1 (by decide) rfl ?_
  refine J.aload_n (j := 3) hC eX2_heldIn_3 rfl ?_
  refine J.iload_n (j := 4) hC eX2_heldIn_4 rfl ?_
  refine J.callVI (st := []) hC eX2_heldIn_5 h2 (by decide) rfl rfl ml_X2_91 mv_X4_firstOf (Rle_of (Nat.le_of_ble_eq_true rfl) (Nat.le_of_ble_eq_true rfl)) (c_X4_firstOf hC.X p2 h2 x3 μ) rfl rfl (Nat.le_of_ble_eq_true rfl) (fun r_2 μ_1 => ?_)
  refine J.istore [(5, .int r_2), (4, .int (0 : Int32)), (0, .ref (xad (cX C) p0)), (1, .int x1), (2, .ref (xad (cX C) p2)), (3, .int x3)] hC eX2_heldIn_8 (by decide) rfl ?_
  refine J.sub [2, 3, 4, 5, 1, 0] rfl ?_
  exact j_X2_heldIn_10 hC hr  100000 p0 h0 x1 p2 h2 x3 (0 : Int32) r_2 μ_1
-- X4_widthOf
theorem eX4_widthOf_0 : DD cX4_widthOf 0 (.aload_n 0) 1 1 := ⟨by decide +kernel, rfl⟩
theorem eX4_widthOf_1 : DD cX4_widthOf 1 (.iload_n 1) 1 2 := ⟨by decide +kernel, rfl⟩
theorem eX4_widthOf_2 : DD cX4_widthOf 2 (.invokevirtual 22) 3 5 := ⟨by decide +kernel, rfl⟩
theorem eX4_widthOf_5 : DD cX4_widthOf 5 (.aload_n 0) 1 6 := ⟨by decide +kernel, rfl⟩
theorem eX4_widthOf_6 : DD cX4_widthOf 6 (.iload_n 1) 1 7 := ⟨by decide +kernel, rfl⟩
theorem eX4_widthOf_7 : DD cX4_widthOf 7 (.invokevirtual 26) 3 10 := ⟨by decide +kernel, rfl⟩
theorem eX4_widthOf_10 : DD cX4_widthOf 10 (.isub) 1 11 := ⟨by decide +kernel, rfl⟩
theorem eX4_widthOf_11 : DD cX4_widthOf 11 (.iconst 1) 1 12 := ⟨by decide +kernel, rfl⟩
theorem eX4_widthOf_12 : DD cX4_widthOf 12 (.iadd) 1 13 := ⟨by decide +kernel, rfl⟩
theorem eX4_widthOf_13 : DD cX4_widthOf 13 (.ireturn) 1 14 := ⟨by decide +kernel, rfl⟩
def G_X4_widthOf (p0 : Nat) (x1 : Int32) (μ : Mem) : Option (Int32 × Mem) :=
  bd (G_X4_lastOf p0 x1 μ) (fun r_2 μ_1 => bd (G_X4_firstOf p0 x1 μ_1) (fun r_4 μ_3 => some ((r_2 - r_4) + (1 : Int32), μ_3)))
set_option maxHeartbeats 4000000 in
theorem c_X4_widthOf {X : Wd} (hX : WdOk X) (p0 : Nat) (h0 : kd p0 = 4) (x1 : Int32) (μ : Mem) : CtI X yX4_widthOf cX4_widthOf 2 (some .int) (rmF 1 21) [.ref (xad X p0), .int x1] μ (G_X4_widthOf p0 x1 μ) := by
  refine CtI.of hX (plainFor_of_name (by decide)) (by exact Nat.le_of_ble_eq_true rfl) ?_
  intro C hCX hC hr
  subst hCX
  show J C (KI C) μ 0 [(0, .ref (xad (cX C) p0)), (1, .int x1)] [] _
  unfold G_X4_widthOf
  refine J.aload_n (j := 0) hC eX4_widthOf_0 rfl ?_
  refine J.iload_n (j := 1) hC eX4_widthOf_1 rfl ?_
  refine J.callVI (st := []) hC eX4_widthOf_2 h0 (by decide) rfl rfl ml_X4_22 mv_X4_lastOf (Rle_of (Nat.le_of_ble_eq_true rfl) (Nat.le_of_ble_eq_true rfl)) (c_X4_lastOf hC.X p0 h0 x1 μ) rfl rfl (Nat.le_of_ble_eq_true rfl) (fun r_2 μ_1 => ?_)
  refine J.aload_n (j := 0) hC eX4_widthOf_5 rfl ?_
  refine J.iload_n (j := 1) hC eX4_widthOf_6 rfl ?_
  refine J.callVI (st := [.int r_2]) hC eX4_widthOf_7 h0 (by decide) rfl rfl ml_X4_26 mv_X4_firstOf (Rle_of (Nat.le_of_ble_eq_true rfl) (Nat.le_of_ble_eq_true rfl)) (c_X4_firstOf hC.X p0 h0 x1 μ_1) rfl rfl (Nat.le_of_ble_eq_true rfl) (fun r_4 μ_3 => ?_)
  refine J.isub hC eX4_widthOf_10 ?_
  refine J.iconst hC eX4_widthOf_11 ci_1 ?_
  refine J.iadd hC eX4_widthOf_12 ?_
  exact J.iret hC hr eX4_widthOf_13
-- X2_addBucket
theorem eX2_addBucket_0 : DD cX2_addBucket 0 (.aload_n 1) 1 1 := ⟨by decide +kernel, rfl⟩
theorem eX2_addBucket_1 : DD cX2_addBucket 1 (.iload_n 2) 1 2 := ⟨by decide +kernel, rfl⟩
theorem eX2_addBucket_2 : DD cX2_addBucket 2 (.invokevirtual 102) 3 5 := ⟨by decide +kernel, rfl⟩
theorem eX2_addBucket_5 : DD cX2_addBucket 5 (.istore 4) 2 7 := ⟨by decide +kernel, rfl⟩
theorem eX2_addBucket_7 : DD cX2_addBucket 7 (.iload_n 3) 1 8 := ⟨by decide +kernel, rfl⟩
theorem eX2_addBucket_8 : DB cX2_addBucket 8 (.ifCond .eq 9) (9) 11 17 := ⟨by decide +kernel, rfl, by decide⟩
theorem eX2_addBucket_11 : DD cX2_addBucket 11 (.iload 4) 2 13 := ⟨by decide +kernel, rfl⟩
theorem eX2_addBucket_13 : DD cX2_addBucket 13 (.iconst 1) 1 14 := ⟨by decide +kernel, rfl⟩
theorem eX2_addBucket_14 : DB cX2_addBucket 14 (.if_icmp .ge 4) (4) 17 18 := ⟨by decide +kernel, rfl, by decide⟩
theorem eX2_addBucket_17 : DD cX2_addBucket 17 (.return_) 1 18 := ⟨by decide +kernel, rfl⟩
theorem eX2_addBucket_18 : DD cX2_addBucket 18 (.aload_n 1) 1 19 := ⟨by decide +kernel, rfl⟩
theorem eX2_addBucket_19 : DD cX2_addBucket 19 (.iload_n 2) 1 20 := ⟨by decide +kernel, rfl⟩
theorem eX2_addBucket_20 : DD cX2_addBucket 20 (.invokevirtual 105) 3 23 := ⟨by decide +kernel, rfl⟩
theorem eX2_addBucket_23 : DD cX2_addBucket 23 (.istore 5) 2 25 := ⟨by decide +kernel, rfl⟩
theorem eX2_addBucket_25 : DD cX2_addBucket 25 (.aload_n 1) 1 26 := ⟨by decide +kernel, rfl⟩
theorem eX2_addBucket_26 : DD cX2_addBucket 26 (.iload_n 2) 1 27 := ⟨by decide +kernel, rfl⟩
theorem eX2_addBucket_27 : DD cX2_addBucket 27 (.invokevirtual 108) 3 30 := ⟨by decide +kernel, rfl⟩
theorem eX2_addBucket_30 : DD cX2_addBucket 30 (.istore 6) 2 32 := ⟨by decide +kernel, rfl⟩
theorem eX2_addBucket_32 : DD cX2_addBucket 32 (.aload_n 0) 1 33 := ⟨by decide +kernel, rfl⟩
theorem eX2_addBucket_33 : DD cX2_addBucket 33 (.dup) 1 34 := ⟨by decide +kernel, rfl⟩
theorem eX2_addBucket_34 : DD cX2_addBucket 34 (.getfield 40) 3 37 := ⟨by decide +kernel, rfl⟩
theorem eX2_addBucket_37 : DD cX2_addBucket 37 (.iconst 0) 1 38 := ⟨by decide +kernel, rfl⟩
theorem eX2_addBucket_38 : DD cX2_addBucket 38 (.iload 5) 2 40 := ⟨by decide +kernel, rfl⟩
theorem eX2_addBucket_40 : DD cX2_addBucket 40 (.iload 6) 2 42 := ⟨by decide +kernel, rfl⟩
theorem eX2_addBucket_42 : DD cX2_addBucket 42 (.iload 4) 2 44 := ⟨by decide +kernel, rfl⟩
theorem eX2_addBucket_44 : DD cX2_addBucket 44 (.iload_n 3) 1 45 := ⟨by decide +kernel, rfl⟩
theorem eX2_addBucket_45 : DD cX2_addBucket 45 (.isub) 1 46 := ⟨by decide +kernel, rfl⟩
theorem eX2_addBucket_46 : DD cX2_addBucket 46 (.imul) 1 47 := ⟨by decide +kernel, rfl⟩
theorem eX2_addBucket_47 : DD cX2_addBucket 47 (.isub) 1 48 := ⟨by decide +kernel, rfl⟩
theorem eX2_addBucket_48 : DD cX2_addBucket 48 (.invokestatic 69) 3 51 := ⟨by decide +kernel, rfl⟩
theorem eX2_addBucket_51 : DD cX2_addBucket 51 (.iadd) 1 52 := ⟨by decide +kernel, rfl⟩
theorem eX2_addBucket_52 : DD cX2_addBucket 52 (.putfield 40) 3 55 := ⟨by decide +kernel, rfl⟩
theorem eX2_addBucket_55 : DD cX2_addBucket 55 (.aload_n 0) 1 56 := ⟨by decide +kernel, rfl⟩
theorem eX2_addBucket_56 : DD cX2_addBucket 56 (.dup) 1 57 := ⟨by decide +kernel, rfl⟩
theorem eX2_addBucket_57 : DD cX2_addBucket 57 (.getfield 46) 3 60 := ⟨by decide +kernel, rfl⟩
theorem eX2_addBucket_60 : DD cX2_addBucket 60 (.iload 5) 2 62 := ⟨by decide +kernel, rfl⟩
theorem eX2_addBucket_62 : DD cX2_addBucket 62 (.iload 6) 2 64 := ⟨by decide +kernel, rfl⟩
theorem eX2_addBucket_64 : DD cX2_addBucket 64 (.iload_n 3) 1 65 := ⟨by decide +kernel, rfl⟩
theorem eX2_addBucket_65 : DD cX2_addBucket 65 (.imul) 1 66 := ⟨by decide +kernel, rfl⟩
theorem eX2_addBucket_66 : DD cX2_addBucket 66 (.invokestatic 63) 3 69 := ⟨by decide +kernel, rfl⟩
theorem eX2_addBucket_69 : DD cX2_addBucket 69 (.iadd) 1 70 := ⟨by decide +kernel, rfl⟩
theorem eX2_addBucket_70 : DD cX2_addBucket 70 (.putfield 46) 3 73 := ⟨by decide +kernel, rfl⟩
theorem eX2_addBucket_73 : DD cX2_addBucket 73 (.aload_n 0) 1 74 := ⟨by decide +kernel, rfl⟩
theorem eX2_addBucket_74 : DD cX2_addBucket 74 (.dup) 1 75 := ⟨by decide +kernel, rfl⟩
theorem eX2_addBucket_75 : DD cX2_addBucket 75 (.getfield 52) 3 78 := ⟨by decide +kernel, rfl⟩
theorem eX2_addBucket_78 : DD cX2_addBucket 78 (.iload 5) 2 80 := ⟨by decide +kernel, rfl⟩
theorem eX2_addBucket_80 : DD cX2_addBucket 80 (.iload_n 3) 1 81 := ⟨by decide +kernel, rfl⟩
theorem eX2_addBucket_81 : DD cX2_addBucket 81 (.imul) 1 82 := ⟨by decide +kernel, rfl⟩
theorem eX2_addBucket_82 : DD cX2_addBucket 82 (.iload 4) 2 84 := ⟨by decide +kernel, rfl⟩
theorem eX2_addBucket_84 : DD cX2_addBucket 84 (.idiv) 1 85 := ⟨by decide +kernel, rfl⟩
theorem eX2_addBucket_85 : DD cX2_addBucket 85 (.iadd) 1 86 := ⟨by decide +kernel, rfl⟩
theorem eX2_addBucket_86 : DD cX2_addBucket 86 (.putfield 52) 3 89 := ⟨by decide +kernel, rfl⟩
theorem eX2_addBucket_89 : DD cX2_addBucket 89 (.return_) 1 90 := ⟨by decide +kernel, rfl⟩
def G_X2_addBucket (p1 : Nat) (x2 : Int32) (x3 : Int32) (μ : Mem) : Option (Unit × Mem) :=
  bd (G_X4_widthOf p1 x2 μ) (fun r_2 μ_1 => if x3 = 0 then some ((), μ_1) else if (1 : Int32) ≤ r_2 then bd (G_X4_totalOf p1 x2 μ_1) (fun r_4 μ_3 => bd (G_X4_greatestOf p1 x2 μ_3) (fun r_6 μ_5 => lb (wI μ_5 103 3 ((rI μ_5 103 3) + (imax (0 : Int32) (r_4 - (r_6 * (r_2 - x3)))))) (fun μ_7 => lb (wI μ_7 103 4 ((rI μ_7 103 4) + (imin r_4 (r_6 * x3)))) (fun μ_8 => gq (decide (¬ r_2 = 0)) (lb (wI μ_8 103 5 ((rI μ_8 103 5) + ((r_4 * x3) / r_2))) (fun μ_9 => some ((), μ_9))))))) else some ((), μ_1))
set_option maxHeartbeats 4000000 in
theorem c_X2_addBucket {X : Wd} (hX : WdOk X) (p1 : Nat) (h1 : kd p1 = 4) (x2 : Int32) (x3 : Int32) (μ : Mem) : CtV X yX2_addBucket cX2_addBucket 7 none (rmF 2 42) [.ref (xad X 103), .ref (xad X p1), .int x2, .int x3] μ (G_X2_addBucket p1 x2 x3 μ) := by
  refine CtV.of hX (plainFor_of_name (by decide)) (by exact Nat.le_of_ble_eq_true rfl) ?_
  intro C hCX hC hr
  subst hCX
  show J C (KV C) μ 0 [(0, .ref (xad (cX C) 103)), (1, .ref (xad (cX C) p1)), (2, .int x2), (3, .int x3)] [] _
  unfold G_X2_addBucket
  refine J.aload_n (j := 1) hC eX2_addBucket_0 rfl ?_
  refine J.iload_n (j := 2) hC eX2_addBucket_1 rfl ?_
  refine J.callVI (st := []) hC eX2_addBucket_2 h1 (by decide) rfl rfl ml_X2_102 mv_X4_widthOf (Rle_of (Nat.le_of_ble_eq_true rfl) (Nat.le_of_ble_eq_true rfl)) (c_X4_widthOf hC.X p1 h1 x2 μ) rfl rfl (Nat.le_of_ble_eq_true rfl) (fun r_2 μ_1 => ?_)
  refine J.istore [(4, .int r_2), (0, .ref (xad (cX C) 103)), (1, .ref (xad (cX C) p1)), (2, .int x2), (3, .int x3)] hC eX2_addBucket_5 (by decide) rfl ?_
  refine J.iload_n (j := 4) hC eX2_addBucket_7 rfl ?_
  refine J.if_eq hC eX2_addBucket_8 (fun _ => ?_) (fun _ => ?_)
  · exact J.vret hC hr eX2_addBucket_17
  · refine J.iload (j := 0) hC eX2_addBucket_11 rfl ?_
    refine J.iconst hC eX2_addBucket_13 ci_1 ?_
    refine J.icmp_ge hC eX2_addBucket_14 (fun _ => ?_) (fun _ => ?_)
    · refine J.aload_n (j := 2) hC eX2_addBucket_18 rfl ?_
      refine J.iload_n (j := 3) hC eX2_addBucket_19 rfl ?_
      refine J.callVI (st := []) hC eX2_addBucket_20 h1 (by decide) rfl rfl ml_X2_105 mv_X4_totalOf (Rle_of (Nat.le_of_ble_eq_true rfl) (Nat.le_of_ble_eq_true rfl)) (c_X4_totalOf hC.X p1 h1 x2 μ_1) rfl rfl (Nat.le_of_ble_eq_true rfl) (fun r_4 μ_3 => ?_)
      refine J.istore [(5, .int r_4), (4, .int r_2), (0, .ref (xad (cX C) 103)), (1, .ref (xad (cX C) p1)), (2, .int x2), (3, .int x3)] hC eX2_addBucket_23 (by decide) rfl ?_
      refine J.aload_n (j := 3) hC eX2_addBucket_25 rfl ?_
      refine J.iload_n (j := 4) hC eX2_addBucket_26 rfl ?_
      refine J.callVI (st := []) hC eX2_addBucket_27 h1 (by decide) rfl rfl ml_X2_108 mv_X4_greatestOf (Rle_of (Nat.le_of_ble_eq_true rfl) (Nat.le_of_ble_eq_true rfl)) (c_X4_greatestOf hC.X p1 h1 x2 μ_3) rfl rfl (Nat.le_of_ble_eq_true rfl) (fun r_6 μ_5 => ?_)
      refine J.istore [(6, .int r_6), (5, .int r_4), (4, .int r_2), (0, .ref (xad (cX C) 103)), (1, .ref (xad (cX C) p1)), (2, .int x2), (3, .int x3)] hC eX2_addBucket_30 (by decide) rfl ?_
      refine J.aload_n (j := 3) hC eX2_addBucket_32 rfl ?_
      refine J.dup hC eX2_addBucket_33 rfl ?_
      refine gf_X2_40 hC eX2_addBucket_34 kk_103 ?_
      refine J.iconst hC eX2_addBucket_37 ci_0 ?_
      refine J.iload (j := 1) hC eX2_addBucket_38 rfl ?_
      refine J.iload (j := 0) hC eX2_addBucket_40 rfl ?_
      refine J.iload (j := 2) hC eX2_addBucket_42 rfl ?_
      refine J.iload_n (j := 6) hC eX2_addBucket_44 rfl ?_
      refine J.isub hC eX2_addBucket_45 ?_
      refine J.imul hC eX2_addBucket_46 ?_
      refine J.isub hC eX2_addBucket_47 ?_
      refine J.mmax hC eX2_addBucket_48 ml_X2_69 w_smax w_im w_cmax (Nat.le_of_ble_eq_true rfl) (Nat.le_of_ble_eq_true rfl) ?_
      refine J.iadd hC eX2_addBucket_51 ?_
      refine pf_X2_40 hC eX2_addBucket_52 kk_103 (fun μ_7 => ?_)
      refine J.aload_n (j := 3) hC eX2_addBucket_55 rfl ?_
      refine J.dup hC eX2_addBucket_56 rfl ?_
      refine gf_X2_46 hC eX2_addBucket_57 kk_103 ?_
      refine J.iload (j := 1) hC eX2_addBucket_60 rfl ?_
      refine J.iload (j := 0) hC eX2_addBucket_62 rfl ?_
      refine J.iload_n (j := 6) hC eX2_addBucket_64 rfl ?_
      refine J.imul hC eX2_addBucket_65 ?_
      refine J.mmin hC eX2_addBucket_66 ml_X2_63 w_smin w_im w_cmin (Nat.le_of_ble_eq_true rfl) (Nat.le_of_ble_eq_true rfl) ?_
      refine J.iadd hC eX2_addBucket_69 ?_
      refine pf_X2_46 hC eX2_addBucket_70 kk_103 (fun μ_8 => ?_)
      refine J.aload_n (j := 3) hC eX2_addBucket_73 rfl ?_
      refine J.dup hC eX2_addBucket_74 rfl ?_
      refine gf_X2_52 hC eX2_addBucket_75 kk_103 ?_
      refine J.iload (j := 1) hC eX2_addBucket_78 rfl ?_
      refine J.iload_n (j := 6) hC eX2_addBucket_80 rfl ?_
      refine J.imul hC eX2_addBucket_81 ?_
      refine J.iload (j := 2) hC eX2_addBucket_82 rfl ?_
      refine J.idiv hC eX2_addBucket_84 ?_
      refine J.iadd hC eX2_addBucket_85 ?_
      refine pf_X2_52 hC eX2_addBucket_86 kk_103 (fun μ_9 => ?_)
      exact J.vret hC hr eX2_addBucket_89
    · exact J.vret hC hr eX2_addBucket_17
