-- checkIndex
theorem eJ3_checkIndex_8e157_0 : DD cJ3_checkIndex_8e157 0 (.iload_n 0) 1 1 := ⟨by decide +kernel, rfl⟩
theorem eJ3_checkIndex_8e157_1 : DB cJ3_checkIndex_8e157 1 (.ifCond .lt 8) (8) 4 9 := ⟨by decide +kernel, rfl, by decide⟩
theorem eJ3_checkIndex_8e157_4 : DD cJ3_checkIndex_8e157 4 (.iload_n 0) 1 5 := ⟨by decide +kernel, rfl⟩
theorem eJ3_checkIndex_8e157_5 : DD cJ3_checkIndex_8e157 5 (.iload_n 1) 1 6 := ⟨by decide +kernel, rfl⟩
theorem eJ3_checkIndex_8e157_6 : DB cJ3_checkIndex_8e157 6 (.if_icmp .lt 10) (10) 9 16 := ⟨by decide +kernel, rfl, by decide⟩
theorem eJ3_checkIndex_8e157_9 : DD cJ3_checkIndex_8e157 9 (.aload_n 2) 1 10 := ⟨by decide +kernel, rfl⟩
theorem eJ3_checkIndex_8e157_10 : DD cJ3_checkIndex_8e157 10 (.iload_n 0) 1 11 := ⟨by decide +kernel, rfl⟩
theorem eJ3_checkIndex_8e157_11 : DD cJ3_checkIndex_8e157 11 (.iload_n 1) 1 12 := ⟨by decide +kernel, rfl⟩
theorem eJ3_checkIndex_8e157_12 : DD cJ3_checkIndex_8e157 12 (.invokestatic 95) 3 15 := ⟨by decide +kernel, rfl⟩
theorem eJ3_checkIndex_8e157_15 : DD cJ3_checkIndex_8e157 15 (.athrow) 1 16 := ⟨by decide +kernel, rfl⟩
theorem eJ3_checkIndex_8e157_16 : DD cJ3_checkIndex_8e157 16 (.iload_n 0) 1 17 := ⟨by decide +kernel, rfl⟩
theorem eJ3_checkIndex_8e157_17 : DD cJ3_checkIndex_8e157 17 (.ireturn) 1 18 := ⟨by decide +kernel, rfl⟩
def F_J3_checkIndex_8e157_sn_9 (x0 : Int32) (x1 : Int32) (μ : Mem) : Option (Int32 × Mem) :=
  none
set_option maxHeartbeats 4000000 in
theorem j_J3_checkIndex_8e157_sn_9 {C : Cx} (hC : Ok C cJ3_checkIndex_8e157 3 (yJ3_checkIndex_8e157).cls (rmF 0 0)) (hr : (cT C).sig.returnType = (some .int)) (x0 : Int32) (x1 : Int32) (μ : Mem) : J C (KI C) μ 9 [(0, .int x0), (1, .int x1), (2, .null)] [] (F_J3_checkIndex_8e157_sn_9  x0 x1 μ) := by
  unfold F_J3_checkIndex_8e157_sn_9
  exact J.no
def G_J3_checkIndex_8e157_sn (x0 : Int32) (x1 : Int32) (μ : Mem) : Option (Int32 × Mem) :=
  if x0 < 0 then F_J3_checkIndex_8e157_sn_9  x0 x1 μ else if x0 < x1 then some (x0, μ) else F_J3_checkIndex_8e157_sn_9  x0 x1 μ
set_option maxHeartbeats 4000000 in
theorem c_J3_checkIndex_8e157_sn {X : Wd} (hX : WdOk X) (x0 : Int32) (x1 : Int32) (μ : Mem) : CtI X yJ3_checkIndex_8e157 cJ3_checkIndex_8e157 3 (some .int) (rmF 0 0) [.int x0, .int x1, .null] μ (G_J3_checkIndex_8e157_sn x0 x1 μ) := by
  refine CtI.of hX (by decide +kernel) (by exact Nat.le_of_ble_eq_true rfl) ?_
  intro C hCX hC hr
  subst hCX
  show J C (KI C) μ 0 [(0, .int x0), (1, .int x1), (2, .null)] [] _
  unfold G_J3_checkIndex_8e157_sn
  refine J.iload_n (j := 0) hC eJ3_checkIndex_8e157_0 rfl ?_
  refine J.if_lt hC eJ3_checkIndex_8e157_1 (fun _ => ?_) (fun _ => ?_)
  · refine J.sub [0, 1, 2] rfl ?_
    exact j_J3_checkIndex_8e157_sn_9 hC hr  x0 x1 μ
  · refine J.iload_n (j := 0) hC eJ3_checkIndex_8e157_4 rfl ?_
    refine J.iload_n (j := 1) hC eJ3_checkIndex_8e157_5 rfl ?_
    refine J.icmp_lt hC eJ3_checkIndex_8e157_6 (fun _ => ?_) (fun _ => ?_)
    · refine J.iload_n (j := 0) hC eJ3_checkIndex_8e157_16 rfl ?_
      exact J.iret hC hr eJ3_checkIndex_8e157_17
    · refine J.sub [0, 1, 2] rfl ?_
      exact j_J3_checkIndex_8e157_sn_9 hC hr  x0 x1 μ
def F_J3_checkIndex_8e157_sr_9 (x0 : Int32) (x1 : Int32) (t2 : Nat) (μ : Mem) : Option (Int32 × Mem) :=
  none
set_option maxHeartbeats 4000000 in
theorem j_J3_checkIndex_8e157_sr_9 {C : Cx} (hC : Ok C cJ3_checkIndex_8e157 3 (yJ3_checkIndex_8e157).cls (rmF 0 0)) (hr : (cT C).sig.returnType = (some .int)) (x0 : Int32) (x1 : Int32) (t2 : Nat) (μ : Mem) : J C (KI C) μ 9 [(0, .int x0), (1, .int x1), (2, .ref t2)] [] (F_J3_checkIndex_8e157_sr_9  x0 x1 t2 μ) := by
  unfold F_J3_checkIndex_8e157_sr_9
  exact J.no
def G_J3_checkIndex_8e157_sr (x0 : Int32) (x1 : Int32) (t2 : Nat) (μ : Mem) : Option (Int32 × Mem) :=
  if x0 < 0 then F_J3_checkIndex_8e157_sr_9  x0 x1 t2 μ else if x0 < x1 then some (x0, μ) else F_J3_checkIndex_8e157_sr_9  x0 x1 t2 μ
set_option maxHeartbeats 4000000 in
theorem c_J3_checkIndex_8e157_sr {X : Wd} (hX : WdOk X) (x0 : Int32) (x1 : Int32) (t2 : Nat) (μ : Mem) : CtI X yJ3_checkIndex_8e157 cJ3_checkIndex_8e157 3 (some .int) (rmF 0 0) [.int x0, .int x1, .ref t2] μ (G_J3_checkIndex_8e157_sr x0 x1 t2 μ) := by
  refine CtI.of hX (by decide +kernel) (by exact Nat.le_of_ble_eq_true rfl) ?_
  intro C hCX hC hr
  subst hCX
  show J C (KI C) μ 0 [(0, .int x0), (1, .int x1), (2, .ref t2)] [] _
  unfold G_J3_checkIndex_8e157_sr
  refine J.iload_n (j := 0) hC eJ3_checkIndex_8e157_0 rfl ?_
  refine J.if_lt hC eJ3_checkIndex_8e157_1 (fun _ => ?_) (fun _ => ?_)
  · refine J.sub [0, 1, 2] rfl ?_
    exact j_J3_checkIndex_8e157_sr_9 hC hr  x0 x1 t2 μ
  · refine J.iload_n (j := 0) hC eJ3_checkIndex_8e157_4 rfl ?_
    refine J.iload_n (j := 1) hC eJ3_checkIndex_8e157_5 rfl ?_
    refine J.icmp_lt hC eJ3_checkIndex_8e157_6 (fun _ => ?_) (fun _ => ?_)
    · refine J.iload_n (j := 0) hC eJ3_checkIndex_8e157_16 rfl ?_
      exact J.iret hC hr eJ3_checkIndex_8e157_17
    · refine J.sub [0, 1, 2] rfl ?_
      exact j_J3_checkIndex_8e157_sr_9 hC hr  x0 x1 t2 μ
-- strCheck
theorem eJ0_checkIndex_df160_0 : DD cJ0_checkIndex_df160 0 (.iload_n 0) 1 1 := ⟨by decide +kernel, rfl⟩
theorem eJ0_checkIndex_df160_1 : DD cJ0_checkIndex_df160 1 (.iload_n 1) 1 2 := ⟨by decide +kernel, rfl⟩
theorem eJ0_checkIndex_df160_2 : DD cJ0_checkIndex_df160 2 (.getstatic 1053) 3 5 := ⟨by decide +kernel, rfl⟩
theorem eJ0_checkIndex_df160_5 : DD cJ0_checkIndex_df160 5 (.invokestatic 1059) 3 8 := ⟨by decide +kernel, rfl⟩
theorem eJ0_checkIndex_df160_8 : DD cJ0_checkIndex_df160 8 (.pop) 1 9 := ⟨by decide +kernel, rfl⟩
theorem eJ0_checkIndex_df160_9 : DD cJ0_checkIndex_df160 9 (.return_) 1 10 := ⟨by decide +kernel, rfl⟩
def G_J0_checkIndex_df160 (x0 : Int32) (x1 : Int32) (μ : Mem) : Option (Unit × Mem) :=
  bd (G_J3_checkIndex_8e157_sn x0 x1 μ) (fun _ μ_1 => some ((), μ_1))
theorem c_J0_checkIndex_df160 {X : Wd} (hX : WdOk X) (x0 : Int32) (x1 : Int32) (μ : Mem) : CtV X yJ0_checkIndex_df160 cJ0_checkIndex_df160 2 none (rmF 1 22) [.int x0, .int x1] μ (G_J0_checkIndex_df160 x0 x1 μ) := by
  refine CtV.of hX (by decide +kernel) (by exact Nat.le_of_ble_eq_true rfl) ?_
  intro C hCX hC hr
  subst hCX
  show J C (KV C) μ 0 [(0, .int x0), (1, .int x1)] [] _
  unfold G_J0_checkIndex_df160
  refine J.iload_n (j := 0) hC eJ0_checkIndex_df160_0 rfl ?_
  refine J.iload_n (j := 1) hC eJ0_checkIndex_df160_1 rfl ?_
  rcases hC.St.2.2.2.2.1 with hz | ⟨t2, hz⟩
  · refine J.gets hC eJ0_checkIndex_df160_2 hz fl_J0_1053 rfl ?_
    refine J.callSI (st := []) hC eJ0_checkIndex_df160_5 ml_J0_1059 mv_J3_checkIndex_8e157 (Rle_of (Nat.le_of_ble_eq_true rfl) (Nat.le_of_ble_eq_true rfl)) (c_J3_checkIndex_8e157_sn hC.X x0 x1 μ) rfl rfl (Nat.le_of_ble_eq_true rfl) (fun r_1 μ_1 => ?_)
    refine J.pop hC eJ0_checkIndex_df160_8 rfl ?_
    exact J.vret hC hr eJ0_checkIndex_df160_9
  · refine J.gets hC eJ0_checkIndex_df160_2 hz fl_J0_1053 rfl ?_
    refine J.callSI (st := []) hC eJ0_checkIndex_df160_5 ml_J0_1059 mv_J3_checkIndex_8e157 (Rle_of (Nat.le_of_ble_eq_true rfl) (Nat.le_of_ble_eq_true rfl)) (c_J3_checkIndex_8e157_sr hC.X x0 x1 t2 μ) rfl rfl (Nat.le_of_ble_eq_true rfl) (fun r_1 μ_1 => ?_)
    refine J.pop hC eJ0_checkIndex_df160_8 rfl ?_
    exact J.vret hC hr eJ0_checkIndex_df160_9

-- J0_isLatin1_aae02
theorem eJ0_isLatin1_aae02_0 : DD cJ0_isLatin1_aae02 0 (.getstatic 38) 3 3 := ⟨by decide +kernel, rfl⟩
theorem eJ0_isLatin1_aae02_3 : DB cJ0_isLatin1_aae02 3 (.ifCond .eq 14) (14) 6 17 := ⟨by decide +kernel, rfl, by decide⟩
theorem eJ0_isLatin1_aae02_6 : DD cJ0_isLatin1_aae02 6 (.aload_n 0) 1 7 := ⟨by decide +kernel, rfl⟩
theorem eJ0_isLatin1_aae02_7 : DD cJ0_isLatin1_aae02 7 (.getfield 15) 3 10 := ⟨by decide +kernel, rfl⟩
theorem eJ0_isLatin1_aae02_10 : DB cJ0_isLatin1_aae02 10 (.ifCond .ne 7) (7) 13 17 := ⟨by decide +kernel, rfl, by decide⟩
theorem eJ0_isLatin1_aae02_13 : DD cJ0_isLatin1_aae02 13 (.iconst 1) 1 14 := ⟨by decide +kernel, rfl⟩
theorem eJ0_isLatin1_aae02_14 : DB cJ0_isLatin1_aae02 14 (.goto 4) (4) 17 18 := ⟨by decide +kernel, rfl, by decide⟩
theorem eJ0_isLatin1_aae02_17 : DD cJ0_isLatin1_aae02 17 (.iconst 0) 1 18 := ⟨by decide +kernel, rfl⟩
theorem eJ0_isLatin1_aae02_18 : DD cJ0_isLatin1_aae02 18 (.ireturn) 1 19 := ⟨by decide +kernel, rfl⟩
def G_J0_isLatin1_aae02_s0  (μ : Mem) : Option (Int32 × Mem) :=
  if (1 : Int32) = 0 then some ((0 : Int32), μ) else if (0 : Int32) = 0 then some ((1 : Int32), μ) else some ((0 : Int32), μ)
set_option maxHeartbeats 4000000 in
theorem c_J0_isLatin1_aae02_s0 {X : Wd} (hX : WdOk X)  (μ : Mem) : CtI X yJ0_isLatin1_aae02 cJ0_isLatin1_aae02 1 (some .boolean) (rmF 0 0) [.ref (xs X (10 + 0))] μ (G_J0_isLatin1_aae02_s0  μ) := by
  refine CtI.of hX (by decide +kernel) (by exact Nat.le_of_ble_eq_true rfl) ?_
  intro C hCX hC hr
  subst hCX
  show J C (KI C) μ 0 [(0, .ref (xs (cX C) (10 + 0)))] [] _
  unfold G_J0_isLatin1_aae02_s0
  refine J.gets hC eJ0_isLatin1_aae02_0 hC.St.2.2.2.1 fl_J0_38 rfl ?_
  refine J.if_eq hC eJ0_isLatin1_aae02_3 (fun _ => ?_) (fun _ => ?_)
  · refine J.iconst hC eJ0_isLatin1_aae02_17 ci_0 ?_
    exact J.zretB hC hr eJ0_isLatin1_aae02_18 rfl
  · refine J.aload_n (j := 0) hC eJ0_isLatin1_aae02_6 rfl ?_
    refine J.sgetf hC eJ0_isLatin1_aae02_7 (sStr hC (i := 0) (by decide)).1 fl_J0_15 rfl ?_
    refine J.if_ne hC eJ0_isLatin1_aae02_10 (fun _ => ?_) (fun _ => ?_)
    · refine J.iconst hC eJ0_isLatin1_aae02_13 ci_1 ?_
      refine J.goto hC eJ0_isLatin1_aae02_14 ?_
      exact J.zretB hC hr eJ0_isLatin1_aae02_18 rfl
    · refine J.iconst hC eJ0_isLatin1_aae02_17 ci_0 ?_
      exact J.zretB hC hr eJ0_isLatin1_aae02_18 rfl
-- J1_charAt_3b067
theorem eJ1_charAt_3b067_0 : DD cJ1_charAt_3b067 0 (.iload_n 1) 1 1 := ⟨by decide +kernel, rfl⟩
theorem eJ1_charAt_3b067_1 : DD cJ1_charAt_3b067 1 (.aload_n 0) 1 2 := ⟨by decide +kernel, rfl⟩
theorem eJ1_charAt_3b067_2 : DD cJ1_charAt_3b067 2 (.arraylength) 1 3 := ⟨by decide +kernel, rfl⟩
theorem eJ1_charAt_3b067_3 : DD cJ1_charAt_3b067 3 (.invokestatic 9) 3 6 := ⟨by decide +kernel, rfl⟩
theorem eJ1_charAt_3b067_6 : DD cJ1_charAt_3b067 6 (.aload_n 0) 1 7 := ⟨by decide +kernel, rfl⟩
theorem eJ1_charAt_3b067_7 : DD cJ1_charAt_3b067 7 (.iload_n 1) 1 8 := ⟨by decide +kernel, rfl⟩
theorem eJ1_charAt_3b067_8 : DD cJ1_charAt_3b067 8 (.baload) 1 9 := ⟨by decide +kernel, rfl⟩
theorem eJ1_charAt_3b067_9 : DD cJ1_charAt_3b067 9 (.sipush 255) 3 12 := ⟨by decide +kernel, rfl⟩
theorem eJ1_charAt_3b067_12 : DD cJ1_charAt_3b067 12 (.iand) 1 13 := ⟨by decide +kernel, rfl⟩
theorem eJ1_charAt_3b067_13 : DD cJ1_charAt_3b067 13 (.i2c) 1 14 := ⟨by decide +kernel, rfl⟩
theorem eJ1_charAt_3b067_14 : DD cJ1_charAt_3b067 14 (.ireturn) 1 15 := ⟨by decide +kernel, rfl⟩
def G_J1_charAt_3b067_s0 (x1 : Int32) (μ : Mem) : Option (Int32 × Mem) :=
  bd (G_J0_checkIndex_df160 x1 (8 : Int32) μ) (fun r_2 μ_1 => gq (inB x1 (sLen.getD 0 0)) (gq (chB (((((sByt.getD 0 []).getD (nx x1) 0) &&& (255 : Int32)).toUInt32 % 65536).toInt32)) (some (((((sByt.getD 0 []).getD (nx x1) 0) &&& (255 : Int32)).toUInt32 % 65536).toInt32, μ_1))))
set_option maxHeartbeats 4000000 in
theorem c_J1_charAt_3b067_s0 {X : Wd} (hX : WdOk X) (x1 : Int32) (μ : Mem) : CtI X yJ1_charAt_3b067 cJ1_charAt_3b067 2 (some .char) (rmF 2 43) [.ref (xs X (20 + 0)), .int x1] μ (G_J1_charAt_3b067_s0 x1 μ) := by
  refine CtI.of hX (by decide +kernel) (by exact Nat.le_of_ble_eq_true rfl) ?_
  intro C hCX hC hr
  subst hCX
  show J C (KI C) μ 0 [(0, .ref (xs (cX C) (20 + 0))), (1, .int x1)] [] _
  unfold G_J1_charAt_3b067_s0
  refine J.iload_n (j := 1) hC eJ1_charAt_3b067_0 rfl ?_
  refine J.aload_n (j := 0) hC eJ1_charAt_3b067_1 rfl ?_
  refine J.tlen (v := (8 : Int32)) hC eJ1_charAt_3b067_2 (sStr hC (i := 0) (by decide)).2.2 (by decide) ?_
  refine J.callSV (st := []) hC eJ1_charAt_3b067_3 ml_J1_9 mv_J0_checkIndex_df160 (Rle_of (Nat.le_of_ble_eq_true rfl) (Nat.le_of_ble_eq_true rfl)) (c_J0_checkIndex_df160 hC.X x1 (8 : Int32) μ) rfl rfl (Nat.le_of_ble_eq_true rfl) (fun r_2 μ_1 => ?_)
  refine J.aload_n (j := 0) hC eJ1_charAt_3b067_6 rfl ?_
  refine J.iload_n (j := 1) hC eJ1_charAt_3b067_7 rfl ?_
  refine J.tbald hC eJ1_charAt_3b067_8 (sStr hC (i := 0) (by decide)).2.2 ?_
  refine J.sipush hC eJ1_charAt_3b067_9 cs_255 ?_
  refine J.iand hC eJ1_charAt_3b067_12 ?_
  refine J.i2c hC eJ1_charAt_3b067_13 ?_
  exact J.cret hC hr eJ1_charAt_3b067_14
-- J0_charAt_5068e
theorem eJ0_charAt_5068e_0 : DD cJ0_charAt_5068e 0 (.aload_n 0) 1 1 := ⟨by decide +kernel, rfl⟩
theorem eJ0_charAt_5068e_1 : DD cJ0_charAt_5068e 1 (.invokevirtual 492) 3 4 := ⟨by decide +kernel, rfl⟩
theorem eJ0_charAt_5068e_4 : DB cJ0_charAt_5068e 4 (.ifCond .eq 12) (12) 7 16 := ⟨by decide +kernel, rfl, by decide⟩
theorem eJ0_charAt_5068e_7 : DD cJ0_charAt_5068e 7 (.aload_n 0) 1 8 := ⟨by decide +kernel, rfl⟩
theorem eJ0_charAt_5068e_8 : DD cJ0_charAt_5068e 8 (.getfield 9) 3 11 := ⟨by decide +kernel, rfl⟩
theorem eJ0_charAt_5068e_11 : DD cJ0_charAt_5068e 11 (.iload_n 1) 1 12 := ⟨by decide +kernel, rfl⟩
theorem eJ0_charAt_5068e_12 : DD cJ0_charAt_5068e 12 (.invokestatic 495) 3 15 := ⟨by decide +kernel, rfl⟩
theorem eJ0_charAt_5068e_15 : DD cJ0_charAt_5068e 15 (.ireturn) 1 16 := ⟨by decide +kernel, rfl⟩
theorem eJ0_charAt_5068e_16 : DD cJ0_charAt_5068e 16 (.aload_n 0) 1 17 := ⟨by decide +kernel, rfl⟩
theorem eJ0_charAt_5068e_17 : DD cJ0_charAt_5068e 17 (.getfield 9) 3 20 := ⟨by decide +kernel, rfl⟩
theorem eJ0_charAt_5068e_20 : DD cJ0_charAt_5068e 20 (.iload_n 1) 1 21 := ⟨by decide +kernel, rfl⟩
theorem eJ0_charAt_5068e_21 : DD cJ0_charAt_5068e 21 (.invokestatic 498) 3 24 := ⟨by decide +kernel, rfl⟩
theorem eJ0_charAt_5068e_24 : DD cJ0_charAt_5068e 24 (.ireturn) 1 25 := ⟨by decide +kernel, rfl⟩
def G_J0_charAt_5068e_s0 (x1 : Int32) (μ : Mem) : Option (Int32 × Mem) :=
  bd (G_J0_isLatin1_aae02_s0  μ) (fun r_2 μ_1 => if r_2 = 0 then none else bd (G_J1_charAt_3b067_s0 x1 μ_1) (fun r_4 μ_3 => gq (chB r_4) (some (r_4, μ_3))))
set_option maxHeartbeats 4000000 in
theorem c_J0_charAt_5068e_s0 {X : Wd} (hX : WdOk X) (x1 : Int32) (μ : Mem) : CtI X yJ0_charAt_5068e cJ0_charAt_5068e 2 (some .char) (rmF 3 64) [.ref (xs X (10 + 0)), .int x1] μ (G_J0_charAt_5068e_s0 x1 μ) := by
  refine CtI.of hX (by decide +kernel) (by exact Nat.le_of_ble_eq_true rfl) ?_
  intro C hCX hC hr
  subst hCX
  show J C (KI C) μ 0 [(0, .ref (xs (cX C) (10 + 0))), (1, .int x1)] [] _
  unfold G_J0_charAt_5068e_s0
  refine J.aload_n (j := 0) hC eJ0_charAt_5068e_0 rfl ?_
  refine J.callTI (i := 0) (st := []) hC eJ0_charAt_5068e_1 (by decide) rfl ml_J0_492 mv_J0_isLatin1_aae02 (Rle_of (Nat.le_of_ble_eq_true rfl) (Nat.le_of_ble_eq_true rfl)) (c_J0_isLatin1_aae02_s0 hC.X  μ) rfl rfl (Nat.le_of_ble_eq_true rfl) (fun r_2 μ_1 => ?_)
  refine J.if_eq hC eJ0_charAt_5068e_4 (fun _ => ?_) (fun _ => ?_)
  · exact J.no
  · refine J.aload_n (j := 0) hC eJ0_charAt_5068e_7 rfl ?_
    refine J.sgetf hC eJ0_charAt_5068e_8 (sStr hC (i := 0) (by decide)).2.1 fl_J0_9 rfl ?_
    refine J.iload_n (j := 1) hC eJ0_charAt_5068e_11 rfl ?_
    refine J.callSI (st := []) hC eJ0_charAt_5068e_12 ml_J0_495 mv_J1_charAt_3b067 (Rle_of (Nat.le_of_ble_eq_true rfl) (Nat.le_of_ble_eq_true rfl)) (c_J1_charAt_3b067_s0 hC.X x1 μ_1) rfl rfl (Nat.le_of_ble_eq_true rfl) (fun r_4 μ_3 => ?_)
    exact J.cret hC hr eJ0_charAt_5068e_15
-- J0_isLatin1_aae02
def G_J0_isLatin1_aae02_s1  (μ : Mem) : Option (Int32 × Mem) :=
  if (1 : Int32) = 0 then some ((0 : Int32), μ) else if (0 : Int32) = 0 then some ((1 : Int32), μ) else some ((0 : Int32), μ)
set_option maxHeartbeats 4000000 in
theorem c_J0_isLatin1_aae02_s1 {X : Wd} (hX : WdOk X)  (μ : Mem) : CtI X yJ0_isLatin1_aae02 cJ0_isLatin1_aae02 1 (some .boolean) (rmF 0 0) [.ref (xs X (10 + 1))] μ (G_J0_isLatin1_aae02_s1  μ) := by
  refine CtI.of hX (by decide +kernel) (by exact Nat.le_of_ble_eq_true rfl) ?_
  intro C hCX hC hr
  subst hCX
  show J C (KI C) μ 0 [(0, .ref (xs (cX C) (10 + 1)))] [] _
  unfold G_J0_isLatin1_aae02_s1
  refine J.gets hC eJ0_isLatin1_aae02_0 hC.St.2.2.2.1 fl_J0_38 rfl ?_
  refine J.if_eq hC eJ0_isLatin1_aae02_3 (fun _ => ?_) (fun _ => ?_)
  · refine J.iconst hC eJ0_isLatin1_aae02_17 ci_0 ?_
    exact J.zretB hC hr eJ0_isLatin1_aae02_18 rfl
  · refine J.aload_n (j := 0) hC eJ0_isLatin1_aae02_6 rfl ?_
    refine J.sgetf hC eJ0_isLatin1_aae02_7 (sStr hC (i := 1) (by decide)).1 fl_J0_15 rfl ?_
    refine J.if_ne hC eJ0_isLatin1_aae02_10 (fun _ => ?_) (fun _ => ?_)
    · refine J.iconst hC eJ0_isLatin1_aae02_13 ci_1 ?_
      refine J.goto hC eJ0_isLatin1_aae02_14 ?_
      exact J.zretB hC hr eJ0_isLatin1_aae02_18 rfl
    · refine J.iconst hC eJ0_isLatin1_aae02_17 ci_0 ?_
      exact J.zretB hC hr eJ0_isLatin1_aae02_18 rfl
-- J0_coder_7d493
theorem eJ0_coder_7d493_0 : DD cJ0_coder_7d493 0 (.getstatic 38) 3 3 := ⟨by decide +kernel, rfl⟩
theorem eJ0_coder_7d493_3 : DB cJ0_coder_7d493 3 (.ifCond .eq 10) (10) 6 13 := ⟨by decide +kernel, rfl, by decide⟩
theorem eJ0_coder_7d493_6 : DD cJ0_coder_7d493 6 (.aload_n 0) 1 7 := ⟨by decide +kernel, rfl⟩
theorem eJ0_coder_7d493_7 : DD cJ0_coder_7d493 7 (.getfield 15) 3 10 := ⟨by decide +kernel, rfl⟩
theorem eJ0_coder_7d493_10 : DB cJ0_coder_7d493 10 (.goto 4) (4) 13 14 := ⟨by decide +kernel, rfl, by decide⟩
theorem eJ0_coder_7d493_13 : DD cJ0_coder_7d493 13 (.iconst 1) 1 14 := ⟨by decide +kernel, rfl⟩
theorem eJ0_coder_7d493_14 : DD cJ0_coder_7d493 14 (.ireturn) 1 15 := ⟨by decide +kernel, rfl⟩
def G_J0_coder_7d493_s1  (μ : Mem) : Option (Int32 × Mem) :=
  if (1 : Int32) = 0 then some ((1 : Int32), μ) else some ((0 : Int32), μ)
set_option maxHeartbeats 4000000 in
theorem c_J0_coder_7d493_s1 {X : Wd} (hX : WdOk X)  (μ : Mem) : CtI X yJ0_coder_7d493 cJ0_coder_7d493 1 (some .byte) (rmF 0 0) [.ref (xs X (10 + 1))] μ (G_J0_coder_7d493_s1  μ) := by
  refine CtI.of hX (by decide +kernel) (by exact Nat.le_of_ble_eq_true rfl) ?_
  intro C hCX hC hr
  subst hCX
  show J C (KI C) μ 0 [(0, .ref (xs (cX C) (10 + 1)))] [] _
  unfold G_J0_coder_7d493_s1
  refine J.gets hC eJ0_coder_7d493_0 hC.St.2.2.2.1 fl_J0_38 rfl ?_
  refine J.if_eq hC eJ0_coder_7d493_3 (fun _ => ?_) (fun _ => ?_)
  · refine J.iconst hC eJ0_coder_7d493_13 ci_1 ?_
    exact J.bret hC hr eJ0_coder_7d493_14 rfl
  · refine J.aload_n (j := 0) hC eJ0_coder_7d493_6 rfl ?_
    refine J.sgetf hC eJ0_coder_7d493_7 (sStr hC (i := 1) (by decide)).1 fl_J0_15 rfl ?_
    refine J.goto hC eJ0_coder_7d493_10 ?_
    exact J.bret hC hr eJ0_coder_7d493_14 rfl
-- J0_length_8abf5
theorem eJ0_length_8abf5_0 : DD cJ0_length_8abf5 0 (.aload_n 0) 1 1 := ⟨by decide +kernel, rfl⟩
theorem eJ0_length_8abf5_1 : DD cJ0_length_8abf5 1 (.getfield 9) 3 4 := ⟨by decide +kernel, rfl⟩
theorem eJ0_length_8abf5_4 : DD cJ0_length_8abf5 4 (.arraylength) 1 5 := ⟨by decide +kernel, rfl⟩
theorem eJ0_length_8abf5_5 : DD cJ0_length_8abf5 5 (.aload_n 0) 1 6 := ⟨by decide +kernel, rfl⟩
theorem eJ0_length_8abf5_6 : DD cJ0_length_8abf5 6 (.invokevirtual 335) 3 9 := ⟨by decide +kernel, rfl⟩
theorem eJ0_length_8abf5_9 : DD cJ0_length_8abf5 9 (.ishr) 1 10 := ⟨by decide +kernel, rfl⟩
theorem eJ0_length_8abf5_10 : DD cJ0_length_8abf5 10 (.ireturn) 1 11 := ⟨by decide +kernel, rfl⟩
def G_J0_length_8abf5_s1  (μ : Mem) : Option (Int32 × Mem) :=
  bd (G_J0_coder_7d493_s1  μ) (fun r_2 μ_1 => some ((4 : Int32) >>> (r_2 &&& 31), μ_1))
set_option maxHeartbeats 4000000 in
theorem c_J0_length_8abf5_s1 {X : Wd} (hX : WdOk X)  (μ : Mem) : CtI X yJ0_length_8abf5 cJ0_length_8abf5 1 (some .int) (rmF 1 20) [.ref (xs X (10 + 1))] μ (G_J0_length_8abf5_s1  μ) := by
  refine CtI.of hX (by decide +kernel) (by exact Nat.le_of_ble_eq_true rfl) ?_
  intro C hCX hC hr
  subst hCX
  show J C (KI C) μ 0 [(0, .ref (xs (cX C) (10 + 1)))] [] _
  unfold G_J0_length_8abf5_s1
  refine J.aload_n (j := 0) hC eJ0_length_8abf5_0 rfl ?_
  refine J.sgetf hC eJ0_length_8abf5_1 (sStr hC (i := 1) (by decide)).2.1 fl_J0_9 rfl ?_
  refine J.tlen (v := (4 : Int32)) hC eJ0_length_8abf5_4 (sStr hC (i := 1) (by decide)).2.2 (by decide) ?_
  refine J.aload_n (j := 0) hC eJ0_length_8abf5_5 rfl ?_
  refine J.callTI (i := 1) (st := [.int (4 : Int32)]) hC eJ0_length_8abf5_6 (by decide) rfl ml_J0_335 mv_J0_coder_7d493 (Rle_of (Nat.le_of_ble_eq_true rfl) (Nat.le_of_ble_eq_true rfl)) (c_J0_coder_7d493_s1 hC.X  μ) rfl rfl (Nat.le_of_ble_eq_true rfl) (fun r_2 μ_1 => ?_)
  refine J.ishr hC eJ0_length_8abf5_9 ?_
  exact J.iret hC hr eJ0_length_8abf5_10
-- J1_canEncode_9a6ad
theorem eJ1_canEncode_9a6ad_0 : DD cJ1_canEncode_9a6ad 0 (.iload_n 0) 1 1 := ⟨by decide +kernel, rfl⟩
theorem eJ1_canEncode_9a6ad_1 : DB cJ1_canEncode_9a6ad 1 (.ifCond .lt 14) (14) 4 15 := ⟨by decide +kernel, rfl, by decide⟩
theorem eJ1_canEncode_9a6ad_4 : DD cJ1_canEncode_9a6ad 4 (.iload_n 0) 1 5 := ⟨by decide +kernel, rfl⟩
theorem eJ1_canEncode_9a6ad_5 : DD cJ1_canEncode_9a6ad 5 (.sipush 255) 3 8 := ⟨by decide +kernel, rfl⟩
theorem eJ1_canEncode_9a6ad_8 : DB cJ1_canEncode_9a6ad 8 (.if_icmp .gt 7) (7) 11 15 := ⟨by decide +kernel, rfl, by decide⟩
theorem eJ1_canEncode_9a6ad_11 : DD cJ1_canEncode_9a6ad 11 (.iconst 1) 1 12 := ⟨by decide +kernel, rfl⟩
theorem eJ1_canEncode_9a6ad_12 : DB cJ1_canEncode_9a6ad 12 (.goto 4) (4) 15 16 := ⟨by decide +kernel, rfl, by decide⟩
theorem eJ1_canEncode_9a6ad_15 : DD cJ1_canEncode_9a6ad 15 (.iconst 0) 1 16 := ⟨by decide +kernel, rfl⟩
theorem eJ1_canEncode_9a6ad_16 : DD cJ1_canEncode_9a6ad 16 (.ireturn) 1 17 := ⟨by decide +kernel, rfl⟩
def G_J1_canEncode_9a6ad (x0 : Int32) (μ : Mem) : Option (Int32 × Mem) :=
  if x0 < 0 then some ((0 : Int32), μ) else if (255 : Int32) < x0 then some ((0 : Int32), μ) else some ((1 : Int32), μ)
set_option maxHeartbeats 4000000 in
theorem c_J1_canEncode_9a6ad {X : Wd} (hX : WdOk X) (x0 : Int32) (μ : Mem) : CtI X yJ1_canEncode_9a6ad cJ1_canEncode_9a6ad 1 (some .boolean) (rmF 0 0) [.int x0] μ (G_J1_canEncode_9a6ad x0 μ) := by
  refine CtI.of hX (by decide +kernel) (by exact Nat.le_of_ble_eq_true rfl) ?_
  intro C hCX hC hr
  subst hCX
  show J C (KI C) μ 0 [(0, .int x0)] [] _
  unfold G_J1_canEncode_9a6ad
  refine J.iload_n (j := 0) hC eJ1_canEncode_9a6ad_0 rfl ?_
  refine J.if_lt hC eJ1_canEncode_9a6ad_1 (fun _ => ?_) (fun _ => ?_)
  · refine J.iconst hC eJ1_canEncode_9a6ad_15 ci_0 ?_
    exact J.zretB hC hr eJ1_canEncode_9a6ad_16 rfl
  · refine J.iload_n (j := 0) hC eJ1_canEncode_9a6ad_4 rfl ?_
    refine J.sipush hC eJ1_canEncode_9a6ad_5 cs_255 ?_
    refine J.icmp_gt hC eJ1_canEncode_9a6ad_8 (fun _ => ?_) (fun _ => ?_)
    · refine J.iconst hC eJ1_canEncode_9a6ad_15 ci_0 ?_
      exact J.zretB hC hr eJ1_canEncode_9a6ad_16 rfl
    · refine J.iconst hC eJ1_canEncode_9a6ad_11 ci_1 ?_
      refine J.goto hC eJ1_canEncode_9a6ad_12 ?_
      exact J.zretB hC hr eJ1_canEncode_9a6ad_16 rfl
-- J1_indexOfChar_4cfef
theorem eJ1_indexOfChar_4cfef_0 : DD cJ1_indexOfChar_4cfef 0 (.iload_n 1) 1 1 := ⟨by decide +kernel, rfl⟩
theorem eJ1_indexOfChar_4cfef_1 : DD cJ1_indexOfChar_4cfef 1 (.i2b) 1 2 := ⟨by decide +kernel, rfl⟩
theorem eJ1_indexOfChar_4cfef_2 : DD cJ1_indexOfChar_4cfef 2 (.istore 4) 2 4 := ⟨by decide +kernel, rfl⟩
theorem eJ1_indexOfChar_4cfef_4 : DD cJ1_indexOfChar_4cfef 4 (.iload_n 2) 1 5 := ⟨by decide +kernel, rfl⟩
theorem eJ1_indexOfChar_4cfef_5 : DD cJ1_indexOfChar_4cfef 5 (.istore 5) 2 7 := ⟨by decide +kernel, rfl⟩
theorem eJ1_indexOfChar_4cfef_7 : DD cJ1_indexOfChar_4cfef 7 (.iload 5) 2 9 := ⟨by decide +kernel, rfl⟩
theorem eJ1_indexOfChar_4cfef_9 : DD cJ1_indexOfChar_4cfef 9 (.iload_n 3) 1 10 := ⟨by decide +kernel, rfl⟩
theorem eJ1_indexOfChar_4cfef_10 : DB cJ1_indexOfChar_4cfef 10 (.if_icmp .ge 21) (21) 13 31 := ⟨by decide +kernel, rfl, by decide⟩
theorem eJ1_indexOfChar_4cfef_13 : DD cJ1_indexOfChar_4cfef 13 (.aload_n 0) 1 14 := ⟨by decide +kernel, rfl⟩
theorem eJ1_indexOfChar_4cfef_14 : DD cJ1_indexOfChar_4cfef 14 (.iload 5) 2 16 := ⟨by decide +kernel, rfl⟩
theorem eJ1_indexOfChar_4cfef_16 : DD cJ1_indexOfChar_4cfef 16 (.baload) 1 17 := ⟨by decide +kernel, rfl⟩
theorem eJ1_indexOfChar_4cfef_17 : DD cJ1_indexOfChar_4cfef 17 (.iload 4) 2 19 := ⟨by decide +kernel, rfl⟩
theorem eJ1_indexOfChar_4cfef_19 : DB cJ1_indexOfChar_4cfef 19 (.if_icmp .ne 6) (6) 22 25 := ⟨by decide +kernel, rfl, by decide⟩
theorem eJ1_indexOfChar_4cfef_22 : DD cJ1_indexOfChar_4cfef 22 (.iload 5) 2 24 := ⟨by decide +kernel, rfl⟩
theorem eJ1_indexOfChar_4cfef_24 : DD cJ1_indexOfChar_4cfef 24 (.ireturn) 1 25 := ⟨by decide +kernel, rfl⟩
theorem eJ1_indexOfChar_4cfef_25 : DD cJ1_indexOfChar_4cfef 25 (.iinc 5 1) 3 28 := ⟨by decide +kernel, rfl⟩
theorem eJ1_indexOfChar_4cfef_28 : DB cJ1_indexOfChar_4cfef 28 (.goto (-21)) (-21) 31 7 := ⟨by decide +kernel, rfl, by decide⟩
theorem eJ1_indexOfChar_4cfef_31 : DD cJ1_indexOfChar_4cfef 31 (.iconst (-1)) 1 32 := ⟨by decide +kernel, rfl⟩
theorem eJ1_indexOfChar_4cfef_32 : DD cJ1_indexOfChar_4cfef 32 (.ireturn) 1 33 := ⟨by decide +kernel, rfl⟩
def L_J1_indexOfChar_4cfef_s1_7 : Nat → Int32 → Int32 → Int32 → Mem → Option (Int32 × Mem)
  | 0, _, _, _, _ => none
  | n + 1, x3, x4, x5, μ => if x3 ≤ x5 then some ((-1 : Int32), μ) else gq (inB x5 (sLen.getD 1 0)) (if ((sByt.getD 1 []).getD (nx x5) 0) = x4 then some (x5, μ) else lb (x5 + (1 : Int32)) (fun x5_1 => L_J1_indexOfChar_4cfef_s1_7  n x3 x4 x5_1 μ))
set_option maxHeartbeats 4000000 in
theorem j_J1_indexOfChar_4cfef_s1_7 {C : Cx} (hC : Ok C cJ1_indexOfChar_4cfef 6 (yJ1_indexOfChar_4cfef).cls (rmF 0 0)) (hr : (cT C).sig.returnType = (some .int)) : ∀ (n : Nat) (x3 : Int32) (x4 : Int32) (x5 : Int32) (μ : Mem), J C (KI C) μ 7 [(0, .ref (xs (cX C) (20 + 1))), (3, .int x3), (4, .int x4), (5, .int x5)] [] (L_J1_indexOfChar_4cfef_s1_7  n x3 x4 x5 μ) := by
  intro n
  induction n with
  | zero => intros; exact J.no
  | succ n ih =>
    intro x3 x4 x5 μ
    rw [L_J1_indexOfChar_4cfef_s1_7]
    refine J.iload (j := 3) hC eJ1_indexOfChar_4cfef_7 rfl ?_
    refine J.iload_n (j := 1) hC eJ1_indexOfChar_4cfef_9 rfl ?_
    refine J.icmp_ge hC eJ1_indexOfChar_4cfef_10 (fun _ => ?_) (fun _ => ?_)
    · refine J.iconst hC eJ1_indexOfChar_4cfef_31 ci_m1 ?_
      exact J.iret hC hr eJ1_indexOfChar_4cfef_32
    · refine J.aload_n (j := 0) hC eJ1_indexOfChar_4cfef_13 rfl ?_
      refine J.iload (j := 3) hC eJ1_indexOfChar_4cfef_14 rfl ?_
      refine J.tbald hC eJ1_indexOfChar_4cfef_16 (sStr hC (i := 1) (by decide)).2.2 ?_
      refine J.iload (j := 2) hC eJ1_indexOfChar_4cfef_17 rfl ?_
      refine J.icmp_ne hC eJ1_indexOfChar_4cfef_19 (fun _ => ?_) (fun _ => ?_)
      · refine J.iload (j := 3) hC eJ1_indexOfChar_4cfef_22 rfl ?_
        exact J.iret hC hr eJ1_indexOfChar_4cfef_24
      · refine J.iinc (j := 3) (fun x5_1 => [(5, .int x5_1), (0, .ref (xs (cX C) (20 + 1))), (3, .int x3), (4, .int x4)]) hC eJ1_indexOfChar_4cfef_25 rfl ci_1 (by decide) (fun _ => rfl) (fun x5_1 => ?_)
        refine J.goto hC eJ1_indexOfChar_4cfef_28 ?_
        refine J.sub [1, 2, 3, 0] rfl ?_
        exact ih x3 x4 x5_1 μ
def G_J1_indexOfChar_4cfef_s1 (x1 : Int32) (x2 : Int32) (x3 : Int32) (μ : Mem) : Option (Int32 × Mem) :=
  lb (x1.toInt8.toInt32) (fun x4_1 => L_J1_indexOfChar_4cfef_s1_7  100000 x3 x4_1 x2 μ)
set_option maxHeartbeats 4000000 in
theorem c_J1_indexOfChar_4cfef_s1 {X : Wd} (hX : WdOk X) (x1 : Int32) (x2 : Int32) (x3 : Int32) (μ : Mem) : CtI X yJ1_indexOfChar_4cfef cJ1_indexOfChar_4cfef 6 (some .int) (rmF 0 0) [.ref (xs X (20 + 1)), .int x1, .int x2, .int x3] μ (G_J1_indexOfChar_4cfef_s1 x1 x2 x3 μ) := by
  refine CtI.of hX (by decide +kernel) (by exact Nat.le_of_ble_eq_true rfl) ?_
  intro C hCX hC hr
  subst hCX
  show J C (KI C) μ 0 [(0, .ref (xs (cX C) (20 + 1))), (1, .int x1), (2, .int x2), (3, .int x3)] [] _
  unfold G_J1_indexOfChar_4cfef_s1
  refine J.iload_n (j := 1) hC eJ1_indexOfChar_4cfef_0 rfl ?_
  refine J.i2b hC eJ1_indexOfChar_4cfef_1 ?_
  refine J.topi (fun x4_1 => ?_)
  refine J.istore [(4, .int x4_1), (0, .ref (xs (cX C) (20 + 1))), (1, .int x1), (2, .int x2), (3, .int x3)] hC eJ1_indexOfChar_4cfef_2 (by decide) rfl ?_
  refine J.iload_n (j := 3) hC eJ1_indexOfChar_4cfef_4 rfl ?_
  refine J.istore [(5, .int x2), (4, .int x4_1), (0, .ref (xs (cX C) (20 + 1))), (1, .int x1), (2, .int x2), (3, .int x3)] hC eJ1_indexOfChar_4cfef_5 (by decide) rfl ?_
  refine J.sub [2, 5, 1, 0] rfl ?_
  exact j_J1_indexOfChar_4cfef_s1_7 hC hr  100000 x3 x4_1 x2 μ
-- J1_indexOf_4cfef
theorem eJ1_indexOf_4cfef_0 : DD cJ1_indexOf_4cfef 0 (.iload_n 1) 1 1 := ⟨by decide +kernel, rfl⟩
theorem eJ1_indexOf_4cfef_1 : DD cJ1_indexOf_4cfef 1 (.invokestatic 88) 3 4 := ⟨by decide +kernel, rfl⟩
theorem eJ1_indexOf_4cfef_4 : DB cJ1_indexOf_4cfef 4 (.ifCond .ne 5) (5) 7 9 := ⟨by decide +kernel, rfl, by decide⟩
theorem eJ1_indexOf_4cfef_7 : DD cJ1_indexOf_4cfef 7 (.iconst (-1)) 1 8 := ⟨by decide +kernel, rfl⟩
theorem eJ1_indexOf_4cfef_8 : DD cJ1_indexOf_4cfef 8 (.ireturn) 1 9 := ⟨by decide +kernel, rfl⟩
theorem eJ1_indexOf_4cfef_9 : DD cJ1_indexOf_4cfef 9 (.iload_n 2) 1 10 := ⟨by decide +kernel, rfl⟩
theorem eJ1_indexOf_4cfef_10 : DD cJ1_indexOf_4cfef 10 (.iconst 0) 1 11 := ⟨by decide +kernel, rfl⟩
theorem eJ1_indexOf_4cfef_11 : DD cJ1_indexOf_4cfef 11 (.invokestatic 92) 3 14 := ⟨by decide +kernel, rfl⟩
theorem eJ1_indexOf_4cfef_14 : DD cJ1_indexOf_4cfef 14 (.istore_n 2) 1 15 := ⟨by decide +kernel, rfl⟩
theorem eJ1_indexOf_4cfef_15 : DD cJ1_indexOf_4cfef 15 (.iload_n 3) 1 16 := ⟨by decide +kernel, rfl⟩
theorem eJ1_indexOf_4cfef_16 : DD cJ1_indexOf_4cfef 16 (.aload_n 0) 1 17 := ⟨by decide +kernel, rfl⟩
theorem eJ1_indexOf_4cfef_17 : DD cJ1_indexOf_4cfef 17 (.arraylength) 1 18 := ⟨by decide +kernel, rfl⟩
theorem eJ1_indexOf_4cfef_18 : DD cJ1_indexOf_4cfef 18 (.invokestatic 38) 3 21 := ⟨by decide +kernel, rfl⟩
theorem eJ1_indexOf_4cfef_21 : DD cJ1_indexOf_4cfef 21 (.istore_n 3) 1 22 := ⟨by decide +kernel, rfl⟩
theorem eJ1_indexOf_4cfef_22 : DD cJ1_indexOf_4cfef 22 (.iload_n 2) 1 23 := ⟨by decide +kernel, rfl⟩
theorem eJ1_indexOf_4cfef_23 : DD cJ1_indexOf_4cfef 23 (.iload_n 3) 1 24 := ⟨by decide +kernel, rfl⟩
theorem eJ1_indexOf_4cfef_24 : DB cJ1_indexOf_4cfef 24 (.if_icmp .lt 5) (5) 27 29 := ⟨by decide +kernel, rfl, by decide⟩
theorem eJ1_indexOf_4cfef_27 : DD cJ1_indexOf_4cfef 27 (.iconst (-1)) 1 28 := ⟨by decide +kernel, rfl⟩
theorem eJ1_indexOf_4cfef_28 : DD cJ1_indexOf_4cfef 28 (.ireturn) 1 29 := ⟨by decide +kernel, rfl⟩
theorem eJ1_indexOf_4cfef_29 : DD cJ1_indexOf_4cfef 29 (.aload_n 0) 1 30 := ⟨by decide +kernel, rfl⟩
theorem eJ1_indexOf_4cfef_30 : DD cJ1_indexOf_4cfef 30 (.iload_n 1) 1 31 := ⟨by decide +kernel, rfl⟩
theorem eJ1_indexOf_4cfef_31 : DD cJ1_indexOf_4cfef 31 (.iload_n 2) 1 32 := ⟨by decide +kernel, rfl⟩
theorem eJ1_indexOf_4cfef_32 : DD cJ1_indexOf_4cfef 32 (.iload_n 3) 1 33 := ⟨by decide +kernel, rfl⟩
theorem eJ1_indexOf_4cfef_33 : DD cJ1_indexOf_4cfef 33 (.invokestatic 95) 3 36 := ⟨by decide +kernel, rfl⟩
theorem eJ1_indexOf_4cfef_36 : DD cJ1_indexOf_4cfef 36 (.ireturn) 1 37 := ⟨by decide +kernel, rfl⟩
def G_J1_indexOf_4cfef_s1 (x1 : Int32) (x2 : Int32) (x3 : Int32) (μ : Mem) : Option (Int32 × Mem) :=
  bd (G_J1_canEncode_9a6ad x1 μ) (fun r_2 μ_1 => if r_2 = 0 then some ((-1 : Int32), μ_1) else lb (imax x2 (0 : Int32)) (fun x2_3 => lb (imin x3 (4 : Int32)) (fun x3_4 => if x2_3 < x3_4 then bd (G_J1_indexOfChar_4cfef_s1 x1 x2_3 x3_4 μ_1) (fun r_6 μ_5 => some (r_6, μ_5)) else some ((-1 : Int32), μ_1))))
set_option maxHeartbeats 4000000 in
theorem c_J1_indexOf_4cfef_s1 {X : Wd} (hX : WdOk X) (x1 : Int32) (x2 : Int32) (x3 : Int32) (μ : Mem) : CtI X yJ1_indexOf_4cfef cJ1_indexOf_4cfef 4 (some .int) (rmF 1 25) [.ref (xs X (20 + 1)), .int x1, .int x2, .int x3] μ (G_J1_indexOf_4cfef_s1 x1 x2 x3 μ) := by
  refine CtI.of hX (by decide +kernel) (by exact Nat.le_of_ble_eq_true rfl) ?_
  intro C hCX hC hr
  subst hCX
  show J C (KI C) μ 0 [(0, .ref (xs (cX C) (20 + 1))), (1, .int x1), (2, .int x2), (3, .int x3)] [] _
  unfold G_J1_indexOf_4cfef_s1
  refine J.iload_n (j := 1) hC eJ1_indexOf_4cfef_0 rfl ?_
  refine J.callSI (st := []) hC eJ1_indexOf_4cfef_1 ml_J1_88 mv_J1_canEncode_9a6ad (Rle_of (Nat.le_of_ble_eq_true rfl) (Nat.le_of_ble_eq_true rfl)) (c_J1_canEncode_9a6ad hC.X x1 μ) rfl rfl (Nat.le_of_ble_eq_true rfl) (fun r_2 μ_1 => ?_)
  refine J.if_ne hC eJ1_indexOf_4cfef_4 (fun _ => ?_) (fun _ => ?_)
  · refine J.iconst hC eJ1_indexOf_4cfef_7 ci_m1 ?_
    exact J.iret hC hr eJ1_indexOf_4cfef_8
  · refine J.iload_n (j := 2) hC eJ1_indexOf_4cfef_9 rfl ?_
    refine J.iconst hC eJ1_indexOf_4cfef_10 ci_0 ?_
    refine J.mmax hC eJ1_indexOf_4cfef_11 ml_J1_92 w_smax w_im w_cmax (Nat.le_of_ble_eq_true rfl) (Nat.le_of_ble_eq_true rfl) ?_
    refine J.topi (fun x2_3 => ?_)
    refine J.istore_n [(2, .int x2_3), (0, .ref (xs (cX C) (20 + 1))), (1, .int x1), (3, .int x3)] hC eJ1_indexOf_4cfef_14 (by decide) rfl ?_
    refine J.iload_n (j := 3) hC eJ1_indexOf_4cfef_15 rfl ?_
    refine J.aload_n (j := 1) hC eJ1_indexOf_4cfef_16 rfl ?_
    refine J.tlen (v := (4 : Int32)) hC eJ1_indexOf_4cfef_17 (sStr hC (i := 1) (by decide)).2.2 (by decide) ?_
    refine J.mmin hC eJ1_indexOf_4cfef_18 ml_J1_38 w_smin w_im w_cmin (Nat.le_of_ble_eq_true rfl) (Nat.le_of_ble_eq_true rfl) ?_
    refine J.topi (fun x3_4 => ?_)
    refine J.istore_n [(3, .int x3_4), (2, .int x2_3), (0, .ref (xs (cX C) (20 + 1))), (1, .int x1)] hC eJ1_indexOf_4cfef_21 (by decide) rfl ?_
    refine J.iload_n (j := 1) hC eJ1_indexOf_4cfef_22 rfl ?_
    refine J.iload_n (j := 0) hC eJ1_indexOf_4cfef_23 rfl ?_
    refine J.icmp_lt hC eJ1_indexOf_4cfef_24 (fun _ => ?_) (fun _ => ?_)
    · refine J.aload_n (j := 2) hC eJ1_indexOf_4cfef_29 rfl ?_
      refine J.iload_n (j := 3) hC eJ1_indexOf_4cfef_30 rfl ?_
      refine J.iload_n (j := 1) hC eJ1_indexOf_4cfef_31 rfl ?_
      refine J.iload_n (j := 0) hC eJ1_indexOf_4cfef_32 rfl ?_
      refine J.callSI (st := []) hC eJ1_indexOf_4cfef_33 ml_J1_95 mv_J1_indexOfChar_4cfef (Rle_of (Nat.le_of_ble_eq_true rfl) (Nat.le_of_ble_eq_true rfl)) (c_J1_indexOfChar_4cfef_s1 hC.X x1 x2_3 x3_4 μ_1) rfl rfl (Nat.le_of_ble_eq_true rfl) (fun r_6 μ_5 => ?_)
      exact J.iret hC hr eJ1_indexOf_4cfef_36
    · refine J.iconst hC eJ1_indexOf_4cfef_27 ci_m1 ?_
      exact J.iret hC hr eJ1_indexOf_4cfef_28
-- J0_indexOf_7cf53
theorem eJ0_indexOf_7cf53_0 : DD cJ0_indexOf_7cf53 0 (.aload_n 0) 1 1 := ⟨by decide +kernel, rfl⟩
theorem eJ0_indexOf_7cf53_1 : DD cJ0_indexOf_7cf53 1 (.invokevirtual 492) 3 4 := ⟨by decide +kernel, rfl⟩
theorem eJ0_indexOf_7cf53_4 : DB cJ0_indexOf_7cf53 4 (.ifCond .eq 19) (19) 7 23 := ⟨by decide +kernel, rfl, by decide⟩
theorem eJ0_indexOf_7cf53_7 : DD cJ0_indexOf_7cf53 7 (.aload_n 0) 1 8 := ⟨by decide +kernel, rfl⟩
theorem eJ0_indexOf_7cf53_8 : DD cJ0_indexOf_7cf53 8 (.getfield 9) 3 11 := ⟨by decide +kernel, rfl⟩
theorem eJ0_indexOf_7cf53_11 : DD cJ0_indexOf_7cf53 11 (.iload_n 1) 1 12 := ⟨by decide +kernel, rfl⟩
theorem eJ0_indexOf_7cf53_12 : DD cJ0_indexOf_7cf53 12 (.iload_n 2) 1 13 := ⟨by decide +kernel, rfl⟩
theorem eJ0_indexOf_7cf53_13 : DD cJ0_indexOf_7cf53 13 (.aload_n 0) 1 14 := ⟨by decide +kernel, rfl⟩
theorem eJ0_indexOf_7cf53_14 : DD cJ0_indexOf_7cf53 14 (.invokevirtual 505) 3 17 := ⟨by decide +kernel, rfl⟩
theorem eJ0_indexOf_7cf53_17 : DD cJ0_indexOf_7cf53 17 (.invokestatic 637) 3 20 := ⟨by decide +kernel, rfl⟩
theorem eJ0_indexOf_7cf53_20 : DB cJ0_indexOf_7cf53 20 (.goto 16) (16) 23 36 := ⟨by decide +kernel, rfl, by decide⟩
theorem eJ0_indexOf_7cf53_23 : DD cJ0_indexOf_7cf53 23 (.aload_n 0) 1 24 := ⟨by decide +kernel, rfl⟩
theorem eJ0_indexOf_7cf53_24 : DD cJ0_indexOf_7cf53 24 (.getfield 9) 3 27 := ⟨by decide +kernel, rfl⟩
theorem eJ0_indexOf_7cf53_27 : DD cJ0_indexOf_7cf53 27 (.iload_n 1) 1 28 := ⟨by decide +kernel, rfl⟩
theorem eJ0_indexOf_7cf53_28 : DD cJ0_indexOf_7cf53 28 (.iload_n 2) 1 29 := ⟨by decide +kernel, rfl⟩
theorem eJ0_indexOf_7cf53_29 : DD cJ0_indexOf_7cf53 29 (.aload_n 0) 1 30 := ⟨by decide +kernel, rfl⟩
theorem eJ0_indexOf_7cf53_30 : DD cJ0_indexOf_7cf53 30 (.invokevirtual 505) 3 33 := ⟨by decide +kernel, rfl⟩
theorem eJ0_indexOf_7cf53_33 : DD cJ0_indexOf_7cf53 33 (.invokestatic 640) 3 36 := ⟨by decide +kernel, rfl⟩
theorem eJ0_indexOf_7cf53_36 : DD cJ0_indexOf_7cf53 36 (.ireturn) 1 37 := ⟨by decide +kernel, rfl⟩
def G_J0_indexOf_7cf53_s1 (x1 : Int32) (x2 : Int32) (μ : Mem) : Option (Int32 × Mem) :=
  bd (G_J0_isLatin1_aae02_s1  μ) (fun r_2 μ_1 => if r_2 = 0 then none else bd (G_J0_length_8abf5_s1  μ_1) (fun r_4 μ_3 => bd (G_J1_indexOf_4cfef_s1 x1 x2 r_4 μ_3) (fun r_6 μ_5 => some (r_6, μ_5))))
set_option maxHeartbeats 4000000 in
theorem c_J0_indexOf_7cf53_s1 {X : Wd} (hX : WdOk X) (x1 : Int32) (x2 : Int32) (μ : Mem) : CtI X yJ0_indexOf_7cf53 cJ0_indexOf_7cf53 3 (some .int) (rmF 2 48) [.ref (xs X (10 + 1)), .int x1, .int x2] μ (G_J0_indexOf_7cf53_s1 x1 x2 μ) := by
  refine CtI.of hX (by decide +kernel) (by exact Nat.le_of_ble_eq_true rfl) ?_
  intro C hCX hC hr
  subst hCX
  show J C (KI C) μ 0 [(0, .ref (xs (cX C) (10 + 1))), (1, .int x1), (2, .int x2)] [] _
  unfold G_J0_indexOf_7cf53_s1
  refine J.aload_n (j := 0) hC eJ0_indexOf_7cf53_0 rfl ?_
  refine J.callTI (i := 1) (st := []) hC eJ0_indexOf_7cf53_1 (by decide) rfl ml_J0_492 mv_J0_isLatin1_aae02 (Rle_of (Nat.le_of_ble_eq_true rfl) (Nat.le_of_ble_eq_true rfl)) (c_J0_isLatin1_aae02_s1 hC.X  μ) rfl rfl (Nat.le_of_ble_eq_true rfl) (fun r_2 μ_1 => ?_)
  refine J.if_eq hC eJ0_indexOf_7cf53_4 (fun _ => ?_) (fun _ => ?_)
  · exact J.no
  · refine J.aload_n (j := 0) hC eJ0_indexOf_7cf53_7 rfl ?_
    refine J.sgetf hC eJ0_indexOf_7cf53_8 (sStr hC (i := 1) (by decide)).2.1 fl_J0_9 rfl ?_
    refine J.iload_n (j := 1) hC eJ0_indexOf_7cf53_11 rfl ?_
    refine J.iload_n (j := 2) hC eJ0_indexOf_7cf53_12 rfl ?_
    refine J.aload_n (j := 0) hC eJ0_indexOf_7cf53_13 rfl ?_
    refine J.callTI (i := 1) (st := [.int x2, .int x1, .ref (xs (cX C) (20 + 1))]) hC eJ0_indexOf_7cf53_14 (by decide) rfl ml_J0_505 mv_J0_length_8abf5 (Rle_of (Nat.le_of_ble_eq_true rfl) (Nat.le_of_ble_eq_true rfl)) (c_J0_length_8abf5_s1 hC.X  μ_1) rfl rfl (Nat.le_of_ble_eq_true rfl) (fun r_4 μ_3 => ?_)
    refine J.callSI (st := []) hC eJ0_indexOf_7cf53_17 ml_J0_637 mv_J1_indexOf_4cfef (Rle_of (Nat.le_of_ble_eq_true rfl) (Nat.le_of_ble_eq_true rfl)) (c_J1_indexOf_4cfef_s1 hC.X x1 x2 r_4 μ_3) rfl rfl (Nat.le_of_ble_eq_true rfl) (fun r_6 μ_5 => ?_)
    refine J.goto hC eJ0_indexOf_7cf53_20 ?_
    exact J.iret hC hr eJ0_indexOf_7cf53_36
-- J0_indexOf_0f7a4
theorem eJ0_indexOf_0f7a4_0 : DD cJ0_indexOf_0f7a4 0 (.aload_n 0) 1 1 := ⟨by decide +kernel, rfl⟩
theorem eJ0_indexOf_0f7a4_1 : DD cJ0_indexOf_0f7a4 1 (.iload_n 1) 1 2 := ⟨by decide +kernel, rfl⟩
theorem eJ0_indexOf_0f7a4_2 : DD cJ0_indexOf_0f7a4 2 (.iconst 0) 1 3 := ⟨by decide +kernel, rfl⟩
theorem eJ0_indexOf_0f7a4_3 : DD cJ0_indexOf_0f7a4 3 (.invokevirtual 633) 3 6 := ⟨by decide +kernel, rfl⟩
theorem eJ0_indexOf_0f7a4_6 : DD cJ0_indexOf_0f7a4 6 (.ireturn) 1 7 := ⟨by decide +kernel, rfl⟩
def G_J0_indexOf_0f7a4_s1 (x1 : Int32) (μ : Mem) : Option (Int32 × Mem) :=
  bd (G_J0_indexOf_7cf53_s1 x1 (0 : Int32) μ) (fun r_2 μ_1 => some (r_2, μ_1))
set_option maxHeartbeats 4000000 in
theorem c_J0_indexOf_0f7a4_s1 {X : Wd} (hX : WdOk X) (x1 : Int32) (μ : Mem) : CtI X yJ0_indexOf_0f7a4 cJ0_indexOf_0f7a4 2 (some .int) (rmF 3 70) [.ref (xs X (10 + 1)), .int x1] μ (G_J0_indexOf_0f7a4_s1 x1 μ) := by
  refine CtI.of hX (by decide +kernel) (by exact Nat.le_of_ble_eq_true rfl) ?_
  intro C hCX hC hr
  subst hCX
  show J C (KI C) μ 0 [(0, .ref (xs (cX C) (10 + 1))), (1, .int x1)] [] _
  unfold G_J0_indexOf_0f7a4_s1
  refine J.aload_n (j := 0) hC eJ0_indexOf_0f7a4_0 rfl ?_
  refine J.iload_n (j := 1) hC eJ0_indexOf_0f7a4_1 rfl ?_
  refine J.iconst hC eJ0_indexOf_0f7a4_2 ci_0 ?_
  refine J.callTI (i := 1) (st := []) hC eJ0_indexOf_0f7a4_3 (by decide) rfl ml_J0_633 mv_J0_indexOf_7cf53 (Rle_of (Nat.le_of_ble_eq_true rfl) (Nat.le_of_ble_eq_true rfl)) (c_J0_indexOf_7cf53_s1 hC.X x1 (0 : Int32) μ) rfl rfl (Nat.le_of_ble_eq_true rfl) (fun r_2 μ_1 => ?_)
  exact J.iret hC hr eJ0_indexOf_0f7a4_6
-- J7_fill_53178
theorem eJ7_fill_53178_0 : DD cJ7_fill_53178 0 (.iconst 0) 1 1 := ⟨by decide +kernel, rfl⟩
theorem eJ7_fill_53178_1 : DD cJ7_fill_53178 1 (.istore_n 2) 1 2 := ⟨by decide +kernel, rfl⟩
theorem eJ7_fill_53178_2 : DD cJ7_fill_53178 2 (.aload_n 0) 1 3 := ⟨by decide +kernel, rfl⟩
theorem eJ7_fill_53178_3 : DD cJ7_fill_53178 3 (.arraylength) 1 4 := ⟨by decide +kernel, rfl⟩
theorem eJ7_fill_53178_4 : DD cJ7_fill_53178 4 (.istore_n 3) 1 5 := ⟨by decide +kernel, rfl⟩
theorem eJ7_fill_53178_5 : DD cJ7_fill_53178 5 (.iload_n 2) 1 6 := ⟨by decide +kernel, rfl⟩
theorem eJ7_fill_53178_6 : DD cJ7_fill_53178 6 (.iload_n 3) 1 7 := ⟨by decide +kernel, rfl⟩
theorem eJ7_fill_53178_7 : DB cJ7_fill_53178 7 (.if_icmp .ge 13) (13) 10 20 := ⟨by decide +kernel, rfl, by decide⟩
theorem eJ7_fill_53178_10 : DD cJ7_fill_53178 10 (.aload_n 0) 1 11 := ⟨by decide +kernel, rfl⟩
theorem eJ7_fill_53178_11 : DD cJ7_fill_53178 11 (.iload_n 2) 1 12 := ⟨by decide +kernel, rfl⟩
theorem eJ7_fill_53178_12 : DD cJ7_fill_53178 12 (.iload_n 1) 1 13 := ⟨by decide +kernel, rfl⟩
theorem eJ7_fill_53178_13 : DD cJ7_fill_53178 13 (.iastore) 1 14 := ⟨by decide +kernel, rfl⟩
theorem eJ7_fill_53178_14 : DD cJ7_fill_53178 14 (.iinc 2 1) 3 17 := ⟨by decide +kernel, rfl⟩
theorem eJ7_fill_53178_17 : DB cJ7_fill_53178 17 (.goto (-12)) (-12) 20 5 := ⟨by decide +kernel, rfl, by decide⟩
theorem eJ7_fill_53178_20 : DD cJ7_fill_53178 20 (.return_) 1 21 := ⟨by decide +kernel, rfl⟩
def L_J7_fill_53178_5 : Nat → Nat → Nat → Nat → Int32 → Int32 → Int32 → Mem → Option (Unit × Mem)
  | 0, _, _, _, _, _, _, _ => none
  | n + 1, k0, n0, p0, x1, x2, x3, μ => if x3 ≤ x2 then some ((), μ) else gq (inB x2 n0) (lb (wI μ p0 (nx x2) x1) (fun μ_1 => lb (x2 + (1 : Int32)) (fun x2_2 => L_J7_fill_53178_5  n k0 n0 p0 x1 x2_2 x3 μ_1)))
set_option maxHeartbeats 4000000 in
theorem j_J7_fill_53178_5 {C : Cx} (hC : Ok C cJ7_fill_53178 4 (yJ7_fill_53178).cls (rmF 0 0)) (hr : (cT C).sig.returnType = none) : ∀ (n : Nat) (k0 : Nat) (n0 : Nat) (hk0 : isI k0 n0) (p0 : Nat) (h0 : kd p0 = k0) (x1 : Int32) (x2 : Int32) (x3 : Int32) (μ : Mem), J C (KV C) μ 5 [(0, .ref (xad (cX C) p0)), (1, .int x1), (2, .int x2), (3, .int x3)] [] (L_J7_fill_53178_5  n k0 n0 p0 x1 x2 x3 μ) := by
  intro n
  induction n with
  | zero => intros; exact J.no
  | succ n ih =>
    intro k0 n0 hk0 p0 h0 x1 x2 x3 μ
    rw [L_J7_fill_53178_5]
    refine J.iload_n (j := 2) hC eJ7_fill_53178_5 rfl ?_
    refine J.iload_n (j := 3) hC eJ7_fill_53178_6 rfl ?_
    refine J.icmp_ge hC eJ7_fill_53178_7 (fun _ => ?_) (fun _ => ?_)
    · exact J.vret hC hr eJ7_fill_53178_20
    · refine J.aload_n (j := 0) hC eJ7_fill_53178_10 rfl ?_
      refine J.iload_n (j := 2) hC eJ7_fill_53178_11 rfl ?_
      refine J.iload_n (j := 1) hC eJ7_fill_53178_12 rfl ?_
      refine J.iast hk0 hC eJ7_fill_53178_13 h0 (fun μ_1 => ?_)
      refine J.iinc (j := 2) (fun x2_2 => [(2, .int x2_2), (0, .ref (xad (cX C) p0)), (1, .int x1), (3, .int x3)]) hC eJ7_fill_53178_14 rfl ci_1 (by decide) (fun _ => rfl) (fun x2_2 => ?_)
      refine J.goto hC eJ7_fill_53178_17 ?_
      refine J.sub [1, 2, 0, 3] rfl ?_
      exact ih k0 n0 hk0 p0 h0 x1 x2_2 x3 μ_1
def G_J7_fill_53178 (k0 : Nat) (n0 : Nat) (p0 : Nat) (x1 : Int32) (μ : Mem) : Option (Unit × Mem) :=
  lb (Int32.ofNat n0) (fun x3_1 => L_J7_fill_53178_5  100000 k0 n0 p0 x1 (0 : Int32) x3_1 μ)
set_option maxHeartbeats 4000000 in
theorem c_J7_fill_53178 {X : Wd} (hX : WdOk X) (k0 : Nat) (n0 : Nat) (hk0 : isI k0 n0) (p0 : Nat) (h0 : kd p0 = k0) (x1 : Int32) (μ : Mem) : CtV X yJ7_fill_53178 cJ7_fill_53178 4 none (rmF 0 0) [.ref (xad X p0), .int x1] μ (G_J7_fill_53178 k0 n0 p0 x1 μ) := by
  refine CtV.of hX (by decide +kernel) (by exact Nat.le_of_ble_eq_true rfl) ?_
  intro C hCX hC hr
  subst hCX
  show J C (KV C) μ 0 [(0, .ref (xad (cX C) p0)), (1, .int x1)] [] _
  unfold G_J7_fill_53178
  refine J.iconst hC eJ7_fill_53178_0 ci_0 ?_
  refine J.istore_n [(2, .int (0 : Int32)), (0, .ref (xad (cX C) p0)), (1, .int x1)] hC eJ7_fill_53178_1 (by decide) rfl ?_
  refine J.aload_n (j := 1) hC eJ7_fill_53178_2 rfl ?_
  refine J.alen hk0 hC eJ7_fill_53178_3 h0 rfl ?_
  refine J.topi (fun x3_1 => ?_)
  refine J.istore_n [(3, .int x3_1), (2, .int (0 : Int32)), (0, .ref (xad (cX C) p0)), (1, .int x1)] hC eJ7_fill_53178_4 (by decide) rfl ?_
  refine J.sub [2, 3, 1, 0] rfl ?_
  exact j_J7_fill_53178_5 hC hr  100000 k0 n0 hk0 p0 h0 x1 (0 : Int32) x3_1 μ
-- X4_clear
theorem eX4_clear_0 : DD cX4_clear 0 (.aload_n 0) 1 1 := ⟨by decide +kernel, rfl⟩
theorem eX4_clear_1 : DD cX4_clear 1 (.iload_n 1) 1 2 := ⟨by decide +kernel, rfl⟩
theorem eX4_clear_2 : DD cX4_clear 2 (.putfield 18) 3 5 := ⟨by decide +kernel, rfl⟩
theorem eX4_clear_5 : DD cX4_clear 5 (.aload_n 0) 1 6 := ⟨by decide +kernel, rfl⟩
theorem eX4_clear_6 : DD cX4_clear 6 (.iconst 0) 1 7 := ⟨by decide +kernel, rfl⟩
theorem eX4_clear_7 : DD cX4_clear 7 (.putfield 29) 3 10 := ⟨by decide +kernel, rfl⟩
theorem eX4_clear_10 : DD cX4_clear 10 (.aload_n 0) 1 11 := ⟨by decide +kernel, rfl⟩
theorem eX4_clear_11 : DD cX4_clear 11 (.getfield 11) 3 14 := ⟨by decide +kernel, rfl⟩
theorem eX4_clear_14 : DD cX4_clear 14 (.iconst 0) 1 15 := ⟨by decide +kernel, rfl⟩
theorem eX4_clear_15 : DD cX4_clear 15 (.invokestatic 32) 3 18 := ⟨by decide +kernel, rfl⟩
theorem eX4_clear_18 : DD cX4_clear 18 (.aload_n 0) 1 19 := ⟨by decide +kernel, rfl⟩
theorem eX4_clear_19 : DD cX4_clear 19 (.getfield 15) 3 22 := ⟨by decide +kernel, rfl⟩
theorem eX4_clear_22 : DD cX4_clear 22 (.iconst 0) 1 23 := ⟨by decide +kernel, rfl⟩
theorem eX4_clear_23 : DD cX4_clear 23 (.invokestatic 32) 3 26 := ⟨by decide +kernel, rfl⟩
theorem eX4_clear_26 : DD cX4_clear 26 (.return_) 1 27 := ⟨by decide +kernel, rfl⟩
def G_X4_clear (p0 : Nat) (x1 : Int32) (μ : Mem) : Option (Unit × Mem) :=
  lb (wI μ p0 2 x1) (fun μ_1 => lb (wI μ_1 p0 3 (0 : Int32)) (fun μ_2 => bd (G_J7_fill_53178 1016 16 (p0 + 1) (0 : Int32) μ_2) (fun r_4 μ_3 => bd (G_J7_fill_53178 1026 26 (p0 + 2) (0 : Int32) μ_3) (fun r_6 μ_5 => some ((), μ_5)))))
set_option maxHeartbeats 4000000 in
theorem c_X4_clear {X : Wd} (hX : WdOk X) (p0 : Nat) (h0 : kd p0 = 4) (x1 : Int32) (μ : Mem) : CtV X yX4_clear cX4_clear 2 none (rmF 1 23) [.ref (xad X p0), .int x1] μ (G_X4_clear p0 x1 μ) := by
  refine CtV.of hX (plainFor_of_name (by decide)) (by exact Nat.le_of_ble_eq_true rfl) ?_
  intro C hCX hC hr
  subst hCX
  show J C (KV C) μ 0 [(0, .ref (xad (cX C) p0)), (1, .int x1)] [] _
  unfold G_X4_clear
  refine J.aload_n (j := 0) hC eX4_clear_0 rfl ?_
  refine J.iload_n (j := 1) hC eX4_clear_1 rfl ?_
  refine pf_X4_18 hC eX4_clear_2 h0 (fun μ_1 => ?_)
  refine J.aload_n (j := 0) hC eX4_clear_5 rfl ?_
  refine J.iconst hC eX4_clear_6 ci_0 ?_
  refine pf_X4_29 hC eX4_clear_7 h0 (fun μ_2 => ?_)
  refine J.aload_n (j := 0) hC eX4_clear_10 rfl ?_
  refine gf_X4_11 (q := p0 + 1) hC eX4_clear_11 h0 rfl ?_
  refine J.iconst hC eX4_clear_14 ci_0 ?_
  refine J.callSV (st := []) hC eX4_clear_15 ml_X4_32 mv_J7_fill_53178 (Rle_of (Nat.le_of_ble_eq_true rfl) (Nat.le_of_ble_eq_true rfl)) (c_J7_fill_53178 hC.X 1016 16 ik_16 (p0 + 1) (kf_X4_counts h0) (0 : Int32) μ_2) rfl rfl (Nat.le_of_ble_eq_true rfl) (fun r_4 μ_3 => ?_)
  refine J.aload_n (j := 0) hC eX4_clear_18 rfl ?_
  refine gf_X4_15 (q := p0 + 2) hC eX4_clear_19 h0 rfl ?_
  refine J.iconst hC eX4_clear_22 ci_0 ?_
  refine J.callSV (st := []) hC eX4_clear_23 ml_X4_32 mv_J7_fill_53178 (Rle_of (Nat.le_of_ble_eq_true rfl) (Nat.le_of_ble_eq_true rfl)) (c_J7_fill_53178 hC.X 1026 26 ik_26 (p0 + 2) (kf_X4_state h0) (0 : Int32) μ_3) rfl rfl (Nat.le_of_ble_eq_true rfl) (fun r_6 μ_5 => ?_)
  exact J.vret hC hr eX4_clear_26
-- X7_clear
theorem eX7_clear_0 : DD cX7_clear 0 (.aload_n 0) 1 1 := ⟨by decide +kernel, rfl⟩
theorem eX7_clear_1 : DD cX7_clear 1 (.iload_n 1) 1 2 := ⟨by decide +kernel, rfl⟩
theorem eX7_clear_2 : DD cX7_clear 2 (.putfield 22) 3 5 := ⟨by decide +kernel, rfl⟩
theorem eX7_clear_5 : DD cX7_clear 5 (.aload_n 0) 1 6 := ⟨by decide +kernel, rfl⟩
theorem eX7_clear_6 : DD cX7_clear 6 (.iconst 0) 1 7 := ⟨by decide +kernel, rfl⟩
theorem eX7_clear_7 : DD cX7_clear 7 (.putfield 30) 3 10 := ⟨by decide +kernel, rfl⟩
theorem eX7_clear_10 : DD cX7_clear 10 (.aload_n 0) 1 11 := ⟨by decide +kernel, rfl⟩
theorem eX7_clear_11 : DD cX7_clear 11 (.getfield 9) 3 14 := ⟨by decide +kernel, rfl⟩
theorem eX7_clear_14 : DD cX7_clear 14 (.iconst 0) 1 15 := ⟨by decide +kernel, rfl⟩
theorem eX7_clear_15 : DD cX7_clear 15 (.invokestatic 33) 3 18 := ⟨by decide +kernel, rfl⟩
theorem eX7_clear_18 : DD cX7_clear 18 (.aload_n 0) 1 19 := ⟨by decide +kernel, rfl⟩
theorem eX7_clear_19 : DD cX7_clear 19 (.getfield 18) 3 22 := ⟨by decide +kernel, rfl⟩
theorem eX7_clear_22 : DD cX7_clear 22 (.iconst 0) 1 23 := ⟨by decide +kernel, rfl⟩
theorem eX7_clear_23 : DD cX7_clear 23 (.aaload) 1 24 := ⟨by decide +kernel, rfl⟩
theorem eX7_clear_24 : DD cX7_clear 24 (.iload_n 1) 1 25 := ⟨by decide +kernel, rfl⟩
theorem eX7_clear_25 : DD cX7_clear 25 (.invokevirtual 39) 3 28 := ⟨by decide +kernel, rfl⟩
theorem eX7_clear_28 : DD cX7_clear 28 (.aload_n 0) 1 29 := ⟨by decide +kernel, rfl⟩
theorem eX7_clear_29 : DD cX7_clear 29 (.getfield 18) 3 32 := ⟨by decide +kernel, rfl⟩
theorem eX7_clear_32 : DD cX7_clear 32 (.iconst 1) 1 33 := ⟨by decide +kernel, rfl⟩
theorem eX7_clear_33 : DD cX7_clear 33 (.aaload) 1 34 := ⟨by decide +kernel, rfl⟩
theorem eX7_clear_34 : DD cX7_clear 34 (.iload_n 1) 1 35 := ⟨by decide +kernel, rfl⟩
theorem eX7_clear_35 : DD cX7_clear 35 (.invokevirtual 39) 3 38 := ⟨by decide +kernel, rfl⟩
theorem eX7_clear_38 : DD cX7_clear 38 (.return_) 1 39 := ⟨by decide +kernel, rfl⟩
def G_X7_clear (p0 : Nat) (x1 : Int32) (μ : Mem) : Option (Unit × Mem) :=
  lb (wI μ p0 2 x1) (fun μ_1 => lb (wI μ_1 p0 3 (0 : Int32)) (fun μ_2 => bd (G_J7_fill_53178 1289 289 (p0 + 1) (0 : Int32) μ_2) (fun r_4 μ_3 => bd (G_X4_clear (p0 + 3) x1 μ_3) (fun r_7 μ_6 => bd (G_X4_clear (p0 + 6) x1 μ_6) (fun r_10 μ_9 => some ((), μ_9))))))
set_option maxHeartbeats 4000000 in
theorem c_X7_clear {X : Wd} (hX : WdOk X) (p0 : Nat) (h0 : kd p0 = 7) (x1 : Int32) (μ : Mem) : CtV X yX7_clear cX7_clear 2 none (rmF 2 44) [.ref (xad X p0), .int x1] μ (G_X7_clear p0 x1 μ) := by
  refine CtV.of hX (plainFor_of_name (by decide)) (by exact Nat.le_of_ble_eq_true rfl) ?_
  intro C hCX hC hr
  subst hCX
  show J C (KV C) μ 0 [(0, .ref (xad (cX C) p0)), (1, .int x1)] [] _
  unfold G_X7_clear
  refine J.aload_n (j := 0) hC eX7_clear_0 rfl ?_
  refine J.iload_n (j := 1) hC eX7_clear_1 rfl ?_
  refine pf_X7_22 hC eX7_clear_2 h0 (fun μ_1 => ?_)
  refine J.aload_n (j := 0) hC eX7_clear_5 rfl ?_
  refine J.iconst hC eX7_clear_6 ci_0 ?_
  refine pf_X7_30 hC eX7_clear_7 h0 (fun μ_2 => ?_)
  refine J.aload_n (j := 0) hC eX7_clear_10 rfl ?_
  refine gf_X7_9 (q := p0 + 1) hC eX7_clear_11 h0 rfl ?_
  refine J.iconst hC eX7_clear_14 ci_0 ?_
  refine J.callSV (st := []) hC eX7_clear_15 ml_X7_33 mv_J7_fill_53178 (Rle_of (Nat.le_of_ble_eq_true rfl) (Nat.le_of_ble_eq_true rfl)) (c_J7_fill_53178 hC.X 1289 289 ik_289 (p0 + 1) (kf_X7_cells h0) (0 : Int32) μ_2) rfl rfl (Nat.le_of_ble_eq_true rfl) (fun r_4 μ_3 => ?_)
  refine J.aload_n (j := 0) hC eX7_clear_18 rfl ?_
  refine gf_X7_18 (q := p0 + 2) hC eX7_clear_19 h0 rfl ?_
  refine J.iconst hC eX7_clear_22 ci_0 ?_
  refine J.aaldLK (q := p0 + 3) hC eX7_clear_23 (kf_X7_lanes h0) (by decide) rfl (fun hq_5 => ?_)
  refine J.iload_n (j := 1) hC eX7_clear_24 rfl ?_
  refine J.callVV (st := []) hC eX7_clear_25 hq_5 (by decide) rfl rfl ml_X7_39 mv_X4_clear (Rle_of (Nat.le_of_ble_eq_true rfl) (Nat.le_of_ble_eq_true rfl)) (c_X4_clear hC.X (p0 + 3) hq_5 x1 μ_3) rfl rfl (Nat.le_of_ble_eq_true rfl) (fun r_7 μ_6 => ?_)
  refine J.aload_n (j := 0) hC eX7_clear_28 rfl ?_
  refine gf_X7_18 (q := p0 + 2) hC eX7_clear_29 h0 rfl ?_
  refine J.iconst hC eX7_clear_32 ci_1 ?_
  refine J.aaldLK (q := p0 + 6) hC eX7_clear_33 (kf_X7_lanes h0) (by decide) rfl (fun hq_8 => ?_)
  refine J.iload_n (j := 1) hC eX7_clear_34 rfl ?_
  refine J.callVV (st := []) hC eX7_clear_35 hq_8 (by decide) rfl rfl ml_X7_39 mv_X4_clear (Rle_of (Nat.le_of_ble_eq_true rfl) (Nat.le_of_ble_eq_true rfl)) (c_X4_clear hC.X (p0 + 6) hq_8 x1 μ_6) rfl rfl (Nat.le_of_ble_eq_true rfl) (fun r_10 μ_9 => ?_)
  exact J.vret hC hr eX7_clear_38
-- X1_rowItem
theorem eX1_rowItem_0 : DD cX1_rowItem 0 (.aload_n 0) 1 1 := ⟨by decide +kernel, rfl⟩
theorem eX1_rowItem_1 : DD cX1_rowItem 1 (.getfield 18) 3 4 := ⟨by decide +kernel, rfl⟩
theorem eX1_rowItem_4 : DD cX1_rowItem 4 (.iload_n 1) 1 5 := ⟨by decide +kernel, rfl⟩
theorem eX1_rowItem_5 : DD cX1_rowItem 5 (.iconst 4) 1 6 := ⟨by decide +kernel, rfl⟩
theorem eX1_rowItem_6 : DD cX1_rowItem 6 (.imul) 1 7 := ⟨by decide +kernel, rfl⟩
theorem eX1_rowItem_7 : DD cX1_rowItem 7 (.iload_n 2) 1 8 := ⟨by decide +kernel, rfl⟩
theorem eX1_rowItem_8 : DD cX1_rowItem 8 (.iadd) 1 9 := ⟨by decide +kernel, rfl⟩
theorem eX1_rowItem_9 : DD cX1_rowItem 9 (.iaload) 1 10 := ⟨by decide +kernel, rfl⟩
theorem eX1_rowItem_10 : DD cX1_rowItem 10 (.ireturn) 1 11 := ⟨by decide +kernel, rfl⟩
def G_X1_rowItem (x1 : Int32) (x2 : Int32) (μ : Mem) : Option (Int32 × Mem) :=
  gq (inB ((x1 * (4 : Int32)) + x2) 80) (some (rI μ 6 (nx ((x1 * (4 : Int32)) + x2)), μ))
set_option maxHeartbeats 4000000 in
theorem c_X1_rowItem {X : Wd} (hX : WdOk X) (x1 : Int32) (x2 : Int32) (μ : Mem) : CtI X yX1_rowItem cX1_rowItem 3 (some .int) (rmF 0 0) [.ref (xad X 3), .int x1, .int x2] μ (G_X1_rowItem x1 x2 μ) := by
  refine CtI.of hX (plainFor_of_name (by decide)) (by exact Nat.le_of_ble_eq_true rfl) ?_
  intro C hCX hC hr
  subst hCX
  show J C (KI C) μ 0 [(0, .ref (xad (cX C) 3)), (1, .int x1), (2, .int x2)] [] _
  unfold G_X1_rowItem
  refine J.aload_n (j := 0) hC eX1_rowItem_0 rfl ?_
  refine gf_X1_18 (q := 6) hC eX1_rowItem_1 kk_3 rfl ?_
  refine J.iload_n (j := 1) hC eX1_rowItem_4 rfl ?_
  refine J.iconst hC eX1_rowItem_5 ci_4 ?_
  refine J.imul hC eX1_rowItem_6 ?_
  refine J.iload_n (j := 2) hC eX1_rowItem_7 rfl ?_
  refine J.iadd hC eX1_rowItem_8 ?_
  refine J.iald ik_80 hC eX1_rowItem_9 kk_6 ?_
  exact J.iret hC hr eX1_rowItem_10
-- X7_cellOf
theorem eX7_cellOf_0 : DD cX7_cellOf 0 (.iload_n 0) 1 1 := ⟨by decide +kernel, rfl⟩
theorem eX7_cellOf_1 : DD cX7_cellOf 1 (.iconst 1) 1 2 := ⟨by decide +kernel, rfl⟩
theorem eX7_cellOf_2 : DD cX7_cellOf 2 (.iadd) 1 3 := ⟨by decide +kernel, rfl⟩
theorem eX7_cellOf_3 : DD cX7_cellOf 3 (.bipush 17) 2 5 := ⟨by decide +kernel, rfl⟩
theorem eX7_cellOf_5 : DD cX7_cellOf 5 (.imul) 1 6 := ⟨by decide +kernel, rfl⟩
theorem eX7_cellOf_6 : DD cX7_cellOf 6 (.iload_n 1) 1 7 := ⟨by decide +kernel, rfl⟩
theorem eX7_cellOf_7 : DD cX7_cellOf 7 (.iadd) 1 8 := ⟨by decide +kernel, rfl⟩
theorem eX7_cellOf_8 : DD cX7_cellOf 8 (.iconst 1) 1 9 := ⟨by decide +kernel, rfl⟩
theorem eX7_cellOf_9 : DD cX7_cellOf 9 (.iadd) 1 10 := ⟨by decide +kernel, rfl⟩
theorem eX7_cellOf_10 : DD cX7_cellOf 10 (.ireturn) 1 11 := ⟨by decide +kernel, rfl⟩
def G_X7_cellOf (x0 : Int32) (x1 : Int32) (μ : Mem) : Option (Int32 × Mem) :=
  some ((((x0 + (1 : Int32)) * (17 : Int32)) + x1) + (1 : Int32), μ)
set_option maxHeartbeats 4000000 in
theorem c_X7_cellOf {X : Wd} (hX : WdOk X) (x0 : Int32) (x1 : Int32) (μ : Mem) : CtI X yX7_cellOf cX7_cellOf 2 (some .int) (rmF 0 0) [.int x0, .int x1] μ (G_X7_cellOf x0 x1 μ) := by
  refine CtI.of hX (plainFor_of_name (by decide)) (by exact Nat.le_of_ble_eq_true rfl) ?_
  intro C hCX hC hr
  subst hCX
  show J C (KI C) μ 0 [(0, .int x0), (1, .int x1)] [] _
  unfold G_X7_cellOf
  refine J.iload_n (j := 0) hC eX7_cellOf_0 rfl ?_
  refine J.iconst hC eX7_cellOf_1 ci_1 ?_
  refine J.iadd hC eX7_cellOf_2 ?_
  refine J.bipush hC eX7_cellOf_3 cb_17 ?_
  refine J.imul hC eX7_cellOf_5 ?_
  refine J.iload_n (j := 1) hC eX7_cellOf_6 rfl ?_
  refine J.iadd hC eX7_cellOf_7 ?_
  refine J.iconst hC eX7_cellOf_8 ci_1 ?_
  refine J.iadd hC eX7_cellOf_9 ?_
  exact J.iret hC hr eX7_cellOf_10
-- X4_changeCount
theorem eX4_changeCount_0 : DD cX4_changeCount 0 (.iload_n 1) 1 1 := ⟨by decide +kernel, rfl⟩
theorem eX4_changeCount_1 : DD cX4_changeCount 1 (.iconst (-1)) 1 2 := ⟨by decide +kernel, rfl⟩
theorem eX4_changeCount_2 : DB cX4_changeCount 2 (.if_icmp .ne 16) (16) 5 18 := ⟨by decide +kernel, rfl, by decide⟩
theorem eX4_changeCount_5 : DD cX4_changeCount 5 (.aload_n 0) 1 6 := ⟨by decide +kernel, rfl⟩
theorem eX4_changeCount_6 : DD cX4_changeCount 6 (.dup) 1 7 := ⟨by decide +kernel, rfl⟩
theorem eX4_changeCount_7 : DD cX4_changeCount 7 (.getfield 29) 3 10 := ⟨by decide +kernel, rfl⟩
theorem eX4_changeCount_10 : DD cX4_changeCount 10 (.iload_n 2) 1 11 := ⟨by decide +kernel, rfl⟩
theorem eX4_changeCount_11 : DD cX4_changeCount 11 (.iadd) 1 12 := ⟨by decide +kernel, rfl⟩
theorem eX4_changeCount_12 : DD cX4_changeCount 12 (.putfield 29) 3 15 := ⟨by decide +kernel, rfl⟩
theorem eX4_changeCount_15 : DB cX4_changeCount 15 (.goto 13) (13) 18 28 := ⟨by decide +kernel, rfl, by decide⟩
theorem eX4_changeCount_18 : DD cX4_changeCount 18 (.aload_n 0) 1 19 := ⟨by decide +kernel, rfl⟩
theorem eX4_changeCount_19 : DD cX4_changeCount 19 (.getfield 11) 3 22 := ⟨by decide +kernel, rfl⟩
theorem eX4_changeCount_22 : DD cX4_changeCount 22 (.iload_n 1) 1 23 := ⟨by decide +kernel, rfl⟩
theorem eX4_changeCount_23 : DD cX4_changeCount 23 (.dup2) 1 24 := ⟨by decide +kernel, rfl⟩
theorem eX4_changeCount_24 : DD cX4_changeCount 24 (.iaload) 1 25 := ⟨by decide +kernel, rfl⟩
theorem eX4_changeCount_25 : DD cX4_changeCount 25 (.iload_n 2) 1 26 := ⟨by decide +kernel, rfl⟩
theorem eX4_changeCount_26 : DD cX4_changeCount 26 (.iadd) 1 27 := ⟨by decide +kernel, rfl⟩
theorem eX4_changeCount_27 : DD cX4_changeCount 27 (.iastore) 1 28 := ⟨by decide +kernel, rfl⟩
theorem eX4_changeCount_28 : DD cX4_changeCount 28 (.return_) 1 29 := ⟨by decide +kernel, rfl⟩
def G_X4_changeCount (p0 : Nat) (x1 : Int32) (x2 : Int32) (μ : Mem) : Option (Unit × Mem) :=
  if x1 = (-1 : Int32) then lb (wI μ p0 3 ((rI μ p0 3) + x2)) (fun μ_1 => some ((), μ_1)) else gq (inB x1 16) (gq (inB x1 16) (lb (wI μ (p0 + 1) (nx x1) ((rI μ (p0 + 1) (nx x1)) + x2)) (fun μ_2 => some ((), μ_2))))
set_option maxHeartbeats 4000000 in
theorem c_X4_changeCount {X : Wd} (hX : WdOk X) (p0 : Nat) (h0 : kd p0 = 4) (x1 : Int32) (x2 : Int32) (μ : Mem) : CtV X yX4_changeCount cX4_changeCount 3 none (rmF 0 0) [.ref (xad X p0), .int x1, .int x2] μ (G_X4_changeCount p0 x1 x2 μ) := by
  refine CtV.of hX (plainFor_of_name (by decide)) (by exact Nat.le_of_ble_eq_true rfl) ?_
  intro C hCX hC hr
  subst hCX
  show J C (KV C) μ 0 [(0, .ref (xad (cX C) p0)), (1, .int x1), (2, .int x2)] [] _
  unfold G_X4_changeCount
  refine J.iload_n (j := 1) hC eX4_changeCount_0 rfl ?_
  refine J.iconst hC eX4_changeCount_1 ci_m1 ?_
  refine J.icmp_ne hC eX4_changeCount_2 (fun _ => ?_) (fun _ => ?_)
  · refine J.aload_n (j := 0) hC eX4_changeCount_5 rfl ?_
    refine J.dup hC eX4_changeCount_6 rfl ?_
    refine gf_X4_29 hC eX4_changeCount_7 h0 ?_
    refine J.iload_n (j := 2) hC eX4_changeCount_10 rfl ?_
    refine J.iadd hC eX4_changeCount_11 ?_
    refine pf_X4_29 hC eX4_changeCount_12 h0 (fun μ_1 => ?_)
    refine J.goto hC eX4_changeCount_15 ?_
    exact J.vret hC hr eX4_changeCount_28
  · refine J.aload_n (j := 0) hC eX4_changeCount_18 rfl ?_
    refine gf_X4_11 (q := p0 + 1) hC eX4_changeCount_19 h0 rfl ?_
    refine J.iload_n (j := 1) hC eX4_changeCount_22 rfl ?_
    refine J.dup2 hC eX4_changeCount_23 rfl rfl ?_
    refine J.iald ik_16 hC eX4_changeCount_24 (kf_X4_counts h0) ?_
    refine J.iload_n (j := 2) hC eX4_changeCount_25 rfl ?_
    refine J.iadd hC eX4_changeCount_26 ?_
    refine J.iast ik_16 hC eX4_changeCount_27 (kf_X4_counts h0) (fun μ_2 => ?_)
    exact J.vret hC hr eX4_changeCount_28
-- X7_changeRows
theorem eX7_changeRows_0 : DD cX7_changeRows 0 (.aload_n 0) 1 1 := ⟨by decide +kernel, rfl⟩
theorem eX7_changeRows_1 : DD cX7_changeRows 1 (.getfield 9) 3 4 := ⟨by decide +kernel, rfl⟩
theorem eX7_changeRows_4 : DD cX7_changeRows 4 (.iload_n 1) 1 5 := ⟨by decide +kernel, rfl⟩
theorem eX7_changeRows_5 : DD cX7_changeRows 5 (.iload_n 2) 1 6 := ⟨by decide +kernel, rfl⟩
theorem eX7_changeRows_6 : DD cX7_changeRows 6 (.invokestatic 26) 3 9 := ⟨by decide +kernel, rfl⟩
theorem eX7_changeRows_9 : DD cX7_changeRows 9 (.dup2) 1 10 := ⟨by decide +kernel, rfl⟩
theorem eX7_changeRows_10 : DD cX7_changeRows 10 (.iaload) 1 11 := ⟨by decide +kernel, rfl⟩
theorem eX7_changeRows_11 : DD cX7_changeRows 11 (.iload_n 3) 1 12 := ⟨by decide +kernel, rfl⟩
theorem eX7_changeRows_12 : DD cX7_changeRows 12 (.iadd) 1 13 := ⟨by decide +kernel, rfl⟩
theorem eX7_changeRows_13 : DD cX7_changeRows 13 (.iastore) 1 14 := ⟨by decide +kernel, rfl⟩
theorem eX7_changeRows_14 : DD cX7_changeRows 14 (.aload_n 0) 1 15 := ⟨by decide +kernel, rfl⟩
theorem eX7_changeRows_15 : DD cX7_changeRows 15 (.dup) 1 16 := ⟨by decide +kernel, rfl⟩
theorem eX7_changeRows_16 : DD cX7_changeRows 16 (.getfield 30) 3 19 := ⟨by decide +kernel, rfl⟩
theorem eX7_changeRows_19 : DD cX7_changeRows 19 (.iload_n 3) 1 20 := ⟨by decide +kernel, rfl⟩
theorem eX7_changeRows_20 : DD cX7_changeRows 20 (.iadd) 1 21 := ⟨by decide +kernel, rfl⟩
theorem eX7_changeRows_21 : DD cX7_changeRows 21 (.putfield 30) 3 24 := ⟨by decide +kernel, rfl⟩
theorem eX7_changeRows_24 : DD cX7_changeRows 24 (.aload_n 0) 1 25 := ⟨by decide +kernel, rfl⟩
theorem eX7_changeRows_25 : DD cX7_changeRows 25 (.getfield 18) 3 28 := ⟨by decide +kernel, rfl⟩
theorem eX7_changeRows_28 : DD cX7_changeRows 28 (.iconst 0) 1 29 := ⟨by decide +kernel, rfl⟩
theorem eX7_changeRows_29 : DD cX7_changeRows 29 (.aaload) 1 30 := ⟨by decide +kernel, rfl⟩
theorem eX7_changeRows_30 : DD cX7_changeRows 30 (.iload_n 1) 1 31 := ⟨by decide +kernel, rfl⟩
theorem eX7_changeRows_31 : DD cX7_changeRows 31 (.iload_n 3) 1 32 := ⟨by decide +kernel, rfl⟩
theorem eX7_changeRows_32 : DD cX7_changeRows 32 (.invokevirtual 53) 3 35 := ⟨by decide +kernel, rfl⟩
theorem eX7_changeRows_35 : DD cX7_changeRows 35 (.aload_n 0) 1 36 := ⟨by decide +kernel, rfl⟩
theorem eX7_changeRows_36 : DD cX7_changeRows 36 (.getfield 18) 3 39 := ⟨by decide +kernel, rfl⟩
theorem eX7_changeRows_39 : DD cX7_changeRows 39 (.iconst 1) 1 40 := ⟨by decide +kernel, rfl⟩
theorem eX7_changeRows_40 : DD cX7_changeRows 40 (.aaload) 1 41 := ⟨by decide +kernel, rfl⟩
theorem eX7_changeRows_41 : DD cX7_changeRows 41 (.iload_n 2) 1 42 := ⟨by decide +kernel, rfl⟩
theorem eX7_changeRows_42 : DD cX7_changeRows 42 (.iload_n 3) 1 43 := ⟨by decide +kernel, rfl⟩
theorem eX7_changeRows_43 : DD cX7_changeRows 43 (.invokevirtual 53) 3 46 := ⟨by decide +kernel, rfl⟩
theorem eX7_changeRows_46 : DD cX7_changeRows 46 (.return_) 1 47 := ⟨by decide +kernel, rfl⟩
def G_X7_changeRows (p0 : Nat) (x1 : Int32) (x2 : Int32) (x3 : Int32) (μ : Mem) : Option (Unit × Mem) :=
  bd (G_X7_cellOf x1 x2 μ) (fun r_2 μ_1 => gq (inB r_2 289) (gq (inB r_2 289) (lb (wI μ_1 (p0 + 1) (nx r_2) ((rI μ_1 (p0 + 1) (nx r_2)) + x3)) (fun μ_3 => lb (wI μ_3 p0 3 ((rI μ_3 p0 3) + x3)) (fun μ_4 => bd (G_X4_changeCount (p0 + 3) x1 x3 μ_4) (fun r_7 μ_6 => bd (G_X4_changeCount (p0 + 6) x2 x3 μ_6) (fun r_10 μ_9 => some ((), μ_9))))))))
set_option maxHeartbeats 4000000 in
theorem c_X7_changeRows {X : Wd} (hX : WdOk X) (p0 : Nat) (h0 : kd p0 = 7) (x1 : Int32) (x2 : Int32) (x3 : Int32) (μ : Mem) : CtV X yX7_changeRows cX7_changeRows 4 none (rmF 1 22) [.ref (xad X p0), .int x1, .int x2, .int x3] μ (G_X7_changeRows p0 x1 x2 x3 μ) := by
  refine CtV.of hX (plainFor_of_name (by decide)) (by exact Nat.le_of_ble_eq_true rfl) ?_
  intro C hCX hC hr
  subst hCX
  show J C (KV C) μ 0 [(0, .ref (xad (cX C) p0)), (1, .int x1), (2, .int x2), (3, .int x3)] [] _
  unfold G_X7_changeRows
  refine J.aload_n (j := 0) hC eX7_changeRows_0 rfl ?_
  refine gf_X7_9 (q := p0 + 1) hC eX7_changeRows_1 h0 rfl ?_
  refine J.iload_n (j := 1) hC eX7_changeRows_4 rfl ?_
  refine J.iload_n (j := 2) hC eX7_changeRows_5 rfl ?_
  refine J.callSI (st := [.ref (xad (cX C) (p0 + 1))]) hC eX7_changeRows_6 ml_X7_26 mv_X7_cellOf (Rle_of (Nat.le_of_ble_eq_true rfl) (Nat.le_of_ble_eq_true rfl)) (c_X7_cellOf hC.X x1 x2 μ) rfl rfl (Nat.le_of_ble_eq_true rfl) (fun r_2 μ_1 => ?_)
  refine J.dup2 hC eX7_changeRows_9 rfl rfl ?_
  refine J.iald ik_289 hC eX7_changeRows_10 (kf_X7_cells h0) ?_
  refine J.iload_n (j := 3) hC eX7_changeRows_11 rfl ?_
  refine J.iadd hC eX7_changeRows_12 ?_
  refine J.iast ik_289 hC eX7_changeRows_13 (kf_X7_cells h0) (fun μ_3 => ?_)
  refine J.aload_n (j := 0) hC eX7_changeRows_14 rfl ?_
  refine J.dup hC eX7_changeRows_15 rfl ?_
  refine gf_X7_30 hC eX7_changeRows_16 h0 ?_
  refine J.iload_n (j := 3) hC eX7_changeRows_19 rfl ?_
  refine J.iadd hC eX7_changeRows_20 ?_
  refine pf_X7_30 hC eX7_changeRows_21 h0 (fun μ_4 => ?_)
  refine J.aload_n (j := 0) hC eX7_changeRows_24 rfl ?_
  refine gf_X7_18 (q := p0 + 2) hC eX7_changeRows_25 h0 rfl ?_
  refine J.iconst hC eX7_changeRows_28 ci_0 ?_
  refine J.aaldLK (q := p0 + 3) hC eX7_changeRows_29 (kf_X7_lanes h0) (by decide) rfl (fun hq_5 => ?_)
  refine J.iload_n (j := 1) hC eX7_changeRows_30 rfl ?_
  refine J.iload_n (j := 3) hC eX7_changeRows_31 rfl ?_
  refine J.callVV (st := []) hC eX7_changeRows_32 hq_5 (by decide) rfl rfl ml_X7_53 mv_X4_changeCount (Rle_of (Nat.le_of_ble_eq_true rfl) (Nat.le_of_ble_eq_true rfl)) (c_X4_changeCount hC.X (p0 + 3) hq_5 x1 x3 μ_4) rfl rfl (Nat.le_of_ble_eq_true rfl) (fun r_7 μ_6 => ?_)
  refine J.aload_n (j := 0) hC eX7_changeRows_35 rfl ?_
  refine gf_X7_18 (q := p0 + 2) hC eX7_changeRows_36 h0 rfl ?_
  refine J.iconst hC eX7_changeRows_39 ci_1 ?_
  refine J.aaldLK (q := p0 + 6) hC eX7_changeRows_40 (kf_X7_lanes h0) (by decide) rfl (fun hq_8 => ?_)
  refine J.iload_n (j := 2) hC eX7_changeRows_41 rfl ?_
  refine J.iload_n (j := 3) hC eX7_changeRows_42 rfl ?_
  refine J.callVV (st := []) hC eX7_changeRows_43 hq_8 (by decide) rfl rfl ml_X7_53 mv_X4_changeCount (Rle_of (Nat.le_of_ble_eq_true rfl) (Nat.le_of_ble_eq_true rfl)) (c_X4_changeCount hC.X (p0 + 6) hq_8 x2 x3 μ_6) rfl rfl (Nat.le_of_ble_eq_true rfl) (fun r_10 μ_9 => ?_)
  exact J.vret hC hr eX7_changeRows_46
-- X5_findErrors
theorem eX5_findErrors_0 : DD cX5_findErrors 0 (.aload_n 0) 1 1 := ⟨by decide +kernel, rfl⟩
theorem eX5_findErrors_1 : DD cX5_findErrors 1 (.aload_n 1) 1 2 := ⟨by decide +kernel, rfl⟩
theorem eX5_findErrors_2 : DD cX5_findErrors 2 (.getfield 40) 3 5 := ⟨by decide +kernel, rfl⟩
theorem eX5_findErrors_5 : DD cX5_findErrors 5 (.putfield 33) 3 8 := ⟨by decide +kernel, rfl⟩
theorem eX5_findErrors_8 : DD cX5_findErrors 8 (.iconst 0) 1 9 := ⟨by decide +kernel, rfl⟩
theorem eX5_findErrors_9 : DD cX5_findErrors 9 (.istore_n 2) 1 10 := ⟨by decide +kernel, rfl⟩
theorem eX5_findErrors_10 : DD cX5_findErrors 10 (.iload_n 2) 1 11 := ⟨by decide +kernel, rfl⟩
theorem eX5_findErrors_11 : DD cX5_findErrors 11 (.aload_n 0) 1 12 := ⟨by decide +kernel, rfl⟩
theorem eX5_findErrors_12 : DD cX5_findErrors 12 (.getfield 33) 3 15 := ⟨by decide +kernel, rfl⟩
theorem eX5_findErrors_15 : DB cX5_findErrors 15 (.if_icmp .ge 95) (95) 18 110 := ⟨by decide +kernel, rfl, by decide⟩
theorem eX5_findErrors_18 : DD cX5_findErrors 18 (.lconst 0) 1 19 := ⟨by decide +kernel, rfl⟩
theorem eX5_findErrors_19 : DD cX5_findErrors 19 (.lstore_n 3) 1 20 := ⟨by decide +kernel, rfl⟩
theorem eX5_findErrors_20 : DD cX5_findErrors 20 (.lconst 0) 1 21 := ⟨by decide +kernel, rfl⟩
theorem eX5_findErrors_21 : DD cX5_findErrors 21 (.lstore 5) 2 23 := ⟨by decide +kernel, rfl⟩
theorem eX5_findErrors_23 : DD cX5_findErrors 23 (.iconst 1) 1 24 := ⟨by decide +kernel, rfl⟩
theorem eX5_findErrors_24 : DD cX5_findErrors 24 (.istore 7) 2 26 := ⟨by decide +kernel, rfl⟩
theorem eX5_findErrors_26 : DD cX5_findErrors 26 (.iload 7) 2 28 := ⟨by decide +kernel, rfl⟩
theorem eX5_findErrors_28 : DD cX5_findErrors 28 (.aload_n 0) 1 29 := ⟨by decide +kernel, rfl⟩
theorem eX5_findErrors_29 : DD cX5_findErrors 29 (.getfield 33) 3 32 := ⟨by decide +kernel, rfl⟩
theorem eX5_findErrors_32 : DD cX5_findErrors 32 (.iload_n 2) 1 33 := ⟨by decide +kernel, rfl⟩
theorem eX5_findErrors_33 : DD cX5_findErrors 33 (.isub) 1 34 := ⟨by decide +kernel, rfl⟩
theorem eX5_findErrors_34 : DB cX5_findErrors 34 (.if_icmp .gt 70) (70) 37 104 := ⟨by decide +kernel, rfl, by decide⟩
theorem eX5_findErrors_37 : DD cX5_findErrors 37 (.aload_n 1) 1 38 := ⟨by decide +kernel, rfl⟩
theorem eX5_findErrors_38 : DD cX5_findErrors 38 (.getfield 43) 3 41 := ⟨by decide +kernel, rfl⟩
theorem eX5_findErrors_41 : DD cX5_findErrors 41 (.iload_n 2) 1 42 := ⟨by decide +kernel, rfl⟩
theorem eX5_findErrors_42 : DD cX5_findErrors 42 (.iload 7) 2 44 := ⟨by decide +kernel, rfl⟩
theorem eX5_findErrors_44 : DD cX5_findErrors 44 (.iadd) 1 45 := ⟨by decide +kernel, rfl⟩
theorem eX5_findErrors_45 : DD cX5_findErrors 45 (.iconst 1) 1 46 := ⟨by decide +kernel, rfl⟩
theorem eX5_findErrors_46 : DD cX5_findErrors 46 (.isub) 1 47 := ⟨by decide +kernel, rfl⟩
theorem eX5_findErrors_47 : DD cX5_findErrors 47 (.iaload) 1 48 := ⟨by decide +kernel, rfl⟩
theorem eX5_findErrors_48 : DD cX5_findErrors 48 (.i2l) 1 49 := ⟨by decide +kernel, rfl⟩
theorem eX5_findErrors_49 : DD cX5_findErrors 49 (.lstore 8) 2 51 := ⟨by decide +kernel, rfl⟩
theorem eX5_findErrors_51 : DD cX5_findErrors 51 (.lload_n 3) 1 52 := ⟨by decide +kernel, rfl⟩
theorem eX5_findErrors_52 : DD cX5_findErrors 52 (.lload 8) 2 54 := ⟨by decide +kernel, rfl⟩
theorem eX5_findErrors_54 : DD cX5_findErrors 54 (.ladd) 1 55 := ⟨by decide +kernel, rfl⟩
theorem eX5_findErrors_55 : DD cX5_findErrors 55 (.lstore_n 3) 1 56 := ⟨by decide +kernel, rfl⟩
theorem eX5_findErrors_56 : DD cX5_findErrors 56 (.lload 5) 2 58 := ⟨by decide +kernel, rfl⟩
theorem eX5_findErrors_58 : DD cX5_findErrors 58 (.lload 8) 2 60 := ⟨by decide +kernel, rfl⟩
theorem eX5_findErrors_60 : DD cX5_findErrors 60 (.lload 8) 2 62 := ⟨by decide +kernel, rfl⟩
theorem eX5_findErrors_62 : DD cX5_findErrors 62 (.lmul) 1 63 := ⟨by decide +kernel, rfl⟩
theorem eX5_findErrors_63 : DD cX5_findErrors 63 (.ladd) 1 64 := ⟨by decide +kernel, rfl⟩
theorem eX5_findErrors_64 : DD cX5_findErrors 64 (.lstore 5) 2 66 := ⟨by decide +kernel, rfl⟩
theorem eX5_findErrors_66 : DD cX5_findErrors 66 (.aload_n 0) 1 67 := ⟨by decide +kernel, rfl⟩
theorem eX5_findErrors_67 : DD cX5_findErrors 67 (.getfield 9) 3 70 := ⟨by decide +kernel, rfl⟩
theorem eX5_findErrors_70 : DD cX5_findErrors 70 (.iload_n 2) 1 71 := ⟨by decide +kernel, rfl⟩
theorem eX5_findErrors_71 : DD cX5_findErrors 71 (.bipush 17) 2 73 := ⟨by decide +kernel, rfl⟩
theorem eX5_findErrors_73 : DD cX5_findErrors 73 (.imul) 1 74 := ⟨by decide +kernel, rfl⟩
theorem eX5_findErrors_74 : DD cX5_findErrors 74 (.iload_n 2) 1 75 := ⟨by decide +kernel, rfl⟩
theorem eX5_findErrors_75 : DD cX5_findErrors 75 (.iadd) 1 76 := ⟨by decide +kernel, rfl⟩
theorem eX5_findErrors_76 : DD cX5_findErrors 76 (.iload 7) 2 78 := ⟨by decide +kernel, rfl⟩
theorem eX5_findErrors_78 : DD cX5_findErrors 78 (.iadd) 1 79 := ⟨by decide +kernel, rfl⟩
theorem eX5_findErrors_79 : DD cX5_findErrors 79 (.ldc2_w 46) 3 82 := ⟨by decide +kernel, rfl⟩
theorem eX5_findErrors_82 : DD cX5_findErrors 82 (.lload 5) 2 84 := ⟨by decide +kernel, rfl⟩
theorem eX5_findErrors_84 : DD cX5_findErrors 84 (.lmul) 1 85 := ⟨by decide +kernel, rfl⟩
theorem eX5_findErrors_85 : DD cX5_findErrors 85 (.ldc2_w 46) 3 88 := ⟨by decide +kernel, rfl⟩
theorem eX5_findErrors_88 : DD cX5_findErrors 88 (.iload 7) 2 90 := ⟨by decide +kernel, rfl⟩
theorem eX5_findErrors_90 : DD cX5_findErrors 90 (.i2l) 1 91 := ⟨by decide +kernel, rfl⟩
theorem eX5_findErrors_91 : DD cX5_findErrors 91 (.ldiv) 1 92 := ⟨by decide +kernel, rfl⟩
theorem eX5_findErrors_92 : DD cX5_findErrors 92 (.lload_n 3) 1 93 := ⟨by decide +kernel, rfl⟩
theorem eX5_findErrors_93 : DD cX5_findErrors 93 (.lmul) 1 94 := ⟨by decide +kernel, rfl⟩
theorem eX5_findErrors_94 : DD cX5_findErrors 94 (.lload_n 3) 1 95 := ⟨by decide +kernel, rfl⟩
theorem eX5_findErrors_95 : DD cX5_findErrors 95 (.lmul) 1 96 := ⟨by decide +kernel, rfl⟩
theorem eX5_findErrors_96 : DD cX5_findErrors 96 (.lsub) 1 97 := ⟨by decide +kernel, rfl⟩
theorem eX5_findErrors_97 : DD cX5_findErrors 97 (.lastore) 1 98 := ⟨by decide +kernel, rfl⟩
theorem eX5_findErrors_98 : DD cX5_findErrors 98 (.iinc 7 1) 3 101 := ⟨by decide +kernel, rfl⟩
theorem eX5_findErrors_101 : DB cX5_findErrors 101 (.goto (-75)) (-75) 104 26 := ⟨by decide +kernel, rfl, by decide⟩
theorem eX5_findErrors_104 : DD cX5_findErrors 104 (.iinc 2 1) 3 107 := ⟨by decide +kernel, rfl⟩
theorem eX5_findErrors_107 : DB cX5_findErrors 107 (.goto (-97)) (-97) 110 10 := ⟨by decide +kernel, rfl, by decide⟩
theorem eX5_findErrors_110 : DD cX5_findErrors 110 (.return_) 1 111 := ⟨by decide +kernel, rfl⟩
def L_X5_findErrors_26 (kc_10 : Nat → Int32 → Mem → Option (Unit × Mem)) : Nat → Nat → Int32 → Int64 → Int64 → Int32 → Mem → Option (Unit × Mem)
  | 0, _, _, _, _, _, _ => none
  | n + 1, p1, x2, l3, l5, x7, μ => if ((rI μ 99 3) - x2) < x7 then lb (x2 + (1 : Int32)) (fun x2_1 => kc_10 p1 x2_1 μ) else gq (inB ((x2 + x7) - (1 : Int32)) 16) (lb ((rI μ (p1 + 1) (nx ((x2 + x7) - (1 : Int32)))).toInt64) (fun l8_2 => lb (l3 + l8_2) (fun l3_3 => lb (l5 + (l8_2 * l8_2)) (fun l5_4 => gq (decide (¬ x7.toInt64 = 0)) (gq (inB (((x2 * (17 : Int32)) + x2) + x7) 289) (lb (wL μ 100 (nx (((x2 * (17 : Int32)) + x2) + x7)) (((720720 : Int64) * l5_4) - ((((720720 : Int64) / x7.toInt64) * l3_3) * l3_3))) (fun μ_5 => lb (x7 + (1 : Int32)) (fun x7_6 => L_X5_findErrors_26 kc_10 n p1 x2 l3_3 l5_4 x7_6 μ_5))))))))
set_option maxHeartbeats 4000000 in
theorem j_X5_findErrors_26 {C : Cx} (hC : Ok C cX5_findErrors 10 RX5 (rmF 0 0)) (hr : (cT C).sig.returnType = none) (kc_10 : Nat → Int32 → Mem → Option (Unit × Mem)) (hk_10 : ∀ (p1 : Nat) (h1 : kd p1 = 4) (x2 : Int32) (μ : Mem), J C (KV C) μ 10 [(0, .ref (xad (cX C) 99)), (1, .ref (xad (cX C) p1)), (2, .int x2)] [] (kc_10 p1 x2 μ)) : ∀ (n : Nat) (p1 : Nat) (h1 : kd p1 = 4) (x2 : Int32) (l3 : Int64) (l5 : Int64) (x7 : Int32) (μ : Mem), J C (KV C) μ 26 [(0, .ref (xad (cX C) 99)), (1, .ref (xad (cX C) p1)), (2, .int x2), (3, .long l3), (5, .long l5), (7, .int x7)] [] (L_X5_findErrors_26 kc_10 n p1 x2 l3 l5 x7 μ) := by
  intro n
  induction n with
  | zero => intros; exact J.no
  | succ n ih =>
    intro p1 h1 x2 l3 l5 x7 μ
    rw [L_X5_findErrors_26]
    refine J.iload (j := 5) hC eX5_findErrors_26 rfl ?_
    refine J.aload_n (j := 0) hC eX5_findErrors_28 rfl ?_
    refine gf_X5_33 hC eX5_findErrors_29 kk_99 ?_
    refine J.iload_n (j := 2) hC eX5_findErrors_32 rfl ?_
    refine J.isub hC eX5_findErrors_33 ?_
    refine J.icmp_gt hC eX5_findErrors_34 (fun _ => ?_) (fun _ => ?_)
    · refine J.iinc (j := 2) (fun x2_1 => [(2, .int x2_1), (0, .ref (xad (cX C) 99)), (1, .ref (xad (cX C) p1)), (3, .long l3), (5, .long l5), (7, .int x7)]) hC eX5_findErrors_104 rfl ci_1 (by decide) (fun _ => rfl) (fun x2_1 => ?_)
      refine J.goto hC eX5_findErrors_107 ?_
      refine J.sub [1, 2, 0] rfl ?_
      exact hk_10 p1 h1 x2_1 μ
    · refine J.aload_n (j := 1) hC eX5_findErrors_37 rfl ?_
      refine gf_X5_43 (q := p1 + 1) hC eX5_findErrors_38 h1 rfl ?_
      refine J.iload_n (j := 2) hC eX5_findErrors_41 rfl ?_
      refine J.iload (j := 5) hC eX5_findErrors_42 rfl ?_
      refine J.iadd hC eX5_findErrors_44 ?_
      refine J.iconst hC eX5_findErrors_45 ci_1 ?_
      refine J.isub hC eX5_findErrors_46 ?_
      refine J.iald ik_16 hC eX5_findErrors_47 (kf_X4_counts h1) ?_
      refine J.i2l hC eX5_findErrors_48 ?_
      refine J.topl (fun l8_2 => ?_)
      refine J.lstore [(8, .long l8_2), (0, .ref (xad (cX C) 99)), (1, .ref (xad (cX C) p1)), (2, .int x2), (3, .long l3), (5, .long l5), (7, .int x7)] hC eX5_findErrors_49 (by decide) rfl ?_
      refine J.lload_n (j := 4) hC eX5_findErrors_51 rfl ?_
      refine J.lload (j := 0) hC eX5_findErrors_52 rfl ?_
      refine J.ladd hC eX5_findErrors_54 ?_
      refine J.topl (fun l3_3 => ?_)
      refine J.lstore_n [(3, .long l3_3), (8, .long l8_2), (0, .ref (xad (cX C) 99)), (1, .ref (xad (cX C) p1)), (2, .int x2), (5, .long l5), (7, .int x7)] hC eX5_findErrors_55 (by decide) rfl ?_
      refine J.lload (j := 5) hC eX5_findErrors_56 rfl ?_
      refine J.lload (j := 1) hC eX5_findErrors_58 rfl ?_
      refine J.lload (j := 1) hC eX5_findErrors_60 rfl ?_
      refine J.lmul hC eX5_findErrors_62 ?_
      refine J.ladd hC eX5_findErrors_63 ?_
      refine J.topl (fun l5_4 => ?_)
      refine J.lstore [(5, .long l5_4), (3, .long l3_3), (8, .long l8_2), (0, .ref (xad (cX C) 99)), (1, .ref (xad (cX C) p1)), (2, .int x2), (7, .int x7)] hC eX5_findErrors_64 (by decide) rfl ?_
      refine J.aload_n (j := 3) hC eX5_findErrors_66 rfl ?_
      refine gf_X5_9 (q := 100) hC eX5_findErrors_67 kk_99 rfl ?_
      refine J.iload_n (j := 5) hC eX5_findErrors_70 rfl ?_
      refine J.bipush hC eX5_findErrors_71 cb_17 ?_
      refine J.imul hC eX5_findErrors_73 ?_
      refine J.iload_n (j := 5) hC eX5_findErrors_74 rfl ?_
      refine J.iadd hC eX5_findErrors_75 ?_
      refine J.iload (j := 6) hC eX5_findErrors_76 rfl ?_
      refine J.iadd hC eX5_findErrors_78 ?_
      refine J.ldc2 hC eX5_findErrors_79 mk_X5_46 ?_
      refine J.lload (j := 0) hC eX5_findErrors_82 rfl ?_
      refine J.lmul hC eX5_findErrors_84 ?_
      refine J.ldc2 hC eX5_findErrors_85 mk_X5_46 ?_
      refine J.iload (j := 6) hC eX5_findErrors_88 rfl ?_
      refine J.i2l hC eX5_findErrors_90 ?_
      refine J.ldiv hC eX5_findErrors_91 ?_
      refine J.lload_n (j := 1) hC eX5_findErrors_92 rfl ?_
      refine J.lmul hC eX5_findErrors_93 ?_
      refine J.lload_n (j := 1) hC eX5_findErrors_94 rfl ?_
      refine J.lmul hC eX5_findErrors_95 ?_
      refine J.lsub hC eX5_findErrors_96 ?_
      refine J.last il_289 hC eX5_findErrors_97 kk_100 (fun μ_5 => ?_)
      refine J.iinc (j := 6) (fun x7_6 => [(7, .int x7_6), (5, .long l5_4), (3, .long l3_3), (8, .long l8_2), (0, .ref (xad (cX C) 99)), (1, .ref (xad (cX C) p1)), (2, .int x2)]) hC eX5_findErrors_98 rfl ci_1 (by decide) (fun _ => rfl) (fun x7_6 => ?_)
      refine J.goto hC eX5_findErrors_101 ?_
      refine J.sub [4, 5, 6, 2, 1, 0] rfl ?_
      exact ih p1 h1 x2 l3_3 l5_4 x7_6 μ_5
def L_X5_findErrors_10 : Nat → Nat → Int32 → Mem → Option (Unit × Mem)
  | 0, _, _, _ => none
  | n + 1, p1, x2, μ => if (rI μ 99 3) ≤ x2 then some ((), μ) else L_X5_findErrors_26 (L_X5_findErrors_10  n) 100000 p1 x2 (0 : Int64) (0 : Int64) (1 : Int32) μ
set_option maxHeartbeats 4000000 in
theorem j_X5_findErrors_10 {C : Cx} (hC : Ok C cX5_findErrors 10 RX5 (rmF 0 0)) (hr : (cT C).sig.returnType = none) : ∀ (n : Nat) (p1 : Nat) (h1 : kd p1 = 4) (x2 : Int32) (μ : Mem), J C (KV C) μ 10 [(0, .ref (xad (cX C) 99)), (1, .ref (xad (cX C) p1)), (2, .int x2)] [] (L_X5_findErrors_10  n p1 x2 μ) := by
  intro n
  induction n with
  | zero => intros; exact J.no
  | succ n ih =>
    intro p1 h1 x2 μ
    rw [L_X5_findErrors_10]
    refine J.iload_n (j := 2) hC eX5_findErrors_10 rfl ?_
    refine J.aload_n (j := 0) hC eX5_findErrors_11 rfl ?_
    refine gf_X5_33 hC eX5_findErrors_12 kk_99 ?_
    refine J.icmp_ge hC eX5_findErrors_15 (fun _ => ?_) (fun _ => ?_)
    · exact J.vret hC hr eX5_findErrors_110
    · refine J.lconst hC eX5_findErrors_18 cl_0 ?_
      refine J.lstore_n [(3, .long (0 : Int64)), (0, .ref (xad (cX C) 99)), (1, .ref (xad (cX C) p1)), (2, .int x2)] hC eX5_findErrors_19 (by decide) rfl ?_
      refine J.lconst hC eX5_findErrors_20 cl_0 ?_
      refine J.lstore [(5, .long (0 : Int64)), (3, .long (0 : Int64)), (0, .ref (xad (cX C) 99)), (1, .ref (xad (cX C) p1)), (2, .int x2)] hC eX5_findErrors_21 (by decide) rfl ?_
      refine J.iconst hC eX5_findErrors_23 ci_1 ?_
      refine J.istore [(7, .int (1 : Int32)), (5, .long (0 : Int64)), (3, .long (0 : Int64)), (0, .ref (xad (cX C) 99)), (1, .ref (xad (cX C) p1)), (2, .int x2)] hC eX5_findErrors_24 (by decide) rfl ?_
      refine J.sub [3, 4, 5, 2, 1, 0] rfl ?_
      exact j_X5_findErrors_26 hC hr (L_X5_findErrors_10  n) ih 100000 p1 h1 x2 (0 : Int64) (0 : Int64) (1 : Int32) μ
def G_X5_findErrors (p1 : Nat) (μ : Mem) : Option (Unit × Mem) :=
  lb (wI μ 99 3 (rI μ p1 2)) (fun μ_1 => L_X5_findErrors_10  100000 p1 (0 : Int32) μ_1)
set_option maxHeartbeats 4000000 in
theorem c_X5_findErrors {X : Wd} (hX : WdOk X) (p1 : Nat) (h1 : kd p1 = 4) (μ : Mem) : CtV X yX5_findErrors cX5_findErrors 10 none (rmF 0 0) [.ref (xad X 99), .ref (xad X p1)] μ (G_X5_findErrors p1 μ) := by
  refine CtV.of hX (plainFor_of_name (by decide)) (by exact Nat.le_of_ble_eq_true rfl) ?_
  intro C hCX hC hr
  subst hCX
  show J C (KV C) μ 0 [(0, .ref (xad (cX C) 99)), (1, .ref (xad (cX C) p1))] [] _
  unfold G_X5_findErrors
  refine J.aload_n (j := 0) hC eX5_findErrors_0 rfl ?_
  refine J.aload_n (j := 1) hC eX5_findErrors_1 rfl ?_
  refine gf_X5_40 hC eX5_findErrors_2 h1 ?_
  refine pf_X5_33 hC eX5_findErrors_5 kk_99 (fun μ_1 => ?_)
  refine J.iconst hC eX5_findErrors_8 ci_0 ?_
  refine J.istore_n [(2, .int (0 : Int32)), (0, .ref (xad (cX C) 99)), (1, .ref (xad (cX C) p1))] hC eX5_findErrors_9 (by decide) rfl ?_
  refine J.sub [1, 2, 0] rfl ?_
  exact j_X5_findErrors_10 hC hr  100000 p1 h1 (0 : Int32) μ_1
-- X5_seek
theorem eX5_seek_0 : DD cX5_seek 0 (.aload_n 0) 1 1 := ⟨by decide +kernel, rfl⟩
theorem eX5_seek_1 : DD cX5_seek 1 (.getfield 33) 3 4 := ⟨by decide +kernel, rfl⟩
theorem eX5_seek_4 : DD cX5_seek 4 (.iload_n 1) 1 5 := ⟨by decide +kernel, rfl⟩
theorem eX5_seek_5 : DD cX5_seek 5 (.isub) 1 6 := ⟨by decide +kernel, rfl⟩
theorem eX5_seek_6 : DD cX5_seek 6 (.iconst 1) 1 7 := ⟨by decide +kernel, rfl⟩
theorem eX5_seek_7 : DD cX5_seek 7 (.iadd) 1 8 := ⟨by decide +kernel, rfl⟩
theorem eX5_seek_8 : DD cX5_seek 8 (.istore_n 3) 1 9 := ⟨by decide +kernel, rfl⟩
theorem eX5_seek_9 : DD cX5_seek 9 (.ldc2_w 50) 3 12 := ⟨by decide +kernel, rfl⟩
theorem eX5_seek_12 : DD cX5_seek 12 (.lstore 4) 2 14 := ⟨by decide +kernel, rfl⟩
theorem eX5_seek_14 : DD cX5_seek 14 (.iload_n 3) 1 15 := ⟨by decide +kernel, rfl⟩
theorem eX5_seek_15 : DD cX5_seek 15 (.istore 6) 2 17 := ⟨by decide +kernel, rfl⟩
theorem eX5_seek_17 : DD cX5_seek 17 (.iload_n 2) 1 18 := ⟨by decide +kernel, rfl⟩
theorem eX5_seek_18 : DD cX5_seek 18 (.iconst 1) 1 19 := ⟨by decide +kernel, rfl⟩
theorem eX5_seek_19 : DD cX5_seek 19 (.iadd) 1 20 := ⟨by decide +kernel, rfl⟩
theorem eX5_seek_20 : DD cX5_seek 20 (.istore 7) 2 22 := ⟨by decide +kernel, rfl⟩
theorem eX5_seek_22 : DD cX5_seek 22 (.iload 7) 2 24 := ⟨by decide +kernel, rfl⟩
theorem eX5_seek_24 : DD cX5_seek 24 (.iload_n 3) 1 25 := ⟨by decide +kernel, rfl⟩
theorem eX5_seek_25 : DB cX5_seek 25 (.if_icmp .gt 79) (79) 28 104 := ⟨by decide +kernel, rfl, by decide⟩
theorem eX5_seek_28 : DD cX5_seek 28 (.aload_n 0) 1 29 := ⟨by decide +kernel, rfl⟩
theorem eX5_seek_29 : DD cX5_seek 29 (.getfield 9) 3 32 := ⟨by decide +kernel, rfl⟩
theorem eX5_seek_32 : DD cX5_seek 32 (.iload_n 2) 1 33 := ⟨by decide +kernel, rfl⟩
theorem eX5_seek_33 : DD cX5_seek 33 (.bipush 17) 2 35 := ⟨by decide +kernel, rfl⟩
theorem eX5_seek_35 : DD cX5_seek 35 (.imul) 1 36 := ⟨by decide +kernel, rfl⟩
theorem eX5_seek_36 : DD cX5_seek 36 (.iload 7) 2 38 := ⟨by decide +kernel, rfl⟩
theorem eX5_seek_38 : DD cX5_seek 38 (.iadd) 1 39 := ⟨by decide +kernel, rfl⟩
theorem eX5_seek_39 : DD cX5_seek 39 (.laload) 1 40 := ⟨by decide +kernel, rfl⟩
theorem eX5_seek_40 : DD cX5_seek 40 (.lstore 8) 2 42 := ⟨by decide +kernel, rfl⟩
theorem eX5_seek_42 : DD cX5_seek 42 (.lload 8) 2 44 := ⟨by decide +kernel, rfl⟩
theorem eX5_seek_44 : DD cX5_seek 44 (.aload_n 0) 1 45 := ⟨by decide +kernel, rfl⟩
theorem eX5_seek_45 : DD cX5_seek 45 (.getfield 15) 3 48 := ⟨by decide +kernel, rfl⟩
theorem eX5_seek_48 : DD cX5_seek 48 (.iload_n 1) 1 49 := ⟨by decide +kernel, rfl⟩
theorem eX5_seek_49 : DD cX5_seek 49 (.iconst 1) 1 50 := ⟨by decide +kernel, rfl⟩
theorem eX5_seek_50 : DD cX5_seek 50 (.isub) 1 51 := ⟨by decide +kernel, rfl⟩
theorem eX5_seek_51 : DD cX5_seek 51 (.bipush 17) 2 53 := ⟨by decide +kernel, rfl⟩
theorem eX5_seek_53 : DD cX5_seek 53 (.imul) 1 54 := ⟨by decide +kernel, rfl⟩
theorem eX5_seek_54 : DD cX5_seek 54 (.iload 7) 2 56 := ⟨by decide +kernel, rfl⟩
theorem eX5_seek_56 : DD cX5_seek 56 (.iadd) 1 57 := ⟨by decide +kernel, rfl⟩
theorem eX5_seek_57 : DD cX5_seek 57 (.laload) 1 58 := ⟨by decide +kernel, rfl⟩
theorem eX5_seek_58 : DD cX5_seek 58 (.ladd) 1 59 := ⟨by decide +kernel, rfl⟩
theorem eX5_seek_59 : DD cX5_seek 59 (.lstore 10) 2 61 := ⟨by decide +kernel, rfl⟩
theorem eX5_seek_61 : DD cX5_seek 61 (.aload_n 0) 1 62 := ⟨by decide +kernel, rfl⟩
theorem eX5_seek_62 : DD cX5_seek 62 (.dup) 1 63 := ⟨by decide +kernel, rfl⟩
theorem eX5_seek_63 : DD cX5_seek 63 (.getfield 26) 3 66 := ⟨by decide +kernel, rfl⟩
theorem eX5_seek_66 : DD cX5_seek 66 (.iconst 1) 1 67 := ⟨by decide +kernel, rfl⟩
theorem eX5_seek_67 : DD cX5_seek 67 (.iadd) 1 68 := ⟨by decide +kernel, rfl⟩
theorem eX5_seek_68 : DD cX5_seek 68 (.putfield 26) 3 71 := ⟨by decide +kernel, rfl⟩
theorem eX5_seek_71 : DD cX5_seek 71 (.lload 10) 2 73 := ⟨by decide +kernel, rfl⟩
theorem eX5_seek_73 : DD cX5_seek 73 (.lload 4) 2 75 := ⟨by decide +kernel, rfl⟩
theorem eX5_seek_75 : DD cX5_seek 75 (.lcmp) 1 76 := ⟨by decide +kernel, rfl⟩
theorem eX5_seek_76 : DB cX5_seek 76 (.ifCond .ge 11) (11) 79 87 := ⟨by decide +kernel, rfl, by decide⟩
theorem eX5_seek_79 : DD cX5_seek 79 (.lload 10) 2 81 := ⟨by decide +kernel, rfl⟩
theorem eX5_seek_81 : DD cX5_seek 81 (.lstore 4) 2 83 := ⟨by decide +kernel, rfl⟩
theorem eX5_seek_83 : DD cX5_seek 83 (.iload 7) 2 85 := ⟨by decide +kernel, rfl⟩
theorem eX5_seek_85 : DD cX5_seek 85 (.istore 6) 2 87 := ⟨by decide +kernel, rfl⟩
theorem eX5_seek_87 : DD cX5_seek 87 (.lload 8) 2 89 := ⟨by decide +kernel, rfl⟩
theorem eX5_seek_89 : DD cX5_seek 89 (.lload 4) 2 91 := ⟨by decide +kernel, rfl⟩
theorem eX5_seek_91 : DD cX5_seek 91 (.lcmp) 1 92 := ⟨by decide +kernel, rfl⟩
theorem eX5_seek_92 : DB cX5_seek 92 (.ifCond .lt 6) (6) 95 98 := ⟨by decide +kernel, rfl, by decide⟩
theorem eX5_seek_95 : DB cX5_seek 95 (.goto 9) (9) 98 104 := ⟨by decide +kernel, rfl, by decide⟩
theorem eX5_seek_98 : DD cX5_seek 98 (.iinc 7 1) 3 101 := ⟨by decide +kernel, rfl⟩
theorem eX5_seek_101 : DB cX5_seek 101 (.goto (-79)) (-79) 104 22 := ⟨by decide +kernel, rfl, by decide⟩
theorem eX5_seek_104 : DD cX5_seek 104 (.aload_n 0) 1 105 := ⟨by decide +kernel, rfl⟩
theorem eX5_seek_105 : DD cX5_seek 105 (.dup) 1 106 := ⟨by decide +kernel, rfl⟩
theorem eX5_seek_106 : DD cX5_seek 106 (.getfield 30) 3 109 := ⟨by decide +kernel, rfl⟩
theorem eX5_seek_109 : DD cX5_seek 109 (.iload_n 3) 1 110 := ⟨by decide +kernel, rfl⟩
theorem eX5_seek_110 : DD cX5_seek 110 (.iload_n 2) 1 111 := ⟨by decide +kernel, rfl⟩
theorem eX5_seek_111 : DD cX5_seek 111 (.isub) 1 112 := ⟨by decide +kernel, rfl⟩
theorem eX5_seek_112 : DD cX5_seek 112 (.iadd) 1 113 := ⟨by decide +kernel, rfl⟩
theorem eX5_seek_113 : DD cX5_seek 113 (.putfield 30) 3 116 := ⟨by decide +kernel, rfl⟩
theorem eX5_seek_116 : DD cX5_seek 116 (.aload_n 0) 1 117 := ⟨by decide +kernel, rfl⟩
theorem eX5_seek_117 : DD cX5_seek 117 (.getfield 15) 3 120 := ⟨by decide +kernel, rfl⟩
theorem eX5_seek_120 : DD cX5_seek 120 (.iload_n 1) 1 121 := ⟨by decide +kernel, rfl⟩
theorem eX5_seek_121 : DD cX5_seek 121 (.bipush 17) 2 123 := ⟨by decide +kernel, rfl⟩
theorem eX5_seek_123 : DD cX5_seek 123 (.imul) 1 124 := ⟨by decide +kernel, rfl⟩
theorem eX5_seek_124 : DD cX5_seek 124 (.iload_n 2) 1 125 := ⟨by decide +kernel, rfl⟩
theorem eX5_seek_125 : DD cX5_seek 125 (.iadd) 1 126 := ⟨by decide +kernel, rfl⟩
theorem eX5_seek_126 : DD cX5_seek 126 (.lload 4) 2 128 := ⟨by decide +kernel, rfl⟩
theorem eX5_seek_128 : DD cX5_seek 128 (.lastore) 1 129 := ⟨by decide +kernel, rfl⟩
theorem eX5_seek_129 : DD cX5_seek 129 (.aload_n 0) 1 130 := ⟨by decide +kernel, rfl⟩
theorem eX5_seek_130 : DD cX5_seek 130 (.getfield 18) 3 133 := ⟨by decide +kernel, rfl⟩
theorem eX5_seek_133 : DD cX5_seek 133 (.iload_n 1) 1 134 := ⟨by decide +kernel, rfl⟩
theorem eX5_seek_134 : DD cX5_seek 134 (.bipush 17) 2 136 := ⟨by decide +kernel, rfl⟩
theorem eX5_seek_136 : DD cX5_seek 136 (.imul) 1 137 := ⟨by decide +kernel, rfl⟩
theorem eX5_seek_137 : DD cX5_seek 137 (.iload_n 2) 1 138 := ⟨by decide +kernel, rfl⟩
theorem eX5_seek_138 : DD cX5_seek 138 (.iadd) 1 139 := ⟨by decide +kernel, rfl⟩
theorem eX5_seek_139 : DD cX5_seek 139 (.iload 6) 2 141 := ⟨by decide +kernel, rfl⟩
theorem eX5_seek_141 : DD cX5_seek 141 (.iastore) 1 142 := ⟨by decide +kernel, rfl⟩
theorem eX5_seek_142 : DD cX5_seek 142 (.return_) 1 143 := ⟨by decide +kernel, rfl⟩
def F_X5_seek_104 (x1 : Int32) (x2 : Int32) (x3 : Int32) (l4 : Int64) (x6 : Int32) (μ : Mem) : Option (Unit × Mem) :=
  lb (wI μ 99 5 ((rI μ 99 5) + (x3 - x2))) (fun μ_1 => gq (inB ((x1 * (17 : Int32)) + x2) 289) (lb (wL μ_1 101 (nx ((x1 * (17 : Int32)) + x2)) l4) (fun μ_2 => gq (inB ((x1 * (17 : Int32)) + x2) 289) (lb (wI μ_2 102 (nx ((x1 * (17 : Int32)) + x2)) x6) (fun μ_3 => some ((), μ_3))))))
set_option maxHeartbeats 4000000 in
theorem j_X5_seek_104 {C : Cx} (hC : Ok C cX5_seek 12 RX5 (rmF 0 0)) (hr : (cT C).sig.returnType = none) (x1 : Int32) (x2 : Int32) (x3 : Int32) (l4 : Int64) (x6 : Int32) (μ : Mem) : J C (KV C) μ 104 [(0, .ref (xad (cX C) 99)), (1, .int x1), (2, .int x2), (3, .int x3), (4, .long l4), (6, .int x6)] [] (F_X5_seek_104  x1 x2 x3 l4 x6 μ) := by
  unfold F_X5_seek_104
  refine J.aload_n (j := 0) hC eX5_seek_104 rfl ?_
  refine J.dup hC eX5_seek_105 rfl ?_
  refine gf_X5_30 hC eX5_seek_106 kk_99 ?_
  refine J.iload_n (j := 3) hC eX5_seek_109 rfl ?_
  refine J.iload_n (j := 2) hC eX5_seek_110 rfl ?_
  refine J.isub hC eX5_seek_111 ?_
  refine J.iadd hC eX5_seek_112 ?_
  refine pf_X5_30 hC eX5_seek_113 kk_99 (fun μ_1 => ?_)
  refine J.aload_n (j := 0) hC eX5_seek_116 rfl ?_
  refine gf_X5_15 (q := 101) hC eX5_seek_117 kk_99 rfl ?_
  refine J.iload_n (j := 1) hC eX5_seek_120 rfl ?_
  refine J.bipush hC eX5_seek_121 cb_17 ?_
  refine J.imul hC eX5_seek_123 ?_
  refine J.iload_n (j := 2) hC eX5_seek_124 rfl ?_
  refine J.iadd hC eX5_seek_125 ?_
  refine J.lload (j := 4) hC eX5_seek_126 rfl ?_
  refine J.last il_289 hC eX5_seek_128 kk_101 (fun μ_2 => ?_)
  refine J.aload_n (j := 0) hC eX5_seek_129 rfl ?_
  refine gf_X5_18 (q := 102) hC eX5_seek_130 kk_99 rfl ?_
  refine J.iload_n (j := 1) hC eX5_seek_133 rfl ?_
  refine J.bipush hC eX5_seek_134 cb_17 ?_
  refine J.imul hC eX5_seek_136 ?_
  refine J.iload_n (j := 2) hC eX5_seek_137 rfl ?_
  refine J.iadd hC eX5_seek_138 ?_
  refine J.iload (j := 5) hC eX5_seek_139 rfl ?_
  refine J.iast ik_289 hC eX5_seek_141 kk_102 (fun μ_3 => ?_)
  exact J.vret hC hr eX5_seek_142
def F_X5_seek_87 (kc_22 : Int32 → Int32 → Int32 → Int64 → Int32 → Int32 → Mem → Option (Unit × Mem)) (x1 : Int32) (x2 : Int32) (x3 : Int32) (l4 : Int64) (x6 : Int32) (x7 : Int32) (l8 : Int64) (μ : Mem) : Option (Unit × Mem) :=
  if (lg_cmp l8 l4) < 0 then lb (x7 + (1 : Int32)) (fun x7_1 => kc_22 x1 x2 x3 l4 x6 x7_1 μ) else F_X5_seek_104  x1 x2 x3 l4 x6 μ
set_option maxHeartbeats 4000000 in
theorem j_X5_seek_87 {C : Cx} (hC : Ok C cX5_seek 12 RX5 (rmF 0 0)) (hr : (cT C).sig.returnType = none) (kc_22 : Int32 → Int32 → Int32 → Int64 → Int32 → Int32 → Mem → Option (Unit × Mem)) (hk_22 : ∀ (x1 : Int32) (x2 : Int32) (x3 : Int32) (l4 : Int64) (x6 : Int32) (x7 : Int32) (μ : Mem), J C (KV C) μ 22 [(0, .ref (xad (cX C) 99)), (1, .int x1), (2, .int x2), (3, .int x3), (4, .long l4), (6, .int x6), (7, .int x7)] [] (kc_22 x1 x2 x3 l4 x6 x7 μ)) (x1 : Int32) (x2 : Int32) (x3 : Int32) (l4 : Int64) (x6 : Int32) (x7 : Int32) (l8 : Int64) (μ : Mem) : J C (KV C) μ 87 [(0, .ref (xad (cX C) 99)), (1, .int x1), (2, .int x2), (3, .int x3), (4, .long l4), (6, .int x6), (7, .int x7), (8, .long l8)] [] (F_X5_seek_87 kc_22 x1 x2 x3 l4 x6 x7 l8 μ) := by
  unfold F_X5_seek_87
  refine J.lload (j := 7) hC eX5_seek_87 rfl ?_
  refine J.lload (j := 4) hC eX5_seek_89 rfl ?_
  refine J.lcmp hC eX5_seek_91 ?_
  refine J.if_lt hC eX5_seek_92 (fun _ => ?_) (fun _ => ?_)
  · refine J.iinc (j := 6) (fun x7_1 => [(7, .int x7_1), (0, .ref (xad (cX C) 99)), (1, .int x1), (2, .int x2), (3, .int x3), (4, .long l4), (6, .int x6), (8, .long l8)]) hC eX5_seek_98 rfl ci_1 (by decide) (fun _ => rfl) (fun x7_1 => ?_)
    refine J.goto hC eX5_seek_101 ?_
    refine J.sub [1, 2, 3, 4, 5, 6, 0] rfl ?_
    exact hk_22 x1 x2 x3 l4 x6 x7_1 μ
  · refine J.goto hC eX5_seek_95 ?_
    refine J.sub [0, 1, 2, 3, 4, 5] rfl ?_
    exact j_X5_seek_104 hC hr  x1 x2 x3 l4 x6 μ
def L_X5_seek_22 : Nat → Int32 → Int32 → Int32 → Int64 → Int32 → Int32 → Mem → Option (Unit × Mem)
  | 0, _, _, _, _, _, _, _ => none
  | n + 1, x1, x2, x3, l4, x6, x7, μ => if x3 < x7 then F_X5_seek_104  x1 x2 x3 l4 x6 μ else gq (inB ((x2 * (17 : Int32)) + x7) 289) (lb (rL μ 100 (nx ((x2 * (17 : Int32)) + x7))) (fun l8_1 => gq (inB (((x1 - (1 : Int32)) * (17 : Int32)) + x7) 289) (lb (l8_1 + (rL μ 101 (nx (((x1 - (1 : Int32)) * (17 : Int32)) + x7)))) (fun l10_2 => lb (wI μ 99 4 ((rI μ 99 4) + (1 : Int32))) (fun μ_3 => if 0 ≤ (lg_cmp l10_2 l4) then F_X5_seek_87 (L_X5_seek_22  n) x1 x2 x3 l4 x6 x7 l8_1 μ_3 else F_X5_seek_87 (L_X5_seek_22  n) x1 x2 x3 l10_2 x7 x7 l8_1 μ_3)))))
set_option maxHeartbeats 4000000 in
theorem j_X5_seek_22 {C : Cx} (hC : Ok C cX5_seek 12 RX5 (rmF 0 0)) (hr : (cT C).sig.returnType = none) : ∀ (n : Nat) (x1 : Int32) (x2 : Int32) (x3 : Int32) (l4 : Int64) (x6 : Int32) (x7 : Int32) (μ : Mem), J C (KV C) μ 22 [(0, .ref (xad (cX C) 99)), (1, .int x1), (2, .int x2), (3, .int x3), (4, .long l4), (6, .int x6), (7, .int x7)] [] (L_X5_seek_22  n x1 x2 x3 l4 x6 x7 μ) := by
  intro n
  induction n with
  | zero => intros; exact J.no
  | succ n ih =>
    intro x1 x2 x3 l4 x6 x7 μ
    rw [L_X5_seek_22]
    refine J.iload (j := 6) hC eX5_seek_22 rfl ?_
    refine J.iload_n (j := 3) hC eX5_seek_24 rfl ?_
    refine J.icmp_gt hC eX5_seek_25 (fun _ => ?_) (fun _ => ?_)
    · refine J.sub [0, 1, 2, 3, 4, 5] rfl ?_
      exact j_X5_seek_104 hC hr  x1 x2 x3 l4 x6 μ
    · refine J.aload_n (j := 0) hC eX5_seek_28 rfl ?_
      refine gf_X5_9 (q := 100) hC eX5_seek_29 kk_99 rfl ?_
      refine J.iload_n (j := 2) hC eX5_seek_32 rfl ?_
      refine J.bipush hC eX5_seek_33 cb_17 ?_
      refine J.imul hC eX5_seek_35 ?_
      refine J.iload (j := 6) hC eX5_seek_36 rfl ?_
      refine J.iadd hC eX5_seek_38 ?_
      refine J.lald il_289 hC eX5_seek_39 kk_100 ?_
      refine J.topl (fun l8_1 => ?_)
      refine J.lstore [(8, .long l8_1), (0, .ref (xad (cX C) 99)), (1, .int x1), (2, .int x2), (3, .int x3), (4, .long l4), (6, .int x6), (7, .int x7)] hC eX5_seek_40 (by decide) rfl ?_
      refine J.lload (j := 0) hC eX5_seek_42 rfl ?_
      refine J.aload_n (j := 1) hC eX5_seek_44 rfl ?_
      refine gf_X5_15 (q := 101) hC eX5_seek_45 kk_99 rfl ?_
      refine J.iload_n (j := 2) hC eX5_seek_48 rfl ?_
      refine J.iconst hC eX5_seek_49 ci_1 ?_
      refine J.isub hC eX5_seek_50 ?_
      refine J.bipush hC eX5_seek_51 cb_17 ?_
      refine J.imul hC eX5_seek_53 ?_
      refine J.iload (j := 7) hC eX5_seek_54 rfl ?_
      refine J.iadd hC eX5_seek_56 ?_
      refine J.lald il_289 hC eX5_seek_57 kk_101 ?_
      refine J.ladd hC eX5_seek_58 ?_
      refine J.topl (fun l10_2 => ?_)
      refine J.lstore [(10, .long l10_2), (8, .long l8_1), (0, .ref (xad (cX C) 99)), (1, .int x1), (2, .int x2), (3, .int x3), (4, .long l4), (6, .int x6), (7, .int x7)] hC eX5_seek_59 (by decide) rfl ?_
      refine J.aload_n (j := 2) hC eX5_seek_61 rfl ?_
      refine J.dup hC eX5_seek_62 rfl ?_
      refine gf_X5_26 hC eX5_seek_63 kk_99 ?_
      refine J.iconst hC eX5_seek_66 ci_1 ?_
      refine J.iadd hC eX5_seek_67 ?_
      refine pf_X5_26 hC eX5_seek_68 kk_99 (fun μ_3 => ?_)
      refine J.lload (j := 0) hC eX5_seek_71 rfl ?_
      refine J.lload (j := 6) hC eX5_seek_73 rfl ?_
      refine J.lcmp hC eX5_seek_75 ?_
      refine J.if_ge hC eX5_seek_76 (fun _ => ?_) (fun _ => ?_)
      · refine J.sub [2, 3, 4, 5, 6, 7, 8, 1] rfl ?_
        exact j_X5_seek_87 hC hr (L_X5_seek_22  n) ih x1 x2 x3 l4 x6 x7 l8_1 μ_3
      · refine J.lload (j := 0) hC eX5_seek_79 rfl ?_
        refine J.lstore [(4, .long l10_2), (10, .long l10_2), (8, .long l8_1), (0, .ref (xad (cX C) 99)), (1, .int x1), (2, .int x2), (3, .int x3), (6, .int x6), (7, .int x7)] hC eX5_seek_81 (by decide) rfl ?_
        refine J.iload (j := 8) hC eX5_seek_83 rfl ?_
        refine J.istore [(6, .int x7), (4, .long l10_2), (10, .long l10_2), (8, .long l8_1), (0, .ref (xad (cX C) 99)), (1, .int x1), (2, .int x2), (3, .int x3), (7, .int x7)] hC eX5_seek_85 (by decide) rfl ?_
        refine J.sub [4, 5, 6, 7, 1, 0, 8, 3] rfl ?_
        exact j_X5_seek_87 hC hr (L_X5_seek_22  n) ih x1 x2 x3 l10_2 x7 x7 l8_1 μ_3
def G_X5_seek (x1 : Int32) (x2 : Int32) (μ : Mem) : Option (Unit × Mem) :=
  lb (((rI μ 99 3) - x1) + (1 : Int32)) (fun x3_1 => lb (x2 + (1 : Int32)) (fun x7_2 => L_X5_seek_22  100000 x1 x2 x3_1 (9223372036854775807 : Int64) x3_1 x7_2 μ))
set_option maxHeartbeats 4000000 in
theorem c_X5_seek {X : Wd} (hX : WdOk X) (x1 : Int32) (x2 : Int32) (μ : Mem) : CtV X yX5_seek cX5_seek 12 none (rmF 0 0) [.ref (xad X 99), .int x1, .int x2] μ (G_X5_seek x1 x2 μ) := by
  refine CtV.of hX (plainFor_of_name (by decide)) (by exact Nat.le_of_ble_eq_true rfl) ?_
  intro C hCX hC hr
  subst hCX
  show J C (KV C) μ 0 [(0, .ref (xad (cX C) 99)), (1, .int x1), (2, .int x2)] [] _
  unfold G_X5_seek
  refine J.aload_n (j := 0) hC eX5_seek_0 rfl ?_
  refine gf_X5_33 hC eX5_seek_1 kk_99 ?_
  refine J.iload_n (j := 1) hC eX5_seek_4 rfl ?_
  refine J.isub hC eX5_seek_5 ?_
  refine J.iconst hC eX5_seek_6 ci_1 ?_
  refine J.iadd hC eX5_seek_7 ?_
  refine J.topi (fun x3_1 => ?_)
  refine J.istore_n [(3, .int x3_1), (0, .ref (xad (cX C) 99)), (1, .int x1), (2, .int x2)] hC eX5_seek_8 (by decide) rfl ?_
  refine J.ldc2 hC eX5_seek_9 mk_X5_50 ?_
  refine J.lstore [(4, .long (9223372036854775807 : Int64)), (3, .int x3_1), (0, .ref (xad (cX C) 99)), (1, .int x1), (2, .int x2)] hC eX5_seek_12 (by decide) rfl ?_
  refine J.iload_n (j := 1) hC eX5_seek_14 rfl ?_
  refine J.istore [(6, .int x3_1), (4, .long (9223372036854775807 : Int64)), (3, .int x3_1), (0, .ref (xad (cX C) 99)), (1, .int x1), (2, .int x2)] hC eX5_seek_15 (by decide) rfl ?_
  refine J.iload_n (j := 5) hC eX5_seek_17 rfl ?_
  refine J.iconst hC eX5_seek_18 ci_1 ?_
  refine J.iadd hC eX5_seek_19 ?_
  refine J.topi (fun x7_2 => ?_)
  refine J.istore [(7, .int x7_2), (6, .int x3_1), (4, .long (9223372036854775807 : Int64)), (3, .int x3_1), (0, .ref (xad (cX C) 99)), (1, .int x1), (2, .int x2)] hC eX5_seek_20 (by decide) rfl ?_
  refine J.sub [4, 5, 6, 3, 2, 1, 0] rfl ?_
  exact j_X5_seek_22 hC hr  100000 x1 x2 x3_1 (9223372036854775807 : Int64) x3_1 x7_2 μ
