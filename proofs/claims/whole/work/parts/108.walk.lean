-- X10_whyNoAdd
theorem eX10_whyNoAdd_0 : DD cX10_whyNoAdd 0 (.aload_n 0) 1 1 := ⟨by decide +kernel, rfl⟩
theorem eX10_whyNoAdd_1 : DD cX10_whyNoAdd 1 (.iload_n 1) 1 2 := ⟨by decide +kernel, rfl⟩
theorem eX10_whyNoAdd_2 : DD cX10_whyNoAdd 2 (.iload_n 2) 1 3 := ⟨by decide +kernel, rfl⟩
theorem eX10_whyNoAdd_3 : DD cX10_whyNoAdd 3 (.iload_n 3) 1 4 := ⟨by decide +kernel, rfl⟩
theorem eX10_whyNoAdd_4 : DD cX10_whyNoAdd 4 (.iload 4) 2 6 := ⟨by decide +kernel, rfl⟩
theorem eX10_whyNoAdd_6 : DD cX10_whyNoAdd 6 (.invokevirtual 263) 3 9 := ⟨by decide +kernel, rfl⟩
theorem eX10_whyNoAdd_9 : DD cX10_whyNoAdd 9 (.istore 5) 2 11 := ⟨by decide +kernel, rfl⟩
theorem eX10_whyNoAdd_11 : DD cX10_whyNoAdd 11 (.iload 5) 2 13 := ⟨by decide +kernel, rfl⟩
theorem eX10_whyNoAdd_13 : DD cX10_whyNoAdd 13 (.iconst (-1)) 1 14 := ⟨by decide +kernel, rfl⟩
theorem eX10_whyNoAdd_14 : DB cX10_whyNoAdd 14 (.if_icmp .ne 26) (26) 17 40 := ⟨by decide +kernel, rfl, by decide⟩
theorem eX10_whyNoAdd_17 : DD cX10_whyNoAdd 17 (.aload_n 0) 1 18 := ⟨by decide +kernel, rfl⟩
theorem eX10_whyNoAdd_18 : DD cX10_whyNoAdd 18 (.getfield 26) 3 21 := ⟨by decide +kernel, rfl⟩
theorem eX10_whyNoAdd_21 : DD cX10_whyNoAdd 21 (.getfield 143) 3 24 := ⟨by decide +kernel, rfl⟩
theorem eX10_whyNoAdd_24 : DD cX10_whyNoAdd 24 (.iload_n 1) 1 25 := ⟨by decide +kernel, rfl⟩
theorem eX10_whyNoAdd_25 : DD cX10_whyNoAdd 25 (.aaload) 1 26 := ⟨by decide +kernel, rfl⟩
theorem eX10_whyNoAdd_26 : DD cX10_whyNoAdd 26 (.getfield 152) 3 29 := ⟨by decide +kernel, rfl⟩
theorem eX10_whyNoAdd_29 : DD cX10_whyNoAdd 29 (.iload 4) 2 31 := ⟨by decide +kernel, rfl⟩
theorem eX10_whyNoAdd_31 : DD cX10_whyNoAdd 31 (.iadd) 1 32 := ⟨by decide +kernel, rfl⟩
theorem eX10_whyNoAdd_32 : DD cX10_whyNoAdd 32 (.sipush 999) 3 35 := ⟨by decide +kernel, rfl⟩
theorem eX10_whyNoAdd_35 : DB cX10_whyNoAdd 35 (.if_icmp .le 5) (5) 38 40 := ⟨by decide +kernel, rfl, by decide⟩
theorem eX10_whyNoAdd_38 : DD cX10_whyNoAdd 38 (.iconst 3) 1 39 := ⟨by decide +kernel, rfl⟩
theorem eX10_whyNoAdd_39 : DD cX10_whyNoAdd 39 (.ireturn) 1 40 := ⟨by decide +kernel, rfl⟩
theorem eX10_whyNoAdd_40 : DD cX10_whyNoAdd 40 (.iload 5) 2 42 := ⟨by decide +kernel, rfl⟩
theorem eX10_whyNoAdd_42 : DD cX10_whyNoAdd 42 (.ireturn) 1 43 := ⟨by decide +kernel, rfl⟩
def G_X10_whyNoAdd (x1 : Int32) (x2 : Int32) (x3 : Int32) (x4 : Int32) (μ : Mem) : Option (Int32 × Mem) :=
  bd (G_X10_whyNoRows x1 x2 x3 x4 μ) (fun r_2 μ_1 => if r_2 = (-1 : Int32) then gq (inB x1 3) (if ((rI μ_1 (shP 8 x1) 3) + x4) ≤ (999 : Int32) then some (r_2, μ_1) else some ((3 : Int32), μ_1)) else some (r_2, μ_1))
set_option maxHeartbeats 4000000 in
theorem c_X10_whyNoAdd {X : Wd} (hX : WdOk X) (x1 : Int32) (x2 : Int32) (x3 : Int32) (x4 : Int32) (μ : Mem) : CtI X yX10_whyNoAdd cX10_whyNoAdd 6 (some .int) (rmF 3 69) [.ref (xad X 0), .int x1, .int x2, .int x3, .int x4] μ (G_X10_whyNoAdd x1 x2 x3 x4 μ) := by
  refine CtI.of hX (plainFor_of_name (by decide)) (by exact Nat.le_of_ble_eq_true rfl) ?_
  intro C hCX hC hr
  subst hCX
  show J C (KI C) μ 0 [(0, .ref (xad (cX C) 0)), (1, .int x1), (2, .int x2), (3, .int x3), (4, .int x4)] [] _
  unfold G_X10_whyNoAdd
  refine J.aload_n (j := 0) hC eX10_whyNoAdd_0 rfl ?_
  refine J.iload_n (j := 1) hC eX10_whyNoAdd_1 rfl ?_
  refine J.iload_n (j := 2) hC eX10_whyNoAdd_2 rfl ?_
  refine J.iload_n (j := 3) hC eX10_whyNoAdd_3 rfl ?_
  refine J.iload (j := 4) hC eX10_whyNoAdd_4 rfl ?_
  refine J.callVI (st := []) hC eX10_whyNoAdd_6 kk_0 (by decide) rfl rfl ml_X10_263 mv_X10_whyNoRows (Rle_of (Nat.le_of_ble_eq_true rfl) (Nat.le_of_ble_eq_true rfl)) (c_X10_whyNoRows hC.X x1 x2 x3 x4 μ) rfl rfl (Nat.le_of_ble_eq_true rfl) (fun r_2 μ_1 => ?_)
  refine J.istore [(5, .int r_2), (0, .ref (xad (cX C) 0)), (1, .int x1), (2, .int x2), (3, .int x3), (4, .int x4)] hC eX10_whyNoAdd_9 (by decide) rfl ?_
  refine J.iload (j := 0) hC eX10_whyNoAdd_11 rfl ?_
  refine J.iconst hC eX10_whyNoAdd_13 ci_m1 ?_
  refine J.icmp_ne hC eX10_whyNoAdd_14 (fun _ => ?_) (fun _ => ?_)
  · refine J.aload_n (j := 1) hC eX10_whyNoAdd_17 rfl ?_
    refine gf_X10_26 (q := 7) hC eX10_whyNoAdd_18 kk_0 rfl ?_
    refine gf_X10_143 (q := 8) hC eX10_whyNoAdd_21 kk_7 rfl ?_
    refine J.iload_n (j := 2) hC eX10_whyNoAdd_24 rfl ?_
    refine J.aaldS hC eX10_whyNoAdd_25 kk_8 (fun hq_3 => ?_)
    refine gf_X10_152 hC eX10_whyNoAdd_26 hq_3 ?_
    refine J.iload (j := 5) hC eX10_whyNoAdd_29 rfl ?_
    refine J.iadd hC eX10_whyNoAdd_31 ?_
    refine J.sipush hC eX10_whyNoAdd_32 cs_999 ?_
    refine J.icmp_le hC eX10_whyNoAdd_35 (fun _ => ?_) (fun _ => ?_)
    · refine J.iload (j := 0) hC eX10_whyNoAdd_40 rfl ?_
      exact J.iret hC hr eX10_whyNoAdd_42
    · refine J.iconst hC eX10_whyNoAdd_38 ci_3 ?_
      exact J.iret hC hr eX10_whyNoAdd_39
  · refine J.iload (j := 0) hC eX10_whyNoAdd_40 rfl ?_
    exact J.iret hC hr eX10_whyNoAdd_42
-- X10_refuse
theorem eX10_refuse_0 : DD cX10_refuse 0 (.aload_n 0) 1 1 := ⟨by decide +kernel, rfl⟩
theorem eX10_refuse_1 : DD cX10_refuse 1 (.getfield 37) 3 4 := ⟨by decide +kernel, rfl⟩
theorem eX10_refuse_4 : DD cX10_refuse 4 (.iload_n 1) 1 5 := ⟨by decide +kernel, rfl⟩
theorem eX10_refuse_5 : DD cX10_refuse 5 (.dup2) 1 6 := ⟨by decide +kernel, rfl⟩
theorem eX10_refuse_6 : DD cX10_refuse 6 (.iaload) 1 7 := ⟨by decide +kernel, rfl⟩
theorem eX10_refuse_7 : DD cX10_refuse 7 (.iconst 1) 1 8 := ⟨by decide +kernel, rfl⟩
theorem eX10_refuse_8 : DD cX10_refuse 8 (.iadd) 1 9 := ⟨by decide +kernel, rfl⟩
theorem eX10_refuse_9 : DD cX10_refuse 9 (.iastore) 1 10 := ⟨by decide +kernel, rfl⟩
theorem eX10_refuse_10 : DD cX10_refuse 10 (.iconst (-1)) 1 11 := ⟨by decide +kernel, rfl⟩
theorem eX10_refuse_11 : DD cX10_refuse 11 (.ireturn) 1 12 := ⟨by decide +kernel, rfl⟩
def G_X10_refuse (x1 : Int32) (μ : Mem) : Option (Int32 × Mem) :=
  gq (inB x1 5) (gq (inB x1 5) (lb (wI μ 64 (nx x1) ((rI μ 64 (nx x1)) + (1 : Int32))) (fun μ_1 => some ((-1 : Int32), μ_1))))
set_option maxHeartbeats 4000000 in
theorem c_X10_refuse {X : Wd} (hX : WdOk X) (x1 : Int32) (μ : Mem) : CtI X yX10_refuse cX10_refuse 2 (some .int) (rmF 0 0) [.ref (xad X 0), .int x1] μ (G_X10_refuse x1 μ) := by
  refine CtI.of hX (plainFor_of_name (by decide)) (by exact Nat.le_of_ble_eq_true rfl) ?_
  intro C hCX hC hr
  subst hCX
  show J C (KI C) μ 0 [(0, .ref (xad (cX C) 0)), (1, .int x1)] [] _
  unfold G_X10_refuse
  refine J.aload_n (j := 0) hC eX10_refuse_0 rfl ?_
  refine gf_X10_37 (q := 64) hC eX10_refuse_1 kk_0 rfl ?_
  refine J.iload_n (j := 1) hC eX10_refuse_4 rfl ?_
  refine J.dup2 hC eX10_refuse_5 rfl rfl ?_
  refine J.iald ik_5 hC eX10_refuse_6 kk_64 ?_
  refine J.iconst hC eX10_refuse_7 ci_1 ?_
  refine J.iadd hC eX10_refuse_8 ?_
  refine J.iast ik_5 hC eX10_refuse_9 kk_64 (fun μ_1 => ?_)
  refine J.iconst hC eX10_refuse_10 ci_m1 ?_
  exact J.iret hC hr eX10_refuse_11
-- X10_doChange
theorem eX10_doChange_0 : DD cX10_doChange 0 (.aload_n 0) 1 1 := ⟨by decide +kernel, rfl⟩
theorem eX10_doChange_1 : DD cX10_doChange 1 (.getfield 44) 3 4 := ⟨by decide +kernel, rfl⟩
theorem eX10_doChange_4 : DD cX10_doChange 4 (.aload_n 0) 1 5 := ⟨by decide +kernel, rfl⟩
theorem eX10_doChange_5 : DD cX10_doChange 5 (.getfield 26) 3 8 := ⟨by decide +kernel, rfl⟩
theorem eX10_doChange_8 : DD cX10_doChange 8 (.iload_n 1) 1 9 := ⟨by decide +kernel, rfl⟩
theorem eX10_doChange_9 : DD cX10_doChange 9 (.invokevirtual 235) 3 12 := ⟨by decide +kernel, rfl⟩
theorem eX10_doChange_12 : DD cX10_doChange 12 (.aload_n 0) 1 13 := ⟨by decide +kernel, rfl⟩
theorem eX10_doChange_13 : DD cX10_doChange 13 (.getfield 44) 3 16 := ⟨by decide +kernel, rfl⟩
theorem eX10_doChange_16 : DD cX10_doChange 16 (.iload_n 2) 1 17 := ⟨by decide +kernel, rfl⟩
theorem eX10_doChange_17 : DD cX10_doChange 17 (.iload_n 3) 1 18 := ⟨by decide +kernel, rfl⟩
theorem eX10_doChange_18 : DD cX10_doChange 18 (.iload 4) 2 20 := ⟨by decide +kernel, rfl⟩
theorem eX10_doChange_20 : DD cX10_doChange 20 (.invokevirtual 239) 3 23 := ⟨by decide +kernel, rfl⟩
theorem eX10_doChange_23 : DD cX10_doChange 23 (.aload_n 0) 1 24 := ⟨by decide +kernel, rfl⟩
theorem eX10_doChange_24 : DD cX10_doChange 24 (.getfield 26) 3 27 := ⟨by decide +kernel, rfl⟩
theorem eX10_doChange_27 : DD cX10_doChange 27 (.aload_n 0) 1 28 := ⟨by decide +kernel, rfl⟩
theorem eX10_doChange_28 : DD cX10_doChange 28 (.getfield 26) 3 31 := ⟨by decide +kernel, rfl⟩
theorem eX10_doChange_31 : DD cX10_doChange 31 (.getfield 143) 3 34 := ⟨by decide +kernel, rfl⟩
theorem eX10_doChange_34 : DD cX10_doChange 34 (.iload_n 1) 1 35 := ⟨by decide +kernel, rfl⟩
theorem eX10_doChange_35 : DD cX10_doChange 35 (.aaload) 1 36 := ⟨by decide +kernel, rfl⟩
theorem eX10_doChange_36 : DD cX10_doChange 36 (.iload_n 2) 1 37 := ⟨by decide +kernel, rfl⟩
theorem eX10_doChange_37 : DD cX10_doChange 37 (.iload_n 3) 1 38 := ⟨by decide +kernel, rfl⟩
theorem eX10_doChange_38 : DD cX10_doChange 38 (.iload 4) 2 40 := ⟨by decide +kernel, rfl⟩
theorem eX10_doChange_40 : DD cX10_doChange 40 (.aload_n 0) 1 41 := ⟨by decide +kernel, rfl⟩
theorem eX10_doChange_41 : DD cX10_doChange 41 (.getfield 57) 3 44 := ⟨by decide +kernel, rfl⟩
theorem eX10_doChange_44 : DD cX10_doChange 44 (.invokevirtual 243) 3 47 := ⟨by decide +kernel, rfl⟩
theorem eX10_doChange_47 : DD cX10_doChange 47 (.aload_n 0) 1 48 := ⟨by decide +kernel, rfl⟩
theorem eX10_doChange_48 : DD cX10_doChange 48 (.getfield 26) 3 51 := ⟨by decide +kernel, rfl⟩
theorem eX10_doChange_51 : DD cX10_doChange 51 (.getfield 247) 3 54 := ⟨by decide +kernel, rfl⟩
theorem eX10_doChange_54 : DD cX10_doChange 54 (.iload 4) 2 56 := ⟨by decide +kernel, rfl⟩
theorem eX10_doChange_56 : DB cX10_doChange 56 (.ifCond .le 7) (7) 59 63 := ⟨by decide +kernel, rfl, by decide⟩
theorem eX10_doChange_59 : DD cX10_doChange 59 (.iconst 0) 1 60 := ⟨by decide +kernel, rfl⟩
theorem eX10_doChange_60 : DB cX10_doChange 60 (.goto 4) (4) 63 64 := ⟨by decide +kernel, rfl, by decide⟩
theorem eX10_doChange_63 : DD cX10_doChange 63 (.iconst 1) 1 64 := ⟨by decide +kernel, rfl⟩
theorem eX10_doChange_64 : DD cX10_doChange 64 (.iload_n 1) 1 65 := ⟨by decide +kernel, rfl⟩
theorem eX10_doChange_65 : DD cX10_doChange 65 (.iload 4) 2 67 := ⟨by decide +kernel, rfl⟩
theorem eX10_doChange_67 : DD cX10_doChange 67 (.invokestatic 266) 3 70 := ⟨by decide +kernel, rfl⟩
theorem eX10_doChange_70 : DD cX10_doChange 70 (.invokevirtual 251) 3 73 := ⟨by decide +kernel, rfl⟩
theorem eX10_doChange_73 : DD cX10_doChange 73 (.return_) 1 74 := ⟨by decide +kernel, rfl⟩
def F_X10_doChange_64 (x1 : Int32) (x4 : Int32) (ps0 : Nat) (xs1 : Int32) (μ : Mem) : Option (Unit × Mem) :=
  bd (G_X3_note ps0 xs1 x1 (iabs x4) μ) (fun r_2 μ_1 => some ((), μ_1))
set_option maxHeartbeats 4000000 in
theorem j_X10_doChange_64 {C : Cx} (hC : Ok C cX10_doChange 5 RX10 (rmF 4 107)) (hr : (cT C).sig.returnType = none) (x1 : Int32) (x4 : Int32) (ps0 : Nat) (hs0 : kd ps0 = 3) (xs1 : Int32) (μ : Mem) : J C (KV C) μ 64 [(1, .int x1), (4, .int x4)] [.int xs1, .ref (xad (cX C) ps0)] (F_X10_doChange_64  x1 x4 ps0 xs1 μ) := by
  unfold F_X10_doChange_64
  refine J.iload_n (j := 0) hC eX10_doChange_64 rfl ?_
  refine J.iload (j := 1) hC eX10_doChange_65 rfl ?_
  refine J.mabs hC eX10_doChange_67 ml_X10_266 w_sabs w_im w_cabs (Nat.le_of_ble_eq_true rfl) (Nat.le_of_ble_eq_true rfl) ?_
  refine J.callVV (st := []) hC eX10_doChange_70 hs0 (by decide) rfl rfl ml_X10_251 mv_X3_note (Rle_of (Nat.le_of_ble_eq_true rfl) (Nat.le_of_ble_eq_true rfl)) (c_X3_note hC.X ps0 hs0 xs1 x1 (iabs x4) μ) rfl rfl (Nat.le_of_ble_eq_true rfl) (fun r_2 μ_1 => ?_)
  exact J.vret hC hr eX10_doChange_73
def G_X10_doChange (x1 : Int32) (x2 : Int32) (x3 : Int32) (x4 : Int32) (μ : Mem) : Option (Unit × Mem) :=
  bd (G_X6_open 7 x1 μ) (fun r_2 μ_1 => bd (G_X6_noteRows x2 x3 x4 μ_1) (fun r_4 μ_3 => gq (inB x1 3) (bd (G_X0_changeRows 7 (shP 8 x1) x2 x3 x4 μ_3) (fun r_7 μ_6 => if x4 ≤ 0 then F_X10_doChange_64  x1 x4 36 (1 : Int32) μ_6 else F_X10_doChange_64  x1 x4 36 (0 : Int32) μ_6))))
set_option maxHeartbeats 4000000 in
theorem c_X10_doChange {X : Wd} (hX : WdOk X) (x1 : Int32) (x2 : Int32) (x3 : Int32) (x4 : Int32) (μ : Mem) : CtV X yX10_doChange cX10_doChange 5 none (rmF 4 107) [.ref (xad X 0), .int x1, .int x2, .int x3, .int x4] μ (G_X10_doChange x1 x2 x3 x4 μ) := by
  refine CtV.of hX (plainFor_of_name (by decide)) (by exact Nat.le_of_ble_eq_true rfl) ?_
  intro C hCX hC hr
  subst hCX
  show J C (KV C) μ 0 [(0, .ref (xad (cX C) 0)), (1, .int x1), (2, .int x2), (3, .int x3), (4, .int x4)] [] _
  unfold G_X10_doChange
  refine J.aload_n (j := 0) hC eX10_doChange_0 rfl ?_
  refine gf_X10_44 (q := 65) hC eX10_doChange_1 kk_0 rfl ?_
  refine J.aload_n (j := 0) hC eX10_doChange_4 rfl ?_
  refine gf_X10_26 (q := 7) hC eX10_doChange_5 kk_0 rfl ?_
  refine J.iload_n (j := 1) hC eX10_doChange_8 rfl ?_
  refine J.callVV (st := []) hC eX10_doChange_9 kk_65 (by decide) rfl rfl ml_X10_235 mv_X6_open (Rle_of (Nat.le_of_ble_eq_true rfl) (Nat.le_of_ble_eq_true rfl)) (c_X6_open hC.X 7 kk_7 x1 μ) rfl rfl (Nat.le_of_ble_eq_true rfl) (fun r_2 μ_1 => ?_)
  refine J.aload_n (j := 0) hC eX10_doChange_12 rfl ?_
  refine gf_X10_44 (q := 65) hC eX10_doChange_13 kk_0 rfl ?_
  refine J.iload_n (j := 2) hC eX10_doChange_16 rfl ?_
  refine J.iload_n (j := 3) hC eX10_doChange_17 rfl ?_
  refine J.iload (j := 4) hC eX10_doChange_18 rfl ?_
  refine J.callVV (st := []) hC eX10_doChange_20 kk_65 (by decide) rfl rfl ml_X10_239 mv_X6_noteRows (Rle_of (Nat.le_of_ble_eq_true rfl) (Nat.le_of_ble_eq_true rfl)) (c_X6_noteRows hC.X x2 x3 x4 μ_1) rfl rfl (Nat.le_of_ble_eq_true rfl) (fun r_4 μ_3 => ?_)
  refine J.aload_n (j := 0) hC eX10_doChange_23 rfl ?_
  refine gf_X10_26 (q := 7) hC eX10_doChange_24 kk_0 rfl ?_
  refine J.aload_n (j := 0) hC eX10_doChange_27 rfl ?_
  refine gf_X10_26 (q := 7) hC eX10_doChange_28 kk_0 rfl ?_
  refine gf_X10_143 (q := 8) hC eX10_doChange_31 kk_7 rfl ?_
  refine J.iload_n (j := 1) hC eX10_doChange_34 rfl ?_
  refine J.aaldS hC eX10_doChange_35 kk_8 (fun hq_5 => ?_)
  refine J.iload_n (j := 2) hC eX10_doChange_36 rfl ?_
  refine J.iload_n (j := 3) hC eX10_doChange_37 rfl ?_
  refine J.iload (j := 4) hC eX10_doChange_38 rfl ?_
  refine J.aload_n (j := 0) hC eX10_doChange_40 rfl ?_
  refine gf_X10_57 (q := 99) hC eX10_doChange_41 kk_0 rfl ?_
  refine J.callVV (st := []) hC eX10_doChange_44 kk_7 (by decide) rfl rfl ml_X10_243 mv_X0_changeRows (Rle_of (Nat.le_of_ble_eq_true rfl) (Nat.le_of_ble_eq_true rfl)) (c_X0_changeRows hC.X 7 kk_7 (shP 8 x1) hq_5 x2 x3 x4 μ_3) rfl rfl (Nat.le_of_ble_eq_true rfl) (fun r_7 μ_6 => ?_)
  refine J.aload_n (j := 0) hC eX10_doChange_47 rfl ?_
  refine gf_X10_26 (q := 7) hC eX10_doChange_48 kk_0 rfl ?_
  refine gf_X10_247 (q := 36) hC eX10_doChange_51 kk_7 rfl ?_
  refine J.iload (j := 4) hC eX10_doChange_54 rfl ?_
  refine J.if_le hC eX10_doChange_56 (fun _ => ?_) (fun _ => ?_)
  · refine J.iconst hC eX10_doChange_63 ci_1 ?_
    refine J.sub [1, 4] rfl ?_
    exact j_X10_doChange_64 hC hr  x1 x4 36 kk_36 (1 : Int32) μ_6
  · refine J.iconst hC eX10_doChange_59 ci_0 ?_
    refine J.goto hC eX10_doChange_60 ?_
    refine J.sub [1, 4] rfl ?_
    exact j_X10_doChange_64 hC hr  x1 x4 36 kk_36 (0 : Int32) μ_6
-- X10_add
theorem eX10_add_0 : DD cX10_add 0 (.aload_n 0) 1 1 := ⟨by decide +kernel, rfl⟩
theorem eX10_add_1 : DD cX10_add 1 (.iload_n 1) 1 2 := ⟨by decide +kernel, rfl⟩
theorem eX10_add_2 : DD cX10_add 2 (.iload_n 2) 1 3 := ⟨by decide +kernel, rfl⟩
theorem eX10_add_3 : DD cX10_add 3 (.iload_n 3) 1 4 := ⟨by decide +kernel, rfl⟩
theorem eX10_add_4 : DD cX10_add 4 (.iload 4) 2 6 := ⟨by decide +kernel, rfl⟩
theorem eX10_add_6 : DD cX10_add 6 (.invokevirtual 221) 3 9 := ⟨by decide +kernel, rfl⟩
theorem eX10_add_9 : DD cX10_add 9 (.istore 5) 2 11 := ⟨by decide +kernel, rfl⟩
theorem eX10_add_11 : DD cX10_add 11 (.iload 5) 2 13 := ⟨by decide +kernel, rfl⟩
theorem eX10_add_13 : DD cX10_add 13 (.iconst (-1)) 1 14 := ⟨by decide +kernel, rfl⟩
theorem eX10_add_14 : DB cX10_add 14 (.if_icmp .eq 10) (10) 17 24 := ⟨by decide +kernel, rfl, by decide⟩
theorem eX10_add_17 : DD cX10_add 17 (.aload_n 0) 1 18 := ⟨by decide +kernel, rfl⟩
theorem eX10_add_18 : DD cX10_add 18 (.iload 5) 2 20 := ⟨by decide +kernel, rfl⟩
theorem eX10_add_20 : DD cX10_add 20 (.invokevirtual 225) 3 23 := ⟨by decide +kernel, rfl⟩
theorem eX10_add_23 : DD cX10_add 23 (.ireturn) 1 24 := ⟨by decide +kernel, rfl⟩
theorem eX10_add_24 : DD cX10_add 24 (.aload_n 0) 1 25 := ⟨by decide +kernel, rfl⟩
theorem eX10_add_25 : DD cX10_add 25 (.iload_n 1) 1 26 := ⟨by decide +kernel, rfl⟩
theorem eX10_add_26 : DD cX10_add 26 (.iload_n 2) 1 27 := ⟨by decide +kernel, rfl⟩
theorem eX10_add_27 : DD cX10_add 27 (.iload_n 3) 1 28 := ⟨by decide +kernel, rfl⟩
theorem eX10_add_28 : DD cX10_add 28 (.iload 4) 2 30 := ⟨by decide +kernel, rfl⟩
theorem eX10_add_30 : DD cX10_add 30 (.invokevirtual 228) 3 33 := ⟨by decide +kernel, rfl⟩
theorem eX10_add_33 : DD cX10_add 33 (.aload_n 0) 1 34 := ⟨by decide +kernel, rfl⟩
theorem eX10_add_34 : DD cX10_add 34 (.getfield 26) 3 37 := ⟨by decide +kernel, rfl⟩
theorem eX10_add_37 : DD cX10_add 37 (.getfield 143) 3 40 := ⟨by decide +kernel, rfl⟩
theorem eX10_add_40 : DD cX10_add 40 (.iload_n 1) 1 41 := ⟨by decide +kernel, rfl⟩
theorem eX10_add_41 : DD cX10_add 41 (.aaload) 1 42 := ⟨by decide +kernel, rfl⟩
theorem eX10_add_42 : DD cX10_add 42 (.getfield 152) 3 45 := ⟨by decide +kernel, rfl⟩
theorem eX10_add_45 : DD cX10_add 45 (.ireturn) 1 46 := ⟨by decide +kernel, rfl⟩
def G_X10_add (x1 : Int32) (x2 : Int32) (x3 : Int32) (x4 : Int32) (μ : Mem) : Option (Int32 × Mem) :=
  bd (G_X10_whyNoAdd x1 x2 x3 x4 μ) (fun r_2 μ_1 => if r_2 = (-1 : Int32) then bd (G_X10_doChange x1 x2 x3 x4 μ_1) (fun r_4 μ_3 => gq (inB x1 3) (some (rI μ_3 (shP 8 x1) 3, μ_3))) else bd (G_X10_refuse r_2 μ_1) (fun r_7 μ_6 => some (r_7, μ_6)))
set_option maxHeartbeats 4000000 in
theorem c_X10_add {X : Wd} (hX : WdOk X) (x1 : Int32) (x2 : Int32) (x3 : Int32) (x4 : Int32) (μ : Mem) : CtI X yX10_add cX10_add 6 (some .int) (rmF 5 131) [.ref (xad X 0), .int x1, .int x2, .int x3, .int x4] μ (G_X10_add x1 x2 x3 x4 μ) := by
  refine CtI.of hX (plainFor_of_name (by decide)) (by exact Nat.le_of_ble_eq_true rfl) ?_
  intro C hCX hC hr
  subst hCX
  show J C (KI C) μ 0 [(0, .ref (xad (cX C) 0)), (1, .int x1), (2, .int x2), (3, .int x3), (4, .int x4)] [] _
  unfold G_X10_add
  refine J.aload_n (j := 0) hC eX10_add_0 rfl ?_
  refine J.iload_n (j := 1) hC eX10_add_1 rfl ?_
  refine J.iload_n (j := 2) hC eX10_add_2 rfl ?_
  refine J.iload_n (j := 3) hC eX10_add_3 rfl ?_
  refine J.iload (j := 4) hC eX10_add_4 rfl ?_
  refine J.callVI (st := []) hC eX10_add_6 kk_0 (by decide) rfl rfl ml_X10_221 mv_X10_whyNoAdd (Rle_of (Nat.le_of_ble_eq_true rfl) (Nat.le_of_ble_eq_true rfl)) (c_X10_whyNoAdd hC.X x1 x2 x3 x4 μ) rfl rfl (Nat.le_of_ble_eq_true rfl) (fun r_2 μ_1 => ?_)
  refine J.istore [(5, .int r_2), (0, .ref (xad (cX C) 0)), (1, .int x1), (2, .int x2), (3, .int x3), (4, .int x4)] hC eX10_add_9 (by decide) rfl ?_
  refine J.iload (j := 0) hC eX10_add_11 rfl ?_
  refine J.iconst hC eX10_add_13 ci_m1 ?_
  refine J.icmp_eq hC eX10_add_14 (fun _ => ?_) (fun _ => ?_)
  · refine J.aload_n (j := 1) hC eX10_add_24 rfl ?_
    refine J.iload_n (j := 2) hC eX10_add_25 rfl ?_
    refine J.iload_n (j := 3) hC eX10_add_26 rfl ?_
    refine J.iload_n (j := 4) hC eX10_add_27 rfl ?_
    refine J.iload (j := 5) hC eX10_add_28 rfl ?_
    refine J.callVV (st := []) hC eX10_add_30 kk_0 (by decide) rfl rfl ml_X10_228 mv_X10_doChange (Rle_of (Nat.le_of_ble_eq_true rfl) (Nat.le_of_ble_eq_true rfl)) (c_X10_doChange hC.X x1 x2 x3 x4 μ_1) rfl rfl (Nat.le_of_ble_eq_true rfl) (fun r_4 μ_3 => ?_)
    refine J.aload_n (j := 1) hC eX10_add_33 rfl ?_
    refine gf_X10_26 (q := 7) hC eX10_add_34 kk_0 rfl ?_
    refine gf_X10_143 (q := 8) hC eX10_add_37 kk_7 rfl ?_
    refine J.iload_n (j := 2) hC eX10_add_40 rfl ?_
    refine J.aaldS hC eX10_add_41 kk_8 (fun hq_5 => ?_)
    refine gf_X10_152 hC eX10_add_42 hq_5 ?_
    exact J.iret hC hr eX10_add_45
  · refine J.aload_n (j := 1) hC eX10_add_17 rfl ?_
    refine J.iload (j := 0) hC eX10_add_18 rfl ?_
    refine J.callVI (st := []) hC eX10_add_20 kk_0 (by decide) rfl rfl ml_X10_225 mv_X10_refuse (Rle_of (Nat.le_of_ble_eq_true rfl) (Nat.le_of_ble_eq_true rfl)) (c_X10_refuse hC.X r_2 μ_1) rfl rfl (Nat.le_of_ble_eq_true rfl) (fun r_7 μ_6 => ?_)
    exact J.iret hC hr eX10_add_23
-- X10_whyNoDrop
theorem eX10_whyNoDrop_0 : DD cX10_whyNoDrop 0 (.aload_n 0) 1 1 := ⟨by decide +kernel, rfl⟩
theorem eX10_whyNoDrop_1 : DD cX10_whyNoDrop 1 (.iload_n 1) 1 2 := ⟨by decide +kernel, rfl⟩
theorem eX10_whyNoDrop_2 : DD cX10_whyNoDrop 2 (.iload_n 2) 1 3 := ⟨by decide +kernel, rfl⟩
theorem eX10_whyNoDrop_3 : DD cX10_whyNoDrop 3 (.iload_n 3) 1 4 := ⟨by decide +kernel, rfl⟩
theorem eX10_whyNoDrop_4 : DD cX10_whyNoDrop 4 (.iload 4) 2 6 := ⟨by decide +kernel, rfl⟩
theorem eX10_whyNoDrop_6 : DD cX10_whyNoDrop 6 (.invokevirtual 263) 3 9 := ⟨by decide +kernel, rfl⟩
theorem eX10_whyNoDrop_9 : DD cX10_whyNoDrop 9 (.istore 5) 2 11 := ⟨by decide +kernel, rfl⟩
theorem eX10_whyNoDrop_11 : DD cX10_whyNoDrop 11 (.iload 5) 2 13 := ⟨by decide +kernel, rfl⟩
theorem eX10_whyNoDrop_13 : DD cX10_whyNoDrop 13 (.iconst (-1)) 1 14 := ⟨by decide +kernel, rfl⟩
theorem eX10_whyNoDrop_14 : DB cX10_whyNoDrop 14 (.if_icmp .ne 24) (24) 17 38 := ⟨by decide +kernel, rfl, by decide⟩
theorem eX10_whyNoDrop_17 : DD cX10_whyNoDrop 17 (.aload_n 0) 1 18 := ⟨by decide +kernel, rfl⟩
theorem eX10_whyNoDrop_18 : DD cX10_whyNoDrop 18 (.getfield 26) 3 21 := ⟨by decide +kernel, rfl⟩
theorem eX10_whyNoDrop_21 : DD cX10_whyNoDrop 21 (.getfield 143) 3 24 := ⟨by decide +kernel, rfl⟩
theorem eX10_whyNoDrop_24 : DD cX10_whyNoDrop 24 (.iload_n 1) 1 25 := ⟨by decide +kernel, rfl⟩
theorem eX10_whyNoDrop_25 : DD cX10_whyNoDrop 25 (.aaload) 1 26 := ⟨by decide +kernel, rfl⟩
theorem eX10_whyNoDrop_26 : DD cX10_whyNoDrop 26 (.iload_n 2) 1 27 := ⟨by decide +kernel, rfl⟩
theorem eX10_whyNoDrop_27 : DD cX10_whyNoDrop 27 (.iload_n 3) 1 28 := ⟨by decide +kernel, rfl⟩
theorem eX10_whyNoDrop_28 : DD cX10_whyNoDrop 28 (.invokevirtual 166) 3 31 := ⟨by decide +kernel, rfl⟩
theorem eX10_whyNoDrop_31 : DD cX10_whyNoDrop 31 (.iload 4) 2 33 := ⟨by decide +kernel, rfl⟩
theorem eX10_whyNoDrop_33 : DB cX10_whyNoDrop 33 (.if_icmp .ge 5) (5) 36 38 := ⟨by decide +kernel, rfl, by decide⟩
theorem eX10_whyNoDrop_36 : DD cX10_whyNoDrop 36 (.iconst 3) 1 37 := ⟨by decide +kernel, rfl⟩
theorem eX10_whyNoDrop_37 : DD cX10_whyNoDrop 37 (.ireturn) 1 38 := ⟨by decide +kernel, rfl⟩
theorem eX10_whyNoDrop_38 : DD cX10_whyNoDrop 38 (.iload 5) 2 40 := ⟨by decide +kernel, rfl⟩
theorem eX10_whyNoDrop_40 : DD cX10_whyNoDrop 40 (.ireturn) 1 41 := ⟨by decide +kernel, rfl⟩
def G_X10_whyNoDrop (x1 : Int32) (x2 : Int32) (x3 : Int32) (x4 : Int32) (μ : Mem) : Option (Int32 × Mem) :=
  bd (G_X10_whyNoRows x1 x2 x3 x4 μ) (fun r_2 μ_1 => if r_2 = (-1 : Int32) then gq (inB x1 3) (bd (G_X7_alike (shP 8 x1) x2 x3 μ_1) (fun r_5 μ_4 => if x4 ≤ r_5 then some (r_2, μ_4) else some ((3 : Int32), μ_4))) else some (r_2, μ_1))
set_option maxHeartbeats 4000000 in
theorem c_X10_whyNoDrop {X : Wd} (hX : WdOk X) (x1 : Int32) (x2 : Int32) (x3 : Int32) (x4 : Int32) (μ : Mem) : CtI X yX10_whyNoDrop cX10_whyNoDrop 6 (some .int) (rmF 3 69) [.ref (xad X 0), .int x1, .int x2, .int x3, .int x4] μ (G_X10_whyNoDrop x1 x2 x3 x4 μ) := by
  refine CtI.of hX (plainFor_of_name (by decide)) (by exact Nat.le_of_ble_eq_true rfl) ?_
  intro C hCX hC hr
  subst hCX
  show J C (KI C) μ 0 [(0, .ref (xad (cX C) 0)), (1, .int x1), (2, .int x2), (3, .int x3), (4, .int x4)] [] _
  unfold G_X10_whyNoDrop
  refine J.aload_n (j := 0) hC eX10_whyNoDrop_0 rfl ?_
  refine J.iload_n (j := 1) hC eX10_whyNoDrop_1 rfl ?_
  refine J.iload_n (j := 2) hC eX10_whyNoDrop_2 rfl ?_
  refine J.iload_n (j := 3) hC eX10_whyNoDrop_3 rfl ?_
  refine J.iload (j := 4) hC eX10_whyNoDrop_4 rfl ?_
  refine J.callVI (st := []) hC eX10_whyNoDrop_6 kk_0 (by decide) rfl rfl ml_X10_263 mv_X10_whyNoRows (Rle_of (Nat.le_of_ble_eq_true rfl) (Nat.le_of_ble_eq_true rfl)) (c_X10_whyNoRows hC.X x1 x2 x3 x4 μ) rfl rfl (Nat.le_of_ble_eq_true rfl) (fun r_2 μ_1 => ?_)
  refine J.istore [(5, .int r_2), (0, .ref (xad (cX C) 0)), (1, .int x1), (2, .int x2), (3, .int x3), (4, .int x4)] hC eX10_whyNoDrop_9 (by decide) rfl ?_
  refine J.iload (j := 0) hC eX10_whyNoDrop_11 rfl ?_
  refine J.iconst hC eX10_whyNoDrop_13 ci_m1 ?_
  refine J.icmp_ne hC eX10_whyNoDrop_14 (fun _ => ?_) (fun _ => ?_)
  · refine J.aload_n (j := 1) hC eX10_whyNoDrop_17 rfl ?_
    refine gf_X10_26 (q := 7) hC eX10_whyNoDrop_18 kk_0 rfl ?_
    refine gf_X10_143 (q := 8) hC eX10_whyNoDrop_21 kk_7 rfl ?_
    refine J.iload_n (j := 2) hC eX10_whyNoDrop_24 rfl ?_
    refine J.aaldS hC eX10_whyNoDrop_25 kk_8 (fun hq_3 => ?_)
    refine J.iload_n (j := 3) hC eX10_whyNoDrop_26 rfl ?_
    refine J.iload_n (j := 4) hC eX10_whyNoDrop_27 rfl ?_
    refine J.callVI (st := []) hC eX10_whyNoDrop_28 hq_3 (by decide) rfl rfl ml_X10_166 mv_X7_alike (Rle_of (Nat.le_of_ble_eq_true rfl) (Nat.le_of_ble_eq_true rfl)) (c_X7_alike hC.X (shP 8 x1) hq_3 x2 x3 μ_1) rfl rfl (Nat.le_of_ble_eq_true rfl) (fun r_5 μ_4 => ?_)
    refine J.iload (j := 5) hC eX10_whyNoDrop_31 rfl ?_
    refine J.icmp_ge hC eX10_whyNoDrop_33 (fun _ => ?_) (fun _ => ?_)
    · refine J.iload (j := 0) hC eX10_whyNoDrop_38 rfl ?_
      exact J.iret hC hr eX10_whyNoDrop_40
    · refine J.iconst hC eX10_whyNoDrop_36 ci_3 ?_
      exact J.iret hC hr eX10_whyNoDrop_37
  · refine J.iload (j := 0) hC eX10_whyNoDrop_38 rfl ?_
    exact J.iret hC hr eX10_whyNoDrop_40
-- X10_drop
theorem eX10_drop_0 : DD cX10_drop 0 (.aload_n 0) 1 1 := ⟨by decide +kernel, rfl⟩
theorem eX10_drop_1 : DD cX10_drop 1 (.iload_n 1) 1 2 := ⟨by decide +kernel, rfl⟩
theorem eX10_drop_2 : DD cX10_drop 2 (.iload_n 2) 1 3 := ⟨by decide +kernel, rfl⟩
theorem eX10_drop_3 : DD cX10_drop 3 (.iload_n 3) 1 4 := ⟨by decide +kernel, rfl⟩
theorem eX10_drop_4 : DD cX10_drop 4 (.iload 4) 2 6 := ⟨by decide +kernel, rfl⟩
theorem eX10_drop_6 : DD cX10_drop 6 (.invokevirtual 232) 3 9 := ⟨by decide +kernel, rfl⟩
theorem eX10_drop_9 : DD cX10_drop 9 (.istore 5) 2 11 := ⟨by decide +kernel, rfl⟩
theorem eX10_drop_11 : DD cX10_drop 11 (.iload 5) 2 13 := ⟨by decide +kernel, rfl⟩
theorem eX10_drop_13 : DD cX10_drop 13 (.iconst (-1)) 1 14 := ⟨by decide +kernel, rfl⟩
theorem eX10_drop_14 : DB cX10_drop 14 (.if_icmp .eq 10) (10) 17 24 := ⟨by decide +kernel, rfl, by decide⟩
theorem eX10_drop_17 : DD cX10_drop 17 (.aload_n 0) 1 18 := ⟨by decide +kernel, rfl⟩
theorem eX10_drop_18 : DD cX10_drop 18 (.iload 5) 2 20 := ⟨by decide +kernel, rfl⟩
theorem eX10_drop_20 : DD cX10_drop 20 (.invokevirtual 225) 3 23 := ⟨by decide +kernel, rfl⟩
theorem eX10_drop_23 : DD cX10_drop 23 (.ireturn) 1 24 := ⟨by decide +kernel, rfl⟩
theorem eX10_drop_24 : DD cX10_drop 24 (.aload_n 0) 1 25 := ⟨by decide +kernel, rfl⟩
theorem eX10_drop_25 : DD cX10_drop 25 (.iload_n 1) 1 26 := ⟨by decide +kernel, rfl⟩
theorem eX10_drop_26 : DD cX10_drop 26 (.iload_n 2) 1 27 := ⟨by decide +kernel, rfl⟩
theorem eX10_drop_27 : DD cX10_drop 27 (.iload_n 3) 1 28 := ⟨by decide +kernel, rfl⟩
theorem eX10_drop_28 : DD cX10_drop 28 (.iload 4) 2 30 := ⟨by decide +kernel, rfl⟩
theorem eX10_drop_30 : DD cX10_drop 30 (.ineg) 1 31 := ⟨by decide +kernel, rfl⟩
theorem eX10_drop_31 : DD cX10_drop 31 (.invokevirtual 228) 3 34 := ⟨by decide +kernel, rfl⟩
theorem eX10_drop_34 : DD cX10_drop 34 (.aload_n 0) 1 35 := ⟨by decide +kernel, rfl⟩
theorem eX10_drop_35 : DD cX10_drop 35 (.getfield 26) 3 38 := ⟨by decide +kernel, rfl⟩
theorem eX10_drop_38 : DD cX10_drop 38 (.getfield 143) 3 41 := ⟨by decide +kernel, rfl⟩
theorem eX10_drop_41 : DD cX10_drop 41 (.iload_n 1) 1 42 := ⟨by decide +kernel, rfl⟩
theorem eX10_drop_42 : DD cX10_drop 42 (.aaload) 1 43 := ⟨by decide +kernel, rfl⟩
theorem eX10_drop_43 : DD cX10_drop 43 (.getfield 152) 3 46 := ⟨by decide +kernel, rfl⟩
theorem eX10_drop_46 : DD cX10_drop 46 (.ireturn) 1 47 := ⟨by decide +kernel, rfl⟩
def G_X10_drop (x1 : Int32) (x2 : Int32) (x3 : Int32) (x4 : Int32) (μ : Mem) : Option (Int32 × Mem) :=
  bd (G_X10_whyNoDrop x1 x2 x3 x4 μ) (fun r_2 μ_1 => if r_2 = (-1 : Int32) then bd (G_X10_doChange x1 x2 x3 (-x4) μ_1) (fun r_4 μ_3 => gq (inB x1 3) (some (rI μ_3 (shP 8 x1) 3, μ_3))) else bd (G_X10_refuse r_2 μ_1) (fun r_7 μ_6 => some (r_7, μ_6)))
set_option maxHeartbeats 4000000 in
theorem c_X10_drop {X : Wd} (hX : WdOk X) (x1 : Int32) (x2 : Int32) (x3 : Int32) (x4 : Int32) (μ : Mem) : CtI X yX10_drop cX10_drop 6 (some .int) (rmF 5 131) [.ref (xad X 0), .int x1, .int x2, .int x3, .int x4] μ (G_X10_drop x1 x2 x3 x4 μ) := by
  refine CtI.of hX (plainFor_of_name (by decide)) (by exact Nat.le_of_ble_eq_true rfl) ?_
  intro C hCX hC hr
  subst hCX
  show J C (KI C) μ 0 [(0, .ref (xad (cX C) 0)), (1, .int x1), (2, .int x2), (3, .int x3), (4, .int x4)] [] _
  unfold G_X10_drop
  refine J.aload_n (j := 0) hC eX10_drop_0 rfl ?_
  refine J.iload_n (j := 1) hC eX10_drop_1 rfl ?_
  refine J.iload_n (j := 2) hC eX10_drop_2 rfl ?_
  refine J.iload_n (j := 3) hC eX10_drop_3 rfl ?_
  refine J.iload (j := 4) hC eX10_drop_4 rfl ?_
  refine J.callVI (st := []) hC eX10_drop_6 kk_0 (by decide) rfl rfl ml_X10_232 mv_X10_whyNoDrop (Rle_of (Nat.le_of_ble_eq_true rfl) (Nat.le_of_ble_eq_true rfl)) (c_X10_whyNoDrop hC.X x1 x2 x3 x4 μ) rfl rfl (Nat.le_of_ble_eq_true rfl) (fun r_2 μ_1 => ?_)
  refine J.istore [(5, .int r_2), (0, .ref (xad (cX C) 0)), (1, .int x1), (2, .int x2), (3, .int x3), (4, .int x4)] hC eX10_drop_9 (by decide) rfl ?_
  refine J.iload (j := 0) hC eX10_drop_11 rfl ?_
  refine J.iconst hC eX10_drop_13 ci_m1 ?_
  refine J.icmp_eq hC eX10_drop_14 (fun _ => ?_) (fun _ => ?_)
  · refine J.aload_n (j := 1) hC eX10_drop_24 rfl ?_
    refine J.iload_n (j := 2) hC eX10_drop_25 rfl ?_
    refine J.iload_n (j := 3) hC eX10_drop_26 rfl ?_
    refine J.iload_n (j := 4) hC eX10_drop_27 rfl ?_
    refine J.iload (j := 5) hC eX10_drop_28 rfl ?_
    refine J.ineg hC eX10_drop_30 ?_
    refine J.callVV (st := []) hC eX10_drop_31 kk_0 (by decide) rfl rfl ml_X10_228 mv_X10_doChange (Rle_of (Nat.le_of_ble_eq_true rfl) (Nat.le_of_ble_eq_true rfl)) (c_X10_doChange hC.X x1 x2 x3 (-x4) μ_1) rfl rfl (Nat.le_of_ble_eq_true rfl) (fun r_4 μ_3 => ?_)
    refine J.aload_n (j := 1) hC eX10_drop_34 rfl ?_
    refine gf_X10_26 (q := 7) hC eX10_drop_35 kk_0 rfl ?_
    refine gf_X10_143 (q := 8) hC eX10_drop_38 kk_7 rfl ?_
    refine J.iload_n (j := 2) hC eX10_drop_41 rfl ?_
    refine J.aaldS hC eX10_drop_42 kk_8 (fun hq_5 => ?_)
    refine gf_X10_152 hC eX10_drop_43 hq_5 ?_
    exact J.iret hC hr eX10_drop_46
  · refine J.aload_n (j := 1) hC eX10_drop_17 rfl ?_
    refine J.iload (j := 0) hC eX10_drop_18 rfl ?_
    refine J.callVI (st := []) hC eX10_drop_20 kk_0 (by decide) rfl rfl ml_X10_225 mv_X10_refuse (Rle_of (Nat.le_of_ble_eq_true rfl) (Nat.le_of_ble_eq_true rfl)) (c_X10_refuse hC.X r_2 μ_1) rfl rfl (Nat.le_of_ble_eq_true rfl) (fun r_7 μ_6 => ?_)
    exact J.iret hC hr eX10_drop_23
-- X10_move
theorem eX10_move_0 : DD cX10_move 0 (.aload_n 0) 1 1 := ⟨by decide +kernel, rfl⟩
theorem eX10_move_1 : DD cX10_move 1 (.iload_n 1) 1 2 := ⟨by decide +kernel, rfl⟩
theorem eX10_move_2 : DD cX10_move 2 (.iload_n 2) 1 3 := ⟨by decide +kernel, rfl⟩
theorem eX10_move_3 : DD cX10_move 3 (.iload_n 3) 1 4 := ⟨by decide +kernel, rfl⟩
theorem eX10_move_4 : DD cX10_move 4 (.invokevirtual 162) 3 7 := ⟨by decide +kernel, rfl⟩
theorem eX10_move_7 : DB cX10_move 7 (.ifCond .eq 15) (15) 10 22 := ⟨by decide +kernel, rfl, by decide⟩
theorem eX10_move_10 : DD cX10_move 10 (.aload_n 0) 1 11 := ⟨by decide +kernel, rfl⟩
theorem eX10_move_11 : DD cX10_move 11 (.iload_n 1) 1 12 := ⟨by decide +kernel, rfl⟩
theorem eX10_move_12 : DD cX10_move 12 (.iload 4) 2 14 := ⟨by decide +kernel, rfl⟩
theorem eX10_move_14 : DD cX10_move 14 (.iload 5) 2 16 := ⟨by decide +kernel, rfl⟩
theorem eX10_move_16 : DD cX10_move 16 (.invokevirtual 162) 3 19 := ⟨by decide +kernel, rfl⟩
theorem eX10_move_19 : DB cX10_move 19 (.ifCond .ne 9) (9) 22 28 := ⟨by decide +kernel, rfl, by decide⟩
theorem eX10_move_22 : DD cX10_move 22 (.aload_n 0) 1 23 := ⟨by decide +kernel, rfl⟩
theorem eX10_move_23 : DD cX10_move 23 (.iconst 0) 1 24 := ⟨by decide +kernel, rfl⟩
theorem eX10_move_24 : DD cX10_move 24 (.invokevirtual 225) 3 27 := ⟨by decide +kernel, rfl⟩
theorem eX10_move_27 : DD cX10_move 27 (.ireturn) 1 28 := ⟨by decide +kernel, rfl⟩
theorem eX10_move_28 : DD cX10_move 28 (.iload_n 2) 1 29 := ⟨by decide +kernel, rfl⟩
theorem eX10_move_29 : DD cX10_move 29 (.iload 4) 2 31 := ⟨by decide +kernel, rfl⟩
theorem eX10_move_31 : DB cX10_move 31 (.if_icmp .ne 15) (15) 34 46 := ⟨by decide +kernel, rfl, by decide⟩
theorem eX10_move_34 : DD cX10_move 34 (.iload_n 3) 1 35 := ⟨by decide +kernel, rfl⟩
theorem eX10_move_35 : DD cX10_move 35 (.iload 5) 2 37 := ⟨by decide +kernel, rfl⟩
theorem eX10_move_37 : DB cX10_move 37 (.if_icmp .ne 9) (9) 40 46 := ⟨by decide +kernel, rfl, by decide⟩
theorem eX10_move_40 : DD cX10_move 40 (.aload_n 0) 1 41 := ⟨by decide +kernel, rfl⟩
theorem eX10_move_41 : DD cX10_move 41 (.iconst 2) 1 42 := ⟨by decide +kernel, rfl⟩
theorem eX10_move_42 : DD cX10_move 42 (.invokevirtual 225) 3 45 := ⟨by decide +kernel, rfl⟩
theorem eX10_move_45 : DD cX10_move 45 (.ireturn) 1 46 := ⟨by decide +kernel, rfl⟩
theorem eX10_move_46 : DD cX10_move 46 (.aload_n 0) 1 47 := ⟨by decide +kernel, rfl⟩
theorem eX10_move_47 : DD cX10_move 47 (.getfield 26) 3 50 := ⟨by decide +kernel, rfl⟩
theorem eX10_move_50 : DD cX10_move 50 (.getfield 143) 3 53 := ⟨by decide +kernel, rfl⟩
theorem eX10_move_53 : DD cX10_move 53 (.iload_n 1) 1 54 := ⟨by decide +kernel, rfl⟩
theorem eX10_move_54 : DD cX10_move 54 (.aaload) 1 55 := ⟨by decide +kernel, rfl⟩
theorem eX10_move_55 : DD cX10_move 55 (.astore 6) 2 57 := ⟨by decide +kernel, rfl⟩
theorem eX10_move_57 : DD cX10_move 57 (.aload 6) 2 59 := ⟨by decide +kernel, rfl⟩
theorem eX10_move_59 : DD cX10_move 59 (.iload_n 2) 1 60 := ⟨by decide +kernel, rfl⟩
theorem eX10_move_60 : DD cX10_move 60 (.iload_n 3) 1 61 := ⟨by decide +kernel, rfl⟩
theorem eX10_move_61 : DD cX10_move 61 (.invokevirtual 166) 3 64 := ⟨by decide +kernel, rfl⟩
theorem eX10_move_64 : DD cX10_move 64 (.iconst 1) 1 65 := ⟨by decide +kernel, rfl⟩
theorem eX10_move_65 : DB cX10_move 65 (.if_icmp .ge 9) (9) 68 74 := ⟨by decide +kernel, rfl, by decide⟩
theorem eX10_move_68 : DD cX10_move 68 (.aload_n 0) 1 69 := ⟨by decide +kernel, rfl⟩
theorem eX10_move_69 : DD cX10_move 69 (.iconst 3) 1 70 := ⟨by decide +kernel, rfl⟩
theorem eX10_move_70 : DD cX10_move 70 (.invokevirtual 225) 3 73 := ⟨by decide +kernel, rfl⟩
theorem eX10_move_73 : DD cX10_move 73 (.ireturn) 1 74 := ⟨by decide +kernel, rfl⟩
theorem eX10_move_74 : DD cX10_move 74 (.aload_n 0) 1 75 := ⟨by decide +kernel, rfl⟩
theorem eX10_move_75 : DD cX10_move 75 (.getfield 44) 3 78 := ⟨by decide +kernel, rfl⟩
theorem eX10_move_78 : DD cX10_move 78 (.aload_n 0) 1 79 := ⟨by decide +kernel, rfl⟩
theorem eX10_move_79 : DD cX10_move 79 (.getfield 26) 3 82 := ⟨by decide +kernel, rfl⟩
theorem eX10_move_82 : DD cX10_move 82 (.iload_n 1) 1 83 := ⟨by decide +kernel, rfl⟩
theorem eX10_move_83 : DD cX10_move 83 (.invokevirtual 235) 3 86 := ⟨by decide +kernel, rfl⟩
theorem eX10_move_86 : DD cX10_move 86 (.aload_n 0) 1 87 := ⟨by decide +kernel, rfl⟩
theorem eX10_move_87 : DD cX10_move 87 (.getfield 44) 3 90 := ⟨by decide +kernel, rfl⟩
theorem eX10_move_90 : DD cX10_move 90 (.iload_n 2) 1 91 := ⟨by decide +kernel, rfl⟩
theorem eX10_move_91 : DD cX10_move 91 (.iload_n 3) 1 92 := ⟨by decide +kernel, rfl⟩
theorem eX10_move_92 : DD cX10_move 92 (.iconst (-1)) 1 93 := ⟨by decide +kernel, rfl⟩
theorem eX10_move_93 : DD cX10_move 93 (.invokevirtual 239) 3 96 := ⟨by decide +kernel, rfl⟩
theorem eX10_move_96 : DD cX10_move 96 (.aload_n 0) 1 97 := ⟨by decide +kernel, rfl⟩
theorem eX10_move_97 : DD cX10_move 97 (.getfield 26) 3 100 := ⟨by decide +kernel, rfl⟩
theorem eX10_move_100 : DD cX10_move 100 (.aload 6) 2 102 := ⟨by decide +kernel, rfl⟩
theorem eX10_move_102 : DD cX10_move 102 (.iload_n 2) 1 103 := ⟨by decide +kernel, rfl⟩
theorem eX10_move_103 : DD cX10_move 103 (.iload_n 3) 1 104 := ⟨by decide +kernel, rfl⟩
theorem eX10_move_104 : DD cX10_move 104 (.iconst (-1)) 1 105 := ⟨by decide +kernel, rfl⟩
theorem eX10_move_105 : DD cX10_move 105 (.aload_n 0) 1 106 := ⟨by decide +kernel, rfl⟩
theorem eX10_move_106 : DD cX10_move 106 (.getfield 57) 3 109 := ⟨by decide +kernel, rfl⟩
theorem eX10_move_109 : DD cX10_move 109 (.invokevirtual 243) 3 112 := ⟨by decide +kernel, rfl⟩
theorem eX10_move_112 : DD cX10_move 112 (.aload_n 0) 1 113 := ⟨by decide +kernel, rfl⟩
theorem eX10_move_113 : DD cX10_move 113 (.getfield 44) 3 116 := ⟨by decide +kernel, rfl⟩
theorem eX10_move_116 : DD cX10_move 116 (.iload 4) 2 118 := ⟨by decide +kernel, rfl⟩
theorem eX10_move_118 : DD cX10_move 118 (.iload 5) 2 120 := ⟨by decide +kernel, rfl⟩
theorem eX10_move_120 : DD cX10_move 120 (.iconst 1) 1 121 := ⟨by decide +kernel, rfl⟩
theorem eX10_move_121 : DD cX10_move 121 (.invokevirtual 239) 3 124 := ⟨by decide +kernel, rfl⟩
theorem eX10_move_124 : DD cX10_move 124 (.aload_n 0) 1 125 := ⟨by decide +kernel, rfl⟩
theorem eX10_move_125 : DD cX10_move 125 (.getfield 26) 3 128 := ⟨by decide +kernel, rfl⟩
theorem eX10_move_128 : DD cX10_move 128 (.aload 6) 2 130 := ⟨by decide +kernel, rfl⟩
theorem eX10_move_130 : DD cX10_move 130 (.iload 4) 2 132 := ⟨by decide +kernel, rfl⟩
theorem eX10_move_132 : DD cX10_move 132 (.iload 5) 2 134 := ⟨by decide +kernel, rfl⟩
theorem eX10_move_134 : DD cX10_move 134 (.iconst 1) 1 135 := ⟨by decide +kernel, rfl⟩
theorem eX10_move_135 : DD cX10_move 135 (.aload_n 0) 1 136 := ⟨by decide +kernel, rfl⟩
theorem eX10_move_136 : DD cX10_move 136 (.getfield 57) 3 139 := ⟨by decide +kernel, rfl⟩
theorem eX10_move_139 : DD cX10_move 139 (.invokevirtual 243) 3 142 := ⟨by decide +kernel, rfl⟩
theorem eX10_move_142 : DD cX10_move 142 (.aload_n 0) 1 143 := ⟨by decide +kernel, rfl⟩
theorem eX10_move_143 : DD cX10_move 143 (.getfield 26) 3 146 := ⟨by decide +kernel, rfl⟩
theorem eX10_move_146 : DD cX10_move 146 (.getfield 247) 3 149 := ⟨by decide +kernel, rfl⟩
theorem eX10_move_149 : DD cX10_move 149 (.iconst 2) 1 150 := ⟨by decide +kernel, rfl⟩
theorem eX10_move_150 : DD cX10_move 150 (.iload_n 1) 1 151 := ⟨by decide +kernel, rfl⟩
theorem eX10_move_151 : DD cX10_move 151 (.iconst 1) 1 152 := ⟨by decide +kernel, rfl⟩
theorem eX10_move_152 : DD cX10_move 152 (.invokevirtual 251) 3 155 := ⟨by decide +kernel, rfl⟩
theorem eX10_move_155 : DD cX10_move 155 (.aload 6) 2 157 := ⟨by decide +kernel, rfl⟩
theorem eX10_move_157 : DD cX10_move 157 (.iload 4) 2 159 := ⟨by decide +kernel, rfl⟩
theorem eX10_move_159 : DD cX10_move 159 (.iload 5) 2 161 := ⟨by decide +kernel, rfl⟩
theorem eX10_move_161 : DD cX10_move 161 (.invokevirtual 166) 3 164 := ⟨by decide +kernel, rfl⟩
theorem eX10_move_164 : DD cX10_move 164 (.ireturn) 1 165 := ⟨by decide +kernel, rfl⟩
def F_X10_move_22  (μ : Mem) : Option (Int32 × Mem) :=
  bd (G_X10_refuse (0 : Int32) μ) (fun r_2 μ_1 => some (r_2, μ_1))
set_option maxHeartbeats 4000000 in
theorem j_X10_move_22 {C : Cx} (hC : Ok C cX10_move 7 RX10 (rmF 4 107)) (hr : (cT C).sig.returnType = (some .int))  (μ : Mem) : J C (KI C) μ 22 [(0, .ref (xad (cX C) 0))] [] (F_X10_move_22   μ) := by
  unfold F_X10_move_22
  refine J.aload_n (j := 0) hC eX10_move_22 rfl ?_
  refine J.iconst hC eX10_move_23 ci_0 ?_
  refine J.callVI (st := []) hC eX10_move_24 kk_0 (by decide) rfl rfl ml_X10_225 mv_X10_refuse (Rle_of (Nat.le_of_ble_eq_true rfl) (Nat.le_of_ble_eq_true rfl)) (c_X10_refuse hC.X (0 : Int32) μ) rfl rfl (Nat.le_of_ble_eq_true rfl) (fun r_2 μ_1 => ?_)
  exact J.iret hC hr eX10_move_27
def F_X10_move_46 (x1 : Int32) (x2 : Int32) (x3 : Int32) (x4 : Int32) (x5 : Int32) (μ : Mem) : Option (Int32 × Mem) :=
  gq (inB x1 3) (bd (G_X7_alike (shP 8 x1) x2 x3 μ) (fun r_3 μ_2 => if (1 : Int32) ≤ r_3 then bd (G_X6_open 7 x1 μ_2) (fun r_5 μ_4 => bd (G_X6_noteRows x2 x3 (-1 : Int32) μ_4) (fun r_7 μ_6 => bd (G_X0_changeRows 7 (shP 8 x1) x2 x3 (-1 : Int32) μ_6) (fun r_9 μ_8 => bd (G_X6_noteRows x4 x5 (1 : Int32) μ_8) (fun r_11 μ_10 => bd (G_X0_changeRows 7 (shP 8 x1) x4 x5 (1 : Int32) μ_10) (fun r_13 μ_12 => bd (G_X3_note 36 (2 : Int32) x1 (1 : Int32) μ_12) (fun r_15 μ_14 => bd (G_X7_alike (shP 8 x1) x4 x5 μ_14) (fun r_17 μ_16 => some (r_17, μ_16)))))))) else bd (G_X10_refuse (3 : Int32) μ_2) (fun r_19 μ_18 => some (r_19, μ_18))))
set_option maxHeartbeats 4000000 in
theorem j_X10_move_46 {C : Cx} (hC : Ok C cX10_move 7 RX10 (rmF 4 107)) (hr : (cT C).sig.returnType = (some .int)) (x1 : Int32) (x2 : Int32) (x3 : Int32) (x4 : Int32) (x5 : Int32) (μ : Mem) : J C (KI C) μ 46 [(0, .ref (xad (cX C) 0)), (1, .int x1), (2, .int x2), (3, .int x3), (4, .int x4), (5, .int x5)] [] (F_X10_move_46  x1 x2 x3 x4 x5 μ) := by
  unfold F_X10_move_46
  refine J.aload_n (j := 0) hC eX10_move_46 rfl ?_
  refine gf_X10_26 (q := 7) hC eX10_move_47 kk_0 rfl ?_
  refine gf_X10_143 (q := 8) hC eX10_move_50 kk_7 rfl ?_
  refine J.iload_n (j := 1) hC eX10_move_53 rfl ?_
  refine J.aaldS hC eX10_move_54 kk_8 (fun hq_1 => ?_)
  refine J.astore [(6, .ref (xad (cX C) (shP 8 x1))), (0, .ref (xad (cX C) 0)), (1, .int x1), (2, .int x2), (3, .int x3), (4, .int x4), (5, .int x5)] hC eX10_move_55 (by decide) rfl ?_
  refine J.aload (j := 0) hC eX10_move_57 rfl ?_
  refine J.iload_n (j := 3) hC eX10_move_59 rfl ?_
  refine J.iload_n (j := 4) hC eX10_move_60 rfl ?_
  refine J.callVI (st := []) hC eX10_move_61 hq_1 (by decide) rfl rfl ml_X10_166 mv_X7_alike (Rle_of (Nat.le_of_ble_eq_true rfl) (Nat.le_of_ble_eq_true rfl)) (c_X7_alike hC.X (shP 8 x1) hq_1 x2 x3 μ) rfl rfl (Nat.le_of_ble_eq_true rfl) (fun r_3 μ_2 => ?_)
  refine J.iconst hC eX10_move_64 ci_1 ?_
  refine J.icmp_ge hC eX10_move_65 (fun _ => ?_) (fun _ => ?_)
  · refine J.aload_n (j := 1) hC eX10_move_74 rfl ?_
    refine gf_X10_44 (q := 65) hC eX10_move_75 kk_0 rfl ?_
    refine J.aload_n (j := 1) hC eX10_move_78 rfl ?_
    refine gf_X10_26 (q := 7) hC eX10_move_79 kk_0 rfl ?_
    refine J.iload_n (j := 2) hC eX10_move_82 rfl ?_
    refine J.callVV (st := []) hC eX10_move_83 kk_65 (by decide) rfl rfl ml_X10_235 mv_X6_open (Rle_of (Nat.le_of_ble_eq_true rfl) (Nat.le_of_ble_eq_true rfl)) (c_X6_open hC.X 7 kk_7 x1 μ_2) rfl rfl (Nat.le_of_ble_eq_true rfl) (fun r_5 μ_4 => ?_)
    refine J.aload_n (j := 1) hC eX10_move_86 rfl ?_
    refine gf_X10_44 (q := 65) hC eX10_move_87 kk_0 rfl ?_
    refine J.iload_n (j := 3) hC eX10_move_90 rfl ?_
    refine J.iload_n (j := 4) hC eX10_move_91 rfl ?_
    refine J.iconst hC eX10_move_92 ci_m1 ?_
    refine J.callVV (st := []) hC eX10_move_93 kk_65 (by decide) rfl rfl ml_X10_239 mv_X6_noteRows (Rle_of (Nat.le_of_ble_eq_true rfl) (Nat.le_of_ble_eq_true rfl)) (c_X6_noteRows hC.X x2 x3 (-1 : Int32) μ_4) rfl rfl (Nat.le_of_ble_eq_true rfl) (fun r_7 μ_6 => ?_)
    refine J.aload_n (j := 1) hC eX10_move_96 rfl ?_
    refine gf_X10_26 (q := 7) hC eX10_move_97 kk_0 rfl ?_
    refine J.aload (j := 0) hC eX10_move_100 rfl ?_
    refine J.iload_n (j := 3) hC eX10_move_102 rfl ?_
    refine J.iload_n (j := 4) hC eX10_move_103 rfl ?_
    refine J.iconst hC eX10_move_104 ci_m1 ?_
    refine J.aload_n (j := 1) hC eX10_move_105 rfl ?_
    refine gf_X10_57 (q := 99) hC eX10_move_106 kk_0 rfl ?_
    refine J.callVV (st := []) hC eX10_move_109 kk_7 (by decide) rfl rfl ml_X10_243 mv_X0_changeRows (Rle_of (Nat.le_of_ble_eq_true rfl) (Nat.le_of_ble_eq_true rfl)) (c_X0_changeRows hC.X 7 kk_7 (shP 8 x1) hq_1 x2 x3 (-1 : Int32) μ_6) rfl rfl (Nat.le_of_ble_eq_true rfl) (fun r_9 μ_8 => ?_)
    refine J.aload_n (j := 1) hC eX10_move_112 rfl ?_
    refine gf_X10_44 (q := 65) hC eX10_move_113 kk_0 rfl ?_
    refine J.iload (j := 5) hC eX10_move_116 rfl ?_
    refine J.iload (j := 6) hC eX10_move_118 rfl ?_
    refine J.iconst hC eX10_move_120 ci_1 ?_
    refine J.callVV (st := []) hC eX10_move_121 kk_65 (by decide) rfl rfl ml_X10_239 mv_X6_noteRows (Rle_of (Nat.le_of_ble_eq_true rfl) (Nat.le_of_ble_eq_true rfl)) (c_X6_noteRows hC.X x4 x5 (1 : Int32) μ_8) rfl rfl (Nat.le_of_ble_eq_true rfl) (fun r_11 μ_10 => ?_)
    refine J.aload_n (j := 1) hC eX10_move_124 rfl ?_
    refine gf_X10_26 (q := 7) hC eX10_move_125 kk_0 rfl ?_
    refine J.aload (j := 0) hC eX10_move_128 rfl ?_
    refine J.iload (j := 5) hC eX10_move_130 rfl ?_
    refine J.iload (j := 6) hC eX10_move_132 rfl ?_
    refine J.iconst hC eX10_move_134 ci_1 ?_
    refine J.aload_n (j := 1) hC eX10_move_135 rfl ?_
    refine gf_X10_57 (q := 99) hC eX10_move_136 kk_0 rfl ?_
    refine J.callVV (st := []) hC eX10_move_139 kk_7 (by decide) rfl rfl ml_X10_243 mv_X0_changeRows (Rle_of (Nat.le_of_ble_eq_true rfl) (Nat.le_of_ble_eq_true rfl)) (c_X0_changeRows hC.X 7 kk_7 (shP 8 x1) hq_1 x4 x5 (1 : Int32) μ_10) rfl rfl (Nat.le_of_ble_eq_true rfl) (fun r_13 μ_12 => ?_)
    refine J.aload_n (j := 1) hC eX10_move_142 rfl ?_
    refine gf_X10_26 (q := 7) hC eX10_move_143 kk_0 rfl ?_
    refine gf_X10_247 (q := 36) hC eX10_move_146 kk_7 rfl ?_
    refine J.iconst hC eX10_move_149 ci_2 ?_
    refine J.iload_n (j := 2) hC eX10_move_150 rfl ?_
    refine J.iconst hC eX10_move_151 ci_1 ?_
    refine J.callVV (st := []) hC eX10_move_152 kk_36 (by decide) rfl rfl ml_X10_251 mv_X3_note (Rle_of (Nat.le_of_ble_eq_true rfl) (Nat.le_of_ble_eq_true rfl)) (c_X3_note hC.X 36 kk_36 (2 : Int32) x1 (1 : Int32) μ_12) rfl rfl (Nat.le_of_ble_eq_true rfl) (fun r_15 μ_14 => ?_)
    refine J.aload (j := 0) hC eX10_move_155 rfl ?_
    refine J.iload (j := 5) hC eX10_move_157 rfl ?_
    refine J.iload (j := 6) hC eX10_move_159 rfl ?_
    refine J.callVI (st := []) hC eX10_move_161 hq_1 (by decide) rfl rfl ml_X10_166 mv_X7_alike (Rle_of (Nat.le_of_ble_eq_true rfl) (Nat.le_of_ble_eq_true rfl)) (c_X7_alike hC.X (shP 8 x1) hq_1 x4 x5 μ_14) rfl rfl (Nat.le_of_ble_eq_true rfl) (fun r_17 μ_16 => ?_)
    exact J.iret hC hr eX10_move_164
  · refine J.aload_n (j := 1) hC eX10_move_68 rfl ?_
    refine J.iconst hC eX10_move_69 ci_3 ?_
    refine J.callVI (st := []) hC eX10_move_70 kk_0 (by decide) rfl rfl ml_X10_225 mv_X10_refuse (Rle_of (Nat.le_of_ble_eq_true rfl) (Nat.le_of_ble_eq_true rfl)) (c_X10_refuse hC.X (3 : Int32) μ_2) rfl rfl (Nat.le_of_ble_eq_true rfl) (fun r_19 μ_18 => ?_)
    exact J.iret hC hr eX10_move_73
def G_X10_move (x1 : Int32) (x2 : Int32) (x3 : Int32) (x4 : Int32) (x5 : Int32) (μ : Mem) : Option (Int32 × Mem) :=
  bd (G_X10_hasCell x1 x2 x3 μ) (fun r_2 μ_1 => if r_2 = 0 then F_X10_move_22   μ_1 else bd (G_X10_hasCell x1 x4 x5 μ_1) (fun r_4 μ_3 => if r_4 = 0 then F_X10_move_22   μ_3 else if x2 = x4 then if x3 = x5 then bd (G_X10_refuse (2 : Int32) μ_3) (fun r_6 μ_5 => some (r_6, μ_5)) else F_X10_move_46  x1 x2 x3 x4 x5 μ_3 else F_X10_move_46  x1 x2 x3 x4 x5 μ_3))
set_option maxHeartbeats 4000000 in
theorem c_X10_move {X : Wd} (hX : WdOk X) (x1 : Int32) (x2 : Int32) (x3 : Int32) (x4 : Int32) (x5 : Int32) (μ : Mem) : CtI X yX10_move cX10_move 7 (some .int) (rmF 4 107) [.ref (xad X 0), .int x1, .int x2, .int x3, .int x4, .int x5] μ (G_X10_move x1 x2 x3 x4 x5 μ) := by
  refine CtI.of hX (plainFor_of_name (by decide)) (by exact Nat.le_of_ble_eq_true rfl) ?_
  intro C hCX hC hr
  subst hCX
  show J C (KI C) μ 0 [(0, .ref (xad (cX C) 0)), (1, .int x1), (2, .int x2), (3, .int x3), (4, .int x4), (5, .int x5)] [] _
  unfold G_X10_move
  refine J.aload_n (j := 0) hC eX10_move_0 rfl ?_
  refine J.iload_n (j := 1) hC eX10_move_1 rfl ?_
  refine J.iload_n (j := 2) hC eX10_move_2 rfl ?_
  refine J.iload_n (j := 3) hC eX10_move_3 rfl ?_
  refine J.callVI (st := []) hC eX10_move_4 kk_0 (by decide) rfl rfl ml_X10_162 mv_X10_hasCell (Rle_of (Nat.le_of_ble_eq_true rfl) (Nat.le_of_ble_eq_true rfl)) (c_X10_hasCell hC.X x1 x2 x3 μ) rfl rfl (Nat.le_of_ble_eq_true rfl) (fun r_2 μ_1 => ?_)
  refine J.if_eq hC eX10_move_7 (fun _ => ?_) (fun _ => ?_)
  · refine J.sub [0] rfl ?_
    exact j_X10_move_22 hC hr   μ_1
  · refine J.aload_n (j := 0) hC eX10_move_10 rfl ?_
    refine J.iload_n (j := 1) hC eX10_move_11 rfl ?_
    refine J.iload (j := 4) hC eX10_move_12 rfl ?_
    refine J.iload (j := 5) hC eX10_move_14 rfl ?_
    refine J.callVI (st := []) hC eX10_move_16 kk_0 (by decide) rfl rfl ml_X10_162 mv_X10_hasCell (Rle_of (Nat.le_of_ble_eq_true rfl) (Nat.le_of_ble_eq_true rfl)) (c_X10_hasCell hC.X x1 x4 x5 μ_1) rfl rfl (Nat.le_of_ble_eq_true rfl) (fun r_4 μ_3 => ?_)
    refine J.if_ne hC eX10_move_19 (fun _ => ?_) (fun _ => ?_)
    · refine J.sub [0] rfl ?_
      exact j_X10_move_22 hC hr   μ_3
    · refine J.iload_n (j := 2) hC eX10_move_28 rfl ?_
      refine J.iload (j := 4) hC eX10_move_29 rfl ?_
      refine J.icmp_ne hC eX10_move_31 (fun _ => ?_) (fun _ => ?_)
      · refine J.iload_n (j := 3) hC eX10_move_34 rfl ?_
        refine J.iload (j := 5) hC eX10_move_35 rfl ?_
        refine J.icmp_ne hC eX10_move_37 (fun _ => ?_) (fun _ => ?_)
        · refine J.aload_n (j := 0) hC eX10_move_40 rfl ?_
          refine J.iconst hC eX10_move_41 ci_2 ?_
          refine J.callVI (st := []) hC eX10_move_42 kk_0 (by decide) rfl rfl ml_X10_225 mv_X10_refuse (Rle_of (Nat.le_of_ble_eq_true rfl) (Nat.le_of_ble_eq_true rfl)) (c_X10_refuse hC.X (2 : Int32) μ_3) rfl rfl (Nat.le_of_ble_eq_true rfl) (fun r_6 μ_5 => ?_)
          exact J.iret hC hr eX10_move_45
        · refine J.sub [0, 1, 2, 3, 4, 5] rfl ?_
          exact j_X10_move_46 hC hr  x1 x2 x3 x4 x5 μ_3
      · refine J.sub [0, 1, 2, 3, 4, 5] rfl ?_
        exact j_X10_move_46 hC hr  x1 x2 x3 x4 x5 μ_3
-- X10_whyNoBuild
theorem eX10_whyNoBuild_0 : DD cX10_whyNoBuild 0 (.aload_n 0) 1 1 := ⟨by decide +kernel, rfl⟩
theorem eX10_whyNoBuild_1 : DD cX10_whyNoBuild 1 (.iload_n 1) 1 2 := ⟨by decide +kernel, rfl⟩
theorem eX10_whyNoBuild_2 : DD cX10_whyNoBuild 2 (.iload_n 2) 1 3 := ⟨by decide +kernel, rfl⟩
theorem eX10_whyNoBuild_3 : DD cX10_whyNoBuild 3 (.invokevirtual 170) 3 6 := ⟨by decide +kernel, rfl⟩
theorem eX10_whyNoBuild_6 : DB cX10_whyNoBuild 6 (.ifCond .ne 5) (5) 9 11 := ⟨by decide +kernel, rfl, by decide⟩
theorem eX10_whyNoBuild_9 : DD cX10_whyNoBuild 9 (.iconst 0) 1 10 := ⟨by decide +kernel, rfl⟩
theorem eX10_whyNoBuild_10 : DD cX10_whyNoBuild 10 (.ireturn) 1 11 := ⟨by decide +kernel, rfl⟩
theorem eX10_whyNoBuild_11 : DD cX10_whyNoBuild 11 (.aload_n 0) 1 12 := ⟨by decide +kernel, rfl⟩
theorem eX10_whyNoBuild_12 : DD cX10_whyNoBuild 12 (.getfield 26) 3 15 := ⟨by decide +kernel, rfl⟩
theorem eX10_whyNoBuild_15 : DD cX10_whyNoBuild 15 (.getfield 143) 3 18 := ⟨by decide +kernel, rfl⟩
theorem eX10_whyNoBuild_18 : DD cX10_whyNoBuild 18 (.iload_n 1) 1 19 := ⟨by decide +kernel, rfl⟩
theorem eX10_whyNoBuild_19 : DD cX10_whyNoBuild 19 (.aaload) 1 20 := ⟨by decide +kernel, rfl⟩
theorem eX10_whyNoBuild_20 : DD cX10_whyNoBuild 20 (.getfield 155) 3 23 := ⟨by decide +kernel, rfl⟩
theorem eX10_whyNoBuild_23 : DD cX10_whyNoBuild 23 (.iload_n 2) 1 24 := ⟨by decide +kernel, rfl⟩
theorem eX10_whyNoBuild_24 : DD cX10_whyNoBuild 24 (.aaload) 1 25 := ⟨by decide +kernel, rfl⟩
theorem eX10_whyNoBuild_25 : DD cX10_whyNoBuild 25 (.invokevirtual 194) 3 28 := ⟨by decide +kernel, rfl⟩
theorem eX10_whyNoBuild_28 : DB cX10_whyNoBuild 28 (.ifCond .ne 7) (7) 31 35 := ⟨by decide +kernel, rfl, by decide⟩
theorem eX10_whyNoBuild_31 : DD cX10_whyNoBuild 31 (.iconst 2) 1 32 := ⟨by decide +kernel, rfl⟩
theorem eX10_whyNoBuild_32 : DB cX10_whyNoBuild 32 (.goto 4) (4) 35 36 := ⟨by decide +kernel, rfl, by decide⟩
theorem eX10_whyNoBuild_35 : DD cX10_whyNoBuild 35 (.iconst (-1)) 1 36 := ⟨by decide +kernel, rfl⟩
theorem eX10_whyNoBuild_36 : DD cX10_whyNoBuild 36 (.ireturn) 1 37 := ⟨by decide +kernel, rfl⟩
def G_X10_whyNoBuild (x1 : Int32) (x2 : Int32) (μ : Mem) : Option (Int32 × Mem) :=
  bd (G_X10_hasColumn x1 x2 μ) (fun r_2 μ_1 => if r_2 = 0 then some ((0 : Int32), μ_1) else gq (inB x1 3) (gq (inB x2 2) (bd (G_X4_drift (lnP ((shP 8 x1) + 2) x2) μ_1) (fun r_6 μ_5 => if r_6 = 0 then some ((2 : Int32), μ_5) else some ((-1 : Int32), μ_5)))))
set_option maxHeartbeats 4000000 in
theorem c_X10_whyNoBuild {X : Wd} (hX : WdOk X) (x1 : Int32) (x2 : Int32) (μ : Mem) : CtI X yX10_whyNoBuild cX10_whyNoBuild 3 (some .int) (rmF 2 43) [.ref (xad X 0), .int x1, .int x2] μ (G_X10_whyNoBuild x1 x2 μ) := by
  refine CtI.of hX (plainFor_of_name (by decide)) (by exact Nat.le_of_ble_eq_true rfl) ?_
  intro C hCX hC hr
  subst hCX
  show J C (KI C) μ 0 [(0, .ref (xad (cX C) 0)), (1, .int x1), (2, .int x2)] [] _
  unfold G_X10_whyNoBuild
  refine J.aload_n (j := 0) hC eX10_whyNoBuild_0 rfl ?_
  refine J.iload_n (j := 1) hC eX10_whyNoBuild_1 rfl ?_
  refine J.iload_n (j := 2) hC eX10_whyNoBuild_2 rfl ?_
  refine J.callVI (st := []) hC eX10_whyNoBuild_3 kk_0 (by decide) rfl rfl ml_X10_170 mv_X10_hasColumn (Rle_of (Nat.le_of_ble_eq_true rfl) (Nat.le_of_ble_eq_true rfl)) (c_X10_hasColumn hC.X x1 x2 μ) rfl rfl (Nat.le_of_ble_eq_true rfl) (fun r_2 μ_1 => ?_)
  refine J.if_ne hC eX10_whyNoBuild_6 (fun _ => ?_) (fun _ => ?_)
  · refine J.iconst hC eX10_whyNoBuild_9 ci_0 ?_
    exact J.iret hC hr eX10_whyNoBuild_10
  · refine J.aload_n (j := 0) hC eX10_whyNoBuild_11 rfl ?_
    refine gf_X10_26 (q := 7) hC eX10_whyNoBuild_12 kk_0 rfl ?_
    refine gf_X10_143 (q := 8) hC eX10_whyNoBuild_15 kk_7 rfl ?_
    refine J.iload_n (j := 1) hC eX10_whyNoBuild_18 rfl ?_
    refine J.aaldS hC eX10_whyNoBuild_19 kk_8 (fun hq_3 => ?_)
    refine gf_X10_155 (q := (shP 8 x1) + 2) hC eX10_whyNoBuild_20 hq_3 rfl ?_
    refine J.iload_n (j := 2) hC eX10_whyNoBuild_23 rfl ?_
    refine J.aaldL hC eX10_whyNoBuild_24 (kf_X7_lanes hq_3) (fun hq_4 => ?_)
    refine J.callVI (st := []) hC eX10_whyNoBuild_25 hq_4 (by decide) rfl rfl ml_X10_194 mv_X4_drift (Rle_of (Nat.le_of_ble_eq_true rfl) (Nat.le_of_ble_eq_true rfl)) (c_X4_drift hC.X (lnP ((shP 8 x1) + 2) x2) hq_4 μ_1) rfl rfl (Nat.le_of_ble_eq_true rfl) (fun r_6 μ_5 => ?_)
    refine J.if_ne hC eX10_whyNoBuild_28 (fun _ => ?_) (fun _ => ?_)
    · refine J.iconst hC eX10_whyNoBuild_31 ci_2 ?_
      refine J.goto hC eX10_whyNoBuild_32 ?_
      exact J.iret hC hr eX10_whyNoBuild_36
    · refine J.iconst hC eX10_whyNoBuild_35 ci_m1 ?_
      exact J.iret hC hr eX10_whyNoBuild_36
-- X10_doBuild
theorem eX10_doBuild_0 : DD cX10_doBuild 0 (.aload_n 0) 1 1 := ⟨by decide +kernel, rfl⟩
theorem eX10_doBuild_1 : DD cX10_doBuild 1 (.getfield 44) 3 4 := ⟨by decide +kernel, rfl⟩
theorem eX10_doBuild_4 : DD cX10_doBuild 4 (.aload_n 0) 1 5 := ⟨by decide +kernel, rfl⟩
theorem eX10_doBuild_5 : DD cX10_doBuild 5 (.getfield 26) 3 8 := ⟨by decide +kernel, rfl⟩
theorem eX10_doBuild_8 : DD cX10_doBuild 8 (.iload_n 1) 1 9 := ⟨by decide +kernel, rfl⟩
theorem eX10_doBuild_9 : DD cX10_doBuild 9 (.invokevirtual 235) 3 12 := ⟨by decide +kernel, rfl⟩
theorem eX10_doBuild_12 : DD cX10_doBuild 12 (.aload_n 0) 1 13 := ⟨by decide +kernel, rfl⟩
theorem eX10_doBuild_13 : DD cX10_doBuild 13 (.getfield 26) 3 16 := ⟨by decide +kernel, rfl⟩
theorem eX10_doBuild_16 : DD cX10_doBuild 16 (.getfield 143) 3 19 := ⟨by decide +kernel, rfl⟩
theorem eX10_doBuild_19 : DD cX10_doBuild 19 (.iload_n 1) 1 20 := ⟨by decide +kernel, rfl⟩
theorem eX10_doBuild_20 : DD cX10_doBuild 20 (.aaload) 1 21 := ⟨by decide +kernel, rfl⟩
theorem eX10_doBuild_21 : DD cX10_doBuild 21 (.getfield 155) 3 24 := ⟨by decide +kernel, rfl⟩
theorem eX10_doBuild_24 : DD cX10_doBuild 24 (.iload_n 2) 1 25 := ⟨by decide +kernel, rfl⟩
theorem eX10_doBuild_25 : DD cX10_doBuild 25 (.aaload) 1 26 := ⟨by decide +kernel, rfl⟩
theorem eX10_doBuild_26 : DD cX10_doBuild 26 (.aload_n 0) 1 27 := ⟨by decide +kernel, rfl⟩
theorem eX10_doBuild_27 : DD cX10_doBuild 27 (.getfield 57) 3 30 := ⟨by decide +kernel, rfl⟩
theorem eX10_doBuild_30 : DD cX10_doBuild 30 (.aload_n 0) 1 31 := ⟨by decide +kernel, rfl⟩
theorem eX10_doBuild_31 : DD cX10_doBuild 31 (.getfield 26) 3 34 := ⟨by decide +kernel, rfl⟩
theorem eX10_doBuild_34 : DD cX10_doBuild 34 (.getfield 123) 3 37 := ⟨by decide +kernel, rfl⟩
theorem eX10_doBuild_37 : DD cX10_doBuild 37 (.invokevirtual 271) 3 40 := ⟨by decide +kernel, rfl⟩
theorem eX10_doBuild_40 : DD cX10_doBuild 40 (.aload_n 0) 1 41 := ⟨by decide +kernel, rfl⟩
theorem eX10_doBuild_41 : DD cX10_doBuild 41 (.getfield 26) 3 44 := ⟨by decide +kernel, rfl⟩
theorem eX10_doBuild_44 : DD cX10_doBuild 44 (.getfield 247) 3 47 := ⟨by decide +kernel, rfl⟩
theorem eX10_doBuild_47 : DD cX10_doBuild 47 (.iconst 3) 1 48 := ⟨by decide +kernel, rfl⟩
theorem eX10_doBuild_48 : DD cX10_doBuild 48 (.iload_n 1) 1 49 := ⟨by decide +kernel, rfl⟩
theorem eX10_doBuild_49 : DD cX10_doBuild 49 (.iload_n 2) 1 50 := ⟨by decide +kernel, rfl⟩
theorem eX10_doBuild_50 : DD cX10_doBuild 50 (.invokevirtual 251) 3 53 := ⟨by decide +kernel, rfl⟩
theorem eX10_doBuild_53 : DD cX10_doBuild 53 (.return_) 1 54 := ⟨by decide +kernel, rfl⟩
def G_X10_doBuild (x1 : Int32) (x2 : Int32) (μ : Mem) : Option (Unit × Mem) :=
  bd (G_X6_open 7 x1 μ) (fun r_2 μ_1 => gq (inB x1 3) (gq (inB x2 2) (bd (G_X4_layAnew (lnP ((shP 8 x1) + 2) x2) (rI μ_1 7 3) μ_1) (fun r_6 μ_5 => bd (G_X3_note 36 (3 : Int32) x1 x2 μ_5) (fun r_8 μ_7 => some ((), μ_7))))))
set_option maxHeartbeats 4000000 in
theorem c_X10_doBuild {X : Wd} (hX : WdOk X) (x1 : Int32) (x2 : Int32) (μ : Mem) : CtV X yX10_doBuild cX10_doBuild 3 none (rmF 3 79) [.ref (xad X 0), .int x1, .int x2] μ (G_X10_doBuild x1 x2 μ) := by
  refine CtV.of hX (plainFor_of_name (by decide)) (by exact Nat.le_of_ble_eq_true rfl) ?_
  intro C hCX hC hr
  subst hCX
  show J C (KV C) μ 0 [(0, .ref (xad (cX C) 0)), (1, .int x1), (2, .int x2)] [] _
  unfold G_X10_doBuild
  refine J.aload_n (j := 0) hC eX10_doBuild_0 rfl ?_
  refine gf_X10_44 (q := 65) hC eX10_doBuild_1 kk_0 rfl ?_
  refine J.aload_n (j := 0) hC eX10_doBuild_4 rfl ?_
  refine gf_X10_26 (q := 7) hC eX10_doBuild_5 kk_0 rfl ?_
  refine J.iload_n (j := 1) hC eX10_doBuild_8 rfl ?_
  refine J.callVV (st := []) hC eX10_doBuild_9 kk_65 (by decide) rfl rfl ml_X10_235 mv_X6_open (Rle_of (Nat.le_of_ble_eq_true rfl) (Nat.le_of_ble_eq_true rfl)) (c_X6_open hC.X 7 kk_7 x1 μ) rfl rfl (Nat.le_of_ble_eq_true rfl) (fun r_2 μ_1 => ?_)
  refine J.aload_n (j := 0) hC eX10_doBuild_12 rfl ?_
  refine gf_X10_26 (q := 7) hC eX10_doBuild_13 kk_0 rfl ?_
  refine gf_X10_143 (q := 8) hC eX10_doBuild_16 kk_7 rfl ?_
  refine J.iload_n (j := 1) hC eX10_doBuild_19 rfl ?_
  refine J.aaldS hC eX10_doBuild_20 kk_8 (fun hq_3 => ?_)
  refine gf_X10_155 (q := (shP 8 x1) + 2) hC eX10_doBuild_21 hq_3 rfl ?_
  refine J.iload_n (j := 2) hC eX10_doBuild_24 rfl ?_
  refine J.aaldL hC eX10_doBuild_25 (kf_X7_lanes hq_3) (fun hq_4 => ?_)
  refine J.aload_n (j := 0) hC eX10_doBuild_26 rfl ?_
  refine gf_X10_57 (q := 99) hC eX10_doBuild_27 kk_0 rfl ?_
  refine J.aload_n (j := 0) hC eX10_doBuild_30 rfl ?_
  refine gf_X10_26 (q := 7) hC eX10_doBuild_31 kk_0 rfl ?_
  refine gf_X10_123 hC eX10_doBuild_34 kk_7 ?_
  refine J.callVV (st := []) hC eX10_doBuild_37 hq_4 (by decide) rfl rfl ml_X10_271 mv_X4_layAnew (Rle_of (Nat.le_of_ble_eq_true rfl) (Nat.le_of_ble_eq_true rfl)) (c_X4_layAnew hC.X (lnP ((shP 8 x1) + 2) x2) hq_4 (rI μ_1 7 3) μ_1) rfl rfl (Nat.le_of_ble_eq_true rfl) (fun r_6 μ_5 => ?_)
  refine J.aload_n (j := 0) hC eX10_doBuild_40 rfl ?_
  refine gf_X10_26 (q := 7) hC eX10_doBuild_41 kk_0 rfl ?_
  refine gf_X10_247 (q := 36) hC eX10_doBuild_44 kk_7 rfl ?_
  refine J.iconst hC eX10_doBuild_47 ci_3 ?_
  refine J.iload_n (j := 1) hC eX10_doBuild_48 rfl ?_
  refine J.iload_n (j := 2) hC eX10_doBuild_49 rfl ?_
  refine J.callVV (st := []) hC eX10_doBuild_50 kk_36 (by decide) rfl rfl ml_X10_251 mv_X3_note (Rle_of (Nat.le_of_ble_eq_true rfl) (Nat.le_of_ble_eq_true rfl)) (c_X3_note hC.X 36 kk_36 (3 : Int32) x1 x2 μ_5) rfl rfl (Nat.le_of_ble_eq_true rfl) (fun r_8 μ_7 => ?_)
  exact J.vret hC hr eX10_doBuild_53
-- X10_build
theorem eX10_build_0 : DD cX10_build 0 (.aload_n 0) 1 1 := ⟨by decide +kernel, rfl⟩
theorem eX10_build_1 : DD cX10_build 1 (.iload_n 1) 1 2 := ⟨by decide +kernel, rfl⟩
theorem eX10_build_2 : DD cX10_build 2 (.iload_n 2) 1 3 := ⟨by decide +kernel, rfl⟩
theorem eX10_build_3 : DD cX10_build 3 (.invokevirtual 256) 3 6 := ⟨by decide +kernel, rfl⟩
theorem eX10_build_6 : DD cX10_build 6 (.istore_n 3) 1 7 := ⟨by decide +kernel, rfl⟩
theorem eX10_build_7 : DD cX10_build 7 (.iload_n 3) 1 8 := ⟨by decide +kernel, rfl⟩
theorem eX10_build_8 : DD cX10_build 8 (.iconst (-1)) 1 9 := ⟨by decide +kernel, rfl⟩
theorem eX10_build_9 : DB cX10_build 9 (.if_icmp .eq 9) (9) 12 18 := ⟨by decide +kernel, rfl, by decide⟩
theorem eX10_build_12 : DD cX10_build 12 (.aload_n 0) 1 13 := ⟨by decide +kernel, rfl⟩
theorem eX10_build_13 : DD cX10_build 13 (.iload_n 3) 1 14 := ⟨by decide +kernel, rfl⟩
theorem eX10_build_14 : DD cX10_build 14 (.invokevirtual 225) 3 17 := ⟨by decide +kernel, rfl⟩
theorem eX10_build_17 : DD cX10_build 17 (.ireturn) 1 18 := ⟨by decide +kernel, rfl⟩
theorem eX10_build_18 : DD cX10_build 18 (.aload_n 0) 1 19 := ⟨by decide +kernel, rfl⟩
theorem eX10_build_19 : DD cX10_build 19 (.iload_n 1) 1 20 := ⟨by decide +kernel, rfl⟩
theorem eX10_build_20 : DD cX10_build 20 (.iload_n 2) 1 21 := ⟨by decide +kernel, rfl⟩
theorem eX10_build_21 : DD cX10_build 21 (.invokevirtual 259) 3 24 := ⟨by decide +kernel, rfl⟩
theorem eX10_build_24 : DD cX10_build 24 (.aload_n 0) 1 25 := ⟨by decide +kernel, rfl⟩
theorem eX10_build_25 : DD cX10_build 25 (.getfield 26) 3 28 := ⟨by decide +kernel, rfl⟩
theorem eX10_build_28 : DD cX10_build 28 (.getfield 143) 3 31 := ⟨by decide +kernel, rfl⟩
theorem eX10_build_31 : DD cX10_build 31 (.iload_n 1) 1 32 := ⟨by decide +kernel, rfl⟩
theorem eX10_build_32 : DD cX10_build 32 (.aaload) 1 33 := ⟨by decide +kernel, rfl⟩
theorem eX10_build_33 : DD cX10_build 33 (.getfield 155) 3 36 := ⟨by decide +kernel, rfl⟩
theorem eX10_build_36 : DD cX10_build 36 (.iload_n 2) 1 37 := ⟨by decide +kernel, rfl⟩
theorem eX10_build_37 : DD cX10_build 37 (.aaload) 1 38 := ⟨by decide +kernel, rfl⟩
theorem eX10_build_38 : DD cX10_build 38 (.invokevirtual 179) 3 41 := ⟨by decide +kernel, rfl⟩
theorem eX10_build_41 : DD cX10_build 41 (.ireturn) 1 42 := ⟨by decide +kernel, rfl⟩
def G_X10_build (x1 : Int32) (x2 : Int32) (μ : Mem) : Option (Int32 × Mem) :=
  bd (G_X10_whyNoBuild x1 x2 μ) (fun r_2 μ_1 => if r_2 = (-1 : Int32) then bd (G_X10_doBuild x1 x2 μ_1) (fun r_4 μ_3 => gq (inB x1 3) (gq (inB x2 2) (bd (G_X4_size (lnP ((shP 8 x1) + 2) x2) μ_3) (fun r_8 μ_7 => some (r_8, μ_7))))) else bd (G_X10_refuse r_2 μ_1) (fun r_10 μ_9 => some (r_10, μ_9)))
set_option maxHeartbeats 4000000 in
theorem c_X10_build {X : Wd} (hX : WdOk X) (x1 : Int32) (x2 : Int32) (μ : Mem) : CtI X yX10_build cX10_build 4 (some .int) (rmF 4 101) [.ref (xad X 0), .int x1, .int x2] μ (G_X10_build x1 x2 μ) := by
  refine CtI.of hX (plainFor_of_name (by decide)) (by exact Nat.le_of_ble_eq_true rfl) ?_
  intro C hCX hC hr
  subst hCX
  show J C (KI C) μ 0 [(0, .ref (xad (cX C) 0)), (1, .int x1), (2, .int x2)] [] _
  unfold G_X10_build
  refine J.aload_n (j := 0) hC eX10_build_0 rfl ?_
  refine J.iload_n (j := 1) hC eX10_build_1 rfl ?_
  refine J.iload_n (j := 2) hC eX10_build_2 rfl ?_
  refine J.callVI (st := []) hC eX10_build_3 kk_0 (by decide) rfl rfl ml_X10_256 mv_X10_whyNoBuild (Rle_of (Nat.le_of_ble_eq_true rfl) (Nat.le_of_ble_eq_true rfl)) (c_X10_whyNoBuild hC.X x1 x2 μ) rfl rfl (Nat.le_of_ble_eq_true rfl) (fun r_2 μ_1 => ?_)
  refine J.istore_n [(3, .int r_2), (0, .ref (xad (cX C) 0)), (1, .int x1), (2, .int x2)] hC eX10_build_6 (by decide) rfl ?_
  refine J.iload_n (j := 0) hC eX10_build_7 rfl ?_
  refine J.iconst hC eX10_build_8 ci_m1 ?_
  refine J.icmp_eq hC eX10_build_9 (fun _ => ?_) (fun _ => ?_)
  · refine J.aload_n (j := 1) hC eX10_build_18 rfl ?_
    refine J.iload_n (j := 2) hC eX10_build_19 rfl ?_
    refine J.iload_n (j := 3) hC eX10_build_20 rfl ?_
    refine J.callVV (st := []) hC eX10_build_21 kk_0 (by decide) rfl rfl ml_X10_259 mv_X10_doBuild (Rle_of (Nat.le_of_ble_eq_true rfl) (Nat.le_of_ble_eq_true rfl)) (c_X10_doBuild hC.X x1 x2 μ_1) rfl rfl (Nat.le_of_ble_eq_true rfl) (fun r_4 μ_3 => ?_)
    refine J.aload_n (j := 1) hC eX10_build_24 rfl ?_
    refine gf_X10_26 (q := 7) hC eX10_build_25 kk_0 rfl ?_
    refine gf_X10_143 (q := 8) hC eX10_build_28 kk_7 rfl ?_
    refine J.iload_n (j := 2) hC eX10_build_31 rfl ?_
    refine J.aaldS hC eX10_build_32 kk_8 (fun hq_5 => ?_)
    refine gf_X10_155 (q := (shP 8 x1) + 2) hC eX10_build_33 hq_5 rfl ?_
    refine J.iload_n (j := 3) hC eX10_build_36 rfl ?_
    refine J.aaldL hC eX10_build_37 (kf_X7_lanes hq_5) (fun hq_6 => ?_)
    refine J.callVI (st := []) hC eX10_build_38 hq_6 (by decide) rfl rfl ml_X10_179 mv_X4_size (Rle_of (Nat.le_of_ble_eq_true rfl) (Nat.le_of_ble_eq_true rfl)) (c_X4_size hC.X (lnP ((shP 8 x1) + 2) x2) hq_6 μ_3) rfl rfl (Nat.le_of_ble_eq_true rfl) (fun r_8 μ_7 => ?_)
    exact J.iret hC hr eX10_build_41
  · refine J.aload_n (j := 1) hC eX10_build_12 rfl ?_
    refine J.iload_n (j := 0) hC eX10_build_13 rfl ?_
    refine J.callVI (st := []) hC eX10_build_14 kk_0 (by decide) rfl rfl ml_X10_225 mv_X10_refuse (Rle_of (Nat.le_of_ble_eq_true rfl) (Nat.le_of_ble_eq_true rfl)) (c_X10_refuse hC.X r_2 μ_1) rfl rfl (Nat.le_of_ble_eq_true rfl) (fun r_10 μ_9 => ?_)
    exact J.iret hC hr eX10_build_17
-- X10_budget
theorem eX10_budget_0 : DD cX10_budget 0 (.aload_n 0) 1 1 := ⟨by decide +kernel, rfl⟩
theorem eX10_budget_1 : DD cX10_budget 1 (.invokevirtual 119) 3 4 := ⟨by decide +kernel, rfl⟩
theorem eX10_budget_4 : DB cX10_budget 4 (.ifCond .ne 9) (9) 7 13 := ⟨by decide +kernel, rfl, by decide⟩
theorem eX10_budget_7 : DD cX10_budget 7 (.aload_n 0) 1 8 := ⟨by decide +kernel, rfl⟩
theorem eX10_budget_8 : DD cX10_budget 8 (.iconst 0) 1 9 := ⟨by decide +kernel, rfl⟩
theorem eX10_budget_9 : DD cX10_budget 9 (.invokevirtual 225) 3 12 := ⟨by decide +kernel, rfl⟩
theorem eX10_budget_12 : DD cX10_budget 12 (.ireturn) 1 13 := ⟨by decide +kernel, rfl⟩
theorem eX10_budget_13 : DD cX10_budget 13 (.iload_n 1) 1 14 := ⟨by decide +kernel, rfl⟩
theorem eX10_budget_14 : DD cX10_budget 14 (.iconst 1) 1 15 := ⟨by decide +kernel, rfl⟩
theorem eX10_budget_15 : DB cX10_budget 15 (.if_icmp .lt 10) (10) 18 25 := ⟨by decide +kernel, rfl, by decide⟩
theorem eX10_budget_18 : DD cX10_budget 18 (.iload_n 1) 1 19 := ⟨by decide +kernel, rfl⟩
theorem eX10_budget_19 : DD cX10_budget 19 (.sipush 999) 3 22 := ⟨by decide +kernel, rfl⟩
theorem eX10_budget_22 : DB cX10_budget 22 (.if_icmp .le 9) (9) 25 31 := ⟨by decide +kernel, rfl, by decide⟩
theorem eX10_budget_25 : DD cX10_budget 25 (.aload_n 0) 1 26 := ⟨by decide +kernel, rfl⟩
theorem eX10_budget_26 : DD cX10_budget 26 (.iconst 1) 1 27 := ⟨by decide +kernel, rfl⟩
theorem eX10_budget_27 : DD cX10_budget 27 (.invokevirtual 225) 3 30 := ⟨by decide +kernel, rfl⟩
theorem eX10_budget_30 : DD cX10_budget 30 (.ireturn) 1 31 := ⟨by decide +kernel, rfl⟩
theorem eX10_budget_31 : DD cX10_budget 31 (.iload_n 1) 1 32 := ⟨by decide +kernel, rfl⟩
theorem eX10_budget_32 : DD cX10_budget 32 (.aload_n 0) 1 33 := ⟨by decide +kernel, rfl⟩
theorem eX10_budget_33 : DD cX10_budget 33 (.getfield 26) 3 36 := ⟨by decide +kernel, rfl⟩
theorem eX10_budget_36 : DD cX10_budget 36 (.getfield 129) 3 39 := ⟨by decide +kernel, rfl⟩
theorem eX10_budget_39 : DB cX10_budget 39 (.if_icmp .ne 9) (9) 42 48 := ⟨by decide +kernel, rfl, by decide⟩
theorem eX10_budget_42 : DD cX10_budget 42 (.aload_n 0) 1 43 := ⟨by decide +kernel, rfl⟩
theorem eX10_budget_43 : DD cX10_budget 43 (.iconst 2) 1 44 := ⟨by decide +kernel, rfl⟩
theorem eX10_budget_44 : DD cX10_budget 44 (.invokevirtual 225) 3 47 := ⟨by decide +kernel, rfl⟩
theorem eX10_budget_47 : DD cX10_budget 47 (.ireturn) 1 48 := ⟨by decide +kernel, rfl⟩
theorem eX10_budget_48 : DD cX10_budget 48 (.aload_n 0) 1 49 := ⟨by decide +kernel, rfl⟩
theorem eX10_budget_49 : DD cX10_budget 49 (.getfield 26) 3 52 := ⟨by decide +kernel, rfl⟩
theorem eX10_budget_52 : DD cX10_budget 52 (.getfield 129) 3 55 := ⟨by decide +kernel, rfl⟩
theorem eX10_budget_55 : DD cX10_budget 55 (.istore_n 2) 1 56 := ⟨by decide +kernel, rfl⟩
theorem eX10_budget_56 : DD cX10_budget 56 (.aload_n 0) 1 57 := ⟨by decide +kernel, rfl⟩
theorem eX10_budget_57 : DD cX10_budget 57 (.getfield 44) 3 60 := ⟨by decide +kernel, rfl⟩
theorem eX10_budget_60 : DD cX10_budget 60 (.aload_n 0) 1 61 := ⟨by decide +kernel, rfl⟩
theorem eX10_budget_61 : DD cX10_budget 61 (.getfield 26) 3 64 := ⟨by decide +kernel, rfl⟩
theorem eX10_budget_64 : DD cX10_budget 64 (.iconst (-1)) 1 65 := ⟨by decide +kernel, rfl⟩
theorem eX10_budget_65 : DD cX10_budget 65 (.invokevirtual 235) 3 68 := ⟨by decide +kernel, rfl⟩
theorem eX10_budget_68 : DD cX10_budget 68 (.aload_n 0) 1 69 := ⟨by decide +kernel, rfl⟩
theorem eX10_budget_69 : DD cX10_budget 69 (.getfield 26) 3 72 := ⟨by decide +kernel, rfl⟩
theorem eX10_budget_72 : DD cX10_budget 72 (.iload_n 1) 1 73 := ⟨by decide +kernel, rfl⟩
theorem eX10_budget_73 : DD cX10_budget 73 (.putfield 129) 3 76 := ⟨by decide +kernel, rfl⟩
theorem eX10_budget_76 : DD cX10_budget 76 (.aload_n 0) 1 77 := ⟨by decide +kernel, rfl⟩
theorem eX10_budget_77 : DD cX10_budget 77 (.getfield 26) 3 80 := ⟨by decide +kernel, rfl⟩
theorem eX10_budget_80 : DD cX10_budget 80 (.getfield 247) 3 83 := ⟨by decide +kernel, rfl⟩
theorem eX10_budget_83 : DD cX10_budget 83 (.iconst 4) 1 84 := ⟨by decide +kernel, rfl⟩
theorem eX10_budget_84 : DD cX10_budget 84 (.iconst (-1)) 1 85 := ⟨by decide +kernel, rfl⟩
theorem eX10_budget_85 : DD cX10_budget 85 (.iload_n 1) 1 86 := ⟨by decide +kernel, rfl⟩
theorem eX10_budget_86 : DD cX10_budget 86 (.invokevirtual 251) 3 89 := ⟨by decide +kernel, rfl⟩
theorem eX10_budget_89 : DD cX10_budget 89 (.iload_n 2) 1 90 := ⟨by decide +kernel, rfl⟩
theorem eX10_budget_90 : DD cX10_budget 90 (.ireturn) 1 91 := ⟨by decide +kernel, rfl⟩
def F_X10_budget_25  (μ : Mem) : Option (Int32 × Mem) :=
  bd (G_X10_refuse (1 : Int32) μ) (fun r_2 μ_1 => some (r_2, μ_1))
set_option maxHeartbeats 4000000 in
theorem j_X10_budget_25 {C : Cx} (hC : Ok C cX10_budget 3 RX10 (rmF 2 47)) (hr : (cT C).sig.returnType = (some .int))  (μ : Mem) : J C (KI C) μ 25 [(0, .ref (xad (cX C) 0))] [] (F_X10_budget_25   μ) := by
  unfold F_X10_budget_25
  refine J.aload_n (j := 0) hC eX10_budget_25 rfl ?_
  refine J.iconst hC eX10_budget_26 ci_1 ?_
  refine J.callVI (st := []) hC eX10_budget_27 kk_0 (by decide) rfl rfl ml_X10_225 mv_X10_refuse (Rle_of (Nat.le_of_ble_eq_true rfl) (Nat.le_of_ble_eq_true rfl)) (c_X10_refuse hC.X (1 : Int32) μ) rfl rfl (Nat.le_of_ble_eq_true rfl) (fun r_2 μ_1 => ?_)
  exact J.iret hC hr eX10_budget_30
def G_X10_budget (x1 : Int32) (μ : Mem) : Option (Int32 × Mem) :=
  bd (G_X10_hasBook  μ) (fun r_2 μ_1 => if r_2 = 0 then bd (G_X10_refuse (0 : Int32) μ_1) (fun r_4 μ_3 => some (r_4, μ_3)) else if x1 < (1 : Int32) then F_X10_budget_25   μ_1 else if x1 ≤ (999 : Int32) then if x1 = (rI μ_1 7 5) then bd (G_X10_refuse (2 : Int32) μ_1) (fun r_6 μ_5 => some (r_6, μ_5)) else lb (rI μ_1 7 5) (fun x2_7 => bd (G_X6_open 7 (-1 : Int32) μ_1) (fun r_9 μ_8 => lb (wI μ_8 7 5 x1) (fun μ_10 => bd (G_X3_note 36 (4 : Int32) (-1 : Int32) x1 μ_10) (fun r_12 μ_11 => some (x2_7, μ_11))))) else F_X10_budget_25   μ_1)
set_option maxHeartbeats 4000000 in
theorem c_X10_budget {X : Wd} (hX : WdOk X) (x1 : Int32) (μ : Mem) : CtI X yX10_budget cX10_budget 3 (some .int) (rmF 2 47) [.ref (xad X 0), .int x1] μ (G_X10_budget x1 μ) := by
  refine CtI.of hX (plainFor_of_name (by decide)) (by exact Nat.le_of_ble_eq_true rfl) ?_
  intro C hCX hC hr
  subst hCX
  show J C (KI C) μ 0 [(0, .ref (xad (cX C) 0)), (1, .int x1)] [] _
  unfold G_X10_budget
  refine J.aload_n (j := 0) hC eX10_budget_0 rfl ?_
  refine J.callVI (st := []) hC eX10_budget_1 kk_0 (by decide) rfl rfl ml_X10_119 mv_X10_hasBook (Rle_of (Nat.le_of_ble_eq_true rfl) (Nat.le_of_ble_eq_true rfl)) (c_X10_hasBook hC.X  μ) rfl rfl (Nat.le_of_ble_eq_true rfl) (fun r_2 μ_1 => ?_)
  refine J.if_ne hC eX10_budget_4 (fun _ => ?_) (fun _ => ?_)
  · refine J.aload_n (j := 0) hC eX10_budget_7 rfl ?_
    refine J.iconst hC eX10_budget_8 ci_0 ?_
    refine J.callVI (st := []) hC eX10_budget_9 kk_0 (by decide) rfl rfl ml_X10_225 mv_X10_refuse (Rle_of (Nat.le_of_ble_eq_true rfl) (Nat.le_of_ble_eq_true rfl)) (c_X10_refuse hC.X (0 : Int32) μ_1) rfl rfl (Nat.le_of_ble_eq_true rfl) (fun r_4 μ_3 => ?_)
    exact J.iret hC hr eX10_budget_12
  · refine J.iload_n (j := 1) hC eX10_budget_13 rfl ?_
    refine J.iconst hC eX10_budget_14 ci_1 ?_
    refine J.icmp_lt hC eX10_budget_15 (fun _ => ?_) (fun _ => ?_)
    · refine J.sub [0] rfl ?_
      exact j_X10_budget_25 hC hr   μ_1
    · refine J.iload_n (j := 1) hC eX10_budget_18 rfl ?_
      refine J.sipush hC eX10_budget_19 cs_999 ?_
      refine J.icmp_le hC eX10_budget_22 (fun _ => ?_) (fun _ => ?_)
      · refine J.iload_n (j := 1) hC eX10_budget_31 rfl ?_
        refine J.aload_n (j := 0) hC eX10_budget_32 rfl ?_
        refine gf_X10_26 (q := 7) hC eX10_budget_33 kk_0 rfl ?_
        refine gf_X10_129 hC eX10_budget_36 kk_7 ?_
        refine J.icmp_ne hC eX10_budget_39 (fun _ => ?_) (fun _ => ?_)
        · refine J.aload_n (j := 0) hC eX10_budget_42 rfl ?_
          refine J.iconst hC eX10_budget_43 ci_2 ?_
          refine J.callVI (st := []) hC eX10_budget_44 kk_0 (by decide) rfl rfl ml_X10_225 mv_X10_refuse (Rle_of (Nat.le_of_ble_eq_true rfl) (Nat.le_of_ble_eq_true rfl)) (c_X10_refuse hC.X (2 : Int32) μ_1) rfl rfl (Nat.le_of_ble_eq_true rfl) (fun r_6 μ_5 => ?_)
          exact J.iret hC hr eX10_budget_47
        · refine J.aload_n (j := 0) hC eX10_budget_48 rfl ?_
          refine gf_X10_26 (q := 7) hC eX10_budget_49 kk_0 rfl ?_
          refine gf_X10_129 hC eX10_budget_52 kk_7 ?_
          refine J.topi (fun x2_7 => ?_)
          refine J.istore_n [(2, .int x2_7), (0, .ref (xad (cX C) 0)), (1, .int x1)] hC eX10_budget_55 (by decide) rfl ?_
          refine J.aload_n (j := 1) hC eX10_budget_56 rfl ?_
          refine gf_X10_44 (q := 65) hC eX10_budget_57 kk_0 rfl ?_
          refine J.aload_n (j := 1) hC eX10_budget_60 rfl ?_
          refine gf_X10_26 (q := 7) hC eX10_budget_61 kk_0 rfl ?_
          refine J.iconst hC eX10_budget_64 ci_m1 ?_
          refine J.callVV (st := []) hC eX10_budget_65 kk_65 (by decide) rfl rfl ml_X10_235 mv_X6_open (Rle_of (Nat.le_of_ble_eq_true rfl) (Nat.le_of_ble_eq_true rfl)) (c_X6_open hC.X 7 kk_7 (-1 : Int32) μ_1) rfl rfl (Nat.le_of_ble_eq_true rfl) (fun r_9 μ_8 => ?_)
          refine J.aload_n (j := 1) hC eX10_budget_68 rfl ?_
          refine gf_X10_26 (q := 7) hC eX10_budget_69 kk_0 rfl ?_
          refine J.iload_n (j := 2) hC eX10_budget_72 rfl ?_
          refine pf_X10_129 hC eX10_budget_73 kk_7 (fun μ_10 => ?_)
          refine J.aload_n (j := 1) hC eX10_budget_76 rfl ?_
          refine gf_X10_26 (q := 7) hC eX10_budget_77 kk_0 rfl ?_
          refine gf_X10_247 (q := 36) hC eX10_budget_80 kk_7 rfl ?_
          refine J.iconst hC eX10_budget_83 ci_4 ?_
          refine J.iconst hC eX10_budget_84 ci_m1 ?_
          refine J.iload_n (j := 2) hC eX10_budget_85 rfl ?_
          refine J.callVV (st := []) hC eX10_budget_86 kk_36 (by decide) rfl rfl ml_X10_251 mv_X3_note (Rle_of (Nat.le_of_ble_eq_true rfl) (Nat.le_of_ble_eq_true rfl)) (c_X3_note hC.X 36 kk_36 (4 : Int32) (-1 : Int32) x1 μ_10) rfl rfl (Nat.le_of_ble_eq_true rfl) (fun r_12 μ_11 => ?_)
          refine J.iload_n (j := 0) hC eX10_budget_89 rfl ?_
          exact J.iret hC hr eX10_budget_90
      · refine J.sub [0] rfl ?_
        exact j_X10_budget_25 hC hr   μ_1
-- X10_draw
theorem eX10_draw_0 : DD cX10_draw 0 (.aload_n 0) 1 1 := ⟨by decide +kernel, rfl⟩
theorem eX10_draw_1 : DD cX10_draw 1 (.aload_n 0) 1 2 := ⟨by decide +kernel, rfl⟩
theorem eX10_draw_2 : DD cX10_draw 2 (.getfield 82) 3 5 := ⟨by decide +kernel, rfl⟩
theorem eX10_draw_5 : DD cX10_draw 5 (.ldc2_w 287) 3 8 := ⟨by decide +kernel, rfl⟩
theorem eX10_draw_8 : DD cX10_draw 8 (.lmul) 1 9 := ⟨by decide +kernel, rfl⟩
theorem eX10_draw_9 : DD cX10_draw 9 (.ldc2_w 289) 3 12 := ⟨by decide +kernel, rfl⟩
theorem eX10_draw_12 : DD cX10_draw 12 (.ladd) 1 13 := ⟨by decide +kernel, rfl⟩
theorem eX10_draw_13 : DD cX10_draw 13 (.putfield 82) 3 16 := ⟨by decide +kernel, rfl⟩
theorem eX10_draw_16 : DD cX10_draw 16 (.iload_n 1) 1 17 := ⟨by decide +kernel, rfl⟩
theorem eX10_draw_17 : DB cX10_draw 17 (.ifCond .le 17) (17) 20 34 := ⟨by decide +kernel, rfl, by decide⟩
theorem eX10_draw_20 : DD cX10_draw 20 (.aload_n 0) 1 21 := ⟨by decide +kernel, rfl⟩
theorem eX10_draw_21 : DD cX10_draw 21 (.getfield 82) 3 24 := ⟨by decide +kernel, rfl⟩
theorem eX10_draw_24 : DD cX10_draw 24 (.bipush 33) 2 26 := ⟨by decide +kernel, rfl⟩
theorem eX10_draw_26 : DD cX10_draw 26 (.lushr) 1 27 := ⟨by decide +kernel, rfl⟩
theorem eX10_draw_27 : DD cX10_draw 27 (.iload_n 1) 1 28 := ⟨by decide +kernel, rfl⟩
theorem eX10_draw_28 : DD cX10_draw 28 (.i2l) 1 29 := ⟨by decide +kernel, rfl⟩
theorem eX10_draw_29 : DD cX10_draw 29 (.lrem) 1 30 := ⟨by decide +kernel, rfl⟩
theorem eX10_draw_30 : DD cX10_draw 30 (.l2i) 1 31 := ⟨by decide +kernel, rfl⟩
theorem eX10_draw_31 : DB cX10_draw 31 (.goto 4) (4) 34 35 := ⟨by decide +kernel, rfl, by decide⟩
theorem eX10_draw_34 : DD cX10_draw 34 (.iconst 0) 1 35 := ⟨by decide +kernel, rfl⟩
theorem eX10_draw_35 : DD cX10_draw 35 (.ireturn) 1 36 := ⟨by decide +kernel, rfl⟩
def G_X10_draw (x1 : Int32) (μ : Mem) : Option (Int32 × Mem) :=
  lb (wL μ 0 13 (((rL μ 0 13) * (6364136223846793005 : Int64)) + (1442695040888963407 : Int64))) (fun μ_1 => if x1 ≤ 0 then some ((0 : Int32), μ_1) else gq (decide (¬ x1.toInt64 = 0)) (some (((((rL μ_1 0 13).toUInt64 >>> ((33 : Int32).toInt64.toUInt64 &&& Int64.toUInt64 63)).toInt64) - (((rL μ_1 0 13).toUInt64 >>> ((33 : Int32).toInt64.toUInt64 &&& Int64.toUInt64 63)).toInt64) / x1.toInt64 * x1.toInt64).toInt32, μ_1)))
set_option maxHeartbeats 4000000 in
theorem c_X10_draw {X : Wd} (hX : WdOk X) (x1 : Int32) (μ : Mem) : CtI X yX10_draw cX10_draw 2 (some .int) (rmF 0 0) [.ref (xad X 0), .int x1] μ (G_X10_draw x1 μ) := by
  refine CtI.of hX (plainFor_of_name (by decide)) (by exact Nat.le_of_ble_eq_true rfl) ?_
  intro C hCX hC hr
  subst hCX
  show J C (KI C) μ 0 [(0, .ref (xad (cX C) 0)), (1, .int x1)] [] _
  unfold G_X10_draw
  refine J.aload_n (j := 0) hC eX10_draw_0 rfl ?_
  refine J.aload_n (j := 0) hC eX10_draw_1 rfl ?_
  refine gf_X10_82 hC eX10_draw_2 kk_0 ?_
  refine J.ldc2 hC eX10_draw_5 mk_X10_287 ?_
  refine J.lmul hC eX10_draw_8 ?_
  refine J.ldc2 hC eX10_draw_9 mk_X10_289 ?_
  refine J.ladd hC eX10_draw_12 ?_
  refine pf_X10_82 hC eX10_draw_13 kk_0 (fun μ_1 => ?_)
  refine J.iload_n (j := 1) hC eX10_draw_16 rfl ?_
  refine J.if_le hC eX10_draw_17 (fun _ => ?_) (fun _ => ?_)
  · refine J.iconst hC eX10_draw_34 ci_0 ?_
    exact J.iret hC hr eX10_draw_35
  · refine J.aload_n (j := 0) hC eX10_draw_20 rfl ?_
    refine gf_X10_82 hC eX10_draw_21 kk_0 ?_
    refine J.bipush hC eX10_draw_24 cb_33 ?_
    refine J.lushr hC eX10_draw_26 ?_
    refine J.iload_n (j := 1) hC eX10_draw_27 rfl ?_
    refine J.i2l hC eX10_draw_28 ?_
    refine J.lrem hC eX10_draw_29 ?_
    refine J.l2i hC eX10_draw_30 ?_
    refine J.goto hC eX10_draw_31 ?_
    exact J.iret hC hr eX10_draw_35
-- X10_drawOrMissing
theorem eX10_drawOrMissing_0 : DD cX10_drawOrMissing 0 (.aload_n 0) 1 1 := ⟨by decide +kernel, rfl⟩
theorem eX10_drawOrMissing_1 : DD cX10_drawOrMissing 1 (.iload_n 1) 1 2 := ⟨by decide +kernel, rfl⟩
theorem eX10_drawOrMissing_2 : DD cX10_drawOrMissing 2 (.iconst 1) 1 3 := ⟨by decide +kernel, rfl⟩
theorem eX10_drawOrMissing_3 : DD cX10_drawOrMissing 3 (.iadd) 1 4 := ⟨by decide +kernel, rfl⟩
theorem eX10_drawOrMissing_4 : DD cX10_drawOrMissing 4 (.invokevirtual 281) 3 7 := ⟨by decide +kernel, rfl⟩
theorem eX10_drawOrMissing_7 : DD cX10_drawOrMissing 7 (.istore_n 2) 1 8 := ⟨by decide +kernel, rfl⟩
theorem eX10_drawOrMissing_8 : DD cX10_drawOrMissing 8 (.iload_n 2) 1 9 := ⟨by decide +kernel, rfl⟩
theorem eX10_drawOrMissing_9 : DD cX10_drawOrMissing 9 (.iload_n 1) 1 10 := ⟨by decide +kernel, rfl⟩
theorem eX10_drawOrMissing_10 : DB cX10_drawOrMissing 10 (.if_icmp .ne 7) (7) 13 17 := ⟨by decide +kernel, rfl, by decide⟩
theorem eX10_drawOrMissing_13 : DD cX10_drawOrMissing 13 (.iconst (-1)) 1 14 := ⟨by decide +kernel, rfl⟩
theorem eX10_drawOrMissing_14 : DB cX10_drawOrMissing 14 (.goto 4) (4) 17 18 := ⟨by decide +kernel, rfl, by decide⟩
theorem eX10_drawOrMissing_17 : DD cX10_drawOrMissing 17 (.iload_n 2) 1 18 := ⟨by decide +kernel, rfl⟩
theorem eX10_drawOrMissing_18 : DD cX10_drawOrMissing 18 (.ireturn) 1 19 := ⟨by decide +kernel, rfl⟩
def G_X10_drawOrMissing (x1 : Int32) (μ : Mem) : Option (Int32 × Mem) :=
  bd (G_X10_draw (x1 + (1 : Int32)) μ) (fun r_2 μ_1 => if r_2 = x1 then some ((-1 : Int32), μ_1) else some (r_2, μ_1))
set_option maxHeartbeats 4000000 in
theorem c_X10_drawOrMissing {X : Wd} (hX : WdOk X) (x1 : Int32) (μ : Mem) : CtI X yX10_drawOrMissing cX10_drawOrMissing 3 (some .int) (rmF 1 21) [.ref (xad X 0), .int x1] μ (G_X10_drawOrMissing x1 μ) := by
  refine CtI.of hX (plainFor_of_name (by decide)) (by exact Nat.le_of_ble_eq_true rfl) ?_
  intro C hCX hC hr
  subst hCX
  show J C (KI C) μ 0 [(0, .ref (xad (cX C) 0)), (1, .int x1)] [] _
  unfold G_X10_drawOrMissing
  refine J.aload_n (j := 0) hC eX10_drawOrMissing_0 rfl ?_
  refine J.iload_n (j := 1) hC eX10_drawOrMissing_1 rfl ?_
  refine J.iconst hC eX10_drawOrMissing_2 ci_1 ?_
  refine J.iadd hC eX10_drawOrMissing_3 ?_
  refine J.callVI (st := []) hC eX10_drawOrMissing_4 kk_0 (by decide) rfl rfl ml_X10_281 mv_X10_draw (Rle_of (Nat.le_of_ble_eq_true rfl) (Nat.le_of_ble_eq_true rfl)) (c_X10_draw hC.X (x1 + (1 : Int32)) μ) rfl rfl (Nat.le_of_ble_eq_true rfl) (fun r_2 μ_1 => ?_)
  refine J.istore_n [(2, .int r_2), (0, .ref (xad (cX C) 0)), (1, .int x1)] hC eX10_drawOrMissing_7 (by decide) rfl ?_
  refine J.iload_n (j := 0) hC eX10_drawOrMissing_8 rfl ?_
  refine J.iload_n (j := 2) hC eX10_drawOrMissing_9 rfl ?_
  refine J.icmp_ne hC eX10_drawOrMissing_10 (fun _ => ?_) (fun _ => ?_)
  · refine J.iconst hC eX10_drawOrMissing_13 ci_m1 ?_
    refine J.goto hC eX10_drawOrMissing_14 ?_
    exact J.iret hC hr eX10_drawOrMissing_18
  · refine J.iload_n (j := 0) hC eX10_drawOrMissing_17 rfl ?_
    exact J.iret hC hr eX10_drawOrMissing_18
-- X10_passYear
theorem eX10_passYear_0 : DD cX10_passYear 0 (.aload_n 0) 1 1 := ⟨by decide +kernel, rfl⟩
theorem eX10_passYear_1 : DD cX10_passYear 1 (.iconst 4) 1 2 := ⟨by decide +kernel, rfl⟩
theorem eX10_passYear_2 : DD cX10_passYear 2 (.invokevirtual 281) 3 5 := ⟨by decide +kernel, rfl⟩
theorem eX10_passYear_5 : DD cX10_passYear 5 (.istore_n 1) 1 6 := ⟨by decide +kernel, rfl⟩
theorem eX10_passYear_6 : DD cX10_passYear 6 (.aload_n 0) 1 7 := ⟨by decide +kernel, rfl⟩
theorem eX10_passYear_7 : DD cX10_passYear 7 (.aload_n 0) 1 8 := ⟨by decide +kernel, rfl⟩
theorem eX10_passYear_8 : DD cX10_passYear 8 (.getfield 26) 3 11 := ⟨by decide +kernel, rfl⟩
theorem eX10_passYear_11 : DD cX10_passYear 11 (.getfield 116) 3 14 := ⟨by decide +kernel, rfl⟩
theorem eX10_passYear_14 : DD cX10_passYear 14 (.invokevirtual 281) 3 17 := ⟨by decide +kernel, rfl⟩
theorem eX10_passYear_17 : DD cX10_passYear 17 (.istore_n 2) 1 18 := ⟨by decide +kernel, rfl⟩
theorem eX10_passYear_18 : DD cX10_passYear 18 (.iload_n 1) 1 19 := ⟨by decide +kernel, rfl⟩
theorem eX10_passYear_19 : DD cX10_passYear 19 (.iconst 3) 1 20 := ⟨by decide +kernel, rfl⟩
theorem eX10_passYear_20 : DB cX10_passYear 20 (.if_icmp .ne 26) (26) 23 46 := ⟨by decide +kernel, rfl, by decide⟩
theorem eX10_passYear_23 : DD cX10_passYear 23 (.aload_n 0) 1 24 := ⟨by decide +kernel, rfl⟩
theorem eX10_passYear_24 : DD cX10_passYear 24 (.iconst 2) 1 25 := ⟨by decide +kernel, rfl⟩
theorem eX10_passYear_25 : DD cX10_passYear 25 (.invokevirtual 281) 3 28 := ⟨by decide +kernel, rfl⟩
theorem eX10_passYear_28 : DD cX10_passYear 28 (.istore_n 3) 1 29 := ⟨by decide +kernel, rfl⟩
theorem eX10_passYear_29 : DD cX10_passYear 29 (.aload_n 0) 1 30 := ⟨by decide +kernel, rfl⟩
theorem eX10_passYear_30 : DD cX10_passYear 30 (.iload_n 2) 1 31 := ⟨by decide +kernel, rfl⟩
theorem eX10_passYear_31 : DD cX10_passYear 31 (.iload_n 3) 1 32 := ⟨by decide +kernel, rfl⟩
theorem eX10_passYear_32 : DD cX10_passYear 32 (.invokevirtual 256) 3 35 := ⟨by decide +kernel, rfl⟩
theorem eX10_passYear_35 : DD cX10_passYear 35 (.iconst (-1)) 1 36 := ⟨by decide +kernel, rfl⟩
theorem eX10_passYear_36 : DB cX10_passYear 36 (.if_icmp .ne 9) (9) 39 45 := ⟨by decide +kernel, rfl, by decide⟩
theorem eX10_passYear_39 : DD cX10_passYear 39 (.aload_n 0) 1 40 := ⟨by decide +kernel, rfl⟩
theorem eX10_passYear_40 : DD cX10_passYear 40 (.iload_n 2) 1 41 := ⟨by decide +kernel, rfl⟩
theorem eX10_passYear_41 : DD cX10_passYear 41 (.iload_n 3) 1 42 := ⟨by decide +kernel, rfl⟩
theorem eX10_passYear_42 : DD cX10_passYear 42 (.invokevirtual 259) 3 45 := ⟨by decide +kernel, rfl⟩
theorem eX10_passYear_45 : DD cX10_passYear 45 (.return_) 1 46 := ⟨by decide +kernel, rfl⟩
theorem eX10_passYear_46 : DD cX10_passYear 46 (.aload_n 0) 1 47 := ⟨by decide +kernel, rfl⟩
theorem eX10_passYear_47 : DD cX10_passYear 47 (.getfield 26) 3 50 := ⟨by decide +kernel, rfl⟩
theorem eX10_passYear_50 : DD cX10_passYear 50 (.getfield 143) 3 53 := ⟨by decide +kernel, rfl⟩
theorem eX10_passYear_53 : DD cX10_passYear 53 (.iload_n 2) 1 54 := ⟨by decide +kernel, rfl⟩
theorem eX10_passYear_54 : DD cX10_passYear 54 (.aaload) 1 55 := ⟨by decide +kernel, rfl⟩
theorem eX10_passYear_55 : DD cX10_passYear 55 (.getfield 147) 3 58 := ⟨by decide +kernel, rfl⟩
theorem eX10_passYear_58 : DD cX10_passYear 58 (.istore_n 3) 1 59 := ⟨by decide +kernel, rfl⟩
theorem eX10_passYear_59 : DD cX10_passYear 59 (.aload_n 0) 1 60 := ⟨by decide +kernel, rfl⟩
theorem eX10_passYear_60 : DD cX10_passYear 60 (.iload_n 3) 1 61 := ⟨by decide +kernel, rfl⟩
theorem eX10_passYear_61 : DD cX10_passYear 61 (.invokevirtual 284) 3 64 := ⟨by decide +kernel, rfl⟩
theorem eX10_passYear_64 : DD cX10_passYear 64 (.istore 4) 2 66 := ⟨by decide +kernel, rfl⟩
theorem eX10_passYear_66 : DD cX10_passYear 66 (.aload_n 0) 1 67 := ⟨by decide +kernel, rfl⟩
theorem eX10_passYear_67 : DD cX10_passYear 67 (.iload_n 3) 1 68 := ⟨by decide +kernel, rfl⟩
theorem eX10_passYear_68 : DD cX10_passYear 68 (.invokevirtual 284) 3 71 := ⟨by decide +kernel, rfl⟩
theorem eX10_passYear_71 : DD cX10_passYear 71 (.istore 5) 2 73 := ⟨by decide +kernel, rfl⟩
theorem eX10_passYear_73 : DD cX10_passYear 73 (.aload_n 0) 1 74 := ⟨by decide +kernel, rfl⟩
theorem eX10_passYear_74 : DD cX10_passYear 74 (.iconst 5) 1 75 := ⟨by decide +kernel, rfl⟩
theorem eX10_passYear_75 : DD cX10_passYear 75 (.invokevirtual 281) 3 78 := ⟨by decide +kernel, rfl⟩
theorem eX10_passYear_78 : DD cX10_passYear 78 (.iconst 1) 1 79 := ⟨by decide +kernel, rfl⟩
theorem eX10_passYear_79 : DD cX10_passYear 79 (.iadd) 1 80 := ⟨by decide +kernel, rfl⟩
theorem eX10_passYear_80 : DD cX10_passYear 80 (.istore 6) 2 82 := ⟨by decide +kernel, rfl⟩
theorem eX10_passYear_82 : DD cX10_passYear 82 (.iload_n 1) 1 83 := ⟨by decide +kernel, rfl⟩
theorem eX10_passYear_83 : DD cX10_passYear 83 (.iconst 2) 1 84 := ⟨by decide +kernel, rfl⟩
theorem eX10_passYear_84 : DB cX10_passYear 84 (.if_icmp .ne 33) (33) 87 117 := ⟨by decide +kernel, rfl, by decide⟩
theorem eX10_passYear_87 : DD cX10_passYear 87 (.aload_n 0) 1 88 := ⟨by decide +kernel, rfl⟩
theorem eX10_passYear_88 : DD cX10_passYear 88 (.iload_n 2) 1 89 := ⟨by decide +kernel, rfl⟩
theorem eX10_passYear_89 : DD cX10_passYear 89 (.iload 4) 2 91 := ⟨by decide +kernel, rfl⟩
theorem eX10_passYear_91 : DD cX10_passYear 91 (.iload 5) 2 93 := ⟨by decide +kernel, rfl⟩
theorem eX10_passYear_93 : DD cX10_passYear 93 (.iload 6) 2 95 := ⟨by decide +kernel, rfl⟩
theorem eX10_passYear_95 : DD cX10_passYear 95 (.invokevirtual 232) 3 98 := ⟨by decide +kernel, rfl⟩
theorem eX10_passYear_98 : DD cX10_passYear 98 (.iconst (-1)) 1 99 := ⟨by decide +kernel, rfl⟩
theorem eX10_passYear_99 : DB cX10_passYear 99 (.if_icmp .ne 44) (44) 102 143 := ⟨by decide +kernel, rfl, by decide⟩
theorem eX10_passYear_102 : DD cX10_passYear 102 (.aload_n 0) 1 103 := ⟨by decide +kernel, rfl⟩
theorem eX10_passYear_103 : DD cX10_passYear 103 (.iload_n 2) 1 104 := ⟨by decide +kernel, rfl⟩
theorem eX10_passYear_104 : DD cX10_passYear 104 (.iload 4) 2 106 := ⟨by decide +kernel, rfl⟩
theorem eX10_passYear_106 : DD cX10_passYear 106 (.iload 5) 2 108 := ⟨by decide +kernel, rfl⟩
theorem eX10_passYear_108 : DD cX10_passYear 108 (.iload 6) 2 110 := ⟨by decide +kernel, rfl⟩
theorem eX10_passYear_110 : DD cX10_passYear 110 (.ineg) 1 111 := ⟨by decide +kernel, rfl⟩
theorem eX10_passYear_111 : DD cX10_passYear 111 (.invokevirtual 228) 3 114 := ⟨by decide +kernel, rfl⟩
theorem eX10_passYear_114 : DB cX10_passYear 114 (.goto 29) (29) 117 143 := ⟨by decide +kernel, rfl, by decide⟩
theorem eX10_passYear_117 : DD cX10_passYear 117 (.aload_n 0) 1 118 := ⟨by decide +kernel, rfl⟩
theorem eX10_passYear_118 : DD cX10_passYear 118 (.iload_n 2) 1 119 := ⟨by decide +kernel, rfl⟩
theorem eX10_passYear_119 : DD cX10_passYear 119 (.iload 4) 2 121 := ⟨by decide +kernel, rfl⟩
theorem eX10_passYear_121 : DD cX10_passYear 121 (.iload 5) 2 123 := ⟨by decide +kernel, rfl⟩
theorem eX10_passYear_123 : DD cX10_passYear 123 (.iload 6) 2 125 := ⟨by decide +kernel, rfl⟩
theorem eX10_passYear_125 : DD cX10_passYear 125 (.invokevirtual 221) 3 128 := ⟨by decide +kernel, rfl⟩
theorem eX10_passYear_128 : DD cX10_passYear 128 (.iconst (-1)) 1 129 := ⟨by decide +kernel, rfl⟩
theorem eX10_passYear_129 : DB cX10_passYear 129 (.if_icmp .ne 14) (14) 132 143 := ⟨by decide +kernel, rfl, by decide⟩
theorem eX10_passYear_132 : DD cX10_passYear 132 (.aload_n 0) 1 133 := ⟨by decide +kernel, rfl⟩
theorem eX10_passYear_133 : DD cX10_passYear 133 (.iload_n 2) 1 134 := ⟨by decide +kernel, rfl⟩
theorem eX10_passYear_134 : DD cX10_passYear 134 (.iload 4) 2 136 := ⟨by decide +kernel, rfl⟩
theorem eX10_passYear_136 : DD cX10_passYear 136 (.iload 5) 2 138 := ⟨by decide +kernel, rfl⟩
theorem eX10_passYear_138 : DD cX10_passYear 138 (.iload 6) 2 140 := ⟨by decide +kernel, rfl⟩
theorem eX10_passYear_140 : DD cX10_passYear 140 (.invokevirtual 228) 3 143 := ⟨by decide +kernel, rfl⟩
theorem eX10_passYear_143 : DD cX10_passYear 143 (.return_) 1 144 := ⟨by decide +kernel, rfl⟩
def G_X10_passYear  (μ : Mem) : Option (Unit × Mem) :=
  bd (G_X10_draw (4 : Int32) μ) (fun r_2 μ_1 => bd (G_X10_draw (rI μ_1 7 2) μ_1) (fun r_4 μ_3 => if r_2 = (3 : Int32) then bd (G_X10_draw (2 : Int32) μ_3) (fun r_6 μ_5 => bd (G_X10_whyNoBuild r_4 r_6 μ_5) (fun r_8 μ_7 => if r_8 = (-1 : Int32) then bd (G_X10_doBuild r_4 r_6 μ_7) (fun r_10 μ_9 => some ((), μ_9)) else some ((), μ_7))) else gq (inB r_4 3) (lb (rI μ_3 (shP 8 r_4) 2) (fun x3_12 => bd (G_X10_drawOrMissing x3_12 μ_3) (fun r_14 μ_13 => bd (G_X10_drawOrMissing x3_12 μ_13) (fun r_16 μ_15 => bd (G_X10_draw (5 : Int32) μ_15) (fun r_18 μ_17 => lb (r_18 + (1 : Int32)) (fun x6_19 => if r_2 = (2 : Int32) then bd (G_X10_whyNoDrop r_4 r_14 r_16 x6_19 μ_17) (fun r_21 μ_20 => if r_21 = (-1 : Int32) then bd (G_X10_doChange r_4 r_14 r_16 (-x6_19) μ_20) (fun r_23 μ_22 => some ((), μ_22)) else some ((), μ_20)) else bd (G_X10_whyNoAdd r_4 r_14 r_16 x6_19 μ_17) (fun r_25 μ_24 => if r_25 = (-1 : Int32) then bd (G_X10_doChange r_4 r_14 r_16 x6_19 μ_24) (fun r_27 μ_26 => some ((), μ_26)) else some ((), μ_24))))))))))
set_option maxHeartbeats 4000000 in
theorem c_X10_passYear {X : Wd} (hX : WdOk X)  (μ : Mem) : CtV X yX10_passYear cX10_passYear 7 none (rmF 5 131) [.ref (xad X 0)] μ (G_X10_passYear  μ) := by
  refine CtV.of hX (plainFor_of_name (by decide)) (by exact Nat.le_of_ble_eq_true rfl) ?_
  intro C hCX hC hr
  subst hCX
  show J C (KV C) μ 0 [(0, .ref (xad (cX C) 0))] [] _
  unfold G_X10_passYear
  refine J.aload_n (j := 0) hC eX10_passYear_0 rfl ?_
  refine J.iconst hC eX10_passYear_1 ci_4 ?_
  refine J.callVI (st := []) hC eX10_passYear_2 kk_0 (by decide) rfl rfl ml_X10_281 mv_X10_draw (Rle_of (Nat.le_of_ble_eq_true rfl) (Nat.le_of_ble_eq_true rfl)) (c_X10_draw hC.X (4 : Int32) μ) rfl rfl (Nat.le_of_ble_eq_true rfl) (fun r_2 μ_1 => ?_)
  refine J.istore_n [(1, .int r_2), (0, .ref (xad (cX C) 0))] hC eX10_passYear_5 (by decide) rfl ?_
  refine J.aload_n (j := 1) hC eX10_passYear_6 rfl ?_
  refine J.aload_n (j := 1) hC eX10_passYear_7 rfl ?_
  refine gf_X10_26 (q := 7) hC eX10_passYear_8 kk_0 rfl ?_
  refine gf_X10_116 hC eX10_passYear_11 kk_7 ?_
  refine J.callVI (st := []) hC eX10_passYear_14 kk_0 (by decide) rfl rfl ml_X10_281 mv_X10_draw (Rle_of (Nat.le_of_ble_eq_true rfl) (Nat.le_of_ble_eq_true rfl)) (c_X10_draw hC.X (rI μ_1 7 2) μ_1) rfl rfl (Nat.le_of_ble_eq_true rfl) (fun r_4 μ_3 => ?_)
  refine J.istore_n [(2, .int r_4), (1, .int r_2), (0, .ref (xad (cX C) 0))] hC eX10_passYear_17 (by decide) rfl ?_
  refine J.iload_n (j := 1) hC eX10_passYear_18 rfl ?_
  refine J.iconst hC eX10_passYear_19 ci_3 ?_
  refine J.icmp_ne hC eX10_passYear_20 (fun _ => ?_) (fun _ => ?_)
  · refine J.aload_n (j := 2) hC eX10_passYear_23 rfl ?_
    refine J.iconst hC eX10_passYear_24 ci_2 ?_
    refine J.callVI (st := []) hC eX10_passYear_25 kk_0 (by decide) rfl rfl ml_X10_281 mv_X10_draw (Rle_of (Nat.le_of_ble_eq_true rfl) (Nat.le_of_ble_eq_true rfl)) (c_X10_draw hC.X (2 : Int32) μ_3) rfl rfl (Nat.le_of_ble_eq_true rfl) (fun r_6 μ_5 => ?_)
    refine J.istore_n [(3, .int r_6), (2, .int r_4), (1, .int r_2), (0, .ref (xad (cX C) 0))] hC eX10_passYear_28 (by decide) rfl ?_
    refine J.aload_n (j := 3) hC eX10_passYear_29 rfl ?_
    refine J.iload_n (j := 1) hC eX10_passYear_30 rfl ?_
    refine J.iload_n (j := 0) hC eX10_passYear_31 rfl ?_
    refine J.callVI (st := []) hC eX10_passYear_32 kk_0 (by decide) rfl rfl ml_X10_256 mv_X10_whyNoBuild (Rle_of (Nat.le_of_ble_eq_true rfl) (Nat.le_of_ble_eq_true rfl)) (c_X10_whyNoBuild hC.X r_4 r_6 μ_5) rfl rfl (Nat.le_of_ble_eq_true rfl) (fun r_8 μ_7 => ?_)
    refine J.iconst hC eX10_passYear_35 ci_m1 ?_
    refine J.icmp_ne hC eX10_passYear_36 (fun _ => ?_) (fun _ => ?_)
    · refine J.aload_n (j := 3) hC eX10_passYear_39 rfl ?_
      refine J.iload_n (j := 1) hC eX10_passYear_40 rfl ?_
      refine J.iload_n (j := 0) hC eX10_passYear_41 rfl ?_
      refine J.callVV (st := []) hC eX10_passYear_42 kk_0 (by decide) rfl rfl ml_X10_259 mv_X10_doBuild (Rle_of (Nat.le_of_ble_eq_true rfl) (Nat.le_of_ble_eq_true rfl)) (c_X10_doBuild hC.X r_4 r_6 μ_7) rfl rfl (Nat.le_of_ble_eq_true rfl) (fun r_10 μ_9 => ?_)
      exact J.vret hC hr eX10_passYear_45
    · exact J.vret hC hr eX10_passYear_45
  · refine J.aload_n (j := 2) hC eX10_passYear_46 rfl ?_
    refine gf_X10_26 (q := 7) hC eX10_passYear_47 kk_0 rfl ?_
    refine gf_X10_143 (q := 8) hC eX10_passYear_50 kk_7 rfl ?_
    refine J.iload_n (j := 0) hC eX10_passYear_53 rfl ?_
    refine J.aaldS hC eX10_passYear_54 kk_8 (fun hq_11 => ?_)
    refine gf_X10_147 hC eX10_passYear_55 hq_11 ?_
    refine J.topi (fun x3_12 => ?_)
    refine J.istore_n [(3, .int x3_12), (2, .int r_4), (1, .int r_2), (0, .ref (xad (cX C) 0))] hC eX10_passYear_58 (by decide) rfl ?_
    refine J.aload_n (j := 3) hC eX10_passYear_59 rfl ?_
    refine J.iload_n (j := 0) hC eX10_passYear_60 rfl ?_
    refine J.callVI (st := []) hC eX10_passYear_61 kk_0 (by decide) rfl rfl ml_X10_284 mv_X10_drawOrMissing (Rle_of (Nat.le_of_ble_eq_true rfl) (Nat.le_of_ble_eq_true rfl)) (c_X10_drawOrMissing hC.X x3_12 μ_3) rfl rfl (Nat.le_of_ble_eq_true rfl) (fun r_14 μ_13 => ?_)
    refine J.istore [(4, .int r_14), (3, .int x3_12), (2, .int r_4), (1, .int r_2), (0, .ref (xad (cX C) 0))] hC eX10_passYear_64 (by decide) rfl ?_
    refine J.aload_n (j := 4) hC eX10_passYear_66 rfl ?_
    refine J.iload_n (j := 1) hC eX10_passYear_67 rfl ?_
    refine J.callVI (st := []) hC eX10_passYear_68 kk_0 (by decide) rfl rfl ml_X10_284 mv_X10_drawOrMissing (Rle_of (Nat.le_of_ble_eq_true rfl) (Nat.le_of_ble_eq_true rfl)) (c_X10_drawOrMissing hC.X x3_12 μ_13) rfl rfl (Nat.le_of_ble_eq_true rfl) (fun r_16 μ_15 => ?_)
    refine J.istore [(5, .int r_16), (4, .int r_14), (3, .int x3_12), (2, .int r_4), (1, .int r_2), (0, .ref (xad (cX C) 0))] hC eX10_passYear_71 (by decide) rfl ?_
    refine J.aload_n (j := 5) hC eX10_passYear_73 rfl ?_
    refine J.iconst hC eX10_passYear_74 ci_5 ?_
    refine J.callVI (st := []) hC eX10_passYear_75 kk_0 (by decide) rfl rfl ml_X10_281 mv_X10_draw (Rle_of (Nat.le_of_ble_eq_true rfl) (Nat.le_of_ble_eq_true rfl)) (c_X10_draw hC.X (5 : Int32) μ_15) rfl rfl (Nat.le_of_ble_eq_true rfl) (fun r_18 μ_17 => ?_)
    refine J.iconst hC eX10_passYear_78 ci_1 ?_
    refine J.iadd hC eX10_passYear_79 ?_
    refine J.topi (fun x6_19 => ?_)
    refine J.istore [(6, .int x6_19), (5, .int r_16), (4, .int r_14), (3, .int x3_12), (2, .int r_4), (1, .int r_2), (0, .ref (xad (cX C) 0))] hC eX10_passYear_80 (by decide) rfl ?_
    refine J.iload_n (j := 5) hC eX10_passYear_82 rfl ?_
    refine J.iconst hC eX10_passYear_83 ci_2 ?_
    refine J.icmp_ne hC eX10_passYear_84 (fun _ => ?_) (fun _ => ?_)
    · refine J.aload_n (j := 6) hC eX10_passYear_87 rfl ?_
      refine J.iload_n (j := 4) hC eX10_passYear_88 rfl ?_
      refine J.iload (j := 2) hC eX10_passYear_89 rfl ?_
      refine J.iload (j := 1) hC eX10_passYear_91 rfl ?_
      refine J.iload (j := 0) hC eX10_passYear_93 rfl ?_
      refine J.callVI (st := []) hC eX10_passYear_95 kk_0 (by decide) rfl rfl ml_X10_232 mv_X10_whyNoDrop (Rle_of (Nat.le_of_ble_eq_true rfl) (Nat.le_of_ble_eq_true rfl)) (c_X10_whyNoDrop hC.X r_4 r_14 r_16 x6_19 μ_17) rfl rfl (Nat.le_of_ble_eq_true rfl) (fun r_21 μ_20 => ?_)
      refine J.iconst hC eX10_passYear_98 ci_m1 ?_
      refine J.icmp_ne hC eX10_passYear_99 (fun _ => ?_) (fun _ => ?_)
      · refine J.aload_n (j := 6) hC eX10_passYear_102 rfl ?_
        refine J.iload_n (j := 4) hC eX10_passYear_103 rfl ?_
        refine J.iload (j := 2) hC eX10_passYear_104 rfl ?_
        refine J.iload (j := 1) hC eX10_passYear_106 rfl ?_
        refine J.iload (j := 0) hC eX10_passYear_108 rfl ?_
        refine J.ineg hC eX10_passYear_110 ?_
        refine J.callVV (st := []) hC eX10_passYear_111 kk_0 (by decide) rfl rfl ml_X10_228 mv_X10_doChange (Rle_of (Nat.le_of_ble_eq_true rfl) (Nat.le_of_ble_eq_true rfl)) (c_X10_doChange hC.X r_4 r_14 r_16 (-x6_19) μ_20) rfl rfl (Nat.le_of_ble_eq_true rfl) (fun r_23 μ_22 => ?_)
        refine J.goto hC eX10_passYear_114 ?_
        exact J.vret hC hr eX10_passYear_143
      · exact J.vret hC hr eX10_passYear_143
    · refine J.aload_n (j := 6) hC eX10_passYear_117 rfl ?_
      refine J.iload_n (j := 4) hC eX10_passYear_118 rfl ?_
      refine J.iload (j := 2) hC eX10_passYear_119 rfl ?_
      refine J.iload (j := 1) hC eX10_passYear_121 rfl ?_
      refine J.iload (j := 0) hC eX10_passYear_123 rfl ?_
      refine J.callVI (st := []) hC eX10_passYear_125 kk_0 (by decide) rfl rfl ml_X10_221 mv_X10_whyNoAdd (Rle_of (Nat.le_of_ble_eq_true rfl) (Nat.le_of_ble_eq_true rfl)) (c_X10_whyNoAdd hC.X r_4 r_14 r_16 x6_19 μ_17) rfl rfl (Nat.le_of_ble_eq_true rfl) (fun r_25 μ_24 => ?_)
      refine J.iconst hC eX10_passYear_128 ci_m1 ?_
      refine J.icmp_ne hC eX10_passYear_129 (fun _ => ?_) (fun _ => ?_)
      · refine J.aload_n (j := 6) hC eX10_passYear_132 rfl ?_
        refine J.iload_n (j := 4) hC eX10_passYear_133 rfl ?_
        refine J.iload (j := 2) hC eX10_passYear_134 rfl ?_
        refine J.iload (j := 1) hC eX10_passYear_136 rfl ?_
        refine J.iload (j := 0) hC eX10_passYear_138 rfl ?_
        refine J.callVV (st := []) hC eX10_passYear_140 kk_0 (by decide) rfl rfl ml_X10_228 mv_X10_doChange (Rle_of (Nat.le_of_ble_eq_true rfl) (Nat.le_of_ble_eq_true rfl)) (c_X10_doChange hC.X r_4 r_14 r_16 x6_19 μ_24) rfl rfl (Nat.le_of_ble_eq_true rfl) (fun r_27 μ_26 => ?_)
        exact J.vret hC hr eX10_passYear_143
      · exact J.vret hC hr eX10_passYear_143
