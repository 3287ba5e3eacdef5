-- X11_text
theorem eX11_text_0 : DD cX11_text 0 (.iload_n 1) 1 1 := ⟨by decide +kernel, rfl⟩
theorem eX11_text_1 : DB cX11_text 1 (.ifCond .ne 21) (21) 4 22 := ⟨by decide +kernel, rfl, by decide⟩
theorem eX11_text_4 : DD cX11_text 4 (.aload_n 0) 1 5 := ⟨by decide +kernel, rfl⟩
theorem eX11_text_5 : DD cX11_text 5 (.invokevirtual 140) 3 8 := ⟨by decide +kernel, rfl⟩
theorem eX11_text_8 : DD cX11_text 8 (.iconst (-1)) 1 9 := ⟨by decide +kernel, rfl⟩
theorem eX11_text_9 : DB cX11_text 9 (.if_icmp .ne 13) (13) 12 22 := ⟨by decide +kernel, rfl, by decide⟩
theorem eX11_text_12 : DD cX11_text 12 (.aload_n 0) 1 13 := ⟨by decide +kernel, rfl⟩
theorem eX11_text_13 : DD cX11_text 13 (.iconst 0) 1 14 := ⟨by decide +kernel, rfl⟩
theorem eX11_text_14 : DD cX11_text 14 (.putfield 74) 3 17 := ⟨by decide +kernel, rfl⟩
theorem eX11_text_17 : DD cX11_text 17 (.aload_n 0) 1 18 := ⟨by decide +kernel, rfl⟩
theorem eX11_text_18 : DD cX11_text 18 (.invokevirtual 219) 3 21 := ⟨by decide +kernel, rfl⟩
theorem eX11_text_21 : DD cX11_text 21 (.ireturn) 1 22 := ⟨by decide +kernel, rfl⟩
theorem eX11_text_22 : DD cX11_text 22 (.iload_n 1) 1 23 := ⟨by decide +kernel, rfl⟩
theorem eX11_text_23 : DD cX11_text 23 (.iconst 1) 1 24 := ⟨by decide +kernel, rfl⟩
theorem eX11_text_24 : DB cX11_text 24 (.if_icmp .ne 45) (45) 27 69 := ⟨by decide +kernel, rfl, by decide⟩
theorem eX11_text_27 : DD cX11_text 27 (.aload_n 0) 1 28 := ⟨by decide +kernel, rfl⟩
theorem eX11_text_28 : DD cX11_text 28 (.getfield 222) 3 31 := ⟨by decide +kernel, rfl⟩
theorem eX11_text_31 : DD cX11_text 31 (.iconst 4) 1 32 := ⟨by decide +kernel, rfl⟩
theorem eX11_text_32 : DB cX11_text 32 (.if_icmp .ge 37) (37) 35 69 := ⟨by decide +kernel, rfl, by decide⟩
theorem eX11_text_35 : DD cX11_text 35 (.aload_n 0) 1 36 := ⟨by decide +kernel, rfl⟩
theorem eX11_text_36 : DD cX11_text 36 (.aload_n 0) 1 37 := ⟨by decide +kernel, rfl⟩
theorem eX11_text_37 : DD cX11_text 37 (.getfield 222) 3 40 := ⟨by decide +kernel, rfl⟩
theorem eX11_text_40 : DD cX11_text 40 (.invokevirtual 143) 3 43 := ⟨by decide +kernel, rfl⟩
theorem eX11_text_43 : DD cX11_text 43 (.iconst (-1)) 1 44 := ⟨by decide +kernel, rfl⟩
theorem eX11_text_44 : DB cX11_text 44 (.if_icmp .ne 25) (25) 47 69 := ⟨by decide +kernel, rfl, by decide⟩
theorem eX11_text_47 : DD cX11_text 47 (.aload_n 0) 1 48 := ⟨by decide +kernel, rfl⟩
theorem eX11_text_48 : DD cX11_text 48 (.iconst 0) 1 49 := ⟨by decide +kernel, rfl⟩
theorem eX11_text_49 : DD cX11_text 49 (.putfield 74) 3 52 := ⟨by decide +kernel, rfl⟩
theorem eX11_text_52 : DD cX11_text 52 (.aload_n 0) 1 53 := ⟨by decide +kernel, rfl⟩
theorem eX11_text_53 : DD cX11_text 53 (.dup) 1 54 := ⟨by decide +kernel, rfl⟩
theorem eX11_text_54 : DD cX11_text 54 (.getfield 222) 3 57 := ⟨by decide +kernel, rfl⟩
theorem eX11_text_57 : DD cX11_text 57 (.iconst 1) 1 58 := ⟨by decide +kernel, rfl⟩
theorem eX11_text_58 : DD cX11_text 58 (.iadd) 1 59 := ⟨by decide +kernel, rfl⟩
theorem eX11_text_59 : DD cX11_text 59 (.putfield 222) 3 62 := ⟨by decide +kernel, rfl⟩
theorem eX11_text_62 : DD cX11_text 62 (.aload_n 0) 1 63 := ⟨by decide +kernel, rfl⟩
theorem eX11_text_63 : DD cX11_text 63 (.getfield 222) 3 66 := ⟨by decide +kernel, rfl⟩
theorem eX11_text_66 : DD cX11_text 66 (.iconst 1) 1 67 := ⟨by decide +kernel, rfl⟩
theorem eX11_text_67 : DD cX11_text 67 (.isub) 1 68 := ⟨by decide +kernel, rfl⟩
theorem eX11_text_68 : DD cX11_text 68 (.ireturn) 1 69 := ⟨by decide +kernel, rfl⟩
theorem eX11_text_69 : DD cX11_text 69 (.iconst (-1)) 1 70 := ⟨by decide +kernel, rfl⟩
theorem eX11_text_70 : DD cX11_text 70 (.ireturn) 1 71 := ⟨by decide +kernel, rfl⟩
def F_X11_text_22 (x1 : Int32) (μ : Mem) : Option (Int32 × Mem) :=
  if x1 = (1 : Int32) then if (4 : Int32) ≤ (rI μ 107 15) then some ((-1 : Int32), μ) else bd (G_X11_readWhere (rI μ 107 15) μ) (fun r_2 μ_1 => if r_2 = (-1 : Int32) then lb (wI μ_1 107 2 (0 : Int32)) (fun μ_3 => lb (wI μ_3 107 15 ((rI μ_3 107 15) + (1 : Int32))) (fun μ_4 => some ((rI μ_4 107 15) - (1 : Int32), μ_4))) else some ((-1 : Int32), μ_1)) else some ((-1 : Int32), μ)
set_option maxHeartbeats 4000000 in
theorem j_X11_text_22 {C : Cx} (hC : Ok C cX11_text 2 RX11 (rmF 5 127)) (hr : (cT C).sig.returnType = (some .int)) (x1 : Int32) (μ : Mem) : J C (KI C) μ 22 [(0, .ref (xad (cX C) 107)), (1, .int x1)] [] (F_X11_text_22  x1 μ) := by
  unfold F_X11_text_22
  refine J.iload_n (j := 1) hC eX11_text_22 rfl ?_
  refine J.iconst hC eX11_text_23 ci_1 ?_
  refine J.icmp_ne hC eX11_text_24 (fun _ => ?_) (fun _ => ?_)
  · refine J.aload_n (j := 0) hC eX11_text_27 rfl ?_
    refine gf_X11_222 hC eX11_text_28 kk_107 ?_
    refine J.iconst hC eX11_text_31 ci_4 ?_
    refine J.icmp_ge hC eX11_text_32 (fun _ => ?_) (fun _ => ?_)
    · refine J.iconst hC eX11_text_69 ci_m1 ?_
      exact J.iret hC hr eX11_text_70
    · refine J.aload_n (j := 0) hC eX11_text_35 rfl ?_
      refine J.aload_n (j := 0) hC eX11_text_36 rfl ?_
      refine gf_X11_222 hC eX11_text_37 kk_107 ?_
      refine J.callVI (st := []) hC eX11_text_40 kk_107 (by decide) rfl rfl ml_X11_143 mv_X11_readWhere (Rle_of (Nat.le_of_ble_eq_true rfl) (Nat.le_of_ble_eq_true rfl)) (c_X11_readWhere hC.X (rI μ 107 15) μ) rfl rfl (Nat.le_of_ble_eq_true rfl) (fun r_2 μ_1 => ?_)
      refine J.iconst hC eX11_text_43 ci_m1 ?_
      refine J.icmp_ne hC eX11_text_44 (fun _ => ?_) (fun _ => ?_)
      · refine J.aload_n (j := 0) hC eX11_text_47 rfl ?_
        refine J.iconst hC eX11_text_48 ci_0 ?_
        refine pf_X11_74 hC eX11_text_49 kk_107 (fun μ_3 => ?_)
        refine J.aload_n (j := 0) hC eX11_text_52 rfl ?_
        refine J.dup hC eX11_text_53 rfl ?_
        refine gf_X11_222 hC eX11_text_54 kk_107 ?_
        refine J.iconst hC eX11_text_57 ci_1 ?_
        refine J.iadd hC eX11_text_58 ?_
        refine pf_X11_222 hC eX11_text_59 kk_107 (fun μ_4 => ?_)
        refine J.aload_n (j := 0) hC eX11_text_62 rfl ?_
        refine gf_X11_222 hC eX11_text_63 kk_107 ?_
        refine J.iconst hC eX11_text_66 ci_1 ?_
        refine J.isub hC eX11_text_67 ?_
        exact J.iret hC hr eX11_text_68
      · refine J.iconst hC eX11_text_69 ci_m1 ?_
        exact J.iret hC hr eX11_text_70
  · refine J.iconst hC eX11_text_69 ci_m1 ?_
    exact J.iret hC hr eX11_text_70
def G_X11_text (x1 : Int32) (μ : Mem) : Option (Int32 × Mem) :=
  if x1 = 0 then bd (G_X11_readBook  μ) (fun r_2 μ_1 => if r_2 = (-1 : Int32) then lb (wI μ_1 107 2 (0 : Int32)) (fun μ_3 => bd (G_X11_takeBook  μ_3) (fun r_5 μ_4 => some (r_5, μ_4))) else F_X11_text_22  x1 μ_1) else F_X11_text_22  x1 μ
set_option maxHeartbeats 4000000 in
theorem c_X11_text {X : Wd} (hX : WdOk X) (x1 : Int32) (μ : Mem) : CtI X yX11_text cX11_text 2 (some .int) (rmF 5 127) [.ref (xad X 107), .int x1] μ (G_X11_text x1 μ) := by
  refine CtI.of hX (plainFor_of_name (by decide)) (by exact Nat.le_of_ble_eq_true rfl) ?_
  intro C hCX hC hr
  subst hCX
  show J C (KI C) μ 0 [(0, .ref (xad (cX C) 107)), (1, .int x1)] [] _
  unfold G_X11_text
  refine J.iload_n (j := 1) hC eX11_text_0 rfl ?_
  refine J.if_ne hC eX11_text_1 (fun _ => ?_) (fun _ => ?_)
  · refine J.aload_n (j := 0) hC eX11_text_4 rfl ?_
    refine J.callVI (st := []) hC eX11_text_5 kk_107 (by decide) rfl rfl ml_X11_140 mv_X11_readBook (Rle_of (Nat.le_of_ble_eq_true rfl) (Nat.le_of_ble_eq_true rfl)) (c_X11_readBook hC.X  μ) rfl rfl (Nat.le_of_ble_eq_true rfl) (fun r_2 μ_1 => ?_)
    refine J.iconst hC eX11_text_8 ci_m1 ?_
    refine J.icmp_ne hC eX11_text_9 (fun _ => ?_) (fun _ => ?_)
    · refine J.aload_n (j := 0) hC eX11_text_12 rfl ?_
      refine J.iconst hC eX11_text_13 ci_0 ?_
      refine pf_X11_74 hC eX11_text_14 kk_107 (fun μ_3 => ?_)
      refine J.aload_n (j := 0) hC eX11_text_17 rfl ?_
      refine J.callVI (st := []) hC eX11_text_18 kk_107 (by decide) rfl rfl ml_X11_219 mv_X11_takeBook (Rle_of (Nat.le_of_ble_eq_true rfl) (Nat.le_of_ble_eq_true rfl)) (c_X11_takeBook hC.X  μ_3) rfl rfl (Nat.le_of_ble_eq_true rfl) (fun r_5 μ_4 => ?_)
      exact J.iret hC hr eX11_text_21
    · refine J.sub [0, 1] rfl ?_
      exact j_X11_text_22 hC hr  x1 μ_1
  · refine J.sub [0, 1] rfl ?_
    exact j_X11_text_22 hC hr  x1 μ
-- X11_rule
theorem eX11_rule_0 : DD cX11_rule 0 (.aload_n 0) 1 1 := ⟨by decide +kernel, rfl⟩
theorem eX11_rule_1 : DD cX11_rule 1 (.invokevirtual 225) 3 4 := ⟨by decide +kernel, rfl⟩
theorem eX11_rule_4 : DB cX11_rule 4 (.ifCond .eq 15) (15) 7 19 := ⟨by decide +kernel, rfl, by decide⟩
theorem eX11_rule_7 : DD cX11_rule 7 (.iload_n 1) 1 8 := ⟨by decide +kernel, rfl⟩
theorem eX11_rule_8 : DD cX11_rule 8 (.i2l) 1 9 := ⟨by decide +kernel, rfl⟩
theorem eX11_rule_9 : DD cX11_rule 9 (.lconst 0) 1 10 := ⟨by decide +kernel, rfl⟩
theorem eX11_rule_10 : DD cX11_rule 10 (.ldc2_w 228) 3 13 := ⟨by decide +kernel, rfl⟩
theorem eX11_rule_13 : DD cX11_rule 13 (.invokestatic 77) 3 16 := ⟨by decide +kernel, rfl⟩
theorem eX11_rule_16 : DB cX11_rule 16 (.ifCond .ne 7) (7) 19 23 := ⟨by decide +kernel, rfl, by decide⟩
theorem eX11_rule_19 : DD cX11_rule 19 (.iconst (-1)) 1 20 := ⟨by decide +kernel, rfl⟩
theorem eX11_rule_20 : DB cX11_rule 20 (.goto 25) (25) 23 45 := ⟨by decide +kernel, rfl, by decide⟩
theorem eX11_rule_23 : DD cX11_rule 23 (.iload_n 1) 1 24 := ⟨by decide +kernel, rfl⟩
theorem eX11_rule_24 : DD cX11_rule 24 (.iconst 2) 1 25 := ⟨by decide +kernel, rfl⟩
theorem eX11_rule_25 : DB cX11_rule 25 (.if_icmp .ne 14) (14) 28 39 := ⟨by decide +kernel, rfl, by decide⟩
theorem eX11_rule_28 : DD cX11_rule 28 (.aload_n 0) 1 29 := ⟨by decide +kernel, rfl⟩
theorem eX11_rule_29 : DD cX11_rule 29 (.getfield 34) 3 32 := ⟨by decide +kernel, rfl⟩
theorem eX11_rule_32 : DD cX11_rule 32 (.sipush 1071) 3 35 := ⟨by decide +kernel, rfl⟩
theorem eX11_rule_35 : DD cX11_rule 35 (.iaload) 1 36 := ⟨by decide +kernel, rfl⟩
theorem eX11_rule_36 : DB cX11_rule 36 (.goto 9) (9) 39 45 := ⟨by decide +kernel, rfl, by decide⟩
theorem eX11_rule_39 : DD cX11_rule 39 (.aload_n 0) 1 40 := ⟨by decide +kernel, rfl⟩
theorem eX11_rule_40 : DD cX11_rule 40 (.getfield 22) 3 43 := ⟨by decide +kernel, rfl⟩
theorem eX11_rule_43 : DD cX11_rule 43 (.iload_n 1) 1 44 := ⟨by decide +kernel, rfl⟩
theorem eX11_rule_44 : DD cX11_rule 44 (.iaload) 1 45 := ⟨by decide +kernel, rfl⟩
theorem eX11_rule_45 : DD cX11_rule 45 (.ireturn) 1 46 := ⟨by decide +kernel, rfl⟩
def G_X11_rule (x1 : Int32) (μ : Mem) : Option (Int32 × Mem) :=
  bd (G_X11_isBook  μ) (fun r_2 μ_1 => if r_2 = 0 then some ((-1 : Int32), μ_1) else bd (G_X11_in x1.toInt64 (0 : Int64) (2 : Int64) μ_1) (fun r_4 μ_3 => if r_4 = 0 then some ((-1 : Int32), μ_3) else if x1 = (2 : Int32) then some (rI μ_3 116 1071, μ_3) else gq (inB x1 3) (some (rI μ_3 112 (nx x1), μ_3))))
set_option maxHeartbeats 4000000 in
theorem c_X11_rule {X : Wd} (hX : WdOk X) (x1 : Int32) (μ : Mem) : CtI X yX11_rule cX11_rule 2 (some .int) (rmF 1 25) [.ref (xad X 107), .int x1] μ (G_X11_rule x1 μ) := by
  refine CtI.of hX (plainFor_of_name (by decide)) (by exact Nat.le_of_ble_eq_true rfl) ?_
  intro C hCX hC hr
  subst hCX
  show J C (KI C) μ 0 [(0, .ref (xad (cX C) 107)), (1, .int x1)] [] _
  unfold G_X11_rule
  refine J.aload_n (j := 0) hC eX11_rule_0 rfl ?_
  refine J.callVI (st := []) hC eX11_rule_1 kk_107 (by decide) rfl rfl ml_X11_225 mv_X11_isBook (Rle_of (Nat.le_of_ble_eq_true rfl) (Nat.le_of_ble_eq_true rfl)) (c_X11_isBook hC.X  μ) rfl rfl (Nat.le_of_ble_eq_true rfl) (fun r_2 μ_1 => ?_)
  refine J.if_eq hC eX11_rule_4 (fun _ => ?_) (fun _ => ?_)
  · refine J.iconst hC eX11_rule_19 ci_m1 ?_
    refine J.goto hC eX11_rule_20 ?_
    exact J.iret hC hr eX11_rule_45
  · refine J.iload_n (j := 1) hC eX11_rule_7 rfl ?_
    refine J.i2l hC eX11_rule_8 ?_
    refine J.lconst hC eX11_rule_9 cl_0 ?_
    refine J.ldc2 hC eX11_rule_10 mk_X11_228 ?_
    refine J.callSI (st := []) hC eX11_rule_13 ml_X11_77 mv_X11_in (Rle_of (Nat.le_of_ble_eq_true rfl) (Nat.le_of_ble_eq_true rfl)) (c_X11_in hC.X x1.toInt64 (0 : Int64) (2 : Int64) μ_1) rfl rfl (Nat.le_of_ble_eq_true rfl) (fun r_4 μ_3 => ?_)
    refine J.if_ne hC eX11_rule_16 (fun _ => ?_) (fun _ => ?_)
    · refine J.iconst hC eX11_rule_19 ci_m1 ?_
      refine J.goto hC eX11_rule_20 ?_
      exact J.iret hC hr eX11_rule_45
    · refine J.iload_n (j := 1) hC eX11_rule_23 rfl ?_
      refine J.iconst hC eX11_rule_24 ci_2 ?_
      refine J.icmp_ne hC eX11_rule_25 (fun _ => ?_) (fun _ => ?_)
      · refine J.aload_n (j := 0) hC eX11_rule_28 rfl ?_
        refine gf_X11_34 (q := 116) hC eX11_rule_29 kk_107 rfl ?_
        refine J.sipush hC eX11_rule_32 cs_1071 ?_
        refine J.ialdK (j := 1071) ik_1253 hC eX11_rule_35 kk_116 (by decide) (by decide) ?_
        refine J.goto hC eX11_rule_36 ?_
        exact J.iret hC hr eX11_rule_45
      · refine J.aload_n (j := 0) hC eX11_rule_39 rfl ?_
        refine gf_X11_22 (q := 112) hC eX11_rule_40 kk_107 rfl ?_
        refine J.iload_n (j := 1) hC eX11_rule_43 rfl ?_
        refine J.iald ik_3 hC eX11_rule_44 kk_112 ?_
        exact J.iret hC hr eX11_rule_45
-- X11_table
theorem eX11_table_0 : DD cX11_table 0 (.aload_n 0) 1 1 := ⟨by decide +kernel, rfl⟩
theorem eX11_table_1 : DD cX11_table 1 (.aload_n 0) 1 2 := ⟨by decide +kernel, rfl⟩
theorem eX11_table_2 : DD cX11_table 2 (.iload_n 1) 1 3 := ⟨by decide +kernel, rfl⟩
theorem eX11_table_3 : DD cX11_table 3 (.invokevirtual 153) 3 6 := ⟨by decide +kernel, rfl⟩
theorem eX11_table_6 : DB cX11_table 6 (.ifCond .eq 19) (19) 9 25 := ⟨by decide +kernel, rfl, by decide⟩
theorem eX11_table_9 : DD cX11_table 9 (.iload_n 2) 1 10 := ⟨by decide +kernel, rfl⟩
theorem eX11_table_10 : DD cX11_table 10 (.i2l) 1 11 := ⟨by decide +kernel, rfl⟩
theorem eX11_table_11 : DD cX11_table 11 (.lconst 0) 1 12 := ⟨by decide +kernel, rfl⟩
theorem eX11_table_12 : DD cX11_table 12 (.ldc2_w 230) 3 15 := ⟨by decide +kernel, rfl⟩
theorem eX11_table_15 : DD cX11_table 15 (.invokestatic 77) 3 18 := ⟨by decide +kernel, rfl⟩
theorem eX11_table_18 : DB cX11_table 18 (.ifCond .eq 7) (7) 21 25 := ⟨by decide +kernel, rfl, by decide⟩
theorem eX11_table_21 : DD cX11_table 21 (.iconst 0) 1 22 := ⟨by decide +kernel, rfl⟩
theorem eX11_table_22 : DB cX11_table 22 (.goto 4) (4) 25 26 := ⟨by decide +kernel, rfl, by decide⟩
theorem eX11_table_25 : DD cX11_table 25 (.iconst 1) 1 26 := ⟨by decide +kernel, rfl⟩
theorem eX11_table_26 : DD cX11_table 26 (.putfield 66) 3 29 := ⟨by decide +kernel, rfl⟩
theorem eX11_table_29 : DD cX11_table 29 (.aload_n 0) 1 30 := ⟨by decide +kernel, rfl⟩
theorem eX11_table_30 : DD cX11_table 30 (.getfield 66) 3 33 := ⟨by decide +kernel, rfl⟩
theorem eX11_table_33 : DD cX11_table 33 (.iconst 1) 1 34 := ⟨by decide +kernel, rfl⟩
theorem eX11_table_34 : DB cX11_table 34 (.if_icmp .ne 5) (5) 37 39 := ⟨by decide +kernel, rfl, by decide⟩
theorem eX11_table_37 : DD cX11_table 37 (.iconst 0) 1 38 := ⟨by decide +kernel, rfl⟩
theorem eX11_table_38 : DD cX11_table 38 (.ireturn) 1 39 := ⟨by decide +kernel, rfl⟩
theorem eX11_table_39 : DD cX11_table 39 (.iload_n 2) 1 40 := ⟨by decide +kernel, rfl⟩
theorem eX11_table_40 : DB cX11_table 40 (.ifCond .ne 12) (12) 43 52 := ⟨by decide +kernel, rfl, by decide⟩
theorem eX11_table_43 : DD cX11_table 43 (.aload_n 0) 1 44 := ⟨by decide +kernel, rfl⟩
theorem eX11_table_44 : DD cX11_table 44 (.getfield 25) 3 47 := ⟨by decide +kernel, rfl⟩
theorem eX11_table_47 : DD cX11_table 47 (.iload_n 1) 1 48 := ⟨by decide +kernel, rfl⟩
theorem eX11_table_48 : DD cX11_table 48 (.iaload) 1 49 := ⟨by decide +kernel, rfl⟩
theorem eX11_table_49 : DB cX11_table 49 (.goto 25) (25) 52 74 := ⟨by decide +kernel, rfl, by decide⟩
theorem eX11_table_52 : DD cX11_table 52 (.iload_n 2) 1 53 := ⟨by decide +kernel, rfl⟩
theorem eX11_table_53 : DD cX11_table 53 (.iconst 1) 1 54 := ⟨by decide +kernel, rfl⟩
theorem eX11_table_54 : DB cX11_table 54 (.if_icmp .ne 11) (11) 57 65 := ⟨by decide +kernel, rfl, by decide⟩
theorem eX11_table_57 : DD cX11_table 57 (.aload_n 0) 1 58 := ⟨by decide +kernel, rfl⟩
theorem eX11_table_58 : DD cX11_table 58 (.iload_n 1) 1 59 := ⟨by decide +kernel, rfl⟩
theorem eX11_table_59 : DD cX11_table 59 (.invokevirtual 161) 3 62 := ⟨by decide +kernel, rfl⟩
theorem eX11_table_62 : DB cX11_table 62 (.goto 12) (12) 65 74 := ⟨by decide +kernel, rfl, by decide⟩
theorem eX11_table_65 : DD cX11_table 65 (.aload_n 0) 1 66 := ⟨by decide +kernel, rfl⟩
theorem eX11_table_66 : DD cX11_table 66 (.iload_n 1) 1 67 := ⟨by decide +kernel, rfl⟩
theorem eX11_table_67 : DD cX11_table 67 (.iload_n 2) 1 68 := ⟨by decide +kernel, rfl⟩
theorem eX11_table_68 : DD cX11_table 68 (.iconst 2) 1 69 := ⟨by decide +kernel, rfl⟩
theorem eX11_table_69 : DD cX11_table 69 (.isub) 1 70 := ⟨by decide +kernel, rfl⟩
theorem eX11_table_70 : DD cX11_table 70 (.iconst (-1)) 1 71 := ⟨by decide +kernel, rfl⟩
theorem eX11_table_71 : DD cX11_table 71 (.invokevirtual 167) 3 74 := ⟨by decide +kernel, rfl⟩
theorem eX11_table_74 : DD cX11_table 74 (.ireturn) 1 75 := ⟨by decide +kernel, rfl⟩
def F_X11_table_26 (x1 : Int32) (x2 : Int32) (xs1 : Int32) (μ : Mem) : Option (Int32 × Mem) :=
  lb (wI μ 107 0 xs1) (fun μ_1 => if (rI μ_1 107 0) = (1 : Int32) then some ((0 : Int32), μ_1) else if x2 = 0 then gq (inB x1 3) (some (rI μ_1 113 (nx x1), μ_1)) else if x2 = (1 : Int32) then bd (G_X11_rowsOf x1 μ_1) (fun r_3 μ_2 => some (r_3, μ_2)) else bd (G_X11_countAt x1 (x2 - (2 : Int32)) (-1 : Int32) μ_1) (fun r_5 μ_4 => some (r_5, μ_4)))
set_option maxHeartbeats 4000000 in
theorem j_X11_table_26 {C : Cx} (hC : Ok C cX11_table 3 RX11 (rmF 2 48)) (hr : (cT C).sig.returnType = (some .int)) (x1 : Int32) (x2 : Int32) (xs1 : Int32) (μ : Mem) : J C (KI C) μ 26 [(0, .ref (xad (cX C) 107)), (1, .int x1), (2, .int x2)] [.int xs1, .ref (xad (cX C) 107)] (F_X11_table_26  x1 x2 xs1 μ) := by
  unfold F_X11_table_26
  refine pf_X11_66 hC eX11_table_26 kk_107 (fun μ_1 => ?_)
  refine J.aload_n (j := 0) hC eX11_table_29 rfl ?_
  refine gf_X11_66 hC eX11_table_30 kk_107 ?_
  refine J.iconst hC eX11_table_33 ci_1 ?_
  refine J.icmp_ne hC eX11_table_34 (fun _ => ?_) (fun _ => ?_)
  · refine J.iconst hC eX11_table_37 ci_0 ?_
    exact J.iret hC hr eX11_table_38
  · refine J.iload_n (j := 2) hC eX11_table_39 rfl ?_
    refine J.if_ne hC eX11_table_40 (fun _ => ?_) (fun _ => ?_)
    · refine J.aload_n (j := 0) hC eX11_table_43 rfl ?_
      refine gf_X11_25 (q := 113) hC eX11_table_44 kk_107 rfl ?_
      refine J.iload_n (j := 1) hC eX11_table_47 rfl ?_
      refine J.iald ik_3 hC eX11_table_48 kk_113 ?_
      refine J.goto hC eX11_table_49 ?_
      exact J.iret hC hr eX11_table_74
    · refine J.iload_n (j := 2) hC eX11_table_52 rfl ?_
      refine J.iconst hC eX11_table_53 ci_1 ?_
      refine J.icmp_ne hC eX11_table_54 (fun _ => ?_) (fun _ => ?_)
      · refine J.aload_n (j := 0) hC eX11_table_57 rfl ?_
        refine J.iload_n (j := 1) hC eX11_table_58 rfl ?_
        refine J.callVI (st := []) hC eX11_table_59 kk_107 (by decide) rfl rfl ml_X11_161 mv_X11_rowsOf (Rle_of (Nat.le_of_ble_eq_true rfl) (Nat.le_of_ble_eq_true rfl)) (c_X11_rowsOf hC.X x1 μ_1) rfl rfl (Nat.le_of_ble_eq_true rfl) (fun r_3 μ_2 => ?_)
        refine J.goto hC eX11_table_62 ?_
        exact J.iret hC hr eX11_table_74
      · refine J.aload_n (j := 0) hC eX11_table_65 rfl ?_
        refine J.iload_n (j := 1) hC eX11_table_66 rfl ?_
        refine J.iload_n (j := 2) hC eX11_table_67 rfl ?_
        refine J.iconst hC eX11_table_68 ci_2 ?_
        refine J.isub hC eX11_table_69 ?_
        refine J.iconst hC eX11_table_70 ci_m1 ?_
        refine J.callVI (st := []) hC eX11_table_71 kk_107 (by decide) rfl rfl ml_X11_167 mv_X11_countAt (Rle_of (Nat.le_of_ble_eq_true rfl) (Nat.le_of_ble_eq_true rfl)) (c_X11_countAt hC.X x1 (x2 - (2 : Int32)) (-1 : Int32) μ_1) rfl rfl (Nat.le_of_ble_eq_true rfl) (fun r_5 μ_4 => ?_)
        exact J.iret hC hr eX11_table_74
def F_X11_table_25 (x1 : Int32) (x2 : Int32) (μ : Mem) : Option (Int32 × Mem) :=
  F_X11_table_26  x1 x2 (1 : Int32) μ
set_option maxHeartbeats 4000000 in
theorem j_X11_table_25 {C : Cx} (hC : Ok C cX11_table 3 RX11 (rmF 2 48)) (hr : (cT C).sig.returnType = (some .int)) (x1 : Int32) (x2 : Int32) (μ : Mem) : J C (KI C) μ 25 [(0, .ref (xad (cX C) 107)), (1, .int x1), (2, .int x2)] [.ref (xad (cX C) 107)] (F_X11_table_25  x1 x2 μ) := by
  unfold F_X11_table_25
  refine J.iconst hC eX11_table_25 ci_1 ?_
  refine J.sub [0, 1, 2] rfl ?_
  exact j_X11_table_26 hC hr  x1 x2 (1 : Int32) μ
def G_X11_table (x1 : Int32) (x2 : Int32) (μ : Mem) : Option (Int32 × Mem) :=
  bd (G_X11_isTable x1 μ) (fun r_2 μ_1 => if r_2 = 0 then F_X11_table_25  x1 x2 μ_1 else bd (G_X11_in x2.toInt64 (0 : Int64) (3 : Int64) μ_1) (fun r_4 μ_3 => if r_4 = 0 then F_X11_table_25  x1 x2 μ_3 else F_X11_table_26  x1 x2 (0 : Int32) μ_3))
set_option maxHeartbeats 4000000 in
theorem c_X11_table {X : Wd} (hX : WdOk X) (x1 : Int32) (x2 : Int32) (μ : Mem) : CtI X yX11_table cX11_table 3 (some .int) (rmF 2 48) [.ref (xad X 107), .int x1, .int x2] μ (G_X11_table x1 x2 μ) := by
  refine CtI.of hX (plainFor_of_name (by decide)) (by exact Nat.le_of_ble_eq_true rfl) ?_
  intro C hCX hC hr
  subst hCX
  show J C (KI C) μ 0 [(0, .ref (xad (cX C) 107)), (1, .int x1), (2, .int x2)] [] _
  unfold G_X11_table
  refine J.aload_n (j := 0) hC eX11_table_0 rfl ?_
  refine J.aload_n (j := 0) hC eX11_table_1 rfl ?_
  refine J.iload_n (j := 1) hC eX11_table_2 rfl ?_
  refine J.callVI (st := [.ref (xad (cX C) 107)]) hC eX11_table_3 kk_107 (by decide) rfl rfl ml_X11_153 mv_X11_isTable (Rle_of (Nat.le_of_ble_eq_true rfl) (Nat.le_of_ble_eq_true rfl)) (c_X11_isTable hC.X x1 μ) rfl rfl (Nat.le_of_ble_eq_true rfl) (fun r_2 μ_1 => ?_)
  refine J.if_eq hC eX11_table_6 (fun _ => ?_) (fun _ => ?_)
  · refine J.sub [0, 1, 2] rfl ?_
    exact j_X11_table_25 hC hr  x1 x2 μ_1
  · refine J.iload_n (j := 2) hC eX11_table_9 rfl ?_
    refine J.i2l hC eX11_table_10 ?_
    refine J.lconst hC eX11_table_11 cl_0 ?_
    refine J.ldc2 hC eX11_table_12 mk_X11_230 ?_
    refine J.callSI (st := [.ref (xad (cX C) 107)]) hC eX11_table_15 ml_X11_77 mv_X11_in (Rle_of (Nat.le_of_ble_eq_true rfl) (Nat.le_of_ble_eq_true rfl)) (c_X11_in hC.X x2.toInt64 (0 : Int64) (3 : Int64) μ_1) rfl rfl (Nat.le_of_ble_eq_true rfl) (fun r_4 μ_3 => ?_)
    refine J.if_eq hC eX11_table_18 (fun _ => ?_) (fun _ => ?_)
    · refine J.sub [0, 1, 2] rfl ?_
      exact j_X11_table_25 hC hr  x1 x2 μ_3
    · refine J.iconst hC eX11_table_21 ci_0 ?_
      refine J.goto hC eX11_table_22 ?_
      refine J.sub [0, 1, 2] rfl ?_
      exact j_X11_table_26 hC hr  x1 x2 (0 : Int32) μ_3
-- X11_rows
theorem eX11_rows_0 : DD cX11_rows 0 (.aload_n 0) 1 1 := ⟨by decide +kernel, rfl⟩
theorem eX11_rows_1 : DD cX11_rows 1 (.iload_n 1) 1 2 := ⟨by decide +kernel, rfl⟩
theorem eX11_rows_2 : DD cX11_rows 2 (.invokevirtual 153) 3 5 := ⟨by decide +kernel, rfl⟩
theorem eX11_rows_5 : DB cX11_rows 5 (.ifCond .eq 35) (35) 8 40 := ⟨by decide +kernel, rfl, by decide⟩
theorem eX11_rows_8 : DD cX11_rows 8 (.aload_n 0) 1 9 := ⟨by decide +kernel, rfl⟩
theorem eX11_rows_9 : DD cX11_rows 9 (.iload_n 1) 1 10 := ⟨by decide +kernel, rfl⟩
theorem eX11_rows_10 : DD cX11_rows 10 (.iload_n 2) 1 11 := ⟨by decide +kernel, rfl⟩
theorem eX11_rows_11 : DD cX11_rows 11 (.invokevirtual 232) 3 14 := ⟨by decide +kernel, rfl⟩
theorem eX11_rows_14 : DB cX11_rows 14 (.ifCond .eq 26) (26) 17 40 := ⟨by decide +kernel, rfl, by decide⟩
theorem eX11_rows_17 : DD cX11_rows 17 (.aload_n 0) 1 18 := ⟨by decide +kernel, rfl⟩
theorem eX11_rows_18 : DD cX11_rows 18 (.iload_n 1) 1 19 := ⟨by decide +kernel, rfl⟩
theorem eX11_rows_19 : DD cX11_rows 19 (.iload_n 3) 1 20 := ⟨by decide +kernel, rfl⟩
theorem eX11_rows_20 : DD cX11_rows 20 (.invokevirtual 232) 3 23 := ⟨by decide +kernel, rfl⟩
theorem eX11_rows_23 : DB cX11_rows 23 (.ifCond .eq 17) (17) 26 40 := ⟨by decide +kernel, rfl, by decide⟩
theorem eX11_rows_26 : DD cX11_rows 26 (.aload_n 0) 1 27 := ⟨by decide +kernel, rfl⟩
theorem eX11_rows_27 : DD cX11_rows 27 (.getfield 34) 3 30 := ⟨by decide +kernel, rfl⟩
theorem eX11_rows_30 : DD cX11_rows 30 (.iload_n 1) 1 31 := ⟨by decide +kernel, rfl⟩
theorem eX11_rows_31 : DD cX11_rows 31 (.iload_n 2) 1 32 := ⟨by decide +kernel, rfl⟩
theorem eX11_rows_32 : DD cX11_rows 32 (.iload_n 3) 1 33 := ⟨by decide +kernel, rfl⟩
theorem eX11_rows_33 : DD cX11_rows 33 (.invokestatic 158) 3 36 := ⟨by decide +kernel, rfl⟩
theorem eX11_rows_36 : DD cX11_rows 36 (.iaload) 1 37 := ⟨by decide +kernel, rfl⟩
theorem eX11_rows_37 : DB cX11_rows 37 (.goto 4) (4) 40 41 := ⟨by decide +kernel, rfl, by decide⟩
theorem eX11_rows_40 : DD cX11_rows 40 (.iconst (-1)) 1 41 := ⟨by decide +kernel, rfl⟩
theorem eX11_rows_41 : DD cX11_rows 41 (.ireturn) 1 42 := ⟨by decide +kernel, rfl⟩
def G_X11_rows (x1 : Int32) (x2 : Int32) (x3 : Int32) (μ : Mem) : Option (Int32 × Mem) :=
  bd (G_X11_isTable x1 μ) (fun r_2 μ_1 => if r_2 = 0 then some ((-1 : Int32), μ_1) else bd (G_X11_isValue x1 x2 μ_1) (fun r_4 μ_3 => if r_4 = 0 then some ((-1 : Int32), μ_3) else bd (G_X11_isValue x1 x3 μ_3) (fun r_6 μ_5 => if r_6 = 0 then some ((-1 : Int32), μ_5) else bd (G_X11_place x1 x2 x3 μ_5) (fun r_8 μ_7 => gq (inB r_8 1253) (some (rI μ_7 116 (nx r_8), μ_7))))))
set_option maxHeartbeats 4000000 in
theorem c_X11_rows {X : Wd} (hX : WdOk X) (x1 : Int32) (x2 : Int32) (x3 : Int32) (μ : Mem) : CtI X yX11_rows cX11_rows 4 (some .int) (rmF 2 47) [.ref (xad X 107), .int x1, .int x2, .int x3] μ (G_X11_rows x1 x2 x3 μ) := by
  refine CtI.of hX (plainFor_of_name (by decide)) (by exact Nat.le_of_ble_eq_true rfl) ?_
  intro C hCX hC hr
  subst hCX
  show J C (KI C) μ 0 [(0, .ref (xad (cX C) 107)), (1, .int x1), (2, .int x2), (3, .int x3)] [] _
  unfold G_X11_rows
  refine J.aload_n (j := 0) hC eX11_rows_0 rfl ?_
  refine J.iload_n (j := 1) hC eX11_rows_1 rfl ?_
  refine J.callVI (st := []) hC eX11_rows_2 kk_107 (by decide) rfl rfl ml_X11_153 mv_X11_isTable (Rle_of (Nat.le_of_ble_eq_true rfl) (Nat.le_of_ble_eq_true rfl)) (c_X11_isTable hC.X x1 μ) rfl rfl (Nat.le_of_ble_eq_true rfl) (fun r_2 μ_1 => ?_)
  refine J.if_eq hC eX11_rows_5 (fun _ => ?_) (fun _ => ?_)
  · refine J.iconst hC eX11_rows_40 ci_m1 ?_
    exact J.iret hC hr eX11_rows_41
  · refine J.aload_n (j := 0) hC eX11_rows_8 rfl ?_
    refine J.iload_n (j := 1) hC eX11_rows_9 rfl ?_
    refine J.iload_n (j := 2) hC eX11_rows_10 rfl ?_
    refine J.callVI (st := []) hC eX11_rows_11 kk_107 (by decide) rfl rfl ml_X11_232 mv_X11_isValue (Rle_of (Nat.le_of_ble_eq_true rfl) (Nat.le_of_ble_eq_true rfl)) (c_X11_isValue hC.X x1 x2 μ_1) rfl rfl (Nat.le_of_ble_eq_true rfl) (fun r_4 μ_3 => ?_)
    refine J.if_eq hC eX11_rows_14 (fun _ => ?_) (fun _ => ?_)
    · refine J.iconst hC eX11_rows_40 ci_m1 ?_
      exact J.iret hC hr eX11_rows_41
    · refine J.aload_n (j := 0) hC eX11_rows_17 rfl ?_
      refine J.iload_n (j := 1) hC eX11_rows_18 rfl ?_
      refine J.iload_n (j := 3) hC eX11_rows_19 rfl ?_
      refine J.callVI (st := []) hC eX11_rows_20 kk_107 (by decide) rfl rfl ml_X11_232 mv_X11_isValue (Rle_of (Nat.le_of_ble_eq_true rfl) (Nat.le_of_ble_eq_true rfl)) (c_X11_isValue hC.X x1 x3 μ_3) rfl rfl (Nat.le_of_ble_eq_true rfl) (fun r_6 μ_5 => ?_)
      refine J.if_eq hC eX11_rows_23 (fun _ => ?_) (fun _ => ?_)
      · refine J.iconst hC eX11_rows_40 ci_m1 ?_
        exact J.iret hC hr eX11_rows_41
      · refine J.aload_n (j := 0) hC eX11_rows_26 rfl ?_
        refine gf_X11_34 (q := 116) hC eX11_rows_27 kk_107 rfl ?_
        refine J.iload_n (j := 1) hC eX11_rows_30 rfl ?_
        refine J.iload_n (j := 2) hC eX11_rows_31 rfl ?_
        refine J.iload_n (j := 3) hC eX11_rows_32 rfl ?_
        refine J.callSI (st := [.ref (xad (cX C) 116)]) hC eX11_rows_33 ml_X11_158 mv_X11_place (Rle_of (Nat.le_of_ble_eq_true rfl) (Nat.le_of_ble_eq_true rfl)) (c_X11_place hC.X x1 x2 x3 μ_5) rfl rfl (Nat.le_of_ble_eq_true rfl) (fun r_8 μ_7 => ?_)
        refine J.iald ik_1253 hC eX11_rows_36 kk_116 ?_
        refine J.goto hC eX11_rows_37 ?_
        exact J.iret hC hr eX11_rows_41
-- X11_countOf
theorem eX11_countOf_0 : DD cX11_countOf 0 (.aload_n 0) 1 1 := ⟨by decide +kernel, rfl⟩
theorem eX11_countOf_1 : DD cX11_countOf 1 (.iload_n 1) 1 2 := ⟨by decide +kernel, rfl⟩
theorem eX11_countOf_2 : DD cX11_countOf 2 (.iload_n 2) 1 3 := ⟨by decide +kernel, rfl⟩
theorem eX11_countOf_3 : DD cX11_countOf 3 (.invokevirtual 235) 3 6 := ⟨by decide +kernel, rfl⟩
theorem eX11_countOf_6 : DB cX11_countOf 6 (.ifCond .eq 31) (31) 9 37 := ⟨by decide +kernel, rfl, by decide⟩
theorem eX11_countOf_9 : DD cX11_countOf 9 (.iload_n 3) 1 10 := ⟨by decide +kernel, rfl⟩
theorem eX11_countOf_10 : DD cX11_countOf 10 (.i2l) 1 11 := ⟨by decide +kernel, rfl⟩
theorem eX11_countOf_11 : DD cX11_countOf 11 (.lconst 0) 1 12 := ⟨by decide +kernel, rfl⟩
theorem eX11_countOf_12 : DD cX11_countOf 12 (.aload_n 0) 1 13 := ⟨by decide +kernel, rfl⟩
theorem eX11_countOf_13 : DD cX11_countOf 13 (.getfield 25) 3 16 := ⟨by decide +kernel, rfl⟩
theorem eX11_countOf_16 : DD cX11_countOf 16 (.iload_n 1) 1 17 := ⟨by decide +kernel, rfl⟩
theorem eX11_countOf_17 : DD cX11_countOf 17 (.iaload) 1 18 := ⟨by decide +kernel, rfl⟩
theorem eX11_countOf_18 : DD cX11_countOf 18 (.iconst 1) 1 19 := ⟨by decide +kernel, rfl⟩
theorem eX11_countOf_19 : DD cX11_countOf 19 (.isub) 1 20 := ⟨by decide +kernel, rfl⟩
theorem eX11_countOf_20 : DD cX11_countOf 20 (.i2l) 1 21 := ⟨by decide +kernel, rfl⟩
theorem eX11_countOf_21 : DD cX11_countOf 21 (.invokestatic 77) 3 24 := ⟨by decide +kernel, rfl⟩
theorem eX11_countOf_24 : DB cX11_countOf 24 (.ifCond .eq 13) (13) 27 37 := ⟨by decide +kernel, rfl, by decide⟩
theorem eX11_countOf_27 : DD cX11_countOf 27 (.aload_n 0) 1 28 := ⟨by decide +kernel, rfl⟩
theorem eX11_countOf_28 : DD cX11_countOf 28 (.iload_n 1) 1 29 := ⟨by decide +kernel, rfl⟩
theorem eX11_countOf_29 : DD cX11_countOf 29 (.iload_n 2) 1 30 := ⟨by decide +kernel, rfl⟩
theorem eX11_countOf_30 : DD cX11_countOf 30 (.iload_n 3) 1 31 := ⟨by decide +kernel, rfl⟩
theorem eX11_countOf_31 : DD cX11_countOf 31 (.invokevirtual 167) 3 34 := ⟨by decide +kernel, rfl⟩
theorem eX11_countOf_34 : DB cX11_countOf 34 (.goto 4) (4) 37 38 := ⟨by decide +kernel, rfl, by decide⟩
theorem eX11_countOf_37 : DD cX11_countOf 37 (.iconst (-1)) 1 38 := ⟨by decide +kernel, rfl⟩
theorem eX11_countOf_38 : DD cX11_countOf 38 (.ireturn) 1 39 := ⟨by decide +kernel, rfl⟩
def G_X11_countOf (x1 : Int32) (x2 : Int32) (x3 : Int32) (μ : Mem) : Option (Int32 × Mem) :=
  bd (G_X11_isColumn x1 x2 μ) (fun r_2 μ_1 => if r_2 = 0 then some ((-1 : Int32), μ_1) else gq (inB x1 3) (bd (G_X11_in x3.toInt64 (0 : Int64) (((rI μ_1 113 (nx x1)) - (1 : Int32)).toInt64) μ_1) (fun r_4 μ_3 => if r_4 = 0 then some ((-1 : Int32), μ_3) else bd (G_X11_countAt x1 x2 x3 μ_3) (fun r_6 μ_5 => some (r_6, μ_5)))))
set_option maxHeartbeats 4000000 in
theorem c_X11_countOf {X : Wd} (hX : WdOk X) (x1 : Int32) (x2 : Int32) (x3 : Int32) (μ : Mem) : CtI X yX11_countOf cX11_countOf 4 (some .int) (rmF 3 68) [.ref (xad X 107), .int x1, .int x2, .int x3] μ (G_X11_countOf x1 x2 x3 μ) := by
  refine CtI.of hX (plainFor_of_name (by decide)) (by exact Nat.le_of_ble_eq_true rfl) ?_
  intro C hCX hC hr
  subst hCX
  show J C (KI C) μ 0 [(0, .ref (xad (cX C) 107)), (1, .int x1), (2, .int x2), (3, .int x3)] [] _
  unfold G_X11_countOf
  refine J.aload_n (j := 0) hC eX11_countOf_0 rfl ?_
  refine J.iload_n (j := 1) hC eX11_countOf_1 rfl ?_
  refine J.iload_n (j := 2) hC eX11_countOf_2 rfl ?_
  refine J.callVI (st := []) hC eX11_countOf_3 kk_107 (by decide) rfl rfl ml_X11_235 mv_X11_isColumn (Rle_of (Nat.le_of_ble_eq_true rfl) (Nat.le_of_ble_eq_true rfl)) (c_X11_isColumn hC.X x1 x2 μ) rfl rfl (Nat.le_of_ble_eq_true rfl) (fun r_2 μ_1 => ?_)
  refine J.if_eq hC eX11_countOf_6 (fun _ => ?_) (fun _ => ?_)
  · refine J.iconst hC eX11_countOf_37 ci_m1 ?_
    exact J.iret hC hr eX11_countOf_38
  · refine J.iload_n (j := 3) hC eX11_countOf_9 rfl ?_
    refine J.i2l hC eX11_countOf_10 ?_
    refine J.lconst hC eX11_countOf_11 cl_0 ?_
    refine J.aload_n (j := 0) hC eX11_countOf_12 rfl ?_
    refine gf_X11_25 (q := 113) hC eX11_countOf_13 kk_107 rfl ?_
    refine J.iload_n (j := 1) hC eX11_countOf_16 rfl ?_
    refine J.iald ik_3 hC eX11_countOf_17 kk_113 ?_
    refine J.iconst hC eX11_countOf_18 ci_1 ?_
    refine J.isub hC eX11_countOf_19 ?_
    refine J.i2l hC eX11_countOf_20 ?_
    refine J.callSI (st := []) hC eX11_countOf_21 ml_X11_77 mv_X11_in (Rle_of (Nat.le_of_ble_eq_true rfl) (Nat.le_of_ble_eq_true rfl)) (c_X11_in hC.X x3.toInt64 (0 : Int64) (((rI μ_1 113 (nx x1)) - (1 : Int32)).toInt64) μ_1) rfl rfl (Nat.le_of_ble_eq_true rfl) (fun r_4 μ_3 => ?_)
    refine J.if_eq hC eX11_countOf_24 (fun _ => ?_) (fun _ => ?_)
    · refine J.iconst hC eX11_countOf_37 ci_m1 ?_
      exact J.iret hC hr eX11_countOf_38
    · refine J.aload_n (j := 0) hC eX11_countOf_27 rfl ?_
      refine J.iload_n (j := 1) hC eX11_countOf_28 rfl ?_
      refine J.iload_n (j := 2) hC eX11_countOf_29 rfl ?_
      refine J.iload_n (j := 3) hC eX11_countOf_30 rfl ?_
      refine J.callVI (st := []) hC eX11_countOf_31 kk_107 (by decide) rfl rfl ml_X11_167 mv_X11_countAt (Rle_of (Nat.le_of_ble_eq_true rfl) (Nat.le_of_ble_eq_true rfl)) (c_X11_countAt hC.X x1 x2 x3 μ_3) rfl rfl (Nat.le_of_ble_eq_true rfl) (fun r_6 μ_5 => ?_)
      refine J.goto hC eX11_countOf_34 ?_
      exact J.iret hC hr eX11_countOf_38
-- X11_bucket
theorem eX11_bucket_0 : DD cX11_bucket 0 (.aload_n 0) 1 1 := ⟨by decide +kernel, rfl⟩
theorem eX11_bucket_1 : DD cX11_bucket 1 (.iload_n 1) 1 2 := ⟨by decide +kernel, rfl⟩
theorem eX11_bucket_2 : DD cX11_bucket 2 (.iload_n 2) 1 3 := ⟨by decide +kernel, rfl⟩
theorem eX11_bucket_3 : DD cX11_bucket 3 (.invokevirtual 235) 3 6 := ⟨by decide +kernel, rfl⟩
theorem eX11_bucket_6 : DB cX11_bucket 6 (.ifCond .eq 46) (46) 9 52 := ⟨by decide +kernel, rfl, by decide⟩
theorem eX11_bucket_9 : DD cX11_bucket 9 (.iload_n 3) 1 10 := ⟨by decide +kernel, rfl⟩
theorem eX11_bucket_10 : DD cX11_bucket 10 (.i2l) 1 11 := ⟨by decide +kernel, rfl⟩
theorem eX11_bucket_11 : DD cX11_bucket 11 (.lconst 0) 1 12 := ⟨by decide +kernel, rfl⟩
theorem eX11_bucket_12 : DD cX11_bucket 12 (.aload_n 0) 1 13 := ⟨by decide +kernel, rfl⟩
theorem eX11_bucket_13 : DD cX11_bucket 13 (.iload_n 1) 1 14 := ⟨by decide +kernel, rfl⟩
theorem eX11_bucket_14 : DD cX11_bucket 14 (.iload_n 2) 1 15 := ⟨by decide +kernel, rfl⟩
theorem eX11_bucket_15 : DD cX11_bucket 15 (.invokevirtual 238) 3 18 := ⟨by decide +kernel, rfl⟩
theorem eX11_bucket_18 : DD cX11_bucket 18 (.iconst 1) 1 19 := ⟨by decide +kernel, rfl⟩
theorem eX11_bucket_19 : DD cX11_bucket 19 (.isub) 1 20 := ⟨by decide +kernel, rfl⟩
theorem eX11_bucket_20 : DD cX11_bucket 20 (.i2l) 1 21 := ⟨by decide +kernel, rfl⟩
theorem eX11_bucket_21 : DD cX11_bucket 21 (.invokestatic 77) 3 24 := ⟨by decide +kernel, rfl⟩
theorem eX11_bucket_24 : DB cX11_bucket 24 (.ifCond .eq 28) (28) 27 52 := ⟨by decide +kernel, rfl, by decide⟩
theorem eX11_bucket_27 : DD cX11_bucket 27 (.iload 4) 2 29 := ⟨by decide +kernel, rfl⟩
theorem eX11_bucket_29 : DD cX11_bucket 29 (.i2l) 1 30 := ⟨by decide +kernel, rfl⟩
theorem eX11_bucket_30 : DD cX11_bucket 30 (.lconst 0) 1 31 := ⟨by decide +kernel, rfl⟩
theorem eX11_bucket_31 : DD cX11_bucket 31 (.ldc2_w 230) 3 34 := ⟨by decide +kernel, rfl⟩
theorem eX11_bucket_34 : DD cX11_bucket 34 (.invokestatic 77) 3 37 := ⟨by decide +kernel, rfl⟩
theorem eX11_bucket_37 : DB cX11_bucket 37 (.ifCond .eq 15) (15) 40 52 := ⟨by decide +kernel, rfl, by decide⟩
theorem eX11_bucket_40 : DD cX11_bucket 40 (.aload_n 0) 1 41 := ⟨by decide +kernel, rfl⟩
theorem eX11_bucket_41 : DD cX11_bucket 41 (.iload_n 1) 1 42 := ⟨by decide +kernel, rfl⟩
theorem eX11_bucket_42 : DD cX11_bucket 42 (.iload_n 2) 1 43 := ⟨by decide +kernel, rfl⟩
theorem eX11_bucket_43 : DD cX11_bucket 43 (.iload_n 3) 1 44 := ⟨by decide +kernel, rfl⟩
theorem eX11_bucket_44 : DD cX11_bucket 44 (.iload 4) 2 46 := ⟨by decide +kernel, rfl⟩
theorem eX11_bucket_46 : DD cX11_bucket 46 (.invokevirtual 241) 3 49 := ⟨by decide +kernel, rfl⟩
theorem eX11_bucket_49 : DB cX11_bucket 49 (.goto 5) (5) 52 54 := ⟨by decide +kernel, rfl, by decide⟩
theorem eX11_bucket_52 : DD cX11_bucket 52 (.ldc 245) 2 54 := ⟨by decide +kernel, rfl⟩
theorem eX11_bucket_54 : DD cX11_bucket 54 (.ireturn) 1 55 := ⟨by decide +kernel, rfl⟩
def G_X11_bucket (x1 : Int32) (x2 : Int32) (x3 : Int32) (x4 : Int32) (μ : Mem) : Option (Int32 × Mem) :=
  bd (G_X11_isColumn x1 x2 μ) (fun r_2 μ_1 => if r_2 = 0 then some ((-1000000 : Int32), μ_1) else bd (G_X11_bucketMany x1 x2 μ_1) (fun r_4 μ_3 => bd (G_X11_in x3.toInt64 (0 : Int64) ((r_4 - (1 : Int32)).toInt64) μ_3) (fun r_6 μ_5 => if r_6 = 0 then some ((-1000000 : Int32), μ_5) else bd (G_X11_in x4.toInt64 (0 : Int64) (3 : Int64) μ_5) (fun r_8 μ_7 => if r_8 = 0 then some ((-1000000 : Int32), μ_7) else bd (G_X11_of x1 x2 x3 x4 μ_7) (fun r_10 μ_9 => some (r_10, μ_9))))))
set_option maxHeartbeats 4000000 in
theorem c_X11_bucket {X : Wd} (hX : WdOk X) (x1 : Int32) (x2 : Int32) (x3 : Int32) (x4 : Int32) (μ : Mem) : CtI X yX11_bucket cX11_bucket 5 (some .int) (rmF 3 68) [.ref (xad X 107), .int x1, .int x2, .int x3, .int x4] μ (G_X11_bucket x1 x2 x3 x4 μ) := by
  refine CtI.of hX (plainFor_of_name (by decide)) (by exact Nat.le_of_ble_eq_true rfl) ?_
  intro C hCX hC hr
  subst hCX
  show J C (KI C) μ 0 [(0, .ref (xad (cX C) 107)), (1, .int x1), (2, .int x2), (3, .int x3), (4, .int x4)] [] _
  unfold G_X11_bucket
  refine J.aload_n (j := 0) hC eX11_bucket_0 rfl ?_
  refine J.iload_n (j := 1) hC eX11_bucket_1 rfl ?_
  refine J.iload_n (j := 2) hC eX11_bucket_2 rfl ?_
  refine J.callVI (st := []) hC eX11_bucket_3 kk_107 (by decide) rfl rfl ml_X11_235 mv_X11_isColumn (Rle_of (Nat.le_of_ble_eq_true rfl) (Nat.le_of_ble_eq_true rfl)) (c_X11_isColumn hC.X x1 x2 μ) rfl rfl (Nat.le_of_ble_eq_true rfl) (fun r_2 μ_1 => ?_)
  refine J.if_eq hC eX11_bucket_6 (fun _ => ?_) (fun _ => ?_)
  · refine J.ldc hC eX11_bucket_52 mk_X11_245 ?_
    exact J.iret hC hr eX11_bucket_54
  · refine J.iload_n (j := 3) hC eX11_bucket_9 rfl ?_
    refine J.i2l hC eX11_bucket_10 ?_
    refine J.lconst hC eX11_bucket_11 cl_0 ?_
    refine J.aload_n (j := 0) hC eX11_bucket_12 rfl ?_
    refine J.iload_n (j := 1) hC eX11_bucket_13 rfl ?_
    refine J.iload_n (j := 2) hC eX11_bucket_14 rfl ?_
    refine J.callVI (st := [.long (0 : Int64), .long x3.toInt64]) hC eX11_bucket_15 kk_107 (by decide) rfl rfl ml_X11_238 mv_X11_bucketMany (Rle_of (Nat.le_of_ble_eq_true rfl) (Nat.le_of_ble_eq_true rfl)) (c_X11_bucketMany hC.X x1 x2 μ_1) rfl rfl (Nat.le_of_ble_eq_true rfl) (fun r_4 μ_3 => ?_)
    refine J.iconst hC eX11_bucket_18 ci_1 ?_
    refine J.isub hC eX11_bucket_19 ?_
    refine J.i2l hC eX11_bucket_20 ?_
    refine J.callSI (st := []) hC eX11_bucket_21 ml_X11_77 mv_X11_in (Rle_of (Nat.le_of_ble_eq_true rfl) (Nat.le_of_ble_eq_true rfl)) (c_X11_in hC.X x3.toInt64 (0 : Int64) ((r_4 - (1 : Int32)).toInt64) μ_3) rfl rfl (Nat.le_of_ble_eq_true rfl) (fun r_6 μ_5 => ?_)
    refine J.if_eq hC eX11_bucket_24 (fun _ => ?_) (fun _ => ?_)
    · refine J.ldc hC eX11_bucket_52 mk_X11_245 ?_
      exact J.iret hC hr eX11_bucket_54
    · refine J.iload (j := 4) hC eX11_bucket_27 rfl ?_
      refine J.i2l hC eX11_bucket_29 ?_
      refine J.lconst hC eX11_bucket_30 cl_0 ?_
      refine J.ldc2 hC eX11_bucket_31 mk_X11_230 ?_
      refine J.callSI (st := []) hC eX11_bucket_34 ml_X11_77 mv_X11_in (Rle_of (Nat.le_of_ble_eq_true rfl) (Nat.le_of_ble_eq_true rfl)) (c_X11_in hC.X x4.toInt64 (0 : Int64) (3 : Int64) μ_5) rfl rfl (Nat.le_of_ble_eq_true rfl) (fun r_8 μ_7 => ?_)
      refine J.if_eq hC eX11_bucket_37 (fun _ => ?_) (fun _ => ?_)
      · refine J.ldc hC eX11_bucket_52 mk_X11_245 ?_
        exact J.iret hC hr eX11_bucket_54
      · refine J.aload_n (j := 0) hC eX11_bucket_40 rfl ?_
        refine J.iload_n (j := 1) hC eX11_bucket_41 rfl ?_
        refine J.iload_n (j := 2) hC eX11_bucket_42 rfl ?_
        refine J.iload_n (j := 3) hC eX11_bucket_43 rfl ?_
        refine J.iload (j := 4) hC eX11_bucket_44 rfl ?_
        refine J.callVI (st := []) hC eX11_bucket_46 kk_107 (by decide) rfl rfl ml_X11_241 mv_X11_of (Rle_of (Nat.le_of_ble_eq_true rfl) (Nat.le_of_ble_eq_true rfl)) (c_X11_of hC.X x1 x2 x3 x4 μ_7) rfl rfl (Nat.le_of_ble_eq_true rfl) (fun r_10 μ_9 => ?_)
        refine J.goto hC eX11_bucket_49 ?_
        exact J.iret hC hr eX11_bucket_54
-- X11_worst
theorem eX11_worst_0 : DD cX11_worst 0 (.aload_n 0) 1 1 := ⟨by decide +kernel, rfl⟩
theorem eX11_worst_1 : DD cX11_worst 1 (.iload_n 1) 1 2 := ⟨by decide +kernel, rfl⟩
theorem eX11_worst_2 : DD cX11_worst 2 (.iload_n 2) 1 3 := ⟨by decide +kernel, rfl⟩
theorem eX11_worst_3 : DD cX11_worst 3 (.invokevirtual 191) 3 6 := ⟨by decide +kernel, rfl⟩
theorem eX11_worst_6 : DD cX11_worst 6 (.iconst 0) 1 7 := ⟨by decide +kernel, rfl⟩
theorem eX11_worst_7 : DD cX11_worst 7 (.istore_n 3) 1 8 := ⟨by decide +kernel, rfl⟩
theorem eX11_worst_8 : DD cX11_worst 8 (.iconst 1) 1 9 := ⟨by decide +kernel, rfl⟩
theorem eX11_worst_9 : DD cX11_worst 9 (.istore 4) 2 11 := ⟨by decide +kernel, rfl⟩
theorem eX11_worst_11 : DD cX11_worst 11 (.iload 4) 2 13 := ⟨by decide +kernel, rfl⟩
theorem eX11_worst_13 : DD cX11_worst 13 (.aload_n 0) 1 14 := ⟨by decide +kernel, rfl⟩
theorem eX11_worst_14 : DD cX11_worst 14 (.iload_n 1) 1 15 := ⟨by decide +kernel, rfl⟩
theorem eX11_worst_15 : DD cX11_worst 15 (.iload_n 2) 1 16 := ⟨by decide +kernel, rfl⟩
theorem eX11_worst_16 : DD cX11_worst 16 (.invokevirtual 238) 3 19 := ⟨by decide +kernel, rfl⟩
theorem eX11_worst_19 : DB cX11_worst 19 (.if_icmp .ge 66) (66) 22 85 := ⟨by decide +kernel, rfl, by decide⟩
theorem eX11_worst_22 : DD cX11_worst 22 (.aload_n 0) 1 23 := ⟨by decide +kernel, rfl⟩
theorem eX11_worst_23 : DD cX11_worst 23 (.aload_n 0) 1 24 := ⟨by decide +kernel, rfl⟩
theorem eX11_worst_24 : DD cX11_worst 24 (.iload_n 1) 1 25 := ⟨by decide +kernel, rfl⟩
theorem eX11_worst_25 : DD cX11_worst 25 (.iload_n 2) 1 26 := ⟨by decide +kernel, rfl⟩
theorem eX11_worst_26 : DD cX11_worst 26 (.iload 4) 2 28 := ⟨by decide +kernel, rfl⟩
theorem eX11_worst_28 : DD cX11_worst 28 (.iconst 0) 1 29 := ⟨by decide +kernel, rfl⟩
theorem eX11_worst_29 : DD cX11_worst 29 (.invokevirtual 241) 3 32 := ⟨by decide +kernel, rfl⟩
theorem eX11_worst_32 : DD cX11_worst 32 (.aload_n 0) 1 33 := ⟨by decide +kernel, rfl⟩
theorem eX11_worst_33 : DD cX11_worst 33 (.iload_n 1) 1 34 := ⟨by decide +kernel, rfl⟩
theorem eX11_worst_34 : DD cX11_worst 34 (.iload_n 2) 1 35 := ⟨by decide +kernel, rfl⟩
theorem eX11_worst_35 : DD cX11_worst 35 (.iload 4) 2 37 := ⟨by decide +kernel, rfl⟩
theorem eX11_worst_37 : DD cX11_worst 37 (.iconst 1) 1 38 := ⟨by decide +kernel, rfl⟩
theorem eX11_worst_38 : DD cX11_worst 38 (.invokevirtual 241) 3 41 := ⟨by decide +kernel, rfl⟩
theorem eX11_worst_41 : DD cX11_worst 41 (.iconst 1) 1 42 := ⟨by decide +kernel, rfl⟩
theorem eX11_worst_42 : DD cX11_worst 42 (.iadd) 1 43 := ⟨by decide +kernel, rfl⟩
theorem eX11_worst_43 : DD cX11_worst 43 (.invokevirtual 177) 3 46 := ⟨by decide +kernel, rfl⟩
theorem eX11_worst_46 : DD cX11_worst 46 (.aload_n 0) 1 47 := ⟨by decide +kernel, rfl⟩
theorem eX11_worst_47 : DD cX11_worst 47 (.aload_n 0) 1 48 := ⟨by decide +kernel, rfl⟩
theorem eX11_worst_48 : DD cX11_worst 48 (.iload_n 1) 1 49 := ⟨by decide +kernel, rfl⟩
theorem eX11_worst_49 : DD cX11_worst 49 (.iload_n 2) 1 50 := ⟨by decide +kernel, rfl⟩
theorem eX11_worst_50 : DD cX11_worst 50 (.iload_n 3) 1 51 := ⟨by decide +kernel, rfl⟩
theorem eX11_worst_51 : DD cX11_worst 51 (.iconst 0) 1 52 := ⟨by decide +kernel, rfl⟩
theorem eX11_worst_52 : DD cX11_worst 52 (.invokevirtual 241) 3 55 := ⟨by decide +kernel, rfl⟩
theorem eX11_worst_55 : DD cX11_worst 55 (.aload_n 0) 1 56 := ⟨by decide +kernel, rfl⟩
theorem eX11_worst_56 : DD cX11_worst 56 (.iload_n 1) 1 57 := ⟨by decide +kernel, rfl⟩
theorem eX11_worst_57 : DD cX11_worst 57 (.iload_n 2) 1 58 := ⟨by decide +kernel, rfl⟩
theorem eX11_worst_58 : DD cX11_worst 58 (.iload_n 3) 1 59 := ⟨by decide +kernel, rfl⟩
theorem eX11_worst_59 : DD cX11_worst 59 (.iconst 1) 1 60 := ⟨by decide +kernel, rfl⟩
theorem eX11_worst_60 : DD cX11_worst 60 (.invokevirtual 241) 3 63 := ⟨by decide +kernel, rfl⟩
theorem eX11_worst_63 : DD cX11_worst 63 (.iconst 1) 1 64 := ⟨by decide +kernel, rfl⟩
theorem eX11_worst_64 : DD cX11_worst 64 (.iadd) 1 65 := ⟨by decide +kernel, rfl⟩
theorem eX11_worst_65 : DD cX11_worst 65 (.invokevirtual 177) 3 68 := ⟨by decide +kernel, rfl⟩
theorem eX11_worst_68 : DD cX11_worst 68 (.lcmp) 1 69 := ⟨by decide +kernel, rfl⟩
theorem eX11_worst_69 : DB cX11_worst 69 (.ifCond .le 8) (8) 72 77 := ⟨by decide +kernel, rfl, by decide⟩
theorem eX11_worst_72 : DD cX11_worst 72 (.iload 4) 2 74 := ⟨by decide +kernel, rfl⟩
theorem eX11_worst_74 : DB cX11_worst 74 (.goto 4) (4) 77 78 := ⟨by decide +kernel, rfl, by decide⟩
theorem eX11_worst_77 : DD cX11_worst 77 (.iload_n 3) 1 78 := ⟨by decide +kernel, rfl⟩
theorem eX11_worst_78 : DD cX11_worst 78 (.istore_n 3) 1 79 := ⟨by decide +kernel, rfl⟩
theorem eX11_worst_79 : DD cX11_worst 79 (.iinc 4 1) 3 82 := ⟨by decide +kernel, rfl⟩
theorem eX11_worst_82 : DB cX11_worst 82 (.goto (-71)) (-71) 85 11 := ⟨by decide +kernel, rfl, by decide⟩
theorem eX11_worst_85 : DD cX11_worst 85 (.iload_n 3) 1 86 := ⟨by decide +kernel, rfl⟩
theorem eX11_worst_86 : DD cX11_worst 86 (.ireturn) 1 87 := ⟨by decide +kernel, rfl⟩
def F_X11_worst_78 (kc_11 : Int32 → Int32 → Int32 → Int32 → Mem → Option (Int32 × Mem)) (x1 : Int32) (x2 : Int32) (x4 : Int32) (xs0 : Int32) (μ : Mem) : Option (Int32 × Mem) :=
  lb (x4 + (1 : Int32)) (fun x4_1 => kc_11 x1 x2 xs0 x4_1 μ)
set_option maxHeartbeats 4000000 in
theorem j_X11_worst_78 {C : Cx} (hC : Ok C cX11_worst 5 RX11 (rmF 3 71)) (hr : (cT C).sig.returnType = (some .int)) (kc_11 : Int32 → Int32 → Int32 → Int32 → Mem → Option (Int32 × Mem)) (hk_11 : ∀ (x1 : Int32) (x2 : Int32) (x3 : Int32) (x4 : Int32) (μ : Mem), J C (KI C) μ 11 [(0, .ref (xad (cX C) 107)), (1, .int x1), (2, .int x2), (3, .int x3), (4, .int x4)] [] (kc_11 x1 x2 x3 x4 μ)) (x1 : Int32) (x2 : Int32) (x4 : Int32) (xs0 : Int32) (μ : Mem) : J C (KI C) μ 78 [(0, .ref (xad (cX C) 107)), (1, .int x1), (2, .int x2), (4, .int x4)] [.int xs0] (F_X11_worst_78 kc_11 x1 x2 x4 xs0 μ) := by
  unfold F_X11_worst_78
  refine J.istore_n [(3, .int xs0), (0, .ref (xad (cX C) 107)), (1, .int x1), (2, .int x2), (4, .int x4)] hC eX11_worst_78 (by decide) rfl ?_
  refine J.iinc (j := 4) (fun x4_1 => [(4, .int x4_1), (3, .int xs0), (0, .ref (xad (cX C) 107)), (1, .int x1), (2, .int x2)]) hC eX11_worst_79 rfl ci_1 (by decide) (fun _ => rfl) (fun x4_1 => ?_)
  refine J.goto hC eX11_worst_82 ?_
  refine J.sub [2, 3, 4, 1, 0] rfl ?_
  exact hk_11 x1 x2 xs0 x4_1 μ
def L_X11_worst_11 : Nat → Int32 → Int32 → Int32 → Int32 → Mem → Option (Int32 × Mem)
  | 0, _, _, _, _, _ => none
  | n + 1, x1, x2, x3, x4, μ => bd (G_X11_bucketMany x1 x2 μ) (fun r_2 μ_1 => if r_2 ≤ x4 then some (x3, μ_1) else bd (G_X11_of x1 x2 x4 (0 : Int32) μ_1) (fun r_4 μ_3 => bd (G_X11_of x1 x2 x4 (1 : Int32) μ_3) (fun r_6 μ_5 => bd (G_X11_errorOf r_4 (r_6 + (1 : Int32)) μ_5) (fun r_8 μ_7 => bd (G_X11_of x1 x2 x3 (0 : Int32) μ_7) (fun r_10 μ_9 => bd (G_X11_of x1 x2 x3 (1 : Int32) μ_9) (fun r_12 μ_11 => bd (G_X11_errorOf r_10 (r_12 + (1 : Int32)) μ_11) (fun r_14 μ_13 => if (lg_cmp r_8 r_14) ≤ 0 then F_X11_worst_78 (L_X11_worst_11  n) x1 x2 x4 x3 μ_13 else F_X11_worst_78 (L_X11_worst_11  n) x1 x2 x4 x4 μ_13)))))))
set_option maxHeartbeats 4000000 in
theorem j_X11_worst_11 {C : Cx} (hC : Ok C cX11_worst 5 RX11 (rmF 3 71)) (hr : (cT C).sig.returnType = (some .int)) : ∀ (n : Nat) (x1 : Int32) (x2 : Int32) (x3 : Int32) (x4 : Int32) (μ : Mem), J C (KI C) μ 11 [(0, .ref (xad (cX C) 107)), (1, .int x1), (2, .int x2), (3, .int x3), (4, .int x4)] [] (L_X11_worst_11  n x1 x2 x3 x4 μ) := by
  intro n
  induction n with
  | zero => intros; exact J.no
  | succ n ih =>
    intro x1 x2 x3 x4 μ
    rw [L_X11_worst_11]
    refine J.iload (j := 4) hC eX11_worst_11 rfl ?_
    refine J.aload_n (j := 0) hC eX11_worst_13 rfl ?_
    refine J.iload_n (j := 1) hC eX11_worst_14 rfl ?_
    refine J.iload_n (j := 2) hC eX11_worst_15 rfl ?_
    refine J.callVI (st := [.int x4]) hC eX11_worst_16 kk_107 (by decide) rfl rfl ml_X11_238 mv_X11_bucketMany (Rle_of (Nat.le_of_ble_eq_true rfl) (Nat.le_of_ble_eq_true rfl)) (c_X11_bucketMany hC.X x1 x2 μ) rfl rfl (Nat.le_of_ble_eq_true rfl) (fun r_2 μ_1 => ?_)
    refine J.icmp_ge hC eX11_worst_19 (fun _ => ?_) (fun _ => ?_)
    · refine J.iload_n (j := 3) hC eX11_worst_85 rfl ?_
      exact J.iret hC hr eX11_worst_86
    · refine J.aload_n (j := 0) hC eX11_worst_22 rfl ?_
      refine J.aload_n (j := 0) hC eX11_worst_23 rfl ?_
      refine J.iload_n (j := 1) hC eX11_worst_24 rfl ?_
      refine J.iload_n (j := 2) hC eX11_worst_25 rfl ?_
      refine J.iload (j := 4) hC eX11_worst_26 rfl ?_
      refine J.iconst hC eX11_worst_28 ci_0 ?_
      refine J.callVI (st := [.ref (xad (cX C) 107)]) hC eX11_worst_29 kk_107 (by decide) rfl rfl ml_X11_241 mv_X11_of (Rle_of (Nat.le_of_ble_eq_true rfl) (Nat.le_of_ble_eq_true rfl)) (c_X11_of hC.X x1 x2 x4 (0 : Int32) μ_1) rfl rfl (Nat.le_of_ble_eq_true rfl) (fun r_4 μ_3 => ?_)
      refine J.aload_n (j := 0) hC eX11_worst_32 rfl ?_
      refine J.iload_n (j := 1) hC eX11_worst_33 rfl ?_
      refine J.iload_n (j := 2) hC eX11_worst_34 rfl ?_
      refine J.iload (j := 4) hC eX11_worst_35 rfl ?_
      refine J.iconst hC eX11_worst_37 ci_1 ?_
      refine J.callVI (st := [.int r_4, .ref (xad (cX C) 107)]) hC eX11_worst_38 kk_107 (by decide) rfl rfl ml_X11_241 mv_X11_of (Rle_of (Nat.le_of_ble_eq_true rfl) (Nat.le_of_ble_eq_true rfl)) (c_X11_of hC.X x1 x2 x4 (1 : Int32) μ_3) rfl rfl (Nat.le_of_ble_eq_true rfl) (fun r_6 μ_5 => ?_)
      refine J.iconst hC eX11_worst_41 ci_1 ?_
      refine J.iadd hC eX11_worst_42 ?_
      refine J.callVL (st := []) hC eX11_worst_43 kk_107 (by decide) rfl rfl ml_X11_177 mv_X11_errorOf (Rle_of (Nat.le_of_ble_eq_true rfl) (Nat.le_of_ble_eq_true rfl)) (c_X11_errorOf hC.X r_4 (r_6 + (1 : Int32)) μ_5) rfl rfl (Nat.le_of_ble_eq_true rfl) (fun r_8 μ_7 => ?_)
      refine J.aload_n (j := 0) hC eX11_worst_46 rfl ?_
      refine J.aload_n (j := 0) hC eX11_worst_47 rfl ?_
      refine J.iload_n (j := 1) hC eX11_worst_48 rfl ?_
      refine J.iload_n (j := 2) hC eX11_worst_49 rfl ?_
      refine J.iload_n (j := 3) hC eX11_worst_50 rfl ?_
      refine J.iconst hC eX11_worst_51 ci_0 ?_
      refine J.callVI (st := [.ref (xad (cX C) 107), .long r_8]) hC eX11_worst_52 kk_107 (by decide) rfl rfl ml_X11_241 mv_X11_of (Rle_of (Nat.le_of_ble_eq_true rfl) (Nat.le_of_ble_eq_true rfl)) (c_X11_of hC.X x1 x2 x3 (0 : Int32) μ_7) rfl rfl (Nat.le_of_ble_eq_true rfl) (fun r_10 μ_9 => ?_)
      refine J.aload_n (j := 0) hC eX11_worst_55 rfl ?_
      refine J.iload_n (j := 1) hC eX11_worst_56 rfl ?_
      refine J.iload_n (j := 2) hC eX11_worst_57 rfl ?_
      refine J.iload_n (j := 3) hC eX11_worst_58 rfl ?_
      refine J.iconst hC eX11_worst_59 ci_1 ?_
      refine J.callVI (st := [.int r_10, .ref (xad (cX C) 107), .long r_8]) hC eX11_worst_60 kk_107 (by decide) rfl rfl ml_X11_241 mv_X11_of (Rle_of (Nat.le_of_ble_eq_true rfl) (Nat.le_of_ble_eq_true rfl)) (c_X11_of hC.X x1 x2 x3 (1 : Int32) μ_9) rfl rfl (Nat.le_of_ble_eq_true rfl) (fun r_12 μ_11 => ?_)
      refine J.iconst hC eX11_worst_63 ci_1 ?_
      refine J.iadd hC eX11_worst_64 ?_
      refine J.callVL (st := [.long r_8]) hC eX11_worst_65 kk_107 (by decide) rfl rfl ml_X11_177 mv_X11_errorOf (Rle_of (Nat.le_of_ble_eq_true rfl) (Nat.le_of_ble_eq_true rfl)) (c_X11_errorOf hC.X r_10 (r_12 + (1 : Int32)) μ_11) rfl rfl (Nat.le_of_ble_eq_true rfl) (fun r_14 μ_13 => ?_)
      refine J.lcmp hC eX11_worst_68 ?_
      refine J.if_le hC eX11_worst_69 (fun _ => ?_) (fun _ => ?_)
      · refine J.iload_n (j := 3) hC eX11_worst_77 rfl ?_
        refine J.sub [0, 1, 2, 4] rfl ?_
        exact j_X11_worst_78 hC hr (L_X11_worst_11  n) ih x1 x2 x4 x3 μ_13
      · refine J.iload (j := 4) hC eX11_worst_72 rfl ?_
        refine J.goto hC eX11_worst_74 ?_
        refine J.sub [0, 1, 2, 4] rfl ?_
        exact j_X11_worst_78 hC hr (L_X11_worst_11  n) ih x1 x2 x4 x4 μ_13
def G_X11_worst (x1 : Int32) (x2 : Int32) (μ : Mem) : Option (Int32 × Mem) :=
  bd (G_X11_layCounts x1 x2 μ) (fun r_2 μ_1 => L_X11_worst_11  100000 x1 x2 (0 : Int32) (1 : Int32) μ_1)
set_option maxHeartbeats 4000000 in
theorem c_X11_worst {X : Wd} (hX : WdOk X) (x1 : Int32) (x2 : Int32) (μ : Mem) : CtI X yX11_worst cX11_worst 5 (some .int) (rmF 3 71) [.ref (xad X 107), .int x1, .int x2] μ (G_X11_worst x1 x2 μ) := by
  refine CtI.of hX (plainFor_of_name (by decide)) (by exact Nat.le_of_ble_eq_true rfl) ?_
  intro C hCX hC hr
  subst hCX
  show J C (KI C) μ 0 [(0, .ref (xad (cX C) 107)), (1, .int x1), (2, .int x2)] [] _
  unfold G_X11_worst
  refine J.aload_n (j := 0) hC eX11_worst_0 rfl ?_
  refine J.iload_n (j := 1) hC eX11_worst_1 rfl ?_
  refine J.iload_n (j := 2) hC eX11_worst_2 rfl ?_
  refine J.callVV (st := []) hC eX11_worst_3 kk_107 (by decide) rfl rfl ml_X11_191 mv_X11_layCounts (Rle_of (Nat.le_of_ble_eq_true rfl) (Nat.le_of_ble_eq_true rfl)) (c_X11_layCounts hC.X x1 x2 μ) rfl rfl (Nat.le_of_ble_eq_true rfl) (fun r_2 μ_1 => ?_)
  refine J.iconst hC eX11_worst_6 ci_0 ?_
  refine J.istore_n [(3, .int (0 : Int32)), (0, .ref (xad (cX C) 107)), (1, .int x1), (2, .int x2)] hC eX11_worst_7 (by decide) rfl ?_
  refine J.iconst hC eX11_worst_8 ci_1 ?_
  refine J.istore [(4, .int (1 : Int32)), (3, .int (0 : Int32)), (0, .ref (xad (cX C) 107)), (1, .int x1), (2, .int x2)] hC eX11_worst_9 (by decide) rfl ?_
  refine J.sub [2, 3, 4, 1, 0] rfl ?_
  exact j_X11_worst_11 hC hr  100000 x1 x2 (0 : Int32) (1 : Int32) μ_1
-- X11_column_
theorem eX11_column__0 : DD cX11_column_ 0 (.aload_n 0) 1 1 := ⟨by decide +kernel, rfl⟩
theorem eX11_column__1 : DD cX11_column_ 1 (.iload_n 1) 1 2 := ⟨by decide +kernel, rfl⟩
theorem eX11_column__2 : DD cX11_column_ 2 (.iload_n 2) 1 3 := ⟨by decide +kernel, rfl⟩
theorem eX11_column__3 : DD cX11_column_ 3 (.invokevirtual 235) 3 6 := ⟨by decide +kernel, rfl⟩
theorem eX11_column__6 : DB cX11_column_ 6 (.ifCond .eq 15) (15) 9 21 := ⟨by decide +kernel, rfl, by decide⟩
theorem eX11_column__9 : DD cX11_column_ 9 (.iload_n 3) 1 10 := ⟨by decide +kernel, rfl⟩
theorem eX11_column__10 : DD cX11_column_ 10 (.i2l) 1 11 := ⟨by decide +kernel, rfl⟩
theorem eX11_column__11 : DD cX11_column_ 11 (.lconst 0) 1 12 := ⟨by decide +kernel, rfl⟩
theorem eX11_column__12 : DD cX11_column_ 12 (.ldc2_w 230) 3 15 := ⟨by decide +kernel, rfl⟩
theorem eX11_column__15 : DD cX11_column_ 15 (.invokestatic 77) 3 18 := ⟨by decide +kernel, rfl⟩
theorem eX11_column__18 : DB cX11_column_ 18 (.ifCond .ne 5) (5) 21 23 := ⟨by decide +kernel, rfl, by decide⟩
theorem eX11_column__21 : DD cX11_column_ 21 (.iconst (-1)) 1 22 := ⟨by decide +kernel, rfl⟩
theorem eX11_column__22 : DD cX11_column_ 22 (.ireturn) 1 23 := ⟨by decide +kernel, rfl⟩
theorem eX11_column__23 : DD cX11_column_ 23 (.iload_n 3) 1 24 := ⟨by decide +kernel, rfl⟩
theorem eX11_column__24 : decode cX11_column_ 24 = .ok (.tableswitch 53 0 2 #[28, 35, 46], 28) := by decide +kernel
theorem eX11_column__52 : DD cX11_column_ 52 (.aload_n 0) 1 53 := ⟨by decide +kernel, rfl⟩
theorem eX11_column__53 : DD cX11_column_ 53 (.iload_n 1) 1 54 := ⟨by decide +kernel, rfl⟩
theorem eX11_column__54 : DD cX11_column_ 54 (.iload_n 2) 1 55 := ⟨by decide +kernel, rfl⟩
theorem eX11_column__55 : DD cX11_column_ 55 (.invokevirtual 238) 3 58 := ⟨by decide +kernel, rfl⟩
theorem eX11_column__58 : DD cX11_column_ 58 (.ireturn) 1 59 := ⟨by decide +kernel, rfl⟩
theorem eX11_column__59 : DD cX11_column_ 59 (.aload_n 0) 1 60 := ⟨by decide +kernel, rfl⟩
theorem eX11_column__60 : DD cX11_column_ 60 (.getfield 34) 3 63 := ⟨by decide +kernel, rfl⟩
theorem eX11_column__63 : DD cX11_column_ 63 (.iload_n 1) 1 64 := ⟨by decide +kernel, rfl⟩
theorem eX11_column__64 : DD cX11_column_ 64 (.iload_n 2) 1 65 := ⟨by decide +kernel, rfl⟩
theorem eX11_column__65 : DD cX11_column_ 65 (.invokestatic 199) 3 68 := ⟨by decide +kernel, rfl⟩
theorem eX11_column__68 : DD cX11_column_ 68 (.iaload) 1 69 := ⟨by decide +kernel, rfl⟩
theorem eX11_column__69 : DD cX11_column_ 69 (.ireturn) 1 70 := ⟨by decide +kernel, rfl⟩
theorem eX11_column__70 : DD cX11_column_ 70 (.aload_n 0) 1 71 := ⟨by decide +kernel, rfl⟩
theorem eX11_column__71 : DD cX11_column_ 71 (.iload_n 1) 1 72 := ⟨by decide +kernel, rfl⟩
theorem eX11_column__72 : DD cX11_column_ 72 (.iload_n 2) 1 73 := ⟨by decide +kernel, rfl⟩
theorem eX11_column__73 : DD cX11_column_ 73 (.invokevirtual 246) 3 76 := ⟨by decide +kernel, rfl⟩
theorem eX11_column__76 : DD cX11_column_ 76 (.ireturn) 1 77 := ⟨by decide +kernel, rfl⟩
theorem eX11_column__77 : DD cX11_column_ 77 (.aload_n 0) 1 78 := ⟨by decide +kernel, rfl⟩
theorem eX11_column__78 : DD cX11_column_ 78 (.getfield 22) 3 81 := ⟨by decide +kernel, rfl⟩
theorem eX11_column__81 : DD cX11_column_ 81 (.iconst 1) 1 82 := ⟨by decide +kernel, rfl⟩
theorem eX11_column__82 : DD cX11_column_ 82 (.iaload) 1 83 := ⟨by decide +kernel, rfl⟩
theorem eX11_column__83 : DD cX11_column_ 83 (.aload_n 0) 1 84 := ⟨by decide +kernel, rfl⟩
theorem eX11_column__84 : DD cX11_column_ 84 (.getfield 34) 3 87 := ⟨by decide +kernel, rfl⟩
theorem eX11_column__87 : DD cX11_column_ 87 (.iload_n 1) 1 88 := ⟨by decide +kernel, rfl⟩
theorem eX11_column__88 : DD cX11_column_ 88 (.iload_n 2) 1 89 := ⟨by decide +kernel, rfl⟩
theorem eX11_column__89 : DD cX11_column_ 89 (.invokestatic 199) 3 92 := ⟨by decide +kernel, rfl⟩
theorem eX11_column__92 : DD cX11_column_ 92 (.iaload) 1 93 := ⟨by decide +kernel, rfl⟩
theorem eX11_column__93 : DD cX11_column_ 93 (.isub) 1 94 := ⟨by decide +kernel, rfl⟩
theorem eX11_column__94 : DD cX11_column_ 94 (.ireturn) 1 95 := ⟨by decide +kernel, rfl⟩
def G_X11_column_ (x1 : Int32) (x2 : Int32) (x3 : Int32) (μ : Mem) : Option (Int32 × Mem) :=
  bd (G_X11_isColumn x1 x2 μ) (fun r_2 μ_1 => if r_2 = 0 then some ((-1 : Int32), μ_1) else bd (G_X11_in x3.toInt64 (0 : Int64) (3 : Int64) μ_1) (fun r_4 μ_3 => if r_4 = 0 then some ((-1 : Int32), μ_3) else if x3 = (0 : Int32) then bd (G_X11_bucketMany x1 x2 μ_3) (fun r_7 μ_6 => some (r_7, μ_6)) else (if x3 = (1 : Int32) then bd (G_X11_drift x1 x2 μ_3) (fun r_10 μ_9 => gq (inB r_10 1253) (some (rI μ_9 116 (nx r_10), μ_9))) else (if x3 = (2 : Int32) then bd (G_X11_worst x1 x2 μ_3) (fun r_13 μ_12 => some (r_13, μ_12)) else (bd (G_X11_drift x1 x2 μ_3) (fun r_15 μ_14 => gq (inB r_15 1253) (some ((rI μ_3 112 1) - (rI μ_14 116 (nx r_15)), μ_14))))))))
set_option maxHeartbeats 4000000 in
theorem c_X11_column_ {X : Wd} (hX : WdOk X) (x1 : Int32) (x2 : Int32) (x3 : Int32) (μ : Mem) : CtI X yX11_column_ cX11_column_ 4 (some .int) (rmF 4 95) [.ref (xad X 107), .int x1, .int x2, .int x3] μ (G_X11_column_ x1 x2 x3 μ) := by
  refine CtI.of hX (plainFor_of_name (by decide)) (by exact Nat.le_of_ble_eq_true rfl) ?_
  intro C hCX hC hr
  subst hCX
  show J C (KI C) μ 0 [(0, .ref (xad (cX C) 107)), (1, .int x1), (2, .int x2), (3, .int x3)] [] _
  unfold G_X11_column_
  refine J.aload_n (j := 0) hC eX11_column__0 rfl ?_
  refine J.iload_n (j := 1) hC eX11_column__1 rfl ?_
  refine J.iload_n (j := 2) hC eX11_column__2 rfl ?_
  refine J.callVI (st := []) hC eX11_column__3 kk_107 (by decide) rfl rfl ml_X11_235 mv_X11_isColumn (Rle_of (Nat.le_of_ble_eq_true rfl) (Nat.le_of_ble_eq_true rfl)) (c_X11_isColumn hC.X x1 x2 μ) rfl rfl (Nat.le_of_ble_eq_true rfl) (fun r_2 μ_1 => ?_)
  refine J.if_eq hC eX11_column__6 (fun _ => ?_) (fun _ => ?_)
  · refine J.iconst hC eX11_column__21 ci_m1 ?_
    exact J.iret hC hr eX11_column__22
  · refine J.iload_n (j := 3) hC eX11_column__9 rfl ?_
    refine J.i2l hC eX11_column__10 ?_
    refine J.lconst hC eX11_column__11 cl_0 ?_
    refine J.ldc2 hC eX11_column__12 mk_X11_230 ?_
    refine J.callSI (st := []) hC eX11_column__15 ml_X11_77 mv_X11_in (Rle_of (Nat.le_of_ble_eq_true rfl) (Nat.le_of_ble_eq_true rfl)) (c_X11_in hC.X x3.toInt64 (0 : Int64) (3 : Int64) μ_1) rfl rfl (Nat.le_of_ble_eq_true rfl) (fun r_4 μ_3 => ?_)
    refine J.if_ne hC eX11_column__18 (fun _ => ?_) (fun _ => ?_)
    · refine J.iconst hC eX11_column__21 ci_m1 ?_
      exact J.iret hC hr eX11_column__22
    · refine J.iload_n (j := 3) hC eX11_column__23 rfl ?_
      refine J.ite (fun h_5 => ?_) (fun h_5 => ?_)
      · refine J.tsI (off := 28) (tgt := 52) hC eX11_column__24 (by rw [h_5]; decide) (by rw [h_5]; decide) (by rw [h_5]; rfl) (by decide) ?_
        refine J.aload_n (j := 0) hC eX11_column__52 rfl ?_
        refine J.iload_n (j := 1) hC eX11_column__53 rfl ?_
        refine J.iload_n (j := 2) hC eX11_column__54 rfl ?_
        refine J.callVI (st := []) hC eX11_column__55 kk_107 (by decide) rfl rfl ml_X11_238 mv_X11_bucketMany (Rle_of (Nat.le_of_ble_eq_true rfl) (Nat.le_of_ble_eq_true rfl)) (c_X11_bucketMany hC.X x1 x2 μ_3) rfl rfl (Nat.le_of_ble_eq_true rfl) (fun r_7 μ_6 => ?_)
        exact J.iret hC hr eX11_column__58
      refine J.ite (fun h_8 => ?_) (fun h_8 => ?_)
      · refine J.tsI (off := 35) (tgt := 59) hC eX11_column__24 (by rw [h_8]; decide) (by rw [h_8]; decide) (by rw [h_8]; rfl) (by decide) ?_
        refine J.aload_n (j := 0) hC eX11_column__59 rfl ?_
        refine gf_X11_34 (q := 116) hC eX11_column__60 kk_107 rfl ?_
        refine J.iload_n (j := 1) hC eX11_column__63 rfl ?_
        refine J.iload_n (j := 2) hC eX11_column__64 rfl ?_
        refine J.callSI (st := [.ref (xad (cX C) 116)]) hC eX11_column__65 ml_X11_199 mv_X11_drift (Rle_of (Nat.le_of_ble_eq_true rfl) (Nat.le_of_ble_eq_true rfl)) (c_X11_drift hC.X x1 x2 μ_3) rfl rfl (Nat.le_of_ble_eq_true rfl) (fun r_10 μ_9 => ?_)
        refine J.iald ik_1253 hC eX11_column__68 kk_116 ?_
        exact J.iret hC hr eX11_column__69
      refine J.ite (fun h_11 => ?_) (fun h_11 => ?_)
      · refine J.tsI (off := 46) (tgt := 70) hC eX11_column__24 (by rw [h_11]; decide) (by rw [h_11]; decide) (by rw [h_11]; rfl) (by decide) ?_
        refine J.aload_n (j := 0) hC eX11_column__70 rfl ?_
        refine J.iload_n (j := 1) hC eX11_column__71 rfl ?_
        refine J.iload_n (j := 2) hC eX11_column__72 rfl ?_
        refine J.callVI (st := []) hC eX11_column__73 kk_107 (by decide) rfl rfl ml_X11_246 mv_X11_worst (Rle_of (Nat.le_of_ble_eq_true rfl) (Nat.le_of_ble_eq_true rfl)) (c_X11_worst hC.X x1 x2 μ_3) rfl rfl (Nat.le_of_ble_eq_true rfl) (fun r_13 μ_12 => ?_)
        exact J.iret hC hr eX11_column__76
      refine J.tsO (tgt := 77) hC eX11_column__24 (by have th_5 := lv_neT h_5 (show ((0 : Int32)).toInt = 0 from rfl); have th_8 := lv_neT h_8 (show ((1 : Int32)).toInt = 1 from rfl); have th_11 := lv_neT h_11 (show ((2 : Int32)).toInt = 2 from rfl); omega) (by decide) ?_
      refine J.aload_n (j := 0) hC eX11_column__77 rfl ?_
      refine gf_X11_22 (q := 112) hC eX11_column__78 kk_107 rfl ?_
      refine J.iconst hC eX11_column__81 ci_1 ?_
      refine J.ialdK (j := 1) ik_3 hC eX11_column__82 kk_112 (by decide) (by decide) ?_
      refine J.aload_n (j := 0) hC eX11_column__83 rfl ?_
      refine gf_X11_34 (q := 116) hC eX11_column__84 kk_107 rfl ?_
      refine J.iload_n (j := 1) hC eX11_column__87 rfl ?_
      refine J.iload_n (j := 2) hC eX11_column__88 rfl ?_
      refine J.callSI (st := [.ref (xad (cX C) 116), .int (rI μ_3 112 1)]) hC eX11_column__89 ml_X11_199 mv_X11_drift (Rle_of (Nat.le_of_ble_eq_true rfl) (Nat.le_of_ble_eq_true rfl)) (c_X11_drift hC.X x1 x2 μ_3) rfl rfl (Nat.le_of_ble_eq_true rfl) (fun r_15 μ_14 => ?_)
      refine J.iald ik_1253 hC eX11_column__92 kk_116 ?_
      refine J.isub hC eX11_column__93 ?_
      exact J.iret hC hr eX11_column__94
-- X11_isBuilding
theorem eX11_isBuilding_0 : DD cX11_isBuilding 0 (.aload_n 0) 1 1 := ⟨by decide +kernel, rfl⟩
theorem eX11_isBuilding_1 : DD cX11_isBuilding 1 (.iload_n 1) 1 2 := ⟨by decide +kernel, rfl⟩
theorem eX11_isBuilding_2 : DD cX11_isBuilding 2 (.iload_n 2) 1 3 := ⟨by decide +kernel, rfl⟩
theorem eX11_isBuilding_3 : DD cX11_isBuilding 3 (.invokevirtual 235) 3 6 := ⟨by decide +kernel, rfl⟩
theorem eX11_isBuilding_6 : DB cX11_isBuilding 6 (.ifCond .eq 23) (23) 9 29 := ⟨by decide +kernel, rfl, by decide⟩
theorem eX11_isBuilding_9 : DD cX11_isBuilding 9 (.iload_n 3) 1 10 := ⟨by decide +kernel, rfl⟩
theorem eX11_isBuilding_10 : DD cX11_isBuilding 10 (.i2l) 1 11 := ⟨by decide +kernel, rfl⟩
theorem eX11_isBuilding_11 : DD cX11_isBuilding 11 (.lconst 1) 1 12 := ⟨by decide +kernel, rfl⟩
theorem eX11_isBuilding_12 : DD cX11_isBuilding 12 (.aload_n 0) 1 13 := ⟨by decide +kernel, rfl⟩
theorem eX11_isBuilding_13 : DD cX11_isBuilding 13 (.getfield 25) 3 16 := ⟨by decide +kernel, rfl⟩
theorem eX11_isBuilding_16 : DD cX11_isBuilding 16 (.iload_n 1) 1 17 := ⟨by decide +kernel, rfl⟩
theorem eX11_isBuilding_17 : DD cX11_isBuilding 17 (.iaload) 1 18 := ⟨by decide +kernel, rfl⟩
theorem eX11_isBuilding_18 : DD cX11_isBuilding 18 (.i2l) 1 19 := ⟨by decide +kernel, rfl⟩
theorem eX11_isBuilding_19 : DD cX11_isBuilding 19 (.invokestatic 77) 3 22 := ⟨by decide +kernel, rfl⟩
theorem eX11_isBuilding_22 : DB cX11_isBuilding 22 (.ifCond .eq 7) (7) 25 29 := ⟨by decide +kernel, rfl, by decide⟩
theorem eX11_isBuilding_25 : DD cX11_isBuilding 25 (.iconst 1) 1 26 := ⟨by decide +kernel, rfl⟩
theorem eX11_isBuilding_26 : DB cX11_isBuilding 26 (.goto 4) (4) 29 30 := ⟨by decide +kernel, rfl, by decide⟩
theorem eX11_isBuilding_29 : DD cX11_isBuilding 29 (.iconst 0) 1 30 := ⟨by decide +kernel, rfl⟩
theorem eX11_isBuilding_30 : DD cX11_isBuilding 30 (.ireturn) 1 31 := ⟨by decide +kernel, rfl⟩
def G_X11_isBuilding (x1 : Int32) (x2 : Int32) (x3 : Int32) (μ : Mem) : Option (Int32 × Mem) :=
  bd (G_X11_isColumn x1 x2 μ) (fun r_2 μ_1 => if r_2 = 0 then some ((0 : Int32), μ_1) else gq (inB x1 3) (bd (G_X11_in x3.toInt64 (1 : Int64) ((rI μ_1 113 (nx x1)).toInt64) μ_1) (fun r_4 μ_3 => if r_4 = 0 then some ((0 : Int32), μ_3) else some ((1 : Int32), μ_3))))
set_option maxHeartbeats 4000000 in
theorem c_X11_isBuilding {X : Wd} (hX : WdOk X) (x1 : Int32) (x2 : Int32) (x3 : Int32) (μ : Mem) : CtI X yX11_isBuilding cX11_isBuilding 4 (some .boolean) (rmF 3 68) [.ref (xad X 107), .int x1, .int x2, .int x3] μ (G_X11_isBuilding x1 x2 x3 μ) := by
  refine CtI.of hX (plainFor_of_name (by decide)) (by exact Nat.le_of_ble_eq_true rfl) ?_
  intro C hCX hC hr
  subst hCX
  show J C (KI C) μ 0 [(0, .ref (xad (cX C) 107)), (1, .int x1), (2, .int x2), (3, .int x3)] [] _
  unfold G_X11_isBuilding
  refine J.aload_n (j := 0) hC eX11_isBuilding_0 rfl ?_
  refine J.iload_n (j := 1) hC eX11_isBuilding_1 rfl ?_
  refine J.iload_n (j := 2) hC eX11_isBuilding_2 rfl ?_
  refine J.callVI (st := []) hC eX11_isBuilding_3 kk_107 (by decide) rfl rfl ml_X11_235 mv_X11_isColumn (Rle_of (Nat.le_of_ble_eq_true rfl) (Nat.le_of_ble_eq_true rfl)) (c_X11_isColumn hC.X x1 x2 μ) rfl rfl (Nat.le_of_ble_eq_true rfl) (fun r_2 μ_1 => ?_)
  refine J.if_eq hC eX11_isBuilding_6 (fun _ => ?_) (fun _ => ?_)
  · refine J.iconst hC eX11_isBuilding_29 ci_0 ?_
    exact J.zretB hC hr eX11_isBuilding_30 rfl
  · refine J.iload_n (j := 3) hC eX11_isBuilding_9 rfl ?_
    refine J.i2l hC eX11_isBuilding_10 ?_
    refine J.lconst hC eX11_isBuilding_11 cl_1 ?_
    refine J.aload_n (j := 0) hC eX11_isBuilding_12 rfl ?_
    refine gf_X11_25 (q := 113) hC eX11_isBuilding_13 kk_107 rfl ?_
    refine J.iload_n (j := 1) hC eX11_isBuilding_16 rfl ?_
    refine J.iald ik_3 hC eX11_isBuilding_17 kk_113 ?_
    refine J.i2l hC eX11_isBuilding_18 ?_
    refine J.callSI (st := []) hC eX11_isBuilding_19 ml_X11_77 mv_X11_in (Rle_of (Nat.le_of_ble_eq_true rfl) (Nat.le_of_ble_eq_true rfl)) (c_X11_in hC.X x3.toInt64 (1 : Int64) ((rI μ_1 113 (nx x1)).toInt64) μ_1) rfl rfl (Nat.le_of_ble_eq_true rfl) (fun r_4 μ_3 => ?_)
    refine J.if_eq hC eX11_isBuilding_22 (fun _ => ?_) (fun _ => ?_)
    · refine J.iconst hC eX11_isBuilding_29 ci_0 ?_
      exact J.zretB hC hr eX11_isBuilding_30 rfl
    · refine J.iconst hC eX11_isBuilding_25 ci_1 ?_
      refine J.goto hC eX11_isBuilding_26 ?_
      exact J.zretB hC hr eX11_isBuilding_30 rfl
-- X11_error
theorem eX11_error_0 : DD cX11_error 0 (.aload_n 0) 1 1 := ⟨by decide +kernel, rfl⟩
theorem eX11_error_1 : DD cX11_error 1 (.iload_n 1) 1 2 := ⟨by decide +kernel, rfl⟩
theorem eX11_error_2 : DD cX11_error 2 (.iload_n 2) 1 3 := ⟨by decide +kernel, rfl⟩
theorem eX11_error_3 : DD cX11_error 3 (.iload_n 3) 1 4 := ⟨by decide +kernel, rfl⟩
theorem eX11_error_4 : DD cX11_error 4 (.invokevirtual 249) 3 7 := ⟨by decide +kernel, rfl⟩
theorem eX11_error_7 : DB cX11_error 7 (.ifCond .ne 7) (7) 10 14 := ⟨by decide +kernel, rfl, by decide⟩
theorem eX11_error_10 : DD cX11_error 10 (.ldc2_w 156) 3 13 := ⟨by decide +kernel, rfl⟩
theorem eX11_error_13 : DD cX11_error 13 (.lreturn) 1 14 := ⟨by decide +kernel, rfl⟩
theorem eX11_error_14 : DD cX11_error 14 (.aload_n 0) 1 15 := ⟨by decide +kernel, rfl⟩
theorem eX11_error_15 : DD cX11_error 15 (.iload_n 1) 1 16 := ⟨by decide +kernel, rfl⟩
theorem eX11_error_16 : DD cX11_error 16 (.iload_n 2) 1 17 := ⟨by decide +kernel, rfl⟩
theorem eX11_error_17 : DD cX11_error 17 (.invokevirtual 191) 3 20 := ⟨by decide +kernel, rfl⟩
theorem eX11_error_20 : DD cX11_error 20 (.aload_n 0) 1 21 := ⟨by decide +kernel, rfl⟩
theorem eX11_error_21 : DD cX11_error 21 (.iload_n 3) 1 22 := ⟨by decide +kernel, rfl⟩
theorem eX11_error_22 : DD cX11_error 22 (.invokevirtual 187) 3 25 := ⟨by decide +kernel, rfl⟩
theorem eX11_error_25 : DD cX11_error 25 (.aload_n 0) 1 26 := ⟨by decide +kernel, rfl⟩
theorem eX11_error_26 : DD cX11_error 26 (.getfield 43) 3 29 := ⟨by decide +kernel, rfl⟩
theorem eX11_error_29 : DD cX11_error 29 (.iload_n 3) 1 30 := ⟨by decide +kernel, rfl⟩
theorem eX11_error_30 : DD cX11_error 30 (.iconst 0) 1 31 := ⟨by decide +kernel, rfl⟩
theorem eX11_error_31 : DD cX11_error 31 (.invokestatic 174) 3 34 := ⟨by decide +kernel, rfl⟩
theorem eX11_error_34 : DD cX11_error 34 (.laload) 1 35 := ⟨by decide +kernel, rfl⟩
theorem eX11_error_35 : DD cX11_error 35 (.lreturn) 1 36 := ⟨by decide +kernel, rfl⟩
def G_X11_error (x1 : Int32) (x2 : Int32) (x3 : Int32) (μ : Mem) : Option (Int64 × Mem) :=
  bd (G_X11_isBuilding x1 x2 x3 μ) (fun r_2 μ_1 => if r_2 = 0 then some ((-1 : Int64), μ_1) else bd (G_X11_layCounts x1 x2 μ_1) (fun r_4 μ_3 => bd (G_X11_layLeast x3 μ_3) (fun r_6 μ_5 => bd (G_X11_leastAt x3 (0 : Int32) μ_5) (fun r_8 μ_7 => gq (inB r_8 306) (some (rL μ_7 119 (nx r_8), μ_7))))))
set_option maxHeartbeats 4000000 in
theorem c_X11_error {X : Wd} (hX : WdOk X) (x1 : Int32) (x2 : Int32) (x3 : Int32) (μ : Mem) : CtL X yX11_error cX11_error 4 (some .long) (rmF 4 91) [.ref (xad X 107), .int x1, .int x2, .int x3] μ (G_X11_error x1 x2 x3 μ) := by
  refine CtL.of hX (plainFor_of_name (by decide)) (by exact Nat.le_of_ble_eq_true rfl) ?_
  intro C hCX hC hr
  subst hCX
  show J C (KL C) μ 0 [(0, .ref (xad (cX C) 107)), (1, .int x1), (2, .int x2), (3, .int x3)] [] _
  unfold G_X11_error
  refine J.aload_n (j := 0) hC eX11_error_0 rfl ?_
  refine J.iload_n (j := 1) hC eX11_error_1 rfl ?_
  refine J.iload_n (j := 2) hC eX11_error_2 rfl ?_
  refine J.iload_n (j := 3) hC eX11_error_3 rfl ?_
  refine J.callVI (st := []) hC eX11_error_4 kk_107 (by decide) rfl rfl ml_X11_249 mv_X11_isBuilding (Rle_of (Nat.le_of_ble_eq_true rfl) (Nat.le_of_ble_eq_true rfl)) (c_X11_isBuilding hC.X x1 x2 x3 μ) rfl rfl (Nat.le_of_ble_eq_true rfl) (fun r_2 μ_1 => ?_)
  refine J.if_ne hC eX11_error_7 (fun _ => ?_) (fun _ => ?_)
  · refine J.ldc2 hC eX11_error_10 mk_X11_156 ?_
    exact J.lret hC hr eX11_error_13
  · refine J.aload_n (j := 0) hC eX11_error_14 rfl ?_
    refine J.iload_n (j := 1) hC eX11_error_15 rfl ?_
    refine J.iload_n (j := 2) hC eX11_error_16 rfl ?_
    refine J.callVV (st := []) hC eX11_error_17 kk_107 (by decide) rfl rfl ml_X11_191 mv_X11_layCounts (Rle_of (Nat.le_of_ble_eq_true rfl) (Nat.le_of_ble_eq_true rfl)) (c_X11_layCounts hC.X x1 x2 μ_1) rfl rfl (Nat.le_of_ble_eq_true rfl) (fun r_4 μ_3 => ?_)
    refine J.aload_n (j := 0) hC eX11_error_20 rfl ?_
    refine J.iload_n (j := 3) hC eX11_error_21 rfl ?_
    refine J.callVV (st := []) hC eX11_error_22 kk_107 (by decide) rfl rfl ml_X11_187 mv_X11_layLeast (Rle_of (Nat.le_of_ble_eq_true rfl) (Nat.le_of_ble_eq_true rfl)) (c_X11_layLeast hC.X x3 μ_3) rfl rfl (Nat.le_of_ble_eq_true rfl) (fun r_6 μ_5 => ?_)
    refine J.aload_n (j := 0) hC eX11_error_25 rfl ?_
    refine gf_X11_43 (q := 119) hC eX11_error_26 kk_107 rfl ?_
    refine J.iload_n (j := 3) hC eX11_error_29 rfl ?_
    refine J.iconst hC eX11_error_30 ci_0 ?_
    refine J.callSI (st := [.ref (xad (cX C) 119)]) hC eX11_error_31 ml_X11_174 mv_X11_leastAt (Rle_of (Nat.le_of_ble_eq_true rfl) (Nat.le_of_ble_eq_true rfl)) (c_X11_leastAt hC.X x3 (0 : Int32) μ_5) rfl rfl (Nat.le_of_ble_eq_true rfl) (fun r_8 μ_7 => ?_)
    refine J.lald il_306 hC eX11_error_34 kk_119 ?_
    exact J.lret hC hr eX11_error_35
-- X11_border
theorem eX11_border_0 : DD cX11_border 0 (.aload_n 0) 1 1 := ⟨by decide +kernel, rfl⟩
theorem eX11_border_1 : DD cX11_border 1 (.iload_n 1) 1 2 := ⟨by decide +kernel, rfl⟩
theorem eX11_border_2 : DD cX11_border 2 (.iload_n 2) 1 3 := ⟨by decide +kernel, rfl⟩
theorem eX11_border_3 : DD cX11_border 3 (.iload_n 3) 1 4 := ⟨by decide +kernel, rfl⟩
theorem eX11_border_4 : DD cX11_border 4 (.invokevirtual 249) 3 7 := ⟨by decide +kernel, rfl⟩
theorem eX11_border_7 : DB cX11_border 7 (.ifCond .eq 17) (17) 10 24 := ⟨by decide +kernel, rfl, by decide⟩
theorem eX11_border_10 : DD cX11_border 10 (.iload 4) 2 12 := ⟨by decide +kernel, rfl⟩
theorem eX11_border_12 : DD cX11_border 12 (.i2l) 1 13 := ⟨by decide +kernel, rfl⟩
theorem eX11_border_13 : DD cX11_border 13 (.lconst 0) 1 14 := ⟨by decide +kernel, rfl⟩
theorem eX11_border_14 : DD cX11_border 14 (.iload_n 3) 1 15 := ⟨by decide +kernel, rfl⟩
theorem eX11_border_15 : DD cX11_border 15 (.iconst 1) 1 16 := ⟨by decide +kernel, rfl⟩
theorem eX11_border_16 : DD cX11_border 16 (.isub) 1 17 := ⟨by decide +kernel, rfl⟩
theorem eX11_border_17 : DD cX11_border 17 (.i2l) 1 18 := ⟨by decide +kernel, rfl⟩
theorem eX11_border_18 : DD cX11_border 18 (.invokestatic 77) 3 21 := ⟨by decide +kernel, rfl⟩
theorem eX11_border_21 : DB cX11_border 21 (.ifCond .ne 5) (5) 24 26 := ⟨by decide +kernel, rfl, by decide⟩
theorem eX11_border_24 : DD cX11_border 24 (.iconst (-1)) 1 25 := ⟨by decide +kernel, rfl⟩
theorem eX11_border_25 : DD cX11_border 25 (.ireturn) 1 26 := ⟨by decide +kernel, rfl⟩
theorem eX11_border_26 : DD cX11_border 26 (.aload_n 0) 1 27 := ⟨by decide +kernel, rfl⟩
theorem eX11_border_27 : DD cX11_border 27 (.iload_n 1) 1 28 := ⟨by decide +kernel, rfl⟩
theorem eX11_border_28 : DD cX11_border 28 (.iload_n 2) 1 29 := ⟨by decide +kernel, rfl⟩
theorem eX11_border_29 : DD cX11_border 29 (.invokevirtual 191) 3 32 := ⟨by decide +kernel, rfl⟩
theorem eX11_border_32 : DD cX11_border 32 (.aload_n 0) 1 33 := ⟨by decide +kernel, rfl⟩
theorem eX11_border_33 : DD cX11_border 33 (.iload_n 3) 1 34 := ⟨by decide +kernel, rfl⟩
theorem eX11_border_34 : DD cX11_border 34 (.invokevirtual 196) 3 37 := ⟨by decide +kernel, rfl⟩
theorem eX11_border_37 : DD cX11_border 37 (.aload_n 0) 1 38 := ⟨by decide +kernel, rfl⟩
theorem eX11_border_38 : DD cX11_border 38 (.getfield 47) 3 41 := ⟨by decide +kernel, rfl⟩
theorem eX11_border_41 : DD cX11_border 41 (.iload 4) 2 43 := ⟨by decide +kernel, rfl⟩
theorem eX11_border_43 : DD cX11_border 43 (.iaload) 1 44 := ⟨by decide +kernel, rfl⟩
theorem eX11_border_44 : DD cX11_border 44 (.ireturn) 1 45 := ⟨by decide +kernel, rfl⟩
def G_X11_border (x1 : Int32) (x2 : Int32) (x3 : Int32) (x4 : Int32) (μ : Mem) : Option (Int32 × Mem) :=
  bd (G_X11_isBuilding x1 x2 x3 μ) (fun r_2 μ_1 => if r_2 = 0 then some ((-1 : Int32), μ_1) else bd (G_X11_in x4.toInt64 (0 : Int64) ((x3 - (1 : Int32)).toInt64) μ_1) (fun r_4 μ_3 => if r_4 = 0 then some ((-1 : Int32), μ_3) else bd (G_X11_layCounts x1 x2 μ_3) (fun r_6 μ_5 => bd (G_X11_layBorders x3 μ_5) (fun r_8 μ_7 => gq (inB x4 17) (some (rI μ_7 120 (nx x4), μ_7))))))
set_option maxHeartbeats 4000000 in
theorem c_X11_border {X : Wd} (hX : WdOk X) (x1 : Int32) (x2 : Int32) (x3 : Int32) (x4 : Int32) (μ : Mem) : CtI X yX11_border cX11_border 5 (some .int) (rmF 4 91) [.ref (xad X 107), .int x1, .int x2, .int x3, .int x4] μ (G_X11_border x1 x2 x3 x4 μ) := by
  refine CtI.of hX (plainFor_of_name (by decide)) (by exact Nat.le_of_ble_eq_true rfl) ?_
  intro C hCX hC hr
  subst hCX
  show J C (KI C) μ 0 [(0, .ref (xad (cX C) 107)), (1, .int x1), (2, .int x2), (3, .int x3), (4, .int x4)] [] _
  unfold G_X11_border
  refine J.aload_n (j := 0) hC eX11_border_0 rfl ?_
  refine J.iload_n (j := 1) hC eX11_border_1 rfl ?_
  refine J.iload_n (j := 2) hC eX11_border_2 rfl ?_
  refine J.iload_n (j := 3) hC eX11_border_3 rfl ?_
  refine J.callVI (st := []) hC eX11_border_4 kk_107 (by decide) rfl rfl ml_X11_249 mv_X11_isBuilding (Rle_of (Nat.le_of_ble_eq_true rfl) (Nat.le_of_ble_eq_true rfl)) (c_X11_isBuilding hC.X x1 x2 x3 μ) rfl rfl (Nat.le_of_ble_eq_true rfl) (fun r_2 μ_1 => ?_)
  refine J.if_eq hC eX11_border_7 (fun _ => ?_) (fun _ => ?_)
  · refine J.iconst hC eX11_border_24 ci_m1 ?_
    exact J.iret hC hr eX11_border_25
  · refine J.iload (j := 4) hC eX11_border_10 rfl ?_
    refine J.i2l hC eX11_border_12 ?_
    refine J.lconst hC eX11_border_13 cl_0 ?_
    refine J.iload_n (j := 3) hC eX11_border_14 rfl ?_
    refine J.iconst hC eX11_border_15 ci_1 ?_
    refine J.isub hC eX11_border_16 ?_
    refine J.i2l hC eX11_border_17 ?_
    refine J.callSI (st := []) hC eX11_border_18 ml_X11_77 mv_X11_in (Rle_of (Nat.le_of_ble_eq_true rfl) (Nat.le_of_ble_eq_true rfl)) (c_X11_in hC.X x4.toInt64 (0 : Int64) ((x3 - (1 : Int32)).toInt64) μ_1) rfl rfl (Nat.le_of_ble_eq_true rfl) (fun r_4 μ_3 => ?_)
    refine J.if_ne hC eX11_border_21 (fun _ => ?_) (fun _ => ?_)
    · refine J.iconst hC eX11_border_24 ci_m1 ?_
      exact J.iret hC hr eX11_border_25
    · refine J.aload_n (j := 0) hC eX11_border_26 rfl ?_
      refine J.iload_n (j := 1) hC eX11_border_27 rfl ?_
      refine J.iload_n (j := 2) hC eX11_border_28 rfl ?_
      refine J.callVV (st := []) hC eX11_border_29 kk_107 (by decide) rfl rfl ml_X11_191 mv_X11_layCounts (Rle_of (Nat.le_of_ble_eq_true rfl) (Nat.le_of_ble_eq_true rfl)) (c_X11_layCounts hC.X x1 x2 μ_3) rfl rfl (Nat.le_of_ble_eq_true rfl) (fun r_6 μ_5 => ?_)
      refine J.aload_n (j := 0) hC eX11_border_32 rfl ?_
      refine J.iload_n (j := 3) hC eX11_border_33 rfl ?_
      refine J.callVV (st := []) hC eX11_border_34 kk_107 (by decide) rfl rfl ml_X11_196 mv_X11_layBorders (Rle_of (Nat.le_of_ble_eq_true rfl) (Nat.le_of_ble_eq_true rfl)) (c_X11_layBorders hC.X x3 μ_5) rfl rfl (Nat.le_of_ble_eq_true rfl) (fun r_8 μ_7 => ?_)
      refine J.aload_n (j := 0) hC eX11_border_37 rfl ?_
      refine gf_X11_47 (q := 120) hC eX11_border_38 kk_107 rfl ?_
      refine J.iload (j := 4) hC eX11_border_41 rfl ?_
      refine J.iald ik_17 hC eX11_border_43 kk_120 ?_
      exact J.iret hC hr eX11_border_44
-- X11_triedFrom
theorem eX11_triedFrom_0 : DD cX11_triedFrom 0 (.iload_n 2) 1 1 := ⟨by decide +kernel, rfl⟩
theorem eX11_triedFrom_1 : DD cX11_triedFrom 1 (.iconst 1) 1 2 := ⟨by decide +kernel, rfl⟩
theorem eX11_triedFrom_2 : DB cX11_triedFrom 2 (.if_icmp .ne 5) (5) 5 7 := ⟨by decide +kernel, rfl, by decide⟩
theorem eX11_triedFrom_5 : DD cX11_triedFrom 5 (.iconst 1) 1 6 := ⟨by decide +kernel, rfl⟩
theorem eX11_triedFrom_6 : DD cX11_triedFrom 6 (.ireturn) 1 7 := ⟨by decide +kernel, rfl⟩
theorem eX11_triedFrom_7 : DD cX11_triedFrom 7 (.iconst 0) 1 8 := ⟨by decide +kernel, rfl⟩
theorem eX11_triedFrom_8 : DD cX11_triedFrom 8 (.istore 4) 2 10 := ⟨by decide +kernel, rfl⟩
theorem eX11_triedFrom_10 : DD cX11_triedFrom 10 (.ldc2_w 172) 3 13 := ⟨by decide +kernel, rfl⟩
theorem eX11_triedFrom_13 : DD cX11_triedFrom 13 (.lstore 5) 2 15 := ⟨by decide +kernel, rfl⟩
theorem eX11_triedFrom_15 : DD cX11_triedFrom 15 (.iconst 1) 1 16 := ⟨by decide +kernel, rfl⟩
theorem eX11_triedFrom_16 : DD cX11_triedFrom 16 (.istore 7) 2 18 := ⟨by decide +kernel, rfl⟩
theorem eX11_triedFrom_18 : DD cX11_triedFrom 18 (.iload_n 1) 1 19 := ⟨by decide +kernel, rfl⟩
theorem eX11_triedFrom_19 : DD cX11_triedFrom 19 (.iconst 1) 1 20 := ⟨by decide +kernel, rfl⟩
theorem eX11_triedFrom_20 : DD cX11_triedFrom 20 (.iadd) 1 21 := ⟨by decide +kernel, rfl⟩
theorem eX11_triedFrom_21 : DD cX11_triedFrom 21 (.istore 8) 2 23 := ⟨by decide +kernel, rfl⟩
theorem eX11_triedFrom_23 : DD cX11_triedFrom 23 (.iload 8) 2 25 := ⟨by decide +kernel, rfl⟩
theorem eX11_triedFrom_25 : DD cX11_triedFrom 25 (.aload_n 0) 1 26 := ⟨by decide +kernel, rfl⟩
theorem eX11_triedFrom_26 : DD cX11_triedFrom 26 (.getfield 164) 3 29 := ⟨by decide +kernel, rfl⟩
theorem eX11_triedFrom_29 : DD cX11_triedFrom 29 (.iload_n 2) 1 30 := ⟨by decide +kernel, rfl⟩
theorem eX11_triedFrom_30 : DD cX11_triedFrom 30 (.isub) 1 31 := ⟨by decide +kernel, rfl⟩
theorem eX11_triedFrom_31 : DD cX11_triedFrom 31 (.iconst 1) 1 32 := ⟨by decide +kernel, rfl⟩
theorem eX11_triedFrom_32 : DD cX11_triedFrom 32 (.iadd) 1 33 := ⟨by decide +kernel, rfl⟩
theorem eX11_triedFrom_33 : DB cX11_triedFrom 33 (.if_icmp .gt 69) (69) 36 102 := ⟨by decide +kernel, rfl, by decide⟩
theorem eX11_triedFrom_36 : DD cX11_triedFrom 36 (.iload 7) 2 38 := ⟨by decide +kernel, rfl⟩
theorem eX11_triedFrom_38 : DB cX11_triedFrom 38 (.ifCond .eq 64) (64) 41 102 := ⟨by decide +kernel, rfl, by decide⟩
theorem eX11_triedFrom_41 : DD cX11_triedFrom 41 (.iinc 4 1) 3 44 := ⟨by decide +kernel, rfl⟩
theorem eX11_triedFrom_44 : DD cX11_triedFrom 44 (.lload 5) 2 46 := ⟨by decide +kernel, rfl⟩
theorem eX11_triedFrom_46 : DD cX11_triedFrom 46 (.aload_n 0) 1 47 := ⟨by decide +kernel, rfl⟩
theorem eX11_triedFrom_47 : DD cX11_triedFrom 47 (.iload_n 1) 1 48 := ⟨by decide +kernel, rfl⟩
theorem eX11_triedFrom_48 : DD cX11_triedFrom 48 (.iload 8) 2 50 := ⟨by decide +kernel, rfl⟩
theorem eX11_triedFrom_50 : DD cX11_triedFrom 50 (.invokevirtual 177) 3 53 := ⟨by decide +kernel, rfl⟩
theorem eX11_triedFrom_53 : DD cX11_triedFrom 53 (.aload_n 0) 1 54 := ⟨by decide +kernel, rfl⟩
theorem eX11_triedFrom_54 : DD cX11_triedFrom 54 (.getfield 43) 3 57 := ⟨by decide +kernel, rfl⟩
theorem eX11_triedFrom_57 : DD cX11_triedFrom 57 (.iload_n 2) 1 58 := ⟨by decide +kernel, rfl⟩
theorem eX11_triedFrom_58 : DD cX11_triedFrom 58 (.iconst 1) 1 59 := ⟨by decide +kernel, rfl⟩
theorem eX11_triedFrom_59 : DD cX11_triedFrom 59 (.isub) 1 60 := ⟨by decide +kernel, rfl⟩
theorem eX11_triedFrom_60 : DD cX11_triedFrom 60 (.iload 8) 2 62 := ⟨by decide +kernel, rfl⟩
theorem eX11_triedFrom_62 : DD cX11_triedFrom 62 (.invokestatic 174) 3 65 := ⟨by decide +kernel, rfl⟩
theorem eX11_triedFrom_65 : DD cX11_triedFrom 65 (.laload) 1 66 := ⟨by decide +kernel, rfl⟩
theorem eX11_triedFrom_66 : DD cX11_triedFrom 66 (.ladd) 1 67 := ⟨by decide +kernel, rfl⟩
theorem eX11_triedFrom_67 : DD cX11_triedFrom 67 (.invokestatic 181) 3 70 := ⟨by decide +kernel, rfl⟩
theorem eX11_triedFrom_70 : DD cX11_triedFrom 70 (.lstore 5) 2 72 := ⟨by decide +kernel, rfl⟩
theorem eX11_triedFrom_72 : DD cX11_triedFrom 72 (.iload_n 3) 1 73 := ⟨by decide +kernel, rfl⟩
theorem eX11_triedFrom_73 : DB cX11_triedFrom 73 (.ifCond .eq 16) (16) 76 89 := ⟨by decide +kernel, rfl, by decide⟩
theorem eX11_triedFrom_76 : DD cX11_triedFrom 76 (.aload_n 0) 1 77 := ⟨by decide +kernel, rfl⟩
theorem eX11_triedFrom_77 : DD cX11_triedFrom 77 (.iload_n 1) 1 78 := ⟨by decide +kernel, rfl⟩
theorem eX11_triedFrom_78 : DD cX11_triedFrom 78 (.iload 8) 2 80 := ⟨by decide +kernel, rfl⟩
theorem eX11_triedFrom_80 : DD cX11_triedFrom 80 (.invokevirtual 177) 3 83 := ⟨by decide +kernel, rfl⟩
theorem eX11_triedFrom_83 : DD cX11_triedFrom 83 (.lload 5) 2 85 := ⟨by decide +kernel, rfl⟩
theorem eX11_triedFrom_85 : DD cX11_triedFrom 85 (.lcmp) 1 86 := ⟨by decide +kernel, rfl⟩
theorem eX11_triedFrom_86 : DB cX11_triedFrom 86 (.ifCond .ge 7) (7) 89 93 := ⟨by decide +kernel, rfl, by decide⟩
theorem eX11_triedFrom_89 : DD cX11_triedFrom 89 (.iconst 1) 1 90 := ⟨by decide +kernel, rfl⟩
theorem eX11_triedFrom_90 : DB cX11_triedFrom 90 (.goto 4) (4) 93 94 := ⟨by decide +kernel, rfl, by decide⟩
theorem eX11_triedFrom_93 : DD cX11_triedFrom 93 (.iconst 0) 1 94 := ⟨by decide +kernel, rfl⟩
theorem eX11_triedFrom_94 : DD cX11_triedFrom 94 (.istore 7) 2 96 := ⟨by decide +kernel, rfl⟩
theorem eX11_triedFrom_96 : DD cX11_triedFrom 96 (.iinc 8 1) 3 99 := ⟨by decide +kernel, rfl⟩
theorem eX11_triedFrom_99 : DB cX11_triedFrom 99 (.goto (-76)) (-76) 102 23 := ⟨by decide +kernel, rfl, by decide⟩
theorem eX11_triedFrom_102 : DD cX11_triedFrom 102 (.iload 4) 2 104 := ⟨by decide +kernel, rfl⟩
theorem eX11_triedFrom_104 : DD cX11_triedFrom 104 (.ireturn) 1 105 := ⟨by decide +kernel, rfl⟩
def F_X11_triedFrom_94 (kc_23 : Int32 → Int32 → Int32 → Int32 → Int64 → Int32 → Int32 → Mem → Option (Int32 × Mem)) (x1 : Int32) (x2 : Int32) (x3 : Int32) (x4 : Int32) (l5 : Int64) (x8 : Int32) (xs0 : Int32) (μ : Mem) : Option (Int32 × Mem) :=
  lb (x8 + (1 : Int32)) (fun x8_1 => kc_23 x1 x2 x3 x4 l5 xs0 x8_1 μ)
set_option maxHeartbeats 4000000 in
theorem j_X11_triedFrom_94 {C : Cx} (hC : Ok C cX11_triedFrom 9 RX11 (rmF 1 27)) (hr : (cT C).sig.returnType = (some .int)) (kc_23 : Int32 → Int32 → Int32 → Int32 → Int64 → Int32 → Int32 → Mem → Option (Int32 × Mem)) (hk_23 : ∀ (x1 : Int32) (x2 : Int32) (x3 : Int32) (x4 : Int32) (l5 : Int64) (x7 : Int32) (x8 : Int32) (μ : Mem), J C (KI C) μ 23 [(0, .ref (xad (cX C) 107)), (1, .int x1), (2, .int x2), (3, .int x3), (4, .int x4), (5, .long l5), (7, .int x7), (8, .int x8)] [] (kc_23 x1 x2 x3 x4 l5 x7 x8 μ)) (x1 : Int32) (x2 : Int32) (x3 : Int32) (x4 : Int32) (l5 : Int64) (x8 : Int32) (xs0 : Int32) (μ : Mem) : J C (KI C) μ 94 [(0, .ref (xad (cX C) 107)), (1, .int x1), (2, .int x2), (3, .int x3), (4, .int x4), (5, .long l5), (8, .int x8)] [.int xs0] (F_X11_triedFrom_94 kc_23 x1 x2 x3 x4 l5 x8 xs0 μ) := by
  unfold F_X11_triedFrom_94
  refine J.istore [(7, .int xs0), (0, .ref (xad (cX C) 107)), (1, .int x1), (2, .int x2), (3, .int x3), (4, .int x4), (5, .long l5), (8, .int x8)] hC eX11_triedFrom_94 (by decide) rfl ?_
  refine J.iinc (j := 7) (fun x8_1 => [(8, .int x8_1), (7, .int xs0), (0, .ref (xad (cX C) 107)), (1, .int x1), (2, .int x2), (3, .int x3), (4, .int x4), (5, .long l5)]) hC eX11_triedFrom_96 rfl ci_1 (by decide) (fun _ => rfl) (fun x8_1 => ?_)
  refine J.goto hC eX11_triedFrom_99 ?_
  refine J.sub [2, 3, 4, 5, 6, 7, 1, 0] rfl ?_
  exact hk_23 x1 x2 x3 x4 l5 xs0 x8_1 μ
def F_X11_triedFrom_89 (kc_23 : Int32 → Int32 → Int32 → Int32 → Int64 → Int32 → Int32 → Mem → Option (Int32 × Mem)) (x1 : Int32) (x2 : Int32) (x3 : Int32) (x4 : Int32) (l5 : Int64) (x8 : Int32) (μ : Mem) : Option (Int32 × Mem) :=
  F_X11_triedFrom_94 kc_23 x1 x2 x3 x4 l5 x8 (1 : Int32) μ
set_option maxHeartbeats 4000000 in
theorem j_X11_triedFrom_89 {C : Cx} (hC : Ok C cX11_triedFrom 9 RX11 (rmF 1 27)) (hr : (cT C).sig.returnType = (some .int)) (kc_23 : Int32 → Int32 → Int32 → Int32 → Int64 → Int32 → Int32 → Mem → Option (Int32 × Mem)) (hk_23 : ∀ (x1 : Int32) (x2 : Int32) (x3 : Int32) (x4 : Int32) (l5 : Int64) (x7 : Int32) (x8 : Int32) (μ : Mem), J C (KI C) μ 23 [(0, .ref (xad (cX C) 107)), (1, .int x1), (2, .int x2), (3, .int x3), (4, .int x4), (5, .long l5), (7, .int x7), (8, .int x8)] [] (kc_23 x1 x2 x3 x4 l5 x7 x8 μ)) (x1 : Int32) (x2 : Int32) (x3 : Int32) (x4 : Int32) (l5 : Int64) (x8 : Int32) (μ : Mem) : J C (KI C) μ 89 [(0, .ref (xad (cX C) 107)), (1, .int x1), (2, .int x2), (3, .int x3), (4, .int x4), (5, .long l5), (8, .int x8)] [] (F_X11_triedFrom_89 kc_23 x1 x2 x3 x4 l5 x8 μ) := by
  unfold F_X11_triedFrom_89
  refine J.iconst hC eX11_triedFrom_89 ci_1 ?_
  refine J.goto hC eX11_triedFrom_90 ?_
  refine J.sub [0, 1, 2, 3, 4, 5, 6] rfl ?_
  exact j_X11_triedFrom_94 hC hr kc_23 hk_23 x1 x2 x3 x4 l5 x8 (1 : Int32) μ
def L_X11_triedFrom_23 : Nat → Int32 → Int32 → Int32 → Int32 → Int64 → Int32 → Int32 → Mem → Option (Int32 × Mem)
  | 0, _, _, _, _, _, _, _, _ => none
  | n + 1, x1, x2, x3, x4, l5, x7, x8, μ => if (((rI μ 107 19) - x2) + (1 : Int32)) < x8 then some (x4, μ) else if x7 = 0 then some (x4, μ) else lb (x4 + (1 : Int32)) (fun x4_1 => bd (G_X11_errorOf x1 x8 μ) (fun r_3 μ_2 => bd (G_X11_leastAt (x2 - (1 : Int32)) x8 μ_2) (fun r_5 μ_4 => gq (inB r_5 306) (lb (lmin l5 (r_3 + (rL μ_4 119 (nx r_5)))) (fun l5_6 => if x3 = 0 then F_X11_triedFrom_89 (L_X11_triedFrom_23  n) x1 x2 x3 x4_1 l5_6 x8 μ_4 else bd (G_X11_errorOf x1 x8 μ_4) (fun r_8 μ_7 => if 0 ≤ (lg_cmp r_8 l5_6) then F_X11_triedFrom_94 (L_X11_triedFrom_23  n) x1 x2 x3 x4_1 l5_6 x8 (0 : Int32) μ_7 else F_X11_triedFrom_89 (L_X11_triedFrom_23  n) x1 x2 x3 x4_1 l5_6 x8 μ_7))))))
set_option maxHeartbeats 4000000 in
theorem j_X11_triedFrom_23 {C : Cx} (hC : Ok C cX11_triedFrom 9 RX11 (rmF 1 27)) (hr : (cT C).sig.returnType = (some .int)) : ∀ (n : Nat) (x1 : Int32) (x2 : Int32) (x3 : Int32) (x4 : Int32) (l5 : Int64) (x7 : Int32) (x8 : Int32) (μ : Mem), J C (KI C) μ 23 [(0, .ref (xad (cX C) 107)), (1, .int x1), (2, .int x2), (3, .int x3), (4, .int x4), (5, .long l5), (7, .int x7), (8, .int x8)] [] (L_X11_triedFrom_23  n x1 x2 x3 x4 l5 x7 x8 μ) := by
  intro n
  induction n with
  | zero => intros; exact J.no
  | succ n ih =>
    intro x1 x2 x3 x4 l5 x7 x8 μ
    rw [L_X11_triedFrom_23]
    refine J.iload (j := 7) hC eX11_triedFrom_23 rfl ?_
    refine J.aload_n (j := 0) hC eX11_triedFrom_25 rfl ?_
    refine gf_X11_164 hC eX11_triedFrom_26 kk_107 ?_
    refine J.iload_n (j := 2) hC eX11_triedFrom_29 rfl ?_
    refine J.isub hC eX11_triedFrom_30 ?_
    refine J.iconst hC eX11_triedFrom_31 ci_1 ?_
    refine J.iadd hC eX11_triedFrom_32 ?_
    refine J.icmp_gt hC eX11_triedFrom_33 (fun _ => ?_) (fun _ => ?_)
    · refine J.iload (j := 4) hC eX11_triedFrom_102 rfl ?_
      exact J.iret hC hr eX11_triedFrom_104
    · refine J.iload (j := 6) hC eX11_triedFrom_36 rfl ?_
      refine J.if_eq hC eX11_triedFrom_38 (fun _ => ?_) (fun _ => ?_)
      · refine J.iload (j := 4) hC eX11_triedFrom_102 rfl ?_
        exact J.iret hC hr eX11_triedFrom_104
      · refine J.iinc (j := 4) (fun x4_1 => [(4, .int x4_1), (0, .ref (xad (cX C) 107)), (1, .int x1), (2, .int x2), (3, .int x3), (5, .long l5), (7, .int x7), (8, .int x8)]) hC eX11_triedFrom_41 rfl ci_1 (by decide) (fun _ => rfl) (fun x4_1 => ?_)
        refine J.lload (j := 5) hC eX11_triedFrom_44 rfl ?_
        refine J.aload_n (j := 1) hC eX11_triedFrom_46 rfl ?_
        refine J.iload_n (j := 2) hC eX11_triedFrom_47 rfl ?_
        refine J.iload (j := 7) hC eX11_triedFrom_48 rfl ?_
        refine J.callVL (st := [.long l5]) hC eX11_triedFrom_50 kk_107 (by decide) rfl rfl ml_X11_177 mv_X11_errorOf (Rle_of (Nat.le_of_ble_eq_true rfl) (Nat.le_of_ble_eq_true rfl)) (c_X11_errorOf hC.X x1 x8 μ) rfl rfl (Nat.le_of_ble_eq_true rfl) (fun r_3 μ_2 => ?_)
        refine J.aload_n (j := 1) hC eX11_triedFrom_53 rfl ?_
        refine gf_X11_43 (q := 119) hC eX11_triedFrom_54 kk_107 rfl ?_
        refine J.iload_n (j := 3) hC eX11_triedFrom_57 rfl ?_
        refine J.iconst hC eX11_triedFrom_58 ci_1 ?_
        refine J.isub hC eX11_triedFrom_59 ?_
        refine J.iload (j := 7) hC eX11_triedFrom_60 rfl ?_
        refine J.callSI (st := [.ref (xad (cX C) 119), .long r_3, .long l5]) hC eX11_triedFrom_62 ml_X11_174 mv_X11_leastAt (Rle_of (Nat.le_of_ble_eq_true rfl) (Nat.le_of_ble_eq_true rfl)) (c_X11_leastAt hC.X (x2 - (1 : Int32)) x8 μ_2) rfl rfl (Nat.le_of_ble_eq_true rfl) (fun r_5 μ_4 => ?_)
        refine J.lald il_306 hC eX11_triedFrom_65 kk_119 ?_
        refine J.ladd hC eX11_triedFrom_66 ?_
        refine J.lmin hC eX11_triedFrom_67 ml_X11_181 w_sminL w_im w_cminL (Nat.le_of_ble_eq_true rfl) (Nat.le_of_ble_eq_true rfl) ?_
        refine J.topl (fun l5_6 => ?_)
        refine J.lstore [(5, .long l5_6), (4, .int x4_1), (0, .ref (xad (cX C) 107)), (1, .int x1), (2, .int x2), (3, .int x3), (7, .int x7), (8, .int x8)] hC eX11_triedFrom_70 (by decide) rfl ?_
        refine J.iload_n (j := 5) hC eX11_triedFrom_72 rfl ?_
        refine J.if_eq hC eX11_triedFrom_73 (fun _ => ?_) (fun _ => ?_)
        · refine J.sub [2, 3, 4, 5, 1, 0, 7] rfl ?_
          exact j_X11_triedFrom_89 hC hr (L_X11_triedFrom_23  n) ih x1 x2 x3 x4_1 l5_6 x8 μ_4
        · refine J.aload_n (j := 2) hC eX11_triedFrom_76 rfl ?_
          refine J.iload_n (j := 3) hC eX11_triedFrom_77 rfl ?_
          refine J.iload (j := 7) hC eX11_triedFrom_78 rfl ?_
          refine J.callVL (st := []) hC eX11_triedFrom_80 kk_107 (by decide) rfl rfl ml_X11_177 mv_X11_errorOf (Rle_of (Nat.le_of_ble_eq_true rfl) (Nat.le_of_ble_eq_true rfl)) (c_X11_errorOf hC.X x1 x8 μ_4) rfl rfl (Nat.le_of_ble_eq_true rfl) (fun r_8 μ_7 => ?_)
          refine J.lload (j := 0) hC eX11_triedFrom_83 rfl ?_
          refine J.lcmp hC eX11_triedFrom_85 ?_
          refine J.if_ge hC eX11_triedFrom_86 (fun _ => ?_) (fun _ => ?_)
          · refine J.iconst hC eX11_triedFrom_93 ci_0 ?_
            refine J.sub [2, 3, 4, 5, 1, 0, 7] rfl ?_
            exact j_X11_triedFrom_94 hC hr (L_X11_triedFrom_23  n) ih x1 x2 x3 x4_1 l5_6 x8 (0 : Int32) μ_7
          · refine J.sub [2, 3, 4, 5, 1, 0, 7] rfl ?_
            exact j_X11_triedFrom_89 hC hr (L_X11_triedFrom_23  n) ih x1 x2 x3 x4_1 l5_6 x8 μ_7
def G_X11_triedFrom (x1 : Int32) (x2 : Int32) (x3 : Int32) (μ : Mem) : Option (Int32 × Mem) :=
  if x2 = (1 : Int32) then some ((1 : Int32), μ) else lb (x1 + (1 : Int32)) (fun x8_1 => L_X11_triedFrom_23  100000 x1 x2 x3 (0 : Int32) (1000000000000000 : Int64) (1 : Int32) x8_1 μ)
set_option maxHeartbeats 4000000 in
theorem c_X11_triedFrom {X : Wd} (hX : WdOk X) (x1 : Int32) (x2 : Int32) (x3 : Int32) (μ : Mem) : CtI X yX11_triedFrom cX11_triedFrom 9 (some .int) (rmF 1 27) [.ref (xad X 107), .int x1, .int x2, .int x3] μ (G_X11_triedFrom x1 x2 x3 μ) := by
  refine CtI.of hX (plainFor_of_name (by decide)) (by exact Nat.le_of_ble_eq_true rfl) ?_
  intro C hCX hC hr
  subst hCX
  show J C (KI C) μ 0 [(0, .ref (xad (cX C) 107)), (1, .int x1), (2, .int x2), (3, .int x3)] [] _
  unfold G_X11_triedFrom
  refine J.iload_n (j := 2) hC eX11_triedFrom_0 rfl ?_
  refine J.iconst hC eX11_triedFrom_1 ci_1 ?_
  refine J.icmp_ne hC eX11_triedFrom_2 (fun _ => ?_) (fun _ => ?_)
  · refine J.iconst hC eX11_triedFrom_5 ci_1 ?_
    exact J.iret hC hr eX11_triedFrom_6
  · refine J.iconst hC eX11_triedFrom_7 ci_0 ?_
    refine J.istore [(4, .int (0 : Int32)), (0, .ref (xad (cX C) 107)), (1, .int x1), (2, .int x2), (3, .int x3)] hC eX11_triedFrom_8 (by decide) rfl ?_
    refine J.ldc2 hC eX11_triedFrom_10 mk_X11_172 ?_
    refine J.lstore [(5, .long (1000000000000000 : Int64)), (4, .int (0 : Int32)), (0, .ref (xad (cX C) 107)), (1, .int x1), (2, .int x2), (3, .int x3)] hC eX11_triedFrom_13 (by decide) rfl ?_
    refine J.iconst hC eX11_triedFrom_15 ci_1 ?_
    refine J.istore [(7, .int (1 : Int32)), (5, .long (1000000000000000 : Int64)), (4, .int (0 : Int32)), (0, .ref (xad (cX C) 107)), (1, .int x1), (2, .int x2), (3, .int x3)] hC eX11_triedFrom_16 (by decide) rfl ?_
    refine J.iload_n (j := 4) hC eX11_triedFrom_18 rfl ?_
    refine J.iconst hC eX11_triedFrom_19 ci_1 ?_
    refine J.iadd hC eX11_triedFrom_20 ?_
    refine J.topi (fun x8_1 => ?_)
    refine J.istore [(8, .int x8_1), (7, .int (1 : Int32)), (5, .long (1000000000000000 : Int64)), (4, .int (0 : Int32)), (0, .ref (xad (cX C) 107)), (1, .int x1), (2, .int x2), (3, .int x3)] hC eX11_triedFrom_21 (by decide) rfl ?_
    refine J.sub [4, 5, 6, 7, 3, 2, 1, 0] rfl ?_
    exact j_X11_triedFrom_23 hC hr  100000 x1 x2 x3 (0 : Int32) (1000000000000000 : Int64) (1 : Int32) x8_1 μ
-- X11_tried
theorem eX11_tried_0 : DD cX11_tried 0 (.aload_n 0) 1 1 := ⟨by decide +kernel, rfl⟩
theorem eX11_tried_1 : DD cX11_tried 1 (.iload_n 1) 1 2 := ⟨by decide +kernel, rfl⟩
theorem eX11_tried_2 : DD cX11_tried 2 (.iload_n 2) 1 3 := ⟨by decide +kernel, rfl⟩
theorem eX11_tried_3 : DD cX11_tried 3 (.iload_n 3) 1 4 := ⟨by decide +kernel, rfl⟩
theorem eX11_tried_4 : DD cX11_tried 4 (.invokevirtual 249) 3 7 := ⟨by decide +kernel, rfl⟩
theorem eX11_tried_7 : DB cX11_tried 7 (.ifCond .eq 14) (14) 10 21 := ⟨by decide +kernel, rfl, by decide⟩
theorem eX11_tried_10 : DD cX11_tried 10 (.iload 4) 2 12 := ⟨by decide +kernel, rfl⟩
theorem eX11_tried_12 : DD cX11_tried 12 (.i2l) 1 13 := ⟨by decide +kernel, rfl⟩
theorem eX11_tried_13 : DD cX11_tried 13 (.lconst 0) 1 14 := ⟨by decide +kernel, rfl⟩
theorem eX11_tried_14 : DD cX11_tried 14 (.lconst 1) 1 15 := ⟨by decide +kernel, rfl⟩
theorem eX11_tried_15 : DD cX11_tried 15 (.invokestatic 77) 3 18 := ⟨by decide +kernel, rfl⟩
theorem eX11_tried_18 : DB cX11_tried 18 (.ifCond .ne 5) (5) 21 23 := ⟨by decide +kernel, rfl, by decide⟩
theorem eX11_tried_21 : DD cX11_tried 21 (.iconst (-1)) 1 22 := ⟨by decide +kernel, rfl⟩
theorem eX11_tried_22 : DD cX11_tried 22 (.ireturn) 1 23 := ⟨by decide +kernel, rfl⟩
theorem eX11_tried_23 : DD cX11_tried 23 (.aload_n 0) 1 24 := ⟨by decide +kernel, rfl⟩
theorem eX11_tried_24 : DD cX11_tried 24 (.iload_n 1) 1 25 := ⟨by decide +kernel, rfl⟩
theorem eX11_tried_25 : DD cX11_tried 25 (.iload_n 2) 1 26 := ⟨by decide +kernel, rfl⟩
theorem eX11_tried_26 : DD cX11_tried 26 (.invokevirtual 191) 3 29 := ⟨by decide +kernel, rfl⟩
theorem eX11_tried_29 : DD cX11_tried 29 (.aload_n 0) 1 30 := ⟨by decide +kernel, rfl⟩
theorem eX11_tried_30 : DD cX11_tried 30 (.iload_n 3) 1 31 := ⟨by decide +kernel, rfl⟩
theorem eX11_tried_31 : DD cX11_tried 31 (.invokevirtual 187) 3 34 := ⟨by decide +kernel, rfl⟩
theorem eX11_tried_34 : DD cX11_tried 34 (.iconst 0) 1 35 := ⟨by decide +kernel, rfl⟩
theorem eX11_tried_35 : DD cX11_tried 35 (.istore 5) 2 37 := ⟨by decide +kernel, rfl⟩
theorem eX11_tried_37 : DD cX11_tried 37 (.iconst 1) 1 38 := ⟨by decide +kernel, rfl⟩
theorem eX11_tried_38 : DD cX11_tried 38 (.istore 6) 2 40 := ⟨by decide +kernel, rfl⟩
theorem eX11_tried_40 : DD cX11_tried 40 (.iload 6) 2 42 := ⟨by decide +kernel, rfl⟩
theorem eX11_tried_42 : DD cX11_tried 42 (.iload_n 3) 1 43 := ⟨by decide +kernel, rfl⟩
theorem eX11_tried_43 : DB cX11_tried 43 (.if_icmp .gt 53) (53) 46 96 := ⟨by decide +kernel, rfl, by decide⟩
theorem eX11_tried_46 : DD cX11_tried 46 (.iconst 0) 1 47 := ⟨by decide +kernel, rfl⟩
theorem eX11_tried_47 : DD cX11_tried 47 (.istore 7) 2 49 := ⟨by decide +kernel, rfl⟩
theorem eX11_tried_49 : DD cX11_tried 49 (.iload 7) 2 51 := ⟨by decide +kernel, rfl⟩
theorem eX11_tried_51 : DD cX11_tried 51 (.aload_n 0) 1 52 := ⟨by decide +kernel, rfl⟩
theorem eX11_tried_52 : DD cX11_tried 52 (.getfield 164) 3 55 := ⟨by decide +kernel, rfl⟩
theorem eX11_tried_55 : DD cX11_tried 55 (.iload 6) 2 57 := ⟨by decide +kernel, rfl⟩
theorem eX11_tried_57 : DD cX11_tried 57 (.isub) 1 58 := ⟨by decide +kernel, rfl⟩
theorem eX11_tried_58 : DB cX11_tried 58 (.if_icmp .gt 32) (32) 61 90 := ⟨by decide +kernel, rfl, by decide⟩
theorem eX11_tried_61 : DD cX11_tried 61 (.iload 5) 2 63 := ⟨by decide +kernel, rfl⟩
theorem eX11_tried_63 : DD cX11_tried 63 (.aload_n 0) 1 64 := ⟨by decide +kernel, rfl⟩
theorem eX11_tried_64 : DD cX11_tried 64 (.iload 7) 2 66 := ⟨by decide +kernel, rfl⟩
theorem eX11_tried_66 : DD cX11_tried 66 (.iload 6) 2 68 := ⟨by decide +kernel, rfl⟩
theorem eX11_tried_68 : DD cX11_tried 68 (.iload 4) 2 70 := ⟨by decide +kernel, rfl⟩
theorem eX11_tried_70 : DB cX11_tried 70 (.ifCond .ne 7) (7) 73 77 := ⟨by decide +kernel, rfl, by decide⟩
theorem eX11_tried_73 : DD cX11_tried 73 (.iconst 1) 1 74 := ⟨by decide +kernel, rfl⟩
theorem eX11_tried_74 : DB cX11_tried 74 (.goto 4) (4) 77 78 := ⟨by decide +kernel, rfl, by decide⟩
theorem eX11_tried_77 : DD cX11_tried 77 (.iconst 0) 1 78 := ⟨by decide +kernel, rfl⟩
theorem eX11_tried_78 : DD cX11_tried 78 (.invokevirtual 253) 3 81 := ⟨by decide +kernel, rfl⟩
theorem eX11_tried_81 : DD cX11_tried 81 (.iadd) 1 82 := ⟨by decide +kernel, rfl⟩
theorem eX11_tried_82 : DD cX11_tried 82 (.istore 5) 2 84 := ⟨by decide +kernel, rfl⟩
theorem eX11_tried_84 : DD cX11_tried 84 (.iinc 7 1) 3 87 := ⟨by decide +kernel, rfl⟩
theorem eX11_tried_87 : DB cX11_tried 87 (.goto (-38)) (-38) 90 49 := ⟨by decide +kernel, rfl, by decide⟩
theorem eX11_tried_90 : DD cX11_tried 90 (.iinc 6 1) 3 93 := ⟨by decide +kernel, rfl⟩
theorem eX11_tried_93 : DB cX11_tried 93 (.goto (-53)) (-53) 96 40 := ⟨by decide +kernel, rfl, by decide⟩
theorem eX11_tried_96 : DD cX11_tried 96 (.iload 5) 2 98 := ⟨by decide +kernel, rfl⟩
theorem eX11_tried_98 : DD cX11_tried 98 (.ireturn) 1 99 := ⟨by decide +kernel, rfl⟩
def F_X11_tried_78 (kc_40 : Int32 → Int32 → Int32 → Int32 → Mem → Option (Int32 × Mem)) (kc_49 : Int32 → Int32 → Int32 → Int32 → Int32 → Mem → Option (Int32 × Mem)) (x3 : Int32) (x4 : Int32) (x6 : Int32) (x7 : Int32) (xs0 : Int32) (xs2 : Int32) (xs3 : Int32) (xs4 : Int32) (μ : Mem) : Option (Int32 × Mem) :=
  bd (G_X11_triedFrom xs2 xs3 xs4 μ) (fun r_2 μ_1 => lb (xs0 + r_2) (fun x5_3 => lb (x7 + (1 : Int32)) (fun x7_4 => kc_49 x3 x4 x5_3 x6 x7_4 μ_1)))
set_option maxHeartbeats 4000000 in
theorem j_X11_tried_78 {C : Cx} (hC : Ok C cX11_tried 8 RX11 (rmF 4 91)) (hr : (cT C).sig.returnType = (some .int)) (kc_40 : Int32 → Int32 → Int32 → Int32 → Mem → Option (Int32 × Mem)) (hk_40 : ∀ (x3 : Int32) (x4 : Int32) (x5 : Int32) (x6 : Int32) (μ : Mem), J C (KI C) μ 40 [(0, .ref (xad (cX C) 107)), (3, .int x3), (4, .int x4), (5, .int x5), (6, .int x6)] [] (kc_40 x3 x4 x5 x6 μ)) (kc_49 : Int32 → Int32 → Int32 → Int32 → Int32 → Mem → Option (Int32 × Mem)) (hk_49 : ∀ (x3 : Int32) (x4 : Int32) (x5 : Int32) (x6 : Int32) (x7 : Int32) (μ : Mem), J C (KI C) μ 49 [(0, .ref (xad (cX C) 107)), (3, .int x3), (4, .int x4), (5, .int x5), (6, .int x6), (7, .int x7)] [] (kc_49 x3 x4 x5 x6 x7 μ)) (x3 : Int32) (x4 : Int32) (x6 : Int32) (x7 : Int32) (xs0 : Int32) (xs2 : Int32) (xs3 : Int32) (xs4 : Int32) (μ : Mem) : J C (KI C) μ 78 [(0, .ref (xad (cX C) 107)), (3, .int x3), (4, .int x4), (6, .int x6), (7, .int x7)] [.int xs4, .int xs3, .int xs2, .ref (xad (cX C) 107), .int xs0] (F_X11_tried_78 kc_40 kc_49 x3 x4 x6 x7 xs0 xs2 xs3 xs4 μ) := by
  unfold F_X11_tried_78
  refine J.callVI (st := [.int xs0]) hC eX11_tried_78 kk_107 (by decide) rfl rfl ml_X11_253 mv_X11_triedFrom (Rle_of (Nat.le_of_ble_eq_true rfl) (Nat.le_of_ble_eq_true rfl)) (c_X11_triedFrom hC.X xs2 xs3 xs4 μ) rfl rfl (Nat.le_of_ble_eq_true rfl) (fun r_2 μ_1 => ?_)
  refine J.iadd hC eX11_tried_81 ?_
  refine J.topi (fun x5_3 => ?_)
  refine J.istore [(5, .int x5_3), (0, .ref (xad (cX C) 107)), (3, .int x3), (4, .int x4), (6, .int x6), (7, .int x7)] hC eX11_tried_82 (by decide) rfl ?_
  refine J.iinc (j := 5) (fun x7_4 => [(7, .int x7_4), (5, .int x5_3), (0, .ref (xad (cX C) 107)), (3, .int x3), (4, .int x4), (6, .int x6)]) hC eX11_tried_84 rfl ci_1 (by decide) (fun _ => rfl) (fun x7_4 => ?_)
  refine J.goto hC eX11_tried_87 ?_
  refine J.sub [2, 3, 4, 1, 5, 0] rfl ?_
  exact hk_49 x3 x4 x5_3 x6 x7_4 μ_1
def L_X11_tried_49 (kc_40 : Int32 → Int32 → Int32 → Int32 → Mem → Option (Int32 × Mem)) : Nat → Int32 → Int32 → Int32 → Int32 → Int32 → Mem → Option (Int32 × Mem)
  | 0, _, _, _, _, _, _ => none
  | n + 1, x3, x4, x5, x6, x7, μ => if ((rI μ 107 19) - x6) < x7 then lb (x6 + (1 : Int32)) (fun x6_1 => kc_40 x3 x4 x5 x6_1 μ) else if x4 = 0 then F_X11_tried_78 kc_40 (L_X11_tried_49 kc_40 n) x3 x4 x6 x7 x5 x7 x6 (1 : Int32) μ else F_X11_tried_78 kc_40 (L_X11_tried_49 kc_40 n) x3 x4 x6 x7 x5 x7 x6 (0 : Int32) μ
set_option maxHeartbeats 4000000 in
theorem j_X11_tried_49 {C : Cx} (hC : Ok C cX11_tried 8 RX11 (rmF 4 91)) (hr : (cT C).sig.returnType = (some .int)) (kc_40 : Int32 → Int32 → Int32 → Int32 → Mem → Option (Int32 × Mem)) (hk_40 : ∀ (x3 : Int32) (x4 : Int32) (x5 : Int32) (x6 : Int32) (μ : Mem), J C (KI C) μ 40 [(0, .ref (xad (cX C) 107)), (3, .int x3), (4, .int x4), (5, .int x5), (6, .int x6)] [] (kc_40 x3 x4 x5 x6 μ)) : ∀ (n : Nat) (x3 : Int32) (x4 : Int32) (x5 : Int32) (x6 : Int32) (x7 : Int32) (μ : Mem), J C (KI C) μ 49 [(0, .ref (xad (cX C) 107)), (3, .int x3), (4, .int x4), (5, .int x5), (6, .int x6), (7, .int x7)] [] (L_X11_tried_49 kc_40 n x3 x4 x5 x6 x7 μ) := by
  intro n
  induction n with
  | zero => intros; exact J.no
  | succ n ih =>
    intro x3 x4 x5 x6 x7 μ
    rw [L_X11_tried_49]
    refine J.iload (j := 5) hC eX11_tried_49 rfl ?_
    refine J.aload_n (j := 0) hC eX11_tried_51 rfl ?_
    refine gf_X11_164 hC eX11_tried_52 kk_107 ?_
    refine J.iload (j := 4) hC eX11_tried_55 rfl ?_
    refine J.isub hC eX11_tried_57 ?_
    refine J.icmp_gt hC eX11_tried_58 (fun _ => ?_) (fun _ => ?_)
    · refine J.iinc (j := 4) (fun x6_1 => [(6, .int x6_1), (0, .ref (xad (cX C) 107)), (3, .int x3), (4, .int x4), (5, .int x5), (7, .int x7)]) hC eX11_tried_90 rfl ci_1 (by decide) (fun _ => rfl) (fun x6_1 => ?_)
      refine J.goto hC eX11_tried_93 ?_
      refine J.sub [1, 2, 3, 4, 0] rfl ?_
      exact hk_40 x3 x4 x5 x6_1 μ
    · refine J.iload (j := 3) hC eX11_tried_61 rfl ?_
      refine J.aload_n (j := 0) hC eX11_tried_63 rfl ?_
      refine J.iload (j := 5) hC eX11_tried_64 rfl ?_
      refine J.iload (j := 4) hC eX11_tried_66 rfl ?_
      refine J.iload (j := 2) hC eX11_tried_68 rfl ?_
      refine J.if_ne hC eX11_tried_70 (fun _ => ?_) (fun _ => ?_)
      · refine J.iconst hC eX11_tried_73 ci_1 ?_
        refine J.goto hC eX11_tried_74 ?_
        refine J.sub [0, 1, 2, 4, 5] rfl ?_
        exact j_X11_tried_78 hC hr kc_40 hk_40 (L_X11_tried_49 kc_40 n) ih x3 x4 x6 x7 x5 x7 x6 (1 : Int32) μ
      · refine J.iconst hC eX11_tried_77 ci_0 ?_
        refine J.sub [0, 1, 2, 4, 5] rfl ?_
        exact j_X11_tried_78 hC hr kc_40 hk_40 (L_X11_tried_49 kc_40 n) ih x3 x4 x6 x7 x5 x7 x6 (0 : Int32) μ
def L_X11_tried_40 : Nat → Int32 → Int32 → Int32 → Int32 → Mem → Option (Int32 × Mem)
  | 0, _, _, _, _, _ => none
  | n + 1, x3, x4, x5, x6, μ => if x3 < x6 then some (x5, μ) else L_X11_tried_49 (L_X11_tried_40  n) 100000 x3 x4 x5 x6 (0 : Int32) μ
set_option maxHeartbeats 4000000 in
theorem j_X11_tried_40 {C : Cx} (hC : Ok C cX11_tried 8 RX11 (rmF 4 91)) (hr : (cT C).sig.returnType = (some .int)) : ∀ (n : Nat) (x3 : Int32) (x4 : Int32) (x5 : Int32) (x6 : Int32) (μ : Mem), J C (KI C) μ 40 [(0, .ref (xad (cX C) 107)), (3, .int x3), (4, .int x4), (5, .int x5), (6, .int x6)] [] (L_X11_tried_40  n x3 x4 x5 x6 μ) := by
  intro n
  induction n with
  | zero => intros; exact J.no
  | succ n ih =>
    intro x3 x4 x5 x6 μ
    rw [L_X11_tried_40]
    refine J.iload (j := 4) hC eX11_tried_40 rfl ?_
    refine J.iload_n (j := 1) hC eX11_tried_42 rfl ?_
    refine J.icmp_gt hC eX11_tried_43 (fun _ => ?_) (fun _ => ?_)
    · refine J.iload (j := 3) hC eX11_tried_96 rfl ?_
      exact J.iret hC hr eX11_tried_98
    · refine J.iconst hC eX11_tried_46 ci_0 ?_
      refine J.istore [(7, .int (0 : Int32)), (0, .ref (xad (cX C) 107)), (3, .int x3), (4, .int x4), (5, .int x5), (6, .int x6)] hC eX11_tried_47 (by decide) rfl ?_
      refine J.sub [1, 2, 3, 4, 5, 0] rfl ?_
      exact j_X11_tried_49 hC hr (L_X11_tried_40  n) ih 100000 x3 x4 x5 x6 (0 : Int32) μ
def G_X11_tried (x1 : Int32) (x2 : Int32) (x3 : Int32) (x4 : Int32) (μ : Mem) : Option (Int32 × Mem) :=
  bd (G_X11_isBuilding x1 x2 x3 μ) (fun r_2 μ_1 => if r_2 = 0 then some ((-1 : Int32), μ_1) else bd (G_X11_in x4.toInt64 (0 : Int64) (1 : Int64) μ_1) (fun r_4 μ_3 => if r_4 = 0 then some ((-1 : Int32), μ_3) else bd (G_X11_layCounts x1 x2 μ_3) (fun r_6 μ_5 => bd (G_X11_layLeast x3 μ_5) (fun r_8 μ_7 => L_X11_tried_40  100000 x3 x4 (0 : Int32) (1 : Int32) μ_7))))
set_option maxHeartbeats 4000000 in
theorem c_X11_tried {X : Wd} (hX : WdOk X) (x1 : Int32) (x2 : Int32) (x3 : Int32) (x4 : Int32) (μ : Mem) : CtI X yX11_tried cX11_tried 8 (some .int) (rmF 4 91) [.ref (xad X 107), .int x1, .int x2, .int x3, .int x4] μ (G_X11_tried x1 x2 x3 x4 μ) := by
  refine CtI.of hX (plainFor_of_name (by decide)) (by exact Nat.le_of_ble_eq_true rfl) ?_
  intro C hCX hC hr
  subst hCX
  show J C (KI C) μ 0 [(0, .ref (xad (cX C) 107)), (1, .int x1), (2, .int x2), (3, .int x3), (4, .int x4)] [] _
  unfold G_X11_tried
  refine J.aload_n (j := 0) hC eX11_tried_0 rfl ?_
  refine J.iload_n (j := 1) hC eX11_tried_1 rfl ?_
  refine J.iload_n (j := 2) hC eX11_tried_2 rfl ?_
  refine J.iload_n (j := 3) hC eX11_tried_3 rfl ?_
  refine J.callVI (st := []) hC eX11_tried_4 kk_107 (by decide) rfl rfl ml_X11_249 mv_X11_isBuilding (Rle_of (Nat.le_of_ble_eq_true rfl) (Nat.le_of_ble_eq_true rfl)) (c_X11_isBuilding hC.X x1 x2 x3 μ) rfl rfl (Nat.le_of_ble_eq_true rfl) (fun r_2 μ_1 => ?_)
  refine J.if_eq hC eX11_tried_7 (fun _ => ?_) (fun _ => ?_)
  · refine J.iconst hC eX11_tried_21 ci_m1 ?_
    exact J.iret hC hr eX11_tried_22
  · refine J.iload (j := 4) hC eX11_tried_10 rfl ?_
    refine J.i2l hC eX11_tried_12 ?_
    refine J.lconst hC eX11_tried_13 cl_0 ?_
    refine J.lconst hC eX11_tried_14 cl_1 ?_
    refine J.callSI (st := []) hC eX11_tried_15 ml_X11_77 mv_X11_in (Rle_of (Nat.le_of_ble_eq_true rfl) (Nat.le_of_ble_eq_true rfl)) (c_X11_in hC.X x4.toInt64 (0 : Int64) (1 : Int64) μ_1) rfl rfl (Nat.le_of_ble_eq_true rfl) (fun r_4 μ_3 => ?_)
    refine J.if_ne hC eX11_tried_18 (fun _ => ?_) (fun _ => ?_)
    · refine J.iconst hC eX11_tried_21 ci_m1 ?_
      exact J.iret hC hr eX11_tried_22
    · refine J.aload_n (j := 0) hC eX11_tried_23 rfl ?_
      refine J.iload_n (j := 1) hC eX11_tried_24 rfl ?_
      refine J.iload_n (j := 2) hC eX11_tried_25 rfl ?_
      refine J.callVV (st := []) hC eX11_tried_26 kk_107 (by decide) rfl rfl ml_X11_191 mv_X11_layCounts (Rle_of (Nat.le_of_ble_eq_true rfl) (Nat.le_of_ble_eq_true rfl)) (c_X11_layCounts hC.X x1 x2 μ_3) rfl rfl (Nat.le_of_ble_eq_true rfl) (fun r_6 μ_5 => ?_)
      refine J.aload_n (j := 0) hC eX11_tried_29 rfl ?_
      refine J.iload_n (j := 3) hC eX11_tried_30 rfl ?_
      refine J.callVV (st := []) hC eX11_tried_31 kk_107 (by decide) rfl rfl ml_X11_187 mv_X11_layLeast (Rle_of (Nat.le_of_ble_eq_true rfl) (Nat.le_of_ble_eq_true rfl)) (c_X11_layLeast hC.X x3 μ_5) rfl rfl (Nat.le_of_ble_eq_true rfl) (fun r_8 μ_7 => ?_)
      refine J.iconst hC eX11_tried_34 ci_0 ?_
      refine J.istore [(5, .int (0 : Int32)), (0, .ref (xad (cX C) 107)), (1, .int x1), (2, .int x2), (3, .int x3), (4, .int x4)] hC eX11_tried_35 (by decide) rfl ?_
      refine J.iconst hC eX11_tried_37 ci_1 ?_
      refine J.istore [(6, .int (1 : Int32)), (5, .int (0 : Int32)), (0, .ref (xad (cX C) 107)), (1, .int x1), (2, .int x2), (3, .int x3), (4, .int x4)] hC eX11_tried_38 (by decide) rfl ?_
      refine J.sub [2, 5, 6, 1, 0] rfl ?_
      exact j_X11_tried_40 hC hr  100000 x3 x4 (0 : Int32) (1 : Int32) μ_7
