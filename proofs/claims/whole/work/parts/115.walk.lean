-- X11_fewest
theorem eX11_fewest_0 : DD cX11_fewest 0 (.aload_n 0) 1 1 := ⟨by decide +kernel, rfl⟩
theorem eX11_fewest_1 : DD cX11_fewest 1 (.iload_n 1) 1 2 := ⟨by decide +kernel, rfl⟩
theorem eX11_fewest_2 : DD cX11_fewest 2 (.iload_n 2) 1 3 := ⟨by decide +kernel, rfl⟩
theorem eX11_fewest_3 : DD cX11_fewest 3 (.invokevirtual 235) 3 6 := ⟨by decide +kernel, rfl⟩
theorem eX11_fewest_6 : DB cX11_fewest 6 (.ifCond .eq 9) (9) 9 15 := ⟨by decide +kernel, rfl, by decide⟩
theorem eX11_fewest_9 : DD cX11_fewest 9 (.lload_n 3) 1 10 := ⟨by decide +kernel, rfl⟩
theorem eX11_fewest_10 : DD cX11_fewest 10 (.lconst 0) 1 11 := ⟨by decide +kernel, rfl⟩
theorem eX11_fewest_11 : DD cX11_fewest 11 (.lcmp) 1 12 := ⟨by decide +kernel, rfl⟩
theorem eX11_fewest_12 : DB cX11_fewest 12 (.ifCond .ge 5) (5) 15 17 := ⟨by decide +kernel, rfl, by decide⟩
theorem eX11_fewest_15 : DD cX11_fewest 15 (.iconst (-1)) 1 16 := ⟨by decide +kernel, rfl⟩
theorem eX11_fewest_16 : DD cX11_fewest 16 (.ireturn) 1 17 := ⟨by decide +kernel, rfl⟩
theorem eX11_fewest_17 : DD cX11_fewest 17 (.aload_n 0) 1 18 := ⟨by decide +kernel, rfl⟩
theorem eX11_fewest_18 : DD cX11_fewest 18 (.iload_n 1) 1 19 := ⟨by decide +kernel, rfl⟩
theorem eX11_fewest_19 : DD cX11_fewest 19 (.iload_n 2) 1 20 := ⟨by decide +kernel, rfl⟩
theorem eX11_fewest_20 : DD cX11_fewest 20 (.invokevirtual 191) 3 23 := ⟨by decide +kernel, rfl⟩
theorem eX11_fewest_23 : DD cX11_fewest 23 (.aload_n 0) 1 24 := ⟨by decide +kernel, rfl⟩
theorem eX11_fewest_24 : DD cX11_fewest 24 (.aload_n 0) 1 25 := ⟨by decide +kernel, rfl⟩
theorem eX11_fewest_25 : DD cX11_fewest 25 (.getfield 164) 3 28 := ⟨by decide +kernel, rfl⟩
theorem eX11_fewest_28 : DD cX11_fewest 28 (.invokevirtual 187) 3 31 := ⟨by decide +kernel, rfl⟩
theorem eX11_fewest_31 : DD cX11_fewest 31 (.iconst 1) 1 32 := ⟨by decide +kernel, rfl⟩
theorem eX11_fewest_32 : DD cX11_fewest 32 (.istore 5) 2 34 := ⟨by decide +kernel, rfl⟩
theorem eX11_fewest_34 : DD cX11_fewest 34 (.aload_n 0) 1 35 := ⟨by decide +kernel, rfl⟩
theorem eX11_fewest_35 : DD cX11_fewest 35 (.getfield 43) 3 38 := ⟨by decide +kernel, rfl⟩
theorem eX11_fewest_38 : DD cX11_fewest 38 (.iload 5) 2 40 := ⟨by decide +kernel, rfl⟩
theorem eX11_fewest_40 : DD cX11_fewest 40 (.iconst 0) 1 41 := ⟨by decide +kernel, rfl⟩
theorem eX11_fewest_41 : DD cX11_fewest 41 (.invokestatic 174) 3 44 := ⟨by decide +kernel, rfl⟩
theorem eX11_fewest_44 : DD cX11_fewest 44 (.laload) 1 45 := ⟨by decide +kernel, rfl⟩
theorem eX11_fewest_45 : DD cX11_fewest 45 (.lload_n 3) 1 46 := ⟨by decide +kernel, rfl⟩
theorem eX11_fewest_46 : DD cX11_fewest 46 (.lcmp) 1 47 := ⟨by decide +kernel, rfl⟩
theorem eX11_fewest_47 : DB cX11_fewest 47 (.ifCond .le 9) (9) 50 56 := ⟨by decide +kernel, rfl, by decide⟩
theorem eX11_fewest_50 : DD cX11_fewest 50 (.iinc 5 1) 3 53 := ⟨by decide +kernel, rfl⟩
theorem eX11_fewest_53 : DB cX11_fewest 53 (.goto (-19)) (-19) 56 34 := ⟨by decide +kernel, rfl, by decide⟩
theorem eX11_fewest_56 : DD cX11_fewest 56 (.iload 5) 2 58 := ⟨by decide +kernel, rfl⟩
theorem eX11_fewest_58 : DD cX11_fewest 58 (.ireturn) 1 59 := ⟨by decide +kernel, rfl⟩
def L_X11_fewest_34 : Nat → Int64 → Int32 → Mem → Option (Int32 × Mem)
  | 0, _, _, _ => none
  | n + 1, l3, x5, μ => bd (G_X11_leastAt x5 (0 : Int32) μ) (fun r_2 μ_1 => gq (inB r_2 306) (if (lg_cmp (rL μ_1 119 (nx r_2)) l3) ≤ 0 then some (x5, μ_1) else lb (x5 + (1 : Int32)) (fun x5_3 => L_X11_fewest_34  n l3 x5_3 μ_1)))
set_option maxHeartbeats 4000000 in
theorem j_X11_fewest_34 {C : Cx} (hC : Ok C cX11_fewest 6 RX11 (rmF 3 71)) (hr : (cT C).sig.returnType = (some .int)) : ∀ (n : Nat) (l3 : Int64) (x5 : Int32) (μ : Mem), J C (KI C) μ 34 [(0, .ref (xad (cX C) 107)), (3, .long l3), (5, .int x5)] [] (L_X11_fewest_34  n l3 x5 μ) := by
  intro n
  induction n with
  | zero => intros; exact J.no
  | succ n ih =>
    intro l3 x5 μ
    rw [L_X11_fewest_34]
    refine J.aload_n (j := 0) hC eX11_fewest_34 rfl ?_
    refine gf_X11_43 (q := 119) hC eX11_fewest_35 kk_107 rfl ?_
    refine J.iload (j := 2) hC eX11_fewest_38 rfl ?_
    refine J.iconst hC eX11_fewest_40 ci_0 ?_
    refine J.callSI (st := [.ref (xad (cX C) 119)]) hC eX11_fewest_41 ml_X11_174 mv_X11_leastAt (Rle_of (Nat.le_of_ble_eq_true rfl) (Nat.le_of_ble_eq_true rfl)) (c_X11_leastAt hC.X x5 (0 : Int32) μ) rfl rfl (Nat.le_of_ble_eq_true rfl) (fun r_2 μ_1 => ?_)
    refine J.lald il_306 hC eX11_fewest_44 kk_119 ?_
    refine J.lload_n (j := 1) hC eX11_fewest_45 rfl ?_
    refine J.lcmp hC eX11_fewest_46 ?_
    refine J.if_le hC eX11_fewest_47 (fun _ => ?_) (fun _ => ?_)
    · refine J.iload (j := 2) hC eX11_fewest_56 rfl ?_
      exact J.iret hC hr eX11_fewest_58
    · refine J.iinc (j := 2) (fun x5_3 => [(5, .int x5_3), (0, .ref (xad (cX C) 107)), (3, .long l3)]) hC eX11_fewest_50 rfl ci_1 (by decide) (fun _ => rfl) (fun x5_3 => ?_)
      refine J.goto hC eX11_fewest_53 ?_
      refine J.sub [1, 2, 0] rfl ?_
      exact ih l3 x5_3 μ_1
def G_X11_fewest (x1 : Int32) (x2 : Int32) (l3 : Int64) (μ : Mem) : Option (Int32 × Mem) :=
  bd (G_X11_isColumn x1 x2 μ) (fun r_2 μ_1 => if r_2 = 0 then some ((-1 : Int32), μ_1) else if 0 ≤ (lg_cmp l3 (0 : Int64)) then bd (G_X11_layCounts x1 x2 μ_1) (fun r_4 μ_3 => bd (G_X11_layLeast (rI μ_3 107 19) μ_3) (fun r_6 μ_5 => L_X11_fewest_34  100000 l3 (1 : Int32) μ_5)) else some ((-1 : Int32), μ_1))
set_option maxHeartbeats 4000000 in
theorem c_X11_fewest {X : Wd} (hX : WdOk X) (x1 : Int32) (x2 : Int32) (l3 : Int64) (μ : Mem) : CtI X yX11_fewest cX11_fewest 6 (some .int) (rmF 3 71) [.ref (xad X 107), .int x1, .int x2, .long l3] μ (G_X11_fewest x1 x2 l3 μ) := by
  refine CtI.of hX (plainFor_of_name (by decide)) (by exact Nat.le_of_ble_eq_true rfl) ?_
  intro C hCX hC hr
  subst hCX
  show J C (KI C) μ 0 [(0, .ref (xad (cX C) 107)), (1, .int x1), (2, .int x2), (3, .long l3)] [] _
  unfold G_X11_fewest
  refine J.aload_n (j := 0) hC eX11_fewest_0 rfl ?_
  refine J.iload_n (j := 1) hC eX11_fewest_1 rfl ?_
  refine J.iload_n (j := 2) hC eX11_fewest_2 rfl ?_
  refine J.callVI (st := []) hC eX11_fewest_3 kk_107 (by decide) rfl rfl ml_X11_235 mv_X11_isColumn (Rle_of (Nat.le_of_ble_eq_true rfl) (Nat.le_of_ble_eq_true rfl)) (c_X11_isColumn hC.X x1 x2 μ) rfl rfl (Nat.le_of_ble_eq_true rfl) (fun r_2 μ_1 => ?_)
  refine J.if_eq hC eX11_fewest_6 (fun _ => ?_) (fun _ => ?_)
  · refine J.iconst hC eX11_fewest_15 ci_m1 ?_
    exact J.iret hC hr eX11_fewest_16
  · refine J.lload_n (j := 3) hC eX11_fewest_9 rfl ?_
    refine J.lconst hC eX11_fewest_10 cl_0 ?_
    refine J.lcmp hC eX11_fewest_11 ?_
    refine J.if_ge hC eX11_fewest_12 (fun _ => ?_) (fun _ => ?_)
    · refine J.aload_n (j := 0) hC eX11_fewest_17 rfl ?_
      refine J.iload_n (j := 1) hC eX11_fewest_18 rfl ?_
      refine J.iload_n (j := 2) hC eX11_fewest_19 rfl ?_
      refine J.callVV (st := []) hC eX11_fewest_20 kk_107 (by decide) rfl rfl ml_X11_191 mv_X11_layCounts (Rle_of (Nat.le_of_ble_eq_true rfl) (Nat.le_of_ble_eq_true rfl)) (c_X11_layCounts hC.X x1 x2 μ_1) rfl rfl (Nat.le_of_ble_eq_true rfl) (fun r_4 μ_3 => ?_)
      refine J.aload_n (j := 0) hC eX11_fewest_23 rfl ?_
      refine J.aload_n (j := 0) hC eX11_fewest_24 rfl ?_
      refine gf_X11_164 hC eX11_fewest_25 kk_107 ?_
      refine J.callVV (st := []) hC eX11_fewest_28 kk_107 (by decide) rfl rfl ml_X11_187 mv_X11_layLeast (Rle_of (Nat.le_of_ble_eq_true rfl) (Nat.le_of_ble_eq_true rfl)) (c_X11_layLeast hC.X (rI μ_3 107 19) μ_3) rfl rfl (Nat.le_of_ble_eq_true rfl) (fun r_6 μ_5 => ?_)
      refine J.iconst hC eX11_fewest_31 ci_1 ?_
      refine J.istore [(5, .int (1 : Int32)), (0, .ref (xad (cX C) 107)), (1, .int x1), (2, .int x2), (3, .long l3)] hC eX11_fewest_32 (by decide) rfl ?_
      refine J.sub [1, 4, 0] rfl ?_
      exact j_X11_fewest_34 hC hr  100000 l3 (1 : Int32) μ_5
    · refine J.iconst hC eX11_fewest_15 ci_m1 ?_
      exact J.iret hC hr eX11_fewest_16
-- X11_keep
theorem eX11_keep_0 : DD cX11_keep 0 (.aload_n 0) 1 1 := ⟨by decide +kernel, rfl⟩
theorem eX11_keep_1 : DD cX11_keep 1 (.getfield 212) 3 4 := ⟨by decide +kernel, rfl⟩
theorem eX11_keep_4 : DD cX11_keep 4 (.bipush 40) 2 6 := ⟨by decide +kernel, rfl⟩
theorem eX11_keep_6 : DB cX11_keep 6 (.if_icmp .ne 45) (45) 9 51 := ⟨by decide +kernel, rfl, by decide⟩
theorem eX11_keep_9 : DD cX11_keep 9 (.sipush 1253) 3 12 := ⟨by decide +kernel, rfl⟩
theorem eX11_keep_12 : DD cX11_keep 12 (.istore_n 1) 1 13 := ⟨by decide +kernel, rfl⟩
theorem eX11_keep_13 : DD cX11_keep 13 (.iload_n 1) 1 14 := ⟨by decide +kernel, rfl⟩
theorem eX11_keep_14 : DD cX11_keep 14 (.ldc 50) 2 16 := ⟨by decide +kernel, rfl⟩
theorem eX11_keep_16 : DB cX11_keep 16 (.if_icmp .ge 25) (25) 19 41 := ⟨by decide +kernel, rfl, by decide⟩
theorem eX11_keep_19 : DD cX11_keep 19 (.aload_n 0) 1 20 := ⟨by decide +kernel, rfl⟩
theorem eX11_keep_20 : DD cX11_keep 20 (.getfield 51) 3 23 := ⟨by decide +kernel, rfl⟩
theorem eX11_keep_23 : DD cX11_keep 23 (.iload_n 1) 1 24 := ⟨by decide +kernel, rfl⟩
theorem eX11_keep_24 : DD cX11_keep 24 (.sipush 1253) 3 27 := ⟨by decide +kernel, rfl⟩
theorem eX11_keep_27 : DD cX11_keep 27 (.isub) 1 28 := ⟨by decide +kernel, rfl⟩
theorem eX11_keep_28 : DD cX11_keep 28 (.aload_n 0) 1 29 := ⟨by decide +kernel, rfl⟩
theorem eX11_keep_29 : DD cX11_keep 29 (.getfield 51) 3 32 := ⟨by decide +kernel, rfl⟩
theorem eX11_keep_32 : DD cX11_keep 32 (.iload_n 1) 1 33 := ⟨by decide +kernel, rfl⟩
theorem eX11_keep_33 : DD cX11_keep 33 (.iaload) 1 34 := ⟨by decide +kernel, rfl⟩
theorem eX11_keep_34 : DD cX11_keep 34 (.iastore) 1 35 := ⟨by decide +kernel, rfl⟩
theorem eX11_keep_35 : DD cX11_keep 35 (.iinc 1 1) 3 38 := ⟨by decide +kernel, rfl⟩
theorem eX11_keep_38 : DB cX11_keep 38 (.goto (-25)) (-25) 41 13 := ⟨by decide +kernel, rfl, by decide⟩
theorem eX11_keep_41 : DD cX11_keep 41 (.aload_n 0) 1 42 := ⟨by decide +kernel, rfl⟩
theorem eX11_keep_42 : DD cX11_keep 42 (.dup) 1 43 := ⟨by decide +kernel, rfl⟩
theorem eX11_keep_43 : DD cX11_keep 43 (.getfield 212) 3 46 := ⟨by decide +kernel, rfl⟩
theorem eX11_keep_46 : DD cX11_keep 46 (.iconst 1) 1 47 := ⟨by decide +kernel, rfl⟩
theorem eX11_keep_47 : DD cX11_keep 47 (.isub) 1 48 := ⟨by decide +kernel, rfl⟩
theorem eX11_keep_48 : DD cX11_keep 48 (.putfield 212) 3 51 := ⟨by decide +kernel, rfl⟩
theorem eX11_keep_51 : DD cX11_keep 51 (.iconst 0) 1 52 := ⟨by decide +kernel, rfl⟩
theorem eX11_keep_52 : DD cX11_keep 52 (.istore_n 1) 1 53 := ⟨by decide +kernel, rfl⟩
theorem eX11_keep_53 : DD cX11_keep 53 (.iload_n 1) 1 54 := ⟨by decide +kernel, rfl⟩
theorem eX11_keep_54 : DD cX11_keep 54 (.sipush 1253) 3 57 := ⟨by decide +kernel, rfl⟩
theorem eX11_keep_57 : DB cX11_keep 57 (.if_icmp .ge 30) (30) 60 87 := ⟨by decide +kernel, rfl, by decide⟩
theorem eX11_keep_60 : DD cX11_keep 60 (.aload_n 0) 1 61 := ⟨by decide +kernel, rfl⟩
theorem eX11_keep_61 : DD cX11_keep 61 (.getfield 51) 3 64 := ⟨by decide +kernel, rfl⟩
theorem eX11_keep_64 : DD cX11_keep 64 (.sipush 1253) 3 67 := ⟨by decide +kernel, rfl⟩
theorem eX11_keep_67 : DD cX11_keep 67 (.aload_n 0) 1 68 := ⟨by decide +kernel, rfl⟩
theorem eX11_keep_68 : DD cX11_keep 68 (.getfield 212) 3 71 := ⟨by decide +kernel, rfl⟩
theorem eX11_keep_71 : DD cX11_keep 71 (.imul) 1 72 := ⟨by decide +kernel, rfl⟩
theorem eX11_keep_72 : DD cX11_keep 72 (.iload_n 1) 1 73 := ⟨by decide +kernel, rfl⟩
theorem eX11_keep_73 : DD cX11_keep 73 (.iadd) 1 74 := ⟨by decide +kernel, rfl⟩
theorem eX11_keep_74 : DD cX11_keep 74 (.aload_n 0) 1 75 := ⟨by decide +kernel, rfl⟩
theorem eX11_keep_75 : DD cX11_keep 75 (.getfield 34) 3 78 := ⟨by decide +kernel, rfl⟩
theorem eX11_keep_78 : DD cX11_keep 78 (.iload_n 1) 1 79 := ⟨by decide +kernel, rfl⟩
theorem eX11_keep_79 : DD cX11_keep 79 (.iaload) 1 80 := ⟨by decide +kernel, rfl⟩
theorem eX11_keep_80 : DD cX11_keep 80 (.iastore) 1 81 := ⟨by decide +kernel, rfl⟩
theorem eX11_keep_81 : DD cX11_keep 81 (.iinc 1 1) 3 84 := ⟨by decide +kernel, rfl⟩
theorem eX11_keep_84 : DB cX11_keep 84 (.goto (-31)) (-31) 87 53 := ⟨by decide +kernel, rfl, by decide⟩
theorem eX11_keep_87 : DD cX11_keep 87 (.aload_n 0) 1 88 := ⟨by decide +kernel, rfl⟩
theorem eX11_keep_88 : DD cX11_keep 88 (.dup) 1 89 := ⟨by decide +kernel, rfl⟩
theorem eX11_keep_89 : DD cX11_keep 89 (.getfield 212) 3 92 := ⟨by decide +kernel, rfl⟩
theorem eX11_keep_92 : DD cX11_keep 92 (.iconst 1) 1 93 := ⟨by decide +kernel, rfl⟩
theorem eX11_keep_93 : DD cX11_keep 93 (.iadd) 1 94 := ⟨by decide +kernel, rfl⟩
theorem eX11_keep_94 : DD cX11_keep 94 (.putfield 212) 3 97 := ⟨by decide +kernel, rfl⟩
theorem eX11_keep_97 : DD cX11_keep 97 (.return_) 1 98 := ⟨by decide +kernel, rfl⟩
def L_X11_keep_53 : Nat → Int32 → Mem → Option (Unit × Mem)
  | 0, _, _ => none
  | n + 1, x1, μ => if (1253 : Int32) ≤ x1 then lb (wI μ 107 23 ((rI μ 107 23) + (1 : Int32))) (fun μ_1 => some ((), μ_1)) else gq (inB x1 1253) (gq (inB (((1253 : Int32) * (rI μ 107 23)) + x1) 50120) (lb (wI μ 121 (nx (((1253 : Int32) * (rI μ 107 23)) + x1)) (rI μ 116 (nx x1))) (fun μ_2 => lb (x1 + (1 : Int32)) (fun x1_3 => L_X11_keep_53  n x1_3 μ_2))))
set_option maxHeartbeats 4000000 in
theorem j_X11_keep_53 {C : Cx} (hC : Ok C cX11_keep 2 RX11 (rmF 0 0)) (hr : (cT C).sig.returnType = none) : ∀ (n : Nat) (x1 : Int32) (μ : Mem), J C (KV C) μ 53 [(0, .ref (xad (cX C) 107)), (1, .int x1)] [] (L_X11_keep_53  n x1 μ) := by
  intro n
  induction n with
  | zero => intros; exact J.no
  | succ n ih =>
    intro x1 μ
    rw [L_X11_keep_53]
    refine J.iload_n (j := 1) hC eX11_keep_53 rfl ?_
    refine J.sipush hC eX11_keep_54 cs_1253 ?_
    refine J.icmp_ge hC eX11_keep_57 (fun _ => ?_) (fun _ => ?_)
    · refine J.aload_n (j := 0) hC eX11_keep_87 rfl ?_
      refine J.dup hC eX11_keep_88 rfl ?_
      refine gf_X11_212 hC eX11_keep_89 kk_107 ?_
      refine J.iconst hC eX11_keep_92 ci_1 ?_
      refine J.iadd hC eX11_keep_93 ?_
      refine pf_X11_212 hC eX11_keep_94 kk_107 (fun μ_1 => ?_)
      exact J.vret hC hr eX11_keep_97
    · refine J.aload_n (j := 0) hC eX11_keep_60 rfl ?_
      refine gf_X11_51 (q := 121) hC eX11_keep_61 kk_107 rfl ?_
      refine J.sipush hC eX11_keep_64 cs_1253 ?_
      refine J.aload_n (j := 0) hC eX11_keep_67 rfl ?_
      refine gf_X11_212 hC eX11_keep_68 kk_107 ?_
      refine J.imul hC eX11_keep_71 ?_
      refine J.iload_n (j := 1) hC eX11_keep_72 rfl ?_
      refine J.iadd hC eX11_keep_73 ?_
      refine J.aload_n (j := 0) hC eX11_keep_74 rfl ?_
      refine gf_X11_34 (q := 116) hC eX11_keep_75 kk_107 rfl ?_
      refine J.iload_n (j := 1) hC eX11_keep_78 rfl ?_
      refine J.iald ik_1253 hC eX11_keep_79 kk_116 ?_
      refine J.iast ik_50120 hC eX11_keep_80 kk_121 (fun μ_2 => ?_)
      refine J.iinc (j := 1) (fun x1_3 => [(1, .int x1_3), (0, .ref (xad (cX C) 107))]) hC eX11_keep_81 rfl ci_1 (by decide) (fun _ => rfl) (fun x1_3 => ?_)
      refine J.goto hC eX11_keep_84 ?_
      refine J.sub [1, 0] rfl ?_
      exact ih x1_3 μ_2
def F_X11_keep_51  (μ : Mem) : Option (Unit × Mem) :=
  L_X11_keep_53  100000 (0 : Int32) μ
set_option maxHeartbeats 4000000 in
theorem j_X11_keep_51 {C : Cx} (hC : Ok C cX11_keep 2 RX11 (rmF 0 0)) (hr : (cT C).sig.returnType = none)  (μ : Mem) : J C (KV C) μ 51 [(0, .ref (xad (cX C) 107))] [] (F_X11_keep_51   μ) := by
  unfold F_X11_keep_51
  refine J.iconst hC eX11_keep_51 ci_0 ?_
  refine J.istore_n [(1, .int (0 : Int32)), (0, .ref (xad (cX C) 107))] hC eX11_keep_52 (by decide) rfl ?_
  refine J.sub [1, 0] rfl ?_
  exact j_X11_keep_53 hC hr  100000 (0 : Int32) μ
def L_X11_keep_13 : Nat → Int32 → Mem → Option (Unit × Mem)
  | 0, _, _ => none
  | n + 1, x1, μ => if (50120 : Int32) ≤ x1 then lb (wI μ 107 23 ((rI μ 107 23) - (1 : Int32))) (fun μ_1 => F_X11_keep_51   μ_1) else gq (inB x1 50120) (gq (inB (x1 - (1253 : Int32)) 50120) (lb (wI μ 121 (nx (x1 - (1253 : Int32))) (rI μ 121 (nx x1))) (fun μ_2 => lb (x1 + (1 : Int32)) (fun x1_3 => L_X11_keep_13  n x1_3 μ_2))))
set_option maxHeartbeats 4000000 in
theorem j_X11_keep_13 {C : Cx} (hC : Ok C cX11_keep 2 RX11 (rmF 0 0)) (hr : (cT C).sig.returnType = none) : ∀ (n : Nat) (x1 : Int32) (μ : Mem), J C (KV C) μ 13 [(0, .ref (xad (cX C) 107)), (1, .int x1)] [] (L_X11_keep_13  n x1 μ) := by
  intro n
  induction n with
  | zero => intros; exact J.no
  | succ n ih =>
    intro x1 μ
    rw [L_X11_keep_13]
    refine J.iload_n (j := 1) hC eX11_keep_13 rfl ?_
    refine J.ldc hC eX11_keep_14 mk_X11_50 ?_
    refine J.icmp_ge hC eX11_keep_16 (fun _ => ?_) (fun _ => ?_)
    · refine J.aload_n (j := 0) hC eX11_keep_41 rfl ?_
      refine J.dup hC eX11_keep_42 rfl ?_
      refine gf_X11_212 hC eX11_keep_43 kk_107 ?_
      refine J.iconst hC eX11_keep_46 ci_1 ?_
      refine J.isub hC eX11_keep_47 ?_
      refine pf_X11_212 hC eX11_keep_48 kk_107 (fun μ_1 => ?_)
      refine J.sub [0] rfl ?_
      exact j_X11_keep_51 hC hr   μ_1
    · refine J.aload_n (j := 0) hC eX11_keep_19 rfl ?_
      refine gf_X11_51 (q := 121) hC eX11_keep_20 kk_107 rfl ?_
      refine J.iload_n (j := 1) hC eX11_keep_23 rfl ?_
      refine J.sipush hC eX11_keep_24 cs_1253 ?_
      refine J.isub hC eX11_keep_27 ?_
      refine J.aload_n (j := 0) hC eX11_keep_28 rfl ?_
      refine gf_X11_51 (q := 121) hC eX11_keep_29 kk_107 rfl ?_
      refine J.iload_n (j := 1) hC eX11_keep_32 rfl ?_
      refine J.iald ik_50120 hC eX11_keep_33 kk_121 ?_
      refine J.iast ik_50120 hC eX11_keep_34 kk_121 (fun μ_2 => ?_)
      refine J.iinc (j := 1) (fun x1_3 => [(1, .int x1_3), (0, .ref (xad (cX C) 107))]) hC eX11_keep_35 rfl ci_1 (by decide) (fun _ => rfl) (fun x1_3 => ?_)
      refine J.goto hC eX11_keep_38 ?_
      refine J.sub [1, 0] rfl ?_
      exact ih x1_3 μ_2
def G_X11_keep  (μ : Mem) : Option (Unit × Mem) :=
  if (rI μ 107 23) = (40 : Int32) then L_X11_keep_13  100000 (1253 : Int32) μ else F_X11_keep_51   μ
set_option maxHeartbeats 4000000 in
theorem c_X11_keep {X : Wd} (hX : WdOk X)  (μ : Mem) : CtV X yX11_keep cX11_keep 2 none (rmF 0 0) [.ref (xad X 107)] μ (G_X11_keep  μ) := by
  refine CtV.of hX (plainFor_of_name (by decide)) (by exact Nat.le_of_ble_eq_true rfl) ?_
  intro C hCX hC hr
  subst hCX
  show J C (KV C) μ 0 [(0, .ref (xad (cX C) 107))] [] _
  unfold G_X11_keep
  refine J.aload_n (j := 0) hC eX11_keep_0 rfl ?_
  refine gf_X11_212 hC eX11_keep_1 kk_107 ?_
  refine J.bipush hC eX11_keep_4 cb_40 ?_
  refine J.icmp_ne hC eX11_keep_6 (fun _ => ?_) (fun _ => ?_)
  · refine J.sipush hC eX11_keep_9 cs_1253 ?_
    refine J.istore_n [(1, .int (1253 : Int32)), (0, .ref (xad (cX C) 107))] hC eX11_keep_12 (by decide) rfl ?_
    refine J.sub [1, 0] rfl ?_
    exact j_X11_keep_13 hC hr  100000 (1253 : Int32) μ
  · refine J.sub [0] rfl ?_
    exact j_X11_keep_51 hC hr   μ
-- X11_isRefused
theorem eX11_isRefused_0 : DD cX11_isRefused 0 (.iload_n 1) 1 1 := ⟨by decide +kernel, rfl⟩
theorem eX11_isRefused_1 : DD cX11_isRefused 1 (.iconst (-1)) 1 2 := ⟨by decide +kernel, rfl⟩
theorem eX11_isRefused_2 : DB cX11_isRefused 2 (.if_icmp .eq 15) (15) 5 17 := ⟨by decide +kernel, rfl, by decide⟩
theorem eX11_isRefused_5 : DD cX11_isRefused 5 (.aload_n 0) 1 6 := ⟨by decide +kernel, rfl⟩
theorem eX11_isRefused_6 : DD cX11_isRefused 6 (.getfield 37) 3 9 := ⟨by decide +kernel, rfl⟩
theorem eX11_isRefused_9 : DD cX11_isRefused 9 (.iload_n 1) 1 10 := ⟨by decide +kernel, rfl⟩
theorem eX11_isRefused_10 : DD cX11_isRefused 10 (.dup2) 1 11 := ⟨by decide +kernel, rfl⟩
theorem eX11_isRefused_11 : DD cX11_isRefused 11 (.iaload) 1 12 := ⟨by decide +kernel, rfl⟩
theorem eX11_isRefused_12 : DD cX11_isRefused 12 (.iconst 1) 1 13 := ⟨by decide +kernel, rfl⟩
theorem eX11_isRefused_13 : DD cX11_isRefused 13 (.iadd) 1 14 := ⟨by decide +kernel, rfl⟩
theorem eX11_isRefused_14 : DD cX11_isRefused 14 (.iastore) 1 15 := ⟨by decide +kernel, rfl⟩
theorem eX11_isRefused_15 : DD cX11_isRefused 15 (.iconst 1) 1 16 := ⟨by decide +kernel, rfl⟩
theorem eX11_isRefused_16 : DD cX11_isRefused 16 (.ireturn) 1 17 := ⟨by decide +kernel, rfl⟩
theorem eX11_isRefused_17 : DD cX11_isRefused 17 (.aload_n 0) 1 18 := ⟨by decide +kernel, rfl⟩
theorem eX11_isRefused_18 : DD cX11_isRefused 18 (.invokevirtual 257) 3 21 := ⟨by decide +kernel, rfl⟩
theorem eX11_isRefused_21 : DD cX11_isRefused 21 (.aload_n 0) 1 22 := ⟨by decide +kernel, rfl⟩
theorem eX11_isRefused_22 : DD cX11_isRefused 22 (.getfield 34) 3 25 := ⟨by decide +kernel, rfl⟩
theorem eX11_isRefused_25 : DD cX11_isRefused 25 (.sipush 1072) 3 28 := ⟨by decide +kernel, rfl⟩
theorem eX11_isRefused_28 : DD cX11_isRefused 28 (.iaload) 1 29 := ⟨by decide +kernel, rfl⟩
theorem eX11_isRefused_29 : DD cX11_isRefused 29 (.bipush 60) 2 31 := ⟨by decide +kernel, rfl⟩
theorem eX11_isRefused_31 : DB cX11_isRefused 31 (.if_icmp .ne 56) (56) 34 87 := ⟨by decide +kernel, rfl, by decide⟩
theorem eX11_isRefused_34 : DD cX11_isRefused 34 (.iconst 3) 1 35 := ⟨by decide +kernel, rfl⟩
theorem eX11_isRefused_35 : DD cX11_isRefused 35 (.istore 5) 2 37 := ⟨by decide +kernel, rfl⟩
theorem eX11_isRefused_37 : DD cX11_isRefused 37 (.iload 5) 2 39 := ⟨by decide +kernel, rfl⟩
theorem eX11_isRefused_39 : DD cX11_isRefused 39 (.sipush 180) 3 42 := ⟨by decide +kernel, rfl⟩
theorem eX11_isRefused_42 : DB cX11_isRefused 42 (.if_icmp .ge 33) (33) 45 75 := ⟨by decide +kernel, rfl, by decide⟩
theorem eX11_isRefused_45 : DD cX11_isRefused 45 (.aload_n 0) 1 46 := ⟨by decide +kernel, rfl⟩
theorem eX11_isRefused_46 : DD cX11_isRefused 46 (.getfield 34) 3 49 := ⟨by decide +kernel, rfl⟩
theorem eX11_isRefused_49 : DD cX11_isRefused 49 (.sipush 1073) 3 52 := ⟨by decide +kernel, rfl⟩
theorem eX11_isRefused_52 : DD cX11_isRefused 52 (.iload 5) 2 54 := ⟨by decide +kernel, rfl⟩
theorem eX11_isRefused_54 : DD cX11_isRefused 54 (.iadd) 1 55 := ⟨by decide +kernel, rfl⟩
theorem eX11_isRefused_55 : DD cX11_isRefused 55 (.iconst 3) 1 56 := ⟨by decide +kernel, rfl⟩
theorem eX11_isRefused_56 : DD cX11_isRefused 56 (.isub) 1 57 := ⟨by decide +kernel, rfl⟩
theorem eX11_isRefused_57 : DD cX11_isRefused 57 (.aload_n 0) 1 58 := ⟨by decide +kernel, rfl⟩
theorem eX11_isRefused_58 : DD cX11_isRefused 58 (.getfield 34) 3 61 := ⟨by decide +kernel, rfl⟩
theorem eX11_isRefused_61 : DD cX11_isRefused 61 (.sipush 1073) 3 64 := ⟨by decide +kernel, rfl⟩
theorem eX11_isRefused_64 : DD cX11_isRefused 64 (.iload 5) 2 66 := ⟨by decide +kernel, rfl⟩
theorem eX11_isRefused_66 : DD cX11_isRefused 66 (.iadd) 1 67 := ⟨by decide +kernel, rfl⟩
theorem eX11_isRefused_67 : DD cX11_isRefused 67 (.iaload) 1 68 := ⟨by decide +kernel, rfl⟩
theorem eX11_isRefused_68 : DD cX11_isRefused 68 (.iastore) 1 69 := ⟨by decide +kernel, rfl⟩
theorem eX11_isRefused_69 : DD cX11_isRefused 69 (.iinc 5 1) 3 72 := ⟨by decide +kernel, rfl⟩
theorem eX11_isRefused_72 : DB cX11_isRefused 72 (.goto (-35)) (-35) 75 37 := ⟨by decide +kernel, rfl, by decide⟩
theorem eX11_isRefused_75 : DD cX11_isRefused 75 (.aload_n 0) 1 76 := ⟨by decide +kernel, rfl⟩
theorem eX11_isRefused_76 : DD cX11_isRefused 76 (.getfield 34) 3 79 := ⟨by decide +kernel, rfl⟩
theorem eX11_isRefused_79 : DD cX11_isRefused 79 (.sipush 1072) 3 82 := ⟨by decide +kernel, rfl⟩
theorem eX11_isRefused_82 : DD cX11_isRefused 82 (.dup2) 1 83 := ⟨by decide +kernel, rfl⟩
theorem eX11_isRefused_83 : DD cX11_isRefused 83 (.iaload) 1 84 := ⟨by decide +kernel, rfl⟩
theorem eX11_isRefused_84 : DD cX11_isRefused 84 (.iconst 1) 1 85 := ⟨by decide +kernel, rfl⟩
theorem eX11_isRefused_85 : DD cX11_isRefused 85 (.isub) 1 86 := ⟨by decide +kernel, rfl⟩
theorem eX11_isRefused_86 : DD cX11_isRefused 86 (.iastore) 1 87 := ⟨by decide +kernel, rfl⟩
theorem eX11_isRefused_87 : DD cX11_isRefused 87 (.sipush 1073) 3 90 := ⟨by decide +kernel, rfl⟩
theorem eX11_isRefused_90 : DD cX11_isRefused 90 (.iconst 3) 1 91 := ⟨by decide +kernel, rfl⟩
theorem eX11_isRefused_91 : DD cX11_isRefused 91 (.aload_n 0) 1 92 := ⟨by decide +kernel, rfl⟩
theorem eX11_isRefused_92 : DD cX11_isRefused 92 (.getfield 34) 3 95 := ⟨by decide +kernel, rfl⟩
theorem eX11_isRefused_95 : DD cX11_isRefused 95 (.sipush 1072) 3 98 := ⟨by decide +kernel, rfl⟩
theorem eX11_isRefused_98 : DD cX11_isRefused 98 (.iaload) 1 99 := ⟨by decide +kernel, rfl⟩
theorem eX11_isRefused_99 : DD cX11_isRefused 99 (.imul) 1 100 := ⟨by decide +kernel, rfl⟩
theorem eX11_isRefused_100 : DD cX11_isRefused 100 (.iadd) 1 101 := ⟨by decide +kernel, rfl⟩
theorem eX11_isRefused_101 : DD cX11_isRefused 101 (.istore 5) 2 103 := ⟨by decide +kernel, rfl⟩
theorem eX11_isRefused_103 : DD cX11_isRefused 103 (.aload_n 0) 1 104 := ⟨by decide +kernel, rfl⟩
theorem eX11_isRefused_104 : DD cX11_isRefused 104 (.getfield 34) 3 107 := ⟨by decide +kernel, rfl⟩
theorem eX11_isRefused_107 : DD cX11_isRefused 107 (.iload 5) 2 109 := ⟨by decide +kernel, rfl⟩
theorem eX11_isRefused_109 : DD cX11_isRefused 109 (.iload_n 2) 1 110 := ⟨by decide +kernel, rfl⟩
theorem eX11_isRefused_110 : DD cX11_isRefused 110 (.iastore) 1 111 := ⟨by decide +kernel, rfl⟩
theorem eX11_isRefused_111 : DD cX11_isRefused 111 (.aload_n 0) 1 112 := ⟨by decide +kernel, rfl⟩
theorem eX11_isRefused_112 : DD cX11_isRefused 112 (.getfield 34) 3 115 := ⟨by decide +kernel, rfl⟩
theorem eX11_isRefused_115 : DD cX11_isRefused 115 (.iload 5) 2 117 := ⟨by decide +kernel, rfl⟩
theorem eX11_isRefused_117 : DD cX11_isRefused 117 (.iconst 1) 1 118 := ⟨by decide +kernel, rfl⟩
theorem eX11_isRefused_118 : DD cX11_isRefused 118 (.iadd) 1 119 := ⟨by decide +kernel, rfl⟩
theorem eX11_isRefused_119 : DD cX11_isRefused 119 (.iload_n 3) 1 120 := ⟨by decide +kernel, rfl⟩
theorem eX11_isRefused_120 : DD cX11_isRefused 120 (.iastore) 1 121 := ⟨by decide +kernel, rfl⟩
theorem eX11_isRefused_121 : DD cX11_isRefused 121 (.aload_n 0) 1 122 := ⟨by decide +kernel, rfl⟩
theorem eX11_isRefused_122 : DD cX11_isRefused 122 (.getfield 34) 3 125 := ⟨by decide +kernel, rfl⟩
theorem eX11_isRefused_125 : DD cX11_isRefused 125 (.iload 5) 2 127 := ⟨by decide +kernel, rfl⟩
theorem eX11_isRefused_127 : DD cX11_isRefused 127 (.iconst 2) 1 128 := ⟨by decide +kernel, rfl⟩
theorem eX11_isRefused_128 : DD cX11_isRefused 128 (.iadd) 1 129 := ⟨by decide +kernel, rfl⟩
theorem eX11_isRefused_129 : DD cX11_isRefused 129 (.iload 4) 2 131 := ⟨by decide +kernel, rfl⟩
theorem eX11_isRefused_131 : DD cX11_isRefused 131 (.iastore) 1 132 := ⟨by decide +kernel, rfl⟩
theorem eX11_isRefused_132 : DD cX11_isRefused 132 (.aload_n 0) 1 133 := ⟨by decide +kernel, rfl⟩
theorem eX11_isRefused_133 : DD cX11_isRefused 133 (.getfield 34) 3 136 := ⟨by decide +kernel, rfl⟩
theorem eX11_isRefused_136 : DD cX11_isRefused 136 (.sipush 1072) 3 139 := ⟨by decide +kernel, rfl⟩
theorem eX11_isRefused_139 : DD cX11_isRefused 139 (.dup2) 1 140 := ⟨by decide +kernel, rfl⟩
theorem eX11_isRefused_140 : DD cX11_isRefused 140 (.iaload) 1 141 := ⟨by decide +kernel, rfl⟩
theorem eX11_isRefused_141 : DD cX11_isRefused 141 (.iconst 1) 1 142 := ⟨by decide +kernel, rfl⟩
theorem eX11_isRefused_142 : DD cX11_isRefused 142 (.iadd) 1 143 := ⟨by decide +kernel, rfl⟩
theorem eX11_isRefused_143 : DD cX11_isRefused 143 (.iastore) 1 144 := ⟨by decide +kernel, rfl⟩
theorem eX11_isRefused_144 : DD cX11_isRefused 144 (.iconst 0) 1 145 := ⟨by decide +kernel, rfl⟩
theorem eX11_isRefused_145 : DD cX11_isRefused 145 (.ireturn) 1 146 := ⟨by decide +kernel, rfl⟩
def F_X11_isRefused_87 (x2 : Int32) (x3 : Int32) (x4 : Int32) (μ : Mem) : Option (Int32 × Mem) :=
  lb ((1073 : Int32) + ((3 : Int32) * (rI μ 116 1072))) (fun x5_1 => gq (inB x5_1 1253) (lb (wI μ 116 (nx x5_1) x2) (fun μ_2 => gq (inB (x5_1 + (1 : Int32)) 1253) (lb (wI μ_2 116 (nx (x5_1 + (1 : Int32))) x3) (fun μ_3 => gq (inB (x5_1 + (2 : Int32)) 1253) (lb (wI μ_3 116 (nx (x5_1 + (2 : Int32))) x4) (fun μ_4 => lb (wI μ_4 116 1072 ((rI μ_4 116 1072) + (1 : Int32))) (fun μ_5 => some ((0 : Int32), μ_5)))))))))
set_option maxHeartbeats 4000000 in
theorem j_X11_isRefused_87 {C : Cx} (hC : Ok C cX11_isRefused 6 RX11 (rmF 1 21)) (hr : (cT C).sig.returnType = (some .boolean)) (x2 : Int32) (x3 : Int32) (x4 : Int32) (μ : Mem) : J C (KI C) μ 87 [(0, .ref (xad (cX C) 107)), (2, .int x2), (3, .int x3), (4, .int x4)] [] (F_X11_isRefused_87  x2 x3 x4 μ) := by
  unfold F_X11_isRefused_87
  refine J.sipush hC eX11_isRefused_87 cs_1073 ?_
  refine J.iconst hC eX11_isRefused_90 ci_3 ?_
  refine J.aload_n (j := 0) hC eX11_isRefused_91 rfl ?_
  refine gf_X11_34 (q := 116) hC eX11_isRefused_92 kk_107 rfl ?_
  refine J.sipush hC eX11_isRefused_95 cs_1072 ?_
  refine J.ialdK (j := 1072) ik_1253 hC eX11_isRefused_98 kk_116 (by decide) (by decide) ?_
  refine J.imul hC eX11_isRefused_99 ?_
  refine J.iadd hC eX11_isRefused_100 ?_
  refine J.topi (fun x5_1 => ?_)
  refine J.istore [(5, .int x5_1), (0, .ref (xad (cX C) 107)), (2, .int x2), (3, .int x3), (4, .int x4)] hC eX11_isRefused_101 (by decide) rfl ?_
  refine J.aload_n (j := 1) hC eX11_isRefused_103 rfl ?_
  refine gf_X11_34 (q := 116) hC eX11_isRefused_104 kk_107 rfl ?_
  refine J.iload (j := 0) hC eX11_isRefused_107 rfl ?_
  refine J.iload_n (j := 2) hC eX11_isRefused_109 rfl ?_
  refine J.iast ik_1253 hC eX11_isRefused_110 kk_116 (fun μ_2 => ?_)
  refine J.aload_n (j := 1) hC eX11_isRefused_111 rfl ?_
  refine gf_X11_34 (q := 116) hC eX11_isRefused_112 kk_107 rfl ?_
  refine J.iload (j := 0) hC eX11_isRefused_115 rfl ?_
  refine J.iconst hC eX11_isRefused_117 ci_1 ?_
  refine J.iadd hC eX11_isRefused_118 ?_
  refine J.iload_n (j := 3) hC eX11_isRefused_119 rfl ?_
  refine J.iast ik_1253 hC eX11_isRefused_120 kk_116 (fun μ_3 => ?_)
  refine J.aload_n (j := 1) hC eX11_isRefused_121 rfl ?_
  refine gf_X11_34 (q := 116) hC eX11_isRefused_122 kk_107 rfl ?_
  refine J.iload (j := 0) hC eX11_isRefused_125 rfl ?_
  refine J.iconst hC eX11_isRefused_127 ci_2 ?_
  refine J.iadd hC eX11_isRefused_128 ?_
  refine J.iload (j := 4) hC eX11_isRefused_129 rfl ?_
  refine J.iast ik_1253 hC eX11_isRefused_131 kk_116 (fun μ_4 => ?_)
  refine J.aload_n (j := 1) hC eX11_isRefused_132 rfl ?_
  refine gf_X11_34 (q := 116) hC eX11_isRefused_133 kk_107 rfl ?_
  refine J.sipush hC eX11_isRefused_136 cs_1072 ?_
  refine J.dup2 hC eX11_isRefused_139 rfl rfl ?_
  refine J.ialdK (j := 1072) ik_1253 hC eX11_isRefused_140 kk_116 (by decide) (by decide) ?_
  refine J.iconst hC eX11_isRefused_141 ci_1 ?_
  refine J.iadd hC eX11_isRefused_142 ?_
  refine J.iastK (j := 1072) ik_1253 hC eX11_isRefused_143 kk_116 (by decide) (by decide) (fun μ_5 => ?_)
  refine J.iconst hC eX11_isRefused_144 ci_0 ?_
  exact J.zretB hC hr eX11_isRefused_145 rfl
def L_X11_isRefused_37 : Nat → Int32 → Int32 → Int32 → Int32 → Mem → Option (Int32 × Mem)
  | 0, _, _, _, _, _ => none
  | n + 1, x2, x3, x4, x5, μ => if (180 : Int32) ≤ x5 then lb (wI μ 116 1072 ((rI μ 116 1072) - (1 : Int32))) (fun μ_1 => F_X11_isRefused_87  x2 x3 x4 μ_1) else gq (inB ((1073 : Int32) + x5) 1253) (gq (inB (((1073 : Int32) + x5) - (3 : Int32)) 1253) (lb (wI μ 116 (nx (((1073 : Int32) + x5) - (3 : Int32))) (rI μ 116 (nx ((1073 : Int32) + x5)))) (fun μ_2 => lb (x5 + (1 : Int32)) (fun x5_3 => L_X11_isRefused_37  n x2 x3 x4 x5_3 μ_2))))
set_option maxHeartbeats 4000000 in
theorem j_X11_isRefused_37 {C : Cx} (hC : Ok C cX11_isRefused 6 RX11 (rmF 1 21)) (hr : (cT C).sig.returnType = (some .boolean)) : ∀ (n : Nat) (x2 : Int32) (x3 : Int32) (x4 : Int32) (x5 : Int32) (μ : Mem), J C (KI C) μ 37 [(0, .ref (xad (cX C) 107)), (2, .int x2), (3, .int x3), (4, .int x4), (5, .int x5)] [] (L_X11_isRefused_37  n x2 x3 x4 x5 μ) := by
  intro n
  induction n with
  | zero => intros; exact J.no
  | succ n ih =>
    intro x2 x3 x4 x5 μ
    rw [L_X11_isRefused_37]
    refine J.iload (j := 4) hC eX11_isRefused_37 rfl ?_
    refine J.sipush hC eX11_isRefused_39 cs_180 ?_
    refine J.icmp_ge hC eX11_isRefused_42 (fun _ => ?_) (fun _ => ?_)
    · refine J.aload_n (j := 0) hC eX11_isRefused_75 rfl ?_
      refine gf_X11_34 (q := 116) hC eX11_isRefused_76 kk_107 rfl ?_
      refine J.sipush hC eX11_isRefused_79 cs_1072 ?_
      refine J.dup2 hC eX11_isRefused_82 rfl rfl ?_
      refine J.ialdK (j := 1072) ik_1253 hC eX11_isRefused_83 kk_116 (by decide) (by decide) ?_
      refine J.iconst hC eX11_isRefused_84 ci_1 ?_
      refine J.isub hC eX11_isRefused_85 ?_
      refine J.iastK (j := 1072) ik_1253 hC eX11_isRefused_86 kk_116 (by decide) (by decide) (fun μ_1 => ?_)
      refine J.sub [0, 1, 2, 3] rfl ?_
      exact j_X11_isRefused_87 hC hr  x2 x3 x4 μ_1
    · refine J.aload_n (j := 0) hC eX11_isRefused_45 rfl ?_
      refine gf_X11_34 (q := 116) hC eX11_isRefused_46 kk_107 rfl ?_
      refine J.sipush hC eX11_isRefused_49 cs_1073 ?_
      refine J.iload (j := 4) hC eX11_isRefused_52 rfl ?_
      refine J.iadd hC eX11_isRefused_54 ?_
      refine J.iconst hC eX11_isRefused_55 ci_3 ?_
      refine J.isub hC eX11_isRefused_56 ?_
      refine J.aload_n (j := 0) hC eX11_isRefused_57 rfl ?_
      refine gf_X11_34 (q := 116) hC eX11_isRefused_58 kk_107 rfl ?_
      refine J.sipush hC eX11_isRefused_61 cs_1073 ?_
      refine J.iload (j := 4) hC eX11_isRefused_64 rfl ?_
      refine J.iadd hC eX11_isRefused_66 ?_
      refine J.iald ik_1253 hC eX11_isRefused_67 kk_116 ?_
      refine J.iast ik_1253 hC eX11_isRefused_68 kk_116 (fun μ_2 => ?_)
      refine J.iinc (j := 4) (fun x5_3 => [(5, .int x5_3), (0, .ref (xad (cX C) 107)), (2, .int x2), (3, .int x3), (4, .int x4)]) hC eX11_isRefused_69 rfl ci_1 (by decide) (fun _ => rfl) (fun x5_3 => ?_)
      refine J.goto hC eX11_isRefused_72 ?_
      refine J.sub [1, 2, 3, 4, 0] rfl ?_
      exact ih x2 x3 x4 x5_3 μ_2
def G_X11_isRefused (x1 : Int32) (x2 : Int32) (x3 : Int32) (x4 : Int32) (μ : Mem) : Option (Int32 × Mem) :=
  if x1 = (-1 : Int32) then bd (G_X11_keep  μ) (fun r_2 μ_1 => if (rI μ_1 116 1072) = (60 : Int32) then L_X11_isRefused_37  100000 x2 x3 x4 (3 : Int32) μ_1 else F_X11_isRefused_87  x2 x3 x4 μ_1) else gq (inB x1 5) (gq (inB x1 5) (lb (wI μ 117 (nx x1) ((rI μ 117 (nx x1)) + (1 : Int32))) (fun μ_3 => some ((1 : Int32), μ_3))))
set_option maxHeartbeats 4000000 in
theorem c_X11_isRefused {X : Wd} (hX : WdOk X) (x1 : Int32) (x2 : Int32) (x3 : Int32) (x4 : Int32) (μ : Mem) : CtI X yX11_isRefused cX11_isRefused 6 (some .boolean) (rmF 1 21) [.ref (xad X 107), .int x1, .int x2, .int x3, .int x4] μ (G_X11_isRefused x1 x2 x3 x4 μ) := by
  refine CtI.of hX (plainFor_of_name (by decide)) (by exact Nat.le_of_ble_eq_true rfl) ?_
  intro C hCX hC hr
  subst hCX
  show J C (KI C) μ 0 [(0, .ref (xad (cX C) 107)), (1, .int x1), (2, .int x2), (3, .int x3), (4, .int x4)] [] _
  unfold G_X11_isRefused
  refine J.iload_n (j := 1) hC eX11_isRefused_0 rfl ?_
  refine J.iconst hC eX11_isRefused_1 ci_m1 ?_
  refine J.icmp_eq hC eX11_isRefused_2 (fun _ => ?_) (fun _ => ?_)
  · refine J.aload_n (j := 0) hC eX11_isRefused_17 rfl ?_
    refine J.callVV (st := []) hC eX11_isRefused_18 kk_107 (by decide) rfl rfl ml_X11_257 mv_X11_keep (Rle_of (Nat.le_of_ble_eq_true rfl) (Nat.le_of_ble_eq_true rfl)) (c_X11_keep hC.X  μ) rfl rfl (Nat.le_of_ble_eq_true rfl) (fun r_2 μ_1 => ?_)
    refine J.aload_n (j := 0) hC eX11_isRefused_21 rfl ?_
    refine gf_X11_34 (q := 116) hC eX11_isRefused_22 kk_107 rfl ?_
    refine J.sipush hC eX11_isRefused_25 cs_1072 ?_
    refine J.ialdK (j := 1072) ik_1253 hC eX11_isRefused_28 kk_116 (by decide) (by decide) ?_
    refine J.bipush hC eX11_isRefused_29 cb_60 ?_
    refine J.icmp_ne hC eX11_isRefused_31 (fun _ => ?_) (fun _ => ?_)
    · refine J.iconst hC eX11_isRefused_34 ci_3 ?_
      refine J.istore [(5, .int (3 : Int32)), (0, .ref (xad (cX C) 107)), (1, .int x1), (2, .int x2), (3, .int x3), (4, .int x4)] hC eX11_isRefused_35 (by decide) rfl ?_
      refine J.sub [1, 3, 4, 5, 0] rfl ?_
      exact j_X11_isRefused_37 hC hr  100000 x2 x3 x4 (3 : Int32) μ_1
    · refine J.sub [0, 2, 3, 4] rfl ?_
      exact j_X11_isRefused_87 hC hr  x2 x3 x4 μ_1
  · refine J.aload_n (j := 0) hC eX11_isRefused_5 rfl ?_
    refine gf_X11_37 (q := 117) hC eX11_isRefused_6 kk_107 rfl ?_
    refine J.iload_n (j := 1) hC eX11_isRefused_9 rfl ?_
    refine J.dup2 hC eX11_isRefused_10 rfl rfl ?_
    refine J.iald ik_5 hC eX11_isRefused_11 kk_117 ?_
    refine J.iconst hC eX11_isRefused_12 ci_1 ?_
    refine J.iadd hC eX11_isRefused_13 ?_
    refine J.iast ik_5 hC eX11_isRefused_14 kk_117 (fun μ_3 => ?_)
    refine J.iconst hC eX11_isRefused_15 ci_1 ?_
    exact J.zretB hC hr eX11_isRefused_16 rfl
-- X11_bucketOf
theorem eX11_bucketOf_0 : DD cX11_bucketOf 0 (.iconst 0) 1 1 := ⟨by decide +kernel, rfl⟩
theorem eX11_bucketOf_1 : DD cX11_bucketOf 1 (.istore 4) 2 3 := ⟨by decide +kernel, rfl⟩
theorem eX11_bucketOf_3 : DD cX11_bucketOf 3 (.aload_n 0) 1 4 := ⟨by decide +kernel, rfl⟩
theorem eX11_bucketOf_4 : DD cX11_bucketOf 4 (.iload_n 1) 1 5 := ⟨by decide +kernel, rfl⟩
theorem eX11_bucketOf_5 : DD cX11_bucketOf 5 (.iload_n 2) 1 6 := ⟨by decide +kernel, rfl⟩
theorem eX11_bucketOf_6 : DD cX11_bucketOf 6 (.iload 4) 2 8 := ⟨by decide +kernel, rfl⟩
theorem eX11_bucketOf_8 : DD cX11_bucketOf 8 (.iconst 1) 1 9 := ⟨by decide +kernel, rfl⟩
theorem eX11_bucketOf_9 : DD cX11_bucketOf 9 (.invokevirtual 241) 3 12 := ⟨by decide +kernel, rfl⟩
theorem eX11_bucketOf_12 : DD cX11_bucketOf 12 (.iload_n 3) 1 13 := ⟨by decide +kernel, rfl⟩
theorem eX11_bucketOf_13 : DB cX11_bucketOf 13 (.if_icmp .ge 9) (9) 16 22 := ⟨by decide +kernel, rfl, by decide⟩
theorem eX11_bucketOf_16 : DD cX11_bucketOf 16 (.iinc 4 1) 3 19 := ⟨by decide +kernel, rfl⟩
theorem eX11_bucketOf_19 : DB cX11_bucketOf 19 (.goto (-16)) (-16) 22 3 := ⟨by decide +kernel, rfl, by decide⟩
theorem eX11_bucketOf_22 : DD cX11_bucketOf 22 (.iload 4) 2 24 := ⟨by decide +kernel, rfl⟩
theorem eX11_bucketOf_24 : DD cX11_bucketOf 24 (.ireturn) 1 25 := ⟨by decide +kernel, rfl⟩
def L_X11_bucketOf_3 : Nat → Int32 → Int32 → Int32 → Int32 → Mem → Option (Int32 × Mem)
  | 0, _, _, _, _, _ => none
  | n + 1, x1, x2, x3, x4, μ => bd (G_X11_of x1 x2 x4 (1 : Int32) μ) (fun r_2 μ_1 => if x3 ≤ r_2 then some (x4, μ_1) else lb (x4 + (1 : Int32)) (fun x4_3 => L_X11_bucketOf_3  n x1 x2 x3 x4_3 μ_1))
set_option maxHeartbeats 4000000 in
theorem j_X11_bucketOf_3 {C : Cx} (hC : Ok C cX11_bucketOf 5 RX11 (rmF 2 45)) (hr : (cT C).sig.returnType = (some .int)) : ∀ (n : Nat) (x1 : Int32) (x2 : Int32) (x3 : Int32) (x4 : Int32) (μ : Mem), J C (KI C) μ 3 [(0, .ref (xad (cX C) 107)), (1, .int x1), (2, .int x2), (3, .int x3), (4, .int x4)] [] (L_X11_bucketOf_3  n x1 x2 x3 x4 μ) := by
  intro n
  induction n with
  | zero => intros; exact J.no
  | succ n ih =>
    intro x1 x2 x3 x4 μ
    rw [L_X11_bucketOf_3]
    refine J.aload_n (j := 0) hC eX11_bucketOf_3 rfl ?_
    refine J.iload_n (j := 1) hC eX11_bucketOf_4 rfl ?_
    refine J.iload_n (j := 2) hC eX11_bucketOf_5 rfl ?_
    refine J.iload (j := 4) hC eX11_bucketOf_6 rfl ?_
    refine J.iconst hC eX11_bucketOf_8 ci_1 ?_
    refine J.callVI (st := []) hC eX11_bucketOf_9 kk_107 (by decide) rfl rfl ml_X11_241 mv_X11_of (Rle_of (Nat.le_of_ble_eq_true rfl) (Nat.le_of_ble_eq_true rfl)) (c_X11_of hC.X x1 x2 x4 (1 : Int32) μ) rfl rfl (Nat.le_of_ble_eq_true rfl) (fun r_2 μ_1 => ?_)
    refine J.iload_n (j := 3) hC eX11_bucketOf_12 rfl ?_
    refine J.icmp_ge hC eX11_bucketOf_13 (fun _ => ?_) (fun _ => ?_)
    · refine J.iload (j := 4) hC eX11_bucketOf_22 rfl ?_
      exact J.iret hC hr eX11_bucketOf_24
    · refine J.iinc (j := 4) (fun x4_3 => [(4, .int x4_3), (0, .ref (xad (cX C) 107)), (1, .int x1), (2, .int x2), (3, .int x3)]) hC eX11_bucketOf_16 rfl ci_1 (by decide) (fun _ => rfl) (fun x4_3 => ?_)
      refine J.goto hC eX11_bucketOf_19 ?_
      refine J.sub [1, 2, 3, 4, 0] rfl ?_
      exact ih x1 x2 x3 x4_3 μ_1
def G_X11_bucketOf (x1 : Int32) (x2 : Int32) (x3 : Int32) (μ : Mem) : Option (Int32 × Mem) :=
  L_X11_bucketOf_3  100000 x1 x2 x3 (0 : Int32) μ
set_option maxHeartbeats 4000000 in
theorem c_X11_bucketOf {X : Wd} (hX : WdOk X) (x1 : Int32) (x2 : Int32) (x3 : Int32) (μ : Mem) : CtI X yX11_bucketOf cX11_bucketOf 5 (some .int) (rmF 2 45) [.ref (xad X 107), .int x1, .int x2, .int x3] μ (G_X11_bucketOf x1 x2 x3 μ) := by
  refine CtI.of hX (plainFor_of_name (by decide)) (by exact Nat.le_of_ble_eq_true rfl) ?_
  intro C hCX hC hr
  subst hCX
  show J C (KI C) μ 0 [(0, .ref (xad (cX C) 107)), (1, .int x1), (2, .int x2), (3, .int x3)] [] _
  unfold G_X11_bucketOf
  refine J.iconst hC eX11_bucketOf_0 ci_0 ?_
  refine J.istore [(4, .int (0 : Int32)), (0, .ref (xad (cX C) 107)), (1, .int x1), (2, .int x2), (3, .int x3)] hC eX11_bucketOf_1 (by decide) rfl ?_
  refine J.sub [1, 2, 3, 4, 0] rfl ?_
  exact j_X11_bucketOf_3 hC hr  100000 x1 x2 x3 (0 : Int32) μ
-- X11_drifts
theorem eX11_drifts_0 : DD cX11_drifts 0 (.iload_n 3) 1 1 := ⟨by decide +kernel, rfl⟩
theorem eX11_drifts_1 : DD cX11_drifts 1 (.iconst (-1)) 1 2 := ⟨by decide +kernel, rfl⟩
theorem eX11_drifts_2 : DB cX11_drifts 2 (.if_icmp .ne 4) (4) 5 6 := ⟨by decide +kernel, rfl, by decide⟩
theorem eX11_drifts_5 : DD cX11_drifts 5 (.return_) 1 6 := ⟨by decide +kernel, rfl⟩
theorem eX11_drifts_6 : DD cX11_drifts 6 (.aload_n 0) 1 7 := ⟨by decide +kernel, rfl⟩
theorem eX11_drifts_7 : DD cX11_drifts 7 (.iload_n 1) 1 8 := ⟨by decide +kernel, rfl⟩
theorem eX11_drifts_8 : DD cX11_drifts 8 (.iload_n 2) 1 9 := ⟨by decide +kernel, rfl⟩
theorem eX11_drifts_9 : DD cX11_drifts 9 (.iload_n 3) 1 10 := ⟨by decide +kernel, rfl⟩
theorem eX11_drifts_10 : DD cX11_drifts 10 (.invokevirtual 260) 3 13 := ⟨by decide +kernel, rfl⟩
theorem eX11_drifts_13 : DD cX11_drifts 13 (.istore 5) 2 15 := ⟨by decide +kernel, rfl⟩
theorem eX11_drifts_15 : DD cX11_drifts 15 (.aload_n 0) 1 16 := ⟨by decide +kernel, rfl⟩
theorem eX11_drifts_16 : DD cX11_drifts 16 (.iload_n 1) 1 17 := ⟨by decide +kernel, rfl⟩
theorem eX11_drifts_17 : DD cX11_drifts 17 (.iload_n 2) 1 18 := ⟨by decide +kernel, rfl⟩
theorem eX11_drifts_18 : DD cX11_drifts 18 (.iload 5) 2 20 := ⟨by decide +kernel, rfl⟩
theorem eX11_drifts_20 : DD cX11_drifts 20 (.iconst 2) 1 21 := ⟨by decide +kernel, rfl⟩
theorem eX11_drifts_21 : DD cX11_drifts 21 (.invokevirtual 241) 3 24 := ⟨by decide +kernel, rfl⟩
theorem eX11_drifts_24 : DD cX11_drifts 24 (.iload 4) 2 26 := ⟨by decide +kernel, rfl⟩
theorem eX11_drifts_26 : DD cX11_drifts 26 (.iadd) 1 27 := ⟨by decide +kernel, rfl⟩
theorem eX11_drifts_27 : DD cX11_drifts 27 (.istore 6) 2 29 := ⟨by decide +kernel, rfl⟩
theorem eX11_drifts_29 : DD cX11_drifts 29 (.aload_n 0) 1 30 := ⟨by decide +kernel, rfl⟩
theorem eX11_drifts_30 : DD cX11_drifts 30 (.iload_n 1) 1 31 := ⟨by decide +kernel, rfl⟩
theorem eX11_drifts_31 : DD cX11_drifts 31 (.iload_n 2) 1 32 := ⟨by decide +kernel, rfl⟩
theorem eX11_drifts_32 : DD cX11_drifts 32 (.iload 5) 2 34 := ⟨by decide +kernel, rfl⟩
theorem eX11_drifts_34 : DD cX11_drifts 34 (.iconst 2) 1 35 := ⟨by decide +kernel, rfl⟩
theorem eX11_drifts_35 : DD cX11_drifts 35 (.iload 6) 2 37 := ⟨by decide +kernel, rfl⟩
theorem eX11_drifts_37 : DD cX11_drifts 37 (.invokevirtual 205) 3 40 := ⟨by decide +kernel, rfl⟩
theorem eX11_drifts_40 : DD cX11_drifts 40 (.aload_n 0) 1 41 := ⟨by decide +kernel, rfl⟩
theorem eX11_drifts_41 : DD cX11_drifts 41 (.iload_n 1) 1 42 := ⟨by decide +kernel, rfl⟩
theorem eX11_drifts_42 : DD cX11_drifts 42 (.iload_n 2) 1 43 := ⟨by decide +kernel, rfl⟩
theorem eX11_drifts_43 : DD cX11_drifts 43 (.iload 5) 2 45 := ⟨by decide +kernel, rfl⟩
theorem eX11_drifts_45 : DD cX11_drifts 45 (.iconst 3) 1 46 := ⟨by decide +kernel, rfl⟩
theorem eX11_drifts_46 : DD cX11_drifts 46 (.iload 6) 2 48 := ⟨by decide +kernel, rfl⟩
theorem eX11_drifts_48 : DD cX11_drifts 48 (.aload_n 0) 1 49 := ⟨by decide +kernel, rfl⟩
theorem eX11_drifts_49 : DD cX11_drifts 49 (.iload_n 1) 1 50 := ⟨by decide +kernel, rfl⟩
theorem eX11_drifts_50 : DD cX11_drifts 50 (.iload_n 2) 1 51 := ⟨by decide +kernel, rfl⟩
theorem eX11_drifts_51 : DD cX11_drifts 51 (.iload 5) 2 53 := ⟨by decide +kernel, rfl⟩
theorem eX11_drifts_53 : DD cX11_drifts 53 (.iconst 3) 1 54 := ⟨by decide +kernel, rfl⟩
theorem eX11_drifts_54 : DD cX11_drifts 54 (.invokevirtual 241) 3 57 := ⟨by decide +kernel, rfl⟩
theorem eX11_drifts_57 : DD cX11_drifts 57 (.iconst 0) 1 58 := ⟨by decide +kernel, rfl⟩
theorem eX11_drifts_58 : DD cX11_drifts 58 (.iload 4) 2 60 := ⟨by decide +kernel, rfl⟩
theorem eX11_drifts_60 : DD cX11_drifts 60 (.invokestatic 202) 3 63 := ⟨by decide +kernel, rfl⟩
theorem eX11_drifts_63 : DD cX11_drifts 63 (.iadd) 1 64 := ⟨by decide +kernel, rfl⟩
theorem eX11_drifts_64 : DD cX11_drifts 64 (.invokestatic 194) 3 67 := ⟨by decide +kernel, rfl⟩
theorem eX11_drifts_67 : DD cX11_drifts 67 (.invokevirtual 205) 3 70 := ⟨by decide +kernel, rfl⟩
theorem eX11_drifts_70 : DD cX11_drifts 70 (.aload_n 0) 1 71 := ⟨by decide +kernel, rfl⟩
theorem eX11_drifts_71 : DD cX11_drifts 71 (.getfield 34) 3 74 := ⟨by decide +kernel, rfl⟩
theorem eX11_drifts_74 : DD cX11_drifts 74 (.iload_n 1) 1 75 := ⟨by decide +kernel, rfl⟩
theorem eX11_drifts_75 : DD cX11_drifts 75 (.iload_n 2) 1 76 := ⟨by decide +kernel, rfl⟩
theorem eX11_drifts_76 : DD cX11_drifts 76 (.invokestatic 199) 3 79 := ⟨by decide +kernel, rfl⟩
theorem eX11_drifts_79 : DD cX11_drifts 79 (.dup2) 1 80 := ⟨by decide +kernel, rfl⟩
theorem eX11_drifts_80 : DD cX11_drifts 80 (.iaload) 1 81 := ⟨by decide +kernel, rfl⟩
theorem eX11_drifts_81 : DD cX11_drifts 81 (.iload 4) 2 83 := ⟨by decide +kernel, rfl⟩
theorem eX11_drifts_83 : DB cX11_drifts 83 (.ifCond .ge 9) (9) 86 92 := ⟨by decide +kernel, rfl, by decide⟩
theorem eX11_drifts_86 : DD cX11_drifts 86 (.iload 4) 2 88 := ⟨by decide +kernel, rfl⟩
theorem eX11_drifts_88 : DD cX11_drifts 88 (.ineg) 1 89 := ⟨by decide +kernel, rfl⟩
theorem eX11_drifts_89 : DB cX11_drifts 89 (.goto 5) (5) 92 94 := ⟨by decide +kernel, rfl, by decide⟩
theorem eX11_drifts_92 : DD cX11_drifts 92 (.iload 4) 2 94 := ⟨by decide +kernel, rfl⟩
theorem eX11_drifts_94 : DD cX11_drifts 94 (.iadd) 1 95 := ⟨by decide +kernel, rfl⟩
theorem eX11_drifts_95 : DD cX11_drifts 95 (.iastore) 1 96 := ⟨by decide +kernel, rfl⟩
theorem eX11_drifts_96 : DD cX11_drifts 96 (.return_) 1 97 := ⟨by decide +kernel, rfl⟩
def F_X11_drifts_94 (xs1 : Int32) (xs2 : Int32) (xs3 : Int32) (μ : Mem) : Option (Unit × Mem) :=
  gq (inB xs1 1253) (lb (wI μ 116 (nx xs1) (xs2 + xs3)) (fun μ_1 => some ((), μ_1)))
set_option maxHeartbeats 4000000 in
theorem j_X11_drifts_94 {C : Cx} (hC : Ok C cX11_drifts 7 RX11 (rmF 3 69)) (hr : (cT C).sig.returnType = none) (xs1 : Int32) (xs2 : Int32) (xs3 : Int32) (μ : Mem) : J C (KV C) μ 94 [] [.int xs3, .int xs2, .int xs1, .ref (xad (cX C) 116)] (F_X11_drifts_94  xs1 xs2 xs3 μ) := by
  unfold F_X11_drifts_94
  refine J.iadd hC eX11_drifts_94 ?_
  refine J.iast ik_1253 hC eX11_drifts_95 kk_116 (fun μ_1 => ?_)
  exact J.vret hC hr eX11_drifts_96
def G_X11_drifts (x1 : Int32) (x2 : Int32) (x3 : Int32) (x4 : Int32) (μ : Mem) : Option (Unit × Mem) :=
  if x3 = (-1 : Int32) then some ((), μ) else bd (G_X11_bucketOf x1 x2 x3 μ) (fun r_2 μ_1 => bd (G_X11_of x1 x2 r_2 (2 : Int32) μ_1) (fun r_4 μ_3 => lb (r_4 + x4) (fun x6_5 => bd (G_X11_put x1 x2 r_2 (2 : Int32) x6_5 μ_3) (fun r_7 μ_6 => bd (G_X11_of x1 x2 r_2 (3 : Int32) μ_6) (fun r_9 μ_8 => bd (G_X11_put x1 x2 r_2 (3 : Int32) (imin x6_5 (r_9 + (imax (0 : Int32) x4))) μ_8) (fun r_11 μ_10 => bd (G_X11_drift x1 x2 μ_10) (fun r_13 μ_12 => gq (inB r_13 1253) (if 0 ≤ x4 then F_X11_drifts_94  r_13 (rI μ_12 116 (nx r_13)) x4 μ_12 else F_X11_drifts_94  r_13 (rI μ_12 116 (nx r_13)) (-x4) μ_12))))))))
set_option maxHeartbeats 4000000 in
theorem c_X11_drifts {X : Wd} (hX : WdOk X) (x1 : Int32) (x2 : Int32) (x3 : Int32) (x4 : Int32) (μ : Mem) : CtV X yX11_drifts cX11_drifts 7 none (rmF 3 69) [.ref (xad X 107), .int x1, .int x2, .int x3, .int x4] μ (G_X11_drifts x1 x2 x3 x4 μ) := by
  refine CtV.of hX (plainFor_of_name (by decide)) (by exact Nat.le_of_ble_eq_true rfl) ?_
  intro C hCX hC hr
  subst hCX
  show J C (KV C) μ 0 [(0, .ref (xad (cX C) 107)), (1, .int x1), (2, .int x2), (3, .int x3), (4, .int x4)] [] _
  unfold G_X11_drifts
  refine J.iload_n (j := 3) hC eX11_drifts_0 rfl ?_
  refine J.iconst hC eX11_drifts_1 ci_m1 ?_
  refine J.icmp_ne hC eX11_drifts_2 (fun _ => ?_) (fun _ => ?_)
  · exact J.vret hC hr eX11_drifts_5
  · refine J.aload_n (j := 0) hC eX11_drifts_6 rfl ?_
    refine J.iload_n (j := 1) hC eX11_drifts_7 rfl ?_
    refine J.iload_n (j := 2) hC eX11_drifts_8 rfl ?_
    refine J.iload_n (j := 3) hC eX11_drifts_9 rfl ?_
    refine J.callVI (st := []) hC eX11_drifts_10 kk_107 (by decide) rfl rfl ml_X11_260 mv_X11_bucketOf (Rle_of (Nat.le_of_ble_eq_true rfl) (Nat.le_of_ble_eq_true rfl)) (c_X11_bucketOf hC.X x1 x2 x3 μ) rfl rfl (Nat.le_of_ble_eq_true rfl) (fun r_2 μ_1 => ?_)
    refine J.istore [(5, .int r_2), (0, .ref (xad (cX C) 107)), (1, .int x1), (2, .int x2), (3, .int x3), (4, .int x4)] hC eX11_drifts_13 (by decide) rfl ?_
    refine J.aload_n (j := 1) hC eX11_drifts_15 rfl ?_
    refine J.iload_n (j := 2) hC eX11_drifts_16 rfl ?_
    refine J.iload_n (j := 3) hC eX11_drifts_17 rfl ?_
    refine J.iload (j := 0) hC eX11_drifts_18 rfl ?_
    refine J.iconst hC eX11_drifts_20 ci_2 ?_
    refine J.callVI (st := []) hC eX11_drifts_21 kk_107 (by decide) rfl rfl ml_X11_241 mv_X11_of (Rle_of (Nat.le_of_ble_eq_true rfl) (Nat.le_of_ble_eq_true rfl)) (c_X11_of hC.X x1 x2 r_2 (2 : Int32) μ_1) rfl rfl (Nat.le_of_ble_eq_true rfl) (fun r_4 μ_3 => ?_)
    refine J.iload (j := 5) hC eX11_drifts_24 rfl ?_
    refine J.iadd hC eX11_drifts_26 ?_
    refine J.topi (fun x6_5 => ?_)
    refine J.istore [(6, .int x6_5), (5, .int r_2), (0, .ref (xad (cX C) 107)), (1, .int x1), (2, .int x2), (3, .int x3), (4, .int x4)] hC eX11_drifts_27 (by decide) rfl ?_
    refine J.aload_n (j := 2) hC eX11_drifts_29 rfl ?_
    refine J.iload_n (j := 3) hC eX11_drifts_30 rfl ?_
    refine J.iload_n (j := 4) hC eX11_drifts_31 rfl ?_
    refine J.iload (j := 1) hC eX11_drifts_32 rfl ?_
    refine J.iconst hC eX11_drifts_34 ci_2 ?_
    refine J.iload (j := 0) hC eX11_drifts_35 rfl ?_
    refine J.callVV (st := []) hC eX11_drifts_37 kk_107 (by decide) rfl rfl ml_X11_205 mv_X11_put (Rle_of (Nat.le_of_ble_eq_true rfl) (Nat.le_of_ble_eq_true rfl)) (c_X11_put hC.X x1 x2 r_2 (2 : Int32) x6_5 μ_3) rfl rfl (Nat.le_of_ble_eq_true rfl) (fun r_7 μ_6 => ?_)
    refine J.aload_n (j := 2) hC eX11_drifts_40 rfl ?_
    refine J.iload_n (j := 3) hC eX11_drifts_41 rfl ?_
    refine J.iload_n (j := 4) hC eX11_drifts_42 rfl ?_
    refine J.iload (j := 1) hC eX11_drifts_43 rfl ?_
    refine J.iconst hC eX11_drifts_45 ci_3 ?_
    refine J.iload (j := 0) hC eX11_drifts_46 rfl ?_
    refine J.aload_n (j := 2) hC eX11_drifts_48 rfl ?_
    refine J.iload_n (j := 3) hC eX11_drifts_49 rfl ?_
    refine J.iload_n (j := 4) hC eX11_drifts_50 rfl ?_
    refine J.iload (j := 1) hC eX11_drifts_51 rfl ?_
    refine J.iconst hC eX11_drifts_53 ci_3 ?_
    refine J.callVI (st := [.int x6_5, .int (3 : Int32), .int r_2, .int x2, .int x1, .ref (xad (cX C) 107)]) hC eX11_drifts_54 kk_107 (by decide) rfl rfl ml_X11_241 mv_X11_of (Rle_of (Nat.le_of_ble_eq_true rfl) (Nat.le_of_ble_eq_true rfl)) (c_X11_of hC.X x1 x2 r_2 (3 : Int32) μ_6) rfl rfl (Nat.le_of_ble_eq_true rfl) (fun r_9 μ_8 => ?_)
    refine J.iconst hC eX11_drifts_57 ci_0 ?_
    refine J.iload (j := 6) hC eX11_drifts_58 rfl ?_
    refine J.mmax hC eX11_drifts_60 ml_X11_202 w_smax w_im w_cmax (Nat.le_of_ble_eq_true rfl) (Nat.le_of_ble_eq_true rfl) ?_
    refine J.iadd hC eX11_drifts_63 ?_
    refine J.mmin hC eX11_drifts_64 ml_X11_194 w_smin w_im w_cmin (Nat.le_of_ble_eq_true rfl) (Nat.le_of_ble_eq_true rfl) ?_
    refine J.callVV (st := []) hC eX11_drifts_67 kk_107 (by decide) rfl rfl ml_X11_205 mv_X11_put (Rle_of (Nat.le_of_ble_eq_true rfl) (Nat.le_of_ble_eq_true rfl)) (c_X11_put hC.X x1 x2 r_2 (3 : Int32) (imin x6_5 (r_9 + (imax (0 : Int32) x4))) μ_8) rfl rfl (Nat.le_of_ble_eq_true rfl) (fun r_11 μ_10 => ?_)
    refine J.aload_n (j := 2) hC eX11_drifts_70 rfl ?_
    refine gf_X11_34 (q := 116) hC eX11_drifts_71 kk_107 rfl ?_
    refine J.iload_n (j := 3) hC eX11_drifts_74 rfl ?_
    refine J.iload_n (j := 4) hC eX11_drifts_75 rfl ?_
    refine J.callSI (st := [.ref (xad (cX C) 116)]) hC eX11_drifts_76 ml_X11_199 mv_X11_drift (Rle_of (Nat.le_of_ble_eq_true rfl) (Nat.le_of_ble_eq_true rfl)) (c_X11_drift hC.X x1 x2 μ_10) rfl rfl (Nat.le_of_ble_eq_true rfl) (fun r_13 μ_12 => ?_)
    refine J.dup2 hC eX11_drifts_79 rfl rfl ?_
    refine J.iald ik_1253 hC eX11_drifts_80 kk_116 ?_
    refine J.iload (j := 6) hC eX11_drifts_81 rfl ?_
    refine J.if_ge hC eX11_drifts_83 (fun _ => ?_) (fun _ => ?_)
    · refine J.iload (j := 6) hC eX11_drifts_92 rfl ?_
      refine J.sub [] rfl ?_
      exact j_X11_drifts_94 hC hr  r_13 (rI μ_12 116 (nx r_13)) x4 μ_12
    · refine J.iload (j := 6) hC eX11_drifts_86 rfl ?_
      refine J.ineg hC eX11_drifts_88 ?_
      refine J.goto hC eX11_drifts_89 ?_
      refine J.sub [] rfl ?_
      exact j_X11_drifts_94 hC hr  r_13 (rI μ_12 116 (nx r_13)) (-x4) μ_12
-- X11_change
theorem eX11_change_0 : DD cX11_change 0 (.aload_n 0) 1 1 := ⟨by decide +kernel, rfl⟩
theorem eX11_change_1 : DD cX11_change 1 (.getfield 34) 3 4 := ⟨by decide +kernel, rfl⟩
theorem eX11_change_4 : DD cX11_change 4 (.iload_n 1) 1 5 := ⟨by decide +kernel, rfl⟩
theorem eX11_change_5 : DD cX11_change 5 (.iload_n 2) 1 6 := ⟨by decide +kernel, rfl⟩
theorem eX11_change_6 : DD cX11_change 6 (.iload_n 3) 1 7 := ⟨by decide +kernel, rfl⟩
theorem eX11_change_7 : DD cX11_change 7 (.invokestatic 158) 3 10 := ⟨by decide +kernel, rfl⟩
theorem eX11_change_10 : DD cX11_change 10 (.dup2) 1 11 := ⟨by decide +kernel, rfl⟩
theorem eX11_change_11 : DD cX11_change 11 (.iaload) 1 12 := ⟨by decide +kernel, rfl⟩
theorem eX11_change_12 : DD cX11_change 12 (.iload 4) 2 14 := ⟨by decide +kernel, rfl⟩
theorem eX11_change_14 : DD cX11_change 14 (.iadd) 1 15 := ⟨by decide +kernel, rfl⟩
theorem eX11_change_15 : DD cX11_change 15 (.iastore) 1 16 := ⟨by decide +kernel, rfl⟩
theorem eX11_change_16 : DD cX11_change 16 (.aload_n 0) 1 17 := ⟨by decide +kernel, rfl⟩
theorem eX11_change_17 : DD cX11_change 17 (.iload_n 1) 1 18 := ⟨by decide +kernel, rfl⟩
theorem eX11_change_18 : DD cX11_change 18 (.iconst 0) 1 19 := ⟨by decide +kernel, rfl⟩
theorem eX11_change_19 : DD cX11_change 19 (.iload_n 2) 1 20 := ⟨by decide +kernel, rfl⟩
theorem eX11_change_20 : DD cX11_change 20 (.iload 4) 2 22 := ⟨by decide +kernel, rfl⟩
theorem eX11_change_22 : DD cX11_change 22 (.invokevirtual 263) 3 25 := ⟨by decide +kernel, rfl⟩
theorem eX11_change_25 : DD cX11_change 25 (.aload_n 0) 1 26 := ⟨by decide +kernel, rfl⟩
theorem eX11_change_26 : DD cX11_change 26 (.iload_n 1) 1 27 := ⟨by decide +kernel, rfl⟩
theorem eX11_change_27 : DD cX11_change 27 (.iconst 1) 1 28 := ⟨by decide +kernel, rfl⟩
theorem eX11_change_28 : DD cX11_change 28 (.iload_n 3) 1 29 := ⟨by decide +kernel, rfl⟩
theorem eX11_change_29 : DD cX11_change 29 (.iload 4) 2 31 := ⟨by decide +kernel, rfl⟩
theorem eX11_change_31 : DD cX11_change 31 (.invokevirtual 263) 3 34 := ⟨by decide +kernel, rfl⟩
theorem eX11_change_34 : DD cX11_change 34 (.iconst 0) 1 35 := ⟨by decide +kernel, rfl⟩
theorem eX11_change_35 : DD cX11_change 35 (.istore 5) 2 37 := ⟨by decide +kernel, rfl⟩
theorem eX11_change_37 : DD cX11_change 37 (.iload 5) 2 39 := ⟨by decide +kernel, rfl⟩
theorem eX11_change_39 : DD cX11_change 39 (.iconst 2) 1 40 := ⟨by decide +kernel, rfl⟩
theorem eX11_change_40 : DB cX11_change 40 (.if_icmp .ge 36) (36) 43 76 := ⟨by decide +kernel, rfl, by decide⟩
theorem eX11_change_43 : DD cX11_change 43 (.aload_n 0) 1 44 := ⟨by decide +kernel, rfl⟩
theorem eX11_change_44 : DD cX11_change 44 (.getfield 34) 3 47 := ⟨by decide +kernel, rfl⟩
theorem eX11_change_47 : DD cX11_change 47 (.iload_n 1) 1 48 := ⟨by decide +kernel, rfl⟩
theorem eX11_change_48 : DD cX11_change 48 (.iload 5) 2 50 := ⟨by decide +kernel, rfl⟩
theorem eX11_change_50 : DD cX11_change 50 (.invokestatic 199) 3 53 := ⟨by decide +kernel, rfl⟩
theorem eX11_change_53 : DD cX11_change 53 (.iaload) 1 54 := ⟨by decide +kernel, rfl⟩
theorem eX11_change_54 : DD cX11_change 54 (.aload_n 0) 1 55 := ⟨by decide +kernel, rfl⟩
theorem eX11_change_55 : DD cX11_change 55 (.getfield 22) 3 58 := ⟨by decide +kernel, rfl⟩
theorem eX11_change_58 : DD cX11_change 58 (.iconst 1) 1 59 := ⟨by decide +kernel, rfl⟩
theorem eX11_change_59 : DD cX11_change 59 (.iaload) 1 60 := ⟨by decide +kernel, rfl⟩
theorem eX11_change_60 : DB cX11_change 60 (.if_icmp .le 10) (10) 63 70 := ⟨by decide +kernel, rfl, by decide⟩
theorem eX11_change_63 : DD cX11_change 63 (.aload_n 0) 1 64 := ⟨by decide +kernel, rfl⟩
theorem eX11_change_64 : DD cX11_change 64 (.iload_n 1) 1 65 := ⟨by decide +kernel, rfl⟩
theorem eX11_change_65 : DD cX11_change 65 (.iload 5) 2 67 := ⟨by decide +kernel, rfl⟩
theorem eX11_change_67 : DD cX11_change 67 (.invokevirtual 209) 3 70 := ⟨by decide +kernel, rfl⟩
theorem eX11_change_70 : DD cX11_change 70 (.iinc 5 1) 3 73 := ⟨by decide +kernel, rfl⟩
theorem eX11_change_73 : DB cX11_change 73 (.goto (-36)) (-36) 76 37 := ⟨by decide +kernel, rfl, by decide⟩
theorem eX11_change_76 : DD cX11_change 76 (.return_) 1 77 := ⟨by decide +kernel, rfl⟩
def F_X11_change_70 (kc_37 : Int32 → Int32 → Mem → Option (Unit × Mem)) (x1 : Int32) (x5 : Int32) (μ : Mem) : Option (Unit × Mem) :=
  lb (x5 + (1 : Int32)) (fun x5_1 => kc_37 x1 x5_1 μ)
set_option maxHeartbeats 4000000 in
theorem j_X11_change_70 {C : Cx} (hC : Ok C cX11_change 6 RX11 (rmF 4 106)) (hr : (cT C).sig.returnType = none) (kc_37 : Int32 → Int32 → Mem → Option (Unit × Mem)) (hk_37 : ∀ (x1 : Int32) (x5 : Int32) (μ : Mem), J C (KV C) μ 37 [(0, .ref (xad (cX C) 107)), (1, .int x1), (5, .int x5)] [] (kc_37 x1 x5 μ)) (x1 : Int32) (x5 : Int32) (μ : Mem) : J C (KV C) μ 70 [(0, .ref (xad (cX C) 107)), (1, .int x1), (5, .int x5)] [] (F_X11_change_70 kc_37 x1 x5 μ) := by
  unfold F_X11_change_70
  refine J.iinc (j := 2) (fun x5_1 => [(5, .int x5_1), (0, .ref (xad (cX C) 107)), (1, .int x1)]) hC eX11_change_70 rfl ci_1 (by decide) (fun _ => rfl) (fun x5_1 => ?_)
  refine J.goto hC eX11_change_73 ?_
  refine J.sub [1, 2, 0] rfl ?_
  exact hk_37 x1 x5_1 μ
def L_X11_change_37 : Nat → Int32 → Int32 → Mem → Option (Unit × Mem)
  | 0, _, _, _ => none
  | n + 1, x1, x5, μ => if (2 : Int32) ≤ x5 then some ((), μ) else bd (G_X11_drift x1 x5 μ) (fun r_2 μ_1 => gq (inB r_2 1253) (if (rI μ_1 116 (nx r_2)) ≤ (rI μ_1 112 1) then F_X11_change_70 (L_X11_change_37  n) x1 x5 μ_1 else bd (G_X11_buildNow x1 x5 μ_1) (fun r_4 μ_3 => F_X11_change_70 (L_X11_change_37  n) x1 x5 μ_3)))
set_option maxHeartbeats 4000000 in
theorem j_X11_change_37 {C : Cx} (hC : Ok C cX11_change 6 RX11 (rmF 4 106)) (hr : (cT C).sig.returnType = none) : ∀ (n : Nat) (x1 : Int32) (x5 : Int32) (μ : Mem), J C (KV C) μ 37 [(0, .ref (xad (cX C) 107)), (1, .int x1), (5, .int x5)] [] (L_X11_change_37  n x1 x5 μ) := by
  intro n
  induction n with
  | zero => intros; exact J.no
  | succ n ih =>
    intro x1 x5 μ
    rw [L_X11_change_37]
    refine J.iload (j := 2) hC eX11_change_37 rfl ?_
    refine J.iconst hC eX11_change_39 ci_2 ?_
    refine J.icmp_ge hC eX11_change_40 (fun _ => ?_) (fun _ => ?_)
    · exact J.vret hC hr eX11_change_76
    · refine J.aload_n (j := 0) hC eX11_change_43 rfl ?_
      refine gf_X11_34 (q := 116) hC eX11_change_44 kk_107 rfl ?_
      refine J.iload_n (j := 1) hC eX11_change_47 rfl ?_
      refine J.iload (j := 2) hC eX11_change_48 rfl ?_
      refine J.callSI (st := [.ref (xad (cX C) 116)]) hC eX11_change_50 ml_X11_199 mv_X11_drift (Rle_of (Nat.le_of_ble_eq_true rfl) (Nat.le_of_ble_eq_true rfl)) (c_X11_drift hC.X x1 x5 μ) rfl rfl (Nat.le_of_ble_eq_true rfl) (fun r_2 μ_1 => ?_)
      refine J.iald ik_1253 hC eX11_change_53 kk_116 ?_
      refine J.aload_n (j := 0) hC eX11_change_54 rfl ?_
      refine gf_X11_22 (q := 112) hC eX11_change_55 kk_107 rfl ?_
      refine J.iconst hC eX11_change_58 ci_1 ?_
      refine J.ialdK (j := 1) ik_3 hC eX11_change_59 kk_112 (by decide) (by decide) ?_
      refine J.icmp_le hC eX11_change_60 (fun _ => ?_) (fun _ => ?_)
      · refine J.sub [0, 1, 2] rfl ?_
        exact j_X11_change_70 hC hr (L_X11_change_37  n) ih x1 x5 μ_1
      · refine J.aload_n (j := 0) hC eX11_change_63 rfl ?_
        refine J.iload_n (j := 1) hC eX11_change_64 rfl ?_
        refine J.iload (j := 2) hC eX11_change_65 rfl ?_
        refine J.callVV (st := []) hC eX11_change_67 kk_107 (by decide) rfl rfl ml_X11_209 mv_X11_buildNow (Rle_of (Nat.le_of_ble_eq_true rfl) (Nat.le_of_ble_eq_true rfl)) (c_X11_buildNow hC.X x1 x5 μ_1) rfl rfl (Nat.le_of_ble_eq_true rfl) (fun r_4 μ_3 => ?_)
        refine J.sub [0, 1, 2] rfl ?_
        exact j_X11_change_70 hC hr (L_X11_change_37  n) ih x1 x5 μ_3
def G_X11_change (x1 : Int32) (x2 : Int32) (x3 : Int32) (x4 : Int32) (μ : Mem) : Option (Unit × Mem) :=
  bd (G_X11_place x1 x2 x3 μ) (fun r_2 μ_1 => gq (inB r_2 1253) (gq (inB r_2 1253) (lb (wI μ_1 116 (nx r_2) ((rI μ_1 116 (nx r_2)) + x4)) (fun μ_3 => bd (G_X11_drifts x1 (0 : Int32) x2 x4 μ_3) (fun r_5 μ_4 => bd (G_X11_drifts x1 (1 : Int32) x3 x4 μ_4) (fun r_7 μ_6 => L_X11_change_37  100000 x1 (0 : Int32) μ_6))))))
set_option maxHeartbeats 4000000 in
theorem c_X11_change {X : Wd} (hX : WdOk X) (x1 : Int32) (x2 : Int32) (x3 : Int32) (x4 : Int32) (μ : Mem) : CtV X yX11_change cX11_change 6 none (rmF 4 106) [.ref (xad X 107), .int x1, .int x2, .int x3, .int x4] μ (G_X11_change x1 x2 x3 x4 μ) := by
  refine CtV.of hX (plainFor_of_name (by decide)) (by exact Nat.le_of_ble_eq_true rfl) ?_
  intro C hCX hC hr
  subst hCX
  show J C (KV C) μ 0 [(0, .ref (xad (cX C) 107)), (1, .int x1), (2, .int x2), (3, .int x3), (4, .int x4)] [] _
  unfold G_X11_change
  refine J.aload_n (j := 0) hC eX11_change_0 rfl ?_
  refine gf_X11_34 (q := 116) hC eX11_change_1 kk_107 rfl ?_
  refine J.iload_n (j := 1) hC eX11_change_4 rfl ?_
  refine J.iload_n (j := 2) hC eX11_change_5 rfl ?_
  refine J.iload_n (j := 3) hC eX11_change_6 rfl ?_
  refine J.callSI (st := [.ref (xad (cX C) 116)]) hC eX11_change_7 ml_X11_158 mv_X11_place (Rle_of (Nat.le_of_ble_eq_true rfl) (Nat.le_of_ble_eq_true rfl)) (c_X11_place hC.X x1 x2 x3 μ) rfl rfl (Nat.le_of_ble_eq_true rfl) (fun r_2 μ_1 => ?_)
  refine J.dup2 hC eX11_change_10 rfl rfl ?_
  refine J.iald ik_1253 hC eX11_change_11 kk_116 ?_
  refine J.iload (j := 4) hC eX11_change_12 rfl ?_
  refine J.iadd hC eX11_change_14 ?_
  refine J.iast ik_1253 hC eX11_change_15 kk_116 (fun μ_3 => ?_)
  refine J.aload_n (j := 0) hC eX11_change_16 rfl ?_
  refine J.iload_n (j := 1) hC eX11_change_17 rfl ?_
  refine J.iconst hC eX11_change_18 ci_0 ?_
  refine J.iload_n (j := 2) hC eX11_change_19 rfl ?_
  refine J.iload (j := 4) hC eX11_change_20 rfl ?_
  refine J.callVV (st := []) hC eX11_change_22 kk_107 (by decide) rfl rfl ml_X11_263 mv_X11_drifts (Rle_of (Nat.le_of_ble_eq_true rfl) (Nat.le_of_ble_eq_true rfl)) (c_X11_drifts hC.X x1 (0 : Int32) x2 x4 μ_3) rfl rfl (Nat.le_of_ble_eq_true rfl) (fun r_5 μ_4 => ?_)
  refine J.aload_n (j := 0) hC eX11_change_25 rfl ?_
  refine J.iload_n (j := 1) hC eX11_change_26 rfl ?_
  refine J.iconst hC eX11_change_27 ci_1 ?_
  refine J.iload_n (j := 3) hC eX11_change_28 rfl ?_
  refine J.iload (j := 4) hC eX11_change_29 rfl ?_
  refine J.callVV (st := []) hC eX11_change_31 kk_107 (by decide) rfl rfl ml_X11_263 mv_X11_drifts (Rle_of (Nat.le_of_ble_eq_true rfl) (Nat.le_of_ble_eq_true rfl)) (c_X11_drifts hC.X x1 (1 : Int32) x3 x4 μ_4) rfl rfl (Nat.le_of_ble_eq_true rfl) (fun r_7 μ_6 => ?_)
  refine J.iconst hC eX11_change_34 ci_0 ?_
  refine J.istore [(5, .int (0 : Int32)), (0, .ref (xad (cX C) 107)), (1, .int x1), (2, .int x2), (3, .int x3), (4, .int x4)] hC eX11_change_35 (by decide) rfl ?_
  refine J.sub [1, 2, 0] rfl ?_
  exact j_X11_change_37 hC hr  100000 x1 (0 : Int32) μ_6
-- X11_areThere
theorem eX11_areThere_0 : DD cX11_areThere 0 (.aload_n 0) 1 1 := ⟨by decide +kernel, rfl⟩
theorem eX11_areThere_1 : DD cX11_areThere 1 (.iload_n 1) 1 2 := ⟨by decide +kernel, rfl⟩
theorem eX11_areThere_2 : DD cX11_areThere 2 (.invokevirtual 153) 3 5 := ⟨by decide +kernel, rfl⟩
theorem eX11_areThere_5 : DB cX11_areThere 5 (.ifCond .eq 25) (25) 8 30 := ⟨by decide +kernel, rfl, by decide⟩
theorem eX11_areThere_8 : DD cX11_areThere 8 (.aload_n 0) 1 9 := ⟨by decide +kernel, rfl⟩
theorem eX11_areThere_9 : DD cX11_areThere 9 (.iload_n 1) 1 10 := ⟨by decide +kernel, rfl⟩
theorem eX11_areThere_10 : DD cX11_areThere 10 (.iload_n 2) 1 11 := ⟨by decide +kernel, rfl⟩
theorem eX11_areThere_11 : DD cX11_areThere 11 (.invokevirtual 232) 3 14 := ⟨by decide +kernel, rfl⟩
theorem eX11_areThere_14 : DB cX11_areThere 14 (.ifCond .eq 16) (16) 17 30 := ⟨by decide +kernel, rfl, by decide⟩
theorem eX11_areThere_17 : DD cX11_areThere 17 (.aload_n 0) 1 18 := ⟨by decide +kernel, rfl⟩
theorem eX11_areThere_18 : DD cX11_areThere 18 (.iload_n 1) 1 19 := ⟨by decide +kernel, rfl⟩
theorem eX11_areThere_19 : DD cX11_areThere 19 (.iload_n 3) 1 20 := ⟨by decide +kernel, rfl⟩
theorem eX11_areThere_20 : DD cX11_areThere 20 (.invokevirtual 232) 3 23 := ⟨by decide +kernel, rfl⟩
theorem eX11_areThere_23 : DB cX11_areThere 23 (.ifCond .eq 7) (7) 26 30 := ⟨by decide +kernel, rfl, by decide⟩
theorem eX11_areThere_26 : DD cX11_areThere 26 (.iconst 1) 1 27 := ⟨by decide +kernel, rfl⟩
theorem eX11_areThere_27 : DB cX11_areThere 27 (.goto 4) (4) 30 31 := ⟨by decide +kernel, rfl, by decide⟩
theorem eX11_areThere_30 : DD cX11_areThere 30 (.iconst 0) 1 31 := ⟨by decide +kernel, rfl⟩
theorem eX11_areThere_31 : DD cX11_areThere 31 (.ireturn) 1 32 := ⟨by decide +kernel, rfl⟩
def G_X11_areThere (x1 : Int32) (x2 : Int32) (x3 : Int32) (μ : Mem) : Option (Int32 × Mem) :=
  bd (G_X11_isTable x1 μ) (fun r_2 μ_1 => if r_2 = 0 then some ((0 : Int32), μ_1) else bd (G_X11_isValue x1 x2 μ_1) (fun r_4 μ_3 => if r_4 = 0 then some ((0 : Int32), μ_3) else bd (G_X11_isValue x1 x3 μ_3) (fun r_6 μ_5 => if r_6 = 0 then some ((0 : Int32), μ_5) else some ((1 : Int32), μ_5))))
set_option maxHeartbeats 4000000 in
theorem c_X11_areThere {X : Wd} (hX : WdOk X) (x1 : Int32) (x2 : Int32) (x3 : Int32) (μ : Mem) : CtI X yX11_areThere cX11_areThere 4 (some .boolean) (rmF 2 47) [.ref (xad X 107), .int x1, .int x2, .int x3] μ (G_X11_areThere x1 x2 x3 μ) := by
  refine CtI.of hX (plainFor_of_name (by decide)) (by exact Nat.le_of_ble_eq_true rfl) ?_
  intro C hCX hC hr
  subst hCX
  show J C (KI C) μ 0 [(0, .ref (xad (cX C) 107)), (1, .int x1), (2, .int x2), (3, .int x3)] [] _
  unfold G_X11_areThere
  refine J.aload_n (j := 0) hC eX11_areThere_0 rfl ?_
  refine J.iload_n (j := 1) hC eX11_areThere_1 rfl ?_
  refine J.callVI (st := []) hC eX11_areThere_2 kk_107 (by decide) rfl rfl ml_X11_153 mv_X11_isTable (Rle_of (Nat.le_of_ble_eq_true rfl) (Nat.le_of_ble_eq_true rfl)) (c_X11_isTable hC.X x1 μ) rfl rfl (Nat.le_of_ble_eq_true rfl) (fun r_2 μ_1 => ?_)
  refine J.if_eq hC eX11_areThere_5 (fun _ => ?_) (fun _ => ?_)
  · refine J.iconst hC eX11_areThere_30 ci_0 ?_
    exact J.zretB hC hr eX11_areThere_31 rfl
  · refine J.aload_n (j := 0) hC eX11_areThere_8 rfl ?_
    refine J.iload_n (j := 1) hC eX11_areThere_9 rfl ?_
    refine J.iload_n (j := 2) hC eX11_areThere_10 rfl ?_
    refine J.callVI (st := []) hC eX11_areThere_11 kk_107 (by decide) rfl rfl ml_X11_232 mv_X11_isValue (Rle_of (Nat.le_of_ble_eq_true rfl) (Nat.le_of_ble_eq_true rfl)) (c_X11_isValue hC.X x1 x2 μ_1) rfl rfl (Nat.le_of_ble_eq_true rfl) (fun r_4 μ_3 => ?_)
    refine J.if_eq hC eX11_areThere_14 (fun _ => ?_) (fun _ => ?_)
    · refine J.iconst hC eX11_areThere_30 ci_0 ?_
      exact J.zretB hC hr eX11_areThere_31 rfl
    · refine J.aload_n (j := 0) hC eX11_areThere_17 rfl ?_
      refine J.iload_n (j := 1) hC eX11_areThere_18 rfl ?_
      refine J.iload_n (j := 3) hC eX11_areThere_19 rfl ?_
      refine J.callVI (st := []) hC eX11_areThere_20 kk_107 (by decide) rfl rfl ml_X11_232 mv_X11_isValue (Rle_of (Nat.le_of_ble_eq_true rfl) (Nat.le_of_ble_eq_true rfl)) (c_X11_isValue hC.X x1 x3 μ_3) rfl rfl (Nat.le_of_ble_eq_true rfl) (fun r_6 μ_5 => ?_)
      refine J.if_eq hC eX11_areThere_23 (fun _ => ?_) (fun _ => ?_)
      · refine J.iconst hC eX11_areThere_30 ci_0 ?_
        exact J.zretB hC hr eX11_areThere_31 rfl
      · refine J.iconst hC eX11_areThere_26 ci_1 ?_
        refine J.goto hC eX11_areThere_27 ?_
        exact J.zretB hC hr eX11_areThere_31 rfl
-- X11_whyAdd
theorem eX11_whyAdd_0 : DD cX11_whyAdd 0 (.aload_n 0) 1 1 := ⟨by decide +kernel, rfl⟩
theorem eX11_whyAdd_1 : DD cX11_whyAdd 1 (.iload_n 1) 1 2 := ⟨by decide +kernel, rfl⟩
theorem eX11_whyAdd_2 : DD cX11_whyAdd 2 (.iload_n 2) 1 3 := ⟨by decide +kernel, rfl⟩
theorem eX11_whyAdd_3 : DD cX11_whyAdd 3 (.iload_n 3) 1 4 := ⟨by decide +kernel, rfl⟩
theorem eX11_whyAdd_4 : DD cX11_whyAdd 4 (.invokevirtual 267) 3 7 := ⟨by decide +kernel, rfl⟩
theorem eX11_whyAdd_7 : DB cX11_whyAdd 7 (.ifCond .ne 7) (7) 10 14 := ⟨by decide +kernel, rfl, by decide⟩
theorem eX11_whyAdd_10 : DD cX11_whyAdd 10 (.iconst 0) 1 11 := ⟨by decide +kernel, rfl⟩
theorem eX11_whyAdd_11 : DB cX11_whyAdd 11 (.goto 39) (39) 14 50 := ⟨by decide +kernel, rfl, by decide⟩
theorem eX11_whyAdd_14 : DD cX11_whyAdd 14 (.iload 4) 2 16 := ⟨by decide +kernel, rfl⟩
theorem eX11_whyAdd_16 : DD cX11_whyAdd 16 (.i2l) 1 17 := ⟨by decide +kernel, rfl⟩
theorem eX11_whyAdd_17 : DD cX11_whyAdd 17 (.lconst 1) 1 18 := ⟨by decide +kernel, rfl⟩
theorem eX11_whyAdd_18 : DD cX11_whyAdd 18 (.ldc2_w 270) 3 21 := ⟨by decide +kernel, rfl⟩
theorem eX11_whyAdd_21 : DD cX11_whyAdd 21 (.invokestatic 77) 3 24 := ⟨by decide +kernel, rfl⟩
theorem eX11_whyAdd_24 : DB cX11_whyAdd 24 (.ifCond .ne 7) (7) 27 31 := ⟨by decide +kernel, rfl, by decide⟩
theorem eX11_whyAdd_27 : DD cX11_whyAdd 27 (.iconst 1) 1 28 := ⟨by decide +kernel, rfl⟩
theorem eX11_whyAdd_28 : DB cX11_whyAdd 28 (.goto 22) (22) 31 50 := ⟨by decide +kernel, rfl, by decide⟩
theorem eX11_whyAdd_31 : DD cX11_whyAdd 31 (.aload_n 0) 1 32 := ⟨by decide +kernel, rfl⟩
theorem eX11_whyAdd_32 : DD cX11_whyAdd 32 (.iload_n 1) 1 33 := ⟨by decide +kernel, rfl⟩
theorem eX11_whyAdd_33 : DD cX11_whyAdd 33 (.invokevirtual 161) 3 36 := ⟨by decide +kernel, rfl⟩
theorem eX11_whyAdd_36 : DD cX11_whyAdd 36 (.iload 4) 2 38 := ⟨by decide +kernel, rfl⟩
theorem eX11_whyAdd_38 : DD cX11_whyAdd 38 (.iadd) 1 39 := ⟨by decide +kernel, rfl⟩
theorem eX11_whyAdd_39 : DD cX11_whyAdd 39 (.sipush 999) 3 42 := ⟨by decide +kernel, rfl⟩
theorem eX11_whyAdd_42 : DB cX11_whyAdd 42 (.if_icmp .le 7) (7) 45 49 := ⟨by decide +kernel, rfl, by decide⟩
theorem eX11_whyAdd_45 : DD cX11_whyAdd 45 (.iconst 3) 1 46 := ⟨by decide +kernel, rfl⟩
theorem eX11_whyAdd_46 : DB cX11_whyAdd 46 (.goto 4) (4) 49 50 := ⟨by decide +kernel, rfl, by decide⟩
theorem eX11_whyAdd_49 : DD cX11_whyAdd 49 (.iconst (-1)) 1 50 := ⟨by decide +kernel, rfl⟩
theorem eX11_whyAdd_50 : DD cX11_whyAdd 50 (.ireturn) 1 51 := ⟨by decide +kernel, rfl⟩
def G_X11_whyAdd (x1 : Int32) (x2 : Int32) (x3 : Int32) (x4 : Int32) (μ : Mem) : Option (Int32 × Mem) :=
  bd (G_X11_areThere x1 x2 x3 μ) (fun r_2 μ_1 => if r_2 = 0 then some ((0 : Int32), μ_1) else bd (G_X11_in x4.toInt64 (1 : Int64) (99 : Int64) μ_1) (fun r_4 μ_3 => if r_4 = 0 then some ((1 : Int32), μ_3) else bd (G_X11_rowsOf x1 μ_3) (fun r_6 μ_5 => if (r_6 + x4) ≤ (999 : Int32) then some ((-1 : Int32), μ_5) else some ((3 : Int32), μ_5))))
set_option maxHeartbeats 4000000 in
theorem c_X11_whyAdd {X : Wd} (hX : WdOk X) (x1 : Int32) (x2 : Int32) (x3 : Int32) (x4 : Int32) (μ : Mem) : CtI X yX11_whyAdd cX11_whyAdd 5 (some .int) (rmF 3 70) [.ref (xad X 107), .int x1, .int x2, .int x3, .int x4] μ (G_X11_whyAdd x1 x2 x3 x4 μ) := by
  refine CtI.of hX (plainFor_of_name (by decide)) (by exact Nat.le_of_ble_eq_true rfl) ?_
  intro C hCX hC hr
  subst hCX
  show J C (KI C) μ 0 [(0, .ref (xad (cX C) 107)), (1, .int x1), (2, .int x2), (3, .int x3), (4, .int x4)] [] _
  unfold G_X11_whyAdd
  refine J.aload_n (j := 0) hC eX11_whyAdd_0 rfl ?_
  refine J.iload_n (j := 1) hC eX11_whyAdd_1 rfl ?_
  refine J.iload_n (j := 2) hC eX11_whyAdd_2 rfl ?_
  refine J.iload_n (j := 3) hC eX11_whyAdd_3 rfl ?_
  refine J.callVI (st := []) hC eX11_whyAdd_4 kk_107 (by decide) rfl rfl ml_X11_267 mv_X11_areThere (Rle_of (Nat.le_of_ble_eq_true rfl) (Nat.le_of_ble_eq_true rfl)) (c_X11_areThere hC.X x1 x2 x3 μ) rfl rfl (Nat.le_of_ble_eq_true rfl) (fun r_2 μ_1 => ?_)
  refine J.if_ne hC eX11_whyAdd_7 (fun _ => ?_) (fun _ => ?_)
  · refine J.iconst hC eX11_whyAdd_10 ci_0 ?_
    refine J.goto hC eX11_whyAdd_11 ?_
    exact J.iret hC hr eX11_whyAdd_50
  · refine J.iload (j := 4) hC eX11_whyAdd_14 rfl ?_
    refine J.i2l hC eX11_whyAdd_16 ?_
    refine J.lconst hC eX11_whyAdd_17 cl_1 ?_
    refine J.ldc2 hC eX11_whyAdd_18 mk_X11_270 ?_
    refine J.callSI (st := []) hC eX11_whyAdd_21 ml_X11_77 mv_X11_in (Rle_of (Nat.le_of_ble_eq_true rfl) (Nat.le_of_ble_eq_true rfl)) (c_X11_in hC.X x4.toInt64 (1 : Int64) (99 : Int64) μ_1) rfl rfl (Nat.le_of_ble_eq_true rfl) (fun r_4 μ_3 => ?_)
    refine J.if_ne hC eX11_whyAdd_24 (fun _ => ?_) (fun _ => ?_)
    · refine J.iconst hC eX11_whyAdd_27 ci_1 ?_
      refine J.goto hC eX11_whyAdd_28 ?_
      exact J.iret hC hr eX11_whyAdd_50
    · refine J.aload_n (j := 0) hC eX11_whyAdd_31 rfl ?_
      refine J.iload_n (j := 1) hC eX11_whyAdd_32 rfl ?_
      refine J.callVI (st := []) hC eX11_whyAdd_33 kk_107 (by decide) rfl rfl ml_X11_161 mv_X11_rowsOf (Rle_of (Nat.le_of_ble_eq_true rfl) (Nat.le_of_ble_eq_true rfl)) (c_X11_rowsOf hC.X x1 μ_3) rfl rfl (Nat.le_of_ble_eq_true rfl) (fun r_6 μ_5 => ?_)
      refine J.iload (j := 4) hC eX11_whyAdd_36 rfl ?_
      refine J.iadd hC eX11_whyAdd_38 ?_
      refine J.sipush hC eX11_whyAdd_39 cs_999 ?_
      refine J.icmp_le hC eX11_whyAdd_42 (fun _ => ?_) (fun _ => ?_)
      · refine J.iconst hC eX11_whyAdd_49 ci_m1 ?_
        exact J.iret hC hr eX11_whyAdd_50
      · refine J.iconst hC eX11_whyAdd_45 ci_3 ?_
        refine J.goto hC eX11_whyAdd_46 ?_
        exact J.iret hC hr eX11_whyAdd_50
-- X11_whyDrop
theorem eX11_whyDrop_0 : DD cX11_whyDrop 0 (.aload_n 0) 1 1 := ⟨by decide +kernel, rfl⟩
theorem eX11_whyDrop_1 : DD cX11_whyDrop 1 (.iload_n 1) 1 2 := ⟨by decide +kernel, rfl⟩
theorem eX11_whyDrop_2 : DD cX11_whyDrop 2 (.iload_n 2) 1 3 := ⟨by decide +kernel, rfl⟩
theorem eX11_whyDrop_3 : DD cX11_whyDrop 3 (.iload_n 3) 1 4 := ⟨by decide +kernel, rfl⟩
theorem eX11_whyDrop_4 : DD cX11_whyDrop 4 (.invokevirtual 267) 3 7 := ⟨by decide +kernel, rfl⟩
theorem eX11_whyDrop_7 : DB cX11_whyDrop 7 (.ifCond .ne 7) (7) 10 14 := ⟨by decide +kernel, rfl, by decide⟩
theorem eX11_whyDrop_10 : DD cX11_whyDrop 10 (.iconst 0) 1 11 := ⟨by decide +kernel, rfl⟩
theorem eX11_whyDrop_11 : DB cX11_whyDrop 11 (.goto 41) (41) 14 52 := ⟨by decide +kernel, rfl, by decide⟩
theorem eX11_whyDrop_14 : DD cX11_whyDrop 14 (.iload 4) 2 16 := ⟨by decide +kernel, rfl⟩
theorem eX11_whyDrop_16 : DD cX11_whyDrop 16 (.i2l) 1 17 := ⟨by decide +kernel, rfl⟩
theorem eX11_whyDrop_17 : DD cX11_whyDrop 17 (.lconst 1) 1 18 := ⟨by decide +kernel, rfl⟩
theorem eX11_whyDrop_18 : DD cX11_whyDrop 18 (.ldc2_w 270) 3 21 := ⟨by decide +kernel, rfl⟩
theorem eX11_whyDrop_21 : DD cX11_whyDrop 21 (.invokestatic 77) 3 24 := ⟨by decide +kernel, rfl⟩
theorem eX11_whyDrop_24 : DB cX11_whyDrop 24 (.ifCond .ne 7) (7) 27 31 := ⟨by decide +kernel, rfl, by decide⟩
theorem eX11_whyDrop_27 : DD cX11_whyDrop 27 (.iconst 1) 1 28 := ⟨by decide +kernel, rfl⟩
theorem eX11_whyDrop_28 : DB cX11_whyDrop 28 (.goto 24) (24) 31 52 := ⟨by decide +kernel, rfl, by decide⟩
theorem eX11_whyDrop_31 : DD cX11_whyDrop 31 (.aload_n 0) 1 32 := ⟨by decide +kernel, rfl⟩
theorem eX11_whyDrop_32 : DD cX11_whyDrop 32 (.getfield 34) 3 35 := ⟨by decide +kernel, rfl⟩
theorem eX11_whyDrop_35 : DD cX11_whyDrop 35 (.iload_n 1) 1 36 := ⟨by decide +kernel, rfl⟩
theorem eX11_whyDrop_36 : DD cX11_whyDrop 36 (.iload_n 2) 1 37 := ⟨by decide +kernel, rfl⟩
theorem eX11_whyDrop_37 : DD cX11_whyDrop 37 (.iload_n 3) 1 38 := ⟨by decide +kernel, rfl⟩
theorem eX11_whyDrop_38 : DD cX11_whyDrop 38 (.invokestatic 158) 3 41 := ⟨by decide +kernel, rfl⟩
theorem eX11_whyDrop_41 : DD cX11_whyDrop 41 (.iaload) 1 42 := ⟨by decide +kernel, rfl⟩
theorem eX11_whyDrop_42 : DD cX11_whyDrop 42 (.iload 4) 2 44 := ⟨by decide +kernel, rfl⟩
theorem eX11_whyDrop_44 : DB cX11_whyDrop 44 (.if_icmp .ge 7) (7) 47 51 := ⟨by decide +kernel, rfl, by decide⟩
theorem eX11_whyDrop_47 : DD cX11_whyDrop 47 (.iconst 3) 1 48 := ⟨by decide +kernel, rfl⟩
theorem eX11_whyDrop_48 : DB cX11_whyDrop 48 (.goto 4) (4) 51 52 := ⟨by decide +kernel, rfl, by decide⟩
theorem eX11_whyDrop_51 : DD cX11_whyDrop 51 (.iconst (-1)) 1 52 := ⟨by decide +kernel, rfl⟩
theorem eX11_whyDrop_52 : DD cX11_whyDrop 52 (.ireturn) 1 53 := ⟨by decide +kernel, rfl⟩
def G_X11_whyDrop (x1 : Int32) (x2 : Int32) (x3 : Int32) (x4 : Int32) (μ : Mem) : Option (Int32 × Mem) :=
  bd (G_X11_areThere x1 x2 x3 μ) (fun r_2 μ_1 => if r_2 = 0 then some ((0 : Int32), μ_1) else bd (G_X11_in x4.toInt64 (1 : Int64) (99 : Int64) μ_1) (fun r_4 μ_3 => if r_4 = 0 then some ((1 : Int32), μ_3) else bd (G_X11_place x1 x2 x3 μ_3) (fun r_6 μ_5 => gq (inB r_6 1253) (if x4 ≤ (rI μ_5 116 (nx r_6)) then some ((-1 : Int32), μ_5) else some ((3 : Int32), μ_5)))))
set_option maxHeartbeats 4000000 in
theorem c_X11_whyDrop {X : Wd} (hX : WdOk X) (x1 : Int32) (x2 : Int32) (x3 : Int32) (x4 : Int32) (μ : Mem) : CtI X yX11_whyDrop cX11_whyDrop 5 (some .int) (rmF 3 70) [.ref (xad X 107), .int x1, .int x2, .int x3, .int x4] μ (G_X11_whyDrop x1 x2 x3 x4 μ) := by
  refine CtI.of hX (plainFor_of_name (by decide)) (by exact Nat.le_of_ble_eq_true rfl) ?_
  intro C hCX hC hr
  subst hCX
  show J C (KI C) μ 0 [(0, .ref (xad (cX C) 107)), (1, .int x1), (2, .int x2), (3, .int x3), (4, .int x4)] [] _
  unfold G_X11_whyDrop
  refine J.aload_n (j := 0) hC eX11_whyDrop_0 rfl ?_
  refine J.iload_n (j := 1) hC eX11_whyDrop_1 rfl ?_
  refine J.iload_n (j := 2) hC eX11_whyDrop_2 rfl ?_
  refine J.iload_n (j := 3) hC eX11_whyDrop_3 rfl ?_
  refine J.callVI (st := []) hC eX11_whyDrop_4 kk_107 (by decide) rfl rfl ml_X11_267 mv_X11_areThere (Rle_of (Nat.le_of_ble_eq_true rfl) (Nat.le_of_ble_eq_true rfl)) (c_X11_areThere hC.X x1 x2 x3 μ) rfl rfl (Nat.le_of_ble_eq_true rfl) (fun r_2 μ_1 => ?_)
  refine J.if_ne hC eX11_whyDrop_7 (fun _ => ?_) (fun _ => ?_)
  · refine J.iconst hC eX11_whyDrop_10 ci_0 ?_
    refine J.goto hC eX11_whyDrop_11 ?_
    exact J.iret hC hr eX11_whyDrop_52
  · refine J.iload (j := 4) hC eX11_whyDrop_14 rfl ?_
    refine J.i2l hC eX11_whyDrop_16 ?_
    refine J.lconst hC eX11_whyDrop_17 cl_1 ?_
    refine J.ldc2 hC eX11_whyDrop_18 mk_X11_270 ?_
    refine J.callSI (st := []) hC eX11_whyDrop_21 ml_X11_77 mv_X11_in (Rle_of (Nat.le_of_ble_eq_true rfl) (Nat.le_of_ble_eq_true rfl)) (c_X11_in hC.X x4.toInt64 (1 : Int64) (99 : Int64) μ_1) rfl rfl (Nat.le_of_ble_eq_true rfl) (fun r_4 μ_3 => ?_)
    refine J.if_ne hC eX11_whyDrop_24 (fun _ => ?_) (fun _ => ?_)
    · refine J.iconst hC eX11_whyDrop_27 ci_1 ?_
      refine J.goto hC eX11_whyDrop_28 ?_
      exact J.iret hC hr eX11_whyDrop_52
    · refine J.aload_n (j := 0) hC eX11_whyDrop_31 rfl ?_
      refine gf_X11_34 (q := 116) hC eX11_whyDrop_32 kk_107 rfl ?_
      refine J.iload_n (j := 1) hC eX11_whyDrop_35 rfl ?_
      refine J.iload_n (j := 2) hC eX11_whyDrop_36 rfl ?_
      refine J.iload_n (j := 3) hC eX11_whyDrop_37 rfl ?_
      refine J.callSI (st := [.ref (xad (cX C) 116)]) hC eX11_whyDrop_38 ml_X11_158 mv_X11_place (Rle_of (Nat.le_of_ble_eq_true rfl) (Nat.le_of_ble_eq_true rfl)) (c_X11_place hC.X x1 x2 x3 μ_3) rfl rfl (Nat.le_of_ble_eq_true rfl) (fun r_6 μ_5 => ?_)
      refine J.iald ik_1253 hC eX11_whyDrop_41 kk_116 ?_
      refine J.iload (j := 4) hC eX11_whyDrop_42 rfl ?_
      refine J.icmp_ge hC eX11_whyDrop_44 (fun _ => ?_) (fun _ => ?_)
      · refine J.iconst hC eX11_whyDrop_51 ci_m1 ?_
        exact J.iret hC hr eX11_whyDrop_52
      · refine J.iconst hC eX11_whyDrop_47 ci_3 ?_
        refine J.goto hC eX11_whyDrop_48 ?_
        exact J.iret hC hr eX11_whyDrop_52
-- X11_whyBuild
theorem eX11_whyBuild_0 : DD cX11_whyBuild 0 (.aload_n 0) 1 1 := ⟨by decide +kernel, rfl⟩
theorem eX11_whyBuild_1 : DD cX11_whyBuild 1 (.iload_n 1) 1 2 := ⟨by decide +kernel, rfl⟩
theorem eX11_whyBuild_2 : DD cX11_whyBuild 2 (.iload_n 2) 1 3 := ⟨by decide +kernel, rfl⟩
theorem eX11_whyBuild_3 : DD cX11_whyBuild 3 (.invokevirtual 235) 3 6 := ⟨by decide +kernel, rfl⟩
theorem eX11_whyBuild_6 : DB cX11_whyBuild 6 (.ifCond .ne 7) (7) 9 13 := ⟨by decide +kernel, rfl, by decide⟩
theorem eX11_whyBuild_9 : DD cX11_whyBuild 9 (.iconst 0) 1 10 := ⟨by decide +kernel, rfl⟩
theorem eX11_whyBuild_10 : DB cX11_whyBuild 10 (.goto 21) (21) 13 31 := ⟨by decide +kernel, rfl, by decide⟩
theorem eX11_whyBuild_13 : DD cX11_whyBuild 13 (.aload_n 0) 1 14 := ⟨by decide +kernel, rfl⟩
theorem eX11_whyBuild_14 : DD cX11_whyBuild 14 (.getfield 34) 3 17 := ⟨by decide +kernel, rfl⟩
theorem eX11_whyBuild_17 : DD cX11_whyBuild 17 (.iload_n 1) 1 18 := ⟨by decide +kernel, rfl⟩
theorem eX11_whyBuild_18 : DD cX11_whyBuild 18 (.iload_n 2) 1 19 := ⟨by decide +kernel, rfl⟩
theorem eX11_whyBuild_19 : DD cX11_whyBuild 19 (.invokestatic 199) 3 22 := ⟨by decide +kernel, rfl⟩
theorem eX11_whyBuild_22 : DD cX11_whyBuild 22 (.iaload) 1 23 := ⟨by decide +kernel, rfl⟩
theorem eX11_whyBuild_23 : DB cX11_whyBuild 23 (.ifCond .ne 7) (7) 26 30 := ⟨by decide +kernel, rfl, by decide⟩
theorem eX11_whyBuild_26 : DD cX11_whyBuild 26 (.iconst 2) 1 27 := ⟨by decide +kernel, rfl⟩
theorem eX11_whyBuild_27 : DB cX11_whyBuild 27 (.goto 4) (4) 30 31 := ⟨by decide +kernel, rfl, by decide⟩
theorem eX11_whyBuild_30 : DD cX11_whyBuild 30 (.iconst (-1)) 1 31 := ⟨by decide +kernel, rfl⟩
theorem eX11_whyBuild_31 : DD cX11_whyBuild 31 (.ireturn) 1 32 := ⟨by decide +kernel, rfl⟩
def G_X11_whyBuild (x1 : Int32) (x2 : Int32) (μ : Mem) : Option (Int32 × Mem) :=
  bd (G_X11_isColumn x1 x2 μ) (fun r_2 μ_1 => if r_2 = 0 then some ((0 : Int32), μ_1) else bd (G_X11_drift x1 x2 μ_1) (fun r_4 μ_3 => gq (inB r_4 1253) (if (rI μ_3 116 (nx r_4)) = 0 then some ((2 : Int32), μ_3) else some ((-1 : Int32), μ_3))))
set_option maxHeartbeats 4000000 in
theorem c_X11_whyBuild {X : Wd} (hX : WdOk X) (x1 : Int32) (x2 : Int32) (μ : Mem) : CtI X yX11_whyBuild cX11_whyBuild 3 (some .int) (rmF 3 68) [.ref (xad X 107), .int x1, .int x2] μ (G_X11_whyBuild x1 x2 μ) := by
  refine CtI.of hX (plainFor_of_name (by decide)) (by exact Nat.le_of_ble_eq_true rfl) ?_
  intro C hCX hC hr
  subst hCX
  show J C (KI C) μ 0 [(0, .ref (xad (cX C) 107)), (1, .int x1), (2, .int x2)] [] _
  unfold G_X11_whyBuild
  refine J.aload_n (j := 0) hC eX11_whyBuild_0 rfl ?_
  refine J.iload_n (j := 1) hC eX11_whyBuild_1 rfl ?_
  refine J.iload_n (j := 2) hC eX11_whyBuild_2 rfl ?_
  refine J.callVI (st := []) hC eX11_whyBuild_3 kk_107 (by decide) rfl rfl ml_X11_235 mv_X11_isColumn (Rle_of (Nat.le_of_ble_eq_true rfl) (Nat.le_of_ble_eq_true rfl)) (c_X11_isColumn hC.X x1 x2 μ) rfl rfl (Nat.le_of_ble_eq_true rfl) (fun r_2 μ_1 => ?_)
  refine J.if_ne hC eX11_whyBuild_6 (fun _ => ?_) (fun _ => ?_)
  · refine J.iconst hC eX11_whyBuild_9 ci_0 ?_
    refine J.goto hC eX11_whyBuild_10 ?_
    exact J.iret hC hr eX11_whyBuild_31
  · refine J.aload_n (j := 0) hC eX11_whyBuild_13 rfl ?_
    refine gf_X11_34 (q := 116) hC eX11_whyBuild_14 kk_107 rfl ?_
    refine J.iload_n (j := 1) hC eX11_whyBuild_17 rfl ?_
    refine J.iload_n (j := 2) hC eX11_whyBuild_18 rfl ?_
    refine J.callSI (st := [.ref (xad (cX C) 116)]) hC eX11_whyBuild_19 ml_X11_199 mv_X11_drift (Rle_of (Nat.le_of_ble_eq_true rfl) (Nat.le_of_ble_eq_true rfl)) (c_X11_drift hC.X x1 x2 μ_1) rfl rfl (Nat.le_of_ble_eq_true rfl) (fun r_4 μ_3 => ?_)
    refine J.iald ik_1253 hC eX11_whyBuild_22 kk_116 ?_
    refine J.if_ne hC eX11_whyBuild_23 (fun _ => ?_) (fun _ => ?_)
    · refine J.iconst hC eX11_whyBuild_26 ci_2 ?_
      refine J.goto hC eX11_whyBuild_27 ?_
      exact J.iret hC hr eX11_whyBuild_31
    · refine J.iconst hC eX11_whyBuild_30 ci_m1 ?_
      exact J.iret hC hr eX11_whyBuild_31
-- X11_add
theorem eX11_add_0 : DD cX11_add 0 (.aload_n 0) 1 1 := ⟨by decide +kernel, rfl⟩
theorem eX11_add_1 : DD cX11_add 1 (.aload_n 0) 1 2 := ⟨by decide +kernel, rfl⟩
theorem eX11_add_2 : DD cX11_add 2 (.iload_n 1) 1 3 := ⟨by decide +kernel, rfl⟩
theorem eX11_add_3 : DD cX11_add 3 (.iload_n 2) 1 4 := ⟨by decide +kernel, rfl⟩
theorem eX11_add_4 : DD cX11_add 4 (.iload_n 3) 1 5 := ⟨by decide +kernel, rfl⟩
theorem eX11_add_5 : DD cX11_add 5 (.iload 4) 2 7 := ⟨by decide +kernel, rfl⟩
theorem eX11_add_7 : DD cX11_add 7 (.invokevirtual 272) 3 10 := ⟨by decide +kernel, rfl⟩
theorem eX11_add_10 : DD cX11_add 10 (.iconst 0) 1 11 := ⟨by decide +kernel, rfl⟩
theorem eX11_add_11 : DD cX11_add 11 (.iload_n 1) 1 12 := ⟨by decide +kernel, rfl⟩
theorem eX11_add_12 : DD cX11_add 12 (.iload 4) 2 14 := ⟨by decide +kernel, rfl⟩
theorem eX11_add_14 : DD cX11_add 14 (.invokevirtual 275) 3 17 := ⟨by decide +kernel, rfl⟩
theorem eX11_add_17 : DB cX11_add 17 (.ifCond .eq 5) (5) 20 22 := ⟨by decide +kernel, rfl, by decide⟩
theorem eX11_add_20 : DD cX11_add 20 (.iconst (-1)) 1 21 := ⟨by decide +kernel, rfl⟩
theorem eX11_add_21 : DD cX11_add 21 (.ireturn) 1 22 := ⟨by decide +kernel, rfl⟩
theorem eX11_add_22 : DD cX11_add 22 (.aload_n 0) 1 23 := ⟨by decide +kernel, rfl⟩
theorem eX11_add_23 : DD cX11_add 23 (.iload_n 1) 1 24 := ⟨by decide +kernel, rfl⟩
theorem eX11_add_24 : DD cX11_add 24 (.iload_n 2) 1 25 := ⟨by decide +kernel, rfl⟩
theorem eX11_add_25 : DD cX11_add 25 (.iload_n 3) 1 26 := ⟨by decide +kernel, rfl⟩
theorem eX11_add_26 : DD cX11_add 26 (.iload 4) 2 28 := ⟨by decide +kernel, rfl⟩
theorem eX11_add_28 : DD cX11_add 28 (.invokevirtual 279) 3 31 := ⟨by decide +kernel, rfl⟩
theorem eX11_add_31 : DD cX11_add 31 (.aload_n 0) 1 32 := ⟨by decide +kernel, rfl⟩
theorem eX11_add_32 : DD cX11_add 32 (.iload_n 1) 1 33 := ⟨by decide +kernel, rfl⟩
theorem eX11_add_33 : DD cX11_add 33 (.invokevirtual 161) 3 36 := ⟨by decide +kernel, rfl⟩
theorem eX11_add_36 : DD cX11_add 36 (.ireturn) 1 37 := ⟨by decide +kernel, rfl⟩
def G_X11_add (x1 : Int32) (x2 : Int32) (x3 : Int32) (x4 : Int32) (μ : Mem) : Option (Int32 × Mem) :=
  bd (G_X11_whyAdd x1 x2 x3 x4 μ) (fun r_2 μ_1 => bd (G_X11_isRefused r_2 (0 : Int32) x1 x4 μ_1) (fun r_4 μ_3 => if r_4 = 0 then bd (G_X11_change x1 x2 x3 x4 μ_3) (fun r_6 μ_5 => bd (G_X11_rowsOf x1 μ_5) (fun r_8 μ_7 => some (r_8, μ_7))) else some ((-1 : Int32), μ_3)))
set_option maxHeartbeats 4000000 in
theorem c_X11_add {X : Wd} (hX : WdOk X) (x1 : Int32) (x2 : Int32) (x3 : Int32) (x4 : Int32) (μ : Mem) : CtI X yX11_add cX11_add 5 (some .int) (rmF 5 131) [.ref (xad X 107), .int x1, .int x2, .int x3, .int x4] μ (G_X11_add x1 x2 x3 x4 μ) := by
  refine CtI.of hX (plainFor_of_name (by decide)) (by exact Nat.le_of_ble_eq_true rfl) ?_
  intro C hCX hC hr
  subst hCX
  show J C (KI C) μ 0 [(0, .ref (xad (cX C) 107)), (1, .int x1), (2, .int x2), (3, .int x3), (4, .int x4)] [] _
  unfold G_X11_add
  refine J.aload_n (j := 0) hC eX11_add_0 rfl ?_
  refine J.aload_n (j := 0) hC eX11_add_1 rfl ?_
  refine J.iload_n (j := 1) hC eX11_add_2 rfl ?_
  refine J.iload_n (j := 2) hC eX11_add_3 rfl ?_
  refine J.iload_n (j := 3) hC eX11_add_4 rfl ?_
  refine J.iload (j := 4) hC eX11_add_5 rfl ?_
  refine J.callVI (st := [.ref (xad (cX C) 107)]) hC eX11_add_7 kk_107 (by decide) rfl rfl ml_X11_272 mv_X11_whyAdd (Rle_of (Nat.le_of_ble_eq_true rfl) (Nat.le_of_ble_eq_true rfl)) (c_X11_whyAdd hC.X x1 x2 x3 x4 μ) rfl rfl (Nat.le_of_ble_eq_true rfl) (fun r_2 μ_1 => ?_)
  refine J.iconst hC eX11_add_10 ci_0 ?_
  refine J.iload_n (j := 1) hC eX11_add_11 rfl ?_
  refine J.iload (j := 4) hC eX11_add_12 rfl ?_
  refine J.callVI (st := []) hC eX11_add_14 kk_107 (by decide) rfl rfl ml_X11_275 mv_X11_isRefused (Rle_of (Nat.le_of_ble_eq_true rfl) (Nat.le_of_ble_eq_true rfl)) (c_X11_isRefused hC.X r_2 (0 : Int32) x1 x4 μ_1) rfl rfl (Nat.le_of_ble_eq_true rfl) (fun r_4 μ_3 => ?_)
  refine J.if_eq hC eX11_add_17 (fun _ => ?_) (fun _ => ?_)
  · refine J.aload_n (j := 0) hC eX11_add_22 rfl ?_
    refine J.iload_n (j := 1) hC eX11_add_23 rfl ?_
    refine J.iload_n (j := 2) hC eX11_add_24 rfl ?_
    refine J.iload_n (j := 3) hC eX11_add_25 rfl ?_
    refine J.iload (j := 4) hC eX11_add_26 rfl ?_
    refine J.callVV (st := []) hC eX11_add_28 kk_107 (by decide) rfl rfl ml_X11_279 mv_X11_change (Rle_of (Nat.le_of_ble_eq_true rfl) (Nat.le_of_ble_eq_true rfl)) (c_X11_change hC.X x1 x2 x3 x4 μ_3) rfl rfl (Nat.le_of_ble_eq_true rfl) (fun r_6 μ_5 => ?_)
    refine J.aload_n (j := 0) hC eX11_add_31 rfl ?_
    refine J.iload_n (j := 1) hC eX11_add_32 rfl ?_
    refine J.callVI (st := []) hC eX11_add_33 kk_107 (by decide) rfl rfl ml_X11_161 mv_X11_rowsOf (Rle_of (Nat.le_of_ble_eq_true rfl) (Nat.le_of_ble_eq_true rfl)) (c_X11_rowsOf hC.X x1 μ_5) rfl rfl (Nat.le_of_ble_eq_true rfl) (fun r_8 μ_7 => ?_)
    exact J.iret hC hr eX11_add_36
  · refine J.iconst hC eX11_add_20 ci_m1 ?_
    exact J.iret hC hr eX11_add_21
-- X11_drop
theorem eX11_drop_0 : DD cX11_drop 0 (.aload_n 0) 1 1 := ⟨by decide +kernel, rfl⟩
theorem eX11_drop_1 : DD cX11_drop 1 (.aload_n 0) 1 2 := ⟨by decide +kernel, rfl⟩
theorem eX11_drop_2 : DD cX11_drop 2 (.iload_n 1) 1 3 := ⟨by decide +kernel, rfl⟩
theorem eX11_drop_3 : DD cX11_drop 3 (.iload_n 2) 1 4 := ⟨by decide +kernel, rfl⟩
theorem eX11_drop_4 : DD cX11_drop 4 (.iload_n 3) 1 5 := ⟨by decide +kernel, rfl⟩
theorem eX11_drop_5 : DD cX11_drop 5 (.iload 4) 2 7 := ⟨by decide +kernel, rfl⟩
theorem eX11_drop_7 : DD cX11_drop 7 (.invokevirtual 282) 3 10 := ⟨by decide +kernel, rfl⟩
theorem eX11_drop_10 : DD cX11_drop 10 (.iconst 1) 1 11 := ⟨by decide +kernel, rfl⟩
theorem eX11_drop_11 : DD cX11_drop 11 (.iload_n 1) 1 12 := ⟨by decide +kernel, rfl⟩
theorem eX11_drop_12 : DD cX11_drop 12 (.iload 4) 2 14 := ⟨by decide +kernel, rfl⟩
theorem eX11_drop_14 : DD cX11_drop 14 (.invokevirtual 275) 3 17 := ⟨by decide +kernel, rfl⟩
theorem eX11_drop_17 : DB cX11_drop 17 (.ifCond .eq 5) (5) 20 22 := ⟨by decide +kernel, rfl, by decide⟩
theorem eX11_drop_20 : DD cX11_drop 20 (.iconst (-1)) 1 21 := ⟨by decide +kernel, rfl⟩
theorem eX11_drop_21 : DD cX11_drop 21 (.ireturn) 1 22 := ⟨by decide +kernel, rfl⟩
theorem eX11_drop_22 : DD cX11_drop 22 (.aload_n 0) 1 23 := ⟨by decide +kernel, rfl⟩
theorem eX11_drop_23 : DD cX11_drop 23 (.iload_n 1) 1 24 := ⟨by decide +kernel, rfl⟩
theorem eX11_drop_24 : DD cX11_drop 24 (.iload_n 2) 1 25 := ⟨by decide +kernel, rfl⟩
theorem eX11_drop_25 : DD cX11_drop 25 (.iload_n 3) 1 26 := ⟨by decide +kernel, rfl⟩
theorem eX11_drop_26 : DD cX11_drop 26 (.iload 4) 2 28 := ⟨by decide +kernel, rfl⟩
theorem eX11_drop_28 : DD cX11_drop 28 (.ineg) 1 29 := ⟨by decide +kernel, rfl⟩
theorem eX11_drop_29 : DD cX11_drop 29 (.invokevirtual 279) 3 32 := ⟨by decide +kernel, rfl⟩
theorem eX11_drop_32 : DD cX11_drop 32 (.aload_n 0) 1 33 := ⟨by decide +kernel, rfl⟩
theorem eX11_drop_33 : DD cX11_drop 33 (.iload_n 1) 1 34 := ⟨by decide +kernel, rfl⟩
theorem eX11_drop_34 : DD cX11_drop 34 (.invokevirtual 161) 3 37 := ⟨by decide +kernel, rfl⟩
theorem eX11_drop_37 : DD cX11_drop 37 (.ireturn) 1 38 := ⟨by decide +kernel, rfl⟩
def G_X11_drop (x1 : Int32) (x2 : Int32) (x3 : Int32) (x4 : Int32) (μ : Mem) : Option (Int32 × Mem) :=
  bd (G_X11_whyDrop x1 x2 x3 x4 μ) (fun r_2 μ_1 => bd (G_X11_isRefused r_2 (1 : Int32) x1 x4 μ_1) (fun r_4 μ_3 => if r_4 = 0 then bd (G_X11_change x1 x2 x3 (-x4) μ_3) (fun r_6 μ_5 => bd (G_X11_rowsOf x1 μ_5) (fun r_8 μ_7 => some (r_8, μ_7))) else some ((-1 : Int32), μ_3)))
set_option maxHeartbeats 4000000 in
theorem c_X11_drop {X : Wd} (hX : WdOk X) (x1 : Int32) (x2 : Int32) (x3 : Int32) (x4 : Int32) (μ : Mem) : CtI X yX11_drop cX11_drop 5 (some .int) (rmF 5 131) [.ref (xad X 107), .int x1, .int x2, .int x3, .int x4] μ (G_X11_drop x1 x2 x3 x4 μ) := by
  refine CtI.of hX (plainFor_of_name (by decide)) (by exact Nat.le_of_ble_eq_true rfl) ?_
  intro C hCX hC hr
  subst hCX
  show J C (KI C) μ 0 [(0, .ref (xad (cX C) 107)), (1, .int x1), (2, .int x2), (3, .int x3), (4, .int x4)] [] _
  unfold G_X11_drop
  refine J.aload_n (j := 0) hC eX11_drop_0 rfl ?_
  refine J.aload_n (j := 0) hC eX11_drop_1 rfl ?_
  refine J.iload_n (j := 1) hC eX11_drop_2 rfl ?_
  refine J.iload_n (j := 2) hC eX11_drop_3 rfl ?_
  refine J.iload_n (j := 3) hC eX11_drop_4 rfl ?_
  refine J.iload (j := 4) hC eX11_drop_5 rfl ?_
  refine J.callVI (st := [.ref (xad (cX C) 107)]) hC eX11_drop_7 kk_107 (by decide) rfl rfl ml_X11_282 mv_X11_whyDrop (Rle_of (Nat.le_of_ble_eq_true rfl) (Nat.le_of_ble_eq_true rfl)) (c_X11_whyDrop hC.X x1 x2 x3 x4 μ) rfl rfl (Nat.le_of_ble_eq_true rfl) (fun r_2 μ_1 => ?_)
  refine J.iconst hC eX11_drop_10 ci_1 ?_
  refine J.iload_n (j := 1) hC eX11_drop_11 rfl ?_
  refine J.iload (j := 4) hC eX11_drop_12 rfl ?_
  refine J.callVI (st := []) hC eX11_drop_14 kk_107 (by decide) rfl rfl ml_X11_275 mv_X11_isRefused (Rle_of (Nat.le_of_ble_eq_true rfl) (Nat.le_of_ble_eq_true rfl)) (c_X11_isRefused hC.X r_2 (1 : Int32) x1 x4 μ_1) rfl rfl (Nat.le_of_ble_eq_true rfl) (fun r_4 μ_3 => ?_)
  refine J.if_eq hC eX11_drop_17 (fun _ => ?_) (fun _ => ?_)
  · refine J.aload_n (j := 0) hC eX11_drop_22 rfl ?_
    refine J.iload_n (j := 1) hC eX11_drop_23 rfl ?_
    refine J.iload_n (j := 2) hC eX11_drop_24 rfl ?_
    refine J.iload_n (j := 3) hC eX11_drop_25 rfl ?_
    refine J.iload (j := 4) hC eX11_drop_26 rfl ?_
    refine J.ineg hC eX11_drop_28 ?_
    refine J.callVV (st := []) hC eX11_drop_29 kk_107 (by decide) rfl rfl ml_X11_279 mv_X11_change (Rle_of (Nat.le_of_ble_eq_true rfl) (Nat.le_of_ble_eq_true rfl)) (c_X11_change hC.X x1 x2 x3 (-x4) μ_3) rfl rfl (Nat.le_of_ble_eq_true rfl) (fun r_6 μ_5 => ?_)
    refine J.aload_n (j := 0) hC eX11_drop_32 rfl ?_
    refine J.iload_n (j := 1) hC eX11_drop_33 rfl ?_
    refine J.callVI (st := []) hC eX11_drop_34 kk_107 (by decide) rfl rfl ml_X11_161 mv_X11_rowsOf (Rle_of (Nat.le_of_ble_eq_true rfl) (Nat.le_of_ble_eq_true rfl)) (c_X11_rowsOf hC.X x1 μ_5) rfl rfl (Nat.le_of_ble_eq_true rfl) (fun r_8 μ_7 => ?_)
    exact J.iret hC hr eX11_drop_37
  · refine J.iconst hC eX11_drop_20 ci_m1 ?_
    exact J.iret hC hr eX11_drop_21
