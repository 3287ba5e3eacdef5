-- X11_here
theorem eX11_here_0 : DD cX11_here 0 (.aload_n 0) 1 1 := ⟨by decide +kernel, rfl⟩
theorem eX11_here_1 : DD cX11_here 1 (.getfield 81) 3 4 := ⟨by decide +kernel, rfl⟩
theorem eX11_here_4 : DD cX11_here 4 (.aload_n 0) 1 5 := ⟨by decide +kernel, rfl⟩
theorem eX11_here_5 : DD cX11_here 5 (.getfield 74) 3 8 := ⟨by decide +kernel, rfl⟩
theorem eX11_here_8 : DB cX11_here 8 (.if_icmp .ge 15) (15) 11 23 := ⟨by decide +kernel, rfl, by decide⟩
theorem eX11_here_11 : DD cX11_here 11 (.aload_n 0) 1 12 := ⟨by decide +kernel, rfl⟩
theorem eX11_here_12 : DD cX11_here 12 (.getfield 9) 3 15 := ⟨by decide +kernel, rfl⟩
theorem eX11_here_15 : DD cX11_here 15 (.aload_n 0) 1 16 := ⟨by decide +kernel, rfl⟩
theorem eX11_here_16 : DD cX11_here 16 (.getfield 81) 3 19 := ⟨by decide +kernel, rfl⟩
theorem eX11_here_19 : DD cX11_here 19 (.iaload) 1 20 := ⟨by decide +kernel, rfl⟩
theorem eX11_here_20 : DB cX11_here 20 (.goto 4) (4) 23 24 := ⟨by decide +kernel, rfl, by decide⟩
theorem eX11_here_23 : DD cX11_here 23 (.iconst (-1)) 1 24 := ⟨by decide +kernel, rfl⟩
theorem eX11_here_24 : DD cX11_here 24 (.ireturn) 1 25 := ⟨by decide +kernel, rfl⟩
def G_X11_here  (μ : Mem) : Option (Int32 × Mem) :=
  if (rI μ 107 2) ≤ (rI μ 107 3) then some ((-1 : Int32), μ) else gq (inB (rI μ 107 3) 240) (some (rI μ 108 (nx (rI μ 107 3)), μ))
set_option maxHeartbeats 4000000 in
theorem c_X11_here {X : Wd} (hX : WdOk X)  (μ : Mem) : CtI X yX11_here cX11_here 1 (some .int) (rmF 0 0) [.ref (xad X 107)] μ (G_X11_here  μ) := by
  refine CtI.of hX (plainFor_of_name (by decide)) (by exact Nat.le_of_ble_eq_true rfl) ?_
  intro C hCX hC hr
  subst hCX
  show J C (KI C) μ 0 [(0, .ref (xad (cX C) 107))] [] _
  unfold G_X11_here
  refine J.aload_n (j := 0) hC eX11_here_0 rfl ?_
  refine gf_X11_81 hC eX11_here_1 kk_107 ?_
  refine J.aload_n (j := 0) hC eX11_here_4 rfl ?_
  refine gf_X11_74 hC eX11_here_5 kk_107 ?_
  refine J.icmp_ge hC eX11_here_8 (fun _ => ?_) (fun _ => ?_)
  · refine J.iconst hC eX11_here_23 ci_m1 ?_
    exact J.iret hC hr eX11_here_24
  · refine J.aload_n (j := 0) hC eX11_here_11 rfl ?_
    refine gf_X11_9 (q := 108) hC eX11_here_12 kk_107 rfl ?_
    refine J.aload_n (j := 0) hC eX11_here_15 rfl ?_
    refine gf_X11_81 hC eX11_here_16 kk_107 ?_
    refine J.iald ik_240 hC eX11_here_19 kk_108 ?_
    refine J.goto hC eX11_here_20 ?_
    exact J.iret hC hr eX11_here_24
-- X11_ahead
theorem eX11_ahead_0 : DD cX11_ahead 0 (.aload_n 0) 1 1 := ⟨by decide +kernel, rfl⟩
theorem eX11_ahead_1 : DD cX11_ahead 1 (.invokevirtual 84) 3 4 := ⟨by decide +kernel, rfl⟩
theorem eX11_ahead_4 : DD cX11_ahead 4 (.bipush 32) 2 6 := ⟨by decide +kernel, rfl⟩
theorem eX11_ahead_6 : DB cX11_ahead 6 (.if_icmp .ne 16) (16) 9 22 := ⟨by decide +kernel, rfl, by decide⟩
theorem eX11_ahead_9 : DD cX11_ahead 9 (.aload_n 0) 1 10 := ⟨by decide +kernel, rfl⟩
theorem eX11_ahead_10 : DD cX11_ahead 10 (.dup) 1 11 := ⟨by decide +kernel, rfl⟩
theorem eX11_ahead_11 : DD cX11_ahead 11 (.getfield 81) 3 14 := ⟨by decide +kernel, rfl⟩
theorem eX11_ahead_14 : DD cX11_ahead 14 (.iconst 1) 1 15 := ⟨by decide +kernel, rfl⟩
theorem eX11_ahead_15 : DD cX11_ahead 15 (.iadd) 1 16 := ⟨by decide +kernel, rfl⟩
theorem eX11_ahead_16 : DD cX11_ahead 16 (.putfield 81) 3 19 := ⟨by decide +kernel, rfl⟩
theorem eX11_ahead_19 : DB cX11_ahead 19 (.goto (-19)) (-19) 22 0 := ⟨by decide +kernel, rfl, by decide⟩
theorem eX11_ahead_22 : DD cX11_ahead 22 (.aload_n 0) 1 23 := ⟨by decide +kernel, rfl⟩
theorem eX11_ahead_23 : DD cX11_ahead 23 (.invokevirtual 84) 3 26 := ⟨by decide +kernel, rfl⟩
theorem eX11_ahead_26 : DD cX11_ahead 26 (.ireturn) 1 27 := ⟨by decide +kernel, rfl⟩
def L_X11_ahead_0 : Nat → Mem → Option (Int32 × Mem)
  | 0, _ => none
  | n + 1, μ => bd (G_X11_here  μ) (fun r_2 μ_1 => if r_2 = (32 : Int32) then lb (wI μ_1 107 3 ((rI μ_1 107 3) + (1 : Int32))) (fun μ_3 => L_X11_ahead_0  n  μ_3) else bd (G_X11_here  μ_1) (fun r_5 μ_4 => some (r_5, μ_4)))
set_option maxHeartbeats 4000000 in
theorem j_X11_ahead_0 {C : Cx} (hC : Ok C cX11_ahead 1 RX11 (rmF 1 20)) (hr : (cT C).sig.returnType = (some .int)) : ∀ (n : Nat)  (μ : Mem), J C (KI C) μ 0 [(0, .ref (xad (cX C) 107))] [] (L_X11_ahead_0  n  μ) := by
  intro n
  induction n with
  | zero => intros; exact J.no
  | succ n ih =>
    intro  μ
    rw [L_X11_ahead_0]
    refine J.aload_n (j := 0) hC eX11_ahead_0 rfl ?_
    refine J.callVI (st := []) hC eX11_ahead_1 kk_107 (by decide) rfl rfl ml_X11_84 mv_X11_here (Rle_of (Nat.le_of_ble_eq_true rfl) (Nat.le_of_ble_eq_true rfl)) (c_X11_here hC.X  μ) rfl rfl (Nat.le_of_ble_eq_true rfl) (fun r_2 μ_1 => ?_)
    refine J.bipush hC eX11_ahead_4 cb_32 ?_
    refine J.icmp_ne hC eX11_ahead_6 (fun _ => ?_) (fun _ => ?_)
    · refine J.aload_n (j := 0) hC eX11_ahead_9 rfl ?_
      refine J.dup hC eX11_ahead_10 rfl ?_
      refine gf_X11_81 hC eX11_ahead_11 kk_107 ?_
      refine J.iconst hC eX11_ahead_14 ci_1 ?_
      refine J.iadd hC eX11_ahead_15 ?_
      refine pf_X11_81 hC eX11_ahead_16 kk_107 (fun μ_3 => ?_)
      refine J.goto hC eX11_ahead_19 ?_
      refine J.sub [0] rfl ?_
      exact ih  μ_3
    · refine J.aload_n (j := 0) hC eX11_ahead_22 rfl ?_
      refine J.callVI (st := []) hC eX11_ahead_23 kk_107 (by decide) rfl rfl ml_X11_84 mv_X11_here (Rle_of (Nat.le_of_ble_eq_true rfl) (Nat.le_of_ble_eq_true rfl)) (c_X11_here hC.X  μ_1) rfl rfl (Nat.le_of_ble_eq_true rfl) (fun r_5 μ_4 => ?_)
      exact J.iret hC hr eX11_ahead_26
def G_X11_ahead  (μ : Mem) : Option (Int32 × Mem) :=
  L_X11_ahead_0  100000  μ
set_option maxHeartbeats 4000000 in
theorem c_X11_ahead {X : Wd} (hX : WdOk X)  (μ : Mem) : CtI X yX11_ahead cX11_ahead 1 (some .int) (rmF 1 20) [.ref (xad X 107)] μ (G_X11_ahead  μ) := by
  refine CtI.of hX (plainFor_of_name (by decide)) (by exact Nat.le_of_ble_eq_true rfl) ?_
  intro C hCX hC hr
  subst hCX
  show J C (KI C) μ 0 [(0, .ref (xad (cX C) 107))] [] _
  unfold G_X11_ahead
  refine J.sub [0] rfl ?_
  exact j_X11_ahead_0 hC hr  100000  μ
-- X11_bad
theorem eX11_bad_0 : DD cX11_bad 0 (.aload_n 0) 1 1 := ⟨by decide +kernel, rfl⟩
theorem eX11_bad_1 : DD cX11_bad 1 (.aload_n 0) 1 2 := ⟨by decide +kernel, rfl⟩
theorem eX11_bad_2 : DD cX11_bad 2 (.getfield 88) 3 5 := ⟨by decide +kernel, rfl⟩
theorem eX11_bad_5 : DD cX11_bad 5 (.iconst (-1)) 1 6 := ⟨by decide +kernel, rfl⟩
theorem eX11_bad_6 : DB cX11_bad 6 (.if_icmp .ne 10) (10) 9 16 := ⟨by decide +kernel, rfl, by decide⟩
theorem eX11_bad_9 : DD cX11_bad 9 (.aload_n 0) 1 10 := ⟨by decide +kernel, rfl⟩
theorem eX11_bad_10 : DD cX11_bad 10 (.getfield 81) 3 13 := ⟨by decide +kernel, rfl⟩
theorem eX11_bad_13 : DB cX11_bad 13 (.goto 7) (7) 16 20 := ⟨by decide +kernel, rfl, by decide⟩
theorem eX11_bad_16 : DD cX11_bad 16 (.aload_n 0) 1 17 := ⟨by decide +kernel, rfl⟩
theorem eX11_bad_17 : DD cX11_bad 17 (.getfield 88) 3 20 := ⟨by decide +kernel, rfl⟩
theorem eX11_bad_20 : DD cX11_bad 20 (.putfield 88) 3 23 := ⟨by decide +kernel, rfl⟩
theorem eX11_bad_23 : DD cX11_bad 23 (.return_) 1 24 := ⟨by decide +kernel, rfl⟩
def F_X11_bad_20 (xs1 : Int32) (μ : Mem) : Option (Unit × Mem) :=
  lb (wI μ 107 4 xs1) (fun μ_1 => some ((), μ_1))
set_option maxHeartbeats 4000000 in
theorem j_X11_bad_20 {C : Cx} (hC : Ok C cX11_bad 1 RX11 (rmF 0 0)) (hr : (cT C).sig.returnType = none) (xs1 : Int32) (μ : Mem) : J C (KV C) μ 20 [] [.int xs1, .ref (xad (cX C) 107)] (F_X11_bad_20  xs1 μ) := by
  unfold F_X11_bad_20
  refine pf_X11_88 hC eX11_bad_20 kk_107 (fun μ_1 => ?_)
  exact J.vret hC hr eX11_bad_23
def G_X11_bad  (μ : Mem) : Option (Unit × Mem) :=
  if (rI μ 107 4) = (-1 : Int32) then F_X11_bad_20  (rI μ 107 3) μ else F_X11_bad_20  (rI μ 107 4) μ
set_option maxHeartbeats 4000000 in
theorem c_X11_bad {X : Wd} (hX : WdOk X)  (μ : Mem) : CtV X yX11_bad cX11_bad 1 none (rmF 0 0) [.ref (xad X 107)] μ (G_X11_bad  μ) := by
  refine CtV.of hX (plainFor_of_name (by decide)) (by exact Nat.le_of_ble_eq_true rfl) ?_
  intro C hCX hC hr
  subst hCX
  show J C (KV C) μ 0 [(0, .ref (xad (cX C) 107))] [] _
  unfold G_X11_bad
  refine J.aload_n (j := 0) hC eX11_bad_0 rfl ?_
  refine J.aload_n (j := 0) hC eX11_bad_1 rfl ?_
  refine gf_X11_88 hC eX11_bad_2 kk_107 ?_
  refine J.iconst hC eX11_bad_5 ci_m1 ?_
  refine J.icmp_ne hC eX11_bad_6 (fun _ => ?_) (fun _ => ?_)
  · refine J.aload_n (j := 0) hC eX11_bad_9 rfl ?_
    refine gf_X11_81 hC eX11_bad_10 kk_107 ?_
    refine J.goto hC eX11_bad_13 ?_
    refine J.sub [] rfl ?_
    exact j_X11_bad_20 hC hr  (rI μ 107 3) μ
  · refine J.aload_n (j := 0) hC eX11_bad_16 rfl ?_
    refine gf_X11_88 hC eX11_bad_17 kk_107 ?_
    refine J.sub [] rfl ?_
    exact j_X11_bad_20 hC hr  (rI μ 107 4) μ
-- X11_isDigit
theorem eX11_isDigit_0 : DD cX11_isDigit 0 (.iload_n 0) 1 1 := ⟨by decide +kernel, rfl⟩
theorem eX11_isDigit_1 : DD cX11_isDigit 1 (.bipush 48) 2 3 := ⟨by decide +kernel, rfl⟩
theorem eX11_isDigit_3 : DB cX11_isDigit 3 (.if_icmp .lt 13) (13) 6 16 := ⟨by decide +kernel, rfl, by decide⟩
theorem eX11_isDigit_6 : DD cX11_isDigit 6 (.iload_n 0) 1 7 := ⟨by decide +kernel, rfl⟩
theorem eX11_isDigit_7 : DD cX11_isDigit 7 (.bipush 57) 2 9 := ⟨by decide +kernel, rfl⟩
theorem eX11_isDigit_9 : DB cX11_isDigit 9 (.if_icmp .gt 7) (7) 12 16 := ⟨by decide +kernel, rfl, by decide⟩
theorem eX11_isDigit_12 : DD cX11_isDigit 12 (.iconst 1) 1 13 := ⟨by decide +kernel, rfl⟩
theorem eX11_isDigit_13 : DB cX11_isDigit 13 (.goto 4) (4) 16 17 := ⟨by decide +kernel, rfl, by decide⟩
theorem eX11_isDigit_16 : DD cX11_isDigit 16 (.iconst 0) 1 17 := ⟨by decide +kernel, rfl⟩
theorem eX11_isDigit_17 : DD cX11_isDigit 17 (.ireturn) 1 18 := ⟨by decide +kernel, rfl⟩
def G_X11_isDigit (x0 : Int32) (μ : Mem) : Option (Int32 × Mem) :=
  if x0 < (48 : Int32) then some ((0 : Int32), μ) else if (57 : Int32) < x0 then some ((0 : Int32), μ) else some ((1 : Int32), μ)
set_option maxHeartbeats 4000000 in
theorem c_X11_isDigit {X : Wd} (hX : WdOk X) (x0 : Int32) (μ : Mem) : CtI X yX11_isDigit cX11_isDigit 1 (some .boolean) (rmF 0 0) [.int x0] μ (G_X11_isDigit x0 μ) := by
  refine CtI.of hX (plainFor_of_name (by decide)) (by exact Nat.le_of_ble_eq_true rfl) ?_
  intro C hCX hC hr
  subst hCX
  show J C (KI C) μ 0 [(0, .int x0)] [] _
  unfold G_X11_isDigit
  refine J.iload_n (j := 0) hC eX11_isDigit_0 rfl ?_
  refine J.bipush hC eX11_isDigit_1 cb_48 ?_
  refine J.icmp_lt hC eX11_isDigit_3 (fun _ => ?_) (fun _ => ?_)
  · refine J.iconst hC eX11_isDigit_16 ci_0 ?_
    exact J.zretB hC hr eX11_isDigit_17 rfl
  · refine J.iload_n (j := 0) hC eX11_isDigit_6 rfl ?_
    refine J.bipush hC eX11_isDigit_7 cb_57 ?_
    refine J.icmp_gt hC eX11_isDigit_9 (fun _ => ?_) (fun _ => ?_)
    · refine J.iconst hC eX11_isDigit_16 ci_0 ?_
      exact J.zretB hC hr eX11_isDigit_17 rfl
    · refine J.iconst hC eX11_isDigit_12 ci_1 ?_
      refine J.goto hC eX11_isDigit_13 ?_
      exact J.zretB hC hr eX11_isDigit_17 rfl
-- X11_number
theorem eX11_number_0 : DD cX11_number 0 (.aload_n 0) 1 1 := ⟨by decide +kernel, rfl⟩
theorem eX11_number_1 : DD cX11_number 1 (.invokevirtual 91) 3 4 := ⟨by decide +kernel, rfl⟩
theorem eX11_number_4 : DD cX11_number 4 (.invokestatic 94) 3 7 := ⟨by decide +kernel, rfl⟩
theorem eX11_number_7 : DB cX11_number 7 (.ifCond .ne 9) (9) 10 16 := ⟨by decide +kernel, rfl, by decide⟩
theorem eX11_number_10 : DD cX11_number 10 (.aload_n 0) 1 11 := ⟨by decide +kernel, rfl⟩
theorem eX11_number_11 : DD cX11_number 11 (.invokevirtual 98) 3 14 := ⟨by decide +kernel, rfl⟩
theorem eX11_number_14 : DD cX11_number 14 (.iload_n 2) 1 15 := ⟨by decide +kernel, rfl⟩
theorem eX11_number_15 : DD cX11_number 15 (.ireturn) 1 16 := ⟨by decide +kernel, rfl⟩
theorem eX11_number_16 : DD cX11_number 16 (.iconst 0) 1 17 := ⟨by decide +kernel, rfl⟩
theorem eX11_number_17 : DD cX11_number 17 (.istore 4) 2 19 := ⟨by decide +kernel, rfl⟩
theorem eX11_number_19 : DD cX11_number 19 (.iconst 0) 1 20 := ⟨by decide +kernel, rfl⟩
theorem eX11_number_20 : DD cX11_number 20 (.istore 5) 2 22 := ⟨by decide +kernel, rfl⟩
theorem eX11_number_22 : DD cX11_number 22 (.iload 5) 2 24 := ⟨by decide +kernel, rfl⟩
theorem eX11_number_24 : DD cX11_number 24 (.iload_n 1) 1 25 := ⟨by decide +kernel, rfl⟩
theorem eX11_number_25 : DB cX11_number 25 (.if_icmp .ge 44) (44) 28 69 := ⟨by decide +kernel, rfl, by decide⟩
theorem eX11_number_28 : DD cX11_number 28 (.aload_n 0) 1 29 := ⟨by decide +kernel, rfl⟩
theorem eX11_number_29 : DD cX11_number 29 (.invokevirtual 84) 3 32 := ⟨by decide +kernel, rfl⟩
theorem eX11_number_32 : DD cX11_number 32 (.invokestatic 94) 3 35 := ⟨by decide +kernel, rfl⟩
theorem eX11_number_35 : DB cX11_number 35 (.ifCond .eq 34) (34) 38 69 := ⟨by decide +kernel, rfl, by decide⟩
theorem eX11_number_38 : DD cX11_number 38 (.bipush 10) 2 40 := ⟨by decide +kernel, rfl⟩
theorem eX11_number_40 : DD cX11_number 40 (.iload 4) 2 42 := ⟨by decide +kernel, rfl⟩
theorem eX11_number_42 : DD cX11_number 42 (.imul) 1 43 := ⟨by decide +kernel, rfl⟩
theorem eX11_number_43 : DD cX11_number 43 (.aload_n 0) 1 44 := ⟨by decide +kernel, rfl⟩
theorem eX11_number_44 : DD cX11_number 44 (.invokevirtual 84) 3 47 := ⟨by decide +kernel, rfl⟩
theorem eX11_number_47 : DD cX11_number 47 (.iadd) 1 48 := ⟨by decide +kernel, rfl⟩
theorem eX11_number_48 : DD cX11_number 48 (.bipush 48) 2 50 := ⟨by decide +kernel, rfl⟩
theorem eX11_number_50 : DD cX11_number 50 (.isub) 1 51 := ⟨by decide +kernel, rfl⟩
theorem eX11_number_51 : DD cX11_number 51 (.istore 4) 2 53 := ⟨by decide +kernel, rfl⟩
theorem eX11_number_53 : DD cX11_number 53 (.aload_n 0) 1 54 := ⟨by decide +kernel, rfl⟩
theorem eX11_number_54 : DD cX11_number 54 (.dup) 1 55 := ⟨by decide +kernel, rfl⟩
theorem eX11_number_55 : DD cX11_number 55 (.getfield 81) 3 58 := ⟨by decide +kernel, rfl⟩
theorem eX11_number_58 : DD cX11_number 58 (.iconst 1) 1 59 := ⟨by decide +kernel, rfl⟩
theorem eX11_number_59 : DD cX11_number 59 (.iadd) 1 60 := ⟨by decide +kernel, rfl⟩
theorem eX11_number_60 : DD cX11_number 60 (.putfield 81) 3 63 := ⟨by decide +kernel, rfl⟩
theorem eX11_number_63 : DD cX11_number 63 (.iinc 5 1) 3 66 := ⟨by decide +kernel, rfl⟩
theorem eX11_number_66 : DB cX11_number 66 (.goto (-44)) (-44) 69 22 := ⟨by decide +kernel, rfl, by decide⟩
theorem eX11_number_69 : DD cX11_number 69 (.aload_n 0) 1 70 := ⟨by decide +kernel, rfl⟩
theorem eX11_number_70 : DD cX11_number 70 (.invokevirtual 84) 3 73 := ⟨by decide +kernel, rfl⟩
theorem eX11_number_73 : DD cX11_number 73 (.invokestatic 94) 3 76 := ⟨by decide +kernel, rfl⟩
theorem eX11_number_76 : DB cX11_number 76 (.ifCond .eq 10) (10) 79 86 := ⟨by decide +kernel, rfl, by decide⟩
theorem eX11_number_79 : DD cX11_number 79 (.aload_n 0) 1 80 := ⟨by decide +kernel, rfl⟩
theorem eX11_number_80 : DD cX11_number 80 (.invokevirtual 98) 3 83 := ⟨by decide +kernel, rfl⟩
theorem eX11_number_83 : DB cX11_number 83 (.goto 30) (30) 86 113 := ⟨by decide +kernel, rfl, by decide⟩
theorem eX11_number_86 : DD cX11_number 86 (.iload 4) 2 88 := ⟨by decide +kernel, rfl⟩
theorem eX11_number_88 : DD cX11_number 88 (.i2l) 1 89 := ⟨by decide +kernel, rfl⟩
theorem eX11_number_89 : DD cX11_number 89 (.iload_n 2) 1 90 := ⟨by decide +kernel, rfl⟩
theorem eX11_number_90 : DD cX11_number 90 (.i2l) 1 91 := ⟨by decide +kernel, rfl⟩
theorem eX11_number_91 : DD cX11_number 91 (.iload_n 3) 1 92 := ⟨by decide +kernel, rfl⟩
theorem eX11_number_92 : DD cX11_number 92 (.i2l) 1 93 := ⟨by decide +kernel, rfl⟩
theorem eX11_number_93 : DD cX11_number 93 (.invokestatic 77) 3 96 := ⟨by decide +kernel, rfl⟩
theorem eX11_number_96 : DB cX11_number 96 (.ifCond .ne 17) (17) 99 113 := ⟨by decide +kernel, rfl, by decide⟩
theorem eX11_number_99 : DD cX11_number 99 (.aload_n 0) 1 100 := ⟨by decide +kernel, rfl⟩
theorem eX11_number_100 : DD cX11_number 100 (.dup) 1 101 := ⟨by decide +kernel, rfl⟩
theorem eX11_number_101 : DD cX11_number 101 (.getfield 81) 3 104 := ⟨by decide +kernel, rfl⟩
theorem eX11_number_104 : DD cX11_number 104 (.iconst 1) 1 105 := ⟨by decide +kernel, rfl⟩
theorem eX11_number_105 : DD cX11_number 105 (.isub) 1 106 := ⟨by decide +kernel, rfl⟩
theorem eX11_number_106 : DD cX11_number 106 (.putfield 81) 3 109 := ⟨by decide +kernel, rfl⟩
theorem eX11_number_109 : DD cX11_number 109 (.aload_n 0) 1 110 := ⟨by decide +kernel, rfl⟩
theorem eX11_number_110 : DD cX11_number 110 (.invokevirtual 98) 3 113 := ⟨by decide +kernel, rfl⟩
theorem eX11_number_113 : DD cX11_number 113 (.iload 4) 2 115 := ⟨by decide +kernel, rfl⟩
theorem eX11_number_115 : DD cX11_number 115 (.ireturn) 1 116 := ⟨by decide +kernel, rfl⟩
def F_X11_number_69 (x2 : Int32) (x3 : Int32) (x4 : Int32) (μ : Mem) : Option (Int32 × Mem) :=
  bd (G_X11_here  μ) (fun r_2 μ_1 => bd (G_X11_isDigit r_2 μ_1) (fun r_4 μ_3 => if r_4 = 0 then bd (G_X11_in x4.toInt64 x2.toInt64 x3.toInt64 μ_3) (fun r_6 μ_5 => if r_6 = 0 then lb (wI μ_5 107 3 ((rI μ_5 107 3) - (1 : Int32))) (fun μ_7 => bd (G_X11_bad  μ_7) (fun r_9 μ_8 => some (x4, μ_8))) else some (x4, μ_5)) else bd (G_X11_bad  μ_3) (fun r_11 μ_10 => some (x4, μ_10))))
set_option maxHeartbeats 4000000 in
theorem j_X11_number_69 {C : Cx} (hC : Ok C cX11_number 6 RX11 (rmF 2 40)) (hr : (cT C).sig.returnType = (some .int)) (x2 : Int32) (x3 : Int32) (x4 : Int32) (μ : Mem) : J C (KI C) μ 69 [(0, .ref (xad (cX C) 107)), (2, .int x2), (3, .int x3), (4, .int x4)] [] (F_X11_number_69  x2 x3 x4 μ) := by
  unfold F_X11_number_69
  refine J.aload_n (j := 0) hC eX11_number_69 rfl ?_
  refine J.callVI (st := []) hC eX11_number_70 kk_107 (by decide) rfl rfl ml_X11_84 mv_X11_here (Rle_of (Nat.le_of_ble_eq_true rfl) (Nat.le_of_ble_eq_true rfl)) (c_X11_here hC.X  μ) rfl rfl (Nat.le_of_ble_eq_true rfl) (fun r_2 μ_1 => ?_)
  refine J.callSI (st := []) hC eX11_number_73 ml_X11_94 mv_X11_isDigit (Rle_of (Nat.le_of_ble_eq_true rfl) (Nat.le_of_ble_eq_true rfl)) (c_X11_isDigit hC.X r_2 μ_1) rfl rfl (Nat.le_of_ble_eq_true rfl) (fun r_4 μ_3 => ?_)
  refine J.if_eq hC eX11_number_76 (fun _ => ?_) (fun _ => ?_)
  · refine J.iload (j := 3) hC eX11_number_86 rfl ?_
    refine J.i2l hC eX11_number_88 ?_
    refine J.iload_n (j := 1) hC eX11_number_89 rfl ?_
    refine J.i2l hC eX11_number_90 ?_
    refine J.iload_n (j := 2) hC eX11_number_91 rfl ?_
    refine J.i2l hC eX11_number_92 ?_
    refine J.callSI (st := []) hC eX11_number_93 ml_X11_77 mv_X11_in (Rle_of (Nat.le_of_ble_eq_true rfl) (Nat.le_of_ble_eq_true rfl)) (c_X11_in hC.X x4.toInt64 x2.toInt64 x3.toInt64 μ_3) rfl rfl (Nat.le_of_ble_eq_true rfl) (fun r_6 μ_5 => ?_)
    refine J.if_ne hC eX11_number_96 (fun _ => ?_) (fun _ => ?_)
    · refine J.aload_n (j := 0) hC eX11_number_99 rfl ?_
      refine J.dup hC eX11_number_100 rfl ?_
      refine gf_X11_81 hC eX11_number_101 kk_107 ?_
      refine J.iconst hC eX11_number_104 ci_1 ?_
      refine J.isub hC eX11_number_105 ?_
      refine pf_X11_81 hC eX11_number_106 kk_107 (fun μ_7 => ?_)
      refine J.aload_n (j := 0) hC eX11_number_109 rfl ?_
      refine J.callVV (st := []) hC eX11_number_110 kk_107 (by decide) rfl rfl ml_X11_98 mv_X11_bad (Rle_of (Nat.le_of_ble_eq_true rfl) (Nat.le_of_ble_eq_true rfl)) (c_X11_bad hC.X  μ_7) rfl rfl (Nat.le_of_ble_eq_true rfl) (fun r_9 μ_8 => ?_)
      refine J.iload (j := 3) hC eX11_number_113 rfl ?_
      exact J.iret hC hr eX11_number_115
    · refine J.iload (j := 3) hC eX11_number_113 rfl ?_
      exact J.iret hC hr eX11_number_115
  · refine J.aload_n (j := 0) hC eX11_number_79 rfl ?_
    refine J.callVV (st := []) hC eX11_number_80 kk_107 (by decide) rfl rfl ml_X11_98 mv_X11_bad (Rle_of (Nat.le_of_ble_eq_true rfl) (Nat.le_of_ble_eq_true rfl)) (c_X11_bad hC.X  μ_3) rfl rfl (Nat.le_of_ble_eq_true rfl) (fun r_11 μ_10 => ?_)
    refine J.goto hC eX11_number_83 ?_
    refine J.iload (j := 3) hC eX11_number_113 rfl ?_
    exact J.iret hC hr eX11_number_115
def L_X11_number_22 : Nat → Int32 → Int32 → Int32 → Int32 → Int32 → Mem → Option (Int32 × Mem)
  | 0, _, _, _, _, _, _ => none
  | n + 1, x1, x2, x3, x4, x5, μ => if x1 ≤ x5 then F_X11_number_69  x2 x3 x4 μ else bd (G_X11_here  μ) (fun r_2 μ_1 => bd (G_X11_isDigit r_2 μ_1) (fun r_4 μ_3 => if r_4 = 0 then F_X11_number_69  x2 x3 x4 μ_3 else bd (G_X11_here  μ_3) (fun r_6 μ_5 => lb ((((10 : Int32) * x4) + r_6) - (48 : Int32)) (fun x4_7 => lb (wI μ_5 107 3 ((rI μ_5 107 3) + (1 : Int32))) (fun μ_8 => lb (x5 + (1 : Int32)) (fun x5_9 => L_X11_number_22  n x1 x2 x3 x4_7 x5_9 μ_8))))))
set_option maxHeartbeats 4000000 in
theorem j_X11_number_22 {C : Cx} (hC : Ok C cX11_number 6 RX11 (rmF 2 40)) (hr : (cT C).sig.returnType = (some .int)) : ∀ (n : Nat) (x1 : Int32) (x2 : Int32) (x3 : Int32) (x4 : Int32) (x5 : Int32) (μ : Mem), J C (KI C) μ 22 [(0, .ref (xad (cX C) 107)), (1, .int x1), (2, .int x2), (3, .int x3), (4, .int x4), (5, .int x5)] [] (L_X11_number_22  n x1 x2 x3 x4 x5 μ) := by
  intro n
  induction n with
  | zero => intros; exact J.no
  | succ n ih =>
    intro x1 x2 x3 x4 x5 μ
    rw [L_X11_number_22]
    refine J.iload (j := 5) hC eX11_number_22 rfl ?_
    refine J.iload_n (j := 1) hC eX11_number_24 rfl ?_
    refine J.icmp_ge hC eX11_number_25 (fun _ => ?_) (fun _ => ?_)
    · refine J.sub [0, 2, 3, 4] rfl ?_
      exact j_X11_number_69 hC hr  x2 x3 x4 μ
    · refine J.aload_n (j := 0) hC eX11_number_28 rfl ?_
      refine J.callVI (st := []) hC eX11_number_29 kk_107 (by decide) rfl rfl ml_X11_84 mv_X11_here (Rle_of (Nat.le_of_ble_eq_true rfl) (Nat.le_of_ble_eq_true rfl)) (c_X11_here hC.X  μ) rfl rfl (Nat.le_of_ble_eq_true rfl) (fun r_2 μ_1 => ?_)
      refine J.callSI (st := []) hC eX11_number_32 ml_X11_94 mv_X11_isDigit (Rle_of (Nat.le_of_ble_eq_true rfl) (Nat.le_of_ble_eq_true rfl)) (c_X11_isDigit hC.X r_2 μ_1) rfl rfl (Nat.le_of_ble_eq_true rfl) (fun r_4 μ_3 => ?_)
      refine J.if_eq hC eX11_number_35 (fun _ => ?_) (fun _ => ?_)
      · refine J.sub [0, 2, 3, 4] rfl ?_
        exact j_X11_number_69 hC hr  x2 x3 x4 μ_3
      · refine J.bipush hC eX11_number_38 cb_10 ?_
        refine J.iload (j := 4) hC eX11_number_40 rfl ?_
        refine J.imul hC eX11_number_42 ?_
        refine J.aload_n (j := 0) hC eX11_number_43 rfl ?_
        refine J.callVI (st := [.int ((10 : Int32) * x4)]) hC eX11_number_44 kk_107 (by decide) rfl rfl ml_X11_84 mv_X11_here (Rle_of (Nat.le_of_ble_eq_true rfl) (Nat.le_of_ble_eq_true rfl)) (c_X11_here hC.X  μ_3) rfl rfl (Nat.le_of_ble_eq_true rfl) (fun r_6 μ_5 => ?_)
        refine J.iadd hC eX11_number_47 ?_
        refine J.bipush hC eX11_number_48 cb_48 ?_
        refine J.isub hC eX11_number_50 ?_
        refine J.topi (fun x4_7 => ?_)
        refine J.istore [(4, .int x4_7), (0, .ref (xad (cX C) 107)), (1, .int x1), (2, .int x2), (3, .int x3), (5, .int x5)] hC eX11_number_51 (by decide) rfl ?_
        refine J.aload_n (j := 1) hC eX11_number_53 rfl ?_
        refine J.dup hC eX11_number_54 rfl ?_
        refine gf_X11_81 hC eX11_number_55 kk_107 ?_
        refine J.iconst hC eX11_number_58 ci_1 ?_
        refine J.iadd hC eX11_number_59 ?_
        refine pf_X11_81 hC eX11_number_60 kk_107 (fun μ_8 => ?_)
        refine J.iinc (j := 5) (fun x5_9 => [(5, .int x5_9), (4, .int x4_7), (0, .ref (xad (cX C) 107)), (1, .int x1), (2, .int x2), (3, .int x3)]) hC eX11_number_63 rfl ci_1 (by decide) (fun _ => rfl) (fun x5_9 => ?_)
        refine J.goto hC eX11_number_66 ?_
        refine J.sub [2, 3, 4, 5, 1, 0] rfl ?_
        exact ih x1 x2 x3 x4_7 x5_9 μ_8
def G_X11_number (x1 : Int32) (x2 : Int32) (x3 : Int32) (μ : Mem) : Option (Int32 × Mem) :=
  bd (G_X11_ahead  μ) (fun r_2 μ_1 => bd (G_X11_isDigit r_2 μ_1) (fun r_4 μ_3 => if r_4 = 0 then bd (G_X11_bad  μ_3) (fun r_6 μ_5 => some (x2, μ_5)) else L_X11_number_22  100000 x1 x2 x3 (0 : Int32) (0 : Int32) μ_3))
set_option maxHeartbeats 4000000 in
theorem c_X11_number {X : Wd} (hX : WdOk X) (x1 : Int32) (x2 : Int32) (x3 : Int32) (μ : Mem) : CtI X yX11_number cX11_number 6 (some .int) (rmF 2 40) [.ref (xad X 107), .int x1, .int x2, .int x3] μ (G_X11_number x1 x2 x3 μ) := by
  refine CtI.of hX (plainFor_of_name (by decide)) (by exact Nat.le_of_ble_eq_true rfl) ?_
  intro C hCX hC hr
  subst hCX
  show J C (KI C) μ 0 [(0, .ref (xad (cX C) 107)), (1, .int x1), (2, .int x2), (3, .int x3)] [] _
  unfold G_X11_number
  refine J.aload_n (j := 0) hC eX11_number_0 rfl ?_
  refine J.callVI (st := []) hC eX11_number_1 kk_107 (by decide) rfl rfl ml_X11_91 mv_X11_ahead (Rle_of (Nat.le_of_ble_eq_true rfl) (Nat.le_of_ble_eq_true rfl)) (c_X11_ahead hC.X  μ) rfl rfl (Nat.le_of_ble_eq_true rfl) (fun r_2 μ_1 => ?_)
  refine J.callSI (st := []) hC eX11_number_4 ml_X11_94 mv_X11_isDigit (Rle_of (Nat.le_of_ble_eq_true rfl) (Nat.le_of_ble_eq_true rfl)) (c_X11_isDigit hC.X r_2 μ_1) rfl rfl (Nat.le_of_ble_eq_true rfl) (fun r_4 μ_3 => ?_)
  refine J.if_ne hC eX11_number_7 (fun _ => ?_) (fun _ => ?_)
  · refine J.aload_n (j := 0) hC eX11_number_10 rfl ?_
    refine J.callVV (st := []) hC eX11_number_11 kk_107 (by decide) rfl rfl ml_X11_98 mv_X11_bad (Rle_of (Nat.le_of_ble_eq_true rfl) (Nat.le_of_ble_eq_true rfl)) (c_X11_bad hC.X  μ_3) rfl rfl (Nat.le_of_ble_eq_true rfl) (fun r_6 μ_5 => ?_)
    refine J.iload_n (j := 2) hC eX11_number_14 rfl ?_
    exact J.iret hC hr eX11_number_15
  · refine J.iconst hC eX11_number_16 ci_0 ?_
    refine J.istore [(4, .int (0 : Int32)), (0, .ref (xad (cX C) 107)), (1, .int x1), (2, .int x2), (3, .int x3)] hC eX11_number_17 (by decide) rfl ?_
    refine J.iconst hC eX11_number_19 ci_0 ?_
    refine J.istore [(5, .int (0 : Int32)), (4, .int (0 : Int32)), (0, .ref (xad (cX C) 107)), (1, .int x1), (2, .int x2), (3, .int x3)] hC eX11_number_20 (by decide) rfl ?_
    refine J.sub [2, 3, 4, 5, 1, 0] rfl ?_
    exact j_X11_number_22 hC hr  100000 x1 x2 x3 (0 : Int32) (0 : Int32) μ_3
-- X11_itemOf
theorem eX11_itemOf_0 : DD cX11_itemOf 0 (.iload_n 0) 1 1 := ⟨by decide +kernel, rfl⟩
theorem eX11_itemOf_1 : DD cX11_itemOf 1 (.bipush 116) 2 3 := ⟨by decide +kernel, rfl⟩
theorem eX11_itemOf_3 : DB cX11_itemOf 3 (.if_icmp .ne 15) (15) 6 18 := ⟨by decide +kernel, rfl, by decide⟩
theorem eX11_itemOf_6 : DD cX11_itemOf 6 (.iload_n 1) 1 7 := ⟨by decide +kernel, rfl⟩
theorem eX11_itemOf_7 : DD cX11_itemOf 7 (.bipush 118) 2 9 := ⟨by decide +kernel, rfl⟩
theorem eX11_itemOf_9 : DB cX11_itemOf 9 (.if_icmp .ne 7) (7) 12 16 := ⟨by decide +kernel, rfl, by decide⟩
theorem eX11_itemOf_12 : DD cX11_itemOf 12 (.iconst 0) 1 13 := ⟨by decide +kernel, rfl⟩
theorem eX11_itemOf_13 : DB cX11_itemOf 13 (.goto 4) (4) 16 17 := ⟨by decide +kernel, rfl, by decide⟩
theorem eX11_itemOf_16 : DD cX11_itemOf 16 (.iconst (-1)) 1 17 := ⟨by decide +kernel, rfl⟩
theorem eX11_itemOf_17 : DD cX11_itemOf 17 (.ireturn) 1 18 := ⟨by decide +kernel, rfl⟩
theorem eX11_itemOf_18 : DD cX11_itemOf 18 (.iload_n 0) 1 19 := ⟨by decide +kernel, rfl⟩
theorem eX11_itemOf_19 : DD cX11_itemOf 19 (.bipush 115) 2 21 := ⟨by decide +kernel, rfl⟩
theorem eX11_itemOf_21 : DB cX11_itemOf 21 (.if_icmp .ne 35) (35) 24 56 := ⟨by decide +kernel, rfl, by decide⟩
theorem eX11_itemOf_24 : DD cX11_itemOf 24 (.iload_n 1) 1 25 := ⟨by decide +kernel, rfl⟩
theorem eX11_itemOf_25 : DD cX11_itemOf 25 (.bipush 98) 2 27 := ⟨by decide +kernel, rfl⟩
theorem eX11_itemOf_27 : DB cX11_itemOf 27 (.if_icmp .ne 7) (7) 30 34 := ⟨by decide +kernel, rfl, by decide⟩
theorem eX11_itemOf_30 : DD cX11_itemOf 30 (.iconst 0) 1 31 := ⟨by decide +kernel, rfl⟩
theorem eX11_itemOf_31 : DB cX11_itemOf 31 (.goto 24) (24) 34 55 := ⟨by decide +kernel, rfl, by decide⟩
theorem eX11_itemOf_34 : DD cX11_itemOf 34 (.iload_n 1) 1 35 := ⟨by decide +kernel, rfl⟩
theorem eX11_itemOf_35 : DD cX11_itemOf 35 (.bipush 100) 2 37 := ⟨by decide +kernel, rfl⟩
theorem eX11_itemOf_37 : DB cX11_itemOf 37 (.if_icmp .ne 7) (7) 40 44 := ⟨by decide +kernel, rfl, by decide⟩
theorem eX11_itemOf_40 : DD cX11_itemOf 40 (.iconst 1) 1 41 := ⟨by decide +kernel, rfl⟩
theorem eX11_itemOf_41 : DB cX11_itemOf 41 (.goto 14) (14) 44 55 := ⟨by decide +kernel, rfl, by decide⟩
theorem eX11_itemOf_44 : DD cX11_itemOf 44 (.iload_n 1) 1 45 := ⟨by decide +kernel, rfl⟩
theorem eX11_itemOf_45 : DD cX11_itemOf 45 (.bipush 113) 2 47 := ⟨by decide +kernel, rfl⟩
theorem eX11_itemOf_47 : DB cX11_itemOf 47 (.if_icmp .ne 7) (7) 50 54 := ⟨by decide +kernel, rfl, by decide⟩
theorem eX11_itemOf_50 : DD cX11_itemOf 50 (.iconst 2) 1 51 := ⟨by decide +kernel, rfl⟩
theorem eX11_itemOf_51 : DB cX11_itemOf 51 (.goto 4) (4) 54 55 := ⟨by decide +kernel, rfl, by decide⟩
theorem eX11_itemOf_54 : DD cX11_itemOf 54 (.iconst (-1)) 1 55 := ⟨by decide +kernel, rfl⟩
theorem eX11_itemOf_55 : DD cX11_itemOf 55 (.ireturn) 1 56 := ⟨by decide +kernel, rfl⟩
theorem eX11_itemOf_56 : DD cX11_itemOf 56 (.iload_n 1) 1 57 := ⟨by decide +kernel, rfl⟩
theorem eX11_itemOf_57 : DD cX11_itemOf 57 (.bipush 116) 2 59 := ⟨by decide +kernel, rfl⟩
theorem eX11_itemOf_59 : DB cX11_itemOf 59 (.if_icmp .ne 7) (7) 62 66 := ⟨by decide +kernel, rfl, by decide⟩
theorem eX11_itemOf_62 : DD cX11_itemOf 62 (.iconst 0) 1 63 := ⟨by decide +kernel, rfl⟩
theorem eX11_itemOf_63 : DB cX11_itemOf 63 (.goto 34) (34) 66 97 := ⟨by decide +kernel, rfl, by decide⟩
theorem eX11_itemOf_66 : DD cX11_itemOf 66 (.iload_n 1) 1 67 := ⟨by decide +kernel, rfl⟩
theorem eX11_itemOf_67 : DD cX11_itemOf 67 (.bipush 97) 2 69 := ⟨by decide +kernel, rfl⟩
theorem eX11_itemOf_69 : DB cX11_itemOf 69 (.if_icmp .ne 7) (7) 72 76 := ⟨by decide +kernel, rfl, by decide⟩
theorem eX11_itemOf_72 : DD cX11_itemOf 72 (.iconst 1) 1 73 := ⟨by decide +kernel, rfl⟩
theorem eX11_itemOf_73 : DB cX11_itemOf 73 (.goto 24) (24) 76 97 := ⟨by decide +kernel, rfl, by decide⟩
theorem eX11_itemOf_76 : DD cX11_itemOf 76 (.iload_n 1) 1 77 := ⟨by decide +kernel, rfl⟩
theorem eX11_itemOf_77 : DD cX11_itemOf 77 (.bipush 98) 2 79 := ⟨by decide +kernel, rfl⟩
theorem eX11_itemOf_79 : DB cX11_itemOf 79 (.if_icmp .ne 7) (7) 82 86 := ⟨by decide +kernel, rfl, by decide⟩
theorem eX11_itemOf_82 : DD cX11_itemOf 82 (.iconst 2) 1 83 := ⟨by decide +kernel, rfl⟩
theorem eX11_itemOf_83 : DB cX11_itemOf 83 (.goto 14) (14) 86 97 := ⟨by decide +kernel, rfl, by decide⟩
theorem eX11_itemOf_86 : DD cX11_itemOf 86 (.iload_n 1) 1 87 := ⟨by decide +kernel, rfl⟩
theorem eX11_itemOf_87 : DD cX11_itemOf 87 (.bipush 110) 2 89 := ⟨by decide +kernel, rfl⟩
theorem eX11_itemOf_89 : DB cX11_itemOf 89 (.if_icmp .ne 7) (7) 92 96 := ⟨by decide +kernel, rfl, by decide⟩
theorem eX11_itemOf_92 : DD cX11_itemOf 92 (.iconst 3) 1 93 := ⟨by decide +kernel, rfl⟩
theorem eX11_itemOf_93 : DB cX11_itemOf 93 (.goto 4) (4) 96 97 := ⟨by decide +kernel, rfl, by decide⟩
theorem eX11_itemOf_96 : DD cX11_itemOf 96 (.iconst (-1)) 1 97 := ⟨by decide +kernel, rfl⟩
theorem eX11_itemOf_97 : DD cX11_itemOf 97 (.ireturn) 1 98 := ⟨by decide +kernel, rfl⟩
def G_X11_itemOf (x0 : Int32) (x1 : Int32) (μ : Mem) : Option (Int32 × Mem) :=
  if x0 = (116 : Int32) then if x1 = (118 : Int32) then some ((0 : Int32), μ) else some ((-1 : Int32), μ) else if x0 = (115 : Int32) then if x1 = (98 : Int32) then some ((0 : Int32), μ) else if x1 = (100 : Int32) then some ((1 : Int32), μ) else if x1 = (113 : Int32) then some ((2 : Int32), μ) else some ((-1 : Int32), μ) else if x1 = (116 : Int32) then some ((0 : Int32), μ) else if x1 = (97 : Int32) then some ((1 : Int32), μ) else if x1 = (98 : Int32) then some ((2 : Int32), μ) else if x1 = (110 : Int32) then some ((3 : Int32), μ) else some ((-1 : Int32), μ)
set_option maxHeartbeats 4000000 in
theorem c_X11_itemOf {X : Wd} (hX : WdOk X) (x0 : Int32) (x1 : Int32) (μ : Mem) : CtI X yX11_itemOf cX11_itemOf 2 (some .int) (rmF 0 0) [.int x0, .int x1] μ (G_X11_itemOf x0 x1 μ) := by
  refine CtI.of hX (plainFor_of_name (by decide)) (by exact Nat.le_of_ble_eq_true rfl) ?_
  intro C hCX hC hr
  subst hCX
  show J C (KI C) μ 0 [(0, .int x0), (1, .int x1)] [] _
  unfold G_X11_itemOf
  refine J.iload_n (j := 0) hC eX11_itemOf_0 rfl ?_
  refine J.bipush hC eX11_itemOf_1 cb_116 ?_
  refine J.icmp_ne hC eX11_itemOf_3 (fun _ => ?_) (fun _ => ?_)
  · refine J.iload_n (j := 1) hC eX11_itemOf_6 rfl ?_
    refine J.bipush hC eX11_itemOf_7 cb_118 ?_
    refine J.icmp_ne hC eX11_itemOf_9 (fun _ => ?_) (fun _ => ?_)
    · refine J.iconst hC eX11_itemOf_12 ci_0 ?_
      refine J.goto hC eX11_itemOf_13 ?_
      exact J.iret hC hr eX11_itemOf_17
    · refine J.iconst hC eX11_itemOf_16 ci_m1 ?_
      exact J.iret hC hr eX11_itemOf_17
  · refine J.iload_n (j := 0) hC eX11_itemOf_18 rfl ?_
    refine J.bipush hC eX11_itemOf_19 cb_115 ?_
    refine J.icmp_ne hC eX11_itemOf_21 (fun _ => ?_) (fun _ => ?_)
    · refine J.iload_n (j := 1) hC eX11_itemOf_24 rfl ?_
      refine J.bipush hC eX11_itemOf_25 cb_98 ?_
      refine J.icmp_ne hC eX11_itemOf_27 (fun _ => ?_) (fun _ => ?_)
      · refine J.iconst hC eX11_itemOf_30 ci_0 ?_
        refine J.goto hC eX11_itemOf_31 ?_
        exact J.iret hC hr eX11_itemOf_55
      · refine J.iload_n (j := 1) hC eX11_itemOf_34 rfl ?_
        refine J.bipush hC eX11_itemOf_35 cb_100 ?_
        refine J.icmp_ne hC eX11_itemOf_37 (fun _ => ?_) (fun _ => ?_)
        · refine J.iconst hC eX11_itemOf_40 ci_1 ?_
          refine J.goto hC eX11_itemOf_41 ?_
          exact J.iret hC hr eX11_itemOf_55
        · refine J.iload_n (j := 1) hC eX11_itemOf_44 rfl ?_
          refine J.bipush hC eX11_itemOf_45 cb_113 ?_
          refine J.icmp_ne hC eX11_itemOf_47 (fun _ => ?_) (fun _ => ?_)
          · refine J.iconst hC eX11_itemOf_50 ci_2 ?_
            refine J.goto hC eX11_itemOf_51 ?_
            exact J.iret hC hr eX11_itemOf_55
          · refine J.iconst hC eX11_itemOf_54 ci_m1 ?_
            exact J.iret hC hr eX11_itemOf_55
    · refine J.iload_n (j := 1) hC eX11_itemOf_56 rfl ?_
      refine J.bipush hC eX11_itemOf_57 cb_116 ?_
      refine J.icmp_ne hC eX11_itemOf_59 (fun _ => ?_) (fun _ => ?_)
      · refine J.iconst hC eX11_itemOf_62 ci_0 ?_
        refine J.goto hC eX11_itemOf_63 ?_
        exact J.iret hC hr eX11_itemOf_97
      · refine J.iload_n (j := 1) hC eX11_itemOf_66 rfl ?_
        refine J.bipush hC eX11_itemOf_67 cb_97 ?_
        refine J.icmp_ne hC eX11_itemOf_69 (fun _ => ?_) (fun _ => ?_)
        · refine J.iconst hC eX11_itemOf_72 ci_1 ?_
          refine J.goto hC eX11_itemOf_73 ?_
          exact J.iret hC hr eX11_itemOf_97
        · refine J.iload_n (j := 1) hC eX11_itemOf_76 rfl ?_
          refine J.bipush hC eX11_itemOf_77 cb_98 ?_
          refine J.icmp_ne hC eX11_itemOf_79 (fun _ => ?_) (fun _ => ?_)
          · refine J.iconst hC eX11_itemOf_82 ci_2 ?_
            refine J.goto hC eX11_itemOf_83 ?_
            exact J.iret hC hr eX11_itemOf_97
          · refine J.iload_n (j := 1) hC eX11_itemOf_86 rfl ?_
            refine J.bipush hC eX11_itemOf_87 cb_110 ?_
            refine J.icmp_ne hC eX11_itemOf_89 (fun _ => ?_) (fun _ => ?_)
            · refine J.iconst hC eX11_itemOf_92 ci_3 ?_
              refine J.goto hC eX11_itemOf_93 ?_
              exact J.iret hC hr eX11_itemOf_97
            · refine J.iconst hC eX11_itemOf_96 ci_m1 ?_
              exact J.iret hC hr eX11_itemOf_97
-- X11_lowest
theorem eX11_lowest_0 : DD cX11_lowest 0 (.iload_n 0) 1 1 := ⟨by decide +kernel, rfl⟩
theorem eX11_lowest_1 : DD cX11_lowest 1 (.bipush 116) 2 3 := ⟨by decide +kernel, rfl⟩
theorem eX11_lowest_3 : DB cX11_lowest 3 (.if_icmp .ne 5) (5) 6 8 := ⟨by decide +kernel, rfl, by decide⟩
theorem eX11_lowest_6 : DD cX11_lowest 6 (.iconst 2) 1 7 := ⟨by decide +kernel, rfl⟩
theorem eX11_lowest_7 : DD cX11_lowest 7 (.ireturn) 1 8 := ⟨by decide +kernel, rfl⟩
theorem eX11_lowest_8 : DD cX11_lowest 8 (.iload_n 0) 1 9 := ⟨by decide +kernel, rfl⟩
theorem eX11_lowest_9 : DD cX11_lowest 9 (.bipush 115) 2 11 := ⟨by decide +kernel, rfl⟩
theorem eX11_lowest_11 : DB cX11_lowest 11 (.if_icmp .ne 16) (16) 14 27 := ⟨by decide +kernel, rfl, by decide⟩
theorem eX11_lowest_14 : DD cX11_lowest 14 (.iload_n 1) 1 15 := ⟨by decide +kernel, rfl⟩
theorem eX11_lowest_15 : DD cX11_lowest 15 (.iconst 1) 1 16 := ⟨by decide +kernel, rfl⟩
theorem eX11_lowest_16 : DB cX11_lowest 16 (.if_icmp .ne 7) (7) 19 23 := ⟨by decide +kernel, rfl, by decide⟩
theorem eX11_lowest_19 : DD cX11_lowest 19 (.iconst 0) 1 20 := ⟨by decide +kernel, rfl⟩
theorem eX11_lowest_20 : DB cX11_lowest 20 (.goto 17) (17) 23 37 := ⟨by decide +kernel, rfl, by decide⟩
theorem eX11_lowest_23 : DD cX11_lowest 23 (.iconst 1) 1 24 := ⟨by decide +kernel, rfl⟩
theorem eX11_lowest_24 : DB cX11_lowest 24 (.goto 13) (13) 27 37 := ⟨by decide +kernel, rfl, by decide⟩
theorem eX11_lowest_27 : DD cX11_lowest 27 (.iload_n 1) 1 28 := ⟨by decide +kernel, rfl⟩
theorem eX11_lowest_28 : DD cX11_lowest 28 (.iconst 3) 1 29 := ⟨by decide +kernel, rfl⟩
theorem eX11_lowest_29 : DB cX11_lowest 29 (.if_icmp .ne 7) (7) 32 36 := ⟨by decide +kernel, rfl, by decide⟩
theorem eX11_lowest_32 : DD cX11_lowest 32 (.iconst 1) 1 33 := ⟨by decide +kernel, rfl⟩
theorem eX11_lowest_33 : DB cX11_lowest 33 (.goto 4) (4) 36 37 := ⟨by decide +kernel, rfl, by decide⟩
theorem eX11_lowest_36 : DD cX11_lowest 36 (.iconst 0) 1 37 := ⟨by decide +kernel, rfl⟩
theorem eX11_lowest_37 : DD cX11_lowest 37 (.ireturn) 1 38 := ⟨by decide +kernel, rfl⟩
def G_X11_lowest (x0 : Int32) (x1 : Int32) (μ : Mem) : Option (Int32 × Mem) :=
  if x0 = (116 : Int32) then some ((2 : Int32), μ) else if x0 = (115 : Int32) then if x1 = (1 : Int32) then some ((0 : Int32), μ) else some ((1 : Int32), μ) else if x1 = (3 : Int32) then some ((1 : Int32), μ) else some ((0 : Int32), μ)
set_option maxHeartbeats 4000000 in
theorem c_X11_lowest {X : Wd} (hX : WdOk X) (x0 : Int32) (x1 : Int32) (μ : Mem) : CtI X yX11_lowest cX11_lowest 2 (some .int) (rmF 0 0) [.int x0, .int x1] μ (G_X11_lowest x0 x1 μ) := by
  refine CtI.of hX (plainFor_of_name (by decide)) (by exact Nat.le_of_ble_eq_true rfl) ?_
  intro C hCX hC hr
  subst hCX
  show J C (KI C) μ 0 [(0, .int x0), (1, .int x1)] [] _
  unfold G_X11_lowest
  refine J.iload_n (j := 0) hC eX11_lowest_0 rfl ?_
  refine J.bipush hC eX11_lowest_1 cb_116 ?_
  refine J.icmp_ne hC eX11_lowest_3 (fun _ => ?_) (fun _ => ?_)
  · refine J.iconst hC eX11_lowest_6 ci_2 ?_
    exact J.iret hC hr eX11_lowest_7
  · refine J.iload_n (j := 0) hC eX11_lowest_8 rfl ?_
    refine J.bipush hC eX11_lowest_9 cb_115 ?_
    refine J.icmp_ne hC eX11_lowest_11 (fun _ => ?_) (fun _ => ?_)
    · refine J.iload_n (j := 1) hC eX11_lowest_14 rfl ?_
      refine J.iconst hC eX11_lowest_15 ci_1 ?_
      refine J.icmp_ne hC eX11_lowest_16 (fun _ => ?_) (fun _ => ?_)
      · refine J.iconst hC eX11_lowest_19 ci_0 ?_
        refine J.goto hC eX11_lowest_20 ?_
        exact J.iret hC hr eX11_lowest_37
      · refine J.iconst hC eX11_lowest_23 ci_1 ?_
        refine J.goto hC eX11_lowest_24 ?_
        exact J.iret hC hr eX11_lowest_37
    · refine J.iload_n (j := 1) hC eX11_lowest_27 rfl ?_
      refine J.iconst hC eX11_lowest_28 ci_3 ?_
      refine J.icmp_ne hC eX11_lowest_29 (fun _ => ?_) (fun _ => ?_)
      · refine J.iconst hC eX11_lowest_32 ci_1 ?_
        refine J.goto hC eX11_lowest_33 ?_
        exact J.iret hC hr eX11_lowest_37
      · refine J.iconst hC eX11_lowest_36 ci_0 ?_
        exact J.iret hC hr eX11_lowest_37
-- X11_highest
theorem eX11_highest_0 : DD cX11_highest 0 (.iload_n 0) 1 1 := ⟨by decide +kernel, rfl⟩
theorem eX11_highest_1 : DD cX11_highest 1 (.bipush 116) 2 3 := ⟨by decide +kernel, rfl⟩
theorem eX11_highest_3 : DB cX11_highest 3 (.if_icmp .ne 6) (6) 6 9 := ⟨by decide +kernel, rfl, by decide⟩
theorem eX11_highest_6 : DD cX11_highest 6 (.bipush 16) 2 8 := ⟨by decide +kernel, rfl⟩
theorem eX11_highest_8 : DD cX11_highest 8 (.ireturn) 1 9 := ⟨by decide +kernel, rfl⟩
theorem eX11_highest_9 : DD cX11_highest 9 (.iload_n 0) 1 10 := ⟨by decide +kernel, rfl⟩
theorem eX11_highest_10 : DD cX11_highest 10 (.bipush 115) 2 12 := ⟨by decide +kernel, rfl⟩
theorem eX11_highest_12 : DB cX11_highest 12 (.if_icmp .ne 26) (26) 15 38 := ⟨by decide +kernel, rfl, by decide⟩
theorem eX11_highest_15 : DD cX11_highest 15 (.iload_n 1) 1 16 := ⟨by decide +kernel, rfl⟩
theorem eX11_highest_16 : DB cX11_highest 16 (.ifCond .ne 8) (8) 19 24 := ⟨by decide +kernel, rfl, by decide⟩
theorem eX11_highest_19 : DD cX11_highest 19 (.bipush 8) 2 21 := ⟨by decide +kernel, rfl⟩
theorem eX11_highest_21 : DB cX11_highest 21 (.goto 16) (16) 24 37 := ⟨by decide +kernel, rfl, by decide⟩
theorem eX11_highest_24 : DD cX11_highest 24 (.iload_n 1) 1 25 := ⟨by decide +kernel, rfl⟩
theorem eX11_highest_25 : DD cX11_highest 25 (.iconst 1) 1 26 := ⟨by decide +kernel, rfl⟩
theorem eX11_highest_26 : DB cX11_highest 26 (.if_icmp .ne 8) (8) 29 34 := ⟨by decide +kernel, rfl, by decide⟩
theorem eX11_highest_29 : DD cX11_highest 29 (.bipush 99) 2 31 := ⟨by decide +kernel, rfl⟩
theorem eX11_highest_31 : DB cX11_highest 31 (.goto 6) (6) 34 37 := ⟨by decide +kernel, rfl, by decide⟩
theorem eX11_highest_34 : DD cX11_highest 34 (.sipush 999) 3 37 := ⟨by decide +kernel, rfl⟩
theorem eX11_highest_37 : DD cX11_highest 37 (.ireturn) 1 38 := ⟨by decide +kernel, rfl⟩
theorem eX11_highest_38 : DD cX11_highest 38 (.iload_n 1) 1 39 := ⟨by decide +kernel, rfl⟩
theorem eX11_highest_39 : DB cX11_highest 39 (.ifCond .ne 7) (7) 42 46 := ⟨by decide +kernel, rfl, by decide⟩
theorem eX11_highest_42 : DD cX11_highest 42 (.iconst 2) 1 43 := ⟨by decide +kernel, rfl⟩
theorem eX11_highest_43 : DB cX11_highest 43 (.goto 15) (15) 46 58 := ⟨by decide +kernel, rfl, by decide⟩
theorem eX11_highest_46 : DD cX11_highest 46 (.iload_n 1) 1 47 := ⟨by decide +kernel, rfl⟩
theorem eX11_highest_47 : DD cX11_highest 47 (.iconst 3) 1 48 := ⟨by decide +kernel, rfl⟩
theorem eX11_highest_48 : DB cX11_highest 48 (.if_icmp .ne 8) (8) 51 56 := ⟨by decide +kernel, rfl, by decide⟩
theorem eX11_highest_51 : DD cX11_highest 51 (.bipush 40) 2 53 := ⟨by decide +kernel, rfl⟩
theorem eX11_highest_53 : DB cX11_highest 53 (.goto 5) (5) 56 58 := ⟨by decide +kernel, rfl, by decide⟩
theorem eX11_highest_56 : DD cX11_highest 56 (.bipush 15) 2 58 := ⟨by decide +kernel, rfl⟩
theorem eX11_highest_58 : DD cX11_highest 58 (.ireturn) 1 59 := ⟨by decide +kernel, rfl⟩
def G_X11_highest (x0 : Int32) (x1 : Int32) (μ : Mem) : Option (Int32 × Mem) :=
  if x0 = (116 : Int32) then some ((16 : Int32), μ) else if x0 = (115 : Int32) then if x1 = 0 then some ((8 : Int32), μ) else if x1 = (1 : Int32) then some ((99 : Int32), μ) else some ((999 : Int32), μ) else if x1 = 0 then some ((2 : Int32), μ) else if x1 = (3 : Int32) then some ((40 : Int32), μ) else some ((15 : Int32), μ)
set_option maxHeartbeats 4000000 in
theorem c_X11_highest {X : Wd} (hX : WdOk X) (x0 : Int32) (x1 : Int32) (μ : Mem) : CtI X yX11_highest cX11_highest 2 (some .int) (rmF 0 0) [.int x0, .int x1] μ (G_X11_highest x0 x1 μ) := by
  refine CtI.of hX (plainFor_of_name (by decide)) (by exact Nat.le_of_ble_eq_true rfl) ?_
  intro C hCX hC hr
  subst hCX
  show J C (KI C) μ 0 [(0, .int x0), (1, .int x1)] [] _
  unfold G_X11_highest
  refine J.iload_n (j := 0) hC eX11_highest_0 rfl ?_
  refine J.bipush hC eX11_highest_1 cb_116 ?_
  refine J.icmp_ne hC eX11_highest_3 (fun _ => ?_) (fun _ => ?_)
  · refine J.bipush hC eX11_highest_6 cb_16 ?_
    exact J.iret hC hr eX11_highest_8
  · refine J.iload_n (j := 0) hC eX11_highest_9 rfl ?_
    refine J.bipush hC eX11_highest_10 cb_115 ?_
    refine J.icmp_ne hC eX11_highest_12 (fun _ => ?_) (fun _ => ?_)
    · refine J.iload_n (j := 1) hC eX11_highest_15 rfl ?_
      refine J.if_ne hC eX11_highest_16 (fun _ => ?_) (fun _ => ?_)
      · refine J.bipush hC eX11_highest_19 cb_8 ?_
        refine J.goto hC eX11_highest_21 ?_
        exact J.iret hC hr eX11_highest_37
      · refine J.iload_n (j := 1) hC eX11_highest_24 rfl ?_
        refine J.iconst hC eX11_highest_25 ci_1 ?_
        refine J.icmp_ne hC eX11_highest_26 (fun _ => ?_) (fun _ => ?_)
        · refine J.bipush hC eX11_highest_29 cb_99 ?_
          refine J.goto hC eX11_highest_31 ?_
          exact J.iret hC hr eX11_highest_37
        · refine J.sipush hC eX11_highest_34 cs_999 ?_
          exact J.iret hC hr eX11_highest_37
    · refine J.iload_n (j := 1) hC eX11_highest_38 rfl ?_
      refine J.if_ne hC eX11_highest_39 (fun _ => ?_) (fun _ => ?_)
      · refine J.iconst hC eX11_highest_42 ci_2 ?_
        refine J.goto hC eX11_highest_43 ?_
        exact J.iret hC hr eX11_highest_58
      · refine J.iload_n (j := 1) hC eX11_highest_46 rfl ?_
        refine J.iconst hC eX11_highest_47 ci_3 ?_
        refine J.icmp_ne hC eX11_highest_48 (fun _ => ?_) (fun _ => ?_)
        · refine J.bipush hC eX11_highest_51 cb_40 ?_
          refine J.goto hC eX11_highest_53 ?_
          exact J.iret hC hr eX11_highest_58
        · refine J.bipush hC eX11_highest_56 cb_15 ?_
          exact J.iret hC hr eX11_highest_58
-- X11_usual
theorem eX11_usual_0 : DD cX11_usual 0 (.iload_n 0) 1 1 := ⟨by decide +kernel, rfl⟩
theorem eX11_usual_1 : DD cX11_usual 1 (.bipush 116) 2 3 := ⟨by decide +kernel, rfl⟩
theorem eX11_usual_3 : DB cX11_usual 3 (.if_icmp .ne 6) (6) 6 9 := ⟨by decide +kernel, rfl, by decide⟩
theorem eX11_usual_6 : DD cX11_usual 6 (.bipush 8) 2 8 := ⟨by decide +kernel, rfl⟩
theorem eX11_usual_8 : DD cX11_usual 8 (.ireturn) 1 9 := ⟨by decide +kernel, rfl⟩
theorem eX11_usual_9 : DD cX11_usual 9 (.iload_n 0) 1 10 := ⟨by decide +kernel, rfl⟩
theorem eX11_usual_10 : DD cX11_usual 10 (.bipush 115) 2 12 := ⟨by decide +kernel, rfl⟩
theorem eX11_usual_12 : DB cX11_usual 12 (.if_icmp .ne 25) (25) 15 37 := ⟨by decide +kernel, rfl, by decide⟩
theorem eX11_usual_15 : DD cX11_usual 15 (.iload_n 1) 1 16 := ⟨by decide +kernel, rfl⟩
theorem eX11_usual_16 : DB cX11_usual 16 (.ifCond .ne 7) (7) 19 23 := ⟨by decide +kernel, rfl, by decide⟩
theorem eX11_usual_19 : DD cX11_usual 19 (.iconst 3) 1 20 := ⟨by decide +kernel, rfl⟩
theorem eX11_usual_20 : DB cX11_usual 20 (.goto 16) (16) 23 36 := ⟨by decide +kernel, rfl, by decide⟩
theorem eX11_usual_23 : DD cX11_usual 23 (.iload_n 1) 1 24 := ⟨by decide +kernel, rfl⟩
theorem eX11_usual_24 : DD cX11_usual 24 (.iconst 1) 1 25 := ⟨by decide +kernel, rfl⟩
theorem eX11_usual_25 : DB cX11_usual 25 (.if_icmp .ne 8) (8) 28 33 := ⟨by decide +kernel, rfl, by decide⟩
theorem eX11_usual_28 : DD cX11_usual 28 (.bipush 20) 2 30 := ⟨by decide +kernel, rfl⟩
theorem eX11_usual_30 : DB cX11_usual 30 (.goto 6) (6) 33 36 := ⟨by decide +kernel, rfl, by decide⟩
theorem eX11_usual_33 : DD cX11_usual 33 (.sipush 999) 3 36 := ⟨by decide +kernel, rfl⟩
theorem eX11_usual_36 : DD cX11_usual 36 (.ireturn) 1 37 := ⟨by decide +kernel, rfl⟩
theorem eX11_usual_37 : DD cX11_usual 37 (.iload_n 1) 1 38 := ⟨by decide +kernel, rfl⟩
theorem eX11_usual_38 : DB cX11_usual 38 (.ifCond .ne 7) (7) 41 45 := ⟨by decide +kernel, rfl, by decide⟩
theorem eX11_usual_41 : DD cX11_usual 41 (.iconst 0) 1 42 := ⟨by decide +kernel, rfl⟩
theorem eX11_usual_42 : DB cX11_usual 42 (.goto 13) (13) 45 55 := ⟨by decide +kernel, rfl, by decide⟩
theorem eX11_usual_45 : DD cX11_usual 45 (.iload_n 1) 1 46 := ⟨by decide +kernel, rfl⟩
theorem eX11_usual_46 : DD cX11_usual 46 (.iconst 3) 1 47 := ⟨by decide +kernel, rfl⟩
theorem eX11_usual_47 : DB cX11_usual 47 (.if_icmp .ne 7) (7) 50 54 := ⟨by decide +kernel, rfl, by decide⟩
theorem eX11_usual_50 : DD cX11_usual 50 (.iconst 1) 1 51 := ⟨by decide +kernel, rfl⟩
theorem eX11_usual_51 : DB cX11_usual 51 (.goto 4) (4) 54 55 := ⟨by decide +kernel, rfl, by decide⟩
theorem eX11_usual_54 : DD cX11_usual 54 (.iconst (-1)) 1 55 := ⟨by decide +kernel, rfl⟩
theorem eX11_usual_55 : DD cX11_usual 55 (.ireturn) 1 56 := ⟨by decide +kernel, rfl⟩
def G_X11_usual (x0 : Int32) (x1 : Int32) (μ : Mem) : Option (Int32 × Mem) :=
  if x0 = (116 : Int32) then some ((8 : Int32), μ) else if x0 = (115 : Int32) then if x1 = 0 then some ((3 : Int32), μ) else if x1 = (1 : Int32) then some ((20 : Int32), μ) else some ((999 : Int32), μ) else if x1 = 0 then some ((0 : Int32), μ) else if x1 = (3 : Int32) then some ((1 : Int32), μ) else some ((-1 : Int32), μ)
set_option maxHeartbeats 4000000 in
theorem c_X11_usual {X : Wd} (hX : WdOk X) (x0 : Int32) (x1 : Int32) (μ : Mem) : CtI X yX11_usual cX11_usual 2 (some .int) (rmF 0 0) [.int x0, .int x1] μ (G_X11_usual x0 x1 μ) := by
  refine CtI.of hX (plainFor_of_name (by decide)) (by exact Nat.le_of_ble_eq_true rfl) ?_
  intro C hCX hC hr
  subst hCX
  show J C (KI C) μ 0 [(0, .int x0), (1, .int x1)] [] _
  unfold G_X11_usual
  refine J.iload_n (j := 0) hC eX11_usual_0 rfl ?_
  refine J.bipush hC eX11_usual_1 cb_116 ?_
  refine J.icmp_ne hC eX11_usual_3 (fun _ => ?_) (fun _ => ?_)
  · refine J.bipush hC eX11_usual_6 cb_8 ?_
    exact J.iret hC hr eX11_usual_8
  · refine J.iload_n (j := 0) hC eX11_usual_9 rfl ?_
    refine J.bipush hC eX11_usual_10 cb_115 ?_
    refine J.icmp_ne hC eX11_usual_12 (fun _ => ?_) (fun _ => ?_)
    · refine J.iload_n (j := 1) hC eX11_usual_15 rfl ?_
      refine J.if_ne hC eX11_usual_16 (fun _ => ?_) (fun _ => ?_)
      · refine J.iconst hC eX11_usual_19 ci_3 ?_
        refine J.goto hC eX11_usual_20 ?_
        exact J.iret hC hr eX11_usual_36
      · refine J.iload_n (j := 1) hC eX11_usual_23 rfl ?_
        refine J.iconst hC eX11_usual_24 ci_1 ?_
        refine J.icmp_ne hC eX11_usual_25 (fun _ => ?_) (fun _ => ?_)
        · refine J.bipush hC eX11_usual_28 cb_20 ?_
          refine J.goto hC eX11_usual_30 ?_
          exact J.iret hC hr eX11_usual_36
        · refine J.sipush hC eX11_usual_33 cs_999 ?_
          exact J.iret hC hr eX11_usual_36
    · refine J.iload_n (j := 1) hC eX11_usual_37 rfl ?_
      refine J.if_ne hC eX11_usual_38 (fun _ => ?_) (fun _ => ?_)
      · refine J.iconst hC eX11_usual_41 ci_0 ?_
        refine J.goto hC eX11_usual_42 ?_
        exact J.iret hC hr eX11_usual_55
      · refine J.iload_n (j := 1) hC eX11_usual_45 rfl ?_
        refine J.iconst hC eX11_usual_46 ci_3 ?_
        refine J.icmp_ne hC eX11_usual_47 (fun _ => ?_) (fun _ => ?_)
        · refine J.iconst hC eX11_usual_50 ci_1 ?_
          refine J.goto hC eX11_usual_51 ?_
          exact J.iret hC hr eX11_usual_55
        · refine J.iconst hC eX11_usual_54 ci_m1 ?_
          exact J.iret hC hr eX11_usual_55
-- X11_items
theorem eX11_items_0 : DD cX11_items 0 (.iconst 0) 1 1 := ⟨by decide +kernel, rfl⟩
theorem eX11_items_1 : DD cX11_items 1 (.istore 5) 2 3 := ⟨by decide +kernel, rfl⟩
theorem eX11_items_3 : DD cX11_items 3 (.iload 5) 2 5 := ⟨by decide +kernel, rfl⟩
theorem eX11_items_5 : DD cX11_items 5 (.iload 4) 2 7 := ⟨by decide +kernel, rfl⟩
theorem eX11_items_7 : DB cX11_items 7 (.if_icmp .ge 21) (21) 10 28 := ⟨by decide +kernel, rfl, by decide⟩
theorem eX11_items_10 : DD cX11_items 10 (.aload_n 2) 1 11 := ⟨by decide +kernel, rfl⟩
theorem eX11_items_11 : DD cX11_items 11 (.iload_n 3) 1 12 := ⟨by decide +kernel, rfl⟩
theorem eX11_items_12 : DD cX11_items 12 (.iload 5) 2 14 := ⟨by decide +kernel, rfl⟩
theorem eX11_items_14 : DD cX11_items 14 (.iadd) 1 15 := ⟨by decide +kernel, rfl⟩
theorem eX11_items_15 : DD cX11_items 15 (.iload_n 1) 1 16 := ⟨by decide +kernel, rfl⟩
theorem eX11_items_16 : DD cX11_items 16 (.iload 5) 2 18 := ⟨by decide +kernel, rfl⟩
theorem eX11_items_18 : DD cX11_items 18 (.invokestatic 101) 3 21 := ⟨by decide +kernel, rfl⟩
theorem eX11_items_21 : DD cX11_items 21 (.iastore) 1 22 := ⟨by decide +kernel, rfl⟩
theorem eX11_items_22 : DD cX11_items 22 (.iinc 5 1) 3 25 := ⟨by decide +kernel, rfl⟩
theorem eX11_items_25 : DB cX11_items 25 (.goto (-22)) (-22) 28 3 := ⟨by decide +kernel, rfl, by decide⟩
theorem eX11_items_28 : DD cX11_items 28 (.iconst 0) 1 29 := ⟨by decide +kernel, rfl⟩
theorem eX11_items_29 : DD cX11_items 29 (.istore 5) 2 31 := ⟨by decide +kernel, rfl⟩
theorem eX11_items_31 : DD cX11_items 31 (.iload_n 1) 1 32 := ⟨by decide +kernel, rfl⟩
theorem eX11_items_32 : DD cX11_items 32 (.aload_n 0) 1 33 := ⟨by decide +kernel, rfl⟩
theorem eX11_items_33 : DD cX11_items 33 (.invokevirtual 91) 3 36 := ⟨by decide +kernel, rfl⟩
theorem eX11_items_36 : DD cX11_items 36 (.invokestatic 105) 3 39 := ⟨by decide +kernel, rfl⟩
theorem eX11_items_39 : DD cX11_items 39 (.istore 6) 2 41 := ⟨by decide +kernel, rfl⟩
theorem eX11_items_41 : DD cX11_items 41 (.aload_n 0) 1 42 := ⟨by decide +kernel, rfl⟩
theorem eX11_items_42 : DD cX11_items 42 (.getfield 88) 3 45 := ⟨by decide +kernel, rfl⟩
theorem eX11_items_45 : DD cX11_items 45 (.iconst (-1)) 1 46 := ⟨by decide +kernel, rfl⟩
theorem eX11_items_46 : DB cX11_items 46 (.if_icmp .ne 86) (86) 49 132 := ⟨by decide +kernel, rfl, by decide⟩
theorem eX11_items_49 : DD cX11_items 49 (.iload 6) 2 51 := ⟨by decide +kernel, rfl⟩
theorem eX11_items_51 : DD cX11_items 51 (.iconst (-1)) 1 52 := ⟨by decide +kernel, rfl⟩
theorem eX11_items_52 : DB cX11_items 52 (.if_icmp .eq 80) (80) 55 132 := ⟨by decide +kernel, rfl, by decide⟩
theorem eX11_items_55 : DD cX11_items 55 (.iload 5) 2 57 := ⟨by decide +kernel, rfl⟩
theorem eX11_items_57 : DD cX11_items 57 (.iload 6) 2 59 := ⟨by decide +kernel, rfl⟩
theorem eX11_items_59 : DD cX11_items 59 (.invokestatic 108) 3 62 := ⟨by decide +kernel, rfl⟩
theorem eX11_items_62 : DB cX11_items 62 (.ifCond .ne 70) (70) 65 132 := ⟨by decide +kernel, rfl, by decide⟩
theorem eX11_items_65 : DD cX11_items 65 (.iload 5) 2 67 := ⟨by decide +kernel, rfl⟩
theorem eX11_items_67 : DD cX11_items 67 (.iconst 1) 1 68 := ⟨by decide +kernel, rfl⟩
theorem eX11_items_68 : DD cX11_items 68 (.iload 6) 2 70 := ⟨by decide +kernel, rfl⟩
theorem eX11_items_70 : DD cX11_items 70 (.ishl) 1 71 := ⟨by decide +kernel, rfl⟩
theorem eX11_items_71 : DD cX11_items 71 (.ior) 1 72 := ⟨by decide +kernel, rfl⟩
theorem eX11_items_72 : DD cX11_items 72 (.istore 5) 2 74 := ⟨by decide +kernel, rfl⟩
theorem eX11_items_74 : DD cX11_items 74 (.aload_n 0) 1 75 := ⟨by decide +kernel, rfl⟩
theorem eX11_items_75 : DD cX11_items 75 (.dup) 1 76 := ⟨by decide +kernel, rfl⟩
theorem eX11_items_76 : DD cX11_items 76 (.getfield 81) 3 79 := ⟨by decide +kernel, rfl⟩
theorem eX11_items_79 : DD cX11_items 79 (.iconst 1) 1 80 := ⟨by decide +kernel, rfl⟩
theorem eX11_items_80 : DD cX11_items 80 (.iadd) 1 81 := ⟨by decide +kernel, rfl⟩
theorem eX11_items_81 : DD cX11_items 81 (.putfield 81) 3 84 := ⟨by decide +kernel, rfl⟩
theorem eX11_items_84 : DD cX11_items 84 (.aload_n 2) 1 85 := ⟨by decide +kernel, rfl⟩
theorem eX11_items_85 : DD cX11_items 85 (.iload_n 3) 1 86 := ⟨by decide +kernel, rfl⟩
theorem eX11_items_86 : DD cX11_items 86 (.iload 6) 2 88 := ⟨by decide +kernel, rfl⟩
theorem eX11_items_88 : DD cX11_items 88 (.iadd) 1 89 := ⟨by decide +kernel, rfl⟩
theorem eX11_items_89 : DD cX11_items 89 (.aload_n 0) 1 90 := ⟨by decide +kernel, rfl⟩
theorem eX11_items_90 : DD cX11_items 90 (.iconst 3) 1 91 := ⟨by decide +kernel, rfl⟩
theorem eX11_items_91 : DD cX11_items 91 (.iload_n 1) 1 92 := ⟨by decide +kernel, rfl⟩
theorem eX11_items_92 : DD cX11_items 92 (.iload 6) 2 94 := ⟨by decide +kernel, rfl⟩
theorem eX11_items_94 : DD cX11_items 94 (.invokestatic 112) 3 97 := ⟨by decide +kernel, rfl⟩
theorem eX11_items_97 : DD cX11_items 97 (.iload_n 1) 1 98 := ⟨by decide +kernel, rfl⟩
theorem eX11_items_98 : DD cX11_items 98 (.iload 6) 2 100 := ⟨by decide +kernel, rfl⟩
theorem eX11_items_100 : DD cX11_items 100 (.invokestatic 115) 3 103 := ⟨by decide +kernel, rfl⟩
theorem eX11_items_103 : DD cX11_items 103 (.invokevirtual 118) 3 106 := ⟨by decide +kernel, rfl⟩
theorem eX11_items_106 : DD cX11_items 106 (.iastore) 1 107 := ⟨by decide +kernel, rfl⟩
theorem eX11_items_107 : DD cX11_items 107 (.aload_n 0) 1 108 := ⟨by decide +kernel, rfl⟩
theorem eX11_items_108 : DD cX11_items 108 (.getfield 88) 3 111 := ⟨by decide +kernel, rfl⟩
theorem eX11_items_111 : DD cX11_items 111 (.iconst (-1)) 1 112 := ⟨by decide +kernel, rfl⟩
theorem eX11_items_112 : DB cX11_items 112 (.if_icmp .ne 14) (14) 115 126 := ⟨by decide +kernel, rfl, by decide⟩
theorem eX11_items_115 : DD cX11_items 115 (.iload_n 1) 1 116 := ⟨by decide +kernel, rfl⟩
theorem eX11_items_116 : DD cX11_items 116 (.aload_n 0) 1 117 := ⟨by decide +kernel, rfl⟩
theorem eX11_items_117 : DD cX11_items 117 (.invokevirtual 91) 3 120 := ⟨by decide +kernel, rfl⟩
theorem eX11_items_120 : DD cX11_items 120 (.invokestatic 105) 3 123 := ⟨by decide +kernel, rfl⟩
theorem eX11_items_123 : DB cX11_items 123 (.goto 4) (4) 126 127 := ⟨by decide +kernel, rfl, by decide⟩
theorem eX11_items_126 : DD cX11_items 126 (.iconst (-1)) 1 127 := ⟨by decide +kernel, rfl⟩
theorem eX11_items_127 : DD cX11_items 127 (.istore 6) 2 129 := ⟨by decide +kernel, rfl⟩
theorem eX11_items_129 : DB cX11_items 129 (.goto (-88)) (-88) 132 41 := ⟨by decide +kernel, rfl, by decide⟩
theorem eX11_items_132 : DD cX11_items 132 (.return_) 1 133 := ⟨by decide +kernel, rfl⟩
def F_X11_items_127 (kc_41 : Int32 → Nat → Nat → Nat → Int32 → Int32 → Int32 → Mem → Option (Unit × Mem)) (x1 : Int32) (k2 : Nat) (n2 : Nat) (p2 : Nat) (x3 : Int32) (x5 : Int32) (xs0 : Int32) (μ : Mem) : Option (Unit × Mem) :=
  kc_41 x1 k2 n2 p2 x3 x5 xs0 μ
set_option maxHeartbeats 4000000 in
theorem j_X11_items_127 {C : Cx} (hC : Ok C cX11_items 7 RX11 (rmF 3 65)) (hr : (cT C).sig.returnType = none) (kc_41 : Int32 → Nat → Nat → Nat → Int32 → Int32 → Int32 → Mem → Option (Unit × Mem)) (hk_41 : ∀ (x1 : Int32) (k2 : Nat) (n2 : Nat) (hk2 : isI k2 n2) (p2 : Nat) (h2 : kd p2 = k2) (x3 : Int32) (x5 : Int32) (x6 : Int32) (μ : Mem), J C (KV C) μ 41 [(0, .ref (xad (cX C) 107)), (1, .int x1), (2, .ref (xad (cX C) p2)), (3, .int x3), (5, .int x5), (6, .int x6)] [] (kc_41 x1 k2 n2 p2 x3 x5 x6 μ)) (x1 : Int32) (k2 : Nat) (n2 : Nat) (hk2 : isI k2 n2) (p2 : Nat) (h2 : kd p2 = k2) (x3 : Int32) (x5 : Int32) (xs0 : Int32) (μ : Mem) : J C (KV C) μ 127 [(0, .ref (xad (cX C) 107)), (1, .int x1), (2, .ref (xad (cX C) p2)), (3, .int x3), (5, .int x5)] [.int xs0] (F_X11_items_127 kc_41 x1 k2 n2 p2 x3 x5 xs0 μ) := by
  unfold F_X11_items_127
  refine J.istore [(6, .int xs0), (0, .ref (xad (cX C) 107)), (1, .int x1), (2, .ref (xad (cX C) p2)), (3, .int x3), (5, .int x5)] hC eX11_items_127 (by decide) rfl ?_
  refine J.goto hC eX11_items_129 ?_
  refine J.sub [1, 2, 3, 4, 5, 0] rfl ?_
  exact hk_41 x1 k2 n2 hk2 p2 h2 x3 x5 xs0 μ
def L_X11_items_41 : Nat → Int32 → Nat → Nat → Nat → Int32 → Int32 → Int32 → Mem → Option (Unit × Mem)
  | 0, _, _, _, _, _, _, _, _ => none
  | n + 1, x1, k2, n2, p2, x3, x5, x6, μ => if (rI μ 107 4) = (-1 : Int32) then if x6 = (-1 : Int32) then some ((), μ) else bd (G_X11_has x5 x6 μ) (fun r_2 μ_1 => if r_2 = 0 then lb (x5 ||| ((1 : Int32) <<< (x6 &&& 31))) (fun x5_3 => lb (wI μ_1 107 3 ((rI μ_1 107 3) + (1 : Int32))) (fun μ_4 => bd (G_X11_lowest x1 x6 μ_4) (fun r_6 μ_5 => bd (G_X11_highest x1 x6 μ_5) (fun r_8 μ_7 => bd (G_X11_number (3 : Int32) r_6 r_8 μ_7) (fun r_10 μ_9 => gq (inB (x3 + x6) n2) (lb (wI μ_9 p2 (nx (x3 + x6)) r_10) (fun μ_11 => if (rI μ_11 107 4) = (-1 : Int32) then bd (G_X11_ahead  μ_11) (fun r_13 μ_12 => bd (G_X11_itemOf x1 r_13 μ_12) (fun r_15 μ_14 => F_X11_items_127 (L_X11_items_41  n) x1 k2 n2 p2 x3 x5_3 r_15 μ_14)) else F_X11_items_127 (L_X11_items_41  n) x1 k2 n2 p2 x3 x5_3 (-1 : Int32) μ_11))))))) else some ((), μ_1)) else some ((), μ)
set_option maxHeartbeats 4000000 in
theorem j_X11_items_41 {C : Cx} (hC : Ok C cX11_items 7 RX11 (rmF 3 65)) (hr : (cT C).sig.returnType = none) : ∀ (n : Nat) (x1 : Int32) (k2 : Nat) (n2 : Nat) (hk2 : isI k2 n2) (p2 : Nat) (h2 : kd p2 = k2) (x3 : Int32) (x5 : Int32) (x6 : Int32) (μ : Mem), J C (KV C) μ 41 [(0, .ref (xad (cX C) 107)), (1, .int x1), (2, .ref (xad (cX C) p2)), (3, .int x3), (5, .int x5), (6, .int x6)] [] (L_X11_items_41  n x1 k2 n2 p2 x3 x5 x6 μ) := by
  intro n
  induction n with
  | zero => intros; exact J.no
  | succ n ih =>
    intro x1 k2 n2 hk2 p2 h2 x3 x5 x6 μ
    rw [L_X11_items_41]
    refine J.aload_n (j := 0) hC eX11_items_41 rfl ?_
    refine gf_X11_88 hC eX11_items_42 kk_107 ?_
    refine J.iconst hC eX11_items_45 ci_m1 ?_
    refine J.icmp_ne hC eX11_items_46 (fun _ => ?_) (fun _ => ?_)
    · refine J.iload (j := 5) hC eX11_items_49 rfl ?_
      refine J.iconst hC eX11_items_51 ci_m1 ?_
      refine J.icmp_eq hC eX11_items_52 (fun _ => ?_) (fun _ => ?_)
      · exact J.vret hC hr eX11_items_132
      · refine J.iload (j := 4) hC eX11_items_55 rfl ?_
        refine J.iload (j := 5) hC eX11_items_57 rfl ?_
        refine J.callSI (st := []) hC eX11_items_59 ml_X11_108 mv_X11_has (Rle_of (Nat.le_of_ble_eq_true rfl) (Nat.le_of_ble_eq_true rfl)) (c_X11_has hC.X x5 x6 μ) rfl rfl (Nat.le_of_ble_eq_true rfl) (fun r_2 μ_1 => ?_)
        refine J.if_ne hC eX11_items_62 (fun _ => ?_) (fun _ => ?_)
        · refine J.iload (j := 4) hC eX11_items_65 rfl ?_
          refine J.iconst hC eX11_items_67 ci_1 ?_
          refine J.iload (j := 5) hC eX11_items_68 rfl ?_
          refine J.ishl hC eX11_items_70 ?_
          refine J.ior hC eX11_items_71 ?_
          refine J.topi (fun x5_3 => ?_)
          refine J.istore [(5, .int x5_3), (0, .ref (xad (cX C) 107)), (1, .int x1), (2, .ref (xad (cX C) p2)), (3, .int x3), (6, .int x6)] hC eX11_items_72 (by decide) rfl ?_
          refine J.aload_n (j := 1) hC eX11_items_74 rfl ?_
          refine J.dup hC eX11_items_75 rfl ?_
          refine gf_X11_81 hC eX11_items_76 kk_107 ?_
          refine J.iconst hC eX11_items_79 ci_1 ?_
          refine J.iadd hC eX11_items_80 ?_
          refine pf_X11_81 hC eX11_items_81 kk_107 (fun μ_4 => ?_)
          refine J.aload_n (j := 3) hC eX11_items_84 rfl ?_
          refine J.iload_n (j := 4) hC eX11_items_85 rfl ?_
          refine J.iload (j := 5) hC eX11_items_86 rfl ?_
          refine J.iadd hC eX11_items_88 ?_
          refine J.aload_n (j := 1) hC eX11_items_89 rfl ?_
          refine J.iconst hC eX11_items_90 ci_3 ?_
          refine J.iload_n (j := 2) hC eX11_items_91 rfl ?_
          refine J.iload (j := 5) hC eX11_items_92 rfl ?_
          refine J.callSI (st := [.int (3 : Int32), .ref (xad (cX C) 107), .int (x3 + x6), .ref (xad (cX C) p2)]) hC eX11_items_94 ml_X11_112 mv_X11_lowest (Rle_of (Nat.le_of_ble_eq_true rfl) (Nat.le_of_ble_eq_true rfl)) (c_X11_lowest hC.X x1 x6 μ_4) rfl rfl (Nat.le_of_ble_eq_true rfl) (fun r_6 μ_5 => ?_)
          refine J.iload_n (j := 2) hC eX11_items_97 rfl ?_
          refine J.iload (j := 5) hC eX11_items_98 rfl ?_
          refine J.callSI (st := [.int r_6, .int (3 : Int32), .ref (xad (cX C) 107), .int (x3 + x6), .ref (xad (cX C) p2)]) hC eX11_items_100 ml_X11_115 mv_X11_highest (Rle_of (Nat.le_of_ble_eq_true rfl) (Nat.le_of_ble_eq_true rfl)) (c_X11_highest hC.X x1 x6 μ_5) rfl rfl (Nat.le_of_ble_eq_true rfl) (fun r_8 μ_7 => ?_)
          refine J.callVI (st := [.int (x3 + x6), .ref (xad (cX C) p2)]) hC eX11_items_103 kk_107 (by decide) rfl rfl ml_X11_118 mv_X11_number (Rle_of (Nat.le_of_ble_eq_true rfl) (Nat.le_of_ble_eq_true rfl)) (c_X11_number hC.X (3 : Int32) r_6 r_8 μ_7) rfl rfl (Nat.le_of_ble_eq_true rfl) (fun r_10 μ_9 => ?_)
          refine J.iast hk2 hC eX11_items_106 h2 (fun μ_11 => ?_)
          refine J.aload_n (j := 1) hC eX11_items_107 rfl ?_
          refine gf_X11_88 hC eX11_items_108 kk_107 ?_
          refine J.iconst hC eX11_items_111 ci_m1 ?_
          refine J.icmp_ne hC eX11_items_112 (fun _ => ?_) (fun _ => ?_)
          · refine J.iload_n (j := 2) hC eX11_items_115 rfl ?_
            refine J.aload_n (j := 1) hC eX11_items_116 rfl ?_
            refine J.callVI (st := [.int x1]) hC eX11_items_117 kk_107 (by decide) rfl rfl ml_X11_91 mv_X11_ahead (Rle_of (Nat.le_of_ble_eq_true rfl) (Nat.le_of_ble_eq_true rfl)) (c_X11_ahead hC.X  μ_11) rfl rfl (Nat.le_of_ble_eq_true rfl) (fun r_13 μ_12 => ?_)
            refine J.callSI (st := []) hC eX11_items_120 ml_X11_105 mv_X11_itemOf (Rle_of (Nat.le_of_ble_eq_true rfl) (Nat.le_of_ble_eq_true rfl)) (c_X11_itemOf hC.X x1 r_13 μ_12) rfl rfl (Nat.le_of_ble_eq_true rfl) (fun r_15 μ_14 => ?_)
            refine J.goto hC eX11_items_123 ?_
            refine J.sub [1, 2, 3, 4, 0] rfl ?_
            exact j_X11_items_127 hC hr (L_X11_items_41  n) ih x1 k2 n2 hk2 p2 h2 x3 x5_3 r_15 μ_14
          · refine J.iconst hC eX11_items_126 ci_m1 ?_
            refine J.sub [1, 2, 3, 4, 0] rfl ?_
            exact j_X11_items_127 hC hr (L_X11_items_41  n) ih x1 k2 n2 hk2 p2 h2 x3 x5_3 (-1 : Int32) μ_11
        · exact J.vret hC hr eX11_items_132
    · exact J.vret hC hr eX11_items_132
def L_X11_items_3 : Nat → Int32 → Nat → Nat → Nat → Int32 → Int32 → Int32 → Mem → Option (Unit × Mem)
  | 0, _, _, _, _, _, _, _, _ => none
  | n + 1, x1, k2, n2, p2, x3, x4, x5, μ => if x4 ≤ x5 then bd (G_X11_ahead  μ) (fun r_2 μ_1 => bd (G_X11_itemOf x1 r_2 μ_1) (fun r_4 μ_3 => L_X11_items_41  100000 x1 k2 n2 p2 x3 (0 : Int32) r_4 μ_3)) else bd (G_X11_usual x1 x5 μ) (fun r_6 μ_5 => gq (inB (x3 + x5) n2) (lb (wI μ_5 p2 (nx (x3 + x5)) r_6) (fun μ_7 => lb (x5 + (1 : Int32)) (fun x5_8 => L_X11_items_3  n x1 k2 n2 p2 x3 x4 x5_8 μ_7))))
set_option maxHeartbeats 4000000 in
theorem j_X11_items_3 {C : Cx} (hC : Ok C cX11_items 7 RX11 (rmF 3 65)) (hr : (cT C).sig.returnType = none) : ∀ (n : Nat) (x1 : Int32) (k2 : Nat) (n2 : Nat) (hk2 : isI k2 n2) (p2 : Nat) (h2 : kd p2 = k2) (x3 : Int32) (x4 : Int32) (x5 : Int32) (μ : Mem), J C (KV C) μ 3 [(0, .ref (xad (cX C) 107)), (1, .int x1), (2, .ref (xad (cX C) p2)), (3, .int x3), (4, .int x4), (5, .int x5)] [] (L_X11_items_3  n x1 k2 n2 p2 x3 x4 x5 μ) := by
  intro n
  induction n with
  | zero => intros; exact J.no
  | succ n ih =>
    intro x1 k2 n2 hk2 p2 h2 x3 x4 x5 μ
    rw [L_X11_items_3]
    refine J.iload (j := 5) hC eX11_items_3 rfl ?_
    refine J.iload (j := 4) hC eX11_items_5 rfl ?_
    refine J.icmp_ge hC eX11_items_7 (fun _ => ?_) (fun _ => ?_)
    · refine J.iconst hC eX11_items_28 ci_0 ?_
      refine J.istore [(5, .int (0 : Int32)), (0, .ref (xad (cX C) 107)), (1, .int x1), (2, .ref (xad (cX C) p2)), (3, .int x3), (4, .int x4)] hC eX11_items_29 (by decide) rfl ?_
      refine J.iload_n (j := 2) hC eX11_items_31 rfl ?_
      refine J.aload_n (j := 1) hC eX11_items_32 rfl ?_
      refine J.callVI (st := [.int x1]) hC eX11_items_33 kk_107 (by decide) rfl rfl ml_X11_91 mv_X11_ahead (Rle_of (Nat.le_of_ble_eq_true rfl) (Nat.le_of_ble_eq_true rfl)) (c_X11_ahead hC.X  μ) rfl rfl (Nat.le_of_ble_eq_true rfl) (fun r_2 μ_1 => ?_)
      refine J.callSI (st := []) hC eX11_items_36 ml_X11_105 mv_X11_itemOf (Rle_of (Nat.le_of_ble_eq_true rfl) (Nat.le_of_ble_eq_true rfl)) (c_X11_itemOf hC.X x1 r_2 μ_1) rfl rfl (Nat.le_of_ble_eq_true rfl) (fun r_4 μ_3 => ?_)
      refine J.istore [(6, .int r_4), (5, .int (0 : Int32)), (0, .ref (xad (cX C) 107)), (1, .int x1), (2, .ref (xad (cX C) p2)), (3, .int x3), (4, .int x4)] hC eX11_items_39 (by decide) rfl ?_
      refine J.sub [2, 3, 4, 5, 1, 0] rfl ?_
      exact j_X11_items_41 hC hr  100000 x1 k2 n2 hk2 p2 h2 x3 (0 : Int32) r_4 μ_3
    · refine J.aload_n (j := 2) hC eX11_items_10 rfl ?_
      refine J.iload_n (j := 3) hC eX11_items_11 rfl ?_
      refine J.iload (j := 5) hC eX11_items_12 rfl ?_
      refine J.iadd hC eX11_items_14 ?_
      refine J.iload_n (j := 1) hC eX11_items_15 rfl ?_
      refine J.iload (j := 5) hC eX11_items_16 rfl ?_
      refine J.callSI (st := [.int (x3 + x5), .ref (xad (cX C) p2)]) hC eX11_items_18 ml_X11_101 mv_X11_usual (Rle_of (Nat.le_of_ble_eq_true rfl) (Nat.le_of_ble_eq_true rfl)) (c_X11_usual hC.X x1 x5 μ) rfl rfl (Nat.le_of_ble_eq_true rfl) (fun r_6 μ_5 => ?_)
      refine J.iast hk2 hC eX11_items_21 h2 (fun μ_7 => ?_)
      refine J.iinc (j := 5) (fun x5_8 => [(5, .int x5_8), (0, .ref (xad (cX C) 107)), (1, .int x1), (2, .ref (xad (cX C) p2)), (3, .int x3), (4, .int x4)]) hC eX11_items_22 rfl ci_1 (by decide) (fun _ => rfl) (fun x5_8 => ?_)
      refine J.goto hC eX11_items_25 ?_
      refine J.sub [1, 2, 3, 4, 5, 0] rfl ?_
      exact ih x1 k2 n2 hk2 p2 h2 x3 x4 x5_8 μ_7
def G_X11_items (x1 : Int32) (k2 : Nat) (n2 : Nat) (p2 : Nat) (x3 : Int32) (x4 : Int32) (μ : Mem) : Option (Unit × Mem) :=
  L_X11_items_3  100000 x1 k2 n2 p2 x3 x4 (0 : Int32) μ
set_option maxHeartbeats 4000000 in
theorem c_X11_items {X : Wd} (hX : WdOk X) (x1 : Int32) (k2 : Nat) (n2 : Nat) (hk2 : isI k2 n2) (p2 : Nat) (h2 : kd p2 = k2) (x3 : Int32) (x4 : Int32) (μ : Mem) : CtV X yX11_items cX11_items 7 none (rmF 3 65) [.ref (xad X 107), .int x1, .ref (xad X p2), .int x3, .int x4] μ (G_X11_items x1 k2 n2 p2 x3 x4 μ) := by
  refine CtV.of hX (plainFor_of_name (by decide)) (by exact Nat.le_of_ble_eq_true rfl) ?_
  intro C hCX hC hr
  subst hCX
  show J C (KV C) μ 0 [(0, .ref (xad (cX C) 107)), (1, .int x1), (2, .ref (xad (cX C) p2)), (3, .int x3), (4, .int x4)] [] _
  unfold G_X11_items
  refine J.iconst hC eX11_items_0 ci_0 ?_
  refine J.istore [(5, .int (0 : Int32)), (0, .ref (xad (cX C) 107)), (1, .int x1), (2, .ref (xad (cX C) p2)), (3, .int x3), (4, .int x4)] hC eX11_items_1 (by decide) rfl ?_
  refine J.sub [1, 2, 3, 4, 5, 0] rfl ?_
  exact j_X11_items_3 hC hr  100000 x1 k2 n2 hk2 p2 h2 x3 x4 (0 : Int32) μ
-- X11_isWhole
theorem eX11_isWhole_0 : DD cX11_isWhole 0 (.aload_n 0) 1 1 := ⟨by decide +kernel, rfl⟩
theorem eX11_isWhole_1 : DD cX11_isWhole 1 (.getfield 122) 3 4 := ⟨by decide +kernel, rfl⟩
theorem eX11_isWhole_4 : DB cX11_isWhole 4 (.ifCond .le 7) (7) 7 11 := ⟨by decide +kernel, rfl, by decide⟩
theorem eX11_isWhole_7 : DD cX11_isWhole 7 (.iconst 1) 1 8 := ⟨by decide +kernel, rfl⟩
theorem eX11_isWhole_8 : DB cX11_isWhole 8 (.goto 4) (4) 11 12 := ⟨by decide +kernel, rfl, by decide⟩
theorem eX11_isWhole_11 : DD cX11_isWhole 11 (.iconst 0) 1 12 := ⟨by decide +kernel, rfl⟩
theorem eX11_isWhole_12 : DD cX11_isWhole 12 (.istore_n 1) 1 13 := ⟨by decide +kernel, rfl⟩
theorem eX11_isWhole_13 : DD cX11_isWhole 13 (.iconst 0) 1 14 := ⟨by decide +kernel, rfl⟩
theorem eX11_isWhole_14 : DD cX11_isWhole 14 (.istore_n 2) 1 15 := ⟨by decide +kernel, rfl⟩
theorem eX11_isWhole_15 : DD cX11_isWhole 15 (.iload_n 2) 1 16 := ⟨by decide +kernel, rfl⟩
theorem eX11_isWhole_16 : DD cX11_isWhole 16 (.aload_n 0) 1 17 := ⟨by decide +kernel, rfl⟩
theorem eX11_isWhole_17 : DD cX11_isWhole 17 (.getfield 125) 3 20 := ⟨by decide +kernel, rfl⟩
theorem eX11_isWhole_20 : DB cX11_isWhole 20 (.if_icmp .ge 76) (76) 23 96 := ⟨by decide +kernel, rfl, by decide⟩
theorem eX11_isWhole_23 : DD cX11_isWhole 23 (.iload_n 1) 1 24 := ⟨by decide +kernel, rfl⟩
theorem eX11_isWhole_24 : DB cX11_isWhole 24 (.ifCond .eq 72) (72) 27 96 := ⟨by decide +kernel, rfl, by decide⟩
theorem eX11_isWhole_27 : DD cX11_isWhole 27 (.aload_n 0) 1 28 := ⟨by decide +kernel, rfl⟩
theorem eX11_isWhole_28 : DD cX11_isWhole 28 (.getfield 19) 3 31 := ⟨by decide +kernel, rfl⟩
theorem eX11_isWhole_31 : DD cX11_isWhole 31 (.iconst 4) 1 32 := ⟨by decide +kernel, rfl⟩
theorem eX11_isWhole_32 : DD cX11_isWhole 32 (.iload_n 2) 1 33 := ⟨by decide +kernel, rfl⟩
theorem eX11_isWhole_33 : DD cX11_isWhole 33 (.imul) 1 34 := ⟨by decide +kernel, rfl⟩
theorem eX11_isWhole_34 : DD cX11_isWhole 34 (.iconst 0) 1 35 := ⟨by decide +kernel, rfl⟩
theorem eX11_isWhole_35 : DD cX11_isWhole 35 (.iadd) 1 36 := ⟨by decide +kernel, rfl⟩
theorem eX11_isWhole_36 : DD cX11_isWhole 36 (.iaload) 1 37 := ⟨by decide +kernel, rfl⟩
theorem eX11_isWhole_37 : DD cX11_isWhole 37 (.istore_n 3) 1 38 := ⟨by decide +kernel, rfl⟩
theorem eX11_isWhole_38 : DD cX11_isWhole 38 (.iload_n 3) 1 39 := ⟨by decide +kernel, rfl⟩
theorem eX11_isWhole_39 : DD cX11_isWhole 39 (.aload_n 0) 1 40 := ⟨by decide +kernel, rfl⟩
theorem eX11_isWhole_40 : DD cX11_isWhole 40 (.getfield 122) 3 43 := ⟨by decide +kernel, rfl⟩
theorem eX11_isWhole_43 : DB cX11_isWhole 43 (.if_icmp .ge 45) (45) 46 88 := ⟨by decide +kernel, rfl, by decide⟩
theorem eX11_isWhole_46 : DD cX11_isWhole 46 (.aload_n 0) 1 47 := ⟨by decide +kernel, rfl⟩
theorem eX11_isWhole_47 : DD cX11_isWhole 47 (.getfield 19) 3 50 := ⟨by decide +kernel, rfl⟩
theorem eX11_isWhole_50 : DD cX11_isWhole 50 (.iconst 4) 1 51 := ⟨by decide +kernel, rfl⟩
theorem eX11_isWhole_51 : DD cX11_isWhole 51 (.iload_n 2) 1 52 := ⟨by decide +kernel, rfl⟩
theorem eX11_isWhole_52 : DD cX11_isWhole 52 (.imul) 1 53 := ⟨by decide +kernel, rfl⟩
theorem eX11_isWhole_53 : DD cX11_isWhole 53 (.iconst 1) 1 54 := ⟨by decide +kernel, rfl⟩
theorem eX11_isWhole_54 : DD cX11_isWhole 54 (.iadd) 1 55 := ⟨by decide +kernel, rfl⟩
theorem eX11_isWhole_55 : DD cX11_isWhole 55 (.iaload) 1 56 := ⟨by decide +kernel, rfl⟩
theorem eX11_isWhole_56 : DD cX11_isWhole 56 (.aload_n 0) 1 57 := ⟨by decide +kernel, rfl⟩
theorem eX11_isWhole_57 : DD cX11_isWhole 57 (.getfield 16) 3 60 := ⟨by decide +kernel, rfl⟩
theorem eX11_isWhole_60 : DD cX11_isWhole 60 (.iload_n 3) 1 61 := ⟨by decide +kernel, rfl⟩
theorem eX11_isWhole_61 : DD cX11_isWhole 61 (.iaload) 1 62 := ⟨by decide +kernel, rfl⟩
theorem eX11_isWhole_62 : DB cX11_isWhole 62 (.if_icmp .ge 26) (26) 65 88 := ⟨by decide +kernel, rfl, by decide⟩
theorem eX11_isWhole_65 : DD cX11_isWhole 65 (.aload_n 0) 1 66 := ⟨by decide +kernel, rfl⟩
theorem eX11_isWhole_66 : DD cX11_isWhole 66 (.getfield 19) 3 69 := ⟨by decide +kernel, rfl⟩
theorem eX11_isWhole_69 : DD cX11_isWhole 69 (.iconst 4) 1 70 := ⟨by decide +kernel, rfl⟩
theorem eX11_isWhole_70 : DD cX11_isWhole 70 (.iload_n 2) 1 71 := ⟨by decide +kernel, rfl⟩
theorem eX11_isWhole_71 : DD cX11_isWhole 71 (.imul) 1 72 := ⟨by decide +kernel, rfl⟩
theorem eX11_isWhole_72 : DD cX11_isWhole 72 (.iconst 2) 1 73 := ⟨by decide +kernel, rfl⟩
theorem eX11_isWhole_73 : DD cX11_isWhole 73 (.iadd) 1 74 := ⟨by decide +kernel, rfl⟩
theorem eX11_isWhole_74 : DD cX11_isWhole 74 (.iaload) 1 75 := ⟨by decide +kernel, rfl⟩
theorem eX11_isWhole_75 : DD cX11_isWhole 75 (.aload_n 0) 1 76 := ⟨by decide +kernel, rfl⟩
theorem eX11_isWhole_76 : DD cX11_isWhole 76 (.getfield 16) 3 79 := ⟨by decide +kernel, rfl⟩
theorem eX11_isWhole_79 : DD cX11_isWhole 79 (.iload_n 3) 1 80 := ⟨by decide +kernel, rfl⟩
theorem eX11_isWhole_80 : DD cX11_isWhole 80 (.iaload) 1 81 := ⟨by decide +kernel, rfl⟩
theorem eX11_isWhole_81 : DB cX11_isWhole 81 (.if_icmp .ge 7) (7) 84 88 := ⟨by decide +kernel, rfl, by decide⟩
theorem eX11_isWhole_84 : DD cX11_isWhole 84 (.iconst 1) 1 85 := ⟨by decide +kernel, rfl⟩
theorem eX11_isWhole_85 : DB cX11_isWhole 85 (.goto 4) (4) 88 89 := ⟨by decide +kernel, rfl, by decide⟩
theorem eX11_isWhole_88 : DD cX11_isWhole 88 (.iconst 0) 1 89 := ⟨by decide +kernel, rfl⟩
theorem eX11_isWhole_89 : DD cX11_isWhole 89 (.istore_n 1) 1 90 := ⟨by decide +kernel, rfl⟩
theorem eX11_isWhole_90 : DD cX11_isWhole 90 (.iinc 2 1) 3 93 := ⟨by decide +kernel, rfl⟩
theorem eX11_isWhole_93 : DB cX11_isWhole 93 (.goto (-78)) (-78) 96 15 := ⟨by decide +kernel, rfl, by decide⟩
theorem eX11_isWhole_96 : DD cX11_isWhole 96 (.iload_n 1) 1 97 := ⟨by decide +kernel, rfl⟩
theorem eX11_isWhole_97 : DD cX11_isWhole 97 (.ireturn) 1 98 := ⟨by decide +kernel, rfl⟩
def F_X11_isWhole_89 (kc_15 : Int32 → Int32 → Mem → Option (Int32 × Mem)) (x2 : Int32) (xs0 : Int32) (μ : Mem) : Option (Int32 × Mem) :=
  lb (x2 + (1 : Int32)) (fun x2_1 => kc_15 xs0 x2_1 μ)
set_option maxHeartbeats 4000000 in
theorem j_X11_isWhole_89 {C : Cx} (hC : Ok C cX11_isWhole 4 RX11 (rmF 0 0)) (hr : (cT C).sig.returnType = (some .boolean)) (kc_15 : Int32 → Int32 → Mem → Option (Int32 × Mem)) (hk_15 : ∀ (x1 : Int32) (x2 : Int32) (μ : Mem), J C (KI C) μ 15 [(0, .ref (xad (cX C) 107)), (1, .int x1), (2, .int x2)] [] (kc_15 x1 x2 μ)) (x2 : Int32) (xs0 : Int32) (μ : Mem) : J C (KI C) μ 89 [(0, .ref (xad (cX C) 107)), (2, .int x2)] [.int xs0] (F_X11_isWhole_89 kc_15 x2 xs0 μ) := by
  unfold F_X11_isWhole_89
  refine J.istore_n [(1, .int xs0), (0, .ref (xad (cX C) 107)), (2, .int x2)] hC eX11_isWhole_89 (by decide) rfl ?_
  refine J.iinc (j := 2) (fun x2_1 => [(2, .int x2_1), (1, .int xs0), (0, .ref (xad (cX C) 107))]) hC eX11_isWhole_90 rfl ci_1 (by decide) (fun _ => rfl) (fun x2_1 => ?_)
  refine J.goto hC eX11_isWhole_93 ?_
  refine J.sub [2, 1, 0] rfl ?_
  exact hk_15 xs0 x2_1 μ
def F_X11_isWhole_88 (kc_15 : Int32 → Int32 → Mem → Option (Int32 × Mem)) (x2 : Int32) (μ : Mem) : Option (Int32 × Mem) :=
  F_X11_isWhole_89 kc_15 x2 (0 : Int32) μ
set_option maxHeartbeats 4000000 in
theorem j_X11_isWhole_88 {C : Cx} (hC : Ok C cX11_isWhole 4 RX11 (rmF 0 0)) (hr : (cT C).sig.returnType = (some .boolean)) (kc_15 : Int32 → Int32 → Mem → Option (Int32 × Mem)) (hk_15 : ∀ (x1 : Int32) (x2 : Int32) (μ : Mem), J C (KI C) μ 15 [(0, .ref (xad (cX C) 107)), (1, .int x1), (2, .int x2)] [] (kc_15 x1 x2 μ)) (x2 : Int32) (μ : Mem) : J C (KI C) μ 88 [(0, .ref (xad (cX C) 107)), (2, .int x2)] [] (F_X11_isWhole_88 kc_15 x2 μ) := by
  unfold F_X11_isWhole_88
  refine J.iconst hC eX11_isWhole_88 ci_0 ?_
  refine J.sub [0, 1] rfl ?_
  exact j_X11_isWhole_89 hC hr kc_15 hk_15 x2 (0 : Int32) μ
def L_X11_isWhole_15 : Nat → Int32 → Int32 → Mem → Option (Int32 × Mem)
  | 0, _, _, _ => none
  | n + 1, x1, x2, μ => if (rI μ 107 9) ≤ x2 then gq (bB x1) (some (x1, μ)) else if x1 = 0 then gq (bB x1) (some (x1, μ)) else gq (inB (((4 : Int32) * x2) + (0 : Int32)) 80) (lb (rI μ 111 (nx (((4 : Int32) * x2) + (0 : Int32)))) (fun x3_1 => if (rI μ 107 8) ≤ x3_1 then F_X11_isWhole_88 (L_X11_isWhole_15  n) x2 μ else gq (inB (((4 : Int32) * x2) + (1 : Int32)) 80) (gq (inB x3_1 3) (if (rI μ 110 (nx x3_1)) ≤ (rI μ 111 (nx (((4 : Int32) * x2) + (1 : Int32)))) then F_X11_isWhole_88 (L_X11_isWhole_15  n) x2 μ else gq (inB (((4 : Int32) * x2) + (2 : Int32)) 80) (gq (inB x3_1 3) (if (rI μ 110 (nx x3_1)) ≤ (rI μ 111 (nx (((4 : Int32) * x2) + (2 : Int32)))) then F_X11_isWhole_88 (L_X11_isWhole_15  n) x2 μ else F_X11_isWhole_89 (L_X11_isWhole_15  n) x2 (1 : Int32) μ))))))
set_option maxHeartbeats 4000000 in
theorem j_X11_isWhole_15 {C : Cx} (hC : Ok C cX11_isWhole 4 RX11 (rmF 0 0)) (hr : (cT C).sig.returnType = (some .boolean)) : ∀ (n : Nat) (x1 : Int32) (x2 : Int32) (μ : Mem), J C (KI C) μ 15 [(0, .ref (xad (cX C) 107)), (1, .int x1), (2, .int x2)] [] (L_X11_isWhole_15  n x1 x2 μ) := by
  intro n
  induction n with
  | zero => intros; exact J.no
  | succ n ih =>
    intro x1 x2 μ
    rw [L_X11_isWhole_15]
    refine J.iload_n (j := 2) hC eX11_isWhole_15 rfl ?_
    refine J.aload_n (j := 0) hC eX11_isWhole_16 rfl ?_
    refine gf_X11_125 hC eX11_isWhole_17 kk_107 ?_
    refine J.icmp_ge hC eX11_isWhole_20 (fun _ => ?_) (fun _ => ?_)
    · refine J.iload_n (j := 1) hC eX11_isWhole_96 rfl ?_
      exact J.zret hC hr eX11_isWhole_97
    · refine J.iload_n (j := 1) hC eX11_isWhole_23 rfl ?_
      refine J.if_eq hC eX11_isWhole_24 (fun _ => ?_) (fun _ => ?_)
      · refine J.iload_n (j := 1) hC eX11_isWhole_96 rfl ?_
        exact J.zret hC hr eX11_isWhole_97
      · refine J.aload_n (j := 0) hC eX11_isWhole_27 rfl ?_
        refine gf_X11_19 (q := 111) hC eX11_isWhole_28 kk_107 rfl ?_
        refine J.iconst hC eX11_isWhole_31 ci_4 ?_
        refine J.iload_n (j := 2) hC eX11_isWhole_32 rfl ?_
        refine J.imul hC eX11_isWhole_33 ?_
        refine J.iconst hC eX11_isWhole_34 ci_0 ?_
        refine J.iadd hC eX11_isWhole_35 ?_
        refine J.iald ik_80 hC eX11_isWhole_36 kk_111 ?_
        refine J.topi (fun x3_1 => ?_)
        refine J.istore_n [(3, .int x3_1), (0, .ref (xad (cX C) 107)), (1, .int x1), (2, .int x2)] hC eX11_isWhole_37 (by decide) rfl ?_
        refine J.iload_n (j := 0) hC eX11_isWhole_38 rfl ?_
        refine J.aload_n (j := 1) hC eX11_isWhole_39 rfl ?_
        refine gf_X11_122 hC eX11_isWhole_40 kk_107 ?_
        refine J.icmp_ge hC eX11_isWhole_43 (fun _ => ?_) (fun _ => ?_)
        · refine J.sub [1, 3] rfl ?_
          exact j_X11_isWhole_88 hC hr (L_X11_isWhole_15  n) ih x2 μ
        · refine J.aload_n (j := 1) hC eX11_isWhole_46 rfl ?_
          refine gf_X11_19 (q := 111) hC eX11_isWhole_47 kk_107 rfl ?_
          refine J.iconst hC eX11_isWhole_50 ci_4 ?_
          refine J.iload_n (j := 3) hC eX11_isWhole_51 rfl ?_
          refine J.imul hC eX11_isWhole_52 ?_
          refine J.iconst hC eX11_isWhole_53 ci_1 ?_
          refine J.iadd hC eX11_isWhole_54 ?_
          refine J.iald ik_80 hC eX11_isWhole_55 kk_111 ?_
          refine J.aload_n (j := 1) hC eX11_isWhole_56 rfl ?_
          refine gf_X11_16 (q := 110) hC eX11_isWhole_57 kk_107 rfl ?_
          refine J.iload_n (j := 0) hC eX11_isWhole_60 rfl ?_
          refine J.iald ik_3 hC eX11_isWhole_61 kk_110 ?_
          refine J.icmp_ge hC eX11_isWhole_62 (fun _ => ?_) (fun _ => ?_)
          · refine J.sub [1, 3] rfl ?_
            exact j_X11_isWhole_88 hC hr (L_X11_isWhole_15  n) ih x2 μ
          · refine J.aload_n (j := 1) hC eX11_isWhole_65 rfl ?_
            refine gf_X11_19 (q := 111) hC eX11_isWhole_66 kk_107 rfl ?_
            refine J.iconst hC eX11_isWhole_69 ci_4 ?_
            refine J.iload_n (j := 3) hC eX11_isWhole_70 rfl ?_
            refine J.imul hC eX11_isWhole_71 ?_
            refine J.iconst hC eX11_isWhole_72 ci_2 ?_
            refine J.iadd hC eX11_isWhole_73 ?_
            refine J.iald ik_80 hC eX11_isWhole_74 kk_111 ?_
            refine J.aload_n (j := 1) hC eX11_isWhole_75 rfl ?_
            refine gf_X11_16 (q := 110) hC eX11_isWhole_76 kk_107 rfl ?_
            refine J.iload_n (j := 0) hC eX11_isWhole_79 rfl ?_
            refine J.iald ik_3 hC eX11_isWhole_80 kk_110 ?_
            refine J.icmp_ge hC eX11_isWhole_81 (fun _ => ?_) (fun _ => ?_)
            · refine J.sub [1, 3] rfl ?_
              exact j_X11_isWhole_88 hC hr (L_X11_isWhole_15  n) ih x2 μ
            · refine J.iconst hC eX11_isWhole_84 ci_1 ?_
              refine J.goto hC eX11_isWhole_85 ?_
              refine J.sub [1, 3] rfl ?_
              exact j_X11_isWhole_89 hC hr (L_X11_isWhole_15  n) ih x2 (1 : Int32) μ
def F_X11_isWhole_12 (xs0 : Int32) (μ : Mem) : Option (Int32 × Mem) :=
  L_X11_isWhole_15  100000 xs0 (0 : Int32) μ
set_option maxHeartbeats 4000000 in
theorem j_X11_isWhole_12 {C : Cx} (hC : Ok C cX11_isWhole 4 RX11 (rmF 0 0)) (hr : (cT C).sig.returnType = (some .boolean)) (xs0 : Int32) (μ : Mem) : J C (KI C) μ 12 [(0, .ref (xad (cX C) 107))] [.int xs0] (F_X11_isWhole_12  xs0 μ) := by
  unfold F_X11_isWhole_12
  refine J.istore_n [(1, .int xs0), (0, .ref (xad (cX C) 107))] hC eX11_isWhole_12 (by decide) rfl ?_
  refine J.iconst hC eX11_isWhole_13 ci_0 ?_
  refine J.istore_n [(2, .int (0 : Int32)), (1, .int xs0), (0, .ref (xad (cX C) 107))] hC eX11_isWhole_14 (by decide) rfl ?_
  refine J.sub [2, 1, 0] rfl ?_
  exact j_X11_isWhole_15 hC hr  100000 xs0 (0 : Int32) μ
def G_X11_isWhole  (μ : Mem) : Option (Int32 × Mem) :=
  if (rI μ 107 8) ≤ 0 then F_X11_isWhole_12  (0 : Int32) μ else F_X11_isWhole_12  (1 : Int32) μ
set_option maxHeartbeats 4000000 in
theorem c_X11_isWhole {X : Wd} (hX : WdOk X)  (μ : Mem) : CtI X yX11_isWhole cX11_isWhole 4 (some .boolean) (rmF 0 0) [.ref (xad X 107)] μ (G_X11_isWhole  μ) := by
  refine CtI.of hX (plainFor_of_name (by decide)) (by exact Nat.le_of_ble_eq_true rfl) ?_
  intro C hCX hC hr
  subst hCX
  show J C (KI C) μ 0 [(0, .ref (xad (cX C) 107))] [] _
  unfold G_X11_isWhole
  refine J.aload_n (j := 0) hC eX11_isWhole_0 rfl ?_
  refine gf_X11_122 hC eX11_isWhole_1 kk_107 ?_
  refine J.if_le hC eX11_isWhole_4 (fun _ => ?_) (fun _ => ?_)
  · refine J.iconst hC eX11_isWhole_11 ci_0 ?_
    refine J.sub [0] rfl ?_
    exact j_X11_isWhole_12 hC hr  (0 : Int32) μ
  · refine J.iconst hC eX11_isWhole_7 ci_1 ?_
    refine J.goto hC eX11_isWhole_8 ?_
    refine J.sub [0] rfl ?_
    exact j_X11_isWhole_12 hC hr  (1 : Int32) μ
-- X11_readBook
theorem eX11_readBook_0 : DD cX11_readBook 0 (.aload_n 0) 1 1 := ⟨by decide +kernel, rfl⟩
theorem eX11_readBook_1 : DD cX11_readBook 1 (.iconst 0) 1 2 := ⟨by decide +kernel, rfl⟩
theorem eX11_readBook_2 : DD cX11_readBook 2 (.putfield 81) 3 5 := ⟨by decide +kernel, rfl⟩
theorem eX11_readBook_5 : DD cX11_readBook 5 (.aload_n 0) 1 6 := ⟨by decide +kernel, rfl⟩
theorem eX11_readBook_6 : DD cX11_readBook 6 (.iconst (-1)) 1 7 := ⟨by decide +kernel, rfl⟩
theorem eX11_readBook_7 : DD cX11_readBook 7 (.putfield 88) 3 10 := ⟨by decide +kernel, rfl⟩
theorem eX11_readBook_10 : DD cX11_readBook 10 (.aload_n 0) 1 11 := ⟨by decide +kernel, rfl⟩
theorem eX11_readBook_11 : DD cX11_readBook 11 (.iconst 0) 1 12 := ⟨by decide +kernel, rfl⟩
theorem eX11_readBook_12 : DD cX11_readBook 12 (.putfield 122) 3 15 := ⟨by decide +kernel, rfl⟩
theorem eX11_readBook_15 : DD cX11_readBook 15 (.aload_n 0) 1 16 := ⟨by decide +kernel, rfl⟩
theorem eX11_readBook_16 : DD cX11_readBook 16 (.iconst 0) 1 17 := ⟨by decide +kernel, rfl⟩
theorem eX11_readBook_17 : DD cX11_readBook 17 (.putfield 125) 3 20 := ⟨by decide +kernel, rfl⟩
theorem eX11_readBook_20 : DD cX11_readBook 20 (.iconst 0) 1 21 := ⟨by decide +kernel, rfl⟩
theorem eX11_readBook_21 : DD cX11_readBook 21 (.istore_n 1) 1 22 := ⟨by decide +kernel, rfl⟩
theorem eX11_readBook_22 : DD cX11_readBook 22 (.iconst 0) 1 23 := ⟨by decide +kernel, rfl⟩
theorem eX11_readBook_23 : DD cX11_readBook 23 (.istore_n 2) 1 24 := ⟨by decide +kernel, rfl⟩
theorem eX11_readBook_24 : DD cX11_readBook 24 (.iload_n 2) 1 25 := ⟨by decide +kernel, rfl⟩
theorem eX11_readBook_25 : DD cX11_readBook 25 (.iconst 3) 1 26 := ⟨by decide +kernel, rfl⟩
theorem eX11_readBook_26 : DB cX11_readBook 26 (.if_icmp .ge 21) (21) 29 47 := ⟨by decide +kernel, rfl, by decide⟩
theorem eX11_readBook_29 : DD cX11_readBook 29 (.aload_n 0) 1 30 := ⟨by decide +kernel, rfl⟩
theorem eX11_readBook_30 : DD cX11_readBook 30 (.getfield 13) 3 33 := ⟨by decide +kernel, rfl⟩
theorem eX11_readBook_33 : DD cX11_readBook 33 (.iload_n 2) 1 34 := ⟨by decide +kernel, rfl⟩
theorem eX11_readBook_34 : DD cX11_readBook 34 (.bipush 115) 2 36 := ⟨by decide +kernel, rfl⟩
theorem eX11_readBook_36 : DD cX11_readBook 36 (.iload_n 2) 1 37 := ⟨by decide +kernel, rfl⟩
theorem eX11_readBook_37 : DD cX11_readBook 37 (.invokestatic 101) 3 40 := ⟨by decide +kernel, rfl⟩
theorem eX11_readBook_40 : DD cX11_readBook 40 (.iastore) 1 41 := ⟨by decide +kernel, rfl⟩
theorem eX11_readBook_41 : DD cX11_readBook 41 (.iinc 2 1) 3 44 := ⟨by decide +kernel, rfl⟩
theorem eX11_readBook_44 : DB cX11_readBook 44 (.goto (-20)) (-20) 47 24 := ⟨by decide +kernel, rfl, by decide⟩
theorem eX11_readBook_47 : DD cX11_readBook 47 (.iconst 1) 1 48 := ⟨by decide +kernel, rfl⟩
theorem eX11_readBook_48 : DD cX11_readBook 48 (.istore_n 2) 1 49 := ⟨by decide +kernel, rfl⟩
theorem eX11_readBook_49 : DD cX11_readBook 49 (.iload_n 2) 1 50 := ⟨by decide +kernel, rfl⟩
theorem eX11_readBook_50 : DB cX11_readBook 50 (.ifCond .eq 205) (205) 53 255 := ⟨by decide +kernel, rfl, by decide⟩
theorem eX11_readBook_53 : DD cX11_readBook 53 (.aload_n 0) 1 54 := ⟨by decide +kernel, rfl⟩
theorem eX11_readBook_54 : DD cX11_readBook 54 (.getfield 88) 3 57 := ⟨by decide +kernel, rfl⟩
theorem eX11_readBook_57 : DD cX11_readBook 57 (.iconst (-1)) 1 58 := ⟨by decide +kernel, rfl⟩
theorem eX11_readBook_58 : DB cX11_readBook 58 (.if_icmp .ne 197) (197) 61 255 := ⟨by decide +kernel, rfl, by decide⟩
theorem eX11_readBook_61 : DD cX11_readBook 61 (.aload_n 0) 1 62 := ⟨by decide +kernel, rfl⟩
theorem eX11_readBook_62 : DD cX11_readBook 62 (.invokevirtual 91) 3 65 := ⟨by decide +kernel, rfl⟩
theorem eX11_readBook_65 : DD cX11_readBook 65 (.istore_n 3) 1 66 := ⟨by decide +kernel, rfl⟩
theorem eX11_readBook_66 : DD cX11_readBook 66 (.iload_n 3) 1 67 := ⟨by decide +kernel, rfl⟩
theorem eX11_readBook_67 : DD cX11_readBook 67 (.bipush 115) 2 69 := ⟨by decide +kernel, rfl⟩
theorem eX11_readBook_69 : DB cX11_readBook 69 (.if_icmp .ne 33) (33) 72 102 := ⟨by decide +kernel, rfl, by decide⟩
theorem eX11_readBook_72 : DD cX11_readBook 72 (.iload_n 1) 1 73 := ⟨by decide +kernel, rfl⟩
theorem eX11_readBook_73 : DB cX11_readBook 73 (.ifCond .ne 29) (29) 76 102 := ⟨by decide +kernel, rfl, by decide⟩
theorem eX11_readBook_76 : DD cX11_readBook 76 (.iconst 1) 1 77 := ⟨by decide +kernel, rfl⟩
theorem eX11_readBook_77 : DD cX11_readBook 77 (.istore_n 1) 1 78 := ⟨by decide +kernel, rfl⟩
theorem eX11_readBook_78 : DD cX11_readBook 78 (.aload_n 0) 1 79 := ⟨by decide +kernel, rfl⟩
theorem eX11_readBook_79 : DD cX11_readBook 79 (.dup) 1 80 := ⟨by decide +kernel, rfl⟩
theorem eX11_readBook_80 : DD cX11_readBook 80 (.getfield 81) 3 83 := ⟨by decide +kernel, rfl⟩
theorem eX11_readBook_83 : DD cX11_readBook 83 (.iconst 1) 1 84 := ⟨by decide +kernel, rfl⟩
theorem eX11_readBook_84 : DD cX11_readBook 84 (.iadd) 1 85 := ⟨by decide +kernel, rfl⟩
theorem eX11_readBook_85 : DD cX11_readBook 85 (.putfield 81) 3 88 := ⟨by decide +kernel, rfl⟩
theorem eX11_readBook_88 : DD cX11_readBook 88 (.aload_n 0) 1 89 := ⟨by decide +kernel, rfl⟩
theorem eX11_readBook_89 : DD cX11_readBook 89 (.iload_n 3) 1 90 := ⟨by decide +kernel, rfl⟩
theorem eX11_readBook_90 : DD cX11_readBook 90 (.aload_n 0) 1 91 := ⟨by decide +kernel, rfl⟩
theorem eX11_readBook_91 : DD cX11_readBook 91 (.getfield 13) 3 94 := ⟨by decide +kernel, rfl⟩
theorem eX11_readBook_94 : DD cX11_readBook 94 (.iconst 0) 1 95 := ⟨by decide +kernel, rfl⟩
theorem eX11_readBook_95 : DD cX11_readBook 95 (.iconst 3) 1 96 := ⟨by decide +kernel, rfl⟩
theorem eX11_readBook_96 : DD cX11_readBook 96 (.invokevirtual 128) 3 99 := ⟨by decide +kernel, rfl⟩
theorem eX11_readBook_99 : DB cX11_readBook 99 (.goto 112) (112) 102 211 := ⟨by decide +kernel, rfl, by decide⟩
theorem eX11_readBook_102 : DD cX11_readBook 102 (.iload_n 3) 1 103 := ⟨by decide +kernel, rfl⟩
theorem eX11_readBook_103 : DD cX11_readBook 103 (.bipush 116) 2 105 := ⟨by decide +kernel, rfl⟩
theorem eX11_readBook_105 : DB cX11_readBook 105 (.if_icmp .ne 48) (48) 108 153 := ⟨by decide +kernel, rfl, by decide⟩
theorem eX11_readBook_108 : DD cX11_readBook 108 (.aload_n 0) 1 109 := ⟨by decide +kernel, rfl⟩
theorem eX11_readBook_109 : DD cX11_readBook 109 (.getfield 122) 3 112 := ⟨by decide +kernel, rfl⟩
theorem eX11_readBook_112 : DD cX11_readBook 112 (.iconst 3) 1 113 := ⟨by decide +kernel, rfl⟩
theorem eX11_readBook_113 : DB cX11_readBook 113 (.if_icmp .ge 40) (40) 116 153 := ⟨by decide +kernel, rfl, by decide⟩
theorem eX11_readBook_116 : DD cX11_readBook 116 (.aload_n 0) 1 117 := ⟨by decide +kernel, rfl⟩
theorem eX11_readBook_117 : DD cX11_readBook 117 (.dup) 1 118 := ⟨by decide +kernel, rfl⟩
theorem eX11_readBook_118 : DD cX11_readBook 118 (.getfield 81) 3 121 := ⟨by decide +kernel, rfl⟩
theorem eX11_readBook_121 : DD cX11_readBook 121 (.iconst 1) 1 122 := ⟨by decide +kernel, rfl⟩
theorem eX11_readBook_122 : DD cX11_readBook 122 (.iadd) 1 123 := ⟨by decide +kernel, rfl⟩
theorem eX11_readBook_123 : DD cX11_readBook 123 (.putfield 81) 3 126 := ⟨by decide +kernel, rfl⟩
theorem eX11_readBook_126 : DD cX11_readBook 126 (.aload_n 0) 1 127 := ⟨by decide +kernel, rfl⟩
theorem eX11_readBook_127 : DD cX11_readBook 127 (.iload_n 3) 1 128 := ⟨by decide +kernel, rfl⟩
theorem eX11_readBook_128 : DD cX11_readBook 128 (.aload_n 0) 1 129 := ⟨by decide +kernel, rfl⟩
theorem eX11_readBook_129 : DD cX11_readBook 129 (.getfield 16) 3 132 := ⟨by decide +kernel, rfl⟩
theorem eX11_readBook_132 : DD cX11_readBook 132 (.aload_n 0) 1 133 := ⟨by decide +kernel, rfl⟩
theorem eX11_readBook_133 : DD cX11_readBook 133 (.getfield 122) 3 136 := ⟨by decide +kernel, rfl⟩
theorem eX11_readBook_136 : DD cX11_readBook 136 (.iconst 1) 1 137 := ⟨by decide +kernel, rfl⟩
theorem eX11_readBook_137 : DD cX11_readBook 137 (.invokevirtual 128) 3 140 := ⟨by decide +kernel, rfl⟩
theorem eX11_readBook_140 : DD cX11_readBook 140 (.aload_n 0) 1 141 := ⟨by decide +kernel, rfl⟩
theorem eX11_readBook_141 : DD cX11_readBook 141 (.dup) 1 142 := ⟨by decide +kernel, rfl⟩
theorem eX11_readBook_142 : DD cX11_readBook 142 (.getfield 122) 3 145 := ⟨by decide +kernel, rfl⟩
theorem eX11_readBook_145 : DD cX11_readBook 145 (.iconst 1) 1 146 := ⟨by decide +kernel, rfl⟩
theorem eX11_readBook_146 : DD cX11_readBook 146 (.iadd) 1 147 := ⟨by decide +kernel, rfl⟩
theorem eX11_readBook_147 : DD cX11_readBook 147 (.putfield 122) 3 150 := ⟨by decide +kernel, rfl⟩
theorem eX11_readBook_150 : DB cX11_readBook 150 (.goto 61) (61) 153 211 := ⟨by decide +kernel, rfl, by decide⟩
theorem eX11_readBook_153 : DD cX11_readBook 153 (.iload_n 3) 1 154 := ⟨by decide +kernel, rfl⟩
theorem eX11_readBook_154 : DD cX11_readBook 154 (.bipush 114) 2 156 := ⟨by decide +kernel, rfl⟩
theorem eX11_readBook_156 : DB cX11_readBook 156 (.if_icmp .ne 51) (51) 159 207 := ⟨by decide +kernel, rfl, by decide⟩
theorem eX11_readBook_159 : DD cX11_readBook 159 (.aload_n 0) 1 160 := ⟨by decide +kernel, rfl⟩
theorem eX11_readBook_160 : DD cX11_readBook 160 (.getfield 125) 3 163 := ⟨by decide +kernel, rfl⟩
theorem eX11_readBook_163 : DD cX11_readBook 163 (.bipush 20) 2 165 := ⟨by decide +kernel, rfl⟩
theorem eX11_readBook_165 : DB cX11_readBook 165 (.if_icmp .ge 42) (42) 168 207 := ⟨by decide +kernel, rfl, by decide⟩
theorem eX11_readBook_168 : DD cX11_readBook 168 (.aload_n 0) 1 169 := ⟨by decide +kernel, rfl⟩
theorem eX11_readBook_169 : DD cX11_readBook 169 (.dup) 1 170 := ⟨by decide +kernel, rfl⟩
theorem eX11_readBook_170 : DD cX11_readBook 170 (.getfield 81) 3 173 := ⟨by decide +kernel, rfl⟩
theorem eX11_readBook_173 : DD cX11_readBook 173 (.iconst 1) 1 174 := ⟨by decide +kernel, rfl⟩
theorem eX11_readBook_174 : DD cX11_readBook 174 (.iadd) 1 175 := ⟨by decide +kernel, rfl⟩
theorem eX11_readBook_175 : DD cX11_readBook 175 (.putfield 81) 3 178 := ⟨by decide +kernel, rfl⟩
theorem eX11_readBook_178 : DD cX11_readBook 178 (.aload_n 0) 1 179 := ⟨by decide +kernel, rfl⟩
theorem eX11_readBook_179 : DD cX11_readBook 179 (.iload_n 3) 1 180 := ⟨by decide +kernel, rfl⟩
theorem eX11_readBook_180 : DD cX11_readBook 180 (.aload_n 0) 1 181 := ⟨by decide +kernel, rfl⟩
theorem eX11_readBook_181 : DD cX11_readBook 181 (.getfield 19) 3 184 := ⟨by decide +kernel, rfl⟩
theorem eX11_readBook_184 : DD cX11_readBook 184 (.iconst 4) 1 185 := ⟨by decide +kernel, rfl⟩
theorem eX11_readBook_185 : DD cX11_readBook 185 (.aload_n 0) 1 186 := ⟨by decide +kernel, rfl⟩
theorem eX11_readBook_186 : DD cX11_readBook 186 (.getfield 125) 3 189 := ⟨by decide +kernel, rfl⟩
theorem eX11_readBook_189 : DD cX11_readBook 189 (.imul) 1 190 := ⟨by decide +kernel, rfl⟩
theorem eX11_readBook_190 : DD cX11_readBook 190 (.iconst 4) 1 191 := ⟨by decide +kernel, rfl⟩
theorem eX11_readBook_191 : DD cX11_readBook 191 (.invokevirtual 128) 3 194 := ⟨by decide +kernel, rfl⟩
theorem eX11_readBook_194 : DD cX11_readBook 194 (.aload_n 0) 1 195 := ⟨by decide +kernel, rfl⟩
theorem eX11_readBook_195 : DD cX11_readBook 195 (.dup) 1 196 := ⟨by decide +kernel, rfl⟩
theorem eX11_readBook_196 : DD cX11_readBook 196 (.getfield 125) 3 199 := ⟨by decide +kernel, rfl⟩
theorem eX11_readBook_199 : DD cX11_readBook 199 (.iconst 1) 1 200 := ⟨by decide +kernel, rfl⟩
theorem eX11_readBook_200 : DD cX11_readBook 200 (.iadd) 1 201 := ⟨by decide +kernel, rfl⟩
theorem eX11_readBook_201 : DD cX11_readBook 201 (.putfield 125) 3 204 := ⟨by decide +kernel, rfl⟩
theorem eX11_readBook_204 : DB cX11_readBook 204 (.goto 7) (7) 207 211 := ⟨by decide +kernel, rfl, by decide⟩
theorem eX11_readBook_207 : DD cX11_readBook 207 (.aload_n 0) 1 208 := ⟨by decide +kernel, rfl⟩
theorem eX11_readBook_208 : DD cX11_readBook 208 (.invokevirtual 98) 3 211 := ⟨by decide +kernel, rfl⟩
theorem eX11_readBook_211 : DD cX11_readBook 211 (.aload_n 0) 1 212 := ⟨by decide +kernel, rfl⟩
theorem eX11_readBook_212 : DD cX11_readBook 212 (.getfield 88) 3 215 := ⟨by decide +kernel, rfl⟩
theorem eX11_readBook_215 : DD cX11_readBook 215 (.iconst (-1)) 1 216 := ⟨by decide +kernel, rfl⟩
theorem eX11_readBook_216 : DB cX11_readBook 216 (.if_icmp .ne 16) (16) 219 232 := ⟨by decide +kernel, rfl, by decide⟩
theorem eX11_readBook_219 : DD cX11_readBook 219 (.aload_n 0) 1 220 := ⟨by decide +kernel, rfl⟩
theorem eX11_readBook_220 : DD cX11_readBook 220 (.invokevirtual 91) 3 223 := ⟨by decide +kernel, rfl⟩
theorem eX11_readBook_223 : DD cX11_readBook 223 (.bipush 59) 2 225 := ⟨by decide +kernel, rfl⟩
theorem eX11_readBook_225 : DB cX11_readBook 225 (.if_icmp .ne 7) (7) 228 232 := ⟨by decide +kernel, rfl, by decide⟩
theorem eX11_readBook_228 : DD cX11_readBook 228 (.iconst 1) 1 229 := ⟨by decide +kernel, rfl⟩
theorem eX11_readBook_229 : DB cX11_readBook 229 (.goto 4) (4) 232 233 := ⟨by decide +kernel, rfl, by decide⟩
theorem eX11_readBook_232 : DD cX11_readBook 232 (.iconst 0) 1 233 := ⟨by decide +kernel, rfl⟩
theorem eX11_readBook_233 : DD cX11_readBook 233 (.istore_n 2) 1 234 := ⟨by decide +kernel, rfl⟩
theorem eX11_readBook_234 : DD cX11_readBook 234 (.aload_n 0) 1 235 := ⟨by decide +kernel, rfl⟩
theorem eX11_readBook_235 : DD cX11_readBook 235 (.dup) 1 236 := ⟨by decide +kernel, rfl⟩
theorem eX11_readBook_236 : DD cX11_readBook 236 (.getfield 81) 3 239 := ⟨by decide +kernel, rfl⟩
theorem eX11_readBook_239 : DD cX11_readBook 239 (.iload_n 2) 1 240 := ⟨by decide +kernel, rfl⟩
theorem eX11_readBook_240 : DB cX11_readBook 240 (.ifCond .eq 7) (7) 243 247 := ⟨by decide +kernel, rfl, by decide⟩
theorem eX11_readBook_243 : DD cX11_readBook 243 (.iconst 1) 1 244 := ⟨by decide +kernel, rfl⟩
theorem eX11_readBook_244 : DB cX11_readBook 244 (.goto 4) (4) 247 248 := ⟨by decide +kernel, rfl, by decide⟩
theorem eX11_readBook_247 : DD cX11_readBook 247 (.iconst 0) 1 248 := ⟨by decide +kernel, rfl⟩
theorem eX11_readBook_248 : DD cX11_readBook 248 (.iadd) 1 249 := ⟨by decide +kernel, rfl⟩
theorem eX11_readBook_249 : DD cX11_readBook 249 (.putfield 81) 3 252 := ⟨by decide +kernel, rfl⟩
theorem eX11_readBook_252 : DB cX11_readBook 252 (.goto (-203)) (-203) 255 49 := ⟨by decide +kernel, rfl, by decide⟩
theorem eX11_readBook_255 : DD cX11_readBook 255 (.aload_n 0) 1 256 := ⟨by decide +kernel, rfl⟩
theorem eX11_readBook_256 : DD cX11_readBook 256 (.getfield 88) 3 259 := ⟨by decide +kernel, rfl⟩
theorem eX11_readBook_259 : DD cX11_readBook 259 (.iconst (-1)) 1 260 := ⟨by decide +kernel, rfl⟩
theorem eX11_readBook_260 : DB cX11_readBook 260 (.if_icmp .ne 22) (22) 263 282 := ⟨by decide +kernel, rfl, by decide⟩
theorem eX11_readBook_263 : DD cX11_readBook 263 (.aload_n 0) 1 264 := ⟨by decide +kernel, rfl⟩
theorem eX11_readBook_264 : DD cX11_readBook 264 (.invokevirtual 91) 3 267 := ⟨by decide +kernel, rfl⟩
theorem eX11_readBook_267 : DD cX11_readBook 267 (.iconst (-1)) 1 268 := ⟨by decide +kernel, rfl⟩
theorem eX11_readBook_268 : DB cX11_readBook 268 (.if_icmp .ne 10) (10) 271 278 := ⟨by decide +kernel, rfl, by decide⟩
theorem eX11_readBook_271 : DD cX11_readBook 271 (.aload_n 0) 1 272 := ⟨by decide +kernel, rfl⟩
theorem eX11_readBook_272 : DD cX11_readBook 272 (.invokevirtual 132) 3 275 := ⟨by decide +kernel, rfl⟩
theorem eX11_readBook_275 : DB cX11_readBook 275 (.ifCond .ne 7) (7) 278 282 := ⟨by decide +kernel, rfl, by decide⟩
theorem eX11_readBook_278 : DD cX11_readBook 278 (.aload_n 0) 1 279 := ⟨by decide +kernel, rfl⟩
theorem eX11_readBook_279 : DD cX11_readBook 279 (.invokevirtual 98) 3 282 := ⟨by decide +kernel, rfl⟩
theorem eX11_readBook_282 : DD cX11_readBook 282 (.aload_n 0) 1 283 := ⟨by decide +kernel, rfl⟩
theorem eX11_readBook_283 : DD cX11_readBook 283 (.getfield 88) 3 286 := ⟨by decide +kernel, rfl⟩
theorem eX11_readBook_286 : DD cX11_readBook 286 (.ireturn) 1 287 := ⟨by decide +kernel, rfl⟩
def F_X11_readBook_282  (μ : Mem) : Option (Int32 × Mem) :=
  some (rI μ 107 4, μ)
set_option maxHeartbeats 4000000 in
theorem j_X11_readBook_282 {C : Cx} (hC : Ok C cX11_readBook 4 RX11 (rmF 4 91)) (hr : (cT C).sig.returnType = (some .int))  (μ : Mem) : J C (KI C) μ 282 [(0, .ref (xad (cX C) 107))] [] (F_X11_readBook_282   μ) := by
  unfold F_X11_readBook_282
  refine J.aload_n (j := 0) hC eX11_readBook_282 rfl ?_
  refine gf_X11_88 hC eX11_readBook_283 kk_107 ?_
  exact J.iret hC hr eX11_readBook_286
def F_X11_readBook_278  (μ : Mem) : Option (Int32 × Mem) :=
  bd (G_X11_bad  μ) (fun r_2 μ_1 => F_X11_readBook_282   μ_1)
set_option maxHeartbeats 4000000 in
theorem j_X11_readBook_278 {C : Cx} (hC : Ok C cX11_readBook 4 RX11 (rmF 4 91)) (hr : (cT C).sig.returnType = (some .int))  (μ : Mem) : J C (KI C) μ 278 [(0, .ref (xad (cX C) 107))] [] (F_X11_readBook_278   μ) := by
  unfold F_X11_readBook_278
  refine J.aload_n (j := 0) hC eX11_readBook_278 rfl ?_
  refine J.callVV (st := []) hC eX11_readBook_279 kk_107 (by decide) rfl rfl ml_X11_98 mv_X11_bad (Rle_of (Nat.le_of_ble_eq_true rfl) (Nat.le_of_ble_eq_true rfl)) (c_X11_bad hC.X  μ) rfl rfl (Nat.le_of_ble_eq_true rfl) (fun r_2 μ_1 => ?_)
  refine J.sub [0] rfl ?_
  exact j_X11_readBook_282 hC hr   μ_1
def F_X11_readBook_255  (μ : Mem) : Option (Int32 × Mem) :=
  if (rI μ 107 4) = (-1 : Int32) then bd (G_X11_ahead  μ) (fun r_2 μ_1 => if r_2 = (-1 : Int32) then bd (G_X11_isWhole  μ_1) (fun r_4 μ_3 => if r_4 = 0 then F_X11_readBook_278   μ_3 else F_X11_readBook_282   μ_3) else F_X11_readBook_278   μ_1) else F_X11_readBook_282   μ
set_option maxHeartbeats 4000000 in
theorem j_X11_readBook_255 {C : Cx} (hC : Ok C cX11_readBook 4 RX11 (rmF 4 91)) (hr : (cT C).sig.returnType = (some .int))  (μ : Mem) : J C (KI C) μ 255 [(0, .ref (xad (cX C) 107))] [] (F_X11_readBook_255   μ) := by
  unfold F_X11_readBook_255
  refine J.aload_n (j := 0) hC eX11_readBook_255 rfl ?_
  refine gf_X11_88 hC eX11_readBook_256 kk_107 ?_
  refine J.iconst hC eX11_readBook_259 ci_m1 ?_
  refine J.icmp_ne hC eX11_readBook_260 (fun _ => ?_) (fun _ => ?_)
  · refine J.aload_n (j := 0) hC eX11_readBook_263 rfl ?_
    refine J.callVI (st := []) hC eX11_readBook_264 kk_107 (by decide) rfl rfl ml_X11_91 mv_X11_ahead (Rle_of (Nat.le_of_ble_eq_true rfl) (Nat.le_of_ble_eq_true rfl)) (c_X11_ahead hC.X  μ) rfl rfl (Nat.le_of_ble_eq_true rfl) (fun r_2 μ_1 => ?_)
    refine J.iconst hC eX11_readBook_267 ci_m1 ?_
    refine J.icmp_ne hC eX11_readBook_268 (fun _ => ?_) (fun _ => ?_)
    · refine J.aload_n (j := 0) hC eX11_readBook_271 rfl ?_
      refine J.callVI (st := []) hC eX11_readBook_272 kk_107 (by decide) rfl rfl ml_X11_132 mv_X11_isWhole (Rle_of (Nat.le_of_ble_eq_true rfl) (Nat.le_of_ble_eq_true rfl)) (c_X11_isWhole hC.X  μ_1) rfl rfl (Nat.le_of_ble_eq_true rfl) (fun r_4 μ_3 => ?_)
      refine J.if_ne hC eX11_readBook_275 (fun _ => ?_) (fun _ => ?_)
      · refine J.sub [0] rfl ?_
        exact j_X11_readBook_278 hC hr   μ_3
      · refine J.sub [0] rfl ?_
        exact j_X11_readBook_282 hC hr   μ_3
    · refine J.sub [0] rfl ?_
      exact j_X11_readBook_278 hC hr   μ_1
  · refine J.sub [0] rfl ?_
    exact j_X11_readBook_282 hC hr   μ
def F_X11_readBook_248 (kc_49 : Int32 → Int32 → Mem → Option (Int32 × Mem)) (x1 : Int32) (x2 : Int32) (xs1 : Int32) (xs2 : Int32) (μ : Mem) : Option (Int32 × Mem) :=
  lb (wI μ 107 3 (xs1 + xs2)) (fun μ_1 => kc_49 x1 x2 μ_1)
set_option maxHeartbeats 4000000 in
theorem j_X11_readBook_248 {C : Cx} (hC : Ok C cX11_readBook 4 RX11 (rmF 4 91)) (hr : (cT C).sig.returnType = (some .int)) (kc_49 : Int32 → Int32 → Mem → Option (Int32 × Mem)) (hk_49 : ∀ (x1 : Int32) (x2 : Int32) (μ : Mem), J C (KI C) μ 49 [(0, .ref (xad (cX C) 107)), (1, .int x1), (2, .int x2)] [] (kc_49 x1 x2 μ)) (x1 : Int32) (x2 : Int32) (xs1 : Int32) (xs2 : Int32) (μ : Mem) : J C (KI C) μ 248 [(0, .ref (xad (cX C) 107)), (1, .int x1), (2, .int x2)] [.int xs2, .int xs1, .ref (xad (cX C) 107)] (F_X11_readBook_248 kc_49 x1 x2 xs1 xs2 μ) := by
  unfold F_X11_readBook_248
  refine J.iadd hC eX11_readBook_248 ?_
  refine pf_X11_81 hC eX11_readBook_249 kk_107 (fun μ_1 => ?_)
  refine J.goto hC eX11_readBook_252 ?_
  refine J.sub [0, 1, 2] rfl ?_
  exact hk_49 x1 x2 μ_1
def F_X11_readBook_233 (kc_49 : Int32 → Int32 → Mem → Option (Int32 × Mem)) (x1 : Int32) (xs0 : Int32) (μ : Mem) : Option (Int32 × Mem) :=
  if xs0 = 0 then F_X11_readBook_248 kc_49 x1 xs0 (rI μ 107 3) (0 : Int32) μ else F_X11_readBook_248 kc_49 x1 xs0 (rI μ 107 3) (1 : Int32) μ
set_option maxHeartbeats 4000000 in
theorem j_X11_readBook_233 {C : Cx} (hC : Ok C cX11_readBook 4 RX11 (rmF 4 91)) (hr : (cT C).sig.returnType = (some .int)) (kc_49 : Int32 → Int32 → Mem → Option (Int32 × Mem)) (hk_49 : ∀ (x1 : Int32) (x2 : Int32) (μ : Mem), J C (KI C) μ 49 [(0, .ref (xad (cX C) 107)), (1, .int x1), (2, .int x2)] [] (kc_49 x1 x2 μ)) (x1 : Int32) (xs0 : Int32) (μ : Mem) : J C (KI C) μ 233 [(0, .ref (xad (cX C) 107)), (1, .int x1)] [.int xs0] (F_X11_readBook_233 kc_49 x1 xs0 μ) := by
  unfold F_X11_readBook_233
  refine J.istore_n [(2, .int xs0), (0, .ref (xad (cX C) 107)), (1, .int x1)] hC eX11_readBook_233 (by decide) rfl ?_
  refine J.aload_n (j := 1) hC eX11_readBook_234 rfl ?_
  refine J.dup hC eX11_readBook_235 rfl ?_
  refine gf_X11_81 hC eX11_readBook_236 kk_107 ?_
  refine J.iload_n (j := 0) hC eX11_readBook_239 rfl ?_
  refine J.if_eq hC eX11_readBook_240 (fun _ => ?_) (fun _ => ?_)
  · refine J.iconst hC eX11_readBook_247 ci_0 ?_
    refine J.sub [1, 2, 0] rfl ?_
    exact j_X11_readBook_248 hC hr kc_49 hk_49 x1 xs0 (rI μ 107 3) (0 : Int32) μ
  · refine J.iconst hC eX11_readBook_243 ci_1 ?_
    refine J.goto hC eX11_readBook_244 ?_
    refine J.sub [1, 2, 0] rfl ?_
    exact j_X11_readBook_248 hC hr kc_49 hk_49 x1 xs0 (rI μ 107 3) (1 : Int32) μ
def F_X11_readBook_232 (kc_49 : Int32 → Int32 → Mem → Option (Int32 × Mem)) (x1 : Int32) (μ : Mem) : Option (Int32 × Mem) :=
  F_X11_readBook_233 kc_49 x1 (0 : Int32) μ
set_option maxHeartbeats 4000000 in
theorem j_X11_readBook_232 {C : Cx} (hC : Ok C cX11_readBook 4 RX11 (rmF 4 91)) (hr : (cT C).sig.returnType = (some .int)) (kc_49 : Int32 → Int32 → Mem → Option (Int32 × Mem)) (hk_49 : ∀ (x1 : Int32) (x2 : Int32) (μ : Mem), J C (KI C) μ 49 [(0, .ref (xad (cX C) 107)), (1, .int x1), (2, .int x2)] [] (kc_49 x1 x2 μ)) (x1 : Int32) (μ : Mem) : J C (KI C) μ 232 [(0, .ref (xad (cX C) 107)), (1, .int x1)] [] (F_X11_readBook_232 kc_49 x1 μ) := by
  unfold F_X11_readBook_232
  refine J.iconst hC eX11_readBook_232 ci_0 ?_
  refine J.sub [0, 1] rfl ?_
  exact j_X11_readBook_233 hC hr kc_49 hk_49 x1 (0 : Int32) μ
def F_X11_readBook_211 (kc_49 : Int32 → Int32 → Mem → Option (Int32 × Mem)) (x1 : Int32) (μ : Mem) : Option (Int32 × Mem) :=
  if (rI μ 107 4) = (-1 : Int32) then bd (G_X11_ahead  μ) (fun r_2 μ_1 => if r_2 = (59 : Int32) then F_X11_readBook_233 kc_49 x1 (1 : Int32) μ_1 else F_X11_readBook_232 kc_49 x1 μ_1) else F_X11_readBook_232 kc_49 x1 μ
set_option maxHeartbeats 4000000 in
theorem j_X11_readBook_211 {C : Cx} (hC : Ok C cX11_readBook 4 RX11 (rmF 4 91)) (hr : (cT C).sig.returnType = (some .int)) (kc_49 : Int32 → Int32 → Mem → Option (Int32 × Mem)) (hk_49 : ∀ (x1 : Int32) (x2 : Int32) (μ : Mem), J C (KI C) μ 49 [(0, .ref (xad (cX C) 107)), (1, .int x1), (2, .int x2)] [] (kc_49 x1 x2 μ)) (x1 : Int32) (μ : Mem) : J C (KI C) μ 211 [(0, .ref (xad (cX C) 107)), (1, .int x1)] [] (F_X11_readBook_211 kc_49 x1 μ) := by
  unfold F_X11_readBook_211
  refine J.aload_n (j := 0) hC eX11_readBook_211 rfl ?_
  refine gf_X11_88 hC eX11_readBook_212 kk_107 ?_
  refine J.iconst hC eX11_readBook_215 ci_m1 ?_
  refine J.icmp_ne hC eX11_readBook_216 (fun _ => ?_) (fun _ => ?_)
  · refine J.aload_n (j := 0) hC eX11_readBook_219 rfl ?_
    refine J.callVI (st := []) hC eX11_readBook_220 kk_107 (by decide) rfl rfl ml_X11_91 mv_X11_ahead (Rle_of (Nat.le_of_ble_eq_true rfl) (Nat.le_of_ble_eq_true rfl)) (c_X11_ahead hC.X  μ) rfl rfl (Nat.le_of_ble_eq_true rfl) (fun r_2 μ_1 => ?_)
    refine J.bipush hC eX11_readBook_223 cb_59 ?_
    refine J.icmp_ne hC eX11_readBook_225 (fun _ => ?_) (fun _ => ?_)
    · refine J.iconst hC eX11_readBook_228 ci_1 ?_
      refine J.goto hC eX11_readBook_229 ?_
      refine J.sub [0, 1] rfl ?_
      exact j_X11_readBook_233 hC hr kc_49 hk_49 x1 (1 : Int32) μ_1
    · refine J.sub [0, 1] rfl ?_
      exact j_X11_readBook_232 hC hr kc_49 hk_49 x1 μ_1
  · refine J.sub [0, 1] rfl ?_
    exact j_X11_readBook_232 hC hr kc_49 hk_49 x1 μ
def F_X11_readBook_207 (kc_49 : Int32 → Int32 → Mem → Option (Int32 × Mem)) (x1 : Int32) (μ : Mem) : Option (Int32 × Mem) :=
  bd (G_X11_bad  μ) (fun r_2 μ_1 => F_X11_readBook_211 kc_49 x1 μ_1)
set_option maxHeartbeats 4000000 in
theorem j_X11_readBook_207 {C : Cx} (hC : Ok C cX11_readBook 4 RX11 (rmF 4 91)) (hr : (cT C).sig.returnType = (some .int)) (kc_49 : Int32 → Int32 → Mem → Option (Int32 × Mem)) (hk_49 : ∀ (x1 : Int32) (x2 : Int32) (μ : Mem), J C (KI C) μ 49 [(0, .ref (xad (cX C) 107)), (1, .int x1), (2, .int x2)] [] (kc_49 x1 x2 μ)) (x1 : Int32) (μ : Mem) : J C (KI C) μ 207 [(0, .ref (xad (cX C) 107)), (1, .int x1)] [] (F_X11_readBook_207 kc_49 x1 μ) := by
  unfold F_X11_readBook_207
  refine J.aload_n (j := 0) hC eX11_readBook_207 rfl ?_
  refine J.callVV (st := []) hC eX11_readBook_208 kk_107 (by decide) rfl rfl ml_X11_98 mv_X11_bad (Rle_of (Nat.le_of_ble_eq_true rfl) (Nat.le_of_ble_eq_true rfl)) (c_X11_bad hC.X  μ) rfl rfl (Nat.le_of_ble_eq_true rfl) (fun r_2 μ_1 => ?_)
  refine J.sub [0, 1] rfl ?_
  exact j_X11_readBook_211 hC hr kc_49 hk_49 x1 μ_1
def F_X11_readBook_153 (kc_49 : Int32 → Int32 → Mem → Option (Int32 × Mem)) (x1 : Int32) (x3 : Int32) (μ : Mem) : Option (Int32 × Mem) :=
  if x3 = (114 : Int32) then if (20 : Int32) ≤ (rI μ 107 9) then F_X11_readBook_207 kc_49 x1 μ else lb (wI μ 107 3 ((rI μ 107 3) + (1 : Int32))) (fun μ_1 => bd (G_X11_items x3 1080 80 111 ((4 : Int32) * (rI μ_1 107 9)) (4 : Int32) μ_1) (fun r_3 μ_2 => lb (wI μ_2 107 9 ((rI μ_2 107 9) + (1 : Int32))) (fun μ_4 => F_X11_readBook_211 kc_49 x1 μ_4))) else F_X11_readBook_207 kc_49 x1 μ
set_option maxHeartbeats 4000000 in
theorem j_X11_readBook_153 {C : Cx} (hC : Ok C cX11_readBook 4 RX11 (rmF 4 91)) (hr : (cT C).sig.returnType = (some .int)) (kc_49 : Int32 → Int32 → Mem → Option (Int32 × Mem)) (hk_49 : ∀ (x1 : Int32) (x2 : Int32) (μ : Mem), J C (KI C) μ 49 [(0, .ref (xad (cX C) 107)), (1, .int x1), (2, .int x2)] [] (kc_49 x1 x2 μ)) (x1 : Int32) (x3 : Int32) (μ : Mem) : J C (KI C) μ 153 [(0, .ref (xad (cX C) 107)), (1, .int x1), (3, .int x3)] [] (F_X11_readBook_153 kc_49 x1 x3 μ) := by
  unfold F_X11_readBook_153
  refine J.iload_n (j := 2) hC eX11_readBook_153 rfl ?_
  refine J.bipush hC eX11_readBook_154 cb_114 ?_
  refine J.icmp_ne hC eX11_readBook_156 (fun _ => ?_) (fun _ => ?_)
  · refine J.aload_n (j := 0) hC eX11_readBook_159 rfl ?_
    refine gf_X11_125 hC eX11_readBook_160 kk_107 ?_
    refine J.bipush hC eX11_readBook_163 cb_20 ?_
    refine J.icmp_ge hC eX11_readBook_165 (fun _ => ?_) (fun _ => ?_)
    · refine J.sub [0, 1] rfl ?_
      exact j_X11_readBook_207 hC hr kc_49 hk_49 x1 μ
    · refine J.aload_n (j := 0) hC eX11_readBook_168 rfl ?_
      refine J.dup hC eX11_readBook_169 rfl ?_
      refine gf_X11_81 hC eX11_readBook_170 kk_107 ?_
      refine J.iconst hC eX11_readBook_173 ci_1 ?_
      refine J.iadd hC eX11_readBook_174 ?_
      refine pf_X11_81 hC eX11_readBook_175 kk_107 (fun μ_1 => ?_)
      refine J.aload_n (j := 0) hC eX11_readBook_178 rfl ?_
      refine J.iload_n (j := 2) hC eX11_readBook_179 rfl ?_
      refine J.aload_n (j := 0) hC eX11_readBook_180 rfl ?_
      refine gf_X11_19 (q := 111) hC eX11_readBook_181 kk_107 rfl ?_
      refine J.iconst hC eX11_readBook_184 ci_4 ?_
      refine J.aload_n (j := 0) hC eX11_readBook_185 rfl ?_
      refine gf_X11_125 hC eX11_readBook_186 kk_107 ?_
      refine J.imul hC eX11_readBook_189 ?_
      refine J.iconst hC eX11_readBook_190 ci_4 ?_
      refine J.callVV (st := []) hC eX11_readBook_191 kk_107 (by decide) rfl rfl ml_X11_128 mv_X11_items (Rle_of (Nat.le_of_ble_eq_true rfl) (Nat.le_of_ble_eq_true rfl)) (c_X11_items hC.X x3 1080 80 ik_80 111 kk_111 ((4 : Int32) * (rI μ_1 107 9)) (4 : Int32) μ_1) rfl rfl (Nat.le_of_ble_eq_true rfl) (fun r_3 μ_2 => ?_)
      refine J.aload_n (j := 0) hC eX11_readBook_194 rfl ?_
      refine J.dup hC eX11_readBook_195 rfl ?_
      refine gf_X11_125 hC eX11_readBook_196 kk_107 ?_
      refine J.iconst hC eX11_readBook_199 ci_1 ?_
      refine J.iadd hC eX11_readBook_200 ?_
      refine pf_X11_125 hC eX11_readBook_201 kk_107 (fun μ_4 => ?_)
      refine J.goto hC eX11_readBook_204 ?_
      refine J.sub [0, 1] rfl ?_
      exact j_X11_readBook_211 hC hr kc_49 hk_49 x1 μ_4
  · refine J.sub [0, 1] rfl ?_
    exact j_X11_readBook_207 hC hr kc_49 hk_49 x1 μ
def F_X11_readBook_102 (kc_49 : Int32 → Int32 → Mem → Option (Int32 × Mem)) (x1 : Int32) (x3 : Int32) (μ : Mem) : Option (Int32 × Mem) :=
  if x3 = (116 : Int32) then if (3 : Int32) ≤ (rI μ 107 8) then F_X11_readBook_153 kc_49 x1 x3 μ else lb (wI μ 107 3 ((rI μ 107 3) + (1 : Int32))) (fun μ_1 => bd (G_X11_items x3 1003 3 110 (rI μ_1 107 8) (1 : Int32) μ_1) (fun r_3 μ_2 => lb (wI μ_2 107 8 ((rI μ_2 107 8) + (1 : Int32))) (fun μ_4 => F_X11_readBook_211 kc_49 x1 μ_4))) else F_X11_readBook_153 kc_49 x1 x3 μ
set_option maxHeartbeats 4000000 in
theorem j_X11_readBook_102 {C : Cx} (hC : Ok C cX11_readBook 4 RX11 (rmF 4 91)) (hr : (cT C).sig.returnType = (some .int)) (kc_49 : Int32 → Int32 → Mem → Option (Int32 × Mem)) (hk_49 : ∀ (x1 : Int32) (x2 : Int32) (μ : Mem), J C (KI C) μ 49 [(0, .ref (xad (cX C) 107)), (1, .int x1), (2, .int x2)] [] (kc_49 x1 x2 μ)) (x1 : Int32) (x3 : Int32) (μ : Mem) : J C (KI C) μ 102 [(0, .ref (xad (cX C) 107)), (1, .int x1), (3, .int x3)] [] (F_X11_readBook_102 kc_49 x1 x3 μ) := by
  unfold F_X11_readBook_102
  refine J.iload_n (j := 2) hC eX11_readBook_102 rfl ?_
  refine J.bipush hC eX11_readBook_103 cb_116 ?_
  refine J.icmp_ne hC eX11_readBook_105 (fun _ => ?_) (fun _ => ?_)
  · refine J.aload_n (j := 0) hC eX11_readBook_108 rfl ?_
    refine gf_X11_122 hC eX11_readBook_109 kk_107 ?_
    refine J.iconst hC eX11_readBook_112 ci_3 ?_
    refine J.icmp_ge hC eX11_readBook_113 (fun _ => ?_) (fun _ => ?_)
    · refine J.sub [0, 1, 2] rfl ?_
      exact j_X11_readBook_153 hC hr kc_49 hk_49 x1 x3 μ
    · refine J.aload_n (j := 0) hC eX11_readBook_116 rfl ?_
      refine J.dup hC eX11_readBook_117 rfl ?_
      refine gf_X11_81 hC eX11_readBook_118 kk_107 ?_
      refine J.iconst hC eX11_readBook_121 ci_1 ?_
      refine J.iadd hC eX11_readBook_122 ?_
      refine pf_X11_81 hC eX11_readBook_123 kk_107 (fun μ_1 => ?_)
      refine J.aload_n (j := 0) hC eX11_readBook_126 rfl ?_
      refine J.iload_n (j := 2) hC eX11_readBook_127 rfl ?_
      refine J.aload_n (j := 0) hC eX11_readBook_128 rfl ?_
      refine gf_X11_16 (q := 110) hC eX11_readBook_129 kk_107 rfl ?_
      refine J.aload_n (j := 0) hC eX11_readBook_132 rfl ?_
      refine gf_X11_122 hC eX11_readBook_133 kk_107 ?_
      refine J.iconst hC eX11_readBook_136 ci_1 ?_
      refine J.callVV (st := []) hC eX11_readBook_137 kk_107 (by decide) rfl rfl ml_X11_128 mv_X11_items (Rle_of (Nat.le_of_ble_eq_true rfl) (Nat.le_of_ble_eq_true rfl)) (c_X11_items hC.X x3 1003 3 ik_3 110 kk_110 (rI μ_1 107 8) (1 : Int32) μ_1) rfl rfl (Nat.le_of_ble_eq_true rfl) (fun r_3 μ_2 => ?_)
      refine J.aload_n (j := 0) hC eX11_readBook_140 rfl ?_
      refine J.dup hC eX11_readBook_141 rfl ?_
      refine gf_X11_122 hC eX11_readBook_142 kk_107 ?_
      refine J.iconst hC eX11_readBook_145 ci_1 ?_
      refine J.iadd hC eX11_readBook_146 ?_
      refine pf_X11_122 hC eX11_readBook_147 kk_107 (fun μ_4 => ?_)
      refine J.goto hC eX11_readBook_150 ?_
      refine J.sub [0, 1] rfl ?_
      exact j_X11_readBook_211 hC hr kc_49 hk_49 x1 μ_4
  · refine J.sub [0, 1, 2] rfl ?_
    exact j_X11_readBook_153 hC hr kc_49 hk_49 x1 x3 μ
def L_X11_readBook_49 : Nat → Int32 → Int32 → Mem → Option (Int32 × Mem)
  | 0, _, _, _ => none
  | n + 1, x1, x2, μ => if x2 = 0 then F_X11_readBook_255   μ else if (rI μ 107 4) = (-1 : Int32) then bd (G_X11_ahead  μ) (fun r_2 μ_1 => if r_2 = (115 : Int32) then if x1 = 0 then lb (wI μ_1 107 3 ((rI μ_1 107 3) + (1 : Int32))) (fun μ_3 => bd (G_X11_items r_2 1003 3 109 (0 : Int32) (3 : Int32) μ_3) (fun r_5 μ_4 => F_X11_readBook_211 (L_X11_readBook_49  n) (1 : Int32) μ_4)) else F_X11_readBook_102 (L_X11_readBook_49  n) x1 r_2 μ_1 else F_X11_readBook_102 (L_X11_readBook_49  n) x1 r_2 μ_1) else F_X11_readBook_255   μ
set_option maxHeartbeats 4000000 in
theorem j_X11_readBook_49 {C : Cx} (hC : Ok C cX11_readBook 4 RX11 (rmF 4 91)) (hr : (cT C).sig.returnType = (some .int)) : ∀ (n : Nat) (x1 : Int32) (x2 : Int32) (μ : Mem), J C (KI C) μ 49 [(0, .ref (xad (cX C) 107)), (1, .int x1), (2, .int x2)] [] (L_X11_readBook_49  n x1 x2 μ) := by
  intro n
  induction n with
  | zero => intros; exact J.no
  | succ n ih =>
    intro x1 x2 μ
    rw [L_X11_readBook_49]
    refine J.iload_n (j := 2) hC eX11_readBook_49 rfl ?_
    refine J.if_eq hC eX11_readBook_50 (fun _ => ?_) (fun _ => ?_)
    · refine J.sub [0] rfl ?_
      exact j_X11_readBook_255 hC hr   μ
    · refine J.aload_n (j := 0) hC eX11_readBook_53 rfl ?_
      refine gf_X11_88 hC eX11_readBook_54 kk_107 ?_
      refine J.iconst hC eX11_readBook_57 ci_m1 ?_
      refine J.icmp_ne hC eX11_readBook_58 (fun _ => ?_) (fun _ => ?_)
      · refine J.aload_n (j := 0) hC eX11_readBook_61 rfl ?_
        refine J.callVI (st := []) hC eX11_readBook_62 kk_107 (by decide) rfl rfl ml_X11_91 mv_X11_ahead (Rle_of (Nat.le_of_ble_eq_true rfl) (Nat.le_of_ble_eq_true rfl)) (c_X11_ahead hC.X  μ) rfl rfl (Nat.le_of_ble_eq_true rfl) (fun r_2 μ_1 => ?_)
        refine J.istore_n [(3, .int r_2), (0, .ref (xad (cX C) 107)), (1, .int x1), (2, .int x2)] hC eX11_readBook_65 (by decide) rfl ?_
        refine J.iload_n (j := 0) hC eX11_readBook_66 rfl ?_
        refine J.bipush hC eX11_readBook_67 cb_115 ?_
        refine J.icmp_ne hC eX11_readBook_69 (fun _ => ?_) (fun _ => ?_)
        · refine J.iload_n (j := 2) hC eX11_readBook_72 rfl ?_
          refine J.if_ne hC eX11_readBook_73 (fun _ => ?_) (fun _ => ?_)
          · refine J.iconst hC eX11_readBook_76 ci_1 ?_
            refine J.istore_n [(1, .int (1 : Int32)), (3, .int r_2), (0, .ref (xad (cX C) 107)), (2, .int x2)] hC eX11_readBook_77 (by decide) rfl ?_
            refine J.aload_n (j := 2) hC eX11_readBook_78 rfl ?_
            refine J.dup hC eX11_readBook_79 rfl ?_
            refine gf_X11_81 hC eX11_readBook_80 kk_107 ?_
            refine J.iconst hC eX11_readBook_83 ci_1 ?_
            refine J.iadd hC eX11_readBook_84 ?_
            refine pf_X11_81 hC eX11_readBook_85 kk_107 (fun μ_3 => ?_)
            refine J.aload_n (j := 2) hC eX11_readBook_88 rfl ?_
            refine J.iload_n (j := 1) hC eX11_readBook_89 rfl ?_
            refine J.aload_n (j := 2) hC eX11_readBook_90 rfl ?_
            refine gf_X11_13 (q := 109) hC eX11_readBook_91 kk_107 rfl ?_
            refine J.iconst hC eX11_readBook_94 ci_0 ?_
            refine J.iconst hC eX11_readBook_95 ci_3 ?_
            refine J.callVV (st := []) hC eX11_readBook_96 kk_107 (by decide) rfl rfl ml_X11_128 mv_X11_items (Rle_of (Nat.le_of_ble_eq_true rfl) (Nat.le_of_ble_eq_true rfl)) (c_X11_items hC.X r_2 1003 3 ik_3 109 kk_109 (0 : Int32) (3 : Int32) μ_3) rfl rfl (Nat.le_of_ble_eq_true rfl) (fun r_5 μ_4 => ?_)
            refine J.goto hC eX11_readBook_99 ?_
            refine J.sub [2, 0] rfl ?_
            exact j_X11_readBook_211 hC hr (L_X11_readBook_49  n) ih (1 : Int32) μ_4
          · refine J.sub [1, 2, 0] rfl ?_
            exact j_X11_readBook_102 hC hr (L_X11_readBook_49  n) ih x1 r_2 μ_1
        · refine J.sub [1, 2, 0] rfl ?_
          exact j_X11_readBook_102 hC hr (L_X11_readBook_49  n) ih x1 r_2 μ_1
      · refine J.sub [0] rfl ?_
        exact j_X11_readBook_255 hC hr   μ
def L_X11_readBook_24 : Nat → Int32 → Int32 → Mem → Option (Int32 × Mem)
  | 0, _, _, _ => none
  | n + 1, x1, x2, μ => if (3 : Int32) ≤ x2 then L_X11_readBook_49  100000 x1 (1 : Int32) μ else bd (G_X11_usual (115 : Int32) x2 μ) (fun r_2 μ_1 => gq (inB x2 3) (lb (wI μ_1 109 (nx x2) r_2) (fun μ_3 => lb (x2 + (1 : Int32)) (fun x2_4 => L_X11_readBook_24  n x1 x2_4 μ_3))))
set_option maxHeartbeats 4000000 in
theorem j_X11_readBook_24 {C : Cx} (hC : Ok C cX11_readBook 4 RX11 (rmF 4 91)) (hr : (cT C).sig.returnType = (some .int)) : ∀ (n : Nat) (x1 : Int32) (x2 : Int32) (μ : Mem), J C (KI C) μ 24 [(0, .ref (xad (cX C) 107)), (1, .int x1), (2, .int x2)] [] (L_X11_readBook_24  n x1 x2 μ) := by
  intro n
  induction n with
  | zero => intros; exact J.no
  | succ n ih =>
    intro x1 x2 μ
    rw [L_X11_readBook_24]
    refine J.iload_n (j := 2) hC eX11_readBook_24 rfl ?_
    refine J.iconst hC eX11_readBook_25 ci_3 ?_
    refine J.icmp_ge hC eX11_readBook_26 (fun _ => ?_) (fun _ => ?_)
    · refine J.iconst hC eX11_readBook_47 ci_1 ?_
      refine J.istore_n [(2, .int (1 : Int32)), (0, .ref (xad (cX C) 107)), (1, .int x1)] hC eX11_readBook_48 (by decide) rfl ?_
      refine J.sub [1, 2, 0] rfl ?_
      exact j_X11_readBook_49 hC hr  100000 x1 (1 : Int32) μ
    · refine J.aload_n (j := 0) hC eX11_readBook_29 rfl ?_
      refine gf_X11_13 (q := 109) hC eX11_readBook_30 kk_107 rfl ?_
      refine J.iload_n (j := 2) hC eX11_readBook_33 rfl ?_
      refine J.bipush hC eX11_readBook_34 cb_115 ?_
      refine J.iload_n (j := 2) hC eX11_readBook_36 rfl ?_
      refine J.callSI (st := [.int x2, .ref (xad (cX C) 109)]) hC eX11_readBook_37 ml_X11_101 mv_X11_usual (Rle_of (Nat.le_of_ble_eq_true rfl) (Nat.le_of_ble_eq_true rfl)) (c_X11_usual hC.X (115 : Int32) x2 μ) rfl rfl (Nat.le_of_ble_eq_true rfl) (fun r_2 μ_1 => ?_)
      refine J.iast ik_3 hC eX11_readBook_40 kk_109 (fun μ_3 => ?_)
      refine J.iinc (j := 2) (fun x2_4 => [(2, .int x2_4), (0, .ref (xad (cX C) 107)), (1, .int x1)]) hC eX11_readBook_41 rfl ci_1 (by decide) (fun _ => rfl) (fun x2_4 => ?_)
      refine J.goto hC eX11_readBook_44 ?_
      refine J.sub [1, 2, 0] rfl ?_
      exact ih x1 x2_4 μ_3
def G_X11_readBook  (μ : Mem) : Option (Int32 × Mem) :=
  lb (wI μ 107 3 (0 : Int32)) (fun μ_1 => lb (wI μ_1 107 4 (-1 : Int32)) (fun μ_2 => lb (wI μ_2 107 8 (0 : Int32)) (fun μ_3 => lb (wI μ_3 107 9 (0 : Int32)) (fun μ_4 => L_X11_readBook_24  100000 (0 : Int32) (0 : Int32) μ_4))))
set_option maxHeartbeats 4000000 in
theorem c_X11_readBook {X : Wd} (hX : WdOk X)  (μ : Mem) : CtI X yX11_readBook cX11_readBook 4 (some .int) (rmF 4 91) [.ref (xad X 107)] μ (G_X11_readBook  μ) := by
  refine CtI.of hX (plainFor_of_name (by decide)) (by exact Nat.le_of_ble_eq_true rfl) ?_
  intro C hCX hC hr
  subst hCX
  show J C (KI C) μ 0 [(0, .ref (xad (cX C) 107))] [] _
  unfold G_X11_readBook
  refine J.aload_n (j := 0) hC eX11_readBook_0 rfl ?_
  refine J.iconst hC eX11_readBook_1 ci_0 ?_
  refine pf_X11_81 hC eX11_readBook_2 kk_107 (fun μ_1 => ?_)
  refine J.aload_n (j := 0) hC eX11_readBook_5 rfl ?_
  refine J.iconst hC eX11_readBook_6 ci_m1 ?_
  refine pf_X11_88 hC eX11_readBook_7 kk_107 (fun μ_2 => ?_)
  refine J.aload_n (j := 0) hC eX11_readBook_10 rfl ?_
  refine J.iconst hC eX11_readBook_11 ci_0 ?_
  refine pf_X11_122 hC eX11_readBook_12 kk_107 (fun μ_3 => ?_)
  refine J.aload_n (j := 0) hC eX11_readBook_15 rfl ?_
  refine J.iconst hC eX11_readBook_16 ci_0 ?_
  refine pf_X11_125 hC eX11_readBook_17 kk_107 (fun μ_4 => ?_)
  refine J.iconst hC eX11_readBook_20 ci_0 ?_
  refine J.istore_n [(1, .int (0 : Int32)), (0, .ref (xad (cX C) 107))] hC eX11_readBook_21 (by decide) rfl ?_
  refine J.iconst hC eX11_readBook_22 ci_0 ?_
  refine J.istore_n [(2, .int (0 : Int32)), (1, .int (0 : Int32)), (0, .ref (xad (cX C) 107))] hC eX11_readBook_23 (by decide) rfl ?_
  refine J.sub [2, 1, 0] rfl ?_
  exact j_X11_readBook_24 hC hr  100000 (0 : Int32) (0 : Int32) μ_4
