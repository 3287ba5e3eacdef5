-- X11_greatestTotal
theorem eX11_greatestTotal_0 : DD cX11_greatestTotal 0 (.iconst 0) 1 1 := ⟨by decide +kernel, rfl⟩
theorem eX11_greatestTotal_1 : DD cX11_greatestTotal 1 (.istore_n 1) 1 2 := ⟨by decide +kernel, rfl⟩
theorem eX11_greatestTotal_2 : DD cX11_greatestTotal 2 (.iconst 0) 1 3 := ⟨by decide +kernel, rfl⟩
theorem eX11_greatestTotal_3 : DD cX11_greatestTotal 3 (.istore_n 2) 1 4 := ⟨by decide +kernel, rfl⟩
theorem eX11_greatestTotal_4 : DD cX11_greatestTotal 4 (.iload_n 2) 1 5 := ⟨by decide +kernel, rfl⟩
theorem eX11_greatestTotal_5 : DD cX11_greatestTotal 5 (.iconst 2) 1 6 := ⟨by decide +kernel, rfl⟩
theorem eX11_greatestTotal_6 : DD cX11_greatestTotal 6 (.aload_n 0) 1 7 := ⟨by decide +kernel, rfl⟩
theorem eX11_greatestTotal_7 : DD cX11_greatestTotal 7 (.getfield 150) 3 10 := ⟨by decide +kernel, rfl⟩
theorem eX11_greatestTotal_10 : DD cX11_greatestTotal 10 (.imul) 1 11 := ⟨by decide +kernel, rfl⟩
theorem eX11_greatestTotal_11 : DB cX11_greatestTotal 11 (.if_icmp .ge 48) (48) 14 59 := ⟨by decide +kernel, rfl, by decide⟩
theorem eX11_greatestTotal_14 : DD cX11_greatestTotal 14 (.iconst 0) 1 15 := ⟨by decide +kernel, rfl⟩
theorem eX11_greatestTotal_15 : DD cX11_greatestTotal 15 (.istore_n 3) 1 16 := ⟨by decide +kernel, rfl⟩
theorem eX11_greatestTotal_16 : DD cX11_greatestTotal 16 (.iload_n 3) 1 17 := ⟨by decide +kernel, rfl⟩
theorem eX11_greatestTotal_17 : DD cX11_greatestTotal 17 (.aload_n 0) 1 18 := ⟨by decide +kernel, rfl⟩
theorem eX11_greatestTotal_18 : DD cX11_greatestTotal 18 (.iload_n 2) 1 19 := ⟨by decide +kernel, rfl⟩
theorem eX11_greatestTotal_19 : DD cX11_greatestTotal 19 (.iconst 2) 1 20 := ⟨by decide +kernel, rfl⟩
theorem eX11_greatestTotal_20 : DD cX11_greatestTotal 20 (.idiv) 1 21 := ⟨by decide +kernel, rfl⟩
theorem eX11_greatestTotal_21 : DD cX11_greatestTotal 21 (.iload_n 2) 1 22 := ⟨by decide +kernel, rfl⟩
theorem eX11_greatestTotal_22 : DD cX11_greatestTotal 22 (.iconst 2) 1 23 := ⟨by decide +kernel, rfl⟩
theorem eX11_greatestTotal_23 : DD cX11_greatestTotal 23 (.irem) 1 24 := ⟨by decide +kernel, rfl⟩
theorem eX11_greatestTotal_24 : DD cX11_greatestTotal 24 (.invokevirtual 238) 3 27 := ⟨by decide +kernel, rfl⟩
theorem eX11_greatestTotal_27 : DB cX11_greatestTotal 27 (.if_icmp .ge 26) (26) 30 53 := ⟨by decide +kernel, rfl, by decide⟩
theorem eX11_greatestTotal_30 : DD cX11_greatestTotal 30 (.iload_n 1) 1 31 := ⟨by decide +kernel, rfl⟩
theorem eX11_greatestTotal_31 : DD cX11_greatestTotal 31 (.aload_n 0) 1 32 := ⟨by decide +kernel, rfl⟩
theorem eX11_greatestTotal_32 : DD cX11_greatestTotal 32 (.iload_n 2) 1 33 := ⟨by decide +kernel, rfl⟩
theorem eX11_greatestTotal_33 : DD cX11_greatestTotal 33 (.iconst 2) 1 34 := ⟨by decide +kernel, rfl⟩
theorem eX11_greatestTotal_34 : DD cX11_greatestTotal 34 (.idiv) 1 35 := ⟨by decide +kernel, rfl⟩
theorem eX11_greatestTotal_35 : DD cX11_greatestTotal 35 (.iload_n 2) 1 36 := ⟨by decide +kernel, rfl⟩
theorem eX11_greatestTotal_36 : DD cX11_greatestTotal 36 (.iconst 2) 1 37 := ⟨by decide +kernel, rfl⟩
theorem eX11_greatestTotal_37 : DD cX11_greatestTotal 37 (.irem) 1 38 := ⟨by decide +kernel, rfl⟩
theorem eX11_greatestTotal_38 : DD cX11_greatestTotal 38 (.iload_n 3) 1 39 := ⟨by decide +kernel, rfl⟩
theorem eX11_greatestTotal_39 : DD cX11_greatestTotal 39 (.iconst 2) 1 40 := ⟨by decide +kernel, rfl⟩
theorem eX11_greatestTotal_40 : DD cX11_greatestTotal 40 (.invokevirtual 241) 3 43 := ⟨by decide +kernel, rfl⟩
theorem eX11_greatestTotal_43 : DD cX11_greatestTotal 43 (.invokestatic 202) 3 46 := ⟨by decide +kernel, rfl⟩
theorem eX11_greatestTotal_46 : DD cX11_greatestTotal 46 (.istore_n 1) 1 47 := ⟨by decide +kernel, rfl⟩
theorem eX11_greatestTotal_47 : DD cX11_greatestTotal 47 (.iinc 3 1) 3 50 := ⟨by decide +kernel, rfl⟩
theorem eX11_greatestTotal_50 : DB cX11_greatestTotal 50 (.goto (-34)) (-34) 53 16 := ⟨by decide +kernel, rfl, by decide⟩
theorem eX11_greatestTotal_53 : DD cX11_greatestTotal 53 (.iinc 2 1) 3 56 := ⟨by decide +kernel, rfl⟩
theorem eX11_greatestTotal_56 : DB cX11_greatestTotal 56 (.goto (-52)) (-52) 59 4 := ⟨by decide +kernel, rfl, by decide⟩
theorem eX11_greatestTotal_59 : DD cX11_greatestTotal 59 (.iload_n 1) 1 60 := ⟨by decide +kernel, rfl⟩
theorem eX11_greatestTotal_60 : DD cX11_greatestTotal 60 (.ireturn) 1 61 := ⟨by decide +kernel, rfl⟩
def L_X11_greatestTotal_16 (kc_4 : Int32 → Int32 → Mem → Option (Int32 × Mem)) : Nat → Int32 → Int32 → Int32 → Mem → Option (Int32 × Mem)
  | 0, _, _, _, _ => none
  | n + 1, x1, x2, x3, μ => bd (G_X11_bucketMany (x2 / (2 : Int32)) (x2 - x2 / (2 : Int32) * (2 : Int32)) μ) (fun r_2 μ_1 => if r_2 ≤ x3 then lb (x2 + (1 : Int32)) (fun x2_3 => kc_4 x1 x2_3 μ_1) else bd (G_X11_of (x2 / (2 : Int32)) (x2 - x2 / (2 : Int32) * (2 : Int32)) x3 (2 : Int32) μ_1) (fun r_5 μ_4 => lb (imax x1 r_5) (fun x1_6 => lb (x3 + (1 : Int32)) (fun x3_7 => L_X11_greatestTotal_16 kc_4 n x1_6 x2 x3_7 μ_4))))
set_option maxHeartbeats 4000000 in
theorem j_X11_greatestTotal_16 {C : Cx} (hC : Ok C cX11_greatestTotal 4 RX11 (rmF 2 45)) (hr : (cT C).sig.returnType = (some .int)) (kc_4 : Int32 → Int32 → Mem → Option (Int32 × Mem)) (hk_4 : ∀ (x1 : Int32) (x2 : Int32) (μ : Mem), J C (KI C) μ 4 [(0, .ref (xad (cX C) 107)), (1, .int x1), (2, .int x2)] [] (kc_4 x1 x2 μ)) : ∀ (n : Nat) (x1 : Int32) (x2 : Int32) (x3 : Int32) (μ : Mem), J C (KI C) μ 16 [(0, .ref (xad (cX C) 107)), (1, .int x1), (2, .int x2), (3, .int x3)] [] (L_X11_greatestTotal_16 kc_4 n x1 x2 x3 μ) := by
  intro n
  induction n with
  | zero => intros; exact J.no
  | succ n ih =>
    intro x1 x2 x3 μ
    rw [L_X11_greatestTotal_16]
    refine J.iload_n (j := 3) hC eX11_greatestTotal_16 rfl ?_
    refine J.aload_n (j := 0) hC eX11_greatestTotal_17 rfl ?_
    refine J.iload_n (j := 2) hC eX11_greatestTotal_18 rfl ?_
    refine J.iconst hC eX11_greatestTotal_19 ci_2 ?_
    refine J.idivK hC eX11_greatestTotal_20 (by decide) ?_
    refine J.iload_n (j := 2) hC eX11_greatestTotal_21 rfl ?_
    refine J.iconst hC eX11_greatestTotal_22 ci_2 ?_
    refine J.iremK hC eX11_greatestTotal_23 (by decide) ?_
    refine J.callVI (st := [.int x3]) hC eX11_greatestTotal_24 kk_107 (by decide) rfl rfl ml_X11_238 mv_X11_bucketMany (Rle_of (Nat.le_of_ble_eq_true rfl) (Nat.le_of_ble_eq_true rfl)) (c_X11_bucketMany hC.X (x2 / (2 : Int32)) (x2 - x2 / (2 : Int32) * (2 : Int32)) μ) rfl rfl (Nat.le_of_ble_eq_true rfl) (fun r_2 μ_1 => ?_)
    refine J.icmp_ge hC eX11_greatestTotal_27 (fun _ => ?_) (fun _ => ?_)
    · refine J.iinc (j := 2) (fun x2_3 => [(2, .int x2_3), (0, .ref (xad (cX C) 107)), (1, .int x1), (3, .int x3)]) hC eX11_greatestTotal_53 rfl ci_1 (by decide) (fun _ => rfl) (fun x2_3 => ?_)
      refine J.goto hC eX11_greatestTotal_56 ?_
      refine J.sub [1, 2, 0] rfl ?_
      exact hk_4 x1 x2_3 μ_1
    · refine J.iload_n (j := 1) hC eX11_greatestTotal_30 rfl ?_
      refine J.aload_n (j := 0) hC eX11_greatestTotal_31 rfl ?_
      refine J.iload_n (j := 2) hC eX11_greatestTotal_32 rfl ?_
      refine J.iconst hC eX11_greatestTotal_33 ci_2 ?_
      refine J.idivK hC eX11_greatestTotal_34 (by decide) ?_
      refine J.iload_n (j := 2) hC eX11_greatestTotal_35 rfl ?_
      refine J.iconst hC eX11_greatestTotal_36 ci_2 ?_
      refine J.iremK hC eX11_greatestTotal_37 (by decide) ?_
      refine J.iload_n (j := 3) hC eX11_greatestTotal_38 rfl ?_
      refine J.iconst hC eX11_greatestTotal_39 ci_2 ?_
      refine J.callVI (st := [.int x1]) hC eX11_greatestTotal_40 kk_107 (by decide) rfl rfl ml_X11_241 mv_X11_of (Rle_of (Nat.le_of_ble_eq_true rfl) (Nat.le_of_ble_eq_true rfl)) (c_X11_of hC.X (x2 / (2 : Int32)) (x2 - x2 / (2 : Int32) * (2 : Int32)) x3 (2 : Int32) μ_1) rfl rfl (Nat.le_of_ble_eq_true rfl) (fun r_5 μ_4 => ?_)
      refine J.mmax hC eX11_greatestTotal_43 ml_X11_202 w_smax w_im w_cmax (Nat.le_of_ble_eq_true rfl) (Nat.le_of_ble_eq_true rfl) ?_
      refine J.topi (fun x1_6 => ?_)
      refine J.istore_n [(1, .int x1_6), (0, .ref (xad (cX C) 107)), (2, .int x2), (3, .int x3)] hC eX11_greatestTotal_46 (by decide) rfl ?_
      refine J.iinc (j := 3) (fun x3_7 => [(3, .int x3_7), (1, .int x1_6), (0, .ref (xad (cX C) 107)), (2, .int x2)]) hC eX11_greatestTotal_47 rfl ci_1 (by decide) (fun _ => rfl) (fun x3_7 => ?_)
      refine J.goto hC eX11_greatestTotal_50 ?_
      refine J.sub [2, 1, 3, 0] rfl ?_
      exact ih x1_6 x2 x3_7 μ_4
def L_X11_greatestTotal_4 : Nat → Int32 → Int32 → Mem → Option (Int32 × Mem)
  | 0, _, _, _ => none
  | n + 1, x1, x2, μ => if ((2 : Int32) * (rI μ 107 12)) ≤ x2 then some (x1, μ) else L_X11_greatestTotal_16 (L_X11_greatestTotal_4  n) 100000 x1 x2 (0 : Int32) μ
set_option maxHeartbeats 4000000 in
theorem j_X11_greatestTotal_4 {C : Cx} (hC : Ok C cX11_greatestTotal 4 RX11 (rmF 2 45)) (hr : (cT C).sig.returnType = (some .int)) : ∀ (n : Nat) (x1 : Int32) (x2 : Int32) (μ : Mem), J C (KI C) μ 4 [(0, .ref (xad (cX C) 107)), (1, .int x1), (2, .int x2)] [] (L_X11_greatestTotal_4  n x1 x2 μ) := by
  intro n
  induction n with
  | zero => intros; exact J.no
  | succ n ih =>
    intro x1 x2 μ
    rw [L_X11_greatestTotal_4]
    refine J.iload_n (j := 2) hC eX11_greatestTotal_4 rfl ?_
    refine J.iconst hC eX11_greatestTotal_5 ci_2 ?_
    refine J.aload_n (j := 0) hC eX11_greatestTotal_6 rfl ?_
    refine gf_X11_150 hC eX11_greatestTotal_7 kk_107 ?_
    refine J.imul hC eX11_greatestTotal_10 ?_
    refine J.icmp_ge hC eX11_greatestTotal_11 (fun _ => ?_) (fun _ => ?_)
    · refine J.iload_n (j := 1) hC eX11_greatestTotal_59 rfl ?_
      exact J.iret hC hr eX11_greatestTotal_60
    · refine J.iconst hC eX11_greatestTotal_14 ci_0 ?_
      refine J.istore_n [(3, .int (0 : Int32)), (0, .ref (xad (cX C) 107)), (1, .int x1), (2, .int x2)] hC eX11_greatestTotal_15 (by decide) rfl ?_
      refine J.sub [1, 2, 3, 0] rfl ?_
      exact j_X11_greatestTotal_16 hC hr (L_X11_greatestTotal_4  n) ih 100000 x1 x2 (0 : Int32) μ
def G_X11_greatestTotal  (μ : Mem) : Option (Int32 × Mem) :=
  L_X11_greatestTotal_4  100000 (0 : Int32) (0 : Int32) μ
set_option maxHeartbeats 4000000 in
theorem c_X11_greatestTotal {X : Wd} (hX : WdOk X)  (μ : Mem) : CtI X yX11_greatestTotal cX11_greatestTotal 4 (some .int) (rmF 2 45) [.ref (xad X 107)] μ (G_X11_greatestTotal  μ) := by
  refine CtI.of hX (plainFor_of_name (by decide)) (by exact Nat.le_of_ble_eq_true rfl) ?_
  intro C hCX hC hr
  subst hCX
  show J C (KI C) μ 0 [(0, .ref (xad (cX C) 107))] [] _
  unfold G_X11_greatestTotal
  refine J.iconst hC eX11_greatestTotal_0 ci_0 ?_
  refine J.istore_n [(1, .int (0 : Int32)), (0, .ref (xad (cX C) 107))] hC eX11_greatestTotal_1 (by decide) rfl ?_
  refine J.iconst hC eX11_greatestTotal_2 ci_0 ?_
  refine J.istore_n [(2, .int (0 : Int32)), (1, .int (0 : Int32)), (0, .ref (xad (cX C) 107))] hC eX11_greatestTotal_3 (by decide) rfl ?_
  refine J.sub [2, 1, 0] rfl ?_
  exact j_X11_greatestTotal_4 hC hr  100000 (0 : Int32) (0 : Int32) μ
-- X11_mostAlike
theorem eX11_mostAlike_0 : DD cX11_mostAlike 0 (.iconst 0) 1 1 := ⟨by decide +kernel, rfl⟩
theorem eX11_mostAlike_1 : DD cX11_mostAlike 1 (.istore_n 1) 1 2 := ⟨by decide +kernel, rfl⟩
theorem eX11_mostAlike_2 : DD cX11_mostAlike 2 (.iconst 0) 1 3 := ⟨by decide +kernel, rfl⟩
theorem eX11_mostAlike_3 : DD cX11_mostAlike 3 (.istore_n 2) 1 4 := ⟨by decide +kernel, rfl⟩
theorem eX11_mostAlike_4 : DD cX11_mostAlike 4 (.iload_n 2) 1 5 := ⟨by decide +kernel, rfl⟩
theorem eX11_mostAlike_5 : DD cX11_mostAlike 5 (.aload_n 0) 1 6 := ⟨by decide +kernel, rfl⟩
theorem eX11_mostAlike_6 : DD cX11_mostAlike 6 (.getfield 150) 3 9 := ⟨by decide +kernel, rfl⟩
theorem eX11_mostAlike_9 : DB cX11_mostAlike 9 (.if_icmp .ge 41) (41) 12 50 := ⟨by decide +kernel, rfl, by decide⟩
theorem eX11_mostAlike_12 : DD cX11_mostAlike 12 (.iconst 0) 1 13 := ⟨by decide +kernel, rfl⟩
theorem eX11_mostAlike_13 : DD cX11_mostAlike 13 (.istore_n 3) 1 14 := ⟨by decide +kernel, rfl⟩
theorem eX11_mostAlike_14 : DD cX11_mostAlike 14 (.iload_n 3) 1 15 := ⟨by decide +kernel, rfl⟩
theorem eX11_mostAlike_15 : DD cX11_mostAlike 15 (.sipush 289) 3 18 := ⟨by decide +kernel, rfl⟩
theorem eX11_mostAlike_18 : DB cX11_mostAlike 18 (.if_icmp .ge 26) (26) 21 44 := ⟨by decide +kernel, rfl, by decide⟩
theorem eX11_mostAlike_21 : DD cX11_mostAlike 21 (.iload_n 1) 1 22 := ⟨by decide +kernel, rfl⟩
theorem eX11_mostAlike_22 : DD cX11_mostAlike 22 (.aload_n 0) 1 23 := ⟨by decide +kernel, rfl⟩
theorem eX11_mostAlike_23 : DD cX11_mostAlike 23 (.getfield 34) 3 26 := ⟨by decide +kernel, rfl⟩
theorem eX11_mostAlike_26 : DD cX11_mostAlike 26 (.sipush 357) 3 29 := ⟨by decide +kernel, rfl⟩
theorem eX11_mostAlike_29 : DD cX11_mostAlike 29 (.iload_n 2) 1 30 := ⟨by decide +kernel, rfl⟩
theorem eX11_mostAlike_30 : DD cX11_mostAlike 30 (.imul) 1 31 := ⟨by decide +kernel, rfl⟩
theorem eX11_mostAlike_31 : DD cX11_mostAlike 31 (.iload_n 3) 1 32 := ⟨by decide +kernel, rfl⟩
theorem eX11_mostAlike_32 : DD cX11_mostAlike 32 (.iadd) 1 33 := ⟨by decide +kernel, rfl⟩
theorem eX11_mostAlike_33 : DD cX11_mostAlike 33 (.iaload) 1 34 := ⟨by decide +kernel, rfl⟩
theorem eX11_mostAlike_34 : DD cX11_mostAlike 34 (.invokestatic 202) 3 37 := ⟨by decide +kernel, rfl⟩
theorem eX11_mostAlike_37 : DD cX11_mostAlike 37 (.istore_n 1) 1 38 := ⟨by decide +kernel, rfl⟩
theorem eX11_mostAlike_38 : DD cX11_mostAlike 38 (.iinc 3 1) 3 41 := ⟨by decide +kernel, rfl⟩
theorem eX11_mostAlike_41 : DB cX11_mostAlike 41 (.goto (-27)) (-27) 44 14 := ⟨by decide +kernel, rfl, by decide⟩
theorem eX11_mostAlike_44 : DD cX11_mostAlike 44 (.iinc 2 1) 3 47 := ⟨by decide +kernel, rfl⟩
theorem eX11_mostAlike_47 : DB cX11_mostAlike 47 (.goto (-43)) (-43) 50 4 := ⟨by decide +kernel, rfl, by decide⟩
theorem eX11_mostAlike_50 : DD cX11_mostAlike 50 (.iload_n 1) 1 51 := ⟨by decide +kernel, rfl⟩
theorem eX11_mostAlike_51 : DD cX11_mostAlike 51 (.ireturn) 1 52 := ⟨by decide +kernel, rfl⟩
def L_X11_mostAlike_14 (kc_4 : Int32 → Int32 → Mem → Option (Int32 × Mem)) : Nat → Int32 → Int32 → Int32 → Mem → Option (Int32 × Mem)
  | 0, _, _, _, _ => none
  | n + 1, x1, x2, x3, μ => if (289 : Int32) ≤ x3 then lb (x2 + (1 : Int32)) (fun x2_1 => kc_4 x1 x2_1 μ) else gq (inB (((357 : Int32) * x2) + x3) 1253) (lb (imax x1 (rI μ 116 (nx (((357 : Int32) * x2) + x3)))) (fun x1_2 => lb (x3 + (1 : Int32)) (fun x3_3 => L_X11_mostAlike_14 kc_4 n x1_2 x2 x3_3 μ)))
set_option maxHeartbeats 4000000 in
theorem j_X11_mostAlike_14 {C : Cx} (hC : Ok C cX11_mostAlike 4 RX11 (rmF 1 15)) (hr : (cT C).sig.returnType = (some .int)) (kc_4 : Int32 → Int32 → Mem → Option (Int32 × Mem)) (hk_4 : ∀ (x1 : Int32) (x2 : Int32) (μ : Mem), J C (KI C) μ 4 [(0, .ref (xad (cX C) 107)), (1, .int x1), (2, .int x2)] [] (kc_4 x1 x2 μ)) : ∀ (n : Nat) (x1 : Int32) (x2 : Int32) (x3 : Int32) (μ : Mem), J C (KI C) μ 14 [(0, .ref (xad (cX C) 107)), (1, .int x1), (2, .int x2), (3, .int x3)] [] (L_X11_mostAlike_14 kc_4 n x1 x2 x3 μ) := by
  intro n
  induction n with
  | zero => intros; exact J.no
  | succ n ih =>
    intro x1 x2 x3 μ
    rw [L_X11_mostAlike_14]
    refine J.iload_n (j := 3) hC eX11_mostAlike_14 rfl ?_
    refine J.sipush hC eX11_mostAlike_15 cs_289 ?_
    refine J.icmp_ge hC eX11_mostAlike_18 (fun _ => ?_) (fun _ => ?_)
    · refine J.iinc (j := 2) (fun x2_1 => [(2, .int x2_1), (0, .ref (xad (cX C) 107)), (1, .int x1), (3, .int x3)]) hC eX11_mostAlike_44 rfl ci_1 (by decide) (fun _ => rfl) (fun x2_1 => ?_)
      refine J.goto hC eX11_mostAlike_47 ?_
      refine J.sub [1, 2, 0] rfl ?_
      exact hk_4 x1 x2_1 μ
    · refine J.iload_n (j := 1) hC eX11_mostAlike_21 rfl ?_
      refine J.aload_n (j := 0) hC eX11_mostAlike_22 rfl ?_
      refine gf_X11_34 (q := 116) hC eX11_mostAlike_23 kk_107 rfl ?_
      refine J.sipush hC eX11_mostAlike_26 cs_357 ?_
      refine J.iload_n (j := 2) hC eX11_mostAlike_29 rfl ?_
      refine J.imul hC eX11_mostAlike_30 ?_
      refine J.iload_n (j := 3) hC eX11_mostAlike_31 rfl ?_
      refine J.iadd hC eX11_mostAlike_32 ?_
      refine J.iald ik_1253 hC eX11_mostAlike_33 kk_116 ?_
      refine J.mmax hC eX11_mostAlike_34 ml_X11_202 w_smax w_im w_cmax (Nat.le_of_ble_eq_true rfl) (Nat.le_of_ble_eq_true rfl) ?_
      refine J.topi (fun x1_2 => ?_)
      refine J.istore_n [(1, .int x1_2), (0, .ref (xad (cX C) 107)), (2, .int x2), (3, .int x3)] hC eX11_mostAlike_37 (by decide) rfl ?_
      refine J.iinc (j := 3) (fun x3_3 => [(3, .int x3_3), (1, .int x1_2), (0, .ref (xad (cX C) 107)), (2, .int x2)]) hC eX11_mostAlike_38 rfl ci_1 (by decide) (fun _ => rfl) (fun x3_3 => ?_)
      refine J.goto hC eX11_mostAlike_41 ?_
      refine J.sub [2, 1, 3, 0] rfl ?_
      exact ih x1_2 x2 x3_3 μ
def L_X11_mostAlike_4 : Nat → Int32 → Int32 → Mem → Option (Int32 × Mem)
  | 0, _, _, _ => none
  | n + 1, x1, x2, μ => if (rI μ 107 12) ≤ x2 then some (x1, μ) else L_X11_mostAlike_14 (L_X11_mostAlike_4  n) 100000 x1 x2 (0 : Int32) μ
set_option maxHeartbeats 4000000 in
theorem j_X11_mostAlike_4 {C : Cx} (hC : Ok C cX11_mostAlike 4 RX11 (rmF 1 15)) (hr : (cT C).sig.returnType = (some .int)) : ∀ (n : Nat) (x1 : Int32) (x2 : Int32) (μ : Mem), J C (KI C) μ 4 [(0, .ref (xad (cX C) 107)), (1, .int x1), (2, .int x2)] [] (L_X11_mostAlike_4  n x1 x2 μ) := by
  intro n
  induction n with
  | zero => intros; exact J.no
  | succ n ih =>
    intro x1 x2 μ
    rw [L_X11_mostAlike_4]
    refine J.iload_n (j := 2) hC eX11_mostAlike_4 rfl ?_
    refine J.aload_n (j := 0) hC eX11_mostAlike_5 rfl ?_
    refine gf_X11_150 hC eX11_mostAlike_6 kk_107 ?_
    refine J.icmp_ge hC eX11_mostAlike_9 (fun _ => ?_) (fun _ => ?_)
    · refine J.iload_n (j := 1) hC eX11_mostAlike_50 rfl ?_
      exact J.iret hC hr eX11_mostAlike_51
    · refine J.iconst hC eX11_mostAlike_12 ci_0 ?_
      refine J.istore_n [(3, .int (0 : Int32)), (0, .ref (xad (cX C) 107)), (1, .int x1), (2, .int x2)] hC eX11_mostAlike_13 (by decide) rfl ?_
      refine J.sub [1, 2, 3, 0] rfl ?_
      exact j_X11_mostAlike_14 hC hr (L_X11_mostAlike_4  n) ih 100000 x1 x2 (0 : Int32) μ
def G_X11_mostAlike  (μ : Mem) : Option (Int32 × Mem) :=
  L_X11_mostAlike_4  100000 (0 : Int32) (0 : Int32) μ
set_option maxHeartbeats 4000000 in
theorem c_X11_mostAlike {X : Wd} (hX : WdOk X)  (μ : Mem) : CtI X yX11_mostAlike cX11_mostAlike 4 (some .int) (rmF 1 15) [.ref (xad X 107)] μ (G_X11_mostAlike  μ) := by
  refine CtI.of hX (plainFor_of_name (by decide)) (by exact Nat.le_of_ble_eq_true rfl) ?_
  intro C hCX hC hr
  subst hCX
  show J C (KI C) μ 0 [(0, .ref (xad (cX C) 107))] [] _
  unfold G_X11_mostAlike
  refine J.iconst hC eX11_mostAlike_0 ci_0 ?_
  refine J.istore_n [(1, .int (0 : Int32)), (0, .ref (xad (cX C) 107))] hC eX11_mostAlike_1 (by decide) rfl ?_
  refine J.iconst hC eX11_mostAlike_2 ci_0 ?_
  refine J.istore_n [(2, .int (0 : Int32)), (1, .int (0 : Int32)), (0, .ref (xad (cX C) 107))] hC eX11_mostAlike_3 (by decide) rfl ?_
  refine J.sub [2, 1, 0] rfl ?_
  exact j_X11_mostAlike_4 hC hr  100000 (0 : Int32) (0 : Int32) μ
-- X11_commonest
theorem eX11_commonest_0 : DD cX11_commonest 0 (.iconst 0) 1 1 := ⟨by decide +kernel, rfl⟩
theorem eX11_commonest_1 : DD cX11_commonest 1 (.istore_n 1) 1 2 := ⟨by decide +kernel, rfl⟩
theorem eX11_commonest_2 : DD cX11_commonest 2 (.iconst (-1)) 1 3 := ⟨by decide +kernel, rfl⟩
theorem eX11_commonest_3 : DD cX11_commonest 3 (.istore_n 2) 1 4 := ⟨by decide +kernel, rfl⟩
theorem eX11_commonest_4 : DD cX11_commonest 4 (.iconst 0) 1 5 := ⟨by decide +kernel, rfl⟩
theorem eX11_commonest_5 : DD cX11_commonest 5 (.istore_n 3) 1 6 := ⟨by decide +kernel, rfl⟩
theorem eX11_commonest_6 : DD cX11_commonest 6 (.iload_n 3) 1 7 := ⟨by decide +kernel, rfl⟩
theorem eX11_commonest_7 : DD cX11_commonest 7 (.bipush 16) 2 9 := ⟨by decide +kernel, rfl⟩
theorem eX11_commonest_9 : DB cX11_commonest 9 (.if_icmp .ge 55) (55) 12 64 := ⟨by decide +kernel, rfl, by decide⟩
theorem eX11_commonest_12 : DD cX11_commonest 12 (.iconst 0) 1 13 := ⟨by decide +kernel, rfl⟩
theorem eX11_commonest_13 : DD cX11_commonest 13 (.istore 4) 2 15 := ⟨by decide +kernel, rfl⟩
theorem eX11_commonest_15 : DD cX11_commonest 15 (.iload 4) 2 17 := ⟨by decide +kernel, rfl⟩
theorem eX11_commonest_17 : DD cX11_commonest 17 (.iconst 2) 1 18 := ⟨by decide +kernel, rfl⟩
theorem eX11_commonest_18 : DD cX11_commonest 18 (.aload_n 0) 1 19 := ⟨by decide +kernel, rfl⟩
theorem eX11_commonest_19 : DD cX11_commonest 19 (.getfield 150) 3 22 := ⟨by decide +kernel, rfl⟩
theorem eX11_commonest_22 : DD cX11_commonest 22 (.imul) 1 23 := ⟨by decide +kernel, rfl⟩
theorem eX11_commonest_23 : DB cX11_commonest 23 (.if_icmp .ge 35) (35) 26 58 := ⟨by decide +kernel, rfl, by decide⟩
theorem eX11_commonest_26 : DD cX11_commonest 26 (.aload_n 0) 1 27 := ⟨by decide +kernel, rfl⟩
theorem eX11_commonest_27 : DD cX11_commonest 27 (.iload 4) 2 29 := ⟨by decide +kernel, rfl⟩
theorem eX11_commonest_29 : DD cX11_commonest 29 (.iconst 2) 1 30 := ⟨by decide +kernel, rfl⟩
theorem eX11_commonest_30 : DD cX11_commonest 30 (.idiv) 1 31 := ⟨by decide +kernel, rfl⟩
theorem eX11_commonest_31 : DD cX11_commonest 31 (.iload 4) 2 33 := ⟨by decide +kernel, rfl⟩
theorem eX11_commonest_33 : DD cX11_commonest 33 (.iconst 2) 1 34 := ⟨by decide +kernel, rfl⟩
theorem eX11_commonest_34 : DD cX11_commonest 34 (.irem) 1 35 := ⟨by decide +kernel, rfl⟩
theorem eX11_commonest_35 : DD cX11_commonest 35 (.iload_n 3) 1 36 := ⟨by decide +kernel, rfl⟩
theorem eX11_commonest_36 : DD cX11_commonest 36 (.invokevirtual 375) 3 39 := ⟨by decide +kernel, rfl⟩
theorem eX11_commonest_39 : DD cX11_commonest 39 (.istore 5) 2 41 := ⟨by decide +kernel, rfl⟩
theorem eX11_commonest_41 : DD cX11_commonest 41 (.iload 5) 2 43 := ⟨by decide +kernel, rfl⟩
theorem eX11_commonest_43 : DD cX11_commonest 43 (.iload_n 2) 1 44 := ⟨by decide +kernel, rfl⟩
theorem eX11_commonest_44 : DB cX11_commonest 44 (.if_icmp .le 8) (8) 47 52 := ⟨by decide +kernel, rfl, by decide⟩
theorem eX11_commonest_47 : DD cX11_commonest 47 (.iload_n 3) 1 48 := ⟨by decide +kernel, rfl⟩
theorem eX11_commonest_48 : DD cX11_commonest 48 (.istore_n 1) 1 49 := ⟨by decide +kernel, rfl⟩
theorem eX11_commonest_49 : DD cX11_commonest 49 (.iload 5) 2 51 := ⟨by decide +kernel, rfl⟩
theorem eX11_commonest_51 : DD cX11_commonest 51 (.istore_n 2) 1 52 := ⟨by decide +kernel, rfl⟩
theorem eX11_commonest_52 : DD cX11_commonest 52 (.iinc 4 1) 3 55 := ⟨by decide +kernel, rfl⟩
theorem eX11_commonest_55 : DB cX11_commonest 55 (.goto (-40)) (-40) 58 15 := ⟨by decide +kernel, rfl, by decide⟩
theorem eX11_commonest_58 : DD cX11_commonest 58 (.iinc 3 1) 3 61 := ⟨by decide +kernel, rfl⟩
theorem eX11_commonest_61 : DB cX11_commonest 61 (.goto (-55)) (-55) 64 6 := ⟨by decide +kernel, rfl, by decide⟩
theorem eX11_commonest_64 : DD cX11_commonest 64 (.iload_n 1) 1 65 := ⟨by decide +kernel, rfl⟩
theorem eX11_commonest_65 : DD cX11_commonest 65 (.ireturn) 1 66 := ⟨by decide +kernel, rfl⟩
def F_X11_commonest_52 (kc_6 : Int32 → Int32 → Int32 → Mem → Option (Int32 × Mem)) (kc_15 : Int32 → Int32 → Int32 → Int32 → Mem → Option (Int32 × Mem)) (x1 : Int32) (x2 : Int32) (x3 : Int32) (x4 : Int32) (μ : Mem) : Option (Int32 × Mem) :=
  lb (x4 + (1 : Int32)) (fun x4_1 => kc_15 x1 x2 x3 x4_1 μ)
set_option maxHeartbeats 4000000 in
theorem j_X11_commonest_52 {C : Cx} (hC : Ok C cX11_commonest 6 RX11 (rmF 3 71)) (hr : (cT C).sig.returnType = (some .int)) (kc_6 : Int32 → Int32 → Int32 → Mem → Option (Int32 × Mem)) (hk_6 : ∀ (x1 : Int32) (x2 : Int32) (x3 : Int32) (μ : Mem), J C (KI C) μ 6 [(0, .ref (xad (cX C) 107)), (1, .int x1), (2, .int x2), (3, .int x3)] [] (kc_6 x1 x2 x3 μ)) (kc_15 : Int32 → Int32 → Int32 → Int32 → Mem → Option (Int32 × Mem)) (hk_15 : ∀ (x1 : Int32) (x2 : Int32) (x3 : Int32) (x4 : Int32) (μ : Mem), J C (KI C) μ 15 [(0, .ref (xad (cX C) 107)), (1, .int x1), (2, .int x2), (3, .int x3), (4, .int x4)] [] (kc_15 x1 x2 x3 x4 μ)) (x1 : Int32) (x2 : Int32) (x3 : Int32) (x4 : Int32) (μ : Mem) : J C (KI C) μ 52 [(0, .ref (xad (cX C) 107)), (1, .int x1), (2, .int x2), (3, .int x3), (4, .int x4)] [] (F_X11_commonest_52 kc_6 kc_15 x1 x2 x3 x4 μ) := by
  unfold F_X11_commonest_52
  refine J.iinc (j := 4) (fun x4_1 => [(4, .int x4_1), (0, .ref (xad (cX C) 107)), (1, .int x1), (2, .int x2), (3, .int x3)]) hC eX11_commonest_52 rfl ci_1 (by decide) (fun _ => rfl) (fun x4_1 => ?_)
  refine J.goto hC eX11_commonest_55 ?_
  refine J.sub [1, 2, 3, 4, 0] rfl ?_
  exact hk_15 x1 x2 x3 x4_1 μ
def L_X11_commonest_15 (kc_6 : Int32 → Int32 → Int32 → Mem → Option (Int32 × Mem)) : Nat → Int32 → Int32 → Int32 → Int32 → Mem → Option (Int32 × Mem)
  | 0, _, _, _, _, _ => none
  | n + 1, x1, x2, x3, x4, μ => if ((2 : Int32) * (rI μ 107 12)) ≤ x4 then lb (x3 + (1 : Int32)) (fun x3_1 => kc_6 x1 x2 x3_1 μ) else bd (G_X11_countIn (x4 / (2 : Int32)) (x4 - x4 / (2 : Int32) * (2 : Int32)) x3 μ) (fun r_3 μ_2 => if r_3 ≤ x2 then F_X11_commonest_52 kc_6 (L_X11_commonest_15 kc_6 n) x1 x2 x3 x4 μ_2 else F_X11_commonest_52 kc_6 (L_X11_commonest_15 kc_6 n) x3 r_3 x3 x4 μ_2)
set_option maxHeartbeats 4000000 in
theorem j_X11_commonest_15 {C : Cx} (hC : Ok C cX11_commonest 6 RX11 (rmF 3 71)) (hr : (cT C).sig.returnType = (some .int)) (kc_6 : Int32 → Int32 → Int32 → Mem → Option (Int32 × Mem)) (hk_6 : ∀ (x1 : Int32) (x2 : Int32) (x3 : Int32) (μ : Mem), J C (KI C) μ 6 [(0, .ref (xad (cX C) 107)), (1, .int x1), (2, .int x2), (3, .int x3)] [] (kc_6 x1 x2 x3 μ)) : ∀ (n : Nat) (x1 : Int32) (x2 : Int32) (x3 : Int32) (x4 : Int32) (μ : Mem), J C (KI C) μ 15 [(0, .ref (xad (cX C) 107)), (1, .int x1), (2, .int x2), (3, .int x3), (4, .int x4)] [] (L_X11_commonest_15 kc_6 n x1 x2 x3 x4 μ) := by
  intro n
  induction n with
  | zero => intros; exact J.no
  | succ n ih =>
    intro x1 x2 x3 x4 μ
    rw [L_X11_commonest_15]
    refine J.iload (j := 4) hC eX11_commonest_15 rfl ?_
    refine J.iconst hC eX11_commonest_17 ci_2 ?_
    refine J.aload_n (j := 0) hC eX11_commonest_18 rfl ?_
    refine gf_X11_150 hC eX11_commonest_19 kk_107 ?_
    refine J.imul hC eX11_commonest_22 ?_
    refine J.icmp_ge hC eX11_commonest_23 (fun _ => ?_) (fun _ => ?_)
    · refine J.iinc (j := 3) (fun x3_1 => [(3, .int x3_1), (0, .ref (xad (cX C) 107)), (1, .int x1), (2, .int x2), (4, .int x4)]) hC eX11_commonest_58 rfl ci_1 (by decide) (fun _ => rfl) (fun x3_1 => ?_)
      refine J.goto hC eX11_commonest_61 ?_
      refine J.sub [1, 2, 3, 0] rfl ?_
      exact hk_6 x1 x2 x3_1 μ
    · refine J.aload_n (j := 0) hC eX11_commonest_26 rfl ?_
      refine J.iload (j := 4) hC eX11_commonest_27 rfl ?_
      refine J.iconst hC eX11_commonest_29 ci_2 ?_
      refine J.idivK hC eX11_commonest_30 (by decide) ?_
      refine J.iload (j := 4) hC eX11_commonest_31 rfl ?_
      refine J.iconst hC eX11_commonest_33 ci_2 ?_
      refine J.iremK hC eX11_commonest_34 (by decide) ?_
      refine J.iload_n (j := 3) hC eX11_commonest_35 rfl ?_
      refine J.callVI (st := []) hC eX11_commonest_36 kk_107 (by decide) rfl rfl ml_X11_375 mv_X11_countIn (Rle_of (Nat.le_of_ble_eq_true rfl) (Nat.le_of_ble_eq_true rfl)) (c_X11_countIn hC.X (x4 / (2 : Int32)) (x4 - x4 / (2 : Int32) * (2 : Int32)) x3 μ) rfl rfl (Nat.le_of_ble_eq_true rfl) (fun r_3 μ_2 => ?_)
      refine J.istore [(5, .int r_3), (0, .ref (xad (cX C) 107)), (1, .int x1), (2, .int x2), (3, .int x3), (4, .int x4)] hC eX11_commonest_39 (by decide) rfl ?_
      refine J.iload (j := 0) hC eX11_commonest_41 rfl ?_
      refine J.iload_n (j := 3) hC eX11_commonest_43 rfl ?_
      refine J.icmp_le hC eX11_commonest_44 (fun _ => ?_) (fun _ => ?_)
      · refine J.sub [1, 2, 3, 4, 5] rfl ?_
        exact j_X11_commonest_52 hC hr kc_6 hk_6 (L_X11_commonest_15 kc_6 n) ih x1 x2 x3 x4 μ_2
      · refine J.iload_n (j := 4) hC eX11_commonest_47 rfl ?_
        refine J.istore_n [(1, .int x3), (5, .int r_3), (0, .ref (xad (cX C) 107)), (2, .int x2), (3, .int x3), (4, .int x4)] hC eX11_commonest_48 (by decide) rfl ?_
        refine J.iload (j := 1) hC eX11_commonest_49 rfl ?_
        refine J.istore_n [(2, .int r_3), (1, .int x3), (5, .int r_3), (0, .ref (xad (cX C) 107)), (3, .int x3), (4, .int x4)] hC eX11_commonest_51 (by decide) rfl ?_
        refine J.sub [3, 1, 0, 4, 5] rfl ?_
        exact j_X11_commonest_52 hC hr kc_6 hk_6 (L_X11_commonest_15 kc_6 n) ih x3 r_3 x3 x4 μ_2
def L_X11_commonest_6 : Nat → Int32 → Int32 → Int32 → Mem → Option (Int32 × Mem)
  | 0, _, _, _, _ => none
  | n + 1, x1, x2, x3, μ => if (16 : Int32) ≤ x3 then some (x1, μ) else L_X11_commonest_15 (L_X11_commonest_6  n) 100000 x1 x2 x3 (0 : Int32) μ
set_option maxHeartbeats 4000000 in
theorem j_X11_commonest_6 {C : Cx} (hC : Ok C cX11_commonest 6 RX11 (rmF 3 71)) (hr : (cT C).sig.returnType = (some .int)) : ∀ (n : Nat) (x1 : Int32) (x2 : Int32) (x3 : Int32) (μ : Mem), J C (KI C) μ 6 [(0, .ref (xad (cX C) 107)), (1, .int x1), (2, .int x2), (3, .int x3)] [] (L_X11_commonest_6  n x1 x2 x3 μ) := by
  intro n
  induction n with
  | zero => intros; exact J.no
  | succ n ih =>
    intro x1 x2 x3 μ
    rw [L_X11_commonest_6]
    refine J.iload_n (j := 3) hC eX11_commonest_6 rfl ?_
    refine J.bipush hC eX11_commonest_7 cb_16 ?_
    refine J.icmp_ge hC eX11_commonest_9 (fun _ => ?_) (fun _ => ?_)
    · refine J.iload_n (j := 1) hC eX11_commonest_64 rfl ?_
      exact J.iret hC hr eX11_commonest_65
    · refine J.iconst hC eX11_commonest_12 ci_0 ?_
      refine J.istore [(4, .int (0 : Int32)), (0, .ref (xad (cX C) 107)), (1, .int x1), (2, .int x2), (3, .int x3)] hC eX11_commonest_13 (by decide) rfl ?_
      refine J.sub [1, 2, 3, 4, 0] rfl ?_
      exact j_X11_commonest_15 hC hr (L_X11_commonest_6  n) ih 100000 x1 x2 x3 (0 : Int32) μ
def G_X11_commonest  (μ : Mem) : Option (Int32 × Mem) :=
  L_X11_commonest_6  100000 (0 : Int32) (-1 : Int32) (0 : Int32) μ
set_option maxHeartbeats 4000000 in
theorem c_X11_commonest {X : Wd} (hX : WdOk X)  (μ : Mem) : CtI X yX11_commonest cX11_commonest 6 (some .int) (rmF 3 71) [.ref (xad X 107)] μ (G_X11_commonest  μ) := by
  refine CtI.of hX (plainFor_of_name (by decide)) (by exact Nat.le_of_ble_eq_true rfl) ?_
  intro C hCX hC hr
  subst hCX
  show J C (KI C) μ 0 [(0, .ref (xad (cX C) 107))] [] _
  unfold G_X11_commonest
  refine J.iconst hC eX11_commonest_0 ci_0 ?_
  refine J.istore_n [(1, .int (0 : Int32)), (0, .ref (xad (cX C) 107))] hC eX11_commonest_1 (by decide) rfl ?_
  refine J.iconst hC eX11_commonest_2 ci_m1 ?_
  refine J.istore_n [(2, .int (-1 : Int32)), (1, .int (0 : Int32)), (0, .ref (xad (cX C) 107))] hC eX11_commonest_3 (by decide) rfl ?_
  refine J.iconst hC eX11_commonest_4 ci_0 ?_
  refine J.istore_n [(3, .int (0 : Int32)), (2, .int (-1 : Int32)), (1, .int (0 : Int32)), (0, .ref (xad (cX C) 107))] hC eX11_commonest_5 (by decide) rfl ?_
  refine J.sub [3, 2, 1, 0] rfl ?_
  exact j_X11_commonest_6 hC hr  100000 (0 : Int32) (-1 : Int32) (0 : Int32) μ
-- X11_most
theorem eX11_most_0 : DD cX11_most 0 (.aload_n 0) 1 1 := ⟨by decide +kernel, rfl⟩
theorem eX11_most_1 : DD cX11_most 1 (.invokevirtual 225) 3 4 := ⟨by decide +kernel, rfl⟩
theorem eX11_most_4 : DB cX11_most 4 (.ifCond .eq 15) (15) 7 19 := ⟨by decide +kernel, rfl, by decide⟩
theorem eX11_most_7 : DD cX11_most 7 (.iload_n 1) 1 8 := ⟨by decide +kernel, rfl⟩
theorem eX11_most_8 : DD cX11_most 8 (.i2l) 1 9 := ⟨by decide +kernel, rfl⟩
theorem eX11_most_9 : DD cX11_most 9 (.lconst 0) 1 10 := ⟨by decide +kernel, rfl⟩
theorem eX11_most_10 : DD cX11_most 10 (.ldc2_w 403) 3 13 := ⟨by decide +kernel, rfl⟩
theorem eX11_most_13 : DD cX11_most 13 (.invokestatic 77) 3 16 := ⟨by decide +kernel, rfl⟩
theorem eX11_most_16 : DB cX11_most 16 (.ifCond .ne 6) (6) 19 22 := ⟨by decide +kernel, rfl, by decide⟩
theorem eX11_most_19 : DD cX11_most 19 (.ldc 245) 2 21 := ⟨by decide +kernel, rfl⟩
theorem eX11_most_21 : DD cX11_most 21 (.ireturn) 1 22 := ⟨by decide +kernel, rfl⟩
theorem eX11_most_22 : DD cX11_most 22 (.iload_n 1) 1 23 := ⟨by decide +kernel, rfl⟩
theorem eX11_most_23 : decode cX11_most 23 = .ok (.tableswitch 58 0 4 #[33, 38, 43, 48, 53], 33) := by decide +kernel
theorem eX11_most_56 : DD cX11_most 56 (.aload_n 0) 1 57 := ⟨by decide +kernel, rfl⟩
theorem eX11_most_57 : DD cX11_most 57 (.invokevirtual 405) 3 60 := ⟨by decide +kernel, rfl⟩
theorem eX11_most_60 : DD cX11_most 60 (.ireturn) 1 61 := ⟨by decide +kernel, rfl⟩
theorem eX11_most_61 : DD cX11_most 61 (.aload_n 0) 1 62 := ⟨by decide +kernel, rfl⟩
theorem eX11_most_62 : DD cX11_most 62 (.invokevirtual 408) 3 65 := ⟨by decide +kernel, rfl⟩
theorem eX11_most_65 : DD cX11_most 65 (.ireturn) 1 66 := ⟨by decide +kernel, rfl⟩
theorem eX11_most_66 : DD cX11_most 66 (.aload_n 0) 1 67 := ⟨by decide +kernel, rfl⟩
theorem eX11_most_67 : DD cX11_most 67 (.invokevirtual 411) 3 70 := ⟨by decide +kernel, rfl⟩
theorem eX11_most_70 : DD cX11_most 70 (.ireturn) 1 71 := ⟨by decide +kernel, rfl⟩
theorem eX11_most_71 : DD cX11_most 71 (.aload_n 0) 1 72 := ⟨by decide +kernel, rfl⟩
theorem eX11_most_72 : DD cX11_most 72 (.invokevirtual 414) 3 75 := ⟨by decide +kernel, rfl⟩
theorem eX11_most_75 : DD cX11_most 75 (.ireturn) 1 76 := ⟨by decide +kernel, rfl⟩
theorem eX11_most_76 : DD cX11_most 76 (.aload_n 0) 1 77 := ⟨by decide +kernel, rfl⟩
theorem eX11_most_77 : DD cX11_most 77 (.invokevirtual 318) 3 80 := ⟨by decide +kernel, rfl⟩
theorem eX11_most_80 : DD cX11_most 80 (.ireturn) 1 81 := ⟨by decide +kernel, rfl⟩
theorem eX11_most_81 : DD cX11_most 81 (.aload_n 0) 1 82 := ⟨by decide +kernel, rfl⟩
theorem eX11_most_82 : DD cX11_most 82 (.invokevirtual 417) 3 85 := ⟨by decide +kernel, rfl⟩
theorem eX11_most_85 : DD cX11_most 85 (.ireturn) 1 86 := ⟨by decide +kernel, rfl⟩
def G_X11_most (x1 : Int32) (μ : Mem) : Option (Int32 × Mem) :=
  bd (G_X11_isBook  μ) (fun r_2 μ_1 => if r_2 = 0 then some ((-1000000 : Int32), μ_1) else bd (G_X11_in x1.toInt64 (0 : Int64) (5 : Int64) μ_1) (fun r_4 μ_3 => if r_4 = 0 then some ((-1000000 : Int32), μ_3) else if x1 = (0 : Int32) then bd (G_X11_longest  μ_3) (fun r_7 μ_6 => some (r_7, μ_6)) else (if x1 = (1 : Int32) then bd (G_X11_mostDrifted  μ_3) (fun r_10 μ_9 => some (r_10, μ_9)) else (if x1 = (2 : Int32) then bd (G_X11_greatestTotal  μ_3) (fun r_13 μ_12 => some (r_13, μ_12)) else (if x1 = (3 : Int32) then bd (G_X11_mostAlike  μ_3) (fun r_16 μ_15 => some (r_16, μ_15)) else (if x1 = (4 : Int32) then bd (G_X11_rowsOfAll  μ_3) (fun r_19 μ_18 => some (r_19, μ_18)) else (bd (G_X11_commonest  μ_3) (fun r_21 μ_20 => some (r_21, μ_20)))))))))
set_option maxHeartbeats 4000000 in
theorem c_X11_most {X : Wd} (hX : WdOk X) (x1 : Int32) (μ : Mem) : CtI X yX11_most cX11_most 2 (some .int) (rmF 4 96) [.ref (xad X 107), .int x1] μ (G_X11_most x1 μ) := by
  refine CtI.of hX (plainFor_of_name (by decide)) (by exact Nat.le_of_ble_eq_true rfl) ?_
  intro C hCX hC hr
  subst hCX
  show J C (KI C) μ 0 [(0, .ref (xad (cX C) 107)), (1, .int x1)] [] _
  unfold G_X11_most
  refine J.aload_n (j := 0) hC eX11_most_0 rfl ?_
  refine J.callVI (st := []) hC eX11_most_1 kk_107 (by decide) rfl rfl ml_X11_225 mv_X11_isBook (Rle_of (Nat.le_of_ble_eq_true rfl) (Nat.le_of_ble_eq_true rfl)) (c_X11_isBook hC.X  μ) rfl rfl (Nat.le_of_ble_eq_true rfl) (fun r_2 μ_1 => ?_)
  refine J.if_eq hC eX11_most_4 (fun _ => ?_) (fun _ => ?_)
  · refine J.ldc hC eX11_most_19 mk_X11_245 ?_
    exact J.iret hC hr eX11_most_21
  · refine J.iload_n (j := 1) hC eX11_most_7 rfl ?_
    refine J.i2l hC eX11_most_8 ?_
    refine J.lconst hC eX11_most_9 cl_0 ?_
    refine J.ldc2 hC eX11_most_10 mk_X11_403 ?_
    refine J.callSI (st := []) hC eX11_most_13 ml_X11_77 mv_X11_in (Rle_of (Nat.le_of_ble_eq_true rfl) (Nat.le_of_ble_eq_true rfl)) (c_X11_in hC.X x1.toInt64 (0 : Int64) (5 : Int64) μ_1) rfl rfl (Nat.le_of_ble_eq_true rfl) (fun r_4 μ_3 => ?_)
    refine J.if_ne hC eX11_most_16 (fun _ => ?_) (fun _ => ?_)
    · refine J.ldc hC eX11_most_19 mk_X11_245 ?_
      exact J.iret hC hr eX11_most_21
    · refine J.iload_n (j := 1) hC eX11_most_22 rfl ?_
      refine J.ite (fun h_5 => ?_) (fun h_5 => ?_)
      · refine J.tsI (off := 33) (tgt := 56) hC eX11_most_23 (by rw [h_5]; decide) (by rw [h_5]; decide) (by rw [h_5]; rfl) (by decide) ?_
        refine J.aload_n (j := 0) hC eX11_most_56 rfl ?_
        refine J.callVI (st := []) hC eX11_most_57 kk_107 (by decide) rfl rfl ml_X11_405 mv_X11_longest (Rle_of (Nat.le_of_ble_eq_true rfl) (Nat.le_of_ble_eq_true rfl)) (c_X11_longest hC.X  μ_3) rfl rfl (Nat.le_of_ble_eq_true rfl) (fun r_7 μ_6 => ?_)
        exact J.iret hC hr eX11_most_60
      refine J.ite (fun h_8 => ?_) (fun h_8 => ?_)
      · refine J.tsI (off := 38) (tgt := 61) hC eX11_most_23 (by rw [h_8]; decide) (by rw [h_8]; decide) (by rw [h_8]; rfl) (by decide) ?_
        refine J.aload_n (j := 0) hC eX11_most_61 rfl ?_
        refine J.callVI (st := []) hC eX11_most_62 kk_107 (by decide) rfl rfl ml_X11_408 mv_X11_mostDrifted (Rle_of (Nat.le_of_ble_eq_true rfl) (Nat.le_of_ble_eq_true rfl)) (c_X11_mostDrifted hC.X  μ_3) rfl rfl (Nat.le_of_ble_eq_true rfl) (fun r_10 μ_9 => ?_)
        exact J.iret hC hr eX11_most_65
      refine J.ite (fun h_11 => ?_) (fun h_11 => ?_)
      · refine J.tsI (off := 43) (tgt := 66) hC eX11_most_23 (by rw [h_11]; decide) (by rw [h_11]; decide) (by rw [h_11]; rfl) (by decide) ?_
        refine J.aload_n (j := 0) hC eX11_most_66 rfl ?_
        refine J.callVI (st := []) hC eX11_most_67 kk_107 (by decide) rfl rfl ml_X11_411 mv_X11_greatestTotal (Rle_of (Nat.le_of_ble_eq_true rfl) (Nat.le_of_ble_eq_true rfl)) (c_X11_greatestTotal hC.X  μ_3) rfl rfl (Nat.le_of_ble_eq_true rfl) (fun r_13 μ_12 => ?_)
        exact J.iret hC hr eX11_most_70
      refine J.ite (fun h_14 => ?_) (fun h_14 => ?_)
      · refine J.tsI (off := 48) (tgt := 71) hC eX11_most_23 (by rw [h_14]; decide) (by rw [h_14]; decide) (by rw [h_14]; rfl) (by decide) ?_
        refine J.aload_n (j := 0) hC eX11_most_71 rfl ?_
        refine J.callVI (st := []) hC eX11_most_72 kk_107 (by decide) rfl rfl ml_X11_414 mv_X11_mostAlike (Rle_of (Nat.le_of_ble_eq_true rfl) (Nat.le_of_ble_eq_true rfl)) (c_X11_mostAlike hC.X  μ_3) rfl rfl (Nat.le_of_ble_eq_true rfl) (fun r_16 μ_15 => ?_)
        exact J.iret hC hr eX11_most_75
      refine J.ite (fun h_17 => ?_) (fun h_17 => ?_)
      · refine J.tsI (off := 53) (tgt := 76) hC eX11_most_23 (by rw [h_17]; decide) (by rw [h_17]; decide) (by rw [h_17]; rfl) (by decide) ?_
        refine J.aload_n (j := 0) hC eX11_most_76 rfl ?_
        refine J.callVI (st := []) hC eX11_most_77 kk_107 (by decide) rfl rfl ml_X11_318 mv_X11_rowsOfAll (Rle_of (Nat.le_of_ble_eq_true rfl) (Nat.le_of_ble_eq_true rfl)) (c_X11_rowsOfAll hC.X  μ_3) rfl rfl (Nat.le_of_ble_eq_true rfl) (fun r_19 μ_18 => ?_)
        exact J.iret hC hr eX11_most_80
      refine J.tsO (tgt := 81) hC eX11_most_23 (by have th_5 := lv_neT h_5 (show ((0 : Int32)).toInt = 0 from rfl); have th_8 := lv_neT h_8 (show ((1 : Int32)).toInt = 1 from rfl); have th_11 := lv_neT h_11 (show ((2 : Int32)).toInt = 2 from rfl); have th_14 := lv_neT h_14 (show ((3 : Int32)).toInt = 3 from rfl); have th_17 := lv_neT h_17 (show ((4 : Int32)).toInt = 4 from rfl); omega) (by decide) ?_
      refine J.aload_n (j := 0) hC eX11_most_81 rfl ?_
      refine J.callVI (st := []) hC eX11_most_82 kk_107 (by decide) rfl rfl ml_X11_417 mv_X11_commonest (Rle_of (Nat.le_of_ble_eq_true rfl) (Nat.le_of_ble_eq_true rfl)) (c_X11_commonest hC.X  μ_3) rfl rfl (Nat.le_of_ble_eq_true rfl) (fun r_21 μ_20 => ?_)
      exact J.iret hC hr eX11_most_85
-- X11_image
theorem eX11_image_0 : DD cX11_image 0 (.aload_n 0) 1 1 := ⟨by decide +kernel, rfl⟩
theorem eX11_image_1 : DD cX11_image 1 (.invokevirtual 225) 3 4 := ⟨by decide +kernel, rfl⟩
theorem eX11_image_4 : DB cX11_image 4 (.ifCond .ne 5) (5) 7 9 := ⟨by decide +kernel, rfl, by decide⟩
theorem eX11_image_7 : DD cX11_image 7 (.iconst (-1)) 1 8 := ⟨by decide +kernel, rfl⟩
theorem eX11_image_8 : DD cX11_image 8 (.ireturn) 1 9 := ⟨by decide +kernel, rfl⟩
theorem eX11_image_9 : DD cX11_image 9 (.iconst 0) 1 10 := ⟨by decide +kernel, rfl⟩
theorem eX11_image_10 : DD cX11_image 10 (.istore_n 1) 1 11 := ⟨by decide +kernel, rfl⟩
theorem eX11_image_11 : DD cX11_image 11 (.iload_n 1) 1 12 := ⟨by decide +kernel, rfl⟩
theorem eX11_image_12 : DD cX11_image 12 (.sipush 1253) 3 15 := ⟨by decide +kernel, rfl⟩
theorem eX11_image_15 : DB cX11_image 15 (.if_icmp .ge 21) (21) 18 36 := ⟨by decide +kernel, rfl, by decide⟩
theorem eX11_image_18 : DD cX11_image 18 (.aload_n 0) 1 19 := ⟨by decide +kernel, rfl⟩
theorem eX11_image_19 : DD cX11_image 19 (.getfield 63) 3 22 := ⟨by decide +kernel, rfl⟩
theorem eX11_image_22 : DD cX11_image 22 (.iload_n 1) 1 23 := ⟨by decide +kernel, rfl⟩
theorem eX11_image_23 : DD cX11_image 23 (.aload_n 0) 1 24 := ⟨by decide +kernel, rfl⟩
theorem eX11_image_24 : DD cX11_image 24 (.getfield 34) 3 27 := ⟨by decide +kernel, rfl⟩
theorem eX11_image_27 : DD cX11_image 27 (.iload_n 1) 1 28 := ⟨by decide +kernel, rfl⟩
theorem eX11_image_28 : DD cX11_image 28 (.iaload) 1 29 := ⟨by decide +kernel, rfl⟩
theorem eX11_image_29 : DD cX11_image 29 (.iastore) 1 30 := ⟨by decide +kernel, rfl⟩
theorem eX11_image_30 : DD cX11_image 30 (.iinc 1 1) 3 33 := ⟨by decide +kernel, rfl⟩
theorem eX11_image_33 : DB cX11_image 33 (.goto (-22)) (-22) 36 11 := ⟨by decide +kernel, rfl, by decide⟩
theorem eX11_image_36 : DD cX11_image 36 (.aload_n 0) 1 37 := ⟨by decide +kernel, rfl⟩
theorem eX11_image_37 : DD cX11_image 37 (.iconst 1) 1 38 := ⟨by decide +kernel, rfl⟩
theorem eX11_image_38 : DD cX11_image 38 (.putfield 215) 3 41 := ⟨by decide +kernel, rfl⟩
theorem eX11_image_41 : DD cX11_image 41 (.aload_n 0) 1 42 := ⟨by decide +kernel, rfl⟩
theorem eX11_image_42 : DD cX11_image 42 (.invokevirtual 318) 3 45 := ⟨by decide +kernel, rfl⟩
theorem eX11_image_45 : DD cX11_image 45 (.ireturn) 1 46 := ⟨by decide +kernel, rfl⟩
def L_X11_image_11 : Nat → Int32 → Mem → Option (Int32 × Mem)
  | 0, _, _ => none
  | n + 1, x1, μ => if (1253 : Int32) ≤ x1 then lb (wI μ 107 32 (1 : Int32)) (fun μ_1 => bd (G_X11_rowsOfAll  μ_1) (fun r_3 μ_2 => some (r_3, μ_2))) else gq (inB x1 1253) (gq (inB x1 1253) (lb (wI μ 125 (nx x1) (rI μ 116 (nx x1))) (fun μ_4 => lb (x1 + (1 : Int32)) (fun x1_5 => L_X11_image_11  n x1_5 μ_4))))
set_option maxHeartbeats 4000000 in
theorem j_X11_image_11 {C : Cx} (hC : Ok C cX11_image 2 RX11 (rmF 2 45)) (hr : (cT C).sig.returnType = (some .int)) : ∀ (n : Nat) (x1 : Int32) (μ : Mem), J C (KI C) μ 11 [(0, .ref (xad (cX C) 107)), (1, .int x1)] [] (L_X11_image_11  n x1 μ) := by
  intro n
  induction n with
  | zero => intros; exact J.no
  | succ n ih =>
    intro x1 μ
    rw [L_X11_image_11]
    refine J.iload_n (j := 1) hC eX11_image_11 rfl ?_
    refine J.sipush hC eX11_image_12 cs_1253 ?_
    refine J.icmp_ge hC eX11_image_15 (fun _ => ?_) (fun _ => ?_)
    · refine J.aload_n (j := 0) hC eX11_image_36 rfl ?_
      refine J.iconst hC eX11_image_37 ci_1 ?_
      refine pf_X11_215 hC eX11_image_38 kk_107 rfl (fun μ_1 => ?_)
      refine J.aload_n (j := 0) hC eX11_image_41 rfl ?_
      refine J.callVI (st := []) hC eX11_image_42 kk_107 (by decide) rfl rfl ml_X11_318 mv_X11_rowsOfAll (Rle_of (Nat.le_of_ble_eq_true rfl) (Nat.le_of_ble_eq_true rfl)) (c_X11_rowsOfAll hC.X  μ_1) rfl rfl (Nat.le_of_ble_eq_true rfl) (fun r_3 μ_2 => ?_)
      exact J.iret hC hr eX11_image_45
    · refine J.aload_n (j := 0) hC eX11_image_18 rfl ?_
      refine gf_X11_63 (q := 125) hC eX11_image_19 kk_107 rfl ?_
      refine J.iload_n (j := 1) hC eX11_image_22 rfl ?_
      refine J.aload_n (j := 0) hC eX11_image_23 rfl ?_
      refine gf_X11_34 (q := 116) hC eX11_image_24 kk_107 rfl ?_
      refine J.iload_n (j := 1) hC eX11_image_27 rfl ?_
      refine J.iald ik_1253 hC eX11_image_28 kk_116 ?_
      refine J.iast ik_1253 hC eX11_image_29 kk_125 (fun μ_4 => ?_)
      refine J.iinc (j := 1) (fun x1_5 => [(1, .int x1_5), (0, .ref (xad (cX C) 107))]) hC eX11_image_30 rfl ci_1 (by decide) (fun _ => rfl) (fun x1_5 => ?_)
      refine J.goto hC eX11_image_33 ?_
      refine J.sub [1, 0] rfl ?_
      exact ih x1_5 μ_4
def G_X11_image  (μ : Mem) : Option (Int32 × Mem) :=
  bd (G_X11_isBook  μ) (fun r_2 μ_1 => if r_2 = 0 then some ((-1 : Int32), μ_1) else L_X11_image_11  100000 (0 : Int32) μ_1)
set_option maxHeartbeats 4000000 in
theorem c_X11_image {X : Wd} (hX : WdOk X)  (μ : Mem) : CtI X yX11_image cX11_image 2 (some .int) (rmF 2 45) [.ref (xad X 107)] μ (G_X11_image  μ) := by
  refine CtI.of hX (plainFor_of_name (by decide)) (by exact Nat.le_of_ble_eq_true rfl) ?_
  intro C hCX hC hr
  subst hCX
  show J C (KI C) μ 0 [(0, .ref (xad (cX C) 107))] [] _
  unfold G_X11_image
  refine J.aload_n (j := 0) hC eX11_image_0 rfl ?_
  refine J.callVI (st := []) hC eX11_image_1 kk_107 (by decide) rfl rfl ml_X11_225 mv_X11_isBook (Rle_of (Nat.le_of_ble_eq_true rfl) (Nat.le_of_ble_eq_true rfl)) (c_X11_isBook hC.X  μ) rfl rfl (Nat.le_of_ble_eq_true rfl) (fun r_2 μ_1 => ?_)
  refine J.if_ne hC eX11_image_4 (fun _ => ?_) (fun _ => ?_)
  · refine J.iconst hC eX11_image_7 ci_m1 ?_
    exact J.iret hC hr eX11_image_8
  · refine J.iconst hC eX11_image_9 ci_0 ?_
    refine J.istore_n [(1, .int (0 : Int32)), (0, .ref (xad (cX C) 107))] hC eX11_image_10 (by decide) rfl ?_
    refine J.sub [1, 0] rfl ?_
    exact j_X11_image_11 hC hr  100000 (0 : Int32) μ_1
-- X11_back
theorem eX11_back_0 : DD cX11_back 0 (.aload_n 0) 1 1 := ⟨by decide +kernel, rfl⟩
theorem eX11_back_1 : DD cX11_back 1 (.getfield 215) 3 4 := ⟨by decide +kernel, rfl⟩
theorem eX11_back_4 : DB cX11_back 4 (.ifCond .ne 5) (5) 7 9 := ⟨by decide +kernel, rfl, by decide⟩
theorem eX11_back_7 : DD cX11_back 7 (.iconst (-1)) 1 8 := ⟨by decide +kernel, rfl⟩
theorem eX11_back_8 : DD cX11_back 8 (.ireturn) 1 9 := ⟨by decide +kernel, rfl⟩
theorem eX11_back_9 : DD cX11_back 9 (.iconst 0) 1 10 := ⟨by decide +kernel, rfl⟩
theorem eX11_back_10 : DD cX11_back 10 (.istore_n 1) 1 11 := ⟨by decide +kernel, rfl⟩
theorem eX11_back_11 : DD cX11_back 11 (.iload_n 1) 1 12 := ⟨by decide +kernel, rfl⟩
theorem eX11_back_12 : DD cX11_back 12 (.sipush 1253) 3 15 := ⟨by decide +kernel, rfl⟩
theorem eX11_back_15 : DB cX11_back 15 (.if_icmp .ge 21) (21) 18 36 := ⟨by decide +kernel, rfl, by decide⟩
theorem eX11_back_18 : DD cX11_back 18 (.aload_n 0) 1 19 := ⟨by decide +kernel, rfl⟩
theorem eX11_back_19 : DD cX11_back 19 (.getfield 34) 3 22 := ⟨by decide +kernel, rfl⟩
theorem eX11_back_22 : DD cX11_back 22 (.iload_n 1) 1 23 := ⟨by decide +kernel, rfl⟩
theorem eX11_back_23 : DD cX11_back 23 (.aload_n 0) 1 24 := ⟨by decide +kernel, rfl⟩
theorem eX11_back_24 : DD cX11_back 24 (.getfield 63) 3 27 := ⟨by decide +kernel, rfl⟩
theorem eX11_back_27 : DD cX11_back 27 (.iload_n 1) 1 28 := ⟨by decide +kernel, rfl⟩
theorem eX11_back_28 : DD cX11_back 28 (.iaload) 1 29 := ⟨by decide +kernel, rfl⟩
theorem eX11_back_29 : DD cX11_back 29 (.iastore) 1 30 := ⟨by decide +kernel, rfl⟩
theorem eX11_back_30 : DD cX11_back 30 (.iinc 1 1) 3 33 := ⟨by decide +kernel, rfl⟩
theorem eX11_back_33 : DB cX11_back 33 (.goto (-22)) (-22) 36 11 := ⟨by decide +kernel, rfl, by decide⟩
theorem eX11_back_36 : DD cX11_back 36 (.aload_n 0) 1 37 := ⟨by decide +kernel, rfl⟩
theorem eX11_back_37 : DD cX11_back 37 (.iconst 0) 1 38 := ⟨by decide +kernel, rfl⟩
theorem eX11_back_38 : DD cX11_back 38 (.putfield 212) 3 41 := ⟨by decide +kernel, rfl⟩
theorem eX11_back_41 : DD cX11_back 41 (.aload_n 0) 1 42 := ⟨by decide +kernel, rfl⟩
theorem eX11_back_42 : DD cX11_back 42 (.invokevirtual 318) 3 45 := ⟨by decide +kernel, rfl⟩
theorem eX11_back_45 : DD cX11_back 45 (.ireturn) 1 46 := ⟨by decide +kernel, rfl⟩
def L_X11_back_11 : Nat → Int32 → Mem → Option (Int32 × Mem)
  | 0, _, _ => none
  | n + 1, x1, μ => if (1253 : Int32) ≤ x1 then lb (wI μ 107 23 (0 : Int32)) (fun μ_1 => bd (G_X11_rowsOfAll  μ_1) (fun r_3 μ_2 => some (r_3, μ_2))) else gq (inB x1 1253) (gq (inB x1 1253) (lb (wI μ 116 (nx x1) (rI μ 125 (nx x1))) (fun μ_4 => lb (x1 + (1 : Int32)) (fun x1_5 => L_X11_back_11  n x1_5 μ_4))))
set_option maxHeartbeats 4000000 in
theorem j_X11_back_11 {C : Cx} (hC : Ok C cX11_back 2 RX11 (rmF 2 45)) (hr : (cT C).sig.returnType = (some .int)) : ∀ (n : Nat) (x1 : Int32) (μ : Mem), J C (KI C) μ 11 [(0, .ref (xad (cX C) 107)), (1, .int x1)] [] (L_X11_back_11  n x1 μ) := by
  intro n
  induction n with
  | zero => intros; exact J.no
  | succ n ih =>
    intro x1 μ
    rw [L_X11_back_11]
    refine J.iload_n (j := 1) hC eX11_back_11 rfl ?_
    refine J.sipush hC eX11_back_12 cs_1253 ?_
    refine J.icmp_ge hC eX11_back_15 (fun _ => ?_) (fun _ => ?_)
    · refine J.aload_n (j := 0) hC eX11_back_36 rfl ?_
      refine J.iconst hC eX11_back_37 ci_0 ?_
      refine pf_X11_212 hC eX11_back_38 kk_107 (fun μ_1 => ?_)
      refine J.aload_n (j := 0) hC eX11_back_41 rfl ?_
      refine J.callVI (st := []) hC eX11_back_42 kk_107 (by decide) rfl rfl ml_X11_318 mv_X11_rowsOfAll (Rle_of (Nat.le_of_ble_eq_true rfl) (Nat.le_of_ble_eq_true rfl)) (c_X11_rowsOfAll hC.X  μ_1) rfl rfl (Nat.le_of_ble_eq_true rfl) (fun r_3 μ_2 => ?_)
      exact J.iret hC hr eX11_back_45
    · refine J.aload_n (j := 0) hC eX11_back_18 rfl ?_
      refine gf_X11_34 (q := 116) hC eX11_back_19 kk_107 rfl ?_
      refine J.iload_n (j := 1) hC eX11_back_22 rfl ?_
      refine J.aload_n (j := 0) hC eX11_back_23 rfl ?_
      refine gf_X11_63 (q := 125) hC eX11_back_24 kk_107 rfl ?_
      refine J.iload_n (j := 1) hC eX11_back_27 rfl ?_
      refine J.iald ik_1253 hC eX11_back_28 kk_125 ?_
      refine J.iast ik_1253 hC eX11_back_29 kk_116 (fun μ_4 => ?_)
      refine J.iinc (j := 1) (fun x1_5 => [(1, .int x1_5), (0, .ref (xad (cX C) 107))]) hC eX11_back_30 rfl ci_1 (by decide) (fun _ => rfl) (fun x1_5 => ?_)
      refine J.goto hC eX11_back_33 ?_
      refine J.sub [1, 0] rfl ?_
      exact ih x1_5 μ_4
def G_X11_back  (μ : Mem) : Option (Int32 × Mem) :=
  if (rI μ 107 32) = 0 then some ((-1 : Int32), μ) else L_X11_back_11  100000 (0 : Int32) μ
set_option maxHeartbeats 4000000 in
theorem c_X11_back {X : Wd} (hX : WdOk X)  (μ : Mem) : CtI X yX11_back cX11_back 2 (some .int) (rmF 2 45) [.ref (xad X 107)] μ (G_X11_back  μ) := by
  refine CtI.of hX (plainFor_of_name (by decide)) (by exact Nat.le_of_ble_eq_true rfl) ?_
  intro C hCX hC hr
  subst hCX
  show J C (KI C) μ 0 [(0, .ref (xad (cX C) 107))] [] _
  unfold G_X11_back
  refine J.aload_n (j := 0) hC eX11_back_0 rfl ?_
  refine gf_X11_215 hC eX11_back_1 kk_107 ?_
  refine J.if_ne hC eX11_back_4 (fun _ => ?_) (fun _ => ?_)
  · refine J.iconst hC eX11_back_7 ci_m1 ?_
    exact J.iret hC hr eX11_back_8
  · refine J.iconst hC eX11_back_9 ci_0 ?_
    refine J.istore_n [(1, .int (0 : Int32)), (0, .ref (xad (cX C) 107))] hC eX11_back_10 (by decide) rfl ?_
    refine J.sub [1, 0] rfl ?_
    exact j_X11_back_11 hC hr  100000 (0 : Int32) μ
-- X11_count
theorem eX11_count_0 : DD cX11_count 0 (.iload_n 1) 1 1 := ⟨by decide +kernel, rfl⟩
theorem eX11_count_1 : decode cX11_count 1 = .ok (.tableswitch 73 0 5 #[39, 44, 49, 54, 63, 68], 39) := by decide +kernel
theorem eX11_count_40 : DD cX11_count 40 (.aload_n 0) 1 41 := ⟨by decide +kernel, rfl⟩
theorem eX11_count_41 : DD cX11_count 41 (.getfield 150) 3 44 := ⟨by decide +kernel, rfl⟩
theorem eX11_count_44 : DD cX11_count 44 (.ireturn) 1 45 := ⟨by decide +kernel, rfl⟩
theorem eX11_count_45 : DD cX11_count 45 (.aload_n 0) 1 46 := ⟨by decide +kernel, rfl⟩
theorem eX11_count_46 : DD cX11_count 46 (.getfield 222) 3 49 := ⟨by decide +kernel, rfl⟩
theorem eX11_count_49 : DD cX11_count 49 (.ireturn) 1 50 := ⟨by decide +kernel, rfl⟩
theorem eX11_count_50 : DD cX11_count 50 (.aload_n 0) 1 51 := ⟨by decide +kernel, rfl⟩
theorem eX11_count_51 : DD cX11_count 51 (.getfield 74) 3 54 := ⟨by decide +kernel, rfl⟩
theorem eX11_count_54 : DD cX11_count 54 (.ireturn) 1 55 := ⟨by decide +kernel, rfl⟩
theorem eX11_count_55 : DD cX11_count 55 (.aload_n 0) 1 56 := ⟨by decide +kernel, rfl⟩
theorem eX11_count_56 : DD cX11_count 56 (.getfield 34) 3 59 := ⟨by decide +kernel, rfl⟩
theorem eX11_count_59 : DD cX11_count 59 (.sipush 1072) 3 62 := ⟨by decide +kernel, rfl⟩
theorem eX11_count_62 : DD cX11_count 62 (.iaload) 1 63 := ⟨by decide +kernel, rfl⟩
theorem eX11_count_63 : DD cX11_count 63 (.ireturn) 1 64 := ⟨by decide +kernel, rfl⟩
theorem eX11_count_64 : DD cX11_count 64 (.aload_n 0) 1 65 := ⟨by decide +kernel, rfl⟩
theorem eX11_count_65 : DD cX11_count 65 (.getfield 212) 3 68 := ⟨by decide +kernel, rfl⟩
theorem eX11_count_68 : DD cX11_count 68 (.ireturn) 1 69 := ⟨by decide +kernel, rfl⟩
theorem eX11_count_69 : DD cX11_count 69 (.aload_n 0) 1 70 := ⟨by decide +kernel, rfl⟩
theorem eX11_count_70 : DD cX11_count 70 (.getfield 323) 3 73 := ⟨by decide +kernel, rfl⟩
theorem eX11_count_73 : DD cX11_count 73 (.ireturn) 1 74 := ⟨by decide +kernel, rfl⟩
theorem eX11_count_74 : DD cX11_count 74 (.ldc 245) 2 76 := ⟨by decide +kernel, rfl⟩
theorem eX11_count_76 : DD cX11_count 76 (.ireturn) 1 77 := ⟨by decide +kernel, rfl⟩
def G_X11_count (x1 : Int32) (μ : Mem) : Option (Int32 × Mem) :=
  if x1 = (0 : Int32) then some (rI μ 107 12, μ) else (if x1 = (1 : Int32) then some (rI μ 107 15, μ) else (if x1 = (2 : Int32) then some (rI μ 107 2, μ) else (if x1 = (3 : Int32) then some (rI μ 116 1072, μ) else (if x1 = (4 : Int32) then some (rI μ 107 23, μ) else (if x1 = (5 : Int32) then some (rI μ 107 26, μ) else (some ((-1000000 : Int32), μ)))))))
set_option maxHeartbeats 4000000 in
theorem c_X11_count {X : Wd} (hX : WdOk X) (x1 : Int32) (μ : Mem) : CtI X yX11_count cX11_count 2 (some .int) (rmF 0 0) [.ref (xad X 107), .int x1] μ (G_X11_count x1 μ) := by
  refine CtI.of hX (plainFor_of_name (by decide)) (by exact Nat.le_of_ble_eq_true rfl) ?_
  intro C hCX hC hr
  subst hCX
  show J C (KI C) μ 0 [(0, .ref (xad (cX C) 107)), (1, .int x1)] [] _
  unfold G_X11_count
  refine J.iload_n (j := 1) hC eX11_count_0 rfl ?_
  refine J.ite (fun h_1 => ?_) (fun h_1 => ?_)
  · refine J.tsI (off := 39) (tgt := 40) hC eX11_count_1 (by rw [h_1]; decide) (by rw [h_1]; decide) (by rw [h_1]; rfl) (by decide) ?_
    refine J.aload_n (j := 0) hC eX11_count_40 rfl ?_
    refine gf_X11_150 hC eX11_count_41 kk_107 ?_
    exact J.iret hC hr eX11_count_44
  refine J.ite (fun h_2 => ?_) (fun h_2 => ?_)
  · refine J.tsI (off := 44) (tgt := 45) hC eX11_count_1 (by rw [h_2]; decide) (by rw [h_2]; decide) (by rw [h_2]; rfl) (by decide) ?_
    refine J.aload_n (j := 0) hC eX11_count_45 rfl ?_
    refine gf_X11_222 hC eX11_count_46 kk_107 ?_
    exact J.iret hC hr eX11_count_49
  refine J.ite (fun h_3 => ?_) (fun h_3 => ?_)
  · refine J.tsI (off := 49) (tgt := 50) hC eX11_count_1 (by rw [h_3]; decide) (by rw [h_3]; decide) (by rw [h_3]; rfl) (by decide) ?_
    refine J.aload_n (j := 0) hC eX11_count_50 rfl ?_
    refine gf_X11_74 hC eX11_count_51 kk_107 ?_
    exact J.iret hC hr eX11_count_54
  refine J.ite (fun h_4 => ?_) (fun h_4 => ?_)
  · refine J.tsI (off := 54) (tgt := 55) hC eX11_count_1 (by rw [h_4]; decide) (by rw [h_4]; decide) (by rw [h_4]; rfl) (by decide) ?_
    refine J.aload_n (j := 0) hC eX11_count_55 rfl ?_
    refine gf_X11_34 (q := 116) hC eX11_count_56 kk_107 rfl ?_
    refine J.sipush hC eX11_count_59 cs_1072 ?_
    refine J.ialdK (j := 1072) ik_1253 hC eX11_count_62 kk_116 (by decide) (by decide) ?_
    exact J.iret hC hr eX11_count_63
  refine J.ite (fun h_5 => ?_) (fun h_5 => ?_)
  · refine J.tsI (off := 63) (tgt := 64) hC eX11_count_1 (by rw [h_5]; decide) (by rw [h_5]; decide) (by rw [h_5]; rfl) (by decide) ?_
    refine J.aload_n (j := 0) hC eX11_count_64 rfl ?_
    refine gf_X11_212 hC eX11_count_65 kk_107 ?_
    exact J.iret hC hr eX11_count_68
  refine J.ite (fun h_6 => ?_) (fun h_6 => ?_)
  · refine J.tsI (off := 68) (tgt := 69) hC eX11_count_1 (by rw [h_6]; decide) (by rw [h_6]; decide) (by rw [h_6]; rfl) (by decide) ?_
    refine J.aload_n (j := 0) hC eX11_count_69 rfl ?_
    refine gf_X11_323 hC eX11_count_70 kk_107 ?_
    exact J.iret hC hr eX11_count_73
  refine J.tsO (tgt := 74) hC eX11_count_1 (by have th_1 := lv_neT h_1 (show ((0 : Int32)).toInt = 0 from rfl); have th_2 := lv_neT h_2 (show ((1 : Int32)).toInt = 1 from rfl); have th_3 := lv_neT h_3 (show ((2 : Int32)).toInt = 2 from rfl); have th_4 := lv_neT h_4 (show ((3 : Int32)).toInt = 3 from rfl); have th_5 := lv_neT h_5 (show ((4 : Int32)).toInt = 4 from rfl); have th_6 := lv_neT h_6 (show ((5 : Int32)).toInt = 5 from rfl); omega) (by decide) ?_
  refine J.ldc hC eX11_count_74 mk_X11_245 ?_
  exact J.iret hC hr eX11_count_76
