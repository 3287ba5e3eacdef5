-- X4_richestOutside
theorem eX4_richestOutside_0 : DD cX4_richestOutside 0 (.iconst (-1)) 1 1 := ⟨by decide +kernel, rfl⟩
theorem eX4_richestOutside_1 : DD cX4_richestOutside 1 (.istore_n 2) 1 2 := ⟨by decide +kernel, rfl⟩
theorem eX4_richestOutside_2 : DD cX4_richestOutside 2 (.iconst 0) 1 3 := ⟨by decide +kernel, rfl⟩
theorem eX4_richestOutside_3 : DD cX4_richestOutside 3 (.istore_n 3) 1 4 := ⟨by decide +kernel, rfl⟩
theorem eX4_richestOutside_4 : DD cX4_richestOutside 4 (.iload_n 3) 1 5 := ⟨by decide +kernel, rfl⟩
theorem eX4_richestOutside_5 : DD cX4_richestOutside 5 (.aload_n 0) 1 6 := ⟨by decide +kernel, rfl⟩
theorem eX4_richestOutside_6 : DD cX4_richestOutside 6 (.getfield 18) 3 9 := ⟨by decide +kernel, rfl⟩
theorem eX4_richestOutside_9 : DB cX4_richestOutside 9 (.if_icmp .ge 51) (51) 12 60 := ⟨by decide +kernel, rfl, by decide⟩
theorem eX4_richestOutside_12 : DD cX4_richestOutside 12 (.iload_n 1) 1 13 := ⟨by decide +kernel, rfl⟩
theorem eX4_richestOutside_13 : DD cX4_richestOutside 13 (.iconst 1) 1 14 := ⟨by decide +kernel, rfl⟩
theorem eX4_richestOutside_14 : DD cX4_richestOutside 14 (.iload_n 3) 1 15 := ⟨by decide +kernel, rfl⟩
theorem eX4_richestOutside_15 : DD cX4_richestOutside 15 (.ishl) 1 16 := ⟨by decide +kernel, rfl⟩
theorem eX4_richestOutside_16 : DD cX4_richestOutside 16 (.iand) 1 17 := ⟨by decide +kernel, rfl⟩
theorem eX4_richestOutside_17 : DB cX4_richestOutside 17 (.ifCond .ne 7) (7) 20 24 := ⟨by decide +kernel, rfl, by decide⟩
theorem eX4_richestOutside_20 : DD cX4_richestOutside 20 (.iconst 1) 1 21 := ⟨by decide +kernel, rfl⟩
theorem eX4_richestOutside_21 : DB cX4_richestOutside 21 (.goto 4) (4) 24 25 := ⟨by decide +kernel, rfl, by decide⟩
theorem eX4_richestOutside_24 : DD cX4_richestOutside 24 (.iconst 0) 1 25 := ⟨by decide +kernel, rfl⟩
theorem eX4_richestOutside_25 : DD cX4_richestOutside 25 (.istore 4) 2 27 := ⟨by decide +kernel, rfl⟩
theorem eX4_richestOutside_27 : DD cX4_richestOutside 27 (.iload 4) 2 29 := ⟨by decide +kernel, rfl⟩
theorem eX4_richestOutside_29 : DB cX4_richestOutside 29 (.ifCond .eq 25) (25) 32 54 := ⟨by decide +kernel, rfl, by decide⟩
theorem eX4_richestOutside_32 : DD cX4_richestOutside 32 (.iload_n 2) 1 33 := ⟨by decide +kernel, rfl⟩
theorem eX4_richestOutside_33 : DD cX4_richestOutside 33 (.iconst (-1)) 1 34 := ⟨by decide +kernel, rfl⟩
theorem eX4_richestOutside_34 : DB cX4_richestOutside 34 (.if_icmp .eq 18) (18) 37 52 := ⟨by decide +kernel, rfl, by decide⟩
theorem eX4_richestOutside_37 : DD cX4_richestOutside 37 (.aload_n 0) 1 38 := ⟨by decide +kernel, rfl⟩
theorem eX4_richestOutside_38 : DD cX4_richestOutside 38 (.getfield 11) 3 41 := ⟨by decide +kernel, rfl⟩
theorem eX4_richestOutside_41 : DD cX4_richestOutside 41 (.iload_n 3) 1 42 := ⟨by decide +kernel, rfl⟩
theorem eX4_richestOutside_42 : DD cX4_richestOutside 42 (.iaload) 1 43 := ⟨by decide +kernel, rfl⟩
theorem eX4_richestOutside_43 : DD cX4_richestOutside 43 (.aload_n 0) 1 44 := ⟨by decide +kernel, rfl⟩
theorem eX4_richestOutside_44 : DD cX4_richestOutside 44 (.getfield 11) 3 47 := ⟨by decide +kernel, rfl⟩
theorem eX4_richestOutside_47 : DD cX4_richestOutside 47 (.iload_n 2) 1 48 := ⟨by decide +kernel, rfl⟩
theorem eX4_richestOutside_48 : DD cX4_richestOutside 48 (.iaload) 1 49 := ⟨by decide +kernel, rfl⟩
theorem eX4_richestOutside_49 : DB cX4_richestOutside 49 (.if_icmp .le 5) (5) 52 54 := ⟨by decide +kernel, rfl, by decide⟩
theorem eX4_richestOutside_52 : DD cX4_richestOutside 52 (.iload_n 3) 1 53 := ⟨by decide +kernel, rfl⟩
theorem eX4_richestOutside_53 : DD cX4_richestOutside 53 (.istore_n 2) 1 54 := ⟨by decide +kernel, rfl⟩
theorem eX4_richestOutside_54 : DD cX4_richestOutside 54 (.iinc 3 1) 3 57 := ⟨by decide +kernel, rfl⟩
theorem eX4_richestOutside_57 : DB cX4_richestOutside 57 (.goto (-53)) (-53) 60 4 := ⟨by decide +kernel, rfl, by decide⟩
theorem eX4_richestOutside_60 : DD cX4_richestOutside 60 (.iload_n 2) 1 61 := ⟨by decide +kernel, rfl⟩
theorem eX4_richestOutside_61 : DD cX4_richestOutside 61 (.ireturn) 1 62 := ⟨by decide +kernel, rfl⟩
def F_X4_richestOutside_54 (kc_4 : Nat → Int32 → Int32 → Int32 → Mem → Option (Int32 × Mem)) (p0 : Nat) (x1 : Int32) (x2 : Int32) (x3 : Int32) (μ : Mem) : Option (Int32 × Mem) :=
  lb (x3 + (1 : Int32)) (fun x3_1 => kc_4 p0 x1 x2 x3_1 μ)
set_option maxHeartbeats 4000000 in
theorem j_X4_richestOutside_54 {C : Cx} (hC : Ok C cX4_richestOutside 5 RX4 (rmF 0 0)) (hr : (cT C).sig.returnType = (some .int)) (kc_4 : Nat → Int32 → Int32 → Int32 → Mem → Option (Int32 × Mem)) (hk_4 : ∀ (p0 : Nat) (h0 : kd p0 = 4) (x1 : Int32) (x2 : Int32) (x3 : Int32) (μ : Mem), J C (KI C) μ 4 [(0, .ref (xad (cX C) p0)), (1, .int x1), (2, .int x2), (3, .int x3)] [] (kc_4 p0 x1 x2 x3 μ)) (p0 : Nat) (h0 : kd p0 = 4) (x1 : Int32) (x2 : Int32) (x3 : Int32) (μ : Mem) : J C (KI C) μ 54 [(0, .ref (xad (cX C) p0)), (1, .int x1), (2, .int x2), (3, .int x3)] [] (F_X4_richestOutside_54 kc_4 p0 x1 x2 x3 μ) := by
  unfold F_X4_richestOutside_54
  refine J.iinc (j := 3) (fun x3_1 => [(3, .int x3_1), (0, .ref (xad (cX C) p0)), (1, .int x1), (2, .int x2)]) hC eX4_richestOutside_54 rfl ci_1 (by decide) (fun _ => rfl) (fun x3_1 => ?_)
  refine J.goto hC eX4_richestOutside_57 ?_
  refine J.sub [1, 2, 3, 0] rfl ?_
  exact hk_4 p0 h0 x1 x2 x3_1 μ
def F_X4_richestOutside_52 (kc_4 : Nat → Int32 → Int32 → Int32 → Mem → Option (Int32 × Mem)) (p0 : Nat) (x1 : Int32) (x3 : Int32) (μ : Mem) : Option (Int32 × Mem) :=
  F_X4_richestOutside_54 kc_4 p0 x1 x3 x3 μ
set_option maxHeartbeats 4000000 in
theorem j_X4_richestOutside_52 {C : Cx} (hC : Ok C cX4_richestOutside 5 RX4 (rmF 0 0)) (hr : (cT C).sig.returnType = (some .int)) (kc_4 : Nat → Int32 → Int32 → Int32 → Mem → Option (Int32 × Mem)) (hk_4 : ∀ (p0 : Nat) (h0 : kd p0 = 4) (x1 : Int32) (x2 : Int32) (x3 : Int32) (μ : Mem), J C (KI C) μ 4 [(0, .ref (xad (cX C) p0)), (1, .int x1), (2, .int x2), (3, .int x3)] [] (kc_4 p0 x1 x2 x3 μ)) (p0 : Nat) (h0 : kd p0 = 4) (x1 : Int32) (x3 : Int32) (μ : Mem) : J C (KI C) μ 52 [(0, .ref (xad (cX C) p0)), (1, .int x1), (3, .int x3)] [] (F_X4_richestOutside_52 kc_4 p0 x1 x3 μ) := by
  unfold F_X4_richestOutside_52
  refine J.iload_n (j := 2) hC eX4_richestOutside_52 rfl ?_
  refine J.istore_n [(2, .int x3), (0, .ref (xad (cX C) p0)), (1, .int x1), (3, .int x3)] hC eX4_richestOutside_53 (by decide) rfl ?_
  refine J.sub [1, 2, 0, 3] rfl ?_
  exact j_X4_richestOutside_54 hC hr kc_4 hk_4 p0 h0 x1 x3 x3 μ
def F_X4_richestOutside_25 (kc_4 : Nat → Int32 → Int32 → Int32 → Mem → Option (Int32 × Mem)) (p0 : Nat) (x1 : Int32) (x2 : Int32) (x3 : Int32) (xs0 : Int32) (μ : Mem) : Option (Int32 × Mem) :=
  if xs0 = 0 then F_X4_richestOutside_54 kc_4 p0 x1 x2 x3 μ else if x2 = (-1 : Int32) then F_X4_richestOutside_52 kc_4 p0 x1 x3 μ else gq (inB x3 16) (gq (inB x2 16) (if (rI μ (p0 + 1) (nx x3)) ≤ (rI μ (p0 + 1) (nx x2)) then F_X4_richestOutside_54 kc_4 p0 x1 x2 x3 μ else F_X4_richestOutside_52 kc_4 p0 x1 x3 μ))
set_option maxHeartbeats 4000000 in
theorem j_X4_richestOutside_25 {C : Cx} (hC : Ok C cX4_richestOutside 5 RX4 (rmF 0 0)) (hr : (cT C).sig.returnType = (some .int)) (kc_4 : Nat → Int32 → Int32 → Int32 → Mem → Option (Int32 × Mem)) (hk_4 : ∀ (p0 : Nat) (h0 : kd p0 = 4) (x1 : Int32) (x2 : Int32) (x3 : Int32) (μ : Mem), J C (KI C) μ 4 [(0, .ref (xad (cX C) p0)), (1, .int x1), (2, .int x2), (3, .int x3)] [] (kc_4 p0 x1 x2 x3 μ)) (p0 : Nat) (h0 : kd p0 = 4) (x1 : Int32) (x2 : Int32) (x3 : Int32) (xs0 : Int32) (μ : Mem) : J C (KI C) μ 25 [(0, .ref (xad (cX C) p0)), (1, .int x1), (2, .int x2), (3, .int x3)] [.int xs0] (F_X4_richestOutside_25 kc_4 p0 x1 x2 x3 xs0 μ) := by
  unfold F_X4_richestOutside_25
  refine J.istore [(4, .int xs0), (0, .ref (xad (cX C) p0)), (1, .int x1), (2, .int x2), (3, .int x3)] hC eX4_richestOutside_25 (by decide) rfl ?_
  refine J.iload (j := 0) hC eX4_richestOutside_27 rfl ?_
  refine J.if_eq hC eX4_richestOutside_29 (fun _ => ?_) (fun _ => ?_)
  · refine J.sub [1, 2, 3, 4] rfl ?_
    exact j_X4_richestOutside_54 hC hr kc_4 hk_4 p0 h0 x1 x2 x3 μ
  · refine J.iload_n (j := 3) hC eX4_richestOutside_32 rfl ?_
    refine J.iconst hC eX4_richestOutside_33 ci_m1 ?_
    refine J.icmp_eq hC eX4_richestOutside_34 (fun _ => ?_) (fun _ => ?_)
    · refine J.sub [1, 2, 4] rfl ?_
      exact j_X4_richestOutside_52 hC hr kc_4 hk_4 p0 h0 x1 x3 μ
    · refine J.aload_n (j := 1) hC eX4_richestOutside_37 rfl ?_
      refine gf_X4_11 (q := p0 + 1) hC eX4_richestOutside_38 h0 rfl ?_
      refine J.iload_n (j := 4) hC eX4_richestOutside_41 rfl ?_
      refine J.iald ik_16 hC eX4_richestOutside_42 (kf_X4_counts h0) ?_
      refine J.aload_n (j := 1) hC eX4_richestOutside_43 rfl ?_
      refine gf_X4_11 (q := p0 + 1) hC eX4_richestOutside_44 h0 rfl ?_
      refine J.iload_n (j := 3) hC eX4_richestOutside_47 rfl ?_
      refine J.iald ik_16 hC eX4_richestOutside_48 (kf_X4_counts h0) ?_
      refine J.icmp_le hC eX4_richestOutside_49 (fun _ => ?_) (fun _ => ?_)
      · refine J.sub [1, 2, 3, 4] rfl ?_
        exact j_X4_richestOutside_54 hC hr kc_4 hk_4 p0 h0 x1 x2 x3 μ
      · refine J.sub [1, 2, 4] rfl ?_
        exact j_X4_richestOutside_52 hC hr kc_4 hk_4 p0 h0 x1 x3 μ
def L_X4_richestOutside_4 : Nat → Nat → Int32 → Int32 → Int32 → Mem → Option (Int32 × Mem)
  | 0, _, _, _, _, _ => none
  | n + 1, p0, x1, x2, x3, μ => if (rI μ p0 2) ≤ x3 then some (x2, μ) else if (x1 &&& ((1 : Int32) <<< (x3 &&& 31))) = 0 then F_X4_richestOutside_25 (L_X4_richestOutside_4  n) p0 x1 x2 x3 (1 : Int32) μ else F_X4_richestOutside_25 (L_X4_richestOutside_4  n) p0 x1 x2 x3 (0 : Int32) μ
set_option maxHeartbeats 4000000 in
theorem j_X4_richestOutside_4 {C : Cx} (hC : Ok C cX4_richestOutside 5 RX4 (rmF 0 0)) (hr : (cT C).sig.returnType = (some .int)) : ∀ (n : Nat) (p0 : Nat) (h0 : kd p0 = 4) (x1 : Int32) (x2 : Int32) (x3 : Int32) (μ : Mem), J C (KI C) μ 4 [(0, .ref (xad (cX C) p0)), (1, .int x1), (2, .int x2), (3, .int x3)] [] (L_X4_richestOutside_4  n p0 x1 x2 x3 μ) := by
  intro n
  induction n with
  | zero => intros; exact J.no
  | succ n ih =>
    intro p0 h0 x1 x2 x3 μ
    rw [L_X4_richestOutside_4]
    refine J.iload_n (j := 3) hC eX4_richestOutside_4 rfl ?_
    refine J.aload_n (j := 0) hC eX4_richestOutside_5 rfl ?_
    refine gf_X4_18 hC eX4_richestOutside_6 h0 ?_
    refine J.icmp_ge hC eX4_richestOutside_9 (fun _ => ?_) (fun _ => ?_)
    · refine J.iload_n (j := 2) hC eX4_richestOutside_60 rfl ?_
      exact J.iret hC hr eX4_richestOutside_61
    · refine J.iload_n (j := 1) hC eX4_richestOutside_12 rfl ?_
      refine J.iconst hC eX4_richestOutside_13 ci_1 ?_
      refine J.iload_n (j := 3) hC eX4_richestOutside_14 rfl ?_
      refine J.ishl hC eX4_richestOutside_15 ?_
      refine J.iand hC eX4_richestOutside_16 ?_
      refine J.if_ne hC eX4_richestOutside_17 (fun _ => ?_) (fun _ => ?_)
      · refine J.iconst hC eX4_richestOutside_20 ci_1 ?_
        refine J.goto hC eX4_richestOutside_21 ?_
        refine J.sub [0, 1, 2, 3] rfl ?_
        exact j_X4_richestOutside_25 hC hr (L_X4_richestOutside_4  n) ih p0 h0 x1 x2 x3 (1 : Int32) μ
      · refine J.iconst hC eX4_richestOutside_24 ci_0 ?_
        refine J.sub [0, 1, 2, 3] rfl ?_
        exact j_X4_richestOutside_25 hC hr (L_X4_richestOutside_4  n) ih p0 h0 x1 x2 x3 (0 : Int32) μ
def G_X4_richestOutside (p0 : Nat) (x1 : Int32) (μ : Mem) : Option (Int32 × Mem) :=
  L_X4_richestOutside_4  100000 p0 x1 (-1 : Int32) (0 : Int32) μ
set_option maxHeartbeats 4000000 in
theorem c_X4_richestOutside {X : Wd} (hX : WdOk X) (p0 : Nat) (h0 : kd p0 = 4) (x1 : Int32) (μ : Mem) : CtI X yX4_richestOutside cX4_richestOutside 5 (some .int) (rmF 0 0) [.ref (xad X p0), .int x1] μ (G_X4_richestOutside p0 x1 μ) := by
  refine CtI.of hX (plainFor_of_name (by decide)) (by exact Nat.le_of_ble_eq_true rfl) ?_
  intro C hCX hC hr
  subst hCX
  show J C (KI C) μ 0 [(0, .ref (xad (cX C) p0)), (1, .int x1)] [] _
  unfold G_X4_richestOutside
  refine J.iconst hC eX4_richestOutside_0 ci_m1 ?_
  refine J.istore_n [(2, .int (-1 : Int32)), (0, .ref (xad (cX C) p0)), (1, .int x1)] hC eX4_richestOutside_1 (by decide) rfl ?_
  refine J.iconst hC eX4_richestOutside_2 ci_0 ?_
  refine J.istore_n [(3, .int (0 : Int32)), (2, .int (-1 : Int32)), (0, .ref (xad (cX C) p0)), (1, .int x1)] hC eX4_richestOutside_3 (by decide) rfl ?_
  refine J.sub [2, 3, 1, 0] rfl ?_
  exact j_X4_richestOutside_4 hC hr  100000 p0 h0 x1 (-1 : Int32) (0 : Int32) μ
-- X4_joinByDegrees
theorem eX4_joinByDegrees_0 : DD cX4_joinByDegrees 0 (.iconst 0) 1 1 := ⟨by decide +kernel, rfl⟩
theorem eX4_joinByDegrees_1 : DD cX4_joinByDegrees 1 (.istore_n 2) 1 2 := ⟨by decide +kernel, rfl⟩
theorem eX4_joinByDegrees_2 : DD cX4_joinByDegrees 2 (.iconst 0) 1 3 := ⟨by decide +kernel, rfl⟩
theorem eX4_joinByDegrees_3 : DD cX4_joinByDegrees 3 (.istore_n 3) 1 4 := ⟨by decide +kernel, rfl⟩
theorem eX4_joinByDegrees_4 : DD cX4_joinByDegrees 4 (.lconst 0) 1 5 := ⟨by decide +kernel, rfl⟩
theorem eX4_joinByDegrees_5 : DD cX4_joinByDegrees 5 (.lstore 4) 2 7 := ⟨by decide +kernel, rfl⟩
theorem eX4_joinByDegrees_7 : DD cX4_joinByDegrees 7 (.iconst 0) 1 8 := ⟨by decide +kernel, rfl⟩
theorem eX4_joinByDegrees_8 : DD cX4_joinByDegrees 8 (.istore 6) 2 10 := ⟨by decide +kernel, rfl⟩
theorem eX4_joinByDegrees_10 : DD cX4_joinByDegrees 10 (.iload 6) 2 12 := ⟨by decide +kernel, rfl⟩
theorem eX4_joinByDegrees_12 : DD cX4_joinByDegrees 12 (.bipush 16) 2 14 := ⟨by decide +kernel, rfl⟩
theorem eX4_joinByDegrees_14 : DB cX4_joinByDegrees 14 (.if_icmp .ge 74) (74) 17 88 := ⟨by decide +kernel, rfl, by decide⟩
theorem eX4_joinByDegrees_17 : DD cX4_joinByDegrees 17 (.aload_n 0) 1 18 := ⟨by decide +kernel, rfl⟩
theorem eX4_joinByDegrees_18 : DD cX4_joinByDegrees 18 (.iload_n 2) 1 19 := ⟨by decide +kernel, rfl⟩
theorem eX4_joinByDegrees_19 : DD cX4_joinByDegrees 19 (.invokevirtual 97) 3 22 := ⟨by decide +kernel, rfl⟩
theorem eX4_joinByDegrees_22 : DD cX4_joinByDegrees 22 (.istore 7) 2 24 := ⟨by decide +kernel, rfl⟩
theorem eX4_joinByDegrees_24 : DD cX4_joinByDegrees 24 (.aload_n 1) 1 25 := ⟨by decide +kernel, rfl⟩
theorem eX4_joinByDegrees_25 : DD cX4_joinByDegrees 25 (.iload_n 3) 1 26 := ⟨by decide +kernel, rfl⟩
theorem eX4_joinByDegrees_26 : DD cX4_joinByDegrees 26 (.invokevirtual 97) 3 29 := ⟨by decide +kernel, rfl⟩
theorem eX4_joinByDegrees_29 : DD cX4_joinByDegrees 29 (.istore 8) 2 31 := ⟨by decide +kernel, rfl⟩
theorem eX4_joinByDegrees_31 : DD cX4_joinByDegrees 31 (.iload 7) 2 33 := ⟨by decide +kernel, rfl⟩
theorem eX4_joinByDegrees_33 : DD cX4_joinByDegrees 33 (.iconst (-1)) 1 34 := ⟨by decide +kernel, rfl⟩
theorem eX4_joinByDegrees_34 : DB cX4_joinByDegrees 34 (.if_icmp .eq 54) (54) 37 88 := ⟨by decide +kernel, rfl, by decide⟩
theorem eX4_joinByDegrees_37 : DD cX4_joinByDegrees 37 (.iload 8) 2 39 := ⟨by decide +kernel, rfl⟩
theorem eX4_joinByDegrees_39 : DD cX4_joinByDegrees 39 (.iconst (-1)) 1 40 := ⟨by decide +kernel, rfl⟩
theorem eX4_joinByDegrees_40 : DB cX4_joinByDegrees 40 (.if_icmp .ne 6) (6) 43 46 := ⟨by decide +kernel, rfl, by decide⟩
theorem eX4_joinByDegrees_43 : DB cX4_joinByDegrees 43 (.goto 45) (45) 46 88 := ⟨by decide +kernel, rfl, by decide⟩
theorem eX4_joinByDegrees_46 : DD cX4_joinByDegrees 46 (.lload 4) 2 48 := ⟨by decide +kernel, rfl⟩
theorem eX4_joinByDegrees_48 : DD cX4_joinByDegrees 48 (.aload_n 0) 1 49 := ⟨by decide +kernel, rfl⟩
theorem eX4_joinByDegrees_49 : DD cX4_joinByDegrees 49 (.getfield 11) 3 52 := ⟨by decide +kernel, rfl⟩
theorem eX4_joinByDegrees_52 : DD cX4_joinByDegrees 52 (.iload 7) 2 54 := ⟨by decide +kernel, rfl⟩
theorem eX4_joinByDegrees_54 : DD cX4_joinByDegrees 54 (.iaload) 1 55 := ⟨by decide +kernel, rfl⟩
theorem eX4_joinByDegrees_55 : DD cX4_joinByDegrees 55 (.i2l) 1 56 := ⟨by decide +kernel, rfl⟩
theorem eX4_joinByDegrees_56 : DD cX4_joinByDegrees 56 (.aload_n 1) 1 57 := ⟨by decide +kernel, rfl⟩
theorem eX4_joinByDegrees_57 : DD cX4_joinByDegrees 57 (.getfield 11) 3 60 := ⟨by decide +kernel, rfl⟩
theorem eX4_joinByDegrees_60 : DD cX4_joinByDegrees 60 (.iload 8) 2 62 := ⟨by decide +kernel, rfl⟩
theorem eX4_joinByDegrees_62 : DD cX4_joinByDegrees 62 (.iaload) 1 63 := ⟨by decide +kernel, rfl⟩
theorem eX4_joinByDegrees_63 : DD cX4_joinByDegrees 63 (.i2l) 1 64 := ⟨by decide +kernel, rfl⟩
theorem eX4_joinByDegrees_64 : DD cX4_joinByDegrees 64 (.lmul) 1 65 := ⟨by decide +kernel, rfl⟩
theorem eX4_joinByDegrees_65 : DD cX4_joinByDegrees 65 (.ladd) 1 66 := ⟨by decide +kernel, rfl⟩
theorem eX4_joinByDegrees_66 : DD cX4_joinByDegrees 66 (.lstore 4) 2 68 := ⟨by decide +kernel, rfl⟩
theorem eX4_joinByDegrees_68 : DD cX4_joinByDegrees 68 (.iload_n 2) 1 69 := ⟨by decide +kernel, rfl⟩
theorem eX4_joinByDegrees_69 : DD cX4_joinByDegrees 69 (.iconst 1) 1 70 := ⟨by decide +kernel, rfl⟩
theorem eX4_joinByDegrees_70 : DD cX4_joinByDegrees 70 (.iload 7) 2 72 := ⟨by decide +kernel, rfl⟩
theorem eX4_joinByDegrees_72 : DD cX4_joinByDegrees 72 (.ishl) 1 73 := ⟨by decide +kernel, rfl⟩
theorem eX4_joinByDegrees_73 : DD cX4_joinByDegrees 73 (.ior) 1 74 := ⟨by decide +kernel, rfl⟩
theorem eX4_joinByDegrees_74 : DD cX4_joinByDegrees 74 (.istore_n 2) 1 75 := ⟨by decide +kernel, rfl⟩
theorem eX4_joinByDegrees_75 : DD cX4_joinByDegrees 75 (.iload_n 3) 1 76 := ⟨by decide +kernel, rfl⟩
theorem eX4_joinByDegrees_76 : DD cX4_joinByDegrees 76 (.iconst 1) 1 77 := ⟨by decide +kernel, rfl⟩
theorem eX4_joinByDegrees_77 : DD cX4_joinByDegrees 77 (.iload 8) 2 79 := ⟨by decide +kernel, rfl⟩
theorem eX4_joinByDegrees_79 : DD cX4_joinByDegrees 79 (.ishl) 1 80 := ⟨by decide +kernel, rfl⟩
theorem eX4_joinByDegrees_80 : DD cX4_joinByDegrees 80 (.ior) 1 81 := ⟨by decide +kernel, rfl⟩
theorem eX4_joinByDegrees_81 : DD cX4_joinByDegrees 81 (.istore_n 3) 1 82 := ⟨by decide +kernel, rfl⟩
theorem eX4_joinByDegrees_82 : DD cX4_joinByDegrees 82 (.iinc 6 1) 3 85 := ⟨by decide +kernel, rfl⟩
theorem eX4_joinByDegrees_85 : DB cX4_joinByDegrees 85 (.goto (-75)) (-75) 88 10 := ⟨by decide +kernel, rfl, by decide⟩
theorem eX4_joinByDegrees_88 : DD cX4_joinByDegrees 88 (.lload 4) 2 90 := ⟨by decide +kernel, rfl⟩
theorem eX4_joinByDegrees_90 : DD cX4_joinByDegrees 90 (.lreturn) 1 91 := ⟨by decide +kernel, rfl⟩
def L_X4_joinByDegrees_10 : Nat → Nat → Nat → Int32 → Int32 → Int64 → Int32 → Mem → Option (Int64 × Mem)
  | 0, _, _, _, _, _, _, _ => none
  | n + 1, p0, p1, x2, x3, l4, x6, μ => if (16 : Int32) ≤ x6 then some (l4, μ) else bd (G_X4_richestOutside p0 x2 μ) (fun r_2 μ_1 => bd (G_X4_richestOutside p1 x3 μ_1) (fun r_4 μ_3 => if r_2 = (-1 : Int32) then some (l4, μ_3) else if r_4 = (-1 : Int32) then some (l4, μ_3) else gq (inB r_2 16) (gq (inB r_4 16) (lb (l4 + (((rI μ_3 (p0 + 1) (nx r_2)).toInt64) * ((rI μ_3 (p1 + 1) (nx r_4)).toInt64))) (fun l4_5 => lb (x2 ||| ((1 : Int32) <<< (r_2 &&& 31))) (fun x2_6 => lb (x3 ||| ((1 : Int32) <<< (r_4 &&& 31))) (fun x3_7 => lb (x6 + (1 : Int32)) (fun x6_8 => L_X4_joinByDegrees_10  n p0 p1 x2_6 x3_7 l4_5 x6_8 μ_3))))))))
set_option maxHeartbeats 4000000 in
theorem j_X4_joinByDegrees_10 {C : Cx} (hC : Ok C cX4_joinByDegrees 9 RX4 (rmF 1 24)) (hr : (cT C).sig.returnType = (some .long)) : ∀ (n : Nat) (p0 : Nat) (h0 : kd p0 = 4) (p1 : Nat) (h1 : kd p1 = 4) (x2 : Int32) (x3 : Int32) (l4 : Int64) (x6 : Int32) (μ : Mem), J C (KL C) μ 10 [(0, .ref (xad (cX C) p0)), (1, .ref (xad (cX C) p1)), (2, .int x2), (3, .int x3), (4, .long l4), (6, .int x6)] [] (L_X4_joinByDegrees_10  n p0 p1 x2 x3 l4 x6 μ) := by
  intro n
  induction n with
  | zero => intros; exact J.no
  | succ n ih =>
    intro p0 h0 p1 h1 x2 x3 l4 x6 μ
    rw [L_X4_joinByDegrees_10]
    refine J.iload (j := 5) hC eX4_joinByDegrees_10 rfl ?_
    refine J.bipush hC eX4_joinByDegrees_12 cb_16 ?_
    refine J.icmp_ge hC eX4_joinByDegrees_14 (fun _ => ?_) (fun _ => ?_)
    · refine J.lload (j := 4) hC eX4_joinByDegrees_88 rfl ?_
      exact J.lret hC hr eX4_joinByDegrees_90
    · refine J.aload_n (j := 0) hC eX4_joinByDegrees_17 rfl ?_
      refine J.iload_n (j := 2) hC eX4_joinByDegrees_18 rfl ?_
      refine J.callVI (st := []) hC eX4_joinByDegrees_19 h0 (by decide) rfl rfl ml_X4_97 mv_X4_richestOutside (Rle_of (Nat.le_of_ble_eq_true rfl) (Nat.le_of_ble_eq_true rfl)) (c_X4_richestOutside hC.X p0 h0 x2 μ) rfl rfl (Nat.le_of_ble_eq_true rfl) (fun r_2 μ_1 => ?_)
      refine J.istore [(7, .int r_2), (0, .ref (xad (cX C) p0)), (1, .ref (xad (cX C) p1)), (2, .int x2), (3, .int x3), (4, .long l4), (6, .int x6)] hC eX4_joinByDegrees_22 (by decide) rfl ?_
      refine J.aload_n (j := 2) hC eX4_joinByDegrees_24 rfl ?_
      refine J.iload_n (j := 4) hC eX4_joinByDegrees_25 rfl ?_
      refine J.callVI (st := []) hC eX4_joinByDegrees_26 h1 (by decide) rfl rfl ml_X4_97 mv_X4_richestOutside (Rle_of (Nat.le_of_ble_eq_true rfl) (Nat.le_of_ble_eq_true rfl)) (c_X4_richestOutside hC.X p1 h1 x3 μ_1) rfl rfl (Nat.le_of_ble_eq_true rfl) (fun r_4 μ_3 => ?_)
      refine J.istore [(8, .int r_4), (7, .int r_2), (0, .ref (xad (cX C) p0)), (1, .ref (xad (cX C) p1)), (2, .int x2), (3, .int x3), (4, .long l4), (6, .int x6)] hC eX4_joinByDegrees_29 (by decide) rfl ?_
      refine J.iload (j := 1) hC eX4_joinByDegrees_31 rfl ?_
      refine J.iconst hC eX4_joinByDegrees_33 ci_m1 ?_
      refine J.icmp_eq hC eX4_joinByDegrees_34 (fun _ => ?_) (fun _ => ?_)
      · refine J.lload (j := 6) hC eX4_joinByDegrees_88 rfl ?_
        exact J.lret hC hr eX4_joinByDegrees_90
      · refine J.iload (j := 0) hC eX4_joinByDegrees_37 rfl ?_
        refine J.iconst hC eX4_joinByDegrees_39 ci_m1 ?_
        refine J.icmp_ne hC eX4_joinByDegrees_40 (fun _ => ?_) (fun _ => ?_)
        · refine J.goto hC eX4_joinByDegrees_43 ?_
          refine J.lload (j := 6) hC eX4_joinByDegrees_88 rfl ?_
          exact J.lret hC hr eX4_joinByDegrees_90
        · refine J.lload (j := 6) hC eX4_joinByDegrees_46 rfl ?_
          refine J.aload_n (j := 2) hC eX4_joinByDegrees_48 rfl ?_
          refine gf_X4_11 (q := p0 + 1) hC eX4_joinByDegrees_49 h0 rfl ?_
          refine J.iload (j := 1) hC eX4_joinByDegrees_52 rfl ?_
          refine J.iald ik_16 hC eX4_joinByDegrees_54 (kf_X4_counts h0) ?_
          refine J.i2l hC eX4_joinByDegrees_55 ?_
          refine J.aload_n (j := 3) hC eX4_joinByDegrees_56 rfl ?_
          refine gf_X4_11 (q := p1 + 1) hC eX4_joinByDegrees_57 h1 rfl ?_
          refine J.iload (j := 0) hC eX4_joinByDegrees_60 rfl ?_
          refine J.iald ik_16 hC eX4_joinByDegrees_62 (kf_X4_counts h1) ?_
          refine J.i2l hC eX4_joinByDegrees_63 ?_
          refine J.lmul hC eX4_joinByDegrees_64 ?_
          refine J.ladd hC eX4_joinByDegrees_65 ?_
          refine J.topl (fun l4_5 => ?_)
          refine J.lstore [(4, .long l4_5), (8, .int r_4), (7, .int r_2), (0, .ref (xad (cX C) p0)), (1, .ref (xad (cX C) p1)), (2, .int x2), (3, .int x3), (6, .int x6)] hC eX4_joinByDegrees_66 (by decide) rfl ?_
          refine J.iload_n (j := 5) hC eX4_joinByDegrees_68 rfl ?_
          refine J.iconst hC eX4_joinByDegrees_69 ci_1 ?_
          refine J.iload (j := 2) hC eX4_joinByDegrees_70 rfl ?_
          refine J.ishl hC eX4_joinByDegrees_72 ?_
          refine J.ior hC eX4_joinByDegrees_73 ?_
          refine J.topi (fun x2_6 => ?_)
          refine J.istore_n [(2, .int x2_6), (4, .long l4_5), (8, .int r_4), (7, .int r_2), (0, .ref (xad (cX C) p0)), (1, .ref (xad (cX C) p1)), (3, .int x3), (6, .int x6)] hC eX4_joinByDegrees_74 (by decide) rfl ?_
          refine J.iload_n (j := 6) hC eX4_joinByDegrees_75 rfl ?_
          refine J.iconst hC eX4_joinByDegrees_76 ci_1 ?_
          refine J.iload (j := 2) hC eX4_joinByDegrees_77 rfl ?_
          refine J.ishl hC eX4_joinByDegrees_79 ?_
          refine J.ior hC eX4_joinByDegrees_80 ?_
          refine J.topi (fun x3_7 => ?_)
          refine J.istore_n [(3, .int x3_7), (2, .int x2_6), (4, .long l4_5), (8, .int r_4), (7, .int r_2), (0, .ref (xad (cX C) p0)), (1, .ref (xad (cX C) p1)), (6, .int x6)] hC eX4_joinByDegrees_81 (by decide) rfl ?_
          refine J.iinc (j := 7) (fun x6_8 => [(6, .int x6_8), (3, .int x3_7), (2, .int x2_6), (4, .long l4_5), (8, .int r_4), (7, .int r_2), (0, .ref (xad (cX C) p0)), (1, .ref (xad (cX C) p1))]) hC eX4_joinByDegrees_82 rfl ci_1 (by decide) (fun _ => rfl) (fun x6_8 => ?_)
          refine J.goto hC eX4_joinByDegrees_85 ?_
          refine J.sub [6, 7, 2, 1, 3, 0] rfl ?_
          exact ih p0 h0 p1 h1 x2_6 x3_7 l4_5 x6_8 μ_3
def G_X4_joinByDegrees (p0 : Nat) (p1 : Nat) (μ : Mem) : Option (Int64 × Mem) :=
  L_X4_joinByDegrees_10  100000 p0 p1 (0 : Int32) (0 : Int32) (0 : Int64) (0 : Int32) μ
set_option maxHeartbeats 4000000 in
theorem c_X4_joinByDegrees {X : Wd} (hX : WdOk X) (p0 : Nat) (h0 : kd p0 = 4) (p1 : Nat) (h1 : kd p1 = 4) (μ : Mem) : CtL X yX4_joinByDegrees cX4_joinByDegrees 9 (some .long) (rmF 1 24) [.ref (xad X p0), .ref (xad X p1)] μ (G_X4_joinByDegrees p0 p1 μ) := by
  refine CtL.of hX (plainFor_of_name (by decide)) (by exact Nat.le_of_ble_eq_true rfl) ?_
  intro C hCX hC hr
  subst hCX
  show J C (KL C) μ 0 [(0, .ref (xad (cX C) p0)), (1, .ref (xad (cX C) p1))] [] _
  unfold G_X4_joinByDegrees
  refine J.iconst hC eX4_joinByDegrees_0 ci_0 ?_
  refine J.istore_n [(2, .int (0 : Int32)), (0, .ref (xad (cX C) p0)), (1, .ref (xad (cX C) p1))] hC eX4_joinByDegrees_1 (by decide) rfl ?_
  refine J.iconst hC eX4_joinByDegrees_2 ci_0 ?_
  refine J.istore_n [(3, .int (0 : Int32)), (2, .int (0 : Int32)), (0, .ref (xad (cX C) p0)), (1, .ref (xad (cX C) p1))] hC eX4_joinByDegrees_3 (by decide) rfl ?_
  refine J.lconst hC eX4_joinByDegrees_4 cl_0 ?_
  refine J.lstore [(4, .long (0 : Int64)), (3, .int (0 : Int32)), (2, .int (0 : Int32)), (0, .ref (xad (cX C) p0)), (1, .ref (xad (cX C) p1))] hC eX4_joinByDegrees_5 (by decide) rfl ?_
  refine J.iconst hC eX4_joinByDegrees_7 ci_0 ?_
  refine J.istore [(6, .int (0 : Int32)), (4, .long (0 : Int64)), (3, .int (0 : Int32)), (2, .int (0 : Int32)), (0, .ref (xad (cX C) p0)), (1, .ref (xad (cX C) p1))] hC eX4_joinByDegrees_8 (by decide) rfl ?_
  refine J.sub [4, 5, 3, 2, 1, 0] rfl ?_
  exact j_X4_joinByDegrees_10 hC hr  100000 p0 h0 p1 h1 (0 : Int32) (0 : Int32) (0 : Int64) (0 : Int32) μ
-- X5_leastBy
theorem eX5_leastBy_0 : DD cX5_leastBy 0 (.aload_n 0) 1 1 := ⟨by decide +kernel, rfl⟩
theorem eX5_leastBy_1 : DD cX5_leastBy 1 (.getfield 15) 3 4 := ⟨by decide +kernel, rfl⟩
theorem eX5_leastBy_4 : DD cX5_leastBy 4 (.iload_n 1) 1 5 := ⟨by decide +kernel, rfl⟩
theorem eX5_leastBy_5 : DD cX5_leastBy 5 (.bipush 17) 2 7 := ⟨by decide +kernel, rfl⟩
theorem eX5_leastBy_7 : DD cX5_leastBy 7 (.imul) 1 8 := ⟨by decide +kernel, rfl⟩
theorem eX5_leastBy_8 : DD cX5_leastBy 8 (.laload) 1 9 := ⟨by decide +kernel, rfl⟩
theorem eX5_leastBy_9 : DD cX5_leastBy 9 (.lreturn) 1 10 := ⟨by decide +kernel, rfl⟩
def G_X5_leastBy (x1 : Int32) (μ : Mem) : Option (Int64 × Mem) :=
  gq (inB (x1 * (17 : Int32)) 289) (some (rL μ 101 (nx (x1 * (17 : Int32))), μ))
set_option maxHeartbeats 4000000 in
theorem c_X5_leastBy {X : Wd} (hX : WdOk X) (x1 : Int32) (μ : Mem) : CtL X yX5_leastBy cX5_leastBy 2 (some .long) (rmF 0 0) [.ref (xad X 99), .int x1] μ (G_X5_leastBy x1 μ) := by
  refine CtL.of hX (plainFor_of_name (by decide)) (by exact Nat.le_of_ble_eq_true rfl) ?_
  intro C hCX hC hr
  subst hCX
  show J C (KL C) μ 0 [(0, .ref (xad (cX C) 99)), (1, .int x1)] [] _
  unfold G_X5_leastBy
  refine J.aload_n (j := 0) hC eX5_leastBy_0 rfl ?_
  refine gf_X5_15 (q := 101) hC eX5_leastBy_1 kk_99 rfl ?_
  refine J.iload_n (j := 1) hC eX5_leastBy_4 rfl ?_
  refine J.bipush hC eX5_leastBy_5 cb_17 ?_
  refine J.imul hC eX5_leastBy_7 ?_
  refine J.lald il_289 hC eX5_leastBy_8 kk_101 ?_
  exact J.lret hC hr eX5_leastBy_9
-- X5_worstOf
theorem eX5_worstOf_0 : DD cX5_worstOf 0 (.aload_n 0) 1 1 := ⟨by decide +kernel, rfl⟩
theorem eX5_worstOf_1 : DD cX5_worstOf 1 (.aload_n 1) 1 2 := ⟨by decide +kernel, rfl⟩
theorem eX5_worstOf_2 : DD cX5_worstOf 2 (.invokevirtual 22) 3 5 := ⟨by decide +kernel, rfl⟩
theorem eX5_worstOf_5 : DD cX5_worstOf 5 (.iconst 0) 1 6 := ⟨by decide +kernel, rfl⟩
theorem eX5_worstOf_6 : DD cX5_worstOf 6 (.istore_n 2) 1 7 := ⟨by decide +kernel, rfl⟩
theorem eX5_worstOf_7 : DD cX5_worstOf 7 (.ldc2_w 52) 3 10 := ⟨by decide +kernel, rfl⟩
theorem eX5_worstOf_10 : DD cX5_worstOf 10 (.lstore_n 3) 1 11 := ⟨by decide +kernel, rfl⟩
theorem eX5_worstOf_11 : DD cX5_worstOf 11 (.iconst 0) 1 12 := ⟨by decide +kernel, rfl⟩
theorem eX5_worstOf_12 : DD cX5_worstOf 12 (.istore 5) 2 14 := ⟨by decide +kernel, rfl⟩
theorem eX5_worstOf_14 : DD cX5_worstOf 14 (.iload 5) 2 16 := ⟨by decide +kernel, rfl⟩
theorem eX5_worstOf_16 : DD cX5_worstOf 16 (.aload_n 1) 1 17 := ⟨by decide +kernel, rfl⟩
theorem eX5_worstOf_17 : DD cX5_worstOf 17 (.invokevirtual 54) 3 20 := ⟨by decide +kernel, rfl⟩
theorem eX5_worstOf_20 : DB cX5_worstOf 20 (.if_icmp .ge 47) (47) 23 67 := ⟨by decide +kernel, rfl, by decide⟩
theorem eX5_worstOf_23 : DD cX5_worstOf 23 (.aload_n 0) 1 24 := ⟨by decide +kernel, rfl⟩
theorem eX5_worstOf_24 : DD cX5_worstOf 24 (.getfield 9) 3 27 := ⟨by decide +kernel, rfl⟩
theorem eX5_worstOf_27 : DD cX5_worstOf 27 (.aload_n 1) 1 28 := ⟨by decide +kernel, rfl⟩
theorem eX5_worstOf_28 : DD cX5_worstOf 28 (.iload 5) 2 30 := ⟨by decide +kernel, rfl⟩
theorem eX5_worstOf_30 : DD cX5_worstOf 30 (.invokevirtual 58) 3 33 := ⟨by decide +kernel, rfl⟩
theorem eX5_worstOf_33 : DD cX5_worstOf 33 (.bipush 17) 2 35 := ⟨by decide +kernel, rfl⟩
theorem eX5_worstOf_35 : DD cX5_worstOf 35 (.imul) 1 36 := ⟨by decide +kernel, rfl⟩
theorem eX5_worstOf_36 : DD cX5_worstOf 36 (.aload_n 1) 1 37 := ⟨by decide +kernel, rfl⟩
theorem eX5_worstOf_37 : DD cX5_worstOf 37 (.iload 5) 2 39 := ⟨by decide +kernel, rfl⟩
theorem eX5_worstOf_39 : DD cX5_worstOf 39 (.invokevirtual 62) 3 42 := ⟨by decide +kernel, rfl⟩
theorem eX5_worstOf_42 : DD cX5_worstOf 42 (.iadd) 1 43 := ⟨by decide +kernel, rfl⟩
theorem eX5_worstOf_43 : DD cX5_worstOf 43 (.iconst 1) 1 44 := ⟨by decide +kernel, rfl⟩
theorem eX5_worstOf_44 : DD cX5_worstOf 44 (.iadd) 1 45 := ⟨by decide +kernel, rfl⟩
theorem eX5_worstOf_45 : DD cX5_worstOf 45 (.laload) 1 46 := ⟨by decide +kernel, rfl⟩
theorem eX5_worstOf_46 : DD cX5_worstOf 46 (.lstore 6) 2 48 := ⟨by decide +kernel, rfl⟩
theorem eX5_worstOf_48 : DD cX5_worstOf 48 (.lload 6) 2 50 := ⟨by decide +kernel, rfl⟩
theorem eX5_worstOf_50 : DD cX5_worstOf 50 (.lload_n 3) 1 51 := ⟨by decide +kernel, rfl⟩
theorem eX5_worstOf_51 : DD cX5_worstOf 51 (.lcmp) 1 52 := ⟨by decide +kernel, rfl⟩
theorem eX5_worstOf_52 : DB cX5_worstOf 52 (.ifCond .le 9) (9) 55 61 := ⟨by decide +kernel, rfl, by decide⟩
theorem eX5_worstOf_55 : DD cX5_worstOf 55 (.lload 6) 2 57 := ⟨by decide +kernel, rfl⟩
theorem eX5_worstOf_57 : DD cX5_worstOf 57 (.lstore_n 3) 1 58 := ⟨by decide +kernel, rfl⟩
theorem eX5_worstOf_58 : DD cX5_worstOf 58 (.iload 5) 2 60 := ⟨by decide +kernel, rfl⟩
theorem eX5_worstOf_60 : DD cX5_worstOf 60 (.istore_n 2) 1 61 := ⟨by decide +kernel, rfl⟩
theorem eX5_worstOf_61 : DD cX5_worstOf 61 (.iinc 5 1) 3 64 := ⟨by decide +kernel, rfl⟩
theorem eX5_worstOf_64 : DB cX5_worstOf 64 (.goto (-50)) (-50) 67 14 := ⟨by decide +kernel, rfl, by decide⟩
theorem eX5_worstOf_67 : DD cX5_worstOf 67 (.iload_n 2) 1 68 := ⟨by decide +kernel, rfl⟩
theorem eX5_worstOf_68 : DD cX5_worstOf 68 (.ireturn) 1 69 := ⟨by decide +kernel, rfl⟩
def F_X5_worstOf_61 (kc_14 : Nat → Int32 → Int64 → Int32 → Mem → Option (Int32 × Mem)) (p1 : Nat) (x2 : Int32) (l3 : Int64) (x5 : Int32) (μ : Mem) : Option (Int32 × Mem) :=
  lb (x5 + (1 : Int32)) (fun x5_1 => kc_14 p1 x2 l3 x5_1 μ)
set_option maxHeartbeats 4000000 in
theorem j_X5_worstOf_61 {C : Cx} (hC : Ok C cX5_worstOf 8 RX5 (rmF 1 29)) (hr : (cT C).sig.returnType = (some .int)) (kc_14 : Nat → Int32 → Int64 → Int32 → Mem → Option (Int32 × Mem)) (hk_14 : ∀ (p1 : Nat) (h1 : kd p1 = 4) (x2 : Int32) (l3 : Int64) (x5 : Int32) (μ : Mem), J C (KI C) μ 14 [(0, .ref (xad (cX C) 99)), (1, .ref (xad (cX C) p1)), (2, .int x2), (3, .long l3), (5, .int x5)] [] (kc_14 p1 x2 l3 x5 μ)) (p1 : Nat) (h1 : kd p1 = 4) (x2 : Int32) (l3 : Int64) (x5 : Int32) (μ : Mem) : J C (KI C) μ 61 [(0, .ref (xad (cX C) 99)), (1, .ref (xad (cX C) p1)), (2, .int x2), (3, .long l3), (5, .int x5)] [] (F_X5_worstOf_61 kc_14 p1 x2 l3 x5 μ) := by
  unfold F_X5_worstOf_61
  refine J.iinc (j := 4) (fun x5_1 => [(5, .int x5_1), (0, .ref (xad (cX C) 99)), (1, .ref (xad (cX C) p1)), (2, .int x2), (3, .long l3)]) hC eX5_worstOf_61 rfl ci_1 (by decide) (fun _ => rfl) (fun x5_1 => ?_)
  refine J.goto hC eX5_worstOf_64 ?_
  refine J.sub [1, 2, 3, 4, 0] rfl ?_
  exact hk_14 p1 h1 x2 l3 x5_1 μ
def L_X5_worstOf_14 : Nat → Nat → Int32 → Int64 → Int32 → Mem → Option (Int32 × Mem)
  | 0, _, _, _, _, _ => none
  | n + 1, p1, x2, l3, x5, μ => bd (G_X4_size p1 μ) (fun r_2 μ_1 => if r_2 ≤ x5 then some (x2, μ_1) else bd (G_X4_firstOf p1 x5 μ_1) (fun r_4 μ_3 => bd (G_X4_lastOf p1 x5 μ_3) (fun r_6 μ_5 => gq (inB (((r_4 * (17 : Int32)) + r_6) + (1 : Int32)) 289) (lb (rL μ_5 100 (nx (((r_4 * (17 : Int32)) + r_6) + (1 : Int32)))) (fun l6_7 => if (lg_cmp l6_7 l3) ≤ 0 then F_X5_worstOf_61 (L_X5_worstOf_14  n) p1 x2 l3 x5 μ_5 else F_X5_worstOf_61 (L_X5_worstOf_14  n) p1 x5 l6_7 x5 μ_5)))))
set_option maxHeartbeats 4000000 in
theorem j_X5_worstOf_14 {C : Cx} (hC : Ok C cX5_worstOf 8 RX5 (rmF 1 29)) (hr : (cT C).sig.returnType = (some .int)) : ∀ (n : Nat) (p1 : Nat) (h1 : kd p1 = 4) (x2 : Int32) (l3 : Int64) (x5 : Int32) (μ : Mem), J C (KI C) μ 14 [(0, .ref (xad (cX C) 99)), (1, .ref (xad (cX C) p1)), (2, .int x2), (3, .long l3), (5, .int x5)] [] (L_X5_worstOf_14  n p1 x2 l3 x5 μ) := by
  intro n
  induction n with
  | zero => intros; exact J.no
  | succ n ih =>
    intro p1 h1 x2 l3 x5 μ
    rw [L_X5_worstOf_14]
    refine J.iload (j := 4) hC eX5_worstOf_14 rfl ?_
    refine J.aload_n (j := 1) hC eX5_worstOf_16 rfl ?_
    refine J.callVI (st := [.int x5]) hC eX5_worstOf_17 h1 (by decide) rfl rfl ml_X5_54 mv_X4_size (Rle_of (Nat.le_of_ble_eq_true rfl) (Nat.le_of_ble_eq_true rfl)) (c_X4_size hC.X p1 h1 μ) rfl rfl (Nat.le_of_ble_eq_true rfl) (fun r_2 μ_1 => ?_)
    refine J.icmp_ge hC eX5_worstOf_20 (fun _ => ?_) (fun _ => ?_)
    · refine J.iload_n (j := 2) hC eX5_worstOf_67 rfl ?_
      exact J.iret hC hr eX5_worstOf_68
    · refine J.aload_n (j := 0) hC eX5_worstOf_23 rfl ?_
      refine gf_X5_9 (q := 100) hC eX5_worstOf_24 kk_99 rfl ?_
      refine J.aload_n (j := 1) hC eX5_worstOf_27 rfl ?_
      refine J.iload (j := 4) hC eX5_worstOf_28 rfl ?_
      refine J.callVI (st := [.ref (xad (cX C) 100)]) hC eX5_worstOf_30 h1 (by decide) rfl rfl ml_X5_58 mv_X4_firstOf (Rle_of (Nat.le_of_ble_eq_true rfl) (Nat.le_of_ble_eq_true rfl)) (c_X4_firstOf hC.X p1 h1 x5 μ_1) rfl rfl (Nat.le_of_ble_eq_true rfl) (fun r_4 μ_3 => ?_)
      refine J.bipush hC eX5_worstOf_33 cb_17 ?_
      refine J.imul hC eX5_worstOf_35 ?_
      refine J.aload_n (j := 1) hC eX5_worstOf_36 rfl ?_
      refine J.iload (j := 4) hC eX5_worstOf_37 rfl ?_
      refine J.callVI (st := [.int (r_4 * (17 : Int32)), .ref (xad (cX C) 100)]) hC eX5_worstOf_39 h1 (by decide) rfl rfl ml_X5_62 mv_X4_lastOf (Rle_of (Nat.le_of_ble_eq_true rfl) (Nat.le_of_ble_eq_true rfl)) (c_X4_lastOf hC.X p1 h1 x5 μ_3) rfl rfl (Nat.le_of_ble_eq_true rfl) (fun r_6 μ_5 => ?_)
      refine J.iadd hC eX5_worstOf_42 ?_
      refine J.iconst hC eX5_worstOf_43 ci_1 ?_
      refine J.iadd hC eX5_worstOf_44 ?_
      refine J.lald il_289 hC eX5_worstOf_45 kk_100 ?_
      refine J.topl (fun l6_7 => ?_)
      refine J.lstore [(6, .long l6_7), (0, .ref (xad (cX C) 99)), (1, .ref (xad (cX C) p1)), (2, .int x2), (3, .long l3), (5, .int x5)] hC eX5_worstOf_46 (by decide) rfl ?_
      refine J.lload (j := 0) hC eX5_worstOf_48 rfl ?_
      refine J.lload_n (j := 4) hC eX5_worstOf_50 rfl ?_
      refine J.lcmp hC eX5_worstOf_51 ?_
      refine J.if_le hC eX5_worstOf_52 (fun _ => ?_) (fun _ => ?_)
      · refine J.sub [1, 2, 3, 4, 5] rfl ?_
        exact j_X5_worstOf_61 hC hr (L_X5_worstOf_14  n) ih p1 h1 x2 l3 x5 μ_5
      · refine J.lload (j := 0) hC eX5_worstOf_55 rfl ?_
        refine J.lstore_n [(3, .long l6_7), (6, .long l6_7), (0, .ref (xad (cX C) 99)), (1, .ref (xad (cX C) p1)), (2, .int x2), (5, .int x5)] hC eX5_worstOf_57 (by decide) rfl ?_
        refine J.iload (j := 5) hC eX5_worstOf_58 rfl ?_
        refine J.istore_n [(2, .int x5), (3, .long l6_7), (6, .long l6_7), (0, .ref (xad (cX C) 99)), (1, .ref (xad (cX C) p1)), (5, .int x5)] hC eX5_worstOf_60 (by decide) rfl ?_
        refine J.sub [3, 4, 0, 1, 5] rfl ?_
        exact j_X5_worstOf_61 hC hr (L_X5_worstOf_14  n) ih p1 h1 x5 l6_7 x5 μ_5
def G_X5_worstOf (p1 : Nat) (μ : Mem) : Option (Int32 × Mem) :=
  bd (G_X5_findErrors p1 μ) (fun r_2 μ_1 => L_X5_worstOf_14  100000 p1 (0 : Int32) (-1 : Int64) (0 : Int32) μ_1)
set_option maxHeartbeats 4000000 in
theorem c_X5_worstOf {X : Wd} (hX : WdOk X) (p1 : Nat) (h1 : kd p1 = 4) (μ : Mem) : CtI X yX5_worstOf cX5_worstOf 8 (some .int) (rmF 1 29) [.ref (xad X 99), .ref (xad X p1)] μ (G_X5_worstOf p1 μ) := by
  refine CtI.of hX (plainFor_of_name (by decide)) (by exact Nat.le_of_ble_eq_true rfl) ?_
  intro C hCX hC hr
  subst hCX
  show J C (KI C) μ 0 [(0, .ref (xad (cX C) 99)), (1, .ref (xad (cX C) p1))] [] _
  unfold G_X5_worstOf
  refine J.aload_n (j := 0) hC eX5_worstOf_0 rfl ?_
  refine J.aload_n (j := 1) hC eX5_worstOf_1 rfl ?_
  refine J.callVV (st := []) hC eX5_worstOf_2 kk_99 (by decide) rfl rfl ml_X5_22 mv_X5_findErrors (Rle_of (Nat.le_of_ble_eq_true rfl) (Nat.le_of_ble_eq_true rfl)) (c_X5_findErrors hC.X p1 h1 μ) rfl rfl (Nat.le_of_ble_eq_true rfl) (fun r_2 μ_1 => ?_)
  refine J.iconst hC eX5_worstOf_5 ci_0 ?_
  refine J.istore_n [(2, .int (0 : Int32)), (0, .ref (xad (cX C) 99)), (1, .ref (xad (cX C) p1))] hC eX5_worstOf_6 (by decide) rfl ?_
  refine J.ldc2 hC eX5_worstOf_7 mk_X5_52 ?_
  refine J.lstore_n [(3, .long (-1 : Int64)), (2, .int (0 : Int32)), (0, .ref (xad (cX C) 99)), (1, .ref (xad (cX C) p1))] hC eX5_worstOf_10 (by decide) rfl ?_
  refine J.iconst hC eX5_worstOf_11 ci_0 ?_
  refine J.istore [(5, .int (0 : Int32)), (3, .long (-1 : Int64)), (2, .int (0 : Int32)), (0, .ref (xad (cX C) 99)), (1, .ref (xad (cX C) p1))] hC eX5_worstOf_12 (by decide) rfl ?_
  refine J.sub [3, 4, 2, 1, 0] rfl ?_
  exact j_X5_worstOf_14 hC hr  100000 p1 h1 (0 : Int32) (-1 : Int64) (0 : Int32) μ_1
-- X6_forget
theorem eX6_forget_0 : DD cX6_forget 0 (.aload_n 0) 1 1 := ⟨by decide +kernel, rfl⟩
theorem eX6_forget_1 : DD cX6_forget 1 (.iconst 0) 1 2 := ⟨by decide +kernel, rfl⟩
theorem eX6_forget_2 : DD cX6_forget 2 (.putfield 17) 3 5 := ⟨by decide +kernel, rfl⟩
theorem eX6_forget_5 : DD cX6_forget 5 (.return_) 1 6 := ⟨by decide +kernel, rfl⟩
def G_X6_forget  (μ : Mem) : Option (Unit × Mem) :=
  lb (wI μ 65 1 (0 : Int32)) (fun μ_1 => some ((), μ_1))
set_option maxHeartbeats 4000000 in
theorem c_X6_forget {X : Wd} (hX : WdOk X)  (μ : Mem) : CtV X yX6_forget cX6_forget 1 none (rmF 0 0) [.ref (xad X 65)] μ (G_X6_forget  μ) := by
  refine CtV.of hX (plainFor_of_name (by decide)) (by exact Nat.le_of_ble_eq_true rfl) ?_
  intro C hCX hC hr
  subst hCX
  show J C (KV C) μ 0 [(0, .ref (xad (cX C) 65))] [] _
  unfold G_X6_forget
  refine J.aload_n (j := 0) hC eX6_forget_0 rfl ?_
  refine J.iconst hC eX6_forget_1 ci_0 ?_
  refine pf_X6_17 hC eX6_forget_2 kk_65 (fun μ_1 => ?_)
  exact J.vret hC hr eX6_forget_5
-- X6_open
theorem eX6_open_0 : DD cX6_open 0 (.aload_n 0) 1 1 := ⟨by decide +kernel, rfl⟩
theorem eX6_open_1 : DD cX6_open 1 (.aload_n 0) 1 2 := ⟨by decide +kernel, rfl⟩
theorem eX6_open_2 : DD cX6_open 2 (.getfield 21) 3 5 := ⟨by decide +kernel, rfl⟩
theorem eX6_open_5 : DD cX6_open 5 (.bipush 61) 2 7 := ⟨by decide +kernel, rfl⟩
theorem eX6_open_7 : DD cX6_open 7 (.iadd) 1 8 := ⟨by decide +kernel, rfl⟩
theorem eX6_open_8 : DD cX6_open 8 (.sipush 2440) 3 11 := ⟨by decide +kernel, rfl⟩
theorem eX6_open_11 : DD cX6_open 11 (.irem) 1 12 := ⟨by decide +kernel, rfl⟩
theorem eX6_open_12 : DD cX6_open 12 (.putfield 21) 3 15 := ⟨by decide +kernel, rfl⟩
theorem eX6_open_15 : DD cX6_open 15 (.aload_n 0) 1 16 := ⟨by decide +kernel, rfl⟩
theorem eX6_open_16 : DD cX6_open 16 (.aload_n 0) 1 17 := ⟨by decide +kernel, rfl⟩
theorem eX6_open_17 : DD cX6_open 17 (.getfield 17) 3 20 := ⟨by decide +kernel, rfl⟩
theorem eX6_open_20 : DD cX6_open 20 (.iconst 1) 1 21 := ⟨by decide +kernel, rfl⟩
theorem eX6_open_21 : DD cX6_open 21 (.iadd) 1 22 := ⟨by decide +kernel, rfl⟩
theorem eX6_open_22 : DD cX6_open 22 (.bipush 40) 2 24 := ⟨by decide +kernel, rfl⟩
theorem eX6_open_24 : DD cX6_open 24 (.invokestatic 24) 3 27 := ⟨by decide +kernel, rfl⟩
theorem eX6_open_27 : DD cX6_open 27 (.putfield 17) 3 30 := ⟨by decide +kernel, rfl⟩
theorem eX6_open_30 : DD cX6_open 30 (.aload_n 0) 1 31 := ⟨by decide +kernel, rfl⟩
theorem eX6_open_31 : DD cX6_open 31 (.getfield 13) 3 34 := ⟨by decide +kernel, rfl⟩
theorem eX6_open_34 : DD cX6_open 34 (.aload_n 0) 1 35 := ⟨by decide +kernel, rfl⟩
theorem eX6_open_35 : DD cX6_open 35 (.getfield 21) 3 38 := ⟨by decide +kernel, rfl⟩
theorem eX6_open_38 : DD cX6_open 38 (.iconst 0) 1 39 := ⟨by decide +kernel, rfl⟩
theorem eX6_open_39 : DD cX6_open 39 (.iadd) 1 40 := ⟨by decide +kernel, rfl⟩
theorem eX6_open_40 : DD cX6_open 40 (.iload_n 2) 1 41 := ⟨by decide +kernel, rfl⟩
theorem eX6_open_41 : DD cX6_open 41 (.iastore) 1 42 := ⟨by decide +kernel, rfl⟩
theorem eX6_open_42 : DD cX6_open 42 (.aload_n 0) 1 43 := ⟨by decide +kernel, rfl⟩
theorem eX6_open_43 : DD cX6_open 43 (.getfield 13) 3 46 := ⟨by decide +kernel, rfl⟩
theorem eX6_open_46 : DD cX6_open 46 (.aload_n 0) 1 47 := ⟨by decide +kernel, rfl⟩
theorem eX6_open_47 : DD cX6_open 47 (.getfield 21) 3 50 := ⟨by decide +kernel, rfl⟩
theorem eX6_open_50 : DD cX6_open 50 (.iconst 1) 1 51 := ⟨by decide +kernel, rfl⟩
theorem eX6_open_51 : DD cX6_open 51 (.iadd) 1 52 := ⟨by decide +kernel, rfl⟩
theorem eX6_open_52 : DD cX6_open 52 (.aload_n 1) 1 53 := ⟨by decide +kernel, rfl⟩
theorem eX6_open_53 : DD cX6_open 53 (.getfield 30) 3 56 := ⟨by decide +kernel, rfl⟩
theorem eX6_open_56 : DD cX6_open 56 (.iastore) 1 57 := ⟨by decide +kernel, rfl⟩
theorem eX6_open_57 : DD cX6_open 57 (.aload_n 0) 1 58 := ⟨by decide +kernel, rfl⟩
theorem eX6_open_58 : DD cX6_open 58 (.getfield 13) 3 61 := ⟨by decide +kernel, rfl⟩
theorem eX6_open_61 : DD cX6_open 61 (.aload_n 0) 1 62 := ⟨by decide +kernel, rfl⟩
theorem eX6_open_62 : DD cX6_open 62 (.getfield 21) 3 65 := ⟨by decide +kernel, rfl⟩
theorem eX6_open_65 : DD cX6_open 65 (.iconst 2) 1 66 := ⟨by decide +kernel, rfl⟩
theorem eX6_open_66 : DD cX6_open 66 (.iadd) 1 67 := ⟨by decide +kernel, rfl⟩
theorem eX6_open_67 : DD cX6_open 67 (.iconst 0) 1 68 := ⟨by decide +kernel, rfl⟩
theorem eX6_open_68 : DD cX6_open 68 (.iastore) 1 69 := ⟨by decide +kernel, rfl⟩
theorem eX6_open_69 : DD cX6_open 69 (.iconst 0) 1 70 := ⟨by decide +kernel, rfl⟩
theorem eX6_open_70 : DD cX6_open 70 (.istore_n 3) 1 71 := ⟨by decide +kernel, rfl⟩
theorem eX6_open_71 : DD cX6_open 71 (.iload_n 3) 1 72 := ⟨by decide +kernel, rfl⟩
theorem eX6_open_72 : DD cX6_open 72 (.iconst 2) 1 73 := ⟨by decide +kernel, rfl⟩
theorem eX6_open_73 : DB cX6_open 73 (.if_icmp .ge 54) (54) 76 127 := ⟨by decide +kernel, rfl, by decide⟩
theorem eX6_open_76 : DD cX6_open 76 (.iload_n 2) 1 77 := ⟨by decide +kernel, rfl⟩
theorem eX6_open_77 : DD cX6_open 77 (.iconst (-1)) 1 78 := ⟨by decide +kernel, rfl⟩
theorem eX6_open_78 : DB cX6_open 78 (.if_icmp .eq 49) (49) 81 127 := ⟨by decide +kernel, rfl, by decide⟩
theorem eX6_open_81 : DD cX6_open 81 (.aload_n 1) 1 82 := ⟨by decide +kernel, rfl⟩
theorem eX6_open_82 : DD cX6_open 82 (.getfield 35) 3 85 := ⟨by decide +kernel, rfl⟩
theorem eX6_open_85 : DD cX6_open 85 (.iload_n 2) 1 86 := ⟨by decide +kernel, rfl⟩
theorem eX6_open_86 : DD cX6_open 86 (.aaload) 1 87 := ⟨by decide +kernel, rfl⟩
theorem eX6_open_87 : DD cX6_open 87 (.getfield 39) 3 90 := ⟨by decide +kernel, rfl⟩
theorem eX6_open_90 : DD cX6_open 90 (.iload_n 3) 1 91 := ⟨by decide +kernel, rfl⟩
theorem eX6_open_91 : DD cX6_open 91 (.aaload) 1 92 := ⟨by decide +kernel, rfl⟩
theorem eX6_open_92 : DD cX6_open 92 (.getfield 45) 3 95 := ⟨by decide +kernel, rfl⟩
theorem eX6_open_95 : DD cX6_open 95 (.astore 4) 2 97 := ⟨by decide +kernel, rfl⟩
theorem eX6_open_97 : DD cX6_open 97 (.aload 4) 2 99 := ⟨by decide +kernel, rfl⟩
theorem eX6_open_99 : DD cX6_open 99 (.iconst 0) 1 100 := ⟨by decide +kernel, rfl⟩
theorem eX6_open_100 : DD cX6_open 100 (.aload_n 0) 1 101 := ⟨by decide +kernel, rfl⟩
theorem eX6_open_101 : DD cX6_open 101 (.getfield 13) 3 104 := ⟨by decide +kernel, rfl⟩
theorem eX6_open_104 : DD cX6_open 104 (.aload_n 0) 1 105 := ⟨by decide +kernel, rfl⟩
theorem eX6_open_105 : DD cX6_open 105 (.getfield 21) 3 108 := ⟨by decide +kernel, rfl⟩
theorem eX6_open_108 : DD cX6_open 108 (.bipush 9) 2 110 := ⟨by decide +kernel, rfl⟩
theorem eX6_open_110 : DD cX6_open 110 (.iadd) 1 111 := ⟨by decide +kernel, rfl⟩
theorem eX6_open_111 : DD cX6_open 111 (.iload_n 3) 1 112 := ⟨by decide +kernel, rfl⟩
theorem eX6_open_112 : DD cX6_open 112 (.bipush 26) 2 114 := ⟨by decide +kernel, rfl⟩
theorem eX6_open_114 : DD cX6_open 114 (.imul) 1 115 := ⟨by decide +kernel, rfl⟩
theorem eX6_open_115 : DD cX6_open 115 (.iadd) 1 116 := ⟨by decide +kernel, rfl⟩
theorem eX6_open_116 : DD cX6_open 116 (.bipush 26) 2 118 := ⟨by decide +kernel, rfl⟩
theorem eX6_open_118 : DD cX6_open 118 (.invokestatic 48) 3 121 := ⟨by decide +kernel, rfl⟩
theorem eX6_open_121 : DD cX6_open 121 (.iinc 3 1) 3 124 := ⟨by decide +kernel, rfl⟩
theorem eX6_open_124 : DB cX6_open 124 (.goto (-53)) (-53) 127 71 := ⟨by decide +kernel, rfl, by decide⟩
theorem eX6_open_127 : DD cX6_open 127 (.return_) 1 128 := ⟨by decide +kernel, rfl⟩
def L_X6_open_71 : Nat → Nat → Int32 → Int32 → Mem → Option (Unit × Mem)
  | 0, _, _, _, _ => none
  | n + 1, p1, x2, x3, μ => if (2 : Int32) ≤ x3 then some ((), μ) else if x2 = (-1 : Int32) then some ((), μ) else gq (inB x2 3) (gq (inB x3 2) (gq (cpB (0 : Int32) (((rI μ 65 2) + (9 : Int32)) + (x3 * (26 : Int32))) (26 : Int32) 26 2440) (lb (wC μ ((lnP ((shP (p1 + 1) x2) + 2) x3) + 2) (nx (0 : Int32)) 66 (nx (((rI μ 65 2) + (9 : Int32)) + (x3 * (26 : Int32)))) (nx (26 : Int32))) (fun μ_3 => lb (x3 + (1 : Int32)) (fun x3_4 => L_X6_open_71  n p1 x2 x3_4 μ_3)))))
set_option maxHeartbeats 4000000 in
theorem j_X6_open_71 {C : Cx} (hC : Ok C cX6_open 5 RX6 (rmF 1 23)) (hr : (cT C).sig.returnType = none) : ∀ (n : Nat) (p1 : Nat) (h1 : kd p1 = 0) (x2 : Int32) (x3 : Int32) (μ : Mem), J C (KV C) μ 71 [(0, .ref (xad (cX C) 65)), (1, .ref (xad (cX C) p1)), (2, .int x2), (3, .int x3)] [] (L_X6_open_71  n p1 x2 x3 μ) := by
  intro n
  induction n with
  | zero => intros; exact J.no
  | succ n ih =>
    intro p1 h1 x2 x3 μ
    rw [L_X6_open_71]
    refine J.iload_n (j := 3) hC eX6_open_71 rfl ?_
    refine J.iconst hC eX6_open_72 ci_2 ?_
    refine J.icmp_ge hC eX6_open_73 (fun _ => ?_) (fun _ => ?_)
    · exact J.vret hC hr eX6_open_127
    · refine J.iload_n (j := 2) hC eX6_open_76 rfl ?_
      refine J.iconst hC eX6_open_77 ci_m1 ?_
      refine J.icmp_eq hC eX6_open_78 (fun _ => ?_) (fun _ => ?_)
      · exact J.vret hC hr eX6_open_127
      · refine J.aload_n (j := 1) hC eX6_open_81 rfl ?_
        refine gf_X6_35 (q := p1 + 1) hC eX6_open_82 h1 rfl ?_
        refine J.iload_n (j := 2) hC eX6_open_85 rfl ?_
        refine J.aaldS hC eX6_open_86 (kf_X0_sheets h1) (fun hq_1 => ?_)
        refine gf_X6_39 (q := (shP (p1 + 1) x2) + 2) hC eX6_open_87 hq_1 rfl ?_
        refine J.iload_n (j := 3) hC eX6_open_90 rfl ?_
        refine J.aaldL hC eX6_open_91 (kf_X7_lanes hq_1) (fun hq_2 => ?_)
        refine gf_X6_45 (q := (lnP ((shP (p1 + 1) x2) + 2) x3) + 2) hC eX6_open_92 hq_2 rfl ?_
        refine J.astore [(4, .ref (xad (cX C) ((lnP ((shP (p1 + 1) x2) + 2) x3) + 2))), (0, .ref (xad (cX C) 65)), (1, .ref (xad (cX C) p1)), (2, .int x2), (3, .int x3)] hC eX6_open_95 (by decide) rfl ?_
        refine J.aload (j := 0) hC eX6_open_97 rfl ?_
        refine J.iconst hC eX6_open_99 ci_0 ?_
        refine J.aload_n (j := 1) hC eX6_open_100 rfl ?_
        refine gf_X6_13 (q := 66) hC eX6_open_101 kk_65 rfl ?_
        refine J.aload_n (j := 1) hC eX6_open_104 rfl ?_
        refine gf_X6_21 hC eX6_open_105 kk_65 ?_
        refine J.bipush hC eX6_open_108 cb_9 ?_
        refine J.iadd hC eX6_open_110 ?_
        refine J.iload_n (j := 4) hC eX6_open_111 rfl ?_
        refine J.bipush hC eX6_open_112 cb_26 ?_
        refine J.imul hC eX6_open_114 ?_
        refine J.iadd hC eX6_open_115 ?_
        refine J.bipush hC eX6_open_116 cb_26 ?_
        refine J.acpy ik_26 ik_2440 hC eX6_open_118 (kf_X4_state hq_2) kk_66 ml_X6_48 w_an w_as w_is (Nat.le_of_ble_eq_true rfl) (Nat.le_of_ble_eq_true rfl) (fun μ_3 => ?_)
        refine J.iinc (j := 4) (fun x3_4 => [(3, .int x3_4), (4, .ref (xad (cX C) ((lnP ((shP (p1 + 1) x2) + 2) x3) + 2))), (0, .ref (xad (cX C) 65)), (1, .ref (xad (cX C) p1)), (2, .int x2)]) hC eX6_open_121 rfl ci_1 (by decide) (fun _ => rfl) (fun x3_4 => ?_)
        refine J.goto hC eX6_open_124 ?_
        refine J.sub [2, 3, 4, 0] rfl ?_
        exact ih p1 h1 x2 x3_4 μ_3
def G_X6_open (p1 : Nat) (x2 : Int32) (μ : Mem) : Option (Unit × Mem) :=
  lb (wI μ 65 2 (((rI μ 65 2) + (61 : Int32)) - ((rI μ 65 2) + (61 : Int32)) / (2440 : Int32) * (2440 : Int32))) (fun μ_1 => lb (wI μ_1 65 1 (imin ((rI μ_1 65 1) + (1 : Int32)) (40 : Int32))) (fun μ_2 => gq (inB ((rI μ_2 65 2) + (0 : Int32)) 2440) (lb (wI μ_2 66 (nx ((rI μ_2 65 2) + (0 : Int32))) x2) (fun μ_3 => gq (inB ((rI μ_3 65 2) + (1 : Int32)) 2440) (lb (wI μ_3 66 (nx ((rI μ_3 65 2) + (1 : Int32))) (rI μ_3 p1 5)) (fun μ_4 => gq (inB ((rI μ_4 65 2) + (2 : Int32)) 2440) (lb (wI μ_4 66 (nx ((rI μ_4 65 2) + (2 : Int32))) (0 : Int32)) (fun μ_5 => L_X6_open_71  100000 p1 x2 (0 : Int32) μ_5))))))))
set_option maxHeartbeats 4000000 in
theorem c_X6_open {X : Wd} (hX : WdOk X) (p1 : Nat) (h1 : kd p1 = 0) (x2 : Int32) (μ : Mem) : CtV X yX6_open cX6_open 5 none (rmF 1 23) [.ref (xad X 65), .ref (xad X p1), .int x2] μ (G_X6_open p1 x2 μ) := by
  refine CtV.of hX (plainFor_of_name (by decide)) (by exact Nat.le_of_ble_eq_true rfl) ?_
  intro C hCX hC hr
  subst hCX
  show J C (KV C) μ 0 [(0, .ref (xad (cX C) 65)), (1, .ref (xad (cX C) p1)), (2, .int x2)] [] _
  unfold G_X6_open
  refine J.aload_n (j := 0) hC eX6_open_0 rfl ?_
  refine J.aload_n (j := 0) hC eX6_open_1 rfl ?_
  refine gf_X6_21 hC eX6_open_2 kk_65 ?_
  refine J.bipush hC eX6_open_5 cb_61 ?_
  refine J.iadd hC eX6_open_7 ?_
  refine J.sipush hC eX6_open_8 cs_2440 ?_
  refine J.iremK hC eX6_open_11 (by decide) ?_
  refine pf_X6_21 hC eX6_open_12 kk_65 (fun μ_1 => ?_)
  refine J.aload_n (j := 0) hC eX6_open_15 rfl ?_
  refine J.aload_n (j := 0) hC eX6_open_16 rfl ?_
  refine gf_X6_17 hC eX6_open_17 kk_65 ?_
  refine J.iconst hC eX6_open_20 ci_1 ?_
  refine J.iadd hC eX6_open_21 ?_
  refine J.bipush hC eX6_open_22 cb_40 ?_
  refine J.mmin hC eX6_open_24 ml_X6_24 w_smin w_im w_cmin (Nat.le_of_ble_eq_true rfl) (Nat.le_of_ble_eq_true rfl) ?_
  refine pf_X6_17 hC eX6_open_27 kk_65 (fun μ_2 => ?_)
  refine J.aload_n (j := 0) hC eX6_open_30 rfl ?_
  refine gf_X6_13 (q := 66) hC eX6_open_31 kk_65 rfl ?_
  refine J.aload_n (j := 0) hC eX6_open_34 rfl ?_
  refine gf_X6_21 hC eX6_open_35 kk_65 ?_
  refine J.iconst hC eX6_open_38 ci_0 ?_
  refine J.iadd hC eX6_open_39 ?_
  refine J.iload_n (j := 2) hC eX6_open_40 rfl ?_
  refine J.iast ik_2440 hC eX6_open_41 kk_66 (fun μ_3 => ?_)
  refine J.aload_n (j := 0) hC eX6_open_42 rfl ?_
  refine gf_X6_13 (q := 66) hC eX6_open_43 kk_65 rfl ?_
  refine J.aload_n (j := 0) hC eX6_open_46 rfl ?_
  refine gf_X6_21 hC eX6_open_47 kk_65 ?_
  refine J.iconst hC eX6_open_50 ci_1 ?_
  refine J.iadd hC eX6_open_51 ?_
  refine J.aload_n (j := 1) hC eX6_open_52 rfl ?_
  refine gf_X6_30 hC eX6_open_53 h1 ?_
  refine J.iast ik_2440 hC eX6_open_56 kk_66 (fun μ_4 => ?_)
  refine J.aload_n (j := 0) hC eX6_open_57 rfl ?_
  refine gf_X6_13 (q := 66) hC eX6_open_58 kk_65 rfl ?_
  refine J.aload_n (j := 0) hC eX6_open_61 rfl ?_
  refine gf_X6_21 hC eX6_open_62 kk_65 ?_
  refine J.iconst hC eX6_open_65 ci_2 ?_
  refine J.iadd hC eX6_open_66 ?_
  refine J.iconst hC eX6_open_67 ci_0 ?_
  refine J.iast ik_2440 hC eX6_open_68 kk_66 (fun μ_5 => ?_)
  refine J.iconst hC eX6_open_69 ci_0 ?_
  refine J.istore_n [(3, .int (0 : Int32)), (0, .ref (xad (cX C) 65)), (1, .ref (xad (cX C) p1)), (2, .int x2)] hC eX6_open_70 (by decide) rfl ?_
  refine J.sub [1, 2, 3, 0] rfl ?_
  exact j_X6_open_71 hC hr  100000 p1 h1 x2 (0 : Int32) μ_5
-- X6_noteRows
theorem eX6_noteRows_0 : DD cX6_noteRows 0 (.aload_n 0) 1 1 := ⟨by decide +kernel, rfl⟩
theorem eX6_noteRows_1 : DD cX6_noteRows 1 (.getfield 13) 3 4 := ⟨by decide +kernel, rfl⟩
theorem eX6_noteRows_4 : DD cX6_noteRows 4 (.aload_n 0) 1 5 := ⟨by decide +kernel, rfl⟩
theorem eX6_noteRows_5 : DD cX6_noteRows 5 (.getfield 21) 3 8 := ⟨by decide +kernel, rfl⟩
theorem eX6_noteRows_8 : DD cX6_noteRows 8 (.iconst 2) 1 9 := ⟨by decide +kernel, rfl⟩
theorem eX6_noteRows_9 : DD cX6_noteRows 9 (.iadd) 1 10 := ⟨by decide +kernel, rfl⟩
theorem eX6_noteRows_10 : DD cX6_noteRows 10 (.iaload) 1 11 := ⟨by decide +kernel, rfl⟩
theorem eX6_noteRows_11 : DD cX6_noteRows 11 (.istore 4) 2 13 := ⟨by decide +kernel, rfl⟩
theorem eX6_noteRows_13 : DD cX6_noteRows 13 (.iload 4) 2 15 := ⟨by decide +kernel, rfl⟩
theorem eX6_noteRows_15 : DD cX6_noteRows 15 (.iconst 2) 1 16 := ⟨by decide +kernel, rfl⟩
theorem eX6_noteRows_16 : DB cX6_noteRows 16 (.if_icmp .ge 59) (59) 19 75 := ⟨by decide +kernel, rfl, by decide⟩
theorem eX6_noteRows_19 : DD cX6_noteRows 19 (.aload_n 0) 1 20 := ⟨by decide +kernel, rfl⟩
theorem eX6_noteRows_20 : DD cX6_noteRows 20 (.getfield 21) 3 23 := ⟨by decide +kernel, rfl⟩
theorem eX6_noteRows_23 : DD cX6_noteRows 23 (.iconst 3) 1 24 := ⟨by decide +kernel, rfl⟩
theorem eX6_noteRows_24 : DD cX6_noteRows 24 (.iadd) 1 25 := ⟨by decide +kernel, rfl⟩
theorem eX6_noteRows_25 : DD cX6_noteRows 25 (.iload 4) 2 27 := ⟨by decide +kernel, rfl⟩
theorem eX6_noteRows_27 : DD cX6_noteRows 27 (.iconst 3) 1 28 := ⟨by decide +kernel, rfl⟩
theorem eX6_noteRows_28 : DD cX6_noteRows 28 (.imul) 1 29 := ⟨by decide +kernel, rfl⟩
theorem eX6_noteRows_29 : DD cX6_noteRows 29 (.iadd) 1 30 := ⟨by decide +kernel, rfl⟩
theorem eX6_noteRows_30 : DD cX6_noteRows 30 (.istore 5) 2 32 := ⟨by decide +kernel, rfl⟩
theorem eX6_noteRows_32 : DD cX6_noteRows 32 (.aload_n 0) 1 33 := ⟨by decide +kernel, rfl⟩
theorem eX6_noteRows_33 : DD cX6_noteRows 33 (.getfield 13) 3 36 := ⟨by decide +kernel, rfl⟩
theorem eX6_noteRows_36 : DD cX6_noteRows 36 (.iload 5) 2 38 := ⟨by decide +kernel, rfl⟩
theorem eX6_noteRows_38 : DD cX6_noteRows 38 (.iload_n 1) 1 39 := ⟨by decide +kernel, rfl⟩
theorem eX6_noteRows_39 : DD cX6_noteRows 39 (.iastore) 1 40 := ⟨by decide +kernel, rfl⟩
theorem eX6_noteRows_40 : DD cX6_noteRows 40 (.aload_n 0) 1 41 := ⟨by decide +kernel, rfl⟩
theorem eX6_noteRows_41 : DD cX6_noteRows 41 (.getfield 13) 3 44 := ⟨by decide +kernel, rfl⟩
theorem eX6_noteRows_44 : DD cX6_noteRows 44 (.iload 5) 2 46 := ⟨by decide +kernel, rfl⟩
theorem eX6_noteRows_46 : DD cX6_noteRows 46 (.iconst 1) 1 47 := ⟨by decide +kernel, rfl⟩
theorem eX6_noteRows_47 : DD cX6_noteRows 47 (.iadd) 1 48 := ⟨by decide +kernel, rfl⟩
theorem eX6_noteRows_48 : DD cX6_noteRows 48 (.iload_n 2) 1 49 := ⟨by decide +kernel, rfl⟩
theorem eX6_noteRows_49 : DD cX6_noteRows 49 (.iastore) 1 50 := ⟨by decide +kernel, rfl⟩
theorem eX6_noteRows_50 : DD cX6_noteRows 50 (.aload_n 0) 1 51 := ⟨by decide +kernel, rfl⟩
theorem eX6_noteRows_51 : DD cX6_noteRows 51 (.getfield 13) 3 54 := ⟨by decide +kernel, rfl⟩
theorem eX6_noteRows_54 : DD cX6_noteRows 54 (.iload 5) 2 56 := ⟨by decide +kernel, rfl⟩
theorem eX6_noteRows_56 : DD cX6_noteRows 56 (.iconst 2) 1 57 := ⟨by decide +kernel, rfl⟩
theorem eX6_noteRows_57 : DD cX6_noteRows 57 (.iadd) 1 58 := ⟨by decide +kernel, rfl⟩
theorem eX6_noteRows_58 : DD cX6_noteRows 58 (.iload_n 3) 1 59 := ⟨by decide +kernel, rfl⟩
theorem eX6_noteRows_59 : DD cX6_noteRows 59 (.iastore) 1 60 := ⟨by decide +kernel, rfl⟩
theorem eX6_noteRows_60 : DD cX6_noteRows 60 (.aload_n 0) 1 61 := ⟨by decide +kernel, rfl⟩
theorem eX6_noteRows_61 : DD cX6_noteRows 61 (.getfield 13) 3 64 := ⟨by decide +kernel, rfl⟩
theorem eX6_noteRows_64 : DD cX6_noteRows 64 (.aload_n 0) 1 65 := ⟨by decide +kernel, rfl⟩
theorem eX6_noteRows_65 : DD cX6_noteRows 65 (.getfield 21) 3 68 := ⟨by decide +kernel, rfl⟩
theorem eX6_noteRows_68 : DD cX6_noteRows 68 (.iconst 2) 1 69 := ⟨by decide +kernel, rfl⟩
theorem eX6_noteRows_69 : DD cX6_noteRows 69 (.iadd) 1 70 := ⟨by decide +kernel, rfl⟩
theorem eX6_noteRows_70 : DD cX6_noteRows 70 (.iload 4) 2 72 := ⟨by decide +kernel, rfl⟩
theorem eX6_noteRows_72 : DD cX6_noteRows 72 (.iconst 1) 1 73 := ⟨by decide +kernel, rfl⟩
theorem eX6_noteRows_73 : DD cX6_noteRows 73 (.iadd) 1 74 := ⟨by decide +kernel, rfl⟩
theorem eX6_noteRows_74 : DD cX6_noteRows 74 (.iastore) 1 75 := ⟨by decide +kernel, rfl⟩
theorem eX6_noteRows_75 : DD cX6_noteRows 75 (.return_) 1 76 := ⟨by decide +kernel, rfl⟩
def G_X6_noteRows (x1 : Int32) (x2 : Int32) (x3 : Int32) (μ : Mem) : Option (Unit × Mem) :=
  gq (inB ((rI μ 65 2) + (2 : Int32)) 2440) (lb (rI μ 66 (nx ((rI μ 65 2) + (2 : Int32)))) (fun x4_1 => if (2 : Int32) ≤ x4_1 then some ((), μ) else lb (((rI μ 65 2) + (3 : Int32)) + (x4_1 * (3 : Int32))) (fun x5_2 => gq (inB x5_2 2440) (lb (wI μ 66 (nx x5_2) x1) (fun μ_3 => gq (inB (x5_2 + (1 : Int32)) 2440) (lb (wI μ_3 66 (nx (x5_2 + (1 : Int32))) x2) (fun μ_4 => gq (inB (x5_2 + (2 : Int32)) 2440) (lb (wI μ_4 66 (nx (x5_2 + (2 : Int32))) x3) (fun μ_5 => gq (inB ((rI μ_5 65 2) + (2 : Int32)) 2440) (lb (wI μ_5 66 (nx ((rI μ_5 65 2) + (2 : Int32))) (x4_1 + (1 : Int32))) (fun μ_6 => some ((), μ_6))))))))))))
set_option maxHeartbeats 4000000 in
theorem c_X6_noteRows {X : Wd} (hX : WdOk X) (x1 : Int32) (x2 : Int32) (x3 : Int32) (μ : Mem) : CtV X yX6_noteRows cX6_noteRows 6 none (rmF 0 0) [.ref (xad X 65), .int x1, .int x2, .int x3] μ (G_X6_noteRows x1 x2 x3 μ) := by
  refine CtV.of hX (plainFor_of_name (by decide)) (by exact Nat.le_of_ble_eq_true rfl) ?_
  intro C hCX hC hr
  subst hCX
  show J C (KV C) μ 0 [(0, .ref (xad (cX C) 65)), (1, .int x1), (2, .int x2), (3, .int x3)] [] _
  unfold G_X6_noteRows
  refine J.aload_n (j := 0) hC eX6_noteRows_0 rfl ?_
  refine gf_X6_13 (q := 66) hC eX6_noteRows_1 kk_65 rfl ?_
  refine J.aload_n (j := 0) hC eX6_noteRows_4 rfl ?_
  refine gf_X6_21 hC eX6_noteRows_5 kk_65 ?_
  refine J.iconst hC eX6_noteRows_8 ci_2 ?_
  refine J.iadd hC eX6_noteRows_9 ?_
  refine J.iald ik_2440 hC eX6_noteRows_10 kk_66 ?_
  refine J.topi (fun x4_1 => ?_)
  refine J.istore [(4, .int x4_1), (0, .ref (xad (cX C) 65)), (1, .int x1), (2, .int x2), (3, .int x3)] hC eX6_noteRows_11 (by decide) rfl ?_
  refine J.iload (j := 0) hC eX6_noteRows_13 rfl ?_
  refine J.iconst hC eX6_noteRows_15 ci_2 ?_
  refine J.icmp_ge hC eX6_noteRows_16 (fun _ => ?_) (fun _ => ?_)
  · exact J.vret hC hr eX6_noteRows_75
  · refine J.aload_n (j := 1) hC eX6_noteRows_19 rfl ?_
    refine gf_X6_21 hC eX6_noteRows_20 kk_65 ?_
    refine J.iconst hC eX6_noteRows_23 ci_3 ?_
    refine J.iadd hC eX6_noteRows_24 ?_
    refine J.iload (j := 0) hC eX6_noteRows_25 rfl ?_
    refine J.iconst hC eX6_noteRows_27 ci_3 ?_
    refine J.imul hC eX6_noteRows_28 ?_
    refine J.iadd hC eX6_noteRows_29 ?_
    refine J.topi (fun x5_2 => ?_)
    refine J.istore [(5, .int x5_2), (4, .int x4_1), (0, .ref (xad (cX C) 65)), (1, .int x1), (2, .int x2), (3, .int x3)] hC eX6_noteRows_30 (by decide) rfl ?_
    refine J.aload_n (j := 2) hC eX6_noteRows_32 rfl ?_
    refine gf_X6_13 (q := 66) hC eX6_noteRows_33 kk_65 rfl ?_
    refine J.iload (j := 0) hC eX6_noteRows_36 rfl ?_
    refine J.iload_n (j := 3) hC eX6_noteRows_38 rfl ?_
    refine J.iast ik_2440 hC eX6_noteRows_39 kk_66 (fun μ_3 => ?_)
    refine J.aload_n (j := 2) hC eX6_noteRows_40 rfl ?_
    refine gf_X6_13 (q := 66) hC eX6_noteRows_41 kk_65 rfl ?_
    refine J.iload (j := 0) hC eX6_noteRows_44 rfl ?_
    refine J.iconst hC eX6_noteRows_46 ci_1 ?_
    refine J.iadd hC eX6_noteRows_47 ?_
    refine J.iload_n (j := 4) hC eX6_noteRows_48 rfl ?_
    refine J.iast ik_2440 hC eX6_noteRows_49 kk_66 (fun μ_4 => ?_)
    refine J.aload_n (j := 2) hC eX6_noteRows_50 rfl ?_
    refine gf_X6_13 (q := 66) hC eX6_noteRows_51 kk_65 rfl ?_
    refine J.iload (j := 0) hC eX6_noteRows_54 rfl ?_
    refine J.iconst hC eX6_noteRows_56 ci_2 ?_
    refine J.iadd hC eX6_noteRows_57 ?_
    refine J.iload_n (j := 5) hC eX6_noteRows_58 rfl ?_
    refine J.iast ik_2440 hC eX6_noteRows_59 kk_66 (fun μ_5 => ?_)
    refine J.aload_n (j := 2) hC eX6_noteRows_60 rfl ?_
    refine gf_X6_13 (q := 66) hC eX6_noteRows_61 kk_65 rfl ?_
    refine J.aload_n (j := 2) hC eX6_noteRows_64 rfl ?_
    refine gf_X6_21 hC eX6_noteRows_65 kk_65 ?_
    refine J.iconst hC eX6_noteRows_68 ci_2 ?_
    refine J.iadd hC eX6_noteRows_69 ?_
    refine J.iload (j := 1) hC eX6_noteRows_70 rfl ?_
    refine J.iconst hC eX6_noteRows_72 ci_1 ?_
    refine J.iadd hC eX6_noteRows_73 ?_
    refine J.iast ik_2440 hC eX6_noteRows_74 kk_66 (fun μ_6 => ?_)
    exact J.vret hC hr eX6_noteRows_75
-- X6_restore
theorem eX6_restore_0 : DD cX6_restore 0 (.iconst 0) 1 1 := ⟨by decide +kernel, rfl⟩
theorem eX6_restore_1 : DD cX6_restore 1 (.istore_n 2) 1 2 := ⟨by decide +kernel, rfl⟩
theorem eX6_restore_2 : DD cX6_restore 2 (.iload_n 2) 1 3 := ⟨by decide +kernel, rfl⟩
theorem eX6_restore_3 : DD cX6_restore 3 (.aload_n 0) 1 4 := ⟨by decide +kernel, rfl⟩
theorem eX6_restore_4 : DD cX6_restore 4 (.getfield 13) 3 7 := ⟨by decide +kernel, rfl⟩
theorem eX6_restore_7 : DD cX6_restore 7 (.aload_n 0) 1 8 := ⟨by decide +kernel, rfl⟩
theorem eX6_restore_8 : DD cX6_restore 8 (.getfield 21) 3 11 := ⟨by decide +kernel, rfl⟩
theorem eX6_restore_11 : DD cX6_restore 11 (.iconst 2) 1 12 := ⟨by decide +kernel, rfl⟩
theorem eX6_restore_12 : DD cX6_restore 12 (.iadd) 1 13 := ⟨by decide +kernel, rfl⟩
theorem eX6_restore_13 : DD cX6_restore 13 (.iaload) 1 14 := ⟨by decide +kernel, rfl⟩
theorem eX6_restore_14 : DB cX6_restore 14 (.if_icmp .ge 47) (47) 17 61 := ⟨by decide +kernel, rfl, by decide⟩
theorem eX6_restore_17 : DD cX6_restore 17 (.aload_n 0) 1 18 := ⟨by decide +kernel, rfl⟩
theorem eX6_restore_18 : DD cX6_restore 18 (.getfield 21) 3 21 := ⟨by decide +kernel, rfl⟩
theorem eX6_restore_21 : DD cX6_restore 21 (.iconst 3) 1 22 := ⟨by decide +kernel, rfl⟩
theorem eX6_restore_22 : DD cX6_restore 22 (.iadd) 1 23 := ⟨by decide +kernel, rfl⟩
theorem eX6_restore_23 : DD cX6_restore 23 (.iload_n 2) 1 24 := ⟨by decide +kernel, rfl⟩
theorem eX6_restore_24 : DD cX6_restore 24 (.iconst 3) 1 25 := ⟨by decide +kernel, rfl⟩
theorem eX6_restore_25 : DD cX6_restore 25 (.imul) 1 26 := ⟨by decide +kernel, rfl⟩
theorem eX6_restore_26 : DD cX6_restore 26 (.iadd) 1 27 := ⟨by decide +kernel, rfl⟩
theorem eX6_restore_27 : DD cX6_restore 27 (.istore_n 3) 1 28 := ⟨by decide +kernel, rfl⟩
theorem eX6_restore_28 : DD cX6_restore 28 (.aload_n 1) 1 29 := ⟨by decide +kernel, rfl⟩
theorem eX6_restore_29 : DD cX6_restore 29 (.aload_n 0) 1 30 := ⟨by decide +kernel, rfl⟩
theorem eX6_restore_30 : DD cX6_restore 30 (.getfield 13) 3 33 := ⟨by decide +kernel, rfl⟩
theorem eX6_restore_33 : DD cX6_restore 33 (.iload_n 3) 1 34 := ⟨by decide +kernel, rfl⟩
theorem eX6_restore_34 : DD cX6_restore 34 (.iaload) 1 35 := ⟨by decide +kernel, rfl⟩
theorem eX6_restore_35 : DD cX6_restore 35 (.aload_n 0) 1 36 := ⟨by decide +kernel, rfl⟩
theorem eX6_restore_36 : DD cX6_restore 36 (.getfield 13) 3 39 := ⟨by decide +kernel, rfl⟩
theorem eX6_restore_39 : DD cX6_restore 39 (.iload_n 3) 1 40 := ⟨by decide +kernel, rfl⟩
theorem eX6_restore_40 : DD cX6_restore 40 (.iconst 1) 1 41 := ⟨by decide +kernel, rfl⟩
theorem eX6_restore_41 : DD cX6_restore 41 (.iadd) 1 42 := ⟨by decide +kernel, rfl⟩
theorem eX6_restore_42 : DD cX6_restore 42 (.iaload) 1 43 := ⟨by decide +kernel, rfl⟩
theorem eX6_restore_43 : DD cX6_restore 43 (.aload_n 0) 1 44 := ⟨by decide +kernel, rfl⟩
theorem eX6_restore_44 : DD cX6_restore 44 (.getfield 13) 3 47 := ⟨by decide +kernel, rfl⟩
theorem eX6_restore_47 : DD cX6_restore 47 (.iload_n 3) 1 48 := ⟨by decide +kernel, rfl⟩
theorem eX6_restore_48 : DD cX6_restore 48 (.iconst 2) 1 49 := ⟨by decide +kernel, rfl⟩
theorem eX6_restore_49 : DD cX6_restore 49 (.iadd) 1 50 := ⟨by decide +kernel, rfl⟩
theorem eX6_restore_50 : DD cX6_restore 50 (.iaload) 1 51 := ⟨by decide +kernel, rfl⟩
theorem eX6_restore_51 : DD cX6_restore 51 (.ineg) 1 52 := ⟨by decide +kernel, rfl⟩
theorem eX6_restore_52 : DD cX6_restore 52 (.invokevirtual 67) 3 55 := ⟨by decide +kernel, rfl⟩
theorem eX6_restore_55 : DD cX6_restore 55 (.iinc 2 1) 3 58 := ⟨by decide +kernel, rfl⟩
theorem eX6_restore_58 : DB cX6_restore 58 (.goto (-56)) (-56) 61 2 := ⟨by decide +kernel, rfl, by decide⟩
theorem eX6_restore_61 : DD cX6_restore 61 (.iconst 0) 1 62 := ⟨by decide +kernel, rfl⟩
theorem eX6_restore_62 : DD cX6_restore 62 (.istore_n 2) 1 63 := ⟨by decide +kernel, rfl⟩
theorem eX6_restore_63 : DD cX6_restore 63 (.iload_n 2) 1 64 := ⟨by decide +kernel, rfl⟩
theorem eX6_restore_64 : DD cX6_restore 64 (.iconst 2) 1 65 := ⟨by decide +kernel, rfl⟩
theorem eX6_restore_65 : DB cX6_restore 65 (.if_icmp .ge 42) (42) 68 107 := ⟨by decide +kernel, rfl, by decide⟩
theorem eX6_restore_68 : DD cX6_restore 68 (.aload_n 0) 1 69 := ⟨by decide +kernel, rfl⟩
theorem eX6_restore_69 : DD cX6_restore 69 (.getfield 21) 3 72 := ⟨by decide +kernel, rfl⟩
theorem eX6_restore_72 : DD cX6_restore 72 (.bipush 9) 2 74 := ⟨by decide +kernel, rfl⟩
theorem eX6_restore_74 : DD cX6_restore 74 (.iadd) 1 75 := ⟨by decide +kernel, rfl⟩
theorem eX6_restore_75 : DD cX6_restore 75 (.iload_n 2) 1 76 := ⟨by decide +kernel, rfl⟩
theorem eX6_restore_76 : DD cX6_restore 76 (.bipush 26) 2 78 := ⟨by decide +kernel, rfl⟩
theorem eX6_restore_78 : DD cX6_restore 78 (.imul) 1 79 := ⟨by decide +kernel, rfl⟩
theorem eX6_restore_79 : DD cX6_restore 79 (.iadd) 1 80 := ⟨by decide +kernel, rfl⟩
theorem eX6_restore_80 : DD cX6_restore 80 (.istore_n 3) 1 81 := ⟨by decide +kernel, rfl⟩
theorem eX6_restore_81 : DD cX6_restore 81 (.aload_n 0) 1 82 := ⟨by decide +kernel, rfl⟩
theorem eX6_restore_82 : DD cX6_restore 82 (.getfield 13) 3 85 := ⟨by decide +kernel, rfl⟩
theorem eX6_restore_85 : DD cX6_restore 85 (.iload_n 3) 1 86 := ⟨by decide +kernel, rfl⟩
theorem eX6_restore_86 : DD cX6_restore 86 (.aload_n 1) 1 87 := ⟨by decide +kernel, rfl⟩
theorem eX6_restore_87 : DD cX6_restore 87 (.getfield 39) 3 90 := ⟨by decide +kernel, rfl⟩
theorem eX6_restore_90 : DD cX6_restore 90 (.iload_n 2) 1 91 := ⟨by decide +kernel, rfl⟩
theorem eX6_restore_91 : DD cX6_restore 91 (.aaload) 1 92 := ⟨by decide +kernel, rfl⟩
theorem eX6_restore_92 : DD cX6_restore 92 (.getfield 45) 3 95 := ⟨by decide +kernel, rfl⟩
theorem eX6_restore_95 : DD cX6_restore 95 (.iconst 0) 1 96 := ⟨by decide +kernel, rfl⟩
theorem eX6_restore_96 : DD cX6_restore 96 (.bipush 26) 2 98 := ⟨by decide +kernel, rfl⟩
theorem eX6_restore_98 : DD cX6_restore 98 (.invokestatic 48) 3 101 := ⟨by decide +kernel, rfl⟩
theorem eX6_restore_101 : DD cX6_restore 101 (.iinc 2 1) 3 104 := ⟨by decide +kernel, rfl⟩
theorem eX6_restore_104 : DB cX6_restore 104 (.goto (-41)) (-41) 107 63 := ⟨by decide +kernel, rfl, by decide⟩
theorem eX6_restore_107 : DD cX6_restore 107 (.return_) 1 108 := ⟨by decide +kernel, rfl⟩
def L_X6_restore_63 : Nat → Nat → Int32 → Mem → Option (Unit × Mem)
  | 0, _, _, _ => none
  | n + 1, p1, x2, μ => if (2 : Int32) ≤ x2 then some ((), μ) else lb (((rI μ 65 2) + (9 : Int32)) + (x2 * (26 : Int32))) (fun x3_1 => gq (inB x2 2) (gq (cpB x3_1 (0 : Int32) (26 : Int32) 2440 26) (lb (wC μ 66 (nx x3_1) ((lnP (p1 + 2) x2) + 2) (nx (0 : Int32)) (nx (26 : Int32))) (fun μ_3 => lb (x2 + (1 : Int32)) (fun x2_4 => L_X6_restore_63  n p1 x2_4 μ_3)))))
set_option maxHeartbeats 4000000 in
theorem j_X6_restore_63 {C : Cx} (hC : Ok C cX6_restore 4 RX6 (rmF 2 45)) (hr : (cT C).sig.returnType = none) : ∀ (n : Nat) (p1 : Nat) (h1 : kd p1 = 7) (x2 : Int32) (μ : Mem), J C (KV C) μ 63 [(0, .ref (xad (cX C) 65)), (1, .ref (xad (cX C) p1)), (2, .int x2)] [] (L_X6_restore_63  n p1 x2 μ) := by
  intro n
  induction n with
  | zero => intros; exact J.no
  | succ n ih =>
    intro p1 h1 x2 μ
    rw [L_X6_restore_63]
    refine J.iload_n (j := 2) hC eX6_restore_63 rfl ?_
    refine J.iconst hC eX6_restore_64 ci_2 ?_
    refine J.icmp_ge hC eX6_restore_65 (fun _ => ?_) (fun _ => ?_)
    · exact J.vret hC hr eX6_restore_107
    · refine J.aload_n (j := 0) hC eX6_restore_68 rfl ?_
      refine gf_X6_21 hC eX6_restore_69 kk_65 ?_
      refine J.bipush hC eX6_restore_72 cb_9 ?_
      refine J.iadd hC eX6_restore_74 ?_
      refine J.iload_n (j := 2) hC eX6_restore_75 rfl ?_
      refine J.bipush hC eX6_restore_76 cb_26 ?_
      refine J.imul hC eX6_restore_78 ?_
      refine J.iadd hC eX6_restore_79 ?_
      refine J.topi (fun x3_1 => ?_)
      refine J.istore_n [(3, .int x3_1), (0, .ref (xad (cX C) 65)), (1, .ref (xad (cX C) p1)), (2, .int x2)] hC eX6_restore_80 (by decide) rfl ?_
      refine J.aload_n (j := 1) hC eX6_restore_81 rfl ?_
      refine gf_X6_13 (q := 66) hC eX6_restore_82 kk_65 rfl ?_
      refine J.iload_n (j := 0) hC eX6_restore_85 rfl ?_
      refine J.aload_n (j := 2) hC eX6_restore_86 rfl ?_
      refine gf_X6_39 (q := p1 + 2) hC eX6_restore_87 h1 rfl ?_
      refine J.iload_n (j := 3) hC eX6_restore_90 rfl ?_
      refine J.aaldL hC eX6_restore_91 (kf_X7_lanes h1) (fun hq_2 => ?_)
      refine gf_X6_45 (q := (lnP (p1 + 2) x2) + 2) hC eX6_restore_92 hq_2 rfl ?_
      refine J.iconst hC eX6_restore_95 ci_0 ?_
      refine J.bipush hC eX6_restore_96 cb_26 ?_
      refine J.acpy ik_2440 ik_26 hC eX6_restore_98 kk_66 (kf_X4_state hq_2) ml_X6_48 w_an w_as w_is (Nat.le_of_ble_eq_true rfl) (Nat.le_of_ble_eq_true rfl) (fun μ_3 => ?_)
      refine J.iinc (j := 3) (fun x2_4 => [(2, .int x2_4), (3, .int x3_1), (0, .ref (xad (cX C) 65)), (1, .ref (xad (cX C) p1))]) hC eX6_restore_101 rfl ci_1 (by decide) (fun _ => rfl) (fun x2_4 => ?_)
      refine J.goto hC eX6_restore_104 ?_
      refine J.sub [2, 3, 0] rfl ?_
      exact ih p1 h1 x2_4 μ_3
def L_X6_restore_2 : Nat → Nat → Int32 → Mem → Option (Unit × Mem)
  | 0, _, _, _ => none
  | n + 1, p1, x2, μ => gq (inB ((rI μ 65 2) + (2 : Int32)) 2440) (if (rI μ 66 (nx ((rI μ 65 2) + (2 : Int32)))) ≤ x2 then L_X6_restore_63  100000 p1 (0 : Int32) μ else lb (((rI μ 65 2) + (3 : Int32)) + (x2 * (3 : Int32))) (fun x3_1 => gq (inB x3_1 2440) (gq (inB (x3_1 + (1 : Int32)) 2440) (gq (inB (x3_1 + (2 : Int32)) 2440) (bd (G_X7_changeRows p1 (rI μ 66 (nx x3_1)) (rI μ 66 (nx (x3_1 + (1 : Int32)))) (-(rI μ 66 (nx (x3_1 + (2 : Int32))))) μ) (fun r_3 μ_2 => lb (x2 + (1 : Int32)) (fun x2_4 => L_X6_restore_2  n p1 x2_4 μ_2)))))))
set_option maxHeartbeats 4000000 in
theorem j_X6_restore_2 {C : Cx} (hC : Ok C cX6_restore 4 RX6 (rmF 2 45)) (hr : (cT C).sig.returnType = none) : ∀ (n : Nat) (p1 : Nat) (h1 : kd p1 = 7) (x2 : Int32) (μ : Mem), J C (KV C) μ 2 [(0, .ref (xad (cX C) 65)), (1, .ref (xad (cX C) p1)), (2, .int x2)] [] (L_X6_restore_2  n p1 x2 μ) := by
  intro n
  induction n with
  | zero => intros; exact J.no
  | succ n ih =>
    intro p1 h1 x2 μ
    rw [L_X6_restore_2]
    refine J.iload_n (j := 2) hC eX6_restore_2 rfl ?_
    refine J.aload_n (j := 0) hC eX6_restore_3 rfl ?_
    refine gf_X6_13 (q := 66) hC eX6_restore_4 kk_65 rfl ?_
    refine J.aload_n (j := 0) hC eX6_restore_7 rfl ?_
    refine gf_X6_21 hC eX6_restore_8 kk_65 ?_
    refine J.iconst hC eX6_restore_11 ci_2 ?_
    refine J.iadd hC eX6_restore_12 ?_
    refine J.iald ik_2440 hC eX6_restore_13 kk_66 ?_
    refine J.icmp_ge hC eX6_restore_14 (fun _ => ?_) (fun _ => ?_)
    · refine J.iconst hC eX6_restore_61 ci_0 ?_
      refine J.istore_n [(2, .int (0 : Int32)), (0, .ref (xad (cX C) 65)), (1, .ref (xad (cX C) p1))] hC eX6_restore_62 (by decide) rfl ?_
      refine J.sub [1, 2, 0] rfl ?_
      exact j_X6_restore_63 hC hr  100000 p1 h1 (0 : Int32) μ
    · refine J.aload_n (j := 0) hC eX6_restore_17 rfl ?_
      refine gf_X6_21 hC eX6_restore_18 kk_65 ?_
      refine J.iconst hC eX6_restore_21 ci_3 ?_
      refine J.iadd hC eX6_restore_22 ?_
      refine J.iload_n (j := 2) hC eX6_restore_23 rfl ?_
      refine J.iconst hC eX6_restore_24 ci_3 ?_
      refine J.imul hC eX6_restore_25 ?_
      refine J.iadd hC eX6_restore_26 ?_
      refine J.topi (fun x3_1 => ?_)
      refine J.istore_n [(3, .int x3_1), (0, .ref (xad (cX C) 65)), (1, .ref (xad (cX C) p1)), (2, .int x2)] hC eX6_restore_27 (by decide) rfl ?_
      refine J.aload_n (j := 2) hC eX6_restore_28 rfl ?_
      refine J.aload_n (j := 1) hC eX6_restore_29 rfl ?_
      refine gf_X6_13 (q := 66) hC eX6_restore_30 kk_65 rfl ?_
      refine J.iload_n (j := 0) hC eX6_restore_33 rfl ?_
      refine J.iald ik_2440 hC eX6_restore_34 kk_66 ?_
      refine J.aload_n (j := 1) hC eX6_restore_35 rfl ?_
      refine gf_X6_13 (q := 66) hC eX6_restore_36 kk_65 rfl ?_
      refine J.iload_n (j := 0) hC eX6_restore_39 rfl ?_
      refine J.iconst hC eX6_restore_40 ci_1 ?_
      refine J.iadd hC eX6_restore_41 ?_
      refine J.iald ik_2440 hC eX6_restore_42 kk_66 ?_
      refine J.aload_n (j := 1) hC eX6_restore_43 rfl ?_
      refine gf_X6_13 (q := 66) hC eX6_restore_44 kk_65 rfl ?_
      refine J.iload_n (j := 0) hC eX6_restore_47 rfl ?_
      refine J.iconst hC eX6_restore_48 ci_2 ?_
      refine J.iadd hC eX6_restore_49 ?_
      refine J.iald ik_2440 hC eX6_restore_50 kk_66 ?_
      refine J.ineg hC eX6_restore_51 ?_
      refine J.callVV (st := []) hC eX6_restore_52 h1 (by decide) rfl rfl ml_X6_67 mv_X7_changeRows (Rle_of (Nat.le_of_ble_eq_true rfl) (Nat.le_of_ble_eq_true rfl)) (c_X7_changeRows hC.X p1 h1 (rI μ 66 (nx x3_1)) (rI μ 66 (nx (x3_1 + (1 : Int32)))) (-(rI μ 66 (nx (x3_1 + (2 : Int32))))) μ) rfl rfl (Nat.le_of_ble_eq_true rfl) (fun r_3 μ_2 => ?_)
      refine J.iinc (j := 3) (fun x2_4 => [(2, .int x2_4), (3, .int x3_1), (0, .ref (xad (cX C) 65)), (1, .ref (xad (cX C) p1))]) hC eX6_restore_55 rfl ci_1 (by decide) (fun _ => rfl) (fun x2_4 => ?_)
      refine J.goto hC eX6_restore_58 ?_
      refine J.sub [2, 3, 0] rfl ?_
      exact ih p1 h1 x2_4 μ_2
def G_X6_restore (p1 : Nat) (μ : Mem) : Option (Unit × Mem) :=
  L_X6_restore_2  100000 p1 (0 : Int32) μ
set_option maxHeartbeats 4000000 in
theorem c_X6_restore {X : Wd} (hX : WdOk X) (p1 : Nat) (h1 : kd p1 = 7) (μ : Mem) : CtV X yX6_restore cX6_restore 4 none (rmF 2 45) [.ref (xad X 65), .ref (xad X p1)] μ (G_X6_restore p1 μ) := by
  refine CtV.of hX (plainFor_of_name (by decide)) (by exact Nat.le_of_ble_eq_true rfl) ?_
  intro C hCX hC hr
  subst hCX
  show J C (KV C) μ 0 [(0, .ref (xad (cX C) 65)), (1, .ref (xad (cX C) p1))] [] _
  unfold G_X6_restore
  refine J.iconst hC eX6_restore_0 ci_0 ?_
  refine J.istore_n [(2, .int (0 : Int32)), (0, .ref (xad (cX C) 65)), (1, .ref (xad (cX C) p1))] hC eX6_restore_1 (by decide) rfl ?_
  refine J.sub [1, 2, 0] rfl ?_
  exact j_X6_restore_2 hC hr  100000 p1 h1 (0 : Int32) μ
-- X6_undoLatest
theorem eX6_undoLatest_0 : DD cX6_undoLatest 0 (.aload_n 0) 1 1 := ⟨by decide +kernel, rfl⟩
theorem eX6_undoLatest_1 : DD cX6_undoLatest 1 (.getfield 17) 3 4 := ⟨by decide +kernel, rfl⟩
theorem eX6_undoLatest_4 : DB cX6_undoLatest 4 (.ifCond .ne 4) (4) 7 8 := ⟨by decide +kernel, rfl, by decide⟩
theorem eX6_undoLatest_7 : DD cX6_undoLatest 7 (.return_) 1 8 := ⟨by decide +kernel, rfl⟩
theorem eX6_undoLatest_8 : DD cX6_undoLatest 8 (.aload_n 0) 1 9 := ⟨by decide +kernel, rfl⟩
theorem eX6_undoLatest_9 : DD cX6_undoLatest 9 (.getfield 13) 3 12 := ⟨by decide +kernel, rfl⟩
theorem eX6_undoLatest_12 : DD cX6_undoLatest 12 (.aload_n 0) 1 13 := ⟨by decide +kernel, rfl⟩
theorem eX6_undoLatest_13 : DD cX6_undoLatest 13 (.getfield 21) 3 16 := ⟨by decide +kernel, rfl⟩
theorem eX6_undoLatest_16 : DD cX6_undoLatest 16 (.iconst 0) 1 17 := ⟨by decide +kernel, rfl⟩
theorem eX6_undoLatest_17 : DD cX6_undoLatest 17 (.iadd) 1 18 := ⟨by decide +kernel, rfl⟩
theorem eX6_undoLatest_18 : DD cX6_undoLatest 18 (.iaload) 1 19 := ⟨by decide +kernel, rfl⟩
theorem eX6_undoLatest_19 : DD cX6_undoLatest 19 (.istore_n 2) 1 20 := ⟨by decide +kernel, rfl⟩
theorem eX6_undoLatest_20 : DD cX6_undoLatest 20 (.aload_n 1) 1 21 := ⟨by decide +kernel, rfl⟩
theorem eX6_undoLatest_21 : DD cX6_undoLatest 21 (.aload_n 0) 1 22 := ⟨by decide +kernel, rfl⟩
theorem eX6_undoLatest_22 : DD cX6_undoLatest 22 (.getfield 13) 3 25 := ⟨by decide +kernel, rfl⟩
theorem eX6_undoLatest_25 : DD cX6_undoLatest 25 (.aload_n 0) 1 26 := ⟨by decide +kernel, rfl⟩
theorem eX6_undoLatest_26 : DD cX6_undoLatest 26 (.getfield 21) 3 29 := ⟨by decide +kernel, rfl⟩
theorem eX6_undoLatest_29 : DD cX6_undoLatest 29 (.iconst 1) 1 30 := ⟨by decide +kernel, rfl⟩
theorem eX6_undoLatest_30 : DD cX6_undoLatest 30 (.iadd) 1 31 := ⟨by decide +kernel, rfl⟩
theorem eX6_undoLatest_31 : DD cX6_undoLatest 31 (.iaload) 1 32 := ⟨by decide +kernel, rfl⟩
theorem eX6_undoLatest_32 : DD cX6_undoLatest 32 (.putfield 30) 3 35 := ⟨by decide +kernel, rfl⟩
theorem eX6_undoLatest_35 : DD cX6_undoLatest 35 (.aload_n 1) 1 36 := ⟨by decide +kernel, rfl⟩
theorem eX6_undoLatest_36 : DD cX6_undoLatest 36 (.getfield 54) 3 39 := ⟨by decide +kernel, rfl⟩
theorem eX6_undoLatest_39 : DD cX6_undoLatest 39 (.invokevirtual 58) 3 42 := ⟨by decide +kernel, rfl⟩
theorem eX6_undoLatest_42 : DD cX6_undoLatest 42 (.iload_n 2) 1 43 := ⟨by decide +kernel, rfl⟩
theorem eX6_undoLatest_43 : DD cX6_undoLatest 43 (.iconst (-1)) 1 44 := ⟨by decide +kernel, rfl⟩
theorem eX6_undoLatest_44 : DB cX6_undoLatest 44 (.if_icmp .eq 13) (13) 47 57 := ⟨by decide +kernel, rfl, by decide⟩
theorem eX6_undoLatest_47 : DD cX6_undoLatest 47 (.aload_n 0) 1 48 := ⟨by decide +kernel, rfl⟩
theorem eX6_undoLatest_48 : DD cX6_undoLatest 48 (.aload_n 1) 1 49 := ⟨by decide +kernel, rfl⟩
theorem eX6_undoLatest_49 : DD cX6_undoLatest 49 (.getfield 35) 3 52 := ⟨by decide +kernel, rfl⟩
theorem eX6_undoLatest_52 : DD cX6_undoLatest 52 (.iload_n 2) 1 53 := ⟨by decide +kernel, rfl⟩
theorem eX6_undoLatest_53 : DD cX6_undoLatest 53 (.aaload) 1 54 := ⟨by decide +kernel, rfl⟩
theorem eX6_undoLatest_54 : DD cX6_undoLatest 54 (.invokevirtual 63) 3 57 := ⟨by decide +kernel, rfl⟩
theorem eX6_undoLatest_57 : DD cX6_undoLatest 57 (.aload_n 0) 1 58 := ⟨by decide +kernel, rfl⟩
theorem eX6_undoLatest_58 : DD cX6_undoLatest 58 (.aload_n 0) 1 59 := ⟨by decide +kernel, rfl⟩
theorem eX6_undoLatest_59 : DD cX6_undoLatest 59 (.getfield 21) 3 62 := ⟨by decide +kernel, rfl⟩
theorem eX6_undoLatest_62 : DD cX6_undoLatest 62 (.sipush 2440) 3 65 := ⟨by decide +kernel, rfl⟩
theorem eX6_undoLatest_65 : DD cX6_undoLatest 65 (.iadd) 1 66 := ⟨by decide +kernel, rfl⟩
theorem eX6_undoLatest_66 : DD cX6_undoLatest 66 (.bipush 61) 2 68 := ⟨by decide +kernel, rfl⟩
theorem eX6_undoLatest_68 : DD cX6_undoLatest 68 (.isub) 1 69 := ⟨by decide +kernel, rfl⟩
theorem eX6_undoLatest_69 : DD cX6_undoLatest 69 (.sipush 2440) 3 72 := ⟨by decide +kernel, rfl⟩
theorem eX6_undoLatest_72 : DD cX6_undoLatest 72 (.irem) 1 73 := ⟨by decide +kernel, rfl⟩
theorem eX6_undoLatest_73 : DD cX6_undoLatest 73 (.putfield 21) 3 76 := ⟨by decide +kernel, rfl⟩
theorem eX6_undoLatest_76 : DD cX6_undoLatest 76 (.aload_n 0) 1 77 := ⟨by decide +kernel, rfl⟩
theorem eX6_undoLatest_77 : DD cX6_undoLatest 77 (.dup) 1 78 := ⟨by decide +kernel, rfl⟩
theorem eX6_undoLatest_78 : DD cX6_undoLatest 78 (.getfield 17) 3 81 := ⟨by decide +kernel, rfl⟩
theorem eX6_undoLatest_81 : DD cX6_undoLatest 81 (.iconst 1) 1 82 := ⟨by decide +kernel, rfl⟩
theorem eX6_undoLatest_82 : DD cX6_undoLatest 82 (.isub) 1 83 := ⟨by decide +kernel, rfl⟩
theorem eX6_undoLatest_83 : DD cX6_undoLatest 83 (.putfield 17) 3 86 := ⟨by decide +kernel, rfl⟩
theorem eX6_undoLatest_86 : DD cX6_undoLatest 86 (.return_) 1 87 := ⟨by decide +kernel, rfl⟩
def F_X6_undoLatest_57  (μ : Mem) : Option (Unit × Mem) :=
  lb (wI μ 65 2 ((((rI μ 65 2) + (2440 : Int32)) - (61 : Int32)) - (((rI μ 65 2) + (2440 : Int32)) - (61 : Int32)) / (2440 : Int32) * (2440 : Int32))) (fun μ_1 => lb (wI μ_1 65 1 ((rI μ_1 65 1) - (1 : Int32))) (fun μ_2 => some ((), μ_2)))
set_option maxHeartbeats 4000000 in
theorem j_X6_undoLatest_57 {C : Cx} (hC : Ok C cX6_undoLatest 3 RX6 (rmF 3 68)) (hr : (cT C).sig.returnType = none)  (μ : Mem) : J C (KV C) μ 57 [(0, .ref (xad (cX C) 65))] [] (F_X6_undoLatest_57   μ) := by
  unfold F_X6_undoLatest_57
  refine J.aload_n (j := 0) hC eX6_undoLatest_57 rfl ?_
  refine J.aload_n (j := 0) hC eX6_undoLatest_58 rfl ?_
  refine gf_X6_21 hC eX6_undoLatest_59 kk_65 ?_
  refine J.sipush hC eX6_undoLatest_62 cs_2440 ?_
  refine J.iadd hC eX6_undoLatest_65 ?_
  refine J.bipush hC eX6_undoLatest_66 cb_61 ?_
  refine J.isub hC eX6_undoLatest_68 ?_
  refine J.sipush hC eX6_undoLatest_69 cs_2440 ?_
  refine J.iremK hC eX6_undoLatest_72 (by decide) ?_
  refine pf_X6_21 hC eX6_undoLatest_73 kk_65 (fun μ_1 => ?_)
  refine J.aload_n (j := 0) hC eX6_undoLatest_76 rfl ?_
  refine J.dup hC eX6_undoLatest_77 rfl ?_
  refine gf_X6_17 hC eX6_undoLatest_78 kk_65 ?_
  refine J.iconst hC eX6_undoLatest_81 ci_1 ?_
  refine J.isub hC eX6_undoLatest_82 ?_
  refine pf_X6_17 hC eX6_undoLatest_83 kk_65 (fun μ_2 => ?_)
  exact J.vret hC hr eX6_undoLatest_86
def G_X6_undoLatest (p1 : Nat) (μ : Mem) : Option (Unit × Mem) :=
  if (rI μ 65 1) = 0 then some ((), μ) else gq (inB ((rI μ 65 2) + (0 : Int32)) 2440) (lb (rI μ 66 (nx ((rI μ 65 2) + (0 : Int32)))) (fun x2_1 => gq (inB ((rI μ 65 2) + (1 : Int32)) 2440) (lb (wI μ p1 5 (rI μ 66 (nx ((rI μ 65 2) + (1 : Int32))))) (fun μ_2 => bd (G_X3_eraseLatest (p1 + 29) μ_2) (fun r_4 μ_3 => if x2_1 = (-1 : Int32) then F_X6_undoLatest_57   μ_3 else gq (inB x2_1 3) (bd (G_X6_restore (shP (p1 + 1) x2_1) μ_3) (fun r_7 μ_6 => F_X6_undoLatest_57   μ_6)))))))
set_option maxHeartbeats 4000000 in
theorem c_X6_undoLatest {X : Wd} (hX : WdOk X) (p1 : Nat) (h1 : kd p1 = 0) (μ : Mem) : CtV X yX6_undoLatest cX6_undoLatest 3 none (rmF 3 68) [.ref (xad X 65), .ref (xad X p1)] μ (G_X6_undoLatest p1 μ) := by
  refine CtV.of hX (plainFor_of_name (by decide)) (by exact Nat.le_of_ble_eq_true rfl) ?_
  intro C hCX hC hr
  subst hCX
  show J C (KV C) μ 0 [(0, .ref (xad (cX C) 65)), (1, .ref (xad (cX C) p1))] [] _
  unfold G_X6_undoLatest
  refine J.aload_n (j := 0) hC eX6_undoLatest_0 rfl ?_
  refine gf_X6_17 hC eX6_undoLatest_1 kk_65 ?_
  refine J.if_ne hC eX6_undoLatest_4 (fun _ => ?_) (fun _ => ?_)
  · exact J.vret hC hr eX6_undoLatest_7
  · refine J.aload_n (j := 0) hC eX6_undoLatest_8 rfl ?_
    refine gf_X6_13 (q := 66) hC eX6_undoLatest_9 kk_65 rfl ?_
    refine J.aload_n (j := 0) hC eX6_undoLatest_12 rfl ?_
    refine gf_X6_21 hC eX6_undoLatest_13 kk_65 ?_
    refine J.iconst hC eX6_undoLatest_16 ci_0 ?_
    refine J.iadd hC eX6_undoLatest_17 ?_
    refine J.iald ik_2440 hC eX6_undoLatest_18 kk_66 ?_
    refine J.topi (fun x2_1 => ?_)
    refine J.istore_n [(2, .int x2_1), (0, .ref (xad (cX C) 65)), (1, .ref (xad (cX C) p1))] hC eX6_undoLatest_19 (by decide) rfl ?_
    refine J.aload_n (j := 2) hC eX6_undoLatest_20 rfl ?_
    refine J.aload_n (j := 1) hC eX6_undoLatest_21 rfl ?_
    refine gf_X6_13 (q := 66) hC eX6_undoLatest_22 kk_65 rfl ?_
    refine J.aload_n (j := 1) hC eX6_undoLatest_25 rfl ?_
    refine gf_X6_21 hC eX6_undoLatest_26 kk_65 ?_
    refine J.iconst hC eX6_undoLatest_29 ci_1 ?_
    refine J.iadd hC eX6_undoLatest_30 ?_
    refine J.iald ik_2440 hC eX6_undoLatest_31 kk_66 ?_
    refine pf_X6_30 hC eX6_undoLatest_32 h1 (fun μ_2 => ?_)
    refine J.aload_n (j := 2) hC eX6_undoLatest_35 rfl ?_
    refine gf_X6_54 (q := p1 + 29) hC eX6_undoLatest_36 h1 rfl ?_
    refine J.callVV (st := []) hC eX6_undoLatest_39 (kf_X0_diary h1) (by decide) rfl rfl ml_X6_58 mv_X3_eraseLatest (Rle_of (Nat.le_of_ble_eq_true rfl) (Nat.le_of_ble_eq_true rfl)) (c_X3_eraseLatest hC.X (p1 + 29) (kf_X0_diary h1) μ_2) rfl rfl (Nat.le_of_ble_eq_true rfl) (fun r_4 μ_3 => ?_)
    refine J.iload_n (j := 0) hC eX6_undoLatest_42 rfl ?_
    refine J.iconst hC eX6_undoLatest_43 ci_m1 ?_
    refine J.icmp_eq hC eX6_undoLatest_44 (fun _ => ?_) (fun _ => ?_)
    · refine J.sub [1] rfl ?_
      exact j_X6_undoLatest_57 hC hr   μ_3
    · refine J.aload_n (j := 1) hC eX6_undoLatest_47 rfl ?_
      refine J.aload_n (j := 2) hC eX6_undoLatest_48 rfl ?_
      refine gf_X6_35 (q := p1 + 1) hC eX6_undoLatest_49 h1 rfl ?_
      refine J.iload_n (j := 0) hC eX6_undoLatest_52 rfl ?_
      refine J.aaldS hC eX6_undoLatest_53 (kf_X0_sheets h1) (fun hq_5 => ?_)
      refine J.callVV (st := []) hC eX6_undoLatest_54 kk_65 (by decide) rfl rfl ml_X6_63 mv_X6_restore (Rle_of (Nat.le_of_ble_eq_true rfl) (Nat.le_of_ble_eq_true rfl)) (c_X6_restore hC.X (shP (p1 + 1) x2_1) hq_5 μ_3) rfl rfl (Nat.le_of_ble_eq_true rfl) (fun r_7 μ_6 => ?_)
      refine J.sub [1] rfl ?_
      exact j_X6_undoLatest_57 hC hr   μ_6
-- X7_hasCell
theorem eX7_hasCell_0 : DD cX7_hasCell 0 (.iload_n 1) 1 1 := ⟨by decide +kernel, rfl⟩
theorem eX7_hasCell_1 : DD cX7_hasCell 1 (.iconst (-1)) 1 2 := ⟨by decide +kernel, rfl⟩
theorem eX7_hasCell_2 : DB cX7_hasCell 2 (.if_icmp .lt 28) (28) 5 30 := ⟨by decide +kernel, rfl, by decide⟩
theorem eX7_hasCell_5 : DD cX7_hasCell 5 (.iload_n 1) 1 6 := ⟨by decide +kernel, rfl⟩
theorem eX7_hasCell_6 : DD cX7_hasCell 6 (.aload_n 0) 1 7 := ⟨by decide +kernel, rfl⟩
theorem eX7_hasCell_7 : DD cX7_hasCell 7 (.getfield 22) 3 10 := ⟨by decide +kernel, rfl⟩
theorem eX7_hasCell_10 : DB cX7_hasCell 10 (.if_icmp .ge 20) (20) 13 30 := ⟨by decide +kernel, rfl, by decide⟩
theorem eX7_hasCell_13 : DD cX7_hasCell 13 (.iload_n 2) 1 14 := ⟨by decide +kernel, rfl⟩
theorem eX7_hasCell_14 : DD cX7_hasCell 14 (.iconst (-1)) 1 15 := ⟨by decide +kernel, rfl⟩
theorem eX7_hasCell_15 : DB cX7_hasCell 15 (.if_icmp .lt 15) (15) 18 30 := ⟨by decide +kernel, rfl, by decide⟩
theorem eX7_hasCell_18 : DD cX7_hasCell 18 (.iload_n 2) 1 19 := ⟨by decide +kernel, rfl⟩
theorem eX7_hasCell_19 : DD cX7_hasCell 19 (.aload_n 0) 1 20 := ⟨by decide +kernel, rfl⟩
theorem eX7_hasCell_20 : DD cX7_hasCell 20 (.getfield 22) 3 23 := ⟨by decide +kernel, rfl⟩
theorem eX7_hasCell_23 : DB cX7_hasCell 23 (.if_icmp .ge 7) (7) 26 30 := ⟨by decide +kernel, rfl, by decide⟩
theorem eX7_hasCell_26 : DD cX7_hasCell 26 (.iconst 1) 1 27 := ⟨by decide +kernel, rfl⟩
theorem eX7_hasCell_27 : DB cX7_hasCell 27 (.goto 4) (4) 30 31 := ⟨by decide +kernel, rfl, by decide⟩
theorem eX7_hasCell_30 : DD cX7_hasCell 30 (.iconst 0) 1 31 := ⟨by decide +kernel, rfl⟩
theorem eX7_hasCell_31 : DD cX7_hasCell 31 (.ireturn) 1 32 := ⟨by decide +kernel, rfl⟩
def G_X7_hasCell (p0 : Nat) (x1 : Int32) (x2 : Int32) (μ : Mem) : Option (Int32 × Mem) :=
  if x1 < (-1 : Int32) then some ((0 : Int32), μ) else if (rI μ p0 2) ≤ x1 then some ((0 : Int32), μ) else if x2 < (-1 : Int32) then some ((0 : Int32), μ) else if (rI μ p0 2) ≤ x2 then some ((0 : Int32), μ) else some ((1 : Int32), μ)
set_option maxHeartbeats 4000000 in
theorem c_X7_hasCell {X : Wd} (hX : WdOk X) (p0 : Nat) (h0 : kd p0 = 7) (x1 : Int32) (x2 : Int32) (μ : Mem) : CtI X yX7_hasCell cX7_hasCell 3 (some .boolean) (rmF 0 0) [.ref (xad X p0), .int x1, .int x2] μ (G_X7_hasCell p0 x1 x2 μ) := by
  refine CtI.of hX (plainFor_of_name (by decide)) (by exact Nat.le_of_ble_eq_true rfl) ?_
  intro C hCX hC hr
  subst hCX
  show J C (KI C) μ 0 [(0, .ref (xad (cX C) p0)), (1, .int x1), (2, .int x2)] [] _
  unfold G_X7_hasCell
  refine J.iload_n (j := 1) hC eX7_hasCell_0 rfl ?_
  refine J.iconst hC eX7_hasCell_1 ci_m1 ?_
  refine J.icmp_lt hC eX7_hasCell_2 (fun _ => ?_) (fun _ => ?_)
  · refine J.iconst hC eX7_hasCell_30 ci_0 ?_
    exact J.zretB hC hr eX7_hasCell_31 rfl
  · refine J.iload_n (j := 1) hC eX7_hasCell_5 rfl ?_
    refine J.aload_n (j := 0) hC eX7_hasCell_6 rfl ?_
    refine gf_X7_22 hC eX7_hasCell_7 h0 ?_
    refine J.icmp_ge hC eX7_hasCell_10 (fun _ => ?_) (fun _ => ?_)
    · refine J.iconst hC eX7_hasCell_30 ci_0 ?_
      exact J.zretB hC hr eX7_hasCell_31 rfl
    · refine J.iload_n (j := 2) hC eX7_hasCell_13 rfl ?_
      refine J.iconst hC eX7_hasCell_14 ci_m1 ?_
      refine J.icmp_lt hC eX7_hasCell_15 (fun _ => ?_) (fun _ => ?_)
      · refine J.iconst hC eX7_hasCell_30 ci_0 ?_
        exact J.zretB hC hr eX7_hasCell_31 rfl
      · refine J.iload_n (j := 2) hC eX7_hasCell_18 rfl ?_
        refine J.aload_n (j := 0) hC eX7_hasCell_19 rfl ?_
        refine gf_X7_22 hC eX7_hasCell_20 h0 ?_
        refine J.icmp_ge hC eX7_hasCell_23 (fun _ => ?_) (fun _ => ?_)
        · refine J.iconst hC eX7_hasCell_30 ci_0 ?_
          exact J.zretB hC hr eX7_hasCell_31 rfl
        · refine J.iconst hC eX7_hasCell_26 ci_1 ?_
          refine J.goto hC eX7_hasCell_27 ?_
          exact J.zretB hC hr eX7_hasCell_31 rfl
-- X7_alike
theorem eX7_alike_0 : DD cX7_alike 0 (.aload_n 0) 1 1 := ⟨by decide +kernel, rfl⟩
theorem eX7_alike_1 : DD cX7_alike 1 (.getfield 9) 3 4 := ⟨by decide +kernel, rfl⟩
theorem eX7_alike_4 : DD cX7_alike 4 (.iload_n 1) 1 5 := ⟨by decide +kernel, rfl⟩
theorem eX7_alike_5 : DD cX7_alike 5 (.iload_n 2) 1 6 := ⟨by decide +kernel, rfl⟩
theorem eX7_alike_6 : DD cX7_alike 6 (.invokestatic 26) 3 9 := ⟨by decide +kernel, rfl⟩
theorem eX7_alike_9 : DD cX7_alike 9 (.iaload) 1 10 := ⟨by decide +kernel, rfl⟩
theorem eX7_alike_10 : DD cX7_alike 10 (.ireturn) 1 11 := ⟨by decide +kernel, rfl⟩
def G_X7_alike (p0 : Nat) (x1 : Int32) (x2 : Int32) (μ : Mem) : Option (Int32 × Mem) :=
  bd (G_X7_cellOf x1 x2 μ) (fun r_2 μ_1 => gq (inB r_2 289) (some (rI μ_1 (p0 + 1) (nx r_2), μ_1)))
set_option maxHeartbeats 4000000 in
theorem c_X7_alike {X : Wd} (hX : WdOk X) (p0 : Nat) (h0 : kd p0 = 7) (x1 : Int32) (x2 : Int32) (μ : Mem) : CtI X yX7_alike cX7_alike 3 (some .int) (rmF 1 21) [.ref (xad X p0), .int x1, .int x2] μ (G_X7_alike p0 x1 x2 μ) := by
  refine CtI.of hX (plainFor_of_name (by decide)) (by exact Nat.le_of_ble_eq_true rfl) ?_
  intro C hCX hC hr
  subst hCX
  show J C (KI C) μ 0 [(0, .ref (xad (cX C) p0)), (1, .int x1), (2, .int x2)] [] _
  unfold G_X7_alike
  refine J.aload_n (j := 0) hC eX7_alike_0 rfl ?_
  refine gf_X7_9 (q := p0 + 1) hC eX7_alike_1 h0 rfl ?_
  refine J.iload_n (j := 1) hC eX7_alike_4 rfl ?_
  refine J.iload_n (j := 2) hC eX7_alike_5 rfl ?_
  refine J.callSI (st := [.ref (xad (cX C) (p0 + 1))]) hC eX7_alike_6 ml_X7_26 mv_X7_cellOf (Rle_of (Nat.le_of_ble_eq_true rfl) (Nat.le_of_ble_eq_true rfl)) (c_X7_cellOf hC.X x1 x2 μ) rfl rfl (Nat.le_of_ble_eq_true rfl) (fun r_2 μ_1 => ?_)
  refine J.iald ik_289 hC eX7_alike_9 (kf_X7_cells h0) ?_
  exact J.iret hC hr eX7_alike_10
-- X9_holds
theorem eX9_holds_0 : DD cX9_holds 0 (.iconst 1) 1 1 := ⟨by decide +kernel, rfl⟩
theorem eX9_holds_1 : DD cX9_holds 1 (.istore_n 3) 1 2 := ⟨by decide +kernel, rfl⟩
theorem eX9_holds_2 : DD cX9_holds 2 (.iconst 0) 1 3 := ⟨by decide +kernel, rfl⟩
theorem eX9_holds_3 : DD cX9_holds 3 (.istore 4) 2 5 := ⟨by decide +kernel, rfl⟩
theorem eX9_holds_5 : DD cX9_holds 5 (.iload 4) 2 7 := ⟨by decide +kernel, rfl⟩
theorem eX9_holds_7 : DD cX9_holds 7 (.aload_n 0) 1 8 := ⟨by decide +kernel, rfl⟩
theorem eX9_holds_8 : DD cX9_holds 8 (.getfield 29) 3 11 := ⟨by decide +kernel, rfl⟩
theorem eX9_holds_11 : DB cX9_holds 11 (.if_icmp .ge 65) (65) 14 76 := ⟨by decide +kernel, rfl, by decide⟩
theorem eX9_holds_14 : DD cX9_holds 14 (.aload_n 0) 1 15 := ⟨by decide +kernel, rfl⟩
theorem eX9_holds_15 : DD cX9_holds 15 (.iload 4) 2 17 := ⟨by decide +kernel, rfl⟩
theorem eX9_holds_17 : DD cX9_holds 17 (.invokevirtual 63) 3 20 := ⟨by decide +kernel, rfl⟩
theorem eX9_holds_20 : DB cX9_holds 20 (.ifCond .eq 16) (16) 23 36 := ⟨by decide +kernel, rfl, by decide⟩
theorem eX9_holds_23 : DD cX9_holds 23 (.iload_n 3) 1 24 := ⟨by decide +kernel, rfl⟩
theorem eX9_holds_24 : DB cX9_holds 24 (.ifCond .eq 10) (10) 27 34 := ⟨by decide +kernel, rfl, by decide⟩
theorem eX9_holds_27 : DD cX9_holds 27 (.iload 4) 2 29 := ⟨by decide +kernel, rfl⟩
theorem eX9_holds_29 : DB cX9_holds 29 (.ifCond .le 5) (5) 32 34 := ⟨by decide +kernel, rfl, by decide⟩
theorem eX9_holds_32 : DD cX9_holds 32 (.iconst 1) 1 33 := ⟨by decide +kernel, rfl⟩
theorem eX9_holds_33 : DD cX9_holds 33 (.ireturn) 1 34 := ⟨by decide +kernel, rfl⟩
theorem eX9_holds_34 : DD cX9_holds 34 (.iconst 1) 1 35 := ⟨by decide +kernel, rfl⟩
theorem eX9_holds_35 : DD cX9_holds 35 (.istore_n 3) 1 36 := ⟨by decide +kernel, rfl⟩
theorem eX9_holds_36 : DD cX9_holds 36 (.iload_n 3) 1 37 := ⟨by decide +kernel, rfl⟩
theorem eX9_holds_37 : DB cX9_holds 37 (.ifCond .eq 31) (31) 40 68 := ⟨by decide +kernel, rfl, by decide⟩
theorem eX9_holds_40 : DD cX9_holds 40 (.aload_n 0) 1 41 := ⟨by decide +kernel, rfl⟩
theorem eX9_holds_41 : DD cX9_holds 41 (.iload 4) 2 43 := ⟨by decide +kernel, rfl⟩
theorem eX9_holds_43 : DD cX9_holds 43 (.aload_n 0) 1 44 := ⟨by decide +kernel, rfl⟩
theorem eX9_holds_44 : DD cX9_holds 44 (.getfield 15) 3 47 := ⟨by decide +kernel, rfl⟩
theorem eX9_holds_47 : DD cX9_holds 47 (.iload 4) 2 49 := ⟨by decide +kernel, rfl⟩
theorem eX9_holds_49 : DD cX9_holds 49 (.iaload) 1 50 := ⟨by decide +kernel, rfl⟩
theorem eX9_holds_50 : DB cX9_holds 50 (.ifCond .ne 7) (7) 53 57 := ⟨by decide +kernel, rfl, by decide⟩
theorem eX9_holds_53 : DD cX9_holds 53 (.iload_n 1) 1 54 := ⟨by decide +kernel, rfl⟩
theorem eX9_holds_54 : DB cX9_holds 54 (.goto 4) (4) 57 58 := ⟨by decide +kernel, rfl, by decide⟩
theorem eX9_holds_57 : DD cX9_holds 57 (.iload_n 2) 1 58 := ⟨by decide +kernel, rfl⟩
theorem eX9_holds_58 : DD cX9_holds 58 (.invokevirtual 66) 3 61 := ⟨by decide +kernel, rfl⟩
theorem eX9_holds_61 : DB cX9_holds 61 (.ifCond .eq 7) (7) 64 68 := ⟨by decide +kernel, rfl, by decide⟩
theorem eX9_holds_64 : DD cX9_holds 64 (.iconst 1) 1 65 := ⟨by decide +kernel, rfl⟩
theorem eX9_holds_65 : DB cX9_holds 65 (.goto 4) (4) 68 69 := ⟨by decide +kernel, rfl, by decide⟩
theorem eX9_holds_68 : DD cX9_holds 68 (.iconst 0) 1 69 := ⟨by decide +kernel, rfl⟩
theorem eX9_holds_69 : DD cX9_holds 69 (.istore_n 3) 1 70 := ⟨by decide +kernel, rfl⟩
theorem eX9_holds_70 : DD cX9_holds 70 (.iinc 4 1) 3 73 := ⟨by decide +kernel, rfl⟩
theorem eX9_holds_73 : DB cX9_holds 73 (.goto (-68)) (-68) 76 5 := ⟨by decide +kernel, rfl, by decide⟩
theorem eX9_holds_76 : DD cX9_holds 76 (.iload_n 3) 1 77 := ⟨by decide +kernel, rfl⟩
theorem eX9_holds_77 : DD cX9_holds 77 (.ireturn) 1 78 := ⟨by decide +kernel, rfl⟩
def F_X9_holds_69 (kc_5 : Nat → Int32 → Int32 → Int32 → Int32 → Mem → Option (Int32 × Mem)) (p0 : Nat) (x1 : Int32) (x2 : Int32) (x4 : Int32) (xs0 : Int32) (μ : Mem) : Option (Int32 × Mem) :=
  lb (x4 + (1 : Int32)) (fun x4_1 => kc_5 p0 x1 x2 xs0 x4_1 μ)
set_option maxHeartbeats 4000000 in
theorem j_X9_holds_69 {C : Cx} (hC : Ok C cX9_holds 5 RX9 (rmF 1 22)) (hr : (cT C).sig.returnType = (some .boolean)) (kc_5 : Nat → Int32 → Int32 → Int32 → Int32 → Mem → Option (Int32 × Mem)) (hk_5 : ∀ (p0 : Nat) (h0 : kd p0 = 9) (x1 : Int32) (x2 : Int32) (x3 : Int32) (x4 : Int32) (μ : Mem), J C (KI C) μ 5 [(0, .ref (xad (cX C) p0)), (1, .int x1), (2, .int x2), (3, .int x3), (4, .int x4)] [] (kc_5 p0 x1 x2 x3 x4 μ)) (p0 : Nat) (h0 : kd p0 = 9) (x1 : Int32) (x2 : Int32) (x4 : Int32) (xs0 : Int32) (μ : Mem) : J C (KI C) μ 69 [(0, .ref (xad (cX C) p0)), (1, .int x1), (2, .int x2), (4, .int x4)] [.int xs0] (F_X9_holds_69 kc_5 p0 x1 x2 x4 xs0 μ) := by
  unfold F_X9_holds_69
  refine J.istore_n [(3, .int xs0), (0, .ref (xad (cX C) p0)), (1, .int x1), (2, .int x2), (4, .int x4)] hC eX9_holds_69 (by decide) rfl ?_
  refine J.iinc (j := 4) (fun x4_1 => [(4, .int x4_1), (3, .int xs0), (0, .ref (xad (cX C) p0)), (1, .int x1), (2, .int x2)]) hC eX9_holds_70 rfl ci_1 (by decide) (fun _ => rfl) (fun x4_1 => ?_)
  refine J.goto hC eX9_holds_73 ?_
  refine J.sub [2, 3, 4, 1, 0] rfl ?_
  exact hk_5 p0 h0 x1 x2 xs0 x4_1 μ
def F_X9_holds_68 (kc_5 : Nat → Int32 → Int32 → Int32 → Int32 → Mem → Option (Int32 × Mem)) (p0 : Nat) (x1 : Int32) (x2 : Int32) (x4 : Int32) (μ : Mem) : Option (Int32 × Mem) :=
  F_X9_holds_69 kc_5 p0 x1 x2 x4 (0 : Int32) μ
set_option maxHeartbeats 4000000 in
theorem j_X9_holds_68 {C : Cx} (hC : Ok C cX9_holds 5 RX9 (rmF 1 22)) (hr : (cT C).sig.returnType = (some .boolean)) (kc_5 : Nat → Int32 → Int32 → Int32 → Int32 → Mem → Option (Int32 × Mem)) (hk_5 : ∀ (p0 : Nat) (h0 : kd p0 = 9) (x1 : Int32) (x2 : Int32) (x3 : Int32) (x4 : Int32) (μ : Mem), J C (KI C) μ 5 [(0, .ref (xad (cX C) p0)), (1, .int x1), (2, .int x2), (3, .int x3), (4, .int x4)] [] (kc_5 p0 x1 x2 x3 x4 μ)) (p0 : Nat) (h0 : kd p0 = 9) (x1 : Int32) (x2 : Int32) (x4 : Int32) (μ : Mem) : J C (KI C) μ 68 [(0, .ref (xad (cX C) p0)), (1, .int x1), (2, .int x2), (4, .int x4)] [] (F_X9_holds_68 kc_5 p0 x1 x2 x4 μ) := by
  unfold F_X9_holds_68
  refine J.iconst hC eX9_holds_68 ci_0 ?_
  refine J.sub [0, 1, 2, 3] rfl ?_
  exact j_X9_holds_69 hC hr kc_5 hk_5 p0 h0 x1 x2 x4 (0 : Int32) μ
def F_X9_holds_58 (kc_5 : Nat → Int32 → Int32 → Int32 → Int32 → Mem → Option (Int32 × Mem)) (p0 : Nat) (x1 : Int32) (x2 : Int32) (x4 : Int32) (ps0 : Nat) (xs1 : Int32) (xs2 : Int32) (μ : Mem) : Option (Int32 × Mem) :=
  bd (G_X9_unitHolds ps0 xs1 xs2 μ) (fun r_2 μ_1 => if r_2 = 0 then F_X9_holds_68 kc_5 p0 x1 x2 x4 μ_1 else F_X9_holds_69 kc_5 p0 x1 x2 x4 (1 : Int32) μ_1)
set_option maxHeartbeats 4000000 in
theorem j_X9_holds_58 {C : Cx} (hC : Ok C cX9_holds 5 RX9 (rmF 1 22)) (hr : (cT C).sig.returnType = (some .boolean)) (kc_5 : Nat → Int32 → Int32 → Int32 → Int32 → Mem → Option (Int32 × Mem)) (hk_5 : ∀ (p0 : Nat) (h0 : kd p0 = 9) (x1 : Int32) (x2 : Int32) (x3 : Int32) (x4 : Int32) (μ : Mem), J C (KI C) μ 5 [(0, .ref (xad (cX C) p0)), (1, .int x1), (2, .int x2), (3, .int x3), (4, .int x4)] [] (kc_5 p0 x1 x2 x3 x4 μ)) (p0 : Nat) (h0 : kd p0 = 9) (x1 : Int32) (x2 : Int32) (x4 : Int32) (ps0 : Nat) (hs0 : kd ps0 = 9) (xs1 : Int32) (xs2 : Int32) (μ : Mem) : J C (KI C) μ 58 [(0, .ref (xad (cX C) p0)), (1, .int x1), (2, .int x2), (4, .int x4)] [.int xs2, .int xs1, .ref (xad (cX C) ps0)] (F_X9_holds_58 kc_5 p0 x1 x2 x4 ps0 xs1 xs2 μ) := by
  unfold F_X9_holds_58
  refine J.callVI (st := []) hC eX9_holds_58 hs0 (by decide) rfl rfl ml_X9_66 mv_X9_unitHolds (Rle_of (Nat.le_of_ble_eq_true rfl) (Nat.le_of_ble_eq_true rfl)) (c_X9_unitHolds hC.X ps0 hs0 xs1 xs2 μ) rfl rfl (Nat.le_of_ble_eq_true rfl) (fun r_2 μ_1 => ?_)
  refine J.if_eq hC eX9_holds_61 (fun _ => ?_) (fun _ => ?_)
  · refine J.sub [0, 1, 2, 3] rfl ?_
    exact j_X9_holds_68 hC hr kc_5 hk_5 p0 h0 x1 x2 x4 μ_1
  · refine J.iconst hC eX9_holds_64 ci_1 ?_
    refine J.goto hC eX9_holds_65 ?_
    refine J.sub [0, 1, 2, 3] rfl ?_
    exact j_X9_holds_69 hC hr kc_5 hk_5 p0 h0 x1 x2 x4 (1 : Int32) μ_1
def F_X9_holds_36 (kc_5 : Nat → Int32 → Int32 → Int32 → Int32 → Mem → Option (Int32 × Mem)) (p0 : Nat) (x1 : Int32) (x2 : Int32) (x3 : Int32) (x4 : Int32) (μ : Mem) : Option (Int32 × Mem) :=
  if x3 = 0 then F_X9_holds_68 kc_5 p0 x1 x2 x4 μ else gq (inB x4 6) (if (rI μ (p0 + 2) (nx x4)) = 0 then F_X9_holds_58 kc_5 p0 x1 x2 x4 p0 x4 x1 μ else F_X9_holds_58 kc_5 p0 x1 x2 x4 p0 x4 x2 μ)
set_option maxHeartbeats 4000000 in
theorem j_X9_holds_36 {C : Cx} (hC : Ok C cX9_holds 5 RX9 (rmF 1 22)) (hr : (cT C).sig.returnType = (some .boolean)) (kc_5 : Nat → Int32 → Int32 → Int32 → Int32 → Mem → Option (Int32 × Mem)) (hk_5 : ∀ (p0 : Nat) (h0 : kd p0 = 9) (x1 : Int32) (x2 : Int32) (x3 : Int32) (x4 : Int32) (μ : Mem), J C (KI C) μ 5 [(0, .ref (xad (cX C) p0)), (1, .int x1), (2, .int x2), (3, .int x3), (4, .int x4)] [] (kc_5 p0 x1 x2 x3 x4 μ)) (p0 : Nat) (h0 : kd p0 = 9) (x1 : Int32) (x2 : Int32) (x3 : Int32) (x4 : Int32) (μ : Mem) : J C (KI C) μ 36 [(0, .ref (xad (cX C) p0)), (1, .int x1), (2, .int x2), (3, .int x3), (4, .int x4)] [] (F_X9_holds_36 kc_5 p0 x1 x2 x3 x4 μ) := by
  unfold F_X9_holds_36
  refine J.iload_n (j := 3) hC eX9_holds_36 rfl ?_
  refine J.if_eq hC eX9_holds_37 (fun _ => ?_) (fun _ => ?_)
  · refine J.sub [0, 1, 2, 4] rfl ?_
    exact j_X9_holds_68 hC hr kc_5 hk_5 p0 h0 x1 x2 x4 μ
  · refine J.aload_n (j := 0) hC eX9_holds_40 rfl ?_
    refine J.iload (j := 4) hC eX9_holds_41 rfl ?_
    refine J.aload_n (j := 0) hC eX9_holds_43 rfl ?_
    refine gf_X9_15 (q := p0 + 2) hC eX9_holds_44 h0 rfl ?_
    refine J.iload (j := 4) hC eX9_holds_47 rfl ?_
    refine J.iald ik_6 hC eX9_holds_49 (kf_X9_columns h0) ?_
    refine J.if_ne hC eX9_holds_50 (fun _ => ?_) (fun _ => ?_)
    · refine J.iload_n (j := 1) hC eX9_holds_53 rfl ?_
      refine J.goto hC eX9_holds_54 ?_
      refine J.sub [0, 1, 2, 4] rfl ?_
      exact j_X9_holds_58 hC hr kc_5 hk_5 p0 h0 x1 x2 x4 p0 h0 x4 x1 μ
    · refine J.iload_n (j := 2) hC eX9_holds_57 rfl ?_
      refine J.sub [0, 1, 2, 4] rfl ?_
      exact j_X9_holds_58 hC hr kc_5 hk_5 p0 h0 x1 x2 x4 p0 h0 x4 x2 μ
def F_X9_holds_34 (kc_5 : Nat → Int32 → Int32 → Int32 → Int32 → Mem → Option (Int32 × Mem)) (p0 : Nat) (x1 : Int32) (x2 : Int32) (x4 : Int32) (μ : Mem) : Option (Int32 × Mem) :=
  F_X9_holds_36 kc_5 p0 x1 x2 (1 : Int32) x4 μ
set_option maxHeartbeats 4000000 in
theorem j_X9_holds_34 {C : Cx} (hC : Ok C cX9_holds 5 RX9 (rmF 1 22)) (hr : (cT C).sig.returnType = (some .boolean)) (kc_5 : Nat → Int32 → Int32 → Int32 → Int32 → Mem → Option (Int32 × Mem)) (hk_5 : ∀ (p0 : Nat) (h0 : kd p0 = 9) (x1 : Int32) (x2 : Int32) (x3 : Int32) (x4 : Int32) (μ : Mem), J C (KI C) μ 5 [(0, .ref (xad (cX C) p0)), (1, .int x1), (2, .int x2), (3, .int x3), (4, .int x4)] [] (kc_5 p0 x1 x2 x3 x4 μ)) (p0 : Nat) (h0 : kd p0 = 9) (x1 : Int32) (x2 : Int32) (x4 : Int32) (μ : Mem) : J C (KI C) μ 34 [(0, .ref (xad (cX C) p0)), (1, .int x1), (2, .int x2), (4, .int x4)] [] (F_X9_holds_34 kc_5 p0 x1 x2 x4 μ) := by
  unfold F_X9_holds_34
  refine J.iconst hC eX9_holds_34 ci_1 ?_
  refine J.istore_n [(3, .int (1 : Int32)), (0, .ref (xad (cX C) p0)), (1, .int x1), (2, .int x2), (4, .int x4)] hC eX9_holds_35 (by decide) rfl ?_
  refine J.sub [1, 2, 3, 0, 4] rfl ?_
  exact j_X9_holds_36 hC hr kc_5 hk_5 p0 h0 x1 x2 (1 : Int32) x4 μ
def L_X9_holds_5 : Nat → Nat → Int32 → Int32 → Int32 → Int32 → Mem → Option (Int32 × Mem)
  | 0, _, _, _, _, _, _ => none
  | n + 1, p0, x1, x2, x3, x4, μ => if (rI μ p0 4) ≤ x4 then gq (bB x3) (some (x3, μ)) else bd (G_X9_beginsTerm p0 x4 μ) (fun r_2 μ_1 => if r_2 = 0 then F_X9_holds_36 (L_X9_holds_5  n) p0 x1 x2 x3 x4 μ_1 else if x3 = 0 then F_X9_holds_34 (L_X9_holds_5  n) p0 x1 x2 x4 μ_1 else if x4 ≤ 0 then F_X9_holds_34 (L_X9_holds_5  n) p0 x1 x2 x4 μ_1 else some ((1 : Int32), μ_1))
set_option maxHeartbeats 4000000 in
theorem j_X9_holds_5 {C : Cx} (hC : Ok C cX9_holds 5 RX9 (rmF 1 22)) (hr : (cT C).sig.returnType = (some .boolean)) : ∀ (n : Nat) (p0 : Nat) (h0 : kd p0 = 9) (x1 : Int32) (x2 : Int32) (x3 : Int32) (x4 : Int32) (μ : Mem), J C (KI C) μ 5 [(0, .ref (xad (cX C) p0)), (1, .int x1), (2, .int x2), (3, .int x3), (4, .int x4)] [] (L_X9_holds_5  n p0 x1 x2 x3 x4 μ) := by
  intro n
  induction n with
  | zero => intros; exact J.no
  | succ n ih =>
    intro p0 h0 x1 x2 x3 x4 μ
    rw [L_X9_holds_5]
    refine J.iload (j := 4) hC eX9_holds_5 rfl ?_
    refine J.aload_n (j := 0) hC eX9_holds_7 rfl ?_
    refine gf_X9_29 hC eX9_holds_8 h0 ?_
    refine J.icmp_ge hC eX9_holds_11 (fun _ => ?_) (fun _ => ?_)
    · refine J.iload_n (j := 3) hC eX9_holds_76 rfl ?_
      exact J.zret hC hr eX9_holds_77
    · refine J.aload_n (j := 0) hC eX9_holds_14 rfl ?_
      refine J.iload (j := 4) hC eX9_holds_15 rfl ?_
      refine J.callVI (st := []) hC eX9_holds_17 h0 (by decide) rfl rfl ml_X9_63 mv_X9_beginsTerm (Rle_of (Nat.le_of_ble_eq_true rfl) (Nat.le_of_ble_eq_true rfl)) (c_X9_beginsTerm hC.X p0 h0 x4 μ) rfl rfl (Nat.le_of_ble_eq_true rfl) (fun r_2 μ_1 => ?_)
      refine J.if_eq hC eX9_holds_20 (fun _ => ?_) (fun _ => ?_)
      · refine J.sub [0, 1, 2, 3, 4] rfl ?_
        exact j_X9_holds_36 hC hr (L_X9_holds_5  n) ih p0 h0 x1 x2 x3 x4 μ_1
      · refine J.iload_n (j := 3) hC eX9_holds_23 rfl ?_
        refine J.if_eq hC eX9_holds_24 (fun _ => ?_) (fun _ => ?_)
        · refine J.sub [0, 1, 2, 4] rfl ?_
          exact j_X9_holds_34 hC hr (L_X9_holds_5  n) ih p0 h0 x1 x2 x4 μ_1
        · refine J.iload (j := 4) hC eX9_holds_27 rfl ?_
          refine J.if_le hC eX9_holds_29 (fun _ => ?_) (fun _ => ?_)
          · refine J.sub [0, 1, 2, 4] rfl ?_
            exact j_X9_holds_34 hC hr (L_X9_holds_5  n) ih p0 h0 x1 x2 x4 μ_1
          · refine J.iconst hC eX9_holds_32 ci_1 ?_
            exact J.zretB hC hr eX9_holds_33 rfl
def G_X9_holds (p0 : Nat) (x1 : Int32) (x2 : Int32) (μ : Mem) : Option (Int32 × Mem) :=
  L_X9_holds_5  100000 p0 x1 x2 (1 : Int32) (0 : Int32) μ
set_option maxHeartbeats 4000000 in
theorem c_X9_holds {X : Wd} (hX : WdOk X) (p0 : Nat) (h0 : kd p0 = 9) (x1 : Int32) (x2 : Int32) (μ : Mem) : CtI X yX9_holds cX9_holds 5 (some .boolean) (rmF 1 22) [.ref (xad X p0), .int x1, .int x2] μ (G_X9_holds p0 x1 x2 μ) := by
  refine CtI.of hX (plainFor_of_name (by decide)) (by exact Nat.le_of_ble_eq_true rfl) ?_
  intro C hCX hC hr
  subst hCX
  show J C (KI C) μ 0 [(0, .ref (xad (cX C) p0)), (1, .int x1), (2, .int x2)] [] _
  unfold G_X9_holds
  refine J.iconst hC eX9_holds_0 ci_1 ?_
  refine J.istore_n [(3, .int (1 : Int32)), (0, .ref (xad (cX C) p0)), (1, .int x1), (2, .int x2)] hC eX9_holds_1 (by decide) rfl ?_
  refine J.iconst hC eX9_holds_2 ci_0 ?_
  refine J.istore [(4, .int (0 : Int32)), (3, .int (1 : Int32)), (0, .ref (xad (cX C) p0)), (1, .int x1), (2, .int x2)] hC eX9_holds_3 (by decide) rfl ?_
  refine J.sub [2, 3, 4, 1, 0] rfl ?_
  exact j_X9_holds_5 hC hr  100000 p0 h0 x1 x2 (1 : Int32) (0 : Int32) μ
