-- X10_years
theorem eX10_years_0 : DD cX10_years 0 (.aload_n 0) 1 1 := ⟨by decide +kernel, rfl⟩
theorem eX10_years_1 : DD cX10_years 1 (.invokevirtual 119) 3 4 := ⟨by decide +kernel, rfl⟩
theorem eX10_years_4 : DB cX10_years 4 (.ifCond .eq 14) (14) 7 18 := ⟨by decide +kernel, rfl, by decide⟩
theorem eX10_years_7 : DD cX10_years 7 (.iload_n 1) 1 8 := ⟨by decide +kernel, rfl⟩
theorem eX10_years_8 : DD cX10_years 8 (.iconst 1) 1 9 := ⟨by decide +kernel, rfl⟩
theorem eX10_years_9 : DB cX10_years 9 (.if_icmp .lt 9) (9) 12 18 := ⟨by decide +kernel, rfl, by decide⟩
theorem eX10_years_12 : DD cX10_years 12 (.iload_n 1) 1 13 := ⟨by decide +kernel, rfl⟩
theorem eX10_years_13 : DD cX10_years 13 (.bipush 40) 2 15 := ⟨by decide +kernel, rfl⟩
theorem eX10_years_15 : DB cX10_years 15 (.if_icmp .le 5) (5) 18 20 := ⟨by decide +kernel, rfl, by decide⟩
theorem eX10_years_18 : DD cX10_years 18 (.iconst (-1)) 1 19 := ⟨by decide +kernel, rfl⟩
theorem eX10_years_19 : DD cX10_years 19 (.ireturn) 1 20 := ⟨by decide +kernel, rfl⟩
theorem eX10_years_20 : DD cX10_years 20 (.aload_n 0) 1 21 := ⟨by decide +kernel, rfl⟩
theorem eX10_years_21 : DD cX10_years 21 (.lload_n 2) 1 22 := ⟨by decide +kernel, rfl⟩
theorem eX10_years_22 : DD cX10_years 22 (.putfield 82) 3 25 := ⟨by decide +kernel, rfl⟩
theorem eX10_years_25 : DD cX10_years 25 (.iconst 0) 1 26 := ⟨by decide +kernel, rfl⟩
theorem eX10_years_26 : DD cX10_years 26 (.istore 4) 2 28 := ⟨by decide +kernel, rfl⟩
theorem eX10_years_28 : DD cX10_years 28 (.iload 4) 2 30 := ⟨by decide +kernel, rfl⟩
theorem eX10_years_30 : DD cX10_years 30 (.iload_n 1) 1 31 := ⟨by decide +kernel, rfl⟩
theorem eX10_years_31 : DB cX10_years 31 (.if_icmp .ge 13) (13) 34 44 := ⟨by decide +kernel, rfl, by decide⟩
theorem eX10_years_34 : DD cX10_years 34 (.aload_n 0) 1 35 := ⟨by decide +kernel, rfl⟩
theorem eX10_years_35 : DD cX10_years 35 (.invokevirtual 275) 3 38 := ⟨by decide +kernel, rfl⟩
theorem eX10_years_38 : DD cX10_years 38 (.iinc 4 1) 3 41 := ⟨by decide +kernel, rfl⟩
theorem eX10_years_41 : DB cX10_years 41 (.goto (-13)) (-13) 44 28 := ⟨by decide +kernel, rfl, by decide⟩
theorem eX10_years_44 : DD cX10_years 44 (.aload_n 0) 1 45 := ⟨by decide +kernel, rfl⟩
theorem eX10_years_45 : DD cX10_years 45 (.getfield 26) 3 48 := ⟨by decide +kernel, rfl⟩
theorem eX10_years_48 : DD cX10_years 48 (.invokevirtual 278) 3 51 := ⟨by decide +kernel, rfl⟩
theorem eX10_years_51 : DD cX10_years 51 (.ireturn) 1 52 := ⟨by decide +kernel, rfl⟩
def L_X10_years_28 : Nat → Int32 → Int32 → Mem → Option (Int32 × Mem)
  | 0, _, _, _ => none
  | n + 1, x1, x4, μ => if x1 ≤ x4 then bd (G_X0_allRows 7 μ) (fun r_2 μ_1 => some (r_2, μ_1)) else bd (G_X10_passYear  μ) (fun r_4 μ_3 => lb (x4 + (1 : Int32)) (fun x4_5 => L_X10_years_28  n x1 x4_5 μ_3))
set_option maxHeartbeats 4000000 in
theorem j_X10_years_28 {C : Cx} (hC : Ok C cX10_years 5 RX10 (rmF 6 157)) (hr : (cT C).sig.returnType = (some .int)) : ∀ (n : Nat) (x1 : Int32) (x4 : Int32) (μ : Mem), J C (KI C) μ 28 [(0, .ref (xad (cX C) 0)), (1, .int x1), (4, .int x4)] [] (L_X10_years_28  n x1 x4 μ) := by
  intro n
  induction n with
  | zero => intros; exact J.no
  | succ n ih =>
    intro x1 x4 μ
    rw [L_X10_years_28]
    refine J.iload (j := 2) hC eX10_years_28 rfl ?_
    refine J.iload_n (j := 1) hC eX10_years_30 rfl ?_
    refine J.icmp_ge hC eX10_years_31 (fun _ => ?_) (fun _ => ?_)
    · refine J.aload_n (j := 0) hC eX10_years_44 rfl ?_
      refine gf_X10_26 (q := 7) hC eX10_years_45 kk_0 rfl ?_
      refine J.callVI (st := []) hC eX10_years_48 kk_7 (by decide) rfl rfl ml_X10_278 mv_X0_allRows (Rle_of (Nat.le_of_ble_eq_true rfl) (Nat.le_of_ble_eq_true rfl)) (c_X0_allRows hC.X 7 kk_7 μ) rfl rfl (Nat.le_of_ble_eq_true rfl) (fun r_2 μ_1 => ?_)
      exact J.iret hC hr eX10_years_51
    · refine J.aload_n (j := 0) hC eX10_years_34 rfl ?_
      refine J.callVV (st := []) hC eX10_years_35 kk_0 (by decide) rfl rfl ml_X10_275 mv_X10_passYear (Rle_of (Nat.le_of_ble_eq_true rfl) (Nat.le_of_ble_eq_true rfl)) (c_X10_passYear hC.X  μ) rfl rfl (Nat.le_of_ble_eq_true rfl) (fun r_4 μ_3 => ?_)
      refine J.iinc (j := 2) (fun x4_5 => [(4, .int x4_5), (0, .ref (xad (cX C) 0)), (1, .int x1)]) hC eX10_years_38 rfl ci_1 (by decide) (fun _ => rfl) (fun x4_5 => ?_)
      refine J.goto hC eX10_years_41 ?_
      refine J.sub [1, 2, 0] rfl ?_
      exact ih x1 x4_5 μ_3
def G_X10_years (x1 : Int32) (l2 : Int64) (μ : Mem) : Option (Int32 × Mem) :=
  bd (G_X10_hasBook  μ) (fun r_2 μ_1 => if r_2 = 0 then some ((-1 : Int32), μ_1) else if x1 < (1 : Int32) then some ((-1 : Int32), μ_1) else if x1 ≤ (40 : Int32) then lb (wL μ_1 0 13 l2) (fun μ_3 => L_X10_years_28  100000 x1 (0 : Int32) μ_3) else some ((-1 : Int32), μ_1))
set_option maxHeartbeats 4000000 in
theorem c_X10_years {X : Wd} (hX : WdOk X) (x1 : Int32) (l2 : Int64) (μ : Mem) : CtI X yX10_years cX10_years 5 (some .int) (rmF 6 157) [.ref (xad X 0), .int x1, .long l2] μ (G_X10_years x1 l2 μ) := by
  refine CtI.of hX (plainFor_of_name (by decide)) (by exact Nat.le_of_ble_eq_true rfl) ?_
  intro C hCX hC hr
  subst hCX
  show J C (KI C) μ 0 [(0, .ref (xad (cX C) 0)), (1, .int x1), (2, .long l2)] [] _
  unfold G_X10_years
  refine J.aload_n (j := 0) hC eX10_years_0 rfl ?_
  refine J.callVI (st := []) hC eX10_years_1 kk_0 (by decide) rfl rfl ml_X10_119 mv_X10_hasBook (Rle_of (Nat.le_of_ble_eq_true rfl) (Nat.le_of_ble_eq_true rfl)) (c_X10_hasBook hC.X  μ) rfl rfl (Nat.le_of_ble_eq_true rfl) (fun r_2 μ_1 => ?_)
  refine J.if_eq hC eX10_years_4 (fun _ => ?_) (fun _ => ?_)
  · refine J.iconst hC eX10_years_18 ci_m1 ?_
    exact J.iret hC hr eX10_years_19
  · refine J.iload_n (j := 1) hC eX10_years_7 rfl ?_
    refine J.iconst hC eX10_years_8 ci_1 ?_
    refine J.icmp_lt hC eX10_years_9 (fun _ => ?_) (fun _ => ?_)
    · refine J.iconst hC eX10_years_18 ci_m1 ?_
      exact J.iret hC hr eX10_years_19
    · refine J.iload_n (j := 1) hC eX10_years_12 rfl ?_
      refine J.bipush hC eX10_years_13 cb_40 ?_
      refine J.icmp_le hC eX10_years_15 (fun _ => ?_) (fun _ => ?_)
      · refine J.aload_n (j := 0) hC eX10_years_20 rfl ?_
        refine J.lload_n (j := 2) hC eX10_years_21 rfl ?_
        refine pf_X10_82 hC eX10_years_22 kk_0 (fun μ_3 => ?_)
        refine J.iconst hC eX10_years_25 ci_0 ?_
        refine J.istore [(4, .int (0 : Int32)), (0, .ref (xad (cX C) 0)), (1, .int x1), (2, .long l2)] hC eX10_years_26 (by decide) rfl ?_
        refine J.sub [1, 2, 0] rfl ?_
        exact j_X10_years_28 hC hr  100000 x1 (0 : Int32) μ_3
      · refine J.iconst hC eX10_years_18 ci_m1 ?_
        exact J.iret hC hr eX10_years_19
-- X10_status
theorem eX10_status_0 : DD cX10_status 0 (.iload_n 1) 1 1 := ⟨by decide +kernel, rfl⟩
theorem eX10_status_1 : DB cX10_status 1 (.ifCond .lt 21) (21) 4 22 := ⟨by decide +kernel, rfl, by decide⟩
theorem eX10_status_4 : DD cX10_status 4 (.iload_n 1) 1 5 := ⟨by decide +kernel, rfl⟩
theorem eX10_status_5 : DD cX10_status 5 (.aload_n 0) 1 6 := ⟨by decide +kernel, rfl⟩
theorem eX10_status_6 : DD cX10_status 6 (.getfield 37) 3 9 := ⟨by decide +kernel, rfl⟩
theorem eX10_status_9 : DD cX10_status 9 (.arraylength) 1 10 := ⟨by decide +kernel, rfl⟩
theorem eX10_status_10 : DB cX10_status 10 (.if_icmp .ge 12) (12) 13 22 := ⟨by decide +kernel, rfl, by decide⟩
theorem eX10_status_13 : DD cX10_status 13 (.aload_n 0) 1 14 := ⟨by decide +kernel, rfl⟩
theorem eX10_status_14 : DD cX10_status 14 (.getfield 37) 3 17 := ⟨by decide +kernel, rfl⟩
theorem eX10_status_17 : DD cX10_status 17 (.iload_n 1) 1 18 := ⟨by decide +kernel, rfl⟩
theorem eX10_status_18 : DD cX10_status 18 (.iaload) 1 19 := ⟨by decide +kernel, rfl⟩
theorem eX10_status_19 : DB cX10_status 19 (.goto 4) (4) 22 23 := ⟨by decide +kernel, rfl, by decide⟩
theorem eX10_status_22 : DD cX10_status 22 (.iconst (-1)) 1 23 := ⟨by decide +kernel, rfl⟩
theorem eX10_status_23 : DD cX10_status 23 (.ireturn) 1 24 := ⟨by decide +kernel, rfl⟩
def G_X10_status (x1 : Int32) (μ : Mem) : Option (Int32 × Mem) :=
  if x1 < 0 then some ((-1 : Int32), μ) else if (5 : Int32) ≤ x1 then some ((-1 : Int32), μ) else gq (inB x1 5) (some (rI μ 64 (nx x1), μ))
set_option maxHeartbeats 4000000 in
theorem c_X10_status {X : Wd} (hX : WdOk X) (x1 : Int32) (μ : Mem) : CtI X yX10_status cX10_status 2 (some .int) (rmF 0 0) [.ref (xad X 0), .int x1] μ (G_X10_status x1 μ) := by
  refine CtI.of hX (plainFor_of_name (by decide)) (by exact Nat.le_of_ble_eq_true rfl) ?_
  intro C hCX hC hr
  subst hCX
  show J C (KI C) μ 0 [(0, .ref (xad (cX C) 0)), (1, .int x1)] [] _
  unfold G_X10_status
  refine J.iload_n (j := 1) hC eX10_status_0 rfl ?_
  refine J.if_lt hC eX10_status_1 (fun _ => ?_) (fun _ => ?_)
  · refine J.iconst hC eX10_status_22 ci_m1 ?_
    exact J.iret hC hr eX10_status_23
  · refine J.iload_n (j := 1) hC eX10_status_4 rfl ?_
    refine J.aload_n (j := 0) hC eX10_status_5 rfl ?_
    refine gf_X10_37 (q := 64) hC eX10_status_6 kk_0 rfl ?_
    refine J.alen (v := (5 : Int32)) ik_5 hC eX10_status_9 kk_64 (by decide) ?_
    refine J.icmp_ge hC eX10_status_10 (fun _ => ?_) (fun _ => ?_)
    · refine J.iconst hC eX10_status_22 ci_m1 ?_
      exact J.iret hC hr eX10_status_23
    · refine J.aload_n (j := 0) hC eX10_status_13 rfl ?_
      refine gf_X10_37 (q := 64) hC eX10_status_14 kk_0 rfl ?_
      refine J.iload_n (j := 1) hC eX10_status_17 rfl ?_
      refine J.iald ik_5 hC eX10_status_18 kk_64 ?_
      refine J.goto hC eX10_status_19 ?_
      exact J.iret hC hr eX10_status_23
-- X10_undo
theorem eX10_undo_0 : DD cX10_undo 0 (.aload_n 0) 1 1 := ⟨by decide +kernel, rfl⟩
theorem eX10_undo_1 : DD cX10_undo 1 (.getfield 44) 3 4 := ⟨by decide +kernel, rfl⟩
theorem eX10_undo_4 : DD cX10_undo 4 (.getfield 291) 3 7 := ⟨by decide +kernel, rfl⟩
theorem eX10_undo_7 : DB cX10_undo 7 (.ifCond .ne 5) (5) 10 12 := ⟨by decide +kernel, rfl, by decide⟩
theorem eX10_undo_10 : DD cX10_undo 10 (.iconst (-1)) 1 11 := ⟨by decide +kernel, rfl⟩
theorem eX10_undo_11 : DD cX10_undo 11 (.ireturn) 1 12 := ⟨by decide +kernel, rfl⟩
theorem eX10_undo_12 : DD cX10_undo 12 (.aload_n 0) 1 13 := ⟨by decide +kernel, rfl⟩
theorem eX10_undo_13 : DD cX10_undo 13 (.getfield 44) 3 16 := ⟨by decide +kernel, rfl⟩
theorem eX10_undo_16 : DD cX10_undo 16 (.aload_n 0) 1 17 := ⟨by decide +kernel, rfl⟩
theorem eX10_undo_17 : DD cX10_undo 17 (.getfield 26) 3 20 := ⟨by decide +kernel, rfl⟩
theorem eX10_undo_20 : DD cX10_undo 20 (.invokevirtual 293) 3 23 := ⟨by decide +kernel, rfl⟩
theorem eX10_undo_23 : DD cX10_undo 23 (.aload_n 0) 1 24 := ⟨by decide +kernel, rfl⟩
theorem eX10_undo_24 : DD cX10_undo 24 (.getfield 44) 3 27 := ⟨by decide +kernel, rfl⟩
theorem eX10_undo_27 : DD cX10_undo 27 (.getfield 291) 3 30 := ⟨by decide +kernel, rfl⟩
theorem eX10_undo_30 : DD cX10_undo 30 (.ireturn) 1 31 := ⟨by decide +kernel, rfl⟩
def G_X10_undo  (μ : Mem) : Option (Int32 × Mem) :=
  if (rI μ 65 1) = 0 then some ((-1 : Int32), μ) else bd (G_X6_undoLatest 7 μ) (fun r_2 μ_1 => some (rI μ_1 65 1, μ_1))
set_option maxHeartbeats 4000000 in
theorem c_X10_undo {X : Wd} (hX : WdOk X)  (μ : Mem) : CtI X yX10_undo cX10_undo 1 (some .int) (rmF 4 90) [.ref (xad X 0)] μ (G_X10_undo  μ) := by
  refine CtI.of hX (plainFor_of_name (by decide)) (by exact Nat.le_of_ble_eq_true rfl) ?_
  intro C hCX hC hr
  subst hCX
  show J C (KI C) μ 0 [(0, .ref (xad (cX C) 0))] [] _
  unfold G_X10_undo
  refine J.aload_n (j := 0) hC eX10_undo_0 rfl ?_
  refine gf_X10_44 (q := 65) hC eX10_undo_1 kk_0 rfl ?_
  refine gf_X10_291 hC eX10_undo_4 kk_65 ?_
  refine J.if_ne hC eX10_undo_7 (fun _ => ?_) (fun _ => ?_)
  · refine J.iconst hC eX10_undo_10 ci_m1 ?_
    exact J.iret hC hr eX10_undo_11
  · refine J.aload_n (j := 0) hC eX10_undo_12 rfl ?_
    refine gf_X10_44 (q := 65) hC eX10_undo_13 kk_0 rfl ?_
    refine J.aload_n (j := 0) hC eX10_undo_16 rfl ?_
    refine gf_X10_26 (q := 7) hC eX10_undo_17 kk_0 rfl ?_
    refine J.callVV (st := []) hC eX10_undo_20 kk_65 (by decide) rfl rfl ml_X10_293 mv_X6_undoLatest (Rle_of (Nat.le_of_ble_eq_true rfl) (Nat.le_of_ble_eq_true rfl)) (c_X6_undoLatest hC.X 7 kk_7 μ) rfl rfl (Nat.le_of_ble_eq_true rfl) (fun r_2 μ_1 => ?_)
    refine J.aload_n (j := 0) hC eX10_undo_23 rfl ?_
    refine gf_X10_44 (q := 65) hC eX10_undo_24 kk_0 rfl ?_
    refine gf_X10_291 hC eX10_undo_27 kk_65 ?_
    exact J.iret hC hr eX10_undo_30
-- X10_log
theorem eX10_log_0 : DD cX10_log 0 (.iload_n 1) 1 1 := ⟨by decide +kernel, rfl⟩
theorem eX10_log_1 : DB cX10_log 1 (.ifCond .lt 17) (17) 4 18 := ⟨by decide +kernel, rfl, by decide⟩
theorem eX10_log_4 : DD cX10_log 4 (.iload_n 1) 1 5 := ⟨by decide +kernel, rfl⟩
theorem eX10_log_5 : DD cX10_log 5 (.aload_n 0) 1 6 := ⟨by decide +kernel, rfl⟩
theorem eX10_log_6 : DD cX10_log 6 (.getfield 26) 3 9 := ⟨by decide +kernel, rfl⟩
theorem eX10_log_9 : DD cX10_log 9 (.getfield 247) 3 12 := ⟨by decide +kernel, rfl⟩
theorem eX10_log_12 : DD cX10_log 12 (.invokevirtual 297) 3 15 := ⟨by decide +kernel, rfl⟩
theorem eX10_log_15 : DB cX10_log 15 (.if_icmp .lt 6) (6) 18 21 := ⟨by decide +kernel, rfl, by decide⟩
theorem eX10_log_18 : DD cX10_log 18 (.ldc 178) 2 20 := ⟨by decide +kernel, rfl⟩
theorem eX10_log_20 : DD cX10_log 20 (.ireturn) 1 21 := ⟨by decide +kernel, rfl⟩
theorem eX10_log_21 : DD cX10_log 21 (.iload_n 2) 1 22 := ⟨by decide +kernel, rfl⟩
theorem eX10_log_22 : DB cX10_log 22 (.ifCond .lt 23) (23) 25 45 := ⟨by decide +kernel, rfl, by decide⟩
theorem eX10_log_25 : DD cX10_log 25 (.iload_n 2) 1 26 := ⟨by decide +kernel, rfl⟩
theorem eX10_log_26 : DD cX10_log 26 (.iconst 3) 1 27 := ⟨by decide +kernel, rfl⟩
theorem eX10_log_27 : DB cX10_log 27 (.if_icmp .ge 18) (18) 30 45 := ⟨by decide +kernel, rfl, by decide⟩
theorem eX10_log_30 : DD cX10_log 30 (.aload_n 0) 1 31 := ⟨by decide +kernel, rfl⟩
theorem eX10_log_31 : DD cX10_log 31 (.getfield 26) 3 34 := ⟨by decide +kernel, rfl⟩
theorem eX10_log_34 : DD cX10_log 34 (.getfield 247) 3 37 := ⟨by decide +kernel, rfl⟩
theorem eX10_log_37 : DD cX10_log 37 (.iload_n 1) 1 38 := ⟨by decide +kernel, rfl⟩
theorem eX10_log_38 : DD cX10_log 38 (.iload_n 2) 1 39 := ⟨by decide +kernel, rfl⟩
theorem eX10_log_39 : DD cX10_log 39 (.invokevirtual 299) 3 42 := ⟨by decide +kernel, rfl⟩
theorem eX10_log_42 : DB cX10_log 42 (.goto 5) (5) 45 47 := ⟨by decide +kernel, rfl, by decide⟩
theorem eX10_log_45 : DD cX10_log 45 (.ldc 178) 2 47 := ⟨by decide +kernel, rfl⟩
theorem eX10_log_47 : DD cX10_log 47 (.ireturn) 1 48 := ⟨by decide +kernel, rfl⟩
def G_X10_log (x1 : Int32) (x2 : Int32) (μ : Mem) : Option (Int32 × Mem) :=
  if x1 < 0 then some ((-1000000 : Int32), μ) else bd (G_X3_length 36 μ) (fun r_2 μ_1 => if x1 < r_2 then if x2 < 0 then some ((-1000000 : Int32), μ_1) else if (3 : Int32) ≤ x2 then some ((-1000000 : Int32), μ_1) else bd (G_X3_read 36 x1 x2 μ_1) (fun r_4 μ_3 => some (r_4, μ_3)) else some ((-1000000 : Int32), μ_1))
set_option maxHeartbeats 4000000 in
theorem c_X10_log {X : Wd} (hX : WdOk X) (x1 : Int32) (x2 : Int32) (μ : Mem) : CtI X yX10_log cX10_log 3 (some .int) (rmF 2 44) [.ref (xad X 0), .int x1, .int x2] μ (G_X10_log x1 x2 μ) := by
  refine CtI.of hX (plainFor_of_name (by decide)) (by exact Nat.le_of_ble_eq_true rfl) ?_
  intro C hCX hC hr
  subst hCX
  show J C (KI C) μ 0 [(0, .ref (xad (cX C) 0)), (1, .int x1), (2, .int x2)] [] _
  unfold G_X10_log
  refine J.iload_n (j := 1) hC eX10_log_0 rfl ?_
  refine J.if_lt hC eX10_log_1 (fun _ => ?_) (fun _ => ?_)
  · refine J.ldc hC eX10_log_18 mk_X10_178 ?_
    exact J.iret hC hr eX10_log_20
  · refine J.iload_n (j := 1) hC eX10_log_4 rfl ?_
    refine J.aload_n (j := 0) hC eX10_log_5 rfl ?_
    refine gf_X10_26 (q := 7) hC eX10_log_6 kk_0 rfl ?_
    refine gf_X10_247 (q := 36) hC eX10_log_9 kk_7 rfl ?_
    refine J.callVI (st := [.int x1]) hC eX10_log_12 kk_36 (by decide) rfl rfl ml_X10_297 mv_X3_length (Rle_of (Nat.le_of_ble_eq_true rfl) (Nat.le_of_ble_eq_true rfl)) (c_X3_length hC.X 36 kk_36 μ) rfl rfl (Nat.le_of_ble_eq_true rfl) (fun r_2 μ_1 => ?_)
    refine J.icmp_lt hC eX10_log_15 (fun _ => ?_) (fun _ => ?_)
    · refine J.iload_n (j := 2) hC eX10_log_21 rfl ?_
      refine J.if_lt hC eX10_log_22 (fun _ => ?_) (fun _ => ?_)
      · refine J.ldc hC eX10_log_45 mk_X10_178 ?_
        exact J.iret hC hr eX10_log_47
      · refine J.iload_n (j := 2) hC eX10_log_25 rfl ?_
        refine J.iconst hC eX10_log_26 ci_3 ?_
        refine J.icmp_ge hC eX10_log_27 (fun _ => ?_) (fun _ => ?_)
        · refine J.ldc hC eX10_log_45 mk_X10_178 ?_
          exact J.iret hC hr eX10_log_47
        · refine J.aload_n (j := 0) hC eX10_log_30 rfl ?_
          refine gf_X10_26 (q := 7) hC eX10_log_31 kk_0 rfl ?_
          refine gf_X10_247 (q := 36) hC eX10_log_34 kk_7 rfl ?_
          refine J.iload_n (j := 1) hC eX10_log_37 rfl ?_
          refine J.iload_n (j := 2) hC eX10_log_38 rfl ?_
          refine J.callVI (st := []) hC eX10_log_39 kk_36 (by decide) rfl rfl ml_X10_299 mv_X3_read (Rle_of (Nat.le_of_ble_eq_true rfl) (Nat.le_of_ble_eq_true rfl)) (c_X3_read hC.X 36 kk_36 x1 x2 μ_1) rfl rfl (Nat.le_of_ble_eq_true rfl) (fun r_4 μ_3 => ?_)
          refine J.goto hC eX10_log_42 ?_
          exact J.iret hC hr eX10_log_47
    · refine J.ldc hC eX10_log_18 mk_X10_178 ?_
      exact J.iret hC hr eX10_log_20
-- X10_hasWhere
theorem eX10_hasWhere_0 : DD cX10_hasWhere 0 (.iload_n 1) 1 1 := ⟨by decide +kernel, rfl⟩
theorem eX10_hasWhere_1 : DB cX10_hasWhere 1 (.ifCond .lt 15) (15) 4 16 := ⟨by decide +kernel, rfl, by decide⟩
theorem eX10_hasWhere_4 : DD cX10_hasWhere 4 (.iload_n 1) 1 5 := ⟨by decide +kernel, rfl⟩
theorem eX10_hasWhere_5 : DD cX10_hasWhere 5 (.aload_n 0) 1 6 := ⟨by decide +kernel, rfl⟩
theorem eX10_hasWhere_6 : DD cX10_hasWhere 6 (.getfield 75) 3 9 := ⟨by decide +kernel, rfl⟩
theorem eX10_hasWhere_9 : DB cX10_hasWhere 9 (.if_icmp .ge 7) (7) 12 16 := ⟨by decide +kernel, rfl, by decide⟩
theorem eX10_hasWhere_12 : DD cX10_hasWhere 12 (.iconst 1) 1 13 := ⟨by decide +kernel, rfl⟩
theorem eX10_hasWhere_13 : DB cX10_hasWhere 13 (.goto 4) (4) 16 17 := ⟨by decide +kernel, rfl, by decide⟩
theorem eX10_hasWhere_16 : DD cX10_hasWhere 16 (.iconst 0) 1 17 := ⟨by decide +kernel, rfl⟩
theorem eX10_hasWhere_17 : DD cX10_hasWhere 17 (.ireturn) 1 18 := ⟨by decide +kernel, rfl⟩
def G_X10_hasWhere (x1 : Int32) (μ : Mem) : Option (Int32 × Mem) :=
  if x1 < 0 then some ((0 : Int32), μ) else if (rI μ 0 11) ≤ x1 then some ((0 : Int32), μ) else some ((1 : Int32), μ)
set_option maxHeartbeats 4000000 in
theorem c_X10_hasWhere {X : Wd} (hX : WdOk X) (x1 : Int32) (μ : Mem) : CtI X yX10_hasWhere cX10_hasWhere 2 (some .boolean) (rmF 0 0) [.ref (xad X 0), .int x1] μ (G_X10_hasWhere x1 μ) := by
  refine CtI.of hX (plainFor_of_name (by decide)) (by exact Nat.le_of_ble_eq_true rfl) ?_
  intro C hCX hC hr
  subst hCX
  show J C (KI C) μ 0 [(0, .ref (xad (cX C) 0)), (1, .int x1)] [] _
  unfold G_X10_hasWhere
  refine J.iload_n (j := 1) hC eX10_hasWhere_0 rfl ?_
  refine J.if_lt hC eX10_hasWhere_1 (fun _ => ?_) (fun _ => ?_)
  · refine J.iconst hC eX10_hasWhere_16 ci_0 ?_
    exact J.zretB hC hr eX10_hasWhere_17 rfl
  · refine J.iload_n (j := 1) hC eX10_hasWhere_4 rfl ?_
    refine J.aload_n (j := 0) hC eX10_hasWhere_5 rfl ?_
    refine gf_X10_75 hC eX10_hasWhere_6 kk_0 ?_
    refine J.icmp_ge hC eX10_hasWhere_9 (fun _ => ?_) (fun _ => ?_)
    · refine J.iconst hC eX10_hasWhere_16 ci_0 ?_
      exact J.zretB hC hr eX10_hasWhere_17 rfl
    · refine J.iconst hC eX10_hasWhere_12 ci_1 ?_
      refine J.goto hC eX10_hasWhere_13 ?_
      exact J.zretB hC hr eX10_hasWhere_17 rfl
-- X10_beginLook
theorem eX10_beginLook_0 : DD cX10_beginLook 0 (.aload_n 0) 1 1 := ⟨by decide +kernel, rfl⟩
theorem eX10_beginLook_1 : DD cX10_beginLook 1 (.iconst 0) 1 2 := ⟨by decide +kernel, rfl⟩
theorem eX10_beginLook_2 : DD cX10_beginLook 2 (.putfield 79) 3 5 := ⟨by decide +kernel, rfl⟩
theorem eX10_beginLook_5 : DD cX10_beginLook 5 (.return_) 1 6 := ⟨by decide +kernel, rfl⟩
def G_X10_beginLook  (μ : Mem) : Option (Unit × Mem) :=
  lb (wI μ 0 12 (0 : Int32)) (fun μ_1 => some ((), μ_1))
set_option maxHeartbeats 4000000 in
theorem c_X10_beginLook {X : Wd} (hX : WdOk X)  (μ : Mem) : CtV X yX10_beginLook cX10_beginLook 1 none (rmF 0 0) [.ref (xad X 0)] μ (G_X10_beginLook  μ) := by
  refine CtV.of hX (plainFor_of_name (by decide)) (by exact Nat.le_of_ble_eq_true rfl) ?_
  intro C hCX hC hr
  subst hCX
  show J C (KV C) μ 0 [(0, .ref (xad (cX C) 0))] [] _
  unfold G_X10_beginLook
  refine J.aload_n (j := 0) hC eX10_beginLook_0 rfl ?_
  refine J.iconst hC eX10_beginLook_1 ci_0 ?_
  refine pf_X10_79 hC eX10_beginLook_2 kk_0 (fun μ_1 => ?_)
  exact J.vret hC hr eX10_beginLook_5
-- X10_take
theorem eX10_take_0 : DD cX10_take 0 (.aload_n 0) 1 1 := ⟨by decide +kernel, rfl⟩
theorem eX10_take_1 : DD cX10_take 1 (.getfield 79) 3 4 := ⟨by decide +kernel, rfl⟩
theorem eX10_take_4 : DD cX10_take 4 (.iconst 3) 1 5 := ⟨by decide +kernel, rfl⟩
theorem eX10_take_5 : DB cX10_take 5 (.if_icmp .ge 23) (23) 8 28 := ⟨by decide +kernel, rfl, by decide⟩
theorem eX10_take_8 : DD cX10_take 8 (.aload_n 0) 1 9 := ⟨by decide +kernel, rfl⟩
theorem eX10_take_9 : DD cX10_take 9 (.getfield 51) 3 12 := ⟨by decide +kernel, rfl⟩
theorem eX10_take_12 : DD cX10_take 12 (.aload_n 0) 1 13 := ⟨by decide +kernel, rfl⟩
theorem eX10_take_13 : DD cX10_take 13 (.getfield 79) 3 16 := ⟨by decide +kernel, rfl⟩
theorem eX10_take_16 : DD cX10_take 16 (.iload_n 1) 1 17 := ⟨by decide +kernel, rfl⟩
theorem eX10_take_17 : DD cX10_take 17 (.iastore) 1 18 := ⟨by decide +kernel, rfl⟩
theorem eX10_take_18 : DD cX10_take 18 (.aload_n 0) 1 19 := ⟨by decide +kernel, rfl⟩
theorem eX10_take_19 : DD cX10_take 19 (.dup) 1 20 := ⟨by decide +kernel, rfl⟩
theorem eX10_take_20 : DD cX10_take 20 (.getfield 79) 3 23 := ⟨by decide +kernel, rfl⟩
theorem eX10_take_23 : DD cX10_take 23 (.iconst 1) 1 24 := ⟨by decide +kernel, rfl⟩
theorem eX10_take_24 : DD cX10_take 24 (.iadd) 1 25 := ⟨by decide +kernel, rfl⟩
theorem eX10_take_25 : DD cX10_take 25 (.putfield 79) 3 28 := ⟨by decide +kernel, rfl⟩
theorem eX10_take_28 : DD cX10_take 28 (.return_) 1 29 := ⟨by decide +kernel, rfl⟩
def G_X10_take (x1 : Int32) (μ : Mem) : Option (Unit × Mem) :=
  if (3 : Int32) ≤ (rI μ 0 12) then some ((), μ) else gq (inB (rI μ 0 12) 6) (lb (wI μ 98 (nx (rI μ 0 12)) x1) (fun μ_1 => lb (wI μ_1 0 12 ((rI μ_1 0 12) + (1 : Int32))) (fun μ_2 => some ((), μ_2))))
set_option maxHeartbeats 4000000 in
theorem c_X10_take {X : Wd} (hX : WdOk X) (x1 : Int32) (μ : Mem) : CtV X yX10_take cX10_take 2 none (rmF 0 0) [.ref (xad X 0), .int x1] μ (G_X10_take x1 μ) := by
  refine CtV.of hX (plainFor_of_name (by decide)) (by exact Nat.le_of_ble_eq_true rfl) ?_
  intro C hCX hC hr
  subst hCX
  show J C (KV C) μ 0 [(0, .ref (xad (cX C) 0)), (1, .int x1)] [] _
  unfold G_X10_take
  refine J.aload_n (j := 0) hC eX10_take_0 rfl ?_
  refine gf_X10_79 hC eX10_take_1 kk_0 ?_
  refine J.iconst hC eX10_take_4 ci_3 ?_
  refine J.icmp_ge hC eX10_take_5 (fun _ => ?_) (fun _ => ?_)
  · exact J.vret hC hr eX10_take_28
  · refine J.aload_n (j := 0) hC eX10_take_8 rfl ?_
    refine gf_X10_51 (q := 98) hC eX10_take_9 kk_0 rfl ?_
    refine J.aload_n (j := 0) hC eX10_take_12 rfl ?_
    refine gf_X10_79 hC eX10_take_13 kk_0 ?_
    refine J.iload_n (j := 1) hC eX10_take_16 rfl ?_
    refine J.iast ik_6 hC eX10_take_17 kk_98 (fun μ_1 => ?_)
    refine J.aload_n (j := 0) hC eX10_take_18 rfl ?_
    refine J.dup hC eX10_take_19 rfl ?_
    refine gf_X10_79 hC eX10_take_20 kk_0 ?_
    refine J.iconst hC eX10_take_23 ci_1 ?_
    refine J.iadd hC eX10_take_24 ?_
    refine pf_X10_79 hC eX10_take_25 kk_0 (fun μ_2 => ?_)
    exact J.vret hC hr eX10_take_28
-- X10_endLook
theorem eX10_endLook_0 : DD cX10_endLook 0 (.aload_n 0) 1 1 := ⟨by decide +kernel, rfl⟩
theorem eX10_endLook_1 : DD cX10_endLook 1 (.getfield 79) 3 4 := ⟨by decide +kernel, rfl⟩
theorem eX10_endLook_4 : DD cX10_endLook 4 (.iconst 3) 1 5 := ⟨by decide +kernel, rfl⟩
theorem eX10_endLook_5 : DD cX10_endLook 5 (.invokestatic 353) 3 8 := ⟨by decide +kernel, rfl⟩
theorem eX10_endLook_8 : DD cX10_endLook 8 (.istore_n 3) 1 9 := ⟨by decide +kernel, rfl⟩
theorem eX10_endLook_9 : DD cX10_endLook 9 (.iconst 0) 1 10 := ⟨by decide +kernel, rfl⟩
theorem eX10_endLook_10 : DD cX10_endLook 10 (.istore 4) 2 12 := ⟨by decide +kernel, rfl⟩
theorem eX10_endLook_12 : DD cX10_endLook 12 (.iload 4) 2 14 := ⟨by decide +kernel, rfl⟩
theorem eX10_endLook_14 : DD cX10_endLook 14 (.iload_n 3) 1 15 := ⟨by decide +kernel, rfl⟩
theorem eX10_endLook_15 : DB cX10_endLook 15 (.if_icmp .ge 32) (32) 18 47 := ⟨by decide +kernel, rfl, by decide⟩
theorem eX10_endLook_18 : DD cX10_endLook 18 (.aload_n 0) 1 19 := ⟨by decide +kernel, rfl⟩
theorem eX10_endLook_19 : DD cX10_endLook 19 (.getfield 51) 3 22 := ⟨by decide +kernel, rfl⟩
theorem eX10_endLook_22 : DD cX10_endLook 22 (.iload_n 3) 1 23 := ⟨by decide +kernel, rfl⟩
theorem eX10_endLook_23 : DD cX10_endLook 23 (.iload 4) 2 25 := ⟨by decide +kernel, rfl⟩
theorem eX10_endLook_25 : DD cX10_endLook 25 (.iadd) 1 26 := ⟨by decide +kernel, rfl⟩
theorem eX10_endLook_26 : DD cX10_endLook 26 (.bipush 10) 2 28 := ⟨by decide +kernel, rfl⟩
theorem eX10_endLook_28 : DD cX10_endLook 28 (.aload_n 0) 1 29 := ⟨by decide +kernel, rfl⟩
theorem eX10_endLook_29 : DD cX10_endLook 29 (.getfield 51) 3 32 := ⟨by decide +kernel, rfl⟩
theorem eX10_endLook_32 : DD cX10_endLook 32 (.iload_n 3) 1 33 := ⟨by decide +kernel, rfl⟩
theorem eX10_endLook_33 : DD cX10_endLook 33 (.iconst 1) 1 34 := ⟨by decide +kernel, rfl⟩
theorem eX10_endLook_34 : DD cX10_endLook 34 (.isub) 1 35 := ⟨by decide +kernel, rfl⟩
theorem eX10_endLook_35 : DD cX10_endLook 35 (.iload 4) 2 37 := ⟨by decide +kernel, rfl⟩
theorem eX10_endLook_37 : DD cX10_endLook 37 (.isub) 1 38 := ⟨by decide +kernel, rfl⟩
theorem eX10_endLook_38 : DD cX10_endLook 38 (.iaload) 1 39 := ⟨by decide +kernel, rfl⟩
theorem eX10_endLook_39 : DD cX10_endLook 39 (.iadd) 1 40 := ⟨by decide +kernel, rfl⟩
theorem eX10_endLook_40 : DD cX10_endLook 40 (.iastore) 1 41 := ⟨by decide +kernel, rfl⟩
theorem eX10_endLook_41 : DD cX10_endLook 41 (.iinc 4 1) 3 44 := ⟨by decide +kernel, rfl⟩
theorem eX10_endLook_44 : DB cX10_endLook 44 (.goto (-32)) (-32) 47 12 := ⟨by decide +kernel, rfl, by decide⟩
theorem eX10_endLook_47 : DD cX10_endLook 47 (.aload_n 0) 1 48 := ⟨by decide +kernel, rfl⟩
theorem eX10_endLook_48 : DD cX10_endLook 48 (.iconst 2) 1 49 := ⟨by decide +kernel, rfl⟩
theorem eX10_endLook_49 : DD cX10_endLook 49 (.iload_n 3) 1 50 := ⟨by decide +kernel, rfl⟩
theorem eX10_endLook_50 : DD cX10_endLook 50 (.imul) 1 51 := ⟨by decide +kernel, rfl⟩
theorem eX10_endLook_51 : DD cX10_endLook 51 (.putfield 79) 3 54 := ⟨by decide +kernel, rfl⟩
theorem eX10_endLook_54 : DD cX10_endLook 54 (.lload_n 1) 1 55 := ⟨by decide +kernel, rfl⟩
theorem eX10_endLook_55 : DD cX10_endLook 55 (.ldc2_w 207) 3 58 := ⟨by decide +kernel, rfl⟩
theorem eX10_endLook_58 : DD cX10_endLook 58 (.lcmp) 1 59 := ⟨by decide +kernel, rfl⟩
theorem eX10_endLook_59 : DB cX10_endLook 59 (.ifCond .ne 13) (13) 62 72 := ⟨by decide +kernel, rfl, by decide⟩
theorem eX10_endLook_62 : DD cX10_endLook 62 (.aload_n 0) 1 63 := ⟨by decide +kernel, rfl⟩
theorem eX10_endLook_63 : DD cX10_endLook 63 (.getfield 37) 3 66 := ⟨by decide +kernel, rfl⟩
theorem eX10_endLook_66 : DD cX10_endLook 66 (.iconst 4) 1 67 := ⟨by decide +kernel, rfl⟩
theorem eX10_endLook_67 : DD cX10_endLook 67 (.dup2) 1 68 := ⟨by decide +kernel, rfl⟩
theorem eX10_endLook_68 : DD cX10_endLook 68 (.iaload) 1 69 := ⟨by decide +kernel, rfl⟩
theorem eX10_endLook_69 : DD cX10_endLook 69 (.iconst 1) 1 70 := ⟨by decide +kernel, rfl⟩
theorem eX10_endLook_70 : DD cX10_endLook 70 (.iadd) 1 71 := ⟨by decide +kernel, rfl⟩
theorem eX10_endLook_71 : DD cX10_endLook 71 (.iastore) 1 72 := ⟨by decide +kernel, rfl⟩
theorem eX10_endLook_72 : DD cX10_endLook 72 (.lload_n 1) 1 73 := ⟨by decide +kernel, rfl⟩
theorem eX10_endLook_73 : DD cX10_endLook 73 (.lreturn) 1 74 := ⟨by decide +kernel, rfl⟩
def L_X10_endLook_12 : Nat → Int64 → Int32 → Int32 → Mem → Option (Int64 × Mem)
  | 0, _, _, _, _ => none
  | n + 1, l1, x3, x4, μ => if x3 ≤ x4 then lb (wI μ 0 12 ((2 : Int32) * x3)) (fun μ_1 => if (lg_cmp l1 (-1 : Int64)) = 0 then lb (wI μ_1 64 4 ((rI μ_1 64 4) + (1 : Int32))) (fun μ_2 => some (l1, μ_2)) else some (l1, μ_1)) else gq (inB ((x3 - (1 : Int32)) - x4) 6) (gq (inB (x3 + x4) 6) (lb (wI μ 98 (nx (x3 + x4)) ((10 : Int32) + (rI μ 98 (nx ((x3 - (1 : Int32)) - x4))))) (fun μ_3 => lb (x4 + (1 : Int32)) (fun x4_4 => L_X10_endLook_12  n l1 x3 x4_4 μ_3))))
set_option maxHeartbeats 4000000 in
theorem j_X10_endLook_12 {C : Cx} (hC : Ok C cX10_endLook 5 RX10 (rmF 1 15)) (hr : (cT C).sig.returnType = (some .long)) : ∀ (n : Nat) (l1 : Int64) (x3 : Int32) (x4 : Int32) (μ : Mem), J C (KL C) μ 12 [(0, .ref (xad (cX C) 0)), (1, .long l1), (3, .int x3), (4, .int x4)] [] (L_X10_endLook_12  n l1 x3 x4 μ) := by
  intro n
  induction n with
  | zero => intros; exact J.no
  | succ n ih =>
    intro l1 x3 x4 μ
    rw [L_X10_endLook_12]
    refine J.iload (j := 3) hC eX10_endLook_12 rfl ?_
    refine J.iload_n (j := 2) hC eX10_endLook_14 rfl ?_
    refine J.icmp_ge hC eX10_endLook_15 (fun _ => ?_) (fun _ => ?_)
    · refine J.aload_n (j := 0) hC eX10_endLook_47 rfl ?_
      refine J.iconst hC eX10_endLook_48 ci_2 ?_
      refine J.iload_n (j := 2) hC eX10_endLook_49 rfl ?_
      refine J.imul hC eX10_endLook_50 ?_
      refine pf_X10_79 hC eX10_endLook_51 kk_0 (fun μ_1 => ?_)
      refine J.lload_n (j := 1) hC eX10_endLook_54 rfl ?_
      refine J.ldc2 hC eX10_endLook_55 mk_X10_207 ?_
      refine J.lcmp hC eX10_endLook_58 ?_
      refine J.if_ne hC eX10_endLook_59 (fun _ => ?_) (fun _ => ?_)
      · refine J.aload_n (j := 0) hC eX10_endLook_62 rfl ?_
        refine gf_X10_37 (q := 64) hC eX10_endLook_63 kk_0 rfl ?_
        refine J.iconst hC eX10_endLook_66 ci_4 ?_
        refine J.dup2 hC eX10_endLook_67 rfl rfl ?_
        refine J.ialdK (j := 4) ik_5 hC eX10_endLook_68 kk_64 (by decide) (by decide) ?_
        refine J.iconst hC eX10_endLook_69 ci_1 ?_
        refine J.iadd hC eX10_endLook_70 ?_
        refine J.iastK (j := 4) ik_5 hC eX10_endLook_71 kk_64 (by decide) (by decide) (fun μ_2 => ?_)
        refine J.lload_n (j := 1) hC eX10_endLook_72 rfl ?_
        exact J.lret hC hr eX10_endLook_73
      · refine J.lload_n (j := 1) hC eX10_endLook_72 rfl ?_
        exact J.lret hC hr eX10_endLook_73
    · refine J.aload_n (j := 0) hC eX10_endLook_18 rfl ?_
      refine gf_X10_51 (q := 98) hC eX10_endLook_19 kk_0 rfl ?_
      refine J.iload_n (j := 2) hC eX10_endLook_22 rfl ?_
      refine J.iload (j := 3) hC eX10_endLook_23 rfl ?_
      refine J.iadd hC eX10_endLook_25 ?_
      refine J.bipush hC eX10_endLook_26 cb_10 ?_
      refine J.aload_n (j := 0) hC eX10_endLook_28 rfl ?_
      refine gf_X10_51 (q := 98) hC eX10_endLook_29 kk_0 rfl ?_
      refine J.iload_n (j := 2) hC eX10_endLook_32 rfl ?_
      refine J.iconst hC eX10_endLook_33 ci_1 ?_
      refine J.isub hC eX10_endLook_34 ?_
      refine J.iload (j := 3) hC eX10_endLook_35 rfl ?_
      refine J.isub hC eX10_endLook_37 ?_
      refine J.iald ik_6 hC eX10_endLook_38 kk_98 ?_
      refine J.iadd hC eX10_endLook_39 ?_
      refine J.iast ik_6 hC eX10_endLook_40 kk_98 (fun μ_3 => ?_)
      refine J.iinc (j := 3) (fun x4_4 => [(4, .int x4_4), (0, .ref (xad (cX C) 0)), (1, .long l1), (3, .int x3)]) hC eX10_endLook_41 rfl ci_1 (by decide) (fun _ => rfl) (fun x4_4 => ?_)
      refine J.goto hC eX10_endLook_44 ?_
      refine J.sub [1, 2, 3, 0] rfl ?_
      exact ih l1 x3 x4_4 μ_3
def G_X10_endLook (l1 : Int64) (μ : Mem) : Option (Int64 × Mem) :=
  lb (imin (rI μ 0 12) (3 : Int32)) (fun x3_1 => L_X10_endLook_12  100000 l1 x3_1 (0 : Int32) μ)
set_option maxHeartbeats 4000000 in
theorem c_X10_endLook {X : Wd} (hX : WdOk X) (l1 : Int64) (μ : Mem) : CtL X yX10_endLook cX10_endLook 5 (some .long) (rmF 1 15) [.ref (xad X 0), .long l1] μ (G_X10_endLook l1 μ) := by
  refine CtL.of hX (plainFor_of_name (by decide)) (by exact Nat.le_of_ble_eq_true rfl) ?_
  intro C hCX hC hr
  subst hCX
  show J C (KL C) μ 0 [(0, .ref (xad (cX C) 0)), (1, .long l1)] [] _
  unfold G_X10_endLook
  refine J.aload_n (j := 0) hC eX10_endLook_0 rfl ?_
  refine gf_X10_79 hC eX10_endLook_1 kk_0 ?_
  refine J.iconst hC eX10_endLook_4 ci_3 ?_
  refine J.mmin hC eX10_endLook_5 ml_X10_353 w_smin w_im w_cmin (Nat.le_of_ble_eq_true rfl) (Nat.le_of_ble_eq_true rfl) ?_
  refine J.topi (fun x3_1 => ?_)
  refine J.istore_n [(3, .int x3_1), (0, .ref (xad (cX C) 0)), (1, .long l1)] hC eX10_endLook_8 (by decide) rfl ?_
  refine J.iconst hC eX10_endLook_9 ci_0 ?_
  refine J.istore [(4, .int (0 : Int32)), (3, .int x3_1), (0, .ref (xad (cX C) 0)), (1, .long l1)] hC eX10_endLook_10 (by decide) rfl ?_
  refine J.sub [2, 3, 1, 0] rfl ?_
  exact j_X10_endLook_12 hC hr  100000 l1 x3_1 (0 : Int32) μ
-- X10_where
theorem eX10_where_0 : DD cX10_where 0 (.aload_n 0) 1 1 := ⟨by decide +kernel, rfl⟩
theorem eX10_where_1 : DD cX10_where 1 (.iload_n 1) 1 2 := ⟨by decide +kernel, rfl⟩
theorem eX10_where_2 : DD cX10_where 2 (.invokevirtual 132) 3 5 := ⟨by decide +kernel, rfl⟩
theorem eX10_where_5 : DB cX10_where 5 (.ifCond .eq 20) (20) 8 25 := ⟨by decide +kernel, rfl, by decide⟩
theorem eX10_where_8 : DD cX10_where 8 (.aload_n 0) 1 9 := ⟨by decide +kernel, rfl⟩
theorem eX10_where_9 : DD cX10_where 9 (.iload_n 2) 1 10 := ⟨by decide +kernel, rfl⟩
theorem eX10_where_10 : DD cX10_where 10 (.invokevirtual 301) 3 13 := ⟨by decide +kernel, rfl⟩
theorem eX10_where_13 : DB cX10_where 13 (.ifCond .eq 12) (12) 16 25 := ⟨by decide +kernel, rfl, by decide⟩
theorem eX10_where_16 : DD cX10_where 16 (.iload_n 3) 1 17 := ⟨by decide +kernel, rfl⟩
theorem eX10_where_17 : DB cX10_where 17 (.ifCond .lt 8) (8) 20 25 := ⟨by decide +kernel, rfl, by decide⟩
theorem eX10_where_20 : DD cX10_where 20 (.iload_n 3) 1 21 := ⟨by decide +kernel, rfl⟩
theorem eX10_where_21 : DD cX10_where 21 (.iconst 3) 1 22 := ⟨by decide +kernel, rfl⟩
theorem eX10_where_22 : DB cX10_where 22 (.if_icmp .le 5) (5) 25 27 := ⟨by decide +kernel, rfl, by decide⟩
theorem eX10_where_25 : DD cX10_where 25 (.iconst (-1)) 1 26 := ⟨by decide +kernel, rfl⟩
theorem eX10_where_26 : DD cX10_where 26 (.ireturn) 1 27 := ⟨by decide +kernel, rfl⟩
theorem eX10_where_27 : DD cX10_where 27 (.aload_n 0) 1 28 := ⟨by decide +kernel, rfl⟩
theorem eX10_where_28 : DD cX10_where 28 (.getfield 26) 3 31 := ⟨by decide +kernel, rfl⟩
theorem eX10_where_31 : DD cX10_where 31 (.getfield 143) 3 34 := ⟨by decide +kernel, rfl⟩
theorem eX10_where_34 : DD cX10_where 34 (.iload_n 1) 1 35 := ⟨by decide +kernel, rfl⟩
theorem eX10_where_35 : DD cX10_where 35 (.aaload) 1 36 := ⟨by decide +kernel, rfl⟩
theorem eX10_where_36 : DD cX10_where 36 (.astore 4) 2 38 := ⟨by decide +kernel, rfl⟩
theorem eX10_where_38 : DD cX10_where 38 (.iload_n 3) 1 39 := ⟨by decide +kernel, rfl⟩
theorem eX10_where_39 : DB cX10_where 39 (.ifCond .ne 36) (36) 42 75 := ⟨by decide +kernel, rfl, by decide⟩
theorem eX10_where_42 : DD cX10_where 42 (.aload_n 0) 1 43 := ⟨by decide +kernel, rfl⟩
theorem eX10_where_43 : DD cX10_where 43 (.invokevirtual 304) 3 46 := ⟨by decide +kernel, rfl⟩
theorem eX10_where_46 : DD cX10_where 46 (.aload_n 0) 1 47 := ⟨by decide +kernel, rfl⟩
theorem eX10_where_47 : DD cX10_where 47 (.iload_n 1) 1 48 := ⟨by decide +kernel, rfl⟩
theorem eX10_where_48 : DD cX10_where 48 (.invokevirtual 307) 3 51 := ⟨by decide +kernel, rfl⟩
theorem eX10_where_51 : DD cX10_where 51 (.aload_n 0) 1 52 := ⟨by decide +kernel, rfl⟩
theorem eX10_where_52 : DD cX10_where 52 (.aload 4) 2 54 := ⟨by decide +kernel, rfl⟩
theorem eX10_where_54 : DD cX10_where 54 (.aload_n 0) 1 55 := ⟨by decide +kernel, rfl⟩
theorem eX10_where_55 : DD cX10_where 55 (.getfield 32) 3 58 := ⟨by decide +kernel, rfl⟩
theorem eX10_where_58 : DD cX10_where 58 (.iload_n 2) 1 59 := ⟨by decide +kernel, rfl⟩
theorem eX10_where_59 : DD cX10_where 59 (.aaload) 1 60 := ⟨by decide +kernel, rfl⟩
theorem eX10_where_60 : DD cX10_where 60 (.aload_n 0) 1 61 := ⟨by decide +kernel, rfl⟩
theorem eX10_where_61 : DD cX10_where 61 (.getfield 26) 3 64 := ⟨by decide +kernel, rfl⟩
theorem eX10_where_64 : DD cX10_where 64 (.getfield 129) 3 67 := ⟨by decide +kernel, rfl⟩
theorem eX10_where_67 : DD cX10_where 67 (.invokevirtual 310) 3 70 := ⟨by decide +kernel, rfl⟩
theorem eX10_where_70 : DD cX10_where 70 (.invokevirtual 314) 3 73 := ⟨by decide +kernel, rfl⟩
theorem eX10_where_73 : DD cX10_where 73 (.l2i) 1 74 := ⟨by decide +kernel, rfl⟩
theorem eX10_where_74 : DD cX10_where 74 (.ireturn) 1 75 := ⟨by decide +kernel, rfl⟩
theorem eX10_where_75 : DD cX10_where 75 (.aload_n 0) 1 76 := ⟨by decide +kernel, rfl⟩
theorem eX10_where_76 : DD cX10_where 76 (.getfield 64) 3 79 := ⟨by decide +kernel, rfl⟩
theorem eX10_where_79 : DD cX10_where 79 (.aload_n 0) 1 80 := ⟨by decide +kernel, rfl⟩
theorem eX10_where_80 : DD cX10_where 80 (.getfield 32) 3 83 := ⟨by decide +kernel, rfl⟩
theorem eX10_where_83 : DD cX10_where 83 (.iload_n 2) 1 84 := ⟨by decide +kernel, rfl⟩
theorem eX10_where_84 : DD cX10_where 84 (.aaload) 1 85 := ⟨by decide +kernel, rfl⟩
theorem eX10_where_85 : DD cX10_where 85 (.aload 4) 2 87 := ⟨by decide +kernel, rfl⟩
theorem eX10_where_87 : DD cX10_where 87 (.aload 4) 2 89 := ⟨by decide +kernel, rfl⟩
theorem eX10_where_89 : DD cX10_where 89 (.getfield 155) 3 92 := ⟨by decide +kernel, rfl⟩
theorem eX10_where_92 : DD cX10_where 92 (.iconst 0) 1 93 := ⟨by decide +kernel, rfl⟩
theorem eX10_where_93 : DD cX10_where 93 (.aaload) 1 94 := ⟨by decide +kernel, rfl⟩
theorem eX10_where_94 : DD cX10_where 94 (.aload 4) 2 96 := ⟨by decide +kernel, rfl⟩
theorem eX10_where_96 : DD cX10_where 96 (.getfield 155) 3 99 := ⟨by decide +kernel, rfl⟩
theorem eX10_where_99 : DD cX10_where 99 (.iconst 1) 1 100 := ⟨by decide +kernel, rfl⟩
theorem eX10_where_100 : DD cX10_where 100 (.aaload) 1 101 := ⟨by decide +kernel, rfl⟩
theorem eX10_where_101 : DD cX10_where 101 (.invokevirtual 318) 3 104 := ⟨by decide +kernel, rfl⟩
theorem eX10_where_104 : DD cX10_where 104 (.iload_n 3) 1 105 := ⟨by decide +kernel, rfl⟩
theorem eX10_where_105 : DD cX10_where 105 (.iconst 1) 1 106 := ⟨by decide +kernel, rfl⟩
theorem eX10_where_106 : DB cX10_where 106 (.if_icmp .ne 11) (11) 109 117 := ⟨by decide +kernel, rfl, by decide⟩
theorem eX10_where_109 : DD cX10_where 109 (.aload_n 0) 1 110 := ⟨by decide +kernel, rfl⟩
theorem eX10_where_110 : DD cX10_where 110 (.getfield 64) 3 113 := ⟨by decide +kernel, rfl⟩
theorem eX10_where_113 : DD cX10_where 113 (.getfield 322) 3 116 := ⟨by decide +kernel, rfl⟩
theorem eX10_where_116 : DD cX10_where 116 (.ireturn) 1 117 := ⟨by decide +kernel, rfl⟩
theorem eX10_where_117 : DD cX10_where 117 (.iload_n 3) 1 118 := ⟨by decide +kernel, rfl⟩
theorem eX10_where_118 : DD cX10_where 118 (.iconst 2) 1 119 := ⟨by decide +kernel, rfl⟩
theorem eX10_where_119 : DB cX10_where 119 (.if_icmp .ne 13) (13) 122 132 := ⟨by decide +kernel, rfl, by decide⟩
theorem eX10_where_122 : DD cX10_where 122 (.aload_n 0) 1 123 := ⟨by decide +kernel, rfl⟩
theorem eX10_where_123 : DD cX10_where 123 (.getfield 64) 3 126 := ⟨by decide +kernel, rfl⟩
theorem eX10_where_126 : DD cX10_where 126 (.getfield 325) 3 129 := ⟨by decide +kernel, rfl⟩
theorem eX10_where_129 : DB cX10_where 129 (.goto 10) (10) 132 139 := ⟨by decide +kernel, rfl, by decide⟩
theorem eX10_where_132 : DD cX10_where 132 (.aload_n 0) 1 133 := ⟨by decide +kernel, rfl⟩
theorem eX10_where_133 : DD cX10_where 133 (.getfield 64) 3 136 := ⟨by decide +kernel, rfl⟩
theorem eX10_where_136 : DD cX10_where 136 (.getfield 328) 3 139 := ⟨by decide +kernel, rfl⟩
theorem eX10_where_139 : DD cX10_where 139 (.ireturn) 1 140 := ⟨by decide +kernel, rfl⟩
def G_X10_where (x1 : Int32) (x2 : Int32) (x3 : Int32) (μ : Mem) : Option (Int32 × Mem) :=
  bd (G_X10_hasTable x1 μ) (fun r_2 μ_1 => if r_2 = 0 then some ((-1 : Int32), μ_1) else bd (G_X10_hasWhere x2 μ_1) (fun r_4 μ_3 => if r_4 = 0 then some ((-1 : Int32), μ_3) else if x3 < 0 then some ((-1 : Int32), μ_3) else if x3 ≤ (3 : Int32) then gq (inB x1 3) (if x3 = 0 then bd (G_X10_beginLook  μ_3) (fun r_7 μ_6 => bd (G_X10_take x1 μ_6) (fun r_9 μ_8 => gq (inB x2 5) (bd (G_X7_rowsHeldBy (shP 8 x1) (whP 38 x2) (rI μ_8 7 5) μ_8) (fun r_12 μ_11 => bd (G_X10_endLook r_12 μ_11) (fun r_14 μ_13 => some (r_14.toInt32, μ_13)))))) else gq (inB x2 5) (bd (G_X2_find (whP 38 x2) (shP 8 x1) ((shP 8 x1) + 3) ((shP 8 x1) + 6) μ_3) (fun r_19 μ_18 => if x3 = (1 : Int32) then some (rI μ_18 103 0, μ_18) else if x3 = (2 : Int32) then some (rI μ_18 103 1, μ_18) else some (rI μ_18 103 2, μ_18)))) else some ((-1 : Int32), μ_3)))
set_option maxHeartbeats 4000000 in
theorem c_X10_where {X : Wd} (hX : WdOk X) (x1 : Int32) (x2 : Int32) (x3 : Int32) (μ : Mem) : CtI X yX10_where cX10_where 5 (some .int) (rmF 5 117) [.ref (xad X 0), .int x1, .int x2, .int x3] μ (G_X10_where x1 x2 x3 μ) := by
  refine CtI.of hX (plainFor_of_name (by decide)) (by exact Nat.le_of_ble_eq_true rfl) ?_
  intro C hCX hC hr
  subst hCX
  show J C (KI C) μ 0 [(0, .ref (xad (cX C) 0)), (1, .int x1), (2, .int x2), (3, .int x3)] [] _
  unfold G_X10_where
  refine J.aload_n (j := 0) hC eX10_where_0 rfl ?_
  refine J.iload_n (j := 1) hC eX10_where_1 rfl ?_
  refine J.callVI (st := []) hC eX10_where_2 kk_0 (by decide) rfl rfl ml_X10_132 mv_X10_hasTable (Rle_of (Nat.le_of_ble_eq_true rfl) (Nat.le_of_ble_eq_true rfl)) (c_X10_hasTable hC.X x1 μ) rfl rfl (Nat.le_of_ble_eq_true rfl) (fun r_2 μ_1 => ?_)
  refine J.if_eq hC eX10_where_5 (fun _ => ?_) (fun _ => ?_)
  · refine J.iconst hC eX10_where_25 ci_m1 ?_
    exact J.iret hC hr eX10_where_26
  · refine J.aload_n (j := 0) hC eX10_where_8 rfl ?_
    refine J.iload_n (j := 2) hC eX10_where_9 rfl ?_
    refine J.callVI (st := []) hC eX10_where_10 kk_0 (by decide) rfl rfl ml_X10_301 mv_X10_hasWhere (Rle_of (Nat.le_of_ble_eq_true rfl) (Nat.le_of_ble_eq_true rfl)) (c_X10_hasWhere hC.X x2 μ_1) rfl rfl (Nat.le_of_ble_eq_true rfl) (fun r_4 μ_3 => ?_)
    refine J.if_eq hC eX10_where_13 (fun _ => ?_) (fun _ => ?_)
    · refine J.iconst hC eX10_where_25 ci_m1 ?_
      exact J.iret hC hr eX10_where_26
    · refine J.iload_n (j := 3) hC eX10_where_16 rfl ?_
      refine J.if_lt hC eX10_where_17 (fun _ => ?_) (fun _ => ?_)
      · refine J.iconst hC eX10_where_25 ci_m1 ?_
        exact J.iret hC hr eX10_where_26
      · refine J.iload_n (j := 3) hC eX10_where_20 rfl ?_
        refine J.iconst hC eX10_where_21 ci_3 ?_
        refine J.icmp_le hC eX10_where_22 (fun _ => ?_) (fun _ => ?_)
        · refine J.aload_n (j := 0) hC eX10_where_27 rfl ?_
          refine gf_X10_26 (q := 7) hC eX10_where_28 kk_0 rfl ?_
          refine gf_X10_143 (q := 8) hC eX10_where_31 kk_7 rfl ?_
          refine J.iload_n (j := 1) hC eX10_where_34 rfl ?_
          refine J.aaldS hC eX10_where_35 kk_8 (fun hq_5 => ?_)
          refine J.astore [(4, .ref (xad (cX C) (shP 8 x1))), (0, .ref (xad (cX C) 0)), (1, .int x1), (2, .int x2), (3, .int x3)] hC eX10_where_36 (by decide) rfl ?_
          refine J.iload_n (j := 4) hC eX10_where_38 rfl ?_
          refine J.if_ne hC eX10_where_39 (fun _ => ?_) (fun _ => ?_)
          · refine J.aload_n (j := 1) hC eX10_where_42 rfl ?_
            refine J.callVV (st := []) hC eX10_where_43 kk_0 (by decide) rfl rfl ml_X10_304 mv_X10_beginLook (Rle_of (Nat.le_of_ble_eq_true rfl) (Nat.le_of_ble_eq_true rfl)) (c_X10_beginLook hC.X  μ_3) rfl rfl (Nat.le_of_ble_eq_true rfl) (fun r_7 μ_6 => ?_)
            refine J.aload_n (j := 1) hC eX10_where_46 rfl ?_
            refine J.iload_n (j := 2) hC eX10_where_47 rfl ?_
            refine J.callVV (st := []) hC eX10_where_48 kk_0 (by decide) rfl rfl ml_X10_307 mv_X10_take (Rle_of (Nat.le_of_ble_eq_true rfl) (Nat.le_of_ble_eq_true rfl)) (c_X10_take hC.X x1 μ_6) rfl rfl (Nat.le_of_ble_eq_true rfl) (fun r_9 μ_8 => ?_)
            refine J.aload_n (j := 1) hC eX10_where_51 rfl ?_
            refine J.aload (j := 0) hC eX10_where_52 rfl ?_
            refine J.aload_n (j := 1) hC eX10_where_54 rfl ?_
            refine gf_X10_32 (q := 38) hC eX10_where_55 kk_0 rfl ?_
            refine J.iload_n (j := 3) hC eX10_where_58 rfl ?_
            refine J.aaldW hC eX10_where_59 kk_38 (fun hq_10 => ?_)
            refine J.aload_n (j := 1) hC eX10_where_60 rfl ?_
            refine gf_X10_26 (q := 7) hC eX10_where_61 kk_0 rfl ?_
            refine gf_X10_129 hC eX10_where_64 kk_7 ?_
            refine J.callVL (st := [.ref (xad (cX C) 0)]) hC eX10_where_67 hq_5 (by decide) rfl rfl ml_X10_310 mv_X7_rowsHeldBy (Rle_of (Nat.le_of_ble_eq_true rfl) (Nat.le_of_ble_eq_true rfl)) (c_X7_rowsHeldBy hC.X (shP 8 x1) hq_5 (whP 38 x2) hq_10 (rI μ_8 7 5) μ_8) rfl rfl (Nat.le_of_ble_eq_true rfl) (fun r_12 μ_11 => ?_)
            refine J.callVL (st := []) hC eX10_where_70 kk_0 (by decide) rfl rfl ml_X10_314 mv_X10_endLook (Rle_of (Nat.le_of_ble_eq_true rfl) (Nat.le_of_ble_eq_true rfl)) (c_X10_endLook hC.X r_12 μ_11) rfl rfl (Nat.le_of_ble_eq_true rfl) (fun r_14 μ_13 => ?_)
            refine J.l2i hC eX10_where_73 ?_
            exact J.iret hC hr eX10_where_74
          · refine J.aload_n (j := 1) hC eX10_where_75 rfl ?_
            refine gf_X10_64 (q := 103) hC eX10_where_76 kk_0 rfl ?_
            refine J.aload_n (j := 1) hC eX10_where_79 rfl ?_
            refine gf_X10_32 (q := 38) hC eX10_where_80 kk_0 rfl ?_
            refine J.iload_n (j := 3) hC eX10_where_83 rfl ?_
            refine J.aaldW hC eX10_where_84 kk_38 (fun hq_15 => ?_)
            refine J.aload (j := 0) hC eX10_where_85 rfl ?_
            refine J.aload (j := 0) hC eX10_where_87 rfl ?_
            refine gf_X10_155 (q := (shP 8 x1) + 2) hC eX10_where_89 hq_5 rfl ?_
            refine J.iconst hC eX10_where_92 ci_0 ?_
            refine J.aaldLK (q := (shP 8 x1) + 3) hC eX10_where_93 (kf_X7_lanes hq_5) (by decide) rfl (fun hq_16 => ?_)
            refine J.aload (j := 0) hC eX10_where_94 rfl ?_
            refine gf_X10_155 (q := (shP 8 x1) + 2) hC eX10_where_96 hq_5 rfl ?_
            refine J.iconst hC eX10_where_99 ci_1 ?_
            refine J.aaldLK (q := (shP 8 x1) + 6) hC eX10_where_100 (kf_X7_lanes hq_5) (by decide) rfl (fun hq_17 => ?_)
            refine J.callVV (st := []) hC eX10_where_101 kk_103 (by decide) rfl rfl ml_X10_318 mv_X2_find (Rle_of (Nat.le_of_ble_eq_true rfl) (Nat.le_of_ble_eq_true rfl)) (c_X2_find hC.X (whP 38 x2) hq_15 (shP 8 x1) hq_5 ((shP 8 x1) + 3) hq_16 ((shP 8 x1) + 6) hq_17 μ_3) rfl rfl (Nat.le_of_ble_eq_true rfl) (fun r_19 μ_18 => ?_)
            refine J.iload_n (j := 4) hC eX10_where_104 rfl ?_
            refine J.iconst hC eX10_where_105 ci_1 ?_
            refine J.icmp_ne hC eX10_where_106 (fun _ => ?_) (fun _ => ?_)
            · refine J.aload_n (j := 1) hC eX10_where_109 rfl ?_
              refine gf_X10_64 (q := 103) hC eX10_where_110 kk_0 rfl ?_
              refine gf_X10_322 hC eX10_where_113 kk_103 ?_
              exact J.iret hC hr eX10_where_116
            · refine J.iload_n (j := 4) hC eX10_where_117 rfl ?_
              refine J.iconst hC eX10_where_118 ci_2 ?_
              refine J.icmp_ne hC eX10_where_119 (fun _ => ?_) (fun _ => ?_)
              · refine J.aload_n (j := 1) hC eX10_where_122 rfl ?_
                refine gf_X10_64 (q := 103) hC eX10_where_123 kk_0 rfl ?_
                refine gf_X10_325 hC eX10_where_126 kk_103 ?_
                refine J.goto hC eX10_where_129 ?_
                exact J.iret hC hr eX10_where_139
              · refine J.aload_n (j := 1) hC eX10_where_132 rfl ?_
                refine gf_X10_64 (q := 103) hC eX10_where_133 kk_0 rfl ?_
                refine gf_X10_328 hC eX10_where_136 kk_103 ?_
                exact J.iret hC hr eX10_where_139
        · refine J.iconst hC eX10_where_25 ci_m1 ?_
          exact J.iret hC hr eX10_where_26
-- X10_join
theorem eX10_join_0 : DD cX10_join 0 (.aload_n 0) 1 1 := ⟨by decide +kernel, rfl⟩
theorem eX10_join_1 : DD cX10_join 1 (.iload_n 1) 1 2 := ⟨by decide +kernel, rfl⟩
theorem eX10_join_2 : DD cX10_join 2 (.iload_n 2) 1 3 := ⟨by decide +kernel, rfl⟩
theorem eX10_join_3 : DD cX10_join 3 (.invokevirtual 170) 3 6 := ⟨by decide +kernel, rfl⟩
theorem eX10_join_6 : DB cX10_join 6 (.ifCond .eq 13) (13) 9 19 := ⟨by decide +kernel, rfl, by decide⟩
theorem eX10_join_9 : DD cX10_join 9 (.aload_n 0) 1 10 := ⟨by decide +kernel, rfl⟩
theorem eX10_join_10 : DD cX10_join 10 (.iload_n 3) 1 11 := ⟨by decide +kernel, rfl⟩
theorem eX10_join_11 : DD cX10_join 11 (.iload 4) 2 13 := ⟨by decide +kernel, rfl⟩
theorem eX10_join_13 : DD cX10_join 13 (.invokevirtual 170) 3 16 := ⟨by decide +kernel, rfl⟩
theorem eX10_join_16 : DB cX10_join 16 (.ifCond .ne 7) (7) 19 23 := ⟨by decide +kernel, rfl, by decide⟩
theorem eX10_join_19 : DD cX10_join 19 (.ldc2_w 207) 3 22 := ⟨by decide +kernel, rfl⟩
theorem eX10_join_22 : DD cX10_join 22 (.lreturn) 1 23 := ⟨by decide +kernel, rfl⟩
theorem eX10_join_23 : DD cX10_join 23 (.aload_n 0) 1 24 := ⟨by decide +kernel, rfl⟩
theorem eX10_join_24 : DD cX10_join 24 (.getfield 26) 3 27 := ⟨by decide +kernel, rfl⟩
theorem eX10_join_27 : DD cX10_join 27 (.getfield 143) 3 30 := ⟨by decide +kernel, rfl⟩
theorem eX10_join_30 : DD cX10_join 30 (.iload_n 1) 1 31 := ⟨by decide +kernel, rfl⟩
theorem eX10_join_31 : DD cX10_join 31 (.aaload) 1 32 := ⟨by decide +kernel, rfl⟩
theorem eX10_join_32 : DD cX10_join 32 (.getfield 155) 3 35 := ⟨by decide +kernel, rfl⟩
theorem eX10_join_35 : DD cX10_join 35 (.iload_n 2) 1 36 := ⟨by decide +kernel, rfl⟩
theorem eX10_join_36 : DD cX10_join 36 (.aaload) 1 37 := ⟨by decide +kernel, rfl⟩
theorem eX10_join_37 : DD cX10_join 37 (.astore 6) 2 39 := ⟨by decide +kernel, rfl⟩
theorem eX10_join_39 : DD cX10_join 39 (.aload_n 0) 1 40 := ⟨by decide +kernel, rfl⟩
theorem eX10_join_40 : DD cX10_join 40 (.getfield 26) 3 43 := ⟨by decide +kernel, rfl⟩
theorem eX10_join_43 : DD cX10_join 43 (.getfield 143) 3 46 := ⟨by decide +kernel, rfl⟩
theorem eX10_join_46 : DD cX10_join 46 (.iload_n 3) 1 47 := ⟨by decide +kernel, rfl⟩
theorem eX10_join_47 : DD cX10_join 47 (.aaload) 1 48 := ⟨by decide +kernel, rfl⟩
theorem eX10_join_48 : DD cX10_join 48 (.getfield 155) 3 51 := ⟨by decide +kernel, rfl⟩
theorem eX10_join_51 : DD cX10_join 51 (.iload 4) 2 53 := ⟨by decide +kernel, rfl⟩
theorem eX10_join_53 : DD cX10_join 53 (.aaload) 1 54 := ⟨by decide +kernel, rfl⟩
theorem eX10_join_54 : DD cX10_join 54 (.astore 7) 2 56 := ⟨by decide +kernel, rfl⟩
theorem eX10_join_56 : DD cX10_join 56 (.iload 5) 2 58 := ⟨by decide +kernel, rfl⟩
theorem eX10_join_58 : decode cX10_join 58 = .ok (.tableswitch 87 0 3 #[30, 63, 71, 79], 30) := by decide +kernel
theorem eX10_join_88 : DD cX10_join 88 (.aload_n 0) 1 89 := ⟨by decide +kernel, rfl⟩
theorem eX10_join_89 : DD cX10_join 89 (.invokevirtual 304) 3 92 := ⟨by decide +kernel, rfl⟩
theorem eX10_join_92 : DD cX10_join 92 (.aload_n 0) 1 93 := ⟨by decide +kernel, rfl⟩
theorem eX10_join_93 : DD cX10_join 93 (.iload_n 1) 1 94 := ⟨by decide +kernel, rfl⟩
theorem eX10_join_94 : DD cX10_join 94 (.invokevirtual 307) 3 97 := ⟨by decide +kernel, rfl⟩
theorem eX10_join_97 : DD cX10_join 97 (.aload_n 0) 1 98 := ⟨by decide +kernel, rfl⟩
theorem eX10_join_98 : DD cX10_join 98 (.iload_n 3) 1 99 := ⟨by decide +kernel, rfl⟩
theorem eX10_join_99 : DD cX10_join 99 (.invokevirtual 307) 3 102 := ⟨by decide +kernel, rfl⟩
theorem eX10_join_102 : DD cX10_join 102 (.aload_n 0) 1 103 := ⟨by decide +kernel, rfl⟩
theorem eX10_join_103 : DD cX10_join 103 (.aload 6) 2 105 := ⟨by decide +kernel, rfl⟩
theorem eX10_join_105 : DD cX10_join 105 (.aload 7) 2 107 := ⟨by decide +kernel, rfl⟩
theorem eX10_join_107 : DD cX10_join 107 (.aload_n 0) 1 108 := ⟨by decide +kernel, rfl⟩
theorem eX10_join_108 : DD cX10_join 108 (.getfield 26) 3 111 := ⟨by decide +kernel, rfl⟩
theorem eX10_join_111 : DD cX10_join 111 (.getfield 129) 3 114 := ⟨by decide +kernel, rfl⟩
theorem eX10_join_114 : DD cX10_join 114 (.invokevirtual 331) 3 117 := ⟨by decide +kernel, rfl⟩
theorem eX10_join_117 : DD cX10_join 117 (.invokevirtual 314) 3 120 := ⟨by decide +kernel, rfl⟩
theorem eX10_join_120 : DD cX10_join 120 (.lreturn) 1 121 := ⟨by decide +kernel, rfl⟩
theorem eX10_join_121 : DD cX10_join 121 (.aload 6) 2 123 := ⟨by decide +kernel, rfl⟩
theorem eX10_join_123 : DD cX10_join 123 (.aload 7) 2 125 := ⟨by decide +kernel, rfl⟩
theorem eX10_join_125 : DD cX10_join 125 (.invokevirtual 335) 3 128 := ⟨by decide +kernel, rfl⟩
theorem eX10_join_128 : DD cX10_join 128 (.lreturn) 1 129 := ⟨by decide +kernel, rfl⟩
theorem eX10_join_129 : DD cX10_join 129 (.aload 6) 2 131 := ⟨by decide +kernel, rfl⟩
theorem eX10_join_131 : DD cX10_join 131 (.aload 7) 2 133 := ⟨by decide +kernel, rfl⟩
theorem eX10_join_133 : DD cX10_join 133 (.invokevirtual 339) 3 136 := ⟨by decide +kernel, rfl⟩
theorem eX10_join_136 : DD cX10_join 136 (.lreturn) 1 137 := ⟨by decide +kernel, rfl⟩
theorem eX10_join_137 : DD cX10_join 137 (.aload 6) 2 139 := ⟨by decide +kernel, rfl⟩
theorem eX10_join_139 : DD cX10_join 139 (.aload 7) 2 141 := ⟨by decide +kernel, rfl⟩
theorem eX10_join_141 : DD cX10_join 141 (.invokevirtual 342) 3 144 := ⟨by decide +kernel, rfl⟩
theorem eX10_join_144 : DD cX10_join 144 (.lreturn) 1 145 := ⟨by decide +kernel, rfl⟩
theorem eX10_join_145 : DD cX10_join 145 (.ldc2_w 207) 3 148 := ⟨by decide +kernel, rfl⟩
theorem eX10_join_148 : DD cX10_join 148 (.lreturn) 1 149 := ⟨by decide +kernel, rfl⟩
def G_X10_join (x1 : Int32) (x2 : Int32) (x3 : Int32) (x4 : Int32) (x5 : Int32) (μ : Mem) : Option (Int64 × Mem) :=
  bd (G_X10_hasColumn x1 x2 μ) (fun r_2 μ_1 => if r_2 = 0 then some ((-1 : Int64), μ_1) else bd (G_X10_hasColumn x3 x4 μ_1) (fun r_4 μ_3 => if r_4 = 0 then some ((-1 : Int64), μ_3) else gq (inB x1 3) (gq (inB x2 2) (gq (inB x3 3) (gq (inB x4 2) (if x5 = (0 : Int32) then bd (G_X10_beginLook  μ_3) (fun r_11 μ_10 => bd (G_X10_take x1 μ_10) (fun r_13 μ_12 => bd (G_X10_take x3 μ_12) (fun r_15 μ_14 => bd (G_X4_joinTruth (lnP ((shP 8 x1) + 2) x2) (lnP ((shP 8 x3) + 2) x4) (rI μ_14 7 5) μ_14) (fun r_17 μ_16 => bd (G_X10_endLook r_17 μ_16) (fun r_19 μ_18 => some (r_19, μ_18)))))) else (if x5 = (1 : Int32) then bd (G_X4_joinUpper (lnP ((shP 8 x1) + 2) x2) (lnP ((shP 8 x3) + 2) x4) μ_3) (fun r_22 μ_21 => some (r_22, μ_21)) else (if x5 = (2 : Int32) then bd (G_X4_joinByDegrees (lnP ((shP 8 x1) + 2) x2) (lnP ((shP 8 x3) + 2) x4) μ_3) (fun r_25 μ_24 => some (r_25, μ_24)) else (if x5 = (3 : Int32) then bd (G_X4_joinEstimate (lnP ((shP 8 x1) + 2) x2) (lnP ((shP 8 x3) + 2) x4) μ_3) (fun r_28 μ_27 => some (r_28, μ_27)) else (some ((-1 : Int64), μ_3)))))))))))
set_option maxHeartbeats 4000000 in
theorem c_X10_join {X : Wd} (hX : WdOk X) (x1 : Int32) (x2 : Int32) (x3 : Int32) (x4 : Int32) (x5 : Int32) (μ : Mem) : CtL X yX10_join cX10_join 8 (some .long) (rmF 3 79) [.ref (xad X 0), .int x1, .int x2, .int x3, .int x4, .int x5] μ (G_X10_join x1 x2 x3 x4 x5 μ) := by
  refine CtL.of hX (plainFor_of_name (by decide)) (by exact Nat.le_of_ble_eq_true rfl) ?_
  intro C hCX hC hr
  subst hCX
  show J C (KL C) μ 0 [(0, .ref (xad (cX C) 0)), (1, .int x1), (2, .int x2), (3, .int x3), (4, .int x4), (5, .int x5)] [] _
  unfold G_X10_join
  refine J.aload_n (j := 0) hC eX10_join_0 rfl ?_
  refine J.iload_n (j := 1) hC eX10_join_1 rfl ?_
  refine J.iload_n (j := 2) hC eX10_join_2 rfl ?_
  refine J.callVI (st := []) hC eX10_join_3 kk_0 (by decide) rfl rfl ml_X10_170 mv_X10_hasColumn (Rle_of (Nat.le_of_ble_eq_true rfl) (Nat.le_of_ble_eq_true rfl)) (c_X10_hasColumn hC.X x1 x2 μ) rfl rfl (Nat.le_of_ble_eq_true rfl) (fun r_2 μ_1 => ?_)
  refine J.if_eq hC eX10_join_6 (fun _ => ?_) (fun _ => ?_)
  · refine J.ldc2 hC eX10_join_19 mk_X10_207 ?_
    exact J.lret hC hr eX10_join_22
  · refine J.aload_n (j := 0) hC eX10_join_9 rfl ?_
    refine J.iload_n (j := 3) hC eX10_join_10 rfl ?_
    refine J.iload (j := 4) hC eX10_join_11 rfl ?_
    refine J.callVI (st := []) hC eX10_join_13 kk_0 (by decide) rfl rfl ml_X10_170 mv_X10_hasColumn (Rle_of (Nat.le_of_ble_eq_true rfl) (Nat.le_of_ble_eq_true rfl)) (c_X10_hasColumn hC.X x3 x4 μ_1) rfl rfl (Nat.le_of_ble_eq_true rfl) (fun r_4 μ_3 => ?_)
    refine J.if_ne hC eX10_join_16 (fun _ => ?_) (fun _ => ?_)
    · refine J.ldc2 hC eX10_join_19 mk_X10_207 ?_
      exact J.lret hC hr eX10_join_22
    · refine J.aload_n (j := 0) hC eX10_join_23 rfl ?_
      refine gf_X10_26 (q := 7) hC eX10_join_24 kk_0 rfl ?_
      refine gf_X10_143 (q := 8) hC eX10_join_27 kk_7 rfl ?_
      refine J.iload_n (j := 1) hC eX10_join_30 rfl ?_
      refine J.aaldS hC eX10_join_31 kk_8 (fun hq_5 => ?_)
      refine gf_X10_155 (q := (shP 8 x1) + 2) hC eX10_join_32 hq_5 rfl ?_
      refine J.iload_n (j := 2) hC eX10_join_35 rfl ?_
      refine J.aaldL hC eX10_join_36 (kf_X7_lanes hq_5) (fun hq_6 => ?_)
      refine J.astore [(6, .ref (xad (cX C) (lnP ((shP 8 x1) + 2) x2))), (0, .ref (xad (cX C) 0)), (1, .int x1), (2, .int x2), (3, .int x3), (4, .int x4), (5, .int x5)] hC eX10_join_37 (by decide) rfl ?_
      refine J.aload_n (j := 1) hC eX10_join_39 rfl ?_
      refine gf_X10_26 (q := 7) hC eX10_join_40 kk_0 rfl ?_
      refine gf_X10_143 (q := 8) hC eX10_join_43 kk_7 rfl ?_
      refine J.iload_n (j := 4) hC eX10_join_46 rfl ?_
      refine J.aaldS hC eX10_join_47 kk_8 (fun hq_7 => ?_)
      refine gf_X10_155 (q := (shP 8 x3) + 2) hC eX10_join_48 hq_7 rfl ?_
      refine J.iload (j := 5) hC eX10_join_51 rfl ?_
      refine J.aaldL hC eX10_join_53 (kf_X7_lanes hq_7) (fun hq_8 => ?_)
      refine J.astore [(7, .ref (xad (cX C) (lnP ((shP 8 x3) + 2) x4))), (6, .ref (xad (cX C) (lnP ((shP 8 x1) + 2) x2))), (0, .ref (xad (cX C) 0)), (1, .int x1), (2, .int x2), (3, .int x3), (4, .int x4), (5, .int x5)] hC eX10_join_54 (by decide) rfl ?_
      refine J.iload (j := 7) hC eX10_join_56 rfl ?_
      refine J.ite (fun h_9 => ?_) (fun h_9 => ?_)
      · refine J.tsI (off := 30) (tgt := 88) hC eX10_join_58 (by rw [h_9]; decide) (by rw [h_9]; decide) (by rw [h_9]; rfl) (by decide) ?_
        refine J.aload_n (j := 2) hC eX10_join_88 rfl ?_
        refine J.callVV (st := []) hC eX10_join_89 kk_0 (by decide) rfl rfl ml_X10_304 mv_X10_beginLook (Rle_of (Nat.le_of_ble_eq_true rfl) (Nat.le_of_ble_eq_true rfl)) (c_X10_beginLook hC.X  μ_3) rfl rfl (Nat.le_of_ble_eq_true rfl) (fun r_11 μ_10 => ?_)
        refine J.aload_n (j := 2) hC eX10_join_92 rfl ?_
        refine J.iload_n (j := 3) hC eX10_join_93 rfl ?_
        refine J.callVV (st := []) hC eX10_join_94 kk_0 (by decide) rfl rfl ml_X10_307 mv_X10_take (Rle_of (Nat.le_of_ble_eq_true rfl) (Nat.le_of_ble_eq_true rfl)) (c_X10_take hC.X x1 μ_10) rfl rfl (Nat.le_of_ble_eq_true rfl) (fun r_13 μ_12 => ?_)
        refine J.aload_n (j := 2) hC eX10_join_97 rfl ?_
        refine J.iload_n (j := 5) hC eX10_join_98 rfl ?_
        refine J.callVV (st := []) hC eX10_join_99 kk_0 (by decide) rfl rfl ml_X10_307 mv_X10_take (Rle_of (Nat.le_of_ble_eq_true rfl) (Nat.le_of_ble_eq_true rfl)) (c_X10_take hC.X x3 μ_12) rfl rfl (Nat.le_of_ble_eq_true rfl) (fun r_15 μ_14 => ?_)
        refine J.aload_n (j := 2) hC eX10_join_102 rfl ?_
        refine J.aload (j := 1) hC eX10_join_103 rfl ?_
        refine J.aload (j := 0) hC eX10_join_105 rfl ?_
        refine J.aload_n (j := 2) hC eX10_join_107 rfl ?_
        refine gf_X10_26 (q := 7) hC eX10_join_108 kk_0 rfl ?_
        refine gf_X10_129 hC eX10_join_111 kk_7 ?_
        refine J.callVL (st := [.ref (xad (cX C) 0)]) hC eX10_join_114 hq_6 (by decide) rfl rfl ml_X10_331 mv_X4_joinTruth (Rle_of (Nat.le_of_ble_eq_true rfl) (Nat.le_of_ble_eq_true rfl)) (c_X4_joinTruth hC.X (lnP ((shP 8 x1) + 2) x2) hq_6 (lnP ((shP 8 x3) + 2) x4) hq_8 (rI μ_14 7 5) μ_14) rfl rfl (Nat.le_of_ble_eq_true rfl) (fun r_17 μ_16 => ?_)
        refine J.callVL (st := []) hC eX10_join_117 kk_0 (by decide) rfl rfl ml_X10_314 mv_X10_endLook (Rle_of (Nat.le_of_ble_eq_true rfl) (Nat.le_of_ble_eq_true rfl)) (c_X10_endLook hC.X r_17 μ_16) rfl rfl (Nat.le_of_ble_eq_true rfl) (fun r_19 μ_18 => ?_)
        exact J.lret hC hr eX10_join_120
      refine J.ite (fun h_20 => ?_) (fun h_20 => ?_)
      · refine J.tsI (off := 63) (tgt := 121) hC eX10_join_58 (by rw [h_20]; decide) (by rw [h_20]; decide) (by rw [h_20]; rfl) (by decide) ?_
        refine J.aload (j := 1) hC eX10_join_121 rfl ?_
        refine J.aload (j := 0) hC eX10_join_123 rfl ?_
        refine J.callVL (st := []) hC eX10_join_125 hq_6 (by decide) rfl rfl ml_X10_335 mv_X4_joinUpper (Rle_of (Nat.le_of_ble_eq_true rfl) (Nat.le_of_ble_eq_true rfl)) (c_X4_joinUpper hC.X (lnP ((shP 8 x1) + 2) x2) hq_6 (lnP ((shP 8 x3) + 2) x4) hq_8 μ_3) rfl rfl (Nat.le_of_ble_eq_true rfl) (fun r_22 μ_21 => ?_)
        exact J.lret hC hr eX10_join_128
      refine J.ite (fun h_23 => ?_) (fun h_23 => ?_)
      · refine J.tsI (off := 71) (tgt := 129) hC eX10_join_58 (by rw [h_23]; decide) (by rw [h_23]; decide) (by rw [h_23]; rfl) (by decide) ?_
        refine J.aload (j := 1) hC eX10_join_129 rfl ?_
        refine J.aload (j := 0) hC eX10_join_131 rfl ?_
        refine J.callVL (st := []) hC eX10_join_133 hq_6 (by decide) rfl rfl ml_X10_339 mv_X4_joinByDegrees (Rle_of (Nat.le_of_ble_eq_true rfl) (Nat.le_of_ble_eq_true rfl)) (c_X4_joinByDegrees hC.X (lnP ((shP 8 x1) + 2) x2) hq_6 (lnP ((shP 8 x3) + 2) x4) hq_8 μ_3) rfl rfl (Nat.le_of_ble_eq_true rfl) (fun r_25 μ_24 => ?_)
        exact J.lret hC hr eX10_join_136
      refine J.ite (fun h_26 => ?_) (fun h_26 => ?_)
      · refine J.tsI (off := 79) (tgt := 137) hC eX10_join_58 (by rw [h_26]; decide) (by rw [h_26]; decide) (by rw [h_26]; rfl) (by decide) ?_
        refine J.aload (j := 1) hC eX10_join_137 rfl ?_
        refine J.aload (j := 0) hC eX10_join_139 rfl ?_
        refine J.callVL (st := []) hC eX10_join_141 hq_6 (by decide) rfl rfl ml_X10_342 mv_X4_joinEstimate (Rle_of (Nat.le_of_ble_eq_true rfl) (Nat.le_of_ble_eq_true rfl)) (c_X4_joinEstimate hC.X (lnP ((shP 8 x1) + 2) x2) hq_6 (lnP ((shP 8 x3) + 2) x4) hq_8 μ_3) rfl rfl (Nat.le_of_ble_eq_true rfl) (fun r_28 μ_27 => ?_)
        exact J.lret hC hr eX10_join_144
      refine J.tsO (tgt := 145) hC eX10_join_58 (by have th_9 := lv_neT h_9 (show ((0 : Int32)).toInt = 0 from rfl); have th_20 := lv_neT h_20 (show ((1 : Int32)).toInt = 1 from rfl); have th_23 := lv_neT h_23 (show ((2 : Int32)).toInt = 2 from rfl); have th_26 := lv_neT h_26 (show ((3 : Int32)).toInt = 3 from rfl); omega) (by decide) ?_
      refine J.ldc2 hC eX10_join_145 mk_X10_207 ?_
      exact J.lret hC hr eX10_join_148
-- X10_chain
theorem eX10_chain_0 : DD cX10_chain 0 (.aload_n 0) 1 1 := ⟨by decide +kernel, rfl⟩
theorem eX10_chain_1 : DD cX10_chain 1 (.getfield 26) 3 4 := ⟨by decide +kernel, rfl⟩
theorem eX10_chain_4 : DD cX10_chain 4 (.getfield 116) 3 7 := ⟨by decide +kernel, rfl⟩
theorem eX10_chain_7 : DD cX10_chain 7 (.iconst 3) 1 8 := ⟨by decide +kernel, rfl⟩
theorem eX10_chain_8 : DB cX10_chain 8 (.if_icmp .lt 12) (12) 11 20 := ⟨by decide +kernel, rfl, by decide⟩
theorem eX10_chain_11 : DD cX10_chain 11 (.iload_n 1) 1 12 := ⟨by decide +kernel, rfl⟩
theorem eX10_chain_12 : DB cX10_chain 12 (.ifCond .lt 8) (8) 15 20 := ⟨by decide +kernel, rfl, by decide⟩
theorem eX10_chain_15 : DD cX10_chain 15 (.iload_n 1) 1 16 := ⟨by decide +kernel, rfl⟩
theorem eX10_chain_16 : DD cX10_chain 16 (.iconst 1) 1 17 := ⟨by decide +kernel, rfl⟩
theorem eX10_chain_17 : DB cX10_chain 17 (.if_icmp .le 7) (7) 20 24 := ⟨by decide +kernel, rfl, by decide⟩
theorem eX10_chain_20 : DD cX10_chain 20 (.ldc2_w 207) 3 23 := ⟨by decide +kernel, rfl⟩
theorem eX10_chain_23 : DD cX10_chain 23 (.lreturn) 1 24 := ⟨by decide +kernel, rfl⟩
theorem eX10_chain_24 : DD cX10_chain 24 (.aload_n 0) 1 25 := ⟨by decide +kernel, rfl⟩
theorem eX10_chain_25 : DD cX10_chain 25 (.getfield 26) 3 28 := ⟨by decide +kernel, rfl⟩
theorem eX10_chain_28 : DD cX10_chain 28 (.getfield 143) 3 31 := ⟨by decide +kernel, rfl⟩
theorem eX10_chain_31 : DD cX10_chain 31 (.iconst 0) 1 32 := ⟨by decide +kernel, rfl⟩
theorem eX10_chain_32 : DD cX10_chain 32 (.aaload) 1 33 := ⟨by decide +kernel, rfl⟩
theorem eX10_chain_33 : DD cX10_chain 33 (.getfield 155) 3 36 := ⟨by decide +kernel, rfl⟩
theorem eX10_chain_36 : DD cX10_chain 36 (.iconst 1) 1 37 := ⟨by decide +kernel, rfl⟩
theorem eX10_chain_37 : DD cX10_chain 37 (.aaload) 1 38 := ⟨by decide +kernel, rfl⟩
theorem eX10_chain_38 : DD cX10_chain 38 (.astore_n 2) 1 39 := ⟨by decide +kernel, rfl⟩
theorem eX10_chain_39 : DD cX10_chain 39 (.aload_n 0) 1 40 := ⟨by decide +kernel, rfl⟩
theorem eX10_chain_40 : DD cX10_chain 40 (.getfield 26) 3 43 := ⟨by decide +kernel, rfl⟩
theorem eX10_chain_43 : DD cX10_chain 43 (.getfield 143) 3 46 := ⟨by decide +kernel, rfl⟩
theorem eX10_chain_46 : DD cX10_chain 46 (.iconst 1) 1 47 := ⟨by decide +kernel, rfl⟩
theorem eX10_chain_47 : DD cX10_chain 47 (.aaload) 1 48 := ⟨by decide +kernel, rfl⟩
theorem eX10_chain_48 : DD cX10_chain 48 (.astore_n 3) 1 49 := ⟨by decide +kernel, rfl⟩
theorem eX10_chain_49 : DD cX10_chain 49 (.aload_n 0) 1 50 := ⟨by decide +kernel, rfl⟩
theorem eX10_chain_50 : DD cX10_chain 50 (.getfield 26) 3 53 := ⟨by decide +kernel, rfl⟩
theorem eX10_chain_53 : DD cX10_chain 53 (.getfield 143) 3 56 := ⟨by decide +kernel, rfl⟩
theorem eX10_chain_56 : DD cX10_chain 56 (.iconst 2) 1 57 := ⟨by decide +kernel, rfl⟩
theorem eX10_chain_57 : DD cX10_chain 57 (.aaload) 1 58 := ⟨by decide +kernel, rfl⟩
theorem eX10_chain_58 : DD cX10_chain 58 (.getfield 155) 3 61 := ⟨by decide +kernel, rfl⟩
theorem eX10_chain_61 : DD cX10_chain 61 (.iconst 0) 1 62 := ⟨by decide +kernel, rfl⟩
theorem eX10_chain_62 : DD cX10_chain 62 (.aaload) 1 63 := ⟨by decide +kernel, rfl⟩
theorem eX10_chain_63 : DD cX10_chain 63 (.astore 4) 2 65 := ⟨by decide +kernel, rfl⟩
theorem eX10_chain_65 : DD cX10_chain 65 (.iload_n 1) 1 66 := ⟨by decide +kernel, rfl⟩
theorem eX10_chain_66 : DD cX10_chain 66 (.iconst 1) 1 67 := ⟨by decide +kernel, rfl⟩
theorem eX10_chain_67 : DB cX10_chain 67 (.if_icmp .ne 11) (11) 70 78 := ⟨by decide +kernel, rfl, by decide⟩
theorem eX10_chain_70 : DD cX10_chain 70 (.aload_n 3) 1 71 := ⟨by decide +kernel, rfl⟩
theorem eX10_chain_71 : DD cX10_chain 71 (.aload_n 2) 1 72 := ⟨by decide +kernel, rfl⟩
theorem eX10_chain_72 : DD cX10_chain 72 (.aload 4) 2 74 := ⟨by decide +kernel, rfl⟩
theorem eX10_chain_74 : DD cX10_chain 74 (.invokevirtual 345) 3 77 := ⟨by decide +kernel, rfl⟩
theorem eX10_chain_77 : DD cX10_chain 77 (.lreturn) 1 78 := ⟨by decide +kernel, rfl⟩
theorem eX10_chain_78 : DD cX10_chain 78 (.aload_n 0) 1 79 := ⟨by decide +kernel, rfl⟩
theorem eX10_chain_79 : DD cX10_chain 79 (.invokevirtual 304) 3 82 := ⟨by decide +kernel, rfl⟩
theorem eX10_chain_82 : DD cX10_chain 82 (.iconst 0) 1 83 := ⟨by decide +kernel, rfl⟩
theorem eX10_chain_83 : DD cX10_chain 83 (.istore 5) 2 85 := ⟨by decide +kernel, rfl⟩
theorem eX10_chain_85 : DD cX10_chain 85 (.iload 5) 2 87 := ⟨by decide +kernel, rfl⟩
theorem eX10_chain_87 : DD cX10_chain 87 (.iconst 3) 1 88 := ⟨by decide +kernel, rfl⟩
theorem eX10_chain_88 : DB cX10_chain 88 (.if_icmp .ge 15) (15) 91 103 := ⟨by decide +kernel, rfl, by decide⟩
theorem eX10_chain_91 : DD cX10_chain 91 (.aload_n 0) 1 92 := ⟨by decide +kernel, rfl⟩
theorem eX10_chain_92 : DD cX10_chain 92 (.iload 5) 2 94 := ⟨by decide +kernel, rfl⟩
theorem eX10_chain_94 : DD cX10_chain 94 (.invokevirtual 307) 3 97 := ⟨by decide +kernel, rfl⟩
theorem eX10_chain_97 : DD cX10_chain 97 (.iinc 5 1) 3 100 := ⟨by decide +kernel, rfl⟩
theorem eX10_chain_100 : DB cX10_chain 100 (.goto (-15)) (-15) 103 85 := ⟨by decide +kernel, rfl, by decide⟩
theorem eX10_chain_103 : DD cX10_chain 103 (.aload_n 0) 1 104 := ⟨by decide +kernel, rfl⟩
theorem eX10_chain_104 : DD cX10_chain 104 (.aload_n 3) 1 105 := ⟨by decide +kernel, rfl⟩
theorem eX10_chain_105 : DD cX10_chain 105 (.aload_n 2) 1 106 := ⟨by decide +kernel, rfl⟩
theorem eX10_chain_106 : DD cX10_chain 106 (.aload 4) 2 108 := ⟨by decide +kernel, rfl⟩
theorem eX10_chain_108 : DD cX10_chain 108 (.aload_n 0) 1 109 := ⟨by decide +kernel, rfl⟩
theorem eX10_chain_109 : DD cX10_chain 109 (.getfield 26) 3 112 := ⟨by decide +kernel, rfl⟩
theorem eX10_chain_112 : DD cX10_chain 112 (.getfield 129) 3 115 := ⟨by decide +kernel, rfl⟩
theorem eX10_chain_115 : DD cX10_chain 115 (.invokevirtual 349) 3 118 := ⟨by decide +kernel, rfl⟩
theorem eX10_chain_118 : DD cX10_chain 118 (.invokevirtual 314) 3 121 := ⟨by decide +kernel, rfl⟩
theorem eX10_chain_121 : DD cX10_chain 121 (.lreturn) 1 122 := ⟨by decide +kernel, rfl⟩
def L_X10_chain_85 : Nat → Nat → Nat → Nat → Int32 → Mem → Option (Int64 × Mem)
  | 0, _, _, _, _, _ => none
  | n + 1, p2, p3, p4, x5, μ => if (3 : Int32) ≤ x5 then bd (G_X7_chainTruth p3 p2 p4 (rI μ 7 5) μ) (fun r_2 μ_1 => bd (G_X10_endLook r_2 μ_1) (fun r_4 μ_3 => some (r_4, μ_3))) else bd (G_X10_take x5 μ) (fun r_6 μ_5 => lb (x5 + (1 : Int32)) (fun x5_7 => L_X10_chain_85  n p2 p3 p4 x5_7 μ_5))
set_option maxHeartbeats 4000000 in
theorem j_X10_chain_85 {C : Cx} (hC : Ok C cX10_chain 6 RX10 (rmF 4 105)) (hr : (cT C).sig.returnType = (some .long)) : ∀ (n : Nat) (p2 : Nat) (h2 : kd p2 = 4) (p3 : Nat) (h3 : kd p3 = 7) (p4 : Nat) (h4 : kd p4 = 4) (x5 : Int32) (μ : Mem), J C (KL C) μ 85 [(0, .ref (xad (cX C) 0)), (2, .ref (xad (cX C) p2)), (3, .ref (xad (cX C) p3)), (4, .ref (xad (cX C) p4)), (5, .int x5)] [] (L_X10_chain_85  n p2 p3 p4 x5 μ) := by
  intro n
  induction n with
  | zero => intros; exact J.no
  | succ n ih =>
    intro p2 h2 p3 h3 p4 h4 x5 μ
    rw [L_X10_chain_85]
    refine J.iload (j := 4) hC eX10_chain_85 rfl ?_
    refine J.iconst hC eX10_chain_87 ci_3 ?_
    refine J.icmp_ge hC eX10_chain_88 (fun _ => ?_) (fun _ => ?_)
    · refine J.aload_n (j := 0) hC eX10_chain_103 rfl ?_
      refine J.aload_n (j := 2) hC eX10_chain_104 rfl ?_
      refine J.aload_n (j := 1) hC eX10_chain_105 rfl ?_
      refine J.aload (j := 3) hC eX10_chain_106 rfl ?_
      refine J.aload_n (j := 0) hC eX10_chain_108 rfl ?_
      refine gf_X10_26 (q := 7) hC eX10_chain_109 kk_0 rfl ?_
      refine gf_X10_129 hC eX10_chain_112 kk_7 ?_
      refine J.callVL (st := [.ref (xad (cX C) 0)]) hC eX10_chain_115 h3 (by decide) rfl rfl ml_X10_349 mv_X7_chainTruth (Rle_of (Nat.le_of_ble_eq_true rfl) (Nat.le_of_ble_eq_true rfl)) (c_X7_chainTruth hC.X p3 h3 p2 h2 p4 h4 (rI μ 7 5) μ) rfl rfl (Nat.le_of_ble_eq_true rfl) (fun r_2 μ_1 => ?_)
      refine J.callVL (st := []) hC eX10_chain_118 kk_0 (by decide) rfl rfl ml_X10_314 mv_X10_endLook (Rle_of (Nat.le_of_ble_eq_true rfl) (Nat.le_of_ble_eq_true rfl)) (c_X10_endLook hC.X r_2 μ_1) rfl rfl (Nat.le_of_ble_eq_true rfl) (fun r_4 μ_3 => ?_)
      exact J.lret hC hr eX10_chain_121
    · refine J.aload_n (j := 0) hC eX10_chain_91 rfl ?_
      refine J.iload (j := 4) hC eX10_chain_92 rfl ?_
      refine J.callVV (st := []) hC eX10_chain_94 kk_0 (by decide) rfl rfl ml_X10_307 mv_X10_take (Rle_of (Nat.le_of_ble_eq_true rfl) (Nat.le_of_ble_eq_true rfl)) (c_X10_take hC.X x5 μ) rfl rfl (Nat.le_of_ble_eq_true rfl) (fun r_6 μ_5 => ?_)
      refine J.iinc (j := 4) (fun x5_7 => [(5, .int x5_7), (0, .ref (xad (cX C) 0)), (2, .ref (xad (cX C) p2)), (3, .ref (xad (cX C) p3)), (4, .ref (xad (cX C) p4))]) hC eX10_chain_97 rfl ci_1 (by decide) (fun _ => rfl) (fun x5_7 => ?_)
      refine J.goto hC eX10_chain_100 ?_
      refine J.sub [1, 2, 3, 4, 0] rfl ?_
      exact ih p2 h2 p3 h3 p4 h4 x5_7 μ_5
def G_X10_chain (x1 : Int32) (μ : Mem) : Option (Int64 × Mem) :=
  if (rI μ 7 2) < (3 : Int32) then some ((-1 : Int64), μ) else if x1 < 0 then some ((-1 : Int64), μ) else if x1 ≤ (1 : Int32) then if x1 = (1 : Int32) then bd (G_X7_chainUpper 18 15 30 μ) (fun r_7 μ_6 => some (r_7, μ_6)) else bd (G_X10_beginLook  μ) (fun r_9 μ_8 => L_X10_chain_85  100000 15 18 30 (0 : Int32) μ_8) else some ((-1 : Int64), μ)
set_option maxHeartbeats 4000000 in
theorem c_X10_chain {X : Wd} (hX : WdOk X) (x1 : Int32) (μ : Mem) : CtL X yX10_chain cX10_chain 6 (some .long) (rmF 4 105) [.ref (xad X 0), .int x1] μ (G_X10_chain x1 μ) := by
  refine CtL.of hX (plainFor_of_name (by decide)) (by exact Nat.le_of_ble_eq_true rfl) ?_
  intro C hCX hC hr
  subst hCX
  show J C (KL C) μ 0 [(0, .ref (xad (cX C) 0)), (1, .int x1)] [] _
  unfold G_X10_chain
  refine J.aload_n (j := 0) hC eX10_chain_0 rfl ?_
  refine gf_X10_26 (q := 7) hC eX10_chain_1 kk_0 rfl ?_
  refine gf_X10_116 hC eX10_chain_4 kk_7 ?_
  refine J.iconst hC eX10_chain_7 ci_3 ?_
  refine J.icmp_lt hC eX10_chain_8 (fun _ => ?_) (fun _ => ?_)
  · refine J.ldc2 hC eX10_chain_20 mk_X10_207 ?_
    exact J.lret hC hr eX10_chain_23
  · refine J.iload_n (j := 1) hC eX10_chain_11 rfl ?_
    refine J.if_lt hC eX10_chain_12 (fun _ => ?_) (fun _ => ?_)
    · refine J.ldc2 hC eX10_chain_20 mk_X10_207 ?_
      exact J.lret hC hr eX10_chain_23
    · refine J.iload_n (j := 1) hC eX10_chain_15 rfl ?_
      refine J.iconst hC eX10_chain_16 ci_1 ?_
      refine J.icmp_le hC eX10_chain_17 (fun _ => ?_) (fun _ => ?_)
      · refine J.aload_n (j := 0) hC eX10_chain_24 rfl ?_
        refine gf_X10_26 (q := 7) hC eX10_chain_25 kk_0 rfl ?_
        refine gf_X10_143 (q := 8) hC eX10_chain_28 kk_7 rfl ?_
        refine J.iconst hC eX10_chain_31 ci_0 ?_
        refine J.aaldSK (q := 9) hC eX10_chain_32 kk_8 (by decide) rfl (fun hq_1 => ?_)
        refine gf_X10_155 (q := 11) hC eX10_chain_33 kk_9 rfl ?_
        refine J.iconst hC eX10_chain_36 ci_1 ?_
        refine J.aaldLK (q := 15) hC eX10_chain_37 kk_11 (by decide) rfl (fun hq_2 => ?_)
        refine J.astore_n [(2, .ref (xad (cX C) 15)), (0, .ref (xad (cX C) 0)), (1, .int x1)] hC eX10_chain_38 (by decide) rfl ?_
        refine J.aload_n (j := 1) hC eX10_chain_39 rfl ?_
        refine gf_X10_26 (q := 7) hC eX10_chain_40 kk_0 rfl ?_
        refine gf_X10_143 (q := 8) hC eX10_chain_43 kk_7 rfl ?_
        refine J.iconst hC eX10_chain_46 ci_1 ?_
        refine J.aaldSK (q := 18) hC eX10_chain_47 kk_8 (by decide) rfl (fun hq_3 => ?_)
        refine J.astore_n [(3, .ref (xad (cX C) 18)), (2, .ref (xad (cX C) 15)), (0, .ref (xad (cX C) 0)), (1, .int x1)] hC eX10_chain_48 (by decide) rfl ?_
        refine J.aload_n (j := 2) hC eX10_chain_49 rfl ?_
        refine gf_X10_26 (q := 7) hC eX10_chain_50 kk_0 rfl ?_
        refine gf_X10_143 (q := 8) hC eX10_chain_53 kk_7 rfl ?_
        refine J.iconst hC eX10_chain_56 ci_2 ?_
        refine J.aaldSK (q := 27) hC eX10_chain_57 kk_8 (by decide) rfl (fun hq_4 => ?_)
        refine gf_X10_155 (q := 29) hC eX10_chain_58 kk_27 rfl ?_
        refine J.iconst hC eX10_chain_61 ci_0 ?_
        refine J.aaldLK (q := 30) hC eX10_chain_62 kk_29 (by decide) rfl (fun hq_5 => ?_)
        refine J.astore [(4, .ref (xad (cX C) 30)), (3, .ref (xad (cX C) 18)), (2, .ref (xad (cX C) 15)), (0, .ref (xad (cX C) 0)), (1, .int x1)] hC eX10_chain_63 (by decide) rfl ?_
        refine J.iload_n (j := 4) hC eX10_chain_65 rfl ?_
        refine J.iconst hC eX10_chain_66 ci_1 ?_
        refine J.icmp_ne hC eX10_chain_67 (fun _ => ?_) (fun _ => ?_)
        · refine J.aload_n (j := 1) hC eX10_chain_70 rfl ?_
          refine J.aload_n (j := 2) hC eX10_chain_71 rfl ?_
          refine J.aload (j := 0) hC eX10_chain_72 rfl ?_
          refine J.callVL (st := []) hC eX10_chain_74 kk_18 (by decide) rfl rfl ml_X10_345 mv_X7_chainUpper (Rle_of (Nat.le_of_ble_eq_true rfl) (Nat.le_of_ble_eq_true rfl)) (c_X7_chainUpper hC.X 18 kk_18 15 kk_15 30 kk_30 μ) rfl rfl (Nat.le_of_ble_eq_true rfl) (fun r_7 μ_6 => ?_)
          exact J.lret hC hr eX10_chain_77
        · refine J.aload_n (j := 3) hC eX10_chain_78 rfl ?_
          refine J.callVV (st := []) hC eX10_chain_79 kk_0 (by decide) rfl rfl ml_X10_304 mv_X10_beginLook (Rle_of (Nat.le_of_ble_eq_true rfl) (Nat.le_of_ble_eq_true rfl)) (c_X10_beginLook hC.X  μ) rfl rfl (Nat.le_of_ble_eq_true rfl) (fun r_9 μ_8 => ?_)
          refine J.iconst hC eX10_chain_82 ci_0 ?_
          refine J.istore [(5, .int (0 : Int32)), (4, .ref (xad (cX C) 30)), (3, .ref (xad (cX C) 18)), (2, .ref (xad (cX C) 15)), (0, .ref (xad (cX C) 0)), (1, .int x1)] hC eX10_chain_83 (by decide) rfl ?_
          refine J.sub [4, 3, 2, 1, 0] rfl ?_
          exact j_X10_chain_85 hC hr  100000 15 kk_15 18 kk_18 30 kk_30 (0 : Int32) μ_8
      · refine J.ldc2 hC eX10_chain_20 mk_X10_207 ?_
        exact J.lret hC hr eX10_chain_23
-- X10_trace
theorem eX10_trace_0 : DD cX10_trace 0 (.iload_n 1) 1 1 := ⟨by decide +kernel, rfl⟩
theorem eX10_trace_1 : DB cX10_trace 1 (.ifCond .lt 20) (20) 4 21 := ⟨by decide +kernel, rfl, by decide⟩
theorem eX10_trace_4 : DD cX10_trace 4 (.iload_n 1) 1 5 := ⟨by decide +kernel, rfl⟩
theorem eX10_trace_5 : DD cX10_trace 5 (.aload_n 0) 1 6 := ⟨by decide +kernel, rfl⟩
theorem eX10_trace_6 : DD cX10_trace 6 (.getfield 79) 3 9 := ⟨by decide +kernel, rfl⟩
theorem eX10_trace_9 : DB cX10_trace 9 (.if_icmp .ge 12) (12) 12 21 := ⟨by decide +kernel, rfl, by decide⟩
theorem eX10_trace_12 : DD cX10_trace 12 (.aload_n 0) 1 13 := ⟨by decide +kernel, rfl⟩
theorem eX10_trace_13 : DD cX10_trace 13 (.getfield 51) 3 16 := ⟨by decide +kernel, rfl⟩
theorem eX10_trace_16 : DD cX10_trace 16 (.iload_n 1) 1 17 := ⟨by decide +kernel, rfl⟩
theorem eX10_trace_17 : DD cX10_trace 17 (.iaload) 1 18 := ⟨by decide +kernel, rfl⟩
theorem eX10_trace_18 : DB cX10_trace 18 (.goto 4) (4) 21 22 := ⟨by decide +kernel, rfl, by decide⟩
theorem eX10_trace_21 : DD cX10_trace 21 (.iconst (-1)) 1 22 := ⟨by decide +kernel, rfl⟩
theorem eX10_trace_22 : DD cX10_trace 22 (.ireturn) 1 23 := ⟨by decide +kernel, rfl⟩
def G_X10_trace (x1 : Int32) (μ : Mem) : Option (Int32 × Mem) :=
  if x1 < 0 then some ((-1 : Int32), μ) else if (rI μ 0 12) ≤ x1 then some ((-1 : Int32), μ) else gq (inB x1 6) (some (rI μ 98 (nx x1), μ))
set_option maxHeartbeats 4000000 in
theorem c_X10_trace {X : Wd} (hX : WdOk X) (x1 : Int32) (μ : Mem) : CtI X yX10_trace cX10_trace 2 (some .int) (rmF 0 0) [.ref (xad X 0), .int x1] μ (G_X10_trace x1 μ) := by
  refine CtI.of hX (plainFor_of_name (by decide)) (by exact Nat.le_of_ble_eq_true rfl) ?_
  intro C hCX hC hr
  subst hCX
  show J C (KI C) μ 0 [(0, .ref (xad (cX C) 0)), (1, .int x1)] [] _
  unfold G_X10_trace
  refine J.iload_n (j := 1) hC eX10_trace_0 rfl ?_
  refine J.if_lt hC eX10_trace_1 (fun _ => ?_) (fun _ => ?_)
  · refine J.iconst hC eX10_trace_21 ci_m1 ?_
    exact J.iret hC hr eX10_trace_22
  · refine J.iload_n (j := 1) hC eX10_trace_4 rfl ?_
    refine J.aload_n (j := 0) hC eX10_trace_5 rfl ?_
    refine gf_X10_79 hC eX10_trace_6 kk_0 ?_
    refine J.icmp_ge hC eX10_trace_9 (fun _ => ?_) (fun _ => ?_)
    · refine J.iconst hC eX10_trace_21 ci_m1 ?_
      exact J.iret hC hr eX10_trace_22
    · refine J.aload_n (j := 0) hC eX10_trace_12 rfl ?_
      refine gf_X10_51 (q := 98) hC eX10_trace_13 kk_0 rfl ?_
      refine J.iload_n (j := 1) hC eX10_trace_16 rfl ?_
      refine J.iald ik_6 hC eX10_trace_17 kk_98 ?_
      refine J.goto hC eX10_trace_18 ?_
      exact J.iret hC hr eX10_trace_22
-- X10_asIfBuilt
theorem eX10_asIfBuilt_0 : DD cX10_asIfBuilt 0 (.aload_n 0) 1 1 := ⟨by decide +kernel, rfl⟩
theorem eX10_asIfBuilt_1 : DD cX10_asIfBuilt 1 (.getfield 71) 3 4 := ⟨by decide +kernel, rfl⟩
theorem eX10_asIfBuilt_4 : DD cX10_asIfBuilt 4 (.aload_n 1) 1 5 := ⟨by decide +kernel, rfl⟩
theorem eX10_asIfBuilt_5 : DD cX10_asIfBuilt 5 (.invokevirtual 364) 3 8 := ⟨by decide +kernel, rfl⟩
theorem eX10_asIfBuilt_8 : DD cX10_asIfBuilt 8 (.aload_n 0) 1 9 := ⟨by decide +kernel, rfl⟩
theorem eX10_asIfBuilt_9 : DD cX10_asIfBuilt 9 (.getfield 71) 3 12 := ⟨by decide +kernel, rfl⟩
theorem eX10_asIfBuilt_12 : DD cX10_asIfBuilt 12 (.aload_n 0) 1 13 := ⟨by decide +kernel, rfl⟩
theorem eX10_asIfBuilt_13 : DD cX10_asIfBuilt 13 (.getfield 57) 3 16 := ⟨by decide +kernel, rfl⟩
theorem eX10_asIfBuilt_16 : DD cX10_asIfBuilt 16 (.aload_n 0) 1 17 := ⟨by decide +kernel, rfl⟩
theorem eX10_asIfBuilt_17 : DD cX10_asIfBuilt 17 (.getfield 26) 3 20 := ⟨by decide +kernel, rfl⟩
theorem eX10_asIfBuilt_20 : DD cX10_asIfBuilt 20 (.getfield 123) 3 23 := ⟨by decide +kernel, rfl⟩
theorem eX10_asIfBuilt_23 : DD cX10_asIfBuilt 23 (.invokevirtual 271) 3 26 := ⟨by decide +kernel, rfl⟩
theorem eX10_asIfBuilt_26 : DD cX10_asIfBuilt 26 (.aload_n 0) 1 27 := ⟨by decide +kernel, rfl⟩
theorem eX10_asIfBuilt_27 : DD cX10_asIfBuilt 27 (.getfield 71) 3 30 := ⟨by decide +kernel, rfl⟩
theorem eX10_asIfBuilt_30 : DD cX10_asIfBuilt 30 (.areturn) 1 31 := ⟨by decide +kernel, rfl⟩
def G_X10_asIfBuilt (p1 : Nat) (μ : Mem) : Option (Unit × Mem) :=
  bd (G_X4_copyFrom 104 p1 μ) (fun r_2 μ_1 => bd (G_X4_layAnew 104 (rI μ_1 7 3) μ_1) (fun r_4 μ_3 => some ((), μ_3)))
set_option maxHeartbeats 4000000 in
theorem c_X10_asIfBuilt {X : Wd} (hX : WdOk X) (p1 : Nat) (h1 : kd p1 = 4) (μ : Mem) : CtR 104 X yX10_asIfBuilt cX10_asIfBuilt 2 (some (.object "SafeBuckets$Lane")) (rmF 3 79) [.ref (xad X 0), .ref (xad X p1)] μ (G_X10_asIfBuilt p1 μ) := by
  refine CtR.of hX (plainFor_of_name (by decide)) (by exact Nat.le_of_ble_eq_true rfl) ?_
  intro C hCX hC hr
  subst hCX
  show J C (KR 104 C) μ 0 [(0, .ref (xad (cX C) 0)), (1, .ref (xad (cX C) p1))] [] _
  unfold G_X10_asIfBuilt
  refine J.aload_n (j := 0) hC eX10_asIfBuilt_0 rfl ?_
  refine gf_X10_71 (q := 104) hC eX10_asIfBuilt_1 kk_0 rfl ?_
  refine J.aload_n (j := 1) hC eX10_asIfBuilt_4 rfl ?_
  refine J.callVV (st := []) hC eX10_asIfBuilt_5 kk_104 (by decide) rfl rfl ml_X10_364 mv_X4_copyFrom (Rle_of (Nat.le_of_ble_eq_true rfl) (Nat.le_of_ble_eq_true rfl)) (c_X4_copyFrom hC.X 104 kk_104 p1 h1 μ) rfl rfl (Nat.le_of_ble_eq_true rfl) (fun r_2 μ_1 => ?_)
  refine J.aload_n (j := 0) hC eX10_asIfBuilt_8 rfl ?_
  refine gf_X10_71 (q := 104) hC eX10_asIfBuilt_9 kk_0 rfl ?_
  refine J.aload_n (j := 0) hC eX10_asIfBuilt_12 rfl ?_
  refine gf_X10_57 (q := 99) hC eX10_asIfBuilt_13 kk_0 rfl ?_
  refine J.aload_n (j := 0) hC eX10_asIfBuilt_16 rfl ?_
  refine gf_X10_26 (q := 7) hC eX10_asIfBuilt_17 kk_0 rfl ?_
  refine gf_X10_123 hC eX10_asIfBuilt_20 kk_7 ?_
  refine J.callVV (st := []) hC eX10_asIfBuilt_23 kk_104 (by decide) rfl rfl ml_X10_271 mv_X4_layAnew (Rle_of (Nat.le_of_ble_eq_true rfl) (Nat.le_of_ble_eq_true rfl)) (c_X4_layAnew hC.X 104 kk_104 (rI μ_1 7 3) μ_1) rfl rfl (Nat.le_of_ble_eq_true rfl) (fun r_4 μ_3 => ?_)
  refine J.aload_n (j := 0) hC eX10_asIfBuilt_26 rfl ?_
  refine gf_X10_71 (q := 104) hC eX10_asIfBuilt_27 kk_0 rfl ?_
  exact J.aret hC hr eX10_asIfBuilt_30
-- X10_narrow
theorem eX10_narrow_0 : DD cX10_narrow 0 (.aload_n 0) 1 1 := ⟨by decide +kernel, rfl⟩
theorem eX10_narrow_1 : DD cX10_narrow 1 (.iload_n 1) 1 2 := ⟨by decide +kernel, rfl⟩
theorem eX10_narrow_2 : DD cX10_narrow 2 (.invokevirtual 132) 3 5 := ⟨by decide +kernel, rfl⟩
theorem eX10_narrow_5 : DB cX10_narrow 5 (.ifCond .eq 20) (20) 8 25 := ⟨by decide +kernel, rfl, by decide⟩
theorem eX10_narrow_8 : DD cX10_narrow 8 (.aload_n 0) 1 9 := ⟨by decide +kernel, rfl⟩
theorem eX10_narrow_9 : DD cX10_narrow 9 (.iload_n 2) 1 10 := ⟨by decide +kernel, rfl⟩
theorem eX10_narrow_10 : DD cX10_narrow 10 (.invokevirtual 301) 3 13 := ⟨by decide +kernel, rfl⟩
theorem eX10_narrow_13 : DB cX10_narrow 13 (.ifCond .eq 12) (12) 16 25 := ⟨by decide +kernel, rfl, by decide⟩
theorem eX10_narrow_16 : DD cX10_narrow 16 (.iload_n 3) 1 17 := ⟨by decide +kernel, rfl⟩
theorem eX10_narrow_17 : DB cX10_narrow 17 (.ifCond .lt 8) (8) 20 25 := ⟨by decide +kernel, rfl, by decide⟩
theorem eX10_narrow_20 : DD cX10_narrow 20 (.iload_n 3) 1 21 := ⟨by decide +kernel, rfl⟩
theorem eX10_narrow_21 : DD cX10_narrow 21 (.iconst 1) 1 22 := ⟨by decide +kernel, rfl⟩
theorem eX10_narrow_22 : DB cX10_narrow 22 (.if_icmp .le 6) (6) 25 28 := ⟨by decide +kernel, rfl, by decide⟩
theorem eX10_narrow_25 : DD cX10_narrow 25 (.ldc 178) 2 27 := ⟨by decide +kernel, rfl⟩
theorem eX10_narrow_27 : DD cX10_narrow 27 (.ireturn) 1 28 := ⟨by decide +kernel, rfl⟩
theorem eX10_narrow_28 : DD cX10_narrow 28 (.aload_n 0) 1 29 := ⟨by decide +kernel, rfl⟩
theorem eX10_narrow_29 : DD cX10_narrow 29 (.getfield 26) 3 32 := ⟨by decide +kernel, rfl⟩
theorem eX10_narrow_32 : DD cX10_narrow 32 (.getfield 143) 3 35 := ⟨by decide +kernel, rfl⟩
theorem eX10_narrow_35 : DD cX10_narrow 35 (.iload_n 1) 1 36 := ⟨by decide +kernel, rfl⟩
theorem eX10_narrow_36 : DD cX10_narrow 36 (.aaload) 1 37 := ⟨by decide +kernel, rfl⟩
theorem eX10_narrow_37 : DD cX10_narrow 37 (.astore 4) 2 39 := ⟨by decide +kernel, rfl⟩
theorem eX10_narrow_39 : DD cX10_narrow 39 (.aload_n 0) 1 40 := ⟨by decide +kernel, rfl⟩
theorem eX10_narrow_40 : DD cX10_narrow 40 (.getfield 32) 3 43 := ⟨by decide +kernel, rfl⟩
theorem eX10_narrow_43 : DD cX10_narrow 43 (.iload_n 2) 1 44 := ⟨by decide +kernel, rfl⟩
theorem eX10_narrow_44 : DD cX10_narrow 44 (.aaload) 1 45 := ⟨by decide +kernel, rfl⟩
theorem eX10_narrow_45 : DD cX10_narrow 45 (.astore 5) 2 47 := ⟨by decide +kernel, rfl⟩
theorem eX10_narrow_47 : DD cX10_narrow 47 (.aload_n 0) 1 48 := ⟨by decide +kernel, rfl⟩
theorem eX10_narrow_48 : DD cX10_narrow 48 (.getfield 64) 3 51 := ⟨by decide +kernel, rfl⟩
theorem eX10_narrow_51 : DD cX10_narrow 51 (.aload 5) 2 53 := ⟨by decide +kernel, rfl⟩
theorem eX10_narrow_53 : DD cX10_narrow 53 (.aload 4) 2 55 := ⟨by decide +kernel, rfl⟩
theorem eX10_narrow_55 : DD cX10_narrow 55 (.aload 4) 2 57 := ⟨by decide +kernel, rfl⟩
theorem eX10_narrow_57 : DD cX10_narrow 57 (.getfield 155) 3 60 := ⟨by decide +kernel, rfl⟩
theorem eX10_narrow_60 : DD cX10_narrow 60 (.iconst 0) 1 61 := ⟨by decide +kernel, rfl⟩
theorem eX10_narrow_61 : DD cX10_narrow 61 (.aaload) 1 62 := ⟨by decide +kernel, rfl⟩
theorem eX10_narrow_62 : DD cX10_narrow 62 (.aload 4) 2 64 := ⟨by decide +kernel, rfl⟩
theorem eX10_narrow_64 : DD cX10_narrow 64 (.getfield 155) 3 67 := ⟨by decide +kernel, rfl⟩
theorem eX10_narrow_67 : DD cX10_narrow 67 (.iconst 1) 1 68 := ⟨by decide +kernel, rfl⟩
theorem eX10_narrow_68 : DD cX10_narrow 68 (.aaload) 1 69 := ⟨by decide +kernel, rfl⟩
theorem eX10_narrow_69 : DD cX10_narrow 69 (.invokevirtual 356) 3 72 := ⟨by decide +kernel, rfl⟩
theorem eX10_narrow_72 : DD cX10_narrow 72 (.istore 6) 2 74 := ⟨by decide +kernel, rfl⟩
theorem eX10_narrow_74 : DD cX10_narrow 74 (.aload_n 0) 1 75 := ⟨by decide +kernel, rfl⟩
theorem eX10_narrow_75 : DD cX10_narrow 75 (.getfield 64) 3 78 := ⟨by decide +kernel, rfl⟩
theorem eX10_narrow_78 : DD cX10_narrow 78 (.aload 5) 2 80 := ⟨by decide +kernel, rfl⟩
theorem eX10_narrow_80 : DD cX10_narrow 80 (.aload 4) 2 82 := ⟨by decide +kernel, rfl⟩
theorem eX10_narrow_82 : DD cX10_narrow 82 (.aload_n 0) 1 83 := ⟨by decide +kernel, rfl⟩
theorem eX10_narrow_83 : DD cX10_narrow 83 (.aload 4) 2 85 := ⟨by decide +kernel, rfl⟩
theorem eX10_narrow_85 : DD cX10_narrow 85 (.getfield 155) 3 88 := ⟨by decide +kernel, rfl⟩
theorem eX10_narrow_88 : DD cX10_narrow 88 (.iconst 0) 1 89 := ⟨by decide +kernel, rfl⟩
theorem eX10_narrow_89 : DD cX10_narrow 89 (.aaload) 1 90 := ⟨by decide +kernel, rfl⟩
theorem eX10_narrow_90 : DD cX10_narrow 90 (.invokevirtual 360) 3 93 := ⟨by decide +kernel, rfl⟩
theorem eX10_narrow_93 : DD cX10_narrow 93 (.aload 4) 2 95 := ⟨by decide +kernel, rfl⟩
theorem eX10_narrow_95 : DD cX10_narrow 95 (.getfield 155) 3 98 := ⟨by decide +kernel, rfl⟩
theorem eX10_narrow_98 : DD cX10_narrow 98 (.iconst 1) 1 99 := ⟨by decide +kernel, rfl⟩
theorem eX10_narrow_99 : DD cX10_narrow 99 (.aaload) 1 100 := ⟨by decide +kernel, rfl⟩
theorem eX10_narrow_100 : DD cX10_narrow 100 (.invokevirtual 356) 3 103 := ⟨by decide +kernel, rfl⟩
theorem eX10_narrow_103 : DD cX10_narrow 103 (.istore 7) 2 105 := ⟨by decide +kernel, rfl⟩
theorem eX10_narrow_105 : DD cX10_narrow 105 (.aload_n 0) 1 106 := ⟨by decide +kernel, rfl⟩
theorem eX10_narrow_106 : DD cX10_narrow 106 (.getfield 64) 3 109 := ⟨by decide +kernel, rfl⟩
theorem eX10_narrow_109 : DD cX10_narrow 109 (.aload 5) 2 111 := ⟨by decide +kernel, rfl⟩
theorem eX10_narrow_111 : DD cX10_narrow 111 (.aload 4) 2 113 := ⟨by decide +kernel, rfl⟩
theorem eX10_narrow_113 : DD cX10_narrow 113 (.aload 4) 2 115 := ⟨by decide +kernel, rfl⟩
theorem eX10_narrow_115 : DD cX10_narrow 115 (.getfield 155) 3 118 := ⟨by decide +kernel, rfl⟩
theorem eX10_narrow_118 : DD cX10_narrow 118 (.iconst 0) 1 119 := ⟨by decide +kernel, rfl⟩
theorem eX10_narrow_119 : DD cX10_narrow 119 (.aaload) 1 120 := ⟨by decide +kernel, rfl⟩
theorem eX10_narrow_120 : DD cX10_narrow 120 (.aload_n 0) 1 121 := ⟨by decide +kernel, rfl⟩
theorem eX10_narrow_121 : DD cX10_narrow 121 (.aload 4) 2 123 := ⟨by decide +kernel, rfl⟩
theorem eX10_narrow_123 : DD cX10_narrow 123 (.getfield 155) 3 126 := ⟨by decide +kernel, rfl⟩
theorem eX10_narrow_126 : DD cX10_narrow 126 (.iconst 1) 1 127 := ⟨by decide +kernel, rfl⟩
theorem eX10_narrow_127 : DD cX10_narrow 127 (.aaload) 1 128 := ⟨by decide +kernel, rfl⟩
theorem eX10_narrow_128 : DD cX10_narrow 128 (.invokevirtual 360) 3 131 := ⟨by decide +kernel, rfl⟩
theorem eX10_narrow_131 : DD cX10_narrow 131 (.invokevirtual 356) 3 134 := ⟨by decide +kernel, rfl⟩
theorem eX10_narrow_134 : DD cX10_narrow 134 (.istore 8) 2 136 := ⟨by decide +kernel, rfl⟩
theorem eX10_narrow_136 : DD cX10_narrow 136 (.iload 7) 2 138 := ⟨by decide +kernel, rfl⟩
theorem eX10_narrow_138 : DD cX10_narrow 138 (.iload 8) 2 140 := ⟨by decide +kernel, rfl⟩
theorem eX10_narrow_140 : DD cX10_narrow 140 (.invokestatic 353) 3 143 := ⟨by decide +kernel, rfl⟩
theorem eX10_narrow_143 : DD cX10_narrow 143 (.istore 9) 2 145 := ⟨by decide +kernel, rfl⟩
theorem eX10_narrow_145 : DD cX10_narrow 145 (.iload 9) 2 147 := ⟨by decide +kernel, rfl⟩
theorem eX10_narrow_147 : DD cX10_narrow 147 (.iload 6) 2 149 := ⟨by decide +kernel, rfl⟩
theorem eX10_narrow_149 : DB cX10_narrow 149 (.if_icmp .lt 13) (13) 152 162 := ⟨by decide +kernel, rfl, by decide⟩
theorem eX10_narrow_152 : DD cX10_narrow 152 (.iload_n 3) 1 153 := ⟨by decide +kernel, rfl⟩
theorem eX10_narrow_153 : DB cX10_narrow 153 (.ifCond .ne 7) (7) 156 160 := ⟨by decide +kernel, rfl, by decide⟩
theorem eX10_narrow_156 : DD cX10_narrow 156 (.iconst (-1)) 1 157 := ⟨by decide +kernel, rfl⟩
theorem eX10_narrow_157 : DB cX10_narrow 157 (.goto 4) (4) 160 161 := ⟨by decide +kernel, rfl, by decide⟩
theorem eX10_narrow_160 : DD cX10_narrow 160 (.iconst 0) 1 161 := ⟨by decide +kernel, rfl⟩
theorem eX10_narrow_161 : DD cX10_narrow 161 (.ireturn) 1 162 := ⟨by decide +kernel, rfl⟩
theorem eX10_narrow_162 : DD cX10_narrow 162 (.iload_n 3) 1 163 := ⟨by decide +kernel, rfl⟩
theorem eX10_narrow_163 : DD cX10_narrow 163 (.iconst 1) 1 164 := ⟨by decide +kernel, rfl⟩
theorem eX10_narrow_164 : DB cX10_narrow 164 (.if_icmp .ne 9) (9) 167 173 := ⟨by decide +kernel, rfl, by decide⟩
theorem eX10_narrow_167 : DD cX10_narrow 167 (.iload 6) 2 169 := ⟨by decide +kernel, rfl⟩
theorem eX10_narrow_169 : DD cX10_narrow 169 (.iload 9) 2 171 := ⟨by decide +kernel, rfl⟩
theorem eX10_narrow_171 : DD cX10_narrow 171 (.isub) 1 172 := ⟨by decide +kernel, rfl⟩
theorem eX10_narrow_172 : DD cX10_narrow 172 (.ireturn) 1 173 := ⟨by decide +kernel, rfl⟩
theorem eX10_narrow_173 : DD cX10_narrow 173 (.iload 7) 2 175 := ⟨by decide +kernel, rfl⟩
theorem eX10_narrow_175 : DD cX10_narrow 175 (.iload 8) 2 177 := ⟨by decide +kernel, rfl⟩
theorem eX10_narrow_177 : DB cX10_narrow 177 (.if_icmp .gt 7) (7) 180 184 := ⟨by decide +kernel, rfl, by decide⟩
theorem eX10_narrow_180 : DD cX10_narrow 180 (.iconst 0) 1 181 := ⟨by decide +kernel, rfl⟩
theorem eX10_narrow_181 : DB cX10_narrow 181 (.goto 4) (4) 184 185 := ⟨by decide +kernel, rfl, by decide⟩
theorem eX10_narrow_184 : DD cX10_narrow 184 (.iconst 1) 1 185 := ⟨by decide +kernel, rfl⟩
theorem eX10_narrow_185 : DD cX10_narrow 185 (.ireturn) 1 186 := ⟨by decide +kernel, rfl⟩
def G_X10_narrow (x1 : Int32) (x2 : Int32) (x3 : Int32) (μ : Mem) : Option (Int32 × Mem) :=
  bd (G_X10_hasTable x1 μ) (fun r_2 μ_1 => if r_2 = 0 then some ((-1000000 : Int32), μ_1) else bd (G_X10_hasWhere x2 μ_1) (fun r_4 μ_3 => if r_4 = 0 then some ((-1000000 : Int32), μ_3) else if x3 < 0 then some ((-1000000 : Int32), μ_3) else if x3 ≤ (1 : Int32) then gq (inB x1 3) (gq (inB x2 5) (bd (G_X2_spread (whP 38 x2) (shP 8 x1) ((shP 8 x1) + 3) ((shP 8 x1) + 6) μ_3) (fun r_10 μ_9 => bd (G_X10_asIfBuilt ((shP 8 x1) + 3) μ_9) (fun r_13 μ_12 => bd (G_X2_spread (whP 38 x2) (shP 8 x1) 104 ((shP 8 x1) + 6) μ_12) (fun r_16 μ_15 => bd (G_X10_asIfBuilt ((shP 8 x1) + 6) μ_15) (fun r_20 μ_19 => bd (G_X2_spread (whP 38 x2) (shP 8 x1) ((shP 8 x1) + 3) 104 μ_19) (fun r_22 μ_21 => lb (imin r_16 r_22) (fun x9_23 => if x9_23 < r_10 then if x3 = (1 : Int32) then some (r_10 - x9_23, μ_21) else if r_22 < r_16 then some ((1 : Int32), μ_21) else some ((0 : Int32), μ_21) else if x3 = 0 then some ((-1 : Int32), μ_21) else some ((0 : Int32), μ_21))))))))) else some ((-1000000 : Int32), μ_3)))
set_option maxHeartbeats 4000000 in
theorem c_X10_narrow {X : Wd} (hX : WdOk X) (x1 : Int32) (x2 : Int32) (x3 : Int32) (μ : Mem) : CtI X yX10_narrow cX10_narrow 10 (some .int) (rmF 6 141) [.ref (xad X 0), .int x1, .int x2, .int x3] μ (G_X10_narrow x1 x2 x3 μ) := by
  refine CtI.of hX (plainFor_of_name (by decide)) (by exact Nat.le_of_ble_eq_true rfl) ?_
  intro C hCX hC hr
  subst hCX
  show J C (KI C) μ 0 [(0, .ref (xad (cX C) 0)), (1, .int x1), (2, .int x2), (3, .int x3)] [] _
  unfold G_X10_narrow
  refine J.aload_n (j := 0) hC eX10_narrow_0 rfl ?_
  refine J.iload_n (j := 1) hC eX10_narrow_1 rfl ?_
  refine J.callVI (st := []) hC eX10_narrow_2 kk_0 (by decide) rfl rfl ml_X10_132 mv_X10_hasTable (Rle_of (Nat.le_of_ble_eq_true rfl) (Nat.le_of_ble_eq_true rfl)) (c_X10_hasTable hC.X x1 μ) rfl rfl (Nat.le_of_ble_eq_true rfl) (fun r_2 μ_1 => ?_)
  refine J.if_eq hC eX10_narrow_5 (fun _ => ?_) (fun _ => ?_)
  · refine J.ldc hC eX10_narrow_25 mk_X10_178 ?_
    exact J.iret hC hr eX10_narrow_27
  · refine J.aload_n (j := 0) hC eX10_narrow_8 rfl ?_
    refine J.iload_n (j := 2) hC eX10_narrow_9 rfl ?_
    refine J.callVI (st := []) hC eX10_narrow_10 kk_0 (by decide) rfl rfl ml_X10_301 mv_X10_hasWhere (Rle_of (Nat.le_of_ble_eq_true rfl) (Nat.le_of_ble_eq_true rfl)) (c_X10_hasWhere hC.X x2 μ_1) rfl rfl (Nat.le_of_ble_eq_true rfl) (fun r_4 μ_3 => ?_)
    refine J.if_eq hC eX10_narrow_13 (fun _ => ?_) (fun _ => ?_)
    · refine J.ldc hC eX10_narrow_25 mk_X10_178 ?_
      exact J.iret hC hr eX10_narrow_27
    · refine J.iload_n (j := 3) hC eX10_narrow_16 rfl ?_
      refine J.if_lt hC eX10_narrow_17 (fun _ => ?_) (fun _ => ?_)
      · refine J.ldc hC eX10_narrow_25 mk_X10_178 ?_
        exact J.iret hC hr eX10_narrow_27
      · refine J.iload_n (j := 3) hC eX10_narrow_20 rfl ?_
        refine J.iconst hC eX10_narrow_21 ci_1 ?_
        refine J.icmp_le hC eX10_narrow_22 (fun _ => ?_) (fun _ => ?_)
        · refine J.aload_n (j := 0) hC eX10_narrow_28 rfl ?_
          refine gf_X10_26 (q := 7) hC eX10_narrow_29 kk_0 rfl ?_
          refine gf_X10_143 (q := 8) hC eX10_narrow_32 kk_7 rfl ?_
          refine J.iload_n (j := 1) hC eX10_narrow_35 rfl ?_
          refine J.aaldS hC eX10_narrow_36 kk_8 (fun hq_5 => ?_)
          refine J.astore [(4, .ref (xad (cX C) (shP 8 x1))), (0, .ref (xad (cX C) 0)), (1, .int x1), (2, .int x2), (3, .int x3)] hC eX10_narrow_37 (by decide) rfl ?_
          refine J.aload_n (j := 1) hC eX10_narrow_39 rfl ?_
          refine gf_X10_32 (q := 38) hC eX10_narrow_40 kk_0 rfl ?_
          refine J.iload_n (j := 3) hC eX10_narrow_43 rfl ?_
          refine J.aaldW hC eX10_narrow_44 kk_38 (fun hq_6 => ?_)
          refine J.astore [(5, .ref (xad (cX C) (whP 38 x2))), (4, .ref (xad (cX C) (shP 8 x1))), (0, .ref (xad (cX C) 0)), (1, .int x1), (2, .int x2), (3, .int x3)] hC eX10_narrow_45 (by decide) rfl ?_
          refine J.aload_n (j := 2) hC eX10_narrow_47 rfl ?_
          refine gf_X10_64 (q := 103) hC eX10_narrow_48 kk_0 rfl ?_
          refine J.aload (j := 0) hC eX10_narrow_51 rfl ?_
          refine J.aload (j := 1) hC eX10_narrow_53 rfl ?_
          refine J.aload (j := 1) hC eX10_narrow_55 rfl ?_
          refine gf_X10_155 (q := (shP 8 x1) + 2) hC eX10_narrow_57 hq_5 rfl ?_
          refine J.iconst hC eX10_narrow_60 ci_0 ?_
          refine J.aaldLK (q := (shP 8 x1) + 3) hC eX10_narrow_61 (kf_X7_lanes hq_5) (by decide) rfl (fun hq_7 => ?_)
          refine J.aload (j := 1) hC eX10_narrow_62 rfl ?_
          refine gf_X10_155 (q := (shP 8 x1) + 2) hC eX10_narrow_64 hq_5 rfl ?_
          refine J.iconst hC eX10_narrow_67 ci_1 ?_
          refine J.aaldLK (q := (shP 8 x1) + 6) hC eX10_narrow_68 (kf_X7_lanes hq_5) (by decide) rfl (fun hq_8 => ?_)
          refine J.callVI (st := []) hC eX10_narrow_69 kk_103 (by decide) rfl rfl ml_X10_356 mv_X2_spread (Rle_of (Nat.le_of_ble_eq_true rfl) (Nat.le_of_ble_eq_true rfl)) (c_X2_spread hC.X (whP 38 x2) hq_6 (shP 8 x1) hq_5 ((shP 8 x1) + 3) hq_7 ((shP 8 x1) + 6) hq_8 μ_3) rfl rfl (Nat.le_of_ble_eq_true rfl) (fun r_10 μ_9 => ?_)
          refine J.istore [(6, .int r_10), (5, .ref (xad (cX C) (whP 38 x2))), (4, .ref (xad (cX C) (shP 8 x1))), (0, .ref (xad (cX C) 0)), (1, .int x1), (2, .int x2), (3, .int x3)] hC eX10_narrow_72 (by decide) rfl ?_
          refine J.aload_n (j := 3) hC eX10_narrow_74 rfl ?_
          refine gf_X10_64 (q := 103) hC eX10_narrow_75 kk_0 rfl ?_
          refine J.aload (j := 1) hC eX10_narrow_78 rfl ?_
          refine J.aload (j := 2) hC eX10_narrow_80 rfl ?_
          refine J.aload_n (j := 3) hC eX10_narrow_82 rfl ?_
          refine J.aload (j := 2) hC eX10_narrow_83 rfl ?_
          refine gf_X10_155 (q := (shP 8 x1) + 2) hC eX10_narrow_85 hq_5 rfl ?_
          refine J.iconst hC eX10_narrow_88 ci_0 ?_
          refine J.aaldLK (q := (shP 8 x1) + 3) hC eX10_narrow_89 (kf_X7_lanes hq_5) (by decide) rfl (fun hq_11 => ?_)
          refine J.callVR (st := [.ref (xad (cX C) (shP 8 x1)), .ref (xad (cX C) (whP 38 x2)), .ref (xad (cX C) 103)]) hC eX10_narrow_90 kk_0 (by decide) rfl rfl ml_X10_360 mv_X10_asIfBuilt (Rle_of (Nat.le_of_ble_eq_true rfl) (Nat.le_of_ble_eq_true rfl)) (c_X10_asIfBuilt hC.X ((shP 8 x1) + 3) hq_11 μ_9) rfl rfl (Nat.le_of_ble_eq_true rfl) (fun r_13 μ_12 => ?_)
          refine J.aload (j := 2) hC eX10_narrow_93 rfl ?_
          refine gf_X10_155 (q := (shP 8 x1) + 2) hC eX10_narrow_95 hq_5 rfl ?_
          refine J.iconst hC eX10_narrow_98 ci_1 ?_
          refine J.aaldLK (q := (shP 8 x1) + 6) hC eX10_narrow_99 (kf_X7_lanes hq_5) (by decide) rfl (fun hq_14 => ?_)
          refine J.callVI (st := []) hC eX10_narrow_100 kk_103 (by decide) rfl rfl ml_X10_356 mv_X2_spread (Rle_of (Nat.le_of_ble_eq_true rfl) (Nat.le_of_ble_eq_true rfl)) (c_X2_spread hC.X (whP 38 x2) hq_6 (shP 8 x1) hq_5 104 kk_104 ((shP 8 x1) + 6) hq_14 μ_12) rfl rfl (Nat.le_of_ble_eq_true rfl) (fun r_16 μ_15 => ?_)
          refine J.istore [(7, .int r_16), (6, .int r_10), (5, .ref (xad (cX C) (whP 38 x2))), (4, .ref (xad (cX C) (shP 8 x1))), (0, .ref (xad (cX C) 0)), (1, .int x1), (2, .int x2), (3, .int x3)] hC eX10_narrow_103 (by decide) rfl ?_
          refine J.aload_n (j := 4) hC eX10_narrow_105 rfl ?_
          refine gf_X10_64 (q := 103) hC eX10_narrow_106 kk_0 rfl ?_
          refine J.aload (j := 2) hC eX10_narrow_109 rfl ?_
          refine J.aload (j := 3) hC eX10_narrow_111 rfl ?_
          refine J.aload (j := 3) hC eX10_narrow_113 rfl ?_
          refine gf_X10_155 (q := (shP 8 x1) + 2) hC eX10_narrow_115 hq_5 rfl ?_
          refine J.iconst hC eX10_narrow_118 ci_0 ?_
          refine J.aaldLK (q := (shP 8 x1) + 3) hC eX10_narrow_119 (kf_X7_lanes hq_5) (by decide) rfl (fun hq_17 => ?_)
          refine J.aload_n (j := 4) hC eX10_narrow_120 rfl ?_
          refine J.aload (j := 3) hC eX10_narrow_121 rfl ?_
          refine gf_X10_155 (q := (shP 8 x1) + 2) hC eX10_narrow_123 hq_5 rfl ?_
          refine J.iconst hC eX10_narrow_126 ci_1 ?_
          refine J.aaldLK (q := (shP 8 x1) + 6) hC eX10_narrow_127 (kf_X7_lanes hq_5) (by decide) rfl (fun hq_18 => ?_)
          refine J.callVR (st := [.ref (xad (cX C) ((shP 8 x1) + 3)), .ref (xad (cX C) (shP 8 x1)), .ref (xad (cX C) (whP 38 x2)), .ref (xad (cX C) 103)]) hC eX10_narrow_128 kk_0 (by decide) rfl rfl ml_X10_360 mv_X10_asIfBuilt (Rle_of (Nat.le_of_ble_eq_true rfl) (Nat.le_of_ble_eq_true rfl)) (c_X10_asIfBuilt hC.X ((shP 8 x1) + 6) hq_18 μ_15) rfl rfl (Nat.le_of_ble_eq_true rfl) (fun r_20 μ_19 => ?_)
          refine J.callVI (st := []) hC eX10_narrow_131 kk_103 (by decide) rfl rfl ml_X10_356 mv_X2_spread (Rle_of (Nat.le_of_ble_eq_true rfl) (Nat.le_of_ble_eq_true rfl)) (c_X2_spread hC.X (whP 38 x2) hq_6 (shP 8 x1) hq_5 ((shP 8 x1) + 3) hq_17 104 kk_104 μ_19) rfl rfl (Nat.le_of_ble_eq_true rfl) (fun r_22 μ_21 => ?_)
          refine J.istore [(8, .int r_22), (7, .int r_16), (6, .int r_10), (5, .ref (xad (cX C) (whP 38 x2))), (4, .ref (xad (cX C) (shP 8 x1))), (0, .ref (xad (cX C) 0)), (1, .int x1), (2, .int x2), (3, .int x3)] hC eX10_narrow_134 (by decide) rfl ?_
          refine J.iload (j := 1) hC eX10_narrow_136 rfl ?_
          refine J.iload (j := 0) hC eX10_narrow_138 rfl ?_
          refine J.mmin hC eX10_narrow_140 ml_X10_353 w_smin w_im w_cmin (Nat.le_of_ble_eq_true rfl) (Nat.le_of_ble_eq_true rfl) ?_
          refine J.topi (fun x9_23 => ?_)
          refine J.istore [(9, .int x9_23), (8, .int r_22), (7, .int r_16), (6, .int r_10), (5, .ref (xad (cX C) (whP 38 x2))), (4, .ref (xad (cX C) (shP 8 x1))), (0, .ref (xad (cX C) 0)), (1, .int x1), (2, .int x2), (3, .int x3)] hC eX10_narrow_143 (by decide) rfl ?_
          refine J.iload (j := 0) hC eX10_narrow_145 rfl ?_
          refine J.iload (j := 3) hC eX10_narrow_147 rfl ?_
          refine J.icmp_lt hC eX10_narrow_149 (fun _ => ?_) (fun _ => ?_)
          · refine J.iload_n (j := 9) hC eX10_narrow_162 rfl ?_
            refine J.iconst hC eX10_narrow_163 ci_1 ?_
            refine J.icmp_ne hC eX10_narrow_164 (fun _ => ?_) (fun _ => ?_)
            · refine J.iload (j := 3) hC eX10_narrow_167 rfl ?_
              refine J.iload (j := 0) hC eX10_narrow_169 rfl ?_
              refine J.isub hC eX10_narrow_171 ?_
              exact J.iret hC hr eX10_narrow_172
            · refine J.iload (j := 2) hC eX10_narrow_173 rfl ?_
              refine J.iload (j := 1) hC eX10_narrow_175 rfl ?_
              refine J.icmp_gt hC eX10_narrow_177 (fun _ => ?_) (fun _ => ?_)
              · refine J.iconst hC eX10_narrow_184 ci_1 ?_
                exact J.iret hC hr eX10_narrow_185
              · refine J.iconst hC eX10_narrow_180 ci_0 ?_
                refine J.goto hC eX10_narrow_181 ?_
                exact J.iret hC hr eX10_narrow_185
          · refine J.iload_n (j := 9) hC eX10_narrow_152 rfl ?_
            refine J.if_ne hC eX10_narrow_153 (fun _ => ?_) (fun _ => ?_)
            · refine J.iconst hC eX10_narrow_156 ci_m1 ?_
              refine J.goto hC eX10_narrow_157 ?_
              exact J.iret hC hr eX10_narrow_161
            · refine J.iconst hC eX10_narrow_160 ci_0 ?_
              exact J.iret hC hr eX10_narrow_161
        · refine J.ldc hC eX10_narrow_25 mk_X10_178 ?_
          exact J.iret hC hr eX10_narrow_27
