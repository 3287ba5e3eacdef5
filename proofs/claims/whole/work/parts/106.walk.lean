-- X7_rowsHeldBy
theorem eX7_rowsHeldBy_0 : DD cX7_rowsHeldBy 0 (.iconst 0) 1 1 := ⟨by decide +kernel, rfl⟩
theorem eX7_rowsHeldBy_1 : DD cX7_rowsHeldBy 1 (.istore_n 3) 1 2 := ⟨by decide +kernel, rfl⟩
theorem eX7_rowsHeldBy_2 : DD cX7_rowsHeldBy 2 (.lconst 0) 1 3 := ⟨by decide +kernel, rfl⟩
theorem eX7_rowsHeldBy_3 : DD cX7_rowsHeldBy 3 (.lstore 4) 2 5 := ⟨by decide +kernel, rfl⟩
theorem eX7_rowsHeldBy_5 : DD cX7_rowsHeldBy 5 (.iconst (-1)) 1 6 := ⟨by decide +kernel, rfl⟩
theorem eX7_rowsHeldBy_6 : DD cX7_rowsHeldBy 6 (.istore 6) 2 8 := ⟨by decide +kernel, rfl⟩
theorem eX7_rowsHeldBy_8 : DD cX7_rowsHeldBy 8 (.iload 6) 2 10 := ⟨by decide +kernel, rfl⟩
theorem eX7_rowsHeldBy_10 : DD cX7_rowsHeldBy 10 (.aload_n 0) 1 11 := ⟨by decide +kernel, rfl⟩
theorem eX7_rowsHeldBy_11 : DD cX7_rowsHeldBy 11 (.getfield 22) 3 14 := ⟨by decide +kernel, rfl⟩
theorem eX7_rowsHeldBy_14 : DB cX7_rowsHeldBy 14 (.if_icmp .ge 77) (77) 17 91 := ⟨by decide +kernel, rfl, by decide⟩
theorem eX7_rowsHeldBy_17 : DD cX7_rowsHeldBy 17 (.iconst (-1)) 1 18 := ⟨by decide +kernel, rfl⟩
theorem eX7_rowsHeldBy_18 : DD cX7_rowsHeldBy 18 (.istore 7) 2 20 := ⟨by decide +kernel, rfl⟩
theorem eX7_rowsHeldBy_20 : DD cX7_rowsHeldBy 20 (.iload 7) 2 22 := ⟨by decide +kernel, rfl⟩
theorem eX7_rowsHeldBy_22 : DD cX7_rowsHeldBy 22 (.aload_n 0) 1 23 := ⟨by decide +kernel, rfl⟩
theorem eX7_rowsHeldBy_23 : DD cX7_rowsHeldBy 23 (.getfield 22) 3 26 := ⟨by decide +kernel, rfl⟩
theorem eX7_rowsHeldBy_26 : DB cX7_rowsHeldBy 26 (.if_icmp .ge 59) (59) 29 85 := ⟨by decide +kernel, rfl, by decide⟩
theorem eX7_rowsHeldBy_29 : DD cX7_rowsHeldBy 29 (.aload_n 0) 1 30 := ⟨by decide +kernel, rfl⟩
theorem eX7_rowsHeldBy_30 : DD cX7_rowsHeldBy 30 (.iload 6) 2 32 := ⟨by decide +kernel, rfl⟩
theorem eX7_rowsHeldBy_32 : DD cX7_rowsHeldBy 32 (.iload 7) 2 34 := ⟨by decide +kernel, rfl⟩
theorem eX7_rowsHeldBy_34 : DD cX7_rowsHeldBy 34 (.invokevirtual 57) 3 37 := ⟨by decide +kernel, rfl⟩
theorem eX7_rowsHeldBy_37 : DD cX7_rowsHeldBy 37 (.istore 8) 2 39 := ⟨by decide +kernel, rfl⟩
theorem eX7_rowsHeldBy_39 : DD cX7_rowsHeldBy 39 (.iload 8) 2 41 := ⟨by decide +kernel, rfl⟩
theorem eX7_rowsHeldBy_41 : DB cX7_rowsHeldBy 41 (.ifCond .le 38) (38) 44 79 := ⟨by decide +kernel, rfl, by decide⟩
theorem eX7_rowsHeldBy_44 : DD cX7_rowsHeldBy 44 (.iinc 3 1) 3 47 := ⟨by decide +kernel, rfl⟩
theorem eX7_rowsHeldBy_47 : DD cX7_rowsHeldBy 47 (.iload_n 3) 1 48 := ⟨by decide +kernel, rfl⟩
theorem eX7_rowsHeldBy_48 : DD cX7_rowsHeldBy 48 (.iload_n 2) 1 49 := ⟨by decide +kernel, rfl⟩
theorem eX7_rowsHeldBy_49 : DB cX7_rowsHeldBy 49 (.if_icmp .le 7) (7) 52 56 := ⟨by decide +kernel, rfl, by decide⟩
theorem eX7_rowsHeldBy_52 : DD cX7_rowsHeldBy 52 (.ldc2_w 60) 3 55 := ⟨by decide +kernel, rfl⟩
theorem eX7_rowsHeldBy_55 : DD cX7_rowsHeldBy 55 (.lreturn) 1 56 := ⟨by decide +kernel, rfl⟩
theorem eX7_rowsHeldBy_56 : DD cX7_rowsHeldBy 56 (.lload 4) 2 58 := ⟨by decide +kernel, rfl⟩
theorem eX7_rowsHeldBy_58 : DD cX7_rowsHeldBy 58 (.aload_n 1) 1 59 := ⟨by decide +kernel, rfl⟩
theorem eX7_rowsHeldBy_59 : DD cX7_rowsHeldBy 59 (.iload 6) 2 61 := ⟨by decide +kernel, rfl⟩
theorem eX7_rowsHeldBy_61 : DD cX7_rowsHeldBy 61 (.iload 7) 2 63 := ⟨by decide +kernel, rfl⟩
theorem eX7_rowsHeldBy_63 : DD cX7_rowsHeldBy 63 (.invokevirtual 62) 3 66 := ⟨by decide +kernel, rfl⟩
theorem eX7_rowsHeldBy_66 : DB cX7_rowsHeldBy 66 (.ifCond .eq 9) (9) 69 75 := ⟨by decide +kernel, rfl, by decide⟩
theorem eX7_rowsHeldBy_69 : DD cX7_rowsHeldBy 69 (.iload 8) 2 71 := ⟨by decide +kernel, rfl⟩
theorem eX7_rowsHeldBy_71 : DD cX7_rowsHeldBy 71 (.i2l) 1 72 := ⟨by decide +kernel, rfl⟩
theorem eX7_rowsHeldBy_72 : DB cX7_rowsHeldBy 72 (.goto 4) (4) 75 76 := ⟨by decide +kernel, rfl, by decide⟩
theorem eX7_rowsHeldBy_75 : DD cX7_rowsHeldBy 75 (.lconst 0) 1 76 := ⟨by decide +kernel, rfl⟩
theorem eX7_rowsHeldBy_76 : DD cX7_rowsHeldBy 76 (.ladd) 1 77 := ⟨by decide +kernel, rfl⟩
theorem eX7_rowsHeldBy_77 : DD cX7_rowsHeldBy 77 (.lstore 4) 2 79 := ⟨by decide +kernel, rfl⟩
theorem eX7_rowsHeldBy_79 : DD cX7_rowsHeldBy 79 (.iinc 7 1) 3 82 := ⟨by decide +kernel, rfl⟩
theorem eX7_rowsHeldBy_82 : DB cX7_rowsHeldBy 82 (.goto (-62)) (-62) 85 20 := ⟨by decide +kernel, rfl, by decide⟩
theorem eX7_rowsHeldBy_85 : DD cX7_rowsHeldBy 85 (.iinc 6 1) 3 88 := ⟨by decide +kernel, rfl⟩
theorem eX7_rowsHeldBy_88 : DB cX7_rowsHeldBy 88 (.goto (-80)) (-80) 91 8 := ⟨by decide +kernel, rfl, by decide⟩
theorem eX7_rowsHeldBy_91 : DD cX7_rowsHeldBy 91 (.lload 4) 2 93 := ⟨by decide +kernel, rfl⟩
theorem eX7_rowsHeldBy_93 : DD cX7_rowsHeldBy 93 (.lreturn) 1 94 := ⟨by decide +kernel, rfl⟩
def F_X7_rowsHeldBy_79 (kc_8 : Nat → Nat → Int32 → Int32 → Int64 → Int32 → Mem → Option (Int64 × Mem)) (kc_20 : Nat → Nat → Int32 → Int32 → Int64 → Int32 → Int32 → Mem → Option (Int64 × Mem)) (p0 : Nat) (p1 : Nat) (x2 : Int32) (x3 : Int32) (l4 : Int64) (x6 : Int32) (x7 : Int32) (μ : Mem) : Option (Int64 × Mem) :=
  lb (x7 + (1 : Int32)) (fun x7_1 => kc_20 p0 p1 x2 x3 l4 x6 x7_1 μ)
set_option maxHeartbeats 4000000 in
theorem j_X7_rowsHeldBy_79 {C : Cx} (hC : Ok C cX7_rowsHeldBy 9 RX7 (rmF 2 46)) (hr : (cT C).sig.returnType = (some .long)) (kc_8 : Nat → Nat → Int32 → Int32 → Int64 → Int32 → Mem → Option (Int64 × Mem)) (hk_8 : ∀ (p0 : Nat) (h0 : kd p0 = 7) (p1 : Nat) (h1 : kd p1 = 9) (x2 : Int32) (x3 : Int32) (l4 : Int64) (x6 : Int32) (μ : Mem), J C (KL C) μ 8 [(0, .ref (xad (cX C) p0)), (1, .ref (xad (cX C) p1)), (2, .int x2), (3, .int x3), (4, .long l4), (6, .int x6)] [] (kc_8 p0 p1 x2 x3 l4 x6 μ)) (kc_20 : Nat → Nat → Int32 → Int32 → Int64 → Int32 → Int32 → Mem → Option (Int64 × Mem)) (hk_20 : ∀ (p0 : Nat) (h0 : kd p0 = 7) (p1 : Nat) (h1 : kd p1 = 9) (x2 : Int32) (x3 : Int32) (l4 : Int64) (x6 : Int32) (x7 : Int32) (μ : Mem), J C (KL C) μ 20 [(0, .ref (xad (cX C) p0)), (1, .ref (xad (cX C) p1)), (2, .int x2), (3, .int x3), (4, .long l4), (6, .int x6), (7, .int x7)] [] (kc_20 p0 p1 x2 x3 l4 x6 x7 μ)) (p0 : Nat) (h0 : kd p0 = 7) (p1 : Nat) (h1 : kd p1 = 9) (x2 : Int32) (x3 : Int32) (l4 : Int64) (x6 : Int32) (x7 : Int32) (μ : Mem) : J C (KL C) μ 79 [(0, .ref (xad (cX C) p0)), (1, .ref (xad (cX C) p1)), (2, .int x2), (3, .int x3), (4, .long l4), (6, .int x6), (7, .int x7)] [] (F_X7_rowsHeldBy_79 kc_8 kc_20 p0 p1 x2 x3 l4 x6 x7 μ) := by
  unfold F_X7_rowsHeldBy_79
  refine J.iinc (j := 6) (fun x7_1 => [(7, .int x7_1), (0, .ref (xad (cX C) p0)), (1, .ref (xad (cX C) p1)), (2, .int x2), (3, .int x3), (4, .long l4), (6, .int x6)]) hC eX7_rowsHeldBy_79 rfl ci_1 (by decide) (fun _ => rfl) (fun x7_1 => ?_)
  refine J.goto hC eX7_rowsHeldBy_82 ?_
  refine J.sub [1, 2, 3, 4, 5, 6, 0] rfl ?_
  exact hk_20 p0 h0 p1 h1 x2 x3 l4 x6 x7_1 μ
def F_X7_rowsHeldBy_76 (kc_8 : Nat → Nat → Int32 → Int32 → Int64 → Int32 → Mem → Option (Int64 × Mem)) (kc_20 : Nat → Nat → Int32 → Int32 → Int64 → Int32 → Int32 → Mem → Option (Int64 × Mem)) (p0 : Nat) (p1 : Nat) (x2 : Int32) (x3 : Int32) (x6 : Int32) (x7 : Int32) (ls0 : Int64) (ls1 : Int64) (μ : Mem) : Option (Int64 × Mem) :=
  lb (ls0 + ls1) (fun l4_1 => F_X7_rowsHeldBy_79 kc_8 kc_20 p0 p1 x2 x3 l4_1 x6 x7 μ)
set_option maxHeartbeats 4000000 in
theorem j_X7_rowsHeldBy_76 {C : Cx} (hC : Ok C cX7_rowsHeldBy 9 RX7 (rmF 2 46)) (hr : (cT C).sig.returnType = (some .long)) (kc_8 : Nat → Nat → Int32 → Int32 → Int64 → Int32 → Mem → Option (Int64 × Mem)) (hk_8 : ∀ (p0 : Nat) (h0 : kd p0 = 7) (p1 : Nat) (h1 : kd p1 = 9) (x2 : Int32) (x3 : Int32) (l4 : Int64) (x6 : Int32) (μ : Mem), J C (KL C) μ 8 [(0, .ref (xad (cX C) p0)), (1, .ref (xad (cX C) p1)), (2, .int x2), (3, .int x3), (4, .long l4), (6, .int x6)] [] (kc_8 p0 p1 x2 x3 l4 x6 μ)) (kc_20 : Nat → Nat → Int32 → Int32 → Int64 → Int32 → Int32 → Mem → Option (Int64 × Mem)) (hk_20 : ∀ (p0 : Nat) (h0 : kd p0 = 7) (p1 : Nat) (h1 : kd p1 = 9) (x2 : Int32) (x3 : Int32) (l4 : Int64) (x6 : Int32) (x7 : Int32) (μ : Mem), J C (KL C) μ 20 [(0, .ref (xad (cX C) p0)), (1, .ref (xad (cX C) p1)), (2, .int x2), (3, .int x3), (4, .long l4), (6, .int x6), (7, .int x7)] [] (kc_20 p0 p1 x2 x3 l4 x6 x7 μ)) (p0 : Nat) (h0 : kd p0 = 7) (p1 : Nat) (h1 : kd p1 = 9) (x2 : Int32) (x3 : Int32) (x6 : Int32) (x7 : Int32) (ls0 : Int64) (ls1 : Int64) (μ : Mem) : J C (KL C) μ 76 [(0, .ref (xad (cX C) p0)), (1, .ref (xad (cX C) p1)), (2, .int x2), (3, .int x3), (6, .int x6), (7, .int x7)] [.long ls1, .long ls0] (F_X7_rowsHeldBy_76 kc_8 kc_20 p0 p1 x2 x3 x6 x7 ls0 ls1 μ) := by
  unfold F_X7_rowsHeldBy_76
  refine J.ladd hC eX7_rowsHeldBy_76 ?_
  refine J.topl (fun l4_1 => ?_)
  refine J.lstore [(4, .long l4_1), (0, .ref (xad (cX C) p0)), (1, .ref (xad (cX C) p1)), (2, .int x2), (3, .int x3), (6, .int x6), (7, .int x7)] hC eX7_rowsHeldBy_77 (by decide) rfl ?_
  refine J.sub [1, 2, 3, 4, 0, 5, 6] rfl ?_
  exact j_X7_rowsHeldBy_79 hC hr kc_8 hk_8 kc_20 hk_20 p0 h0 p1 h1 x2 x3 l4_1 x6 x7 μ
def L_X7_rowsHeldBy_20 (kc_8 : Nat → Nat → Int32 → Int32 → Int64 → Int32 → Mem → Option (Int64 × Mem)) : Nat → Nat → Nat → Int32 → Int32 → Int64 → Int32 → Int32 → Mem → Option (Int64 × Mem)
  | 0, _, _, _, _, _, _, _, _ => none
  | n + 1, p0, p1, x2, x3, l4, x6, x7, μ => if (rI μ p0 2) ≤ x7 then lb (x6 + (1 : Int32)) (fun x6_1 => kc_8 p0 p1 x2 x3 l4 x6_1 μ) else bd (G_X7_alike p0 x6 x7 μ) (fun r_3 μ_2 => if r_3 ≤ 0 then F_X7_rowsHeldBy_79 kc_8 (L_X7_rowsHeldBy_20 kc_8 n) p0 p1 x2 x3 l4 x6 x7 μ_2 else lb (x3 + (1 : Int32)) (fun x3_4 => if x3_4 ≤ x2 then bd (G_X9_holds p1 x6 x7 μ_2) (fun r_6 μ_5 => if r_6 = 0 then F_X7_rowsHeldBy_76 kc_8 (L_X7_rowsHeldBy_20 kc_8 n) p0 p1 x2 x3_4 x6 x7 l4 (0 : Int64) μ_5 else F_X7_rowsHeldBy_76 kc_8 (L_X7_rowsHeldBy_20 kc_8 n) p0 p1 x2 x3_4 x6 x7 l4 r_3.toInt64 μ_5) else some ((-1 : Int64), μ_2)))
set_option maxHeartbeats 4000000 in
theorem j_X7_rowsHeldBy_20 {C : Cx} (hC : Ok C cX7_rowsHeldBy 9 RX7 (rmF 2 46)) (hr : (cT C).sig.returnType = (some .long)) (kc_8 : Nat → Nat → Int32 → Int32 → Int64 → Int32 → Mem → Option (Int64 × Mem)) (hk_8 : ∀ (p0 : Nat) (h0 : kd p0 = 7) (p1 : Nat) (h1 : kd p1 = 9) (x2 : Int32) (x3 : Int32) (l4 : Int64) (x6 : Int32) (μ : Mem), J C (KL C) μ 8 [(0, .ref (xad (cX C) p0)), (1, .ref (xad (cX C) p1)), (2, .int x2), (3, .int x3), (4, .long l4), (6, .int x6)] [] (kc_8 p0 p1 x2 x3 l4 x6 μ)) : ∀ (n : Nat) (p0 : Nat) (h0 : kd p0 = 7) (p1 : Nat) (h1 : kd p1 = 9) (x2 : Int32) (x3 : Int32) (l4 : Int64) (x6 : Int32) (x7 : Int32) (μ : Mem), J C (KL C) μ 20 [(0, .ref (xad (cX C) p0)), (1, .ref (xad (cX C) p1)), (2, .int x2), (3, .int x3), (4, .long l4), (6, .int x6), (7, .int x7)] [] (L_X7_rowsHeldBy_20 kc_8 n p0 p1 x2 x3 l4 x6 x7 μ) := by
  intro n
  induction n with
  | zero => intros; exact J.no
  | succ n ih =>
    intro p0 h0 p1 h1 x2 x3 l4 x6 x7 μ
    rw [L_X7_rowsHeldBy_20]
    refine J.iload (j := 6) hC eX7_rowsHeldBy_20 rfl ?_
    refine J.aload_n (j := 0) hC eX7_rowsHeldBy_22 rfl ?_
    refine gf_X7_22 hC eX7_rowsHeldBy_23 h0 ?_
    refine J.icmp_ge hC eX7_rowsHeldBy_26 (fun _ => ?_) (fun _ => ?_)
    · refine J.iinc (j := 5) (fun x6_1 => [(6, .int x6_1), (0, .ref (xad (cX C) p0)), (1, .ref (xad (cX C) p1)), (2, .int x2), (3, .int x3), (4, .long l4), (7, .int x7)]) hC eX7_rowsHeldBy_85 rfl ci_1 (by decide) (fun _ => rfl) (fun x6_1 => ?_)
      refine J.goto hC eX7_rowsHeldBy_88 ?_
      refine J.sub [1, 2, 3, 4, 5, 0] rfl ?_
      exact hk_8 p0 h0 p1 h1 x2 x3 l4 x6_1 μ
    · refine J.aload_n (j := 0) hC eX7_rowsHeldBy_29 rfl ?_
      refine J.iload (j := 5) hC eX7_rowsHeldBy_30 rfl ?_
      refine J.iload (j := 6) hC eX7_rowsHeldBy_32 rfl ?_
      refine J.callVI (st := []) hC eX7_rowsHeldBy_34 h0 (by decide) rfl rfl ml_X7_57 mv_X7_alike (Rle_of (Nat.le_of_ble_eq_true rfl) (Nat.le_of_ble_eq_true rfl)) (c_X7_alike hC.X p0 h0 x6 x7 μ) rfl rfl (Nat.le_of_ble_eq_true rfl) (fun r_3 μ_2 => ?_)
      refine J.istore [(8, .int r_3), (0, .ref (xad (cX C) p0)), (1, .ref (xad (cX C) p1)), (2, .int x2), (3, .int x3), (4, .long l4), (6, .int x6), (7, .int x7)] hC eX7_rowsHeldBy_37 (by decide) rfl ?_
      refine J.iload (j := 0) hC eX7_rowsHeldBy_39 rfl ?_
      refine J.if_le hC eX7_rowsHeldBy_41 (fun _ => ?_) (fun _ => ?_)
      · refine J.sub [1, 2, 3, 4, 5, 6, 7] rfl ?_
        exact j_X7_rowsHeldBy_79 hC hr kc_8 hk_8 (L_X7_rowsHeldBy_20 kc_8 n) ih p0 h0 p1 h1 x2 x3 l4 x6 x7 μ_2
      · refine J.iinc (j := 4) (fun x3_4 => [(3, .int x3_4), (8, .int r_3), (0, .ref (xad (cX C) p0)), (1, .ref (xad (cX C) p1)), (2, .int x2), (4, .long l4), (6, .int x6), (7, .int x7)]) hC eX7_rowsHeldBy_44 rfl ci_1 (by decide) (fun _ => rfl) (fun x3_4 => ?_)
        refine J.iload_n (j := 0) hC eX7_rowsHeldBy_47 rfl ?_
        refine J.iload_n (j := 4) hC eX7_rowsHeldBy_48 rfl ?_
        refine J.icmp_le hC eX7_rowsHeldBy_49 (fun _ => ?_) (fun _ => ?_)
        · refine J.lload (j := 5) hC eX7_rowsHeldBy_56 rfl ?_
          refine J.aload_n (j := 3) hC eX7_rowsHeldBy_58 rfl ?_
          refine J.iload (j := 6) hC eX7_rowsHeldBy_59 rfl ?_
          refine J.iload (j := 7) hC eX7_rowsHeldBy_61 rfl ?_
          refine J.callVI (st := [.long l4]) hC eX7_rowsHeldBy_63 h1 (by decide) rfl rfl ml_X7_62 mv_X9_holds (Rle_of (Nat.le_of_ble_eq_true rfl) (Nat.le_of_ble_eq_true rfl)) (c_X9_holds hC.X p1 h1 x6 x7 μ_2) rfl rfl (Nat.le_of_ble_eq_true rfl) (fun r_6 μ_5 => ?_)
          refine J.if_eq hC eX7_rowsHeldBy_66 (fun _ => ?_) (fun _ => ?_)
          · refine J.lconst hC eX7_rowsHeldBy_75 cl_0 ?_
            refine J.sub [2, 3, 4, 0, 6, 7] rfl ?_
            exact j_X7_rowsHeldBy_76 hC hr kc_8 hk_8 (L_X7_rowsHeldBy_20 kc_8 n) ih p0 h0 p1 h1 x2 x3_4 x6 x7 l4 (0 : Int64) μ_5
          · refine J.iload (j := 1) hC eX7_rowsHeldBy_69 rfl ?_
            refine J.i2l hC eX7_rowsHeldBy_71 ?_
            refine J.goto hC eX7_rowsHeldBy_72 ?_
            refine J.sub [2, 3, 4, 0, 6, 7] rfl ?_
            exact j_X7_rowsHeldBy_76 hC hr kc_8 hk_8 (L_X7_rowsHeldBy_20 kc_8 n) ih p0 h0 p1 h1 x2 x3_4 x6 x7 l4 r_3.toInt64 μ_5
        · refine J.ldc2 hC eX7_rowsHeldBy_52 mk_X7_60 ?_
          exact J.lret hC hr eX7_rowsHeldBy_55
def L_X7_rowsHeldBy_8 : Nat → Nat → Nat → Int32 → Int32 → Int64 → Int32 → Mem → Option (Int64 × Mem)
  | 0, _, _, _, _, _, _, _ => none
  | n + 1, p0, p1, x2, x3, l4, x6, μ => if (rI μ p0 2) ≤ x6 then some (l4, μ) else L_X7_rowsHeldBy_20 (L_X7_rowsHeldBy_8  n) 100000 p0 p1 x2 x3 l4 x6 (-1 : Int32) μ
set_option maxHeartbeats 4000000 in
theorem j_X7_rowsHeldBy_8 {C : Cx} (hC : Ok C cX7_rowsHeldBy 9 RX7 (rmF 2 46)) (hr : (cT C).sig.returnType = (some .long)) : ∀ (n : Nat) (p0 : Nat) (h0 : kd p0 = 7) (p1 : Nat) (h1 : kd p1 = 9) (x2 : Int32) (x3 : Int32) (l4 : Int64) (x6 : Int32) (μ : Mem), J C (KL C) μ 8 [(0, .ref (xad (cX C) p0)), (1, .ref (xad (cX C) p1)), (2, .int x2), (3, .int x3), (4, .long l4), (6, .int x6)] [] (L_X7_rowsHeldBy_8  n p0 p1 x2 x3 l4 x6 μ) := by
  intro n
  induction n with
  | zero => intros; exact J.no
  | succ n ih =>
    intro p0 h0 p1 h1 x2 x3 l4 x6 μ
    rw [L_X7_rowsHeldBy_8]
    refine J.iload (j := 5) hC eX7_rowsHeldBy_8 rfl ?_
    refine J.aload_n (j := 0) hC eX7_rowsHeldBy_10 rfl ?_
    refine gf_X7_22 hC eX7_rowsHeldBy_11 h0 ?_
    refine J.icmp_ge hC eX7_rowsHeldBy_14 (fun _ => ?_) (fun _ => ?_)
    · refine J.lload (j := 4) hC eX7_rowsHeldBy_91 rfl ?_
      exact J.lret hC hr eX7_rowsHeldBy_93
    · refine J.iconst hC eX7_rowsHeldBy_17 ci_m1 ?_
      refine J.istore [(7, .int (-1 : Int32)), (0, .ref (xad (cX C) p0)), (1, .ref (xad (cX C) p1)), (2, .int x2), (3, .int x3), (4, .long l4), (6, .int x6)] hC eX7_rowsHeldBy_18 (by decide) rfl ?_
      refine J.sub [1, 2, 3, 4, 5, 6, 0] rfl ?_
      exact j_X7_rowsHeldBy_20 hC hr (L_X7_rowsHeldBy_8  n) ih 100000 p0 h0 p1 h1 x2 x3 l4 x6 (-1 : Int32) μ
def G_X7_rowsHeldBy (p0 : Nat) (p1 : Nat) (x2 : Int32) (μ : Mem) : Option (Int64 × Mem) :=
  L_X7_rowsHeldBy_8  100000 p0 p1 x2 (0 : Int32) (0 : Int64) (-1 : Int32) μ
set_option maxHeartbeats 4000000 in
theorem c_X7_rowsHeldBy {X : Wd} (hX : WdOk X) (p0 : Nat) (h0 : kd p0 = 7) (p1 : Nat) (h1 : kd p1 = 9) (x2 : Int32) (μ : Mem) : CtL X yX7_rowsHeldBy cX7_rowsHeldBy 9 (some .long) (rmF 2 46) [.ref (xad X p0), .ref (xad X p1), .int x2] μ (G_X7_rowsHeldBy p0 p1 x2 μ) := by
  refine CtL.of hX (plainFor_of_name (by decide)) (by exact Nat.le_of_ble_eq_true rfl) ?_
  intro C hCX hC hr
  subst hCX
  show J C (KL C) μ 0 [(0, .ref (xad (cX C) p0)), (1, .ref (xad (cX C) p1)), (2, .int x2)] [] _
  unfold G_X7_rowsHeldBy
  refine J.iconst hC eX7_rowsHeldBy_0 ci_0 ?_
  refine J.istore_n [(3, .int (0 : Int32)), (0, .ref (xad (cX C) p0)), (1, .ref (xad (cX C) p1)), (2, .int x2)] hC eX7_rowsHeldBy_1 (by decide) rfl ?_
  refine J.lconst hC eX7_rowsHeldBy_2 cl_0 ?_
  refine J.lstore [(4, .long (0 : Int64)), (3, .int (0 : Int32)), (0, .ref (xad (cX C) p0)), (1, .ref (xad (cX C) p1)), (2, .int x2)] hC eX7_rowsHeldBy_3 (by decide) rfl ?_
  refine J.iconst hC eX7_rowsHeldBy_5 ci_m1 ?_
  refine J.istore [(6, .int (-1 : Int32)), (4, .long (0 : Int64)), (3, .int (0 : Int32)), (0, .ref (xad (cX C) p0)), (1, .ref (xad (cX C) p1)), (2, .int x2)] hC eX7_rowsHeldBy_6 (by decide) rfl ?_
  refine J.sub [3, 4, 5, 2, 1, 0] rfl ?_
  exact j_X7_rowsHeldBy_8 hC hr  100000 p0 h0 p1 h1 x2 (0 : Int32) (0 : Int64) (-1 : Int32) μ
-- X7_chainTruth
theorem eX7_chainTruth_0 : DD cX7_chainTruth 0 (.iconst 0) 1 1 := ⟨by decide +kernel, rfl⟩
theorem eX7_chainTruth_1 : DD cX7_chainTruth 1 (.istore 4) 2 3 := ⟨by decide +kernel, rfl⟩
theorem eX7_chainTruth_3 : DD cX7_chainTruth 3 (.lconst 0) 1 4 := ⟨by decide +kernel, rfl⟩
theorem eX7_chainTruth_4 : DD cX7_chainTruth 4 (.lstore 5) 2 6 := ⟨by decide +kernel, rfl⟩
theorem eX7_chainTruth_6 : DD cX7_chainTruth 6 (.iconst 0) 1 7 := ⟨by decide +kernel, rfl⟩
theorem eX7_chainTruth_7 : DD cX7_chainTruth 7 (.istore 7) 2 9 := ⟨by decide +kernel, rfl⟩
theorem eX7_chainTruth_9 : DD cX7_chainTruth 9 (.iload 7) 2 11 := ⟨by decide +kernel, rfl⟩
theorem eX7_chainTruth_11 : DD cX7_chainTruth 11 (.aload_n 0) 1 12 := ⟨by decide +kernel, rfl⟩
theorem eX7_chainTruth_12 : DD cX7_chainTruth 12 (.getfield 22) 3 15 := ⟨by decide +kernel, rfl⟩
theorem eX7_chainTruth_15 : DB cX7_chainTruth 15 (.if_icmp .ge 81) (81) 18 96 := ⟨by decide +kernel, rfl, by decide⟩
theorem eX7_chainTruth_18 : DD cX7_chainTruth 18 (.iconst 0) 1 19 := ⟨by decide +kernel, rfl⟩
theorem eX7_chainTruth_19 : DD cX7_chainTruth 19 (.istore 8) 2 21 := ⟨by decide +kernel, rfl⟩
theorem eX7_chainTruth_21 : DD cX7_chainTruth 21 (.iload 8) 2 23 := ⟨by decide +kernel, rfl⟩
theorem eX7_chainTruth_23 : DD cX7_chainTruth 23 (.aload_n 0) 1 24 := ⟨by decide +kernel, rfl⟩
theorem eX7_chainTruth_24 : DD cX7_chainTruth 24 (.getfield 22) 3 27 := ⟨by decide +kernel, rfl⟩
theorem eX7_chainTruth_27 : DB cX7_chainTruth 27 (.if_icmp .ge 63) (63) 30 90 := ⟨by decide +kernel, rfl, by decide⟩
theorem eX7_chainTruth_30 : DD cX7_chainTruth 30 (.aload_n 0) 1 31 := ⟨by decide +kernel, rfl⟩
theorem eX7_chainTruth_31 : DD cX7_chainTruth 31 (.iload 7) 2 33 := ⟨by decide +kernel, rfl⟩
theorem eX7_chainTruth_33 : DD cX7_chainTruth 33 (.iload 8) 2 35 := ⟨by decide +kernel, rfl⟩
theorem eX7_chainTruth_35 : DD cX7_chainTruth 35 (.invokevirtual 57) 3 38 := ⟨by decide +kernel, rfl⟩
theorem eX7_chainTruth_38 : DD cX7_chainTruth 38 (.i2l) 1 39 := ⟨by decide +kernel, rfl⟩
theorem eX7_chainTruth_39 : DD cX7_chainTruth 39 (.lstore 9) 2 41 := ⟨by decide +kernel, rfl⟩
theorem eX7_chainTruth_41 : DD cX7_chainTruth 41 (.lload 9) 2 43 := ⟨by decide +kernel, rfl⟩
theorem eX7_chainTruth_43 : DD cX7_chainTruth 43 (.lconst 0) 1 44 := ⟨by decide +kernel, rfl⟩
theorem eX7_chainTruth_44 : DD cX7_chainTruth 44 (.lcmp) 1 45 := ⟨by decide +kernel, rfl⟩
theorem eX7_chainTruth_45 : DB cX7_chainTruth 45 (.ifCond .le 39) (39) 48 84 := ⟨by decide +kernel, rfl, by decide⟩
theorem eX7_chainTruth_48 : DD cX7_chainTruth 48 (.iinc 4 1) 3 51 := ⟨by decide +kernel, rfl⟩
theorem eX7_chainTruth_51 : DD cX7_chainTruth 51 (.iload 4) 2 53 := ⟨by decide +kernel, rfl⟩
theorem eX7_chainTruth_53 : DD cX7_chainTruth 53 (.iload_n 3) 1 54 := ⟨by decide +kernel, rfl⟩
theorem eX7_chainTruth_54 : DB cX7_chainTruth 54 (.if_icmp .le 7) (7) 57 61 := ⟨by decide +kernel, rfl, by decide⟩
theorem eX7_chainTruth_57 : DD cX7_chainTruth 57 (.ldc2_w 60) 3 60 := ⟨by decide +kernel, rfl⟩
theorem eX7_chainTruth_60 : DD cX7_chainTruth 60 (.lreturn) 1 61 := ⟨by decide +kernel, rfl⟩
theorem eX7_chainTruth_61 : DD cX7_chainTruth 61 (.lload 5) 2 63 := ⟨by decide +kernel, rfl⟩
theorem eX7_chainTruth_63 : DD cX7_chainTruth 63 (.lload 9) 2 65 := ⟨by decide +kernel, rfl⟩
theorem eX7_chainTruth_65 : DD cX7_chainTruth 65 (.aload_n 1) 1 66 := ⟨by decide +kernel, rfl⟩
theorem eX7_chainTruth_66 : DD cX7_chainTruth 66 (.iload 7) 2 68 := ⟨by decide +kernel, rfl⟩
theorem eX7_chainTruth_68 : DD cX7_chainTruth 68 (.invokevirtual 68) 3 71 := ⟨by decide +kernel, rfl⟩
theorem eX7_chainTruth_71 : DD cX7_chainTruth 71 (.i2l) 1 72 := ⟨by decide +kernel, rfl⟩
theorem eX7_chainTruth_72 : DD cX7_chainTruth 72 (.lmul) 1 73 := ⟨by decide +kernel, rfl⟩
theorem eX7_chainTruth_73 : DD cX7_chainTruth 73 (.aload_n 2) 1 74 := ⟨by decide +kernel, rfl⟩
theorem eX7_chainTruth_74 : DD cX7_chainTruth 74 (.iload 8) 2 76 := ⟨by decide +kernel, rfl⟩
theorem eX7_chainTruth_76 : DD cX7_chainTruth 76 (.invokevirtual 68) 3 79 := ⟨by decide +kernel, rfl⟩
theorem eX7_chainTruth_79 : DD cX7_chainTruth 79 (.i2l) 1 80 := ⟨by decide +kernel, rfl⟩
theorem eX7_chainTruth_80 : DD cX7_chainTruth 80 (.lmul) 1 81 := ⟨by decide +kernel, rfl⟩
theorem eX7_chainTruth_81 : DD cX7_chainTruth 81 (.ladd) 1 82 := ⟨by decide +kernel, rfl⟩
theorem eX7_chainTruth_82 : DD cX7_chainTruth 82 (.lstore 5) 2 84 := ⟨by decide +kernel, rfl⟩
theorem eX7_chainTruth_84 : DD cX7_chainTruth 84 (.iinc 8 1) 3 87 := ⟨by decide +kernel, rfl⟩
theorem eX7_chainTruth_87 : DB cX7_chainTruth 87 (.goto (-66)) (-66) 90 21 := ⟨by decide +kernel, rfl, by decide⟩
theorem eX7_chainTruth_90 : DD cX7_chainTruth 90 (.iinc 7 1) 3 93 := ⟨by decide +kernel, rfl⟩
theorem eX7_chainTruth_93 : DB cX7_chainTruth 93 (.goto (-84)) (-84) 96 9 := ⟨by decide +kernel, rfl, by decide⟩
theorem eX7_chainTruth_96 : DD cX7_chainTruth 96 (.lload 5) 2 98 := ⟨by decide +kernel, rfl⟩
theorem eX7_chainTruth_98 : DD cX7_chainTruth 98 (.lreturn) 1 99 := ⟨by decide +kernel, rfl⟩
def F_X7_chainTruth_84 (kc_9 : Nat → Nat → Nat → Int32 → Int32 → Int64 → Int32 → Mem → Option (Int64 × Mem)) (kc_21 : Nat → Nat → Nat → Int32 → Int32 → Int64 → Int32 → Int32 → Mem → Option (Int64 × Mem)) (p0 : Nat) (p1 : Nat) (p2 : Nat) (x3 : Int32) (x4 : Int32) (l5 : Int64) (x7 : Int32) (x8 : Int32) (μ : Mem) : Option (Int64 × Mem) :=
  lb (x8 + (1 : Int32)) (fun x8_1 => kc_21 p0 p1 p2 x3 x4 l5 x7 x8_1 μ)
set_option maxHeartbeats 4000000 in
theorem j_X7_chainTruth_84 {C : Cx} (hC : Ok C cX7_chainTruth 11 RX7 (rmF 2 43)) (hr : (cT C).sig.returnType = (some .long)) (kc_9 : Nat → Nat → Nat → Int32 → Int32 → Int64 → Int32 → Mem → Option (Int64 × Mem)) (hk_9 : ∀ (p0 : Nat) (h0 : kd p0 = 7) (p1 : Nat) (h1 : kd p1 = 4) (p2 : Nat) (h2 : kd p2 = 4) (x3 : Int32) (x4 : Int32) (l5 : Int64) (x7 : Int32) (μ : Mem), J C (KL C) μ 9 [(0, .ref (xad (cX C) p0)), (1, .ref (xad (cX C) p1)), (2, .ref (xad (cX C) p2)), (3, .int x3), (4, .int x4), (5, .long l5), (7, .int x7)] [] (kc_9 p0 p1 p2 x3 x4 l5 x7 μ)) (kc_21 : Nat → Nat → Nat → Int32 → Int32 → Int64 → Int32 → Int32 → Mem → Option (Int64 × Mem)) (hk_21 : ∀ (p0 : Nat) (h0 : kd p0 = 7) (p1 : Nat) (h1 : kd p1 = 4) (p2 : Nat) (h2 : kd p2 = 4) (x3 : Int32) (x4 : Int32) (l5 : Int64) (x7 : Int32) (x8 : Int32) (μ : Mem), J C (KL C) μ 21 [(0, .ref (xad (cX C) p0)), (1, .ref (xad (cX C) p1)), (2, .ref (xad (cX C) p2)), (3, .int x3), (4, .int x4), (5, .long l5), (7, .int x7), (8, .int x8)] [] (kc_21 p0 p1 p2 x3 x4 l5 x7 x8 μ)) (p0 : Nat) (h0 : kd p0 = 7) (p1 : Nat) (h1 : kd p1 = 4) (p2 : Nat) (h2 : kd p2 = 4) (x3 : Int32) (x4 : Int32) (l5 : Int64) (x7 : Int32) (x8 : Int32) (μ : Mem) : J C (KL C) μ 84 [(0, .ref (xad (cX C) p0)), (1, .ref (xad (cX C) p1)), (2, .ref (xad (cX C) p2)), (3, .int x3), (4, .int x4), (5, .long l5), (7, .int x7), (8, .int x8)] [] (F_X7_chainTruth_84 kc_9 kc_21 p0 p1 p2 x3 x4 l5 x7 x8 μ) := by
  unfold F_X7_chainTruth_84
  refine J.iinc (j := 7) (fun x8_1 => [(8, .int x8_1), (0, .ref (xad (cX C) p0)), (1, .ref (xad (cX C) p1)), (2, .ref (xad (cX C) p2)), (3, .int x3), (4, .int x4), (5, .long l5), (7, .int x7)]) hC eX7_chainTruth_84 rfl ci_1 (by decide) (fun _ => rfl) (fun x8_1 => ?_)
  refine J.goto hC eX7_chainTruth_87 ?_
  refine J.sub [1, 2, 3, 4, 5, 6, 7, 0] rfl ?_
  exact hk_21 p0 h0 p1 h1 p2 h2 x3 x4 l5 x7 x8_1 μ
def L_X7_chainTruth_21 (kc_9 : Nat → Nat → Nat → Int32 → Int32 → Int64 → Int32 → Mem → Option (Int64 × Mem)) : Nat → Nat → Nat → Nat → Int32 → Int32 → Int64 → Int32 → Int32 → Mem → Option (Int64 × Mem)
  | 0, _, _, _, _, _, _, _, _, _ => none
  | n + 1, p0, p1, p2, x3, x4, l5, x7, x8, μ => if (rI μ p0 2) ≤ x8 then lb (x7 + (1 : Int32)) (fun x7_1 => kc_9 p0 p1 p2 x3 x4 l5 x7_1 μ) else bd (G_X7_alike p0 x7 x8 μ) (fun r_3 μ_2 => lb (r_3.toInt64) (fun l9_4 => if (lg_cmp l9_4 (0 : Int64)) ≤ 0 then F_X7_chainTruth_84 kc_9 (L_X7_chainTruth_21 kc_9 n) p0 p1 p2 x3 x4 l5 x7 x8 μ_2 else lb (x4 + (1 : Int32)) (fun x4_5 => if x4_5 ≤ x3 then bd (G_X4_countAt p1 x7 μ_2) (fun r_7 μ_6 => bd (G_X4_countAt p2 x8 μ_6) (fun r_9 μ_8 => lb (l5 + ((l9_4 * r_7.toInt64) * r_9.toInt64)) (fun l5_10 => F_X7_chainTruth_84 kc_9 (L_X7_chainTruth_21 kc_9 n) p0 p1 p2 x3 x4_5 l5_10 x7 x8 μ_8))) else some ((-1 : Int64), μ_2))))
set_option maxHeartbeats 4000000 in
theorem j_X7_chainTruth_21 {C : Cx} (hC : Ok C cX7_chainTruth 11 RX7 (rmF 2 43)) (hr : (cT C).sig.returnType = (some .long)) (kc_9 : Nat → Nat → Nat → Int32 → Int32 → Int64 → Int32 → Mem → Option (Int64 × Mem)) (hk_9 : ∀ (p0 : Nat) (h0 : kd p0 = 7) (p1 : Nat) (h1 : kd p1 = 4) (p2 : Nat) (h2 : kd p2 = 4) (x3 : Int32) (x4 : Int32) (l5 : Int64) (x7 : Int32) (μ : Mem), J C (KL C) μ 9 [(0, .ref (xad (cX C) p0)), (1, .ref (xad (cX C) p1)), (2, .ref (xad (cX C) p2)), (3, .int x3), (4, .int x4), (5, .long l5), (7, .int x7)] [] (kc_9 p0 p1 p2 x3 x4 l5 x7 μ)) : ∀ (n : Nat) (p0 : Nat) (h0 : kd p0 = 7) (p1 : Nat) (h1 : kd p1 = 4) (p2 : Nat) (h2 : kd p2 = 4) (x3 : Int32) (x4 : Int32) (l5 : Int64) (x7 : Int32) (x8 : Int32) (μ : Mem), J C (KL C) μ 21 [(0, .ref (xad (cX C) p0)), (1, .ref (xad (cX C) p1)), (2, .ref (xad (cX C) p2)), (3, .int x3), (4, .int x4), (5, .long l5), (7, .int x7), (8, .int x8)] [] (L_X7_chainTruth_21 kc_9 n p0 p1 p2 x3 x4 l5 x7 x8 μ) := by
  intro n
  induction n with
  | zero => intros; exact J.no
  | succ n ih =>
    intro p0 h0 p1 h1 p2 h2 x3 x4 l5 x7 x8 μ
    rw [L_X7_chainTruth_21]
    refine J.iload (j := 7) hC eX7_chainTruth_21 rfl ?_
    refine J.aload_n (j := 0) hC eX7_chainTruth_23 rfl ?_
    refine gf_X7_22 hC eX7_chainTruth_24 h0 ?_
    refine J.icmp_ge hC eX7_chainTruth_27 (fun _ => ?_) (fun _ => ?_)
    · refine J.iinc (j := 6) (fun x7_1 => [(7, .int x7_1), (0, .ref (xad (cX C) p0)), (1, .ref (xad (cX C) p1)), (2, .ref (xad (cX C) p2)), (3, .int x3), (4, .int x4), (5, .long l5), (8, .int x8)]) hC eX7_chainTruth_90 rfl ci_1 (by decide) (fun _ => rfl) (fun x7_1 => ?_)
      refine J.goto hC eX7_chainTruth_93 ?_
      refine J.sub [1, 2, 3, 4, 5, 6, 0] rfl ?_
      exact hk_9 p0 h0 p1 h1 p2 h2 x3 x4 l5 x7_1 μ
    · refine J.aload_n (j := 0) hC eX7_chainTruth_30 rfl ?_
      refine J.iload (j := 6) hC eX7_chainTruth_31 rfl ?_
      refine J.iload (j := 7) hC eX7_chainTruth_33 rfl ?_
      refine J.callVI (st := []) hC eX7_chainTruth_35 h0 (by decide) rfl rfl ml_X7_57 mv_X7_alike (Rle_of (Nat.le_of_ble_eq_true rfl) (Nat.le_of_ble_eq_true rfl)) (c_X7_alike hC.X p0 h0 x7 x8 μ) rfl rfl (Nat.le_of_ble_eq_true rfl) (fun r_3 μ_2 => ?_)
      refine J.i2l hC eX7_chainTruth_38 ?_
      refine J.topl (fun l9_4 => ?_)
      refine J.lstore [(9, .long l9_4), (0, .ref (xad (cX C) p0)), (1, .ref (xad (cX C) p1)), (2, .ref (xad (cX C) p2)), (3, .int x3), (4, .int x4), (5, .long l5), (7, .int x7), (8, .int x8)] hC eX7_chainTruth_39 (by decide) rfl ?_
      refine J.lload (j := 0) hC eX7_chainTruth_41 rfl ?_
      refine J.lconst hC eX7_chainTruth_43 cl_0 ?_
      refine J.lcmp hC eX7_chainTruth_44 ?_
      refine J.if_le hC eX7_chainTruth_45 (fun _ => ?_) (fun _ => ?_)
      · refine J.sub [1, 2, 3, 4, 5, 6, 7, 8] rfl ?_
        exact j_X7_chainTruth_84 hC hr kc_9 hk_9 (L_X7_chainTruth_21 kc_9 n) ih p0 h0 p1 h1 p2 h2 x3 x4 l5 x7 x8 μ_2
      · refine J.iinc (j := 5) (fun x4_5 => [(4, .int x4_5), (9, .long l9_4), (0, .ref (xad (cX C) p0)), (1, .ref (xad (cX C) p1)), (2, .ref (xad (cX C) p2)), (3, .int x3), (5, .long l5), (7, .int x7), (8, .int x8)]) hC eX7_chainTruth_48 rfl ci_1 (by decide) (fun _ => rfl) (fun x4_5 => ?_)
        refine J.iload (j := 0) hC eX7_chainTruth_51 rfl ?_
        refine J.iload_n (j := 5) hC eX7_chainTruth_53 rfl ?_
        refine J.icmp_le hC eX7_chainTruth_54 (fun _ => ?_) (fun _ => ?_)
        · refine J.lload (j := 6) hC eX7_chainTruth_61 rfl ?_
          refine J.lload (j := 1) hC eX7_chainTruth_63 rfl ?_
          refine J.aload_n (j := 3) hC eX7_chainTruth_65 rfl ?_
          refine J.iload (j := 7) hC eX7_chainTruth_66 rfl ?_
          refine J.callVI (st := [.long l9_4, .long l5]) hC eX7_chainTruth_68 h1 (by decide) rfl rfl ml_X7_68 mv_X4_countAt (Rle_of (Nat.le_of_ble_eq_true rfl) (Nat.le_of_ble_eq_true rfl)) (c_X4_countAt hC.X p1 h1 x7 μ_2) rfl rfl (Nat.le_of_ble_eq_true rfl) (fun r_7 μ_6 => ?_)
          refine J.i2l hC eX7_chainTruth_71 ?_
          refine J.lmul hC eX7_chainTruth_72 ?_
          refine J.aload_n (j := 4) hC eX7_chainTruth_73 rfl ?_
          refine J.iload (j := 8) hC eX7_chainTruth_74 rfl ?_
          refine J.callVI (st := [.long (l9_4 * r_7.toInt64), .long l5]) hC eX7_chainTruth_76 h2 (by decide) rfl rfl ml_X7_68 mv_X4_countAt (Rle_of (Nat.le_of_ble_eq_true rfl) (Nat.le_of_ble_eq_true rfl)) (c_X4_countAt hC.X p2 h2 x8 μ_6) rfl rfl (Nat.le_of_ble_eq_true rfl) (fun r_9 μ_8 => ?_)
          refine J.i2l hC eX7_chainTruth_79 ?_
          refine J.lmul hC eX7_chainTruth_80 ?_
          refine J.ladd hC eX7_chainTruth_81 ?_
          refine J.topl (fun l5_10 => ?_)
          refine J.lstore [(5, .long l5_10), (4, .int x4_5), (9, .long l9_4), (0, .ref (xad (cX C) p0)), (1, .ref (xad (cX C) p1)), (2, .ref (xad (cX C) p2)), (3, .int x3), (7, .int x7), (8, .int x8)] hC eX7_chainTruth_82 (by decide) rfl ?_
          refine J.sub [3, 4, 5, 6, 1, 0, 7, 8] rfl ?_
          exact j_X7_chainTruth_84 hC hr kc_9 hk_9 (L_X7_chainTruth_21 kc_9 n) ih p0 h0 p1 h1 p2 h2 x3 x4_5 l5_10 x7 x8 μ_8
        · refine J.ldc2 hC eX7_chainTruth_57 mk_X7_60 ?_
          exact J.lret hC hr eX7_chainTruth_60
def L_X7_chainTruth_9 : Nat → Nat → Nat → Nat → Int32 → Int32 → Int64 → Int32 → Mem → Option (Int64 × Mem)
  | 0, _, _, _, _, _, _, _, _ => none
  | n + 1, p0, p1, p2, x3, x4, l5, x7, μ => if (rI μ p0 2) ≤ x7 then some (l5, μ) else L_X7_chainTruth_21 (L_X7_chainTruth_9  n) 100000 p0 p1 p2 x3 x4 l5 x7 (0 : Int32) μ
set_option maxHeartbeats 4000000 in
theorem j_X7_chainTruth_9 {C : Cx} (hC : Ok C cX7_chainTruth 11 RX7 (rmF 2 43)) (hr : (cT C).sig.returnType = (some .long)) : ∀ (n : Nat) (p0 : Nat) (h0 : kd p0 = 7) (p1 : Nat) (h1 : kd p1 = 4) (p2 : Nat) (h2 : kd p2 = 4) (x3 : Int32) (x4 : Int32) (l5 : Int64) (x7 : Int32) (μ : Mem), J C (KL C) μ 9 [(0, .ref (xad (cX C) p0)), (1, .ref (xad (cX C) p1)), (2, .ref (xad (cX C) p2)), (3, .int x3), (4, .int x4), (5, .long l5), (7, .int x7)] [] (L_X7_chainTruth_9  n p0 p1 p2 x3 x4 l5 x7 μ) := by
  intro n
  induction n with
  | zero => intros; exact J.no
  | succ n ih =>
    intro p0 h0 p1 h1 p2 h2 x3 x4 l5 x7 μ
    rw [L_X7_chainTruth_9]
    refine J.iload (j := 6) hC eX7_chainTruth_9 rfl ?_
    refine J.aload_n (j := 0) hC eX7_chainTruth_11 rfl ?_
    refine gf_X7_22 hC eX7_chainTruth_12 h0 ?_
    refine J.icmp_ge hC eX7_chainTruth_15 (fun _ => ?_) (fun _ => ?_)
    · refine J.lload (j := 5) hC eX7_chainTruth_96 rfl ?_
      exact J.lret hC hr eX7_chainTruth_98
    · refine J.iconst hC eX7_chainTruth_18 ci_0 ?_
      refine J.istore [(8, .int (0 : Int32)), (0, .ref (xad (cX C) p0)), (1, .ref (xad (cX C) p1)), (2, .ref (xad (cX C) p2)), (3, .int x3), (4, .int x4), (5, .long l5), (7, .int x7)] hC eX7_chainTruth_19 (by decide) rfl ?_
      refine J.sub [1, 2, 3, 4, 5, 6, 7, 0] rfl ?_
      exact j_X7_chainTruth_21 hC hr (L_X7_chainTruth_9  n) ih 100000 p0 h0 p1 h1 p2 h2 x3 x4 l5 x7 (0 : Int32) μ
def G_X7_chainTruth (p0 : Nat) (p1 : Nat) (p2 : Nat) (x3 : Int32) (μ : Mem) : Option (Int64 × Mem) :=
  L_X7_chainTruth_9  100000 p0 p1 p2 x3 (0 : Int32) (0 : Int64) (0 : Int32) μ
set_option maxHeartbeats 4000000 in
theorem c_X7_chainTruth {X : Wd} (hX : WdOk X) (p0 : Nat) (h0 : kd p0 = 7) (p1 : Nat) (h1 : kd p1 = 4) (p2 : Nat) (h2 : kd p2 = 4) (x3 : Int32) (μ : Mem) : CtL X yX7_chainTruth cX7_chainTruth 11 (some .long) (rmF 2 43) [.ref (xad X p0), .ref (xad X p1), .ref (xad X p2), .int x3] μ (G_X7_chainTruth p0 p1 p2 x3 μ) := by
  refine CtL.of hX (plainFor_of_name (by decide)) (by exact Nat.le_of_ble_eq_true rfl) ?_
  intro C hCX hC hr
  subst hCX
  show J C (KL C) μ 0 [(0, .ref (xad (cX C) p0)), (1, .ref (xad (cX C) p1)), (2, .ref (xad (cX C) p2)), (3, .int x3)] [] _
  unfold G_X7_chainTruth
  refine J.iconst hC eX7_chainTruth_0 ci_0 ?_
  refine J.istore [(4, .int (0 : Int32)), (0, .ref (xad (cX C) p0)), (1, .ref (xad (cX C) p1)), (2, .ref (xad (cX C) p2)), (3, .int x3)] hC eX7_chainTruth_1 (by decide) rfl ?_
  refine J.lconst hC eX7_chainTruth_3 cl_0 ?_
  refine J.lstore [(5, .long (0 : Int64)), (4, .int (0 : Int32)), (0, .ref (xad (cX C) p0)), (1, .ref (xad (cX C) p1)), (2, .ref (xad (cX C) p2)), (3, .int x3)] hC eX7_chainTruth_4 (by decide) rfl ?_
  refine J.iconst hC eX7_chainTruth_6 ci_0 ?_
  refine J.istore [(7, .int (0 : Int32)), (5, .long (0 : Int64)), (4, .int (0 : Int32)), (0, .ref (xad (cX C) p0)), (1, .ref (xad (cX C) p1)), (2, .ref (xad (cX C) p2)), (3, .int x3)] hC eX7_chainTruth_7 (by decide) rfl ?_
  refine J.sub [3, 4, 5, 6, 2, 1, 0] rfl ?_
  exact j_X7_chainTruth_9 hC hr  100000 p0 h0 p1 h1 p2 h2 x3 (0 : Int32) (0 : Int64) (0 : Int32) μ
-- X7_chainUpper
theorem eX7_chainUpper_0 : DD cX7_chainUpper 0 (.aload_n 1) 1 1 := ⟨by decide +kernel, rfl⟩
theorem eX7_chainUpper_1 : DD cX7_chainUpper 1 (.aload_n 0) 1 2 := ⟨by decide +kernel, rfl⟩
theorem eX7_chainUpper_2 : DD cX7_chainUpper 2 (.getfield 18) 3 5 := ⟨by decide +kernel, rfl⟩
theorem eX7_chainUpper_5 : DD cX7_chainUpper 5 (.iconst 0) 1 6 := ⟨by decide +kernel, rfl⟩
theorem eX7_chainUpper_6 : DD cX7_chainUpper 6 (.aaload) 1 7 := ⟨by decide +kernel, rfl⟩
theorem eX7_chainUpper_7 : DD cX7_chainUpper 7 (.invokevirtual 72) 3 10 := ⟨by decide +kernel, rfl⟩
theorem eX7_chainUpper_10 : DD cX7_chainUpper 10 (.aload_n 2) 1 11 := ⟨by decide +kernel, rfl⟩
theorem eX7_chainUpper_11 : DD cX7_chainUpper 11 (.invokevirtual 76) 3 14 := ⟨by decide +kernel, rfl⟩
theorem eX7_chainUpper_14 : DD cX7_chainUpper 14 (.i2l) 1 15 := ⟨by decide +kernel, rfl⟩
theorem eX7_chainUpper_15 : DD cX7_chainUpper 15 (.lmul) 1 16 := ⟨by decide +kernel, rfl⟩
theorem eX7_chainUpper_16 : DD cX7_chainUpper 16 (.lstore_n 3) 1 17 := ⟨by decide +kernel, rfl⟩
theorem eX7_chainUpper_17 : DD cX7_chainUpper 17 (.aload_n 0) 1 18 := ⟨by decide +kernel, rfl⟩
theorem eX7_chainUpper_18 : DD cX7_chainUpper 18 (.getfield 18) 3 21 := ⟨by decide +kernel, rfl⟩
theorem eX7_chainUpper_21 : DD cX7_chainUpper 21 (.iconst 1) 1 22 := ⟨by decide +kernel, rfl⟩
theorem eX7_chainUpper_22 : DD cX7_chainUpper 22 (.aaload) 1 23 := ⟨by decide +kernel, rfl⟩
theorem eX7_chainUpper_23 : DD cX7_chainUpper 23 (.aload_n 2) 1 24 := ⟨by decide +kernel, rfl⟩
theorem eX7_chainUpper_24 : DD cX7_chainUpper 24 (.invokevirtual 72) 3 27 := ⟨by decide +kernel, rfl⟩
theorem eX7_chainUpper_27 : DD cX7_chainUpper 27 (.aload_n 1) 1 28 := ⟨by decide +kernel, rfl⟩
theorem eX7_chainUpper_28 : DD cX7_chainUpper 28 (.invokevirtual 76) 3 31 := ⟨by decide +kernel, rfl⟩
theorem eX7_chainUpper_31 : DD cX7_chainUpper 31 (.i2l) 1 32 := ⟨by decide +kernel, rfl⟩
theorem eX7_chainUpper_32 : DD cX7_chainUpper 32 (.lmul) 1 33 := ⟨by decide +kernel, rfl⟩
theorem eX7_chainUpper_33 : DD cX7_chainUpper 33 (.lstore 5) 2 35 := ⟨by decide +kernel, rfl⟩
theorem eX7_chainUpper_35 : DD cX7_chainUpper 35 (.lload_n 3) 1 36 := ⟨by decide +kernel, rfl⟩
theorem eX7_chainUpper_36 : DD cX7_chainUpper 36 (.lload 5) 2 38 := ⟨by decide +kernel, rfl⟩
theorem eX7_chainUpper_38 : DD cX7_chainUpper 38 (.invokestatic 80) 3 41 := ⟨by decide +kernel, rfl⟩
theorem eX7_chainUpper_41 : DD cX7_chainUpper 41 (.lreturn) 1 42 := ⟨by decide +kernel, rfl⟩
def G_X7_chainUpper (p0 : Nat) (p1 : Nat) (p2 : Nat) (μ : Mem) : Option (Int64 × Mem) :=
  bd (G_X4_joinUpper p1 (p0 + 3) μ) (fun r_3 μ_2 => bd (G_X4_greatestOfAll p2 μ_2) (fun r_5 μ_4 => lb (r_3 * r_5.toInt64) (fun l3_6 => bd (G_X4_joinUpper (p0 + 6) p2 μ_4) (fun r_9 μ_8 => bd (G_X4_greatestOfAll p1 μ_8) (fun r_11 μ_10 => lb (r_9 * r_11.toInt64) (fun l5_12 => some (lmin l3_6 l5_12, μ_10)))))))
set_option maxHeartbeats 4000000 in
theorem c_X7_chainUpper {X : Wd} (hX : WdOk X) (p0 : Nat) (h0 : kd p0 = 7) (p1 : Nat) (h1 : kd p1 = 4) (p2 : Nat) (h2 : kd p2 = 4) (μ : Mem) : CtL X yX7_chainUpper cX7_chainUpper 7 (some .long) (rmF 3 79) [.ref (xad X p0), .ref (xad X p1), .ref (xad X p2)] μ (G_X7_chainUpper p0 p1 p2 μ) := by
  refine CtL.of hX (plainFor_of_name (by decide)) (by exact Nat.le_of_ble_eq_true rfl) ?_
  intro C hCX hC hr
  subst hCX
  show J C (KL C) μ 0 [(0, .ref (xad (cX C) p0)), (1, .ref (xad (cX C) p1)), (2, .ref (xad (cX C) p2))] [] _
  unfold G_X7_chainUpper
  refine J.aload_n (j := 1) hC eX7_chainUpper_0 rfl ?_
  refine J.aload_n (j := 0) hC eX7_chainUpper_1 rfl ?_
  refine gf_X7_18 (q := p0 + 2) hC eX7_chainUpper_2 h0 rfl ?_
  refine J.iconst hC eX7_chainUpper_5 ci_0 ?_
  refine J.aaldLK (q := p0 + 3) hC eX7_chainUpper_6 (kf_X7_lanes h0) (by decide) rfl (fun hq_1 => ?_)
  refine J.callVL (st := []) hC eX7_chainUpper_7 h1 (by decide) rfl rfl ml_X7_72 mv_X4_joinUpper (Rle_of (Nat.le_of_ble_eq_true rfl) (Nat.le_of_ble_eq_true rfl)) (c_X4_joinUpper hC.X p1 h1 (p0 + 3) hq_1 μ) rfl rfl (Nat.le_of_ble_eq_true rfl) (fun r_3 μ_2 => ?_)
  refine J.aload_n (j := 2) hC eX7_chainUpper_10 rfl ?_
  refine J.callVI (st := [.long r_3]) hC eX7_chainUpper_11 h2 (by decide) rfl rfl ml_X7_76 mv_X4_greatestOfAll (Rle_of (Nat.le_of_ble_eq_true rfl) (Nat.le_of_ble_eq_true rfl)) (c_X4_greatestOfAll hC.X p2 h2 μ_2) rfl rfl (Nat.le_of_ble_eq_true rfl) (fun r_5 μ_4 => ?_)
  refine J.i2l hC eX7_chainUpper_14 ?_
  refine J.lmul hC eX7_chainUpper_15 ?_
  refine J.topl (fun l3_6 => ?_)
  refine J.lstore_n [(3, .long l3_6), (0, .ref (xad (cX C) p0)), (1, .ref (xad (cX C) p1)), (2, .ref (xad (cX C) p2))] hC eX7_chainUpper_16 (by decide) rfl ?_
  refine J.aload_n (j := 1) hC eX7_chainUpper_17 rfl ?_
  refine gf_X7_18 (q := p0 + 2) hC eX7_chainUpper_18 h0 rfl ?_
  refine J.iconst hC eX7_chainUpper_21 ci_1 ?_
  refine J.aaldLK (q := p0 + 6) hC eX7_chainUpper_22 (kf_X7_lanes h0) (by decide) rfl (fun hq_7 => ?_)
  refine J.aload_n (j := 3) hC eX7_chainUpper_23 rfl ?_
  refine J.callVL (st := []) hC eX7_chainUpper_24 hq_7 (by decide) rfl rfl ml_X7_72 mv_X4_joinUpper (Rle_of (Nat.le_of_ble_eq_true rfl) (Nat.le_of_ble_eq_true rfl)) (c_X4_joinUpper hC.X (p0 + 6) hq_7 p2 h2 μ_4) rfl rfl (Nat.le_of_ble_eq_true rfl) (fun r_9 μ_8 => ?_)
  refine J.aload_n (j := 2) hC eX7_chainUpper_27 rfl ?_
  refine J.callVI (st := [.long r_9]) hC eX7_chainUpper_28 h1 (by decide) rfl rfl ml_X7_76 mv_X4_greatestOfAll (Rle_of (Nat.le_of_ble_eq_true rfl) (Nat.le_of_ble_eq_true rfl)) (c_X4_greatestOfAll hC.X p1 h1 μ_8) rfl rfl (Nat.le_of_ble_eq_true rfl) (fun r_11 μ_10 => ?_)
  refine J.i2l hC eX7_chainUpper_31 ?_
  refine J.lmul hC eX7_chainUpper_32 ?_
  refine J.topl (fun l5_12 => ?_)
  refine J.lstore [(5, .long l5_12), (3, .long l3_6), (0, .ref (xad (cX C) p0)), (1, .ref (xad (cX C) p1)), (2, .ref (xad (cX C) p2))] hC eX7_chainUpper_33 (by decide) rfl ?_
  refine J.lload_n (j := 1) hC eX7_chainUpper_35 rfl ?_
  refine J.lload (j := 0) hC eX7_chainUpper_36 rfl ?_
  refine J.lmin hC eX7_chainUpper_38 ml_X7_80 w_sminL w_im w_cminL (Nat.le_of_ble_eq_true rfl) (Nat.le_of_ble_eq_true rfl) ?_
  exact J.lret hC hr eX7_chainUpper_41
-- X8_bytesIn
theorem eX8_bytesIn_0 : DD cX8_bytesIn 0 (.iconst 0) 1 1 := ⟨by decide +kernel, rfl⟩
theorem eX8_bytesIn_1 : DD cX8_bytesIn 1 (.istore_n 1) 1 2 := ⟨by decide +kernel, rfl⟩
theorem eX8_bytesIn_2 : DD cX8_bytesIn 2 (.iconst 0) 1 3 := ⟨by decide +kernel, rfl⟩
theorem eX8_bytesIn_3 : DD cX8_bytesIn 3 (.istore_n 2) 1 4 := ⟨by decide +kernel, rfl⟩
theorem eX8_bytesIn_4 : DD cX8_bytesIn 4 (.iload_n 2) 1 5 := ⟨by decide +kernel, rfl⟩
theorem eX8_bytesIn_5 : DD cX8_bytesIn 5 (.bipush 32) 2 7 := ⟨by decide +kernel, rfl⟩
theorem eX8_bytesIn_7 : DB cX8_bytesIn 7 (.if_icmp .ge 22) (22) 10 29 := ⟨by decide +kernel, rfl, by decide⟩
theorem eX8_bytesIn_10 : DD cX8_bytesIn 10 (.iload_n 0) 1 11 := ⟨by decide +kernel, rfl⟩
theorem eX8_bytesIn_11 : DD cX8_bytesIn 11 (.iload_n 2) 1 12 := ⟨by decide +kernel, rfl⟩
theorem eX8_bytesIn_12 : DD cX8_bytesIn 12 (.iushr) 1 13 := ⟨by decide +kernel, rfl⟩
theorem eX8_bytesIn_13 : DD cX8_bytesIn 13 (.sipush 255) 3 16 := ⟨by decide +kernel, rfl⟩
theorem eX8_bytesIn_16 : DD cX8_bytesIn 16 (.iand) 1 17 := ⟨by decide +kernel, rfl⟩
theorem eX8_bytesIn_17 : DB cX8_bytesIn 17 (.ifCond .eq 6) (6) 20 23 := ⟨by decide +kernel, rfl, by decide⟩
theorem eX8_bytesIn_20 : DD cX8_bytesIn 20 (.iinc 1 1) 3 23 := ⟨by decide +kernel, rfl⟩
theorem eX8_bytesIn_23 : DD cX8_bytesIn 23 (.iinc 2 8) 3 26 := ⟨by decide +kernel, rfl⟩
theorem eX8_bytesIn_26 : DB cX8_bytesIn 26 (.goto (-22)) (-22) 29 4 := ⟨by decide +kernel, rfl, by decide⟩
theorem eX8_bytesIn_29 : DD cX8_bytesIn 29 (.iload_n 1) 1 30 := ⟨by decide +kernel, rfl⟩
theorem eX8_bytesIn_30 : DD cX8_bytesIn 30 (.ireturn) 1 31 := ⟨by decide +kernel, rfl⟩
def F_X8_bytesIn_23 (kc_4 : Int32 → Int32 → Int32 → Mem → Option (Int32 × Mem)) (x0 : Int32) (x1 : Int32) (x2 : Int32) (μ : Mem) : Option (Int32 × Mem) :=
  lb (x2 + (8 : Int32)) (fun x2_1 => kc_4 x0 x1 x2_1 μ)
set_option maxHeartbeats 4000000 in
theorem j_X8_bytesIn_23 {C : Cx} (hC : Ok C cX8_bytesIn 3 RX8 (rmF 0 0)) (hr : (cT C).sig.returnType = (some .int)) (kc_4 : Int32 → Int32 → Int32 → Mem → Option (Int32 × Mem)) (hk_4 : ∀ (x0 : Int32) (x1 : Int32) (x2 : Int32) (μ : Mem), J C (KI C) μ 4 [(0, .int x0), (1, .int x1), (2, .int x2)] [] (kc_4 x0 x1 x2 μ)) (x0 : Int32) (x1 : Int32) (x2 : Int32) (μ : Mem) : J C (KI C) μ 23 [(0, .int x0), (1, .int x1), (2, .int x2)] [] (F_X8_bytesIn_23 kc_4 x0 x1 x2 μ) := by
  unfold F_X8_bytesIn_23
  refine J.iinc (j := 2) (fun x2_1 => [(2, .int x2_1), (0, .int x0), (1, .int x1)]) hC eX8_bytesIn_23 rfl ci_8 (by decide) (fun _ => rfl) (fun x2_1 => ?_)
  refine J.goto hC eX8_bytesIn_26 ?_
  refine J.sub [1, 2, 0] rfl ?_
  exact hk_4 x0 x1 x2_1 μ
def L_X8_bytesIn_4 : Nat → Int32 → Int32 → Int32 → Mem → Option (Int32 × Mem)
  | 0, _, _, _, _ => none
  | n + 1, x0, x1, x2, μ => if (32 : Int32) ≤ x2 then some (x1, μ) else if (((x0.toUInt32 >>> (x2.toUInt32 &&& Int32.toUInt32 31)).toInt32) &&& (255 : Int32)) = 0 then F_X8_bytesIn_23 (L_X8_bytesIn_4  n) x0 x1 x2 μ else lb (x1 + (1 : Int32)) (fun x1_1 => F_X8_bytesIn_23 (L_X8_bytesIn_4  n) x0 x1_1 x2 μ)
set_option maxHeartbeats 4000000 in
theorem j_X8_bytesIn_4 {C : Cx} (hC : Ok C cX8_bytesIn 3 RX8 (rmF 0 0)) (hr : (cT C).sig.returnType = (some .int)) : ∀ (n : Nat) (x0 : Int32) (x1 : Int32) (x2 : Int32) (μ : Mem), J C (KI C) μ 4 [(0, .int x0), (1, .int x1), (2, .int x2)] [] (L_X8_bytesIn_4  n x0 x1 x2 μ) := by
  intro n
  induction n with
  | zero => intros; exact J.no
  | succ n ih =>
    intro x0 x1 x2 μ
    rw [L_X8_bytesIn_4]
    refine J.iload_n (j := 2) hC eX8_bytesIn_4 rfl ?_
    refine J.bipush hC eX8_bytesIn_5 cb_32 ?_
    refine J.icmp_ge hC eX8_bytesIn_7 (fun _ => ?_) (fun _ => ?_)
    · refine J.iload_n (j := 1) hC eX8_bytesIn_29 rfl ?_
      exact J.iret hC hr eX8_bytesIn_30
    · refine J.iload_n (j := 0) hC eX8_bytesIn_10 rfl ?_
      refine J.iload_n (j := 2) hC eX8_bytesIn_11 rfl ?_
      refine J.iushr hC eX8_bytesIn_12 ?_
      refine J.sipush hC eX8_bytesIn_13 cs_255 ?_
      refine J.iand hC eX8_bytesIn_16 ?_
      refine J.if_eq hC eX8_bytesIn_17 (fun _ => ?_) (fun _ => ?_)
      · refine J.sub [0, 1, 2] rfl ?_
        exact j_X8_bytesIn_23 hC hr (L_X8_bytesIn_4  n) ih x0 x1 x2 μ
      · refine J.iinc (j := 1) (fun x1_1 => [(1, .int x1_1), (0, .int x0), (2, .int x2)]) hC eX8_bytesIn_20 rfl ci_1 (by decide) (fun _ => rfl) (fun x1_1 => ?_)
        refine J.sub [1, 0, 2] rfl ?_
        exact j_X8_bytesIn_23 hC hr (L_X8_bytesIn_4  n) ih x0 x1_1 x2 μ
def G_X8_bytesIn (x0 : Int32) (μ : Mem) : Option (Int32 × Mem) :=
  L_X8_bytesIn_4  100000 x0 (0 : Int32) (0 : Int32) μ
set_option maxHeartbeats 4000000 in
theorem c_X8_bytesIn {X : Wd} (hX : WdOk X) (x0 : Int32) (μ : Mem) : CtI X yX8_bytesIn cX8_bytesIn 3 (some .int) (rmF 0 0) [.int x0] μ (G_X8_bytesIn x0 μ) := by
  refine CtI.of hX (plainFor_of_name (by decide)) (by exact Nat.le_of_ble_eq_true rfl) ?_
  intro C hCX hC hr
  subst hCX
  show J C (KI C) μ 0 [(0, .int x0)] [] _
  unfold G_X8_bytesIn
  refine J.iconst hC eX8_bytesIn_0 ci_0 ?_
  refine J.istore_n [(1, .int (0 : Int32)), (0, .int x0)] hC eX8_bytesIn_1 (by decide) rfl ?_
  refine J.iconst hC eX8_bytesIn_2 ci_0 ?_
  refine J.istore_n [(2, .int (0 : Int32)), (1, .int (0 : Int32)), (0, .int x0)] hC eX8_bytesIn_3 (by decide) rfl ?_
  refine J.sub [2, 1, 0] rfl ?_
  exact j_X8_bytesIn_4 hC hr  100000 x0 (0 : Int32) (0 : Int32) μ
-- X8_append
theorem eX8_append_0 : DD cX8_append 0 (.bipush 24) 2 2 := ⟨by decide +kernel, rfl⟩
theorem eX8_append_2 : DD cX8_append 2 (.istore_n 2) 1 3 := ⟨by decide +kernel, rfl⟩
theorem eX8_append_3 : DD cX8_append 3 (.iload_n 2) 1 4 := ⟨by decide +kernel, rfl⟩
theorem eX8_append_4 : DB cX8_append 4 (.ifCond .lt 51) (51) 7 55 := ⟨by decide +kernel, rfl, by decide⟩
theorem eX8_append_7 : DD cX8_append 7 (.iload_n 1) 1 8 := ⟨by decide +kernel, rfl⟩
theorem eX8_append_8 : DD cX8_append 8 (.iload_n 2) 1 9 := ⟨by decide +kernel, rfl⟩
theorem eX8_append_9 : DD cX8_append 9 (.iushr) 1 10 := ⟨by decide +kernel, rfl⟩
theorem eX8_append_10 : DD cX8_append 10 (.sipush 255) 3 13 := ⟨by decide +kernel, rfl⟩
theorem eX8_append_13 : DD cX8_append 13 (.iand) 1 14 := ⟨by decide +kernel, rfl⟩
theorem eX8_append_14 : DD cX8_append 14 (.istore_n 3) 1 15 := ⟨by decide +kernel, rfl⟩
theorem eX8_append_15 : DD cX8_append 15 (.iload_n 3) 1 16 := ⟨by decide +kernel, rfl⟩
theorem eX8_append_16 : DB cX8_append 16 (.ifCond .eq 33) (33) 19 49 := ⟨by decide +kernel, rfl, by decide⟩
theorem eX8_append_19 : DD cX8_append 19 (.aload_n 0) 1 20 := ⟨by decide +kernel, rfl⟩
theorem eX8_append_20 : DD cX8_append 20 (.getfield 15) 3 23 := ⟨by decide +kernel, rfl⟩
theorem eX8_append_23 : DD cX8_append 23 (.sipush 240) 3 26 := ⟨by decide +kernel, rfl⟩
theorem eX8_append_26 : DB cX8_append 26 (.if_icmp .ge 23) (23) 29 49 := ⟨by decide +kernel, rfl, by decide⟩
theorem eX8_append_29 : DD cX8_append 29 (.aload_n 0) 1 30 := ⟨by decide +kernel, rfl⟩
theorem eX8_append_30 : DD cX8_append 30 (.getfield 9) 3 33 := ⟨by decide +kernel, rfl⟩
theorem eX8_append_33 : DD cX8_append 33 (.aload_n 0) 1 34 := ⟨by decide +kernel, rfl⟩
theorem eX8_append_34 : DD cX8_append 34 (.getfield 15) 3 37 := ⟨by decide +kernel, rfl⟩
theorem eX8_append_37 : DD cX8_append 37 (.iload_n 3) 1 38 := ⟨by decide +kernel, rfl⟩
theorem eX8_append_38 : DD cX8_append 38 (.iastore) 1 39 := ⟨by decide +kernel, rfl⟩
theorem eX8_append_39 : DD cX8_append 39 (.aload_n 0) 1 40 := ⟨by decide +kernel, rfl⟩
theorem eX8_append_40 : DD cX8_append 40 (.dup) 1 41 := ⟨by decide +kernel, rfl⟩
theorem eX8_append_41 : DD cX8_append 41 (.getfield 15) 3 44 := ⟨by decide +kernel, rfl⟩
theorem eX8_append_44 : DD cX8_append 44 (.iconst 1) 1 45 := ⟨by decide +kernel, rfl⟩
theorem eX8_append_45 : DD cX8_append 45 (.iadd) 1 46 := ⟨by decide +kernel, rfl⟩
theorem eX8_append_46 : DD cX8_append 46 (.putfield 15) 3 49 := ⟨by decide +kernel, rfl⟩
theorem eX8_append_49 : DD cX8_append 49 (.iinc 2 (-8)) 3 52 := ⟨by decide +kernel, rfl⟩
theorem eX8_append_52 : DB cX8_append 52 (.goto (-49)) (-49) 55 3 := ⟨by decide +kernel, rfl, by decide⟩
theorem eX8_append_55 : DD cX8_append 55 (.return_) 1 56 := ⟨by decide +kernel, rfl⟩
def F_X8_append_49 (kc_3 : Int32 → Int32 → Mem → Option (Unit × Mem)) (x1 : Int32) (x2 : Int32) (μ : Mem) : Option (Unit × Mem) :=
  lb (x2 + (-8 : Int32)) (fun x2_1 => kc_3 x1 x2_1 μ)
set_option maxHeartbeats 4000000 in
theorem j_X8_append_49 {C : Cx} (hC : Ok C cX8_append 4 RX8 (rmF 0 0)) (hr : (cT C).sig.returnType = none) (kc_3 : Int32 → Int32 → Mem → Option (Unit × Mem)) (hk_3 : ∀ (x1 : Int32) (x2 : Int32) (μ : Mem), J C (KV C) μ 3 [(0, .ref (xad (cX C) 1)), (1, .int x1), (2, .int x2)] [] (kc_3 x1 x2 μ)) (x1 : Int32) (x2 : Int32) (μ : Mem) : J C (KV C) μ 49 [(0, .ref (xad (cX C) 1)), (1, .int x1), (2, .int x2)] [] (F_X8_append_49 kc_3 x1 x2 μ) := by
  unfold F_X8_append_49
  refine J.iinc (j := 2) (fun x2_1 => [(2, .int x2_1), (0, .ref (xad (cX C) 1)), (1, .int x1)]) hC eX8_append_49 rfl ci_m8 (by decide) (fun _ => rfl) (fun x2_1 => ?_)
  refine J.goto hC eX8_append_52 ?_
  refine J.sub [1, 2, 0] rfl ?_
  exact hk_3 x1 x2_1 μ
def L_X8_append_3 : Nat → Int32 → Int32 → Mem → Option (Unit × Mem)
  | 0, _, _, _ => none
  | n + 1, x1, x2, μ => if x2 < 0 then some ((), μ) else lb (((x1.toUInt32 >>> (x2.toUInt32 &&& Int32.toUInt32 31)).toInt32) &&& (255 : Int32)) (fun x3_1 => if x3_1 = 0 then F_X8_append_49 (L_X8_append_3  n) x1 x2 μ else if (240 : Int32) ≤ (rI μ 1 1) then F_X8_append_49 (L_X8_append_3  n) x1 x2 μ else gq (inB (rI μ 1 1) 240) (lb (wI μ 2 (nx (rI μ 1 1)) x3_1) (fun μ_2 => lb (wI μ_2 1 1 ((rI μ_2 1 1) + (1 : Int32))) (fun μ_3 => F_X8_append_49 (L_X8_append_3  n) x1 x2 μ_3))))
set_option maxHeartbeats 4000000 in
theorem j_X8_append_3 {C : Cx} (hC : Ok C cX8_append 4 RX8 (rmF 0 0)) (hr : (cT C).sig.returnType = none) : ∀ (n : Nat) (x1 : Int32) (x2 : Int32) (μ : Mem), J C (KV C) μ 3 [(0, .ref (xad (cX C) 1)), (1, .int x1), (2, .int x2)] [] (L_X8_append_3  n x1 x2 μ) := by
  intro n
  induction n with
  | zero => intros; exact J.no
  | succ n ih =>
    intro x1 x2 μ
    rw [L_X8_append_3]
    refine J.iload_n (j := 2) hC eX8_append_3 rfl ?_
    refine J.if_lt hC eX8_append_4 (fun _ => ?_) (fun _ => ?_)
    · exact J.vret hC hr eX8_append_55
    · refine J.iload_n (j := 1) hC eX8_append_7 rfl ?_
      refine J.iload_n (j := 2) hC eX8_append_8 rfl ?_
      refine J.iushr hC eX8_append_9 ?_
      refine J.sipush hC eX8_append_10 cs_255 ?_
      refine J.iand hC eX8_append_13 ?_
      refine J.topi (fun x3_1 => ?_)
      refine J.istore_n [(3, .int x3_1), (0, .ref (xad (cX C) 1)), (1, .int x1), (2, .int x2)] hC eX8_append_14 (by decide) rfl ?_
      refine J.iload_n (j := 0) hC eX8_append_15 rfl ?_
      refine J.if_eq hC eX8_append_16 (fun _ => ?_) (fun _ => ?_)
      · refine J.sub [1, 2, 3] rfl ?_
        exact j_X8_append_49 hC hr (L_X8_append_3  n) ih x1 x2 μ
      · refine J.aload_n (j := 1) hC eX8_append_19 rfl ?_
        refine gf_X8_15 hC eX8_append_20 kk_1 ?_
        refine J.sipush hC eX8_append_23 cs_240 ?_
        refine J.icmp_ge hC eX8_append_26 (fun _ => ?_) (fun _ => ?_)
        · refine J.sub [1, 2, 3] rfl ?_
          exact j_X8_append_49 hC hr (L_X8_append_3  n) ih x1 x2 μ
        · refine J.aload_n (j := 1) hC eX8_append_29 rfl ?_
          refine gf_X8_9 (q := 2) hC eX8_append_30 kk_1 rfl ?_
          refine J.aload_n (j := 1) hC eX8_append_33 rfl ?_
          refine gf_X8_15 hC eX8_append_34 kk_1 ?_
          refine J.iload_n (j := 0) hC eX8_append_37 rfl ?_
          refine J.iast ik_240 hC eX8_append_38 kk_2 (fun μ_2 => ?_)
          refine J.aload_n (j := 1) hC eX8_append_39 rfl ?_
          refine J.dup hC eX8_append_40 rfl ?_
          refine gf_X8_15 hC eX8_append_41 kk_1 ?_
          refine J.iconst hC eX8_append_44 ci_1 ?_
          refine J.iadd hC eX8_append_45 ?_
          refine pf_X8_15 hC eX8_append_46 kk_1 (fun μ_3 => ?_)
          refine J.sub [1, 2, 3] rfl ?_
          exact j_X8_append_49 hC hr (L_X8_append_3  n) ih x1 x2 μ_3
def G_X8_append (x1 : Int32) (μ : Mem) : Option (Unit × Mem) :=
  L_X8_append_3  100000 x1 (24 : Int32) μ
set_option maxHeartbeats 4000000 in
theorem c_X8_append {X : Wd} (hX : WdOk X) (x1 : Int32) (μ : Mem) : CtV X yX8_append cX8_append 4 none (rmF 0 0) [.ref (xad X 1), .int x1] μ (G_X8_append x1 μ) := by
  refine CtV.of hX (plainFor_of_name (by decide)) (by exact Nat.le_of_ble_eq_true rfl) ?_
  intro C hCX hC hr
  subst hCX
  show J C (KV C) μ 0 [(0, .ref (xad (cX C) 1)), (1, .int x1)] [] _
  unfold G_X8_append
  refine J.bipush hC eX8_append_0 cb_24 ?_
  refine J.istore_n [(2, .int (24 : Int32)), (0, .ref (xad (cX C) 1)), (1, .int x1)] hC eX8_append_2 (by decide) rfl ?_
  refine J.sub [1, 2, 0] rfl ?_
  exact j_X8_append_3 hC hr  100000 x1 (24 : Int32) μ
-- X9_readUnit
theorem eX9_readUnit_0 : DD cX9_readUnit 0 (.aload_n 1) 1 1 := ⟨by decide +kernel, rfl⟩
theorem eX9_readUnit_1 : DD cX9_readUnit 1 (.invokevirtual 40) 3 4 := ⟨by decide +kernel, rfl⟩
theorem eX9_readUnit_4 : DD cX9_readUnit 4 (.istore_n 3) 1 5 := ⟨by decide +kernel, rfl⟩
theorem eX9_readUnit_5 : DD cX9_readUnit 5 (.iload_n 3) 1 6 := ⟨by decide +kernel, rfl⟩
theorem eX9_readUnit_6 : DD cX9_readUnit 6 (.bipush 97) 2 8 := ⟨by decide +kernel, rfl⟩
theorem eX9_readUnit_8 : DB cX9_readUnit 8 (.if_icmp .eq 18) (18) 11 26 := ⟨by decide +kernel, rfl, by decide⟩
theorem eX9_readUnit_11 : DD cX9_readUnit 11 (.iload_n 3) 1 12 := ⟨by decide +kernel, rfl⟩
theorem eX9_readUnit_12 : DD cX9_readUnit 12 (.bipush 98) 2 14 := ⟨by decide +kernel, rfl⟩
theorem eX9_readUnit_14 : DB cX9_readUnit 14 (.if_icmp .eq 12) (12) 17 26 := ⟨by decide +kernel, rfl, by decide⟩
theorem eX9_readUnit_17 : DD cX9_readUnit 17 (.aload_n 1) 1 18 := ⟨by decide +kernel, rfl⟩
theorem eX9_readUnit_18 : DD cX9_readUnit 18 (.aload_n 1) 1 19 := ⟨by decide +kernel, rfl⟩
theorem eX9_readUnit_19 : DD cX9_readUnit 19 (.getfield 44) 3 22 := ⟨by decide +kernel, rfl⟩
theorem eX9_readUnit_22 : DD cX9_readUnit 22 (.invokevirtual 47) 3 25 := ⟨by decide +kernel, rfl⟩
theorem eX9_readUnit_25 : DD cX9_readUnit 25 (.ireturn) 1 26 := ⟨by decide +kernel, rfl⟩
theorem eX9_readUnit_26 : DD cX9_readUnit 26 (.aload_n 0) 1 27 := ⟨by decide +kernel, rfl⟩
theorem eX9_readUnit_27 : DD cX9_readUnit 27 (.getfield 15) 3 30 := ⟨by decide +kernel, rfl⟩
theorem eX9_readUnit_30 : DD cX9_readUnit 30 (.iload_n 2) 1 31 := ⟨by decide +kernel, rfl⟩
theorem eX9_readUnit_31 : DD cX9_readUnit 31 (.iload_n 3) 1 32 := ⟨by decide +kernel, rfl⟩
theorem eX9_readUnit_32 : DD cX9_readUnit 32 (.bipush 97) 2 34 := ⟨by decide +kernel, rfl⟩
theorem eX9_readUnit_34 : DD cX9_readUnit 34 (.isub) 1 35 := ⟨by decide +kernel, rfl⟩
theorem eX9_readUnit_35 : DD cX9_readUnit 35 (.iastore) 1 36 := ⟨by decide +kernel, rfl⟩
theorem eX9_readUnit_36 : DD cX9_readUnit 36 (.aload_n 1) 1 37 := ⟨by decide +kernel, rfl⟩
theorem eX9_readUnit_37 : DD cX9_readUnit 37 (.dup) 1 38 := ⟨by decide +kernel, rfl⟩
theorem eX9_readUnit_38 : DD cX9_readUnit 38 (.getfield 44) 3 41 := ⟨by decide +kernel, rfl⟩
theorem eX9_readUnit_41 : DD cX9_readUnit 41 (.iconst 1) 1 42 := ⟨by decide +kernel, rfl⟩
theorem eX9_readUnit_42 : DD cX9_readUnit 42 (.iadd) 1 43 := ⟨by decide +kernel, rfl⟩
theorem eX9_readUnit_43 : DD cX9_readUnit 43 (.putfield 44) 3 46 := ⟨by decide +kernel, rfl⟩
theorem eX9_readUnit_46 : DD cX9_readUnit 46 (.aload_n 1) 1 47 := ⟨by decide +kernel, rfl⟩
theorem eX9_readUnit_47 : DD cX9_readUnit 47 (.invokevirtual 40) 3 50 := ⟨by decide +kernel, rfl⟩
theorem eX9_readUnit_50 : DD cX9_readUnit 50 (.istore 4) 2 52 := ⟨by decide +kernel, rfl⟩
theorem eX9_readUnit_52 : DD cX9_readUnit 52 (.aload_n 0) 1 53 := ⟨by decide +kernel, rfl⟩
theorem eX9_readUnit_53 : DD cX9_readUnit 53 (.getfield 18) 3 56 := ⟨by decide +kernel, rfl⟩
theorem eX9_readUnit_56 : DD cX9_readUnit 56 (.iload_n 2) 1 57 := ⟨by decide +kernel, rfl⟩
theorem eX9_readUnit_57 : DD cX9_readUnit 57 (.ldc 51) 2 59 := ⟨by decide +kernel, rfl⟩
theorem eX9_readUnit_59 : DD cX9_readUnit 59 (.iload 4) 2 61 := ⟨by decide +kernel, rfl⟩
theorem eX9_readUnit_61 : DD cX9_readUnit 61 (.i2c) 1 62 := ⟨by decide +kernel, rfl⟩
theorem eX9_readUnit_62 : DD cX9_readUnit 62 (.invokevirtual 53) 3 65 := ⟨by decide +kernel, rfl⟩
theorem eX9_readUnit_65 : DD cX9_readUnit 65 (.iastore) 1 66 := ⟨by decide +kernel, rfl⟩
theorem eX9_readUnit_66 : DD cX9_readUnit 66 (.aload_n 0) 1 67 := ⟨by decide +kernel, rfl⟩
theorem eX9_readUnit_67 : DD cX9_readUnit 67 (.getfield 18) 3 70 := ⟨by decide +kernel, rfl⟩
theorem eX9_readUnit_70 : DD cX9_readUnit 70 (.iload_n 2) 1 71 := ⟨by decide +kernel, rfl⟩
theorem eX9_readUnit_71 : DD cX9_readUnit 71 (.iaload) 1 72 := ⟨by decide +kernel, rfl⟩
theorem eX9_readUnit_72 : DB cX9_readUnit 72 (.ifCond .ge 12) (12) 75 84 := ⟨by decide +kernel, rfl, by decide⟩
theorem eX9_readUnit_75 : DD cX9_readUnit 75 (.aload_n 1) 1 76 := ⟨by decide +kernel, rfl⟩
theorem eX9_readUnit_76 : DD cX9_readUnit 76 (.aload_n 1) 1 77 := ⟨by decide +kernel, rfl⟩
theorem eX9_readUnit_77 : DD cX9_readUnit 77 (.getfield 44) 3 80 := ⟨by decide +kernel, rfl⟩
theorem eX9_readUnit_80 : DD cX9_readUnit 80 (.invokevirtual 47) 3 83 := ⟨by decide +kernel, rfl⟩
theorem eX9_readUnit_83 : DD cX9_readUnit 83 (.ireturn) 1 84 := ⟨by decide +kernel, rfl⟩
theorem eX9_readUnit_84 : DD cX9_readUnit 84 (.aload_n 1) 1 85 := ⟨by decide +kernel, rfl⟩
theorem eX9_readUnit_85 : DD cX9_readUnit 85 (.dup) 1 86 := ⟨by decide +kernel, rfl⟩
theorem eX9_readUnit_86 : DD cX9_readUnit 86 (.getfield 44) 3 89 := ⟨by decide +kernel, rfl⟩
theorem eX9_readUnit_89 : DD cX9_readUnit 89 (.iconst 1) 1 90 := ⟨by decide +kernel, rfl⟩
theorem eX9_readUnit_90 : DD cX9_readUnit 90 (.iadd) 1 91 := ⟨by decide +kernel, rfl⟩
theorem eX9_readUnit_91 : DD cX9_readUnit 91 (.putfield 44) 3 94 := ⟨by decide +kernel, rfl⟩
theorem eX9_readUnit_94 : DD cX9_readUnit 94 (.aload_n 0) 1 95 := ⟨by decide +kernel, rfl⟩
theorem eX9_readUnit_95 : DD cX9_readUnit 95 (.getfield 21) 3 98 := ⟨by decide +kernel, rfl⟩
theorem eX9_readUnit_98 : DD cX9_readUnit 98 (.iload_n 2) 1 99 := ⟨by decide +kernel, rfl⟩
theorem eX9_readUnit_99 : DD cX9_readUnit 99 (.iconst (-1)) 1 100 := ⟨by decide +kernel, rfl⟩
theorem eX9_readUnit_100 : DD cX9_readUnit 100 (.iastore) 1 101 := ⟨by decide +kernel, rfl⟩
theorem eX9_readUnit_101 : DD cX9_readUnit 101 (.aload_n 0) 1 102 := ⟨by decide +kernel, rfl⟩
theorem eX9_readUnit_102 : DD cX9_readUnit 102 (.getfield 18) 3 105 := ⟨by decide +kernel, rfl⟩
theorem eX9_readUnit_105 : DD cX9_readUnit 105 (.iload_n 2) 1 106 := ⟨by decide +kernel, rfl⟩
theorem eX9_readUnit_106 : DD cX9_readUnit 106 (.iaload) 1 107 := ⟨by decide +kernel, rfl⟩
theorem eX9_readUnit_107 : DD cX9_readUnit 107 (.iconst 3) 1 108 := ⟨by decide +kernel, rfl⟩
theorem eX9_readUnit_108 : DB cX9_readUnit 108 (.if_icmp .eq 33) (33) 111 141 := ⟨by decide +kernel, rfl, by decide⟩
theorem eX9_readUnit_111 : DD cX9_readUnit 111 (.aload_n 0) 1 112 := ⟨by decide +kernel, rfl⟩
theorem eX9_readUnit_112 : DD cX9_readUnit 112 (.getfield 21) 3 115 := ⟨by decide +kernel, rfl⟩
theorem eX9_readUnit_115 : DD cX9_readUnit 115 (.iload_n 2) 1 116 := ⟨by decide +kernel, rfl⟩
theorem eX9_readUnit_116 : DD cX9_readUnit 116 (.aload_n 1) 1 117 := ⟨by decide +kernel, rfl⟩
theorem eX9_readUnit_117 : DD cX9_readUnit 117 (.iconst 2) 1 118 := ⟨by decide +kernel, rfl⟩
theorem eX9_readUnit_118 : DD cX9_readUnit 118 (.iconst 0) 1 119 := ⟨by decide +kernel, rfl⟩
theorem eX9_readUnit_119 : DD cX9_readUnit 119 (.bipush 99) 2 121 := ⟨by decide +kernel, rfl⟩
theorem eX9_readUnit_121 : DD cX9_readUnit 121 (.invokevirtual 59) 3 124 := ⟨by decide +kernel, rfl⟩
theorem eX9_readUnit_124 : DD cX9_readUnit 124 (.iastore) 1 125 := ⟨by decide +kernel, rfl⟩
theorem eX9_readUnit_125 : DD cX9_readUnit 125 (.aload_n 0) 1 126 := ⟨by decide +kernel, rfl⟩
theorem eX9_readUnit_126 : DD cX9_readUnit 126 (.getfield 21) 3 129 := ⟨by decide +kernel, rfl⟩
theorem eX9_readUnit_129 : DD cX9_readUnit 129 (.iload_n 2) 1 130 := ⟨by decide +kernel, rfl⟩
theorem eX9_readUnit_130 : DD cX9_readUnit 130 (.iaload) 1 131 := ⟨by decide +kernel, rfl⟩
theorem eX9_readUnit_131 : DD cX9_readUnit 131 (.iconst (-1)) 1 132 := ⟨by decide +kernel, rfl⟩
theorem eX9_readUnit_132 : DB cX9_readUnit 132 (.if_icmp .eq 7) (7) 135 139 := ⟨by decide +kernel, rfl, by decide⟩
theorem eX9_readUnit_135 : DD cX9_readUnit 135 (.iconst 1) 1 136 := ⟨by decide +kernel, rfl⟩
theorem eX9_readUnit_136 : DB cX9_readUnit 136 (.goto 4) (4) 139 140 := ⟨by decide +kernel, rfl, by decide⟩
theorem eX9_readUnit_139 : DD cX9_readUnit 139 (.iconst 0) 1 140 := ⟨by decide +kernel, rfl⟩
theorem eX9_readUnit_140 : DD cX9_readUnit 140 (.ireturn) 1 141 := ⟨by decide +kernel, rfl⟩
theorem eX9_readUnit_141 : DD cX9_readUnit 141 (.iconst 1) 1 142 := ⟨by decide +kernel, rfl⟩
theorem eX9_readUnit_142 : DD cX9_readUnit 142 (.ireturn) 1 143 := ⟨by decide +kernel, rfl⟩
def F_X9_readUnit_26 (p0 : Nat) (x2 : Int32) (x3 : Int32) (μ : Mem) : Option (Int32 × Mem) :=
  gq (inB x2 6) (lb (wI μ (p0 + 2) (nx x2) (x3 - (97 : Int32))) (fun μ_1 => lb (wI μ_1 1 2 ((rI μ_1 1 2) + (1 : Int32))) (fun μ_2 => bd (G_X8_peek  μ_2) (fun r_4 μ_3 => bd (G_J0_indexOf_0f7a4_s1 ((r_4.toUInt32 % 65536).toInt32) μ_3) (fun r_6 μ_5 => gq (inB x2 6) (lb (wI μ_5 (p0 + 3) (nx x2) r_6) (fun μ_7 => gq (inB x2 6) (if 0 ≤ (rI μ_7 (p0 + 3) (nx x2)) then lb (wI μ_7 1 2 ((rI μ_7 1 2) + (1 : Int32))) (fun μ_8 => gq (inB x2 6) (lb (wI μ_8 (p0 + 4) (nx x2) (-1 : Int32)) (fun μ_9 => gq (inB x2 6) (if (rI μ_9 (p0 + 3) (nx x2)) = (3 : Int32) then some ((1 : Int32), μ_9) else bd (G_X8_readNumber (2 : Int32) (0 : Int32) (99 : Int32) μ_9) (fun r_11 μ_10 => gq (inB x2 6) (lb (wI μ_10 (p0 + 4) (nx x2) r_11) (fun μ_12 => gq (inB x2 6) (if (rI μ_12 (p0 + 4) (nx x2)) = (-1 : Int32) then some ((0 : Int32), μ_12) else some ((1 : Int32), μ_12))))))))) else bd (G_X8_fail (rI μ_7 1 2) μ_7) (fun r_14 μ_13 => gq (bB r_14) (some (r_14, μ_13)))))))))))
set_option maxHeartbeats 4000000 in
theorem j_X9_readUnit_26 {C : Cx} (hC : Ok C cX9_readUnit 5 RX9 (rmF 4 91)) (hr : (cT C).sig.returnType = (some .boolean)) (p0 : Nat) (h0 : kd p0 = 9) (x2 : Int32) (x3 : Int32) (μ : Mem) : J C (KI C) μ 26 [(0, .ref (xad (cX C) p0)), (1, .ref (xad (cX C) 1)), (2, .int x2), (3, .int x3)] [] (F_X9_readUnit_26  p0 x2 x3 μ) := by
  unfold F_X9_readUnit_26
  refine J.aload_n (j := 0) hC eX9_readUnit_26 rfl ?_
  refine gf_X9_15 (q := p0 + 2) hC eX9_readUnit_27 h0 rfl ?_
  refine J.iload_n (j := 2) hC eX9_readUnit_30 rfl ?_
  refine J.iload_n (j := 3) hC eX9_readUnit_31 rfl ?_
  refine J.bipush hC eX9_readUnit_32 cb_97 ?_
  refine J.isub hC eX9_readUnit_34 ?_
  refine J.iast ik_6 hC eX9_readUnit_35 (kf_X9_columns h0) (fun μ_1 => ?_)
  refine J.aload_n (j := 1) hC eX9_readUnit_36 rfl ?_
  refine J.dup hC eX9_readUnit_37 rfl ?_
  refine gf_X9_44 hC eX9_readUnit_38 kk_1 ?_
  refine J.iconst hC eX9_readUnit_41 ci_1 ?_
  refine J.iadd hC eX9_readUnit_42 ?_
  refine pf_X9_44 hC eX9_readUnit_43 kk_1 (fun μ_2 => ?_)
  refine J.aload_n (j := 1) hC eX9_readUnit_46 rfl ?_
  refine J.callVI (st := []) hC eX9_readUnit_47 kk_1 (by decide) rfl rfl ml_X9_40 mv_X8_peek (Rle_of (Nat.le_of_ble_eq_true rfl) (Nat.le_of_ble_eq_true rfl)) (c_X8_peek hC.X  μ_2) rfl rfl (Nat.le_of_ble_eq_true rfl) (fun r_4 μ_3 => ?_)
  refine J.istore [(4, .int r_4), (0, .ref (xad (cX C) p0)), (1, .ref (xad (cX C) 1)), (2, .int x2), (3, .int x3)] hC eX9_readUnit_50 (by decide) rfl ?_
  refine J.aload_n (j := 1) hC eX9_readUnit_52 rfl ?_
  refine gf_X9_18 (q := p0 + 3) hC eX9_readUnit_53 h0 rfl ?_
  refine J.iload_n (j := 3) hC eX9_readUnit_56 rfl ?_
  refine J.ldcS hC eX9_readUnit_57 hC.St.2.2.2.2.2.1.2.1 ?_
  refine J.iload (j := 0) hC eX9_readUnit_59 rfl ?_
  refine J.i2c hC eX9_readUnit_61 ?_
  refine J.callTI (i := 1) (st := [.int x2, .ref (xad (cX C) (p0 + 3))]) hC eX9_readUnit_62 (by decide) rfl ml_X9_53 mv_J0_indexOf_0f7a4 (Rle_of (Nat.le_of_ble_eq_true rfl) (Nat.le_of_ble_eq_true rfl)) (c_J0_indexOf_0f7a4_s1 hC.X ((r_4.toUInt32 % 65536).toInt32) μ_3) rfl rfl (Nat.le_of_ble_eq_true rfl) (fun r_6 μ_5 => ?_)
  refine J.iast ik_6 hC eX9_readUnit_65 (kf_X9_signs h0) (fun μ_7 => ?_)
  refine J.aload_n (j := 1) hC eX9_readUnit_66 rfl ?_
  refine gf_X9_18 (q := p0 + 3) hC eX9_readUnit_67 h0 rfl ?_
  refine J.iload_n (j := 3) hC eX9_readUnit_70 rfl ?_
  refine J.iald ik_6 hC eX9_readUnit_71 (kf_X9_signs h0) ?_
  refine J.if_ge hC eX9_readUnit_72 (fun _ => ?_) (fun _ => ?_)
  · refine J.aload_n (j := 2) hC eX9_readUnit_84 rfl ?_
    refine J.dup hC eX9_readUnit_85 rfl ?_
    refine gf_X9_44 hC eX9_readUnit_86 kk_1 ?_
    refine J.iconst hC eX9_readUnit_89 ci_1 ?_
    refine J.iadd hC eX9_readUnit_90 ?_
    refine pf_X9_44 hC eX9_readUnit_91 kk_1 (fun μ_8 => ?_)
    refine J.aload_n (j := 1) hC eX9_readUnit_94 rfl ?_
    refine gf_X9_21 (q := p0 + 4) hC eX9_readUnit_95 h0 rfl ?_
    refine J.iload_n (j := 3) hC eX9_readUnit_98 rfl ?_
    refine J.iconst hC eX9_readUnit_99 ci_m1 ?_
    refine J.iast ik_6 hC eX9_readUnit_100 (kf_X9_numbers h0) (fun μ_9 => ?_)
    refine J.aload_n (j := 1) hC eX9_readUnit_101 rfl ?_
    refine gf_X9_18 (q := p0 + 3) hC eX9_readUnit_102 h0 rfl ?_
    refine J.iload_n (j := 3) hC eX9_readUnit_105 rfl ?_
    refine J.iald ik_6 hC eX9_readUnit_106 (kf_X9_signs h0) ?_
    refine J.iconst hC eX9_readUnit_107 ci_3 ?_
    refine J.icmp_eq hC eX9_readUnit_108 (fun _ => ?_) (fun _ => ?_)
    · refine J.iconst hC eX9_readUnit_141 ci_1 ?_
      exact J.zretB hC hr eX9_readUnit_142 rfl
    · refine J.aload_n (j := 1) hC eX9_readUnit_111 rfl ?_
      refine gf_X9_21 (q := p0 + 4) hC eX9_readUnit_112 h0 rfl ?_
      refine J.iload_n (j := 3) hC eX9_readUnit_115 rfl ?_
      refine J.aload_n (j := 2) hC eX9_readUnit_116 rfl ?_
      refine J.iconst hC eX9_readUnit_117 ci_2 ?_
      refine J.iconst hC eX9_readUnit_118 ci_0 ?_
      refine J.bipush hC eX9_readUnit_119 cb_99 ?_
      refine J.callVI (st := [.int x2, .ref (xad (cX C) (p0 + 4))]) hC eX9_readUnit_121 kk_1 (by decide) rfl rfl ml_X9_59 mv_X8_readNumber (Rle_of (Nat.le_of_ble_eq_true rfl) (Nat.le_of_ble_eq_true rfl)) (c_X8_readNumber hC.X (2 : Int32) (0 : Int32) (99 : Int32) μ_9) rfl rfl (Nat.le_of_ble_eq_true rfl) (fun r_11 μ_10 => ?_)
      refine J.iast ik_6 hC eX9_readUnit_124 (kf_X9_numbers h0) (fun μ_12 => ?_)
      refine J.aload_n (j := 1) hC eX9_readUnit_125 rfl ?_
      refine gf_X9_21 (q := p0 + 4) hC eX9_readUnit_126 h0 rfl ?_
      refine J.iload_n (j := 3) hC eX9_readUnit_129 rfl ?_
      refine J.iald ik_6 hC eX9_readUnit_130 (kf_X9_numbers h0) ?_
      refine J.iconst hC eX9_readUnit_131 ci_m1 ?_
      refine J.icmp_eq hC eX9_readUnit_132 (fun _ => ?_) (fun _ => ?_)
      · refine J.iconst hC eX9_readUnit_139 ci_0 ?_
        exact J.zretB hC hr eX9_readUnit_140 rfl
      · refine J.iconst hC eX9_readUnit_135 ci_1 ?_
        refine J.goto hC eX9_readUnit_136 ?_
        exact J.zretB hC hr eX9_readUnit_140 rfl
  · refine J.aload_n (j := 2) hC eX9_readUnit_75 rfl ?_
    refine J.aload_n (j := 2) hC eX9_readUnit_76 rfl ?_
    refine gf_X9_44 hC eX9_readUnit_77 kk_1 ?_
    refine J.callVI (st := []) hC eX9_readUnit_80 kk_1 (by decide) rfl rfl ml_X9_47 mv_X8_fail (Rle_of (Nat.le_of_ble_eq_true rfl) (Nat.le_of_ble_eq_true rfl)) (c_X8_fail hC.X (rI μ_7 1 2) μ_7) rfl rfl (Nat.le_of_ble_eq_true rfl) (fun r_14 μ_13 => ?_)
    exact J.zret hC hr eX9_readUnit_83
def G_X9_readUnit (p0 : Nat) (x2 : Int32) (μ : Mem) : Option (Int32 × Mem) :=
  bd (G_X8_peek  μ) (fun r_2 μ_1 => if r_2 = (97 : Int32) then F_X9_readUnit_26  p0 x2 r_2 μ_1 else if r_2 = (98 : Int32) then F_X9_readUnit_26  p0 x2 r_2 μ_1 else bd (G_X8_fail (rI μ_1 1 2) μ_1) (fun r_4 μ_3 => gq (bB r_4) (some (r_4, μ_3))))
set_option maxHeartbeats 4000000 in
theorem c_X9_readUnit {X : Wd} (hX : WdOk X) (p0 : Nat) (h0 : kd p0 = 9) (x2 : Int32) (μ : Mem) : CtI X yX9_readUnit cX9_readUnit 5 (some .boolean) (rmF 4 91) [.ref (xad X p0), .ref (xad X 1), .int x2] μ (G_X9_readUnit p0 x2 μ) := by
  refine CtI.of hX (plainFor_of_name (by decide)) (by exact Nat.le_of_ble_eq_true rfl) ?_
  intro C hCX hC hr
  subst hCX
  show J C (KI C) μ 0 [(0, .ref (xad (cX C) p0)), (1, .ref (xad (cX C) 1)), (2, .int x2)] [] _
  unfold G_X9_readUnit
  refine J.aload_n (j := 1) hC eX9_readUnit_0 rfl ?_
  refine J.callVI (st := []) hC eX9_readUnit_1 kk_1 (by decide) rfl rfl ml_X9_40 mv_X8_peek (Rle_of (Nat.le_of_ble_eq_true rfl) (Nat.le_of_ble_eq_true rfl)) (c_X8_peek hC.X  μ) rfl rfl (Nat.le_of_ble_eq_true rfl) (fun r_2 μ_1 => ?_)
  refine J.istore_n [(3, .int r_2), (0, .ref (xad (cX C) p0)), (1, .ref (xad (cX C) 1)), (2, .int x2)] hC eX9_readUnit_4 (by decide) rfl ?_
  refine J.iload_n (j := 0) hC eX9_readUnit_5 rfl ?_
  refine J.bipush hC eX9_readUnit_6 cb_97 ?_
  refine J.icmp_eq hC eX9_readUnit_8 (fun _ => ?_) (fun _ => ?_)
  · refine J.sub [1, 2, 3, 0] rfl ?_
    exact j_X9_readUnit_26 hC hr  p0 h0 x2 r_2 μ_1
  · refine J.iload_n (j := 0) hC eX9_readUnit_11 rfl ?_
    refine J.bipush hC eX9_readUnit_12 cb_98 ?_
    refine J.icmp_eq hC eX9_readUnit_14 (fun _ => ?_) (fun _ => ?_)
    · refine J.sub [1, 2, 3, 0] rfl ?_
      exact j_X9_readUnit_26 hC hr  p0 h0 x2 r_2 μ_1
    · refine J.aload_n (j := 2) hC eX9_readUnit_17 rfl ?_
      refine J.aload_n (j := 2) hC eX9_readUnit_18 rfl ?_
      refine gf_X9_44 hC eX9_readUnit_19 kk_1 ?_
      refine J.callVI (st := []) hC eX9_readUnit_22 kk_1 (by decide) rfl rfl ml_X9_47 mv_X8_fail (Rle_of (Nat.le_of_ble_eq_true rfl) (Nat.le_of_ble_eq_true rfl)) (c_X8_fail hC.X (rI μ_1 1 2) μ_1) rfl rfl (Nat.le_of_ble_eq_true rfl) (fun r_4 μ_3 => ?_)
      exact J.zret hC hr eX9_readUnit_25
-- X9_read
theorem eX9_read_0 : DD cX9_read 0 (.aload_n 1) 1 1 := ⟨by decide +kernel, rfl⟩
theorem eX9_read_1 : DD cX9_read 1 (.invokevirtual 24) 3 4 := ⟨by decide +kernel, rfl⟩
theorem eX9_read_4 : DD cX9_read 4 (.iconst 0) 1 5 := ⟨by decide +kernel, rfl⟩
theorem eX9_read_5 : DD cX9_read 5 (.istore_n 2) 1 6 := ⟨by decide +kernel, rfl⟩
theorem eX9_read_6 : DD cX9_read 6 (.aload_n 0) 1 7 := ⟨by decide +kernel, rfl⟩
theorem eX9_read_7 : DD cX9_read 7 (.iconst 0) 1 8 := ⟨by decide +kernel, rfl⟩
theorem eX9_read_8 : DD cX9_read 8 (.putfield 29) 3 11 := ⟨by decide +kernel, rfl⟩
theorem eX9_read_11 : DD cX9_read 11 (.aload_n 0) 1 12 := ⟨by decide +kernel, rfl⟩
theorem eX9_read_12 : DD cX9_read 12 (.getfield 29) 3 15 := ⟨by decide +kernel, rfl⟩
theorem eX9_read_15 : DD cX9_read 15 (.bipush 6) 2 17 := ⟨by decide +kernel, rfl⟩
theorem eX9_read_17 : DB cX9_read 17 (.if_icmp .ge 105) (105) 20 122 := ⟨by decide +kernel, rfl, by decide⟩
theorem eX9_read_20 : DD cX9_read 20 (.aload_n 0) 1 21 := ⟨by decide +kernel, rfl⟩
theorem eX9_read_21 : DD cX9_read 21 (.aload_n 1) 1 22 := ⟨by decide +kernel, rfl⟩
theorem eX9_read_22 : DD cX9_read 22 (.aload_n 0) 1 23 := ⟨by decide +kernel, rfl⟩
theorem eX9_read_23 : DD cX9_read 23 (.getfield 29) 3 26 := ⟨by decide +kernel, rfl⟩
theorem eX9_read_26 : DD cX9_read 26 (.invokevirtual 33) 3 29 := ⟨by decide +kernel, rfl⟩
theorem eX9_read_29 : DB cX9_read 29 (.ifCond .ne 8) (8) 32 37 := ⟨by decide +kernel, rfl, by decide⟩
theorem eX9_read_32 : DD cX9_read 32 (.aload_n 1) 1 33 := ⟨by decide +kernel, rfl⟩
theorem eX9_read_33 : DD cX9_read 33 (.getfield 37) 3 36 := ⟨by decide +kernel, rfl⟩
theorem eX9_read_36 : DD cX9_read 36 (.ireturn) 1 37 := ⟨by decide +kernel, rfl⟩
theorem eX9_read_37 : DD cX9_read 37 (.aload_n 0) 1 38 := ⟨by decide +kernel, rfl⟩
theorem eX9_read_38 : DD cX9_read 38 (.getfield 9) 3 41 := ⟨by decide +kernel, rfl⟩
theorem eX9_read_41 : DD cX9_read 41 (.aload_n 0) 1 42 := ⟨by decide +kernel, rfl⟩
theorem eX9_read_42 : DD cX9_read 42 (.getfield 29) 3 45 := ⟨by decide +kernel, rfl⟩
theorem eX9_read_45 : DD cX9_read 45 (.iload_n 2) 1 46 := ⟨by decide +kernel, rfl⟩
theorem eX9_read_46 : DD cX9_read 46 (.iastore) 1 47 := ⟨by decide +kernel, rfl⟩
theorem eX9_read_47 : DD cX9_read 47 (.aload_n 1) 1 48 := ⟨by decide +kernel, rfl⟩
theorem eX9_read_48 : DD cX9_read 48 (.invokevirtual 40) 3 51 := ⟨by decide +kernel, rfl⟩
theorem eX9_read_51 : DD cX9_read 51 (.istore_n 3) 1 52 := ⟨by decide +kernel, rfl⟩
theorem eX9_read_52 : DD cX9_read 52 (.iload_n 3) 1 53 := ⟨by decide +kernel, rfl⟩
theorem eX9_read_53 : DB cX9_read 53 (.ifCond .ne 15) (15) 56 68 := ⟨by decide +kernel, rfl, by decide⟩
theorem eX9_read_56 : DD cX9_read 56 (.aload_n 0) 1 57 := ⟨by decide +kernel, rfl⟩
theorem eX9_read_57 : DD cX9_read 57 (.dup) 1 58 := ⟨by decide +kernel, rfl⟩
theorem eX9_read_58 : DD cX9_read 58 (.getfield 29) 3 61 := ⟨by decide +kernel, rfl⟩
theorem eX9_read_61 : DD cX9_read 61 (.iconst 1) 1 62 := ⟨by decide +kernel, rfl⟩
theorem eX9_read_62 : DD cX9_read 62 (.iadd) 1 63 := ⟨by decide +kernel, rfl⟩
theorem eX9_read_63 : DD cX9_read 63 (.putfield 29) 3 66 := ⟨by decide +kernel, rfl⟩
theorem eX9_read_66 : DD cX9_read 66 (.iconst (-1)) 1 67 := ⟨by decide +kernel, rfl⟩
theorem eX9_read_67 : DD cX9_read 67 (.ireturn) 1 68 := ⟨by decide +kernel, rfl⟩
theorem eX9_read_68 : DD cX9_read 68 (.iload_n 3) 1 69 := ⟨by decide +kernel, rfl⟩
theorem eX9_read_69 : DD cX9_read 69 (.bipush 38) 2 71 := ⟨by decide +kernel, rfl⟩
theorem eX9_read_71 : DB cX9_read 71 (.if_icmp .eq 14) (14) 74 85 := ⟨by decide +kernel, rfl, by decide⟩
theorem eX9_read_74 : DD cX9_read 74 (.iload_n 3) 1 75 := ⟨by decide +kernel, rfl⟩
theorem eX9_read_75 : DD cX9_read 75 (.bipush 124) 2 77 := ⟨by decide +kernel, rfl⟩
theorem eX9_read_77 : DB cX9_read 77 (.if_icmp .eq 8) (8) 80 85 := ⟨by decide +kernel, rfl, by decide⟩
theorem eX9_read_80 : DD cX9_read 80 (.aload_n 1) 1 81 := ⟨by decide +kernel, rfl⟩
theorem eX9_read_81 : DD cX9_read 81 (.getfield 44) 3 84 := ⟨by decide +kernel, rfl⟩
theorem eX9_read_84 : DD cX9_read 84 (.ireturn) 1 85 := ⟨by decide +kernel, rfl⟩
theorem eX9_read_85 : DD cX9_read 85 (.iload_n 2) 1 86 := ⟨by decide +kernel, rfl⟩
theorem eX9_read_86 : DD cX9_read 86 (.iload_n 3) 1 87 := ⟨by decide +kernel, rfl⟩
theorem eX9_read_87 : DD cX9_read 87 (.bipush 124) 2 89 := ⟨by decide +kernel, rfl⟩
theorem eX9_read_89 : DB cX9_read 89 (.if_icmp .ne 7) (7) 92 96 := ⟨by decide +kernel, rfl, by decide⟩
theorem eX9_read_92 : DD cX9_read 92 (.iconst 1) 1 93 := ⟨by decide +kernel, rfl⟩
theorem eX9_read_93 : DB cX9_read 93 (.goto 4) (4) 96 97 := ⟨by decide +kernel, rfl, by decide⟩
theorem eX9_read_96 : DD cX9_read 96 (.iconst 0) 1 97 := ⟨by decide +kernel, rfl⟩
theorem eX9_read_97 : DD cX9_read 97 (.iadd) 1 98 := ⟨by decide +kernel, rfl⟩
theorem eX9_read_98 : DD cX9_read 98 (.istore_n 2) 1 99 := ⟨by decide +kernel, rfl⟩
theorem eX9_read_99 : DD cX9_read 99 (.aload_n 1) 1 100 := ⟨by decide +kernel, rfl⟩
theorem eX9_read_100 : DD cX9_read 100 (.dup) 1 101 := ⟨by decide +kernel, rfl⟩
theorem eX9_read_101 : DD cX9_read 101 (.getfield 44) 3 104 := ⟨by decide +kernel, rfl⟩
theorem eX9_read_104 : DD cX9_read 104 (.iconst 1) 1 105 := ⟨by decide +kernel, rfl⟩
theorem eX9_read_105 : DD cX9_read 105 (.iadd) 1 106 := ⟨by decide +kernel, rfl⟩
theorem eX9_read_106 : DD cX9_read 106 (.putfield 44) 3 109 := ⟨by decide +kernel, rfl⟩
theorem eX9_read_109 : DD cX9_read 109 (.aload_n 0) 1 110 := ⟨by decide +kernel, rfl⟩
theorem eX9_read_110 : DD cX9_read 110 (.dup) 1 111 := ⟨by decide +kernel, rfl⟩
theorem eX9_read_111 : DD cX9_read 111 (.getfield 29) 3 114 := ⟨by decide +kernel, rfl⟩
theorem eX9_read_114 : DD cX9_read 114 (.iconst 1) 1 115 := ⟨by decide +kernel, rfl⟩
theorem eX9_read_115 : DD cX9_read 115 (.iadd) 1 116 := ⟨by decide +kernel, rfl⟩
theorem eX9_read_116 : DD cX9_read 116 (.putfield 29) 3 119 := ⟨by decide +kernel, rfl⟩
theorem eX9_read_119 : DB cX9_read 119 (.goto (-108)) (-108) 122 11 := ⟨by decide +kernel, rfl, by decide⟩
theorem eX9_read_122 : DD cX9_read 122 (.aload_n 1) 1 123 := ⟨by decide +kernel, rfl⟩
theorem eX9_read_123 : DD cX9_read 123 (.invokevirtual 40) 3 126 := ⟨by decide +kernel, rfl⟩
theorem eX9_read_126 : DD cX9_read 126 (.pop) 1 127 := ⟨by decide +kernel, rfl⟩
theorem eX9_read_127 : DD cX9_read 127 (.aload_n 1) 1 128 := ⟨by decide +kernel, rfl⟩
theorem eX9_read_128 : DD cX9_read 128 (.getfield 44) 3 131 := ⟨by decide +kernel, rfl⟩
theorem eX9_read_131 : DD cX9_read 131 (.ireturn) 1 132 := ⟨by decide +kernel, rfl⟩
def F_X9_read_97 (kc_11 : Nat → Int32 → Mem → Option (Int32 × Mem)) (p0 : Nat) (xs0 : Int32) (xs1 : Int32) (μ : Mem) : Option (Int32 × Mem) :=
  lb (xs0 + xs1) (fun x2_1 => lb (wI μ 1 2 ((rI μ 1 2) + (1 : Int32))) (fun μ_2 => lb (wI μ_2 p0 4 ((rI μ_2 p0 4) + (1 : Int32))) (fun μ_3 => kc_11 p0 x2_1 μ_3)))
set_option maxHeartbeats 4000000 in
theorem j_X9_read_97 {C : Cx} (hC : Ok C cX9_read 4 RX9 (rmF 5 115)) (hr : (cT C).sig.returnType = (some .int)) (kc_11 : Nat → Int32 → Mem → Option (Int32 × Mem)) (hk_11 : ∀ (p0 : Nat) (h0 : kd p0 = 9) (x2 : Int32) (μ : Mem), J C (KI C) μ 11 [(0, .ref (xad (cX C) p0)), (1, .ref (xad (cX C) 1)), (2, .int x2)] [] (kc_11 p0 x2 μ)) (p0 : Nat) (h0 : kd p0 = 9) (xs0 : Int32) (xs1 : Int32) (μ : Mem) : J C (KI C) μ 97 [(0, .ref (xad (cX C) p0)), (1, .ref (xad (cX C) 1))] [.int xs1, .int xs0] (F_X9_read_97 kc_11 p0 xs0 xs1 μ) := by
  unfold F_X9_read_97
  refine J.iadd hC eX9_read_97 ?_
  refine J.topi (fun x2_1 => ?_)
  refine J.istore_n [(2, .int x2_1), (0, .ref (xad (cX C) p0)), (1, .ref (xad (cX C) 1))] hC eX9_read_98 (by decide) rfl ?_
  refine J.aload_n (j := 2) hC eX9_read_99 rfl ?_
  refine J.dup hC eX9_read_100 rfl ?_
  refine gf_X9_44 hC eX9_read_101 kk_1 ?_
  refine J.iconst hC eX9_read_104 ci_1 ?_
  refine J.iadd hC eX9_read_105 ?_
  refine pf_X9_44 hC eX9_read_106 kk_1 (fun μ_2 => ?_)
  refine J.aload_n (j := 1) hC eX9_read_109 rfl ?_
  refine J.dup hC eX9_read_110 rfl ?_
  refine gf_X9_29 hC eX9_read_111 h0 ?_
  refine J.iconst hC eX9_read_114 ci_1 ?_
  refine J.iadd hC eX9_read_115 ?_
  refine pf_X9_29 hC eX9_read_116 h0 (fun μ_3 => ?_)
  refine J.goto hC eX9_read_119 ?_
  refine J.sub [1, 2, 0] rfl ?_
  exact hk_11 p0 h0 x2_1 μ_3
def F_X9_read_85 (kc_11 : Nat → Int32 → Mem → Option (Int32 × Mem)) (p0 : Nat) (x2 : Int32) (x3 : Int32) (μ : Mem) : Option (Int32 × Mem) :=
  if x3 = (124 : Int32) then F_X9_read_97 kc_11 p0 x2 (1 : Int32) μ else F_X9_read_97 kc_11 p0 x2 (0 : Int32) μ
set_option maxHeartbeats 4000000 in
theorem j_X9_read_85 {C : Cx} (hC : Ok C cX9_read 4 RX9 (rmF 5 115)) (hr : (cT C).sig.returnType = (some .int)) (kc_11 : Nat → Int32 → Mem → Option (Int32 × Mem)) (hk_11 : ∀ (p0 : Nat) (h0 : kd p0 = 9) (x2 : Int32) (μ : Mem), J C (KI C) μ 11 [(0, .ref (xad (cX C) p0)), (1, .ref (xad (cX C) 1)), (2, .int x2)] [] (kc_11 p0 x2 μ)) (p0 : Nat) (h0 : kd p0 = 9) (x2 : Int32) (x3 : Int32) (μ : Mem) : J C (KI C) μ 85 [(0, .ref (xad (cX C) p0)), (1, .ref (xad (cX C) 1)), (2, .int x2), (3, .int x3)] [] (F_X9_read_85 kc_11 p0 x2 x3 μ) := by
  unfold F_X9_read_85
  refine J.iload_n (j := 2) hC eX9_read_85 rfl ?_
  refine J.iload_n (j := 3) hC eX9_read_86 rfl ?_
  refine J.bipush hC eX9_read_87 cb_124 ?_
  refine J.icmp_ne hC eX9_read_89 (fun _ => ?_) (fun _ => ?_)
  · refine J.iconst hC eX9_read_92 ci_1 ?_
    refine J.goto hC eX9_read_93 ?_
    refine J.sub [0, 1] rfl ?_
    exact j_X9_read_97 hC hr kc_11 hk_11 p0 h0 x2 (1 : Int32) μ
  · refine J.iconst hC eX9_read_96 ci_0 ?_
    refine J.sub [0, 1] rfl ?_
    exact j_X9_read_97 hC hr kc_11 hk_11 p0 h0 x2 (0 : Int32) μ
def L_X9_read_11 : Nat → Nat → Int32 → Mem → Option (Int32 × Mem)
  | 0, _, _, _ => none
  | n + 1, p0, x2, μ => if (6 : Int32) ≤ (rI μ p0 4) then bd (G_X8_peek  μ) (fun r_2 μ_1 => some (rI μ_1 1 2, μ_1)) else bd (G_X9_readUnit p0 (rI μ p0 4) μ) (fun r_4 μ_3 => if r_4 = 0 then some (rI μ_3 1 3, μ_3) else gq (inB (rI μ_3 p0 4) 6) (lb (wI μ_3 (p0 + 1) (nx (rI μ_3 p0 4)) x2) (fun μ_5 => bd (G_X8_peek  μ_5) (fun r_7 μ_6 => if r_7 = 0 then lb (wI μ_6 p0 4 ((rI μ_6 p0 4) + (1 : Int32))) (fun μ_8 => some ((-1 : Int32), μ_8)) else if r_7 = (38 : Int32) then F_X9_read_85 (L_X9_read_11  n) p0 x2 r_7 μ_6 else if r_7 = (124 : Int32) then F_X9_read_85 (L_X9_read_11  n) p0 x2 r_7 μ_6 else some (rI μ_6 1 2, μ_6)))))
set_option maxHeartbeats 4000000 in
theorem j_X9_read_11 {C : Cx} (hC : Ok C cX9_read 4 RX9 (rmF 5 115)) (hr : (cT C).sig.returnType = (some .int)) : ∀ (n : Nat) (p0 : Nat) (h0 : kd p0 = 9) (x2 : Int32) (μ : Mem), J C (KI C) μ 11 [(0, .ref (xad (cX C) p0)), (1, .ref (xad (cX C) 1)), (2, .int x2)] [] (L_X9_read_11  n p0 x2 μ) := by
  intro n
  induction n with
  | zero => intros; exact J.no
  | succ n ih =>
    intro p0 h0 x2 μ
    rw [L_X9_read_11]
    refine J.aload_n (j := 0) hC eX9_read_11 rfl ?_
    refine gf_X9_29 hC eX9_read_12 h0 ?_
    refine J.bipush hC eX9_read_15 cb_6 ?_
    refine J.icmp_ge hC eX9_read_17 (fun _ => ?_) (fun _ => ?_)
    · refine J.aload_n (j := 1) hC eX9_read_122 rfl ?_
      refine J.callVI (st := []) hC eX9_read_123 kk_1 (by decide) rfl rfl ml_X9_40 mv_X8_peek (Rle_of (Nat.le_of_ble_eq_true rfl) (Nat.le_of_ble_eq_true rfl)) (c_X8_peek hC.X  μ) rfl rfl (Nat.le_of_ble_eq_true rfl) (fun r_2 μ_1 => ?_)
      refine J.pop hC eX9_read_126 rfl ?_
      refine J.aload_n (j := 1) hC eX9_read_127 rfl ?_
      refine gf_X9_44 hC eX9_read_128 kk_1 ?_
      exact J.iret hC hr eX9_read_131
    · refine J.aload_n (j := 0) hC eX9_read_20 rfl ?_
      refine J.aload_n (j := 1) hC eX9_read_21 rfl ?_
      refine J.aload_n (j := 0) hC eX9_read_22 rfl ?_
      refine gf_X9_29 hC eX9_read_23 h0 ?_
      refine J.callVI (st := []) hC eX9_read_26 h0 (by decide) rfl rfl ml_X9_33 mv_X9_readUnit (Rle_of (Nat.le_of_ble_eq_true rfl) (Nat.le_of_ble_eq_true rfl)) (c_X9_readUnit hC.X p0 h0 (rI μ p0 4) μ) rfl rfl (Nat.le_of_ble_eq_true rfl) (fun r_4 μ_3 => ?_)
      refine J.if_ne hC eX9_read_29 (fun _ => ?_) (fun _ => ?_)
      · refine J.aload_n (j := 1) hC eX9_read_32 rfl ?_
        refine gf_X9_37 hC eX9_read_33 kk_1 ?_
        exact J.iret hC hr eX9_read_36
      · refine J.aload_n (j := 0) hC eX9_read_37 rfl ?_
        refine gf_X9_9 (q := p0 + 1) hC eX9_read_38 h0 rfl ?_
        refine J.aload_n (j := 0) hC eX9_read_41 rfl ?_
        refine gf_X9_29 hC eX9_read_42 h0 ?_
        refine J.iload_n (j := 2) hC eX9_read_45 rfl ?_
        refine J.iast ik_6 hC eX9_read_46 (kf_X9_terms h0) (fun μ_5 => ?_)
        refine J.aload_n (j := 1) hC eX9_read_47 rfl ?_
        refine J.callVI (st := []) hC eX9_read_48 kk_1 (by decide) rfl rfl ml_X9_40 mv_X8_peek (Rle_of (Nat.le_of_ble_eq_true rfl) (Nat.le_of_ble_eq_true rfl)) (c_X8_peek hC.X  μ_5) rfl rfl (Nat.le_of_ble_eq_true rfl) (fun r_7 μ_6 => ?_)
        refine J.istore_n [(3, .int r_7), (0, .ref (xad (cX C) p0)), (1, .ref (xad (cX C) 1)), (2, .int x2)] hC eX9_read_51 (by decide) rfl ?_
        refine J.iload_n (j := 0) hC eX9_read_52 rfl ?_
        refine J.if_ne hC eX9_read_53 (fun _ => ?_) (fun _ => ?_)
        · refine J.aload_n (j := 1) hC eX9_read_56 rfl ?_
          refine J.dup hC eX9_read_57 rfl ?_
          refine gf_X9_29 hC eX9_read_58 h0 ?_
          refine J.iconst hC eX9_read_61 ci_1 ?_
          refine J.iadd hC eX9_read_62 ?_
          refine pf_X9_29 hC eX9_read_63 h0 (fun μ_8 => ?_)
          refine J.iconst hC eX9_read_66 ci_m1 ?_
          exact J.iret hC hr eX9_read_67
        · refine J.iload_n (j := 0) hC eX9_read_68 rfl ?_
          refine J.bipush hC eX9_read_69 cb_38 ?_
          refine J.icmp_eq hC eX9_read_71 (fun _ => ?_) (fun _ => ?_)
          · refine J.sub [1, 2, 3, 0] rfl ?_
            exact j_X9_read_85 hC hr (L_X9_read_11  n) ih p0 h0 x2 r_7 μ_6
          · refine J.iload_n (j := 0) hC eX9_read_74 rfl ?_
            refine J.bipush hC eX9_read_75 cb_124 ?_
            refine J.icmp_eq hC eX9_read_77 (fun _ => ?_) (fun _ => ?_)
            · refine J.sub [1, 2, 3, 0] rfl ?_
              exact j_X9_read_85 hC hr (L_X9_read_11  n) ih p0 h0 x2 r_7 μ_6
            · refine J.aload_n (j := 2) hC eX9_read_80 rfl ?_
              refine gf_X9_44 hC eX9_read_81 kk_1 ?_
              exact J.iret hC hr eX9_read_84
def G_X9_read (p0 : Nat) (μ : Mem) : Option (Int32 × Mem) :=
  bd (G_X8_rewind  μ) (fun r_2 μ_1 => lb (wI μ_1 p0 4 (0 : Int32)) (fun μ_3 => L_X9_read_11  100000 p0 (0 : Int32) μ_3))
set_option maxHeartbeats 4000000 in
theorem c_X9_read {X : Wd} (hX : WdOk X) (p0 : Nat) (h0 : kd p0 = 9) (μ : Mem) : CtI X yX9_read cX9_read 4 (some .int) (rmF 5 115) [.ref (xad X p0), .ref (xad X 1)] μ (G_X9_read p0 μ) := by
  refine CtI.of hX (plainFor_of_name (by decide)) (by exact Nat.le_of_ble_eq_true rfl) ?_
  intro C hCX hC hr
  subst hCX
  show J C (KI C) μ 0 [(0, .ref (xad (cX C) p0)), (1, .ref (xad (cX C) 1))] [] _
  unfold G_X9_read
  refine J.aload_n (j := 1) hC eX9_read_0 rfl ?_
  refine J.callVV (st := []) hC eX9_read_1 kk_1 (by decide) rfl rfl ml_X9_24 mv_X8_rewind (Rle_of (Nat.le_of_ble_eq_true rfl) (Nat.le_of_ble_eq_true rfl)) (c_X8_rewind hC.X  μ) rfl rfl (Nat.le_of_ble_eq_true rfl) (fun r_2 μ_1 => ?_)
  refine J.iconst hC eX9_read_4 ci_0 ?_
  refine J.istore_n [(2, .int (0 : Int32)), (0, .ref (xad (cX C) p0)), (1, .ref (xad (cX C) 1))] hC eX9_read_5 (by decide) rfl ?_
  refine J.aload_n (j := 1) hC eX9_read_6 rfl ?_
  refine J.iconst hC eX9_read_7 ci_0 ?_
  refine pf_X9_29 hC eX9_read_8 h0 (fun μ_3 => ?_)
  refine J.sub [1, 2, 0] rfl ?_
  exact j_X9_read_11 hC hr  100000 p0 h0 (0 : Int32) μ_3
-- X10_feed
theorem eX10_feed_0 : DD cX10_feed 0 (.iload_n 1) 1 1 := ⟨by decide +kernel, rfl⟩
theorem eX10_feed_1 : DD cX10_feed 1 (.invokestatic 86) 3 4 := ⟨by decide +kernel, rfl⟩
theorem eX10_feed_4 : DD cX10_feed 4 (.iload_n 2) 1 5 := ⟨by decide +kernel, rfl⟩
theorem eX10_feed_5 : DD cX10_feed 5 (.invokestatic 86) 3 8 := ⟨by decide +kernel, rfl⟩
theorem eX10_feed_8 : DD cX10_feed 8 (.iadd) 1 9 := ⟨by decide +kernel, rfl⟩
theorem eX10_feed_9 : DD cX10_feed 9 (.iload_n 3) 1 10 := ⟨by decide +kernel, rfl⟩
theorem eX10_feed_10 : DD cX10_feed 10 (.invokestatic 86) 3 13 := ⟨by decide +kernel, rfl⟩
theorem eX10_feed_13 : DD cX10_feed 13 (.iadd) 1 14 := ⟨by decide +kernel, rfl⟩
theorem eX10_feed_14 : DD cX10_feed 14 (.iload 4) 2 16 := ⟨by decide +kernel, rfl⟩
theorem eX10_feed_16 : DD cX10_feed 16 (.invokestatic 86) 3 19 := ⟨by decide +kernel, rfl⟩
theorem eX10_feed_19 : DD cX10_feed 19 (.iadd) 1 20 := ⟨by decide +kernel, rfl⟩
theorem eX10_feed_20 : DD cX10_feed 20 (.iload 5) 2 22 := ⟨by decide +kernel, rfl⟩
theorem eX10_feed_22 : DD cX10_feed 22 (.invokestatic 86) 3 25 := ⟨by decide +kernel, rfl⟩
theorem eX10_feed_25 : DD cX10_feed 25 (.iadd) 1 26 := ⟨by decide +kernel, rfl⟩
theorem eX10_feed_26 : DD cX10_feed 26 (.istore 6) 2 28 := ⟨by decide +kernel, rfl⟩
theorem eX10_feed_28 : DD cX10_feed 28 (.aload_n 0) 1 29 := ⟨by decide +kernel, rfl⟩
theorem eX10_feed_29 : DD cX10_feed 29 (.getfield 12) 3 32 := ⟨by decide +kernel, rfl⟩
theorem eX10_feed_32 : DD cX10_feed 32 (.getfield 90) 3 35 := ⟨by decide +kernel, rfl⟩
theorem eX10_feed_35 : DD cX10_feed 35 (.iload 6) 2 37 := ⟨by decide +kernel, rfl⟩
theorem eX10_feed_37 : DD cX10_feed 37 (.iadd) 1 38 := ⟨by decide +kernel, rfl⟩
theorem eX10_feed_38 : DD cX10_feed 38 (.sipush 240) 3 41 := ⟨by decide +kernel, rfl⟩
theorem eX10_feed_41 : DB cX10_feed 41 (.if_icmp .le 5) (5) 44 46 := ⟨by decide +kernel, rfl, by decide⟩
theorem eX10_feed_44 : DD cX10_feed 44 (.iconst (-1)) 1 45 := ⟨by decide +kernel, rfl⟩
theorem eX10_feed_45 : DD cX10_feed 45 (.ireturn) 1 46 := ⟨by decide +kernel, rfl⟩
theorem eX10_feed_46 : DD cX10_feed 46 (.aload_n 0) 1 47 := ⟨by decide +kernel, rfl⟩
theorem eX10_feed_47 : DD cX10_feed 47 (.getfield 12) 3 50 := ⟨by decide +kernel, rfl⟩
theorem eX10_feed_50 : DD cX10_feed 50 (.iload_n 1) 1 51 := ⟨by decide +kernel, rfl⟩
theorem eX10_feed_51 : DD cX10_feed 51 (.invokevirtual 93) 3 54 := ⟨by decide +kernel, rfl⟩
theorem eX10_feed_54 : DD cX10_feed 54 (.aload_n 0) 1 55 := ⟨by decide +kernel, rfl⟩
theorem eX10_feed_55 : DD cX10_feed 55 (.getfield 12) 3 58 := ⟨by decide +kernel, rfl⟩
theorem eX10_feed_58 : DD cX10_feed 58 (.iload_n 2) 1 59 := ⟨by decide +kernel, rfl⟩
theorem eX10_feed_59 : DD cX10_feed 59 (.invokevirtual 93) 3 62 := ⟨by decide +kernel, rfl⟩
theorem eX10_feed_62 : DD cX10_feed 62 (.aload_n 0) 1 63 := ⟨by decide +kernel, rfl⟩
theorem eX10_feed_63 : DD cX10_feed 63 (.getfield 12) 3 66 := ⟨by decide +kernel, rfl⟩
theorem eX10_feed_66 : DD cX10_feed 66 (.iload_n 3) 1 67 := ⟨by decide +kernel, rfl⟩
theorem eX10_feed_67 : DD cX10_feed 67 (.invokevirtual 93) 3 70 := ⟨by decide +kernel, rfl⟩
theorem eX10_feed_70 : DD cX10_feed 70 (.aload_n 0) 1 71 := ⟨by decide +kernel, rfl⟩
theorem eX10_feed_71 : DD cX10_feed 71 (.getfield 12) 3 74 := ⟨by decide +kernel, rfl⟩
theorem eX10_feed_74 : DD cX10_feed 74 (.iload 4) 2 76 := ⟨by decide +kernel, rfl⟩
theorem eX10_feed_76 : DD cX10_feed 76 (.invokevirtual 93) 3 79 := ⟨by decide +kernel, rfl⟩
theorem eX10_feed_79 : DD cX10_feed 79 (.aload_n 0) 1 80 := ⟨by decide +kernel, rfl⟩
theorem eX10_feed_80 : DD cX10_feed 80 (.getfield 12) 3 83 := ⟨by decide +kernel, rfl⟩
theorem eX10_feed_83 : DD cX10_feed 83 (.iload 5) 2 85 := ⟨by decide +kernel, rfl⟩
theorem eX10_feed_85 : DD cX10_feed 85 (.invokevirtual 93) 3 88 := ⟨by decide +kernel, rfl⟩
theorem eX10_feed_88 : DD cX10_feed 88 (.aload_n 0) 1 89 := ⟨by decide +kernel, rfl⟩
theorem eX10_feed_89 : DD cX10_feed 89 (.getfield 12) 3 92 := ⟨by decide +kernel, rfl⟩
theorem eX10_feed_92 : DD cX10_feed 92 (.getfield 90) 3 95 := ⟨by decide +kernel, rfl⟩
theorem eX10_feed_95 : DD cX10_feed 95 (.ireturn) 1 96 := ⟨by decide +kernel, rfl⟩
def G_X10_feed (x1 : Int32) (x2 : Int32) (x3 : Int32) (x4 : Int32) (x5 : Int32) (μ : Mem) : Option (Int32 × Mem) :=
  bd (G_X8_bytesIn x1 μ) (fun r_2 μ_1 => bd (G_X8_bytesIn x2 μ_1) (fun r_4 μ_3 => bd (G_X8_bytesIn x3 μ_3) (fun r_6 μ_5 => bd (G_X8_bytesIn x4 μ_5) (fun r_8 μ_7 => bd (G_X8_bytesIn x5 μ_7) (fun r_10 μ_9 => lb ((((r_2 + r_4) + r_6) + r_8) + r_10) (fun x6_11 => if ((rI μ_9 1 1) + x6_11) ≤ (240 : Int32) then bd (G_X8_append x1 μ_9) (fun r_13 μ_12 => bd (G_X8_append x2 μ_12) (fun r_15 μ_14 => bd (G_X8_append x3 μ_14) (fun r_17 μ_16 => bd (G_X8_append x4 μ_16) (fun r_19 μ_18 => bd (G_X8_append x5 μ_18) (fun r_21 μ_20 => some (rI μ_20 1 1, μ_20)))))) else some ((-1 : Int32), μ_9)))))))
set_option maxHeartbeats 4000000 in
theorem c_X10_feed {X : Wd} (hX : WdOk X) (x1 : Int32) (x2 : Int32) (x3 : Int32) (x4 : Int32) (x5 : Int32) (μ : Mem) : CtI X yX10_feed cX10_feed 7 (some .int) (rmF 1 23) [.ref (xad X 0), .int x1, .int x2, .int x3, .int x4, .int x5] μ (G_X10_feed x1 x2 x3 x4 x5 μ) := by
  refine CtI.of hX (plainFor_of_name (by decide)) (by exact Nat.le_of_ble_eq_true rfl) ?_
  intro C hCX hC hr
  subst hCX
  show J C (KI C) μ 0 [(0, .ref (xad (cX C) 0)), (1, .int x1), (2, .int x2), (3, .int x3), (4, .int x4), (5, .int x5)] [] _
  unfold G_X10_feed
  refine J.iload_n (j := 1) hC eX10_feed_0 rfl ?_
  refine J.callSI (st := []) hC eX10_feed_1 ml_X10_86 mv_X8_bytesIn (Rle_of (Nat.le_of_ble_eq_true rfl) (Nat.le_of_ble_eq_true rfl)) (c_X8_bytesIn hC.X x1 μ) rfl rfl (Nat.le_of_ble_eq_true rfl) (fun r_2 μ_1 => ?_)
  refine J.iload_n (j := 2) hC eX10_feed_4 rfl ?_
  refine J.callSI (st := [.int r_2]) hC eX10_feed_5 ml_X10_86 mv_X8_bytesIn (Rle_of (Nat.le_of_ble_eq_true rfl) (Nat.le_of_ble_eq_true rfl)) (c_X8_bytesIn hC.X x2 μ_1) rfl rfl (Nat.le_of_ble_eq_true rfl) (fun r_4 μ_3 => ?_)
  refine J.iadd hC eX10_feed_8 ?_
  refine J.iload_n (j := 3) hC eX10_feed_9 rfl ?_
  refine J.callSI (st := [.int (r_2 + r_4)]) hC eX10_feed_10 ml_X10_86 mv_X8_bytesIn (Rle_of (Nat.le_of_ble_eq_true rfl) (Nat.le_of_ble_eq_true rfl)) (c_X8_bytesIn hC.X x3 μ_3) rfl rfl (Nat.le_of_ble_eq_true rfl) (fun r_6 μ_5 => ?_)
  refine J.iadd hC eX10_feed_13 ?_
  refine J.iload (j := 4) hC eX10_feed_14 rfl ?_
  refine J.callSI (st := [.int ((r_2 + r_4) + r_6)]) hC eX10_feed_16 ml_X10_86 mv_X8_bytesIn (Rle_of (Nat.le_of_ble_eq_true rfl) (Nat.le_of_ble_eq_true rfl)) (c_X8_bytesIn hC.X x4 μ_5) rfl rfl (Nat.le_of_ble_eq_true rfl) (fun r_8 μ_7 => ?_)
  refine J.iadd hC eX10_feed_19 ?_
  refine J.iload (j := 5) hC eX10_feed_20 rfl ?_
  refine J.callSI (st := [.int (((r_2 + r_4) + r_6) + r_8)]) hC eX10_feed_22 ml_X10_86 mv_X8_bytesIn (Rle_of (Nat.le_of_ble_eq_true rfl) (Nat.le_of_ble_eq_true rfl)) (c_X8_bytesIn hC.X x5 μ_7) rfl rfl (Nat.le_of_ble_eq_true rfl) (fun r_10 μ_9 => ?_)
  refine J.iadd hC eX10_feed_25 ?_
  refine J.topi (fun x6_11 => ?_)
  refine J.istore [(6, .int x6_11), (0, .ref (xad (cX C) 0)), (1, .int x1), (2, .int x2), (3, .int x3), (4, .int x4), (5, .int x5)] hC eX10_feed_26 (by decide) rfl ?_
  refine J.aload_n (j := 1) hC eX10_feed_28 rfl ?_
  refine gf_X10_12 (q := 1) hC eX10_feed_29 kk_0 rfl ?_
  refine gf_X10_90 hC eX10_feed_32 kk_1 ?_
  refine J.iload (j := 0) hC eX10_feed_35 rfl ?_
  refine J.iadd hC eX10_feed_37 ?_
  refine J.sipush hC eX10_feed_38 cs_240 ?_
  refine J.icmp_le hC eX10_feed_41 (fun _ => ?_) (fun _ => ?_)
  · refine J.aload_n (j := 1) hC eX10_feed_46 rfl ?_
    refine gf_X10_12 (q := 1) hC eX10_feed_47 kk_0 rfl ?_
    refine J.iload_n (j := 2) hC eX10_feed_50 rfl ?_
    refine J.callVV (st := []) hC eX10_feed_51 kk_1 (by decide) rfl rfl ml_X10_93 mv_X8_append (Rle_of (Nat.le_of_ble_eq_true rfl) (Nat.le_of_ble_eq_true rfl)) (c_X8_append hC.X x1 μ_9) rfl rfl (Nat.le_of_ble_eq_true rfl) (fun r_13 μ_12 => ?_)
    refine J.aload_n (j := 1) hC eX10_feed_54 rfl ?_
    refine gf_X10_12 (q := 1) hC eX10_feed_55 kk_0 rfl ?_
    refine J.iload_n (j := 3) hC eX10_feed_58 rfl ?_
    refine J.callVV (st := []) hC eX10_feed_59 kk_1 (by decide) rfl rfl ml_X10_93 mv_X8_append (Rle_of (Nat.le_of_ble_eq_true rfl) (Nat.le_of_ble_eq_true rfl)) (c_X8_append hC.X x2 μ_12) rfl rfl (Nat.le_of_ble_eq_true rfl) (fun r_15 μ_14 => ?_)
    refine J.aload_n (j := 1) hC eX10_feed_62 rfl ?_
    refine gf_X10_12 (q := 1) hC eX10_feed_63 kk_0 rfl ?_
    refine J.iload_n (j := 4) hC eX10_feed_66 rfl ?_
    refine J.callVV (st := []) hC eX10_feed_67 kk_1 (by decide) rfl rfl ml_X10_93 mv_X8_append (Rle_of (Nat.le_of_ble_eq_true rfl) (Nat.le_of_ble_eq_true rfl)) (c_X8_append hC.X x3 μ_14) rfl rfl (Nat.le_of_ble_eq_true rfl) (fun r_17 μ_16 => ?_)
    refine J.aload_n (j := 1) hC eX10_feed_70 rfl ?_
    refine gf_X10_12 (q := 1) hC eX10_feed_71 kk_0 rfl ?_
    refine J.iload (j := 5) hC eX10_feed_74 rfl ?_
    refine J.callVV (st := []) hC eX10_feed_76 kk_1 (by decide) rfl rfl ml_X10_93 mv_X8_append (Rle_of (Nat.le_of_ble_eq_true rfl) (Nat.le_of_ble_eq_true rfl)) (c_X8_append hC.X x4 μ_16) rfl rfl (Nat.le_of_ble_eq_true rfl) (fun r_19 μ_18 => ?_)
    refine J.aload_n (j := 1) hC eX10_feed_79 rfl ?_
    refine gf_X10_12 (q := 1) hC eX10_feed_80 kk_0 rfl ?_
    refine J.iload (j := 6) hC eX10_feed_83 rfl ?_
    refine J.callVV (st := []) hC eX10_feed_85 kk_1 (by decide) rfl rfl ml_X10_93 mv_X8_append (Rle_of (Nat.le_of_ble_eq_true rfl) (Nat.le_of_ble_eq_true rfl)) (c_X8_append hC.X x5 μ_18) rfl rfl (Nat.le_of_ble_eq_true rfl) (fun r_21 μ_20 => ?_)
    refine J.aload_n (j := 1) hC eX10_feed_88 rfl ?_
    refine gf_X10_12 (q := 1) hC eX10_feed_89 kk_0 rfl ?_
    refine gf_X10_90 hC eX10_feed_92 kk_1 ?_
    exact J.iret hC hr eX10_feed_95
  · refine J.iconst hC eX10_feed_44 ci_m1 ?_
    exact J.iret hC hr eX10_feed_45
-- X10_end
theorem eX10_end_0 : DD cX10_end 0 (.iload_n 1) 1 1 := ⟨by decide +kernel, rfl⟩
theorem eX10_end_1 : DB cX10_end 1 (.ifCond .lt 14) (14) 4 15 := ⟨by decide +kernel, rfl, by decide⟩
theorem eX10_end_4 : DD cX10_end 4 (.iload_n 1) 1 5 := ⟨by decide +kernel, rfl⟩
theorem eX10_end_5 : DD cX10_end 5 (.aload_n 0) 1 6 := ⟨by decide +kernel, rfl⟩
theorem eX10_end_6 : DD cX10_end 6 (.getfield 12) 3 9 := ⟨by decide +kernel, rfl⟩
theorem eX10_end_9 : DD cX10_end 9 (.getfield 90) 3 12 := ⟨by decide +kernel, rfl⟩
theorem eX10_end_12 : DB cX10_end 12 (.if_icmp .le 5) (5) 15 17 := ⟨by decide +kernel, rfl, by decide⟩
theorem eX10_end_15 : DD cX10_end 15 (.iconst 0) 1 16 := ⟨by decide +kernel, rfl⟩
theorem eX10_end_16 : DD cX10_end 16 (.ireturn) 1 17 := ⟨by decide +kernel, rfl⟩
theorem eX10_end_17 : DD cX10_end 17 (.aload_n 0) 1 18 := ⟨by decide +kernel, rfl⟩
theorem eX10_end_18 : DD cX10_end 18 (.getfield 12) 3 21 := ⟨by decide +kernel, rfl⟩
theorem eX10_end_21 : DD cX10_end 21 (.iload_n 1) 1 22 := ⟨by decide +kernel, rfl⟩
theorem eX10_end_22 : DD cX10_end 22 (.putfield 90) 3 25 := ⟨by decide +kernel, rfl⟩
theorem eX10_end_25 : DD cX10_end 25 (.iconst 1) 1 26 := ⟨by decide +kernel, rfl⟩
theorem eX10_end_26 : DD cX10_end 26 (.ireturn) 1 27 := ⟨by decide +kernel, rfl⟩
def G_X10_end (x1 : Int32) (μ : Mem) : Option (Int32 × Mem) :=
  if x1 < 0 then some ((0 : Int32), μ) else if x1 ≤ (rI μ 1 1) then lb (wI μ 1 1 x1) (fun μ_1 => some ((1 : Int32), μ_1)) else some ((0 : Int32), μ)
set_option maxHeartbeats 4000000 in
theorem c_X10_end {X : Wd} (hX : WdOk X) (x1 : Int32) (μ : Mem) : CtI X yX10_end cX10_end 2 (some .boolean) (rmF 0 0) [.ref (xad X 0), .int x1] μ (G_X10_end x1 μ) := by
  refine CtI.of hX (plainFor_of_name (by decide)) (by exact Nat.le_of_ble_eq_true rfl) ?_
  intro C hCX hC hr
  subst hCX
  show J C (KI C) μ 0 [(0, .ref (xad (cX C) 0)), (1, .int x1)] [] _
  unfold G_X10_end
  refine J.iload_n (j := 1) hC eX10_end_0 rfl ?_
  refine J.if_lt hC eX10_end_1 (fun _ => ?_) (fun _ => ?_)
  · refine J.iconst hC eX10_end_15 ci_0 ?_
    exact J.zretB hC hr eX10_end_16 rfl
  · refine J.iload_n (j := 1) hC eX10_end_4 rfl ?_
    refine J.aload_n (j := 0) hC eX10_end_5 rfl ?_
    refine gf_X10_12 (q := 1) hC eX10_end_6 kk_0 rfl ?_
    refine gf_X10_90 hC eX10_end_9 kk_1 ?_
    refine J.icmp_le hC eX10_end_12 (fun _ => ?_) (fun _ => ?_)
    · refine J.aload_n (j := 0) hC eX10_end_17 rfl ?_
      refine gf_X10_12 (q := 1) hC eX10_end_18 kk_0 rfl ?_
      refine J.iload_n (j := 1) hC eX10_end_21 rfl ?_
      refine pf_X10_90 hC eX10_end_22 kk_1 (fun μ_1 => ?_)
      refine J.iconst hC eX10_end_25 ci_1 ?_
      exact J.zretB hC hr eX10_end_26 rfl
    · refine J.iconst hC eX10_end_15 ci_0 ?_
      exact J.zretB hC hr eX10_end_16 rfl
-- X10_fault
theorem eX10_fault_0 : DD cX10_fault 0 (.iload_n 1) 1 1 := ⟨by decide +kernel, rfl⟩
theorem eX10_fault_1 : DB cX10_fault 1 (.ifCond .ne 15) (15) 4 16 := ⟨by decide +kernel, rfl, by decide⟩
theorem eX10_fault_4 : DD cX10_fault 4 (.aload_n 0) 1 5 := ⟨by decide +kernel, rfl⟩
theorem eX10_fault_5 : DD cX10_fault 5 (.getfield 19) 3 8 := ⟨by decide +kernel, rfl⟩
theorem eX10_fault_8 : DD cX10_fault 8 (.aload_n 0) 1 9 := ⟨by decide +kernel, rfl⟩
theorem eX10_fault_9 : DD cX10_fault 9 (.getfield 12) 3 12 := ⟨by decide +kernel, rfl⟩
theorem eX10_fault_12 : DD cX10_fault 12 (.invokevirtual 97) 3 15 := ⟨by decide +kernel, rfl⟩
theorem eX10_fault_15 : DD cX10_fault 15 (.ireturn) 1 16 := ⟨by decide +kernel, rfl⟩
theorem eX10_fault_16 : DD cX10_fault 16 (.iload_n 1) 1 17 := ⟨by decide +kernel, rfl⟩
theorem eX10_fault_17 : DD cX10_fault 17 (.iconst 1) 1 18 := ⟨by decide +kernel, rfl⟩
theorem eX10_fault_18 : DB cX10_fault 18 (.if_icmp .ne 22) (22) 21 40 := ⟨by decide +kernel, rfl, by decide⟩
theorem eX10_fault_21 : DD cX10_fault 21 (.aload_n 0) 1 22 := ⟨by decide +kernel, rfl⟩
theorem eX10_fault_22 : DD cX10_fault 22 (.getfield 32) 3 25 := ⟨by decide +kernel, rfl⟩
theorem eX10_fault_25 : DD cX10_fault 25 (.aload_n 0) 1 26 := ⟨by decide +kernel, rfl⟩
theorem eX10_fault_26 : DD cX10_fault 26 (.getfield 75) 3 29 := ⟨by decide +kernel, rfl⟩
theorem eX10_fault_29 : DD cX10_fault 29 (.aaload) 1 30 := ⟨by decide +kernel, rfl⟩
theorem eX10_fault_30 : DD cX10_fault 30 (.aload_n 0) 1 31 := ⟨by decide +kernel, rfl⟩
theorem eX10_fault_31 : DD cX10_fault 31 (.getfield 12) 3 34 := ⟨by decide +kernel, rfl⟩
theorem eX10_fault_34 : DD cX10_fault 34 (.invokevirtual 101) 3 37 := ⟨by decide +kernel, rfl⟩
theorem eX10_fault_37 : DB cX10_fault 37 (.goto 5) (5) 40 42 := ⟨by decide +kernel, rfl, by decide⟩
theorem eX10_fault_40 : DD cX10_fault 40 (.bipush (-2)) 2 42 := ⟨by decide +kernel, rfl⟩
theorem eX10_fault_42 : DD cX10_fault 42 (.ireturn) 1 43 := ⟨by decide +kernel, rfl⟩
def G_X10_fault (x1 : Int32) (μ : Mem) : Option (Int32 × Mem) :=
  if x1 = 0 then bd (G_X1_read  μ) (fun r_2 μ_1 => some (r_2, μ_1)) else if x1 = (1 : Int32) then gq (inB (rI μ 0 11) 5) (bd (G_X9_read (whP 38 (rI μ 0 11)) μ) (fun r_5 μ_4 => some (r_5, μ_4))) else some ((-2 : Int32), μ)
set_option maxHeartbeats 4000000 in
theorem c_X10_fault {X : Wd} (hX : WdOk X) (x1 : Int32) (μ : Mem) : CtI X yX10_fault cX10_fault 2 (some .int) (rmF 8 179) [.ref (xad X 0), .int x1] μ (G_X10_fault x1 μ) := by
  refine CtI.of hX (plainFor_of_name (by decide)) (by exact Nat.le_of_ble_eq_true rfl) ?_
  intro C hCX hC hr
  subst hCX
  show J C (KI C) μ 0 [(0, .ref (xad (cX C) 0)), (1, .int x1)] [] _
  unfold G_X10_fault
  refine J.iload_n (j := 1) hC eX10_fault_0 rfl ?_
  refine J.if_ne hC eX10_fault_1 (fun _ => ?_) (fun _ => ?_)
  · refine J.aload_n (j := 0) hC eX10_fault_4 rfl ?_
    refine gf_X10_19 (q := 3) hC eX10_fault_5 kk_0 rfl ?_
    refine J.aload_n (j := 0) hC eX10_fault_8 rfl ?_
    refine gf_X10_12 (q := 1) hC eX10_fault_9 kk_0 rfl ?_
    refine J.callVI (st := []) hC eX10_fault_12 kk_3 (by decide) rfl rfl ml_X10_97 mv_X1_read (Rle_of (Nat.le_of_ble_eq_true rfl) (Nat.le_of_ble_eq_true rfl)) (c_X1_read hC.X  μ) rfl rfl (Nat.le_of_ble_eq_true rfl) (fun r_2 μ_1 => ?_)
    exact J.iret hC hr eX10_fault_15
  · refine J.iload_n (j := 1) hC eX10_fault_16 rfl ?_
    refine J.iconst hC eX10_fault_17 ci_1 ?_
    refine J.icmp_ne hC eX10_fault_18 (fun _ => ?_) (fun _ => ?_)
    · refine J.aload_n (j := 0) hC eX10_fault_21 rfl ?_
      refine gf_X10_32 (q := 38) hC eX10_fault_22 kk_0 rfl ?_
      refine J.aload_n (j := 0) hC eX10_fault_25 rfl ?_
      refine gf_X10_75 hC eX10_fault_26 kk_0 ?_
      refine J.aaldW hC eX10_fault_29 kk_38 (fun hq_3 => ?_)
      refine J.aload_n (j := 0) hC eX10_fault_30 rfl ?_
      refine gf_X10_12 (q := 1) hC eX10_fault_31 kk_0 rfl ?_
      refine J.callVI (st := []) hC eX10_fault_34 hq_3 (by decide) rfl rfl ml_X10_101 mv_X9_read (Rle_of (Nat.le_of_ble_eq_true rfl) (Nat.le_of_ble_eq_true rfl)) (c_X9_read hC.X (whP 38 (rI μ 0 11)) hq_3 μ) rfl rfl (Nat.le_of_ble_eq_true rfl) (fun r_5 μ_4 => ?_)
      refine J.goto hC eX10_fault_37 ?_
      exact J.iret hC hr eX10_fault_42
    · refine J.bipush hC eX10_fault_40 cb_m2 ?_
      exact J.iret hC hr eX10_fault_42
