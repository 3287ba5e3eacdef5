-- X10_commonDivisor
theorem eX10_commonDivisor_0 : DD cX10_commonDivisor 0 (.lload_n 0) 1 1 := ⟨by decide +kernel, rfl⟩
theorem eX10_commonDivisor_1 : DD cX10_commonDivisor 1 (.lstore 4) 2 3 := ⟨by decide +kernel, rfl⟩
theorem eX10_commonDivisor_3 : DD cX10_commonDivisor 3 (.lload_n 2) 1 4 := ⟨by decide +kernel, rfl⟩
theorem eX10_commonDivisor_4 : DD cX10_commonDivisor 4 (.lstore 6) 2 6 := ⟨by decide +kernel, rfl⟩
theorem eX10_commonDivisor_6 : DD cX10_commonDivisor 6 (.iconst 0) 1 7 := ⟨by decide +kernel, rfl⟩
theorem eX10_commonDivisor_7 : DD cX10_commonDivisor 7 (.istore 8) 2 9 := ⟨by decide +kernel, rfl⟩
theorem eX10_commonDivisor_9 : DD cX10_commonDivisor 9 (.iload 8) 2 11 := ⟨by decide +kernel, rfl⟩
theorem eX10_commonDivisor_11 : DD cX10_commonDivisor 11 (.sipush 128) 3 14 := ⟨by decide +kernel, rfl⟩
theorem eX10_commonDivisor_14 : DB cX10_commonDivisor 14 (.if_icmp .ge 31) (31) 17 45 := ⟨by decide +kernel, rfl, by decide⟩
theorem eX10_commonDivisor_17 : DD cX10_commonDivisor 17 (.lload 6) 2 19 := ⟨by decide +kernel, rfl⟩
theorem eX10_commonDivisor_19 : DD cX10_commonDivisor 19 (.lconst 0) 1 20 := ⟨by decide +kernel, rfl⟩
theorem eX10_commonDivisor_20 : DD cX10_commonDivisor 20 (.lcmp) 1 21 := ⟨by decide +kernel, rfl⟩
theorem eX10_commonDivisor_21 : DB cX10_commonDivisor 21 (.ifCond .le 24) (24) 24 45 := ⟨by decide +kernel, rfl, by decide⟩
theorem eX10_commonDivisor_24 : DD cX10_commonDivisor 24 (.lload 4) 2 26 := ⟨by decide +kernel, rfl⟩
theorem eX10_commonDivisor_26 : DD cX10_commonDivisor 26 (.lload 6) 2 28 := ⟨by decide +kernel, rfl⟩
theorem eX10_commonDivisor_28 : DD cX10_commonDivisor 28 (.lrem) 1 29 := ⟨by decide +kernel, rfl⟩
theorem eX10_commonDivisor_29 : DD cX10_commonDivisor 29 (.lstore 9) 2 31 := ⟨by decide +kernel, rfl⟩
theorem eX10_commonDivisor_31 : DD cX10_commonDivisor 31 (.lload 6) 2 33 := ⟨by decide +kernel, rfl⟩
theorem eX10_commonDivisor_33 : DD cX10_commonDivisor 33 (.lstore 4) 2 35 := ⟨by decide +kernel, rfl⟩
theorem eX10_commonDivisor_35 : DD cX10_commonDivisor 35 (.lload 9) 2 37 := ⟨by decide +kernel, rfl⟩
theorem eX10_commonDivisor_37 : DD cX10_commonDivisor 37 (.lstore 6) 2 39 := ⟨by decide +kernel, rfl⟩
theorem eX10_commonDivisor_39 : DD cX10_commonDivisor 39 (.iinc 8 1) 3 42 := ⟨by decide +kernel, rfl⟩
theorem eX10_commonDivisor_42 : DB cX10_commonDivisor 42 (.goto (-33)) (-33) 45 9 := ⟨by decide +kernel, rfl, by decide⟩
theorem eX10_commonDivisor_45 : DD cX10_commonDivisor 45 (.lload 4) 2 47 := ⟨by decide +kernel, rfl⟩
theorem eX10_commonDivisor_47 : DD cX10_commonDivisor 47 (.lconst 0) 1 48 := ⟨by decide +kernel, rfl⟩
theorem eX10_commonDivisor_48 : DD cX10_commonDivisor 48 (.lcmp) 1 49 := ⟨by decide +kernel, rfl⟩
theorem eX10_commonDivisor_49 : DB cX10_commonDivisor 49 (.ifCond .le 8) (8) 52 57 := ⟨by decide +kernel, rfl, by decide⟩
theorem eX10_commonDivisor_52 : DD cX10_commonDivisor 52 (.lload 4) 2 54 := ⟨by decide +kernel, rfl⟩
theorem eX10_commonDivisor_54 : DB cX10_commonDivisor 54 (.goto 4) (4) 57 58 := ⟨by decide +kernel, rfl, by decide⟩
theorem eX10_commonDivisor_57 : DD cX10_commonDivisor 57 (.lconst 1) 1 58 := ⟨by decide +kernel, rfl⟩
theorem eX10_commonDivisor_58 : DD cX10_commonDivisor 58 (.lreturn) 1 59 := ⟨by decide +kernel, rfl⟩
def F_X10_commonDivisor_45 (l4 : Int64) (μ : Mem) : Option (Int64 × Mem) :=
  if (lg_cmp l4 (0 : Int64)) ≤ 0 then some ((1 : Int64), μ) else some (l4, μ)
set_option maxHeartbeats 4000000 in
theorem j_X10_commonDivisor_45 {C : Cx} (hC : Ok C cX10_commonDivisor 11 RX10 (rmF 0 0)) (hr : (cT C).sig.returnType = (some .long)) (l4 : Int64) (μ : Mem) : J C (KL C) μ 45 [(4, .long l4)] [] (F_X10_commonDivisor_45  l4 μ) := by
  unfold F_X10_commonDivisor_45
  refine J.lload (j := 0) hC eX10_commonDivisor_45 rfl ?_
  refine J.lconst hC eX10_commonDivisor_47 cl_0 ?_
  refine J.lcmp hC eX10_commonDivisor_48 ?_
  refine J.if_le hC eX10_commonDivisor_49 (fun _ => ?_) (fun _ => ?_)
  · refine J.lconst hC eX10_commonDivisor_57 cl_1 ?_
    exact J.lret hC hr eX10_commonDivisor_58
  · refine J.lload (j := 0) hC eX10_commonDivisor_52 rfl ?_
    refine J.goto hC eX10_commonDivisor_54 ?_
    exact J.lret hC hr eX10_commonDivisor_58
def L_X10_commonDivisor_9 : Nat → Int64 → Int64 → Int32 → Mem → Option (Int64 × Mem)
  | 0, _, _, _, _ => none
  | n + 1, l4, l6, x8, μ => if (128 : Int32) ≤ x8 then F_X10_commonDivisor_45  l4 μ else if (lg_cmp l6 (0 : Int64)) ≤ 0 then F_X10_commonDivisor_45  l4 μ else gq (decide (¬ l6 = 0)) (lb (l4 - l4 / l6 * l6) (fun l9_1 => lb (x8 + (1 : Int32)) (fun x8_2 => L_X10_commonDivisor_9  n l6 l9_1 x8_2 μ)))
set_option maxHeartbeats 4000000 in
theorem j_X10_commonDivisor_9 {C : Cx} (hC : Ok C cX10_commonDivisor 11 RX10 (rmF 0 0)) (hr : (cT C).sig.returnType = (some .long)) : ∀ (n : Nat) (l4 : Int64) (l6 : Int64) (x8 : Int32) (μ : Mem), J C (KL C) μ 9 [(4, .long l4), (6, .long l6), (8, .int x8)] [] (L_X10_commonDivisor_9  n l4 l6 x8 μ) := by
  intro n
  induction n with
  | zero => intros; exact J.no
  | succ n ih =>
    intro l4 l6 x8 μ
    rw [L_X10_commonDivisor_9]
    refine J.iload (j := 2) hC eX10_commonDivisor_9 rfl ?_
    refine J.sipush hC eX10_commonDivisor_11 cs_128 ?_
    refine J.icmp_ge hC eX10_commonDivisor_14 (fun _ => ?_) (fun _ => ?_)
    · refine J.sub [0] rfl ?_
      exact j_X10_commonDivisor_45 hC hr  l4 μ
    · refine J.lload (j := 1) hC eX10_commonDivisor_17 rfl ?_
      refine J.lconst hC eX10_commonDivisor_19 cl_0 ?_
      refine J.lcmp hC eX10_commonDivisor_20 ?_
      refine J.if_le hC eX10_commonDivisor_21 (fun _ => ?_) (fun _ => ?_)
      · refine J.sub [0] rfl ?_
        exact j_X10_commonDivisor_45 hC hr  l4 μ
      · refine J.lload (j := 0) hC eX10_commonDivisor_24 rfl ?_
        refine J.lload (j := 1) hC eX10_commonDivisor_26 rfl ?_
        refine J.lrem hC eX10_commonDivisor_28 ?_
        refine J.topl (fun l9_1 => ?_)
        refine J.lstore [(9, .long l9_1), (4, .long l4), (6, .long l6), (8, .int x8)] hC eX10_commonDivisor_29 (by decide) rfl ?_
        refine J.lload (j := 2) hC eX10_commonDivisor_31 rfl ?_
        refine J.lstore [(4, .long l6), (9, .long l9_1), (6, .long l6), (8, .int x8)] hC eX10_commonDivisor_33 (by decide) rfl ?_
        refine J.lload (j := 1) hC eX10_commonDivisor_35 rfl ?_
        refine J.lstore [(6, .long l9_1), (4, .long l6), (9, .long l9_1), (8, .int x8)] hC eX10_commonDivisor_37 (by decide) rfl ?_
        refine J.iinc (j := 3) (fun x8_2 => [(8, .int x8_2), (6, .long l9_1), (4, .long l6), (9, .long l9_1)]) hC eX10_commonDivisor_39 rfl ci_1 (by decide) (fun _ => rfl) (fun x8_2 => ?_)
        refine J.goto hC eX10_commonDivisor_42 ?_
        refine J.sub [2, 1, 0] rfl ?_
        exact ih l6 l9_1 x8_2 μ
def G_X10_commonDivisor (l0 : Int64) (l2 : Int64) (μ : Mem) : Option (Int64 × Mem) :=
  L_X10_commonDivisor_9  100000 l0 l2 (0 : Int32) μ
set_option maxHeartbeats 4000000 in
theorem c_X10_commonDivisor {X : Wd} (hX : WdOk X) (l0 : Int64) (l2 : Int64) (μ : Mem) : CtL X yX10_commonDivisor cX10_commonDivisor 11 (some .long) (rmF 0 0) [.long l0, .long l2] μ (G_X10_commonDivisor l0 l2 μ) := by
  refine CtL.of hX (plainFor_of_name (by decide)) (by exact Nat.le_of_ble_eq_true rfl) ?_
  intro C hCX hC hr
  subst hCX
  show J C (KL C) μ 0 [(0, .long l0), (2, .long l2)] [] _
  unfold G_X10_commonDivisor
  refine J.lload_n (j := 0) hC eX10_commonDivisor_0 rfl ?_
  refine J.lstore [(4, .long l0), (0, .long l0), (2, .long l2)] hC eX10_commonDivisor_1 (by decide) rfl ?_
  refine J.lload_n (j := 2) hC eX10_commonDivisor_3 rfl ?_
  refine J.lstore [(6, .long l2), (4, .long l0), (0, .long l0), (2, .long l2)] hC eX10_commonDivisor_4 (by decide) rfl ?_
  refine J.iconst hC eX10_commonDivisor_6 ci_0 ?_
  refine J.istore [(8, .int (0 : Int32)), (6, .long l2), (4, .long l0), (0, .long l0), (2, .long l2)] hC eX10_commonDivisor_7 (by decide) rfl ?_
  refine J.sub [2, 1, 0] rfl ?_
  exact j_X10_commonDivisor_9 hC hr  100000 l0 l2 (0 : Int32) μ
-- X10_odds
theorem eX10_odds_0 : DD cX10_odds 0 (.aload_n 0) 1 1 := ⟨by decide +kernel, rfl⟩
theorem eX10_odds_1 : DD cX10_odds 1 (.iload_n 1) 1 2 := ⟨by decide +kernel, rfl⟩
theorem eX10_odds_2 : DD cX10_odds 2 (.invokevirtual 132) 3 5 := ⟨by decide +kernel, rfl⟩
theorem eX10_odds_5 : DB cX10_odds 5 (.ifCond .eq 32) (32) 8 37 := ⟨by decide +kernel, rfl, by decide⟩
theorem eX10_odds_8 : DD cX10_odds 8 (.aload_n 0) 1 9 := ⟨by decide +kernel, rfl⟩
theorem eX10_odds_9 : DD cX10_odds 9 (.iload_n 2) 1 10 := ⟨by decide +kernel, rfl⟩
theorem eX10_odds_10 : DD cX10_odds 10 (.invokevirtual 301) 3 13 := ⟨by decide +kernel, rfl⟩
theorem eX10_odds_13 : DB cX10_odds 13 (.ifCond .eq 24) (24) 16 37 := ⟨by decide +kernel, rfl, by decide⟩
theorem eX10_odds_16 : DD cX10_odds 16 (.iload_n 3) 1 17 := ⟨by decide +kernel, rfl⟩
theorem eX10_odds_17 : DD cX10_odds 17 (.iconst 1) 1 18 := ⟨by decide +kernel, rfl⟩
theorem eX10_odds_18 : DB cX10_odds 18 (.if_icmp .lt 19) (19) 21 37 := ⟨by decide +kernel, rfl, by decide⟩
theorem eX10_odds_21 : DD cX10_odds 21 (.iload_n 3) 1 22 := ⟨by decide +kernel, rfl⟩
theorem eX10_odds_22 : DD cX10_odds 22 (.iconst 4) 1 23 := ⟨by decide +kernel, rfl⟩
theorem eX10_odds_23 : DB cX10_odds 23 (.if_icmp .gt 14) (14) 26 37 := ⟨by decide +kernel, rfl, by decide⟩
theorem eX10_odds_26 : DD cX10_odds 26 (.iload 4) 2 28 := ⟨by decide +kernel, rfl⟩
theorem eX10_odds_28 : DB cX10_odds 28 (.ifCond .lt 9) (9) 31 37 := ⟨by decide +kernel, rfl, by decide⟩
theorem eX10_odds_31 : DD cX10_odds 31 (.iload 4) 2 33 := ⟨by decide +kernel, rfl⟩
theorem eX10_odds_33 : DD cX10_odds 33 (.iconst 1) 1 34 := ⟨by decide +kernel, rfl⟩
theorem eX10_odds_34 : DB cX10_odds 34 (.if_icmp .le 7) (7) 37 41 := ⟨by decide +kernel, rfl, by decide⟩
theorem eX10_odds_37 : DD cX10_odds 37 (.ldc2_w 207) 3 40 := ⟨by decide +kernel, rfl⟩
theorem eX10_odds_40 : DD cX10_odds 40 (.lreturn) 1 41 := ⟨by decide +kernel, rfl⟩
theorem eX10_odds_41 : DD cX10_odds 41 (.aload_n 0) 1 42 := ⟨by decide +kernel, rfl⟩
theorem eX10_odds_42 : DD cX10_odds 42 (.getfield 26) 3 45 := ⟨by decide +kernel, rfl⟩
theorem eX10_odds_45 : DD cX10_odds 45 (.getfield 143) 3 48 := ⟨by decide +kernel, rfl⟩
theorem eX10_odds_48 : DD cX10_odds 48 (.iload_n 1) 1 49 := ⟨by decide +kernel, rfl⟩
theorem eX10_odds_49 : DD cX10_odds 49 (.aaload) 1 50 := ⟨by decide +kernel, rfl⟩
theorem eX10_odds_50 : DD cX10_odds 50 (.astore 5) 2 52 := ⟨by decide +kernel, rfl⟩
theorem eX10_odds_52 : DD cX10_odds 52 (.aload 5) 2 54 := ⟨by decide +kernel, rfl⟩
theorem eX10_odds_54 : DD cX10_odds 54 (.getfield 152) 3 57 := ⟨by decide +kernel, rfl⟩
theorem eX10_odds_57 : DD cX10_odds 57 (.iload_n 3) 1 58 := ⟨by decide +kernel, rfl⟩
theorem eX10_odds_58 : DB cX10_odds 58 (.if_icmp .ge 7) (7) 61 65 := ⟨by decide +kernel, rfl, by decide⟩
theorem eX10_odds_61 : DD cX10_odds 61 (.ldc2_w 207) 3 64 := ⟨by decide +kernel, rfl⟩
theorem eX10_odds_64 : DD cX10_odds 64 (.lreturn) 1 65 := ⟨by decide +kernel, rfl⟩
theorem eX10_odds_65 : DD cX10_odds 65 (.aload 5) 2 67 := ⟨by decide +kernel, rfl⟩
theorem eX10_odds_67 : DD cX10_odds 67 (.aload_n 0) 1 68 := ⟨by decide +kernel, rfl⟩
theorem eX10_odds_68 : DD cX10_odds 68 (.getfield 32) 3 71 := ⟨by decide +kernel, rfl⟩
theorem eX10_odds_71 : DD cX10_odds 71 (.iload_n 2) 1 72 := ⟨by decide +kernel, rfl⟩
theorem eX10_odds_72 : DD cX10_odds 72 (.aaload) 1 73 := ⟨by decide +kernel, rfl⟩
theorem eX10_odds_73 : DD cX10_odds 73 (.sipush 289) 3 76 := ⟨by decide +kernel, rfl⟩
theorem eX10_odds_76 : DD cX10_odds 76 (.invokevirtual 310) 3 79 := ⟨by decide +kernel, rfl⟩
theorem eX10_odds_79 : DD cX10_odds 79 (.lstore 6) 2 81 := ⟨by decide +kernel, rfl⟩
theorem eX10_odds_81 : DD cX10_odds 81 (.lload 6) 2 83 := ⟨by decide +kernel, rfl⟩
theorem eX10_odds_83 : DD cX10_odds 83 (.iload_n 3) 1 84 := ⟨by decide +kernel, rfl⟩
theorem eX10_odds_84 : DD cX10_odds 84 (.i2l) 1 85 := ⟨by decide +kernel, rfl⟩
theorem eX10_odds_85 : DD cX10_odds 85 (.lcmp) 1 86 := ⟨by decide +kernel, rfl⟩
theorem eX10_odds_86 : DB cX10_odds 86 (.ifCond .ge 14) (14) 89 100 := ⟨by decide +kernel, rfl, by decide⟩
theorem eX10_odds_89 : DD cX10_odds 89 (.iload 4) 2 91 := ⟨by decide +kernel, rfl⟩
theorem eX10_odds_91 : DB cX10_odds 91 (.ifCond .ne 7) (7) 94 98 := ⟨by decide +kernel, rfl, by decide⟩
theorem eX10_odds_94 : DD cX10_odds 94 (.lconst 0) 1 95 := ⟨by decide +kernel, rfl⟩
theorem eX10_odds_95 : DB cX10_odds 95 (.goto 4) (4) 98 99 := ⟨by decide +kernel, rfl, by decide⟩
theorem eX10_odds_98 : DD cX10_odds 98 (.lconst 1) 1 99 := ⟨by decide +kernel, rfl⟩
theorem eX10_odds_99 : DD cX10_odds 99 (.lreturn) 1 100 := ⟨by decide +kernel, rfl⟩
theorem eX10_odds_100 : DD cX10_odds 100 (.lconst 1) 1 101 := ⟨by decide +kernel, rfl⟩
theorem eX10_odds_101 : DD cX10_odds 101 (.lstore 8) 2 103 := ⟨by decide +kernel, rfl⟩
theorem eX10_odds_103 : DD cX10_odds 103 (.lconst 1) 1 104 := ⟨by decide +kernel, rfl⟩
theorem eX10_odds_104 : DD cX10_odds 104 (.lstore 10) 2 106 := ⟨by decide +kernel, rfl⟩
theorem eX10_odds_106 : DD cX10_odds 106 (.iconst 0) 1 107 := ⟨by decide +kernel, rfl⟩
theorem eX10_odds_107 : DD cX10_odds 107 (.istore 12) 2 109 := ⟨by decide +kernel, rfl⟩
theorem eX10_odds_109 : DD cX10_odds 109 (.iload 12) 2 111 := ⟨by decide +kernel, rfl⟩
theorem eX10_odds_111 : DD cX10_odds 111 (.iload_n 3) 1 112 := ⟨by decide +kernel, rfl⟩
theorem eX10_odds_112 : DB cX10_odds 112 (.if_icmp .ge 34) (34) 115 146 := ⟨by decide +kernel, rfl, by decide⟩
theorem eX10_odds_115 : DD cX10_odds 115 (.lload 8) 2 117 := ⟨by decide +kernel, rfl⟩
theorem eX10_odds_117 : DD cX10_odds 117 (.lload 6) 2 119 := ⟨by decide +kernel, rfl⟩
theorem eX10_odds_119 : DD cX10_odds 119 (.iload 12) 2 121 := ⟨by decide +kernel, rfl⟩
theorem eX10_odds_121 : DD cX10_odds 121 (.i2l) 1 122 := ⟨by decide +kernel, rfl⟩
theorem eX10_odds_122 : DD cX10_odds 122 (.lsub) 1 123 := ⟨by decide +kernel, rfl⟩
theorem eX10_odds_123 : DD cX10_odds 123 (.lmul) 1 124 := ⟨by decide +kernel, rfl⟩
theorem eX10_odds_124 : DD cX10_odds 124 (.lstore 8) 2 126 := ⟨by decide +kernel, rfl⟩
theorem eX10_odds_126 : DD cX10_odds 126 (.lload 10) 2 128 := ⟨by decide +kernel, rfl⟩
theorem eX10_odds_128 : DD cX10_odds 128 (.aload 5) 2 130 := ⟨by decide +kernel, rfl⟩
theorem eX10_odds_130 : DD cX10_odds 130 (.getfield 152) 3 133 := ⟨by decide +kernel, rfl⟩
theorem eX10_odds_133 : DD cX10_odds 133 (.iload 12) 2 135 := ⟨by decide +kernel, rfl⟩
theorem eX10_odds_135 : DD cX10_odds 135 (.isub) 1 136 := ⟨by decide +kernel, rfl⟩
theorem eX10_odds_136 : DD cX10_odds 136 (.i2l) 1 137 := ⟨by decide +kernel, rfl⟩
theorem eX10_odds_137 : DD cX10_odds 137 (.lmul) 1 138 := ⟨by decide +kernel, rfl⟩
theorem eX10_odds_138 : DD cX10_odds 138 (.lstore 10) 2 140 := ⟨by decide +kernel, rfl⟩
theorem eX10_odds_140 : DD cX10_odds 140 (.iinc 12 1) 3 143 := ⟨by decide +kernel, rfl⟩
theorem eX10_odds_143 : DB cX10_odds 143 (.goto (-34)) (-34) 146 109 := ⟨by decide +kernel, rfl, by decide⟩
theorem eX10_odds_146 : DD cX10_odds 146 (.lload 8) 2 148 := ⟨by decide +kernel, rfl⟩
theorem eX10_odds_148 : DD cX10_odds 148 (.lload 10) 2 150 := ⟨by decide +kernel, rfl⟩
theorem eX10_odds_150 : DD cX10_odds 150 (.invokestatic 368) 3 153 := ⟨by decide +kernel, rfl⟩
theorem eX10_odds_153 : DD cX10_odds 153 (.lstore 12) 2 155 := ⟨by decide +kernel, rfl⟩
theorem eX10_odds_155 : DD cX10_odds 155 (.iload 4) 2 157 := ⟨by decide +kernel, rfl⟩
theorem eX10_odds_157 : DB cX10_odds 157 (.ifCond .ne 8) (8) 160 165 := ⟨by decide +kernel, rfl, by decide⟩
theorem eX10_odds_160 : DD cX10_odds 160 (.lload 8) 2 162 := ⟨by decide +kernel, rfl⟩
theorem eX10_odds_162 : DB cX10_odds 162 (.goto 5) (5) 165 167 := ⟨by decide +kernel, rfl, by decide⟩
theorem eX10_odds_165 : DD cX10_odds 165 (.lload 10) 2 167 := ⟨by decide +kernel, rfl⟩
theorem eX10_odds_167 : DD cX10_odds 167 (.lload 12) 2 169 := ⟨by decide +kernel, rfl⟩
theorem eX10_odds_169 : DD cX10_odds 169 (.ldiv) 1 170 := ⟨by decide +kernel, rfl⟩
theorem eX10_odds_170 : DD cX10_odds 170 (.lreturn) 1 171 := ⟨by decide +kernel, rfl⟩
def F_X10_odds_167 (l12 : Int64) (ls0 : Int64) (μ : Mem) : Option (Int64 × Mem) :=
  gq (decide (¬ l12 = 0)) (some (ls0 / l12, μ))
set_option maxHeartbeats 4000000 in
theorem j_X10_odds_167 {C : Cx} (hC : Ok C cX10_odds 14 RX10 (rmF 3 74)) (hr : (cT C).sig.returnType = (some .long)) (l12 : Int64) (ls0 : Int64) (μ : Mem) : J C (KL C) μ 167 [(12, .long l12)] [.long ls0] (F_X10_odds_167  l12 ls0 μ) := by
  unfold F_X10_odds_167
  refine J.lload (j := 0) hC eX10_odds_167 rfl ?_
  refine J.ldiv hC eX10_odds_169 ?_
  exact J.lret hC hr eX10_odds_170
def L_X10_odds_109 : Nat → Int32 → Int32 → Nat → Int64 → Int64 → Int64 → Int32 → Mem → Option (Int64 × Mem)
  | 0, _, _, _, _, _, _, _, _ => none
  | n + 1, x3, x4, p5, l6, l8, l10, x12, μ => if x3 ≤ x12 then bd (G_X10_commonDivisor l8 l10 μ) (fun r_2 μ_1 => if x4 = 0 then F_X10_odds_167  r_2 l8 μ_1 else F_X10_odds_167  r_2 l10 μ_1) else lb (l8 * (l6 - x12.toInt64)) (fun l8_3 => lb (l10 * (((rI μ p5 3) - x12).toInt64)) (fun l10_4 => lb (x12 + (1 : Int32)) (fun x12_5 => L_X10_odds_109  n x3 x4 p5 l6 l8_3 l10_4 x12_5 μ)))
set_option maxHeartbeats 4000000 in
theorem j_X10_odds_109 {C : Cx} (hC : Ok C cX10_odds 14 RX10 (rmF 3 74)) (hr : (cT C).sig.returnType = (some .long)) : ∀ (n : Nat) (x3 : Int32) (x4 : Int32) (p5 : Nat) (h5 : kd p5 = 7) (l6 : Int64) (l8 : Int64) (l10 : Int64) (x12 : Int32) (μ : Mem), J C (KL C) μ 109 [(3, .int x3), (4, .int x4), (5, .ref (xad (cX C) p5)), (6, .long l6), (8, .long l8), (10, .long l10), (12, .int x12)] [] (L_X10_odds_109  n x3 x4 p5 l6 l8 l10 x12 μ) := by
  intro n
  induction n with
  | zero => intros; exact J.no
  | succ n ih =>
    intro x3 x4 p5 h5 l6 l8 l10 x12 μ
    rw [L_X10_odds_109]
    refine J.iload (j := 6) hC eX10_odds_109 rfl ?_
    refine J.iload_n (j := 0) hC eX10_odds_111 rfl ?_
    refine J.icmp_ge hC eX10_odds_112 (fun _ => ?_) (fun _ => ?_)
    · refine J.lload (j := 4) hC eX10_odds_146 rfl ?_
      refine J.lload (j := 5) hC eX10_odds_148 rfl ?_
      refine J.callSL (st := []) hC eX10_odds_150 ml_X10_368 mv_X10_commonDivisor (Rle_of (Nat.le_of_ble_eq_true rfl) (Nat.le_of_ble_eq_true rfl)) (c_X10_commonDivisor hC.X l8 l10 μ) rfl rfl (Nat.le_of_ble_eq_true rfl) (fun r_2 μ_1 => ?_)
      refine J.lstore [(12, .long r_2), (3, .int x3), (4, .int x4), (5, .ref (xad (cX C) p5)), (6, .long l6), (8, .long l8), (10, .long l10)] hC eX10_odds_153 (by decide) rfl ?_
      refine J.iload (j := 2) hC eX10_odds_155 rfl ?_
      refine J.if_ne hC eX10_odds_157 (fun _ => ?_) (fun _ => ?_)
      · refine J.lload (j := 5) hC eX10_odds_160 rfl ?_
        refine J.goto hC eX10_odds_162 ?_
        refine J.sub [0] rfl ?_
        exact j_X10_odds_167 hC hr  r_2 l8 μ_1
      · refine J.lload (j := 6) hC eX10_odds_165 rfl ?_
        refine J.sub [0] rfl ?_
        exact j_X10_odds_167 hC hr  r_2 l10 μ_1
    · refine J.lload (j := 4) hC eX10_odds_115 rfl ?_
      refine J.lload (j := 3) hC eX10_odds_117 rfl ?_
      refine J.iload (j := 6) hC eX10_odds_119 rfl ?_
      refine J.i2l hC eX10_odds_121 ?_
      refine J.lsub hC eX10_odds_122 ?_
      refine J.lmul hC eX10_odds_123 ?_
      refine J.topl (fun l8_3 => ?_)
      refine J.lstore [(8, .long l8_3), (3, .int x3), (4, .int x4), (5, .ref (xad (cX C) p5)), (6, .long l6), (10, .long l10), (12, .int x12)] hC eX10_odds_124 (by decide) rfl ?_
      refine J.lload (j := 5) hC eX10_odds_126 rfl ?_
      refine J.aload (j := 3) hC eX10_odds_128 rfl ?_
      refine gf_X10_152 hC eX10_odds_130 h5 ?_
      refine J.iload (j := 6) hC eX10_odds_133 rfl ?_
      refine J.isub hC eX10_odds_135 ?_
      refine J.i2l hC eX10_odds_136 ?_
      refine J.lmul hC eX10_odds_137 ?_
      refine J.topl (fun l10_4 => ?_)
      refine J.lstore [(10, .long l10_4), (8, .long l8_3), (3, .int x3), (4, .int x4), (5, .ref (xad (cX C) p5)), (6, .long l6), (12, .int x12)] hC eX10_odds_138 (by decide) rfl ?_
      refine J.iinc (j := 6) (fun x12_5 => [(12, .int x12_5), (10, .long l10_4), (8, .long l8_3), (3, .int x3), (4, .int x4), (5, .ref (xad (cX C) p5)), (6, .long l6)]) hC eX10_odds_140 rfl ci_1 (by decide) (fun _ => rfl) (fun x12_5 => ?_)
      refine J.goto hC eX10_odds_143 ?_
      refine J.sub [3, 4, 5, 6, 2, 1, 0] rfl ?_
      exact ih x3 x4 p5 h5 l6 l8_3 l10_4 x12_5 μ
def G_X10_odds (x1 : Int32) (x2 : Int32) (x3 : Int32) (x4 : Int32) (μ : Mem) : Option (Int64 × Mem) :=
  bd (G_X10_hasTable x1 μ) (fun r_2 μ_1 => if r_2 = 0 then some ((-1 : Int64), μ_1) else bd (G_X10_hasWhere x2 μ_1) (fun r_4 μ_3 => if r_4 = 0 then some ((-1 : Int64), μ_3) else if x3 < (1 : Int32) then some ((-1 : Int64), μ_3) else if (4 : Int32) < x3 then some ((-1 : Int64), μ_3) else if x4 < 0 then some ((-1 : Int64), μ_3) else if x4 ≤ (1 : Int32) then gq (inB x1 3) (if x3 ≤ (rI μ_3 (shP 8 x1) 3) then gq (inB x2 5) (bd (G_X7_rowsHeldBy (shP 8 x1) (whP 38 x2) (289 : Int32) μ_3) (fun r_8 μ_7 => if 0 ≤ (lg_cmp r_8 x3.toInt64) then L_X10_odds_109  100000 x3 x4 (shP 8 x1) r_8 (1 : Int64) (1 : Int64) (0 : Int32) μ_7 else if x4 = 0 then some ((0 : Int64), μ_7) else some ((1 : Int64), μ_7))) else some ((-1 : Int64), μ_3)) else some ((-1 : Int64), μ_3)))
set_option maxHeartbeats 4000000 in
theorem c_X10_odds {X : Wd} (hX : WdOk X) (x1 : Int32) (x2 : Int32) (x3 : Int32) (x4 : Int32) (μ : Mem) : CtL X yX10_odds cX10_odds 14 (some .long) (rmF 3 74) [.ref (xad X 0), .int x1, .int x2, .int x3, .int x4] μ (G_X10_odds x1 x2 x3 x4 μ) := by
  refine CtL.of hX (plainFor_of_name (by decide)) (by exact Nat.le_of_ble_eq_true rfl) ?_
  intro C hCX hC hr
  subst hCX
  show J C (KL C) μ 0 [(0, .ref (xad (cX C) 0)), (1, .int x1), (2, .int x2), (3, .int x3), (4, .int x4)] [] _
  unfold G_X10_odds
  refine J.aload_n (j := 0) hC eX10_odds_0 rfl ?_
  refine J.iload_n (j := 1) hC eX10_odds_1 rfl ?_
  refine J.callVI (st := []) hC eX10_odds_2 kk_0 (by decide) rfl rfl ml_X10_132 mv_X10_hasTable (Rle_of (Nat.le_of_ble_eq_true rfl) (Nat.le_of_ble_eq_true rfl)) (c_X10_hasTable hC.X x1 μ) rfl rfl (Nat.le_of_ble_eq_true rfl) (fun r_2 μ_1 => ?_)
  refine J.if_eq hC eX10_odds_5 (fun _ => ?_) (fun _ => ?_)
  · refine J.ldc2 hC eX10_odds_37 mk_X10_207 ?_
    exact J.lret hC hr eX10_odds_40
  · refine J.aload_n (j := 0) hC eX10_odds_8 rfl ?_
    refine J.iload_n (j := 2) hC eX10_odds_9 rfl ?_
    refine J.callVI (st := []) hC eX10_odds_10 kk_0 (by decide) rfl rfl ml_X10_301 mv_X10_hasWhere (Rle_of (Nat.le_of_ble_eq_true rfl) (Nat.le_of_ble_eq_true rfl)) (c_X10_hasWhere hC.X x2 μ_1) rfl rfl (Nat.le_of_ble_eq_true rfl) (fun r_4 μ_3 => ?_)
    refine J.if_eq hC eX10_odds_13 (fun _ => ?_) (fun _ => ?_)
    · refine J.ldc2 hC eX10_odds_37 mk_X10_207 ?_
      exact J.lret hC hr eX10_odds_40
    · refine J.iload_n (j := 3) hC eX10_odds_16 rfl ?_
      refine J.iconst hC eX10_odds_17 ci_1 ?_
      refine J.icmp_lt hC eX10_odds_18 (fun _ => ?_) (fun _ => ?_)
      · refine J.ldc2 hC eX10_odds_37 mk_X10_207 ?_
        exact J.lret hC hr eX10_odds_40
      · refine J.iload_n (j := 3) hC eX10_odds_21 rfl ?_
        refine J.iconst hC eX10_odds_22 ci_4 ?_
        refine J.icmp_gt hC eX10_odds_23 (fun _ => ?_) (fun _ => ?_)
        · refine J.ldc2 hC eX10_odds_37 mk_X10_207 ?_
          exact J.lret hC hr eX10_odds_40
        · refine J.iload (j := 4) hC eX10_odds_26 rfl ?_
          refine J.if_lt hC eX10_odds_28 (fun _ => ?_) (fun _ => ?_)
          · refine J.ldc2 hC eX10_odds_37 mk_X10_207 ?_
            exact J.lret hC hr eX10_odds_40
          · refine J.iload (j := 4) hC eX10_odds_31 rfl ?_
            refine J.iconst hC eX10_odds_33 ci_1 ?_
            refine J.icmp_le hC eX10_odds_34 (fun _ => ?_) (fun _ => ?_)
            · refine J.aload_n (j := 0) hC eX10_odds_41 rfl ?_
              refine gf_X10_26 (q := 7) hC eX10_odds_42 kk_0 rfl ?_
              refine gf_X10_143 (q := 8) hC eX10_odds_45 kk_7 rfl ?_
              refine J.iload_n (j := 1) hC eX10_odds_48 rfl ?_
              refine J.aaldS hC eX10_odds_49 kk_8 (fun hq_5 => ?_)
              refine J.astore [(5, .ref (xad (cX C) (shP 8 x1))), (0, .ref (xad (cX C) 0)), (1, .int x1), (2, .int x2), (3, .int x3), (4, .int x4)] hC eX10_odds_50 (by decide) rfl ?_
              refine J.aload (j := 0) hC eX10_odds_52 rfl ?_
              refine gf_X10_152 hC eX10_odds_54 hq_5 ?_
              refine J.iload_n (j := 4) hC eX10_odds_57 rfl ?_
              refine J.icmp_ge hC eX10_odds_58 (fun _ => ?_) (fun _ => ?_)
              · refine J.aload (j := 0) hC eX10_odds_65 rfl ?_
                refine J.aload_n (j := 1) hC eX10_odds_67 rfl ?_
                refine gf_X10_32 (q := 38) hC eX10_odds_68 kk_0 rfl ?_
                refine J.iload_n (j := 3) hC eX10_odds_71 rfl ?_
                refine J.aaldW hC eX10_odds_72 kk_38 (fun hq_6 => ?_)
                refine J.sipush hC eX10_odds_73 cs_289 ?_
                refine J.callVL (st := []) hC eX10_odds_76 hq_5 (by decide) rfl rfl ml_X10_310 mv_X7_rowsHeldBy (Rle_of (Nat.le_of_ble_eq_true rfl) (Nat.le_of_ble_eq_true rfl)) (c_X7_rowsHeldBy hC.X (shP 8 x1) hq_5 (whP 38 x2) hq_6 (289 : Int32) μ_3) rfl rfl (Nat.le_of_ble_eq_true rfl) (fun r_8 μ_7 => ?_)
                refine J.lstore [(6, .long r_8), (5, .ref (xad (cX C) (shP 8 x1))), (0, .ref (xad (cX C) 0)), (1, .int x1), (2, .int x2), (3, .int x3), (4, .int x4)] hC eX10_odds_79 (by decide) rfl ?_
                refine J.lload (j := 0) hC eX10_odds_81 rfl ?_
                refine J.iload_n (j := 5) hC eX10_odds_83 rfl ?_
                refine J.i2l hC eX10_odds_84 ?_
                refine J.lcmp hC eX10_odds_85 ?_
                refine J.if_ge hC eX10_odds_86 (fun _ => ?_) (fun _ => ?_)
                · refine J.lconst hC eX10_odds_100 cl_1 ?_
                  refine J.lstore [(8, .long (1 : Int64)), (6, .long r_8), (5, .ref (xad (cX C) (shP 8 x1))), (0, .ref (xad (cX C) 0)), (1, .int x1), (2, .int x2), (3, .int x3), (4, .int x4)] hC eX10_odds_101 (by decide) rfl ?_
                  refine J.lconst hC eX10_odds_103 cl_1 ?_
                  refine J.lstore [(10, .long (1 : Int64)), (8, .long (1 : Int64)), (6, .long r_8), (5, .ref (xad (cX C) (shP 8 x1))), (0, .ref (xad (cX C) 0)), (1, .int x1), (2, .int x2), (3, .int x3), (4, .int x4)] hC eX10_odds_104 (by decide) rfl ?_
                  refine J.iconst hC eX10_odds_106 ci_0 ?_
                  refine J.istore [(12, .int (0 : Int32)), (10, .long (1 : Int64)), (8, .long (1 : Int64)), (6, .long r_8), (5, .ref (xad (cX C) (shP 8 x1))), (0, .ref (xad (cX C) 0)), (1, .int x1), (2, .int x2), (3, .int x3), (4, .int x4)] hC eX10_odds_107 (by decide) rfl ?_
                  refine J.sub [8, 9, 4, 3, 2, 1, 0] rfl ?_
                  exact j_X10_odds_109 hC hr  100000 x3 x4 (shP 8 x1) hq_5 r_8 (1 : Int64) (1 : Int64) (0 : Int32) μ_7
                · refine J.iload (j := 6) hC eX10_odds_89 rfl ?_
                  refine J.if_ne hC eX10_odds_91 (fun _ => ?_) (fun _ => ?_)
                  · refine J.lconst hC eX10_odds_94 cl_0 ?_
                    refine J.goto hC eX10_odds_95 ?_
                    exact J.lret hC hr eX10_odds_99
                  · refine J.lconst hC eX10_odds_98 cl_1 ?_
                    exact J.lret hC hr eX10_odds_99
              · refine J.ldc2 hC eX10_odds_61 mk_X10_207 ?_
                exact J.lret hC hr eX10_odds_64
            · refine J.ldc2 hC eX10_odds_37 mk_X10_207 ?_
              exact J.lret hC hr eX10_odds_40
-- X10_unit
theorem eX10_unit_0 : DD cX10_unit 0 (.aload_n 0) 1 1 := ⟨by decide +kernel, rfl⟩
theorem eX10_unit_1 : DD cX10_unit 1 (.iload_n 1) 1 2 := ⟨by decide +kernel, rfl⟩
theorem eX10_unit_2 : DD cX10_unit 2 (.invokevirtual 301) 3 5 := ⟨by decide +kernel, rfl⟩
theorem eX10_unit_5 : DB cX10_unit 5 (.ifCond .eq 20) (20) 8 25 := ⟨by decide +kernel, rfl, by decide⟩
theorem eX10_unit_8 : DD cX10_unit 8 (.iload_n 2) 1 9 := ⟨by decide +kernel, rfl⟩
theorem eX10_unit_9 : DB cX10_unit 9 (.ifCond .lt 16) (16) 12 25 := ⟨by decide +kernel, rfl, by decide⟩
theorem eX10_unit_12 : DD cX10_unit 12 (.iload_n 2) 1 13 := ⟨by decide +kernel, rfl⟩
theorem eX10_unit_13 : DD cX10_unit 13 (.aload_n 0) 1 14 := ⟨by decide +kernel, rfl⟩
theorem eX10_unit_14 : DD cX10_unit 14 (.getfield 32) 3 17 := ⟨by decide +kernel, rfl⟩
theorem eX10_unit_17 : DD cX10_unit 17 (.iload_n 1) 1 18 := ⟨by decide +kernel, rfl⟩
theorem eX10_unit_18 : DD cX10_unit 18 (.aaload) 1 19 := ⟨by decide +kernel, rfl⟩
theorem eX10_unit_19 : DD cX10_unit 19 (.getfield 372) 3 22 := ⟨by decide +kernel, rfl⟩
theorem eX10_unit_22 : DB cX10_unit 22 (.if_icmp .lt 6) (6) 25 28 := ⟨by decide +kernel, rfl, by decide⟩
theorem eX10_unit_25 : DD cX10_unit 25 (.ldc 178) 2 27 := ⟨by decide +kernel, rfl⟩
theorem eX10_unit_27 : DD cX10_unit 27 (.ireturn) 1 28 := ⟨by decide +kernel, rfl⟩
theorem eX10_unit_28 : DD cX10_unit 28 (.aload_n 0) 1 29 := ⟨by decide +kernel, rfl⟩
theorem eX10_unit_29 : DD cX10_unit 29 (.getfield 32) 3 32 := ⟨by decide +kernel, rfl⟩
theorem eX10_unit_32 : DD cX10_unit 32 (.iload_n 1) 1 33 := ⟨by decide +kernel, rfl⟩
theorem eX10_unit_33 : DD cX10_unit 33 (.aaload) 1 34 := ⟨by decide +kernel, rfl⟩
theorem eX10_unit_34 : DD cX10_unit 34 (.astore 4) 2 36 := ⟨by decide +kernel, rfl⟩
theorem eX10_unit_36 : DD cX10_unit 36 (.iload_n 3) 1 37 := ⟨by decide +kernel, rfl⟩
theorem eX10_unit_37 : decode cX10_unit 37 = .ok (.tableswitch 63 0 3 #[31, 39, 47, 55], 31) := by decide +kernel
theorem eX10_unit_68 : DD cX10_unit 68 (.aload 4) 2 70 := ⟨by decide +kernel, rfl⟩
theorem eX10_unit_70 : DD cX10_unit 70 (.getfield 373) 3 73 := ⟨by decide +kernel, rfl⟩
theorem eX10_unit_73 : DD cX10_unit 73 (.iload_n 2) 1 74 := ⟨by decide +kernel, rfl⟩
theorem eX10_unit_74 : DD cX10_unit 74 (.iaload) 1 75 := ⟨by decide +kernel, rfl⟩
theorem eX10_unit_75 : DD cX10_unit 75 (.ireturn) 1 76 := ⟨by decide +kernel, rfl⟩
theorem eX10_unit_76 : DD cX10_unit 76 (.aload 4) 2 78 := ⟨by decide +kernel, rfl⟩
theorem eX10_unit_78 : DD cX10_unit 78 (.getfield 376) 3 81 := ⟨by decide +kernel, rfl⟩
theorem eX10_unit_81 : DD cX10_unit 81 (.iload_n 2) 1 82 := ⟨by decide +kernel, rfl⟩
theorem eX10_unit_82 : DD cX10_unit 82 (.iaload) 1 83 := ⟨by decide +kernel, rfl⟩
theorem eX10_unit_83 : DD cX10_unit 83 (.ireturn) 1 84 := ⟨by decide +kernel, rfl⟩
theorem eX10_unit_84 : DD cX10_unit 84 (.aload 4) 2 86 := ⟨by decide +kernel, rfl⟩
theorem eX10_unit_86 : DD cX10_unit 86 (.getfield 379) 3 89 := ⟨by decide +kernel, rfl⟩
theorem eX10_unit_89 : DD cX10_unit 89 (.iload_n 2) 1 90 := ⟨by decide +kernel, rfl⟩
theorem eX10_unit_90 : DD cX10_unit 90 (.iaload) 1 91 := ⟨by decide +kernel, rfl⟩
theorem eX10_unit_91 : DD cX10_unit 91 (.ireturn) 1 92 := ⟨by decide +kernel, rfl⟩
theorem eX10_unit_92 : DD cX10_unit 92 (.aload 4) 2 94 := ⟨by decide +kernel, rfl⟩
theorem eX10_unit_94 : DD cX10_unit 94 (.getfield 382) 3 97 := ⟨by decide +kernel, rfl⟩
theorem eX10_unit_97 : DD cX10_unit 97 (.iload_n 2) 1 98 := ⟨by decide +kernel, rfl⟩
theorem eX10_unit_98 : DD cX10_unit 98 (.iaload) 1 99 := ⟨by decide +kernel, rfl⟩
theorem eX10_unit_99 : DD cX10_unit 99 (.ireturn) 1 100 := ⟨by decide +kernel, rfl⟩
theorem eX10_unit_100 : DD cX10_unit 100 (.ldc 178) 2 102 := ⟨by decide +kernel, rfl⟩
theorem eX10_unit_102 : DD cX10_unit 102 (.ireturn) 1 103 := ⟨by decide +kernel, rfl⟩
def G_X10_unit (x1 : Int32) (x2 : Int32) (x3 : Int32) (μ : Mem) : Option (Int32 × Mem) :=
  bd (G_X10_hasWhere x1 μ) (fun r_2 μ_1 => if r_2 = 0 then some ((-1000000 : Int32), μ_1) else if x2 < 0 then some ((-1000000 : Int32), μ_1) else gq (inB x1 5) (if x2 < (rI μ_1 (whP 38 x1) 4) then gq (inB x1 5) (if x3 = (0 : Int32) then gq (inB x2 6) (some (rI μ_1 ((whP 38 x1) + 1) (nx x2), μ_1)) else (if x3 = (1 : Int32) then gq (inB x2 6) (some (rI μ_1 ((whP 38 x1) + 2) (nx x2), μ_1)) else (if x3 = (2 : Int32) then gq (inB x2 6) (some (rI μ_1 ((whP 38 x1) + 3) (nx x2), μ_1)) else (if x3 = (3 : Int32) then gq (inB x2 6) (some (rI μ_1 ((whP 38 x1) + 4) (nx x2), μ_1)) else (some ((-1000000 : Int32), μ_1)))))) else some ((-1000000 : Int32), μ_1)))
set_option maxHeartbeats 4000000 in
theorem c_X10_unit {X : Wd} (hX : WdOk X) (x1 : Int32) (x2 : Int32) (x3 : Int32) (μ : Mem) : CtI X yX10_unit cX10_unit 5 (some .int) (rmF 1 21) [.ref (xad X 0), .int x1, .int x2, .int x3] μ (G_X10_unit x1 x2 x3 μ) := by
  refine CtI.of hX (plainFor_of_name (by decide)) (by exact Nat.le_of_ble_eq_true rfl) ?_
  intro C hCX hC hr
  subst hCX
  show J C (KI C) μ 0 [(0, .ref (xad (cX C) 0)), (1, .int x1), (2, .int x2), (3, .int x3)] [] _
  unfold G_X10_unit
  refine J.aload_n (j := 0) hC eX10_unit_0 rfl ?_
  refine J.iload_n (j := 1) hC eX10_unit_1 rfl ?_
  refine J.callVI (st := []) hC eX10_unit_2 kk_0 (by decide) rfl rfl ml_X10_301 mv_X10_hasWhere (Rle_of (Nat.le_of_ble_eq_true rfl) (Nat.le_of_ble_eq_true rfl)) (c_X10_hasWhere hC.X x1 μ) rfl rfl (Nat.le_of_ble_eq_true rfl) (fun r_2 μ_1 => ?_)
  refine J.if_eq hC eX10_unit_5 (fun _ => ?_) (fun _ => ?_)
  · refine J.ldc hC eX10_unit_25 mk_X10_178 ?_
    exact J.iret hC hr eX10_unit_27
  · refine J.iload_n (j := 2) hC eX10_unit_8 rfl ?_
    refine J.if_lt hC eX10_unit_9 (fun _ => ?_) (fun _ => ?_)
    · refine J.ldc hC eX10_unit_25 mk_X10_178 ?_
      exact J.iret hC hr eX10_unit_27
    · refine J.iload_n (j := 2) hC eX10_unit_12 rfl ?_
      refine J.aload_n (j := 0) hC eX10_unit_13 rfl ?_
      refine gf_X10_32 (q := 38) hC eX10_unit_14 kk_0 rfl ?_
      refine J.iload_n (j := 1) hC eX10_unit_17 rfl ?_
      refine J.aaldW hC eX10_unit_18 kk_38 (fun hq_3 => ?_)
      refine gf_X10_372 hC eX10_unit_19 hq_3 ?_
      refine J.icmp_lt hC eX10_unit_22 (fun _ => ?_) (fun _ => ?_)
      · refine J.aload_n (j := 0) hC eX10_unit_28 rfl ?_
        refine gf_X10_32 (q := 38) hC eX10_unit_29 kk_0 rfl ?_
        refine J.iload_n (j := 1) hC eX10_unit_32 rfl ?_
        refine J.aaldW hC eX10_unit_33 kk_38 (fun hq_4 => ?_)
        refine J.astore [(4, .ref (xad (cX C) (whP 38 x1))), (0, .ref (xad (cX C) 0)), (1, .int x1), (2, .int x2), (3, .int x3)] hC eX10_unit_34 (by decide) rfl ?_
        refine J.iload_n (j := 4) hC eX10_unit_36 rfl ?_
        refine J.ite (fun h_5 => ?_) (fun h_5 => ?_)
        · refine J.tsI (off := 31) (tgt := 68) hC eX10_unit_37 (by rw [h_5]; decide) (by rw [h_5]; decide) (by rw [h_5]; rfl) (by decide) ?_
          refine J.aload (j := 0) hC eX10_unit_68 rfl ?_
          refine gf_X10_373 (q := (whP 38 x1) + 1) hC eX10_unit_70 hq_4 rfl ?_
          refine J.iload_n (j := 3) hC eX10_unit_73 rfl ?_
          refine J.iald ik_6 hC eX10_unit_74 (kf_X9_terms hq_4) ?_
          exact J.iret hC hr eX10_unit_75
        refine J.ite (fun h_6 => ?_) (fun h_6 => ?_)
        · refine J.tsI (off := 39) (tgt := 76) hC eX10_unit_37 (by rw [h_6]; decide) (by rw [h_6]; decide) (by rw [h_6]; rfl) (by decide) ?_
          refine J.aload (j := 0) hC eX10_unit_76 rfl ?_
          refine gf_X10_376 (q := (whP 38 x1) + 2) hC eX10_unit_78 hq_4 rfl ?_
          refine J.iload_n (j := 3) hC eX10_unit_81 rfl ?_
          refine J.iald ik_6 hC eX10_unit_82 (kf_X9_columns hq_4) ?_
          exact J.iret hC hr eX10_unit_83
        refine J.ite (fun h_7 => ?_) (fun h_7 => ?_)
        · refine J.tsI (off := 47) (tgt := 84) hC eX10_unit_37 (by rw [h_7]; decide) (by rw [h_7]; decide) (by rw [h_7]; rfl) (by decide) ?_
          refine J.aload (j := 0) hC eX10_unit_84 rfl ?_
          refine gf_X10_379 (q := (whP 38 x1) + 3) hC eX10_unit_86 hq_4 rfl ?_
          refine J.iload_n (j := 3) hC eX10_unit_89 rfl ?_
          refine J.iald ik_6 hC eX10_unit_90 (kf_X9_signs hq_4) ?_
          exact J.iret hC hr eX10_unit_91
        refine J.ite (fun h_8 => ?_) (fun h_8 => ?_)
        · refine J.tsI (off := 55) (tgt := 92) hC eX10_unit_37 (by rw [h_8]; decide) (by rw [h_8]; decide) (by rw [h_8]; rfl) (by decide) ?_
          refine J.aload (j := 0) hC eX10_unit_92 rfl ?_
          refine gf_X10_382 (q := (whP 38 x1) + 4) hC eX10_unit_94 hq_4 rfl ?_
          refine J.iload_n (j := 3) hC eX10_unit_97 rfl ?_
          refine J.iald ik_6 hC eX10_unit_98 (kf_X9_numbers hq_4) ?_
          exact J.iret hC hr eX10_unit_99
        refine J.tsO (tgt := 100) hC eX10_unit_37 (by have th_5 := lv_neT h_5 (show ((0 : Int32)).toInt = 0 from rfl); have th_6 := lv_neT h_6 (show ((1 : Int32)).toInt = 1 from rfl); have th_7 := lv_neT h_7 (show ((2 : Int32)).toInt = 2 from rfl); have th_8 := lv_neT h_8 (show ((3 : Int32)).toInt = 3 from rfl); omega) (by decide) ?_
        refine J.ldc hC eX10_unit_100 mk_X10_178 ?_
        exact J.iret hC hr eX10_unit_102
      · refine J.ldc hC eX10_unit_25 mk_X10_178 ?_
        exact J.iret hC hr eX10_unit_27
-- X10_shares
theorem eX10_shares_0 : DD cX10_shares 0 (.aload_n 0) 1 1 := ⟨by decide +kernel, rfl⟩
theorem eX10_shares_1 : DD cX10_shares 1 (.iload_n 1) 1 2 := ⟨by decide +kernel, rfl⟩
theorem eX10_shares_2 : DD cX10_shares 2 (.invokevirtual 132) 3 5 := ⟨by decide +kernel, rfl⟩
theorem eX10_shares_5 : DB cX10_shares 5 (.ifCond .eq 14) (14) 8 19 := ⟨by decide +kernel, rfl, by decide⟩
theorem eX10_shares_8 : DD cX10_shares 8 (.iload_n 2) 1 9 := ⟨by decide +kernel, rfl⟩
theorem eX10_shares_9 : DB cX10_shares 9 (.ifCond .lt 10) (10) 12 19 := ⟨by decide +kernel, rfl, by decide⟩
theorem eX10_shares_12 : DD cX10_shares 12 (.iload_n 2) 1 13 := ⟨by decide +kernel, rfl⟩
theorem eX10_shares_13 : DD cX10_shares 13 (.sipush 999) 3 16 := ⟨by decide +kernel, rfl⟩
theorem eX10_shares_16 : DB cX10_shares 16 (.if_icmp .le 5) (5) 19 21 := ⟨by decide +kernel, rfl, by decide⟩
theorem eX10_shares_19 : DD cX10_shares 19 (.iconst (-1)) 1 20 := ⟨by decide +kernel, rfl⟩
theorem eX10_shares_20 : DD cX10_shares 20 (.ireturn) 1 21 := ⟨by decide +kernel, rfl⟩
theorem eX10_shares_21 : DD cX10_shares 21 (.aload_n 0) 1 22 := ⟨by decide +kernel, rfl⟩
theorem eX10_shares_22 : DD cX10_shares 22 (.getfield 26) 3 25 := ⟨by decide +kernel, rfl⟩
theorem eX10_shares_25 : DD cX10_shares 25 (.invokevirtual 278) 3 28 := ⟨by decide +kernel, rfl⟩
theorem eX10_shares_28 : DD cX10_shares 28 (.istore_n 3) 1 29 := ⟨by decide +kernel, rfl⟩
theorem eX10_shares_29 : DD cX10_shares 29 (.iload_n 3) 1 30 := ⟨by decide +kernel, rfl⟩
theorem eX10_shares_30 : DB cX10_shares 30 (.ifCond .le 22) (22) 33 52 := ⟨by decide +kernel, rfl, by decide⟩
theorem eX10_shares_33 : DD cX10_shares 33 (.iload_n 2) 1 34 := ⟨by decide +kernel, rfl⟩
theorem eX10_shares_34 : DD cX10_shares 34 (.aload_n 0) 1 35 := ⟨by decide +kernel, rfl⟩
theorem eX10_shares_35 : DD cX10_shares 35 (.getfield 26) 3 38 := ⟨by decide +kernel, rfl⟩
theorem eX10_shares_38 : DD cX10_shares 38 (.getfield 143) 3 41 := ⟨by decide +kernel, rfl⟩
theorem eX10_shares_41 : DD cX10_shares 41 (.iload_n 1) 1 42 := ⟨by decide +kernel, rfl⟩
theorem eX10_shares_42 : DD cX10_shares 42 (.aaload) 1 43 := ⟨by decide +kernel, rfl⟩
theorem eX10_shares_43 : DD cX10_shares 43 (.getfield 152) 3 46 := ⟨by decide +kernel, rfl⟩
theorem eX10_shares_46 : DD cX10_shares 46 (.imul) 1 47 := ⟨by decide +kernel, rfl⟩
theorem eX10_shares_47 : DD cX10_shares 47 (.iload_n 3) 1 48 := ⟨by decide +kernel, rfl⟩
theorem eX10_shares_48 : DD cX10_shares 48 (.idiv) 1 49 := ⟨by decide +kernel, rfl⟩
theorem eX10_shares_49 : DB cX10_shares 49 (.goto 4) (4) 52 53 := ⟨by decide +kernel, rfl, by decide⟩
theorem eX10_shares_52 : DD cX10_shares 52 (.iconst 0) 1 53 := ⟨by decide +kernel, rfl⟩
theorem eX10_shares_53 : DD cX10_shares 53 (.ireturn) 1 54 := ⟨by decide +kernel, rfl⟩
def G_X10_shares (x1 : Int32) (x2 : Int32) (μ : Mem) : Option (Int32 × Mem) :=
  bd (G_X10_hasTable x1 μ) (fun r_2 μ_1 => if r_2 = 0 then some ((-1 : Int32), μ_1) else if x2 < 0 then some ((-1 : Int32), μ_1) else if x2 ≤ (999 : Int32) then bd (G_X0_allRows 7 μ_1) (fun r_4 μ_3 => if r_4 ≤ 0 then some ((0 : Int32), μ_3) else gq (inB x1 3) (gq (decide (¬ r_4 = 0)) (some ((x2 * (rI μ_3 (shP 8 x1) 3)) / r_4, μ_3)))) else some ((-1 : Int32), μ_1))
set_option maxHeartbeats 4000000 in
theorem c_X10_shares {X : Wd} (hX : WdOk X) (x1 : Int32) (x2 : Int32) (μ : Mem) : CtI X yX10_shares cX10_shares 4 (some .int) (rmF 1 22) [.ref (xad X 0), .int x1, .int x2] μ (G_X10_shares x1 x2 μ) := by
  refine CtI.of hX (plainFor_of_name (by decide)) (by exact Nat.le_of_ble_eq_true rfl) ?_
  intro C hCX hC hr
  subst hCX
  show J C (KI C) μ 0 [(0, .ref (xad (cX C) 0)), (1, .int x1), (2, .int x2)] [] _
  unfold G_X10_shares
  refine J.aload_n (j := 0) hC eX10_shares_0 rfl ?_
  refine J.iload_n (j := 1) hC eX10_shares_1 rfl ?_
  refine J.callVI (st := []) hC eX10_shares_2 kk_0 (by decide) rfl rfl ml_X10_132 mv_X10_hasTable (Rle_of (Nat.le_of_ble_eq_true rfl) (Nat.le_of_ble_eq_true rfl)) (c_X10_hasTable hC.X x1 μ) rfl rfl (Nat.le_of_ble_eq_true rfl) (fun r_2 μ_1 => ?_)
  refine J.if_eq hC eX10_shares_5 (fun _ => ?_) (fun _ => ?_)
  · refine J.iconst hC eX10_shares_19 ci_m1 ?_
    exact J.iret hC hr eX10_shares_20
  · refine J.iload_n (j := 2) hC eX10_shares_8 rfl ?_
    refine J.if_lt hC eX10_shares_9 (fun _ => ?_) (fun _ => ?_)
    · refine J.iconst hC eX10_shares_19 ci_m1 ?_
      exact J.iret hC hr eX10_shares_20
    · refine J.iload_n (j := 2) hC eX10_shares_12 rfl ?_
      refine J.sipush hC eX10_shares_13 cs_999 ?_
      refine J.icmp_le hC eX10_shares_16 (fun _ => ?_) (fun _ => ?_)
      · refine J.aload_n (j := 0) hC eX10_shares_21 rfl ?_
        refine gf_X10_26 (q := 7) hC eX10_shares_22 kk_0 rfl ?_
        refine J.callVI (st := []) hC eX10_shares_25 kk_7 (by decide) rfl rfl ml_X10_278 mv_X0_allRows (Rle_of (Nat.le_of_ble_eq_true rfl) (Nat.le_of_ble_eq_true rfl)) (c_X0_allRows hC.X 7 kk_7 μ_1) rfl rfl (Nat.le_of_ble_eq_true rfl) (fun r_4 μ_3 => ?_)
        refine J.istore_n [(3, .int r_4), (0, .ref (xad (cX C) 0)), (1, .int x1), (2, .int x2)] hC eX10_shares_28 (by decide) rfl ?_
        refine J.iload_n (j := 0) hC eX10_shares_29 rfl ?_
        refine J.if_le hC eX10_shares_30 (fun _ => ?_) (fun _ => ?_)
        · refine J.iconst hC eX10_shares_52 ci_0 ?_
          exact J.iret hC hr eX10_shares_53
        · refine J.iload_n (j := 3) hC eX10_shares_33 rfl ?_
          refine J.aload_n (j := 1) hC eX10_shares_34 rfl ?_
          refine gf_X10_26 (q := 7) hC eX10_shares_35 kk_0 rfl ?_
          refine gf_X10_143 (q := 8) hC eX10_shares_38 kk_7 rfl ?_
          refine J.iload_n (j := 2) hC eX10_shares_41 rfl ?_
          refine J.aaldS hC eX10_shares_42 kk_8 (fun hq_5 => ?_)
          refine gf_X10_152 hC eX10_shares_43 hq_5 ?_
          refine J.imul hC eX10_shares_46 ?_
          refine J.iload_n (j := 0) hC eX10_shares_47 rfl ?_
          refine J.idiv hC eX10_shares_48 ?_
          refine J.goto hC eX10_shares_49 ?_
          exact J.iret hC hr eX10_shares_53
      · refine J.iconst hC eX10_shares_19 ci_m1 ?_
        exact J.iret hC hr eX10_shares_20
-- X10_most
theorem eX10_most_0 : DD cX10_most 0 (.aload_n 0) 1 1 := ⟨by decide +kernel, rfl⟩
theorem eX10_most_1 : DD cX10_most 1 (.invokevirtual 119) 3 4 := ⟨by decide +kernel, rfl⟩
theorem eX10_most_4 : DB cX10_most 4 (.ifCond .ne 6) (6) 7 10 := ⟨by decide +kernel, rfl, by decide⟩
theorem eX10_most_7 : DD cX10_most 7 (.ldc 178) 2 9 := ⟨by decide +kernel, rfl⟩
theorem eX10_most_9 : DD cX10_most 9 (.ireturn) 1 10 := ⟨by decide +kernel, rfl⟩
theorem eX10_most_10 : DD cX10_most 10 (.iload_n 1) 1 11 := ⟨by decide +kernel, rfl⟩
theorem eX10_most_11 : decode cX10_most 11 = .ok (.tableswitch 85 0 5 #[37, 45, 53, 61, 69, 77], 37) := by decide +kernel
theorem eX10_most_48 : DD cX10_most 48 (.aload_n 0) 1 49 := ⟨by decide +kernel, rfl⟩
theorem eX10_most_49 : DD cX10_most 49 (.getfield 26) 3 52 := ⟨by decide +kernel, rfl⟩
theorem eX10_most_52 : DD cX10_most 52 (.invokevirtual 385) 3 55 := ⟨by decide +kernel, rfl⟩
theorem eX10_most_55 : DD cX10_most 55 (.ireturn) 1 56 := ⟨by decide +kernel, rfl⟩
theorem eX10_most_56 : DD cX10_most 56 (.aload_n 0) 1 57 := ⟨by decide +kernel, rfl⟩
theorem eX10_most_57 : DD cX10_most 57 (.getfield 26) 3 60 := ⟨by decide +kernel, rfl⟩
theorem eX10_most_60 : DD cX10_most 60 (.invokevirtual 388) 3 63 := ⟨by decide +kernel, rfl⟩
theorem eX10_most_63 : DD cX10_most 63 (.ireturn) 1 64 := ⟨by decide +kernel, rfl⟩
theorem eX10_most_64 : DD cX10_most 64 (.aload_n 0) 1 65 := ⟨by decide +kernel, rfl⟩
theorem eX10_most_65 : DD cX10_most 65 (.getfield 26) 3 68 := ⟨by decide +kernel, rfl⟩
theorem eX10_most_68 : DD cX10_most 68 (.invokevirtual 391) 3 71 := ⟨by decide +kernel, rfl⟩
theorem eX10_most_71 : DD cX10_most 71 (.ireturn) 1 72 := ⟨by decide +kernel, rfl⟩
theorem eX10_most_72 : DD cX10_most 72 (.aload_n 0) 1 73 := ⟨by decide +kernel, rfl⟩
theorem eX10_most_73 : DD cX10_most 73 (.getfield 26) 3 76 := ⟨by decide +kernel, rfl⟩
theorem eX10_most_76 : DD cX10_most 76 (.invokevirtual 394) 3 79 := ⟨by decide +kernel, rfl⟩
theorem eX10_most_79 : DD cX10_most 79 (.ireturn) 1 80 := ⟨by decide +kernel, rfl⟩
theorem eX10_most_80 : DD cX10_most 80 (.aload_n 0) 1 81 := ⟨by decide +kernel, rfl⟩
theorem eX10_most_81 : DD cX10_most 81 (.getfield 26) 3 84 := ⟨by decide +kernel, rfl⟩
theorem eX10_most_84 : DD cX10_most 84 (.invokevirtual 278) 3 87 := ⟨by decide +kernel, rfl⟩
theorem eX10_most_87 : DD cX10_most 87 (.ireturn) 1 88 := ⟨by decide +kernel, rfl⟩
theorem eX10_most_88 : DD cX10_most 88 (.aload_n 0) 1 89 := ⟨by decide +kernel, rfl⟩
theorem eX10_most_89 : DD cX10_most 89 (.getfield 26) 3 92 := ⟨by decide +kernel, rfl⟩
theorem eX10_most_92 : DD cX10_most 92 (.invokevirtual 397) 3 95 := ⟨by decide +kernel, rfl⟩
theorem eX10_most_95 : DD cX10_most 95 (.ireturn) 1 96 := ⟨by decide +kernel, rfl⟩
theorem eX10_most_96 : DD cX10_most 96 (.ldc 178) 2 98 := ⟨by decide +kernel, rfl⟩
theorem eX10_most_98 : DD cX10_most 98 (.ireturn) 1 99 := ⟨by decide +kernel, rfl⟩
def G_X10_most (x1 : Int32) (μ : Mem) : Option (Int32 × Mem) :=
  bd (G_X10_hasBook  μ) (fun r_2 μ_1 => if r_2 = 0 then some ((-1000000 : Int32), μ_1) else if x1 = (0 : Int32) then bd (G_X0_tableWithMostRows 7 μ_1) (fun r_5 μ_4 => some (r_5, μ_4)) else (if x1 = (1 : Int32) then bd (G_X0_columnDriftedMost 7 μ_1) (fun r_8 μ_7 => some (r_8, μ_7)) else (if x1 = (2 : Int32) then bd (G_X0_greatestTotal 7 μ_1) (fun r_11 μ_10 => some (r_11, μ_10)) else (if x1 = (3 : Int32) then bd (G_X0_mostAlike 7 μ_1) (fun r_14 μ_13 => some (r_14, μ_13)) else (if x1 = (4 : Int32) then bd (G_X0_allRows 7 μ_1) (fun r_17 μ_16 => some (r_17, μ_16)) else (if x1 = (5 : Int32) then bd (G_X0_valueSeenMost 7 μ_1) (fun r_20 μ_19 => some (r_20, μ_19)) else (some ((-1000000 : Int32), μ_1))))))))
set_option maxHeartbeats 4000000 in
theorem c_X10_most {X : Wd} (hX : WdOk X) (x1 : Int32) (μ : Mem) : CtI X yX10_most cX10_most 2 (some .int) (rmF 3 59) [.ref (xad X 0), .int x1] μ (G_X10_most x1 μ) := by
  refine CtI.of hX (plainFor_of_name (by decide)) (by exact Nat.le_of_ble_eq_true rfl) ?_
  intro C hCX hC hr
  subst hCX
  show J C (KI C) μ 0 [(0, .ref (xad (cX C) 0)), (1, .int x1)] [] _
  unfold G_X10_most
  refine J.aload_n (j := 0) hC eX10_most_0 rfl ?_
  refine J.callVI (st := []) hC eX10_most_1 kk_0 (by decide) rfl rfl ml_X10_119 mv_X10_hasBook (Rle_of (Nat.le_of_ble_eq_true rfl) (Nat.le_of_ble_eq_true rfl)) (c_X10_hasBook hC.X  μ) rfl rfl (Nat.le_of_ble_eq_true rfl) (fun r_2 μ_1 => ?_)
  refine J.if_ne hC eX10_most_4 (fun _ => ?_) (fun _ => ?_)
  · refine J.ldc hC eX10_most_7 mk_X10_178 ?_
    exact J.iret hC hr eX10_most_9
  · refine J.iload_n (j := 1) hC eX10_most_10 rfl ?_
    refine J.ite (fun h_3 => ?_) (fun h_3 => ?_)
    · refine J.tsI (off := 37) (tgt := 48) hC eX10_most_11 (by rw [h_3]; decide) (by rw [h_3]; decide) (by rw [h_3]; rfl) (by decide) ?_
      refine J.aload_n (j := 0) hC eX10_most_48 rfl ?_
      refine gf_X10_26 (q := 7) hC eX10_most_49 kk_0 rfl ?_
      refine J.callVI (st := []) hC eX10_most_52 kk_7 (by decide) rfl rfl ml_X10_385 mv_X0_tableWithMostRows (Rle_of (Nat.le_of_ble_eq_true rfl) (Nat.le_of_ble_eq_true rfl)) (c_X0_tableWithMostRows hC.X 7 kk_7 μ_1) rfl rfl (Nat.le_of_ble_eq_true rfl) (fun r_5 μ_4 => ?_)
      exact J.iret hC hr eX10_most_55
    refine J.ite (fun h_6 => ?_) (fun h_6 => ?_)
    · refine J.tsI (off := 45) (tgt := 56) hC eX10_most_11 (by rw [h_6]; decide) (by rw [h_6]; decide) (by rw [h_6]; rfl) (by decide) ?_
      refine J.aload_n (j := 0) hC eX10_most_56 rfl ?_
      refine gf_X10_26 (q := 7) hC eX10_most_57 kk_0 rfl ?_
      refine J.callVI (st := []) hC eX10_most_60 kk_7 (by decide) rfl rfl ml_X10_388 mv_X0_columnDriftedMost (Rle_of (Nat.le_of_ble_eq_true rfl) (Nat.le_of_ble_eq_true rfl)) (c_X0_columnDriftedMost hC.X 7 kk_7 μ_1) rfl rfl (Nat.le_of_ble_eq_true rfl) (fun r_8 μ_7 => ?_)
      exact J.iret hC hr eX10_most_63
    refine J.ite (fun h_9 => ?_) (fun h_9 => ?_)
    · refine J.tsI (off := 53) (tgt := 64) hC eX10_most_11 (by rw [h_9]; decide) (by rw [h_9]; decide) (by rw [h_9]; rfl) (by decide) ?_
      refine J.aload_n (j := 0) hC eX10_most_64 rfl ?_
      refine gf_X10_26 (q := 7) hC eX10_most_65 kk_0 rfl ?_
      refine J.callVI (st := []) hC eX10_most_68 kk_7 (by decide) rfl rfl ml_X10_391 mv_X0_greatestTotal (Rle_of (Nat.le_of_ble_eq_true rfl) (Nat.le_of_ble_eq_true rfl)) (c_X0_greatestTotal hC.X 7 kk_7 μ_1) rfl rfl (Nat.le_of_ble_eq_true rfl) (fun r_11 μ_10 => ?_)
      exact J.iret hC hr eX10_most_71
    refine J.ite (fun h_12 => ?_) (fun h_12 => ?_)
    · refine J.tsI (off := 61) (tgt := 72) hC eX10_most_11 (by rw [h_12]; decide) (by rw [h_12]; decide) (by rw [h_12]; rfl) (by decide) ?_
      refine J.aload_n (j := 0) hC eX10_most_72 rfl ?_
      refine gf_X10_26 (q := 7) hC eX10_most_73 kk_0 rfl ?_
      refine J.callVI (st := []) hC eX10_most_76 kk_7 (by decide) rfl rfl ml_X10_394 mv_X0_mostAlike (Rle_of (Nat.le_of_ble_eq_true rfl) (Nat.le_of_ble_eq_true rfl)) (c_X0_mostAlike hC.X 7 kk_7 μ_1) rfl rfl (Nat.le_of_ble_eq_true rfl) (fun r_14 μ_13 => ?_)
      exact J.iret hC hr eX10_most_79
    refine J.ite (fun h_15 => ?_) (fun h_15 => ?_)
    · refine J.tsI (off := 69) (tgt := 80) hC eX10_most_11 (by rw [h_15]; decide) (by rw [h_15]; decide) (by rw [h_15]; rfl) (by decide) ?_
      refine J.aload_n (j := 0) hC eX10_most_80 rfl ?_
      refine gf_X10_26 (q := 7) hC eX10_most_81 kk_0 rfl ?_
      refine J.callVI (st := []) hC eX10_most_84 kk_7 (by decide) rfl rfl ml_X10_278 mv_X0_allRows (Rle_of (Nat.le_of_ble_eq_true rfl) (Nat.le_of_ble_eq_true rfl)) (c_X0_allRows hC.X 7 kk_7 μ_1) rfl rfl (Nat.le_of_ble_eq_true rfl) (fun r_17 μ_16 => ?_)
      exact J.iret hC hr eX10_most_87
    refine J.ite (fun h_18 => ?_) (fun h_18 => ?_)
    · refine J.tsI (off := 77) (tgt := 88) hC eX10_most_11 (by rw [h_18]; decide) (by rw [h_18]; decide) (by rw [h_18]; rfl) (by decide) ?_
      refine J.aload_n (j := 0) hC eX10_most_88 rfl ?_
      refine gf_X10_26 (q := 7) hC eX10_most_89 kk_0 rfl ?_
      refine J.callVI (st := []) hC eX10_most_92 kk_7 (by decide) rfl rfl ml_X10_397 mv_X0_valueSeenMost (Rle_of (Nat.le_of_ble_eq_true rfl) (Nat.le_of_ble_eq_true rfl)) (c_X0_valueSeenMost hC.X 7 kk_7 μ_1) rfl rfl (Nat.le_of_ble_eq_true rfl) (fun r_20 μ_19 => ?_)
      exact J.iret hC hr eX10_most_95
    refine J.tsO (tgt := 96) hC eX10_most_11 (by have th_3 := lv_neT h_3 (show ((0 : Int32)).toInt = 0 from rfl); have th_6 := lv_neT h_6 (show ((1 : Int32)).toInt = 1 from rfl); have th_9 := lv_neT h_9 (show ((2 : Int32)).toInt = 2 from rfl); have th_12 := lv_neT h_12 (show ((3 : Int32)).toInt = 3 from rfl); have th_15 := lv_neT h_15 (show ((4 : Int32)).toInt = 4 from rfl); have th_18 := lv_neT h_18 (show ((5 : Int32)).toInt = 5 from rfl); omega) (by decide) ?_
    refine J.ldc hC eX10_most_96 mk_X10_178 ?_
    exact J.iret hC hr eX10_most_98
-- X10_image
theorem eX10_image_0 : DD cX10_image 0 (.aload_n 0) 1 1 := ⟨by decide +kernel, rfl⟩
theorem eX10_image_1 : DD cX10_image 1 (.invokevirtual 119) 3 4 := ⟨by decide +kernel, rfl⟩
theorem eX10_image_4 : DB cX10_image 4 (.ifCond .ne 5) (5) 7 9 := ⟨by decide +kernel, rfl, by decide⟩
theorem eX10_image_7 : DD cX10_image 7 (.iconst (-1)) 1 8 := ⟨by decide +kernel, rfl⟩
theorem eX10_image_8 : DD cX10_image 8 (.ireturn) 1 9 := ⟨by decide +kernel, rfl⟩
theorem eX10_image_9 : DD cX10_image 9 (.aload_n 0) 1 10 := ⟨by decide +kernel, rfl⟩
theorem eX10_image_10 : DD cX10_image 10 (.getfield 48) 3 13 := ⟨by decide +kernel, rfl⟩
theorem eX10_image_13 : DD cX10_image 13 (.aload_n 0) 1 14 := ⟨by decide +kernel, rfl⟩
theorem eX10_image_14 : DD cX10_image 14 (.getfield 26) 3 17 := ⟨by decide +kernel, rfl⟩
theorem eX10_image_17 : DD cX10_image 17 (.invokevirtual 400) 3 20 := ⟨by decide +kernel, rfl⟩
theorem eX10_image_20 : DD cX10_image 20 (.aload_n 0) 1 21 := ⟨by decide +kernel, rfl⟩
theorem eX10_image_21 : DD cX10_image 21 (.getfield 26) 3 24 := ⟨by decide +kernel, rfl⟩
theorem eX10_image_24 : DD cX10_image 24 (.invokevirtual 278) 3 27 := ⟨by decide +kernel, rfl⟩
theorem eX10_image_27 : DD cX10_image 27 (.ireturn) 1 28 := ⟨by decide +kernel, rfl⟩
def G_X10_image  (μ : Mem) : Option (Int32 × Mem) :=
  bd (G_X10_hasBook  μ) (fun r_2 μ_1 => if r_2 = 0 then some ((-1 : Int32), μ_1) else bd (G_X0_copyFrom 67 7 μ_1) (fun r_4 μ_3 => bd (G_X0_allRows 7 μ_3) (fun r_6 μ_5 => some (r_6, μ_5))))
set_option maxHeartbeats 4000000 in
theorem c_X10_image {X : Wd} (hX : WdOk X)  (μ : Mem) : CtI X yX10_image cX10_image 1 (some .int) (rmF 4 87) [.ref (xad X 0)] μ (G_X10_image  μ) := by
  refine CtI.of hX (plainFor_of_name (by decide)) (by exact Nat.le_of_ble_eq_true rfl) ?_
  intro C hCX hC hr
  subst hCX
  show J C (KI C) μ 0 [(0, .ref (xad (cX C) 0))] [] _
  unfold G_X10_image
  refine J.aload_n (j := 0) hC eX10_image_0 rfl ?_
  refine J.callVI (st := []) hC eX10_image_1 kk_0 (by decide) rfl rfl ml_X10_119 mv_X10_hasBook (Rle_of (Nat.le_of_ble_eq_true rfl) (Nat.le_of_ble_eq_true rfl)) (c_X10_hasBook hC.X  μ) rfl rfl (Nat.le_of_ble_eq_true rfl) (fun r_2 μ_1 => ?_)
  refine J.if_ne hC eX10_image_4 (fun _ => ?_) (fun _ => ?_)
  · refine J.iconst hC eX10_image_7 ci_m1 ?_
    exact J.iret hC hr eX10_image_8
  · refine J.aload_n (j := 0) hC eX10_image_9 rfl ?_
    refine gf_X10_48 (q := 67) hC eX10_image_10 kk_0 rfl ?_
    refine J.aload_n (j := 0) hC eX10_image_13 rfl ?_
    refine gf_X10_26 (q := 7) hC eX10_image_14 kk_0 rfl ?_
    refine J.callVV (st := []) hC eX10_image_17 kk_67 (by decide) rfl rfl ml_X10_400 mv_X0_copyFrom (Rle_of (Nat.le_of_ble_eq_true rfl) (Nat.le_of_ble_eq_true rfl)) (c_X0_copyFrom hC.X 67 kk_67 7 kk_7 μ_1) rfl rfl (Nat.le_of_ble_eq_true rfl) (fun r_4 μ_3 => ?_)
    refine J.aload_n (j := 0) hC eX10_image_20 rfl ?_
    refine gf_X10_26 (q := 7) hC eX10_image_21 kk_0 rfl ?_
    refine J.callVI (st := []) hC eX10_image_24 kk_7 (by decide) rfl rfl ml_X10_278 mv_X0_allRows (Rle_of (Nat.le_of_ble_eq_true rfl) (Nat.le_of_ble_eq_true rfl)) (c_X0_allRows hC.X 7 kk_7 μ_3) rfl rfl (Nat.le_of_ble_eq_true rfl) (fun r_6 μ_5 => ?_)
    exact J.iret hC hr eX10_image_27
-- X10_back
theorem eX10_back_0 : DD cX10_back 0 (.aload_n 0) 1 1 := ⟨by decide +kernel, rfl⟩
theorem eX10_back_1 : DD cX10_back 1 (.getfield 48) 3 4 := ⟨by decide +kernel, rfl⟩
theorem eX10_back_4 : DD cX10_back 4 (.getfield 116) 3 7 := ⟨by decide +kernel, rfl⟩
theorem eX10_back_7 : DB cX10_back 7 (.ifCond .ne 5) (5) 10 12 := ⟨by decide +kernel, rfl, by decide⟩
theorem eX10_back_10 : DD cX10_back 10 (.iconst (-1)) 1 11 := ⟨by decide +kernel, rfl⟩
theorem eX10_back_11 : DD cX10_back 11 (.ireturn) 1 12 := ⟨by decide +kernel, rfl⟩
theorem eX10_back_12 : DD cX10_back 12 (.aload_n 0) 1 13 := ⟨by decide +kernel, rfl⟩
theorem eX10_back_13 : DD cX10_back 13 (.getfield 26) 3 16 := ⟨by decide +kernel, rfl⟩
theorem eX10_back_16 : DD cX10_back 16 (.aload_n 0) 1 17 := ⟨by decide +kernel, rfl⟩
theorem eX10_back_17 : DD cX10_back 17 (.getfield 48) 3 20 := ⟨by decide +kernel, rfl⟩
theorem eX10_back_20 : DD cX10_back 20 (.invokevirtual 400) 3 23 := ⟨by decide +kernel, rfl⟩
theorem eX10_back_23 : DD cX10_back 23 (.aload_n 0) 1 24 := ⟨by decide +kernel, rfl⟩
theorem eX10_back_24 : DD cX10_back 24 (.getfield 44) 3 27 := ⟨by decide +kernel, rfl⟩
theorem eX10_back_27 : DD cX10_back 27 (.invokevirtual 113) 3 30 := ⟨by decide +kernel, rfl⟩
theorem eX10_back_30 : DD cX10_back 30 (.aload_n 0) 1 31 := ⟨by decide +kernel, rfl⟩
theorem eX10_back_31 : DD cX10_back 31 (.getfield 26) 3 34 := ⟨by decide +kernel, rfl⟩
theorem eX10_back_34 : DD cX10_back 34 (.invokevirtual 278) 3 37 := ⟨by decide +kernel, rfl⟩
theorem eX10_back_37 : DD cX10_back 37 (.ireturn) 1 38 := ⟨by decide +kernel, rfl⟩
def G_X10_back  (μ : Mem) : Option (Int32 × Mem) :=
  if (rI μ 67 2) = 0 then some ((-1 : Int32), μ) else bd (G_X0_copyFrom 7 67 μ) (fun r_2 μ_1 => bd (G_X6_forget  μ_1) (fun r_4 μ_3 => bd (G_X0_allRows 7 μ_3) (fun r_6 μ_5 => some (r_6, μ_5))))
set_option maxHeartbeats 4000000 in
theorem c_X10_back {X : Wd} (hX : WdOk X)  (μ : Mem) : CtI X yX10_back cX10_back 1 (some .int) (rmF 4 87) [.ref (xad X 0)] μ (G_X10_back  μ) := by
  refine CtI.of hX (plainFor_of_name (by decide)) (by exact Nat.le_of_ble_eq_true rfl) ?_
  intro C hCX hC hr
  subst hCX
  show J C (KI C) μ 0 [(0, .ref (xad (cX C) 0))] [] _
  unfold G_X10_back
  refine J.aload_n (j := 0) hC eX10_back_0 rfl ?_
  refine gf_X10_48 (q := 67) hC eX10_back_1 kk_0 rfl ?_
  refine gf_X10_116 hC eX10_back_4 kk_67 ?_
  refine J.if_ne hC eX10_back_7 (fun _ => ?_) (fun _ => ?_)
  · refine J.iconst hC eX10_back_10 ci_m1 ?_
    exact J.iret hC hr eX10_back_11
  · refine J.aload_n (j := 0) hC eX10_back_12 rfl ?_
    refine gf_X10_26 (q := 7) hC eX10_back_13 kk_0 rfl ?_
    refine J.aload_n (j := 0) hC eX10_back_16 rfl ?_
    refine gf_X10_48 (q := 67) hC eX10_back_17 kk_0 rfl ?_
    refine J.callVV (st := []) hC eX10_back_20 kk_7 (by decide) rfl rfl ml_X10_400 mv_X0_copyFrom (Rle_of (Nat.le_of_ble_eq_true rfl) (Nat.le_of_ble_eq_true rfl)) (c_X0_copyFrom hC.X 7 kk_7 67 kk_67 μ) rfl rfl (Nat.le_of_ble_eq_true rfl) (fun r_2 μ_1 => ?_)
    refine J.aload_n (j := 0) hC eX10_back_23 rfl ?_
    refine gf_X10_44 (q := 65) hC eX10_back_24 kk_0 rfl ?_
    refine J.callVV (st := []) hC eX10_back_27 kk_65 (by decide) rfl rfl ml_X10_113 mv_X6_forget (Rle_of (Nat.le_of_ble_eq_true rfl) (Nat.le_of_ble_eq_true rfl)) (c_X6_forget hC.X  μ_1) rfl rfl (Nat.le_of_ble_eq_true rfl) (fun r_4 μ_3 => ?_)
    refine J.aload_n (j := 0) hC eX10_back_30 rfl ?_
    refine gf_X10_26 (q := 7) hC eX10_back_31 kk_0 rfl ?_
    refine J.callVI (st := []) hC eX10_back_34 kk_7 (by decide) rfl rfl ml_X10_278 mv_X0_allRows (Rle_of (Nat.le_of_ble_eq_true rfl) (Nat.le_of_ble_eq_true rfl)) (c_X0_allRows hC.X 7 kk_7 μ_3) rfl rfl (Nat.le_of_ble_eq_true rfl) (fun r_6 μ_5 => ?_)
    exact J.iret hC hr eX10_back_37
-- X10_count
theorem eX10_count_0 : DD cX10_count 0 (.iload_n 1) 1 1 := ⟨by decide +kernel, rfl⟩
theorem eX10_count_1 : decode cX10_count 1 = .ok (.tableswitch 84 0 5 #[39, 47, 52, 60, 71, 79], 39) := by decide +kernel
theorem eX10_count_40 : DD cX10_count 40 (.aload_n 0) 1 41 := ⟨by decide +kernel, rfl⟩
theorem eX10_count_41 : DD cX10_count 41 (.getfield 26) 3 44 := ⟨by decide +kernel, rfl⟩
theorem eX10_count_44 : DD cX10_count 44 (.getfield 116) 3 47 := ⟨by decide +kernel, rfl⟩
theorem eX10_count_47 : DD cX10_count 47 (.ireturn) 1 48 := ⟨by decide +kernel, rfl⟩
theorem eX10_count_48 : DD cX10_count 48 (.aload_n 0) 1 49 := ⟨by decide +kernel, rfl⟩
theorem eX10_count_49 : DD cX10_count 49 (.getfield 75) 3 52 := ⟨by decide +kernel, rfl⟩
theorem eX10_count_52 : DD cX10_count 52 (.ireturn) 1 53 := ⟨by decide +kernel, rfl⟩
theorem eX10_count_53 : DD cX10_count 53 (.aload_n 0) 1 54 := ⟨by decide +kernel, rfl⟩
theorem eX10_count_54 : DD cX10_count 54 (.getfield 12) 3 57 := ⟨by decide +kernel, rfl⟩
theorem eX10_count_57 : DD cX10_count 57 (.getfield 90) 3 60 := ⟨by decide +kernel, rfl⟩
theorem eX10_count_60 : DD cX10_count 60 (.ireturn) 1 61 := ⟨by decide +kernel, rfl⟩
theorem eX10_count_61 : DD cX10_count 61 (.aload_n 0) 1 62 := ⟨by decide +kernel, rfl⟩
theorem eX10_count_62 : DD cX10_count 62 (.getfield 26) 3 65 := ⟨by decide +kernel, rfl⟩
theorem eX10_count_65 : DD cX10_count 65 (.getfield 247) 3 68 := ⟨by decide +kernel, rfl⟩
theorem eX10_count_68 : DD cX10_count 68 (.invokevirtual 297) 3 71 := ⟨by decide +kernel, rfl⟩
theorem eX10_count_71 : DD cX10_count 71 (.ireturn) 1 72 := ⟨by decide +kernel, rfl⟩
theorem eX10_count_72 : DD cX10_count 72 (.aload_n 0) 1 73 := ⟨by decide +kernel, rfl⟩
theorem eX10_count_73 : DD cX10_count 73 (.getfield 44) 3 76 := ⟨by decide +kernel, rfl⟩
theorem eX10_count_76 : DD cX10_count 76 (.getfield 291) 3 79 := ⟨by decide +kernel, rfl⟩
theorem eX10_count_79 : DD cX10_count 79 (.ireturn) 1 80 := ⟨by decide +kernel, rfl⟩
theorem eX10_count_80 : DD cX10_count 80 (.aload_n 0) 1 81 := ⟨by decide +kernel, rfl⟩
theorem eX10_count_81 : DD cX10_count 81 (.getfield 79) 3 84 := ⟨by decide +kernel, rfl⟩
theorem eX10_count_84 : DD cX10_count 84 (.ireturn) 1 85 := ⟨by decide +kernel, rfl⟩
theorem eX10_count_85 : DD cX10_count 85 (.ldc 178) 2 87 := ⟨by decide +kernel, rfl⟩
theorem eX10_count_87 : DD cX10_count 87 (.ireturn) 1 88 := ⟨by decide +kernel, rfl⟩
def G_X10_count (x1 : Int32) (μ : Mem) : Option (Int32 × Mem) :=
  if x1 = (0 : Int32) then some (rI μ 7 2, μ) else (if x1 = (1 : Int32) then some (rI μ 0 11, μ) else (if x1 = (2 : Int32) then some (rI μ 1 1, μ) else (if x1 = (3 : Int32) then bd (G_X3_length 36 μ) (fun r_6 μ_5 => some (r_6, μ_5)) else (if x1 = (4 : Int32) then some (rI μ 65 1, μ) else (if x1 = (5 : Int32) then some (rI μ 0 12, μ) else (some ((-1000000 : Int32), μ)))))))
set_option maxHeartbeats 4000000 in
theorem c_X10_count {X : Wd} (hX : WdOk X) (x1 : Int32) (μ : Mem) : CtI X yX10_count cX10_count 2 (some .int) (rmF 2 35) [.ref (xad X 0), .int x1] μ (G_X10_count x1 μ) := by
  refine CtI.of hX (plainFor_of_name (by decide)) (by exact Nat.le_of_ble_eq_true rfl) ?_
  intro C hCX hC hr
  subst hCX
  show J C (KI C) μ 0 [(0, .ref (xad (cX C) 0)), (1, .int x1)] [] _
  unfold G_X10_count
  refine J.iload_n (j := 1) hC eX10_count_0 rfl ?_
  refine J.ite (fun h_1 => ?_) (fun h_1 => ?_)
  · refine J.tsI (off := 39) (tgt := 40) hC eX10_count_1 (by rw [h_1]; decide) (by rw [h_1]; decide) (by rw [h_1]; rfl) (by decide) ?_
    refine J.aload_n (j := 0) hC eX10_count_40 rfl ?_
    refine gf_X10_26 (q := 7) hC eX10_count_41 kk_0 rfl ?_
    refine gf_X10_116 hC eX10_count_44 kk_7 ?_
    exact J.iret hC hr eX10_count_47
  refine J.ite (fun h_2 => ?_) (fun h_2 => ?_)
  · refine J.tsI (off := 47) (tgt := 48) hC eX10_count_1 (by rw [h_2]; decide) (by rw [h_2]; decide) (by rw [h_2]; rfl) (by decide) ?_
    refine J.aload_n (j := 0) hC eX10_count_48 rfl ?_
    refine gf_X10_75 hC eX10_count_49 kk_0 ?_
    exact J.iret hC hr eX10_count_52
  refine J.ite (fun h_3 => ?_) (fun h_3 => ?_)
  · refine J.tsI (off := 52) (tgt := 53) hC eX10_count_1 (by rw [h_3]; decide) (by rw [h_3]; decide) (by rw [h_3]; rfl) (by decide) ?_
    refine J.aload_n (j := 0) hC eX10_count_53 rfl ?_
    refine gf_X10_12 (q := 1) hC eX10_count_54 kk_0 rfl ?_
    refine gf_X10_90 hC eX10_count_57 kk_1 ?_
    exact J.iret hC hr eX10_count_60
  refine J.ite (fun h_4 => ?_) (fun h_4 => ?_)
  · refine J.tsI (off := 60) (tgt := 61) hC eX10_count_1 (by rw [h_4]; decide) (by rw [h_4]; decide) (by rw [h_4]; rfl) (by decide) ?_
    refine J.aload_n (j := 0) hC eX10_count_61 rfl ?_
    refine gf_X10_26 (q := 7) hC eX10_count_62 kk_0 rfl ?_
    refine gf_X10_247 (q := 36) hC eX10_count_65 kk_7 rfl ?_
    refine J.callVI (st := []) hC eX10_count_68 kk_36 (by decide) rfl rfl ml_X10_297 mv_X3_length (Rle_of (Nat.le_of_ble_eq_true rfl) (Nat.le_of_ble_eq_true rfl)) (c_X3_length hC.X 36 kk_36 μ) rfl rfl (Nat.le_of_ble_eq_true rfl) (fun r_6 μ_5 => ?_)
    exact J.iret hC hr eX10_count_71
  refine J.ite (fun h_7 => ?_) (fun h_7 => ?_)
  · refine J.tsI (off := 71) (tgt := 72) hC eX10_count_1 (by rw [h_7]; decide) (by rw [h_7]; decide) (by rw [h_7]; rfl) (by decide) ?_
    refine J.aload_n (j := 0) hC eX10_count_72 rfl ?_
    refine gf_X10_44 (q := 65) hC eX10_count_73 kk_0 rfl ?_
    refine gf_X10_291 hC eX10_count_76 kk_65 ?_
    exact J.iret hC hr eX10_count_79
  refine J.ite (fun h_8 => ?_) (fun h_8 => ?_)
  · refine J.tsI (off := 79) (tgt := 80) hC eX10_count_1 (by rw [h_8]; decide) (by rw [h_8]; decide) (by rw [h_8]; rfl) (by decide) ?_
    refine J.aload_n (j := 0) hC eX10_count_80 rfl ?_
    refine gf_X10_79 hC eX10_count_81 kk_0 ?_
    exact J.iret hC hr eX10_count_84
  refine J.tsO (tgt := 85) hC eX10_count_1 (by have th_1 := lv_neT h_1 (show ((0 : Int32)).toInt = 0 from rfl); have th_2 := lv_neT h_2 (show ((1 : Int32)).toInt = 1 from rfl); have th_3 := lv_neT h_3 (show ((2 : Int32)).toInt = 2 from rfl); have th_4 := lv_neT h_4 (show ((3 : Int32)).toInt = 3 from rfl); have th_7 := lv_neT h_7 (show ((4 : Int32)).toInt = 4 from rfl); have th_8 := lv_neT h_8 (show ((5 : Int32)).toInt = 5 from rfl); omega) (by decide) ?_
  refine J.ldc hC eX10_count_85 mk_X10_178 ?_
  exact J.iret hC hr eX10_count_87
-- X11_in
theorem eX11_in_0 : DD cX11_in 0 (.lload_n 0) 1 1 := ⟨by decide +kernel, rfl⟩
theorem eX11_in_1 : DD cX11_in 1 (.lload_n 2) 1 2 := ⟨by decide +kernel, rfl⟩
theorem eX11_in_2 : DD cX11_in 2 (.lcmp) 1 3 := ⟨by decide +kernel, rfl⟩
theorem eX11_in_3 : DB cX11_in 3 (.ifCond .lt 14) (14) 6 17 := ⟨by decide +kernel, rfl, by decide⟩
theorem eX11_in_6 : DD cX11_in 6 (.lload_n 0) 1 7 := ⟨by decide +kernel, rfl⟩
theorem eX11_in_7 : DD cX11_in 7 (.lload 4) 2 9 := ⟨by decide +kernel, rfl⟩
theorem eX11_in_9 : DD cX11_in 9 (.lcmp) 1 10 := ⟨by decide +kernel, rfl⟩
theorem eX11_in_10 : DB cX11_in 10 (.ifCond .gt 7) (7) 13 17 := ⟨by decide +kernel, rfl, by decide⟩
theorem eX11_in_13 : DD cX11_in 13 (.iconst 1) 1 14 := ⟨by decide +kernel, rfl⟩
theorem eX11_in_14 : DB cX11_in 14 (.goto 4) (4) 17 18 := ⟨by decide +kernel, rfl, by decide⟩
theorem eX11_in_17 : DD cX11_in 17 (.iconst 0) 1 18 := ⟨by decide +kernel, rfl⟩
theorem eX11_in_18 : DD cX11_in 18 (.ireturn) 1 19 := ⟨by decide +kernel, rfl⟩
def G_X11_in (l0 : Int64) (l2 : Int64) (l4 : Int64) (μ : Mem) : Option (Int32 × Mem) :=
  if (lg_cmp l0 l2) < 0 then some ((0 : Int32), μ) else if 0 < (lg_cmp l0 l4) then some ((0 : Int32), μ) else some ((1 : Int32), μ)
set_option maxHeartbeats 4000000 in
theorem c_X11_in {X : Wd} (hX : WdOk X) (l0 : Int64) (l2 : Int64) (l4 : Int64) (μ : Mem) : CtI X yX11_in cX11_in 6 (some .boolean) (rmF 0 0) [.long l0, .long l2, .long l4] μ (G_X11_in l0 l2 l4 μ) := by
  refine CtI.of hX (plainFor_of_name (by decide)) (by exact Nat.le_of_ble_eq_true rfl) ?_
  intro C hCX hC hr
  subst hCX
  show J C (KI C) μ 0 [(0, .long l0), (2, .long l2), (4, .long l4)] [] _
  unfold G_X11_in
  refine J.lload_n (j := 0) hC eX11_in_0 rfl ?_
  refine J.lload_n (j := 1) hC eX11_in_1 rfl ?_
  refine J.lcmp hC eX11_in_2 ?_
  refine J.if_lt hC eX11_in_3 (fun _ => ?_) (fun _ => ?_)
  · refine J.iconst hC eX11_in_17 ci_0 ?_
    exact J.zretB hC hr eX11_in_18 rfl
  · refine J.lload_n (j := 0) hC eX11_in_6 rfl ?_
    refine J.lload (j := 2) hC eX11_in_7 rfl ?_
    refine J.lcmp hC eX11_in_9 ?_
    refine J.if_gt hC eX11_in_10 (fun _ => ?_) (fun _ => ?_)
    · refine J.iconst hC eX11_in_17 ci_0 ?_
      exact J.zretB hC hr eX11_in_18 rfl
    · refine J.iconst hC eX11_in_13 ci_1 ?_
      refine J.goto hC eX11_in_14 ?_
      exact J.zretB hC hr eX11_in_18 rfl
-- X11_has
theorem eX11_has_0 : DD cX11_has 0 (.iload_n 0) 1 1 := ⟨by decide +kernel, rfl⟩
theorem eX11_has_1 : DD cX11_has 1 (.iload_n 1) 1 2 := ⟨by decide +kernel, rfl⟩
theorem eX11_has_2 : DD cX11_has 2 (.ishr) 1 3 := ⟨by decide +kernel, rfl⟩
theorem eX11_has_3 : DD cX11_has 3 (.iconst 1) 1 4 := ⟨by decide +kernel, rfl⟩
theorem eX11_has_4 : DD cX11_has 4 (.iand) 1 5 := ⟨by decide +kernel, rfl⟩
theorem eX11_has_5 : DD cX11_has 5 (.iconst 1) 1 6 := ⟨by decide +kernel, rfl⟩
theorem eX11_has_6 : DB cX11_has 6 (.if_icmp .ne 7) (7) 9 13 := ⟨by decide +kernel, rfl, by decide⟩
theorem eX11_has_9 : DD cX11_has 9 (.iconst 1) 1 10 := ⟨by decide +kernel, rfl⟩
theorem eX11_has_10 : DB cX11_has 10 (.goto 4) (4) 13 14 := ⟨by decide +kernel, rfl, by decide⟩
theorem eX11_has_13 : DD cX11_has 13 (.iconst 0) 1 14 := ⟨by decide +kernel, rfl⟩
theorem eX11_has_14 : DD cX11_has 14 (.ireturn) 1 15 := ⟨by decide +kernel, rfl⟩
def G_X11_has (x0 : Int32) (x1 : Int32) (μ : Mem) : Option (Int32 × Mem) :=
  if ((x0 >>> (x1 &&& 31)) &&& (1 : Int32)) = (1 : Int32) then some ((1 : Int32), μ) else some ((0 : Int32), μ)
set_option maxHeartbeats 4000000 in
theorem c_X11_has {X : Wd} (hX : WdOk X) (x0 : Int32) (x1 : Int32) (μ : Mem) : CtI X yX11_has cX11_has 2 (some .boolean) (rmF 0 0) [.int x0, .int x1] μ (G_X11_has x0 x1 μ) := by
  refine CtI.of hX (plainFor_of_name (by decide)) (by exact Nat.le_of_ble_eq_true rfl) ?_
  intro C hCX hC hr
  subst hCX
  show J C (KI C) μ 0 [(0, .int x0), (1, .int x1)] [] _
  unfold G_X11_has
  refine J.iload_n (j := 0) hC eX11_has_0 rfl ?_
  refine J.iload_n (j := 1) hC eX11_has_1 rfl ?_
  refine J.ishr hC eX11_has_2 ?_
  refine J.iconst hC eX11_has_3 ci_1 ?_
  refine J.iand hC eX11_has_4 ?_
  refine J.iconst hC eX11_has_5 ci_1 ?_
  refine J.icmp_ne hC eX11_has_6 (fun _ => ?_) (fun _ => ?_)
  · refine J.iconst hC eX11_has_9 ci_1 ?_
    refine J.goto hC eX11_has_10 ?_
    exact J.zretB hC hr eX11_has_14 rfl
  · refine J.iconst hC eX11_has_13 ci_0 ?_
    exact J.zretB hC hr eX11_has_14 rfl
-- X11_thrown
theorem eX11_thrown_0 : DD cX11_thrown 0 (.aload_n 0) 1 1 := ⟨by decide +kernel, rfl⟩
theorem eX11_thrown_1 : DD cX11_thrown 1 (.getfield 66) 3 4 := ⟨by decide +kernel, rfl⟩
theorem eX11_thrown_4 : DD cX11_thrown 4 (.ireturn) 1 5 := ⟨by decide +kernel, rfl⟩
def G_X11_thrown  (μ : Mem) : Option (Int32 × Mem) :=
  some (rI μ 107 0, μ)
set_option maxHeartbeats 4000000 in
theorem c_X11_thrown {X : Wd} (hX : WdOk X)  (μ : Mem) : CtI X yX11_thrown cX11_thrown 1 (some .int) (rmF 0 0) [.ref (xad X 107)] μ (G_X11_thrown  μ) := by
  refine CtI.of hX (plainFor_of_name (by decide)) (by exact Nat.le_of_ble_eq_true rfl) ?_
  intro C hCX hC hr
  subst hCX
  show J C (KI C) μ 0 [(0, .ref (xad (cX C) 107))] [] _
  unfold G_X11_thrown
  refine J.aload_n (j := 0) hC eX11_thrown_0 rfl ?_
  refine gf_X11_66 hC eX11_thrown_1 kk_107 ?_
  exact J.iret hC hr eX11_thrown_4
-- X11_byteOf
theorem eX11_byteOf_0 : DD cX11_byteOf 0 (.iload 5) 2 2 := ⟨by decide +kernel, rfl⟩
theorem eX11_byteOf_2 : DD cX11_byteOf 2 (.iconst 4) 1 3 := ⟨by decide +kernel, rfl⟩
theorem eX11_byteOf_3 : DB cX11_byteOf 3 (.if_icmp .ge 7) (7) 6 10 := ⟨by decide +kernel, rfl, by decide⟩
theorem eX11_byteOf_6 : DD cX11_byteOf 6 (.iload_n 0) 1 7 := ⟨by decide +kernel, rfl⟩
theorem eX11_byteOf_7 : DB cX11_byteOf 7 (.goto 38) (38) 10 45 := ⟨by decide +kernel, rfl, by decide⟩
theorem eX11_byteOf_10 : DD cX11_byteOf 10 (.iload 5) 2 12 := ⟨by decide +kernel, rfl⟩
theorem eX11_byteOf_12 : DD cX11_byteOf 12 (.bipush 8) 2 14 := ⟨by decide +kernel, rfl⟩
theorem eX11_byteOf_14 : DB cX11_byteOf 14 (.if_icmp .ge 7) (7) 17 21 := ⟨by decide +kernel, rfl, by decide⟩
theorem eX11_byteOf_17 : DD cX11_byteOf 17 (.iload_n 1) 1 18 := ⟨by decide +kernel, rfl⟩
theorem eX11_byteOf_18 : DB cX11_byteOf 18 (.goto 27) (27) 21 45 := ⟨by decide +kernel, rfl, by decide⟩
theorem eX11_byteOf_21 : DD cX11_byteOf 21 (.iload 5) 2 23 := ⟨by decide +kernel, rfl⟩
theorem eX11_byteOf_23 : DD cX11_byteOf 23 (.bipush 12) 2 25 := ⟨by decide +kernel, rfl⟩
theorem eX11_byteOf_25 : DB cX11_byteOf 25 (.if_icmp .ge 7) (7) 28 32 := ⟨by decide +kernel, rfl, by decide⟩
theorem eX11_byteOf_28 : DD cX11_byteOf 28 (.iload_n 2) 1 29 := ⟨by decide +kernel, rfl⟩
theorem eX11_byteOf_29 : DB cX11_byteOf 29 (.goto 16) (16) 32 45 := ⟨by decide +kernel, rfl, by decide⟩
theorem eX11_byteOf_32 : DD cX11_byteOf 32 (.iload 5) 2 34 := ⟨by decide +kernel, rfl⟩
theorem eX11_byteOf_34 : DD cX11_byteOf 34 (.bipush 16) 2 36 := ⟨by decide +kernel, rfl⟩
theorem eX11_byteOf_36 : DB cX11_byteOf 36 (.if_icmp .ge 7) (7) 39 43 := ⟨by decide +kernel, rfl, by decide⟩
theorem eX11_byteOf_39 : DD cX11_byteOf 39 (.iload_n 3) 1 40 := ⟨by decide +kernel, rfl⟩
theorem eX11_byteOf_40 : DB cX11_byteOf 40 (.goto 5) (5) 43 45 := ⟨by decide +kernel, rfl, by decide⟩
theorem eX11_byteOf_43 : DD cX11_byteOf 43 (.iload 4) 2 45 := ⟨by decide +kernel, rfl⟩
theorem eX11_byteOf_45 : DD cX11_byteOf 45 (.istore 6) 2 47 := ⟨by decide +kernel, rfl⟩
theorem eX11_byteOf_47 : DD cX11_byteOf 47 (.iload 6) 2 49 := ⟨by decide +kernel, rfl⟩
theorem eX11_byteOf_49 : DD cX11_byteOf 49 (.bipush 24) 2 51 := ⟨by decide +kernel, rfl⟩
theorem eX11_byteOf_51 : DD cX11_byteOf 51 (.bipush 8) 2 53 := ⟨by decide +kernel, rfl⟩
theorem eX11_byteOf_53 : DD cX11_byteOf 53 (.iload 5) 2 55 := ⟨by decide +kernel, rfl⟩
theorem eX11_byteOf_55 : DD cX11_byteOf 55 (.iconst 4) 1 56 := ⟨by decide +kernel, rfl⟩
theorem eX11_byteOf_56 : DD cX11_byteOf 56 (.irem) 1 57 := ⟨by decide +kernel, rfl⟩
theorem eX11_byteOf_57 : DD cX11_byteOf 57 (.imul) 1 58 := ⟨by decide +kernel, rfl⟩
theorem eX11_byteOf_58 : DD cX11_byteOf 58 (.isub) 1 59 := ⟨by decide +kernel, rfl⟩
theorem eX11_byteOf_59 : DD cX11_byteOf 59 (.ishr) 1 60 := ⟨by decide +kernel, rfl⟩
theorem eX11_byteOf_60 : DD cX11_byteOf 60 (.sipush 255) 3 63 := ⟨by decide +kernel, rfl⟩
theorem eX11_byteOf_63 : DD cX11_byteOf 63 (.iand) 1 64 := ⟨by decide +kernel, rfl⟩
theorem eX11_byteOf_64 : DD cX11_byteOf 64 (.ireturn) 1 65 := ⟨by decide +kernel, rfl⟩
def F_X11_byteOf_45 (x5 : Int32) (xs0 : Int32) (μ : Mem) : Option (Int32 × Mem) :=
  some ((xs0 >>> (((24 : Int32) - ((8 : Int32) * (x5 - x5 / (4 : Int32) * (4 : Int32)))) &&& 31)) &&& (255 : Int32), μ)
set_option maxHeartbeats 4000000 in
theorem j_X11_byteOf_45 {C : Cx} (hC : Ok C cX11_byteOf 7 RX11 (rmF 0 0)) (hr : (cT C).sig.returnType = (some .int)) (x5 : Int32) (xs0 : Int32) (μ : Mem) : J C (KI C) μ 45 [(5, .int x5)] [.int xs0] (F_X11_byteOf_45  x5 xs0 μ) := by
  unfold F_X11_byteOf_45
  refine J.istore [(6, .int xs0), (5, .int x5)] hC eX11_byteOf_45 (by decide) rfl ?_
  refine J.iload (j := 0) hC eX11_byteOf_47 rfl ?_
  refine J.bipush hC eX11_byteOf_49 cb_24 ?_
  refine J.bipush hC eX11_byteOf_51 cb_8 ?_
  refine J.iload (j := 1) hC eX11_byteOf_53 rfl ?_
  refine J.iconst hC eX11_byteOf_55 ci_4 ?_
  refine J.iremK hC eX11_byteOf_56 (by decide) ?_
  refine J.imul hC eX11_byteOf_57 ?_
  refine J.isub hC eX11_byteOf_58 ?_
  refine J.ishr hC eX11_byteOf_59 ?_
  refine J.sipush hC eX11_byteOf_60 cs_255 ?_
  refine J.iand hC eX11_byteOf_63 ?_
  exact J.iret hC hr eX11_byteOf_64
def G_X11_byteOf (x0 : Int32) (x1 : Int32) (x2 : Int32) (x3 : Int32) (x4 : Int32) (x5 : Int32) (μ : Mem) : Option (Int32 × Mem) :=
  if (4 : Int32) ≤ x5 then if (8 : Int32) ≤ x5 then if (12 : Int32) ≤ x5 then if (16 : Int32) ≤ x5 then F_X11_byteOf_45  x5 x4 μ else F_X11_byteOf_45  x5 x3 μ else F_X11_byteOf_45  x5 x2 μ else F_X11_byteOf_45  x5 x1 μ else F_X11_byteOf_45  x5 x0 μ
set_option maxHeartbeats 4000000 in
theorem c_X11_byteOf {X : Wd} (hX : WdOk X) (x0 : Int32) (x1 : Int32) (x2 : Int32) (x3 : Int32) (x4 : Int32) (x5 : Int32) (μ : Mem) : CtI X yX11_byteOf cX11_byteOf 7 (some .int) (rmF 0 0) [.int x0, .int x1, .int x2, .int x3, .int x4, .int x5] μ (G_X11_byteOf x0 x1 x2 x3 x4 x5 μ) := by
  refine CtI.of hX (plainFor_of_name (by decide)) (by exact Nat.le_of_ble_eq_true rfl) ?_
  intro C hCX hC hr
  subst hCX
  show J C (KI C) μ 0 [(0, .int x0), (1, .int x1), (2, .int x2), (3, .int x3), (4, .int x4), (5, .int x5)] [] _
  unfold G_X11_byteOf
  refine J.iload (j := 5) hC eX11_byteOf_0 rfl ?_
  refine J.iconst hC eX11_byteOf_2 ci_4 ?_
  refine J.icmp_ge hC eX11_byteOf_3 (fun _ => ?_) (fun _ => ?_)
  · refine J.iload (j := 5) hC eX11_byteOf_10 rfl ?_
    refine J.bipush hC eX11_byteOf_12 cb_8 ?_
    refine J.icmp_ge hC eX11_byteOf_14 (fun _ => ?_) (fun _ => ?_)
    · refine J.iload (j := 5) hC eX11_byteOf_21 rfl ?_
      refine J.bipush hC eX11_byteOf_23 cb_12 ?_
      refine J.icmp_ge hC eX11_byteOf_25 (fun _ => ?_) (fun _ => ?_)
      · refine J.iload (j := 5) hC eX11_byteOf_32 rfl ?_
        refine J.bipush hC eX11_byteOf_34 cb_16 ?_
        refine J.icmp_ge hC eX11_byteOf_36 (fun _ => ?_) (fun _ => ?_)
        · refine J.iload (j := 4) hC eX11_byteOf_43 rfl ?_
          refine J.sub [5] rfl ?_
          exact j_X11_byteOf_45 hC hr  x5 x4 μ
        · refine J.iload_n (j := 3) hC eX11_byteOf_39 rfl ?_
          refine J.goto hC eX11_byteOf_40 ?_
          refine J.sub [5] rfl ?_
          exact j_X11_byteOf_45 hC hr  x5 x3 μ
      · refine J.iload_n (j := 2) hC eX11_byteOf_28 rfl ?_
        refine J.goto hC eX11_byteOf_29 ?_
        refine J.sub [5] rfl ?_
        exact j_X11_byteOf_45 hC hr  x5 x2 μ
    · refine J.iload_n (j := 1) hC eX11_byteOf_17 rfl ?_
      refine J.goto hC eX11_byteOf_18 ?_
      refine J.sub [5] rfl ?_
      exact j_X11_byteOf_45 hC hr  x5 x1 μ
  · refine J.iload_n (j := 0) hC eX11_byteOf_6 rfl ?_
    refine J.goto hC eX11_byteOf_7 ?_
    refine J.sub [5] rfl ?_
    exact j_X11_byteOf_45 hC hr  x5 x0 μ
-- X11_feed
theorem eX11_feed_0 : DD cX11_feed 0 (.iconst 0) 1 1 := ⟨by decide +kernel, rfl⟩
theorem eX11_feed_1 : DD cX11_feed 1 (.istore 6) 2 3 := ⟨by decide +kernel, rfl⟩
theorem eX11_feed_3 : DD cX11_feed 3 (.iconst 0) 1 4 := ⟨by decide +kernel, rfl⟩
theorem eX11_feed_4 : DD cX11_feed 4 (.istore 7) 2 6 := ⟨by decide +kernel, rfl⟩
theorem eX11_feed_6 : DD cX11_feed 6 (.iload 7) 2 8 := ⟨by decide +kernel, rfl⟩
theorem eX11_feed_8 : DD cX11_feed 8 (.bipush 20) 2 10 := ⟨by decide +kernel, rfl⟩
theorem eX11_feed_10 : DB cX11_feed 10 (.if_icmp .ge 34) (34) 13 44 := ⟨by decide +kernel, rfl, by decide⟩
theorem eX11_feed_13 : DD cX11_feed 13 (.iload 6) 2 15 := ⟨by decide +kernel, rfl⟩
theorem eX11_feed_15 : DD cX11_feed 15 (.iload_n 1) 1 16 := ⟨by decide +kernel, rfl⟩
theorem eX11_feed_16 : DD cX11_feed 16 (.iload_n 2) 1 17 := ⟨by decide +kernel, rfl⟩
theorem eX11_feed_17 : DD cX11_feed 17 (.iload_n 3) 1 18 := ⟨by decide +kernel, rfl⟩
theorem eX11_feed_18 : DD cX11_feed 18 (.iload 4) 2 20 := ⟨by decide +kernel, rfl⟩
theorem eX11_feed_20 : DD cX11_feed 20 (.iload 5) 2 22 := ⟨by decide +kernel, rfl⟩
theorem eX11_feed_22 : DD cX11_feed 22 (.iload 7) 2 24 := ⟨by decide +kernel, rfl⟩
theorem eX11_feed_24 : DD cX11_feed 24 (.invokestatic 70) 3 27 := ⟨by decide +kernel, rfl⟩
theorem eX11_feed_27 : DB cX11_feed 27 (.ifCond .eq 7) (7) 30 34 := ⟨by decide +kernel, rfl, by decide⟩
theorem eX11_feed_30 : DD cX11_feed 30 (.iconst 1) 1 31 := ⟨by decide +kernel, rfl⟩
theorem eX11_feed_31 : DB cX11_feed 31 (.goto 4) (4) 34 35 := ⟨by decide +kernel, rfl, by decide⟩
theorem eX11_feed_34 : DD cX11_feed 34 (.iconst 0) 1 35 := ⟨by decide +kernel, rfl⟩
theorem eX11_feed_35 : DD cX11_feed 35 (.iadd) 1 36 := ⟨by decide +kernel, rfl⟩
theorem eX11_feed_36 : DD cX11_feed 36 (.istore 6) 2 38 := ⟨by decide +kernel, rfl⟩
theorem eX11_feed_38 : DD cX11_feed 38 (.iinc 7 1) 3 41 := ⟨by decide +kernel, rfl⟩
theorem eX11_feed_41 : DB cX11_feed 41 (.goto (-35)) (-35) 44 6 := ⟨by decide +kernel, rfl, by decide⟩
theorem eX11_feed_44 : DD cX11_feed 44 (.aload_n 0) 1 45 := ⟨by decide +kernel, rfl⟩
theorem eX11_feed_45 : DD cX11_feed 45 (.getfield 74) 3 48 := ⟨by decide +kernel, rfl⟩
theorem eX11_feed_48 : DD cX11_feed 48 (.iload 6) 2 50 := ⟨by decide +kernel, rfl⟩
theorem eX11_feed_50 : DD cX11_feed 50 (.iadd) 1 51 := ⟨by decide +kernel, rfl⟩
theorem eX11_feed_51 : DD cX11_feed 51 (.sipush 240) 3 54 := ⟨by decide +kernel, rfl⟩
theorem eX11_feed_54 : DB cX11_feed 54 (.if_icmp .le 5) (5) 57 59 := ⟨by decide +kernel, rfl, by decide⟩
theorem eX11_feed_57 : DD cX11_feed 57 (.iconst (-1)) 1 58 := ⟨by decide +kernel, rfl⟩
theorem eX11_feed_58 : DD cX11_feed 58 (.ireturn) 1 59 := ⟨by decide +kernel, rfl⟩
theorem eX11_feed_59 : DD cX11_feed 59 (.iconst 0) 1 60 := ⟨by decide +kernel, rfl⟩
theorem eX11_feed_60 : DD cX11_feed 60 (.istore 7) 2 62 := ⟨by decide +kernel, rfl⟩
theorem eX11_feed_62 : DD cX11_feed 62 (.iload 7) 2 64 := ⟨by decide +kernel, rfl⟩
theorem eX11_feed_64 : DD cX11_feed 64 (.bipush 20) 2 66 := ⟨by decide +kernel, rfl⟩
theorem eX11_feed_66 : DB cX11_feed 66 (.if_icmp .ge 49) (49) 69 115 := ⟨by decide +kernel, rfl, by decide⟩
theorem eX11_feed_69 : DD cX11_feed 69 (.iload_n 1) 1 70 := ⟨by decide +kernel, rfl⟩
theorem eX11_feed_70 : DD cX11_feed 70 (.iload_n 2) 1 71 := ⟨by decide +kernel, rfl⟩
theorem eX11_feed_71 : DD cX11_feed 71 (.iload_n 3) 1 72 := ⟨by decide +kernel, rfl⟩
theorem eX11_feed_72 : DD cX11_feed 72 (.iload 4) 2 74 := ⟨by decide +kernel, rfl⟩
theorem eX11_feed_74 : DD cX11_feed 74 (.iload 5) 2 76 := ⟨by decide +kernel, rfl⟩
theorem eX11_feed_76 : DD cX11_feed 76 (.iload 7) 2 78 := ⟨by decide +kernel, rfl⟩
theorem eX11_feed_78 : DD cX11_feed 78 (.invokestatic 70) 3 81 := ⟨by decide +kernel, rfl⟩
theorem eX11_feed_81 : DD cX11_feed 81 (.istore 8) 2 83 := ⟨by decide +kernel, rfl⟩
theorem eX11_feed_83 : DD cX11_feed 83 (.iload 8) 2 85 := ⟨by decide +kernel, rfl⟩
theorem eX11_feed_85 : DB cX11_feed 85 (.ifCond .eq 24) (24) 88 109 := ⟨by decide +kernel, rfl, by decide⟩
theorem eX11_feed_88 : DD cX11_feed 88 (.aload_n 0) 1 89 := ⟨by decide +kernel, rfl⟩
theorem eX11_feed_89 : DD cX11_feed 89 (.getfield 9) 3 92 := ⟨by decide +kernel, rfl⟩
theorem eX11_feed_92 : DD cX11_feed 92 (.aload_n 0) 1 93 := ⟨by decide +kernel, rfl⟩
theorem eX11_feed_93 : DD cX11_feed 93 (.getfield 74) 3 96 := ⟨by decide +kernel, rfl⟩
theorem eX11_feed_96 : DD cX11_feed 96 (.iload 8) 2 98 := ⟨by decide +kernel, rfl⟩
theorem eX11_feed_98 : DD cX11_feed 98 (.iastore) 1 99 := ⟨by decide +kernel, rfl⟩
theorem eX11_feed_99 : DD cX11_feed 99 (.aload_n 0) 1 100 := ⟨by decide +kernel, rfl⟩
theorem eX11_feed_100 : DD cX11_feed 100 (.dup) 1 101 := ⟨by decide +kernel, rfl⟩
theorem eX11_feed_101 : DD cX11_feed 101 (.getfield 74) 3 104 := ⟨by decide +kernel, rfl⟩
theorem eX11_feed_104 : DD cX11_feed 104 (.iconst 1) 1 105 := ⟨by decide +kernel, rfl⟩
theorem eX11_feed_105 : DD cX11_feed 105 (.iadd) 1 106 := ⟨by decide +kernel, rfl⟩
theorem eX11_feed_106 : DD cX11_feed 106 (.putfield 74) 3 109 := ⟨by decide +kernel, rfl⟩
theorem eX11_feed_109 : DD cX11_feed 109 (.iinc 7 1) 3 112 := ⟨by decide +kernel, rfl⟩
theorem eX11_feed_112 : DB cX11_feed 112 (.goto (-50)) (-50) 115 62 := ⟨by decide +kernel, rfl, by decide⟩
theorem eX11_feed_115 : DD cX11_feed 115 (.aload_n 0) 1 116 := ⟨by decide +kernel, rfl⟩
theorem eX11_feed_116 : DD cX11_feed 116 (.getfield 74) 3 119 := ⟨by decide +kernel, rfl⟩
theorem eX11_feed_119 : DD cX11_feed 119 (.ireturn) 1 120 := ⟨by decide +kernel, rfl⟩
def F_X11_feed_109 (kc_62 : Int32 → Int32 → Int32 → Int32 → Int32 → Int32 → Mem → Option (Int32 × Mem)) (x1 : Int32) (x2 : Int32) (x3 : Int32) (x4 : Int32) (x5 : Int32) (x7 : Int32) (μ : Mem) : Option (Int32 × Mem) :=
  lb (x7 + (1 : Int32)) (fun x7_1 => kc_62 x1 x2 x3 x4 x5 x7_1 μ)
set_option maxHeartbeats 4000000 in
theorem j_X11_feed_109 {C : Cx} (hC : Ok C cX11_feed 9 RX11 (rmF 1 26)) (hr : (cT C).sig.returnType = (some .int)) (kc_62 : Int32 → Int32 → Int32 → Int32 → Int32 → Int32 → Mem → Option (Int32 × Mem)) (hk_62 : ∀ (x1 : Int32) (x2 : Int32) (x3 : Int32) (x4 : Int32) (x5 : Int32) (x7 : Int32) (μ : Mem), J C (KI C) μ 62 [(0, .ref (xad (cX C) 107)), (1, .int x1), (2, .int x2), (3, .int x3), (4, .int x4), (5, .int x5), (7, .int x7)] [] (kc_62 x1 x2 x3 x4 x5 x7 μ)) (x1 : Int32) (x2 : Int32) (x3 : Int32) (x4 : Int32) (x5 : Int32) (x7 : Int32) (μ : Mem) : J C (KI C) μ 109 [(0, .ref (xad (cX C) 107)), (1, .int x1), (2, .int x2), (3, .int x3), (4, .int x4), (5, .int x5), (7, .int x7)] [] (F_X11_feed_109 kc_62 x1 x2 x3 x4 x5 x7 μ) := by
  unfold F_X11_feed_109
  refine J.iinc (j := 6) (fun x7_1 => [(7, .int x7_1), (0, .ref (xad (cX C) 107)), (1, .int x1), (2, .int x2), (3, .int x3), (4, .int x4), (5, .int x5)]) hC eX11_feed_109 rfl ci_1 (by decide) (fun _ => rfl) (fun x7_1 => ?_)
  refine J.goto hC eX11_feed_112 ?_
  refine J.sub [1, 2, 3, 4, 5, 6, 0] rfl ?_
  exact hk_62 x1 x2 x3 x4 x5 x7_1 μ
def L_X11_feed_62 : Nat → Int32 → Int32 → Int32 → Int32 → Int32 → Int32 → Mem → Option (Int32 × Mem)
  | 0, _, _, _, _, _, _, _ => none
  | n + 1, x1, x2, x3, x4, x5, x7, μ => if (20 : Int32) ≤ x7 then some (rI μ 107 2, μ) else bd (G_X11_byteOf x1 x2 x3 x4 x5 x7 μ) (fun r_2 μ_1 => if r_2 = 0 then F_X11_feed_109 (L_X11_feed_62  n) x1 x2 x3 x4 x5 x7 μ_1 else gq (inB (rI μ_1 107 2) 240) (lb (wI μ_1 108 (nx (rI μ_1 107 2)) r_2) (fun μ_3 => lb (wI μ_3 107 2 ((rI μ_3 107 2) + (1 : Int32))) (fun μ_4 => F_X11_feed_109 (L_X11_feed_62  n) x1 x2 x3 x4 x5 x7 μ_4))))
set_option maxHeartbeats 4000000 in
theorem j_X11_feed_62 {C : Cx} (hC : Ok C cX11_feed 9 RX11 (rmF 1 26)) (hr : (cT C).sig.returnType = (some .int)) : ∀ (n : Nat) (x1 : Int32) (x2 : Int32) (x3 : Int32) (x4 : Int32) (x5 : Int32) (x7 : Int32) (μ : Mem), J C (KI C) μ 62 [(0, .ref (xad (cX C) 107)), (1, .int x1), (2, .int x2), (3, .int x3), (4, .int x4), (5, .int x5), (7, .int x7)] [] (L_X11_feed_62  n x1 x2 x3 x4 x5 x7 μ) := by
  intro n
  induction n with
  | zero => intros; exact J.no
  | succ n ih =>
    intro x1 x2 x3 x4 x5 x7 μ
    rw [L_X11_feed_62]
    refine J.iload (j := 6) hC eX11_feed_62 rfl ?_
    refine J.bipush hC eX11_feed_64 cb_20 ?_
    refine J.icmp_ge hC eX11_feed_66 (fun _ => ?_) (fun _ => ?_)
    · refine J.aload_n (j := 0) hC eX11_feed_115 rfl ?_
      refine gf_X11_74 hC eX11_feed_116 kk_107 ?_
      exact J.iret hC hr eX11_feed_119
    · refine J.iload_n (j := 1) hC eX11_feed_69 rfl ?_
      refine J.iload_n (j := 2) hC eX11_feed_70 rfl ?_
      refine J.iload_n (j := 3) hC eX11_feed_71 rfl ?_
      refine J.iload (j := 4) hC eX11_feed_72 rfl ?_
      refine J.iload (j := 5) hC eX11_feed_74 rfl ?_
      refine J.iload (j := 6) hC eX11_feed_76 rfl ?_
      refine J.callSI (st := []) hC eX11_feed_78 ml_X11_70 mv_X11_byteOf (Rle_of (Nat.le_of_ble_eq_true rfl) (Nat.le_of_ble_eq_true rfl)) (c_X11_byteOf hC.X x1 x2 x3 x4 x5 x7 μ) rfl rfl (Nat.le_of_ble_eq_true rfl) (fun r_2 μ_1 => ?_)
      refine J.istore [(8, .int r_2), (0, .ref (xad (cX C) 107)), (1, .int x1), (2, .int x2), (3, .int x3), (4, .int x4), (5, .int x5), (7, .int x7)] hC eX11_feed_81 (by decide) rfl ?_
      refine J.iload (j := 0) hC eX11_feed_83 rfl ?_
      refine J.if_eq hC eX11_feed_85 (fun _ => ?_) (fun _ => ?_)
      · refine J.sub [1, 2, 3, 4, 5, 6, 7] rfl ?_
        exact j_X11_feed_109 hC hr (L_X11_feed_62  n) ih x1 x2 x3 x4 x5 x7 μ_1
      · refine J.aload_n (j := 1) hC eX11_feed_88 rfl ?_
        refine gf_X11_9 (q := 108) hC eX11_feed_89 kk_107 rfl ?_
        refine J.aload_n (j := 1) hC eX11_feed_92 rfl ?_
        refine gf_X11_74 hC eX11_feed_93 kk_107 ?_
        refine J.iload (j := 0) hC eX11_feed_96 rfl ?_
        refine J.iast ik_240 hC eX11_feed_98 kk_108 (fun μ_3 => ?_)
        refine J.aload_n (j := 1) hC eX11_feed_99 rfl ?_
        refine J.dup hC eX11_feed_100 rfl ?_
        refine gf_X11_74 hC eX11_feed_101 kk_107 ?_
        refine J.iconst hC eX11_feed_104 ci_1 ?_
        refine J.iadd hC eX11_feed_105 ?_
        refine pf_X11_74 hC eX11_feed_106 kk_107 (fun μ_4 => ?_)
        refine J.sub [1, 2, 3, 4, 5, 6, 7] rfl ?_
        exact j_X11_feed_109 hC hr (L_X11_feed_62  n) ih x1 x2 x3 x4 x5 x7 μ_4
def F_X11_feed_35 (kc_6 : Int32 → Int32 → Int32 → Int32 → Int32 → Int32 → Int32 → Mem → Option (Int32 × Mem)) (x1 : Int32) (x2 : Int32) (x3 : Int32) (x4 : Int32) (x5 : Int32) (x7 : Int32) (xs0 : Int32) (xs1 : Int32) (μ : Mem) : Option (Int32 × Mem) :=
  lb (xs0 + xs1) (fun x6_1 => lb (x7 + (1 : Int32)) (fun x7_2 => kc_6 x1 x2 x3 x4 x5 x6_1 x7_2 μ))
set_option maxHeartbeats 4000000 in
theorem j_X11_feed_35 {C : Cx} (hC : Ok C cX11_feed 9 RX11 (rmF 1 26)) (hr : (cT C).sig.returnType = (some .int)) (kc_6 : Int32 → Int32 → Int32 → Int32 → Int32 → Int32 → Int32 → Mem → Option (Int32 × Mem)) (hk_6 : ∀ (x1 : Int32) (x2 : Int32) (x3 : Int32) (x4 : Int32) (x5 : Int32) (x6 : Int32) (x7 : Int32) (μ : Mem), J C (KI C) μ 6 [(0, .ref (xad (cX C) 107)), (1, .int x1), (2, .int x2), (3, .int x3), (4, .int x4), (5, .int x5), (6, .int x6), (7, .int x7)] [] (kc_6 x1 x2 x3 x4 x5 x6 x7 μ)) (x1 : Int32) (x2 : Int32) (x3 : Int32) (x4 : Int32) (x5 : Int32) (x7 : Int32) (xs0 : Int32) (xs1 : Int32) (μ : Mem) : J C (KI C) μ 35 [(0, .ref (xad (cX C) 107)), (1, .int x1), (2, .int x2), (3, .int x3), (4, .int x4), (5, .int x5), (7, .int x7)] [.int xs1, .int xs0] (F_X11_feed_35 kc_6 x1 x2 x3 x4 x5 x7 xs0 xs1 μ) := by
  unfold F_X11_feed_35
  refine J.iadd hC eX11_feed_35 ?_
  refine J.topi (fun x6_1 => ?_)
  refine J.istore [(6, .int x6_1), (0, .ref (xad (cX C) 107)), (1, .int x1), (2, .int x2), (3, .int x3), (4, .int x4), (5, .int x5), (7, .int x7)] hC eX11_feed_36 (by decide) rfl ?_
  refine J.iinc (j := 7) (fun x7_2 => [(7, .int x7_2), (6, .int x6_1), (0, .ref (xad (cX C) 107)), (1, .int x1), (2, .int x2), (3, .int x3), (4, .int x4), (5, .int x5)]) hC eX11_feed_38 rfl ci_1 (by decide) (fun _ => rfl) (fun x7_2 => ?_)
  refine J.goto hC eX11_feed_41 ?_
  refine J.sub [2, 3, 4, 5, 6, 7, 1, 0] rfl ?_
  exact hk_6 x1 x2 x3 x4 x5 x6_1 x7_2 μ
def L_X11_feed_6 : Nat → Int32 → Int32 → Int32 → Int32 → Int32 → Int32 → Int32 → Mem → Option (Int32 × Mem)
  | 0, _, _, _, _, _, _, _, _ => none
  | n + 1, x1, x2, x3, x4, x5, x6, x7, μ => if (20 : Int32) ≤ x7 then if ((rI μ 107 2) + x6) ≤ (240 : Int32) then L_X11_feed_62  100000 x1 x2 x3 x4 x5 (0 : Int32) μ else some ((-1 : Int32), μ) else bd (G_X11_byteOf x1 x2 x3 x4 x5 x7 μ) (fun r_2 μ_1 => if r_2 = 0 then F_X11_feed_35 (L_X11_feed_6  n) x1 x2 x3 x4 x5 x7 x6 (0 : Int32) μ_1 else F_X11_feed_35 (L_X11_feed_6  n) x1 x2 x3 x4 x5 x7 x6 (1 : Int32) μ_1)
set_option maxHeartbeats 4000000 in
theorem j_X11_feed_6 {C : Cx} (hC : Ok C cX11_feed 9 RX11 (rmF 1 26)) (hr : (cT C).sig.returnType = (some .int)) : ∀ (n : Nat) (x1 : Int32) (x2 : Int32) (x3 : Int32) (x4 : Int32) (x5 : Int32) (x6 : Int32) (x7 : Int32) (μ : Mem), J C (KI C) μ 6 [(0, .ref (xad (cX C) 107)), (1, .int x1), (2, .int x2), (3, .int x3), (4, .int x4), (5, .int x5), (6, .int x6), (7, .int x7)] [] (L_X11_feed_6  n x1 x2 x3 x4 x5 x6 x7 μ) := by
  intro n
  induction n with
  | zero => intros; exact J.no
  | succ n ih =>
    intro x1 x2 x3 x4 x5 x6 x7 μ
    rw [L_X11_feed_6]
    refine J.iload (j := 7) hC eX11_feed_6 rfl ?_
    refine J.bipush hC eX11_feed_8 cb_20 ?_
    refine J.icmp_ge hC eX11_feed_10 (fun _ => ?_) (fun _ => ?_)
    · refine J.aload_n (j := 0) hC eX11_feed_44 rfl ?_
      refine gf_X11_74 hC eX11_feed_45 kk_107 ?_
      refine J.iload (j := 6) hC eX11_feed_48 rfl ?_
      refine J.iadd hC eX11_feed_50 ?_
      refine J.sipush hC eX11_feed_51 cs_240 ?_
      refine J.icmp_le hC eX11_feed_54 (fun _ => ?_) (fun _ => ?_)
      · refine J.iconst hC eX11_feed_59 ci_0 ?_
        refine J.istore [(7, .int (0 : Int32)), (0, .ref (xad (cX C) 107)), (1, .int x1), (2, .int x2), (3, .int x3), (4, .int x4), (5, .int x5), (6, .int x6)] hC eX11_feed_60 (by decide) rfl ?_
        refine J.sub [1, 2, 3, 4, 5, 6, 0] rfl ?_
        exact j_X11_feed_62 hC hr  100000 x1 x2 x3 x4 x5 (0 : Int32) μ
      · refine J.iconst hC eX11_feed_57 ci_m1 ?_
        exact J.iret hC hr eX11_feed_58
    · refine J.iload (j := 6) hC eX11_feed_13 rfl ?_
      refine J.iload_n (j := 1) hC eX11_feed_15 rfl ?_
      refine J.iload_n (j := 2) hC eX11_feed_16 rfl ?_
      refine J.iload_n (j := 3) hC eX11_feed_17 rfl ?_
      refine J.iload (j := 4) hC eX11_feed_18 rfl ?_
      refine J.iload (j := 5) hC eX11_feed_20 rfl ?_
      refine J.iload (j := 7) hC eX11_feed_22 rfl ?_
      refine J.callSI (st := [.int x6]) hC eX11_feed_24 ml_X11_70 mv_X11_byteOf (Rle_of (Nat.le_of_ble_eq_true rfl) (Nat.le_of_ble_eq_true rfl)) (c_X11_byteOf hC.X x1 x2 x3 x4 x5 x7 μ) rfl rfl (Nat.le_of_ble_eq_true rfl) (fun r_2 μ_1 => ?_)
      refine J.if_eq hC eX11_feed_27 (fun _ => ?_) (fun _ => ?_)
      · refine J.iconst hC eX11_feed_34 ci_0 ?_
        refine J.sub [0, 1, 2, 3, 4, 5, 7] rfl ?_
        exact j_X11_feed_35 hC hr (L_X11_feed_6  n) ih x1 x2 x3 x4 x5 x7 x6 (0 : Int32) μ_1
      · refine J.iconst hC eX11_feed_30 ci_1 ?_
        refine J.goto hC eX11_feed_31 ?_
        refine J.sub [0, 1, 2, 3, 4, 5, 7] rfl ?_
        exact j_X11_feed_35 hC hr (L_X11_feed_6  n) ih x1 x2 x3 x4 x5 x7 x6 (1 : Int32) μ_1
def G_X11_feed (x1 : Int32) (x2 : Int32) (x3 : Int32) (x4 : Int32) (x5 : Int32) (μ : Mem) : Option (Int32 × Mem) :=
  L_X11_feed_6  100000 x1 x2 x3 x4 x5 (0 : Int32) (0 : Int32) μ
set_option maxHeartbeats 4000000 in
theorem c_X11_feed {X : Wd} (hX : WdOk X) (x1 : Int32) (x2 : Int32) (x3 : Int32) (x4 : Int32) (x5 : Int32) (μ : Mem) : CtI X yX11_feed cX11_feed 9 (some .int) (rmF 1 26) [.ref (xad X 107), .int x1, .int x2, .int x3, .int x4, .int x5] μ (G_X11_feed x1 x2 x3 x4 x5 μ) := by
  refine CtI.of hX (plainFor_of_name (by decide)) (by exact Nat.le_of_ble_eq_true rfl) ?_
  intro C hCX hC hr
  subst hCX
  show J C (KI C) μ 0 [(0, .ref (xad (cX C) 107)), (1, .int x1), (2, .int x2), (3, .int x3), (4, .int x4), (5, .int x5)] [] _
  unfold G_X11_feed
  refine J.iconst hC eX11_feed_0 ci_0 ?_
  refine J.istore [(6, .int (0 : Int32)), (0, .ref (xad (cX C) 107)), (1, .int x1), (2, .int x2), (3, .int x3), (4, .int x4), (5, .int x5)] hC eX11_feed_1 (by decide) rfl ?_
  refine J.iconst hC eX11_feed_3 ci_0 ?_
  refine J.istore [(7, .int (0 : Int32)), (6, .int (0 : Int32)), (0, .ref (xad (cX C) 107)), (1, .int x1), (2, .int x2), (3, .int x3), (4, .int x4), (5, .int x5)] hC eX11_feed_4 (by decide) rfl ?_
  refine J.sub [2, 3, 4, 5, 6, 7, 1, 0] rfl ?_
  exact j_X11_feed_6 hC hr  100000 x1 x2 x3 x4 x5 (0 : Int32) (0 : Int32) μ
-- X11_end
theorem eX11_end_0 : DD cX11_end 0 (.iload_n 1) 1 1 := ⟨by decide +kernel, rfl⟩
theorem eX11_end_1 : DD cX11_end 1 (.i2l) 1 2 := ⟨by decide +kernel, rfl⟩
theorem eX11_end_2 : DD cX11_end 2 (.lconst 0) 1 3 := ⟨by decide +kernel, rfl⟩
theorem eX11_end_3 : DD cX11_end 3 (.aload_n 0) 1 4 := ⟨by decide +kernel, rfl⟩
theorem eX11_end_4 : DD cX11_end 4 (.getfield 74) 3 7 := ⟨by decide +kernel, rfl⟩
theorem eX11_end_7 : DD cX11_end 7 (.i2l) 1 8 := ⟨by decide +kernel, rfl⟩
theorem eX11_end_8 : DD cX11_end 8 (.invokestatic 77) 3 11 := ⟨by decide +kernel, rfl⟩
theorem eX11_end_11 : DB cX11_end 11 (.ifCond .ne 5) (5) 14 16 := ⟨by decide +kernel, rfl, by decide⟩
theorem eX11_end_14 : DD cX11_end 14 (.iconst 0) 1 15 := ⟨by decide +kernel, rfl⟩
theorem eX11_end_15 : DD cX11_end 15 (.ireturn) 1 16 := ⟨by decide +kernel, rfl⟩
theorem eX11_end_16 : DD cX11_end 16 (.aload_n 0) 1 17 := ⟨by decide +kernel, rfl⟩
theorem eX11_end_17 : DD cX11_end 17 (.iload_n 1) 1 18 := ⟨by decide +kernel, rfl⟩
theorem eX11_end_18 : DD cX11_end 18 (.putfield 74) 3 21 := ⟨by decide +kernel, rfl⟩
theorem eX11_end_21 : DD cX11_end 21 (.iconst 1) 1 22 := ⟨by decide +kernel, rfl⟩
theorem eX11_end_22 : DD cX11_end 22 (.ireturn) 1 23 := ⟨by decide +kernel, rfl⟩
def G_X11_end (x1 : Int32) (μ : Mem) : Option (Int32 × Mem) :=
  bd (G_X11_in x1.toInt64 (0 : Int64) ((rI μ 107 2).toInt64) μ) (fun r_2 μ_1 => if r_2 = 0 then some ((0 : Int32), μ_1) else lb (wI μ_1 107 2 x1) (fun μ_3 => some ((1 : Int32), μ_3)))
set_option maxHeartbeats 4000000 in
theorem c_X11_end {X : Wd} (hX : WdOk X) (x1 : Int32) (μ : Mem) : CtI X yX11_end cX11_end 2 (some .boolean) (rmF 1 25) [.ref (xad X 107), .int x1] μ (G_X11_end x1 μ) := by
  refine CtI.of hX (plainFor_of_name (by decide)) (by exact Nat.le_of_ble_eq_true rfl) ?_
  intro C hCX hC hr
  subst hCX
  show J C (KI C) μ 0 [(0, .ref (xad (cX C) 107)), (1, .int x1)] [] _
  unfold G_X11_end
  refine J.iload_n (j := 1) hC eX11_end_0 rfl ?_
  refine J.i2l hC eX11_end_1 ?_
  refine J.lconst hC eX11_end_2 cl_0 ?_
  refine J.aload_n (j := 0) hC eX11_end_3 rfl ?_
  refine gf_X11_74 hC eX11_end_4 kk_107 ?_
  refine J.i2l hC eX11_end_7 ?_
  refine J.callSI (st := []) hC eX11_end_8 ml_X11_77 mv_X11_in (Rle_of (Nat.le_of_ble_eq_true rfl) (Nat.le_of_ble_eq_true rfl)) (c_X11_in hC.X x1.toInt64 (0 : Int64) ((rI μ 107 2).toInt64) μ) rfl rfl (Nat.le_of_ble_eq_true rfl) (fun r_2 μ_1 => ?_)
  refine J.if_ne hC eX11_end_11 (fun _ => ?_) (fun _ => ?_)
  · refine J.iconst hC eX11_end_14 ci_0 ?_
    exact J.zretB hC hr eX11_end_15 rfl
  · refine J.aload_n (j := 0) hC eX11_end_16 rfl ?_
    refine J.iload_n (j := 1) hC eX11_end_17 rfl ?_
    refine pf_X11_74 hC eX11_end_18 kk_107 (fun μ_3 => ?_)
    refine J.iconst hC eX11_end_21 ci_1 ?_
    exact J.zretB hC hr eX11_end_22 rfl
