/-! all answers agree, one after another -/
section LA
theorem Ans.zi {c : Nat} {G1 : Option (Int32 × Mem)} {G2 : Mem → Option (Int32 × Mem)} (h : Ans c G1 G2) {k : Mem → Option Unit} (hk : ∀ μ', RR (c + 1) μ' → k μ' = some ()) : bd G1 (fun r_2 μ_1 => bd (G2 μ_1) (fun r_4 μ_3 => if r_2 = r_4 then k μ_3 else none)) = some () := by
  obtain ⟨r, μ1, μ2, e1, e2, hr⟩ := h
  rw [bd_eq e1, bd_eq e2, if_pos rfl, hk _ hr]
theorem Ans.zl {c : Nat} {G1 : Option (Int64 × Mem)} {G2 : Mem → Option (Int64 × Mem)} (h : Ans c G1 G2) {k : Mem → Option Unit} (hk : ∀ μ', RR (c + 1) μ' → k μ' = some ()) : bd G1 (fun r_2 μ_1 => bd (G2 μ_1) (fun r_4 μ_3 => if lg_cmp r_2 r_4 = 0 then k μ_3 else none)) = some () := by
  obtain ⟨r, μ1, μ2, e1, e2, hr⟩ := h
  rw [bd_eq e1, bd_eq e2, if_pos ((cmp_eq r r).mpr rfl), hk _ hr]
variable {L c : Nat} {ys : Nat → Int32} {kc : Int32 → Mem → Option Unit} {x : Int32} {μ : Mem}
theorem zz_0 (h : RR c μ) (hc : c ≤ 600) (b1 : inB (x + 1) L = true) (b2 : inB (x + 2) L = true) (b3 : inB (x + 3) L = true) (b4 : inB (x + 4) L = true) (b5 : inB (x + 5) L = true) (hk : ∀ μ', RR (c + 1) μ' → kc x μ' = some ()) : Z_0 L ys kc x μ = some () := by
  unfold Z_0
  simp only [b1, b2, b3, b4, b5, gq_t]
  exact (a_feed h _ _ _ _ _).zi hk
theorem zz_1 (h : RR c μ) (hc : c ≤ 600) (b1 : inB (x + 1) L = true) (b2 : inB (x + 2) L = true) (b3 : inB (x + 3) L = true) (b4 : inB (x + 4) L = true) (b5 : inB (x + 5) L = true) (hk : ∀ μ', RR (c + 1) μ' → kc x μ' = some ()) : Z_1 L ys kc x μ = some () := by
  unfold Z_1
  simp only [b1, gq_t]
  exact (a_end h _).zi hk
theorem zz_2 (h : RR c μ) (hc : c ≤ 600) (b1 : inB (x + 1) L = true) (b2 : inB (x + 2) L = true) (b3 : inB (x + 3) L = true) (b4 : inB (x + 4) L = true) (b5 : inB (x + 5) L = true) (hk : ∀ μ', RR (c + 1) μ' → kc x μ' = some ()) : Z_2 L ys kc x μ = some () := by
  unfold Z_2
  simp only [b1, gq_t]
  exact (a_fault h _).zi hk
theorem zz_3 (h : RR c μ) (hc : c ≤ 600) (b1 : inB (x + 1) L = true) (b2 : inB (x + 2) L = true) (b3 : inB (x + 3) L = true) (b4 : inB (x + 4) L = true) (b5 : inB (x + 5) L = true) (hk : ∀ μ', RR (c + 1) μ' → kc x μ' = some ()) : Z_3 L ys kc x μ = some () := by
  unfold Z_3
  simp only [b1, gq_t]
  exact (a_text h _).zi hk
theorem zz_4 (h : RR c μ) (hc : c ≤ 600) (b1 : inB (x + 1) L = true) (b2 : inB (x + 2) L = true) (b3 : inB (x + 3) L = true) (b4 : inB (x + 4) L = true) (b5 : inB (x + 5) L = true) (hk : ∀ μ', RR (c + 1) μ' → kc x μ' = some ()) : Z_4 L ys kc x μ = some () := by
  unfold Z_4
  simp only [b1, gq_t]
  exact (a_rule h _).zi hk
theorem zz_5 (h : RR c μ) (hc : c ≤ 600) (b1 : inB (x + 1) L = true) (b2 : inB (x + 2) L = true) (b3 : inB (x + 3) L = true) (b4 : inB (x + 4) L = true) (b5 : inB (x + 5) L = true) (hk : ∀ μ', RR (c + 1) μ' → kc x μ' = some ()) : Z_5 L ys kc x μ = some () := by
  unfold Z_5
  simp only [b1, b2, gq_t]
  obtain ⟨k, μ1, r, μ2, e1, e2, e3, e4, hr⟩ := a_table h (ys (nx (x + 1))) (ys (nx (x + 2)))
  have et : G_X11_thrown μ2 = some (rI μ2 107 0, μ2) := rfl
  rw [bd_eq e1, bd_eq e2, bd_eq et, e3, if_pos rfl]
  by_cases q : k = 0
  · rw [if_pos q, if_pos ((cmp_eq _ _).mpr (e4 q)), hk _ hr]
  · rw [if_neg q, hk _ hr]
theorem zz_6 (h : RR c μ) (hc : c ≤ 600) (b1 : inB (x + 1) L = true) (b2 : inB (x + 2) L = true) (b3 : inB (x + 3) L = true) (b4 : inB (x + 4) L = true) (b5 : inB (x + 5) L = true) (hk : ∀ μ', RR (c + 1) μ' → kc x μ' = some ()) : Z_6 L ys kc x μ = some () := by
  unfold Z_6
  simp only [b1, b2, b3, gq_t]
  exact (a_rows h _ _ _).zi hk
theorem zz_7 (h : RR c μ) (hc : c ≤ 600) (b1 : inB (x + 1) L = true) (b2 : inB (x + 2) L = true) (b3 : inB (x + 3) L = true) (b4 : inB (x + 4) L = true) (b5 : inB (x + 5) L = true) (hk : ∀ μ', RR (c + 1) μ' → kc x μ' = some ()) : Z_7 L ys kc x μ = some () := by
  unfold Z_7
  simp only [b1, b2, b3, gq_t]
  exact (a_countOf h _ _ _).zi hk
theorem zz_8 (h : RR c μ) (hc : c ≤ 600) (b1 : inB (x + 1) L = true) (b2 : inB (x + 2) L = true) (b3 : inB (x + 3) L = true) (b4 : inB (x + 4) L = true) (b5 : inB (x + 5) L = true) (hk : ∀ μ', RR (c + 1) μ' → kc x μ' = some ()) : Z_8 L ys kc x μ = some () := by
  unfold Z_8
  simp only [b1, b2, b3, b4, gq_t]
  exact (a_bucket h _ _ _ _).zi hk
theorem zz_9 (h : RR c μ) (hc : c ≤ 600) (b1 : inB (x + 1) L = true) (b2 : inB (x + 2) L = true) (b3 : inB (x + 3) L = true) (b4 : inB (x + 4) L = true) (b5 : inB (x + 5) L = true) (hk : ∀ μ', RR (c + 1) μ' → kc x μ' = some ()) : Z_9 L ys kc x μ = some () := by
  unfold Z_9
  simp only [b1, b2, b3, gq_t]
  exact (a_column h _ _ _).zi hk
theorem zz_10 (h : RR c μ) (hc : c ≤ 600) (b1 : inB (x + 1) L = true) (b2 : inB (x + 2) L = true) (b3 : inB (x + 3) L = true) (b4 : inB (x + 4) L = true) (b5 : inB (x + 5) L = true) (hk : ∀ μ', RR (c + 1) μ' → kc x μ' = some ()) : Z_10 L ys kc x μ = some () := by
  unfold Z_10
  simp only [b1, b2, b3, gq_t]
  exact (a_error h _ _ _).zl hk
theorem zz_11 (h : RR c μ) (hc : c ≤ 600) (b1 : inB (x + 1) L = true) (b2 : inB (x + 2) L = true) (b3 : inB (x + 3) L = true) (b4 : inB (x + 4) L = true) (b5 : inB (x + 5) L = true) (hk : ∀ μ', RR (c + 1) μ' → kc x μ' = some ()) : Z_11 L ys kc x μ = some () := by
  unfold Z_11
  simp only [b1, b2, b3, b4, gq_t]
  exact (a_border h _ _ _ _).zi hk
theorem zz_12 (h : RR c μ) (hc : c ≤ 600) (b1 : inB (x + 1) L = true) (b2 : inB (x + 2) L = true) (b3 : inB (x + 3) L = true) (b4 : inB (x + 4) L = true) (b5 : inB (x + 5) L = true) (hk : ∀ μ', RR (c + 1) μ' → kc x μ' = some ()) : Z_12 L ys kc x μ = some () := by
  unfold Z_12
  simp only [b1, b2, b3, b4, gq_t]
  exact (a_tried h _ _ _ _).zi hk
theorem zz_13 (h : RR c μ) (hc : c ≤ 600) (b1 : inB (x + 1) L = true) (b2 : inB (x + 2) L = true) (b3 : inB (x + 3) L = true) (b4 : inB (x + 4) L = true) (b5 : inB (x + 5) L = true) (hk : ∀ μ', RR (c + 1) μ' → kc x μ' = some ()) : Z_13 L ys kc x μ = some () := by
  unfold Z_13
  simp only [b1, b2, b3, b4, gq_t]
  exact (a_fewest h _ _ _).zi hk
theorem zz_14 (h : RR c μ) (hc : c ≤ 600) (b1 : inB (x + 1) L = true) (b2 : inB (x + 2) L = true) (b3 : inB (x + 3) L = true) (b4 : inB (x + 4) L = true) (b5 : inB (x + 5) L = true) (hk : ∀ μ', RR (c + 1) μ' → kc x μ' = some ()) : Z_14 L ys kc x μ = some () := by
  unfold Z_14
  simp only [b1, b2, b3, b4, gq_t]
  exact (a_add h hc _ _ _ _).zi hk
theorem zz_15 (h : RR c μ) (hc : c ≤ 600) (b1 : inB (x + 1) L = true) (b2 : inB (x + 2) L = true) (b3 : inB (x + 3) L = true) (b4 : inB (x + 4) L = true) (b5 : inB (x + 5) L = true) (hk : ∀ μ', RR (c + 1) μ' → kc x μ' = some ()) : Z_15 L ys kc x μ = some () := by
  unfold Z_15
  simp only [b1, b2, b3, b4, gq_t]
  exact (a_drop h hc _ _ _ _).zi hk
theorem zz_16 (h : RR c μ) (hc : c ≤ 600) (b1 : inB (x + 1) L = true) (b2 : inB (x + 2) L = true) (b3 : inB (x + 3) L = true) (b4 : inB (x + 4) L = true) (b5 : inB (x + 5) L = true) (hk : ∀ μ', RR (c + 1) μ' → kc x μ' = some ()) : Z_16 L ys kc x μ = some () := by
  unfold Z_16
  simp only [b1, b2, b3, b4, b5, gq_t]
  exact (a_move h hc _ _ _ _ _).zi hk
theorem zz_17 (h : RR c μ) (hc : c ≤ 600) (b1 : inB (x + 1) L = true) (b2 : inB (x + 2) L = true) (b3 : inB (x + 3) L = true) (b4 : inB (x + 4) L = true) (b5 : inB (x + 5) L = true) (hk : ∀ μ', RR (c + 1) μ' → kc x μ' = some ()) : Z_17 L ys kc x μ = some () := by
  unfold Z_17
  simp only [b1, b2, gq_t]
  exact (a_build h hc _ _).zi hk
theorem zz_18 (h : RR c μ) (hc : c ≤ 600) (b1 : inB (x + 1) L = true) (b2 : inB (x + 2) L = true) (b3 : inB (x + 3) L = true) (b4 : inB (x + 4) L = true) (b5 : inB (x + 5) L = true) (hk : ∀ μ', RR (c + 1) μ' → kc x μ' = some ()) : Z_18 L ys kc x μ = some () := by
  unfold Z_18
  simp only [b1, gq_t]
  exact (a_budget h hc _).zi hk
theorem zz_19 (h : RR c μ) (hc : c ≤ 600) (b1 : inB (x + 1) L = true) (b2 : inB (x + 2) L = true) (b3 : inB (x + 3) L = true) (b4 : inB (x + 4) L = true) (b5 : inB (x + 5) L = true) (hk : ∀ μ', RR (c + 1) μ' → kc x μ' = some ()) : Z_19 L ys kc x μ = some () := by
  unfold Z_19
  simp only [b1, b2, b3, gq_t]
  exact (a_years h hc _ _).zi hk
theorem zz_20 (h : RR c μ) (hc : c ≤ 600) (b1 : inB (x + 1) L = true) (b2 : inB (x + 2) L = true) (b3 : inB (x + 3) L = true) (b4 : inB (x + 4) L = true) (b5 : inB (x + 5) L = true) (hk : ∀ μ', RR (c + 1) μ' → kc x μ' = some ()) : Z_20 L ys kc x μ = some () := by
  unfold Z_20
  simp only [b1, gq_t]
  exact (a_status h _).zi hk
theorem zz_21 (h : RR c μ) (hc : c ≤ 600) (b1 : inB (x + 1) L = true) (b2 : inB (x + 2) L = true) (b3 : inB (x + 3) L = true) (b4 : inB (x + 4) L = true) (b5 : inB (x + 5) L = true) (hk : ∀ μ', RR (c + 1) μ' → kc x μ' = some ()) : Z_21 L ys kc x μ = some () := by
  unfold Z_21
  exact (a_undo h hc).zi hk
theorem zz_22 (h : RR c μ) (hc : c ≤ 600) (b1 : inB (x + 1) L = true) (b2 : inB (x + 2) L = true) (b3 : inB (x + 3) L = true) (b4 : inB (x + 4) L = true) (b5 : inB (x + 5) L = true) (hk : ∀ μ', RR (c + 1) μ' → kc x μ' = some ()) : Z_22 L ys kc x μ = some () := by
  unfold Z_22
  simp only [b1, b2, gq_t]
  exact (a_log h hc _ _).zi hk
theorem zz_23 (h : RR c μ) (hc : c ≤ 600) (b1 : inB (x + 1) L = true) (b2 : inB (x + 2) L = true) (b3 : inB (x + 3) L = true) (b4 : inB (x + 4) L = true) (b5 : inB (x + 5) L = true) (hk : ∀ μ', RR (c + 1) μ' → kc x μ' = some ()) : Z_23 L ys kc x μ = some () := by
  unfold Z_23
  simp only [b1, b2, b3, gq_t]
  exact (a_where h _ _ _).zi hk
theorem zz_24 (h : RR c μ) (hc : c ≤ 600) (b1 : inB (x + 1) L = true) (b2 : inB (x + 2) L = true) (b3 : inB (x + 3) L = true) (b4 : inB (x + 4) L = true) (b5 : inB (x + 5) L = true) (hk : ∀ μ', RR (c + 1) μ' → kc x μ' = some ()) : Z_24 L ys kc x μ = some () := by
  unfold Z_24
  simp only [b1, b2, b3, b4, b5, gq_t]
  exact (a_join h _ _ _ _ _).zl hk
theorem zz_25 (h : RR c μ) (hc : c ≤ 600) (b1 : inB (x + 1) L = true) (b2 : inB (x + 2) L = true) (b3 : inB (x + 3) L = true) (b4 : inB (x + 4) L = true) (b5 : inB (x + 5) L = true) (hk : ∀ μ', RR (c + 1) μ' → kc x μ' = some ()) : Z_25 L ys kc x μ = some () := by
  unfold Z_25
  simp only [b1, gq_t]
  exact (a_chain h _).zl hk
theorem zz_26 (h : RR c μ) (hc : c ≤ 600) (b1 : inB (x + 1) L = true) (b2 : inB (x + 2) L = true) (b3 : inB (x + 3) L = true) (b4 : inB (x + 4) L = true) (b5 : inB (x + 5) L = true) (hk : ∀ μ', RR (c + 1) μ' → kc x μ' = some ()) : Z_26 L ys kc x μ = some () := by
  unfold Z_26
  simp only [b1, gq_t]
  exact (a_trace h _).zi hk
theorem zz_27 (h : RR c μ) (hc : c ≤ 600) (b1 : inB (x + 1) L = true) (b2 : inB (x + 2) L = true) (b3 : inB (x + 3) L = true) (b4 : inB (x + 4) L = true) (b5 : inB (x + 5) L = true) (hk : ∀ μ', RR (c + 1) μ' → kc x μ' = some ()) : Z_27 L ys kc x μ = some () := by
  unfold Z_27
  simp only [b1, b2, b3, gq_t]
  exact (a_narrow h _ _ _).zi hk
theorem zz_28 (h : RR c μ) (hc : c ≤ 600) (b1 : inB (x + 1) L = true) (b2 : inB (x + 2) L = true) (b3 : inB (x + 3) L = true) (b4 : inB (x + 4) L = true) (b5 : inB (x + 5) L = true) (hk : ∀ μ', RR (c + 1) μ' → kc x μ' = some ()) : Z_28 L ys kc x μ = some () := by
  unfold Z_28
  simp only [b1, b2, b3, b4, gq_t]
  exact (a_odds h _ _ _ _).zl hk
theorem zz_29 (h : RR c μ) (hc : c ≤ 600) (b1 : inB (x + 1) L = true) (b2 : inB (x + 2) L = true) (b3 : inB (x + 3) L = true) (b4 : inB (x + 4) L = true) (b5 : inB (x + 5) L = true) (hk : ∀ μ', RR (c + 1) μ' → kc x μ' = some ()) : Z_29 L ys kc x μ = some () := by
  unfold Z_29
  simp only [b1, b2, b3, gq_t]
  exact (a_unit h _ _ _).zi hk
theorem zz_30 (h : RR c μ) (hc : c ≤ 600) (b1 : inB (x + 1) L = true) (b2 : inB (x + 2) L = true) (b3 : inB (x + 3) L = true) (b4 : inB (x + 4) L = true) (b5 : inB (x + 5) L = true) (hk : ∀ μ', RR (c + 1) μ' → kc x μ' = some ()) : Z_30 L ys kc x μ = some () := by
  unfold Z_30
  simp only [b1, b2, gq_t]
  exact (a_shares h _ _).zi hk
theorem zz_31 (h : RR c μ) (hc : c ≤ 600) (b1 : inB (x + 1) L = true) (b2 : inB (x + 2) L = true) (b3 : inB (x + 3) L = true) (b4 : inB (x + 4) L = true) (b5 : inB (x + 5) L = true) (hk : ∀ μ', RR (c + 1) μ' → kc x μ' = some ()) : Z_31 L ys kc x μ = some () := by
  unfold Z_31
  simp only [b1, gq_t]
  exact (a_most h _).zi hk
theorem zz_32 (h : RR c μ) (hc : c ≤ 600) (b1 : inB (x + 1) L = true) (b2 : inB (x + 2) L = true) (b3 : inB (x + 3) L = true) (b4 : inB (x + 4) L = true) (b5 : inB (x + 5) L = true) (hk : ∀ μ', RR (c + 1) μ' → kc x μ' = some ()) : Z_32 L ys kc x μ = some () := by
  unfold Z_32
  exact (a_image h).zi hk
theorem zz_33 (h : RR c μ) (hc : c ≤ 600) (b1 : inB (x + 1) L = true) (b2 : inB (x + 2) L = true) (b3 : inB (x + 3) L = true) (b4 : inB (x + 4) L = true) (b5 : inB (x + 5) L = true) (hk : ∀ μ', RR (c + 1) μ' → kc x μ' = some ()) : Z_33 L ys kc x μ = some () := by
  unfold Z_33
  exact (a_back h).zi hk
theorem zz_34 (h : RR c μ) (hc : c ≤ 600) (b1 : inB (x + 1) L = true) (b2 : inB (x + 2) L = true) (b3 : inB (x + 3) L = true) (b4 : inB (x + 4) L = true) (b5 : inB (x + 5) L = true) (hk : ∀ μ', RR (c + 1) μ' → kc x μ' = some ()) : Z_34 L ys kc x μ = some () := by
  unfold Z_34
  simp only [b1, gq_t]
  exact (a_count h hc _).zi hk
theorem step_ok (h : RR c μ) (hc : c ≤ 600) (b1 : inB (x + 1) L = true) (b2 : inB (x + 2) L = true) (b3 : inB (x + 3) L = true) (b4 : inB (x + 4) L = true) (b5 : inB (x + 5) L = true) (hk : ∀ μ', RR (c + 1) μ' → kc x μ' = some ()) : stepL L ys kc x μ = some () := by
  unfold stepL
  rw [lb_e]
  by_cases q0 : ys (nx x) &&& (63 : Int32) = (0 : Int32)
  · rw [if_pos q0]; exact zz_0 h hc b1 b2 b3 b4 b5 hk
  rw [if_neg q0]
  by_cases q1 : ys (nx x) &&& (63 : Int32) = (1 : Int32)
  · rw [if_pos q1]; exact zz_1 h hc b1 b2 b3 b4 b5 hk
  rw [if_neg q1]
  by_cases q2 : ys (nx x) &&& (63 : Int32) = (2 : Int32)
  · rw [if_pos q2]; exact zz_2 h hc b1 b2 b3 b4 b5 hk
  rw [if_neg q2]
  by_cases q3 : ys (nx x) &&& (63 : Int32) = (3 : Int32)
  · rw [if_pos q3]; exact zz_3 h hc b1 b2 b3 b4 b5 hk
  rw [if_neg q3]
  by_cases q4 : ys (nx x) &&& (63 : Int32) = (4 : Int32)
  · rw [if_pos q4]; exact zz_4 h hc b1 b2 b3 b4 b5 hk
  rw [if_neg q4]
  by_cases q5 : ys (nx x) &&& (63 : Int32) = (5 : Int32)
  · rw [if_pos q5]; exact zz_5 h hc b1 b2 b3 b4 b5 hk
  rw [if_neg q5]
  by_cases q6 : ys (nx x) &&& (63 : Int32) = (6 : Int32)
  · rw [if_pos q6]; exact zz_6 h hc b1 b2 b3 b4 b5 hk
  rw [if_neg q6]
  by_cases q7 : ys (nx x) &&& (63 : Int32) = (7 : Int32)
  · rw [if_pos q7]; exact zz_7 h hc b1 b2 b3 b4 b5 hk
  rw [if_neg q7]
  by_cases q8 : ys (nx x) &&& (63 : Int32) = (8 : Int32)
  · rw [if_pos q8]; exact zz_8 h hc b1 b2 b3 b4 b5 hk
  rw [if_neg q8]
  by_cases q9 : ys (nx x) &&& (63 : Int32) = (9 : Int32)
  · rw [if_pos q9]; exact zz_9 h hc b1 b2 b3 b4 b5 hk
  rw [if_neg q9]
  by_cases q10 : ys (nx x) &&& (63 : Int32) = (10 : Int32)
  · rw [if_pos q10]; exact zz_10 h hc b1 b2 b3 b4 b5 hk
  rw [if_neg q10]
  by_cases q11 : ys (nx x) &&& (63 : Int32) = (11 : Int32)
  · rw [if_pos q11]; exact zz_11 h hc b1 b2 b3 b4 b5 hk
  rw [if_neg q11]
  by_cases q12 : ys (nx x) &&& (63 : Int32) = (12 : Int32)
  · rw [if_pos q12]; exact zz_12 h hc b1 b2 b3 b4 b5 hk
  rw [if_neg q12]
  by_cases q13 : ys (nx x) &&& (63 : Int32) = (13 : Int32)
  · rw [if_pos q13]; exact zz_13 h hc b1 b2 b3 b4 b5 hk
  rw [if_neg q13]
  by_cases q14 : ys (nx x) &&& (63 : Int32) = (14 : Int32)
  · rw [if_pos q14]; exact zz_14 h hc b1 b2 b3 b4 b5 hk
  rw [if_neg q14]
  by_cases q15 : ys (nx x) &&& (63 : Int32) = (15 : Int32)
  · rw [if_pos q15]; exact zz_15 h hc b1 b2 b3 b4 b5 hk
  rw [if_neg q15]
  by_cases q16 : ys (nx x) &&& (63 : Int32) = (16 : Int32)
  · rw [if_pos q16]; exact zz_16 h hc b1 b2 b3 b4 b5 hk
  rw [if_neg q16]
  by_cases q17 : ys (nx x) &&& (63 : Int32) = (17 : Int32)
  · rw [if_pos q17]; exact zz_17 h hc b1 b2 b3 b4 b5 hk
  rw [if_neg q17]
  by_cases q18 : ys (nx x) &&& (63 : Int32) = (18 : Int32)
  · rw [if_pos q18]; exact zz_18 h hc b1 b2 b3 b4 b5 hk
  rw [if_neg q18]
  by_cases q19 : ys (nx x) &&& (63 : Int32) = (19 : Int32)
  · rw [if_pos q19]; exact zz_19 h hc b1 b2 b3 b4 b5 hk
  rw [if_neg q19]
  by_cases q20 : ys (nx x) &&& (63 : Int32) = (20 : Int32)
  · rw [if_pos q20]; exact zz_20 h hc b1 b2 b3 b4 b5 hk
  rw [if_neg q20]
  by_cases q21 : ys (nx x) &&& (63 : Int32) = (21 : Int32)
  · rw [if_pos q21]; exact zz_21 h hc b1 b2 b3 b4 b5 hk
  rw [if_neg q21]
  by_cases q22 : ys (nx x) &&& (63 : Int32) = (22 : Int32)
  · rw [if_pos q22]; exact zz_22 h hc b1 b2 b3 b4 b5 hk
  rw [if_neg q22]
  by_cases q23 : ys (nx x) &&& (63 : Int32) = (23 : Int32)
  · rw [if_pos q23]; exact zz_23 h hc b1 b2 b3 b4 b5 hk
  rw [if_neg q23]
  by_cases q24 : ys (nx x) &&& (63 : Int32) = (24 : Int32)
  · rw [if_pos q24]; exact zz_24 h hc b1 b2 b3 b4 b5 hk
  rw [if_neg q24]
  by_cases q25 : ys (nx x) &&& (63 : Int32) = (25 : Int32)
  · rw [if_pos q25]; exact zz_25 h hc b1 b2 b3 b4 b5 hk
  rw [if_neg q25]
  by_cases q26 : ys (nx x) &&& (63 : Int32) = (26 : Int32)
  · rw [if_pos q26]; exact zz_26 h hc b1 b2 b3 b4 b5 hk
  rw [if_neg q26]
  by_cases q27 : ys (nx x) &&& (63 : Int32) = (27 : Int32)
  · rw [if_pos q27]; exact zz_27 h hc b1 b2 b3 b4 b5 hk
  rw [if_neg q27]
  by_cases q28 : ys (nx x) &&& (63 : Int32) = (28 : Int32)
  · rw [if_pos q28]; exact zz_28 h hc b1 b2 b3 b4 b5 hk
  rw [if_neg q28]
  by_cases q29 : ys (nx x) &&& (63 : Int32) = (29 : Int32)
  · rw [if_pos q29]; exact zz_29 h hc b1 b2 b3 b4 b5 hk
  rw [if_neg q29]
  by_cases q30 : ys (nx x) &&& (63 : Int32) = (30 : Int32)
  · rw [if_pos q30]; exact zz_30 h hc b1 b2 b3 b4 b5 hk
  rw [if_neg q30]
  by_cases q31 : ys (nx x) &&& (63 : Int32) = (31 : Int32)
  · rw [if_pos q31]; exact zz_31 h hc b1 b2 b3 b4 b5 hk
  rw [if_neg q31]
  by_cases q32 : ys (nx x) &&& (63 : Int32) = (32 : Int32)
  · rw [if_pos q32]; exact zz_32 h hc b1 b2 b3 b4 b5 hk
  rw [if_neg q32]
  by_cases q33 : ys (nx x) &&& (63 : Int32) = (33 : Int32)
  · rw [if_pos q33]; exact zz_33 h hc b1 b2 b3 b4 b5 hk
  rw [if_neg q33]
  by_cases q34 : ys (nx x) &&& (63 : Int32) = (34 : Int32)
  · rw [if_pos q34]; exact zz_34 h hc b1 b2 b3 b4 b5 hk
  rw [if_neg q34]
  exact hk _ (h.up (by omega))
theorem law_all (hL : L ≤ 3072) : ∀ n c μ, RR c μ → n + c = 513 → 1 ≤ n → G_law L ys n (nI (6 * c)) μ = some () := by
  intro n
  induction n with
  | zero => intro c μ _ _ h; omega
  | succ n ih =>
    intro c μ h hn _
    rw [G_law, show Int32.ofNat L - (6 : Int32) = zI ((L : Int) - (6 : Nat)) from zI_sub L 6]
    by_cases q : 6 * c + 6 ≤ L
    · rw [if_neg (by rw [fa_lt, zI_toInt (by omega) (by omega), nI_toInt (by omega)]; omega), gq_in (by omega) (by omega)]
      refine step_ok h (by omega) ?_ ?_ ?_ ?_ ?_ (fun μ' hr => ?_)
      · rw [show nI (6 * c) + 1 = nI (6 * c + 1) from nI_add _ 1]; exact inB_nI (by omega) (by omega)
      · rw [show nI (6 * c) + 2 = nI (6 * c + 2) from nI_add _ 2]; exact inB_nI (by omega) (by omega)
      · rw [show nI (6 * c) + 3 = nI (6 * c + 3) from nI_add _ 3]; exact inB_nI (by omega) (by omega)
      · rw [show nI (6 * c) + 4 = nI (6 * c + 4) from nI_add _ 4]; exact inB_nI (by omega) (by omega)
      · rw [show nI (6 * c) + 5 = nI (6 * c + 5) from nI_add _ 5]; exact inB_nI (by omega) (by omega)
      · show lb (nI (6 * c) + 6) (fun y => G_law L ys n y μ') = some ()
        rw [lb_e, show nI (6 * c) + 6 = nI (6 * (c + 1)) from nI_add _ 6]
        exact ih (c + 1) μ' hr (by omega) (by omega)
    · rw [if_pos (by rw [fa_lt, zI_toInt (by omega) (by omega), nI_toInt (by omega)]; omega)]
theorem math_main (L : Nat) (ys : Nat → Int32) (hL : L ≤ 3072) : G_law L ys 513 0 μ0 = some () := law_all hL 513 0 μ0 RR.start (by omega) (by omega)
end LA
