/-! more answers that only look -/
section Q
variable {c : Nat} {μ : Mem} {T : Nat} {V : Nat → Nat} {B D m : Nat} {S : Nat → St}
theorem mVal_no (hB : RB c T V B D m S μ) {t : Nat} (ht : t < T) {u : Int32} (hu : u < -1 ∨ nI (V t) ≤ u) : G_X11_isValue (nI t) u μ = some (0, μ) := by
  have hV := hB.V2 ht
  have hT := hB.T3
  unfold G_X11_isValue
  rw [gq_in (by omega) (by omega), nx_nI (by omega), hB.mv ht, toLm1, in_eq, bd_s, if_neg, show bB 0 = true from rfl, gq_t]
  rintro ⟨h1, h2⟩
  rw [fa_le] at h1 h2
  have e1 : (nI (V t) - 1).toInt = (V t : Int) - 1 := by rw [nI_sub1 (by omega), nI_toInt (by omega)]; omega
  rcases hu with hu | hu
  · rw [fa_lt] at hu; omega
  · rw [fa_le, nI_toInt (by omega)] at hu; omega
theorem mVal_yes (hB : RB c T V B D m S μ) {t : Nat} (ht : t < T) {a : Nat} (ha : okv (V t) a) : G_X11_isValue (nI t) (ix a) μ = some (1, μ) := by
  have hV := hB.V2 ht
  have hT := hB.T3
  unfold G_X11_isValue
  obtain ⟨n1, n2⟩ := ix_not hV.2 ha
  rw [gq_in (by omega) (by omega), nx_nI (by omega), hB.mv ht, toLm1, in_eq, bd_s, if_pos, show bB 1 = true from rfl, gq_t]
  refine ⟨fa_of_nlt n1, ?_⟩
  have e1 : (nI (V t) - 1).toInt = (V t : Int) - 1 := by rw [nI_sub1 (by omega), nI_toInt (by omega)]; omega
  rw [fa_le, nI_toInt (by omega)] at n2
  rw [fa_le]
  omega
/-- whether there is such a cell -/
def noCell (T : Nat) (V : Nat → Nat) (x y z : Int32) : Prop := (x < 0 ∨ nI T ≤ x) ∨ ∃ t, t < T ∧ x = nI t ∧ ((y < -1 ∨ nI (V t) ≤ y) ∨ (z < -1 ∨ nI (V t) ≤ z))
theorem cell_cases (hT : T ≤ 3) (hV : ∀ t, t < T → V t ≤ 16) (x y z : Int32) : noCell T V x y z ∨ ∃ t a b, t < T ∧ okv (V t) a ∧ okv (V t) b ∧ a ≤ 16 ∧ b ≤ 16 ∧ x = nI t ∧ y = ix a ∧ z = ix b := by
  rcases pk_ix x (n := T) (by omega) with hx | hx | ⟨t, ht, rfl⟩
  · exact Or.inl (Or.inl (Or.inl hx))
  · exact Or.inl (Or.inl (Or.inr hx))
  · rcases ix_cases y (hV t ht) with hy | ⟨a, ha, ha2, rfl⟩
    · exact Or.inl (Or.inr ⟨t, ht, rfl, Or.inl hy⟩)
    · rcases ix_cases z (hV t ht) with hz | ⟨b, hb, hb2, rfl⟩
      · exact Or.inl (Or.inr ⟨t, ht, rfl, Or.inr hz⟩)
      · exact Or.inr ⟨t, a, b, ht, ha, hb, ha2, hb2, rfl, rfl, rfl⟩
theorem xCell_no (hB : RB c T V B D m S μ) {x y z : Int32} (h : noCell T V x y z) : G_X10_hasCell x y z μ = some (0, μ) := by
  have hT := hB.T3
  unfold G_X10_hasCell
  rcases h with hx | ⟨t, ht, rfl, hu⟩
  · rw [bd_eq (xTab_no hB.xt hx), if_pos rfl]
  · have cno : G_X7_hasCell (9 + 9 * t) y z μ = some (0, μ) := by
      unfold G_X7_hasCell
      rw [(hB.sheet ht).1]
      repeat (first | rfl | (split; · rfl))
      simp_all
    rw [bd_eq (xTab_yes hB.xt hT ht), if_neg (by decide), gq_in (by omega) (by omega), sp_eq (by omega), bd_eq cno, if_pos rfl]
theorem xCell_yes (hB : RB c T V B D m S μ) {t a b : Nat} (ht : t < T) (ha : okv (V t) a) (hb : okv (V t) b) : G_X10_hasCell (nI t) (ix a) (ix b) μ = some (1, μ) := by
  have hT := hB.T3
  have hV := hB.V2 ht
  unfold G_X10_hasCell G_X7_hasCell
  obtain ⟨n1, n2⟩ := ix_not hV.2 ha
  obtain ⟨n3, n4⟩ := ix_not hV.2 hb
  rw [bd_eq (xTab_yes hB.xt hT ht), if_neg (by decide), gq_in (by omega) (by omega), sp_eq (by omega), (hB.sheet ht).1, if_neg n1, if_neg n2, if_neg n3, if_neg n4, bd_s, if_neg (by decide)]
theorem mCell_no (hB : RB c T V B D m S μ) {x y z : Int32} (h : noCell T V x y z) : G_X11_areThere x y z μ = some (0, μ) := by
  have hT := hB.T3
  unfold G_X11_areThere
  rcases h with hx | ⟨t, ht, rfl, hu⟩
  · rw [bd_eq (mTab_no hB.mt hT hx), if_pos rfl]
  · rw [bd_eq (mTab_yes hB.mt hT ht), if_neg (by decide)]
    have hV := hB.V2 ht
    rcases ix_cases y hV.2 with hy | ⟨a, ha, ha2, rfl⟩
    · rw [bd_eq (mVal_no hB ht hy), if_pos rfl]
    · obtain ⟨n1, n2⟩ := ix_not hV.2 ha
      rw [bd_eq (mVal_yes hB ht ha), if_neg (by decide), bd_eq (mVal_no hB ht (hu.resolve_left (fun q => q.elim n1 n2))), if_pos rfl]
theorem mCell_yes (hB : RB c T V B D m S μ) {t a b : Nat} (ht : t < T) (ha : okv (V t) a) (hb : okv (V t) b) : G_X11_areThere (nI t) (ix a) (ix b) μ = some (1, μ) := by
  have hT := hB.T3
  unfold G_X11_areThere
  rw [bd_eq (mTab_yes hB.mt hT ht), if_neg (by decide), bd_eq (mVal_yes hB ht ha), if_neg (by decide), bd_eq (mVal_yes hB ht hb), if_neg (by decide)]
theorem col_cases (hT : T ≤ 3) (x y : Int32) : ((x < 0 ∨ nI T ≤ x) ∨ y < 0 ∨ nI 2 ≤ y) ∨ ∃ t k, t < T ∧ k < 2 ∧ x = nI t ∧ y = nI k := by
  rcases pk_ix x (n := T) (by omega) with hx | hx | ⟨t, ht, rfl⟩
  · exact Or.inl (Or.inl (Or.inl hx))
  · exact Or.inl (Or.inl (Or.inr hx))
  · rcases pk_ix y (n := 2) (by omega) with hy | hy | ⟨k, hk, rfl⟩
    · exact Or.inl (Or.inr (Or.inl hy))
    · exact Or.inl (Or.inr (Or.inr hy))
    · exact Or.inr ⟨t, k, ht, hk, rfl, rfl⟩
theorem a_countOf (h : RR c μ) (x y z : Int32) : Ans c (G_X10_countOf x y z μ) (G_X11_countOf x y z) := by
  have h0 := h
  obtain ⟨-, -, -, T, V, B, D, m, S, hB, hP, -⟩ := h0
  have hT := hB.T3
  rcases col_cases hT x y with hx | ⟨t, k, ht, hk, rfl, rfl⟩
  · refine Ans.p (r := -1) h ?_ ?_
    · unfold G_X10_countOf; rw [bd_eq (xCol_no hB.xt hT hx), if_pos rfl]
    · unfold G_X11_countOf; rw [bd_eq (mCol_no hB.mt hT hx), if_pos rfl]
  · have hV := hB.V2 ht
    have hL := hB.lane ht hk
    rcases pk_ix z (n := V t) (by omega) with hz | hz | ⟨v, hv, rfl⟩
    · refine Ans.p (r := -1) h ?_ ?_
      · unfold G_X10_countOf; rw [bd_eq (xCol_yes hB.xt hT ht hk), if_neg (by decide), gq_in (by omega) (by omega), gq_in (by omega) (by omega), if_pos hz]
      · unfold G_X11_countOf; rw [bd_eq (mCol_yes hB.mt hT ht hk), if_neg (by decide), gq_in (by omega) (by omega), nx_nI (by omega), hB.mv ht, bd_eq (inP_no (by omega) (Or.inl hz)), if_pos rfl]
    · refine Ans.p (r := -1) h ?_ ?_
      · unfold G_X10_countOf
        rw [bd_eq (xCol_yes hB.xt hT ht hk), if_neg (by decide), gq_in (by omega) (by omega), gq_in (by omega) (by omega), lp_eq (by omega) hk, hL.1.1]
        by_cases h1 : z < 0
        · rw [if_pos h1]
        · rw [if_neg h1, if_pos hz]
      · unfold G_X11_countOf; rw [bd_eq (mCol_yes hB.mt hT ht hk), if_neg (by decide), gq_in (by omega) (by omega), nx_nI (by omega), hB.mv ht, bd_eq (inP_no (by omega) (Or.inr hz)), if_pos rfl]
    · refine Ans.p (r := nI (cn (sf (S 0) t) k v)) h ?_ ?_
      · unfold G_X10_countOf
        rw [bd_eq (xCol_yes hB.xt hT ht hk), if_neg (by decide), gq_in (by omega) (by omega), gq_in (by omega) (by omega), lp_eq (by omega) hk, hL.1.1, if_neg (nI_pos (by omega)), if_neg (nI_ge hv (by omega)), gq_in (by omega) (by omega), nx_nI (by omega), hL.1.2.2 v (by omega)]
      · unfold G_X11_countOf
        rw [bd_eq (mCol_yes hB.mt hT ht hk), if_neg (by decide), gq_in (by omega) (by omega), nx_nI (by omega), hB.mv ht, bd_eq (inP_yes (by omega) hv), if_neg (by decide), bd_eq (countAt_v (hB.tab ht) (by omega) hk (by omega))]
theorem a_bucket (h : RR c μ) (x y z w : Int32) : Ans c (G_X10_bucket x y z w μ) (G_X11_bucket x y z w) := by
  have h0 := h
  obtain ⟨-, -, -, T, V, B, D, m, S, hB, hP, -⟩ := h0
  have hT := hB.T3
  rcases col_cases hT x y with hx | ⟨t, k, ht, hk, rfl, rfl⟩
  · refine Ans.p (r := -1000000) h ?_ ?_
    · unfold G_X10_bucket; rw [bd_eq (xCol_no hB.xt hT hx), if_pos rfl]
    · unfold G_X11_bucket; rw [bd_eq (mCol_no hB.mt hT hx), if_pos rfl]
  · have hV := hB.V2 ht
    have hL := hB.lane ht hk
    have hK := hB.K8 ht
    have hM := hB.tab ht
    have hw := (hB.sw ht).2.2 k hk
    rcases pk_ix z (n := min B (V t)) (by omega) with hz | hz | ⟨i, hi, rfl⟩
    · refine Ans.p (r := -1000000) h ?_ ?_
      · unfold G_X10_bucket; rw [bd_eq (xCol_yes hB.xt hT ht hk), if_neg (by decide), gq_in (by omega) (by omega), gq_in (by omega) (by omega), if_pos hz]
      · unfold G_X11_bucket; rw [bd_eq (mCol_yes hB.mt hT ht hk), if_neg (by decide), bd_eq (col_many hM (by omega) hk), bd_eq (inP_no (by omega) (Or.inl hz)), if_pos rfl]
    · refine Ans.p (r := -1000000) h ?_ ?_
      · unfold G_X10_bucket
        rw [bd_eq (xCol_yes hB.xt hT ht hk), if_neg (by decide), gq_in (by omega) (by omega), gq_in (by omega) (by omega), lp_eq (by omega) hk, bd_eq (lane_size hL)]
        by_cases h1 : z < 0
        · rw [if_pos h1]
        · rw [if_neg h1, if_neg (fun q => (fa_of_lt q).2.1 hz)]
      · unfold G_X11_bucket; rw [bd_eq (mCol_yes hB.mt hT ht hk), if_neg (by decide), bd_eq (col_many hM (by omega) hk), bd_eq (inP_no (by omega) (Or.inr hz)), if_pos rfl]
    · have x1 : G_X10_bucket (nI t) (nI k) (nI i) w μ = if w = (0 : Int32) then some (nI (sb (S 0) t k i), μ) else (if w = (1 : Int32) then some (nI (sb (S 0) t k (i + 1) - 1), μ) else (if w = (2 : Int32) then some (nI (seg (cn (sf (S 0) t) k) (sb (S 0) t k i) (sb (S 0) t k (i + 1))), μ) else (if w = (3 : Int32) then some (nI (sg (S 0) t k i), μ) else some (-1000000, μ)))) := by
        unfold G_X10_bucket
        rw [bd_eq (xCol_yes hB.xt hT ht hk), if_neg (by decide), gq_in (by omega) (by omega), gq_in (by omega) (by omega), lp_eq (by omega) hk, if_neg (nI_pos (by omega)), bd_eq (lane_size hL), if_pos (nI_lt hi (by omega)), bd_eq (lane_first hL hK.2.1 hi), bd_eq (lane_last hL hw hK.2.1 hV.2 hi), bd_eq (lane_total hL hK.2.1 hi), bd_eq (lane_greatest hL hK.2.1 hi)]
      have y1 : ∀ w2 : Nat, w2 < 4 → G_X11_bucket (nI t) (nI k) (nI i) (nI w2) μ = bd (G_X11_of (nI t) (nI k) (nI i) (nI w2) μ) (fun r μ => some (r, μ)) := fun w2 hw2 => by
        unfold G_X11_bucket
        rw [bd_eq (mCol_yes hB.mt hT ht hk), if_neg (by decide), bd_eq (col_many hM (by omega) hk), bd_eq (inP_yes (by omega) hi), if_neg (by decide), bd_eq (inL_yes (m := 3) (by decide) (by omega) (by omega)), if_neg (by decide)]
      have no : (w < 0 ∨ nI 4 ≤ w) → Ans c (G_X10_bucket (nI t) (nI k) (nI i) w μ) (G_X11_bucket (nI t) (nI k) (nI i) w) := fun hw => by
        refine Ans.p (r := -1000000) h ?_ ?_
        · rw [x1, if_neg (out_ne (m := 0) hw (by omega) (by omega)), if_neg (out_ne (m := 1) hw (by omega) (by omega)), if_neg (out_ne (m := 2) hw (by omega) (by omega)), if_neg (out_ne (m := 3) hw (by omega) (by omega))]
        · unfold G_X11_bucket
          rw [bd_eq (mCol_yes hB.mt hT ht hk), if_neg (by decide), bd_eq (col_many hM (by omega) hk), bd_eq (inP_yes (by omega) hi), if_neg (by decide), bd_eq (inL_no (m := 3) (by decide) (by omega) hw), if_pos rfl]
      rcases pk_ix w (n := 4) (by omega) with hw | hw | ⟨j, hj, rfl⟩
      · exact no (Or.inl hw)
      · exact no (Or.inr hw)
      · rcases (show j = 0 ∨ j = 1 ∨ j = 2 ∨ j = 3 by omega) with rfl | rfl | rfl | rfl
        · exact Ans.p h (x1.trans rfl) ((y1 0 (by omega)).trans (bd_eq (col_of0 hM (by omega) hk hK.2.1 hi)))
        · exact Ans.p h (x1.trans rfl) ((y1 1 (by omega)).trans (bd_eq (col_of1 hM (by omega) hk hK.2.1 hi)))
        · exact Ans.p h (x1.trans rfl) ((y1 2 (by omega)).trans (bd_eq (col_of2 hM (by omega) hk hK.2.1 hi)))
        · exact Ans.p h (x1.trans rfl) ((y1 3 (by omega)).trans (bd_eq (col_of3 hM (by omega) hk hK.2.1 hi)))
theorem fr_thr {v : Int32} : Fr SCR μ (wI μ 107 0 v) := Fr.rf.wI (by unfold SCR; omega)
theorem fr_out {v : Int64} : Fr SCR μ (wL μ 126 0 v) := Fr.rf.wL (by unfold SCR; omega)
/-- the table's answer, and whether it throws -/
theorem a_table (h : RR c μ) (x y : Int32) : ∃ k μ1 r μ2, G_L_table x y μ = some (k, μ1) ∧ G_X11_table x y μ1 = some (r, μ2) ∧ rI μ2 107 0 = k ∧ (k = 0 → rL μ2 126 0 = r.toInt64) ∧ RR (c + 1) μ2 := by
  have h0 := h
  obtain ⟨-, -, -, T, V, B, D, m, S, hB, hP, -⟩ := h0
  have hT := hB.T3
  have thr : ∀ {x y : Int32}, ((x < 0 ∨ nI T ≤ x) ∨ (y < 0 ∨ nI 4 ≤ y)) → G_X10_table x y μ = some (none, μ) := fun {x y} hx => by
    unfold G_X10_table F_X10_table_17
    by_cases h1 : x < 0 ∨ nI T ≤ x
    · rw [bd_eq (xTab_no hB.xt h1), if_pos rfl]
    · rcases pk_ix x (n := T) (by omega) with h2 | h2 | ⟨t, ht, rfl⟩
      · exact absurd (Or.inl h2) h1
      · exact absurd (Or.inr h2) h1
      · rw [bd_eq (xTab_yes hB.xt hT ht), if_neg (by decide)]
        by_cases h3 : y < 0
        · rw [if_pos h3]
        · rw [if_neg h3, if_neg]
          intro h4
          rcases hx.resolve_left h1 with h5 | h5
          · exact h3 h5
          · rw [fa_le] at h4 h5
            rw [nI_toInt (by omega)] at h5
            have : (3 : Int32).toInt = 3 := by decide
            omega
  have no : ((x < 0 ∨ nI T ≤ x) ∨ (y < 0 ∨ nI 4 ≤ y)) → ∃ k μ1 r μ2, G_L_table x y μ = some (k, μ1) ∧ G_X11_table x y μ1 = some (r, μ2) ∧ rI μ2 107 0 = k ∧ (k = 0 → rL μ2 126 0 = r.toInt64) ∧ RR (c + 1) μ2 := fun hx => by
    refine ⟨1, μ, 0, wI μ 107 0 1, ?_, ?_, rI_wI_at, fun q => absurd q (by decide), (h.scr fr_thr).up (by omega)⟩
    · unfold G_L_table
      rw [thr hx]
    · have e : F_X11_table_25 x y μ = some (0, wI μ 107 0 1) := by
        unfold F_X11_table_25 F_X11_table_26
        rw [lb_e, if_pos rI_wI_at]
      unfold G_X11_table
      by_cases h1 : x < 0 ∨ nI T ≤ x
      · rw [bd_eq (mTab_no hB.mt hT h1), if_pos rfl, e]
      · rcases pk_ix x (n := T) (by omega) with h2 | h2 | ⟨t, ht, rfl⟩
        · exact absurd (Or.inl h2) h1
        · exact absurd (Or.inr h2) h1
        · rw [bd_eq (mTab_yes hB.mt hT ht), if_neg (by decide), bd_eq (inL_no (m := 3) (by decide) (by omega) (hx.resolve_left h1)), if_pos rfl, e]
  rcases pk_ix x (n := T) (by omega) with hx | hx | ⟨t, ht, rfl⟩
  · exact no (Or.inl (Or.inl hx))
  · exact no (Or.inl (Or.inr hx))
  · rcases pk_ix y (n := 4) (by omega) with hy | hy | ⟨w, hw, rfl⟩
    · exact no (Or.inr (Or.inl hy))
    · exact no (Or.inr (Or.inr hy))
    · have hV := hB.V2 ht
      have hS := hB.sheet ht
      have yes : ∀ r : Int32, G_X10_table (nI t) (nI w) μ = some (some r, μ) → (∀ μ', RR c μ' → Fr SCR μ μ' → F_X11_table_26 (nI t) (nI w) 0 μ' = some (r, wI μ' 107 0 0)) → ∃ k μ1 r μ2, G_L_table (nI t) (nI w) μ = some (k, μ1) ∧ G_X11_table (nI t) (nI w) μ1 = some (r, μ2) ∧ rI μ2 107 0 = k ∧ (k = 0 → rL μ2 126 0 = r.toInt64) ∧ RR (c + 1) μ2 := fun r e1 e2 => by
        refine ⟨0, wL μ 126 0 r.toInt64, r, wI (wL μ 126 0 r.toInt64) 107 0 0, ?_, ?_, rI_wI_at, fun _ => by rw [rL_wI, rL_wL_at], ((h.scr fr_out).scr fr_thr).up (by omega)⟩
        · unfold G_L_table
          rw [e1]
        · unfold G_X11_table
          rw [bd_eq (mTab_yes (by rw [rI_wL]; exact hB.mt) hT ht), if_neg (by decide), bd_eq (inL_yes (m := 3) (by decide) (by omega) (by omega)), if_neg (by decide)]
          exact e2 _ (h.scr fr_out) fr_out
      have x1 : G_X10_table (nI t) (nI w) μ = if nI w = (0 : Int32) then some (some (nI (V t)), μ) else (if nI w = (1 : Int32) then some (some (nI (rws (sf (S 0) t))), μ) else (if nI w = (2 : Int32) then some (some (nI (cn (sf (S 0) t) 0 16)), μ) else some (some (nI (cn (sf (S 0) t) 1 16)), μ))) := by
        unfold G_X10_table
        have e2 := (hB.lane ht (c := 0) (by omega)).1.2.1
        have e3 := (hB.lane ht (c := 1) (by omega)).1.2.1
        rw [bd_eq (xTab_yes hB.xt hT ht), if_neg (by decide), if_neg (nI_pos (by omega)), if_pos (r_le (m := 3) (by omega) (by omega)), gq_in (by omega) (by omega), sp_eq (by omega), hS.1, hS.2.1, show 9 + 9 * t + 3 = 12 + 9 * t + 3 * 0 by omega, show 9 + 9 * t + 6 = 12 + 9 * t + 3 * 1 by omega, e2, e3]
      have m0 : ∀ {μ' : Mem} {q j : Nat}, Fr SCR μ μ' → ¬ SCR q j → rI (wI μ' 107 0 0) q j = rI μ q j := fun {μ' q j} hf hq => (hf.wI (by unfold SCR; omega)).i hq
      have mB : ∀ {μ' : Mem}, Fr SCR μ μ' → MT (min B (V t)) (sf (S 0) t) (sb (S 0) t) (sg (S 0) t) (sd (S 0) t) (fun k => rI (wI μ' 107 0 0) 116 (357 * t + k)) := fun {μ'} hf => by
        have e : (fun k => rI (wI μ' 107 0 0) 116 (357 * t + k)) = (fun k => rI μ 116 (357 * t + k)) := funext fun k => m0 hf (by unfold SCR; omega)
        rw [e]
        exact hB.tab ht
      rcases (show w = 0 ∨ w = 1 ∨ w = 2 ∨ w = 3 by omega) with rfl | rfl | rfl | rfl
      · refine yes (nI (V t)) (x1.trans rfl) (fun μ' _ hf => ?_)
        unfold F_X11_table_26
        rw [lb_e, if_neg (by rw [rI_wI_at]; decide), if_pos (by decide), gq_in (by omega) (by omega), nx_nI (by omega), m0 hf (by unfold SCR; omega), hB.mv ht]
      · refine yes _ (x1.trans rfl) (fun μ' _ hf => ?_)
        unfold F_X11_table_26
        rw [lb_e, if_neg (by rw [rI_wI_at]; decide), if_neg (by decide), if_pos (by decide), bd_eq (rowsOf_eq (mB hf) (by omega))]
      · refine yes _ (x1.trans rfl) (fun μ' _ hf => ?_)
        unfold F_X11_table_26
        rw [lb_e, if_neg (by rw [rI_wI_at]; decide), if_neg (by decide), if_neg (by decide), show nI 2 - 2 = nI 0 from by decide, show (-1 : Int32) = ix 16 from rfl, bd_eq (countAt_eq (mB hf) (by omega) (by omega) (by omega))]
      · refine yes _ (x1.trans rfl) (fun μ' _ hf => ?_)
        unfold F_X11_table_26
        rw [lb_e, if_neg (by rw [rI_wI_at]; decide), if_neg (by decide), if_neg (by decide), show nI 3 - 2 = nI 1 from by decide, show (-1 : Int32) = ix 16 from rfl, bd_eq (countAt_eq (mB hf) (by omega) (by omega) (by omega))]
end Q
