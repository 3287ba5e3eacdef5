/-! why an act is refused -/
section W
variable {T : Nat} {V : Nat → Nat} {B D m : Nat} {S : Nat → St} {μ : Mem} {σ : St} {sk : Nat}
theorem xC_no (hX : XB T V B D σ sk 7 μ) (hC : CW T V B D) {x y z : Int32} (h : noCell T V x y z) : G_X10_hasCell x y z μ = some (0, μ) := by
  have hT := hC.1
  unfold G_X10_hasCell
  rcases h with hx | ⟨t, ht, rfl, hu⟩
  · rw [bd_eq (xTab_no hX.1 hx), if_pos rfl]
  · have cno : G_X7_hasCell (9 + 9 * t) y z μ = some (0, μ) := by
      unfold G_X7_hasCell
      have e := (hX.2.2.2.2.1 t ht).1
      rw [show 7 + 2 + 9 * t = 9 + 9 * t by omega] at e
      rw [e]
      repeat (first | rfl | (split; · rfl))
      simp_all
    rw [bd_eq (xTab_yes hX.1 hT ht), if_neg (by decide), gq_in (by omega) (by omega), sp_eq (by omega), bd_eq cno, if_pos rfl]
theorem xC_yes (hX : XB T V B D σ sk 7 μ) (hC : CW T V B D) {t a b : Nat} (ht : t < T) (ha : okv (V t) a) (hb : okv (V t) b) : G_X10_hasCell (nI t) (ix a) (ix b) μ = some (1, μ) := by
  have hT := hC.1
  have hV := hC.2.2 t ht
  unfold G_X10_hasCell G_X7_hasCell
  obtain ⟨n1, n2⟩ := ix_not hV.2 ha
  obtain ⟨n3, n4⟩ := ix_not hV.2 hb
  have e : rI μ (9 + 9 * t) 2 = nI (V t) := (hX.2.2.2.2.1 t ht).1
  rw [bd_eq (xTab_yes hX.1 hT ht), if_neg (by decide), gq_in (by omega) (by omega), sp_eq (by omega), e, if_neg n1, if_neg n2, if_neg n3, if_neg n4, bd_s, if_neg (by decide)]
theorem mV_no (h113 : ∀ t, t < T → rI μ 113 t = nI (V t)) (hC : CW T V B D) {t : Nat} (ht : t < T) {u : Int32} (hu : u < -1 ∨ nI (V t) ≤ u) : G_X11_isValue (nI t) u μ = some (0, μ) := by
  have hV := hC.2.2 t ht
  have hT := hC.1
  unfold G_X11_isValue
  rw [gq_in (by omega) (by omega), nx_nI (by omega), h113 t ht, toLm1, in_eq, bd_s, if_neg, show bB 0 = true from rfl, gq_t]
  rintro ⟨h1, h2⟩
  rw [fa_le] at h1 h2
  have e1 : (nI (V t) - 1).toInt = (V t : Int) - 1 := by rw [nI_sub1 (by omega), nI_toInt (by omega)]; omega
  rcases hu with hu | hu
  · rw [fa_lt] at hu; omega
  · rw [fa_le, nI_toInt (by omega)] at hu; omega
theorem mV_yes (h113 : ∀ t, t < T → rI μ 113 t = nI (V t)) (hC : CW T V B D) {t : Nat} (ht : t < T) {a : Nat} (ha : okv (V t) a) : G_X11_isValue (nI t) (ix a) μ = some (1, μ) := by
  have hV := hC.2.2 t ht
  have hT := hC.1
  unfold G_X11_isValue
  obtain ⟨n1, n2⟩ := ix_not hV.2 ha
  rw [gq_in (by omega) (by omega), nx_nI (by omega), h113 t ht, toLm1, in_eq, bd_s, if_pos, show bB 1 = true from rfl, gq_t]
  refine ⟨fa_of_nlt n1, ?_⟩
  have e1 : (nI (V t) - 1).toInt = (V t : Int) - 1 := by rw [nI_sub1 (by omega), nI_toInt (by omega)]; omega
  rw [fa_le, nI_toInt (by omega)] at n2
  rw [fa_le]
  omega
theorem mA_no (h12 : rI μ 107 12 = nI T) (h113 : ∀ t, t < T → rI μ 113 t = nI (V t)) (hC : CW T V B D) {x y z : Int32} (h : noCell T V x y z) : G_X11_areThere x y z μ = some (0, μ) := by
  have hT := hC.1
  unfold G_X11_areThere
  rcases h with hx | ⟨t, ht, rfl, hu⟩
  · rw [bd_eq (mTab_no h12 hT hx), if_pos rfl]
  · rw [bd_eq (mTab_yes h12 hT ht), if_neg (by decide)]
    have hV := hC.2.2 t ht
    rcases ix_cases y hV.2 with hy | ⟨a, ha, ha2, rfl⟩
    · rw [bd_eq (mV_no h113 hC ht hy), if_pos rfl]
    · obtain ⟨n1, n2⟩ := ix_not hV.2 ha
      rw [bd_eq (mV_yes h113 hC ht ha), if_neg (by decide), bd_eq (mV_no h113 hC ht (hu.resolve_left (fun q => q.elim n1 n2))), if_pos rfl]
theorem mA_yes (h12 : rI μ 107 12 = nI T) (h113 : ∀ t, t < T → rI μ 113 t = nI (V t)) (hC : CW T V B D) {t a b : Nat} (ht : t < T) (ha : okv (V t) a) (hb : okv (V t) b) : G_X11_areThere (nI t) (ix a) (ix b) μ = some (1, μ) := by
  have hT := hC.1
  unfold G_X11_areThere
  rw [bd_eq (mTab_yes h12 hT ht), if_neg (by decide), bd_eq (mV_yes h113 hC ht ha), if_neg (by decide), bd_eq (mV_yes h113 hC ht hb), if_neg (by decide)]
/-- the reasons, as numbers alone -/
def whA (T : Nat) (V : Nat → Nat) (x y z n : Int32) (w : Nat) : Prop := (w = 0 ∧ noCell T V x y z) ∨ (w = 1 ∧ ∃ t a b, t < T ∧ okv (V t) a ∧ okv (V t) b ∧ x = nI t ∧ y = ix a ∧ z = ix b ∧ (n < 1 ∨ nI 99 < n))
theorem row_cases (hC : CW T V B D) (x y z n : Int32) : (∃ w, w < 2 ∧ whA T V x y z n w) ∨ ∃ t a b k, t < T ∧ okv (V t) a ∧ okv (V t) b ∧ x = nI t ∧ y = ix a ∧ z = ix b ∧ 1 ≤ k ∧ k ≤ 99 ∧ n = nI k := by
  rcases cell_cases hC.1 (fun t ht => (hC.2.2 t ht).2) x y z with h | ⟨t, a, b, ht, ha, hb, -, -, rfl, rfl, rfl⟩
  · exact Or.inl ⟨0, by omega, Or.inl ⟨rfl, h⟩⟩
  · rcases num_cases n (n := 99) (by omega) with h | ⟨k, h1, h2, rfl⟩
    · exact Or.inl ⟨1, by omega, Or.inr ⟨rfl, t, a, b, ht, ha, hb, rfl, rfl, rfl, h⟩⟩
    · exact Or.inr ⟨t, a, b, k, ht, ha, hb, rfl, rfl, rfl, h1, h2, rfl⟩
theorem xW_no (hX : XB T V B D σ sk 7 μ) (hC : CW T V B D) {x y z n : Int32} {w : Nat} (h : whA T V x y z n w) : G_X10_whyNoAdd x y z n μ = some (nI w, μ) ∧ G_X10_whyNoDrop x y z n μ = some (nI w, μ) := by
  have e : G_X10_whyNoRows x y z n μ = some (nI w, μ) ∧ w < 2 := by
    unfold G_X10_whyNoRows
    rcases h with ⟨rfl, h⟩ | ⟨rfl, t, a, b, ht, ha, hb, rfl, rfl, rfl, h⟩
    · rw [bd_eq (xC_no hX hC h), if_pos rfl]
      exact ⟨rfl, by omega⟩
    · rw [bd_eq (xC_yes hX hC ht ha hb), if_neg (by decide)]
      refine ⟨?_, by omega⟩
      rcases h with h | h
      · rw [if_pos h]; rfl
      · rw [if_neg (show ¬ n ≤ 99 from fun q => (fa_of_lt h).2.1 q), ite_self]; rfl
  unfold G_X10_whyNoAdd G_X10_whyNoDrop
  rw [bd_eq e.1, bd_eq e.1, if_neg (nI_m1 (by omega)), if_neg (nI_m1 (by omega))]
  exact ⟨rfl, rfl⟩
theorem mW_no (h12 : rI μ 107 12 = nI T) (h113 : ∀ t, t < T → rI μ 113 t = nI (V t)) (hC : CW T V B D) {x y z n : Int32} {w : Nat} (h : whA T V x y z n w) : G_X11_whyAdd x y z n μ = some (nI w, μ) ∧ G_X11_whyDrop x y z n μ = some (nI w, μ) := by
  unfold G_X11_whyAdd G_X11_whyDrop
  rcases h with ⟨rfl, h⟩ | ⟨rfl, t, a, b, ht, ha, hb, rfl, rfl, rfl, h⟩
  · rw [bd_eq (mA_no h12 h113 hC h), bd_eq (mA_no h12 h113 hC h), if_pos rfl, if_pos rfl]
    exact ⟨rfl, rfl⟩
  · rw [bd_eq (mA_yes h12 h113 hC ht ha hb), bd_eq (mA_yes h12 h113 hC ht ha hb), if_neg (by decide), if_neg (by decide), show (99 : Int64) = (nI 99).toInt64 from by decide, bd_eq (in1_no h), bd_eq (in1_no h), if_pos rfl, if_pos rfl]
    exact ⟨rfl, rfl⟩
theorem xRows_ok (hX : XB T V B D σ sk 7 μ) (hC : CW T V B D) {t a b k : Nat} (ht : t < T) (ha : okv (V t) a) (hb : okv (V t) b) (h1 : 1 ≤ k) (h2 : k ≤ 99) : G_X10_whyNoRows (nI t) (ix a) (ix b) (nI k) μ = some (-1, μ) := by
  unfold G_X10_whyNoRows
  rw [bd_eq (xC_yes hX hC ht ha hb), if_neg (by decide), if_neg (r_nlt (m := 1) h1 (by omega)), if_pos (r_le (m := 99) h2 (by omega))]
theorem xW_add (hX : XB T V B D σ sk 7 μ) (hC : CW T V B D) {t a b k : Nat} (ht : t < T) (ha : okv (V t) a) (hb : okv (V t) b) (h1 : 1 ≤ k) (h2 : k ≤ 99) (hr : rws (sf σ t) ≤ 999) : G_X10_whyNoAdd (nI t) (ix a) (ix b) (nI k) μ = some (if rws (sf σ t) + k ≤ 999 then -1 else 3, μ) := by
  have hT := hC.1
  unfold G_X10_whyNoAdd
  have e : rI μ (9 + 9 * t) 3 = nI (rws (sf σ t)) := (hX.2.2.2.2.1 t ht).2.1
  rw [bd_eq (xRows_ok hX hC ht ha hb h1 h2), if_pos rfl, gq_in (by omega) (by omega), sp_eq (by omega), e, nI_add]
  by_cases q : rws (sf σ t) + k ≤ 999
  · rw [if_pos q, if_pos (r_le (m := 999) q (by omega))]
  · rw [if_neg q, if_neg (r_nle (m := 999) (by omega) (by omega))]
theorem xW_drop (hX : XB T V B D σ sk 7 μ) (hC : CW T V B D) {t a b k : Nat} (ht : t < T) (ha : okv (V t) a) (hb : okv (V t) b) (h1 : 1 ≤ k) (h2 : k ≤ 99) (hr : rws (sf σ t) ≤ 999) : G_X10_whyNoDrop (nI t) (ix a) (ix b) (nI k) μ = some (if k ≤ sf σ t a b then -1 else 3, μ) := by
  have hT := hC.1
  have hV := hC.2.2 t ht
  have hl := cell_le (sf σ t) (ha.le hV.2) (hb.le hV.2)
  unfold G_X10_whyNoDrop
  have hS : XT (V t) (min B (V t)) (sf σ t) (sb σ t) (sg σ t) (sd σ t) (9 + 9 * t) μ := hX.2.2.2.2.1 t ht
  rw [bd_eq (xRows_ok hX hC ht ha hb h1 h2), if_pos rfl, gq_in (by omega) (by omega), sp_eq (by omega), bd_eq (alike_eq hS (ha.le hV.2) (hb.le hV.2))]
  by_cases q : k ≤ sf σ t a b
  · rw [if_pos q, if_pos (nI_le q (by omega))]
  · rw [if_neg q, if_neg (nI_ge (by omega) (by omega))]
theorem mW_add (h12 : rI μ 107 12 = nI T) (h113 : ∀ t, t < T → rI μ 113 t = nI (V t)) (hM : MB T V B σ (fun k => rI μ 116 k)) (hC : CW T V B D) {t a b k : Nat} (ht : t < T) (ha : okv (V t) a) (hb : okv (V t) b) (h1 : 1 ≤ k) (h2 : k ≤ 99) (hr : rws (sf σ t) ≤ 999) : G_X11_whyAdd (nI t) (ix a) (ix b) (nI k) μ = some (if rws (sf σ t) + k ≤ 999 then -1 else 3, μ) := by
  have hT := hC.1
  unfold G_X11_whyAdd
  rw [bd_eq (mA_yes h12 h113 hC ht ha hb), if_neg (by decide), show (99 : Int64) = (nI 99).toInt64 from by decide, bd_eq (in1_yes (by omega) h1 h2), if_neg (by decide), bd_eq (rowsOf_eq (hM.1 t ht) (by omega)), nI_add]
  by_cases q : rws (sf σ t) + k ≤ 999
  · rw [if_pos q, if_pos (r_le (m := 999) q (by omega))]
  · rw [if_neg q, if_neg (r_nle (m := 999) (by omega) (by omega))]
theorem mW_drop (h12 : rI μ 107 12 = nI T) (h113 : ∀ t, t < T → rI μ 113 t = nI (V t)) (hM : MB T V B σ (fun k => rI μ 116 k)) (hC : CW T V B D) {t a b k : Nat} (ht : t < T) (ha : okv (V t) a) (hb : okv (V t) b) (h1 : 1 ≤ k) (h2 : k ≤ 99) (hr : rws (sf σ t) ≤ 999) : G_X11_whyDrop (nI t) (ix a) (ix b) (nI k) μ = some (if k ≤ sf σ t a b then -1 else 3, μ) := by
  have hT := hC.1
  have hV := hC.2.2 t ht
  have a16 := ha.le hV.2
  have b16 := hb.le hV.2
  have hl := cell_le (sf σ t) a16 b16
  have e : rI μ 116 (357 * t + (17 * a + b)) = nI (sf σ t a b) := (hM.1 t ht).1 a b a16 b16
  unfold G_X11_whyDrop
  rw [bd_eq (mA_yes h12 h113 hC ht ha hb), if_neg (by decide), show (99 : Int64) = (nI 99).toInt64 from by decide, bd_eq (in1_yes (by omega) h1 h2), if_neg (by decide), bd_eq (place_ix (by omega) a16 b16), gq_in (by omega) (by omega), nx_nI (by omega), e]
  by_cases q : k ≤ sf σ t a b
  · rw [if_pos q, if_pos (nI_le q (by omega))]
  · rw [if_neg q, if_neg (nI_ge (by omega) (by omega))]
theorem xW_build (hX : XB T V B D σ sk 7 μ) (hC : CW T V B D) {t c : Nat} (ht : t < T) (hc : c < 2) (hd : sd σ t c ≤ 99) : G_X10_whyNoBuild (nI t) (nI c) μ = some (if sd σ t c = 0 then 2 else -1, μ) := by
  have hT := hC.1
  unfold G_X10_whyNoBuild G_X4_drift
  have e : rI μ (9 + 9 * t + 3 + 3 * c + 2) 1 = nI (sd σ t c) := ((hX.2.2.2.2.1 t ht).s hc).2.1
  rw [bd_eq (xCol_yes hX.1 hT ht hc), if_neg (by decide), gq_in (by omega) (by omega), gq_in (by omega) (by omega), lp_eq (by omega) hc, show 12 + 9 * t + 3 * c + 2 = 9 + 9 * t + 3 + 3 * c + 2 by omega, e, bd_s]
  by_cases q : sd σ t c = 0
  · rw [if_pos q, if_pos (by rw [q]; rfl)]
  · rw [if_neg q, if_neg (nI_ne0 (by omega) (by omega))]
theorem mW_build (h12 : rI μ 107 12 = nI T) (hM : MB T V B σ (fun k => rI μ 116 k)) (hC : CW T V B D) {t c : Nat} (ht : t < T) (hc : c < 2) (hd : sd σ t c ≤ 99) : G_X11_whyBuild (nI t) (nI c) μ = some (if sd σ t c = 0 then 2 else -1, μ) := by
  have hT := hC.1
  unfold G_X11_whyBuild
  have e : rI μ 116 (357 * t + (289 + 34 * c + 33)) = nI (sd σ t c) := ((hM.1 t ht).2 c hc).2.1
  rw [bd_eq (mCol_yes h12 hT ht hc), if_neg (by decide), bd_eq (col_drift_at (by omega) hc), gq_in (by omega) (by omega), nx_nI (by omega), e]
  by_cases q : sd σ t c = 0
  · rw [if_pos q, if_pos (by rw [q]; rfl)]
  · rw [if_neg q, if_neg (nI_ne0 (by omega) (by omega))]
/-- the model's acts whole -/
theorem psh0 : psh S σ 0 = σ := rfl
theorem addM {t a b k : Nat} (h : mdX T V B D m S μ) (hw : wfP T V B D m S) (ht : t < T) (ha : okv (V t) a) (hb : okv (V t) b) (h1 : 1 ≤ k) (h2 : k ≤ 99) (hr : rws (sf (S 0) t) + k ≤ 999) : ∃ μ', G_X11_add (nI t) (ix a) (ix b) (nI k) μ = some (nI (rws (sf (S 0) t) + k), μ') ∧ Fr amQ μ μ' ∧ mdX T V B D (min (m + 1) 40) (psh S (stL (chT V B D (S 0) t a b k) (lge 0 (nI t) (nI k)))) μ' := by
  have hC := hw.1
  have hT := hC.1
  have hV := hC.2.2 t ht
  have hσ := hw.2.2.2 0 (Nat.zero_le _)
  obtain ⟨μ1, e1, f1, m1⟩ := isRef_ok (x := 0) (y := nI t) (z := nI k) h hw (by omega)
  obtain ⟨μ2, e2, f2, m2⟩ := mmd_change (z := (k : Int)) m1 hC (wfs_stL hσ _) ht ha hb (by omega) (by show (rws (sf (S 0) t) : Int) + k ≤ 999; omega) (by omega) (by omega)
  have m3 := mmd_fin m2
  refine ⟨μ2, ?_, f1.tr f2, m3⟩
  unfold G_X11_add
  have hM : MT (min B (V t)) (sf (chT V B D (stL (S 0) (lge 0 (nI t) (nI k))) t a b k) t) (sb (chT V B D (stL (S 0) (lge 0 (nI t) (nI k))) t a b k) t) (sg (chT V B D (stL (S 0) (lge 0 (nI t) (nI k))) t a b k) t) (sd (chT V B D (stL (S 0) (lge 0 (nI t) (nI k))) t a b k) t) (fun k => rI μ2 116 (357 * t + k)) := m2.2.2.2.2.1.1 t ht
  have rr : rws (sf (chT V B D (stL (S 0) (lge 0 (nI t) (nI k))) t a b k) t) = rws (sf (S 0) t) + k := by
    rw [chT_f]
    have := (chf_Chg (f := sf (S 0) t) (a := a) (b := b) (z := (k : Int)) (by omega)).rwn (ha.le hV.2) (hb.le hV.2)
    show rws (chf (sf (S 0) t) a b k) = _
    omega
  rw [bd_eq (mW_add h.1 h.2.2.2.1 h.2.2.2.2.1 hC ht ha hb h1 h2 (by omega)), if_pos hr, bd_eq e1, if_pos rfl, nI_zI k, bd_eq e2, bd_eq (rowsOf_eq hM (by omega)), rr]
theorem dropM {t a b k : Nat} (h : mdX T V B D m S μ) (hw : wfP T V B D m S) (ht : t < T) (ha : okv (V t) a) (hb : okv (V t) b) (h1 : 1 ≤ k) (h2 : k ≤ 99) (hk : k ≤ sf (S 0) t a b) : ∃ μ', G_X11_drop (nI t) (ix a) (ix b) (nI k) μ = some (nI (rws (sf (S 0) t) - k), μ') ∧ Fr amQ μ μ' ∧ mdX T V B D (min (m + 1) 40) (psh S (stL (chT V B D (S 0) t a b (-(k : Int))) (lge 1 (nI t) (nI k)))) μ' := by
  have hC := hw.1
  have hT := hC.1
  have hV := hC.2.2 t ht
  have hσ := hw.2.2.2 0 (Nat.zero_le _)
  have hr := (hσ.1 t ht).2.1
  obtain ⟨μ1, e1, f1, m1⟩ := isRef_ok (x := 1) (y := nI t) (z := nI k) h hw (by omega)
  obtain ⟨μ2, e2, f2, m2⟩ := mmd_change (z := -(k : Int)) m1 hC (wfs_stL hσ _) ht ha hb (by show 0 ≤ (sf (S 0) t a b : Int) + -(k : Int); omega) (by show (rws (sf (S 0) t) : Int) + -(k : Int) ≤ 999; omega) (by omega) (by omega)
  have m3 := mmd_fin m2
  refine ⟨μ2, ?_, f1.tr f2, m3⟩
  unfold G_X11_drop
  have hM : MT (min B (V t)) (sf (chT V B D (stL (S 0) (lge 1 (nI t) (nI k))) t a b (-(k : Int))) t) (sb (chT V B D (stL (S 0) (lge 1 (nI t) (nI k))) t a b (-(k : Int))) t) (sg (chT V B D (stL (S 0) (lge 1 (nI t) (nI k))) t a b (-(k : Int))) t) (sd (chT V B D (stL (S 0) (lge 1 (nI t) (nI k))) t a b (-(k : Int))) t) (fun k => rI μ2 116 (357 * t + k)) := m2.2.2.2.2.1.1 t ht
  have rr : rws (sf (chT V B D (stL (S 0) (lge 1 (nI t) (nI k))) t a b (-(k : Int))) t) = rws (sf (S 0) t) - k := by
    rw [chT_f]
    have := (chf_Chg (f := sf (S 0) t) (a := a) (b := b) (z := -(k : Int)) (by omega)).rwn (ha.le hV.2) (hb.le hV.2)
    show rws (chf (sf (S 0) t) a b (-(k : Int))) = _
    omega
  rw [bd_eq (mW_drop h.1 h.2.2.2.1 h.2.2.2.2.1 hC ht ha hb h1 h2 hr), if_pos hk, bd_eq e1, if_pos rfl, nI_zI k, zI_neg, bd_eq e2, bd_eq (rowsOf_eq hM (by omega)), rr]
theorem buildM {t c : Nat} (h : mdX T V B D m S μ) (hw : wfP T V B D m S) (ht : t < T) (hc : c < 2) (hd : sd (S 0) t c ≠ 0) : ∃ μ', G_X11_build (nI t) (nI c) μ = some (nI (min B (V t)), μ') ∧ Fr amQ μ μ' ∧ mdX T V B D (min (m + 1) 40) (psh S (stL (blT V B (S 0) t c) (lge 3 (nI t) (nI c)))) μ' := by
  have hC := hw.1
  have hT := hC.1
  have hB := hC.2.1 (by omega)
  have hσ := hw.2.2.2 0 (Nat.zero_le _)
  have hdr := ((hσ.1 t ht).2.2 c hc).2.2.2.2
  obtain ⟨μ1, e1, f1, m1⟩ := isRef_ok (x := 3) (y := nI t) (z := nI c) h hw (by omega)
  obtain ⟨μ2, e2, f2, m2⟩ := mmd_build m1 hC (wfs_stL hσ _) ht hc
  have m3 := mmd_fin m2
  refine ⟨μ2, ?_, f1.tr f2, m3⟩
  unfold G_X11_build
  rw [bd_eq (mW_build h.1 h.2.2.2.2.1 hC ht hc (by omega)), if_neg hd, bd_eq e1, if_pos rfl, bd_eq e2, bd_eq (col_many (m2.2.2.2.2.1.1 t ht) (by omega) hc)]
theorem wfP_push (hw : wfP T V B D m S) (hT0 : 0 < T) (hσ : WFS T V B D σ) : wfP T V B D (min (m + 1) 40) (psh S σ) := by
  refine ⟨hw.1, fun e => absurd e (by omega), by omega, fun j hj => ?_⟩
  unfold psh
  by_cases e : j = 0
  · rw [if_pos e]; exact hσ
  · rw [if_neg e]; exact hw.2.2.2 (j - 1) (by omega)
theorem clX_fr {μ' : Mem} (h : clX T V B D m S μ) (hT : T ≤ 3) (f : Fr amQ μ μ') : clX T V B D m S μ' := by
  obtain ⟨h1, h2, q, h3, h4, h5⟩ := h
  refine ⟨XB.ag hT (fun x j a b => f.i (by unfold amQ; omega)) h1, (f.i (by unfold amQ; omega)).trans h2, q, h3, (f.i (by unfold amQ; omega)).trans h4, fun j hj => ?_⟩
  rw [show (fun k => rI μ' 66 (61 * ((q + 40 - j) % 40) + k)) = (fun k => rI μ 66 (61 * ((q + 40 - j) % 40) + k)) from funext fun k => f.i (by unfold amQ; omega)]
  exact h5 j hj
theorem mdX_fr {μ' : Mem} (h : mdX T V B D m S μ) (f : Fr (fun q _ => q < 107) μ μ') : mdX T V B D m S μ' := by
  obtain ⟨h1, h2, h3, h4, h5, h6, h7⟩ := h
  refine ⟨(f.i (by omega)).trans h1, (f.i (by omega)).trans h2, (f.i (by omega)).trans h3, fun t ht => (f.i (by omega)).trans (h4 t ht), MB.ag (fun j => f.i (by omega)) h5, (f.i (by omega)).trans h6, fun j hj => MB.ag (fun k => f.i (by omega)) (h7 j hj)⟩
theorem acQ_lt {μ' : Mem} (f : Fr acQ μ μ') : Fr (fun q _ => q < 107) μ μ' := f.mono (fun q j h => by unfold acQ at h; omega)
end W
