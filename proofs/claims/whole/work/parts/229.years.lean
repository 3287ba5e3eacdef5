/-! years -/
def nxt (x : Int64) : Int64 := x * 6364136223846793005 + 1442695040888963407
def dv (x : Int64) (j : Nat) : Nat := x.toBitVec.toNat / 2 ^ 33 % j
theorem lN_self (x : Int64) : x = lN x.toBitVec.toNat := by
  obtain ⟨n, hn, e⟩ := wb_of x
  have h : x.toBitVec.toNat = n := by rw [e]; exact wb_tn hn
  rw [h]; exact e
theorem dv_eq (x : Int64) {j : Nat} (hj : 0 < j) (hj2 : j < 1000) : ((x.toUInt64 >>> ((33 : Int32).toInt64.toUInt64 &&& Int64.toUInt64 63)).toInt64 - (x.toUInt64 >>> ((33 : Int32).toInt64.toUInt64 &&& Int64.toUInt64 63)).toInt64 / (nI j).toInt64 * (nI j).toInt64).toInt32 = nI (dv x j) := by
  have hl : x.toBitVec.toNat < 2 ^ 64 := x.toBitVec.isLt
  have e : (x.toUInt64 >>> ((33 : Int32).toInt64.toUInt64 &&& Int64.toUInt64 63)).toInt64 = lN (x.toBitVec.toNat / 2 ^ 33) := by
    have := wb_shr (n := x.toBitVec.toNat) (k := 33) hl (by omega)
    rw [← lN_self x] at this
    exact this
  rw [e, nI_l (by omega), pk_lRem (by omega) hj (by omega), lN_i]
  rfl
theorem dv_lt (x : Int64) {j : Nat} (hj : 0 < j) : dv x j < j := Nat.mod_lt _ hj
section Y
variable {T : Nat} {V : Nat → Nat} {B D m : Nat} {S : Nat → St} {μ : Mem} {σ : St}
theorem gq_L {ρ : Type} {x : Option ρ} {j : Nat} (hj : 0 < j) (hj2 : j < 1000) : gq (decide (¬ (nI j).toInt64 = 0)) x = x := by
  rw [nI_l (by omega)]
  exact gq_lN hj (by omega)
theorem drawX {j : Nat} (hj : 0 < j) (hj2 : j < 1000) : G_X10_draw (nI j) μ = some (nI (dv (nxt (rL μ 0 13)) j), wL μ 0 13 (nxt (rL μ 0 13))) := by
  unfold G_X10_draw
  rw [lb_e, if_neg (nI_nle hj (by omega)), gq_L hj hj2, rL_wL_at, dv_eq _ hj hj2]
  rfl
theorem drawM {j : Nat} (hj : 0 < j) (hj2 : j < 1000) : G_X11_draw (nI j) μ = some (nI (dv (nxt (rL μ 107 24)) j), wL μ 107 24 (nxt (rL μ 107 24))) := by
  unfold G_X11_draw
  rw [lb_e, gq_L hj hj2, rL_wL_at, dv_eq _ hj hj2]
  rfl
def yV (v : Nat) (y : Int64) : Nat := if dv y (v + 1) = v then 16 else dv y (v + 1)
theorem yV_ok {v : Nat} (y : Int64) : okv v (yV v y) := by
  unfold yV okv
  have := dv_lt y (j := v + 1) (by omega)
  split <;> omega
theorem yV_ix {v : Nat} (hv : v ≤ 16) (y : Int64) : (if nI (dv y (v + 1)) = nI v then (-1 : Int32) else nI (dv y (v + 1))) = ix (yV v y) := by
  unfold yV
  have := dv_lt y (j := v + 1) (by omega)
  by_cases e : dv y (v + 1) = v
  · rw [if_pos e, if_pos (by rw [e])]; rfl
  · rw [if_neg e, if_neg (fun z => e (nI_inj (by omega) (by omega) z)), ix_n (by omega)]
theorem dOM {v : Nat} (hv : v ≤ 16) : G_X10_drawOrMissing (nI v) μ = some (ix (yV v (nxt (rL μ 0 13))), wL μ 0 13 (nxt (rL μ 0 13))) := by
  unfold G_X10_drawOrMissing
  rw [nI_1, bd_eq (drawX (by omega) (by omega)), ← yV_ix hv]
  split <;> rfl
theorem dVM {t : Nat} (ht : t < 3) {v : Nat} (hv : v ≤ 16) (h : rI μ 113 t = nI v) : G_X11_drawValue (nI t) μ = some (ix (yV v (nxt (rL μ 107 24))), wL μ 107 24 (nxt (rL μ 107 24))) := by
  unfold G_X11_drawValue
  rw [gq_in ht (by omega), nx_nI (by omega), h, nI_1, bd_eq (drawM (by omega) (by omega)), gq_in ht (by omega), rI_wL, h, ← yV_ix hv]
  split <;> rfl
def yrX (x : Int64) : Int64 := if dv (nxt x) 4 = 3 then nxt (nxt (nxt x)) else nxt (nxt (nxt (nxt (nxt x))))
def yrO (T : Nat) (V : Nat → Nat) (B D : Nat) (σ : St) (x : Int64) : Option St :=
  if dv (nxt x) 4 = 3 then (if sd σ (dv (nxt (nxt x)) T) (dv (nxt (nxt (nxt x))) 2) = 0 then none else some (stL (blT V B σ (dv (nxt (nxt x)) T) (dv (nxt (nxt (nxt x))) 2)) (lge 3 (nI (dv (nxt (nxt x)) T)) (nI (dv (nxt (nxt (nxt x))) 2)))))
  else if dv (nxt x) 4 = 2 then (if dv (nxt (nxt (nxt (nxt (nxt x))))) 5 + 1 ≤ sf σ (dv (nxt (nxt x)) T) (yV (V (dv (nxt (nxt x)) T)) (nxt (nxt (nxt x)))) (yV (V (dv (nxt (nxt x)) T)) (nxt (nxt (nxt (nxt x))))) then some (stL (chT V B D σ (dv (nxt (nxt x)) T) (yV (V (dv (nxt (nxt x)) T)) (nxt (nxt (nxt x)))) (yV (V (dv (nxt (nxt x)) T)) (nxt (nxt (nxt (nxt x))))) (-((dv (nxt (nxt (nxt (nxt (nxt x))))) 5 + 1 : Nat) : Int))) (lge 1 (nI (dv (nxt (nxt x)) T)) (nI (dv (nxt (nxt (nxt (nxt (nxt x))))) 5 + 1)))) else none)
  else (if rws (sf σ (dv (nxt (nxt x)) T)) + (dv (nxt (nxt (nxt (nxt (nxt x))))) 5 + 1) ≤ 999 then some (stL (chT V B D σ (dv (nxt (nxt x)) T) (yV (V (dv (nxt (nxt x)) T)) (nxt (nxt (nxt x)))) (yV (V (dv (nxt (nxt x)) T)) (nxt (nxt (nxt (nxt x))))) ((dv (nxt (nxt (nxt (nxt (nxt x))))) 5 + 1 : Nat) : Int)) (lge 0 (nI (dv (nxt (nxt x)) T)) (nI (dv (nxt (nxt (nxt (nxt (nxt x))))) 5 + 1)))) else none)
def yM : Option St → Nat → Nat
  | none, m => m
  | some _, m => min (m + 1) 40
def yS : Option St → (Nat → St) → Nat → St
  | none, S => S
  | some σ, S => psh S σ
theorem yr_wf (hw : wfP T V B D m S) (hT0 : 0 < T) (x : Int64) : wfP T V B D (yM (yrO T V B D (S 0) x) m) (yS (yrO T V B D (S 0) x) S) ∧ sn (yS (yrO T V B D (S 0) x) S 0) ≤ sn (S 0) + 1 := by
  have hC := hw.1
  have hσ := hw.2.2.2 0 (Nat.zero_le _)
  have no : wfP T V B D (yM none m) (yS none S) ∧ sn (yS none S 0) ≤ sn (S 0) + 1 := ⟨hw, Nat.le_succ _⟩
  have yes : ∀ σ' e, WFS T V B D σ' → sn σ' = sn (S 0) → wfP T V B D (yM (some (stL σ' e)) m) (yS (some (stL σ' e)) S) ∧ sn (yS (some (stL σ' e)) S 0) ≤ sn (S 0) + 1 := fun σ' e h1 h2 => ⟨wfP_push hw hT0 (wfs_stL h1 e), by show sn σ' + 1 ≤ _; omega⟩
  have ht := dv_lt (nxt (nxt x)) hT0
  have hc := dv_lt (nxt (nxt (nxt x))) (j := 2) (by omega)
  have hk := dv_lt (nxt (nxt (nxt (nxt (nxt x))))) (j := 5) (by omega)
  have hr := (hσ.1 _ ht).2.1
  unfold yrO
  by_cases e3 : dv (nxt x) 4 = 3
  · rw [if_pos e3]
    by_cases q : sd (S 0) (dv (nxt (nxt x)) T) (dv (nxt (nxt (nxt x))) 2) = 0
    · rw [if_pos q]; exact no
    · rw [if_neg q]; exact yes _ _ (wfs_blT hC hσ ht hc) rfl
  · rw [if_neg e3]
    by_cases e2 : dv (nxt x) 4 = 2
    · rw [if_pos e2]
      by_cases q : dv (nxt (nxt (nxt (nxt (nxt x))))) 5 + 1 ≤ sf (S 0) (dv (nxt (nxt x)) T) (yV (V (dv (nxt (nxt x)) T)) (nxt (nxt (nxt x)))) (yV (V (dv (nxt (nxt x)) T)) (nxt (nxt (nxt (nxt x)))))
      · rw [if_pos q]; exact yes _ _ (wfs_chT hC hσ ht (yV_ok _) (yV_ok _) (by omega) (by omega)) rfl
      · rw [if_neg q]; exact no
    · rw [if_neg e2]
      by_cases q : rws (sf (S 0) (dv (nxt (nxt x)) T)) + (dv (nxt (nxt (nxt (nxt (nxt x))))) 5 + 1) ≤ 999
      · rw [if_pos q]; exact yes _ _ (wfs_chT hC hσ ht (yV_ok _) (yV_ok _) (by omega) (by omega)) rfl
      · rw [if_neg q]; exact no
theorem clX_wL {p k : Nat} {v : Int64} (h : clX T V B D m S μ) : clX T V B D m S (wL μ p k v) := h
theorem mdX_wL {p k : Nat} {v : Int64} (h : mdX T V B D m S μ) : mdX T V B D m S (wL μ p k v) := h
theorem yearX {x : Int64} (h : clX T V B D m S μ) (hw : wfP T V B D m S) (hT0 : 0 < T) (hn : sn (S 0) < 100000) (hx : rL μ 0 13 = x) : ∃ μ', G_X10_passYear μ = some ((), μ') ∧ Fr (fun q j => acQ q j ∨ (q = 0 ∧ j = 13)) μ μ' ∧ rL μ' 0 13 = yrX x ∧ clX T V B D (yM (yrO T V B D (S 0) x) m) (yS (yrO T V B D (S 0) x) S) μ' := by
  have hC := hw.1
  have hT := hC.1
  have hσ := hw.2.2.2 0 (Nat.zero_le _)
  have ht := dv_lt (nxt (nxt x)) hT0
  have hc := dv_lt (nxt (nxt (nxt x))) (j := 2) (by omega)
  have hk := dv_lt (nxt (nxt (nxt (nxt (nxt x))))) (j := 5) (by omega)
  have h4 := dv_lt (nxt x) (j := 4) (by omega)
  generalize et : dv (nxt (nxt x)) T = t at *
  generalize ec : dv (nxt (nxt (nxt x))) 2 = c at *
  generalize ek : dv (nxt (nxt (nxt (nxt (nxt x))))) 5 = k at *
  generalize es : dv (nxt x) 4 = s at *
  have hV := hC.2.2 t ht
  have hr := (hσ.1 t ht).2.1
  have hB := hC.2.1 hT0
  have fl : ∀ {μa : Mem} {v : Int64}, Fr (fun q j => acQ q j ∨ (q = 0 ∧ j = 13)) μa (wL μa 0 13 v) := Fr.rf.wL (Or.inr ⟨rfl, rfl⟩)
  have fa : ∀ {μa μb : Mem}, Fr acQ μa μb → Fr (fun q j => acQ q j ∨ (q = 0 ∧ j = 13)) μa μb := fun f => f.mono (fun q j z => Or.inl z)
  unfold G_X10_passYear yrX yrO
  rw [show (4 : Int32) = nI 4 from rfl, bd_eq (drawX (by omega) (by omega)), hx, es, rI_wL, h.1.1, bd_eq (drawX hT0 (by omega)), rL_wL_at, et]
  by_cases e3 : s = 3
  · rw [if_pos e3, if_pos e3, if_pos (r_eq (m := 3) e3), show (2 : Int32) = nI 2 from rfl, bd_eq (drawX (by omega) (by omega)), rL_wL_at, ec]
    generalize hμ : wL (wL (wL μ 0 13 (nxt x)) 0 13 (nxt (nxt x))) 0 13 (nxt (nxt (nxt x))) = μ3
    have f3 : Fr (fun q j => acQ q j ∨ (q = 0 ∧ j = 13)) μ μ3 := by rw [← hμ]; exact (fl.tr fl).tr fl
    have h3 : clX T V B D m S μ3 := by rw [← hμ]; exact h
    have r3 : rL μ3 0 13 = nxt (nxt (nxt x)) := by rw [← hμ]; exact rL_wL_at
    have dl := ((hσ.1 t ht).2.2 c hc).2.2.2.2
    rw [bd_eq (xW_build h3.1 hC ht hc (by omega))]
    by_cases q : sd (S 0) t c = 0
    · rw [if_pos q, if_pos q, if_neg (by decide)]
      exact ⟨μ3, rfl, f3, r3, h3⟩
    · obtain ⟨μ4, e4, f4, c4⟩ := doBuild_ok h3 hw hn ht hc
      rw [if_neg q, if_neg q, if_pos rfl, bd_eq e4]
      exact ⟨μ4, rfl, f3.tr (fa f4), (f4.l (by unfold acQ; omega)).trans r3, c4⟩
  · have e9 : rI μ (9 + 9 * t) 2 = nI (V t) := (h.1.2.2.2.2.1 t ht).1
    rw [if_neg e3, if_neg e3, if_neg (r_ne (m := 3) e3 (by omega) (by omega)), gq_in (by omega) (by omega), sp_eq (by omega), rI_wL, rI_wL, e9, lb_e, bd_eq (dOM hV.2), rL_wL_at, bd_eq (dOM hV.2), rL_wL_at, show (5 : Int32) = nI 5 from rfl, bd_eq (drawX (by omega) (by omega)), rL_wL_at, ek, nI_1, lb_e]
    generalize ea : yV (V t) (nxt (nxt (nxt x))) = a
    generalize eb : yV (V t) (nxt (nxt (nxt (nxt x)))) = b
    have ha : okv (V t) a := by rw [← ea]; exact yV_ok _
    have hb : okv (V t) b := by rw [← eb]; exact yV_ok _
    generalize hμ : wL (wL (wL (wL (wL μ 0 13 (nxt x)) 0 13 (nxt (nxt x))) 0 13 (nxt (nxt (nxt x)))) 0 13 (nxt (nxt (nxt (nxt x))))) 0 13 (nxt (nxt (nxt (nxt (nxt x))))) = μ3
    have f3 : Fr (fun q j => acQ q j ∨ (q = 0 ∧ j = 13)) μ μ3 := by rw [← hμ]; exact (((fl.tr fl).tr fl).tr fl).tr fl
    have h3 : clX T V B D m S μ3 := by rw [← hμ]; exact h
    have r3 : rL μ3 0 13 = nxt (nxt (nxt (nxt (nxt x)))) := by rw [← hμ]; exact rL_wL_at
    by_cases e2 : s = 2
    · rw [if_pos e2, if_pos (r_eq (m := 2) e2), bd_eq (xW_drop h3.1 hC ht ha hb (by omega) (by omega) hr)]
      by_cases q : k + 1 ≤ sf (S 0) t a b
      · obtain ⟨μ4, e4, f4, c4⟩ := doChange_ok (z := -((k + 1 : Nat) : Int)) h3 hw hn ht ha hb (by omega) (by omega) (by omega) (by omega)
        rw [if_pos (show -((k + 1 : Nat) : Int) ≤ 0 by omega), show (-((k + 1 : Nat) : Int)).natAbs = k + 1 by omega] at c4
        rw [if_pos q, if_pos q, if_pos rfl, nI_zI (k + 1), zI_neg, bd_eq e4]
        refine ⟨μ4, rfl, f3.tr (fa f4), (f4.l (by unfold acQ; omega)).trans r3, ?_⟩
        rw [← nI_zI]
        exact c4
      · rw [if_neg q, if_neg q, if_neg (by decide)]
        exact ⟨μ3, rfl, f3, r3, h3⟩
    · rw [if_neg e2, if_neg (r_ne (m := 2) e2 (by omega) (by omega)), bd_eq (xW_add h3.1 hC ht ha hb (by omega) (by omega) hr)]
      by_cases q : rws (sf (S 0) t) + (k + 1) ≤ 999
      · obtain ⟨μ4, e4, f4, c4⟩ := doChange_ok (z := ((k + 1 : Nat) : Int)) h3 hw hn ht ha hb (by omega) (by omega) (by omega) (by omega)
        rw [if_neg (show ¬ ((k + 1 : Nat) : Int) ≤ 0 by omega), show (((k + 1 : Nat) : Int)).natAbs = k + 1 by omega] at c4
        rw [if_pos q, if_pos q, if_pos rfl, nI_zI (k + 1), bd_eq e4]
        refine ⟨μ4, rfl, f3.tr (fa f4), (f4.l (by unfold acQ; omega)).trans r3, ?_⟩
        rw [← nI_zI]
        exact c4
      · rw [if_neg q, if_neg q, if_neg (by decide)]
        exact ⟨μ3, rfl, f3, r3, h3⟩
theorem yearM {x : Int64} (h : mdX T V B D m S μ) (hw : wfP T V B D m S) (hT0 : 0 < T) (hx : rL μ 107 24 = x) : ∃ μ', G_X11_drawYear μ = some ((), μ') ∧ Fr (fun q j => amQ q j ∨ (q = 107 ∧ j = 24)) μ μ' ∧ rL μ' 107 24 = yrX x ∧ mdX T V B D (yM (yrO T V B D (S 0) x) m) (yS (yrO T V B D (S 0) x) S) μ' := by
  have hC := hw.1
  have hT := hC.1
  have hσ := hw.2.2.2 0 (Nat.zero_le _)
  have ht := dv_lt (nxt (nxt x)) hT0
  have hc := dv_lt (nxt (nxt (nxt x))) (j := 2) (by omega)
  have hk := dv_lt (nxt (nxt (nxt (nxt (nxt x))))) (j := 5) (by omega)
  have h4 := dv_lt (nxt x) (j := 4) (by omega)
  generalize et : dv (nxt (nxt x)) T = t at *
  generalize ec : dv (nxt (nxt (nxt x))) 2 = c at *
  generalize ek : dv (nxt (nxt (nxt (nxt (nxt x))))) 5 = k at *
  generalize es : dv (nxt x) 4 = s at *
  have hV := hC.2.2 t ht
  have hr := (hσ.1 t ht).2.1
  have hB := hC.2.1 hT0
  have fl : ∀ {μa : Mem} {v : Int64}, Fr (fun q j => amQ q j ∨ (q = 107 ∧ j = 24)) μa (wL μa 107 24 v) := Fr.rf.wL (Or.inr ⟨rfl, rfl⟩)
  have fa : ∀ {μa μb : Mem}, Fr amQ μa μb → Fr (fun q j => amQ q j ∨ (q = 107 ∧ j = 24)) μa μb := fun f => f.mono (fun q j z => Or.inl z)
  unfold G_X11_drawYear yrX yrO
  rw [show (4 : Int32) = nI 4 from rfl, bd_eq (drawM (by omega) (by omega)), hx, es, rI_wL, h.1, bd_eq (drawM hT0 (by omega)), rL_wL_at, et]
  by_cases e3 : s = 3
  · rw [if_pos e3, if_pos e3, if_pos (r_eq (m := 3) e3), show (2 : Int32) = nI 2 from rfl, bd_eq (drawM (by omega) (by omega)), rL_wL_at, ec]
    generalize hμ : wL (wL (wL μ 107 24 (nxt x)) 107 24 (nxt (nxt x))) 107 24 (nxt (nxt (nxt x))) = μ3
    have f3 : Fr (fun q j => amQ q j ∨ (q = 107 ∧ j = 24)) μ μ3 := by rw [← hμ]; exact (fl.tr fl).tr fl
    have h3 : mdX T V B D m S μ3 := by rw [← hμ]; exact h
    have r3 : rL μ3 107 24 = nxt (nxt (nxt x)) := by rw [← hμ]; exact rL_wL_at
    have dl := ((hσ.1 t ht).2.2 c hc).2.2.2.2
    rw [bd_eq (mW_build h3.1 h3.2.2.2.2.1 hC ht hc (by omega))]
    by_cases q : sd (S 0) t c = 0
    · rw [if_pos q, if_pos q, if_neg (by decide)]
      exact ⟨μ3, rfl, f3, r3, h3⟩
    · obtain ⟨μ4, e4, f4, c4⟩ := buildM h3 hw ht hc q
      rw [if_neg q, if_neg q, if_pos rfl, bd_eq e4]
      exact ⟨μ4, rfl, f3.tr (fa f4), (f4.l (by unfold amQ; omega)).trans r3, c4⟩
  · rw [if_neg e3, if_neg e3, if_neg (r_ne (m := 3) e3 (by omega) (by omega)), bd_eq (dVM (by omega) hV.2 (by rw [rI_wL, rI_wL]; exact h.2.2.2.1 t ht)), rL_wL_at, bd_eq (dVM (by omega) hV.2 (by rw [rI_wL, rI_wL, rI_wL]; exact h.2.2.2.1 t ht)), rL_wL_at, show (5 : Int32) = nI 5 from rfl, bd_eq (drawM (by omega) (by omega)), rL_wL_at, ek, nI_1, lb_e]
    generalize ea : yV (V t) (nxt (nxt (nxt x))) = a
    generalize eb : yV (V t) (nxt (nxt (nxt (nxt x)))) = b
    have ha : okv (V t) a := by rw [← ea]; exact yV_ok _
    have hb : okv (V t) b := by rw [← eb]; exact yV_ok _
    generalize hμ : wL (wL (wL (wL (wL μ 107 24 (nxt x)) 107 24 (nxt (nxt x))) 107 24 (nxt (nxt (nxt x)))) 107 24 (nxt (nxt (nxt (nxt x))))) 107 24 (nxt (nxt (nxt (nxt (nxt x))))) = μ3
    have f3 : Fr (fun q j => amQ q j ∨ (q = 107 ∧ j = 24)) μ μ3 := by rw [← hμ]; exact (((fl.tr fl).tr fl).tr fl).tr fl
    have h3 : mdX T V B D m S μ3 := by rw [← hμ]; exact h
    have r3 : rL μ3 107 24 = nxt (nxt (nxt (nxt (nxt x)))) := by rw [← hμ]; exact rL_wL_at
    unfold F_X11_drawYear_96
    by_cases e2 : s = 2
    · rw [if_pos e2, if_pos (l_le (m := 2) (by omega) (by omega)), if_pos (r_eq (m := 2) e2), bd_eq (mW_drop h3.1 h3.2.2.2.1 h3.2.2.2.2.1 hC ht ha hb (by omega) (by omega) hr)]
      by_cases q : k + 1 ≤ sf (S 0) t a b
      · obtain ⟨μ4, e4, f4, c4⟩ := dropM h3 hw ht ha hb (k := k + 1) (by omega) (by omega) q
        rw [if_pos q, if_pos q, if_pos rfl, bd_eq e4]
        exact ⟨μ4, rfl, f3.tr (fa f4), (f4.l (by unfold amQ; omega)).trans r3, c4⟩
      · rw [if_neg q, if_neg q, if_neg (by decide)]
        exact ⟨μ3, rfl, f3, r3, h3⟩
    · rw [if_neg e2, if_neg (l_nle (m := 2) (by omega) (by omega)), bd_eq (mW_add h3.1 h3.2.2.2.1 h3.2.2.2.2.1 hC ht ha hb (by omega) (by omega) hr)]
      by_cases q : rws (sf (S 0) t) + (k + 1) ≤ 999
      · obtain ⟨μ4, e4, f4, c4⟩ := addM h3 hw ht ha hb (k := k + 1) (by omega) (by omega) q
        rw [if_pos q, if_pos q, if_pos rfl, bd_eq e4, if_neg (r_ne (m := 2) e2 (by omega) (by omega))]
        exact ⟨μ4, rfl, f3.tr (fa f4), (f4.l (by unfold amQ; omega)).trans r3, c4⟩
      · rw [if_neg q, if_neg q, if_neg (by decide), if_neg (r_ne (m := 2) e2 (by omega) (by omega))]
        exact ⟨μ3, rfl, f3, r3, h3⟩
/-- so many years -/
def yI (T : Nat) (V : Nat → Nat) (B D m : Nat) (S : Nat → St) (x : Int64) : Nat → Nat × (Nat → St) × Int64
  | 0 => (m, S, x)
  | i + 1 => (yM (yrO T V B D ((yI T V B D m S x i).2.1 0) (yI T V B D m S x i).2.2) (yI T V B D m S x i).1, yS (yrO T V B D ((yI T V B D m S x i).2.1 0) (yI T V B D m S x i).2.2) (yI T V B D m S x i).2.1, yrX (yI T V B D m S x i).2.2)
theorem yI_wf (hw : wfP T V B D m S) (hT0 : 0 < T) (x : Int64) : ∀ i, wfP T V B D (yI T V B D m S x i).1 (yI T V B D m S x i).2.1 ∧ sn ((yI T V B D m S x i).2.1 0) ≤ sn (S 0) + i := by
  intro i
  induction i with
  | zero => exact ⟨hw, Nat.le_refl _⟩
  | succ i ih =>
    obtain ⟨a, b⟩ := yr_wf ih.1 hT0 (yI T V B D m S x i).2.2
    refine ⟨a, ?_⟩
    have := ih.2
    show sn (yS _ _ 0) ≤ _
    omega
theorem yearsX {x : Int64} {n : Nat} (h : clX T V B D m S μ) (hw : wfP T V B D m S) (hT0 : 0 < T) (hn : sn (S 0) < 90000) (hx : rL μ 0 13 = x) (hn40 : n ≤ 40) : ∃ μ', L_X10_years_28 100000 (nI n) 0 μ = some (nI (allR T ((yI T V B D m S x n).2.1 0)), μ') ∧ Fr (fun q j => acQ q j ∨ (q = 0 ∧ j = 13)) μ μ' ∧ clX T V B D (yI T V B D m S x n).1 (yI T V B D m S x n).2.1 μ' := by
  have hT := hw.1.1
  refine loop_inv (fun k i (s : Mem) => L_X10_years_28 k (nI n) i s) n (fun i s => Fr (fun q j => acQ q j ∨ (q = 0 ∧ j = 13)) μ s ∧ clX T V B D (yI T V B D m S x i).1 (yI T V B D m S x i).2.1 s ∧ rL s 0 13 = (yI T V B D m S x i).2.2) (P := fun o => ∃ μ', o = some (nI (allR T ((yI T V B D m S x n).2.1 0)), μ') ∧ Fr (fun q j => acQ q j ∨ (q = 0 ∧ j = 13)) μ μ' ∧ clX T V B D (yI T V B D m S x n).1 (yI T V B D m S x n).2.1 μ') ?_ ?_ 100000 0 μ (by omega) (by omega) ⟨Fr.rf, h, hx⟩
  · rintro k i s hi ⟨f, c, r⟩
    obtain ⟨w1, w2⟩ := yI_wf hw hT0 x i
    obtain ⟨s', e, f', r', c'⟩ := yearX c w1 hT0 (by omega) r
    refine ⟨s', ⟨f.tr f', c', r'⟩, ?_⟩
    show L_X10_years_28 (k + 1) (nI n) (nI i) s = _
    rw [L_X10_years_28, if_neg (nI_ge hi (by omega)), bd_eq e, lb_e, nI_1]
  · rintro k s ⟨f, c, r⟩
    refine ⟨s, ?_, f, c⟩
    show L_X10_years_28 (k + 1) (nI n) (nI n) s = _
    rw [L_X10_years_28, if_pos (nI_le (Nat.le_refl _) (by omega)), bd_eq (xall c.1 hT)]
theorem yearsM {x : Int64} {n : Nat} (h : mdX T V B D m S μ) (hw : wfP T V B D m S) (hT0 : 0 < T) (hx : rL μ 107 24 = x) (hn40 : n ≤ 40) : ∃ μ', L_X11_years_29 100000 (nI n) 0 μ = some (nI (allR T ((yI T V B D m S x n).2.1 0)), μ') ∧ Fr (fun q j => amQ q j ∨ (q = 107 ∧ j = 24)) μ μ' ∧ mdX T V B D (yI T V B D m S x n).1 (yI T V B D m S x n).2.1 μ' := by
  have hT := hw.1.1
  refine loop_inv (fun k i (s : Mem) => L_X11_years_29 k (nI n) i s) n (fun i s => Fr (fun q j => amQ q j ∨ (q = 107 ∧ j = 24)) μ s ∧ mdX T V B D (yI T V B D m S x i).1 (yI T V B D m S x i).2.1 s ∧ rL s 107 24 = (yI T V B D m S x i).2.2) (P := fun o => ∃ μ', o = some (nI (allR T ((yI T V B D m S x n).2.1 0)), μ') ∧ Fr (fun q j => amQ q j ∨ (q = 107 ∧ j = 24)) μ μ' ∧ mdX T V B D (yI T V B D m S x n).1 (yI T V B D m S x n).2.1 μ') ?_ ?_ 100000 0 μ (by omega) (by omega) ⟨Fr.rf, h, hx⟩
  · rintro k i s hi ⟨f, c, r⟩
    obtain ⟨w1, w2⟩ := yI_wf hw hT0 x i
    obtain ⟨s', e, f', r', c'⟩ := yearM c w1 hT0 r
    refine ⟨s', ⟨f.tr f', c', r'⟩, ?_⟩
    show L_X11_years_29 (k + 1) (nI n) (nI i) s = _
    rw [L_X11_years_29, if_neg (nI_ge hi (by omega)), bd_eq e, lb_e, nI_1]
  · rintro k s ⟨f, c, r⟩
    refine ⟨s, ?_, f, c⟩
    show L_X11_years_29 (k + 1) (nI n) (nI n) s = _
    rw [L_X11_years_29, if_pos (nI_le (Nat.le_refl _) (by omega)), bd_eq (mall c.1 c.2.2.2.2.1 hT)]
theorem a_years {c : Nat} (h : RR c μ) (hc : c ≤ 600) (x : Int32) (l : Int64) : Ans c (G_X10_years x l μ) (G_X11_years x l) := by
  have h0 := h
  obtain ⟨h1, h2, h3, T, V, B, D, m, S, hB, hP, h6⟩ := h0
  obtain ⟨hw, hx, hd, hn⟩ := bp_split hB hP
  have hC := hw.1
  have hT := hC.1
  by_cases hT0 : 0 < T
  · have xb : G_X10_hasBook μ = some (1, μ) := by have := xBook hx.1.1 hT; rw [if_pos hT0] at this; exact this
    have mb : ∀ μ', mdX T V B D m S μ' → G_X11_isBook μ' = some (1, μ') := fun μ' d => by have := mBook d.1 hT; rw [if_pos hT0] at this; exact this
    rcases num_cases x (n := 40) (by omega) with hno | ⟨n, n1, n2, rfl⟩
    · refine Ans.p (r := -1) h ?_ ?_
      · unfold G_X10_years
        rw [bd_eq xb, if_neg (by decide)]
        rcases hno with hno | hno
        · rw [if_pos hno]
        · rw [if_neg (show ¬ x ≤ 40 from fun z => (fa_of_lt hno).2.1 z), ite_self]
      · unfold G_X11_years
        rw [bd_eq (mb μ hd), if_neg (by decide), show (40 : Int64) = (nI 40).toInt64 from by decide, bd_eq (in1_no hno), if_pos rfl]
    · obtain ⟨μ1, e1, f1, c1⟩ := yearsX (μ := wL μ 0 13 l) (n := n) (clX_wL hx) hw hT0 (by omega) rL_wL_at n2
      have fa : Fr (fun q j => acQ q j ∨ (q = 0 ∧ j = 13)) μ μ1 := (Fr.rf.wL (Or.inr ⟨rfl, rfl⟩)).tr f1
      have d1 := mdX_fr hd (fa.mono (fun q j z => by unfold acQ at z; omega))
      obtain ⟨μ2, e2, f2, d2⟩ := yearsM (μ := wL μ1 107 24 l) (n := n) (mdX_wL d1) hw hT0 rL_wL_at n2
      have fb : Fr (fun q j => amQ q j ∨ (q = 107 ∧ j = 24)) μ1 μ2 := (Fr.rf.wL (Or.inr ⟨rfl, rfl⟩)).tr f2
      obtain ⟨w1, w2⟩ := yI_wf hw hT0 l n
      have c2 : clX T V B D (yI T V B D m S l n).1 (yI T V B D m S l n).2.1 μ2 := by
        have f2' : Fr amQ μ2 μ2 := Fr.rf
        obtain ⟨k1, k2, q, k3, k4, k5⟩ := c1
        refine ⟨XB.ag hT (fun x j a b => fb.i (by unfold amQ; omega)) k1, (fb.i (by unfold amQ; omega)).trans k2, q, k3, (fb.i (by unfold amQ; omega)).trans k4, fun j hj => ?_⟩
        rw [show (fun k => rI μ2 66 (61 * ((q + 40 - j) % 40) + k)) = (fun k => rI μ1 66 (61 * ((q + 40 - j) % 40) + k)) from funext fun k => fb.i (by unfold amQ; omega)]
        exact k5 j hj
      refine ⟨nI (allR T ((yI T V B D m S l n).2.1 0)), μ1, μ2, ?_, ?_, rr_put h1 h2 h3 h6 ((fa.mono (fun q j z => by unfold SCR; rcases z with z | z; exact Or.inl z; right; right; omega)).tr (fb.mono (fun q j z => by unfold SCR; rcases z with z | z; exact Or.inr (Or.inl z); right; right; omega))) w1 c2 d2 (by omega)⟩
      · unfold G_X10_years
        rw [bd_eq xb, if_neg (by decide), if_neg (r_nlt (m := 1) n1 (by omega)), if_pos (r_le (m := 40) n2 (by omega)), lb_e, e1]
      · unfold G_X11_years
        rw [bd_eq (mb μ1 d1), if_neg (by decide), show (40 : Int64) = (nI 40).toInt64 from by decide, bd_eq (in1_yes (by omega) n1 n2), if_neg (by decide), lb_e, e2]
  · have xb : G_X10_hasBook μ = some (0, μ) := by have := xBook hx.1.1 hT; rw [if_neg hT0] at this; exact this
    have mb : G_X11_isBook μ = some (0, μ) := by have := mBook hd.1 hT; rw [if_neg hT0] at this; exact this
    refine Ans.p (r := -1) h ?_ ?_
    · unfold G_X10_years; rw [bd_eq xb, if_pos rfl]
    · unfold G_X11_years; rw [bd_eq mb, if_pos rfl]
end Y
