/-! the model's acts -/
theorem MC.agb {K : Nat} {g bd gr : Nat → Nat} {dr : Nat} {q q' : Nat → Int32} (hK : K ≤ 8) (h : MC K g bd gr dr q) (e : ∀ k, k < 34 → q' k = q k) : MC K g bd gr dr q' := ⟨(e _ (by omega)).trans h.1, (e _ (by omega)).trans h.2.1, fun i hi => by
  obtain ⟨a, b, c, d⟩ := h.2.2 i hi
  exact ⟨(e _ (by omega)).trans a, (e _ (by omega)).trans b, (e _ (by omega)).trans c, (e _ (by omega)).trans d⟩⟩
theorem MT.agb {K : Nat} {f : Nat → Nat → Nat} {bd gr : Nat → Nat → Nat} {dr : Nat → Nat} {nb nb' : Nat → Int32} (hK : K ≤ 8) (h : MT K f bd gr dr nb) (e : ∀ k, k < 357 → nb' k = nb k) : MT K f bd gr dr nb' := ⟨fun a b ha hb => (e _ (by omega)).trans (h.1 a b ha hb), fun c hc => (h.2 c hc).agb hK (fun k hk => e _ (by omega))⟩
theorem MG.agb {n : Nat} {lg : Nat → Nat → Int32} {nb nb' : Nat → Int32} (h : MG n lg nb) (e : ∀ k, 1072 ≤ k → k < 1253 → nb' k = nb k) : MG n lg nb' := ⟨(e _ (by omega) (by omega)).trans h.1, fun j w hj hw => (e _ (by omega) (by omega)).trans (h.2 j w hj hw)⟩
theorem MB.agb {T : Nat} {V : Nat → Nat} {B : Nat} {σ : St} {nb nb' : Nat → Int32} (hT : T ≤ 3) (hB : 0 < T → B ≤ 8) (h : MB T V B σ nb) (e : ∀ k, k < 1253 → nb' k = nb k) : MB T V B σ nb' := ⟨fun t ht => (h.1 t ht).agb (by have := hB (by omega); omega) (fun k hk => e _ (by omega)), fun h0 => (e _ (by omega)).trans (h.2.1 h0), h.2.2.agb (fun k _ hk => e k hk)⟩
section K
variable {T : Nat} {V : Nat → Nat} {B D m : Nat} {S : Nat → St} {μ : Mem}
theorem keep53 {r : Nat} (hr : r < 40) (h : rI μ 107 23 = nI r) : ∃ μ', L_X11_keep_53 100000 0 μ = some ((), μ') ∧ Fr (fun q j => (q = 121 ∧ 1253 * r ≤ j ∧ j < 1253 * r + 1253) ∨ (q = 107 ∧ j = 23)) μ μ' ∧ rI μ' 107 23 = nI (r + 1) ∧ ∀ k, k < 1253 → rI μ' 121 (1253 * r + k) = rI μ 116 k := by
  refine loop_inv (fun n i (s : Mem) => L_X11_keep_53 n i s) 1253 (fun k s => Fr (fun q j => q = 121 ∧ 1253 * r ≤ j ∧ j < 1253 * r + 1253) μ s ∧ ∀ k', k' < k → rI s 121 (1253 * r + k') = rI μ 116 k') (P := fun o => ∃ μ', o = some ((), μ') ∧ Fr (fun q j => (q = 121 ∧ 1253 * r ≤ j ∧ j < 1253 * r + 1253) ∨ (q = 107 ∧ j = 23)) μ μ' ∧ rI μ' 107 23 = nI (r + 1) ∧ ∀ k, k < 1253 → rI μ' 121 (1253 * r + k) = rI μ 116 k) ?_ ?_ 100000 0 μ (by omega) (by omega) ⟨Fr.rf, fun k' h => absurd h (by omega)⟩
  · rintro n k s hk ⟨f, d⟩
    have y : rI s 107 23 = nI r := (f.i (by omega)).trans h
    refine ⟨wI s 121 (1253 * r + k) (rI s 116 k), ⟨f.wI (by omega), fun k' h' => ?_⟩, ?_⟩
    · by_cases e : k' = k
      · subst e; rw [rI_wI_at]; exact f.i (by omega)
      · rw [rI_wI_off (by omega)]; exact d k' (by omega)
    · show L_X11_keep_53 (n + 1) (nI k) s = _
      rw [L_X11_keep_53, if_neg (l_nle hk (by omega)), y, gq_in (by omega) (by omega), show (1253 : Int32) = nI 1253 from rfl, pk_mul, nI_add, gq_in (by omega) (by omega), nx_nI (by omega), nx_nI (by omega), lb_e, lb_e, nI_1]
  · rintro n s ⟨f, d⟩
    have y : rI s 107 23 = nI r := (f.i (by omega)).trans h
    refine ⟨wI s 107 23 (nI (r + 1)), ?_, (f.mono (fun q j h => Or.inl h)).wI (by omega), rI_wI_at, fun k hk => ?_⟩
    · show L_X11_keep_53 (n + 1) (nI 1253) s = _
      rw [L_X11_keep_53, if_pos (by decide), y, nI_1, lb_e]
    · rw [rI_wI_ne (by omega)]; exact d k hk
theorem keep13 (h : rI μ 107 23 = nI 40) : ∃ μ', L_X11_keep_13 100000 1253 μ = F_X11_keep_51 μ' ∧ Fr (fun q j => q = 121 ∨ (q = 107 ∧ j = 23)) μ μ' ∧ rI μ' 107 23 = nI 39 ∧ ∀ k, k < 48867 → rI μ' 121 k = rI μ 121 (k + 1253) := by
  refine loop_inv (fun n i (s : Mem) => L_X11_keep_13 n i s) 50120 (fun k s => 1253 ≤ k ∧ Fr (fun q j => q = 121) μ s ∧ (∀ i, i + 1253 < k → rI s 121 i = rI μ 121 (i + 1253)) ∧ ∀ i, k ≤ i + 1253 → rI s 121 i = rI μ 121 i) (P := fun o => ∃ μ', o = F_X11_keep_51 μ' ∧ Fr (fun q j => q = 121 ∨ (q = 107 ∧ j = 23)) μ μ' ∧ rI μ' 107 23 = nI 39 ∧ ∀ k, k < 48867 → rI μ' 121 k = rI μ 121 (k + 1253)) ?_ ?_ 100000 1253 μ (by omega) (by omega) ⟨by omega, Fr.rf, fun i h => absurd h (by omega), fun i _ => rfl⟩
  · rintro n k s hk ⟨k1, f, d, u⟩
    refine ⟨wI s 121 (k - 1253) (rI s 121 k), ⟨by omega, Fr.wI (S := fun q j => q = 121) f rfl, fun i hi => ?_, fun i hi => ?_⟩, ?_⟩
    · by_cases e : i = k - 1253
      · rw [e, rI_wI_at, u k (by omega), show k - 1253 + 1253 = k by omega]
      · rw [rI_wI_off e]; exact d i (by omega)
    · rw [rI_wI_off (by omega)]; exact u i (by omega)
    · show L_X11_keep_13 (n + 1) (nI k) s = _
      rw [L_X11_keep_13, if_neg (l_nle hk (by omega)), gq_in (by omega) (by omega), show (1253 : Int32) = nI 1253 from rfl, pk_sub (by omega), gq_in (by omega) (by omega), nx_nI (by omega), nx_nI (by omega), lb_e, lb_e, nI_1]
  · rintro n s ⟨k1, f, d, u⟩
    have y : rI s 107 23 = nI 40 := (f.i (by omega)).trans h
    refine ⟨wI s 107 23 (nI 39), ?_, (f.mono (fun q j h => Or.inl h)).wI (by omega), rI_wI_at, fun k hk => ?_⟩
    · show L_X11_keep_13 (n + 1) (nI 50120) s = _
      rw [L_X11_keep_13, if_pos (by decide), y, nI_sub1 (by omega), lb_e]
    · rw [rI_wI_ne (by omega)]; exact d k (by omega)
theorem keep_ok (h : mdX T V B D m S μ) (hw : wfP T V B D m S) : ∃ μ', G_X11_keep μ = some ((), μ') ∧ Fr (fun q j => q = 121 ∨ (q = 107 ∧ j = 23)) μ μ' ∧ rI μ' 107 23 = nI (min (m + 1) 40) ∧ ∀ j, j < min (m + 1) 40 → MB T V B (S j) (fun k => rI μ' 121 (1253 * (min (m + 1) 40 - 1 - j) + k)) := by
  obtain ⟨h1, h2, h3, h4, h5, h6, h7⟩ := h
  have hC := hw.1
  have hm := hw.2.2.1
  have hB : 0 < T → B ≤ 8 := fun z => (hC.2.1 z).2.1
  unfold G_X11_keep
  rw [h6]
  by_cases e : m = 40
  · rw [if_pos (by rw [e]; rfl)]
    obtain ⟨μ1, e1, f1, y1, d1⟩ := keep13 (by rw [h6, e])
    obtain ⟨μ2, e2, f2, y2, d2⟩ := keep53 (r := 39) (by omega) y1
    refine ⟨μ2, ?_, f1.tr (f2.mono (fun q j z => by omega)), by rw [y2, e]; rfl, fun j hj => ?_⟩
    · rw [e1]; unfold F_X11_keep_51; rw [e2]
    · rw [show min (m + 1) 40 - 1 - j = 39 - j by omega]
      by_cases j0 : j = 0
      · subst j0
        exact h5.agb hC.1 hB (fun k hk => (d2 k hk).trans (f1.i (by omega)))
      · have := h7 (j - 1) (by omega)
        rw [show j - 1 + 1 = j by omega, show m - 1 - (j - 1) = 40 - j by omega] at this
        refine this.agb hC.1 hB (fun k hk => ?_)
        show rI μ2 121 (1253 * (39 - j) + k) = rI μ 121 (1253 * (40 - j) + k)
        rw [f2.i (by omega), d1 _ (by omega), show 1253 * (39 - j) + k + 1253 = 1253 * (40 - j) + k by omega]
  · rw [if_neg (r_ne (m := 40) e (by omega) (by omega))]
    obtain ⟨μ2, e2, f2, y2, d2⟩ := keep53 (r := m) (by omega) h6
    refine ⟨μ2, ?_, f2.mono (fun q j z => by omega), by rw [y2]; congr 1; omega, fun j hj => ?_⟩
    · unfold F_X11_keep_51; rw [e2]
    · rw [show min (m + 1) 40 - 1 - j = m - j by omega]
      by_cases j0 : j = 0
      · subst j0
        exact h5.agb hC.1 hB (fun k hk => d2 k hk)
      · have := h7 (j - 1) (by omega)
        rw [show j - 1 + 1 = j by omega, show m - 1 - (j - 1) = m - j by omega] at this
        refine this.agb hC.1 hB (fun k hk => ?_)
        show rI μ2 121 (1253 * (m - j) + k) = rI μ 121 (1253 * (m - j) + k)
        exact f2.i (by omega)
theorem log87 {n r : Nat} {lg : Nat → Nat → Int32} {x y z : Int32} (hr : r < 60) (h1 : rI μ 116 1072 = nI r) (h2 : ∀ j w, j < r → w < 3 → rI μ 116 (1073 + 3 * j + w) = lg (n - r + j) w) (hrn : r ≤ n) : ∃ μ', F_X11_isRefused_87 x y z μ = some (0, μ') ∧ Fr (fun q j => q = 116 ∧ 1072 ≤ j) μ μ' ∧ rI μ' 116 1072 = nI (r + 1) ∧ ∀ j w, j < r + 1 → w < 3 → rI μ' 116 (1073 + 3 * j + w) = if n - r + j = n then lge x y z w else lg (n - r + j) w := by
  refine ⟨wI (wI (wI (wI μ 116 (1073 + 3 * r) x) 116 (1073 + 3 * r + 1) y) 116 (1073 + 3 * r + 2) z) 116 1072 (nI (r + 1)), ?_, (((Fr.rf.wI (by omega)).wI (by omega)).wI (by omega)).wI (by omega), rI_wI_at, fun j w hj hw => ?_⟩
  · unfold F_X11_isRefused_87
    rw [h1, show (1073 : Int32) = nI 1073 from rfl, i3, pk_mul, nI_add, lb_e]
    simp (disch := omega) only [gq_in, nx_nI, nI_1, nI_p2, lb_e, rI_wI_off, h1]
  · rw [rI_wI_off (by omega)]
    by_cases e : j = r
    · subst e
      rw [if_pos (by omega)]
      unfold lge
      rcases (show w = 0 ∨ w = 1 ∨ w = 2 by omega) with rfl | rfl | rfl
      · rw [rI_wI_off (by omega), rI_wI_off (by omega), Nat.add_zero, rI_wI_at, if_pos rfl]
      · rw [rI_wI_off (by omega), rI_wI_at]; rfl
      · rw [rI_wI_at]; rfl
    · rw [if_neg (by omega), rI_wI_off (by omega), rI_wI_off (by omega), rI_wI_off (by omega)]
      exact h2 j w (by omega) hw
theorem log37 {x y z : Int32} (h1 : rI μ 116 1072 = nI 60) : ∃ μ', L_X11_isRefused_37 100000 x y z 3 μ = F_X11_isRefused_87 x y z μ' ∧ Fr (fun q j => q = 116 ∧ 1072 ≤ j) μ μ' ∧ rI μ' 116 1072 = nI 59 ∧ ∀ k, k < 177 → rI μ' 116 (1073 + k) = rI μ 116 (1073 + (k + 3)) := by
  refine loop_inv (fun n i (s : Mem) => L_X11_isRefused_37 n x y z i s) 180 (fun k s => 3 ≤ k ∧ Fr (fun q j => q = 116 ∧ 1073 ≤ j) μ s ∧ (∀ i, i + 3 < k → rI s 116 (1073 + i) = rI μ 116 (1073 + (i + 3))) ∧ ∀ i, k ≤ i + 3 → rI s 116 (1073 + i) = rI μ 116 (1073 + i)) (P := fun o => ∃ μ', o = F_X11_isRefused_87 x y z μ' ∧ Fr (fun q j => q = 116 ∧ 1072 ≤ j) μ μ' ∧ rI μ' 116 1072 = nI 59 ∧ ∀ k, k < 177 → rI μ' 116 (1073 + k) = rI μ 116 (1073 + (k + 3))) ?_ ?_ 100000 3 μ (by omega) (by omega) ⟨by omega, Fr.rf, fun i h => absurd h (by omega), fun i _ => rfl⟩
  · rintro n k s hk ⟨k1, f, d, u⟩
    refine ⟨wI s 116 (1073 + k - 3) (rI s 116 (1073 + k)), ⟨by omega, f.wI (by omega), fun i hi => ?_, fun i hi => ?_⟩, ?_⟩
    · by_cases e : i = k - 3
      · subst e
        rw [show 1073 + (k - 3) = 1073 + k - 3 by omega, rI_wI_at, u k (by omega), show k - 3 + 3 = k by omega]
      · rw [rI_wI_off (by omega)]; exact d i (by omega)
    · rw [rI_wI_off (by omega)]; exact u i (by omega)
    · show L_X11_isRefused_37 (n + 1) x y z (nI k) s = _
      rw [L_X11_isRefused_37, if_neg (l_nle hk (by omega)), show (1073 : Int32) = nI 1073 from rfl, i3, nI_add, gq_in (by omega) (by omega), pk_sub (by omega), gq_in (by omega) (by omega), nx_nI (by omega), nx_nI (by omega), lb_e, lb_e, nI_1]
  · rintro n s ⟨k1, f, d, u⟩
    have y' : rI s 116 1072 = nI 60 := (f.i (by omega)).trans h1
    refine ⟨wI s 116 1072 (nI 59), ?_, (f.mono (fun q j h => by omega)).wI (by omega), rI_wI_at, fun k hk => ?_⟩
    · show L_X11_isRefused_37 (n + 1) x y z (nI 180) s = _
      rw [L_X11_isRefused_37, if_pos (by decide), y', nI_sub1 (by omega), lb_e]
    · rw [rI_wI_off (by omega)]; exact d k (by omega)
def amQ (q j : Nat) : Prop := q = 116 ∨ q = 121 ∨ (q = 107 ∧ (j = 19 ∨ j = 23)) ∨ (118 ≤ q ∧ q ≤ 120)
/-- kept and noted: all but what the act itself does -/
def mmd (T : Nat) (V : Nat → Nat) (B D m : Nat) (S : Nat → St) (σ : St) (μ : Mem) : Prop := rI μ 107 12 = nI T ∧ rI μ 112 0 = nI B ∧ rI μ 112 1 = nI D ∧ (∀ t, t < T → rI μ 113 t = nI (V t)) ∧ MB T V B σ (fun k => rI μ 116 k) ∧ rI μ 107 23 = nI (min (m + 1) 40) ∧ ∀ j, j < min (m + 1) 40 → MB T V B (S j) (fun k => rI μ 121 (1253 * (min (m + 1) 40 - 1 - j) + k))
theorem mmd_fin {σ : St} (h : mmd T V B D m S σ μ) : mdX T V B D (min (m + 1) 40) (psh S σ) μ := by
  obtain ⟨h1, h2, h3, h4, h5, h6, h7⟩ := h
  refine ⟨h1, h2, h3, h4, h5, h6, fun j hj => ?_⟩
  have := h7 j hj
  unfold psh
  rw [if_neg (by omega), show j + 1 - 1 = j by omega]
  exact this
theorem isRef_ok {x y z : Int32} (h : mdX T V B D m S μ) (hw : wfP T V B D m S) (hT0 : 0 < T) : ∃ μ', G_X11_isRefused (-1) x y z μ = some (0, μ') ∧ Fr amQ μ μ' ∧ mmd T V B D m S (stL (S 0) (lge x y z)) μ' := by
  obtain ⟨μ1, e1, f1, y1, d1⟩ := keep_ok h hw
  obtain ⟨h1, h2, h3, h4, h5, h6, h7⟩ := h
  have hC := hw.1
  have hT := hC.1
  have hB := hC.2.1 hT0
  have g1 : rI μ1 116 1072 = nI (min (sn (S 0)) 60) := (f1.i (by omega)).trans h5.2.2.1
  have g2 : ∀ j w, j < min (sn (S 0)) 60 → w < 3 → rI μ1 116 (1073 + 3 * j + w) = sl (S 0) (sn (S 0) - min (sn (S 0)) 60 + j) w := fun j w hj hw' => (f1.i (by omega)).trans (h5.2.2.2 j w hj hw')
  have key : ∃ μ', G_X11_isRefused (-1) x y z μ = some (0, μ') ∧ Fr (fun q j => q = 116 ∧ 1072 ≤ j) μ1 μ' ∧ MG (sn (S 0) + 1) (fun j w => if j = sn (S 0) then lge x y z w else sl (S 0) j w) (fun k => rI μ' 116 k) := by
    unfold G_X11_isRefused
    rw [if_pos rfl, bd_eq e1, g1]
    by_cases e : 60 ≤ sn (S 0)
    · rw [show min (sn (S 0)) 60 = 60 by omega] at g1 g2 ⊢
      rw [if_pos (by decide)]
      obtain ⟨μ2, e2, f2, y2, d2⟩ := log37 (x := x) (y := y) (z := z) g1
      obtain ⟨μ3, e3, f3, y3, d3⟩ := log87 (n := sn (S 0)) (r := 59) (lg := sl (S 0)) (x := x) (y := y) (z := z) (by omega) y2 (fun j w hj hw' => by
        have a := d2 (3 * j + w) (by omega)
        rw [show 1073 + (3 * j + w) = 1073 + 3 * j + w by omega, show 1073 + (3 * j + w + 3) = 1073 + 3 * (j + 1) + w by omega] at a
        rw [a, g2 (j + 1) w (by omega) hw', show sn (S 0) - 60 + (j + 1) = sn (S 0) - 59 + j by omega]) (by omega)
      refine ⟨μ3, by rw [e2, e3], f2.tr f3, ?_, fun j w hj hw' => ?_⟩
      · show rI μ3 116 1072 = nI (min (sn (S 0) + 1) 60)
        rw [y3, show min (sn (S 0) + 1) 60 = 60 by omega]
      · have a := d3 j w (by omega) hw'
        rw [show sn (S 0) - 59 + j = sn (S 0) + 1 - min (sn (S 0) + 1) 60 + j by omega] at a
        exact a
    · rw [show min (sn (S 0)) 60 = sn (S 0) by omega] at g1 g2 ⊢
      rw [if_neg (r_ne (m := 60) (by omega) (by omega) (by omega))]
      obtain ⟨μ3, e3, f3, y3, d3⟩ := log87 (n := sn (S 0)) (r := sn (S 0)) (lg := sl (S 0)) (x := x) (y := y) (z := z) (by omega) g1 g2 (by omega)
      refine ⟨μ3, e3, f3, ?_, fun j w hj hw' => ?_⟩
      · show rI μ3 116 1072 = nI (min (sn (S 0) + 1) 60)
        rw [y3, show min (sn (S 0) + 1) 60 = sn (S 0) + 1 by omega]
      · have a := d3 j w (by omega) hw'
        rw [show sn (S 0) - sn (S 0) + j = sn (S 0) + 1 - min (sn (S 0) + 1) 60 + j by omega] at a
        exact a
  obtain ⟨μ2, e2, f2, g⟩ := key
  refine ⟨μ2, e2, (f1.mono (fun q j z => by unfold amQ; omega)).tr (f2.mono (fun q j z => by unfold amQ; omega)), (f2.i (by omega)).trans ((f1.i (by omega)).trans h1), (f2.i (by omega)).trans ((f1.i (by omega)).trans h2), (f2.i (by omega)).trans ((f1.i (by omega)).trans h3), fun t ht => (f2.i (by omega)).trans ((f1.i (by omega)).trans (h4 t ht)), ⟨fun t ht => ?_, fun h0 => ?_, g⟩, (f2.i (by omega)).trans y1, fun j hj => (d1 j hj).agb hT (fun _ => hB.2.1) (fun k _ => f2.i (by omega))⟩
  · exact (h5.1 t ht).agb (by omega) (fun k hk => (f2.i (by omega)).trans (f1.i (by omega)))
  · exact (f2.i (by omega)).trans ((f1.i (by omega)).trans (h5.2.1 h0))
end K
