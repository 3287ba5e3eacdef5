/-! images -/
section I
variable {T : Nat} {V : Nat → Nat} {B D m : Nat} {S : Nat → St} {μ : Mem} {σ : St} {p0 p1 : Nat}
theorem c4_ok (h : p0 + 2 < p1 ∨ p1 + 2 < p0) : ∃ μ', G_X4_copyFrom p0 p1 μ = some ((), μ') ∧ Fr (fun q _ => p0 ≤ q ∧ q ≤ p0 + 2) μ μ' ∧ ∀ v K g bd gr dr, K ≤ 8 → XL v K g bd gr dr p1 μ → XL v K g bd gr dr p0 μ' := by
  refine ⟨wC (wC (wI (wI μ p0 2 (rI μ p1 2)) p0 3 (rI (wI μ p0 2 (rI μ p1 2)) p1 3)) (p1 + 1) 0 (p0 + 1) 0 16) (p1 + 2) 0 (p0 + 2) 0 26, ?_, (((Fr.rf.wI (by omega)).wI (by omega)).wC (fun k _ _ => by omega)).wC (fun k _ _ => by omega), fun v K g bd gr dr hK hx => ?_⟩
  · unfold G_X4_copyFrom
    rw [lb_e, lb_e, lb_e, lb_e]
  · obtain ⟨⟨h1, h2, h3⟩, hs⟩ := hx
    refine ⟨⟨?_, ?_, fun k hk => ?_⟩, hs.agb hK (fun k hk => ?_)⟩
    · rw [rI_wC_ne (by omega), rI_wC_ne (by omega), rI_wI_off (by omega), rI_wI_at]; exact h1
    · rw [rI_wC_ne (by omega), rI_wC_ne (by omega), rI_wI_at, rI_wI_ne (by omega)]; exact h2
    · rw [rI_wC_ne (by omega), rI_wC_at, if_pos (by omega), rI_wI_ne (by omega), rI_wI_ne (by omega), show 0 + (k - 0) = k by omega]; exact h3 k hk
    · rw [rI_wC_at, if_pos (by omega), rI_wC_ne (by omega), rI_wI_ne (by omega), rI_wI_ne (by omega), show 0 + (k - 0) = k by omega]
theorem c7_ok (h : p0 + 8 < p1 ∨ p1 + 8 < p0) : ∃ μ', G_X7_copyFrom p0 p1 μ = some ((), μ') ∧ Fr (fun q _ => p0 ≤ q ∧ q ≤ p0 + 8) μ μ' ∧ ∀ v K f bd gr dr, K ≤ 8 → XT v K f bd gr dr p1 μ → XT v K f bd gr dr p0 μ' := by
  obtain ⟨μ1, hμ1⟩ : ∃ μ1, μ1 = wC (wI (wI μ p0 2 (rI μ p1 2)) p0 3 (rI (wI μ p0 2 (rI μ p1 2)) p1 3)) (p1 + 1) 0 (p0 + 1) 0 289 := ⟨_, rfl⟩
  have f1 : Fr (fun q j => q = p0 ∨ q = p0 + 1) μ μ1 := by rw [hμ1]; exact ((Fr.rf.wI (Or.inl rfl)).wI (Or.inl rfl)).wC (fun k _ _ => Or.inr rfl)
  obtain ⟨μ2, e2, f2, x2⟩ := c4_ok (μ := μ1) (p0 := p0 + 3) (p1 := p1 + 3) (by omega)
  obtain ⟨μ3, e3, f3, x3⟩ := c4_ok (μ := μ2) (p0 := p0 + 6) (p1 := p1 + 6) (by omega)
  refine ⟨μ3, ?_, ((f1.mono (fun q j z => by omega)).tr (f2.mono (fun q j z => by omega))).tr (f3.mono (fun q j z => by omega)), fun v K f bd gr dr hK hx => ?_⟩
  · unfold G_X7_copyFrom
    rw [lb_e, lb_e, lb_e, ← hμ1, bd_eq e2, bd_eq e3]
  · obtain ⟨h1, h2, h3, h4⟩ := hx
    refine ⟨?_, ?_, fun a b ha hb => ?_, fun c hc => ?_⟩
    · rw [f3.i (by omega), f2.i (by omega), hμ1, rI_wC_ne (by omega), rI_wI_off (by omega), rI_wI_at]; exact h1
    · rw [f3.i (by omega), f2.i (by omega), hμ1, rI_wC_ne (by omega), rI_wI_at, rI_wI_ne (by omega)]; exact h2
    · have := xk_le ha
      have := xk_le hb
      rw [f3.i (by omega), f2.i (by omega), hμ1, rI_wC_at, if_pos (by omega), rI_wI_ne (by omega), rI_wI_ne (by omega), show 0 + (17 * xk a + xk b - 0) = 17 * xk a + xk b by omega]; exact h3 a b ha hb
    · have hl := h4 c hc
      rcases (show c = 0 ∨ c = 1 by omega) with rfl | rfl
      · have a := x2 _ _ _ _ _ _ hK (XL.ag (fun x j q1 q2 => f1.i (by omega)) hl)
        exact XL.ag (fun x j q1 q2 => f3.i (by omega)) a
      · exact x3 _ _ _ _ _ _ hK (XL.ag (fun x j q1 q2 => (f2.i (by omega)).trans (f1.i (by omega))) hl)
theorem c0_ok {sk : Nat} (h : p0 + 30 < p1 ∨ p1 + 30 < p0) (hT : T ≤ 3) (hB : B ≤ 8) (hx : XB T V B D σ sk p1 μ) : ∃ μ', G_X0_copyFrom p0 p1 μ = some ((), μ') ∧ Fr (fun q _ => p0 ≤ q ∧ q ≤ p0 + 30) μ μ' ∧ XB T V B D σ sk p0 μ' := by
  obtain ⟨h1, h2, h3, h4, h5, h6⟩ := hx
  obtain ⟨μ1, hμ1⟩ : ∃ μ1, μ1 = wC (wI (wI (wI (wI (wI μ p0 2 (rI μ p1 2)) p0 3 (rI μ p1 3)) p0 4 (rI μ p1 4)) p0 5 (rI μ p1 5)) (p0 + 29) 1 (rI μ (p1 + 29) 1)) (p1 + 30) 0 (p0 + 30) 0 300 := ⟨_, rfl⟩
  have f1 : Fr (fun q j => q = p0 ∨ q = p0 + 29 ∨ q = p0 + 30) μ μ1 := by rw [hμ1]; exact (((((Fr.rf.wI (by omega)).wI (by omega)).wI (by omega)).wI (by omega)).wI (by omega)).wC (fun k _ _ => by omega)
  have r2 : rI μ1 p0 2 = nI T := by
    rw [hμ1, rI_wC_ne (by omega), rI_wI_ne (by omega), rI_wI_off (by omega), rI_wI_off (by omega), rI_wI_off (by omega), rI_wI_at]; exact h1
  have r3 : rI μ1 p0 3 = nI B := by
    rw [hμ1, rI_wC_ne (by omega), rI_wI_ne (by omega), rI_wI_off (by omega), rI_wI_off (by omega), rI_wI_at]; exact h2
  have r4 : rI μ1 p0 4 = nI D := by
    rw [hμ1, rI_wC_ne (by omega), rI_wI_ne (by omega), rI_wI_off (by omega), rI_wI_at]; exact h3
  have r5 : 0 < T → rI μ1 p0 5 = nI (su σ) := fun z => by
    rw [hμ1, rI_wC_ne (by omega), rI_wI_ne (by omega), rI_wI_at]; exact h4 z
  have rg : XG (sn σ) (sl σ) sk (p0 + 29) μ1 := by
    refine ⟨?_, fun j w a b c => ?_⟩
    · rw [hμ1, rI_wC_ne (by omega), rI_wI_at]; exact h6.1
    · rw [hμ1, show p0 + 29 + 1 = p0 + 30 by omega, rI_wC_at, if_pos (by omega), show 0 + (3 * (j % 100) + w - 0) = 3 * (j % 100) + w by omega, rI_wI_ne (by omega), rI_wI_ne (by omega), rI_wI_ne (by omega), rI_wI_ne (by omega), rI_wI_ne (by omega)]
      exact h6.2 j w a b c
  have start : G_X0_copyFrom p0 p1 μ = L_X0_copyFrom_45 100000 p0 p1 0 μ1 := by
    unfold G_X0_copyFrom G_X3_copyFrom
    rw [lb_e, lb_e, lb_e, lb_e, lb_e, lb_e, bd_s]
    rw [rI_wI_ne (by omega), rI_wI_ne (by omega), rI_wI_ne (by omega), rI_wI_ne (by omega), rI_wI_ne (by omega), rI_wI_ne (by omega), rI_wI_ne (by omega), rI_wI_ne (by omega), rI_wI_ne (by omega), rI_wI_ne (by omega), hμ1]
  rw [start]
  refine loop_inv (fun n i (s : Mem) => L_X0_copyFrom_45 n p0 p1 i s) T (fun i s => Fr (fun q j => p0 + 2 ≤ q ∧ q ≤ p0 + 28) μ1 s ∧ ∀ t, t < i → XT (V t) (min B (V t)) (sf σ t) (sb σ t) (sg σ t) (sd σ t) (p0 + 2 + 9 * t) s) (P := fun o => ∃ μ', o = some ((), μ') ∧ Fr (fun q _ => p0 ≤ q ∧ q ≤ p0 + 30) μ μ' ∧ XB T V B D σ sk p0 μ') ?_ ?_ 100000 0 μ1 (by omega) (by omega) ⟨Fr.rf, fun t ht => absurd ht (by omega)⟩
  · rintro n i s hi ⟨f, d⟩
    obtain ⟨s', e', f', x'⟩ := c7_ok (μ := s) (p0 := p0 + 2 + 9 * i) (p1 := p1 + 2 + 9 * i) (by omega)
    refine ⟨s', ⟨f.tr (f'.mono (fun q j z => by omega)), fun t ht => ?_⟩, ?_⟩
    · by_cases e : t = i
      · subst e
        exact x' _ _ _ _ _ _ (by omega) (XT.ag (fun x j q1 q2 => (f.i (by omega)).trans (f1.i (by omega))) (h5 t hi))
      · exact XT.ag (fun x j q1 q2 => f'.i (by omega)) (d t (by omega))
    · show L_X0_copyFrom_45 (n + 1) p0 p1 (nI i) s = _
      rw [L_X0_copyFrom_45, f.i (by omega), r2, if_neg (nI_ge hi (by omega)), gq_in (by omega) (by omega), gq_in (by omega) (by omega), shP_nI (by omega), shP_nI (by omega), show p0 + 1 + 1 + 9 * i = p0 + 2 + 9 * i by omega, show p1 + 1 + 1 + 9 * i = p1 + 2 + 9 * i by omega, bd_eq e', lb_e, nI_1]
  · rintro n s ⟨f, d⟩
    refine ⟨s, ?_, (f1.mono (fun q j z => by omega)).tr (f.mono (fun q j z => by omega)), (f.i (by omega)).trans r2, (f.i (by omega)).trans r3, (f.i (by omega)).trans r4, fun z => (f.i (by omega)).trans (r5 z), d, XG.ag (fun x j q1 q2 => f.i (by omega)) rg⟩
    show L_X0_copyFrom_45 (n + 1) p0 p1 (nI T) s = _
    rw [L_X0_copyFrom_45, f.i (by omega), r2, if_pos (nI_le (Nat.le_refl _) (by omega))]
theorem XB.weak {sk sk' q : Nat} (h : XB T V B D σ sk q μ) (hs : sk' ≤ sk) : XB T V B D σ sk' q μ := ⟨h.1, h.2.1, h.2.2.1, h.2.2.2.1, h.2.2.2.2.1, h.2.2.2.2.2.1, fun j w a b c => h.2.2.2.2.2.2 j w a (by omega) c⟩
theorem imgM (h12 : rI μ 107 12 = nI T) (hM : MB T V B σ (fun k => rI μ 116 k)) (hT : T ≤ 3) (hB : 0 < T → B ≤ 8) : ∃ μ', L_X11_image_11 100000 0 μ = some (nI (allR T σ), μ') ∧ Fr (fun q j => q = 125 ∨ (q = 107 ∧ j = 32)) μ μ' ∧ rI μ' 107 32 = 1 ∧ MB T V B σ (fun k => rI μ' 125 k) := by
  refine loop_inv (fun n i (s : Mem) => L_X11_image_11 n i s) 1253 (fun k s => Fr (fun q j => q = 125) μ s ∧ ∀ k', k' < k → rI s 125 k' = rI μ 116 k') (P := fun o => ∃ μ', o = some (nI (allR T σ), μ') ∧ Fr (fun q j => q = 125 ∨ (q = 107 ∧ j = 32)) μ μ' ∧ rI μ' 107 32 = 1 ∧ MB T V B σ (fun k => rI μ' 125 k)) ?_ ?_ 100000 0 μ (by omega) (by omega) ⟨Fr.rf, fun k' h => absurd h (by omega)⟩
  · rintro n k s hk ⟨f, d⟩
    refine ⟨wI s 125 k (rI s 116 k), ⟨Fr.wI (S := fun q j => q = 125) f rfl, fun k' h' => ?_⟩, ?_⟩
    · by_cases e : k' = k
      · subst e; rw [rI_wI_at]; exact f.i (by omega)
      · rw [rI_wI_off e]; exact d k' (by omega)
    · show L_X11_image_11 (n + 1) (nI k) s = _
      rw [L_X11_image_11, if_neg (l_nle hk (by omega)), gq_in (by omega) (by omega), gq_in (by omega) (by omega), nx_nI (by omega), lb_e, lb_e, nI_1]
  · rintro n s ⟨f, d⟩
    have f' : Fr (fun q j => q = 125 ∨ (q = 107 ∧ j = 32)) μ (wI s 107 32 1) := (f.mono (fun q j z => Or.inl z)).wI (Or.inr ⟨rfl, rfl⟩)
    refine ⟨wI s 107 32 1, ?_, f', rI_wI_at, hM.agb hT hB (fun k hk => (rI_wI_ne (by omega)).trans (d k hk))⟩
    show L_X11_image_11 (n + 1) (nI 1253) s = _
    rw [L_X11_image_11, if_pos (by decide), lb_e, bd_eq (mall (σ := σ) (V := V) (B := B) ((f'.i (by omega)).trans h12) (MB.ag (fun j => f'.i (by omega)) hM) hT)]
theorem backM (h12 : rI μ 107 12 = nI T) (hM : MB T V B σ (fun k => rI μ 125 k)) (hT : T ≤ 3) (hB : 0 < T → B ≤ 8) : ∃ μ', L_X11_back_11 100000 0 μ = some (nI (allR T σ), μ') ∧ Fr (fun q j => q = 116 ∨ (q = 107 ∧ j = 23)) μ μ' ∧ rI μ' 107 23 = nI 0 ∧ MB T V B σ (fun k => rI μ' 116 k) := by
  refine loop_inv (fun n i (s : Mem) => L_X11_back_11 n i s) 1253 (fun k s => Fr (fun q j => q = 116) μ s ∧ ∀ k', k' < k → rI s 116 k' = rI μ 125 k') (P := fun o => ∃ μ', o = some (nI (allR T σ), μ') ∧ Fr (fun q j => q = 116 ∨ (q = 107 ∧ j = 23)) μ μ' ∧ rI μ' 107 23 = nI 0 ∧ MB T V B σ (fun k => rI μ' 116 k)) ?_ ?_ 100000 0 μ (by omega) (by omega) ⟨Fr.rf, fun k' h => absurd h (by omega)⟩
  · rintro n k s hk ⟨f, d⟩
    refine ⟨wI s 116 k (rI s 125 k), ⟨Fr.wI (S := fun q j => q = 116) f rfl, fun k' h' => ?_⟩, ?_⟩
    · by_cases e : k' = k
      · subst e; rw [rI_wI_at]; exact f.i (by omega)
      · rw [rI_wI_off e]; exact d k' (by omega)
    · show L_X11_back_11 (n + 1) (nI k) s = _
      rw [L_X11_back_11, if_neg (l_nle hk (by omega)), gq_in (by omega) (by omega), gq_in (by omega) (by omega), nx_nI (by omega), lb_e, lb_e, nI_1]
  · rintro n s ⟨f, d⟩
    have f' : Fr (fun q j => q = 116 ∨ (q = 107 ∧ j = 23)) μ (wI s 107 23 0) := (f.mono (fun q j z => Or.inl z)).wI (Or.inr ⟨rfl, rfl⟩)
    have hM' : MB T V B σ (fun k => rI (wI s 107 23 0) 116 k) := hM.agb hT hB (fun k hk => (rI_wI_ne (by omega)).trans (d k hk))
    refine ⟨wI s 107 23 0, ?_, f', rI_wI_at, hM'⟩
    show L_X11_back_11 (n + 1) (nI 1253) s = _
    rw [L_X11_back_11, if_pos (by decide), lb_e, bd_eq (mall (σ := σ) (V := V) (B := B) ((f'.i (by omega)).trans h12) hM' hT)]
theorem a_image {c : Nat} (h : RR c μ) : Ans c (G_X10_image μ) G_X11_image := by
  have h0 := h
  obtain ⟨h1, h2, h3, T, V, B, D, m, S, hB, hP, h6⟩ := h0
  obtain ⟨hw, hx, hd, hn⟩ := bp_split hB hP
  have hC := hw.1
  have hT := hC.1
  have hσ := hw.2.2.2 0 (Nat.zero_le _)
  by_cases hT0 : 0 < T
  · have xb : G_X10_hasBook μ = some (1, μ) := by have := xBook hx.1.1 hT; rw [if_pos hT0] at this; exact this
    have hBB := hC.2.1 hT0
    obtain ⟨μ1, e1, f1, x1⟩ := c0_ok (p0 := 67) (p1 := 7) (by omega) hT hBB.2.1 hx.1
    have d1 := mdX_fr hd (f1.mono (fun q j z => by omega))
    have mb : G_X11_isBook μ1 = some (1, μ1) := by have := mBook d1.1 hT; rw [if_pos hT0] at this; exact this
    obtain ⟨μ2, e2, f2, r2, m2⟩ := imgM (V := V) (B := B) d1.1 d1.2.2.2.2.1 hT (fun _ => hBB.2.1)
    have ff : Fr (fun q j => (67 ≤ q ∧ q ≤ 97) ∨ q = 125 ∨ (q = 107 ∧ j = 32)) μ μ2 := (f1.mono (fun q j z => Or.inl z)).tr (f2.mono (fun q j z => Or.inr z))
    have x7 : XB T V B D (S 0) m 7 μ1 := XB.ag hT (fun x j q1 q2 => f1.i (by omega)) hx.1
    refine ⟨nI (allR T (S 0)), μ1, μ2, ?_, ?_, RT.ag (fun q j e => ff.i (by omega)) h1, RK.ag (fun q j e => ff.i (by omega)) h2, RW.ag (fun q j e => ff.i (by omega)) h3, T, V, B, D, m, S, (RB.ag (fun q j e => ff.i (by omega)) hB).up (by omega), RP.ag (fun q j e => ff.i (by omega)) hP, Or.inr ⟨r2, hT0, S 0, hσ, by omega, (XB.ag hT (fun x j q1 q2 => f2.i (by omega)) x1).weak (Nat.zero_le _), m2⟩⟩
    · unfold G_X10_image
      rw [bd_eq xb, if_neg (by decide), bd_eq e1, bd_eq (xall x7 hT)]
    · unfold G_X11_image
      rw [bd_eq mb, if_neg (by decide), e2]
  · have xb : G_X10_hasBook μ = some (0, μ) := by have := xBook hx.1.1 hT; rw [if_neg hT0] at this; exact this
    have mb : G_X11_isBook μ = some (0, μ) := by have := mBook hd.1 hT; rw [if_neg hT0] at this; exact this
    refine Ans.p (r := -1) h ?_ ?_
    · unfold G_X10_image; rw [bd_eq xb, if_pos rfl]
    · unfold G_X11_image; rw [bd_eq mb, if_pos rfl]
theorem a_back {c : Nat} (h : RR c μ) : Ans c (G_X10_back μ) G_X11_back := by
  have h0 := h
  obtain ⟨h1, h2, h3, T, V, B, D, m, S, hB, hP, h6⟩ := h0
  obtain ⟨hw, hx, hd, hn⟩ := bp_split hB hP
  have hC := hw.1
  have hT := hC.1
  rcases h6 with ⟨i1, i2⟩ | ⟨i1, hT0, σ, w1, w2, w3, w4⟩
  · refine Ans.p (r := -1) h ?_ ?_
    · unfold G_X10_back; rw [i2, if_pos rfl]
    · unfold G_X11_back; rw [i1, if_pos rfl]
  · have hBB := hC.2.1 hT0
    obtain ⟨μ1, e1, f1, x1⟩ := c0_ok (p0 := 7) (p1 := 67) (by omega) hT hBB.2.1 w3
    obtain ⟨k1, k2, q, k3, k4, k5⟩ := hx
    have f1' : Fr (fun q j => (7 ≤ q ∧ q ≤ 37) ∨ (q = 65 ∧ j = 1)) μ (wI μ1 65 1 0) := (f1.mono (fun q j z => Or.inl z)).wI (Or.inr ⟨rfl, rfl⟩)
    have x2 : XB T V B D σ 0 7 (wI μ1 65 1 0) := XB.ag hT (fun x j q1 q2 => rI_wI_ne (by omega)) x1
    have d1 := mdX_fr hd (f1'.mono (fun q j z => by omega))
    have w4' : MB T V B σ (fun k => rI (wI μ1 65 1 0) 125 k) := MB.ag (fun j => f1'.i (by omega)) w4
    obtain ⟨μ2, e2, f2, r2, m2⟩ := backM (V := V) (B := B) d1.1 w4' hT (fun _ => hBB.2.1)
    have ff : Fr (fun q j => ((7 ≤ q ∧ q ≤ 37) ∨ (q = 65 ∧ j = 1)) ∨ q = 116 ∨ (q = 107 ∧ j = 23)) μ μ2 := (f1'.mono (fun q j z => Or.inl z)).tr (f2.mono (fun q j z => Or.inr z))
    have cl : clX T V B D 0 (fun _ => σ) μ2 := ⟨XB.ag hT (fun x j q1 q2 => f2.i (by omega)) x2, (f2.i (by omega)).trans rI_wI_at, q, k3, (ff.i (by omega)).trans k4, fun j hj => absurd hj (by omega)⟩
    have md : mdX T V B D 0 (fun _ => σ) μ2 := ⟨(f2.i (by omega)).trans d1.1, (f2.i (by omega)).trans d1.2.1, (f2.i (by omega)).trans d1.2.2.1, fun t ht => (f2.i (by omega)).trans (d1.2.2.2.1 t ht), m2, r2, fun j hj => absurd hj (by omega)⟩
    obtain ⟨hb', hp'⟩ := bp_join (c := c + 1) (S := fun _ => σ) ⟨hC, fun z => absurd z (by omega), by omega, fun j hj => w1⟩ cl md (by show sn σ ≤ _; omega)
    refine ⟨nI (allR T σ), wI μ1 65 1 0, μ2, ?_, ?_, RT.ag (fun q j e => ff.i (by omega)) h1, RK.ag (fun q j e => ff.i (by omega)) h2, RW.ag (fun q j e => ff.i (by omega)) h3, T, V, B, D, 0, fun _ => σ, hb', hp', RI.up (by omega) (RI.ag hT (fun q j e => ff.i (by omega)) (Or.inr ⟨i1, hT0, σ, w1, w2, w3, w4⟩))⟩
    · unfold G_X10_back G_X6_forget
      have e0 : rI μ 67 2 = nI T := w3.1
      rw [e0, if_neg (nI_ne0 hT0 (by omega)), bd_eq e1, lb_e, bd_s, bd_eq (xall x2 hT)]
    · unfold G_X11_back
      rw [f1'.i (by omega), i1, if_neg (by decide), e2]
end I
