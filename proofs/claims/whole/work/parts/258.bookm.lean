/-! texts: a book, the model -/
section BM
variable {l : Nat} {ch : Nat → Nat} {μ : Mem} {p : Nat}
def MK (x : BS) (μ : Mem) : Prop := rI μ 107 8 = nI (zt x) ∧ rI μ 107 9 = nI (zr x) ∧ (∀ k, k < 3 → rI μ 109 k = zS x k) ∧ (∀ i, i < zt x → rI μ 110 i = zT x i) ∧ ∀ j, j < 4 * zr x → rI μ 111 j = zR x j
def bmQ (q j : Nat) : Prop := m34 q j ∨ (q = 107 ∧ (j = 8 ∨ j = 9)) ∨ (109 ≤ q ∧ q ≤ 111)
theorem MK.ag {x : BS} {μ' : Mem} (h : MK x μ) (e : ∀ q j, (q = 107 ∧ (j = 8 ∨ j = 9)) ∨ q = 109 ∨ q = 110 ∨ q = 111 → rI μ' q j = rI μ q j) : MK x μ' := by
  obtain ⟨h2, h3, h4, h5, h6⟩ := h
  exact ⟨(e _ _ (by omega)).trans h2, (e _ _ (by omega)).trans h3, fun k hk => (e _ _ (by omega)).trans (h4 k hk), fun i hi => (e _ _ (by omega)).trans (h5 i hi), fun j hj => (e _ _ (by omega)).trans (h6 j hj)⟩
theorem itz_en (hc : CH l ch) {y e : Nat} {d : Nat → Int32} (hy : y < 3) (hp : p < l) (h : itz l ch y (p + 1) = .inr (e, d)) : e ≤ l ∧ p < e ∧ (tc l ch e = 59 ∨ tc l ch e = 0) := by
  obtain ⟨μx, mx1, mx2⟩ : ∃ μ : Mem, TX l ch μ ∧ rI μ 1 2 = nI p := ⟨wI (wR (wI μ0 1 1 (nI l)) 2 (fun k => nI (ch k))) 1 2 (nI p), ⟨by rw [rI_wI_off (by omega), rI_wR_ne (by omega), rI_wI_at], fun k hk => by rw [rI_wI_ne (by omega), rI_wR_at]⟩, rI_wI_at⟩
  obtain ⟨r', μy, -, -, dd⟩ := items_x hc hy mx1 mx2 hp
  rcases dd with ⟨e', z1, -⟩ | ⟨e', d', z1, -, -, z4, z5, z6, -⟩
  · rw [h] at z1; cases z1
  · rw [h] at z1
    have := congrArg Prod.fst (Sum.inr.inj z1)
    dsimp only at this
    rw [this]
    exact ⟨z4, z5, z6⟩
theorem whole_m {x : BS} (hw : BW x) (hK : MK x μ) : G_X11_isWhole μ = some (if fw x (zr x) = true then 1 else 0, μ) := by
  obtain ⟨w1, w2, w3, -, -, -⟩ := id hw
  obtain ⟨k2, k3, k4, k5, k6⟩ := id hK
  have mono : ∀ i d, fw x i = false → fw x (i + d) = false := fun i d h => by
    induction d with
    | zero => exact h
    | succ d ih => show (fw x (i + d) && okr x (i + d)) = false; rw [ih]; rfl
  have b01 : ∀ b : Bool, bB (if b = true then 1 else 0) = true := fun b => by cases b <;> rfl
  unfold G_X11_isWhole F_X11_isWhole_12
  have e0 : (if rI μ 107 8 ≤ 0 then L_X11_isWhole_15 100000 0 0 μ else L_X11_isWhole_15 100000 1 0 μ) = L_X11_isWhole_15 100000 (if fw x 0 = true then 1 else 0) 0 μ := by
    rw [k2, show fw x 0 = decide (0 < zt x) from rfl]
    by_cases q : zt x = 0
    · rw [if_pos (by rw [q]; decide), decide_eq_false (by omega)]; rfl
    · rw [if_neg (nI_nle (by omega) (by omega)), decide_eq_true (by omega)]; rfl
  rw [e0]
  refine loop_br (fun n i (s : Int32) => L_X11_isWhole_15 n s i μ) (zr x) (fun i s => s = if fw x i = true then 1 else 0) (P := fun o => o = some (if fw x (zr x) = true then 1 else 0, μ)) ?_ ?_ 100000 0 _ (by omega) (by omega) rfl
  · rintro n i s hi hs
    subst hs
    obtain ⟨t, t2, et⟩ := hw.row hi
    have i40 : (4 : Int32) * nI i + 0 = nI (4 * i) := by rw [show (4 : Int32) = nI 4 from rfl, pk_mul]; exact nI_add _ 0
    have i41 : (4 : Int32) * nI i + 1 = nI (4 * i + 1) := by rw [show (4 : Int32) = nI 4 from rfl, pk_mul]; exact nI_add _ 1
    have i42 : (4 : Int32) * nI i + 2 = nI (4 * i + 2) := by rw [show (4 : Int32) = nI 4 from rfl, pk_mul]; exact nI_add _ 2
    have step : fw x (i + 1) = (fw x i && okr x i) := rfl
    show L_X11_isWhole_15 (n + 1) (if fw x i = true then 1 else 0) (nI i) μ = _ ∨ ∃ s', _ ∧ L_X11_isWhole_15 (n + 1) (if fw x i = true then 1 else 0) (nI i) μ = _
    rw [L_X11_isWhole_15, k3, if_neg (nI_ge hi (by omega)), b01, gq_t, i40, i41, i42, gq_in (by omega) (by omega), nx_nI (k := 4 * i) (by omega), lb_e, k6 _ (by omega), et, k2]
    cases hf : fw x i with
    | false =>
      left
      have := mono i (zr x - i) hf
      rw [show i + (zr x - i) = zr x by omega] at this
      rw [this]
      rfl
    | true =>
      right
      rw [hf, Bool.true_and] at step
      rw [if_pos (show true = true from rfl), if_neg (show ¬ (1 : Int32) = 0 by decide)]
      unfold F_X11_isWhole_88 F_X11_isWhole_89
      rw [lb_e, lb_e, nI_1]
      by_cases q1 : zt x ≤ t
      · rw [if_pos (nI_le q1 (by omega))]
        exact ⟨0, by rw [step, show okr x i = false by unfold okr; rw [et, decide_eq_false (fun z => z (nI_le q1 (by omega)))]; rfl]; rfl, rfl⟩
      · rw [if_neg (nI_ge (by omega) (by omega)), gq_in (by omega) (by omega), gq_in (by omega) (by omega), gq_in (by omega) (by omega), gq_in (by omega) (by omega), nx_nI (k := t) (by omega), nx_nI (k := 4 * i + 1) (by omega), nx_nI (k := 4 * i + 2) (by omega), k5 t (by omega), k6 _ (by omega), k6 _ (by omega)]
        have ok : okr x i = (decide (¬ zT x t ≤ zR x (4 * i + 1)) && decide (¬ zT x t ≤ zR x (4 * i + 2))) := by
          unfold okr
          rw [et, decide_eq_true (nI_ge (show t < zt x by omega) (by omega)), nx_nI (by omega), Bool.true_and]
        by_cases q2 : zT x t ≤ zR x (4 * i + 1)
        · rw [if_pos q2]
          exact ⟨0, by rw [step, ok, decide_eq_false (fun z => z q2)]; rfl, rfl⟩
        · rw [if_neg q2]
          by_cases q3 : zT x t ≤ zR x (4 * i + 2)
          · rw [if_pos q3]
            exact ⟨0, by rw [step, ok, decide_eq_false (show ¬ ¬ zT x t ≤ zR x (4 * i + 2) from fun z => z q3), Bool.and_false]; rfl, rfl⟩
          · rw [if_neg q3]
            exact ⟨1, by rw [step, ok, decide_eq_true q2, decide_eq_true q3]; rfl, rfl⟩
  · rintro n s hs
    subst hs
    show L_X11_isWhole_15 (n + 1) (if fw x (zr x) = true then 1 else 0) (nI (zr x)) μ = _
    rw [L_X11_isWhole_15, k3, if_pos (nI_le (Nat.le_refl _) (by omega)), b01, gq_t]
theorem aft_bad (hc : CH l ch) (hT : TM l ch μ) {e N : Nat} {x1 : Int32} (h : badAt l ch e μ) : ∃ μ', F_X11_readBook_211 (L_X11_readBook_49 (N + 1)) x1 μ = some (nI e, μ') ∧ Fr m34 μ μ' := by
  have h240 := hc.1
  obtain ⟨el, h⟩ := h
  have z0 : nI e + 0 = nI e := nI_add e 0
  unfold F_X11_readBook_211 F_X11_readBook_232 F_X11_readBook_233 F_X11_readBook_248
  rcases h with h | ⟨h1, h2, h3, h4, h5⟩
  · rw [h, if_neg (nI_m1 (by omega)), if_pos rfl, lb_e, L_X11_readBook_49, if_pos rfl]
    unfold F_X11_readBook_255 F_X11_readBook_282
    rw [rI_wI_off (by omega), h, if_neg (nI_m1 (by omega))]
    exact ⟨_, rfl, Fr.rf.wI (by unfold m34; omega)⟩
  · obtain ⟨μ1, e1, g1, y1⟩ := ahead_ok (p := e) hc hT h2 el
    have es : sk l ch e = e := sk_no h5
    have k255 := tc_le (l := l) (ch := ch) (p := e) hc
    rw [es] at e1 y1
    rw [if_pos h1, bd_eq e1, if_neg (fun z => h3 ((ac_eq (m := 59) k255 (by omega) (by omega)).mp z)), if_pos rfl, y1, z0, lb_e, L_X11_readBook_49, if_pos rfl]
    have f2 : Fr m34 μ (wI μ1 107 3 (nI e)) := (g1.mono (fun q j e => by unfold m3 at e; unfold m34; omega)).wI (by unfold m34; omega)
    obtain ⟨μ3, e3, g3, y3⟩ := ahead_ok (p := e) (μ := wI μ1 107 3 (nI e)) hc (hT.fr f2 (fun q j e => by unfold m34 at e; omega)) rI_wI_at el
    rw [es] at e3 y3
    have z2 : rI (wI μ1 107 3 (nI e)) 107 4 = -1 := by rw [rI_wI_off (by omega), g1.i (by unfold m3; omega)]; exact h1
    unfold F_X11_readBook_255 F_X11_readBook_278 F_X11_readBook_282
    rw [if_pos z2, bd_eq e3, if_neg (fun z => h4 ((ac_m1 k255).mp z)), bd_eq (bad_ok y3 ((g3.i (by unfold m3; omega)).trans z2)), rI_wI_at]
    exact ⟨_, rfl, (f2.tr (g3.mono (fun q j e => by unfold m3 at e; unfold m34; omega))).wI (by unfold m34; omega)⟩
theorem aft_ok (hc : CH l ch) (hT : TM l ch μ) {x : BS} (hw : BW x) (hK : MK x μ) {e N : Nat} {x1 : Int32} (h4 : rI μ 107 4 = -1) (h3 : rI μ 107 3 = nI e) (el : e ≤ l) (ht : tc l ch e = 59 ∨ tc l ch e = 0) : ∃ μ1, Fr m34 μ μ1 ∧ rI μ1 107 4 = -1 ∧ ((tc l ch e = 0 → ∃ μ', F_X11_readBook_211 (L_X11_readBook_49 (N + 1)) x1 μ = some (if fw x (zr x) = true then -1 else nI l, μ') ∧ Fr m34 μ μ') ∧ (tc l ch e ≠ 0 → rI μ1 107 3 = nI (e + 1) ∧ F_X11_readBook_211 (L_X11_readBook_49 (N + 1)) x1 μ = L_X11_readBook_49 (N + 1) x1 1 μ1)) := by
  have h240 := hc.1
  have z0 : nI e + 0 = nI e := nI_add e 0
  have es : sk l ch e = e := sk_no (by omega)
  have k255 := tc_le (l := l) (ch := ch) (p := e) hc
  obtain ⟨μ1, e1, g1, y1⟩ := ahead_ok (p := e) hc hT h3 el
  rw [es] at e1 y1
  refine ⟨wI μ1 107 3 (nI (e + 1)), (g1.mono (fun q j e => by unfold m3 at e; unfold m34; omega)).wI (by unfold m34; omega), by rw [rI_wI_off (by omega), g1.i (by unfold m3; omega)]; exact h4, fun q0 => ?_, fun q0 => ⟨rI_wI_at, ?_⟩⟩
  · unfold F_X11_readBook_211 F_X11_readBook_232 F_X11_readBook_233 F_X11_readBook_248
    have el' : e = l := by
      by_cases q : e < l
      · have := tc_pos hc q; omega
      · omega
    rw [if_pos h4, bd_eq e1, if_neg (fun z => by have := (ac_eq (m := 59) k255 (by omega) (by omega)).mp z; omega), if_pos rfl, y1, z0, lb_e, L_X11_readBook_49, if_pos rfl]
    have f2 : Fr m34 μ (wI μ1 107 3 (nI e)) := (g1.mono (fun q j e => by unfold m3 at e; unfold m34; omega)).wI (by unfold m34; omega)
    obtain ⟨μ3, e3, g3, y3⟩ := ahead_ok (p := e) (μ := wI μ1 107 3 (nI e)) hc (hT.fr f2 (fun q j e => by unfold m34 at e; omega)) rI_wI_at el
    rw [es] at e3 y3
    have f3 : Fr m34 μ μ3 := f2.tr (g3.mono (fun q j e => by unfold m3 at e; unfold m34; omega))
    have z2 : rI (wI μ1 107 3 (nI e)) 107 4 = -1 := by rw [rI_wI_off (by omega), g1.i (by unfold m3; omega)]; exact h4
    have z3 : rI μ3 107 4 = -1 := (g3.i (by unfold m3; omega)).trans z2
    unfold F_X11_readBook_255 F_X11_readBook_278 F_X11_readBook_282
    rw [if_pos z2, bd_eq e3, if_pos ((ac_m1 k255).mpr q0), bd_eq (whole_m hw (hK.ag (fun q j e => f3.i (by unfold m34; omega))))]
    cases hf : fw x (zr x) with
    | true =>
      rw [if_pos (show true = true from rfl), if_pos (show true = true from rfl), if_neg (show ¬ (1 : Int32) = 0 by decide), z3]
      exact ⟨_, rfl, f3⟩
    | false =>
      rw [if_neg (show ¬ false = true by decide), if_neg (show ¬ false = true by decide), if_pos rfl, bd_eq (bad_ok y3 z3), rI_wI_at, el']
      exact ⟨_, rfl, f3.wI (by unfold m34; omega)⟩
  · unfold F_X11_readBook_211 F_X11_readBook_233 F_X11_readBook_248
    rw [if_pos h4, bd_eq e1, if_pos ((ac_eq (m := 59) k255 (by omega) (by omega)).mpr (by omega)), if_neg (show ¬ (1 : Int32) = 0 by decide), y1, nI_1, lb_e]
end BM
