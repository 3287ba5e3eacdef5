/-! log, unit, shares, end -/
section S6
variable {c : Nat} {μ : Mem} {T : Nat} {V : Nat → Nat} {B D m : Nat} {S : Nat → St}
theorem fmod_nI {a : Nat} (ha : a < 2 ^ 31) : G_J9_floorMod_7cf53 (nI a) 100 μ = some (nI (a % 100), μ) := by
  unfold G_J9_floorMod_7cf53
  have h1 : nI a ^^^ (100 : Int32) = nI (a ^^^ 100) := fb_xorI a 100
  have h2 : a ^^^ 100 < 2 ^ 31 := Nat.xor_lt_two_pow ha (by decide)
  rw [show (100 : Int32) = nI 100 from rfl] at h1 ⊢
  rw [gq_nI (by omega) (by omega), lb_e, pk_rem ha (by omega) (by omega), h1, if_pos (nI_pos' h2)]
theorem a_log (h : RR c μ) (hc : c ≤ 600) (x y : Int32) : Ans c (G_X10_log x y μ) (G_X11_log x y) := by
  have h0 := h
  obtain ⟨-, -, -, T, V, B, D, m, S, hB, hP, -⟩ := h0
  have hn : sn (S 0) ≤ 40 * c := hB.2.2.1
  have g2 := hB.g2
  have hX : XG (sn (S 0)) (sl (S 0)) m 36 μ := hB.2.2.2.2.1.2.2.2.2.2
  have hM : MG (sn (S 0)) (sl (S 0)) (fun k => rI μ 116 k) := hB.2.2.2.2.2.2.2.2.2.2.2
  rcases pk_ix x (n := min (sn (S 0)) 60) (by omega) with hx | hx | ⟨i, hi, rfl⟩
  · refine Ans.p (r := -1000000) h ?_ ?_
    · unfold G_X10_log; rw [if_pos hx]
    · unfold G_X11_log; rw [g2, bd_eq (inP_no (by omega) (Or.inl hx)), if_pos rfl]
  · refine Ans.p (r := -1000000) h ?_ ?_
    · unfold G_X10_log
      rw [bd_eq (len_eq hB hc), if_neg (fun q => (fa_of_lt q).2.1 hx), ite_self]
    · unfold G_X11_log; rw [g2, bd_eq (inP_no (by omega) (Or.inr hx)), if_pos rfl]
  · have no : (y < 0 ∨ nI 3 ≤ y) → Ans c (G_X10_log (nI i) y μ) (G_X11_log (nI i) y) := fun hy => by
      refine Ans.p (r := -1000000) h ?_ ?_
      · unfold G_X10_log
        rw [bd_eq (len_eq hB hc), if_neg (nI_pos (by omega)), if_pos (nI_lt hi (by omega))]
        by_cases h1 : y < 0
        · rw [if_pos h1]
        · rw [if_neg h1, if_pos (show (3 : Int32) ≤ y from hy.resolve_left h1)]
      · unfold G_X11_log; rw [g2, bd_eq (inP_yes (by omega) hi), if_neg (by decide), bd_eq (inL_no (m := 2) (by decide) (by omega) hy), if_pos rfl]
    rcases pk_ix y (n := 3) (by omega) with hy | hy | ⟨w, hw, rfl⟩
    · exact no (Or.inl hy)
    · exact no (Or.inr hy)
    · refine Ans.p (r := sl (S 0) (sn (S 0) - 1 - i) w) h ?_ ?_
      · unfold G_X10_log G_X3_read
        have e : rI μ 37 (3 * ((sn (S 0) - 1 - i) % 100) + w) = sl (S 0) (sn (S 0) - 1 - i) w := hX.2 _ w (by omega) (by omega) hw
        rw [bd_eq (len_eq hB hc), if_neg (nI_pos (by omega)), if_pos (nI_lt hi (by omega)), if_neg (nI_pos (by omega)), if_neg (l_nle hw (by omega)), hB.g1, nI_sub1 (by omega), pk_sub (by omega), bd_eq (fmod_nI (by omega)), i3, pk_mul, nI_add, gq_in (by omega) (by omega), nx_nI (by omega), bd_s, show (sn (S 0) - 1 - i) % 100 * 3 + w = 3 * ((sn (S 0) - 1 - i) % 100) + w by omega, e]
      · unfold G_X11_log
        have e : rI μ 116 (1073 + 3 * (min (sn (S 0)) 60 - 1 - i) + w) = sl (S 0) (sn (S 0) - min (sn (S 0)) 60 + (min (sn (S 0)) 60 - 1 - i)) w := hM.2 _ w (by omega) hw
        rw [g2, bd_eq (inP_yes (by omega) hi), if_neg (by decide), bd_eq (inL_yes (m := 2) (by decide) (by omega) (by omega)), if_neg (by decide), g2, nI_sub1 (by omega), pk_sub (by omega), i3, pk_mul, show (1073 : Int32) = nI 1073 from rfl, nI_add, nI_add, gq_in (by omega) (by omega), nx_nI (by omega), e, show sn (S 0) - min (sn (S 0)) 60 + (min (sn (S 0)) 60 - 1 - i) = sn (S 0) - 1 - i by omega]
theorem xWh_no {w : Nat} (h : rI μ 0 11 = nI w) {x : Int32} (hx : x < 0 ∨ nI w ≤ x) : G_X10_hasWhere x μ = some (0, μ) := by
  unfold G_X10_hasWhere
  rw [h]
  by_cases h1 : x < 0
  · rw [if_pos h1]
  · rw [if_neg h1, if_pos (hx.resolve_left h1)]
theorem xWh_yes {w : Nat} (h : rI μ 0 11 = nI w) (hw : w ≤ 4) {i : Nat} (hi : i < w) : G_X10_hasWhere (nI i) μ = some (1, μ) := by
  unfold G_X10_hasWhere
  rw [h, if_neg (nI_pos (by omega)), if_neg (nI_ge hi (by omega))]
theorem mWh_no {w : Nat} (h : rI μ 107 15 = nI w) (hw : w ≤ 4) {x : Int32} (hx : x < 0 ∨ nI w ≤ x) : G_X11_isWhere x μ = some (0, μ) := by
  unfold G_X11_isWhere
  rw [h, bd_eq (inP_no (by omega) hx), show bB 0 = true from rfl, gq_t]
theorem mWh_yes {w : Nat} (h : rI μ 107 15 = nI w) (hw : w ≤ 4) {i : Nat} (hi : i < w) : G_X11_isWhere (nI i) μ = some (1, μ) := by
  unfold G_X11_isWhere
  rw [h, bd_eq (inP_yes (by omega) hi), show bB 1 = true from rfl, gq_t]
theorem wp_eq {i : Nat} (hi : i < 5) : whP 38 (nI i) = 39 + 5 * i := by rw [whP_nI (by omega)]
theorem unitAt_eq {i u w : Nat} (hi : i < 5) (hu : u < 6) (hw : w < 4) : G_X11_unitAt (nI i) (nI u) (nI w) μ = some (rI μ 114 (4 * (6 * i + u) + w), μ) := by
  unfold G_X11_unitAt
  rw [i4, show (6 : Int32) = nI 6 from rfl, pk_mul, nI_add, pk_mul, nI_add, gq_in (by omega) (by omega), nx_nI (by omega)]
theorem a_unit (h : RR c μ) (x y w : Int32) : Ans c (G_X10_unit x y w μ) (G_X11_unit x y w) := by
  have h0 := h
  obtain ⟨-, -, ⟨nw, hw4, w1, w2, w3⟩, -⟩ := h0
  have nox : (x < 0 ∨ nI nw ≤ x) → Ans c (G_X10_unit x y w μ) (G_X11_unit x y w) := fun hx => by
    refine Ans.p (r := -1000000) h ?_ ?_
    · unfold G_X10_unit; rw [bd_eq (xWh_no w1 hx), if_pos rfl]
    · unfold G_X11_unit; rw [bd_eq (mWh_no w2 hw4 hx), if_pos rfl]
  rcases pk_ix x (n := nw) (by omega) with hx | hx | ⟨i, hi, rfl⟩
  · exact nox (Or.inl hx)
  · exact nox (Or.inr hx)
  · obtain ⟨z, tm, cl, sg, nu, hwh, hx, hm⟩ := w3 i hi
    have hz := hwh.2.1
    rcases pk_ix y (n := z) (by omega) with hy | hy | ⟨u, hu, rfl⟩
    · refine Ans.p (r := -1000000) h ?_ ?_
      · unfold G_X10_unit; rw [bd_eq (xWh_yes w1 hw4 hi), if_neg (by decide), if_pos hy]
      · unfold G_X11_unit; rw [bd_eq (mWh_yes w2 hw4 hi), if_neg (by decide), gq_in (by omega) (by omega), nx_nI (by omega), hm.1, bd_eq (inP_no (by omega) (Or.inl hy)), if_pos rfl]
    · refine Ans.p (r := -1000000) h ?_ ?_
      · unfold G_X10_unit
        rw [bd_eq (xWh_yes w1 hw4 hi), if_neg (by decide), gq_in (by omega) (by omega), wp_eq (by omega), hx.1, if_neg (fun q => (fa_of_lt q).2.1 hy), ite_self]
      · unfold G_X11_unit; rw [bd_eq (mWh_yes w2 hw4 hi), if_neg (by decide), gq_in (by omega) (by omega), nx_nI (by omega), hm.1, bd_eq (inP_no (by omega) (Or.inr hy)), if_pos rfl]
    · obtain ⟨x1, x2, x3, x4⟩ := hx.2 u hu
      obtain ⟨m1, m2, m3, m4⟩ := hm.2 u hu
      have xe : G_X10_unit (nI i) (nI u) w μ = if w = (0 : Int32) then some (nI (tm u), μ) else (if w = (1 : Int32) then some (nI (cl u), μ) else (if w = (2 : Int32) then some (nI (sg u), μ) else (if w = (3 : Int32) then some (nu u, μ) else some (-1000000, μ)))) := by
        unfold G_X10_unit
        rw [bd_eq (xWh_yes w1 hw4 hi), if_neg (by decide), if_neg (nI_pos (by omega)), gq_in (by omega) (by omega), wp_eq (by omega), hx.1, if_pos (nI_lt hu (by omega)), gq_in (by omega) (by omega), gq_in (by omega) (by omega), gq_in (by omega) (by omega), gq_in (by omega) (by omega), gq_in (by omega) (by omega), nx_nI (by omega), x1, x2, x3, x4]
      have no : (w < 0 ∨ nI 4 ≤ w) → Ans c (G_X10_unit (nI i) (nI u) w μ) (G_X11_unit (nI i) (nI u) w) := fun hw => by
        refine Ans.p (r := -1000000) h ?_ ?_
        · rw [xe, if_neg (out_ne (m := 0) hw (by omega) (by omega)), if_neg (out_ne (m := 1) hw (by omega) (by omega)), if_neg (out_ne (m := 2) hw (by omega) (by omega)), if_neg (out_ne (m := 3) hw (by omega) (by omega))]
        · unfold G_X11_unit; rw [bd_eq (mWh_yes w2 hw4 hi), if_neg (by decide), gq_in (by omega) (by omega), nx_nI (by omega), hm.1, bd_eq (inP_yes (by omega) hu), if_neg (by decide), bd_eq (inL_no (m := 3) (by decide) (by omega) hw), if_pos rfl]
      have me : ∀ j, j < 4 → G_X11_unit (nI i) (nI u) (nI j) μ = some (rI μ 114 (4 * (6 * i + u) + j), μ) := fun j hj => by
        unfold G_X11_unit
        rw [bd_eq (mWh_yes w2 hw4 hi), if_neg (by decide), gq_in (by omega) (by omega), nx_nI (by omega), hm.1, bd_eq (inP_yes (by omega) hu), if_neg (by decide), bd_eq (inL_yes (m := 3) (by decide) (by omega) (by omega)), if_neg (by decide), bd_eq (unitAt_eq (by omega) (by omega) hj)]
      rcases pk_ix w (n := 4) (by omega) with hw' | hw' | ⟨j, hj, rfl⟩
      · exact no (Or.inl hw')
      · exact no (Or.inr hw')
      · rcases (show j = 0 ∨ j = 1 ∨ j = 2 ∨ j = 3 by omega) with rfl | rfl | rfl | rfl
        · exact Ans.p (r := nI (tm u)) h (xe.trans rfl) ((me 0 (by omega)).trans (by rw [Nat.add_zero, m1]))
        · exact Ans.p (r := nI (cl u)) h (xe.trans rfl) ((me 1 (by omega)).trans (by rw [m2]))
        · exact Ans.p (r := nI (sg u)) h (xe.trans rfl) ((me 2 (by omega)).trans (by rw [m3]))
        · exact Ans.p (r := nu u) h (xe.trans rfl) ((me 3 (by omega)).trans (by rw [m4]))
/-- rows of all -/
def allR (T : Nat) (σ : St) : Nat := fb_sm (fun t => rws (sf σ t)) T
theorem xall {σ : St} {sk q : Nat} (h : XB T V B D σ sk q μ) (hT : T ≤ 3) : G_X0_allRows q μ = some (nI (allR T σ), μ) := by
  unfold G_X0_allRows
  have key := loop_up (fun n i (s : Int32) => L_X0_allRows_4 n q s i μ) T (fun k => nI (fb_sm (fun t => rws (sf σ t)) k)) (res := some (nI (allR T σ), μ)) (fun n k hk => by
    show L_X0_allRows_4 (n + 1) _ _ _ _ = _
    rw [L_X0_allRows_4, h.1, if_neg (nI_ge hk (by omega)), gq_in (by omega) (by omega), shP_nI (by omega), show q + 1 + 1 + 9 * k = q + 2 + 9 * k by omega, (h.2.2.2.2.1 k hk).2.1, lb_e, lb_e, sm_nI (fun t => rws (sf σ t)), nI_1]) (fun n => by
    show L_X0_allRows_4 (n + 1) _ _ _ _ = _
    rw [L_X0_allRows_4, h.1, if_pos (nI_le (Nat.le_refl _) (by omega))]
    rfl)
  exact key 100000 0 (by omega) (by omega)
theorem mall {σ : St} (h12 : rI μ 107 12 = nI T) (h : MB T V B σ (fun k => rI μ 116 k)) (hT : T ≤ 3) : G_X11_rowsOfAll μ = some (nI (allR T σ), μ) := by
  unfold G_X11_rowsOfAll
  have key := loop_up (fun n i (s : Int32) => L_X11_rowsOfAll_4 n s i μ) T (fun k => nI (fb_sm (fun t => rws (sf σ t)) k)) (res := some (nI (allR T σ), μ)) (fun n k hk => by
    show L_X11_rowsOfAll_4 (n + 1) _ _ _ = _
    rw [L_X11_rowsOfAll_4, h12, if_neg (nI_ge hk (by omega)), bd_eq (rowsOf_eq (h.1 k hk) (by omega)), lb_e, lb_e, sm_nI (fun t => rws (sf σ t)), nI_1]) (fun n => by
    show L_X11_rowsOfAll_4 (n + 1) _ _ _ = _
    rw [L_X11_rowsOfAll_4, h12, if_pos (nI_le (Nat.le_refl _) (by omega))]
    rfl)
  exact key 100000 0 (by omega) (by omega)
theorem all_le {σ : St} (hT : T ≤ 3) (h : ∀ t, t < T → rws (sf σ t) ≤ 999) : allR T σ ≤ 2997 := by
  have := fb_sm_bound (f := fun t => rws (sf σ t)) (c := 999) (n := T) h
  unfold allR
  omega
theorem a_shares (h : RR c μ) (x y : Int32) : Ans c (G_X10_shares x y μ) (G_X11_shares x y) := by
  have h0 := h
  obtain ⟨-, -, -, T, V, B, D, m, S, hB, hP, -⟩ := h0
  have hT := hB.T3
  have nox : (x < 0 ∨ nI T ≤ x) → Ans c (G_X10_shares x y μ) (G_X11_shares x y) := fun hx => by
    refine Ans.p (r := -1) h ?_ ?_
    · unfold G_X10_shares; rw [bd_eq (xTab_no hB.xt hx), if_pos rfl]
    · unfold G_X11_shares; rw [bd_eq (mTab_no hB.mt hT hx), if_pos rfl]
  rcases pk_ix x (n := T) (by omega) with hx | hx | ⟨t, ht, rfl⟩
  · exact nox (Or.inl hx)
  · exact nox (Or.inr hx)
  · have hal := all_le (σ := S 0) hT (fun t ht => (hB.sw ht).2.1)
    have hr := (hB.sw ht).2.1
    rcases pk_ix y (n := 1000) (by omega) with hy | hy | ⟨k, hk, rfl⟩
    · refine Ans.p (r := -1) h ?_ ?_
      · unfold G_X10_shares; rw [bd_eq (xTab_yes hB.xt hT ht), if_neg (by decide), if_pos hy]
      · unfold G_X11_shares; rw [bd_eq (mTab_yes hB.mt hT ht), if_neg (by decide), bd_eq (inL_no (m := 999) (by decide) (by omega) (Or.inl hy)), if_pos rfl]
    · refine Ans.p (r := -1) h ?_ ?_
      · unfold G_X10_shares
        rw [bd_eq (xTab_yes hB.xt hT ht), if_neg (by decide), if_neg (fun q : y ≤ 999 => by
          rw [fa_le] at q hy
          rw [nI_toInt (by omega)] at hy
          have : (999 : Int32).toInt = 999 := by decide
          omega), ite_self]
      · unfold G_X11_shares; rw [bd_eq (mTab_yes hB.mt hT ht), if_neg (by decide), bd_eq (inL_no (m := 999) (by decide) (by omega) (Or.inr hy)), if_pos rfl]
    · have hmul : k * rws (sf (S 0) t) ≤ 999 * 999 := Nat.mul_le_mul (by omega) hr
      refine Ans.p (r := if 0 < allR T (S 0) then nI (k * rws (sf (S 0) t) / allR T (S 0)) else 0) h ?_ ?_
      · unfold G_X10_shares
        rw [bd_eq (xTab_yes hB.xt hT ht), if_neg (by decide), if_neg (nI_pos (by omega)), if_pos (r_le (m := 999) (by omega) (by omega)), bd_eq (xall hB.2.2.2.2.1 hT), sp_eq (by omega), (hB.sheet ht).2.1]
        by_cases h0 : 0 < allR T (S 0)
        · rw [if_neg (nI_nle h0 (by omega)), if_pos h0, gq_in (by omega) (by omega), gq_nI h0 (by omega), pk_mul, pk_div (by omega) h0 (by omega)]
        · rw [if_neg h0, if_pos (by rw [show allR T (S 0) = 0 by omega]; decide)]
      · unfold G_X11_shares
        rw [bd_eq (mTab_yes hB.mt hT ht), if_neg (by decide), bd_eq (inL_yes (m := 999) (by decide) (by omega) (by omega)), if_neg (by decide), bd_eq (mall hB.mt hB.2.2.2.2.2.2.2.2.2 hT)]
        by_cases h0 : 0 < allR T (S 0)
        · rw [if_neg (nI_ne0 h0 (by omega)), if_pos h0, bd_eq (rowsOf_eq (hB.tab ht) (by omega)), bd_eq (mall hB.mt hB.2.2.2.2.2.2.2.2.2 hT), gq_nI h0 (by omega), pk_mul, pk_div (by omega) h0 (by omega)]
        · rw [if_neg h0, if_pos (by rw [show allR T (S 0) = 0 by omega]; rfl)]
/-- the rest is as it was -/
theorem RR.tape {μ' : Mem} (h : RR c μ) (hf : Fr (fun q j => (q = 1 ∧ j = 1) ∨ q = 2 ∨ (q = 107 ∧ j = 2) ∨ q = 108 ∨ SCR q j) μ μ') (ht : RT μ') : RR c μ' := by
  obtain ⟨h1, h2, h3, T, V, B, D, m, S, h4, h5, h6⟩ := h
  refine ⟨ht, RK.ag (fun q j e => hf.i (by unfold SCR; omega)) h2, RW.ag (fun q j e => hf.i (by unfold SCR; omega)) h3, T, V, B, D, m, S, RB.ag (fun q j e => hf.i (by unfold SCR; omega)) h4, RP.ag (fun q j e => hf.i (by unfold SCR; omega)) h5, RI.ag h4.1.1 (fun q j e => hf.i (by unfold SCR; omega)) h6⟩
theorem a_end (h : RR c μ) (x : Int32) : Ans c (G_X10_end x μ) (G_X11_end x) := by
  have h0 := h
  obtain ⟨⟨l, hl, t1, t2, t3⟩, -⟩ := h0
  have no : (x < 0 ∨ nI (l + 1) ≤ x) → Ans c (G_X10_end x μ) (G_X11_end x) := fun hx => by
    refine Ans.p (r := 0) h ?_ ?_
    · unfold G_X10_end
      by_cases h1 : x < 0
      · rw [if_pos h1]
      · rw [if_neg h1, t1, if_neg (fun q => by
          have q2 := hx.resolve_left h1
          rw [fa_le] at q q2
          rw [nI_toInt (by omega)] at q q2
          omega)]
    · unfold G_X11_end
      rw [t2, bd_eq (inL_no (m := l) rfl (by omega) hx), if_pos rfl]
  rcases pk_ix x (n := l + 1) (by omega) with hx | hx | ⟨k, hk, rfl⟩
  · exact no (Or.inl hx)
  · exact no (Or.inr hx)
  · have f1 : Fr (fun q j => (q = 1 ∧ j = 1) ∨ q = 2 ∨ (q = 107 ∧ j = 2) ∨ q = 108 ∨ SCR q j) μ (wI (wI μ 1 1 (nI k)) 107 2 (nI k)) := (Fr.rf.wI (by omega)).wI (by omega)
    refine ⟨1, wI μ 1 1 (nI k), wI (wI μ 1 1 (nI k)) 107 2 (nI k), ?_, ?_, (h.tape f1 ⟨k, by omega, by rw [rI_wI_ne (by omega), rI_wI_at], rI_wI_at, fun k' hk' => ?_⟩).up (by omega)⟩
    · unfold G_X10_end
      rw [if_neg (nI_pos (by omega)), t1, if_pos (nI_le (by omega) (by omega)), lb_e]
    · unfold G_X11_end
      rw [rI_wI_ne (by omega), t2, bd_eq (inL_yes (m := l) rfl (by omega) (by omega)), if_neg (by decide), lb_e]
    · rw [rI_wI_ne (by omega), rI_wI_ne (by omega), rI_wI_ne (by omega), rI_wI_ne (by omega)]
      exact t3 k' (by omega)
end S6
