/-! texts: fault and text of a condition -/
theorem XW.nil {tm cl sg : Nat → Nat} {nu : Nat → Int32} {p : Nat} {μ : Mem} (h : rI μ p 4 = 0) : XW 0 tm cl sg nu p μ := ⟨h, fun u hu => absurd hu (by omega)⟩
theorem MW.nil {tm cl sg : Nat → Nat} {nu : Nat → Int32} {i : Nat} {μ : Mem} (h : rI μ 115 i = 0) : MW 0 tm cl sg nu i μ := ⟨h, fun u hu => absurd hu (by omega)⟩
def whz (l : Nat) (ch : Nat → Nat) : Nat ⊕ W5 := whr l ch 7 0 0 0 (fun _ => 0) (fun _ => 0) (fun _ => 0) (fun _ => 0)
theorem whz_ok {l : Nat} {ch : Nat → Nat} (hc : CH l ch) {w : W5} (h : whz l ch = .inr w) : WH w.1 w.2.1 w.2.2.1 w.2.2.2.1 := whr_ok hc 7 0 0 0 _ _ _ _ w (by omega) (by omega) (fun e => absurd e (by omega)) (fun _ => rfl) (fun e => absurd e (by omega)) (fun u hu => absurd hu (by omega)) (fun u hu => absurd hu (by omega)) h
section WT
variable {l : Nat} {ch : Nat → Nat} {μ : Mem} {c : Nat}
theorem wr_x (hc : CH l ch) (hT : TX l ch μ) {p0 : Nat} (hp0 : 3 ≤ p0) : ∃ r μ', G_X9_read p0 μ = some (r, μ') ∧ Fr (wxQ p0) μ μ' ∧ ((∃ e, whz l ch = .inl e ∧ r = nI e ∧ e ≤ 300) ∨ ∃ w, whz l ch = .inr w ∧ r = -1 ∧ XW w.1 w.2.1 w.2.2.1 w.2.2.2.1 w.2.2.2.2 p0 μ') := by
  have f0 : Fr (wxQ p0) μ (wI (wI (wI μ 1 2 0) 1 3 (-1)) p0 4 0) := ((Fr.rf.wI (by unfold wxQ f13; omega)).wI (by unfold wxQ f13; omega)).wI (by unfold wxQ; omega)
  obtain ⟨r, μ', e1, e2, e3⟩ := wl_x hc hp0 7 100000 0 0 0 (fun _ => 0) (fun _ => 0) (fun _ => 0) (fun _ => 0) _ (hT.fr f0 (fun q j e => by unfold wxQ f13 at e; omega)) (by rw [rI_wI_ne (by omega), rI_wI_off (by omega), rI_wI_at]; rfl) (by omega) (by omega) (by omega) (by omega) (XW.nil rI_wI_at)
  refine ⟨r, μ', ?_, f0.tr e2, e3⟩
  unfold G_X9_read G_X8_rewind
  rw [lb_e, lb_e, bd_s, lb_e]
  exact e1
theorem wr_m (hc : CH l ch) (hT : TM l ch μ) {i : Nat} (hi : i < 5) : ∃ r μ', G_X11_readWhere (nI i) μ = some (r, μ') ∧ Fr (umQ i) μ μ' ∧ ((∃ e, whz l ch = .inl e ∧ r = nI e) ∨ ∃ w, whz l ch = .inr w ∧ r = -1 ∧ MW w.1 w.2.1 w.2.2.1 w.2.2.2.1 w.2.2.2.2 i μ') := by
  have f0 : Fr (umQ i) μ (wI (wI (wI μ 107 3 0) 107 4 (-1)) 115 i 0) := ((Fr.rf.wI (by unfold umQ m34; omega)).wI (by unfold umQ m34; omega)).wI (by unfold umQ; omega)
  obtain ⟨r, μ', e1, e2, e3⟩ := wl_m hc hi 7 100000 0 0 0 (fun _ => 0) (fun _ => 0) (fun _ => 0) (fun _ => 0) _ (hT.fr f0 (fun q j e => by unfold umQ m34 at e; omega)) (by rw [rI_wI_ne (by omega), rI_wI_off (by omega), rI_wI_at]; rfl) (by rw [rI_wI_ne (by omega), rI_wI_at]) (by omega) (by omega) (by omega) (by omega) (MW.nil rI_wI_at)
  refine ⟨r, μ', ?_, f0.tr e2, e3⟩
  unfold G_X11_readWhere
  rw [lb_e, lb_e, gq_in hi (by omega), nx_nI (by omega), lb_e]
  exact e1
/-- conditions that stay -/
theorem RW.agw {w : Nat} {μ' : Mem} (hw : w ≤ 4) (h0 : rI μ 0 11 = nI w) (h : ∀ q j, (q = 0 ∧ j = 11) ∨ (q = 107 ∧ j = 15) ∨ (39 ≤ q ∧ q < 39 + 5 * w) ∨ (q = 114 ∧ j < 24 * w) ∨ (q = 115 ∧ j < w) → rI μ' q j = rI μ q j) (hx : RW μ) : RW μ' := by
  obtain ⟨w', h1, h2, h3, h4⟩ := hx
  have e : w' = w := nI_inj (by omega) (by omega) (h2.symm.trans h0)
  subst e
  refine ⟨w', h1, (h 0 11 (by omega)).trans h2, (h 107 15 (by omega)).trans h3, fun i hi => ?_⟩
  obtain ⟨z, tm, cl, sg, nu, hw, ⟨x1, x2⟩, y1, y2⟩ := h4 i hi
  have hz := hw.2.1
  refine ⟨z, tm, cl, sg, nu, hw, ⟨(h _ 4 (by omega)).trans x1, fun u hu => ?_⟩, (h 115 i (by omega)).trans y1, fun u hu => ?_⟩
  · rw [h _ u (by omega), h _ u (by omega), h _ u (by omega), h _ u (by omega)]
    exact x2 u hu
  · rw [h 114 _ (by omega), h 114 _ (by omega), h 114 _ (by omega), h 114 _ (by omega)]
    exact y2 u hu
theorem RR.w {w : Nat} {μ' : Mem} (hw : w ≤ 4) (h0 : rI μ 0 11 = nI w) (hx : RR c μ) (h : Fr (fun q j => SCR q j ∨ (39 + 5 * w ≤ q ∧ q ≤ 63) ∨ (q = 114 ∧ 24 * w ≤ j) ∨ (q = 115 ∧ w ≤ j)) μ μ') : RR c μ' := by
  obtain ⟨h1, h2, h3, T, V, B, D, m, S, h4, h5, h6⟩ := hx
  refine ⟨RT.ag (fun q j e => h.i (by unfold SCR; omega)) h1, RK.ag (fun q j e => h.i (by unfold SCR; omega)) h2, RW.agw hw h0 (fun q j e => h.i (by unfold SCR; omega)) h3, T, V, B, D, m, S, RB.ag (fun q j e => h.i (by unfold SCR; omega)) h4, RP.ag (fun q j e => h.i (by unfold SCR; omega)) h5, RI.ag h4.1.1 (fun q j e => h.i (by unfold SCR; omega)) h6⟩
theorem a_fault1 (h : RR c μ) : Ans c (G_X10_fault 1 μ) (G_X11_fault 1) := by
  have h0 := h
  obtain ⟨hT, -, ⟨w, hw4, w1, w2, w3⟩, -⟩ := h0
  obtain ⟨l, ch, hc, tx, tm⟩ := hT.split
  obtain ⟨r, μ1, e1, f1, d1⟩ := wr_x (p0 := 39 + 5 * w) hc tx (by omega)
  obtain ⟨r', μ2, e2, f2, d2⟩ := wr_m (i := 4) hc (tm.fr f1 (fun q j e => by unfold wxQ f13 at e; omega)) (by omega)
  have er : r' = r := by
    rcases d1 with ⟨e, a1, a2, a3⟩ | ⟨x, a1, a2, a3⟩
    · rcases d2 with ⟨e', b1, b2⟩ | ⟨x', b1, b2, b3⟩
      · rw [a1] at b1; rw [a2, b2, Sum.inl.inj b1]
      · rw [a1] at b1; cases b1
    · rcases d2 with ⟨e', b1, b2⟩ | ⟨x', b1, b2, b3⟩
      · rw [a1] at b1; cases b1
      · rw [a2, b2]
  have e2' : G_X11_readWhere 4 μ1 = some (r', μ2) := e2
  refine ⟨r, μ1, μ2, ?_, ?_, (h.w (w := w) hw4 w1 ((f1.mono (fun q j e => by unfold wxQ f13 at e; unfold SCR; omega)).tr (f2.mono (fun q j e => by unfold umQ m34 at e; unfold SCR; omega)))).up (by omega)⟩
  · unfold G_X10_fault
    rw [if_neg (by decide), if_pos rfl, w1, gq_in (by omega) (by omega), wp_eq (by omega), bd_eq e1]
  · unfold G_X11_fault
    rw [if_neg (by decide), if_pos rfl, bd_eq e2', er]
theorem a_text1 (h : RR c μ) : Ans c (G_X10_text 1 μ) (G_X11_text 1) := by
  have h0 := h
  obtain ⟨hT, hRK, ⟨w, hw4, w1, w2, w3⟩, T, V, B, D, m, S, h4, h5, h6⟩ := h0
  obtain ⟨l, ch, hc, tx, tm⟩ := hT.split
  have eX : G_X10_text 1 μ = bd (G_X10_tellWhere μ) (fun r_4 μ_3 => some (r_4, μ_3)) := by
    unfold G_X10_text
    rw [if_neg (by decide), if_pos rfl]
  have eM : ∀ μ, G_X11_text 1 μ = if (4 : Int32) ≤ rI μ 107 15 then some (-1, μ) else bd (G_X11_readWhere (rI μ 107 15) μ) (fun r_2 μ_1 => if r_2 = -1 then lb (wI μ_1 107 2 0) (fun μ_3 => lb (wI μ_3 107 15 (rI μ_3 107 15 + 1)) (fun μ_4 => some (rI μ_4 107 15 - 1, μ_4))) else some (-1, μ_1)) := fun μ => by
    unfold G_X11_text F_X11_text_22
    rw [if_neg (by decide), if_pos rfl]
  by_cases q4 : w = 4
  · refine Ans.p (r := -1) h ?_ ?_
    · unfold G_X10_tellWhere at eX
      rw [eX, w1, if_pos (l_le (m := 4) (by omega) (by omega)), bd_s]
    · rw [eM, w2, if_pos (l_le (m := 4) (by omega) (by omega))]
  · obtain ⟨r, μ1, e1, f1, d1⟩ := wr_x (p0 := 39 + 5 * w) hc tx (by omega)
    unfold G_X10_tellWhere at eX
    rw [w1, if_neg (l_nle (m := 4) (by omega) (by omega)), gq_in (by omega) (by omega), wp_eq (by omega), bd_eq e1] at eX
    rcases d1 with ⟨e, a1, a2, a3⟩ | ⟨x, a1, a2, a3⟩
    · obtain ⟨r', μ2, e2, f2, d2⟩ := wr_m (i := w) hc (tm.fr f1 (fun q j e => by unfold wxQ f13 at e; omega)) (by omega)
      rw [if_neg (by rw [a2]; exact nI_m1 (by omega)), bd_s] at eX
      refine ⟨-1, μ1, μ2, eX, ?_, (h.w (w := w) hw4 w1 ((f1.mono (fun q j e => by unfold wxQ f13 at e; unfold SCR; omega)).tr (f2.mono (fun q j e => by unfold umQ m34 at e; unfold SCR; omega)))).up (by omega)⟩
      rw [eM, f1.i (by unfold wxQ f13; omega), w2, if_neg (l_nle (m := 4) (by omega) (by omega)), bd_eq e2, if_neg]
      rcases d2 with ⟨e', b1, b2⟩ | ⟨x', b1, b2, b3⟩
      · rw [a1] at b1
        rw [b2, ← Sum.inl.inj b1]; exact nI_m1 (by omega)
      · rw [a1] at b1; cases b1
    · rw [if_pos a2, f1.i (by unfold wxQ f13; omega), w1, nI_1, lb_e, lb_e, bd_s, rI_wI_ne (by omega), rI_wI_at, nI_sub1 (by omega), Nat.add_sub_cancel] at eX
      generalize hm : wI (wI μ1 0 11 (nI (w + 1))) 1 1 0 = μ3 at eX
      have f3 : Fr (fun q j => wxQ (39 + 5 * w) q j ∨ (q = 0 ∧ j = 11) ∨ (q = 1 ∧ j = 1)) μ μ3 := by
        rw [← hm]
        exact ((f1.mono (fun q j e => Or.inl e)).wI (by omega)).wI (by omega)
      obtain ⟨r', μ2, e2, f2, d2⟩ := wr_m (μ := μ3) (i := w) hc (tm.fr f3 (fun q j e => by unfold wxQ f13 at e; omega)) (by omega)
      rcases d2 with ⟨e', b1, b2⟩ | ⟨x', b1, b2, b3⟩
      · rw [a1] at b1; cases b1
      · rw [a1] at b1
        have b1 := Sum.inr.inj b1
        subst b1
        have x15 : rI μ2 107 15 = nI w := (f2.i (by unfold umQ m34; omega)).trans ((f3.i (by unfold wxQ f13; omega)).trans w2)
        generalize hm4 : wI (wI μ2 107 2 0) 107 15 (nI (w + 1)) = μ4
        have f4 : Fr (fun q j => umQ w q j ∨ (q = 107 ∧ (j = 2 ∨ j = 15))) μ3 μ4 := by
          rw [← hm4]
          exact ((f2.mono (fun q j e => Or.inl e)).wI (by omega)).wI (by omega)
        refine ⟨nI w, μ3, μ4, eX, ?_, ?_⟩
        · rw [eM, f3.i (by unfold wxQ f13; omega), w2, if_neg (l_nle (m := 4) (by omega) (by omega)), bd_eq e2, if_pos b2, lb_e, rI_wI_off (by omega), x15, nI_1, lb_e, hm4, ← hm4, rI_wI_at, nI_sub1 (by omega), Nat.add_sub_cancel]
        · have al : ∀ q j, ¬ (SCR q j ∨ (39 + 5 * w ≤ q ∧ q ≤ 63) ∨ (q = 114 ∧ 24 * w ≤ j) ∨ (q = 115 ∧ w ≤ j) ∨ (q = 0 ∧ j = 11) ∨ (q = 1 ∧ j = 1) ∨ (q = 107 ∧ (j = 2 ∨ j = 15))) → rI μ4 q j = rI μ q j := fun q j hq => (f4.i (by unfold umQ m34; unfold SCR at hq; omega)).trans (f3.i (by unfold wxQ f13; unfold SCR at hq; omega))
          have hwh := whz_ok hc a1
          refine ⟨⟨0, by omega, ?_, ?_, fun k hk => absurd hk (by omega)⟩, RK.ag (fun q j e => al _ _ (by unfold SCR; omega)) hRK, ⟨w + 1, by omega, ?_, ?_, fun i hi => ?_⟩, T, V, B, D, m, S, (RB.ag (fun q j e => al _ _ (by unfold SCR; omega)) h4).up (by omega), RP.ag (fun q j e => al _ _ (by unfold SCR; omega)) h5, (RI.ag h4.1.1 (fun q j e => al _ _ (by unfold SCR; omega)) h6).up (by omega)⟩
          · rw [f4.i (by unfold umQ m34; omega), ← hm, rI_wI_at]; rfl
          · rw [← hm4, rI_wI_off (by omega), rI_wI_at]; rfl
          · rw [f4.i (by unfold umQ m34; omega), ← hm, rI_wI_ne (by omega), rI_wI_at]
          · rw [← hm4, rI_wI_at]
          · by_cases qi : i = w
            · subst qi
              refine ⟨_, _, _, _, _, hwh, a3.ag hwh.2.1 (fun q j q1 q2 => ?_), ⟨?_, fun u hu => ?_⟩⟩
              · rw [f4.i (by unfold umQ m34; omega), ← hm, rI_wI_ne (by omega), rI_wI_ne (by omega)]
              · rw [← hm4, rI_wI_ne (by omega), rI_wI_ne (by omega)]; exact b3.1
              · rw [← hm4, rI_wI_ne (by omega), rI_wI_ne (by omega), rI_wI_ne (by omega), rI_wI_ne (by omega), rI_wI_ne (by omega), rI_wI_ne (by omega), rI_wI_ne (by omega), rI_wI_ne (by omega)]; exact b3.2 u hu
            · obtain ⟨z, tm', cl, sg, nu, hh, ⟨x1, x2⟩, y1, y2⟩ := w3 i (by omega)
              have hz := hh.2.1
              refine ⟨z, tm', cl, sg, nu, hh, ⟨(al _ 4 (by unfold SCR; omega)).trans x1, fun u hu => ?_⟩, (al 115 i (by unfold SCR; omega)).trans y1, fun u hu => ?_⟩
              · rw [al _ u (by unfold SCR; omega), al _ u (by unfold SCR; omega), al _ u (by unfold SCR; omega), al _ u (by unfold SCR; omega)]
                exact x2 u hu
              · rw [al 114 _ (by unfold SCR; omega), al 114 _ (by unfold SCR; omega), al 114 _ (by unfold SCR; omega), al 114 _ (by unfold SCR; omega)]
                exact y2 u hu
end WT
