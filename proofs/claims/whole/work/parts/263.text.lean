/-! texts: text -/
section TE
variable {μ : Mem} {c : Nat}
theorem a_text0 (h : RR c μ) : Ans c (G_X10_text 0 μ) (G_X11_text 0) := by
  have h0 := h
  obtain ⟨hT, hRK, hRW, T, V', B', D', m, S, h4, h5, h6⟩ := h0
  obtain ⟨l, ch, hc, tx, tm⟩ := hT.split
  obtain ⟨r, μ1, e1, f1, d1⟩ := br_x hc tx
  have h240 := hc.1
  have eX : G_X10_text 0 μ = bd (G_X10_tellBook μ) (fun r_2 μ_1 => some (r_2, μ_1)) := by
    unfold G_X10_text
    rw [if_pos rfl]
  have eM : ∀ μ, G_X11_text 0 μ = bd (G_X11_readBook μ) (fun r_2 μ_1 => if r_2 = (-1 : Int32) then lb (wI μ_1 107 2 (0 : Int32)) (fun μ_3 => bd (G_X11_takeBook μ_3) (fun r_5 μ_4 => some (r_5, μ_4))) else some (-1, μ_1)) := fun μ => by
    unfold G_X11_text F_X11_text_22
    rw [if_pos rfl]
    rfl
  unfold G_X10_tellBook at eX
  rw [bd_eq e1] at eX
  rcases d1 with ⟨e, a1, a2, a3⟩ | ⟨x, a1, a2, a3, a4, a5⟩
  · obtain ⟨r', μ2, e2, f2, d2⟩ := br_m hc (tm.fr f1 (fun q j e => by unfold bxQ f13 at e; omega))
    rw [if_neg (by rw [a2]; exact nI_m1 (by omega)), bd_s] at eX
    refine Ans.q h (r := -1) (μ1 := μ1) (μ2 := μ2) eX (f1.mono (fun q j e => by unfold bxQ f13 at e; unfold SCR; omega)) ?_ (f2.mono (fun q j e => by unfold bmQ m34 at e; unfold SCR; omega))
    rw [eM, bd_eq e2, if_neg]
    rcases d2 with ⟨e', b1, b2⟩ | ⟨x', b1, b2, b3⟩
    · rw [a1] at b1
      rw [b2, ← Sum.inl.inj b1]; exact nI_m1 (by omega)
    · rw [a1] at b1; cases b1
  · obtain ⟨V, R, B, D, U, hd⟩ := dc_ok a4 a5
    obtain ⟨μ2, e2, f2, xb⟩ := tell_x hd a4 a3
    unfold G_X6_forget at eX
    rw [if_pos a2, bd_eq e2, lb_e, bd_s, lb_e, lb_e, bd_s, rI_wI_ne (by omega), rI_wI_ne (by omega), rI_wI_ne (by omega), xb.1] at eX
    generalize hm3 : wI (wI (wI μ2 65 1 0) 67 2 0) 1 1 0 = μ3 at eX
    have f3 : Fr (fun q j => (q = 65 ∧ j = 1) ∨ (q = 67 ∧ j = 2) ∨ (q = 1 ∧ j = 1)) μ2 μ3 := by
      rw [← hm3]
      exact (((Fr.rf (S := fun q j => (q = 65 ∧ j = 1) ∨ (q = 67 ∧ j = 2) ∨ (q = 1 ∧ j = 1))).wI (by omega)).wI (by omega)).wI (by omega)
    have fx : ∀ q j, ¬ ((q = 1 ∧ (j = 1 ∨ j = 2 ∨ j = 3)) ∨ (3 ≤ q ∧ q ≤ 37) ∨ (99 ≤ q ∧ q ≤ 102) ∨ (q = 65 ∧ j = 1) ∨ (q = 67 ∧ j = 2)) → rI μ3 q j = rI μ q j := fun q j hq => (f3.i (by omega)).trans ((f2.i (by omega)).trans (f1.i (by unfold bxQ f13; omega)))
    have tm3 : TM l ch μ3 := tm.ag (fun q j e => fx q j (by omega))
    obtain ⟨r', μ4, e4, f4, d4⟩ := br_m hc tm3
    rcases d4 with ⟨e', b1, b2⟩ | ⟨x', b1, b2, b3⟩
    · rw [a1] at b1; cases b1
    · rw [a1] at b1
      have b1 := Sum.inr.inj b1
      subst b1
      have b3' : MK x (wI μ4 107 2 0) := b3.ag (fun q j e => by
        by_cases q1 : q = 107
        · rw [q1, rI_wI_off (by omega)]
        · rw [rI_wI_ne q1])
      obtain ⟨μ5, e5, f5, t12, t0, t1, tv, t23, t32, mb⟩ := take_m hd b3'
      have fy : ∀ q j, ¬ (bmQ q j ∨ (q = 107 ∧ j = 2) ∨ tkQ q j) → rI μ5 q j = rI μ3 q j := fun q j hq => by
        have n1 : rI (wI μ4 107 2 0) q j = rI μ4 q j := by
          by_cases q1 : q = 107
          · rw [q1, rI_wI_off (by omega)]
          · rw [rI_wI_ne q1]
        rw [f5.i (fun z => hq (Or.inr (Or.inr z))), n1, f4.i (fun z => hq (Or.inl z))]
      have al : ∀ q j, ¬ ((q = 1 ∧ (j = 1 ∨ j = 2 ∨ j = 3)) ∨ (3 ≤ q ∧ q ≤ 37) ∨ (99 ≤ q ∧ q ≤ 102) ∨ (q = 65 ∧ j = 1) ∨ (q = 67 ∧ j = 2) ∨ bmQ q j ∨ (q = 107 ∧ j = 2) ∨ tkQ q j) → rI μ5 q j = rI μ q j := fun q j hq => (fy q j (by unfold bmQ m34 tkQ at hq ⊢; omega)).trans (fx q j (by unfold bmQ m34 tkQ at hq; omega))
      refine ⟨nI (zt x), μ3, μ5, eX, ?_, ?_⟩
      · rw [eM, bd_eq e4, if_pos b2, lb_e, bd_eq e5]
      · obtain ⟨hcw, hwf⟩ := σN_ok hd
        have y65 : rI μ5 65 1 = 0 := by rw [fy 65 1 (by unfold bmQ m34 tkQ; omega), ← hm3, rI_wI_ne (by omega), rI_wI_ne (by omega), rI_wI_at]
        have y67 : rI μ5 67 2 = 0 := by rw [fy 67 2 (by unfold bmQ m34 tkQ; omega), ← hm3, rI_wI_ne (by omega), rI_wI_at]
        have y11 : rI μ5 1 1 = 0 := by rw [fy 1 1 (by unfold bmQ m34 tkQ; omega), ← hm3, rI_wI_at]
        have y72 : rI μ5 107 2 = 0 := by rw [f5.i (by unfold tkQ; omega), rI_wI_at]
        obtain ⟨-, -, -, q, q40, q65, -⟩ := h5
        refine ⟨⟨0, by omega, y11, y72, fun k hk => absurd hk (by omega)⟩, RK.ag (fun q j e => al _ _ (by unfold bmQ m34 tkQ; omega)) hRK, RW.ag (fun q j e => al _ _ (by unfold bmQ m34 tkQ; omega)) hRW, zt x, V, B, D, 0, fun _ => σN V R B U (zr x), ⟨hcw, fun e => absurd e (by have := hd.1; omega), Nat.zero_le _, fun j _ => hwf, ?_, t12, t0, t1, tv, mb⟩, ⟨by omega, y65, t23, q, q40, ?_, fun j hj => absurd hj (by omega)⟩, Or.inl ⟨t32, y67⟩⟩
        · exact XB.ag hcw.1 (fun q j q1 q2 => (fy q j (by unfold bmQ m34 tkQ; omega)).trans (f3.i (by omega))) xb
        · exact (al 65 2 (by unfold bmQ m34 tkQ; omega)).trans q65
theorem a_text (h : RR c μ) (x : Int32) : Ans c (G_X10_text x μ) (G_X11_text x) := by
  by_cases q0 : x = 0
  · subst q0; exact a_text0 h
  · by_cases q1 : x = 1
    · subst q1; exact a_text1 h
    · refine Ans.p (r := -1) h ?_ ?_
      · unfold G_X10_text; rw [if_neg q0, if_neg q1]
      · unfold G_X11_text F_X11_text_22; rw [if_neg q0, if_neg q1]
end TE
