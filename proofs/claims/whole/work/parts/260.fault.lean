/-! texts: fault -/
def x0 : BS := (0, 0, 0, tUSUAL, fun _ => 0, fun _ => 0)
def bkz (l : Nat) (ch : Nat → Nat) : Nat ⊕ BS := bkr l ch 300 0 x0
theorem BW.x0 : BW x0 := ⟨by show 0 ≤ 1; omega, by show 0 ≤ 3; omega, by show 0 ≤ 20; omega, fun k _ => Or.inl rfl, fun i hi => absurd hi (by show ¬ i < 0; omega), fun i j hi => absurd hi (by show ¬ i < 0; omega)⟩
section FA
variable {l : Nat} {ch : Nat → Nat} {μ : Mem} {c : Nat}
theorem br_x (hc : CH l ch) (hT : TX l ch μ) : ∃ r μ', G_X1_read μ = some (r, μ') ∧ Fr bxQ μ μ' ∧ ((∃ e, bkz l ch = .inl e ∧ r = nI e ∧ e ≤ l) ∨ ∃ x, bkz l ch = .inr x ∧ r = -1 ∧ XK x μ' ∧ BW x ∧ fw x (zr x) = true) := by
  have h240 := hc.1
  unfold G_X1_read G_X8_rewind G_X1_resetItems
  rw [lb_e, lb_e, bd_s, lb_e, lb_e, lb_e, show cpB 0 0 (3 - 0) 8 8 = true by decide, gq_t, lb_e, bd_s]
  have f1 : Fr bxQ μ (wT (wI (wI (wI (wI (wI μ 1 2 0) 1 3 (-1)) 3 3 0) 3 4 0) 3 5 0) tUSUAL (nx 0) 4 (nx 0) (nx (3 - 0))) := (((((Fr.rf.wI (by unfold bxQ f13; omega)).wI (by unfold bxQ f13; omega)).wI (by unfold bxQ; omega)).wI (by unfold bxQ; omega)).wI (by unfold bxQ; omega)).wT (fun k _ _ => by unfold bxQ; omega)
  obtain ⟨r, μ', i1, i2, i3⟩ := bk_x hc 300 100000 0 0 x0 _ BW.x0 (hT.fr f1 (fun q j e => by unfold bxQ f13 at e; omega)) ⟨by rw [rI_wT_ne (by omega), rI_wI_off (by omega), rI_wI_off (by omega), rI_wI_at]; rfl, by rw [rI_wT_ne (by omega), rI_wI_off (by omega), rI_wI_at]; rfl, by rw [rI_wT_ne (by omega), rI_wI_at]; rfl, fun k hk => by
    rw [rI_wT_at, show nx 0 = 0 by decide, show nx (3 - 0) = 3 by decide, if_pos (by omega), show 0 + (k - 0) = k by omega]; rfl, fun i hi => absurd hi (by show ¬ i < 0; omega), fun j hj => absurd hj (by show ¬ j < 4 * 0; omega)⟩ (by rw [rI_wT_ne (by omega), rI_wI_ne (by omega), rI_wI_ne (by omega), rI_wI_ne (by omega), rI_wI_off (by omega), rI_wI_at]; rfl) (by omega) (by omega) (by omega) (by omega)
  exact ⟨r, μ', i1, f1.tr i2, i3⟩
theorem br_m (hc : CH l ch) (hT : TM l ch μ) : ∃ r μ', G_X11_readBook μ = some (r, μ') ∧ Fr bmQ μ μ' ∧ ((∃ e, bkz l ch = .inl e ∧ r = nI e) ∨ ∃ x, bkz l ch = .inr x ∧ r = -1 ∧ MK x μ') := by
  have h240 := hc.1
  unfold G_X11_readBook
  rw [lb_e, lb_e, lb_e, lb_e]
  have f1 : Fr bmQ μ (wI (wI (wI (wI μ 107 3 0) 107 4 (-1)) 107 8 0) 107 9 0) := (((Fr.rf.wI (by unfold bmQ m34; omega)).wI (by unfold bmQ m34; omega)).wI (by unfold bmQ; omega)).wI (by unfold bmQ; omega)
  have a3 : rI (wI (wI (wI (wI μ 107 3 0) 107 4 (-1)) 107 8 0) 107 9 0) 107 3 = nI 0 := by rw [rI_wI_off (by omega), rI_wI_off (by omega), rI_wI_off (by omega), rI_wI_at]; rfl
  have a4 : rI (wI (wI (wI (wI μ 107 3 0) 107 4 (-1)) 107 8 0) 107 9 0) 107 4 = -1 := by rw [rI_wI_off (by omega), rI_wI_off (by omega), rI_wI_at]
  have a8 : rI (wI (wI (wI (wI μ 107 3 0) 107 4 (-1)) 107 8 0) 107 9 0) 107 8 = nI 0 := by rw [rI_wI_off (by omega), rI_wI_at]; rfl
  have a9 : rI (wI (wI (wI (wI μ 107 3 0) 107 4 (-1)) 107 8 0) 107 9 0) 107 9 = nI 0 := by rw [rI_wI_at]; rfl
  generalize wI (wI (wI (wI μ 107 3 0) 107 4 (-1)) 107 8 0) 107 9 0 = μ1 at *
  refine loop_inv (fun n k (s : Mem) => L_X11_readBook_24 n 0 k s) 3 (fun k s => Fr (fun q _ => q = 109) μ1 s ∧ ∀ j, j < k → rI s 109 j = tUSUAL j) (P := fun o => ∃ r μ', o = some (r, μ') ∧ Fr bmQ μ μ' ∧ ((∃ e, bkz l ch = .inl e ∧ r = nI e) ∨ ∃ x, bkz l ch = .inr x ∧ r = -1 ∧ MK x μ')) ?_ ?_ 100000 0 μ1 (by omega) (by omega) ⟨Fr.rf, fun j hj => absurd hj (by omega)⟩
  · rintro n k s hk ⟨f, d⟩
    have u := usu_m (μ := s) 0 k (by omega) (by show k < 3; omega)
    have u' : G_X11_usual 115 (nI k) s = some (tUSUAL (0 + k), s) := u
    rw [Nat.zero_add] at u'
    refine ⟨wI s 109 k (tUSUAL k), ⟨Fr.wI (S := fun q _ => q = 109) f rfl, fun j hj => ?_⟩, ?_⟩
    · rw [rI_wI_eq]
      by_cases q : j = k
      · rw [if_pos q, q]
      · rw [if_neg q]; exact d j (by omega)
    · show L_X11_readBook_24 (n + 1) 0 (nI k) s = _
      rw [L_X11_readBook_24, if_neg (l_nle (m := 3) hk (by omega)), bd_eq u', gq_in (by omega) (by omega), nx_nI (by omega), lb_e, lb_e, nI_1]
  · rintro n s ⟨f, d⟩
    show ∃ r μ', L_X11_readBook_24 (n + 1) 0 (nI 3) s = _ ∧ _
    rw [L_X11_readBook_24, if_pos (by decide)]
    have f2 : Fr bmQ μ s := f1.tr (f.mono (fun q j e => by unfold bmQ; omega))
    obtain ⟨r, μ', i1, i2, i3⟩ := bk_m hc 300 100000 0 x0 s BW.x0 (hT.fr f2 (fun q j e => by unfold bmQ m34 at e; omega)) ⟨(f.i (by omega)).trans a8, (f.i (by omega)).trans a9, fun k hk => d k hk, fun i hi => absurd hi (by show ¬ i < 0; omega), fun j hj => absurd hj (by show ¬ j < 4 * 0; omega)⟩ ((f.i (by omega)).trans a3) ((f.i (by omega)).trans a4) (by omega) (by omega) (by omega)
    exact ⟨r, μ', i1, f2.tr i2, i3⟩
theorem a_fault0 (h : RR c μ) : Ans c (G_X10_fault 0 μ) (G_X11_fault 0) := by
  obtain ⟨l, ch, hc, tx, tm⟩ := h.1.split
  obtain ⟨r, μ1, e1, f1, d1⟩ := br_x hc tx
  obtain ⟨r', μ2, e2, f2, d2⟩ := br_m hc (tm.fr f1 (fun q j e => by unfold bxQ f13 at e; omega))
  have er : r' = r := by
    rcases d1 with ⟨e, a1, a2, a3⟩ | ⟨x, a1, a2, a3⟩
    · rcases d2 with ⟨e', b1, b2⟩ | ⟨x', b1, b2, b3⟩
      · rw [a1] at b1; rw [a2, b2, Sum.inl.inj b1]
      · rw [a1] at b1; cases b1
    · rcases d2 with ⟨e', b1, b2⟩ | ⟨x', b1, b2, b3⟩
      · rw [a1] at b1; cases b1
      · rw [a2, b2]
  refine Ans.q h (r := r) (μ1 := μ1) (μ2 := μ2) ?_ (f1.mono (fun q j e => by unfold bxQ f13 at e; unfold SCR; omega)) ?_ (f2.mono (fun q j e => by unfold bmQ m34 at e; unfold SCR; omega))
  · unfold G_X10_fault
    rw [if_pos rfl, bd_eq e1]
  · unfold G_X11_fault
    rw [if_pos rfl, bd_eq e2, er]
theorem a_fault (h : RR c μ) (x : Int32) : Ans c (G_X10_fault x μ) (G_X11_fault x) := by
  by_cases q0 : x = 0
  · subst q0; exact a_fault0 h
  · by_cases q1 : x = 1
    · subst q1; exact a_fault1 h
    · refine Ans.p (r := -2) h ?_ ?_
      · unfold G_X10_fault; rw [if_neg q0, if_neg q1]
      · unfold G_X11_fault; rw [if_neg q0, if_neg q1]
end FA
