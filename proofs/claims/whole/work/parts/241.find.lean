/-! bounds: the class's terms -/
theorem imax_nz {a : Nat} {z : Int} (ha : a < 2 ^ 31) (h1 : -2147483648 < z) (h2 : z < 2147483648) : imax (nI a) (zI z) = nI (max a z.toNat) := by
  unfold imax
  have e : nI a < zI z ↔ (a : Int) < z := by rw [fa_lt, nI_toInt ha, zI_toInt (by omega) h2]
  by_cases q : (a : Int) < z
  · rw [if_pos (e.mpr q), zI_nat (by omega), Nat.max_eq_right (by omega)]
  · rw [if_neg (fun h => q (e.mp h)), Nat.max_eq_left (by omega)]
theorem zI_addn (z : Int) (a b : Nat) : zI z + (nI a - nI b) = zI (z + ((a : Int) - b)) := by rw [zI_sub]; exact (Int32.ofInt_add _ _).symm
theorem wUp_le {tm f : Nat → Nat} {z T : Nat} (h : ∀ j, j < z → f j ≤ 7992) (hT : T ≤ 6) : wUp tm f z T ≤ 47952 := by
  have b := fb_sm_bound (f := fun t => fT tm f t z - 1) (c := 7992) (n := T) (fun t _ => by
    have := fT_le (tm := tm) (f := f) (t := t) (i := z) h
    omega)
  have e : T * 7992 ≤ 6 * 7992 := Nat.mul_le_mul_right _ hT
  unfold wUp
  omega
theorem wLo_le {tm f : Nat → Nat} {R z T : Nat} (h : ∀ j, j < z → f j ≤ 7992) (hz : z ≤ 6) : wLo tm f R z T ≤ 47952 := mf_bd fun t _ => by
  have a := sT_le (tm := tm) (f := f) (t := t) (i := z) h
  have e : z * 7992 ≤ 6 * 7992 := Nat.mul_le_mul_right _ hz
  show sT tm f t z - (nT tm t z - 1) * R ≤ 47952
  omega
section F
variable {μ : Mem} {z : Nat} {tm cl sg : Nat → Nat} {nu : Nat → Int32} {pw ps : Nat} {v K D R : Nat} {G BD GR : Nat → Nat → Nat} {DR PP : Nat → Nat}
def fu (sg cl : Nat → Nat) (nu : Nat → Int32) (G BD GR : Nat → Nat → Nat) (K w u : Nat) : Nat := uB w (sg u) (nu u) (G (cl u)) (BD (cl u)) (GR (cl u)) K
theorem find_ok (hX : XW z tm cl sg nu pw μ) (hw : WH z tm cl sg) (hL : ∀ c, c < 2 → XL v K (G c) (BD c) (GR c) (DR c) (PP c) μ) (hl : ∀ c, c < 2 → LW v K D (G c) (BD c) (GR c) (DR c)) (hs : ∀ c, c < 2 → fb_sm (G c) v ≤ 999) (h16 : ∀ c, c < 2 → G c 16 ≤ 999) (hv : v ≤ 16) (hK : K ≤ 8) (hp : ∀ c, c < 2 → PP c + 2 < 103 ∨ 103 < PP c) (hpw : pw + 4 < 103) (hps : ps < 103) (hR : rI μ ps 3 = nI R) (hR9 : R ≤ 999) : ∃ μ', G_X2_find pw ps (PP 0) (PP 1) μ = some ((), μ') ∧ Fr (fun q _ => q = 103) μ μ' ∧ rI μ' 103 0 = nI (wLo tm (fu sg cl nu G BD GR K 1) R z (tm (z - 1) + 1)) ∧ rI μ' 103 1 = nI (min (wUp tm (fu sg cl nu G BD GR K 2) z (tm (z - 1) + 1)) R) ∧ rI μ' 103 2 = nI (min (wUp tm (fu sg cl nu G BD GR K 3) z (tm (z - 1) + 1)) R) := by
  have hz := hw.2.1
  have hz1 := hw.1
  have fl : ∀ w j, j < z → fu sg cl nu G BD GR K w j ≤ 7992 := fun w j hj => by
    have hc := (hw.2.2.2.2 j hj).1
    exact uB_le (hl _ hc) (hs _ hc) hv hK (h16 _ hc)
  generalize hf1 : fu sg cl nu G BD GR K 1 = f1
  generalize hf2 : fu sg cl nu G BD GR K 2 = f2
  generalize hf3 : fu sg cl nu G BD GR K 3 = f3
  have l1 : ∀ j, j < z → f1 j ≤ 7992 := fun j hj => by rw [← hf1]; exact fl 1 j hj
  have l2 : ∀ j, j < z → f2 j ≤ 7992 := fun j hj => by rw [← hf2]; exact fl 2 j hj
  have l3 : ∀ j, j < z → f3 j ≤ 7992 := fun j hj => by rw [← hf3]; exact fl 3 j hj
  have tl : ∀ j, j < z → tm j ≤ 5 := fun j hj => by have := tm_le hw hj; omega
  unfold G_X2_find
  rw [lb_e, lb_e, lb_e]
  refine loop_inv (fun n i (s : Mem) => L_X2_find_18 n pw ps (PP 0) (PP 1) i s) z (fun i s => Fr (fun q _ => q = 103) μ s ∧ rI s 103 0 = nI (wLo tm f1 R z (if i < z then tm i else tm (z - 1) + 1)) ∧ rI s 103 1 = nI (wUp tm f2 z (if i < z then tm i else tm (z - 1) + 1)) ∧ rI s 103 2 = nI (wUp tm f3 z (if i < z then tm i else tm (z - 1) + 1)) ∧ (1 ≤ i → rI s 103 6 = zI ((sT tm f1 (tm (i - 1)) i : Int) - ((nT tm (tm (i - 1)) i - 1) * R : Nat)) ∧ rI s 103 7 = nI (fT tm f2 (tm (i - 1)) i - 1) ∧ rI s 103 8 = nI (fT tm f3 (tm (i - 1)) i - 1))) (P := fun o => ∃ μ', o = some ((), μ') ∧ Fr (fun q _ => q = 103) μ μ' ∧ rI μ' 103 0 = nI (wLo tm f1 R z (tm (z - 1) + 1)) ∧ rI μ' 103 1 = nI (min (wUp tm f2 z (tm (z - 1) + 1)) R) ∧ rI μ' 103 2 = nI (min (wUp tm f3 z (tm (z - 1) + 1)) R)) ?_ ?_ 100000 0 (wI (wI (wI μ 103 0 0) 103 1 0) 103 2 0) (by omega) (by omega) ⟨Fr.wI (S := fun q _ => q = 103) (Fr.wI (S := fun q _ => q = 103) (Fr.wI (S := fun q _ => q = 103) Fr.rf rfl) rfl) rfl, by rw [rI_wI_off (by omega), rI_wI_off (by omega), rI_wI_at, if_pos (by omega), hw.2.2.1]; rfl, by rw [rI_wI_off (by omega), rI_wI_at, if_pos (by omega), hw.2.2.1]; rfl, by rw [rI_wI_at, if_pos (by omega), hw.2.2.1]; rfl, fun h => absurd h (by omega)⟩
  · rintro n i s hi ⟨f, a0, a1, a2, a3⟩
    rw [if_pos hi] at a0 a1 a2
    have hc := (hw.2.2.2.2 i hi).1
    have hXs := hX.ag (μ' := s) hz (fun q j q1 q2 => f.i (by omega))
    have hLs : XL v K (G (cl i)) (BD (cl i)) (GR (cl i)) (DR (cl i)) (PP (cl i)) s := XL.ag (fun x j q1 q2 => f.i (by have := hp (cl i) hc; omega)) (hL (cl i) hc)
    obtain ⟨s1, e1, g1, u3, u4, u5⟩ := findU_ok hXs hw hLs (hl (cl i) hc) (hs (cl i) hc) hv hK (hp (cl i) hc) hpw hi
    have u3 : rI s1 103 3 = nI (f1 i) := by rw [← hf1]; exact u3
    have u4 : rI s1 103 4 = nI (f2 i) := by rw [← hf2]; exact u4
    have u5 : rI s1 103 5 = nI (f3 i) := by rw [← hf3]; exact u5
    have hX1 := hX.ag (μ' := s1) hz (fun q j q1 q2 => (g1.i (by unfold fuQ; omega)).trans (f.i (by omega)))
    have fr1 : Fr (fun q _ => q = 103) μ s1 := f.tr (g1.mono (fun q j z => by unfold fuQ at z; omega))
    have lf1 := l1 i hi
    have lf2 := l2 i hi
    have lf3 := l3 i hi
    have lT2 := fT_le (tm := tm) (f := f2) (t := tm i) (i := i) (fun j hj => l2 j (by omega))
    have lT3 := fT_le (tm := tm) (f := f3) (t := tm i) (i := i) (fun j hj => l3 j (by omega))
    have lS := sT_le (tm := tm) (f := f1) (t := tm i) (i := i + 1) (fun j hj => l1 j (by omega))
    have lS6 : (i + 1) * 7992 ≤ 6 * 7992 := Nat.mul_le_mul_right _ (by omega)
    have lN := nT_le tm (tm i) (i + 1)
    have lNR : (nT tm (tm i) (i + 1) - 1) * R ≤ 5 * 999 := Nat.mul_le_mul (by omega) hR9
    have sS : sT tm f1 (tm i) (i + 1) = sT tm f1 (tm i) i + f1 i := by show _ + (if tm i = tm i then f1 i else 0) = _; rw [if_pos rfl]; rfl
    have sN : nT tm (tm i) (i + 1) = nT tm (tm i) i + 1 := by show _ + (if tm i = tm i then 1 else 0) = _; rw [if_pos rfl]; rfl
    have sF : ∀ f : Nat → Nat, fT tm f (tm i) (i + 1) = if fT tm f (tm i) i = 0 then f i + 1 else min (fT tm f (tm i) i) (f i + 1) := fun f => if_pos rfl
    have mid : ∃ s2, F_X2_find_47 (L_X2_find_18 n) pw ps (PP 0) (PP 1) (nI i) pw (nI i) (PP (cl i)) s = F_X2_find_134 (L_X2_find_18 n) pw ps (PP 0) (PP 1) (nI i) s2 ∧ Fr (fun q j => q = 103 ∧ 6 ≤ j) s1 s2 ∧ rI s2 103 6 = zI ((sT tm f1 (tm i) (i + 1) : Int) - ((nT tm (tm i) (i + 1) - 1) * R : Nat)) ∧ rI s2 103 7 = nI (fT tm f2 (tm i) (i + 1) - 1) ∧ rI s2 103 8 = nI (fT tm f3 (tm i) (i + 1) - 1) := by
      unfold F_X2_find_47
      rw [bd_eq e1, bd_eq (beg_ok hX1 hw hi)]
      by_cases q : i = 0 ∨ tm i ≠ tm (i - 1)
      · rw [decide_eq_true q, if_neg (show ¬ bI true = 0 by decide), lb_e, lb_e, lb_e]
        have no : ∀ j, j < i → tm j ≠ tm i := fun j hj e => by
          rcases q with q | q
          · omega
          · have := tm_mono hw (show j ≤ i - 1 by omega) (by omega)
            have := hw.2.2.2.1 (i - 1) (by omega)
            rw [show i - 1 + 1 = i by omega] at this
            omega
        refine ⟨_, rfl, ((Fr.rf.wI (by omega)).wI (by omega)).wI (by omega), ?_, ?_, ?_⟩
        · rw [rI_wI_off (by omega), rI_wI_off (by omega), rI_wI_at, u3, sS, sN, sT_none no, nT_none no, nI_zI]
          congr 1
          show (f1 i : Int) = ((0 + f1 i : Nat) : Int) - (((0 + 1 - 1) * R : Nat) : Int)
          rw [show (0 + 1 - 1) * R = 0 from by rw [show 0 + 1 - 1 = 0 from rfl, Nat.zero_mul]]
          omega
        · rw [rI_wI_off (by omega), rI_wI_at, rI_wI_off (by omega), u4, sF, fT_none no, if_pos rfl]; rfl
        · rw [rI_wI_at, rI_wI_off (by omega), rI_wI_off (by omega), u5, sF, fT_none no, if_pos rfl]; rfl
      · have i1 : 1 ≤ i := by have : i ≠ 0 := fun e => q (Or.inl e); omega
        have te : tm i = tm (i - 1) := Classical.byContradiction fun e => q (Or.inr e)
        obtain ⟨b6, b7, b8⟩ := a3 i1
        rw [← te] at b6 b7 b8
        have c6 : rI s1 103 6 = zI ((sT tm f1 (tm i) i : Int) - ((nT tm (tm i) i - 1) * R : Nat)) := (g1.i (by unfold fuQ; omega)).trans b6
        have c7 : rI s1 103 7 = nI (fT tm f2 (tm i) i - 1) := (g1.i (by unfold fuQ; omega)).trans b7
        have c8 : rI s1 103 8 = nI (fT tm f3 (tm i) i - 1) := (g1.i (by unfold fuQ; omega)).trans b8
        have cR : rI s1 ps 3 = nI R := (fr1.i (by omega)).trans hR
        have p2 := fT_pos (tm := tm) (f := f2) (t := tm i) (i := i) ⟨i - 1, by omega, te.symm⟩
        have p3 := fT_pos (tm := tm) (f := f3) (t := tm i) (i := i) ⟨i - 1, by omega, te.symm⟩
        have pn : 1 ≤ nT tm (tm i) i := by
          have e : nT tm (tm i) (i - 1 + 1) = nT tm (tm i) (i - 1) + if tm (i - 1) = tm i then 1 else 0 := rfl
          rw [if_pos te.symm, show i - 1 + 1 = i by omega] at e
          omega
        rw [decide_eq_false q, if_pos bI_f, c6, u3, cR, zI_addn, lb_e, rI_wI_off (by omega), rI_wI_off (by omega), c7, u4, imin_nI (by omega) (by omega), lb_e, rI_wI_off (by omega), rI_wI_off (by omega), rI_wI_off (by omega), rI_wI_off (by omega), c8, u5, imin_nI (by omega) (by omega), lb_e]
        refine ⟨_, rfl, ((Fr.rf.wI (by omega)).wI (by omega)).wI (by omega), ?_, ?_, ?_⟩
        · rw [rI_wI_off (by omega), rI_wI_off (by omega), rI_wI_at, sS, sN]
          congr 1
          have e : (nT tm (tm i) i + 1 - 1) * R = (nT tm (tm i) i - 1) * R + R := by
            rw [show nT tm (tm i) i + 1 - 1 = (nT tm (tm i) i - 1) + 1 by omega, Nat.add_mul, Nat.one_mul]
          rw [e]
          omega
        · rw [rI_wI_off (by omega), rI_wI_at, sF, if_neg (by omega)]
          congr 1
          omega
        · rw [rI_wI_at, sF, if_neg (by omega)]
          congr 1
          omega
    obtain ⟨s2, e2, g2, c6, c7, c8⟩ := mid
    have fr2 : Fr (fun q _ => q = 103) μ s2 := fr1.tr (g2.mono (fun q j z => z.1))
    have hX2 := hX.ag (μ' := s2) hz (fun q j q1 q2 => fr2.i (by omega))
    have b0 : rI s2 103 0 = nI (wLo tm f1 R z (tm i)) := (g2.i (by omega)).trans ((g1.i (by unfold fuQ; omega)).trans a0)
    have b1 : rI s2 103 1 = nI (wUp tm f2 z (tm i)) := (g2.i (by omega)).trans ((g1.i (by unfold fuQ; omega)).trans a1)
    have b2 : rI s2 103 2 = nI (wUp tm f3 z (tm i)) := (g2.i (by omega)).trans ((g1.i (by unfold fuQ; omega)).trans a2)
    have top : L_X2_find_18 (n + 1) pw ps (PP 0) (PP 1) (nI i) s = F_X2_find_134 (L_X2_find_18 n) pw ps (PP 0) (PP 1) (nI i) s2 := by
      rw [L_X2_find_18, hXs.1, if_neg (nI_ge hi (by omega)), gq_in (by omega) (by omega), nx_nI (by omega), (hXs.2 i hi).2.1, ← e2]
      by_cases c0 : cl i = 0
      · rw [if_pos (by rw [c0]; rfl), c0]
      · rw [if_neg (nI_ne0 (by omega) (by omega)), show cl i = 1 by omega]
    have close : (i + 1 = z ∨ (i + 1 < z ∧ tm (i + 1) ≠ tm i)) → ∃ s', (Fr (fun q _ => q = 103) μ s' ∧ rI s' 103 0 = nI (wLo tm f1 R z (if i + 1 < z then tm (i + 1) else tm (z - 1) + 1)) ∧ rI s' 103 1 = nI (wUp tm f2 z (if i + 1 < z then tm (i + 1) else tm (z - 1) + 1)) ∧ rI s' 103 2 = nI (wUp tm f3 z (if i + 1 < z then tm (i + 1) else tm (z - 1) + 1)) ∧ (1 ≤ i + 1 → rI s' 103 6 = zI ((sT tm f1 (tm (i + 1 - 1)) (i + 1) : Int) - ((nT tm (tm (i + 1 - 1)) (i + 1) - 1) * R : Nat)) ∧ rI s' 103 7 = nI (fT tm f2 (tm (i + 1 - 1)) (i + 1) - 1) ∧ rI s' 103 8 = nI (fT tm f3 (tm (i + 1 - 1)) (i + 1) - 1))) ∧ F_X2_find_156 (L_X2_find_18 n) pw ps (PP 0) (PP 1) (nI i) s2 = L_X2_find_18 n pw ps (PP 0) (PP 1) (nI (i + 1)) s' := fun hcl => by
      have tc : (if i + 1 < z then tm (i + 1) else tm (z - 1) + 1) = tm i + 1 := by
        rcases hcl with q | ⟨q1, q2⟩
        · rw [if_neg (by omega), show z - 1 = i by omega]
        · rw [if_pos q1]
          have := hw.2.2.2.1 i q1
          omega
      have cut : ∀ j, i + 1 ≤ j → j < i + 1 + (z - (i + 1)) → tm j ≠ tm i := fun j q1 q2 e => by
        rcases hcl with q | ⟨q3, q4⟩
        · omega
        · have := tm_mono hw q1 (by omega)
          have := hw.2.2.2.1 i q3
          omega
      have cS := sT_cut (tm := tm) (f := f1) cut
      have cN := nT_cut (tm := tm) cut
      have cF2 := fT_cut (tm := tm) (f := f2) cut
      have cF3 := fT_cut (tm := tm) (f := f3) cut
      rw [show i + 1 + (z - (i + 1)) = z by omega] at cS cN cF2 cF3
      have w0 := wLo_le (tm := tm) (f := f1) (R := R) (z := z) (T := tm i) l1 hz
      rw [tc]
      unfold F_X2_find_156 F_X2_find_197
      rw [b0, c6, imax_nz (by omega) (by omega) (by omega), lb_e, rI_wI_off (by omega), rI_wI_off (by omega), b1, c7, nI_add, lb_e, rI_wI_off (by omega), rI_wI_off (by omega), rI_wI_off (by omega), rI_wI_off (by omega), b2, c8, nI_add, lb_e, lb_e, nI_1]
      refine ⟨_, ⟨Fr.wI (S := fun q _ => q = 103) (Fr.wI (S := fun q _ => q = 103) (Fr.wI (S := fun q _ => q = 103) fr2 rfl) rfl) rfl, ?_, ?_, ?_, fun _ => ⟨?_, ?_, ?_⟩⟩, rfl⟩
      · rw [rI_wI_off (by omega), rI_wI_off (by omega), rI_wI_at]
        congr 1
        show _ = max (wLo tm f1 R z (tm i)) (sT tm f1 (tm i) z - (nT tm (tm i) z - 1) * R)
        rw [cS, cN]
        omega
      · rw [rI_wI_off (by omega), rI_wI_at]
        congr 1
        show _ = wUp tm f2 z (tm i) + (fT tm f2 (tm i) z - 1)
        rw [cF2]
      · rw [rI_wI_at]
        congr 1
        show _ = wUp tm f3 z (tm i) + (fT tm f3 (tm i) z - 1)
        rw [cF3]
      · rw [rI_wI_off (by omega), rI_wI_off (by omega), rI_wI_off (by omega), show i + 1 - 1 = i by omega]; exact c6
      · rw [rI_wI_off (by omega), rI_wI_off (by omega), rI_wI_off (by omega), show i + 1 - 1 = i by omega]; exact c7
      · rw [rI_wI_off (by omega), rI_wI_off (by omega), rI_wI_off (by omega), show i + 1 - 1 = i by omega]; exact c8
    show ∃ s', _ ∧ L_X2_find_18 (n + 1) pw ps (PP 0) (PP 1) (nI i) s = _
    rw [top]
    unfold F_X2_find_134
    rw [hX2.1, nI_1]
    by_cases q : i + 1 = z
    · rw [if_pos (show nI (i + 1) = nI z by rw [q])]
      exact close (Or.inl q)
    · rw [if_neg (show ¬ nI (i + 1) = nI z from fun e => q (nI_inj (by omega) (by omega) e)), bd_eq (beg_ok hX2 hw (u := i + 1) (by omega))]
      by_cases q2 : tm (i + 1) = tm i
      · rw [decide_eq_false (show ¬ (i + 1 = 0 ∨ tm (i + 1) ≠ tm (i + 1 - 1)) from fun e => e.elim (by omega) (fun y => y (by rw [show i + 1 - 1 = i by omega]; exact q2))), if_pos bI_f]
        unfold F_X2_find_197
        rw [lb_e, nI_1]
        refine ⟨s2, ⟨fr2, ?_, ?_, ?_, fun _ => ?_⟩, rfl⟩
        · rw [if_pos (by omega), q2]; exact b0
        · rw [if_pos (by omega), q2]; exact b1
        · rw [if_pos (by omega), q2]; exact b2
        · rw [show i + 1 - 1 = i by omega]; exact ⟨c6, c7, c8⟩
      · rw [decide_eq_true (show i + 1 = 0 ∨ tm (i + 1) ≠ tm (i + 1 - 1) from Or.inr (by rw [show i + 1 - 1 = i by omega]; exact q2)), if_neg (show ¬ bI true = 0 by decide)]
        exact close (Or.inr ⟨by omega, q2⟩)
  · rintro n s ⟨f, a0, a1, a2, -⟩
    rw [if_neg (by omega)] at a0 a1 a2
    have w2 := wUp_le (tm := tm) (f := f2) (z := z) (T := tm (z - 1) + 1) l2 (by have := tl (z - 1) (by omega); omega)
    have w3 := wUp_le (tm := tm) (f := f3) (z := z) (T := tm (z - 1) + 1) l3 (by have := tl (z - 1) (by omega); omega)
    have cR : rI s ps 3 = nI R := (f.i (by omega)).trans hR
    refine ⟨wI (wI s 103 1 (nI (min (wUp tm f2 z (tm (z - 1) + 1)) R))) 103 2 (nI (min (wUp tm f3 z (tm (z - 1) + 1)) R)), ?_, Fr.wI (S := fun q _ => q = 103) (Fr.wI (S := fun q _ => q = 103) f rfl) rfl, ?_, ?_, rI_wI_at⟩
    · show L_X2_find_18 (n + 1) pw ps (PP 0) (PP 1) (nI z) s = _
      rw [L_X2_find_18, (hX.ag (μ' := s) hz (fun q j q1 q2 => f.i (by omega))).1, if_pos (nI_le (Nat.le_refl _) (by omega)), a1, cR, imin_nI (by omega) (by omega), lb_e, rI_wI_off (by omega), rI_wI_ne (by omega), a2, cR, imin_nI (by omega) (by omega), lb_e]
    · rw [rI_wI_off (by omega), rI_wI_off (by omega)]; exact a0
    · rw [rI_wI_off (by omega), rI_wI_at]
end F
