/-! the class: the budget's act, undoing -/
section U
variable {T : Nat} {V : Nat → Nat} {B D m : Nat} {S : Nat → St} {μ : Mem}
theorem budgetX_ok {n : Nat} (h : clX T V B D m S μ) (hw : wfP T V B D m S) (hT0 : 0 < T) (hn : sn (S 0) < 100000) : ∃ μ1 μ', G_X6_open 7 (-1) μ = some ((), μ1) ∧ G_X3_note 36 4 (-1) (nI n) (wI μ1 7 5 (nI n)) = some ((), μ') ∧ Fr acQ μ μ' ∧ clX T V B D (min (m + 1) 40) (psh S (stL (stU (S 0) n) (lge 4 (-1) (nI n)))) μ' := by
  have hC := hw.1
  have hT := hC.1
  have hB := hC.2.1 hT0
  obtain ⟨q, μ1, e1, f1, ⟨o, h2, h3, h4, h5, h6, h7⟩, p1, -⟩ := mid_open (x := -1) h hw hT0 (Or.inl rfl)
  have h7' : XG (sn (S 0)) (sl (S 0)) m 36 (wI μ1 7 5 (nI n)) := XG.ag (fun p j q1 q2 => rI_wI_ne (by omega)) h7
  obtain ⟨μ', en, f, g⟩ := note_ok (x := 4) (y := -1) (z := nI n) h7' hn hw.2.2.1
  have fw : ∀ p j, ¬ ((p = 36 ∧ j = 1) ∨ p = 37) → (p ≠ 7 ∨ j ≠ 5) → rI μ' p j = rI μ1 p j := fun p j q1 q2 => by
    rw [f.i q1]
    by_cases e : p = 7
    · subst e; exact rI_wI_off (by omega)
    · exact rI_wI_ne e
  refine ⟨μ1, μ', e1, en, (f1.wI (by unfold acQ; omega)).tr (f.mono (fun p j z => by unfold acQ; omega)), act_fin (x := -1) (q := q) (opn_ag o hB.2.1 (fun p j z => fw p j (by omega) (by omega))) ((fw _ _ (by omega) (by omega)).trans h2) ((fw _ _ (by omega) (by omega)).trans h3) ((fw _ _ (by omega) (by omega)).trans h4) ?_ (fun t ht => XT.ag (fun p j q1 q2 => fw p j (by omega) (by omega)) (h6 t ht)) g ?_⟩
  · rw [f.i (by omega), rI_wI_at]; rfl
  · refine ⟨?_, rfl, fun j w hj => if_neg (show ¬ j = sn (S 0) by omega), Or.inl ⟨?_, fun t ht => ⟨rfl, rfl, rfl, rfl⟩⟩⟩
    · exact (fw _ _ (by omega) (by omega)).trans o.2.2.2.2.2
    · exact (fw _ _ (by omega) (by omega)).trans o.2.2.2.2.1
theorem restore_ok {v K t q ch : Nat} {f' : Nat → Nat → Nat} {bd gr : Nat → Nat → Nat} {dr : Nat → Nat} {hh : Nat → Nat → Nat → Nat} (ht : t < 3) (hv : v ≤ 16) (hK : K ≤ 8) (hq : q < 40) (h65 : rI μ 65 2 = nI (61 * q)) (hu : XU v (hh 0) (9 + 9 * t) μ) (hL : ∀ c, c < 2 → XS K (cn f' c) (bd c) (gr c) (dr c) (fun k => rI μ 66 (61 * q + (9 + 26 * c + k)))) (hc : ch ≤ 2) (h2 : rI μ 66 (61 * q + 2) = nI ch) (e1 : hh ch = f') (hus : ∀ i, i < ch → US v (rI μ 66 (61 * q + (3 + 3 * i))) (rI μ 66 (61 * q + (4 + 3 * i))) (rI μ 66 (61 * q + (5 + 3 * i))) (hh i) (hh (i + 1))) : ∃ μ', G_X6_restore (9 + 9 * t) μ = some ((), μ') ∧ Fr (fun p _ => 9 + 9 * t ≤ p ∧ p ≤ 17 + 9 * t) μ μ' ∧ XT v K f' bd gr dr (9 + 9 * t) μ' := by
  unfold G_X6_restore
  refine loop_inv (fun n i (s : Mem) => L_X6_restore_2 n (9 + 9 * t) i s) ch (fun i s => Fr (fun p _ => 9 + 9 * t ≤ p ∧ p ≤ 17 + 9 * t) μ s ∧ XU v (hh i) (9 + 9 * t) s) (P := fun o => ∃ μ', o = some ((), μ') ∧ Fr (fun p _ => 9 + 9 * t ≤ p ∧ p ≤ 17 + 9 * t) μ μ' ∧ XT v K f' bd gr dr (9 + 9 * t) μ') ?_ ?_ 100000 0 μ (by omega) (by omega) ⟨Fr.rf, hu⟩
  · rintro n i s hi ⟨f, u⟩
    obtain ⟨a, b, z, ha, hb, xa, xb, xn, hch⟩ := (hus i hi).chg
    obtain ⟨s', es, fs, us⟩ := chR_ok u hch (ha.le hv) (hb.le hv)
    refine ⟨s', ⟨f.tr (fs.mono (fun p j z => by unfold chQ at z; omega)), us⟩, ?_⟩
    show L_X6_restore_2 (n + 1) (9 + 9 * t) (nI i) s = _
    have y65 : rI s 65 2 = nI (61 * q) := (f.i (by omega)).trans h65
    have y2 : rI s 66 (61 * q + 2) = nI ch := (f.i (by omega)).trans h2
    have y3 : rI s 66 (61 * q + 3 + i * 3) = ix a := by rw [f.i (by omega), ← xa]; congr 1; omega
    have y4 : rI s 66 (61 * q + 3 + i * 3 + 1) = ix b := by rw [f.i (by omega), ← xb]; congr 1; omega
    have y5 : -rI s 66 (61 * q + 3 + i * 3 + 2) = zI z := by rw [f.i (by omega), ← xn]; congr 2; omega
    rw [L_X6_restore_2, y65, i2, i3, nI_add, gq_in (by omega) (by omega), nx_nI (by omega), y2, if_neg (nI_ge hi (by omega)), pk_mul, nI_add, nI_add, lb_e, gq_in (by omega) (by omega), nI_1, gq_in (by omega) (by omega), nI_add, gq_in (by omega) (by omega), nx_nI (by omega), nx_nI (by omega), nx_nI (by omega), y3, y4, y5, bd_eq es, lb_e, nI_1]
  · rintro n s ⟨f, u⟩
    have y65 : rI s 65 2 = nI (61 * q) := (f.i (by omega)).trans h65
    have y2 : rI s 66 (61 * q + 2) = nI ch := (f.i (by omega)).trans h2
    have stp : ∀ (c : Nat) (s' : Mem) (n : Nat), c < 2 → rI s' 65 2 = nI (61 * q) → L_X6_restore_63 (n + 1) (9 + 9 * t) (nI c) s' = L_X6_restore_63 n (9 + 9 * t) (nI (c + 1)) (wC s' 66 (61 * q + 9 + c * 26) (9 + 9 * t + 3 + 3 * c + 2) 0 26) := fun c s' n hc he => by
      rw [L_X6_restore_63, if_neg (l_nle hc (by omega)), he, show (9 : Int32) = nI 9 from rfl, show (26 : Int32) = nI 26 from rfl, pk_mul, nI_add, nI_add, lb_e, gq_in (by omega) (by omega), show cpB (nI (61 * q + 9 + c * 26)) 0 (nI 26) 2440 26 = true from cpB_nI (b := 0) (by omega) (by omega) (by omega) (by omega), gq_t, nx_nI (by omega), nx_nI (by omega), show nx 0 = 0 from rfl, lb_e, lb_e, nI_1, lnP_nI (by omega), show 9 + 9 * t + 2 + 1 + 3 * c + 2 = 9 + 9 * t + 3 + 3 * c + 2 by omega]
    have fa : Fr (fun p _ => p = 9 + 9 * t + 5 ∨ p = 9 + 9 * t + 8) s (wC s 66 (61 * q + 9 + 0 * 26) (9 + 9 * t + 3 + 3 * 0 + 2) 0 26) := Fr.rf.wC (fun k q1 q2 => by omega)
    have fb : Fr (fun p _ => p = 9 + 9 * t + 5 ∨ p = 9 + 9 * t + 8) s (wC (wC s 66 (61 * q + 9 + 0 * 26) (9 + 9 * t + 3 + 3 * 0 + 2) 0 26) 66 (61 * q + 9 + 1 * 26) (9 + 9 * t + 3 + 3 * 1 + 2) 0 26) := fa.wC (fun k q1 q2 => by omega)
    rw [e1] at u
    refine ⟨_, ?_, f.tr (fb.mono (fun p j z => by omega)), XT.of (u.ag (fun p j q1 q2 q3 q4 => fb.i (by omega))) (fun c hcc => (hL c hcc).agb hK (fun k hk => ?_))⟩
    · show L_X6_restore_2 (n + 1) (9 + 9 * t) (nI ch) s = _
      rw [L_X6_restore_2, y65, i2, nI_add, gq_in (by omega) (by omega), nx_nI (by omega), y2, if_pos (nI_le (Nat.le_refl _) (by omega)), show (0 : Int32) = nI 0 from rfl, stp 0 s 99999 (by omega) y65, stp 1 _ 99998 (by omega) ((fa.i (by omega)).trans y65), L_X6_restore_63, if_pos (by decide)]
    · rcases (show c = 0 ∨ c = 1 by omega) with rfl | rfl
      · rw [rI_wC_ne (by omega), rI_wC_at, if_pos (by omega), f.i (by omega)]
        congr 1
        omega
      · rw [rI_wC_at, if_pos (by omega), rI_wC_ne (by omega), f.i (by omega)]
        congr 1
        omega
theorem undoX_ok (h : clX T V B D m S μ) (hw : wfP T V B D m S) (hm : 1 ≤ m) (hn : sn (S 0) < 100000) : ∃ μ', G_X6_undoLatest 7 μ = some ((), μ') ∧ Fr acQ μ μ' ∧ clX T V B D (m - 1) (fun j => S (j + 1)) μ' := by
  have hC := hw.1
  have hT := hC.1
  have hT0 : 0 < T := by
    rcases Nat.eq_zero_or_pos T with e | e
    · have := (hw.2.1 e).1; omega
    · exact e
  have hB := hC.2.1 hT0
  have hm40 := hw.2.2.1
  obtain ⟨⟨x2, x3, x4, x5, x6, x7⟩, h1, q, hq, h2, hP⟩ := h
  have hp := hP 0 (by omega)
  rw [show (q + 40 - 0) % 40 = q by omega] at hp
  obtain ⟨p1, p2, p3, p4⟩ := hp
  have p1 : rI μ 66 (61 * q + 1) = nI (su (S 1)) := p1
  have p2 : sn (S 0) = sn (S 1) + 1 := p2
  have g1 : rI μ 36 1 = nI (sn (S 0)) := x7.1
  obtain ⟨μ3, h3e⟩ : ∃ μ3, μ3 = wI (wI μ 7 5 (nI (su (S 1)))) 36 1 (nI (sn (S 1))) := ⟨_, rfl⟩
  have f3 : Fr (fun p j => (p = 7 ∧ j = 5) ∨ (p = 36 ∧ j = 1)) μ μ3 := by rw [h3e]; exact (Fr.rf.wI (by omega)).wI (by omega)
  have e75 : rI μ3 7 5 = nI (su (S 1)) := by rw [h3e, rI_wI_ne (by omega), rI_wI_at]
  have e36 : rI μ3 36 1 = nI (sn (S 1)) := by rw [h3e, rI_wI_at]
  have hrem : (61 * q + 2440 - 61) % 2440 = 61 * ((q + 39) % 40) := by omega
  have fin : ∀ μr, Fr (fun p j => 9 ≤ p ∧ p ≤ 35) μ3 μr → (∀ t, t < T → XT (V t) (min B (V t)) (sf (S 1) t) (sb (S 1) t) (sg (S 1) t) (sd (S 1) t) (9 + 9 * t) μr) → ∃ μ', F_X6_undoLatest_57 μr = some ((), μ') ∧ Fr acQ μ μ' ∧ clX T V B D (m - 1) (fun j => S (j + 1)) μ' := fun μr fr ht => by
    have y65 : rI μr 65 2 = nI (61 * q) := (fr.i (by omega)).trans ((f3.i (by omega)).trans h2)
    have y651 : rI μr 65 1 = nI m := (fr.i (by omega)).trans ((f3.i (by omega)).trans h1)
    have ff : Fr (fun p j => p = 65 ∧ (j = 1 ∨ j = 2)) μr (wI (wI μr 65 2 (nI (61 * ((q + 39) % 40)))) 65 1 (nI (m - 1))) := (Fr.rf.wI (by omega)).wI (by omega)
    have g : ∀ p j, ¬ (p = 65 ∧ (j = 1 ∨ j = 2)) → ¬ (9 ≤ p ∧ p ≤ 35) → ¬ ((p = 7 ∧ j = 5) ∨ (p = 36 ∧ j = 1)) → rI (wI (wI μr 65 2 (nI (61 * ((q + 39) % 40)))) 65 1 (nI (m - 1))) p j = rI μ p j := fun p j q1 q2 q3 => (ff.i q1).trans ((fr.i q2).trans (f3.i q3))
    refine ⟨wI (wI μr 65 2 (nI (61 * ((q + 39) % 40)))) 65 1 (nI (m - 1)), ?_, ((f3.mono (fun p j z => by unfold acQ; omega)).tr (fr.mono (fun p j z => by unfold acQ; omega))).tr (ff.mono (fun p j z => by unfold acQ; omega)), ⟨(g _ _ (by omega) (by omega) (by omega)).trans x2, (g _ _ (by omega) (by omega) (by omega)).trans x3, (g _ _ (by omega) (by omega) (by omega)).trans x4, fun _ => (ff.i (by omega)).trans ((fr.i (by omega)).trans e75), fun t htt => XT.ag (fun p j q1 q2 => ff.i (by omega)) (ht t htt), (ff.i (by omega)).trans ((fr.i (by omega)).trans e36), fun j w hj hj2 hwv => ?_⟩, rI_wI_at, (q + 39) % 40, by omega, ?_, fun j hj => ?_⟩
    · unfold F_X6_undoLatest_57
      rw [y65, show (2440 : Int32) = nI 2440 from rfl, i61, nI_add, pk_sub (by omega), pk_rem (by omega) (by omega) (by omega), hrem, lb_e, rI_wI_off (by omega), y651, nI_sub1 (by omega), lb_e]
    · have hj : j < sn (S 1) := hj
      have hj2 : sn (S 1) ≤ j + 60 + (m - 1) := hj2
      have z := x7.2 j w (by omega) (by omega) hwv
      have z2 := p3 j w hj
      exact (g _ _ (by omega) (by omega) (by omega)).trans (z.trans z2)
    · rw [rI_wI_off (by omega), rI_wI_at]
    · have := hP (j + 1) (by omega)
      rw [show ((q + 39) % 40 + 40 - j) % 40 = (q + 40 - (j + 1)) % 40 by omega]
      exact this.agb hB.2.1 (fun k hk => g _ _ (by omega) (by omega) (by omega))
  have start : ∀ x, rI μ 66 (61 * q) = x → G_X6_undoLatest 7 μ = if x = -1 then F_X6_undoLatest_57 μ3 else gq (inB x 3) (bd (G_X6_restore (shP 8 x) μ3) (fun _ μ_6 => F_X6_undoLatest_57 μ_6)) := fun x hx => by
    unfold G_X6_undoLatest G_X3_eraseLatest
    rw [h1, if_neg (nI_ne0 hm (by omega)), h2, nI_p0, nI_1, gq_in (by omega) (by omega), nx_nI (by omega), hx, lb_e, gq_in (by omega) (by omega), nx_nI (by omega), p1, lb_e, rI_wI_ne (by omega), g1, if_neg (nI_nle (by omega) (by omega)), nI_sub1 (by omega), lb_e, bd_s, show sn (S 0) - 1 = sn (S 1) by omega, ← h3e]
  rcases p4 with ⟨pa, pb⟩ | ⟨t, ht, pt, ps, pl, ch, hh, c1, c2, c3, c4, c5⟩
  · obtain ⟨μ', e, f, c⟩ := fin μ3 Fr.rf (fun t ht => by
      obtain ⟨s1, s2, s3, s4⟩ := pb t ht
      have := x6 t ht
      rw [s1, s2, s3, s4] at this
      exact XT.ag (fun p j q1 q2 => f3.i (by omega)) this)
    refine ⟨μ', ?_, f, c⟩
    rw [start (-1) pa, if_pos rfl, e]
  · have hV := hC.2.2 t ht
    have hu : XU (V t) (hh 0) (9 + 9 * t) μ3 := by
      rw [c3]
      exact (x6 t ht).u.ag (fun p j q1 q2 q3 q4 => f3.i (by omega))
    obtain ⟨μr, er, frr, xr⟩ := restore_ok (q := q) (ch := ch) (hh := hh) (f' := sf (S 1) t) (bd := sb (S 1) t) (gr := sg (S 1) t) (dr := sd (S 1) t) (K := min B (V t)) (by omega) hV.2 (by omega) hq ((f3.i (by omega)).trans h2) hu (fun c hc => (pl c hc).ag (fun k => f3.i (by omega))) c1 ((f3.i (by omega)).trans c2) c4 (fun i hi => by
      rw [f3.i (by omega), f3.i (by omega), f3.i (by omega)]
      exact c5 i hi)
    obtain ⟨μ', e, f, c⟩ := fin μr (frr.mono (fun p j z => by omega)) (fun t' ht' => by
      by_cases et : t' = t
      · subst et; exact xr
      · obtain ⟨s1, s2, s3, s4⟩ := ps t' ht' et
        have := x6 t' ht'
        rw [s1, s2, s3, s4] at this
        exact XT.ag (fun p j q1 q2 => (frr.i (by omega)).trans (f3.i (by omega))) this)
    refine ⟨μ', ?_, f, c⟩
    rw [start (nI t) pt, if_neg (nI_m1 (by omega)), gq_in (by omega) (by omega), sp_eq (by omega), bd_eq er, e]
end U
