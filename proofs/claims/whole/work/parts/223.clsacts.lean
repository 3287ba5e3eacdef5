/-! the class's acts -/
def acQ (q _j : Nat) : Prop := (7 ≤ q ∧ q ≤ 37) ∨ q = 65 ∨ q = 66 ∨ (99 ≤ q ∧ q ≤ 102)
def mid (T : Nat) (V : Nat → Nat) (B D m : Nat) (S : Nat → St) (x : Int32) (q : Nat) (σ : St) (μ : Mem) : Prop := opn T V B m S x q μ ∧ rI μ 7 2 = nI T ∧ rI μ 7 3 = nI B ∧ rI μ 7 4 = nI D ∧ rI μ 7 5 = nI (su (S 0)) ∧ (∀ t, t < T → XT (V t) (min B (V t)) (sf σ t) (sb σ t) (sg σ t) (sd σ t) (9 + 9 * t) μ) ∧ XG (sn (S 0)) (sl (S 0)) m 36 μ
def pgL (V : Nat → Nat) (B : Nat) (σ : St) (t q : Nat) (μ : Mem) : Prop := ∀ c, c < 2 → XS (min B (V t)) (cn (sf σ t) c) (sb σ t c) (sg σ t c) (sd σ t c) (fun k => rI μ 66 (61 * q + (9 + 26 * c + k)))
theorem chf_comm {g : Nat → Nat → Nat} {a b c d : Nat} {x y : Int} (h : ¬ (a = c ∧ b = d)) : chf (chf g c d y) a b x = chf (chf g a b x) c d y := by
  have e1 : chf g c d y a b = g a b := if_neg h
  have e2 : chf g a b x c d = g c d := if_neg (fun q => h ⟨q.1.symm, q.2.symm⟩)
  funext u v
  show (if u = a ∧ v = b then ((chf g c d y a b : Int) + x).toNat else chf g c d y u v) = (if u = c ∧ v = d then ((chf g a b x c d : Int) + y).toNat else chf g a b x u v)
  rw [e1, e2]
  show (if u = a ∧ v = b then ((g a b : Int) + x).toNat else if u = c ∧ v = d then ((g c d : Int) + y).toNat else g u v) = (if u = c ∧ v = d then ((g c d : Int) + y).toNat else if u = a ∧ v = b then ((g a b : Int) + x).toNat else g u v)
  by_cases p : u = a ∧ v = b
  · rw [if_pos p, if_neg (fun q => h ⟨p.1.symm.trans q.1, p.2.symm.trans q.2⟩), if_pos p]
  · rw [if_neg p, if_neg p]
section A
variable {T : Nat} {V : Nat → Nat} {B D m : Nat} {S : Nat → St} {μ : Mem} {x : Int32} {q : Nat} {σ : St}
theorem mid_open (h : clX T V B D m S μ) (hw : wfP T V B D m S) (hT0 : 0 < T) (hx : x = -1 ∨ ∃ t, t < T ∧ x = nI t) : ∃ q μ', G_X6_open 7 x μ = some ((), μ') ∧ Fr acQ μ μ' ∧ mid T V B D m S x q (S 0) μ' ∧ rI μ' 66 (61 * q + 2) = nI 0 ∧ ∀ t, t < T → x = nI t → pgL V B (S 0) t q μ' := by
  have hC := hw.1
  have hB := hC.2.1 hT0
  obtain ⟨q, μ', e, f, o, p2, pl⟩ := open_ok h hw.2.2.1 hT0 hC.1 hB.2.1 hx
  have hX := h.1
  refine ⟨q, μ', e, f.mono (fun p j h => by unfold opQ at h; unfold acQ; omega), ⟨o, (f.i (by unfold opQ; omega)).trans hX.1, (f.i (by unfold opQ; omega)).trans hX.2.1, (f.i (by unfold opQ; omega)).trans hX.2.2.1, (f.i (by unfold opQ; omega)).trans (hX.2.2.2.1 hT0), fun t ht => XT.ag (fun p j q1 q2 => f.i (by unfold opQ; have := hC.1; omega)) (hX.2.2.2.2.1 t ht), XG.ag (fun p j q1 q2 => f.i (by unfold opQ; omega)) hX.2.2.2.2.2⟩, p2, fun t ht et c hc => ?_⟩
  have hs := (hX.2.2.2.2.1 t ht).s hc
  exact hs.agb (by omega) (fun k hk => pl t ht et c hc k hk)
theorem mid_ag {μ' : Mem} (h : mid T V B D m S x q σ μ) (hT : T ≤ 3) (hB : B ≤ 8) (e : ∀ p j, (7 ≤ p ∧ p ≤ 37) ∨ (p = 65 ∧ (j = 1 ∨ j = 2)) ∨ (p = 66 ∧ (j < 61 * q + 2 ∨ 61 * q + 61 ≤ j)) → rI μ' p j = rI μ p j) : mid T V B D m S x q σ μ' := by
  obtain ⟨h1, h2, h3, h4, h5, h6, h7⟩ := h
  exact ⟨opn_ag h1 hB (fun p j z => e p j (by omega)), (e _ _ (by omega)).trans h2, (e _ _ (by omega)).trans h3, (e _ _ (by omega)).trans h4, (e _ _ (by omega)).trans h5, fun t ht => XT.ag (fun p j q1 q2 => e p j (by omega)) (h6 t ht), XG.ag (fun p j q1 q2 => e p j (by omega)) h7⟩
theorem pgL_ag {μ' : Mem} {t : Nat} (h : pgL V B σ t q μ) (hB : B ≤ 8) (e : ∀ j, 61 * q + 9 ≤ j → j < 61 * q + 61 → rI μ' 66 j = rI μ 66 j) : pgL V B σ t q μ' := fun c hc => (h c hc).agb (by omega) (fun k hk => e _ (by omega) (by omega))
theorem mid_note {x1 x2 x3 : Int32} {n : Nat} (h : mid T V B D m S x q σ μ) (hT : T ≤ 3) (hB : B ≤ 8) (hn : n < 2) (h2 : rI μ 66 (61 * q + 2) = nI n) : ∃ μ', G_X6_noteRows x1 x2 x3 μ = some ((), μ') ∧ Fr acQ μ μ' ∧ mid T V B D m S x q σ μ' ∧ rI μ' 66 (61 * q + 2) = nI (n + 1) ∧ rI μ' 66 (61 * q + (3 + 3 * n)) = x1 ∧ rI μ' 66 (61 * q + (4 + 3 * n)) = x2 ∧ rI μ' 66 (61 * q + (5 + 3 * n)) = x3 ∧ (∀ j, j < n → rI μ' 66 (61 * q + (3 + 3 * j)) = rI μ 66 (61 * q + (3 + 3 * j)) ∧ rI μ' 66 (61 * q + (4 + 3 * j)) = rI μ 66 (61 * q + (4 + 3 * j)) ∧ rI μ' 66 (61 * q + (5 + 3 * j)) = rI μ 66 (61 * q + (5 + 3 * j))) ∧ ∀ j, 61 * q + 9 ≤ j → j < 61 * q + 61 → rI μ' 66 j = rI μ 66 j := by
  obtain ⟨μ', e, f, a1, a2, a3, a4, a5⟩ := noteRows_ok (x1 := x1) (x2 := x2) (x3 := x3) h.1.1 hn h.1.2.2.1 h2
  exact ⟨μ', e, f.mono (fun p j z => by unfold acQ; omega), mid_ag h hT hB (fun p j z => f.i (by omega)), a1, a2, a3, a4, a5, fun j q1 q2 => f.i (by omega)⟩
theorem mid_change {t a b : Nat} {z : Int} (h : mid T V B D m S x q σ μ) (hC : CW T V B D) (hσ : WFS T V B D σ) (ht : t < T) (ha : okv (V t) a) (hb : okv (V t) b) (h0 : 0 ≤ (sf σ t a b : Int) + z) (hr : (rws (sf σ t) : Int) + z ≤ 999) (hz : -1000 < z) (hz2 : z < 1000) : ∃ μ', G_X0_changeRows 7 (9 + 9 * t) (ix a) (ix b) (zI z) μ = some ((), μ') ∧ Fr acQ μ μ' ∧ mid T V B D m S x q (chT V B D σ t a b z) μ' ∧ ∀ j, rI μ' 66 j = rI μ 66 j := by
  have hT := hC.1
  have hV := hC.2.2 t ht
  have hB := hC.2.1 (by omega)
  obtain ⟨o, h2, h3, h4, h5, h6, h7⟩ := h
  obtain ⟨μ', e, f, X⟩ := changeX (h6 t ht) (hσ.1 t ht) (by omega) ha hb h0 hr hV.2 (by omega) hB.1 hB.2.1 hB.2.2 hz hz2 h3 h4
  refine ⟨μ', e, f.mono (fun p j z => by unfold LQ at z; unfold acQ; omega), ⟨opn_ag o hB.2.1 (fun p j z => f.i (by unfold LQ; omega)), (f.i (by unfold LQ; omega)).trans h2, (f.i (by unfold LQ; omega)).trans h3, (f.i (by unfold LQ; omega)).trans h4, (f.i (by unfold LQ; omega)).trans h5, fun t' ht' => ?_, XG.ag (fun p j q1 q2 => f.i (by unfold LQ; omega)) h7⟩, fun j => f.i (by unfold LQ; omega)⟩
  unfold chT
  by_cases et : t' = t
  · subst et
    rw [stT_f, stT_b, stT_g, stT_d]
    exact X
  · obtain ⟨s1, s2, s3, s4⟩ := stT_o (σ := σ) (f := chf (sf σ t) a b z) (bd := tb1 (V t) (min B (V t)) D (chf (sf σ t) a b z) (sb σ t) (sd σ t) a b z) (gr := tb2 (V t) (min B (V t)) D (chf (sf σ t) a b z) (sb σ t) (sg σ t) (sd σ t) a b z) (dr := tb3 D (sd σ t) a b z) et
    rw [s1, s2, s3, s4]
    exact XT.ag (fun p j q1 q2 => f.i (by unfold LQ; omega)) (h6 t' ht')
theorem pr_mk {σ' : St} {t ch : Nat} {hh : Nat → Nat → Nat → Nat} (ht : t < T) (hop : opn T V B m S (nI t) q μ) (hL : pgL V B (S 0) t q μ) (hsn : sn σ' = sn (S 0) + 1) (hsl : ∀ j w, j < sn (S 0) → sl σ' j w = sl (S 0) j w) (hs : ∀ t', t' < T → t' ≠ t → samT σ' (S 0) t') (hc : ch ≤ 2) (h2 : rI μ 66 (61 * q + 2) = nI ch) (e0 : hh 0 = sf σ' t) (e1 : hh ch = sf (S 0) t) (hu : ∀ i, i < ch → US (V t) (rI μ 66 (61 * q + (3 + 3 * i))) (rI μ 66 (61 * q + (4 + 3 * i))) (rI μ 66 (61 * q + (5 + 3 * i))) (hh i) (hh (i + 1))) : PR T V B (fun k => rI μ 66 (61 * q + k)) σ' (S 0) := ⟨hop.2.2.2.2.2, hsn, hsl, Or.inr ⟨t, ht, hop.2.2.2.2.1, hs, hL, ch, hh, hc, h2, e0, e1, hu⟩⟩
theorem mid_fin {e : Nat → Int32} {x1 x2 x3 : Int32} (h : mid T V B D m S x q σ μ) (hC : CW T V B D) (hT0 : 0 < T) (hm : m ≤ 40) (hn : sn (S 0) < 100000) (he : e = lge x1 x2 x3) (s1 : su σ = su (S 0)) (s2 : sn σ = sn (S 0)) (s3 : sl σ = sl (S 0)) (hp : PR T V B (fun k => rI μ 66 (61 * q + k)) (stL σ e) (S 0)) : ∃ μ', G_X3_note 36 x1 x2 x3 μ = some ((), μ') ∧ Fr acQ μ μ' ∧ clX T V B D (min (m + 1) 40) (psh S (stL σ e)) μ' := by
  have hB := hC.2.1 hT0
  have hT := hC.1
  obtain ⟨o, h2, h3, h4, h5, h6, h7⟩ := h
  obtain ⟨μ', en, f, g⟩ := note_ok (x := x1) (y := x2) (z := x3) h7 hn hm
  refine ⟨μ', en, f.mono (fun p j z => by unfold acQ; omega), act_fin (x := x) (q := q) (opn_ag o hB.2.1 (fun p j z => f.i (by omega))) ((f.i (by omega)).trans h2) ((f.i (by omega)).trans h3) ((f.i (by omega)).trans h4) ((f.i (by omega)).trans (h5.trans (by rw [← s1]; rfl))) (fun t ht => XT.ag (fun p j q1 q2 => f.i (by omega)) (h6 t ht)) ?_ (hp.agb hB.2.1 (fun k _ => f.i (by omega)))⟩
  show XG (sn σ + 1) (fun j w => if j = sn σ then e w else sl σ j w) (min (m + 1) 40) 36 μ'
  rw [s2, s3, he]
  exact g
theorem doChange_ok {t a b : Nat} {z : Int} (h : clX T V B D m S μ) (hw : wfP T V B D m S) (hn : sn (S 0) < 100000) (ht : t < T) (ha : okv (V t) a) (hb : okv (V t) b) (h0 : 0 ≤ (sf (S 0) t a b : Int) + z) (hr : (rws (sf (S 0) t) : Int) + z ≤ 999) (hz : -1000 < z) (hz2 : z < 1000) : ∃ μ', G_X10_doChange (nI t) (ix a) (ix b) (zI z) μ = some ((), μ') ∧ Fr acQ μ μ' ∧ clX T V B D (min (m + 1) 40) (psh S (stL (chT V B D (S 0) t a b z) (lge (if z ≤ 0 then 1 else 0) (nI t) (nI z.natAbs)))) μ' := by
  have hC := hw.1
  have hT := hC.1
  have hB := hC.2.1 (by omega)
  have hσ := hw.2.2.2 0 (Nat.zero_le _)
  obtain ⟨q, μ1, e1, f1, m1, p1, l1⟩ := mid_open h hw (by omega) (Or.inr ⟨t, ht, rfl⟩)
  obtain ⟨μ2, e2, f2, m2, p2, n1, n2, n3, -, l2⟩ := mid_note (x1 := ix a) (x2 := ix b) (x3 := zI z) m1 hT hB.2.1 (by omega) p1
  obtain ⟨μ3, e3, f3, m3, l3⟩ := mid_change m2 hC hσ ht ha hb h0 hr hz hz2
  have pl := pgL_ag (pgL_ag (l1 t ht rfl) hB.2.1 l2) hB.2.1 (fun j _ _ => l3 j)
  have ch := chf_Chg h0
  have us := US.of (v := V t) (z := z) (f := chf (sf (S 0) t) a b z) ha hb (by have := ch.2; omega)
  rw [chf_back h0] at us
  obtain ⟨μ4, e4, f4, c4⟩ := mid_fin (e := lge (if z ≤ 0 then 1 else 0) (nI t) (nI z.natAbs)) m3 hC (by omega) hw.2.2.1 hn rfl rfl rfl rfl (pr_mk (ch := 1) (hh := fun i => if i = 0 then chf (sf (S 0) t) a b z else sf (S 0) t) ht m3.1 pl rfl (fun j w hj => if_neg (show ¬ j = sn (S 0) by omega)) (fun t' ht' hne => stT_o hne) (by omega) ((l3 _).trans p2) (by
    show _ = sf (chT V B D (S 0) t a b z) t
    unfold chT
    rw [stT_f]
    rfl) rfl (fun i hi => by
    rw [show i = 0 by omega, l3, l3, l3, n1, n2, n3]
    exact us))
  refine ⟨μ4, ?_, ((f1.tr f2).tr f3).tr f4, c4⟩
  have e0 : (0 : Int32).toInt = 0 := by decide
  unfold G_X10_doChange F_X10_doChange_64
  rw [bd_eq e1, bd_eq e2, gq_in (by omega) (by omega), sp_eq (by omega), bd_eq e3, (zI_abs (by omega) (by omega)).1]
  by_cases hs : z ≤ 0
  · rw [if_pos hs] at e4
    rw [if_pos (by rw [fa_le, zI_toInt (by omega) (by omega), e0]; exact hs), bd_eq e4]
  · rw [if_neg hs] at e4
    rw [if_neg (by rw [fa_le, zI_toInt (by omega) (by omega), e0]; exact hs), bd_eq e4]
theorem zm1 : (-1 : Int32) = zI (-1) := by decide
theorem zp1 : (1 : Int32) = zI 1 := by decide
def mvT (V : Nat → Nat) (B D : Nat) (σ : St) (t a b c d : Nat) : St := chT V B D (chT V B D σ t a b (-1)) t c d 1
theorem chT_f {t a b : Nat} {z : Int} : sf (chT V B D σ t a b z) t = chf (sf σ t) a b z := stT_f
theorem move_ok {t a b c d : Nat} (h : clX T V B D m S μ) (hw : wfP T V B D m S) (hn : sn (S 0) < 100000) (ht : t < T) (ha : okv (V t) a) (hb : okv (V t) b) (hc : okv (V t) c) (hd : okv (V t) d) (hne : ¬ (a = c ∧ b = d)) (h1 : 1 ≤ sf (S 0) t a b) : ∃ μ', F_X10_move_46 (nI t) (ix a) (ix b) (ix c) (ix d) μ = some (nI (sf (S 0) t c d + 1), μ') ∧ Fr acQ μ μ' ∧ WFS T V B D (mvT V B D (S 0) t a b c d) ∧ clX T V B D (min (m + 1) 40) (psh S (stL (mvT V B D (S 0) t a b c d) (lge 2 (nI t) 1))) μ' := by
  have hC := hw.1
  have hT := hC.1
  have hV := hC.2.2 t ht
  have hB := hC.2.1 (by omega)
  have hσ := hw.2.2.2 0 (Nat.zero_le _)
  have hr := (hσ.1 t ht).2.1
  have h0 : 0 ≤ (sf (S 0) t a b : Int) + -1 := by omega
  have ch := chf_Chg h0
  have rw1 := ch.rwn (ha.le hV.2) (hb.le hV.2)
  have hσ1 : WFS T V B D (chT V B D (S 0) t a b (-1)) := wfs_chT hC hσ ht ha hb h0 (by omega)
  have h02 : 0 ≤ (sf (chT V B D (S 0) t a b (-1)) t c d : Int) + 1 := by omega
  have hσ2 : WFS T V B D (mvT V B D (S 0) t a b c d) := wfs_chT hC hσ1 ht hc hd h02 (by rw [chT_f]; omega)
  obtain ⟨q, μ1, e1, f1, m1, p1, l1⟩ := mid_open h hw (by omega) (Or.inr ⟨t, ht, rfl⟩)
  obtain ⟨μ2, e2, f2, m2, p2, n1, n2, n3, -, l2⟩ := mid_note (x1 := ix a) (x2 := ix b) (x3 := zI (-1)) m1 hT hB.2.1 (by omega) p1
  obtain ⟨μ3, e3, f3, m3, l3⟩ := mid_change (z := -1) m2 hC hσ ht ha hb h0 (by omega) (by omega) (by omega)
  obtain ⟨μ4, e4, f4, m4, p4, n4, n5, n6, n7, l4⟩ := mid_note (x1 := ix c) (x2 := ix d) (x3 := zI 1) (n := 1) m3 hT hB.2.1 (by omega) ((l3 _).trans p2)
  obtain ⟨μ5, e5, f5, m5, l5⟩ := mid_change (z := 1) m4 hC hσ1 ht hc hd h02 (by rw [chT_f]; omega) (by omega) (by omega)
  have pl := pgL_ag (pgL_ag (pgL_ag (pgL_ag (l1 t ht rfl) hB.2.1 l2) hB.2.1 (fun j _ _ => l3 j)) hB.2.1 l4) hB.2.1 (fun j _ _ => l5 j)
  have f2e : sf (mvT V B D (S 0) t a b c d) t = chf (chf (sf (S 0) t) a b (-1)) c d 1 := by unfold mvT; rw [chT_f, chT_f]
  have c0 : chf (sf (S 0) t) a b (-1) c d = sf (S 0) t c d := if_neg (fun z => hne ⟨z.1.symm, z.2.symm⟩)
  have hcd : chf (chf (sf (S 0) t) a b (-1)) c d 1 c d = sf (S 0) t c d + 1 := by
    have := (chf_Chg (f := chf (sf (S 0) t) a b (-1)) (a := c) (b := d) (z := 1) (by omega)).2
    omega
  have k1 : chf (chf (chf (sf (S 0) t) a b (-1)) c d 1) a b (- -1) = chf (sf (S 0) t) c d 1 := by
    rw [chf_comm hne, chf_back h0]
  have us1 := US.of (v := V t) (z := -1) (f := chf (chf (sf (S 0) t) a b (-1)) c d 1) ha hb (by omega)
  rw [k1] at us1
  have us2 := US.of (v := V t) (z := 1) (f := chf (sf (S 0) t) c d 1) hc hd (by
    have := (chf_Chg (f := sf (S 0) t) (a := c) (b := d) (z := 1) (by omega)).2
    omega)
  rw [chf_back (by omega)] at us2
  obtain ⟨μ6, e6, f6, c6⟩ := mid_fin (x1 := 2) (x2 := nI t) (x3 := 1) (e := lge 2 (nI t) 1) m5 hC (by omega) hw.2.2.1 hn rfl rfl rfl rfl (pr_mk (ch := 2) (hh := fun i => if i = 0 then chf (chf (sf (S 0) t) a b (-1)) c d 1 else if i = 1 then chf (sf (S 0) t) c d 1 else sf (S 0) t) ht m5.1 pl rfl (fun j w hj => if_neg (show ¬ j = sn (S 0) by omega)) (fun t' ht' hn' => by
    obtain ⟨s1, s2, s3, s4⟩ := stT_o (σ := S 0) (t := t) (f := chf (sf (S 0) t) a b (-1)) (bd := tb1 (V t) (min B (V t)) D (chf (sf (S 0) t) a b (-1)) (sb (S 0) t) (sd (S 0) t) a b (-1)) (gr := tb2 (V t) (min B (V t)) D (chf (sf (S 0) t) a b (-1)) (sb (S 0) t) (sg (S 0) t) (sd (S 0) t) a b (-1)) (dr := tb3 D (sd (S 0) t) a b (-1)) hn'
    refine ⟨(if_neg hn').trans s1, (if_neg hn').trans s2, (if_neg hn').trans s3, (if_neg hn').trans s4⟩) (Nat.le_refl _) ((l5 _).trans p4) (by
    show _ = sf (mvT V B D (S 0) t a b c d) t
    rw [f2e]
    rfl) rfl (fun i hi => by
    rcases (show i = 0 ∨ i = 1 by omega) with rfl | rfl
    · obtain ⟨z1, z2, z3⟩ := n7 0 (by omega)
      rw [l5, l5, l5, z1, z2, z3, l3, l3, l3, n1, n2, n3]
      exact us1
    · rw [l5, l5, l5, n4, n5, n6]
      exact us2))
  have X6 : XT (V t) (min B (V t)) (sf (mvT V B D (S 0) t a b c d) t) (sb (mvT V B D (S 0) t a b c d) t) (sg (mvT V B D (S 0) t a b c d) t) (sd (mvT V B D (S 0) t a b c d) t) (9 + 9 * t) μ6 := c6.1.2.2.2.2.1 t ht
  refine ⟨μ6, ?_, ((((f1.tr f2).tr f3).tr f4).tr f5).tr f6, hσ2, c6⟩
  unfold F_X10_move_46
  rw [gq_in (by omega) (by omega), sp_eq (by omega), bd_eq (alike_eq (h.1.2.2.2.2.1 t ht) (ha.le hV.2) (hb.le hV.2)), if_pos (l_le (m := 1) h1 (by have := cell_le (sf (S 0) t) (ha.le hV.2) (hb.le hV.2); omega)), bd_eq e1, zm1, bd_eq e2, bd_eq e3, zp1, bd_eq e4, bd_eq e5]
  rw [show zI 1 = 1 from rfl, bd_eq e6, bd_eq (alike_eq X6 (hc.le hV.2) (hd.le hV.2)), f2e, hcd]
theorem doBuild_ok {t c : Nat} (h : clX T V B D m S μ) (hw : wfP T V B D m S) (hn : sn (S 0) < 100000) (ht : t < T) (hc : c < 2) : ∃ μ', G_X10_doBuild (nI t) (nI c) μ = some ((), μ') ∧ Fr acQ μ μ' ∧ clX T V B D (min (m + 1) 40) (psh S (stL (blT V B (S 0) t c) (lge 3 (nI t) (nI c)))) μ' := by
  have hC := hw.1
  have hT := hC.1
  have hV := hC.2.2 t ht
  have hB := hC.2.1 (by omega)
  have hσ := hw.2.2.2 0 (Nat.zero_le _)
  obtain ⟨q, μ1, e1, f1, m1, p1, l1⟩ := mid_open h hw (by omega) (Or.inr ⟨t, ht, rfl⟩)
  have hXt := m1.2.2.2.2.2.1 t ht
  have cl : CL (V t) (cn (sf (S 0) t) c) (12 + 9 * t + 3 * c) μ1 := by
    have := (hXt.2.2.2 c hc).1
    rw [show 9 + 9 * t + 3 + 3 * c = 12 + 9 * t + 3 * c by omega] at this
    exact ⟨this.1, fun k hk => this.2.2 k (by omega)⟩
  obtain ⟨μ2, e2, f2, x2⟩ := layAnew_ok (B := B) hV.2 (by omega) (Nat.le_trans (cn_sm (sf (S 0) t) hc (by omega)) (hσ.1 t ht).2.1) hB.1 hB.2.1 (by omega) cl
  have m2 : mid T V B D m S (nI t) q (blT V B (S 0) t c) μ2 := by
    obtain ⟨o, h2, h3, h4, h5, h6, h7⟩ := m1
    refine ⟨opn_ag o hB.2.1 (fun p j z => f2.i (by unfold LAQ LQ; omega)), (f2.i (by unfold LAQ LQ; omega)).trans h2, (f2.i (by unfold LAQ LQ; omega)).trans h3, (f2.i (by unfold LAQ LQ; omega)).trans h4, (f2.i (by unfold LAQ LQ; omega)).trans h5, fun t' ht' => ?_, XG.ag (fun p j q1 q2 => f2.i (by unfold LAQ LQ; omega)) h7⟩
    unfold blT
    by_cases et : t' = t
    · subst et
      rw [stT_f, stT_b, stT_g, stT_d]
      refine XT.of (hXt.u.ag (fun p j q1 q2 q3 q4 => f2.i (by unfold LAQ LQ; omega))) (fun c' hc' => ?_)
      by_cases ec : c' = c
      · subst ec
        rw [if_pos rfl, if_pos rfl, if_pos rfl]
        exact XS.ag x2 (fun k => by rw [show 9 + 9 * t' + 3 + 3 * c' + 2 = 12 + 9 * t' + 3 * c' + 2 by omega])
      · rw [if_neg ec, if_neg ec, if_neg ec]
        exact (hXt.s hc').ag (fun k => f2.i (by unfold LAQ LQ; omega))
    · obtain ⟨s1, s2, s3, s4⟩ := stT_o (σ := S 0) (t := t) (f := sf (S 0) t) (bd := fun c' => if c' = c then bo (cn (sf (S 0) t) c) (V t) (min B (V t)) else sb (S 0) t c') (gr := fun c' => if c' = c then gb (cn (sf (S 0) t) c) (bo (cn (sf (S 0) t) c) (V t) (min B (V t))) else sg (S 0) t c') (dr := fun c' => if c' = c then 0 else sd (S 0) t c') et
      rw [s1, s2, s3, s4]
      exact XT.ag (fun p j q1 q2 => f2.i (by unfold LAQ LQ; omega)) (h6 t' ht')
  have l2 : ∀ j, rI μ2 66 j = rI μ1 66 j := fun j => f2.i (by unfold LAQ LQ; omega)
  obtain ⟨μ3, e3, f3, c3⟩ := mid_fin (x1 := 3) (x2 := nI t) (x3 := nI c) (e := lge 3 (nI t) (nI c)) m2 hC (by omega) hw.2.2.1 hn rfl rfl rfl rfl (pr_mk (ch := 0) (hh := fun _ => sf (S 0) t) ht m2.1 (pgL_ag (l1 t ht rfl) hB.2.1 (fun j _ _ => l2 j)) rfl (fun j w hj => if_neg (show ¬ j = sn (S 0) by omega)) (fun t' ht' hne => stT_o hne) (by omega) ((l2 _).trans p1) (by
    show _ = sf (blT V B (S 0) t c) t
    unfold blT
    rw [stT_f]) rfl (fun i hi => absurd hi (by omega)))
  refine ⟨μ3, ?_, (f1.tr (f2.mono (fun p j z => by unfold LAQ LQ at z; unfold acQ; omega))).tr f3, c3⟩
  unfold G_X10_doBuild
  rw [bd_eq e1, gq_in (by omega) (by omega), gq_in (by omega) (by omega), lp_eq (by omega) hc, m1.2.2.1, bd_eq e2, bd_eq e3]
end A
