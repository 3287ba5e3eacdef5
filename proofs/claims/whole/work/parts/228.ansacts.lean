/-! answers of acts -/
section A
variable {c : Nat} {μ : Mem} {T : Nat} {V : Nat → Nat} {B D m : Nat} {S : Nat → St}
theorem rr_put {μ2 : Mem} {m' : Nat} {S' : Nat → St} (h1 : RT μ) (h2 : RK μ) (h3 : RW μ) (h6 : RI c T V B D μ) (f : Fr (fun q j => acQ q j ∨ amQ q j ∨ SCR q j) μ μ2) (w : wfP T V B D m' S') (x : clX T V B D m' S' μ2) (d : mdX T V B D m' S' μ2) (hs : sn (S' 0) ≤ 40 * (c + 1)) : RR (c + 1) μ2 := by
  obtain ⟨hb, hp⟩ := bp_join w x d hs
  exact ⟨RT.ag (fun q j e => f.i (by unfold acQ amQ SCR; omega)) h1, RK.ag (fun q j e => f.i (by unfold acQ amQ SCR; omega)) h2, RW.ag (fun q j e => f.i (by unfold acQ amQ SCR; omega)) h3, T, V, B, D, m', S', hb, hp, (RI.ag w.1.1 (fun q j e => f.i (by unfold acQ amQ SCR; omega)) h6).up (by omega)⟩
theorem x_refuse {k : Nat} (hk : k < 5) : G_X10_refuse (nI k) μ = some (-1, wI μ 64 k (rI μ 64 k + 1)) := by
  unfold G_X10_refuse
  rw [gq_in hk (by omega), gq_in hk (by omega), nx_nI (by omega), lb_e]
theorem m_refuse {k : Nat} (hk : k < 5) {x y z : Int32} : G_X11_isRefused (nI k) x y z μ = some (1, wI μ 117 k (rI μ 117 k + 1)) := by
  unfold G_X11_isRefused
  rw [if_neg (nI_m1 (by omega)), gq_in hk (by omega), gq_in hk (by omega), nx_nI (by omega), lb_e]
theorem rr_refuse (h : RR c μ) {k : Nat} (hk : k < 5) : RR (c + 1) (wI (wI μ 64 k (rI μ 64 k + 1)) 117 k (rI (wI μ 64 k (rI μ 64 k + 1)) 117 k + 1)) := by
  obtain ⟨h1, ⟨h2, d, hd, k1, k2, k3⟩, h3, T, V, B, D, m, S, h4, h5, h6⟩ := h
  have f : Fr (fun q _ => q = 64 ∨ q = 117) μ (wI (wI μ 64 k (rI μ 64 k + 1)) 117 k (rI (wI μ 64 k (rI μ 64 k + 1)) 117 k + 1)) := (Fr.rf.wI (Or.inl rfl)).wI (Or.inr rfl)
  refine ⟨RT.ag (fun q j e => f.i (by omega)) h1, ⟨fun k' hk' => ?_, d, hd, (f.i (by omega)).trans k1, (f.i (by omega)).trans k2, fun i hi => by rw [f.i (by omega), f.i (by omega)]; exact k3 i hi⟩, RW.ag (fun q j e => f.i (by omega)) h3, T, V, B, D, m, S, (RB.ag (fun q j e => f.i (by omega)) h4).up (by omega), RP.ag (fun q j e => f.i (by omega)) h5, (RI.ag h4.1.1 (fun q j e => f.i (by omega)) h6).up (by omega)⟩
  rw [rI_wI_ne (by omega)]
  by_cases e : k' = k
  · subst e
    rw [rI_wI_at, rI_wI_at, rI_wI_ne (by omega), h2 k' hk']
  · rw [rI_wI_off e, rI_wI_off e, rI_wI_ne (by omega)]
    exact h2 k' hk'
/-- refused by both -/
theorem Ans.ref {G1 : Option (Int32 × Mem)} {G2 : Mem → Option (Int32 × Mem)} (h : RR c μ) {k : Nat} (hk : k < 5) (e1 : G1 = some (-1, wI μ 64 k (rI μ 64 k + 1))) (e2 : ∀ μ', Fr (fun q _ => q < 107) μ μ' → G2 μ' = some (-1, wI μ' 117 k (rI μ' 117 k + 1))) : Ans c G1 G2 := ⟨-1, _, _, e1, e2 _ (Fr.rf.wI (by omega)), rr_refuse h hk⟩
theorem a_add (h : RR c μ) (hc : c ≤ 600) (x y z n : Int32) : Ans c (G_X10_add x y z n μ) (G_X11_add x y z n) := by
  have h0 := h
  obtain ⟨h1, h2, h3, T, V, B, D, m, S, hB, hP, h6⟩ := h0
  obtain ⟨hw, hx, hd, hn⟩ := bp_split hB hP
  have hC := hw.1
  have hT := hC.1
  have hσ := hw.2.2.2 0 (Nat.zero_le _)
  rcases row_cases hC x y z n with ⟨w, w2, hA⟩ | ⟨t, a, b, k, ht, ha, hb, rfl, rfl, rfl, k1, k2, rfl⟩
  · refine Ans.ref h (k := w) (by omega) ?_ (fun μ' f => ?_)
    · unfold G_X10_add
      rw [bd_eq (xW_no hx.1 hC hA).1, if_neg (nI_m1 (by omega)), bd_eq (x_refuse (by omega))]
    · have d' := mdX_fr hd f
      unfold G_X11_add
      rw [bd_eq (mW_no d'.1 d'.2.2.2.1 hC hA).1, bd_eq (m_refuse (by omega)), if_neg (by decide)]
  · have hr := (hσ.1 t ht).2.1
    have hV := hC.2.2 t ht
    by_cases q : rws (sf (S 0) t) + k ≤ 999
    · obtain ⟨μ1, e1, f1, c1⟩ := doChange_ok (z := (k : Int)) hx hw (by omega) ht ha hb (by omega) (by omega) (by omega) (by omega)
      rw [if_neg (show ¬ (k : Int) ≤ 0 by omega), show (k : Int).natAbs = k by omega] at c1
      obtain ⟨μ2, e2, f2, d2⟩ := addM (mdX_fr hd (acQ_lt f1)) hw ht ha hb k1 k2 q
      have rr : rws (chf (sf (S 0) t) a b k) = rws (sf (S 0) t) + k := by
        have := (chf_Chg (f := sf (S 0) t) (a := a) (b := b) (z := (k : Int)) (by omega)).rwn (ha.le hV.2) (hb.le hV.2)
        omega
      have e3 : rI μ1 (9 + 9 * t) 3 = nI (rws (sf (S 0) t) + k) := by
        have := (c1.1.2.2.2.2.1 t ht).2.1
        rw [show 7 + 2 + 9 * t = 9 + 9 * t by omega] at this
        rw [this]
        show nI (rws (sf (chT V B D (S 0) t a b k) t)) = _
        rw [chT_f, rr]
      refine ⟨_, μ1, μ2, ?_, e2, rr_put h1 h2 h3 h6 ((f1.mono (fun q j z => Or.inl z)).tr (f2.mono (fun q j z => Or.inr (Or.inl z)))) (wfP_push hw (by omega) (wfs_stL (wfs_chT hC hσ ht ha hb (by omega) (by omega)) _)) (clX_fr c1 hT f2) d2 (by show sn (S 0) + 1 ≤ _; omega)⟩
      unfold G_X10_add
      rw [bd_eq (xW_add hx.1 hC ht ha hb k1 k2 hr), if_pos q, if_pos rfl, nI_zI k, bd_eq e1, gq_in (by omega) (by omega), sp_eq (by omega), e3]
    · refine Ans.ref h (k := 3) (by omega) ?_ (fun μ' f => ?_)
      · unfold G_X10_add
        rw [bd_eq (xW_add hx.1 hC ht ha hb k1 k2 hr), if_neg q, if_neg (by decide), i3, bd_eq (x_refuse (by omega))]
      · have d' := mdX_fr hd f
        unfold G_X11_add
        rw [bd_eq (mW_add d'.1 d'.2.2.2.1 d'.2.2.2.2.1 hC ht ha hb k1 k2 hr), if_neg q, i3, bd_eq (m_refuse (by omega)), if_neg (by decide)]
theorem a_drop (h : RR c μ) (hc : c ≤ 600) (x y z n : Int32) : Ans c (G_X10_drop x y z n μ) (G_X11_drop x y z n) := by
  have h0 := h
  obtain ⟨h1, h2, h3, T, V, B, D, m, S, hB, hP, h6⟩ := h0
  obtain ⟨hw, hx, hd, hn⟩ := bp_split hB hP
  have hC := hw.1
  have hT := hC.1
  have hσ := hw.2.2.2 0 (Nat.zero_le _)
  rcases row_cases hC x y z n with ⟨w, w2, hA⟩ | ⟨t, a, b, k, ht, ha, hb, rfl, rfl, rfl, k1, k2, rfl⟩
  · refine Ans.ref h (k := w) (by omega) ?_ (fun μ' f => ?_)
    · unfold G_X10_drop
      rw [bd_eq (xW_no hx.1 hC hA).2, if_neg (nI_m1 (by omega)), bd_eq (x_refuse (by omega))]
    · have d' := mdX_fr hd f
      unfold G_X11_drop
      rw [bd_eq (mW_no d'.1 d'.2.2.2.1 hC hA).2, bd_eq (m_refuse (by omega)), if_neg (by decide)]
  · have hr := (hσ.1 t ht).2.1
    have hV := hC.2.2 t ht
    by_cases q : k ≤ sf (S 0) t a b
    · obtain ⟨μ1, e1, f1, c1⟩ := doChange_ok (z := -(k : Int)) hx hw (by omega) ht ha hb (by omega) (by omega) (by omega) (by omega)
      rw [if_pos (show -(k : Int) ≤ 0 by omega), show (-(k : Int)).natAbs = k by omega] at c1
      obtain ⟨μ2, e2, f2, d2⟩ := dropM (mdX_fr hd (acQ_lt f1)) hw ht ha hb k1 k2 q
      have rr : rws (chf (sf (S 0) t) a b (-(k : Int))) = rws (sf (S 0) t) - k := by
        have := (chf_Chg (f := sf (S 0) t) (a := a) (b := b) (z := -(k : Int)) (by omega)).rwn (ha.le hV.2) (hb.le hV.2)
        omega
      have e3 : rI μ1 (9 + 9 * t) 3 = nI (rws (sf (S 0) t) - k) := by
        have := (c1.1.2.2.2.2.1 t ht).2.1
        rw [show 7 + 2 + 9 * t = 9 + 9 * t by omega] at this
        rw [this]
        show nI (rws (sf (chT V B D (S 0) t a b (-(k : Int))) t)) = _
        rw [chT_f, rr]
      refine ⟨_, μ1, μ2, ?_, e2, rr_put h1 h2 h3 h6 ((f1.mono (fun q j z => Or.inl z)).tr (f2.mono (fun q j z => Or.inr (Or.inl z)))) (wfP_push hw (by omega) (wfs_stL (wfs_chT hC hσ ht ha hb (by omega) (by omega)) _)) (clX_fr c1 hT f2) d2 (by show sn (S 0) + 1 ≤ _; omega)⟩
      unfold G_X10_drop
      rw [bd_eq (xW_drop hx.1 hC ht ha hb k1 k2 hr), if_pos q, if_pos rfl, nI_zI k, zI_neg, bd_eq e1, gq_in (by omega) (by omega), sp_eq (by omega), e3]
    · refine Ans.ref h (k := 3) (by omega) ?_ (fun μ' f => ?_)
      · unfold G_X10_drop
        rw [bd_eq (xW_drop hx.1 hC ht ha hb k1 k2 hr), if_neg q, if_neg (by decide), i3, bd_eq (x_refuse (by omega))]
      · have d' := mdX_fr hd f
        unfold G_X11_drop
        rw [bd_eq (mW_drop d'.1 d'.2.2.2.1 d'.2.2.2.2.1 hC ht ha hb k1 k2 hr), if_neg q, i3, bd_eq (m_refuse (by omega)), if_neg (by decide)]
theorem ix_inj {a b : Nat} (ha : a ≤ 16) (hb : b ≤ 16) (h : ix a = ix b) : a = b := by
  by_cases e1 : a = 16
  · by_cases e2 : b = 16
    · omega
    · subst e1; exact absurd h.symm (ix_ne (by omega))
  · by_cases e2 : b = 16
    · subst e2; exact absurd h (ix_ne (by omega))
    · rw [ix_n e1, ix_n e2] at h
      exact nI_inj (by omega) (by omega) h
theorem moveM {t a b u v : Nat} (h : mdX T V B D m S μ) (hw : wfP T V B D m S) (ht : t < T) (ha : okv (V t) a) (hb : okv (V t) b) (hu : okv (V t) u) (hv : okv (V t) v) (hne : ¬ (a = u ∧ b = v)) (h1 : 1 ≤ sf (S 0) t a b) : ∃ μ', F_X11_move_74 (nI t) (ix a) (ix b) (ix u) (ix v) (-1) μ = some (nI (sf (S 0) t u v + 1), μ') ∧ Fr amQ μ μ' ∧ mdX T V B D (min (m + 1) 40) (psh S (stL (mvT V B D (S 0) t a b u v) (lge 2 (nI t) 1))) μ' := by
  have hC := hw.1
  have hT := hC.1
  have hV := hC.2.2 t ht
  have hσ := hw.2.2.2 0 (Nat.zero_le _)
  have hr := (hσ.1 t ht).2.1
  have h0 : 0 ≤ (sf (S 0) t a b : Int) + -1 := by omega
  have ch := chf_Chg h0
  have rw1 := ch.rwn (ha.le hV.2) (hb.le hV.2)
  obtain ⟨μ1, e1, f1, m1⟩ := isRef_ok (x := 2) (y := nI t) (z := 1) h hw (by omega)
  have hσ0 : WFS T V B D (stL (S 0) (lge 2 (nI t) 1)) := wfs_stL hσ _
  obtain ⟨μ2, e2, f2, m2⟩ := mmd_change (z := -1) m1 hC hσ0 ht ha hb h0 (by show (rws (sf (S 0) t) : Int) + -1 ≤ 999; omega) (by omega) (by omega)
  have hσ1 : WFS T V B D (chT V B D (stL (S 0) (lge 2 (nI t) 1)) t a b (-1)) := wfs_chT hC hσ0 ht ha hb h0 (by show (rws (sf (S 0) t) : Int) + -1 ≤ 999; omega)
  obtain ⟨μ3, e3, f3, m3⟩ := mmd_change (t := t) (a := u) (b := v) (z := 1) m2 hC hσ1 ht hu hv (by omega) (by rw [chT_f]; show (rws (chf (sf (S 0) t) a b (-1)) : Int) + 1 ≤ 999; omega) (by omega) (by omega)
  have m4 := mmd_fin m3
  have hcd : chf (chf (sf (S 0) t) a b (-1)) u v 1 u v = sf (S 0) t u v + 1 := by
    have c0 : chf (sf (S 0) t) a b (-1) u v = sf (S 0) t u v := if_neg (fun z => hne ⟨z.1.symm, z.2.symm⟩)
    have := (chf_Chg (f := chf (sf (S 0) t) a b (-1)) (a := u) (b := v) (z := 1) (by omega)).2
    omega
  have u16 := hu.le hV.2
  have v16 := hv.le hV.2
  have e4 : rI μ3 116 (357 * t + (17 * u + v)) = nI (sf (S 0) t u v + 1) := by
    have := (m3.2.2.2.2.1.1 t ht).1 u v u16 v16
    rw [chT_f, chT_f] at this
    rw [show nI (sf (S 0) t u v + 1) = nI (chf (chf (sf (S 0) t) a b (-1)) u v 1 u v) from by rw [hcd]]
    exact this
  refine ⟨μ3, ?_, (f1.tr f2).tr f3, m4⟩
  unfold F_X11_move_74
  rw [bd_eq e1, if_pos rfl, zm1, bd_eq e2, zp1, bd_eq e3, bd_eq (place_ix (by omega) u16 v16), gq_in (by omega) (by omega), nx_nI (by omega), e4]
theorem a_move (h : RR c μ) (hc : c ≤ 600) (x y z p q : Int32) : Ans c (G_X10_move x y z p q μ) (G_X11_move x y z p q) := by
  have h0 := h
  obtain ⟨h1, h2, h3, T, V, B, D, m, S, hB, hP, h6⟩ := h0
  obtain ⟨hw, hx, hd, hn⟩ := bp_split hB hP
  have hC := hw.1
  have hT := hC.1
  have hσ := hw.2.2.2 0 (Nat.zero_le _)
  have r0 : ∀ {x y z p q : Int32} (μ' : Mem), F_X11_move_74 x y z p q 0 μ' = some (-1, wI μ' 117 0 (rI μ' 117 0 + 1)) := fun μ' => by
    unfold F_X11_move_74
    rw [show G_X11_isRefused 0 _ _ _ μ' = some (1, wI μ' 117 0 (rI μ' 117 0 + 1)) from m_refuse (k := 0) (by omega), bd_s, if_neg (by decide)]
  rcases cell_cases hT (fun t ht => (hC.2.2 t ht).2) x y z with hno | ⟨t, a, b, ht, ha, hb, a16, b16, rfl, rfl, rfl⟩
  · refine Ans.ref h (k := 0) (by omega) ?_ (fun μ' f => ?_)
    · unfold G_X10_move F_X10_move_22
      rw [bd_eq (xC_no hx.1 hC hno), if_pos rfl, show G_X10_refuse 0 μ = _ from x_refuse (k := 0) (by omega), bd_s]
    · have d' := mdX_fr hd f
      unfold G_X11_move F_X11_move_26 F_X11_move_27
      rw [bd_eq (mA_no d'.1 d'.2.2.2.1 hC hno), if_pos rfl, if_pos rfl, r0]
  · rcases cell_cases hT (fun t ht => (hC.2.2 t ht).2) (nI t) p q with hno | ⟨t', u, v, ht', hu, hv, u16, v16, et, rfl, rfl⟩
    · refine Ans.ref h (k := 0) (by omega) ?_ (fun μ' f => ?_)
      · unfold G_X10_move F_X10_move_22
        rw [bd_eq (xC_yes hx.1 hC ht ha hb), if_neg (by decide), bd_eq (xC_no hx.1 hC hno), if_pos rfl, show G_X10_refuse 0 μ = _ from x_refuse (k := 0) (by omega), bd_s]
      · have d' := mdX_fr hd f
        unfold G_X11_move F_X11_move_26
        rw [bd_eq (mA_yes d'.1 d'.2.2.2.1 hC ht ha hb), if_neg (by decide), bd_eq (mA_no d'.1 d'.2.2.2.1 hC hno), if_pos rfl]
        unfold F_X11_move_27
        rw [if_pos rfl, r0]
    · have e : t = t' := nI_inj (by omega) (by omega) et
      subst e
      have hr := (hσ.1 t ht).2.1
      have hl := cell_le (sf (S 0) t) a16 b16
      have xe : ∀ {r}, (if ix a = ix u then if ix b = ix v then r else F_X10_move_46 (nI t) (ix a) (ix b) (ix u) (ix v) μ else F_X10_move_46 (nI t) (ix a) (ix b) (ix u) (ix v) μ) = if a = u ∧ b = v then r else F_X10_move_46 (nI t) (ix a) (ix b) (ix u) (ix v) μ := fun {r} => by
        by_cases q1 : a = u
        · subst q1
          rw [if_pos rfl]
          by_cases q2 : b = v
          · subst q2; rw [if_pos rfl, if_pos ⟨rfl, rfl⟩]
          · rw [if_neg (fun z => q2 (ix_inj b16 v16 z)), if_neg (fun z => q2 z.2)]
        · rw [if_neg (fun z => q1 (ix_inj a16 u16 z)), if_neg (fun z => q1 z.1)]
      have me : ∀ {r} (μ' : Mem), (if ix a = ix u then if ix b = ix v then r else F_X11_move_55 (nI t) (ix a) (ix b) (ix u) (ix v) μ' else F_X11_move_55 (nI t) (ix a) (ix b) (ix u) (ix v) μ') = if a = u ∧ b = v then r else F_X11_move_55 (nI t) (ix a) (ix b) (ix u) (ix v) μ' := fun {r} μ' => by
        by_cases q1 : a = u
        · subst q1
          rw [if_pos rfl]
          by_cases q2 : b = v
          · subst q2; rw [if_pos rfl, if_pos ⟨rfl, rfl⟩]
          · rw [if_neg (fun z => q2 (ix_inj b16 v16 z)), if_neg (fun z => q2 z.2)]
        · rw [if_neg (fun z => q1 (ix_inj a16 u16 z)), if_neg (fun z => q1 z.1)]
      by_cases same : a = u ∧ b = v
      · refine Ans.ref h (k := 2) (by omega) ?_ (fun μ' f => ?_)
        · unfold G_X10_move
          rw [bd_eq (xC_yes hx.1 hC ht ha hb), if_neg (by decide), bd_eq (xC_yes hx.1 hC ht hu hv), if_neg (by decide), xe, if_pos same, show G_X10_refuse 2 μ = _ from x_refuse (k := 2) (by omega), bd_s]
        · have d' := mdX_fr hd f
          unfold G_X11_move F_X11_move_27
          rw [bd_eq (mA_yes d'.1 d'.2.2.2.1 hC ht ha hb), if_neg (by decide), bd_eq (mA_yes d'.1 d'.2.2.2.1 hC ht hu hv), if_neg (by decide), if_neg (by decide), me, if_pos same]
          unfold F_X11_move_74
          rw [show G_X11_isRefused 2 _ _ _ μ' = some (1, wI μ' 117 2 (rI μ' 117 2 + 1)) from m_refuse (k := 2) (by omega), bd_s, if_neg (by decide)]
      · have mr : ∀ μ', mdX T V B D m S μ' → F_X11_move_55 (nI t) (ix a) (ix b) (ix u) (ix v) μ' = if sf (S 0) t a b = 0 then F_X11_move_74 (nI t) (ix a) (ix b) (ix u) (ix v) 3 μ' else F_X11_move_74 (nI t) (ix a) (ix b) (ix u) (ix v) (-1) μ' := fun μ' d' => by
          have e : rI μ' 116 (357 * t + (17 * a + b)) = nI (sf (S 0) t a b) := (d'.2.2.2.2.1.1 t ht).1 a b a16 b16
          unfold F_X11_move_55
          rw [bd_eq (place_ix (by omega) a16 b16), gq_in (by omega) (by omega), nx_nI (by omega), e]
          by_cases q0 : sf (S 0) t a b = 0
          · rw [if_pos q0, if_pos (by rw [q0]; rfl)]
          · rw [if_neg q0, if_neg (nI_ne0 (by omega) (by omega))]
        by_cases q0 : sf (S 0) t a b = 0
        · refine Ans.ref h (k := 3) (by omega) ?_ (fun μ' f => ?_)
          · unfold G_X10_move
            rw [bd_eq (xC_yes hx.1 hC ht ha hb), if_neg (by decide), bd_eq (xC_yes hx.1 hC ht hu hv), if_neg (by decide), xe, if_neg same]
            unfold F_X10_move_46
            rw [gq_in (by omega) (by omega), sp_eq (by omega), bd_eq (alike_eq (hB.sheet ht) a16 b16), q0, if_neg (by decide), show G_X10_refuse 3 μ = _ from x_refuse (k := 3) (by omega), bd_s]
          · have d' := mdX_fr hd f
            unfold G_X11_move F_X11_move_27
            rw [bd_eq (mA_yes d'.1 d'.2.2.2.1 hC ht ha hb), if_neg (by decide), bd_eq (mA_yes d'.1 d'.2.2.2.1 hC ht hu hv), if_neg (by decide), if_neg (by decide), me, if_neg same, mr μ' d', if_pos q0]
            unfold F_X11_move_74
            rw [show G_X11_isRefused 3 _ _ _ μ' = some (1, wI μ' 117 3 (rI μ' 117 3 + 1)) from m_refuse (k := 3) (by omega), bd_s, if_neg (by decide)]
        · obtain ⟨μ1, e1, f1, w1, c1⟩ := move_ok hx hw (by omega) ht ha hb hu hv same (by omega)
          have d' := mdX_fr hd (acQ_lt f1)
          obtain ⟨μ2, e2, f2, d2⟩ := moveM d' hw ht ha hb hu hv same (by omega)
          refine ⟨nI (sf (S 0) t u v + 1), μ1, μ2, ?_, ?_, rr_put h1 h2 h3 h6 ((f1.mono (fun q j z => Or.inl z)).tr (f2.mono (fun q j z => Or.inr (Or.inl z)))) (wfP_push hw (by omega) (wfs_stL w1 _)) (clX_fr c1 hT f2) d2 (by show sn (S 0) + 1 ≤ _; omega)⟩
          · unfold G_X10_move
            rw [bd_eq (xC_yes hx.1 hC ht ha hb), if_neg (by decide), bd_eq (xC_yes hx.1 hC ht hu hv), if_neg (by decide), xe, if_neg same, e1]
          · unfold G_X11_move F_X11_move_27
            rw [bd_eq (mA_yes d'.1 d'.2.2.2.1 hC ht ha hb), if_neg (by decide), bd_eq (mA_yes d'.1 d'.2.2.2.1 hC ht hu hv), if_neg (by decide), if_neg (by decide), me, if_neg same, mr μ1 d', if_neg q0, e2]
theorem a_build (h : RR c μ) (hc : c ≤ 600) (x y : Int32) : Ans c (G_X10_build x y μ) (G_X11_build x y) := by
  have h0 := h
  obtain ⟨h1, h2, h3, T, V, B, D, m, S, hB, hP, h6⟩ := h0
  obtain ⟨hw, hx, hd, hn⟩ := bp_split hB hP
  have hC := hw.1
  have hT := hC.1
  have hσ := hw.2.2.2 0 (Nat.zero_le _)
  rcases col_cases hT x y with hno | ⟨t, k, ht, hk, rfl, rfl⟩
  · refine Ans.ref h (k := 0) (by omega) ?_ (fun μ' f => ?_)
    · unfold G_X10_build G_X10_whyNoBuild
      rw [bd_eq (xCol_no hx.1.1 hT hno), if_pos rfl, bd_s, if_neg (by decide), show G_X10_refuse 0 μ = _ from x_refuse (k := 0) (by omega), bd_s]
    · have d' := mdX_fr hd f
      unfold G_X11_build G_X11_whyBuild
      rw [bd_eq (mCol_no d'.1 hT hno), if_pos rfl, bd_s, show G_X11_isRefused 0 _ _ _ μ' = some (1, wI μ' 117 0 (rI μ' 117 0 + 1)) from m_refuse (k := 0) (by omega), bd_s, if_neg (by decide)]
  · have hBB := hC.2.1 (by omega)
    have hdr := ((hσ.1 t ht).2.2 k hk).2.2.2.2
    by_cases q0 : sd (S 0) t k = 0
    · refine Ans.ref h (k := 2) (by omega) ?_ (fun μ' f => ?_)
      · unfold G_X10_build
        rw [bd_eq (xW_build hx.1 hC ht hk (by omega)), if_pos q0, if_neg (by decide), show G_X10_refuse 2 μ = _ from x_refuse (k := 2) (by omega), bd_s]
      · have d' := mdX_fr hd f
        unfold G_X11_build
        rw [bd_eq (mW_build d'.1 d'.2.2.2.2.1 hC ht hk (by omega)), if_pos q0, show G_X11_isRefused 2 _ _ _ μ' = some (1, wI μ' 117 2 (rI μ' 117 2 + 1)) from m_refuse (k := 2) (by omega), bd_s, if_neg (by decide)]
    · obtain ⟨μ1, e1, f1, c1⟩ := doBuild_ok hx hw (by omega) ht hk
      obtain ⟨μ2, e2, f2, d2⟩ := buildM (mdX_fr hd (acQ_lt f1)) hw ht hk q0
      have e3 : rI μ1 (12 + 9 * t + 3 * k + 2) 0 = nI (min B (V t)) := by
        have := ((c1.1.2.2.2.2.1 t ht).s hk).1
        rw [show 7 + 2 + 9 * t + 3 + 3 * k + 2 = 12 + 9 * t + 3 * k + 2 by omega] at this
        exact this
      refine ⟨_, μ1, μ2, ?_, e2, rr_put h1 h2 h3 h6 ((f1.mono (fun q j z => Or.inl z)).tr (f2.mono (fun q j z => Or.inr (Or.inl z)))) (wfP_push hw (by omega) (wfs_stL (wfs_blT hC hσ ht hk) _)) (clX_fr c1 hT f2) d2 (by show sn (S 0) + 1 ≤ _; omega)⟩
      unfold G_X10_build G_X4_size
      rw [bd_eq (xW_build hx.1 hC ht hk (by omega)), if_neg q0, if_pos rfl, bd_eq e1, gq_in (by omega) (by omega), gq_in (by omega) (by omega), lp_eq (by omega) hk, e3, bd_s]
theorem a_budget (h : RR c μ) (hc : c ≤ 600) (x : Int32) : Ans c (G_X10_budget x μ) (G_X11_budget x) := by
  have h0 := h
  obtain ⟨h1, h2, h3, T, V, B, D, m, S, hB, hP, h6⟩ := h0
  obtain ⟨hw, hx, hd, hn⟩ := bp_split hB hP
  have hC := hw.1
  have hT := hC.1
  have hσ := hw.2.2.2 0 (Nat.zero_le _)
  have mr : ∀ (k : Nat) (μ' : Mem), k < 5 → F_X11_budget_45 x (nI k) μ' = some (-1, wI μ' 117 k (rI μ' 117 k + 1)) := fun k μ' hk => by
    unfold F_X11_budget_45
    rw [bd_eq (m_refuse hk), if_neg (by decide)]
  by_cases hT0 : 0 < T
  · have xb : G_X10_hasBook μ = some (1, μ) := by have := xBook hx.1.1 hT; rw [if_pos hT0] at this; exact this
    have mb : ∀ μ', mdX T V B D m S μ' → G_X11_isBook μ' = some (1, μ') := fun μ' d => by have := mBook d.1 hT; rw [if_pos hT0] at this; exact this
    have u := hσ.2 hT0
    have x5 : rI μ 7 5 = nI (su (S 0)) := hx.1.2.2.2.1 hT0
    have m5 : ∀ μ', mdX T V B D m S μ' → rI μ' 116 1071 = nI (su (S 0)) := fun μ' d => d.2.2.2.2.1.2.1 hT0
    rcases num_cases x (n := 999) (by omega) with hno | ⟨n, n1, n2, rfl⟩
    · refine Ans.ref h (k := 1) (by omega) ?_ (fun μ' f => ?_)
      · unfold G_X10_budget F_X10_budget_25
        have r1 : G_X10_refuse 1 μ = some (-1, wI μ 64 1 (rI μ 64 1 + 1)) := x_refuse (k := 1) (by omega)
        rw [bd_eq xb, if_neg (by decide), bd_eq r1]
        rcases hno with hno | hno
        · rw [if_pos hno]
        · rw [if_neg (show ¬ x ≤ 999 from fun z => (fa_of_lt hno).2.1 z), ite_self]
      · have d' := mdX_fr hd f
        unfold G_X11_budget
        rw [bd_eq (mb μ' d'), if_neg (by decide), show (999 : Int64) = (nI 999).toInt64 from by decide, bd_eq (in1_no hno), if_pos rfl]
        exact mr 1 μ' (by omega)
    · by_cases q : n = su (S 0)
      · refine Ans.ref h (k := 2) (by omega) ?_ (fun μ' f => ?_)
        · unfold G_X10_budget
          rw [bd_eq xb, if_neg (by decide), if_neg (r_nlt (m := 1) n1 (by omega)), if_pos (r_le (m := 999) n2 (by omega)), x5, if_pos (by rw [q]), show G_X10_refuse 2 μ = _ from x_refuse (k := 2) (by omega), bd_s]
        · have d' := mdX_fr hd f
          unfold G_X11_budget
          rw [bd_eq (mb μ' d'), if_neg (by decide), show (999 : Int64) = (nI 999).toInt64 from by decide, bd_eq (in1_yes (by omega) n1 n2), if_neg (by decide), m5 μ' d', if_pos (by rw [q])]
          exact mr 2 μ' (by omega)
      · obtain ⟨μa, μ1, ea, e1, f1, c1⟩ := budgetX_ok (n := n) hx hw hT0 (by omega)
        have d' := mdX_fr hd (acQ_lt f1)
        obtain ⟨μ2, e2, f2, m2⟩ := isRef_ok (x := 4) (y := -1) (z := nI n) d' hw hT0
        obtain ⟨f3, m3⟩ := mmd_budget (n := n) m2 hC hT0
        refine ⟨nI (su (S 0)), μ1, wI μ2 116 1071 (nI n), ?_, ?_, rr_put h1 h2 h3 h6 ((f1.mono (fun q j z => Or.inl z)).tr ((f2.tr f3).mono (fun q j z => Or.inr (Or.inl z)))) (wfP_push hw hT0 (wfs_stL (wfs_stU hσ n1 n2) _)) (clX_fr c1 hT (f2.tr f3)) (mmd_fin m3) (by show sn (S 0) + 1 ≤ _; omega)⟩
        · unfold G_X10_budget
          rw [bd_eq xb, if_neg (by decide), if_neg (r_nlt (m := 1) n1 (by omega)), if_pos (r_le (m := 999) n2 (by omega)), x5, if_neg (fun z => q (nI_inj (by omega) (by omega) z)), lb_e, bd_eq ea, lb_e, bd_eq e1]
        · have m6 : rI μ2 116 1071 = nI (su (S 0)) := m2.2.2.2.2.1.2.1 hT0
          unfold G_X11_budget F_X11_budget_45
          rw [bd_eq (mb μ1 d'), if_neg (by decide), show (999 : Int64) = (nI 999).toInt64 from by decide, bd_eq (in1_yes (by omega) n1 n2), if_neg (by decide), m5 μ1 d', if_neg (fun z => q (nI_inj (by omega) (by omega) z).symm), bd_eq e2, if_pos rfl, lb_e, lb_e, m6]
  · have xb : G_X10_hasBook μ = some (0, μ) := by have := xBook hx.1.1 hT; rw [if_neg hT0] at this; exact this
    refine Ans.ref h (k := 0) (by omega) ?_ (fun μ' f => ?_)
    · unfold G_X10_budget
      rw [bd_eq xb, if_pos rfl, show G_X10_refuse 0 μ = _ from x_refuse (k := 0) (by omega), bd_s]
    · have d' := mdX_fr hd f
      have mb : G_X11_isBook μ' = some (0, μ') := by have := mBook d'.1 hT; rw [if_neg hT0] at this; exact this
      unfold G_X11_budget
      rw [bd_eq mb, if_pos rfl]
      exact mr 0 μ' (by omega)
theorem a_undo (h : RR c μ) (hc : c ≤ 600) : Ans c (G_X10_undo μ) G_X11_undo := by
  have h0 := h
  obtain ⟨h1, h2, h3, T, V, B, D, m, S, hB, hP, h6⟩ := h0
  obtain ⟨hw, hx, hd, hn⟩ := bp_split hB hP
  have hC := hw.1
  have hT := hC.1
  by_cases e : m = 0
  · refine Ans.p (r := -1) h ?_ ?_
    · unfold G_X10_undo; rw [hx.2.1, if_pos (by rw [e]; rfl)]
    · unfold G_X11_undo; rw [hd.2.2.2.2.2.1, if_pos (by rw [e]; rfl)]
  · have m40 := hw.2.2.1
    have sn1 : sn (S 1) ≤ sn (S 0) := by
      obtain ⟨-, -, q, -, -, hp⟩ := hx
      have : sn (S 0) = sn (S 1) + 1 := (hp 0 (by omega)).2.1
      omega
    obtain ⟨μ1, e1, f1, c1⟩ := undoX_ok hx hw (by omega) (by omega)
    obtain ⟨μ2, e2, f2, d2⟩ := undoM_ok (mdX_fr hd (acQ_lt f1)) hw (by omega)
    refine ⟨nI (m - 1), μ1, μ2, ?_, e2, rr_put h1 h2 h3 h6 ((f1.mono (fun q j z => Or.inl z)).tr (f2.mono (fun q j z => Or.inr (Or.inl z)))) ⟨hC, fun z => ?_, by omega, fun j hj => hw.2.2.2 (j + 1) (by omega)⟩ (clX_fr c1 hT f2) d2 (by show sn (S 1) ≤ _; omega)⟩
    · unfold G_X10_undo
      rw [hx.2.1, if_neg (nI_ne0 (by omega) (by omega)), bd_eq e1, c1.2.1]
    · have := (hw.2.1 z).1; omega
end A
