/-! what an act does: the class's tables -/
def XU (v : Nat) (f : Nat → Nat → Nat) (s : Nat) (μ : Mem) : Prop := rI μ s 2 = nI v ∧ rI μ s 3 = nI (rws f) ∧ (∀ a b, a ≤ 16 → b ≤ 16 → rI μ (s + 1) (17 * xk a + xk b) = nI (f a b)) ∧ ∀ c, c < 2 → XC v (cn f c) (s + 3 + 3 * c) μ
theorem XT.u {v K : Nat} {f : Nat → Nat → Nat} {bd gr : Nat → Nat → Nat} {dr : Nat → Nat} {s : Nat} {μ : Mem} (h : XT v K f bd gr dr s μ) : XU v f s μ := ⟨h.1, h.2.1, h.2.2.1, fun c hc => (h.2.2.2 c hc).1⟩
theorem XT.s {v K : Nat} {f : Nat → Nat → Nat} {bd gr : Nat → Nat → Nat} {dr : Nat → Nat} {s : Nat} {μ : Mem} (h : XT v K f bd gr dr s μ) {c : Nat} (hc : c < 2) : XS K (cn f c) (bd c) (gr c) (dr c) (fun k => rI μ (s + 3 + 3 * c + 2) k) := (h.2.2.2 c hc).2
theorem XT.of {v K : Nat} {f : Nat → Nat → Nat} {bd gr : Nat → Nat → Nat} {dr : Nat → Nat} {s : Nat} {μ : Mem} (h : XU v f s μ) (h2 : ∀ c, c < 2 → XS K (cn f c) (bd c) (gr c) (dr c) (fun k => rI μ (s + 3 + 3 * c + 2) k)) : XT v K f bd gr dr s μ := ⟨h.1, h.2.1, h.2.2.1, fun c hc => ⟨h.2.2.2 c hc, h2 c hc⟩⟩
theorem XC.ag {v : Nat} {g : Nat → Nat} {p : Nat} {μ μ' : Mem} (h : XC v g p μ) (e : ∀ q j, (q = p ∧ (j = 2 ∨ j = 3)) ∨ q = p + 1 → rI μ' q j = rI μ q j) : XC v g p μ' := ⟨(e _ _ (by omega)).trans h.1, (e _ _ (by omega)).trans h.2.1, fun k hk => (e _ _ (by omega)).trans (h.2.2 k hk)⟩
theorem XU.ag {v : Nat} {f : Nat → Nat → Nat} {s : Nat} {μ μ' : Mem} (h : XU v f s μ) (e : ∀ q j, s ≤ q → q ≤ s + 8 → q ≠ s + 5 → q ≠ s + 8 → rI μ' q j = rI μ q j) : XU v f s μ' := ⟨(e _ _ (by omega) (by omega) (by omega) (by omega)).trans h.1, (e _ _ (by omega) (by omega) (by omega) (by omega)).trans h.2.1, fun a b ha hb => (e _ _ (by omega) (by omega) (by omega) (by omega)).trans (h.2.2.1 a b ha hb), fun c hc => (h.2.2.2 c hc).ag (fun q j hq => e q j (by omega) (by omega) (by omega) (by omega))⟩
theorem XS.ag {K : Nat} {g bd gr : Nat → Nat} {dr : Nat} {q q' : Nat → Int32} (h : XS K g bd gr dr q) (e : ∀ k, q' k = q k) : XS K g bd gr dr q' := by rw [show q' = q from funext e]; exact h
theorem ix_n {w : Nat} (h : w ≠ 16) : ix w = nI w := if_neg h
theorem ix_16 : ix 16 = -1 := rfl
theorem ix_ne {w : Nat} (h : w < 16) : ¬ ix w = -1 := by rw [ix_n (by omega)]; exact nI_m1 (by omega)
section C
variable {v K D : Nat} {g g' bd gr : Nat → Nat} {dr p w : Nat} {z : Int} {μ : Mem}
theorem cc_ok (h : XC v g p μ) (hw : w ≤ 16) (hg : ∀ x, (g' x : Int) = g x + if x = w then z else 0) : ∃ μ', G_X4_changeCount p (ix w) (zI z) μ = some ((), μ') ∧ Fr (fun q j => (q = p ∧ j = 3) ∨ q = p + 1) μ μ' ∧ XC v g' p μ' := by
  unfold G_X4_changeCount
  have same : ∀ x, x ≠ w → g' x = g x := fun x q => by have := hg x; rw [if_neg q] at this; omega
  have more : (g' w : Int) = g w + z := by have := hg w; rw [if_pos rfl] at this; exact this
  by_cases e : w = 16
  · subst e
    rw [if_pos ix_16, lb_e, h.2.1, nI_Z more]
    refine ⟨_, rfl, Fr.rf.wI (Or.inl ⟨rfl, rfl⟩), ?_, rI_wI_at, fun k hk => ?_⟩
    · rw [rI_wI_off (by omega)]; exact h.1
    · rw [rI_wI_ne (by omega), same k (by omega)]; exact h.2.2 k hk
  · rw [if_neg (ix_ne (by omega)), ix_n e, gq_in (by omega) (by omega), gq_in (by omega) (by omega), lb_e, nx_nI (by omega), h.2.2 w (by omega), nI_Z more]
    refine ⟨_, rfl, Fr.rf.wI (Or.inr rfl), ?_, ?_, fun k hk => ?_⟩
    · rw [rI_wI_ne (by omega)]; exact h.1
    · rw [rI_wI_ne (by omega), same 16 (by omega)]; exact h.2.1
    · by_cases q : k = w
      · subst q; exact rI_wI_at
      · rw [rI_wI_off q, same k q]; exact h.2.2 k hk
def chQ (s q j : Nat) : Prop := (q = s ∧ j = 3) ∨ q = s + 1 ∨ (q = s + 3 ∧ j = 3) ∨ q = s + 4 ∨ (q = s + 6 ∧ j = 3) ∨ q = s + 7
theorem xk_inj {a b : Nat} (ha : a ≤ 16) (hb : b ≤ 16) (h : xk a = xk b) : a = b := by
  unfold xk at h
  split at h <;> split at h <;> omega
theorem chR_ok {f f' : Nat → Nat → Nat} {a b s : Nat} (h : XU v f s μ) (hc : Chg z a b f f') (ha : a ≤ 16) (hb : b ≤ 16) : ∃ μ', G_X7_changeRows s (ix a) (ix b) (zI z) μ = some ((), μ') ∧ Fr (chQ s) μ μ' ∧ XU v f' s μ' := by
  have x1 := xk_le ha
  have x2 := xk_le hb
  have c0 : XC v (cn f 0) (s + 3) (wI (wI μ (s + 1) (17 * xk a + xk b) (nI (f' a b))) s 3 (nI (rws f'))) := (h.2.2.2 0 (by omega)).ag (fun q j hq => by rw [rI_wI_ne (by omega), rI_wI_ne (by omega)])
  obtain ⟨μ1, e1, f1, d1⟩ := cc_ok (w := a) (z := z) (g' := cn f' 0) c0 ha (fun x => by have := hc.cnt ha hb (c := 0) (by omega) x; rw [if_pos rfl] at this; exact this)
  have c1 : XC v (cn f 1) (s + 6) μ1 := (h.2.2.2 1 (by omega)).ag (fun q j hq => by rw [f1.i (by omega), rI_wI_ne (by omega), rI_wI_ne (by omega)])
  obtain ⟨μ2, e2, f2, d2⟩ := cc_ok (w := b) (z := z) (g' := cn f' 1) c1 hb (fun x => by have := hc.cnt ha hb (c := 1) (by omega) x; rw [if_neg (show ¬ (1 : Nat) = 0 by omega)] at this; exact this)
  have fr : Fr (chQ s) μ μ2 := (((Fr.rf.wI (by unfold chQ; omega)).wI (by unfold chQ; omega)).tr (f1.mono (fun q j h => by unfold chQ; omega))).tr (f2.mono (fun q j h => by unfold chQ; omega))
  refine ⟨μ2, ?_, fr, ?_, ?_, fun x y hx hy => ?_, fun c hcc => ?_⟩
  · unfold G_X7_changeRows
    rw [bd_eq (cellOf_ix ha hb), gq_in (by omega) (by omega), gq_in (by omega) (by omega), lb_e, nx_nI (by omega), h.2.2.1 a b ha hb, nI_Z hc.2, lb_e, rI_wI_ne (by omega), h.2.1, nI_Z (hc.rwn ha hb), bd_eq e1, bd_eq e2]
  · rw [fr.i (by unfold chQ; omega)]; exact h.1
  · rw [f2.i (by omega), f1.i (by omega)]; exact rI_wI_at
  · rw [f2.i (by omega), f1.i (by omega), rI_wI_ne (by omega)]
    by_cases q : x = a ∧ y = b
    · obtain ⟨rfl, rfl⟩ := q
      exact rI_wI_at
    · have n1 := xk_le hx
      have n2 := xk_le hy
      rw [rI_wI_off (fun e => q ⟨xk_inj hx ha (by omega), xk_inj hy hb (by omega)⟩), hc.1 x y q]
      exact h.2.2.1 x y hx hy
  · rcases (show c = 0 ∨ c = 1 by omega) with rfl | rfl
    · exact d1.ag (fun q j hq => f2.i (by omega))
    · exact d2
theorem bkX (h : XS K g bd gr dr (fun k => rI μ (p + 2) k)) (hK : K ≤ 8) (hw : LW v K D g bd gr dr) (hv : v ≤ 16) {i0 : Nat} (h0 : i0 < K) (h1 : bd i0 ≤ w) (h2 : w < bd (i0 + 1)) : G_X4_bucketOf p (nI w) μ = some (nI i0, μ) := by
  unfold G_X4_bucketOf
  have e0 : rI μ (p + 2) 0 = nI K := h.1
  have w16 : w < v := by have := bd_le hw (i := i0 + 1) (by omega); omega
  have key := loop_fr (fun m i (s : Int32) => L_X4_bucketOf_4 m p (nI w) s i μ) 1 K (fun i => nI (min (i - 1) i0)) (res := some (nI i0, μ)) (fun m i q1 q2 => by
    show L_X4_bucketOf_4 (m + 1) p _ _ _ _ = _
    have e1 : rI μ (p + 2) (2 + i) = nI (bd i) := (h.2.2 i q2).1
    have bl := bd_le hw (i := i) (by omega)
    rw [L_X4_bucketOf_4]
    unfold G_X4_size G_X4_firstOf F_X4_bucketOf_23
    rw [bd_s, e0, if_neg (nI_ge q2 (by omega)), i2, nI_add, gq_in (by omega) (by omega), nx_nI (by omega), e1, bd_s, lb_e, lb_e, nI_1]
    by_cases c : i ≤ i0
    · have := bd_mono hw c (by omega)
      rw [if_neg (nI_nlt (by omega) (by omega)), show min (i + 1 - 1) i0 = i by omega]
    · have := bd_mono hw (show i0 + 1 ≤ i by omega) (by omega)
      rw [if_pos (nI_lt (by omega) (by omega)), show min (i + 1 - 1) i0 = min (i - 1) i0 by omega]) (fun m => by
    show L_X4_bucketOf_4 (m + 1) p _ _ _ _ = _
    rw [L_X4_bucketOf_4]
    unfold G_X4_size
    rw [bd_s, e0, if_pos (nI_le (Nat.le_refl _) (by omega)), show min (K - 1) i0 = i0 by omega])
  have k := key 100000 1 (by omega) (by omega) (by omega)
  rw [show min (1 - 1) i0 = 0 by omega] at k
  exact k
theorem follow_ok (h : XS K g bd gr dr (fun k => rI μ (p + 2) k)) (hK : K ≤ 8) (hw : LW v K D g bd gr dr) (hv : v ≤ 16) (hwv : w < v) (hg : ∀ x, x < 16 → (g' x : Int) = g x + if x = w then z else 0) (hs : fb_sm g v ≤ 999) (hs' : fb_sm g' v ≤ 999) (hz : -1000 < z) (hz2 : z < 1000) : ∃ μ', G_X4_follow p (nI w) (zI z) μ = some ((), μ') ∧ Fr (fun q _ => q = p + 2) μ μ' ∧ XS K g' bd (grF g' bd gr w z) (dr + z.natAbs) (fun k => rI μ' (p + 2) k) := by
  obtain ⟨i0, h0, h1, h2⟩ := bkt hw hwv
  have sg : ∀ i, i < K → (seg g' (bd i) (bd (i + 1)) : Int) = seg g (bd i) (bd (i + 1)) + if bd i ≤ w ∧ w < bd (i + 1) then z else 0 := fun i hi => seg_chg (by have := hw.2.2.1 i hi; omega) (fun x hx => hg x (by have := bd_le hw (i := i + 1) (by omega); omega))
  have s0 := sg i0 h0
  rw [if_pos ⟨h1, h2⟩] at s0
  have n1 := ss_le (g := g') (n := v) (a := bd i0) (w := bd (i0 + 1) - bd i0) (by have := hw.2.2.1 i0 h0; have := bd_le hw (i := i0 + 1) (by omega); omega)
  have n2 := hw.2.2.2.1 i0 h0
  have n3 := ss_le (g := g) (n := v) (a := bd i0) (w := bd (i0 + 1) - bd i0) (by have := hw.2.2.1 i0 h0; have := bd_le hw (i := i0 + 1) (by omega); omega)
  have n1 : seg g' (bd i0) (bd (i0 + 1)) ≤ 999 := Nat.le_trans n1 hs'
  have n3 : seg g (bd i0) (bd (i0 + 1)) ≤ 999 := Nat.le_trans n3 hs
  have r1 : rI μ (p + 2) (10 + i0) = nI (seg g (bd i0) (bd (i0 + 1))) := (h.2.2 i0 h0).2.1
  have r2 : rI μ (p + 2) (18 + i0) = nI (gr i0) := (h.2.2 i0 h0).2.2
  have r3 : rI μ (p + 2) 1 = nI dr := h.2.1
  have gr0 : grF g' bd gr w z i0 = min (gr i0 + z.toNat) (seg g' (bd i0) (bd (i0 + 1))) := if_pos ⟨h1, h2⟩
  have oth : ∀ i, i < K → i ≠ i0 → ¬ (bd i ≤ w ∧ w < bd (i + 1)) := fun i hi hne q => by
    rcases Nat.lt_or_ge i i0 with c | c
    · have := bd_mono hw (show i + 1 ≤ i0 by omega) (by omega); omega
    · have := bd_mono hw (show i0 + 1 ≤ i by omega) (by omega); omega
  refine ⟨wI (wI (wI μ (p + 2) (10 + i0) (nI (seg g' (bd i0) (bd (i0 + 1))))) (p + 2) (18 + i0) (nI (grF g' bd gr w z i0))) (p + 2) 1 (nI (dr + z.natAbs)), ?_, Fr.wI (S := fun q _ => q = p + 2) (Fr.wI (S := fun q _ => q = p + 2) (Fr.wI (S := fun q _ => q = p + 2) Fr.rf rfl) rfl) rfl, ?_, rI_wI_at, fun i hi => ?_⟩
  · unfold G_X4_follow G_X4_totalOf G_X4_greatestOf
    rw [bd_eq (bkX h hK hw hv h0 h1 h2), show (10 : Int32) = nI 10 from rfl, nI_add, gq_in (by omega) (by omega), nx_nI (by omega), r1, bd_s, nI_Z s0, lb_e, show (18 : Int32) = nI 18 from rfl, nI_add, gq_in (by omega) (by omega), nx_nI (by omega), r2, bd_s, (zI_max (by omega) (by omega)).1, nI_add, lb_e, gq_in (by omega) (by omega), lb_e, gq_in (by omega) (by omega), lb_e, imin_nI (by omega) (by omega), ← gr0, lb_e, rI_wI_off (by omega), rI_wI_off (by omega), r3, (zI_abs (by omega) (by omega)).1, nI_add]
  · show rI (wI (wI (wI μ _ _ _) _ _ _) _ _ _) (p + 2) 0 = _
    rw [rI_wI_off (by omega), rI_wI_off (by omega), rI_wI_off (by omega)]; exact h.1
  · show rI (wI (wI (wI μ _ _ _) _ _ _) _ _ _) (p + 2) _ = _ ∧ rI (wI (wI (wI μ _ _ _) _ _ _) _ _ _) (p + 2) _ = _ ∧ rI (wI (wI (wI μ _ _ _) _ _ _) _ _ _) (p + 2) _ = _
    obtain ⟨t1, t2, t3⟩ := h.2.2 i hi
    refine ⟨?_, ?_, ?_⟩
    · rw [rI_wI_off (by omega), rI_wI_off (by omega), rI_wI_off (by omega)]; exact t1
    · rw [rI_wI_off (by omega), rI_wI_off (by omega)]
      by_cases q : i = i0
      · subst q; exact rI_wI_at
      · have s := sg i hi
        rw [if_neg (oth i hi q)] at s
        rw [rI_wI_off (by omega), show seg g' (bd i) (bd (i + 1)) = seg g (bd i) (bd (i + 1)) by omega]
        exact t2
    · rw [rI_wI_off (by omega)]
      by_cases q : i = i0
      · subst q; exact rI_wI_at
      · rw [rI_wI_off (by omega), rI_wI_off (by omega), show grF g' bd gr w z i = gr i from if_neg (oth i hi q)]
        exact t3
theorem XS.skip (h : XS K g bd gr dr (fun k => rI μ (p + 2) k)) (hw : LW v K D g bd gr dr) (hv : v ≤ 16) (hg : ∀ x, x < 16 → g' x = g x) : XS K g' bd gr dr (fun k => rI μ (p + 2) k) := ⟨h.1, h.2.1, fun i hi => by
  obtain ⟨t1, t2, t3⟩ := h.2.2 i hi
  refine ⟨t1, ?_, t3⟩
  have e : seg g' (bd i) (bd (i + 1)) = seg g (bd i) (bd (i + 1)) := fb_sm_cong fun k hk => hg _ (by have := bd_le hw (i := i + 1) (by omega); omega)
  rw [e]; exact t2⟩
theorem colX_ok {kc : Nat → Nat → Int32 → Int32 → Int32 → Int32 → Mem → Option (Unit × Mem)} {B s : Nat} {x2 x3 x6 : Int32} (hC : XC v g' p μ) (h : XS K g bd gr dr (fun k => rI μ (p + 2) k)) (hw : LW v K D g bd gr dr) (hv : v ≤ 16) (hB1 : 1 ≤ B) (hB8 : B ≤ 8) (hv1 : 1 ≤ v) (hK : K = min B v) (hD : D ≤ 99) (hwv : okv v w) (hg : ∀ x, x < 16 → (g' x : Int) = g x + if x = w then z else 0) (hs : fb_sm g v ≤ 999) (hs' : fb_sm g' v ≤ 999) (hz : -1000 < z) (hz2 : z < 1000) (hp : 9 ≤ p) (hp2 : p + 2 < 99) (h73 : rI μ 7 3 = nI B) (h74 : rI μ 7 4 = nI D) : ∃ μ', F_X0_changeRows_36 kc 7 s x2 x3 (zI z) x6 p (ix w) μ = kc 7 s x2 x3 (zI z) (x6 + 1) μ' ∧ Fr (LAQ p) μ μ' ∧ XS K g' (cs1 v K D g' bd dr w z) (cs2 v K D g' bd gr dr w z) (cs3 D dr w z) (fun k => rI μ' (p + 2) k) := by
  unfold F_X0_changeRows_36 F_X0_changeRows_76 cs1 cs2 cs3
  by_cases e : w = 16
  · subst e
    rw [if_pos ix_16, lb_e]
    refine ⟨μ, rfl, Fr.rf, ?_⟩
    rw [if_pos rfl, if_pos rfl, if_pos rfl]
    exact h.skip hw hv (fun x hx => by have := hg x hx; rw [if_neg (by omega)] at this; omega)
  · have hwv' : w < v := hwv.resolve_left e
    obtain ⟨μ1, e1, f1, x1⟩ := follow_ok h (by omega) hw hv hwv' hg hs hs' hz hz2
    have d1 : rI μ1 (p + 2) 1 = nI (dr + z.natAbs) := x1.2.1
    have dl := hw.2.2.2.2
    rw [if_neg (ix_ne (by omega)), ix_n e, bd_eq e1]
    unfold G_X4_drift
    rw [bd_s, d1, f1.i (by omega), h74, f1.i (by omega), h73, lb_e, if_neg e, if_neg e, if_neg e]
    by_cases hq : D < dr + z.natAbs
    · rw [if_neg (nI_ge hq (by omega)), if_pos hq, if_pos hq, if_pos hq]
      have c1 : CL v g' p μ1 := ⟨(f1.i (by omega)).trans hC.1, fun k hk => (f1.i (by omega)).trans (hC.2.2 k (by omega))⟩
      obtain ⟨μ2, e2, f2, x2'⟩ := layAnew_ok (B := B) hv hv1 hs' hB1 hB8 (by omega) c1
      rw [bd_eq e2, lb_e]
      refine ⟨μ2, rfl, (f1.mono (fun q j h => Or.inr h)).tr f2, ?_⟩
      rw [hK]
      exact x2'
    · rw [if_pos (nI_le (by omega) (by omega)), if_neg hq, if_neg hq, if_neg hq]
      exact ⟨μ1, rfl, f1.mono (fun q j h => Or.inr h), x1⟩
end C
theorem changeX {v B D t a b : Nat} {z : Int} {f : Nat → Nat → Nat} {bd gr : Nat → Nat → Nat} {dr : Nat → Nat} {μ : Mem} (h : XT v (min B v) f bd gr dr (9 + 9 * t) μ) (hs : SW v (min B v) D f bd gr dr) (ht : t < 3) (ha : okv v a) (hb : okv v b) (h0 : 0 ≤ (f a b : Int) + z) (hr : (rws f : Int) + z ≤ 999) (hv : v ≤ 16) (hv1 : 1 ≤ v) (hB1 : 1 ≤ B) (hB8 : B ≤ 8) (hD : D ≤ 99) (hz : -1000 < z) (hz2 : z < 1000) (h73 : rI μ 7 3 = nI B) (h74 : rI μ 7 4 = nI D) : ∃ μ', G_X0_changeRows 7 (9 + 9 * t) (ix a) (ix b) (zI z) μ = some ((), μ') ∧ Fr (fun q j => (9 + 9 * t ≤ q ∧ q ≤ 17 + 9 * t) ∨ LQ q j) μ μ' ∧ XT v (min B v) (chf f a b z) (tb1 v (min B v) D (chf f a b z) bd dr a b z) (tb2 v (min B v) D (chf f a b z) bd gr dr a b z) (tb3 D dr a b z) (9 + 9 * t) μ' := by
  have a16 := ha.le hv
  have b16 := hb.le hv
  have ch := chf_Chg h0
  have hrw := ch.rwn a16 b16
  obtain ⟨μ1, e1, f1, u1⟩ := chR_ok h.u ch a16 b16
  have s0 : XS (min B v) (cn f 0) (bd 0) (gr 0) (dr 0) (fun k => rI μ1 (12 + 9 * t + 2) k) := (h.s (c := 0) (by omega)).ag (fun k => by
    rw [f1.i (by unfold chQ; omega), show 12 + 9 * t + 2 = 9 + 9 * t + 3 + 3 * 0 + 2 by omega])
  have c0 : XC v (cn (chf f a b z) 0) (12 + 9 * t) μ1 := by
    have := u1.2.2.2 0 (by omega)
    rw [show 9 + 9 * t + 3 + 3 * 0 = 12 + 9 * t by omega] at this
    exact this
  obtain ⟨μ2, e2, f2, x2⟩ := colX_ok (kc := L_X0_changeRows_11 99999) (B := B) (s := 9 + 9 * t) (x2 := ix a) (x3 := ix b) (x6 := 0) (w := a) (z := z) c0 s0 (hs.2.2 0 (by omega)) hv hB1 hB8 hv1 rfl hD ha (fun x _ => by have := ch.cnt a16 b16 (c := 0) (by omega) x; rw [if_pos rfl] at this; exact this) (Nat.le_trans (cn_sm f (by omega) (by omega)) hs.2.1) (Nat.le_trans (cn_sm _ (by omega) (by omega)) (by omega)) hz hz2 (by omega) (by omega) ((f1.i (by unfold chQ; omega)).trans h73) ((f1.i (by unfold chQ; omega)).trans h74)
  have s1 : XS (min B v) (cn f 1) (bd 1) (gr 1) (dr 1) (fun k => rI μ2 (15 + 9 * t + 2) k) := (h.s (c := 1) (by omega)).ag (fun k => by
    rw [f2.i (by unfold LAQ LQ; omega), f1.i (by unfold chQ; omega), show 15 + 9 * t + 2 = 9 + 9 * t + 3 + 3 * 1 + 2 by omega])
  have u2 : XU v (chf f a b z) (9 + 9 * t) μ2 := u1.ag (fun q j q1 q2 q3 q4 => f2.i (by unfold LAQ LQ; omega))
  have c1 : XC v (cn (chf f a b z) 1) (15 + 9 * t) μ2 := by
    have := u2.2.2.2 1 (by omega)
    rw [show 9 + 9 * t + 3 + 3 * 1 = 15 + 9 * t by omega] at this
    exact this
  obtain ⟨μ3, e3, f3, x3⟩ := colX_ok (kc := L_X0_changeRows_11 99998) (B := B) (s := 9 + 9 * t) (x2 := ix a) (x3 := ix b) (x6 := 1) (w := b) (z := z) c1 s1 (hs.2.2 1 (by omega)) hv hB1 hB8 hv1 rfl hD hb (fun x _ => by have := ch.cnt a16 b16 (c := 1) (by omega) x; rw [if_neg (show ¬ (1 : Nat) = 0 by omega)] at this; exact this) (Nat.le_trans (cn_sm f (by omega) (by omega)) hs.2.1) (Nat.le_trans (cn_sm _ (by omega) (by omega)) (by omega)) hz hz2 (by omega) (by omega) ((f2.i (by unfold LAQ LQ; omega)).trans ((f1.i (by unfold chQ; omega)).trans h73)) ((f2.i (by unfold LAQ LQ; omega)).trans ((f1.i (by unfold chQ; omega)).trans h74))
  refine ⟨μ3, ?_, ((f1.mono (fun q j h => by unfold chQ at h; omega)).tr (f2.mono (fun q j h => by unfold LAQ at h; rcases h with h | h; exact Or.inr h; left; omega))).tr (f3.mono (fun q j h => by unfold LAQ at h; rcases h with h | h; exact Or.inr h; left; omega)), XT.of (u2.ag (fun q j q1 q2 q3 q4 => f3.i (by unfold LAQ LQ; omega))) (fun c hc => ?_)⟩
  · unfold G_X0_changeRows
    rw [bd_eq e1, L_X0_changeRows_11, if_neg (by decide), show inB 0 2 = true from rfl, gq_t, if_pos rfl, show lnP (9 + 9 * t + 2) 0 = 12 + 9 * t from by rw [i0, lnP_nI (by omega)]; omega, e2, L_X0_changeRows_11, show (0 : Int32) + 1 = 1 from rfl, if_neg (by decide), show inB 1 2 = true from rfl, gq_t, if_neg (by decide), show lnP (9 + 9 * t + 2) 1 = 15 + 9 * t from by rw [i1, lnP_nI (by omega)]; omega, e3, L_X0_changeRows_11, if_pos (by decide)]
  · rcases (show c = 0 ∨ c = 1 by omega) with rfl | rfl
    · refine XS.ag (q := fun k => rI μ2 (12 + 9 * t + 2) k) x2 (fun k => ?_)
      rw [f3.i (by unfold LAQ LQ; omega), show 9 + 9 * t + 3 + 3 * 0 + 2 = 12 + 9 * t + 2 by omega]
    · refine XS.ag (q := fun k => rI μ3 (15 + 9 * t + 2) k) x3 (fun k => ?_)
      rw [show 9 + 9 * t + 3 + 3 * 1 + 2 = 15 + 9 * t + 2 by omega]
