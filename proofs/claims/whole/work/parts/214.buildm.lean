/-! the model builds a column -/
theorem i3 : (3 : Int32) = nI 3 := rfl
theorem i4 : (4 : Int32) = nI 4 := rfl
def CE (f : Nat → Nat → Nat) (nb : Nat → Int32) : Prop := ∀ a b, a ≤ 16 → b ≤ 16 → nb (17 * a + b) = nI (f a b)
theorem sm_swap (f : Nat → Nat → Nat) (k : Nat) : ∀ m, fb_sm (fun v => fb_sm (fun o => f o v) k) m = fb_sm (fun o => fb_sm (fun v => f o v) m) k
  | 0 => by
    show 0 = fb_sm (fun _ => 0) k
    rw [fb_sm_const]; omega
  | m + 1 => by
    show fb_sm (fun v => fb_sm (fun o => f o v) k) m + fb_sm (fun o => f o m) k = fb_sm (fun o => fb_sm (fun v => f o v) m + f o m) k
    rw [sm_swap f k m, fb_sm_add]
theorem cn_all (f : Nat → Nat → Nat) {c : Nat} (hc : c < 2) : fb_sm (cn f c) 17 = rws f := by
  rcases (show c = 0 ∨ c = 1 by omega) with rfl | rfl
  · rfl
  · exact sm_swap f 17 17
theorem cn_sm (f : Nat → Nat → Nat) {c n : Nat} (hc : c < 2) (hn : n ≤ 17) : fb_sm (cn f c) n ≤ rws f := by
  have h := fb_sm_mono (cn f c) n (17 - n)
  rw [show n + (17 - n) = 17 by omega, cn_all f hc] at h
  exact h
theorem cn_le (f : Nat → Nat → Nat) {c a : Nat} (hc : c < 2) (ha : a ≤ 16) : cn f c a ≤ rws f := by
  have h := fb_sm_part (cn f c) (i := a) (n := 17) (by omega)
  rw [cn_all f hc] at h
  omega
theorem cell_le (f : Nat → Nat → Nat) {a b : Nat} (ha : a ≤ 16) (hb : b ≤ 16) : f a b ≤ rws f := by
  have h := cn_le f (c := 0) (a := a) (by omega) ha
  have h2 := fb_sm_part (fun o => f a o) (i := b) (n := 17) (by omega)
  have e : cn f 0 a = fb_sm (fun o => f a o) 17 := rfl
  have h2 : fb_sm (fun o => f a o) b + f a b ≤ fb_sm (fun o => f a o) 17 := h2
  omega
section CE
variable {t n : Nat} {μ : Mem} {f : Nat → Nat → Nat}
theorem CE.c (h : CE f (fun k => rI μ 116 (357 * t + k))) {i : Nat} (hi : i < 289) : rI μ 116 (357 * t + i) = nI (f (i / 17) (i % 17)) := by
  have e := h (i / 17) (i % 17) (by omega) (by omega)
  have e : rI μ 116 (357 * t + (17 * (i / 17) + i % 17)) = nI (f (i / 17) (i % 17)) := e
  rw [show 17 * (i / 17) + i % 17 = i by omega] at e
  exact e
theorem rowsOfC (h : CE f (fun k => rI μ 116 (357 * t + k))) (ht : t < 3) : G_X11_rowsOf (nI t) μ = some (nI (rws f), μ) := by
  unfold G_X11_rowsOf
  have key := loop_up (fun n i (s : Int32) => L_X11_rowsOf_4 n (nI t) s i μ) 289 (fun k => nI (fb_sm (fun i => f (i / 17) (i % 17)) k)) (res := some (nI (rws f), μ)) (fun n k hk => by
    show L_X11_rowsOf_4 (n + 1) _ _ _ _ = _
    rw [L_X11_rowsOf_4, if_neg (l_nle hk (by omega)), show (357 : Int32) * nI t + nI k = nI (357 * t + k) from by rw [show (357 : Int32) = nI 357 from rfl, pk_mul, nI_add], gq_in (by omega) (by omega), nx_nI (by omega), h.c hk, lb_e, lb_e, sm_nI (fun i => f (i / 17) (i % 17)), nI_1]) (fun n => by
    show L_X11_rowsOf_4 (n + 1) _ _ _ _ = _
    rw [L_X11_rowsOf_4, if_pos (by decide), show 289 = 17 * 17 from rfl, sm_row f 0]
    rfl)
  exact key 100000 0 (by omega) (by omega)
theorem countAtX (h : CE f (fun k => rI μ 116 (357 * t + k))) (ht : t < 3) {c a : Nat} (hc : c < 2) (ha : a ≤ 16) : G_X11_countAt (nI t) (nI c) (ix a) μ = some (nI (cn f c a), μ) := by
  unfold G_X11_countAt
  have key := loop_up (fun n i (s : Int32) => L_X11_countAt_6 n (nI t) (nI c) (ix a) s i μ) 17 (fun k => nI (fb_sm (fun o => if c = 0 then f a o else f o a) k)) (res := some (nI (cn f c a), μ)) (fun n k hk => by
    show L_X11_countAt_6 (n + 1) _ _ _ _ _ _ = _
    have e : F_X11_countAt_26 (L_X11_countAt_6 n) (nI t) (nI c) (ix a) (nI (fb_sm (fun o => if c = 0 then f a o else f o a) k)) (nI k) (ix k) μ = L_X11_countAt_6 n (nI t) (nI c) (ix a) (nI (fb_sm (fun o => if c = 0 then f a o else f o a) (k + 1))) (nI (k + 1)) μ := by
      unfold F_X11_countAt_26 F_X11_countAt_55
      rw [← sm_nI (fun o => if c = 0 then f a o else f o a)]
      by_cases h0 : c = 0
      · subst h0
        rw [if_pos rfl, bd_eq (place_ix ht ha (by omega)), gq_in (by omega) (by omega), nx_nI (by omega), lb_e, lb_e, nI_1]
        have e := h a k ha (by omega)
        have e : rI μ 116 (357 * t + (17 * a + k)) = nI (f a k) := e
        rw [e]
        rfl
      · rw [if_neg (nI_ne0 (by omega) (by omega)), bd_eq (place_ix ht (by omega) ha), gq_in (by omega) (by omega), nx_nI (by omega), lb_e, lb_e, nI_1]
        have e := h k a (by omega) ha
        have e : rI μ 116 (357 * t + (17 * k + a)) = nI (f k a) := e
        rw [e, if_neg h0]
    rw [L_X11_countAt_6, if_neg (l_nle hk (by omega))]
    by_cases h16 : k = 16
    · subst h16
      rw [if_pos (by decide)]
      exact e
    · rw [if_neg (r_ne (m := 16) h16 (by omega) (by omega))]
      have e2 : ix k = nI k := by unfold ix; rw [if_neg h16]
      rw [e2] at e
      exact e) (fun n => by
    show L_X11_countAt_6 (n + 1) _ _ _ _ _ _ = _
    rw [L_X11_countAt_6, if_pos (by decide)]
    rfl)
  exact key 100000 0 (by omega) (by omega)
theorem countAtC (h : CE f (fun k => rI μ 116 (357 * t + k))) (ht : t < 3) {c a : Nat} (hc : c < 2) (ha : a < 16) : G_X11_countAt (nI t) (nI c) (nI a) μ = some (nI (cn f c a), μ) := by
  have e := countAtX (c := c) (a := a) h ht hc (by omega)
  unfold ix at e
  rw [if_neg (by omega)] at e
  exact e
theorem layCountsC (hM : CE f (fun k => rI μ 116 (357 * t + k))) (ht : t < 3) {c : Nat} (hc : c < 2) (hn : n ≤ 16) (h113 : rI μ 113 t = nI n) : ∃ μ', G_X11_layCounts (nI t) (nI c) μ = some ((), μ') ∧ Fr qM μ μ' ∧ mKn (cn f c) n μ' := by
  unfold G_X11_layCounts
  rw [gq_in ht (by omega), nx_nI (by omega), h113, lb_e]
  refine loop_inv (fun m i (s : Mem) => L_X11_layCounts_12 m (nI t) (nI c) i s) n (fun k s => Fr qM μ s ∧ rI s 107 19 = nI n ∧ ∀ k', k' < k → rI s 118 k' = nI (cn f c k')) (P := fun o => ∃ μ', o = some ((), μ') ∧ Fr qM μ μ' ∧ mKn (cn f c) n μ') ?_ ?_ 100000 0 (wI μ 107 19 (nI n)) (by omega) (by omega) ⟨Fr.rf.wI (by unfold qM; omega), rI_wI_at, fun k' h => absurd h (by omega)⟩
  · rintro m k s hk ⟨fr, h19, hd⟩
    have hM' : CE f (fun k => rI s 116 (357 * t + k)) := by
      rw [show (fun k => rI s 116 (357 * t + k)) = (fun k => rI μ 116 (357 * t + k)) from funext fun k => fr.i (by unfold qM; omega)]
      exact hM
    refine ⟨wI s 118 k (nI (cn f c k)), ⟨fr.wI (by unfold qM; omega), ?_, fun k' h => ?_⟩, ?_⟩
    · rw [rI_wI_ne (by omega)]; exact h19
    · by_cases hq : k' = k
      · subst hq; rw [rI_wI_at]
      · rw [rI_wI_off hq]; exact hd k' (by omega)
    · show L_X11_layCounts_12 (m + 1) (nI t) (nI c) (nI k) s = _
      rw [L_X11_layCounts_12, h19, if_neg (nI_ge hk (by omega)), bd_eq (countAtC hM' ht hc (by omega)), gq_in (by omega) (by omega), nx_nI (by omega), lb_e, lb_e, nI_1]
  · rintro m s ⟨fr, h19, hd⟩
    refine ⟨s, ?_, fr, h19, hd⟩
    show L_X11_layCounts_12 (m + 1) (nI t) (nI c) (nI n) s = _
    rw [L_X11_layCounts_12, h19, if_pos (nI_le (Nat.le_refl _) (by omega))]
theorem put_eq (ht : t < 3) {c : Nat} (hc : c < 2) {i w : Nat} (hi : i < 8) (hw : w < 4) {x : Int32} : G_X11_put (nI t) (nI c) (nI i) (nI w) x μ = some ((), wI μ 116 (357 * t + (289 + 34 * c + (1 + 4 * i + w))) x) := by
  unfold G_X11_put
  rw [bd_eq (col_at ht hc), nI_1, i4, pk_mul, nI_add, nI_add, gq_in (by omega) (by omega), nx_nI (by omega), lb_e, show 357 * t + (289 + 34 * c) + 1 + 4 * i + w = 357 * t + (289 + 34 * c + (1 + 4 * i + w)) by omega]
end CE
def cQ (t c q j : Nat) : Prop := qM q j ∨ (q = 116 ∧ 357 * t + (289 + 34 * c) ≤ j ∧ j < 357 * t + (289 + 34 * c) + 34)
section BN
variable {t c n k : Nat} {μ : Mem} {g : Nat → Nat}
def put4 (μ : Mem) (a : Nat) (x0 x1 x2 x3 : Int32) : Mem := wI (wI (wI (wI μ 116 (a + 0) x0) 116 (a + 1) x1) 116 (a + 2) x2) 116 (a + 3) x3
theorem put4_off {a : Nat} {x0 x1 x2 x3 : Int32} {q j : Nat} (h : q ≠ 116 ∨ j < a ∨ a + 4 ≤ j) : rI (put4 μ a x0 x1 x2 x3) q j = rI μ q j := by
  unfold put4
  by_cases e : q = 116
  · subst e
    rw [rI_wI_off (by omega), rI_wI_off (by omega), rI_wI_off (by omega), rI_wI_off (by omega)]
  · rw [rI_wI_ne e, rI_wI_ne e, rI_wI_ne e, rI_wI_ne e]
theorem put4_in {a : Nat} {x0 x1 x2 x3 : Int32} : rI (put4 μ a x0 x1 x2 x3) 116 a = x0 ∧ rI (put4 μ a x0 x1 x2 x3) 116 (a + 1) = x1 ∧ rI (put4 μ a x0 x1 x2 x3) 116 (a + 2) = x2 ∧ rI (put4 μ a x0 x1 x2 x3) 116 (a + 3) = x3 := by
  unfold put4
  refine ⟨?_, ?_, ?_, ?_⟩
  · rw [rI_wI_off (by omega), rI_wI_off (by omega), rI_wI_off (by omega)]; exact rI_wI_at
  · rw [rI_wI_off (by omega), rI_wI_off (by omega)]; exact rI_wI_at
  · rw [rI_wI_off (by omega)]; exact rI_wI_at
  · exact rI_wI_at
theorem put4_fr {S : Nat → Nat → Prop} {μ0 : Mem} {a : Nat} {x0 x1 x2 x3 : Int32} (h : Fr S μ0 μ) (hs : ∀ j, a ≤ j → j < a + 4 → S 116 j) : Fr S μ0 (put4 μ a x0 x1 x2 x3) := (((h.wI (hs _ (by omega) (by omega))).wI (hs _ (by omega) (by omega))).wI (hs _ (by omega) (by omega))).wI (hs _ (by omega) (by omega))
theorem bn_in {kc : Int32 → Int32 → Int32 → Int32 → Mem → Option (Unit × Mem)} (h : mKn g n μ) (hO : MO g n k μ) (hn : n ≤ 16) (hg : fb_sm g n ≤ 999) (hk8 : k ≤ 8) (hkn : k ≤ n) (ht : t < 3) (hc : c < 2) {i : Nat} (hi : i < k) : L_X11_buildNow_73 kc 100000 (nI t) (nI c) (nI k) (nI i) 0 0 (nI (bo g n k i)) μ = kc (nI t) (nI c) (nI k) (nI (i + 1)) (put4 μ (357 * t + (289 + 34 * c + (1 + 4 * i))) (nI (bo g n k i)) (nI (bo g n k (i + 1) - 1)) (nI (seg g (bo g n k i) (bo g n k (i + 1)))) (nI (gb g (bo g n k) i))) := by
  have sp := bo_spec hg hn hkn i hi
  have b1 : rI μ 120 (i + 1) = nI (bo g n k (i + 1)) := hO _ (by omega)
  have b0 : rI μ 120 i = nI (bo g n k i) := hO _ (by omega)
  have ble : bo g n k (i + 1) ≤ n := by
    rcases Nat.lt_or_ge (i + 1) k with h | h
    · have := (bo_spec hg hn hkn (i + 1) h).1
      omega
    · rw [show i + 1 = k by omega, bo_end (by omega)]; exact Nat.le_refl _
  have run : ∀ m q, bo g n k i ≤ q → q ≤ bo g n k (i + 1) → bo g n k (i + 1) - q < m → L_X11_buildNow_73 kc m (nI t) (nI c) (nI k) (nI i) (nI (ss g (bo g n k i) (q - bo g n k i))) (nI (mxs g (bo g n k i) (q - bo g n k i))) (nI q) μ = kc (nI t) (nI c) (nI k) (nI (i + 1)) (put4 μ (357 * t + (289 + 34 * c + (1 + 4 * i))) (nI (bo g n k i)) (nI (bo g n k (i + 1) - 1)) (nI (seg g (bo g n k i) (bo g n k (i + 1)))) (nI (gb g (bo g n k) i))) := by
    intro m
    induction m with
    | zero => intro q _ _ h; omega
    | succ m ih =>
      intro q h1 h2 h3
      rcases Nat.lt_or_ge q (bo g n k (i + 1)) with hq | hq
      · have s1 : ss g (bo g n k i) (q + 1 - bo g n k i) = ss g (bo g n k i) (q - bo g n k i) + g q := by
          rw [show q + 1 - bo g n k i = (q - bo g n k i) + 1 by omega]
          show ss g (bo g n k i) (q - bo g n k i) + g (bo g n k i + (q - bo g n k i)) = _
          rw [show bo g n k i + (q - bo g n k i) = q by omega]
        have s2 : mxs g (bo g n k i) (q + 1 - bo g n k i) = max (mxs g (bo g n k i) (q - bo g n k i)) (g q) := by
          rw [show q + 1 - bo g n k i = (q - bo g n k i) + 1 by omega]
          show max (mxs g (bo g n k i) (q - bo g n k i)) (g (bo g n k i + (q - bo g n k i))) = _
          rw [show bo g n k i + (q - bo g n k i) = q by omega]
        have z1 := mxs_le g (bo g n k i) (q - bo g n k i)
        have z2 : ss g (bo g n k i) (q - bo g n k i) ≤ 999 := Nat.le_trans (ss_le (n := n) (by omega)) hg
        have z3 := gle hg (k := q) (by omega)
        rw [L_X11_buildNow_73, nI_1, gq_in (by omega) (by omega), nx_nI (by omega), b1, if_neg (nI_ge hq (by omega)), gq_in (by omega) (by omega), nx_nI (by omega), h.2 q (by omega), lb_e, gq_in (by omega) (by omega), lb_e, lb_e, nI_add, imax_nI (by omega) (by omega), nI_1, ← s1, ← s2]
        exact ih (q + 1) (by omega) (by omega) (by omega)
      · have e : q = bo g n k (i + 1) := by omega
        subst e
        rw [L_X11_buildNow_73, nI_1, gq_in (by omega) (by omega), nx_nI (by omega), b1, if_pos (nI_le (Nat.le_refl _) (by omega)), gq_in (by omega) (by omega), nx_nI (by omega), b0, i0, bd_eq (put_eq ht hc (by omega) (by omega)), gq_in (by omega) (by omega), rI_wI_ne (by omega), b1, nI_sub1 (by omega), show (1 : Int32) = nI 1 from rfl, bd_eq (put_eq ht hc (by omega) (by omega)), i2, bd_eq (put_eq ht hc (by omega) (by omega)), i3, bd_eq (put_eq ht hc (by omega) (by omega)), lb_e]
        rfl
  have r := run 100000 (bo g n k i) (Nat.le_refl _) (by omega) (by omega)
  rw [Nat.sub_self] at r
  exact r
theorem buildNow_ok {f : Nat → Nat → Nat} {B : Nat} (hM : CE f (fun k => rI μ 116 (357 * t + k))) (ht : t < 3) (hc : c < 2) (hn : n ≤ 16) (hn1 : 1 ≤ n) (h113 : rI μ 113 t = nI n) (h112 : rI μ 112 0 = nI B) (hB : 1 ≤ B) (hB8 : B ≤ 8) (hg : fb_sm (cn f c) n ≤ 999) : ∃ μ', G_X11_buildNow (nI t) (nI c) μ = some ((), μ') ∧ Fr (cQ t c) μ μ' ∧ MC (min B n) (cn f c) (bo (cn f c) n (min B n)) (gb (cn f c) (bo (cn f c) n (min B n))) 0 (fun k => rI μ' 116 (357 * t + (289 + 34 * c + k))) := by
  generalize hK : min B n = K
  have hK1 : 1 ≤ K := by omega
  have hK8 : K ≤ 8 := by omega
  have hKn : K ≤ n := by omega
  obtain ⟨μ1, e1, f1, k1⟩ := layCountsC hM ht hc hn h113
  obtain ⟨μ2, e2, f2, l2, o2⟩ := layBorders_ok k1 hn hg hK1 hKn
  have f2' : Fr qM μ1 μ2 := f2.mono (fun q j h => by unfold qM; omega)
  have k2 : mKn (cn f c) n μ2 := k1.ag (fun q j hq => f2.i (by omega))
  have f12 : Fr (cQ t c) μ μ2 := (f1.tr f2').mono (fun q j h => Or.inl h)
  unfold G_X11_buildNow
  rw [bd_eq e1, gq_in (by omega) (by omega), nx_nI (by omega), f1.i (by unfold qM; omega), f1.i (by unfold qM; omega), h112, h113, imin_nI (by omega) (by omega), hK, lb_e, bd_eq e2, bd_eq (col_at ht hc), gq_in (by omega) (by omega), nx_nI (by omega), lb_e, bd_eq (col_drift_at ht hc), gq_in (by omega) (by omega), nx_nI (by omega), lb_e]
  refine loop_inv (fun m i (s : Mem) => L_X11_buildNow_52 m (nI t) (nI c) (nI K) i s) K (fun i s => Fr (cQ t c) μ s ∧ mKn (cn f c) n s ∧ MO (cn f c) n K s ∧ rI s 116 (357 * t + (289 + 34 * c + 0)) = nI K ∧ rI s 116 (357 * t + (289 + 34 * c + 33)) = nI 0 ∧ ∀ i', i' < i → rI s 116 (357 * t + (289 + 34 * c + (1 + 4 * i'))) = nI (bo (cn f c) n K i') ∧ rI s 116 (357 * t + (289 + 34 * c + (1 + 4 * i' + 1))) = nI (bo (cn f c) n K (i' + 1) - 1) ∧ rI s 116 (357 * t + (289 + 34 * c + (1 + 4 * i' + 2))) = nI (seg (cn f c) (bo (cn f c) n K i') (bo (cn f c) n K (i' + 1))) ∧ rI s 116 (357 * t + (289 + 34 * c + (1 + 4 * i' + 3))) = nI (gb (cn f c) (bo (cn f c) n K) i')) (P := fun o => ∃ μ', o = some ((), μ') ∧ Fr (cQ t c) μ μ' ∧ MC K (cn f c) (bo (cn f c) n K) (gb (cn f c) (bo (cn f c) n K)) 0 (fun k => rI μ' 116 (357 * t + (289 + 34 * c + k)))) ?_ ?_ 100000 0 (wI (wI μ2 116 (357 * t + (289 + 34 * c)) (nI K)) 116 (357 * t + (289 + 34 * c + 33)) 0) (by omega) (by omega) ⟨(f12.wI (by unfold cQ; omega)).wI (by unfold cQ; omega), k2.ag (fun q j hq => by rw [rI_wI_ne (by omega), rI_wI_ne (by omega)]), fun i hi => by rw [rI_wI_ne (by omega), rI_wI_ne (by omega)]; exact o2 i hi, by rw [rI_wI_off (by omega)]; exact rI_wI_at, rI_wI_at, fun i' h => absurd h (by omega)⟩
  · rintro m i s hi ⟨fr, kk, oo, y0, y33, yd⟩
    refine ⟨put4 s (357 * t + (289 + 34 * c + (1 + 4 * i))) (nI (bo (cn f c) n K i)) (nI (bo (cn f c) n K (i + 1) - 1)) (nI (seg (cn f c) (bo (cn f c) n K i) (bo (cn f c) n K (i + 1)))) (nI (gb (cn f c) (bo (cn f c) n K) i)), ⟨put4_fr fr (fun j h1 h2 => by unfold cQ; omega), kk.ag (fun q j hq => put4_off (by omega)), fun i' h => (put4_off (by omega)).trans (oo i' h), (put4_off (by omega)).trans y0, (put4_off (by omega)).trans y33, fun i' h => ?_⟩, ?_⟩
    · by_cases hq : i' = i
      · subst hq
        exact put4_in
      · obtain ⟨z1, z2, z3, z4⟩ := yd i' (by omega)
        exact ⟨(put4_off (by omega)).trans z1, (put4_off (by omega)).trans z2, (put4_off (by omega)).trans z3, (put4_off (by omega)).trans z4⟩
    · show L_X11_buildNow_52 (m + 1) (nI t) (nI c) (nI K) (nI i) s = _
      rw [L_X11_buildNow_52, if_neg (nI_ge hi (by omega)), gq_in (by omega) (by omega), nx_nI (by omega), oo i (by omega), lb_e, bn_in (kc := L_X11_buildNow_52 m) kk oo hn hg hK8 hKn ht hc hi]
  · rintro m s ⟨fr, kk, oo, y0, y33, yd⟩
    refine ⟨s, ?_, fr, y0, y33, yd⟩
    show L_X11_buildNow_52 (m + 1) (nI t) (nI c) (nI K) (nI K) s = _
    rw [L_X11_buildNow_52, if_pos (nI_le (Nat.le_refl _) (by omega))]
end BN
