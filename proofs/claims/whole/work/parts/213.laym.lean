/-! the least errors: the model -/
theorem lmin_lN {a b : Nat} (ha : a < 2 ^ 63) (hb : b < 2 ^ 63) : lmin (lN a) (lN b) = lN (min a b) := by
  unfold lmin
  by_cases h : b < a
  · rw [if_pos ((pk_lLT hb ha).mpr h), Nat.min_eq_right (by omega)]
  · rw [if_neg (fun q => h ((pk_lLT hb ha).mp q)), Nat.min_eq_left (by omega)]
theorem LNV : (1000000000000000 : Int64) = lN NV := rfl
theorem loop_dn {σ β : Type} (L : Nat → Int32 → σ → Option β) (I : Nat → σ → Prop) {P : Option β → Prop} (step : ∀ n k s, I (k + 1) s → ∃ s', I k s' ∧ L (n + 1) (nI k) s = L n (nI k + (-1)) s') (fin : ∀ n s, I 0 s → P (L (n + 1) (-1) s)) : ∀ k n s, k < n → I k s → P (L n (nI k + (-1)) s) := by
  intro k
  induction k with
  | zero =>
    intro n s h hI
    obtain ⟨m, rfl⟩ : ∃ m, n = m + 1 := ⟨n - 1, by omega⟩
    exact fin m s hI
  | succ k ih =>
    intro n s h hI
    obtain ⟨m, rfl⟩ : ∃ m, n = m + 1 := ⟨n - 1, by omega⟩
    obtain ⟨s', h1, h2⟩ := step m k s hI
    rw [pk_m1, h2]
    exact ih m s' (by omega) h1
def qM (q j : Nat) : Prop := (q = 107 ∧ j = 19) ∨ (118 ≤ q ∧ q ≤ 120)
def mKn (g : Nat → Nat) (n : Nat) (μ : Mem) : Prop := rI μ 107 19 = nI n ∧ ∀ k, k < n → rI μ 118 k = nI (g k)
def ML (g : Nat → Nat) (n k : Nat) (μ : Mem) : Prop := ∀ j v, j ≤ k → v ≤ n → rL μ 119 (18 * j + v) = lN (Wt g n j v)
def MO (g : Nat → Nat) (n k : Nat) (μ : Mem) : Prop := ∀ i, i ≤ k → rI μ 120 i = nI (bo g n k i)
theorem mKn.ag {g : Nat → Nat} {n : Nat} {μ μ' : Mem} (h : mKn g n μ) (hi : ∀ q j, q = 107 ∨ q = 118 → rI μ' q j = rI μ q j) : mKn g n μ' := ⟨(hi _ _ (by omega)).trans h.1, fun k hk => (hi _ _ (by omega)).trans (h.2 k hk)⟩
section M
variable {n k t c : Nat} {g : Nat → Nat} {μ : Mem}
theorem layCounts_ok {K : Nat} {f : Nat → Nat → Nat} {bd gr : Nat → Nat → Nat} {dr : Nat → Nat} (hM : MT K f bd gr dr (fun k => rI μ 116 (357 * t + k))) (ht : t < 3) (hc : c < 2) (hn : n ≤ 16) (h113 : rI μ 113 t = nI n) : ∃ μ', G_X11_layCounts (nI t) (nI c) μ = some ((), μ') ∧ Fr qM μ μ' ∧ mKn (cn f c) n μ' := by
  unfold G_X11_layCounts
  rw [gq_in ht (by omega), nx_nI (by omega), h113, lb_e]
  refine loop_inv (fun m i (s : Mem) => L_X11_layCounts_12 m (nI t) (nI c) i s) n (fun k s => Fr qM μ s ∧ rI s 107 19 = nI n ∧ ∀ k', k' < k → rI s 118 k' = nI (cn f c k')) (P := fun o => ∃ μ', o = some ((), μ') ∧ Fr qM μ μ' ∧ mKn (cn f c) n μ') ?_ ?_ 100000 0 (wI μ 107 19 (nI n)) (by omega) (by omega) ⟨Fr.rf.wI (by unfold qM; omega), rI_wI_at, fun k' h => absurd h (by omega)⟩
  · rintro m k s hk ⟨fr, h19, hd⟩
    have hM' : MT K f bd gr dr (fun k => rI s 116 (357 * t + k)) := by
      rw [show (fun k => rI s 116 (357 * t + k)) = (fun k => rI μ 116 (357 * t + k)) from funext fun k => fr.i (by unfold qM; omega)]
      exact hM
    refine ⟨wI s 118 k (nI (cn f c k)), ⟨fr.wI (by unfold qM; omega), ?_, fun k' h => ?_⟩, ?_⟩
    · rw [rI_wI_ne (by omega)]; exact h19
    · by_cases hq : k' = k
      · subst hq; rw [rI_wI_at]
      · rw [rI_wI_off hq]; exact hd k' (by omega)
    · show L_X11_layCounts_12 (m + 1) (nI t) (nI c) (nI k) s = _
      rw [L_X11_layCounts_12, h19, if_neg (nI_ge hk (by omega)), bd_eq (countAt_v hM' ht hc (by omega)), gq_in (by omega) (by omega), nx_nI (by omega), lb_e, lb_e, nI_1]
  · rintro m s ⟨fr, h19, hd⟩
    refine ⟨s, ?_, fr, h19, hd⟩
    show L_X11_layCounts_12 (m + 1) (nI t) (nI c) (nI n) s = _
    rw [L_X11_layCounts_12, h19, if_pos (nI_le (Nat.le_refl _) (by omega))]
theorem errorOf_ok (h : mKn g n μ) (hn : n ≤ 16) (hg : fb_sm g n ≤ 999) {a b : Nat} (hab : a < b) (hb : b ≤ n) : G_X11_errorOf (nI a) (nI b) μ = some (lN (ct g a b), μ) := by
  unfold G_X11_errorOf
  have run : ∀ m q, a ≤ q → q ≤ b → b - q < m → L_X11_errorOf_8 m (nI a) (nI b) (lN (qs g a (q - a))) (lN (ss g a (q - a))) (nI q) μ = some (lN (ct g a b), μ) := by
    intro m
    induction m with
    | zero => intro q _ _ h; omega
    | succ m ih =>
      intro q h1 h2 h3
      rcases Nat.lt_or_ge q b with hq | hq
      · have s1 : ss g a (q + 1 - a) = ss g a (q - a) + g q := by
          rw [show q + 1 - a = (q - a) + 1 by omega]
          show ss g a (q - a) + g (a + (q - a)) = _
          rw [show a + (q - a) = q by omega]
        have s2 : qs g a (q + 1 - a) = qs g a (q - a) + g q * g q := by
          rw [show q + 1 - a = (q - a) + 1 by omega]
          show qs g a (q - a) + g (a + (q - a)) * g (a + (q - a)) = _
          rw [show a + (q - a) = q by omega]
        have gv := gle hg (k := q) (by omega)
        rw [L_X11_errorOf_8, if_neg (nI_ge hq (by omega)), gq_in (by omega) (by omega), gq_in (by omega) (by omega), nx_nI (by omega), h.2 q (by omega), nI_l (by omega), lN_mul, lN_add, lb_e, gq_in (by omega) (by omega), lN_add, lb_e, lb_e, nI_1, ← s1, ← s2]
        exact ih (q + 1) (by omega) (by omega) (by omega)
      · have e : q = b := by omega
        subst e
        obtain ⟨w, rfl⟩ : ∃ w, q = a + w := ⟨q - a, by omega⟩
        rw [show a + w - a = w by omega, L_X11_errorOf_8, if_pos (nI_le (Nat.le_refl _) (by omega)), pk_sub (by omega), show a + w - a = w by omega, nI_l (by omega), gq_lN (by omega) (by omega), L720, ct_lN (by omega) (by omega)]
  have r := run 100000 a (Nat.le_refl _) (by omega) (by omega)
  rw [Nat.sub_self] at r
  exact r
theorem leastAt_eq (j v : Nat) : G_X11_leastAt (nI j) (nI v) μ = some (nI (18 * j + v), μ) := by
  unfold G_X11_leastAt
  rw [show (18 : Int32) = nI 18 from rfl, pk_mul, nI_add]
/-- one of the table -/
theorem least_in {kc : Int32 → Int32 → Mem → Option (Unit × Mem)} {kc12 : Int32 → Int32 → Int32 → Mem → Option (Unit × Mem)} (h : mKn g n μ) (hn : n ≤ 16) (hg : fb_sm g n ≤ 999) {j v : Nat} (hj : j ≤ 16) (hv : v ≤ n) (hL : 1 ≤ j → ∀ e, e ≤ n → rL μ 119 (18 * (j - 1) + e) = lN (Wt g n (j - 1) e)) : F_X11_layLeast_35 kc kc12 (nI k) (nI j) (nI v) (lN (if j = 0 ∧ v = n then 0 else NV)) μ = kc12 (nI k) (nI j) (nI v + (-1)) (wL μ 119 (18 * j + v) (lN (Wt g n j v))) := by
  have fin : F_X11_layLeast_107 kc kc12 (nI k) (nI j) (nI v) (lN (Wt g n j v)) μ = kc12 (nI k) (nI j) (nI v + (-1)) (wL μ 119 (18 * j + v) (lN (Wt g n j v))) := by
    unfold F_X11_layLeast_107
    rw [bd_eq (leastAt_eq j v), gq_in (by omega) (by omega), nx_nI (by omega), lb_e, lb_e]
  unfold F_X11_layLeast_35
  rw [lb_e, nI_1]
  rcases Nat.eq_zero_or_pos j with rfl | hj0
  · have e : (if 0 = 0 ∧ v = n then 0 else NV) = Wt g n 0 v := by
      show _ = if v = n then 0 else NV
      by_cases q : v = n
      · rw [if_pos q, if_pos ⟨rfl, q⟩]
      · rw [if_neg q, if_neg (fun z => q z.2)]
    rw [e]
    rw [L_X11_layLeast_42, h.1, fin]
    by_cases q : n < v + 1
    · rw [if_pos (nI_lt q (by omega))]
    · rw [if_neg (nI_nlt (by omega) (by omega)), if_pos (show nI 0 ≤ 0 from by decide)]
  · rw [if_neg (fun z => by omega)]
    have run : ∀ m e, v + 1 ≤ e → e ≤ n + 1 → n + 1 - e < m → L_X11_layLeast_42 kc kc12 m (nI k) (nI j) (nI v) (lN (mnl (fun i => wf g (Wt g n (j - 1)) v (v + 1 + i)) (e - v - 1))) (nI e) μ = kc12 (nI k) (nI j) (nI v + (-1)) (wL μ 119 (18 * j + v) (lN (Wt g n j v))) := by
      intro m
      induction m with
      | zero => intro e _ _ h; omega
      | succ m ih =>
        intro e h1 h2 h3
        rcases Nat.lt_or_ge n e with hq | hq
        · rw [L_X11_layLeast_42, h.1, if_pos (nI_lt hq (by omega))]
          have e2 : mnl (fun i => wf g (Wt g n (j - 1)) v (v + 1 + i)) (e - v - 1) = Wt g n j v := by
            rw [show e - v - 1 = n - v by omega, show Wt g n j v = Wt g n (j - 1 + 1) v by rw [show j - 1 + 1 = j by omega]]
            rfl
          rw [e2]
          exact fin
        · have w1 := W_le63 hg hn (j - 1) e
          have w2 := ct_le (a := v) (b := e) hg hq (by omega)
          have w3 := mnl_nv (fun i => wf g (Wt g n (j - 1)) v (v + 1 + i)) (e - v - 1)
          have nv : NV = 1000000000000000 := rfl
          have s1 : mnl (fun i => wf g (Wt g n (j - 1)) v (v + 1 + i)) (e + 1 - v - 1) = min (mnl (fun i => wf g (Wt g n (j - 1)) v (v + 1 + i)) (e - v - 1)) (wf g (Wt g n (j - 1)) v e) := by
            rw [show e + 1 - v - 1 = (e - v - 1) + 1 by omega]
            show min _ (wf g (Wt g n (j - 1)) v (v + 1 + (e - v - 1))) = _
            rw [show v + 1 + (e - v - 1) = e by omega]
          rw [L_X11_layLeast_42, h.1, if_neg (nI_nlt (by omega) (by omega)), if_neg (nI_nle (by omega) (by omega)), nI_sub1 (by omega), bd_eq (leastAt_eq (j - 1) e), gq_in (by omega) (by omega), nx_nI (by omega), hL (by omega) e hq, lb_e, LNV]
          unfold F_X11_layLeast_99
          have nx2 := ih (e + 1) (by omega) (by omega) (by omega)
          rw [s1] at nx2
          have we : wf g (Wt g n (j - 1)) v e = if Wt g n (j - 1) e = NV then NV else ct g v e + Wt g n (j - 1) e := rfl
          rw [we] at nx2
          by_cases hN : Wt g n (j - 1) e = NV
          · rw [if_pos ((cmp_eq _ _).mpr (by rw [hN])), lb_e, nI_1]
            rw [if_pos hN, Nat.min_eq_left w3] at nx2
            exact nx2
          · rw [if_neg (fun z => hN ((pk_lEQ (by omega) (by omega)).mp ((cmp_eq _ _).mp z))), bd_eq (errorOf_ok h hn hg (by omega) hq), lN_add, lmin_lN (by omega) (by omega), lb_e, nI_1]
            rw [if_neg hN] at nx2
            exact nx2
    have r := run 100000 (v + 1) (Nat.le_refl _) (by omega) (by omega)
    rw [show v + 1 - v - 1 = 0 by omega] at r
    exact r
theorem layLeast_ok (h : mKn g n μ) (hn : n ≤ 16) (hg : fb_sm g n ≤ 999) (hk : k ≤ 16) : ∃ μ', G_X11_layLeast (nI k) μ = some ((), μ') ∧ Fr (fun q _ => q = 119) μ μ' ∧ ML g n k μ' := by
  unfold G_X11_layLeast
  refine loop_inv (fun m i (s : Mem) => L_X11_layLeast_2 m (nI k) i s) (k + 1) (fun j s => Fr (fun q _ => q = 119) μ s ∧ ∀ j' v, j' < j → v ≤ n → rL s 119 (18 * j' + v) = lN (Wt g n j' v)) (P := fun o => ∃ μ', o = some ((), μ') ∧ Fr (fun q _ => q = 119) μ μ' ∧ ML g n k μ') ?_ ?_ 100000 0 μ (by omega) (by omega) ⟨Fr.rf, fun j' v h => absurd h (by omega)⟩
  · rintro m j s hj ⟨f, hd⟩
    have h19 : rI s 107 19 = nI n := (f.i (by omega)).trans h.1
    have key : ∃ s', L_X11_layLeast_12 (L_X11_layLeast_2 m) 100000 (nI k) (nI j) (nI (n + 1) + (-1)) s = L_X11_layLeast_2 m (nI k) (nI (j + 1)) s' ∧ Fr (fun q _ => q = 119) μ s' ∧ ∀ j' v, j' < j + 1 → v ≤ n → rL s' 119 (18 * j' + v) = lN (Wt g n j' v) := by
      refine loop_dn (fun m' i (s : Mem) => L_X11_layLeast_12 (L_X11_layLeast_2 m) m' (nI k) (nI j) i s) (fun u s => u ≤ n + 1 ∧ Fr (fun q _ => q = 119) μ s ∧ ∀ j' v, (j' < j ∨ (j' = j ∧ u ≤ v)) → v ≤ n → rL s 119 (18 * j' + v) = lN (Wt g n j' v)) (P := fun o => ∃ s', o = L_X11_layLeast_2 m (nI k) (nI (j + 1)) s' ∧ Fr (fun q _ => q = 119) μ s' ∧ ∀ j' v, j' < j + 1 → v ≤ n → rL s' 119 (18 * j' + v) = lN (Wt g n j' v)) ?_ ?_ (n + 1) 100000 s (by omega) ⟨Nat.le_refl _, f, fun j' v h1 h2 => hd j' v (by omega) h2⟩
      · rintro m' u s2 ⟨hu, f2, d2⟩
        have K2 : mKn g n s2 := h.ag (fun q j hq => f2.i (by omega))
        refine ⟨wL s2 119 (18 * j + u) (lN (Wt g n j u)), ⟨by omega, f2.wL rfl, fun j' v h1 h2 => ?_⟩, ?_⟩
        · by_cases hq : j' = j ∧ v = u
          · obtain ⟨rfl, rfl⟩ := hq
            rw [rL_wL_at]
          · rw [rL_wL_off (by omega)]
            exact d2 j' v (by omega) h2
        · show L_X11_layLeast_12 (L_X11_layLeast_2 m) (m' + 1) (nI k) (nI j) (nI u) s2 = _
          have li := least_in (k := k) (kc := L_X11_layLeast_2 m) (kc12 := L_X11_layLeast_12 (L_X11_layLeast_2 m) m') K2 hn hg (j := j) (v := u) (by omega) (by omega) (fun hj e he => d2 (j - 1) e (by omega) he)
          rw [L_X11_layLeast_12, if_neg (nI_pos (by omega)), K2.1]
          unfold F_X11_layLeast_32
          by_cases hj0 : j = 0
          · subst hj0
            rw [if_pos (show nI 0 = 0 from rfl)]
            by_cases hu2 : u = n
            · subst hu2
              rw [if_pos rfl]
              rw [if_pos ⟨rfl, rfl⟩] at li
              exact li
            · rw [if_neg (fun z => hu2 ((nI_eq (by omega) (by omega)).mp z)), LNV]
              rw [if_neg (fun z => hu2 z.2)] at li
              exact li
          · rw [if_neg (nI_ne0 (by omega) (by omega)), LNV]
            rw [if_neg (fun z => hj0 z.1)] at li
            exact li
      · rintro m' s2 ⟨-, f2, d2⟩
        refine ⟨s2, ?_, f2, fun j' v h1 h2 => d2 j' v (by omega) h2⟩
        show L_X11_layLeast_12 (L_X11_layLeast_2 m) (m' + 1) (nI k) (nI j) (-1) s2 = _
        rw [L_X11_layLeast_12, if_pos (by decide), lb_e, nI_1]
    obtain ⟨s', e, f', d'⟩ := key
    refine ⟨s', ⟨f', d'⟩, ?_⟩
    show L_X11_layLeast_2 (m + 1) (nI k) (nI j) s = _
    rw [pk_m1] at e
    rw [L_X11_layLeast_2, if_neg (nI_nlt (by omega) (by omega)), h19, lb_e]
    exact e
  · rintro m s ⟨f, hd⟩
    refine ⟨s, ?_, f, fun j v h1 h2 => hd j v (by omega) h2⟩
    show L_X11_layLeast_2 (m + 1) (nI k) (nI (k + 1)) s = _
    rw [L_X11_layLeast_2, if_pos (nI_lt (by omega) (by omega))]
/-- the search of one border -/
theorem bord_in {kc : Int32 → Int32 → Mem → Option (Unit × Mem)} (h : mKn g n μ) (hn : n ≤ 16) (hg : fb_sm g n ≤ 999) (hk : k ≤ n) (hL : ML g n k μ) {i v : Nat} (hi : 1 ≤ i) (hik : i < k) (hv : v + (k - i + 1) ≤ n) : L_X11_layBorders_33 kc 100000 (nI k) (nI i) (nI v) (nI (v + 1)) μ = kc (nI k) (nI (i + 1)) (wI μ 120 i (nI (sec g n (k - i + 1) v))) := by
  obtain ⟨s1, s2, s3, s4⟩ := sec_spec hg hn (j := k - i + 1) (v := v) (by omega) hv
  rw [show k - i + 1 - 1 = k - i by omega] at s3 s4
  have run : ∀ m e, v + 1 ≤ e → e ≤ sec g n (k - i + 1) v → sec g n (k - i + 1) v - e < m → L_X11_layBorders_33 kc m (nI k) (nI i) (nI v) (nI e) μ = kc (nI k) (nI (i + 1)) (wI μ 120 i (nI (sec g n (k - i + 1) v))) := by
    intro m
    induction m with
    | zero => intro e _ _ h; omega
    | succ m ih =>
      intro e h1 h2 h3
      have en : e ≤ n := by omega
      have w1 := W_lt hg hn (j := k - i) (v := e) (by omega) (by omega)
      have w4 := W_lt hg hn (j := k - i + 1) (v := v) (by omega) hv
      have w2 := ct_le (a := v) (b := e) hg en (by omega)
      have nv : NV = 1000000000000000 := rfl
      unfold L_X11_layBorders_33 F_X11_layBorders_92
      rw [pk_sub (by omega), bd_eq (leastAt_eq (k - i) e), gq_in (by omega) (by omega), nx_nI (by omega), hL (k - i) e (by omega) en, LNV, if_neg (fun z => by have := (pk_lEQ (by omega) (by omega)).mp ((cmp_eq _ _).mp z); omega), bd_eq (errorOf_ok h hn hg (by omega) en), bd_eq (leastAt_eq (k - i) e), gq_in (by omega) (by omega), nI_1, bd_eq (leastAt_eq (k - i + 1) v), gq_in (by omega) (by omega), nx_nI (by omega), hL (k - i) e (by omega) en, nx_nI (by omega), hL (k - i + 1) v (by omega) (by omega), lN_add]
      rcases Nat.lt_or_ge e (sec g n (k - i + 1) v) with hq | hq
      · have ne := s4 e (by omega) hq
        rw [if_neg (fun z => ne ((pk_lEQ (by omega) (by omega)).mp ((cmp_eq _ _).mp z))), lb_e, nI_1]
        exact ih (e + 1) (by omega) (by omega) (by omega)
      · have e2 : e = sec g n (k - i + 1) v := by omega
        rw [if_pos ((cmp_eq _ _).mpr (by rw [e2, s3])), gq_in (by omega) (by omega), nx_nI (by omega), lb_e, lb_e, nI_1, e2]
  exact run 100000 (v + 1) (Nat.le_refl _) (by omega) (by omega)
theorem layBorders_ok (h : mKn g n μ) (hn : n ≤ 16) (hg : fb_sm g n ≤ 999) (hk1 : 1 ≤ k) (hk : k ≤ n) : ∃ μ', G_X11_layBorders (nI k) μ = some ((), μ') ∧ Fr (fun q _ => q = 119 ∨ q = 120) μ μ' ∧ ML g n k μ' ∧ MO g n k μ' := by
  obtain ⟨μ1, e, f1, l1⟩ := layLeast_ok (k := k) h hn hg (by omega)
  unfold G_X11_layBorders
  rw [bd_eq e, lb_e]
  have f1' : Fr (fun q _ => q = 119 ∨ q = 120) μ μ1 := f1.mono (fun q j h => Or.inl h)
  refine loop_inv (fun m i (s : Mem) => L_X11_layBorders_14 m (nI k) i s) k (fun i s => 1 ≤ i ∧ Fr (fun q _ => q = 119 ∨ q = 120) μ s ∧ ML g n k s ∧ ∀ i', i' < i → rI s 120 i' = nI (bo g n k i')) (P := fun o => ∃ μ', o = some ((), μ') ∧ Fr (fun q _ => q = 119 ∨ q = 120) μ μ' ∧ ML g n k μ' ∧ MO g n k μ') ?_ ?_ 100000 1 (wI μ1 120 0 0) hk1 (by omega) ⟨by omega, f1'.wI (Or.inr rfl), fun j v h1 h2 => by rw [rL_wI]; exact l1 j v h1 h2, fun i' h => by rw [show i' = 0 by omega, rI_wI_at]; rfl⟩
  · rintro m i s hi ⟨i1, f, l, hd⟩
    have K2 : mKn g n s := h.ag (fun q j hq => f.i (by omega))
    have b := bo_spec hg hn hk (i - 1) (by omega)
    have e2 : bo g n k i = sec g n (k - i + 1) (bo g n k (i - 1)) := by
      have : bo g n k (i - 1 + 1) = sec g n (k - (i - 1)) (bo g n k (i - 1)) := if_pos (by omega)
      rw [show i - 1 + 1 = i by omega, show k - (i - 1) = k - i + 1 by omega] at this
      exact this
    refine ⟨wI s 120 i (nI (bo g n k i)), ⟨by omega, f.wI (Or.inr rfl), fun j v h1 h2 => by rw [rL_wI]; exact l j v h1 h2, fun i' h => ?_⟩, ?_⟩
    · by_cases hq : i' = i
      · subst hq; rw [rI_wI_at]
      · rw [rI_wI_off hq]; exact hd i' (by omega)
    · show L_X11_layBorders_14 (m + 1) (nI k) (nI i) s = _
      rw [L_X11_layBorders_14, if_neg (nI_ge hi (by omega)), nI_sub1 (by omega), gq_in (by omega) (by omega), nx_nI (by omega), hd (i - 1) (by omega), lb_e, nI_1, lb_e, bord_in (kc := L_X11_layBorders_14 m) K2 hn hg hk l i1 hi (by omega), e2]
  · rintro m s ⟨i1, f, l, hd⟩
    have h19 : rI s 107 19 = nI n := (f.i (by omega)).trans h.1
    refine ⟨wI s 120 k (nI n), ?_, f.wI (Or.inr rfl), fun j v h1 h2 => by rw [rL_wI]; exact l j v h1 h2, fun i' h => ?_⟩
    · show L_X11_layBorders_14 (m + 1) (nI k) (nI k) s = _
      rw [L_X11_layBorders_14, if_pos (nI_le (Nat.le_refl _) (by omega)), gq_in (by omega) (by omega), nx_nI (by omega), h19, lb_e]
    · by_cases hq : i' = k
      · subst hq; rw [rI_wI_at, bo_end (by omega)]
      · rw [rI_wI_off hq]; exact hd i' (by omega)
end M
