/-! the most of all -/
def mf (F : Nat → Nat) : Nat → Nat
  | 0 => 0
  | k + 1 => max (mf F k) (F k)
theorem mf_le (F : Nat → Nat) : ∀ {n k}, k < n → F k ≤ mf F n := by
  intro n
  induction n with
  | zero => intro k h; omega
  | succ n ih =>
    intro k h
    show F k ≤ max (mf F n) (F n)
    rcases Nat.lt_or_ge k n with h1 | h1
    · have := ih h1; omega
    · rw [show k = n by omega]; omega
theorem mf_bd {F : Nat → Nat} {M : Nat} : ∀ {n}, (∀ k, k < n → F k ≤ M) → mf F n ≤ M := by
  intro n
  induction n with
  | zero => intro _; exact Nat.zero_le _
  | succ n ih =>
    intro h
    have := ih (fun k hk => h k (by omega))
    have := h n (by omega)
    show max (mf F n) (F n) ≤ M
    omega
theorem mf_perm {F G : Nat → Nat} {n : Nat} (h1 : ∀ k, k < n → ∃ j, j < n ∧ F k = G j) (h2 : ∀ k, k < n → ∃ j, j < n ∧ G k = F j) : mf F n = mf G n := by
  apply Nat.le_antisymm
  · exact mf_bd fun k hk => by obtain ⟨j, a, b⟩ := h1 k hk; rw [b]; exact mf_le G a
  · exact mf_bd fun k hk => by obtain ⟨j, a, b⟩ := h2 k hk; rw [b]; exact mf_le F a
def yk (a : Nat) : Nat := if a = 0 then 16 else a - 1
theorem xk_yk {a : Nat} (h : a ≤ 16) : xk (yk a) = a := by
  unfold xk yk
  split <;> split <;> omega
theorem yk_xk {a : Nat} (h : a ≤ 16) : yk (xk a) = a := by
  unfold xk yk
  split <;> split <;> omega
theorem yk_le {a : Nat} (h : a ≤ 16) : yk a ≤ 16 := by unfold yk; split <;> omega
section Mo
variable {c : Nat} {μ : Mem} {T : Nat} {V : Nat → Nat} {B D m : Nat} {S : Nat → St}
theorem most0 (h : RB c T V B D m S μ) (hT0 : 0 < T) : G_X0_tableWithMostRows 7 μ = some (nI (am (fun t => rws (sf (S 0) t)) T), μ) ∧ G_X11_longest μ = some (nI (am (fun t => rws (sf (S 0) t)) T), μ) := by
  have hT := h.T3
  have lim : ∀ t, t < T → rws (sf (S 0) t) ≤ 999 := fun t ht => (h.sw ht).2.1
  have ae : ∀ i, am (fun t => rws (sf (S 0) t)) (i + 1) = if rws (sf (S 0) (am (fun t => rws (sf (S 0) t)) i)) < rws (sf (S 0) i) then i else am (fun t => rws (sf (S 0) t)) i := fun _ => rfl
  constructor
  · unfold G_X0_tableWithMostRows
    have key := loop_fr (fun n i (s : Int32) => L_X0_tableWithMostRows_4 n 7 s i μ) 1 T (fun i => nI (am (fun t => rws (sf (S 0) t)) i)) (res := some (nI (am (fun t => rws (sf (S 0) t)) T), μ)) (fun n i q1 q2 => by
      show L_X0_tableWithMostRows_4 (n + 1) 7 _ _ _ = _
      have al := am_le (fun t => rws (sf (S 0) t)) i
      have l1 := lim i q2
      have l2 := lim (am (fun t => rws (sf (S 0) t)) i) (by omega)
      rw [L_X0_tableWithMostRows_4, h.xt, if_neg (nI_ge q2 (by omega)), gq_in (by omega) (by omega), gq_in (by omega) (by omega), sp_eq (by omega), sp_eq (by omega), (h.sheet q2).2.1, (h.sheet (t := am (fun t => rws (sf (S 0) t)) i) (by omega)).2.1, ae]
      unfold F_X0_tableWithMostRows_35
      rw [lb_e, lb_e, nI_1]
      by_cases q : rws (sf (S 0) (am (fun t => rws (sf (S 0) t)) i)) < rws (sf (S 0) i)
      · rw [if_pos q, if_neg (nI_ge q (by omega))]
      · rw [if_neg q, if_pos (nI_le (by omega) (by omega))]) (fun n => by
      show L_X0_tableWithMostRows_4 (n + 1) 7 _ _ _ = _
      rw [L_X0_tableWithMostRows_4, h.xt, if_pos (nI_le (Nat.le_refl _) (by omega))])
    have k1 := key 100000 1 (by omega) (by omega) (by omega)
    rw [am1] at k1
    exact k1
  · unfold G_X11_longest
    have key := loop_fr (fun n i (s : Int32) => L_X11_longest_4 n s i μ) 1 T (fun i => nI (am (fun t => rws (sf (S 0) t)) i)) (res := some (nI (am (fun t => rws (sf (S 0) t)) T), μ)) (fun n i q1 q2 => by
      show L_X11_longest_4 (n + 1) _ _ _ = _
      have al := am_le (fun t => rws (sf (S 0) t)) i
      have l1 := lim i q2
      have l2 := lim (am (fun t => rws (sf (S 0) t)) i) (by omega)
      rw [L_X11_longest_4, h.mt, if_neg (nI_ge q2 (by omega)), bd_eq (rowsOf_eq (h.tab q2) (by omega)), bd_eq (rowsOf_eq (h.tab (t := am (fun t => rws (sf (S 0) t)) i) (by omega)) (by omega)), ae]
      unfold F_X11_longest_30
      rw [lb_e, lb_e, nI_1]
      by_cases q : rws (sf (S 0) (am (fun t => rws (sf (S 0) t)) i)) < rws (sf (S 0) i)
      · rw [if_pos q, if_neg (nI_ge q (by omega))]
      · rw [if_neg q, if_pos (nI_le (by omega) (by omega))]) (fun n => by
      show L_X11_longest_4 (n + 1) _ _ _ = _
      rw [L_X11_longest_4, h.mt, if_pos (nI_le (Nat.le_refl _) (by omega))])
    have k1 := key 100000 1 (by omega) (by omega) (by omega)
    rw [am1] at k1
    exact k1
theorem h2d {k : Nat} (h : k < 1000) : nI k / (2 : Int32) = nI (k / 2) ∧ nI k - nI k / (2 : Int32) * (2 : Int32) = nI (k % 2) := by
  rw [i2]
  exact ⟨pk_div (by omega) (by omega) (by omega), pk_rem (by omega) (by omega) (by omega)⟩
theorem most1 (h : RB c T V B D m S μ) (hT0 : 0 < T) : ∃ b, G_X0_columnDriftedMost 7 μ = some (nI (10 * (b / 2) + b % 2), μ) ∧ G_X11_mostDrifted μ = some (nI (10 * (b / 2) + b % 2), μ) := by
  have hT := h.T3
  have lim : ∀ k, k < 2 * T → sd (S 0) (k / 2) (k % 2) ≤ 99 := fun k hk => by
    have := ((h.sw (t := k / 2) (by omega)).2.2 (k % 2) (by omega)).2.2.2.2
    have := (h.K8 (t := k / 2) (by omega)).2.2
    omega
  obtain ⟨F, hF⟩ : ∃ F : Nat → Nat, F = fun k => sd (S 0) (k / 2) (k % 2) := ⟨_, rfl⟩
  have limF : ∀ k, k < 2 * T → F k ≤ 99 := fun k hk => by rw [hF]; exact lim k hk
  have ae : ∀ i, am F (i + 1) = if F (am F i) < F i then i else am F i := fun _ => rfl
  refine ⟨am F (2 * T), ?_, ?_⟩
  · unfold G_X0_columnDriftedMost
    have dr : ∀ i cc, i < T → cc < 2 → G_X4_drift (lnP ((shP 8 (nI i)) + 2) (nI cc)) μ = some (nI (F (2 * i + cc)), μ) := fun i cc hi hcc => by
      rw [lp_eq (by omega) hcc, hF]
      show _ = some (nI (sd (S 0) ((2 * i + cc) / 2) ((2 * i + cc) % 2)), μ)
      rw [show (2 * i + cc) / 2 = i by omega, show (2 * i + cc) % 2 = cc by omega]
      exact lane_drift (h.lane hi hcc)
    have stp : ∀ kc n i cc, i < T → cc < 2 → 1 ≤ 2 * i + cc → L_X0_columnDriftedMost_17 kc (n + 1) 7 (nI (10 * (am F (2 * i + cc) / 2) + am F (2 * i + cc) % 2)) (nI (F (am F (2 * i + cc)))) (nI i) (nI cc) μ = L_X0_columnDriftedMost_17 kc n 7 (nI (10 * (am F (2 * i + cc + 1) / 2) + am F (2 * i + cc + 1) % 2)) (nI (F (am F (2 * i + cc + 1)))) (nI i) (nI (cc + 1)) μ := fun kc n i cc hi hcc h1 => by
      have al := am_le F (2 * i + cc)
      have l1 := limF (2 * i + cc) (by omega)
      have l2 := limF (am F (2 * i + cc)) (by omega)
      rw [L_X0_columnDriftedMost_17, if_neg (l_nle hcc (by omega)), gq_in (by omega) (by omega), gq_in (by omega) (by omega), bd_eq (dr i cc hi hcc), ae]
      unfold F_X0_columnDriftedMost_57
      rw [lb_e, lb_e, lb_e, nI_1]
      by_cases q : F (am F (2 * i + cc)) < F (2 * i + cc)
      · rw [if_pos q, if_neg (nI_ge q (by omega)), show (10 : Int32) = nI 10 from rfl, pk_mul, nI_add, show (2 * i + cc) / 2 = i by omega, show (2 * i + cc) % 2 = cc by omega]
      · rw [if_neg q, if_pos (nI_le (by omega) (by omega))]
    have out : ∀ kc n i x y, L_X0_columnDriftedMost_17 kc (n + 1) 7 x y (nI i) (nI 2) μ = kc 7 x y (nI (i + 1)) μ := fun kc n i x y => by
      rw [L_X0_columnDriftedMost_17, if_pos (by decide), lb_e, nI_1]
    have key := loop_fr (fun n i (s : Int32 × Int32) => L_X0_columnDriftedMost_6 n 7 s.1 s.2 i μ) 1 T (fun i => (nI (10 * (am F (2 * i) / 2) + am F (2 * i) % 2), nI (F (am F (2 * i))))) (res := some (nI (10 * (am F (2 * T) / 2) + am F (2 * T) % 2), μ)) (fun n i q1 q2 => by
      show L_X0_columnDriftedMost_6 (n + 1) 7 _ _ _ _ = _
      rw [L_X0_columnDriftedMost_6, h.xt, if_neg (nI_ge q2 (by omega))]
      have a := stp (L_X0_columnDriftedMost_6 n) 99999 i 0 q2 (by omega) (by omega)
      have b := stp (L_X0_columnDriftedMost_6 n) 99998 i 1 q2 (by omega) (by omega)
      rw [Nat.add_zero] at a
      refine a.trans (b.trans ?_)
      exact out _ _ _ _ _) (fun n => by
      show L_X0_columnDriftedMost_6 (n + 1) 7 _ _ _ _ = _
      rw [L_X0_columnDriftedMost_6, h.xt, if_pos (nI_le (Nat.le_refl _) (by omega))])
    have k1 := key 99999 1 (by omega) (by omega) (by omega)
    refine Eq.trans ?_ k1
    show L_X0_columnDriftedMost_6 (99999 + 1) 7 0 (-1) (nI 0) μ = L_X0_columnDriftedMost_6 99999 7 (nI (10 * (am F (2 * 1) / 2) + am F (2 * 1) % 2)) (nI (F (am F (2 * 1)))) (nI 1) μ
    rw [L_X0_columnDriftedMost_6, h.xt, if_neg (nI_ge hT0 (by omega))]
    have first : L_X0_columnDriftedMost_17 (L_X0_columnDriftedMost_6 99999) (99999 + 1) 7 0 (-1) (nI 0) (nI 0) μ = L_X0_columnDriftedMost_17 (L_X0_columnDriftedMost_6 99999) 99999 7 (nI (10 * (am F (2 * 0 + 1) / 2) + am F (2 * 0 + 1) % 2)) (nI (F (am F (2 * 0 + 1)))) (nI 0) (nI (0 + 1)) μ := by
      have l1 := limF 0 (by omega)
      rw [L_X0_columnDriftedMost_17, if_neg (by decide), gq_in (by omega) (by omega), gq_in (by omega) (by omega), bd_eq (dr 0 0 hT0 (by omega)), if_neg (fun q => by
        rw [fa_le, nI_toInt (by have := limF (2 * 0 + 0) (by omega); omega)] at q
        have : (-1 : Int32).toInt = -1 := by decide
        omega)]
      unfold F_X0_columnDriftedMost_57
      rw [lb_e, lb_e, nI_1, show 2 * 0 + 1 = 1 from rfl, am1]
      rfl
    have b := stp (L_X0_columnDriftedMost_6 99999) 99998 0 1 hT0 (by omega) (by omega)
    refine first.trans (b.trans ?_)
    exact out _ _ _ _ _
  · unfold G_X11_mostDrifted
    have dm : ∀ k, k < 2 * T → G_X11_drift (nI (k / 2)) (nI (k % 2)) μ = some (nI (357 * (k / 2) + (289 + 34 * (k % 2) + 33)), μ) ∧ rI μ 116 (357 * (k / 2) + (289 + 34 * (k % 2) + 33)) = nI (F k) := fun k hk => by
      rw [hF]
      exact ⟨col_drift_at (by omega) (by omega), ((h.tab (t := k / 2) (by omega)).2 (k % 2) (by omega)).2.1⟩
    have key := loop_fr (fun n i (s : Int32) => L_X11_mostDrifted_4 n s i μ) 1 (2 * T) (fun i => nI (am F i)) (res := some (nI (10 * (am F (2 * T) / 2) + am F (2 * T) % 2), μ)) (fun n i q1 q2 => by
      show L_X11_mostDrifted_4 (n + 1) _ _ _ = _
      have al := am_le F i
      have l1 := limF i q2
      have l2 := limF (am F i) (by omega)
      obtain ⟨d1, d2⟩ := dm i q2
      obtain ⟨d3, d4⟩ := dm (am F i) (by omega)
      rw [L_X11_mostDrifted_4, h.mt, (h2d (k := i) (by omega)).2, (h2d (k := i) (by omega)).1, (h2d (k := am F i) (by omega)).2, (h2d (k := am F i) (by omega)).1, i2, pk_mul, if_neg (nI_ge q2 (by omega)), bd_eq d1, gq_in (by omega) (by omega), bd_eq d3, gq_in (by omega) (by omega), nx_nI (by omega), nx_nI (by omega), d2, d4, ae]
      unfold F_X11_mostDrifted_50
      rw [lb_e, lb_e, nI_1]
      by_cases q : F (am F i) < F i
      · rw [if_pos q, if_neg (nI_ge q (by omega))]
      · rw [if_neg q, if_pos (nI_le (by omega) (by omega))]) (fun n => by
      show L_X11_mostDrifted_4 (n + 1) _ _ _ = _
      have al := am_le F (2 * T)
      rw [L_X11_mostDrifted_4, h.mt, (h2d (k := am F (2 * T)) (by omega)).2, (h2d (k := am F (2 * T)) (by omega)).1, i2, pk_mul, if_pos (nI_le (Nat.le_refl _) (by omega)), show (10 : Int32) = nI 10 from rfl, pk_mul, nI_add])
    have k1 := key 100000 1 (by omega) (by omega) (by omega)
    rw [am1] at k1
    exact k1
theorem seg_le {g bd gr : Nat → Nat} {v K D dr i : Nat} (hw : LW v K D g bd gr dr) (hs : fb_sm g v ≤ 999) (hi : i < K) : seg g (bd i) (bd (i + 1)) ≤ 999 := Nat.le_trans (ss_le (g := g) (n := v) (a := bd i) (w := bd (i + 1) - bd i) (by have := hw.2.2.1 i hi; have := bd_le hw (i := i + 1) (by omega); omega)) hs
theorem most2 (h : RB c T V B D m S μ) (hT0 : 0 < T) : ∃ M, G_X0_greatestTotal 7 μ = some (nI M, μ) ∧ G_X11_greatestTotal μ = some (nI M, μ) := by
  have hT := h.T3
  obtain ⟨G, hG⟩ : ∃ G : Nat → Nat → Nat, G = fun k i => seg (cn (sf (S 0) (k / 2)) (k % 2)) (sb (S 0) (k / 2) (k % 2) i) (sb (S 0) (k / 2) (k % 2) (i + 1)) := ⟨_, rfl⟩
  obtain ⟨F, hF⟩ : ∃ F : Nat → Nat, F = fun k => mf (G k) (min B (V (k / 2))) := ⟨_, rfl⟩
  have lg : ∀ k i, k < 2 * T → i < min B (V (k / 2)) → G k i ≤ 999 := fun k i hk hi => by
    rw [hG]
    exact seg_le ((h.sw (t := k / 2) (by omega)).2.2 (k % 2) (by omega)) (h.le (by omega) (by omega)) hi
  have lf : ∀ k, k < 2 * T → F k ≤ 999 := fun k hk => by rw [hF]; exact mf_bd fun i hi => lg k i hk hi
  have lm : ∀ k, k ≤ 2 * T → mf F k ≤ 999 := fun k hk => mf_bd fun j hj => lf j (by omega)
  have lb2 : ∀ k i, k < 2 * T → i ≤ min B (V (k / 2)) → mf (G k) i ≤ 999 := fun k i hk hi => mf_bd fun j hj => lg k j hk (by omega)
  refine ⟨mf F (2 * T), ?_, ?_⟩
  · unfold G_X0_greatestTotal
    have inn : ∀ kc kc14 i cc, i < T → cc < 2 → L_X0_greatestTotal_35 kc kc14 100000 7 (nI (mf F (2 * i + cc))) (nI i) (nI cc) (12 + 9 * i + 3 * cc) 0 μ = kc14 7 (nI (mf F (2 * i + cc + 1))) (nI i) (nI (cc + 1)) μ := fun kc kc14 i cc hi hcc => by
      have hK := h.K8 hi
      have hL := h.lane hi hcc
      have e2 : (2 * i + cc) / 2 = i := by omega
      have e3 : (2 * i + cc) % 2 = cc := by omega
      have key := loop_up (fun n j (s : Int32) => L_X0_greatestTotal_35 kc kc14 n 7 s (nI i) (nI cc) (12 + 9 * i + 3 * cc) j μ) (min B (V i)) (fun j => nI (max (mf F (2 * i + cc)) (mf (G (2 * i + cc)) j))) (res := kc14 7 (nI (mf F (2 * i + cc + 1))) (nI i) (nI (cc + 1)) μ) (fun n j hj => by
        show L_X0_greatestTotal_35 kc kc14 (n + 1) 7 _ _ _ _ _ _ = _
        have a1 := lm (2 * i + cc) (by omega)
        have a2 := lb2 (2 * i + cc) j (by omega) (by rw [e2]; omega)
        have a3 := lg (2 * i + cc) j (by omega) (by rw [e2]; omega)
        have g1 : G (2 * i + cc) j = seg (cn (sf (S 0) i) cc) (sb (S 0) i cc j) (sb (S 0) i cc (j + 1)) := by rw [hG]; show seg (cn (sf (S 0) ((2 * i + cc) / 2)) ((2 * i + cc) % 2)) _ _ = _; rw [e2, e3]
        rw [L_X0_greatestTotal_35, bd_eq (lane_size hL), if_neg (nI_ge hj (by omega)), bd_eq (lane_total hL hK.2.1 hj), ← g1, imax_nI (by omega) (by omega), lb_e, lb_e, nI_1]
        rw [Nat.max_assoc]
        rfl) (fun n => by
        show L_X0_greatestTotal_35 kc kc14 (n + 1) 7 _ _ _ _ _ _ = _
        rw [L_X0_greatestTotal_35, bd_eq (lane_size hL), if_pos (nI_le (Nat.le_refl _) (by omega)), lb_e, nI_1]
        have f1 : mf F (2 * i + cc + 1) = max (mf F (2 * i + cc)) (F (2 * i + cc)) := rfl
        have f2 : F (2 * i + cc) = mf (G (2 * i + cc)) (min B (V i)) := by rw [hF]; show mf (G (2 * i + cc)) (min B (V ((2 * i + cc) / 2))) = _; rw [e2]
        rw [f1, f2])
      have k0 := key 100000 0 (by omega) (by omega)
      rw [show max (mf F (2 * i + cc)) (mf (G (2 * i + cc)) 0) = mf F (2 * i + cc) from Nat.max_eq_left (Nat.zero_le _)] at k0
      exact k0
    have key := loop_up (fun n i (s : Int32) => L_X0_greatestTotal_4 n 7 s i μ) T (fun i => nI (mf F (2 * i))) (res := some (nI (mf F (2 * T)), μ)) (fun n i hi => by
      show L_X0_greatestTotal_4 (n + 1) 7 _ _ _ = _
      have stp : ∀ n' cc, cc < 2 → L_X0_greatestTotal_14 (L_X0_greatestTotal_4 n) (n' + 1) 7 (nI (mf F (2 * i + cc))) (nI i) (nI cc) μ = L_X0_greatestTotal_14 (L_X0_greatestTotal_4 n) n' 7 (nI (mf F (2 * i + cc + 1))) (nI i) (nI (cc + 1)) μ := fun n' cc hcc => by
        rw [L_X0_greatestTotal_14, if_neg (l_nle hcc (by omega)), gq_in (by omega) (by omega), gq_in (by omega) (by omega), lp_eq (by omega) hcc, inn _ _ i cc hi hcc]
      rw [L_X0_greatestTotal_4, h.xt, if_neg (nI_ge hi (by omega))]
      refine (stp 99999 0 (by omega)).trans ((stp 99998 1 (by omega)).trans ?_)
      show L_X0_greatestTotal_14 (L_X0_greatestTotal_4 n) (99997 + 1) 7 _ (nI i) (nI 2) μ = _
      rw [L_X0_greatestTotal_14, if_pos (by decide), lb_e, nI_1]
      rfl) (fun n => by
      show L_X0_greatestTotal_4 (n + 1) 7 _ _ _ = _
      rw [L_X0_greatestTotal_4, h.xt, if_pos (nI_le (Nat.le_refl _) (by omega))])
    exact key 100000 0 (by omega) (by omega)
  · unfold G_X11_greatestTotal
    have key := loop_up (fun n k (s : Int32) => L_X11_greatestTotal_4 n s k μ) (2 * T) (fun k => nI (mf F k)) (res := some (nI (mf F (2 * T)), μ)) (fun n k hk => by
      show L_X11_greatestTotal_4 (n + 1) _ _ _ = _
      have hK := h.K8 (t := k / 2) (by omega)
      have hM := h.tab (t := k / 2) (by omega)
      rw [L_X11_greatestTotal_4, h.mt, i2, pk_mul, if_neg (nI_ge hk (by omega))]
      have key2 := loop_up (fun n' j (s : Int32) => L_X11_greatestTotal_16 (L_X11_greatestTotal_4 n) n' s (nI k) j μ) (min B (V (k / 2))) (fun j => nI (max (mf F k) (mf (G k) j))) (res := L_X11_greatestTotal_4 n (nI (mf F (k + 1))) (nI (k + 1)) μ) (fun n' j hj => by
        show L_X11_greatestTotal_16 (L_X11_greatestTotal_4 n) (n' + 1) _ _ _ _ = _
        have a1 := lm k (by omega)
        have a2 := lb2 k j hk (by omega)
        have a3 := lg k j hk hj
        have g1 : G k j = seg (cn (sf (S 0) (k / 2)) (k % 2)) (sb (S 0) (k / 2) (k % 2) j) (sb (S 0) (k / 2) (k % 2) (j + 1)) := by rw [hG]
        rw [L_X11_greatestTotal_16, (h2d (k := k) (by omega)).2, (h2d (k := k) (by omega)).1, bd_eq (col_many hM (by omega) (by omega)), if_neg (nI_ge hj (by omega)), bd_eq (col_of2 hM (by omega) (by omega) hK.2.1 hj), ← g1, imax_nI (by omega) (by omega), lb_e, lb_e, nI_1]
        rw [Nat.max_assoc]
        rfl) (fun n' => by
        show L_X11_greatestTotal_16 (L_X11_greatestTotal_4 n) (n' + 1) _ _ _ _ = _
        rw [L_X11_greatestTotal_16, (h2d (k := k) (by omega)).2, (h2d (k := k) (by omega)).1, bd_eq (col_many hM (by omega) (by omega)), if_pos (nI_le (Nat.le_refl _) (by omega)), lb_e, nI_1]
        have f1 : mf F (k + 1) = max (mf F k) (F k) := rfl
        have f2 : F k = mf (G k) (min B (V (k / 2))) := by rw [hF]
        rw [f1, f2])
      have k0 := key2 100000 0 (by omega) (by omega)
      rw [show max (mf F k) (mf (G k) 0) = mf F k from Nat.max_eq_left (Nat.zero_le _)] at k0
      exact k0) (fun n => by
      show L_X11_greatestTotal_4 (n + 1) _ _ _ = _
      rw [L_X11_greatestTotal_4, h.mt, i2, pk_mul, if_pos (nI_le (Nat.le_refl _) (by omega))])
    exact key 100000 0 (by omega) (by omega)
theorem most3 (h : RB c T V B D m S μ) : ∃ M, G_X0_mostAlike 7 μ = some (nI M, μ) ∧ G_X11_mostAlike μ = some (nI M, μ) := by
  have hT := h.T3
  have lc : ∀ t a b, t < T → a ≤ 16 → b ≤ 16 → sf (S 0) t a b ≤ 999 := fun t a b ht ha hb => Nat.le_trans (cell_le _ ha hb) (h.sw ht).2.1
  obtain ⟨F, hF⟩ : ∃ F : Nat → Nat, F = fun t => mf (fun j => sf (S 0) t (j / 17) (j % 17)) 289 := ⟨_, rfl⟩
  have eF : ∀ t, F t = mf (fun j => sf (S 0) t (j / 17) (j % 17)) 289 := fun t => by rw [hF]
  have lF : ∀ t k, t < T → k ≤ 289 → mf (fun j => sf (S 0) t (j / 17) (j % 17)) k ≤ 999 := fun t k ht hk => mf_bd fun j hj => lc t _ _ ht (by omega) (by omega)
  have lM : ∀ t, t ≤ T → mf F t ≤ 999 := fun t ht => mf_bd fun j hj => by rw [eF]; exact lF j 289 (by omega) (by omega)
  refine ⟨mf F T, ?_, ?_⟩
  · unfold G_X0_mostAlike
    have sh : ∀ t, t < T → G_X7_mostAlike (9 + 9 * t) μ = some (nI (F t), μ) := fun t ht => by
      have hS := h.sheet ht
      have lX : ∀ k, k ≤ 289 → mf (fun j => sf (S 0) t (yk (j / 17)) (yk (j % 17))) k ≤ 999 := fun k hk => mf_bd fun j hj => lc t _ _ ht (yk_le (by omega)) (yk_le (by omega))
      have pe : mf (fun j => sf (S 0) t (yk (j / 17)) (yk (j % 17))) 289 = F t := by
        rw [eF]
        apply mf_perm
        · intro k hk
          refine ⟨17 * yk (k / 17) + yk (k % 17), ?_, ?_⟩
          · have := yk_le (a := k / 17) (by omega)
            have := yk_le (a := k % 17) (by omega)
            omega
          · have b := yk_le (a := k % 17) (by omega)
            show _ = sf (S 0) t ((17 * yk (k / 17) + yk (k % 17)) / 17) ((17 * yk (k / 17) + yk (k % 17)) % 17)
            rw [show (17 * yk (k / 17) + yk (k % 17)) / 17 = yk (k / 17) by omega, show (17 * yk (k / 17) + yk (k % 17)) % 17 = yk (k % 17) by omega]
        · intro k hk
          refine ⟨17 * xk (k / 17) + xk (k % 17), ?_, ?_⟩
          · have := xk_le (a := k / 17) (by omega)
            have := xk_le (a := k % 17) (by omega)
            omega
          · have b := xk_le (a := k % 17) (by omega)
            show _ = sf (S 0) t (yk ((17 * xk (k / 17) + xk (k % 17)) / 17)) (yk ((17 * xk (k / 17) + xk (k % 17)) % 17))
            rw [show (17 * xk (k / 17) + xk (k % 17)) / 17 = xk (k / 17) by omega, show (17 * xk (k / 17) + xk (k % 17)) % 17 = xk (k % 17) by omega, yk_xk (by omega), yk_xk (by omega)]
      unfold G_X7_mostAlike
      have key := loop_up (fun n j (s : Int32) => L_X7_mostAlike_4 n (9 + 9 * t) s j μ) 289 (fun j => nI (mf (fun j => sf (S 0) t (yk (j / 17)) (yk (j % 17))) j)) (res := some (nI (F t), μ)) (fun n j hj => by
        show L_X7_mostAlike_4 (n + 1) _ _ _ _ = _
        have a1 := lX j (by omega)
        have a2 := lc t (yk (j / 17)) (yk (j % 17)) ht (yk_le (by omega)) (yk_le (by omega))
        have e : rI μ (9 + 9 * t + 1) j = nI (sf (S 0) t (yk (j / 17)) (yk (j % 17))) := by
          have := hS.2.2.1 (yk (j / 17)) (yk (j % 17)) (yk_le (by omega)) (yk_le (by omega))
          rw [xk_yk (by omega), xk_yk (by omega), show 17 * (j / 17) + j % 17 = j by omega] at this
          exact this
        rw [L_X7_mostAlike_4, if_neg (l_nle hj (by omega)), gq_in (by omega) (by omega), nx_nI (by omega), e, imax_nI (by omega) (by omega), lb_e, lb_e, nI_1]
        rfl) (fun n => by
        show L_X7_mostAlike_4 (n + 1) _ _ _ _ = _
        rw [L_X7_mostAlike_4, if_pos (by decide), pe])
      exact key 100000 0 (by omega) (by omega)
    have key := loop_up (fun n i (s : Int32) => L_X0_mostAlike_4 n 7 s i μ) T (fun i => nI (mf F i)) (res := some (nI (mf F T), μ)) (fun n i hi => by
      show L_X0_mostAlike_4 (n + 1) _ _ _ _ = _
      have a1 := lM i (by omega)
      have a2 := lF i 289 hi (by omega)
      rw [← eF] at a2
      rw [L_X0_mostAlike_4, h.xt, if_neg (nI_ge hi (by omega)), gq_in (by omega) (by omega), sp_eq (by omega), bd_eq (sh i hi), imax_nI (by omega) (by omega), lb_e, lb_e, nI_1]
      rfl) (fun n => by
      show L_X0_mostAlike_4 (n + 1) _ _ _ _ = _
      rw [L_X0_mostAlike_4, h.xt, if_pos (nI_le (Nat.le_refl _) (by omega))])
    exact key 100000 0 (by omega) (by omega)
  · unfold G_X11_mostAlike
    have key := loop_up (fun n i (s : Int32) => L_X11_mostAlike_4 n s i μ) T (fun i => nI (mf F i)) (res := some (nI (mf F T), μ)) (fun n i hi => by
      show L_X11_mostAlike_4 (n + 1) _ _ _ = _
      have hM := h.tab hi
      rw [L_X11_mostAlike_4, h.mt, if_neg (nI_ge hi (by omega))]
      have key2 := loop_up (fun n' j (s : Int32) => L_X11_mostAlike_14 (L_X11_mostAlike_4 n) n' s (nI i) j μ) 289 (fun j => nI (max (mf F i) (mf (fun j => sf (S 0) i (j / 17) (j % 17)) j))) (res := L_X11_mostAlike_4 n (nI (mf F (i + 1))) (nI (i + 1)) μ) (fun n' j hj => by
        show L_X11_mostAlike_14 (L_X11_mostAlike_4 n) (n' + 1) _ _ _ _ = _
        have a1 := lM i (by omega)
        have a2 := lF i j hi (by omega)
        have a3 := lc i (j / 17) (j % 17) hi (by omega) (by omega)
        rw [L_X11_mostAlike_14, if_neg (l_nle hj (by omega)), show (357 : Int32) = nI 357 from rfl, pk_mul, nI_add, gq_in (by omega) (by omega), nx_nI (by omega), hM.c hj, imax_nI (by omega) (by omega), lb_e, lb_e, nI_1]
        rw [Nat.max_assoc]
        rfl) (fun n' => by
        show L_X11_mostAlike_14 (L_X11_mostAlike_4 n) (n' + 1) _ _ _ _ = _
        rw [L_X11_mostAlike_14, if_pos (by decide), lb_e, nI_1, ← eF]
        rfl)
      have k0 := key2 100000 0 (by omega) (by omega)
      rw [show max (mf F i) (mf (fun j => sf (S 0) i (j / 17) (j % 17)) 0) = mf F i from Nat.max_eq_left (Nat.zero_le _)] at k0
      exact k0) (fun n => by
      show L_X11_mostAlike_4 (n + 1) _ _ _ = _
      rw [L_X11_mostAlike_4, h.mt, if_pos (nI_le (Nat.le_refl _) (by omega))])
    exact key 100000 0 (by omega) (by omega)
theorem countIn_ok (h : RB c T V B D m S μ) {t k v : Nat} (ht : t < T) (hk : k < 2) (hv : v < 16) : G_X11_countIn (nI t) (nI k) (nI v) μ = some (nI (if v < V t then cn (sf (S 0) t) k v else 0), μ) := by
  have hT := h.T3
  have hV := h.V2 ht
  unfold G_X11_countIn
  rw [gq_in (by omega) (by omega), nx_nI (by omega), h.mv ht]
  by_cases q : v < V t
  · rw [if_pos q, if_neg (nI_ge q (by omega)), bd_eq (countAt_v (h.tab ht) (by omega) hk hv)]
  · rw [if_neg q, if_pos (nI_le (by omega) (by omega))]
    rfl
/-- the first with the greatest so far -/
def vs1 (v x : Nat) (s : Nat × Int) : Nat × Int := if s.2 < (x : Int) then (v, (x : Int)) else s
def vsI (C : Nat → Nat → Nat) (v : Nat) (s : Nat × Int) : Nat → Nat × Int
  | 0 => s
  | k + 1 => vs1 v (C v k) (vsI C v s k)
def vsO (C : Nat → Nat → Nat) (K : Nat) : Nat → Nat × Int
  | 0 => (0, -1)
  | v + 1 => vsI C v (vsO C K v) K
theorem vs1_ok {ρ : Type} {v x : Nat} {s : Nat × Int} (hx : x < 1000) (h1 : -1 ≤ s.2) (h2 : s.2 < 1000) {f : Int32 → Int32 → ρ} : (if nI x ≤ zI s.2 then f (nI s.1) (zI s.2) else f (nI v) (nI x)) = f (nI (vs1 v x s).1) (zI (vs1 v x s).2) ∧ -1 ≤ (vs1 v x s).2 ∧ (vs1 v x s).2 < 1000 := by
  unfold vs1
  have e : nI x ≤ zI s.2 ↔ (x : Int) ≤ s.2 := by rw [fa_le, nI_toInt (by omega), zI_toInt (by omega) (by omega)]
  by_cases q : s.2 < (x : Int)
  · rw [if_pos q, if_neg (fun z => by have := e.mp z; omega)]
    refine ⟨?_, ?_, ?_⟩
    · show _ = f (nI v) (zI (x : Int)); rw [← nI_zI]
    · show -1 ≤ (x : Int); omega
    · show (x : Int) < 1000; omega
  · rw [if_neg q, if_pos (e.mpr (by omega))]
    exact ⟨rfl, h1, h2⟩
theorem most5 (h : RB c T V B D m S μ) : ∃ b, G_X0_valueSeenMost 7 μ = some (nI b, μ) ∧ G_X11_commonest μ = some (nI b, μ) := by
  have hT := h.T3
  obtain ⟨C, hC⟩ : ∃ C : Nat → Nat → Nat, C = fun v k => if v < V (k / 2) then cn (sf (S 0) (k / 2)) (k % 2) v else 0 := ⟨_, rfl⟩
  have eC : ∀ v k, C v k = if v < V (k / 2) then cn (sf (S 0) (k / 2)) (k % 2) v else 0 := fun v k => by rw [hC]
  have lC : ∀ v k, v < 16 → k < 2 * T → C v k < 1000 := fun v k hv hk => by
    rw [eC]
    have := cn_le (sf (S 0) (k / 2)) (c := k % 2) (a := v) (by omega) (by omega)
    have := (h.sw (t := k / 2) (by omega)).2.1
    split <;> omega
  have lI : ∀ v (s : Nat × Int), v < 16 → -1 ≤ s.2 → s.2 < 1000 → ∀ k, k ≤ 2 * T → -1 ≤ (vsI C v s k).2 ∧ (vsI C v s k).2 < 1000 := fun v s hv s1 s2 k => by
    induction k with
    | zero => intro _; exact ⟨s1, s2⟩
    | succ k ih =>
      intro hk
      obtain ⟨a, b⟩ := ih (by omega)
      exact (vs1_ok (ρ := Unit) (lC v k hv (by omega)) a b (f := fun _ _ => ())).2
  have lO : ∀ v, v ≤ 16 → -1 ≤ (vsO C (2 * T) v).2 ∧ (vsO C (2 * T) v).2 < 1000 := fun v => by
    induction v with
    | zero => intro _; exact ⟨by show (-1 : Int) ≤ -1; omega, by show (-1 : Int) < 1000; omega⟩
    | succ v ih =>
      intro hv
      obtain ⟨a, b⟩ := ih (by omega)
      exact lI v _ (by omega) a b (2 * T) (Nat.le_refl _)
  refine ⟨(vsO C (2 * T) 16).1, ?_, ?_⟩
  · unfold G_X0_valueSeenMost
    have key := loop_up (fun n v (s : Int32 × Int32) => L_X0_valueSeenMost_6 n 7 s.1 s.2 v μ) 16 (fun v => (nI (vsO C (2 * T) v).1, zI (vsO C (2 * T) v).2)) (res := some (nI (vsO C (2 * T) 16).1, μ)) (fun n v hv => by
      show L_X0_valueSeenMost_6 (n + 1) 7 _ _ _ _ = _
      obtain ⟨o1, o2⟩ := lO v (by omega)
      rw [L_X0_valueSeenMost_6, if_neg (l_nle hv (by omega))]
      have key2 := loop_up (fun n' i (s : Int32 × Int32) => L_X0_valueSeenMost_15 (L_X0_valueSeenMost_6 n) n' 7 s.1 s.2 (nI v) i μ) T (fun i => (nI (vsI C v (vsO C (2 * T) v) (2 * i)).1, zI (vsI C v (vsO C (2 * T) v) (2 * i)).2)) (res := L_X0_valueSeenMost_6 n 7 (nI (vsO C (2 * T) (v + 1)).1) (zI (vsO C (2 * T) (v + 1)).2) (nI (v + 1)) μ) (fun n' i hi => by
        show L_X0_valueSeenMost_15 (L_X0_valueSeenMost_6 n) (n' + 1) 7 _ _ _ _ _ = _
        have hV := h.V2 hi
        rw [L_X0_valueSeenMost_15, h.xt, if_neg (nI_ge hi (by omega))]
        have stp : ∀ n3 cc, cc < 2 → L_X0_valueSeenMost_27 (L_X0_valueSeenMost_6 n) (L_X0_valueSeenMost_15 (L_X0_valueSeenMost_6 n) n') (n3 + 1) 7 (nI (vsI C v (vsO C (2 * T) v) (2 * i + cc)).1) (zI (vsI C v (vsO C (2 * T) v) (2 * i + cc)).2) (nI v) (nI i) (nI cc) μ = L_X0_valueSeenMost_27 (L_X0_valueSeenMost_6 n) (L_X0_valueSeenMost_15 (L_X0_valueSeenMost_6 n) n') n3 7 (nI (vsI C v (vsO C (2 * T) v) (2 * i + cc + 1)).1) (zI (vsI C v (vsO C (2 * T) v) (2 * i + cc + 1)).2) (nI v) (nI i) (nI (cc + 1)) μ := fun n3 cc hcc => by
          obtain ⟨p1, p2⟩ := lI v _ hv o1 o2 (2 * i + cc) (by omega)
          have e : (if v < V i then cn (sf (S 0) i) cc v else 0) = C v (2 * i + cc) := by
            rw [eC, show (2 * i + cc) / 2 = i by omega, show (2 * i + cc) % 2 = cc by omega]
          rw [L_X0_valueSeenMost_27, if_neg (l_nle hcc (by omega)), gq_in (by omega) (by omega), gq_in (by omega) (by omega), lp_eq (by omega) hcc, bd_eq (lane_countAt (h.lane hi hcc) hV.2 (by omega)), e]
          unfold F_X0_valueSeenMost_63
          rw [lb_e, lb_e, nI_1]
          exact (vs1_ok (lC v (2 * i + cc) hv (by omega)) p1 p2 (f := fun x y => L_X0_valueSeenMost_27 (L_X0_valueSeenMost_6 n) (L_X0_valueSeenMost_15 (L_X0_valueSeenMost_6 n) n') n3 7 x y (nI v) (nI i) (nI (cc + 1)) μ)).1
        refine (stp 99999 0 (by omega)).trans ((stp 99998 1 (by omega)).trans ?_)
        show L_X0_valueSeenMost_27 (L_X0_valueSeenMost_6 n) (L_X0_valueSeenMost_15 (L_X0_valueSeenMost_6 n) n') (99997 + 1) 7 _ _ (nI v) (nI i) (nI 2) μ = _
        rw [L_X0_valueSeenMost_27, if_pos (by decide), lb_e, nI_1]
        rfl) (fun n' => by
        show L_X0_valueSeenMost_15 (L_X0_valueSeenMost_6 n) (n' + 1) 7 _ _ _ _ _ = _
        rw [L_X0_valueSeenMost_15, h.xt, if_pos (nI_le (Nat.le_refl _) (by omega)), lb_e, nI_1]
        rfl)
      exact key2 100000 0 (by omega) (by omega)) (fun n => by
      show L_X0_valueSeenMost_6 (n + 1) 7 _ _ _ _ = _
      rw [L_X0_valueSeenMost_6, if_pos (by decide)])
    exact key 100000 0 (by omega) (by omega)
  · unfold G_X11_commonest
    have key := loop_up (fun n v (s : Int32 × Int32) => L_X11_commonest_6 n s.1 s.2 v μ) 16 (fun v => (nI (vsO C (2 * T) v).1, zI (vsO C (2 * T) v).2)) (res := some (nI (vsO C (2 * T) 16).1, μ)) (fun n v hv => by
      show L_X11_commonest_6 (n + 1) _ _ _ _ = _
      obtain ⟨o1, o2⟩ := lO v (by omega)
      rw [L_X11_commonest_6, if_neg (l_nle hv (by omega))]
      have key2 := loop_up (fun n' k (s : Int32 × Int32) => L_X11_commonest_15 (L_X11_commonest_6 n) n' s.1 s.2 (nI v) k μ) (2 * T) (fun k => (nI (vsI C v (vsO C (2 * T) v) k).1, zI (vsI C v (vsO C (2 * T) v) k).2)) (res := L_X11_commonest_6 n (nI (vsO C (2 * T) (v + 1)).1) (zI (vsO C (2 * T) (v + 1)).2) (nI (v + 1)) μ) (fun n' k hk => by
        show L_X11_commonest_15 (L_X11_commonest_6 n) (n' + 1) _ _ _ _ _ = _
        obtain ⟨p1, p2⟩ := lI v _ hv o1 o2 k (by omega)
        rw [L_X11_commonest_15, h.mt, (h2d (k := k) (by omega)).2, (h2d (k := k) (by omega)).1, i2, pk_mul, if_neg (nI_ge hk (by omega)), bd_eq (countIn_ok h (by omega) (by omega) hv), ← eC]
        unfold F_X11_commonest_52
        rw [lb_e, lb_e, nI_1]
        exact (vs1_ok (lC v k hv (by omega)) p1 p2 (f := fun x y => L_X11_commonest_15 (L_X11_commonest_6 n) n' x y (nI v) (nI (k + 1)) μ)).1) (fun n' => by
        show L_X11_commonest_15 (L_X11_commonest_6 n) (n' + 1) _ _ _ _ _ = _
        rw [L_X11_commonest_15, h.mt, i2, pk_mul, if_pos (nI_le (Nat.le_refl _) (by omega)), lb_e, nI_1]
        rfl)
      exact key2 100000 0 (by omega) (by omega)) (fun n => by
      show L_X11_commonest_6 (n + 1) _ _ _ _ = _
      rw [L_X11_commonest_6, if_pos (by decide)])
    exact key 100000 0 (by omega) (by omega)
theorem a_most (h : RR c μ) (x : Int32) : Ans c (G_X10_most x μ) (G_X11_most x) := by
  have h0 := h
  obtain ⟨-, -, -, T, V, B, D, m, S, hB, hP, -⟩ := h0
  have hT := hB.T3
  by_cases hT0 : 0 < T
  · have xb : G_X10_hasBook μ = some (1, μ) := by have := xBook hB.xt hT; rw [if_pos hT0] at this; exact this
    have mb : G_X11_isBook μ = some (1, μ) := by have := mBook hB.mt hT; rw [if_pos hT0] at this; exact this
    obtain ⟨m0x, m0m⟩ := most0 hB hT0
    obtain ⟨b1, m1x, m1m⟩ := most1 hB hT0
    obtain ⟨b2, m2x, m2m⟩ := most2 hB hT0
    obtain ⟨b3, m3x, m3m⟩ := most3 hB
    obtain ⟨b5, m5x, m5m⟩ := most5 hB
    have m4x := xall hB.2.2.2.2.1 hT
    have m4m := mall hB.mt hB.2.2.2.2.2.2.2.2.2 hT
    have no : (x < 0 ∨ nI 6 ≤ x) → Ans c (G_X10_most x μ) (G_X11_most x) := fun hx => by
      refine Ans.p (r := -1000000) h ?_ ?_
      · unfold G_X10_most
        rw [bd_eq xb, if_neg (by decide), if_neg (out_ne (m := 0) hx (by omega) (by omega)), if_neg (out_ne (m := 1) hx (by omega) (by omega)), if_neg (out_ne (m := 2) hx (by omega) (by omega)), if_neg (out_ne (m := 3) hx (by omega) (by omega)), if_neg (out_ne (m := 4) hx (by omega) (by omega)), if_neg (out_ne (m := 5) hx (by omega) (by omega))]
      · unfold G_X11_most
        rw [bd_eq mb, if_neg (by decide), bd_eq (inL_no (m := 5) (by decide) (by omega) hx), if_pos rfl]
    have xe : G_X10_most x μ = if x = (0 : Int32) then some (nI (am (fun t => rws (sf (S 0) t)) T), μ) else (if x = (1 : Int32) then some (nI (10 * (b1 / 2) + b1 % 2), μ) else (if x = (2 : Int32) then some (nI b2, μ) else (if x = (3 : Int32) then some (nI b3, μ) else (if x = (4 : Int32) then some (nI (allR T (S 0)), μ) else (if x = (5 : Int32) then some (nI b5, μ) else some (-1000000, μ)))))) := by
      unfold G_X10_most
      rw [bd_eq xb, if_neg (by decide), bd_eq m0x, bd_eq m1x, bd_eq m2x, bd_eq m3x, bd_eq m4x, bd_eq m5x]
    have me : ∀ j, j < 6 → G_X11_most (nI j) μ = if nI j = (0 : Int32) then some (nI (am (fun t => rws (sf (S 0) t)) T), μ) else (if nI j = (1 : Int32) then some (nI (10 * (b1 / 2) + b1 % 2), μ) else (if nI j = (2 : Int32) then some (nI b2, μ) else (if nI j = (3 : Int32) then some (nI b3, μ) else (if nI j = (4 : Int32) then some (nI (allR T (S 0)), μ) else some (nI b5, μ))))) := fun j hj => by
      unfold G_X11_most
      rw [bd_eq mb, if_neg (by decide), bd_eq (inL_yes (m := 5) (by decide) (by omega) (by omega)), if_neg (by decide), bd_eq m0m, bd_eq m1m, bd_eq m2m, bd_eq m3m, bd_eq m4m, bd_eq m5m]
    rcases pk_ix x (n := 6) (by omega) with hx | hx | ⟨j, hj, rfl⟩
    · exact no (Or.inl hx)
    · exact no (Or.inr hx)
    · rcases (show j = 0 ∨ j = 1 ∨ j = 2 ∨ j = 3 ∨ j = 4 ∨ j = 5 by omega) with rfl | rfl | rfl | rfl | rfl | rfl
      all_goals exact Ans.p h (xe.trans rfl) ((me _ (by omega)).trans rfl)
  · have xb : G_X10_hasBook μ = some (0, μ) := by have := xBook hB.xt hT; rw [if_neg hT0] at this; exact this
    have mb : G_X11_isBook μ = some (0, μ) := by have := mBook hB.mt hT; rw [if_neg hT0] at this; exact this
    refine Ans.p (r := -1000000) h ?_ ?_
    · unfold G_X10_most; rw [bd_eq xb, if_pos rfl]
    · unfold G_X11_most; rw [bd_eq mb, if_pos rfl]
end Mo
