/-! the least errors: the class, all of it -/
section X
variable {v p k n : Nat} {g : Nat → Nat} {μ0 μ : Mem}
def LYD (g : Nat → Nat) (n : Nat) (j u : Nat) (μ : Mem) : Prop := rI μ 99 3 = nI n ∧ (∀ a b, a < b → b ≤ n → rL μ 100 (17 * a + b) = lN (ct g a b)) ∧ ∀ j' u', 1 ≤ j' → u' + j' ≤ n → (j' < j ∨ (j' = j ∧ u' < u)) → rL μ 101 (17 * j' + u') = lN (Wt g n j' u') ∧ (2 ≤ j' → rI μ 102 (17 * j' + u') = nI (sec g n j' u'))
def LY (g : Nat → Nat) (n k : Nat) (μ : Mem) : Prop := (∀ j u, 1 ≤ j → j ≤ k → u + j ≤ n → rL μ 101 (17 * j + u) = lN (Wt g n j u) ∧ (2 ≤ j → rI μ 102 (17 * j + u) = nI (sec g n j u))) ∧ rI μ 99 4 = nI (trA g n k) ∧ rI μ 99 5 = nI (plA n k)
theorem sv_in {kc : Int32 → Int32 → Mem → Option (Unit × Mem)} {j t0 p0 : Nat} (hn : n ≤ 16) (hg : fb_sm g n ≤ 999) (hj : 2 ≤ j) (hjn : j ≤ n) (hf : Fr LQ μ0 μ) (hD : LYD g n j 0 μ) (ht : rI μ 99 4 = nI t0) (hp : rI μ 99 5 = nI p0) : ∃ μ', L_X5_solve_84 kc 100000 (nI k) (nI j) 0 μ = kc (nI k) (nI (j + 1)) μ' ∧ Fr LQ μ0 μ' ∧ LYD g n (j + 1) 0 μ' ∧ rI μ' 99 4 = nI (t0 + fb_sm (fun u => trs g n j u) (n - j + 1)) ∧ rI μ' 99 5 = nI (p0 + fb_sm (fun u => n - j + 1 - u) (n - j + 1)) := by
  refine loop_inv (fun m i (s : Mem) => L_X5_solve_84 kc m (nI k) (nI j) i s) (n - j + 1) (fun u s => Fr LQ μ0 s ∧ LYD g n j u s ∧ rI s 99 4 = nI (t0 + fb_sm (fun u => trs g n j u) u) ∧ rI s 99 5 = nI (p0 + fb_sm (fun u => n - j + 1 - u) u)) (P := fun o => ∃ μ', o = kc (nI k) (nI (j + 1)) μ' ∧ Fr LQ μ0 μ' ∧ LYD g n (j + 1) 0 μ' ∧ rI μ' 99 4 = nI (t0 + fb_sm (fun u => trs g n j u) (n - j + 1)) ∧ rI μ' 99 5 = nI (p0 + fb_sm (fun u => n - j + 1 - u) (n - j + 1))) ?_ ?_ 100000 0 μ (by omega) (by omega) ⟨hf, hD, ht, hp⟩
  · rintro m u s hu ⟨f, ⟨q3, E, D⟩, t4, t5⟩
    obtain ⟨s', e, sf', sl, si, s4, s5⟩ := seek_ok (u := u) hn hg hj (by omega) q3 E (fun e he => (D (j - 1) e (by omega) (by omega) (by omega)).1) t4 t5
    refine ⟨s', ⟨f.tr (sf'.mono (fun q i h => by unfold SKF at h; unfold LQ; omega)), ⟨(sf'.i (by unfold SKF; omega)).trans q3, fun a b h1 h2 => (sf'.l (by unfold SKF; omega)).trans (E a b h1 h2), fun j' u' h1 h2 h3 => ?_⟩, ?_, ?_⟩, ?_⟩
    · by_cases hq : j' = j ∧ u' = u
      · obtain ⟨rfl, rfl⟩ := hq
        exact ⟨sl, fun _ => si⟩
      · have := D j' u' h1 h2 (by omega)
        exact ⟨(sf'.l (by unfold SKF; omega)).trans this.1, fun h => (sf'.i (by unfold SKF; omega)).trans (this.2 h)⟩
    · rw [s4, fb_sm_succ]; congr 1; omega
    · rw [s5, fb_sm_succ]; congr 1; omega
    · show L_X5_solve_84 kc (m + 1) (nI k) (nI j) (nI u) s = _
      rw [L_X5_solve_84, q3, pk_sub (by omega), if_neg (nI_nlt (by omega) (by omega)), bd_eq e, lb_e, nI_1]
  · rintro m s ⟨f, ⟨q3, E, D⟩, t4, t5⟩
    refine ⟨s, ?_, f, ⟨q3, E, fun j' u' h1 h2 h3 => D j' u' h1 h2 (by omega)⟩, t4, t5⟩
    show L_X5_solve_84 kc (m + 1) (nI k) (nI j) (nI (n - j + 1)) s = _
    rw [L_X5_solve_84, q3, pk_sub (by omega), if_pos (nI_lt (by omega) (by omega)), lb_e, nI_1]
theorem sv_out (hn : n ≤ 16) (hg : fb_sm g n ≤ 999) (hk : 1 ≤ k) (hkn : k ≤ n) (hf : Fr LQ μ0 μ) (hD : LYD g n 2 0 μ) (ht : rI μ 99 4 = nI (trA g n 1)) (hp : rI μ 99 5 = nI (plA n 1)) : ∃ μ', L_X5_solve_76 100000 (nI k) 2 μ = some ((), μ') ∧ Fr LQ μ0 μ' ∧ LY g n k μ' := by
  refine loop_inv (fun m i (s : Mem) => L_X5_solve_76 m (nI k) i s) (k + 1) (fun j s => 2 ≤ j ∧ Fr LQ μ0 s ∧ LYD g n j 0 s ∧ rI s 99 4 = nI (trA g n (j - 1)) ∧ rI s 99 5 = nI (plA n (j - 1))) (P := fun o => ∃ μ', o = some ((), μ') ∧ Fr LQ μ0 μ' ∧ LY g n k μ') ?_ ?_ 100000 2 μ (by omega) (by omega) ⟨by omega, hf, hD, ht, hp⟩
  · rintro m j s hj ⟨j2, f, D, t4, t5⟩
    obtain ⟨s', e, f', D', t4', t5'⟩ := sv_in (kc := L_X5_solve_76 m) (k := k) hn hg j2 (by omega) f D t4 t5
    refine ⟨s', ⟨by omega, f', D', ?_, ?_⟩, ?_⟩
    · have z : trA g n (j - 1 + 1) = trA g n (j - 1) + fb_sm (fun v => trs g n (j - 1 + 1) v) (n - (j - 1 + 1) + 1) := rfl
      rw [show j - 1 + 1 = j by omega] at z
      rw [t4', show j + 1 - 1 = j by omega, z]
    · have z : plA n (j - 1 + 1) = plA n (j - 1) + fb_sm (fun v => if j - 1 = 0 then 1 else n - (j - 1 + 1) + 1 - v) (n - (j - 1 + 1) + 1) := rfl
      rw [show j - 1 + 1 = j by omega] at z
      rw [t5', show j + 1 - 1 = j by omega, z]
      congr 2
      exact fb_sm_cong fun u _ => (if_neg (by omega)).symm
    · show L_X5_solve_76 (m + 1) (nI k) (nI j) s = _
      rw [L_X5_solve_76, if_neg (nI_nlt (by omega) (by omega))]
      exact e
  · rintro m s ⟨j2, f, D, t4, t5⟩
    refine ⟨s, ?_, f, fun j u h1 h2 h3 => D.2.2 j u h1 h3 (by omega), t4, t5⟩
    show L_X5_solve_76 (m + 1) (nI k) (nI (k + 1)) s = _
    rw [L_X5_solve_76, if_pos (nI_lt (by omega) (by omega))]
theorem solve_ok (hn : n ≤ 16) (hg : fb_sm g n ≤ 999) (hk : 1 ≤ k) (hkn : k ≤ n) (hp : p + 1 < 99 ∨ 102 < p) (hC : CL n g p μ) : ∃ μ', G_X5_solve p (nI k) μ = some ((), μ') ∧ Fr LQ μ μ' ∧ LY g n k μ' := by
  obtain ⟨μ1, e, f1, q3, E⟩ := fe_ok hn hg hp hC
  unfold G_X5_solve
  rw [bd_eq e, lb_e, lb_e]
  refine loop_inv (fun m i (s : Mem) => L_X5_solve_17 m (nI k) i s) n (fun u s => Fr LQ μ s ∧ LYD g n 1 u s ∧ rI s 99 4 = nI u ∧ rI s 99 5 = nI u) (P := fun o => ∃ μ', o = some ((), μ') ∧ Fr LQ μ μ' ∧ LY g n k μ') ?_ ?_ 100000 0 (wI (wI μ1 99 4 0) 99 5 0) (by omega) (by omega) ⟨(f1.wI (by unfold LQ; omega)).wI (by unfold LQ; omega), ⟨by rw [rI_wI_off (by omega), rI_wI_off (by omega)]; exact q3, E, fun j' u' h1 h2 h3 => absurd h3 (by omega)⟩, by rw [rI_wI_off (by omega), rI_wI_at]; rfl, by rw [rI_wI_at]; rfl⟩
  · rintro m u s hu ⟨f, ⟨r3, E, D⟩, t4, t5⟩
    refine ⟨wI (wI (wL s 101 (17 + u) (lN (ct g u n))) 99 4 (nI (u + 1))) 99 5 (nI (u + 1)), ⟨((f.wL (by unfold LQ; omega)).wI (by unfold LQ; omega)).wI (by unfold LQ; omega), ⟨?_, fun a b h1 h2 => ?_, fun j' u' h1 h2 h3 => ⟨?_, fun h => absurd h (by omega)⟩⟩, ?_, ?_⟩, ?_⟩
    · rw [rI_wI_off (by omega), rI_wI_off (by omega), rI_wL]; exact r3
    · rw [rL_wI, rL_wI, rL_wL_ne (by omega)]; exact E a b h1 h2
    · rw [rL_wI, rL_wI]
      have hj' : j' = 1 := by omega
      subst hj'
      by_cases hq : u' = u
      · subst hq
        rw [Nat.mul_one, rL_wL_at, W_one hg hu]
      · rw [rL_wL_off (by omega)]
        exact (D 1 u' h1 h2 (by omega)).1
    · rw [rI_wI_off (by omega), rI_wI_at]
    · rw [rI_wI_at]
    · show L_X5_solve_17 (m + 1) (nI k) (nI u) s = _
      rw [L_X5_solve_17, r3, if_neg (nI_ge hu (by omega)), i17, pk_mul, nI_add, gq_in (by omega) (by omega), nI_add, gq_in (by omega) (by omega), nx_nI (by omega), nx_nI (by omega), show u * 17 + n = 17 * u + n by omega, E u n hu (Nat.le_refl n), lb_e, rI_wL, t4, nI_1, lb_e, rI_wI_off (by omega), rI_wL, t5, nI_1, lb_e, lb_e]
  · rintro m s ⟨f, ⟨r3, E, D⟩, t4, t5⟩
    have c1 : trA g n 1 = n := by
      show 0 + fb_sm (fun u => trs g n (0 + 1) u) (n - (0 + 1) + 1) = n
      rw [show (fun u => trs g n (0 + 1) u) = (fun _ => 1) from funext fun u => if_pos (by omega), fb_sm_const]
      omega
    have c2 : plA n 1 = n := by
      show 0 + fb_sm (fun u => if 0 = 0 then 1 else n - (0 + 1) + 1 - u) (n - (0 + 1) + 1) = n
      rw [show (fun u => if 0 = 0 then 1 else n - (0 + 1) + 1 - u) = (fun _ => 1) from funext fun u => if_pos rfl, fb_sm_const]
      omega
    obtain ⟨s', e, f', h⟩ := sv_out (k := k) hn hg hk hkn f ⟨r3, E, fun j' u' h1 h2 h3 => D j' u' h1 h2 (by omega)⟩ (by rw [c1]; exact t4) (by rw [c2]; exact t5)
    refine ⟨s', ?_, f', h⟩
    show L_X5_solve_17 (m + 1) (nI k) (nI n) s = _
    rw [L_X5_solve_17, r3, if_pos (nI_le (Nat.le_refl _) (by omega))]
    exact e
theorem least_ok (h : LY g n k μ) (hk : 1 ≤ k) (hkn : k ≤ n) (hn : n ≤ 16) {j : Nat} (hj : 1 ≤ j) (hjk : j ≤ k) : G_X5_leastBy (nI j) μ = some (lN (Wt g n j 0), μ) := by
  unfold G_X5_leastBy
  rw [i17, pk_mul, gq_in (by omega) (by omega), nx_nI (by omega), show j * 17 = 17 * j + 0 by omega, (h.1 j 0 hj hjk (by omega)).1]
theorem bord_ok (h : LY g n k μ) (hg : fb_sm g n ≤ 999) (hk : 1 ≤ k) (hkn : k ≤ n) (hn : n ≤ 16) {i : Nat} (hi : i < k) : G_X5_borderOf (nI k) (nI i) μ = some (nI (bo g n k i), μ) := by
  unfold G_X5_borderOf
  have key := loop_up (fun m x (s : Int32) => L_X5_borderOf_5 m (nI k) (nI i) s x μ) i (fun q => nI (bo g n k q)) (res := some (nI (bo g n k i), μ)) (fun m q hq => by
    show L_X5_borderOf_5 (m + 1) (nI k) (nI i) (nI (bo g n k q)) (nI q) μ = _
    have b := bo_spec hg hn hkn q (by omega)
    have e : bo g n k (q + 1) = sec g n (k - q) (bo g n k q) := if_pos (by omega)
    rw [L_X5_borderOf_5, if_neg (nI_ge hq (by omega)), pk_sub (by omega), i17, pk_mul, nI_add, gq_in (by omega) (by omega), nx_nI (by omega), show (k - q) * 17 + bo g n k q = 17 * (k - q) + bo g n k q by omega, (h.1 (k - q) (bo g n k q) (by omega) (by omega) (by omega)).2 (by omega), lb_e, lb_e, nI_1, ← e]) (fun m => by
    show L_X5_borderOf_5 (m + 1) (nI k) (nI i) (nI (bo g n k i)) (nI i) μ = _
    rw [L_X5_borderOf_5, if_pos (nI_le (Nat.le_refl _) (by omega))])
  exact key 100000 0 (by omega) (by omega)
def mxs (g : Nat → Nat) (a : Nat) : Nat → Nat
  | 0 => 0
  | w + 1 => max (mxs g a w) (g (a + w))
theorem mxs_le (g : Nat → Nat) (a : Nat) : ∀ w, mxs g a w ≤ ss g a w
  | 0 => Nat.le_refl _
  | w + 1 => by
    have := mxs_le g a w
    show max (mxs g a w) (g (a + w)) ≤ ss g a w + g (a + w)
    omega
/-- the greatests as they are built -/
def gb (g : Nat → Nat) (bd : Nat → Nat) (i : Nat) : Nat := mxs g (bd i) (bd (i + 1) - bd i)
theorem LW.built {D : Nat} (hg : fb_sm g n ≤ 999) (hn : n ≤ 16) (hk : 1 ≤ k) (hkn : k ≤ n) : LW n k D g (bo g n k) (gb g (bo g n k)) 0 := ⟨rfl, bo_end (by omega), fun i hi => (bo_spec hg hn hkn i hi).2, fun i hi => mxs_le g _ _, Nat.zero_le _⟩
theorem weigh_ok {bd : Nat → Nat} (hn : n ≤ 16) (hg : fb_sm g n ≤ 999) (hk8 : k ≤ 8) (hC : CL n g p μ) (h0 : rI μ (p + 2) 0 = nI k) (hF : ∀ i, i < k → rI μ (p + 2) (2 + i) = nI (bd i)) (hm : ∀ i, i < k → bd i < bd (i + 1)) (he : ∀ i, i < k → bd (i + 1) ≤ n) (hkn : bd k = n) {i : Nat} (hi : i < k) : G_X4_weigh p (nI i) μ = some ((), wI (wI μ (p + 2) (10 + i) (nI (seg g (bd i) (bd (i + 1))))) (p + 2) (18 + i) (nI (gb g bd i))) := by
  have a1 := hm i hi
  have a2 := he i hi
  have first : G_X4_firstOf p (nI i) μ = some (nI (bd i), μ) := by
    unfold G_X4_firstOf
    rw [i2, nI_add, gq_in (by omega) (by omega), nx_nI (by omega), hF i hi]
  have last : G_X4_lastOf p (nI i) μ = some (nI (bd (i + 1) - 1), μ) := by
    unfold G_X4_lastOf F_X4_lastOf_29
    rw [h0, nI_1]
    by_cases hl : k ≤ i + 1
    · rw [if_pos (nI_le hl (by omega)), hC.1, nI_sub1 (by omega), show i + 1 = k by omega, hkn]
    · rw [if_neg (nI_ge (by omega) (by omega)), i2, nI_add, nI_1, gq_in (by omega) (by omega), nx_nI (by omega), show 2 + i + 1 = 2 + (i + 1) by omega, hF (i + 1) (by omega), nI_sub1 (by omega)]
  unfold G_X4_weigh
  rw [bd_eq first]
  have key2 : ∀ m q, bd i ≤ q → q < bd (i + 1) → L_X4_weigh_11 (m + 1) p (nI i) (nI (ss g (bd i) (q - bd i))) (nI (mxs g (bd i) (q - bd i))) (nI q) μ = L_X4_weigh_11 m p (nI i) (nI (ss g (bd i) (q + 1 - bd i))) (nI (mxs g (bd i) (q + 1 - bd i))) (nI (q + 1)) μ := fun m q h1 h2 => by
    have s1 : ss g (bd i) (q + 1 - bd i) = ss g (bd i) (q - bd i) + g q := by
      rw [show q + 1 - bd i = (q - bd i) + 1 by omega]
      show ss g (bd i) (q - bd i) + g (bd i + (q - bd i)) = _
      rw [show bd i + (q - bd i) = q by omega]
    have s2 : mxs g (bd i) (q + 1 - bd i) = max (mxs g (bd i) (q - bd i)) (g q) := by
      rw [show q + 1 - bd i = (q - bd i) + 1 by omega]
      show max (mxs g (bd i) (q - bd i)) (g (bd i + (q - bd i))) = _
      rw [show bd i + (q - bd i) = q by omega]
    have z1 := mxs_le g (bd i) (q - bd i)
    have z2 : ss g (bd i) (q - bd i) ≤ 999 := Nat.le_trans (ss_le (n := n) (by omega)) hg
    have z3 := gle hg (k := q) (by omega)
    rw [L_X4_weigh_11, bd_eq last, if_neg (nI_nlt (by omega) (by omega)), gq_in (by omega) (by omega), nx_nI (by omega), hC.2 q (by omega), lb_e, nI_add, gq_in (by omega) (by omega), imax_nI (by omega) (by omega), lb_e, lb_e, nI_1, s1, s2]
  have fin : ∀ m, L_X4_weigh_11 (m + 1) p (nI i) (nI (ss g (bd i) (bd (i + 1) - bd i))) (nI (mxs g (bd i) (bd (i + 1) - bd i))) (nI (bd (i + 1))) μ = some ((), wI (wI μ (p + 2) (10 + i) (nI (seg g (bd i) (bd (i + 1))))) (p + 2) (18 + i) (nI (gb g bd i))) := fun m => by
    rw [L_X4_weigh_11, bd_eq last, if_pos (nI_lt (by omega) (by omega)), show (10 : Int32) = nI 10 from rfl, nI_add, gq_in (by omega) (by omega), nx_nI (by omega), lb_e, show (18 : Int32) = nI 18 from rfl, nI_add, gq_in (by omega) (by omega), nx_nI (by omega), lb_e]
    rfl
  have run : ∀ m q, bd i ≤ q → q ≤ bd (i + 1) → bd (i + 1) - q < m → L_X4_weigh_11 m p (nI i) (nI (ss g (bd i) (q - bd i))) (nI (mxs g (bd i) (q - bd i))) (nI q) μ = some ((), wI (wI μ (p + 2) (10 + i) (nI (seg g (bd i) (bd (i + 1))))) (p + 2) (18 + i) (nI (gb g bd i))) := by
    intro m
    induction m with
    | zero => intro q _ _ h; omega
    | succ m ih =>
      intro q h1 h2 h3
      rcases Nat.lt_or_ge q (bd (i + 1)) with h | h
      · rw [key2 m q h1 h]
        exact ih (q + 1) (by omega) (by omega) (by omega)
      · rw [show q = bd (i + 1) by omega]
        exact fin m
  have r := run 100000 (bd i) (Nat.le_refl _) (by omega) (by omega)
  rw [Nat.sub_self] at r
  exact r
def LAQ (p q j : Nat) : Prop := LQ q j ∨ q = p + 2
theorem LY.fr {μ' : Mem} (h : LY g n k μ) (hp : p + 2 < 99 ∨ 102 < p) (hf : Fr (fun q _ => q = p + 2) μ μ') : LY g n k μ' := ⟨fun j u h1 h2 h3 => ⟨(hf.l (by omega)).trans (h.1 j u h1 h2 h3).1, fun h4 => (hf.i (by omega)).trans ((h.1 j u h1 h2 h3).2 h4)⟩, (hf.i (by omega)).trans h.2.1, (hf.i (by omega)).trans h.2.2⟩
theorem layAnew_ok {B : Nat} (hn : n ≤ 16) (hn1 : 1 ≤ n) (hg : fb_sm g n ≤ 999) (hB : 1 ≤ B) (hB8 : B ≤ 8) (hp : p + 2 < 99 ∨ 102 < p) (hC : CL n g p μ) : ∃ μ', G_X4_layAnew p (nI B) μ = some ((), μ') ∧ Fr (LAQ p) μ μ' ∧ XS (min B n) g (bo g n (min B n)) (gb g (bo g n (min B n))) 0 (fun k => rI μ' (p + 2) k) := by
  generalize hK : min B n = K
  have hK1 : 1 ≤ K := by omega
  have hK8 : K ≤ 8 := by omega
  have hKn : K ≤ n := by omega
  obtain ⟨μ1, e, f1, ly⟩ := solve_ok (p := p) hn hg hK1 hKn (by omega) hC
  have sp := fun i hi => bo_spec hg hn hKn (k := K) i hi
  have hend : bo g n K K = n := bo_end (by omega)
  have hle : ∀ i, i < K → bo g n K (i + 1) ≤ n := fun i hi => by
    rcases Nat.lt_or_ge (i + 1) K with h | h
    · have := (sp (i + 1) h).1
      omega
    · rw [show i + 1 = K by omega, hend]; exact Nat.le_refl _
  have inner : ∀ (μ : Mem), CL n g p μ → rI μ (p + 2) 0 = nI K → rI μ (p + 2) 1 = nI 0 → (∀ i, i < K → rI μ (p + 2) (2 + i) = nI (bo g n K i)) → ∃ μ', L_X4_layAnew_63 100000 p (nI K) 0 μ = some ((), μ') ∧ Fr (fun q _ => q = p + 2) μ μ' ∧ XS K g (bo g n K) (gb g (bo g n K)) 0 (fun k => rI μ' (p + 2) k) := fun μ c z0 z1 zF => by
    refine loop_inv (fun m x (s : Mem) => L_X4_layAnew_63 m p (nI K) x s) K (fun i s => Fr (fun q _ => q = p + 2) μ s ∧ rI s (p + 2) 0 = nI K ∧ rI s (p + 2) 1 = nI 0 ∧ (∀ i, i < K → rI s (p + 2) (2 + i) = nI (bo g n K i)) ∧ ∀ i', i' < i → rI s (p + 2) (10 + i') = nI (seg g (bo g n K i') (bo g n K (i' + 1))) ∧ rI s (p + 2) (18 + i') = nI (gb g (bo g n K) i')) (P := fun o => ∃ μ', o = some ((), μ') ∧ Fr (fun q _ => q = p + 2) μ μ' ∧ XS K g (bo g n K) (gb g (bo g n K)) 0 (fun k => rI μ' (p + 2) k)) ?_ ?_ 100000 0 μ (by omega) (by omega) ⟨Fr.rf, z0, z1, zF, fun i' h => absurd h (by omega)⟩
    · rintro m i s hi ⟨f, y0, y1, yF, yW⟩
      have c' : CL n g p s := ⟨(f.i (by omega)).trans c.1, fun k hk => (f.i (by omega)).trans (c.2 k hk)⟩
      refine ⟨wI (wI s (p + 2) (10 + i) (nI (seg g (bo g n K i) (bo g n K (i + 1))))) (p + 2) (18 + i) (nI (gb g (bo g n K) i)), ⟨(f.wI rfl).wI rfl, ?_, ?_, fun i' h => ?_, fun i' h => ?_⟩, ?_⟩
      rotate_left 4
      · show L_X4_layAnew_63 (m + 1) p (nI K) (nI i) s = _
        rw [L_X4_layAnew_63, if_neg (nI_ge hi (by omega)), bd_eq (weigh_ok hn hg hK8 c' y0 yF (fun i hi => (sp i hi).2) hle hend hi), lb_e, nI_1]
      · rw [rI_wI_off (by omega), rI_wI_off (by omega)]; exact y0
      · rw [rI_wI_off (by omega), rI_wI_off (by omega)]; exact y1
      · rw [rI_wI_off (by omega), rI_wI_off (by omega)]; exact yF i' h
      · by_cases hq : i' = i
        · subst hq
          exact ⟨by rw [rI_wI_off (by omega), rI_wI_at], by rw [rI_wI_at]⟩
        · have := yW i' (by omega)
          exact ⟨by rw [rI_wI_off (by omega), rI_wI_off (by omega)]; exact this.1, by rw [rI_wI_off (by omega), rI_wI_off (by omega)]; exact this.2⟩
    · rintro m s ⟨f, y0, y1, yF, yW⟩
      refine ⟨s, ?_, f, y0, y1, fun i hi => ⟨yF i hi, yW i hi⟩⟩
      show L_X4_layAnew_63 (m + 1) p (nI K) (nI K) s = _
      rw [L_X4_layAnew_63, if_pos (nI_le (Nat.le_refl _) (by omega))]
  unfold G_X4_layAnew
  rw [hC.1, imin_nI (by omega) (by omega), hK, lb_e, bd_eq e, lb_e, lb_e]
  refine loop_inv (fun m x (s : Mem) => L_X4_layAnew_32 m p (nI K) x s) K (fun i s => Fr (fun q _ => q = p + 2) μ1 s ∧ rI s (p + 2) 0 = nI K ∧ rI s (p + 2) 1 = nI 0 ∧ ∀ i', i' < i → rI s (p + 2) (2 + i') = nI (bo g n K i')) (P := fun o => ∃ μ', o = some ((), μ') ∧ Fr (LAQ p) μ μ' ∧ XS K g (bo g n K) (gb g (bo g n K)) 0 (fun k => rI μ' (p + 2) k)) ?_ ?_ 100000 0 (wI (wI μ1 (p + 2) 0 (nI K)) (p + 2) 1 0) (by omega) (by omega) ⟨Fr.wI (S := fun q _ => q = p + 2) (Fr.wI (S := fun q _ => q = p + 2) Fr.rf rfl) rfl, by rw [rI_wI_off (by omega), rI_wI_at], by rw [rI_wI_at]; rfl, fun i' h => absurd h (by omega)⟩
  · rintro m i s hi ⟨f, y0, y1, yF⟩
    refine ⟨wI s (p + 2) (2 + i) (nI (bo g n K i)), ⟨f.wI rfl, ?_, ?_, fun i' h => ?_⟩, ?_⟩
    · rw [rI_wI_off (by omega)]; exact y0
    · rw [rI_wI_off (by omega)]; exact y1
    · by_cases hq : i' = i
      · subst hq; rw [rI_wI_at]
      · rw [rI_wI_off (by omega)]; exact yF i' (by omega)
    · show L_X4_layAnew_32 (m + 1) p (nI K) (nI i) s = _
      rw [L_X4_layAnew_32, if_neg (nI_ge hi (by omega)), bd_eq (bord_ok (ly.fr hp f) hg hK1 hKn hn hi), i2, nI_add, gq_in (by omega) (by omega), nx_nI (by omega), lb_e, lb_e, nI_1]
  · rintro m s ⟨f, y0, y1, yF⟩
    have c' : CL n g p s := ⟨((f.i (by omega)).trans (f1.i (by unfold LQ; omega))).trans hC.1, fun k hk => ((f.i (by omega)).trans (f1.i (by unfold LQ; omega))).trans (hC.2 k hk)⟩
    obtain ⟨s', e', f', h⟩ := inner s c' y0 y1 yF
    refine ⟨s', ?_, ((f1.mono (fun q i h => Or.inl h)).tr (f.mono (fun q i h => Or.inr h))).tr (f'.mono (fun q i h => Or.inr h)), h⟩
    show L_X4_layAnew_32 (m + 1) p (nI K) (nI K) s = _
    rw [L_X4_layAnew_32, if_pos (nI_le (Nat.le_refl _) (by omega))]
    exact e'
end X
