/-! answers by the least errors -/
theorem i61 : (61 : Int32) = nI 61 := rfl
theorem loop_fr {σ β : Type} (L : Nat → Int32 → σ → Option β) (lo N : Nat) (st : Nat → σ) {res : Option β} (step : ∀ n k, lo ≤ k → k < N → L (n + 1) (nI k) (st k) = L n (nI (k + 1)) (st (k + 1))) (fin : ∀ n, L (n + 1) (nI N) (st N) = res) : ∀ n k, lo ≤ k → k ≤ N → N - k < n → L n (nI k) (st k) = res := by
  intro n
  induction n with
  | zero => intro k _ _ h; omega
  | succ n ih =>
    intro k hl hk h
    rcases Nat.lt_or_ge k N with h1 | h1
    · rw [step n k hl h1]
      exact ih (k + 1) (by omega) h1 (by omega)
    · have e : k = N := by omega
      subst e
      exact fin n
section T
variable {n k t c : Nat} {g : Nat → Nat} {μ : Mem}
theorem tf_stop (h : mKn g n μ) (hn : n ≤ 16) (hg : fb_sm g n ≤ 999) (hL : ML g n k μ) {v j : Nat} (hj : 2 ≤ j) (hjk : j ≤ k) (hk : k ≤ n) (hv : v + j ≤ n) : ∀ m fuel e b d, v < e → e + m = n - j + 2 → b ≤ NV → m + 1 < fuel → L_X11_triedFrom_23 fuel (nI v) (nI j) 1 (nI d) (lN b) 1 (nI e) μ = some (nI (d + tr (ct g v) (fun e => ct g v e + Wt g n (j - 1) e) m e b), μ) := by
  intro m
  induction m with
  | zero =>
    intro fuel e b d h1 h2 h3 h4
    obtain ⟨fu, rfl⟩ : ∃ fu, fuel = fu + 1 := ⟨fuel - 1, by omega⟩
    rw [L_X11_triedFrom_23, h.1, pk_sub (by omega), nI_1, if_pos (nI_lt (by omega) (by omega))]
    rfl
  | succ m ih =>
    intro fuel e b d h1 h2 h3 h4
    obtain ⟨fu, rfl⟩ : ∃ fu, fuel = fu + 1 := ⟨fuel - 1, by omega⟩
    have w1 := W_lt hg hn (j := j - 1) (v := e) (by omega) (by omega)
    have w2 := ct_le (a := v) (b := e) hg (by omega) (by omega)
    have nv : NV = 1000000000000000 := rfl
    have te : tr (ct g v) (fun e => ct g v e + Wt g n (j - 1) e) (m + 1) e b = 1 + if min b (ct g v e + Wt g n (j - 1) e) ≤ ct g v e then 0 else tr (ct g v) (fun e => ct g v e + Wt g n (j - 1) e) m (e + 1) (min b (ct g v e + Wt g n (j - 1) e)) := rfl
    rw [L_X11_triedFrom_23, h.1, pk_sub (by omega), nI_1, if_neg (nI_nlt (by omega) (by omega)), if_neg (by decide), nI_1, lb_e, bd_eq (errorOf_ok h hn hg h1 (by omega)), nI_sub1 (by omega), bd_eq (leastAt_eq (j - 1) e), gq_in (by omega) (by omega), nx_nI (by omega), hL (j - 1) e (by omega) (by omega), lN_add, lmin_lN (by omega) (by omega), lb_e, if_neg (by decide), bd_eq (errorOf_ok h hn hg h1 (by omega))]
    unfold F_X11_triedFrom_89 F_X11_triedFrom_94
    rw [te]
    by_cases hc : min b (ct g v e + Wt g n (j - 1) e) ≤ ct g v e
    · rw [if_pos ((cmp_ge _ _).mpr ((pk_lLE (by omega) (by omega)).mpr hc)), if_pos hc, lb_e, nI_1]
      obtain ⟨fu2, rfl⟩ : ∃ fu2, fu = fu2 + 1 := ⟨fu - 1, by omega⟩
      rw [L_X11_triedFrom_23, if_pos rfl, ite_self]
    · rw [if_neg (fun z => hc ((pk_lLE (by omega) (by omega)).mp ((cmp_ge _ _).mp z))), if_neg hc, lb_e, nI_1, ih fu (e + 1) (min b (ct g v e + Wt g n (j - 1) e)) (d + 1) (by omega) (by omega) (by omega) (by omega), Nat.add_assoc d 1]
theorem tf_plain (h : mKn g n μ) (hn : n ≤ 16) (hg : fb_sm g n ≤ 999) (hL : ML g n k μ) {v j : Nat} (hj : 2 ≤ j) (hjk : j ≤ k) (hk : k ≤ n) (hv : v + j ≤ n) : ∀ m fuel e b d, v < e → e + m = n - j + 2 → b ≤ NV → m + 1 < fuel → L_X11_triedFrom_23 fuel (nI v) (nI j) 0 (nI d) (lN b) 1 (nI e) μ = some (nI (d + m), μ) := by
  intro m
  induction m with
  | zero =>
    intro fuel e b d h1 h2 h3 h4
    obtain ⟨fu, rfl⟩ : ∃ fu, fuel = fu + 1 := ⟨fuel - 1, by omega⟩
    rw [L_X11_triedFrom_23, h.1, pk_sub (by omega), nI_1, if_pos (nI_lt (by omega) (by omega))]
    rfl
  | succ m ih =>
    intro fuel e b d h1 h2 h3 h4
    obtain ⟨fu, rfl⟩ : ∃ fu, fuel = fu + 1 := ⟨fuel - 1, by omega⟩
    have w1 := W_lt hg hn (j := j - 1) (v := e) (by omega) (by omega)
    have w2 := ct_le (a := v) (b := e) hg (by omega) (by omega)
    have nv : NV = 1000000000000000 := rfl
    rw [L_X11_triedFrom_23, h.1, pk_sub (by omega), nI_1, if_neg (nI_nlt (by omega) (by omega)), if_neg (by decide), nI_1, lb_e, bd_eq (errorOf_ok h hn hg h1 (by omega)), nI_sub1 (by omega), bd_eq (leastAt_eq (j - 1) e), gq_in (by omega) (by omega), nx_nI (by omega), hL (j - 1) e (by omega) (by omega), lN_add, lmin_lN (by omega) (by omega), lb_e, if_pos rfl]
    unfold F_X11_triedFrom_89 F_X11_triedFrom_94
    rw [lb_e, nI_1, ih fu (e + 1) (min b (ct g v e + Wt g n (j - 1) e)) (d + 1) (by omega) (by omega) (by omega) (by omega), show d + 1 + m = d + (m + 1) by omega]
def tTw (g : Nat → Nat) (n w j v : Nat) : Nat := if w = 0 then trs g n j v else if j ≤ 1 then 1 else n - j + 1 - v
theorem tf_ok (h : mKn g n μ) (hn : n ≤ 16) (hg : fb_sm g n ≤ 999) (hL : ML g n k μ) {v j w : Nat} (hj : 1 ≤ j) (hjk : j ≤ k) (hk : k ≤ n) (hv : v + j ≤ n) (hw : w < 2) : G_X11_triedFrom (nI v) (nI j) (if w = 0 then 1 else 0) μ = some (nI (tTw g n w j v), μ) := by
  unfold G_X11_triedFrom tTw
  by_cases h1 : j = 1
  · subst h1
    rw [if_pos (show nI 1 = 1 from rfl)]
    unfold trs
    rw [if_pos (Nat.le_refl 1), if_pos (Nat.le_refl 1), ite_self]
    rfl
  · rw [if_neg (r_ne (m := 1) h1 (by omega) (by omega)), nI_1, lb_e, LNV]
    by_cases h0 : w = 0
    · rw [if_pos h0, if_pos h0]
      have e := tf_stop h hn hg hL (v := v) (j := j) (by omega) hjk hk hv (n - j + 1 - v) 100000 (v + 1) NV 0 (by omega) (by omega) (Nat.le_refl _) (by omega)
      rw [Nat.zero_add] at e
      unfold trs
      rw [if_neg (by omega)]
      exact e
    · rw [if_neg h0, if_neg h0, if_neg (by omega)]
      have e := tf_plain h hn hg hL (v := v) (j := j) (by omega) hjk hk hv (n - j + 1 - v) 100000 (v + 1) NV 0 (by omega) (by omega) (Nat.le_refl _) (by omega)
      rw [Nat.zero_add] at e
      exact e
theorem tried_in {kc : Int32 → Int32 → Int32 → Int32 → Mem → Option (Int32 × Mem)} (h : mKn g n μ) (hn : n ≤ 16) (hg : fb_sm g n ≤ 999) (hL : ML g n k μ) {j w d : Nat} (hj : 1 ≤ j) (hjk : j ≤ k) (hk : k ≤ n) (hw : w < 2) : L_X11_tried_49 kc 100000 (nI k) (nI w) (nI d) (nI j) 0 μ = kc (nI k) (nI w) (nI (d + fb_sm (fun v => tTw g n w j v) (n - j + 1))) (nI (j + 1)) μ := by
  have key := loop_up (fun m i (s : Int32) => L_X11_tried_49 kc m (nI k) (nI w) s (nI j) i μ) (n - j + 1) (fun v => nI (d + fb_sm (fun v => tTw g n w j v) v)) (res := kc (nI k) (nI w) (nI (d + fb_sm (fun v => tTw g n w j v) (n - j + 1))) (nI (j + 1)) μ) (fun m v hv => by
    show L_X11_tried_49 kc (m + 1) _ _ _ _ _ _ = _
    have e := tf_ok h hn hg hL (v := v) (j := j) (w := w) hj hjk hk (by omega) hw
    rw [L_X11_tried_49, h.1, pk_sub (by omega), if_neg (nI_nlt (by omega) (by omega))]
    unfold F_X11_tried_78
    by_cases h0 : w = 0
    · subst h0
      rw [if_pos rfl] at e
      rw [if_pos (show nI 0 = 0 from rfl), bd_eq e, lb_e, lb_e, nI_add, nI_1, Nat.add_assoc, fb_sm_succ]
    · rw [if_neg h0] at e
      rw [if_neg (nI_ne0 (by omega) (by omega)), bd_eq e, lb_e, lb_e, nI_add, nI_1, Nat.add_assoc, fb_sm_succ]) (fun m => by
    show L_X11_tried_49 kc (m + 1) _ _ _ _ _ _ = _
    rw [L_X11_tried_49, h.1, pk_sub (by omega), if_pos (nI_lt (by omega) (by omega)), lb_e, nI_1])
  exact key 100000 0 (by omega) (by omega)
theorem tried_ok (h : mKn g n μ) (hn : n ≤ 16) (hg : fb_sm g n ≤ 999) (hL : ML g n k μ) {w : Nat} (hk : k ≤ n) (hw : w < 2) : L_X11_tried_40 100000 (nI k) (nI w) 0 1 μ = some (nI (if w = 0 then trA g n k else plA n k), μ) := by
  have key := loop_fr (fun m i (s : Int32) => L_X11_tried_40 m (nI k) (nI w) s i μ) 1 (k + 1) (fun j => nI (fb_sm (fun i => fb_sm (fun v => tTw g n w (i + 1) v) (n - (i + 1) + 1)) (j - 1))) (res := some (nI (if w = 0 then trA g n k else plA n k), μ)) (fun m j h1 hj => by
    show L_X11_tried_40 (m + 1) _ _ _ _ _ = _
    rw [L_X11_tried_40, if_neg (nI_nlt (by omega) (by omega)), tried_in (kc := L_X11_tried_40 m) h hn hg hL h1 (by omega) hk hw]
    obtain ⟨i, rfl⟩ : ∃ i, j = i + 1 := ⟨j - 1, by omega⟩
    rw [show i + 1 - 1 = i by omega, show i + 1 + 1 - 1 = i + 1 by omega]
    rfl) (fun m => by
    show L_X11_tried_40 (m + 1) _ _ _ _ _ = _
    rw [L_X11_tried_40, if_pos (nI_lt (by omega) (by omega)), show k + 1 - 1 = k by omega]
    congr 3
    by_cases h0 : w = 0
    · subst h0
      rw [if_pos rfl]
      rfl
    · rw [if_neg h0]
      unfold plA
      refine fb_sm_cong fun i _ => fb_sm_cong fun v _ => ?_
      unfold tTw
      rw [if_neg h0]
      by_cases hi : i = 0
      · rw [if_pos hi, if_pos (by omega)]
      · rw [if_neg hi, if_neg (by omega)])
  exact key 100000 1 (by omega) (by omega) (by omega)
theorem leastAt0 (j : Nat) : G_X11_leastAt (nI j) 0 μ = some (nI (18 * j + 0), μ) := leastAt_eq j 0
theorem ct_one (g : Nat → Nat) (a : Nat) : ct g a (a + 1) = 0 := by
  unfold ct
  rw [show a + 1 - a = 1 by omega]
  have e1 : qs g a 1 = g a * g a := by show 0 + g (a + 0) * g (a + 0) = _; rw [Nat.zero_add, Nat.add_zero]
  have e2 : ss g a 1 = g a := by show 0 + g (a + 0) = _; rw [Nat.zero_add, Nat.add_zero]
  rw [e1, e2, Nat.div_one, Nat.mul_assoc, Nat.sub_self]
theorem W_all {n : Nat} : ∀ j, j ≤ n → Wt g n j (n - j) = 0 := by
  intro j
  induction j with
  | zero => intro _; exact if_pos rfl
  | succ j ih =>
    intro h
    have e := ih (by omega)
    have l : Wt g n (j + 1) (n - (j + 1)) ≤ wf g (Wt g n j) (n - (j + 1)) (n - (j + 1) + 1 + 0) := mnl_le (fun k => wf g (Wt g n j) (n - (j + 1)) (n - (j + 1) + 1 + k)) (k := 0) (by omega)
    unfold wf at l
    rw [show n - (j + 1) + 1 + 0 = n - j by omega, e, if_neg (by decide), show ct g (n - (j + 1)) (n - j) = 0 from by
      have := ct_one g (n - (j + 1))
      rw [show n - (j + 1) + 1 = n - j by omega] at this
      exact this] at l
    omega
theorem few_ex (hn : 1 ≤ n) (E : Nat) : ∃ r, 1 ≤ r ∧ r ≤ n ∧ Wt g n r 0 ≤ E ∧ ∀ k, 1 ≤ k → k < r → E < Wt g n k 0 := by
  obtain ⟨i, h1, h2, h3⟩ := fb_first (p := fun i => Wt g n (i + 1) 0 ≤ E) (n := n) ⟨n - 1, by omega, by
    have := W_all (g := g) (n := n) n (Nat.le_refl _)
    rw [Nat.sub_self] at this
    rw [show n - 1 + 1 = n by omega, this]
    exact Nat.zero_le _⟩
  refine ⟨i + 1, by omega, by omega, h2, fun k q1 q2 => ?_⟩
  have := h3 (k - 1) (by omega)
  rw [show k - 1 + 1 = k by omega] at this
  omega
theorem few_x (h : LY g n n μ) (hg : fb_sm g n ≤ 999) (hn : n ≤ 16) {E r : Nat} (hE : E < 2 ^ 63) (h1 : 1 ≤ r) (h2 : r ≤ n) (h3 : Wt g n r 0 ≤ E) (h4 : ∀ k, 1 ≤ k → k < r → E < Wt g n k 0) : L_X10_fewest_57 100000 (lN E) (nI n) 1 μ = some (nI r, μ) := by
  have key := loop_fr (fun m i (_ : Unit) => L_X10_fewest_57 m (lN E) (nI n) i μ) 1 r (fun _ => ()) (res := some (nI r, μ)) (fun m k q1 q2 => by
    show L_X10_fewest_57 (m + 1) _ _ _ _ = _
    have w := W_lt hg hn (j := k) (v := 0) q1 (by omega)
    have := h4 k q1 q2
    rw [L_X10_fewest_57, if_neg (nI_ge (by omega) (by omega)), bd_eq (least_ok h (by omega) (Nat.le_refl _) hn q1 (by omega)), if_pos ((cmp_gt _ _).mpr ((pk_lLT hE (by omega)).mpr this)), lb_e, nI_1]) (fun m => by
    show L_X10_fewest_57 (m + 1) _ _ _ _ = _
    have w := W_lt hg hn (j := r) (v := 0) h1 (by omega)
    rw [L_X10_fewest_57]
    by_cases hr : n ≤ r
    · rw [if_pos (nI_le hr (by omega)), show n = r by omega]
    · rw [if_neg (nI_ge (by omega) (by omega)), bd_eq (least_ok h (by omega) (Nat.le_refl _) hn h1 (by omega)), if_neg (fun z => by have := (pk_lLT hE (by omega)).mp ((cmp_gt _ _).mp z); omega)])
  exact key 100000 1 (by omega) (by omega) (by omega)
theorem few_m (h : ML g n n μ) (hg : fb_sm g n ≤ 999) (hn : n ≤ 16) {E r : Nat} (hE : E < 2 ^ 63) (h1 : 1 ≤ r) (h2 : r ≤ n) (h3 : Wt g n r 0 ≤ E) (h4 : ∀ k, 1 ≤ k → k < r → E < Wt g n k 0) : L_X11_fewest_34 100000 (lN E) 1 μ = some (nI r, μ) := by
  have key := loop_fr (fun m i (_ : Unit) => L_X11_fewest_34 m (lN E) i μ) 1 r (fun _ => ()) (res := some (nI r, μ)) (fun m k q1 q2 => by
    show L_X11_fewest_34 (m + 1) _ _ _ = _
    have w := W_lt hg hn (j := k) (v := 0) q1 (by omega)
    have := h4 k q1 q2
    rw [L_X11_fewest_34, bd_eq (leastAt0 k), gq_in (by omega) (by omega), nx_nI (by omega), h k 0 (by omega) (by omega), if_neg (fun z => by have := (pk_lLE (by omega) hE).mp ((cmp_le _ _).mp z); omega), lb_e, nI_1]) (fun m => by
    show L_X11_fewest_34 (m + 1) _ _ _ = _
    have w := W_lt hg hn (j := r) (v := 0) h1 (by omega)
    rw [L_X11_fewest_34, bd_eq (leastAt0 r), gq_in (by omega) (by omega), nx_nI (by omega), h r 0 (by omega) (by omega), if_pos ((cmp_le _ _).mpr ((pk_lLE (by omega) hE).mpr h3))])
  exact key 100000 1 (by omega) (by omega) (by omega)
/-- the first of the greatest -/
def am (F : Nat → Nat) : Nat → Nat
  | 0 => 0
  | i + 1 => if F (am F i) < F i then i else am F i
theorem am_le (F : Nat → Nat) : ∀ i, am F i ≤ i - 1
  | 0 => Nat.le_refl _
  | i + 1 => by
    have := am_le F i
    show (if F (am F i) < F i then i else am F i) ≤ i + 1 - 1
    split <;> omega
theorem am1 (F : Nat → Nat) : am F 1 = 0 := by
  have := am_le F 1
  omega
theorem worst_x {v K D : Nat} {bd gr : Nat → Nat} {dr p : Nat} (hv : v ≤ 16) (hK : K ≤ 8) (hK1 : 1 ≤ K) (hg : fb_sm g v ≤ 999) (hp : p + 2 < 99) (h : XL v K g bd gr dr p μ) (hw : LW v K D g bd gr dr) : ∃ μ', G_X5_worstOf p μ = some (nI (am (fun i => ct g (bd i) (bd (i + 1))) K), μ') ∧ Fr LQ μ μ' := by
  have C : CL v g p μ := ⟨h.1.1, fun k hk => h.1.2.2 k (by omega)⟩
  obtain ⟨μ1, e1, f1, -, E⟩ := fe_ok hv hg (by omega) C
  have h1 : XL v K g bd gr dr p μ1 := h.ag (fun x j q1 q2 => f1.i (by unfold LQ; omega))
  refine ⟨μ1, ?_, f1⟩
  unfold G_X5_worstOf
  rw [bd_eq e1]
  have ck : ∀ i, i < K → ct g (bd i) (bd (i + 1)) ≤ 719279280720 := fun i hi => ct_le hg (bd_le hw (by omega)) (by have := hw.2.2.1 i hi; omega)
  have stp : ∀ m i x l, i < K → L_X5_worstOf_14 (m + 1) p x l (nI i) μ1 = if lg_cmp (lN (ct g (bd i) (bd (i + 1)))) l ≤ 0 then L_X5_worstOf_14 m p x l (nI (i + 1)) μ1 else L_X5_worstOf_14 m p (nI i) (lN (ct g (bd i) (bd (i + 1)))) (nI (i + 1)) μ1 := fun m i x l hi => by
    have b1 := hw.2.2.1 i hi
    have b2 := bd_le hw (i := i + 1) (by omega)
    rw [L_X5_worstOf_14, bd_eq (lane_size h1), if_neg (nI_ge hi (by omega)), bd_eq (lane_first h1 hK hi), bd_eq (lane_last h1 hw hK hv hi), i17, pk_mul, nI_add, nI_1, gq_in (by omega) (by omega), nx_nI (by omega), show bd i * 17 + (bd (i + 1) - 1) + 1 = 17 * bd i + bd (i + 1) by omega, E _ _ b1 b2, lb_e]
    unfold F_X5_worstOf_61
    rw [lb_e, lb_e, nI_1]
  have key := loop_fr (fun m i (s : Int32 × Int64) => L_X5_worstOf_14 m p s.1 s.2 i μ1) 1 K (fun i => (nI (am (fun i => ct g (bd i) (bd (i + 1))) i), lN (ct g (bd (am (fun i => ct g (bd i) (bd (i + 1))) i)) (bd (am (fun i => ct g (bd i) (bd (i + 1))) i + 1))))) (res := some (nI (am (fun i => ct g (bd i) (bd (i + 1))) K), μ1)) (fun m i q1 q2 => by
    show L_X5_worstOf_14 (m + 1) p _ _ _ _ = _
    have a1 := am_le (fun i => ct g (bd i) (bd (i + 1))) i
    have c1 := ck i q2
    have c2 := ck (am (fun i => ct g (bd i) (bd (i + 1))) i) (by omega)
    have ae : am (fun i => ct g (bd i) (bd (i + 1))) (i + 1) = if ct g (bd (am (fun i => ct g (bd i) (bd (i + 1))) i)) (bd (am (fun i => ct g (bd i) (bd (i + 1))) i + 1)) < ct g (bd i) (bd (i + 1)) then i else am (fun i => ct g (bd i) (bd (i + 1))) i := rfl
    rw [stp m i _ _ q2, ae]
    by_cases hc : ct g (bd (am (fun i => ct g (bd i) (bd (i + 1))) i)) (bd (am (fun i => ct g (bd i) (bd (i + 1))) i + 1)) < ct g (bd i) (bd (i + 1))
    · rw [if_pos hc, if_neg (fun z => by have := (pk_lLE (by omega) (by omega)).mp ((cmp_le _ _).mp z); omega)]
    · rw [if_neg hc, if_pos ((cmp_le _ _).mpr ((pk_lLE (by omega) (by omega)).mpr (by omega)))]) (fun m => by
    show L_X5_worstOf_14 (m + 1) p _ _ _ _ = _
    rw [L_X5_worstOf_14, bd_eq (lane_size h1), if_pos (nI_le (Nat.le_refl _) (by omega))])
  have s0 := stp 99999 0 0 (-1) (by omega)
  have c0 := ck 0 (by omega)
  rw [if_neg (fun z => by
    have z := (cmp_le _ _).mp z
    rw [fa_le64, pk_lT (by omega)] at z
    have : (-1 : Int64).toInt = -1 := by decide
    omega)] at s0
  have k1 := key 99999 1 (by omega) (by omega) (by omega)
  rw [am1] at k1
  exact s0.trans k1
theorem worst_m {f : Nat → Nat → Nat} {K D : Nat} {bd gr : Nat → Nat → Nat} {dr : Nat → Nat} (hn : n ≤ 16) (hK : K ≤ 8) (hK1 : 1 ≤ K) (ht : t < 3) (hc : c < 2) (hg : fb_sm (cn f c) n ≤ 999) (h113 : rI μ 113 t = nI n) (hM : MT K f bd gr dr (fun k => rI μ 116 (357 * t + k))) (hw : LW n K D (cn f c) (bd c) (gr c) (dr c)) : ∃ μ', G_X11_worst (nI t) (nI c) μ = some (nI (am (fun i => ct (cn f c) (bd c i) (bd c (i + 1))) K), μ') ∧ Fr qM μ μ' := by
  obtain ⟨μ1, e1, f1, k1⟩ := layCounts_ok hM ht hc hn h113
  refine ⟨μ1, ?_, f1⟩
  have hM1 : MT K f bd gr dr (fun k => rI μ1 116 (357 * t + k)) := by
    rw [show (fun k => rI μ1 116 (357 * t + k)) = (fun k => rI μ 116 (357 * t + k)) from funext fun k => f1.i (by unfold qM; omega)]
    exact hM
  unfold G_X11_worst
  rw [bd_eq e1]
  have ck : ∀ i, i < K → ct (cn f c) (bd c i) (bd c (i + 1)) ≤ 719279280720 := fun i hi => ct_le hg (bd_le hw (by omega)) (by have := hw.2.2.1 i hi; omega)
  have er : ∀ i, i < K → G_X11_errorOf (nI (bd c i)) (nI (bd c (i + 1) - 1) + 1) μ1 = some (lN (ct (cn f c) (bd c i) (bd c (i + 1))), μ1) := fun i hi => by
    have b1 := hw.2.2.1 i hi
    rw [nI_1, show bd c (i + 1) - 1 + 1 = bd c (i + 1) by omega]
    exact errorOf_ok k1 hn hg b1 (bd_le hw (by omega))
  have key := loop_fr (fun m i (s : Int32) => L_X11_worst_11 m (nI t) (nI c) s i μ1) 1 K (fun i => nI (am (fun i => ct (cn f c) (bd c i) (bd c (i + 1))) i)) (res := some (nI (am (fun i => ct (cn f c) (bd c i) (bd c (i + 1))) K), μ1)) (fun m i q1 q2 => by
    show L_X11_worst_11 (m + 1) _ _ _ _ _ = _
    have a1 := am_le (fun i => ct (cn f c) (bd c i) (bd c (i + 1))) i
    have c1 := ck i q2
    have c2 := ck (am (fun i => ct (cn f c) (bd c i) (bd c (i + 1))) i) (by omega)
    have ae : am (fun i => ct (cn f c) (bd c i) (bd c (i + 1))) (i + 1) = if ct (cn f c) (bd c (am (fun i => ct (cn f c) (bd c i) (bd c (i + 1))) i)) (bd c (am (fun i => ct (cn f c) (bd c i) (bd c (i + 1))) i + 1)) < ct (cn f c) (bd c i) (bd c (i + 1)) then i else am (fun i => ct (cn f c) (bd c i) (bd c (i + 1))) i := rfl
    rw [L_X11_worst_11, bd_eq (col_many hM1 ht hc), if_neg (nI_ge q2 (by omega)), bd_eq (col_of0 hM1 ht hc hK q2), bd_eq (col_of1 hM1 ht hc hK q2), bd_eq (er i q2), bd_eq (col_of0 hM1 ht hc hK (by omega)), bd_eq (col_of1 hM1 ht hc hK (by omega)), bd_eq (er _ (by omega)), ae]
    unfold F_X11_worst_78
    rw [lb_e, lb_e, nI_1]
    by_cases hc : ct (cn f c) (bd c (am (fun i => ct (cn f c) (bd c i) (bd c (i + 1))) i)) (bd c (am (fun i => ct (cn f c) (bd c i) (bd c (i + 1))) i + 1)) < ct (cn f c) (bd c i) (bd c (i + 1))
    · rw [if_pos hc, if_neg (fun z => by have := (pk_lLE (by omega) (by omega)).mp ((cmp_le _ _).mp z); omega)]
    · rw [if_neg hc, if_pos ((cmp_le _ _).mpr ((pk_lLE (by omega) (by omega)).mpr (by omega)))]) (fun m => by
    show L_X11_worst_11 (m + 1) _ _ _ _ _ = _
    rw [L_X11_worst_11, bd_eq (col_many hM1 ht hc), if_pos (nI_le (Nat.le_refl _) (by omega))])
  have k1 := key 100000 1 (by omega) (by omega) (by omega)
  rw [am1] at k1
  exact k1
end T
section A
variable {c : Nat} {μ : Mem} {T : Nat} {V : Nat → Nat} {B D m : Nat} {S : Nat → St}
theorem fr_LQ {μ' : Mem} (h : Fr LQ μ μ') : Fr SCR μ μ' := h.mono (fun q j h => by unfold LQ at h; unfold SCR; omega)
theorem fr_qM {μ' : Mem} (h : Fr qM μ μ') : Fr SCR μ μ' := h.mono (fun q j h => by unfold qM at h; unfold SCR; omega)
theorem fr_119 {μ' : Mem} (h : Fr (fun q _ => q = 119) μ μ') : Fr SCR μ μ' := h.mono (fun q j h => by unfold SCR; omega)
theorem fr_120 {μ' : Mem} (h : Fr (fun q _ => q = 119 ∨ q = 120) μ μ') : Fr SCR μ μ' := h.mono (fun q j h => by unfold SCR; omega)
theorem RB.scr {μ' : Mem} (h : RB c T V B D m S μ) (f : Fr SCR μ μ') : RB c T V B D m S μ' := h.ag (fun q j e => f.i (by unfold SCR; omega))
theorem RB.cl (h : RB c T V B D m S μ) {t k : Nat} (ht : t < T) (hk : k < 2) : CL (V t) (cn (sf (S 0) t) k) (12 + 9 * t + 3 * k) μ := ⟨(h.lane ht hk).1.1, fun i hi => (h.lane ht hk).1.2.2 i (by have := h.V2 ht; omega)⟩
theorem RB.le (h : RB c T V B D m S μ) {t k : Nat} (ht : t < T) (hk : k < 2) : fb_sm (cn (sf (S 0) t) k) (V t) ≤ 999 := Nat.le_trans (cn_sm _ hk (by have := h.V2 ht; omega)) (h.sw ht).2.1
theorem num_cases (z : Int32) {n : Nat} (hn : n < 2 ^ 31) : (z < 1 ∨ nI n < z) ∨ ∃ k, 1 ≤ k ∧ k ≤ n ∧ z = nI k := by
  by_cases h1 : z < 1
  · exact Or.inl (Or.inl h1)
  · by_cases h2 : nI n < z
    · exact Or.inl (Or.inr h2)
    · have h3 : z ≤ nI n := fa_of_nlt h2
      have h4 : (1 : Int32) ≤ z := fa_of_nlt h1
      rw [fa_le] at h3 h4
      rw [nI_toInt hn] at h3
      have e1 : (1 : Int32).toInt = 1 := by decide
      have e0 : (0 : Int32).toInt = 0 := by decide
      obtain ⟨j, hj, rfl⟩ := nI_of (x := z) (by rw [fa_lt]; omega)
      rw [nI_toInt hj] at h3 h4
      exact Or.inr ⟨j, by omega, by omega, rfl⟩
theorem in1_no {z : Int32} {n : Nat} {μ : Mem} (hz : z < 1 ∨ nI n < z) : G_X11_in z.toInt64 (1 : Int64) ((nI n).toInt64) μ = some (0, μ) := by
  rw [toL1, in_eq, if_neg]
  rintro ⟨h1, h2⟩
  rcases hz with h | h
  · exact (fa_of_lt h).2.1 h1
  · exact (fa_of_lt h).2.1 h2
theorem in1_yes {k n : Nat} {μ : Mem} (hn : n < 2 ^ 31) (h1 : 1 ≤ k) (h2 : k ≤ n) : G_X11_in (nI k).toInt64 (1 : Int64) ((nI n).toInt64) μ = some (1, μ) := by
  rw [toL1, in_eq, if_pos ⟨nI_le h1 (by omega), nI_le h2 hn⟩]
theorem xsolve_no (hB : RB c T V B D m S μ) {x y z : Int32} (h : ((x < 0 ∨ nI T ≤ x) ∨ y < 0 ∨ nI 2 ≤ y) ∨ ∃ t k, t < T ∧ k < 2 ∧ x = nI t ∧ y = nI k ∧ (z < 1 ∨ nI (V t) < z)) : G_X10_solve x y z μ = some (0, μ) := by
  have hT := hB.T3
  unfold G_X10_solve
  rcases h with h | ⟨t, k, ht, hk, rfl, rfl, hz⟩
  · rw [bd_eq (xCol_no hB.xt hT h), if_pos rfl]
  · rw [bd_eq (xCol_yes hB.xt hT ht hk), if_neg (by decide)]
    by_cases h1 : z < 1
    · rw [if_pos h1]
    · rw [if_neg h1, gq_in (by omega) (by omega), sp_eq (by omega), (hB.sheet ht).1, if_neg (fun q => (fa_of_lt (hz.resolve_left h1)).2.1 q)]
theorem xsolve_yes (hB : RB c T V B D m S μ) {t k n : Nat} (ht : t < T) (hk : k < 2) (h1 : 1 ≤ n) (h2 : n ≤ V t) : ∃ μ', G_X10_solve (nI t) (nI k) (nI n) μ = some (1, μ') ∧ Fr LQ μ μ' ∧ LY (cn (sf (S 0) t) k) (V t) n μ' := by
  have hT := hB.T3
  have hV := hB.V2 ht
  obtain ⟨μ', e, f, h⟩ := solve_ok (p := 12 + 9 * t + 3 * k) hV.2 (hB.le ht hk) h1 h2 (by omega) (hB.cl ht hk)
  refine ⟨μ', ?_, f, h⟩
  unfold G_X10_solve
  rw [bd_eq (xCol_yes hB.xt hT ht hk), if_neg (by decide), if_neg (r_nlt (m := 1) h1 (by omega)), gq_in (by omega) (by omega), sp_eq (by omega), (hB.sheet ht).1, if_pos (nI_le h2 (by omega)), gq_in (by omega) (by omega), gq_in (by omega) (by omega), show lnP (9 + 9 * t + 2) (nI k) = 12 + 9 * t + 3 * k from by rw [lnP_nI (by omega)]; omega, bd_eq e]
theorem mbuild_no (hB : RB c T V B D m S μ) {x y z : Int32} (h : ((x < 0 ∨ nI T ≤ x) ∨ y < 0 ∨ nI 2 ≤ y) ∨ ∃ t k, t < T ∧ k < 2 ∧ x = nI t ∧ y = nI k ∧ (z < 1 ∨ nI (V t) < z)) : G_X11_isBuilding x y z μ = some (0, μ) := by
  have hT := hB.T3
  unfold G_X11_isBuilding
  rcases h with h | ⟨t, k, ht, hk, rfl, rfl, hz⟩
  · rw [bd_eq (mCol_no hB.mt hT h), if_pos rfl]
  · rw [bd_eq (mCol_yes hB.mt hT ht hk), if_neg (by decide), gq_in (by omega) (by omega), nx_nI (by omega), hB.mv ht, bd_eq (in1_no hz), if_pos rfl]
theorem mbuild_yes (hB : RB c T V B D m S μ) {t k n : Nat} (ht : t < T) (hk : k < 2) (h1 : 1 ≤ n) (h2 : n ≤ V t) : G_X11_isBuilding (nI t) (nI k) (nI n) μ = some (1, μ) := by
  have hT := hB.T3
  have hV := hB.V2 ht
  unfold G_X11_isBuilding
  rw [bd_eq (mCol_yes hB.mt hT ht hk), if_neg (by decide), gq_in (by omega) (by omega), nx_nI (by omega), hB.mv ht, bd_eq (in1_yes (by omega) h1 h2), if_neg (by decide)]
theorem bld_cases (hB : RB c T V B D m S μ) (x y z : Int32) : (((x < 0 ∨ nI T ≤ x) ∨ y < 0 ∨ nI 2 ≤ y) ∨ ∃ t k, t < T ∧ k < 2 ∧ x = nI t ∧ y = nI k ∧ (z < 1 ∨ nI (V t) < z)) ∨ ∃ t k n, t < T ∧ k < 2 ∧ 1 ≤ n ∧ n ≤ V t ∧ x = nI t ∧ y = nI k ∧ z = nI n := by
  rcases col_cases hB.T3 x y with h | ⟨t, k, ht, hk, rfl, rfl⟩
  · exact Or.inl (Or.inl h)
  · have hV := hB.V2 ht
    rcases num_cases z (n := V t) (by omega) with h | ⟨n, h1, h2, rfl⟩
    · exact Or.inl (Or.inr ⟨t, k, ht, hk, rfl, rfl, h⟩)
    · exact Or.inr ⟨t, k, n, ht, hk, h1, h2, rfl, rfl, rfl⟩
theorem a_error (h : RR c μ) (x y z : Int32) : Ans c (G_X10_error x y z μ) (G_X11_error x y z) := by
  have h0 := h
  obtain ⟨-, -, -, T, V, B, D, m, S, hB, hP, -⟩ := h0
  have hT := hB.T3
  rcases bld_cases hB x y z with hn | ⟨t, k, n, ht, hk, h1, h2, rfl, rfl, rfl⟩
  · refine Ans.p (r := -1) h ?_ ?_
    · unfold G_X10_error; rw [bd_eq (xsolve_no hB hn), if_pos rfl]
    · unfold G_X11_error; rw [bd_eq (mbuild_no hB hn), if_pos rfl]
  · have hV := hB.V2 ht
    obtain ⟨μ1, e1, f1, l1⟩ := xsolve_yes hB ht hk h1 h2
    have hB1 := hB.scr (fr_LQ f1)
    obtain ⟨μ2, e2, f2, k2⟩ := layCounts_ok (hB1.tab ht) (by omega) hk hV.2 (hB1.mv ht)
    obtain ⟨μ3, e3, f3, l3⟩ := layLeast_ok (k := n) k2 hV.2 (hB.le ht hk) (by omega)
    refine Ans.q (r := lN (Wt (cn (sf (S 0) t) k) (V t) n 0)) (μ1 := μ1) (μ2 := μ3) h ?_ (fr_LQ f1) ?_ ((fr_qM f2).tr (fr_119 f3))
    · unfold G_X10_error
      rw [bd_eq e1, if_neg (by decide), bd_eq (least_ok l1 h1 h2 hV.2 h1 (Nat.le_refl _))]
    · unfold G_X11_error
      rw [bd_eq (mbuild_yes hB1 ht hk h1 h2), if_neg (by decide), bd_eq e2, bd_eq e3, bd_eq (leastAt0 n), gq_in (by omega) (by omega), nx_nI (by omega), l3 n 0 (Nat.le_refl _) (by omega)]
theorem a_border (h : RR c μ) (x y z w : Int32) : Ans c (G_X10_border x y z w μ) (G_X11_border x y z w) := by
  have h0 := h
  obtain ⟨-, -, -, T, V, B, D, m, S, hB, hP, -⟩ := h0
  have hT := hB.T3
  rcases bld_cases hB x y z with hn | ⟨t, k, n, ht, hk, h1, h2, rfl, rfl, rfl⟩
  · refine Ans.p (r := -1) h ?_ ?_
    · unfold G_X10_border; rw [bd_eq (xsolve_no hB hn), if_pos rfl, ite_self, ite_self]
    · unfold G_X11_border; rw [bd_eq (mbuild_no hB hn), if_pos rfl]
  · have hV := hB.V2 ht
    rcases pk_ix w (n := n) (by omega) with hw | hw | ⟨i, hi, rfl⟩
    · refine Ans.p (r := -1) h ?_ ?_
      · unfold G_X10_border; rw [if_pos hw]
      · unfold G_X11_border; rw [bd_eq (mbuild_yes hB ht hk h1 h2), if_neg (by decide), bd_eq (inP_no (by omega) (Or.inl hw)), if_pos rfl]
    · refine Ans.p (r := -1) h ?_ ?_
      · unfold G_X10_border; rw [if_pos hw, ite_self]
      · unfold G_X11_border; rw [bd_eq (mbuild_yes hB ht hk h1 h2), if_neg (by decide), bd_eq (inP_no (by omega) (Or.inr hw)), if_pos rfl]
    · obtain ⟨μ1, e1, f1, l1⟩ := xsolve_yes hB ht hk h1 h2
      have hB1 := hB.scr (fr_LQ f1)
      obtain ⟨μ2, e2, f2, k2⟩ := layCounts_ok (hB1.tab ht) (by omega) hk hV.2 (hB1.mv ht)
      obtain ⟨μ3, e3, f3, l3, o3⟩ := layBorders_ok (k := n) k2 hV.2 (hB.le ht hk) h1 h2
      refine Ans.q (r := nI (bo (cn (sf (S 0) t) k) (V t) n i)) (μ1 := μ1) (μ2 := μ3) h ?_ (fr_LQ f1) ?_ ((fr_qM f2).tr (fr_120 f3))
      · unfold G_X10_border
        rw [if_neg (nI_pos (by omega)), if_neg (nI_ge hi (by omega)), bd_eq e1, if_neg (by decide), bd_eq (bord_ok l1 (hB.le ht hk) h1 h2 hV.2 hi)]
      · unfold G_X11_border
        rw [bd_eq (mbuild_yes hB1 ht hk h1 h2), if_neg (by decide), bd_eq (inP_yes (by omega) hi), if_neg (by decide), bd_eq e2, bd_eq e3, gq_in (by omega) (by omega), nx_nI (by omega), o3 i (by omega)]
theorem a_tried (h : RR c μ) (x y z w : Int32) : Ans c (G_X10_tried x y z w μ) (G_X11_tried x y z w) := by
  have h0 := h
  obtain ⟨-, -, -, T, V, B, D, m, S, hB, hP, -⟩ := h0
  have hT := hB.T3
  rcases bld_cases hB x y z with hn | ⟨t, k, n, ht, hk, h1, h2, rfl, rfl, rfl⟩
  · refine Ans.p (r := -1) h ?_ ?_
    · unfold G_X10_tried; rw [bd_eq (xsolve_no hB hn), if_pos rfl, ite_self, ite_self]
    · unfold G_X11_tried; rw [bd_eq (mbuild_no hB hn), if_pos rfl]
  · have hV := hB.V2 ht
    rcases pk_ix w (n := 2) (by omega) with hw | hw | ⟨i, hi, rfl⟩
    · refine Ans.p (r := -1) h ?_ ?_
      · unfold G_X10_tried; rw [if_pos hw]
      · unfold G_X11_tried; rw [bd_eq (mbuild_yes hB ht hk h1 h2), if_neg (by decide), bd_eq (inL_no (m := 1) (by decide) (by omega) (Or.inl hw)), if_pos rfl]
    · refine Ans.p (r := -1) h ?_ ?_
      · unfold G_X10_tried
        rw [if_pos (show (1 : Int32) < w from by
          rw [fa_le, nI_toInt (by omega)] at hw
          rw [fa_lt]
          have : (1 : Int32).toInt = 1 := by decide
          omega), ite_self]
      · unfold G_X11_tried; rw [bd_eq (mbuild_yes hB ht hk h1 h2), if_neg (by decide), bd_eq (inL_no (m := 1) (by decide) (by omega) (Or.inr hw)), if_pos rfl]
    · obtain ⟨μ1, e1, f1, l1⟩ := xsolve_yes hB ht hk h1 h2
      have hB1 := hB.scr (fr_LQ f1)
      obtain ⟨μ2, e2, f2, k2⟩ := layCounts_ok (hB1.tab ht) (by omega) hk hV.2 (hB1.mv ht)
      obtain ⟨μ3, e3, f3, l3⟩ := layLeast_ok (k := n) k2 hV.2 (hB.le ht hk) (by omega)
      have k3 : mKn (cn (sf (S 0) t) k) (V t) μ3 := k2.ag (fun q j hq => f3.i (by omega))
      refine Ans.q (r := nI (if i = 0 then trA (cn (sf (S 0) t) k) (V t) n else plA (V t) n)) (μ1 := μ1) (μ2 := μ3) h ?_ (fr_LQ f1) ?_ ((fr_qM f2).tr (fr_119 f3))
      · unfold G_X10_tried
        rw [if_neg (nI_pos (by omega)), if_neg (l_nlt (m := 1) (by omega) (by omega)), bd_eq e1, if_neg (by decide), l1.2.1, l1.2.2]
        by_cases h0 : i = 0
        · rw [if_pos (by rw [h0]; rfl), if_pos h0]
        · rw [if_neg (nI_ne0 (by omega) (by omega)), if_neg h0]
      · unfold G_X11_tried
        rw [bd_eq (mbuild_yes hB1 ht hk h1 h2), if_neg (by decide), bd_eq (inL_yes (m := 1) (by decide) (by omega) (by omega)), if_neg (by decide), bd_eq e2, bd_eq e3, tried_ok k3 hV.2 (hB.le ht hk) l3 h2 hi]
theorem a_fewest (h : RR c μ) (x y : Int32) (l : Int64) : Ans c (G_X10_fewest x y l μ) (G_X11_fewest x y l) := by
  have h0 := h
  obtain ⟨-, -, -, T, V, B, D, m, S, hB, hP, -⟩ := h0
  have hT := hB.T3
  by_cases hl : l < 0
  · refine Ans.p (r := -1) h ?_ ?_
    · unfold G_X10_fewest; rw [if_pos ((cmp_lt _ _).mpr hl)]
    · unfold G_X11_fewest
      rcases col_cases hT x y with hx | ⟨t, k, ht, hk, rfl, rfl⟩
      · rw [bd_eq (mCol_no hB.mt hT hx), if_pos rfl]
      · rw [bd_eq (mCol_yes hB.mt hT ht hk), if_neg (by decide), if_neg (fun z => by
          have z := (cmp_ge _ _).mp z
          rw [fa_le64] at z
          rw [fa_lt64] at hl
          omega)]
  · rcases col_cases hT x y with hx | ⟨t, k, ht, hk, rfl, rfl⟩
    · refine Ans.p (r := -1) h ?_ ?_
      · unfold G_X10_fewest; rw [if_neg (fun z => hl ((cmp_lt _ _).mp z)), bd_eq (xCol_no hB.xt hT hx), if_pos rfl]
      · unfold G_X11_fewest; rw [bd_eq (mCol_no hB.mt hT hx), if_pos rfl]
    · have hV := hB.V2 ht
      obtain ⟨E, hE, rfl⟩ := pk_lOf hl
      obtain ⟨μ1, e1, f1, l1⟩ := solve_ok (p := 12 + 9 * t + 3 * k) hV.2 (hB.le ht hk) (k := V t) (by omega) (Nat.le_refl _) (by omega) (hB.cl ht hk)
      have hB1 := hB.scr (fr_LQ f1)
      obtain ⟨μ2, e2, f2, k2⟩ := layCounts_ok (hB1.tab ht) (by omega) hk hV.2 (hB1.mv ht)
      obtain ⟨μ3, e3, f3, l3⟩ := layLeast_ok (k := V t) k2 hV.2 (hB.le ht hk) (by omega)
      obtain ⟨r, r1, r2, r3, r4⟩ := few_ex (g := cn (sf (S 0) t) k) (n := V t) (by omega) E
      refine Ans.q (r := nI r) (μ1 := μ1) (μ2 := μ3) h ?_ (fr_LQ f1) ?_ ((fr_qM f2).tr (fr_119 f3))
      · unfold G_X10_fewest
        rw [if_neg (fun z => hl ((cmp_lt _ _).mp z)), bd_eq (xCol_yes hB.xt hT ht hk), if_neg (by decide), gq_in (by omega) (by omega), sp_eq (by omega), (hB.sheet ht).1, lb_e, gq_in (by omega) (by omega), gq_in (by omega) (by omega), show lnP (9 + 9 * t + 2) (nI k) = 12 + 9 * t + 3 * k from by rw [lnP_nI (by omega)]; omega, bd_eq e1, few_x l1 (hB.le ht hk) hV.2 hE r1 r2 r3 r4]
      · unfold G_X11_fewest
        rw [bd_eq (mCol_yes hB1.mt hT ht hk), if_neg (by decide), if_pos ((cmp_ge _ _).mpr (by
          rw [fa_lt64] at hl
          rw [fa_le64]
          omega)), bd_eq e2, k2.1, bd_eq e3, few_m l3 (hB.le ht hk) hV.2 hE r1 r2 r3 r4]
theorem a_column (h : RR c μ) (x y w : Int32) : Ans c (G_X10_column x y w μ) (G_X11_column_ x y w) := by
  have h0 := h
  obtain ⟨-, -, -, T, V, B, D, m, S, hB, hP, -⟩ := h0
  have hT := hB.T3
  rcases col_cases hT x y with hx | ⟨t, k, ht, hk, rfl, rfl⟩
  · refine Ans.p (r := -1) h ?_ ?_
    · unfold G_X10_column; rw [bd_eq (xCol_no hB.xt hT hx), if_pos rfl]
    · unfold G_X11_column_; rw [bd_eq (mCol_no hB.mt hT hx), if_pos rfl]
  · have hV := hB.V2 ht
    have hL := hB.lane ht hk
    have hK := hB.K8 ht
    have hM := hB.tab ht
    have hw := (hB.sw ht).2.2 k hk
    have dm : rI μ 116 (357 * t + (289 + 34 * k + 33)) = nI (sd (S 0) t k) := (hM.2 k hk).2.1
    have no : (w < 0 ∨ nI 4 ≤ w) → Ans c (G_X10_column (nI t) (nI k) w μ) (G_X11_column_ (nI t) (nI k) w) := fun hw => by
      refine Ans.p (r := -1) h ?_ ?_
      · unfold G_X10_column
        rw [bd_eq (xCol_yes hB.xt hT ht hk), if_neg (by decide), gq_in (by omega) (by omega), gq_in (by omega) (by omega), if_neg (out_ne (m := 0) hw (by omega) (by omega)), if_neg (out_ne (m := 1) hw (by omega) (by omega)), if_neg (out_ne (m := 2) hw (by omega) (by omega)), if_neg (out_ne (m := 3) hw (by omega) (by omega))]
      · unfold G_X11_column_
        rw [bd_eq (mCol_yes hB.mt hT ht hk), if_neg (by decide), bd_eq (inL_no (m := 3) (by decide) (by omega) hw), if_pos rfl]
    rcases pk_ix w (n := 4) (by omega) with hw' | hw' | ⟨j, hj, rfl⟩
    · exact no (Or.inl hw')
    · exact no (Or.inr hw')
    · rcases (show j = 0 ∨ j = 1 ∨ j = 2 ∨ j = 3 by omega) with rfl | rfl | rfl | rfl
      · refine Ans.p (r := nI (min B (V t))) h ?_ ?_
        · unfold G_X10_column
          rw [bd_eq (xCol_yes hB.xt hT ht hk), if_neg (by decide), gq_in (by omega) (by omega), gq_in (by omega) (by omega), if_pos (by decide), lp_eq (by omega) hk, bd_eq (lane_size hL)]
        · unfold G_X11_column_
          rw [bd_eq (mCol_yes hB.mt hT ht hk), if_neg (by decide), bd_eq (inL_yes (m := 3) (by decide) (by omega) (by omega)), if_neg (by decide), if_pos (by decide), bd_eq (col_many hM (by omega) hk)]
      · refine Ans.p (r := nI (sd (S 0) t k)) h ?_ ?_
        · unfold G_X10_column
          rw [bd_eq (xCol_yes hB.xt hT ht hk), if_neg (by decide), gq_in (by omega) (by omega), gq_in (by omega) (by omega), if_neg (by decide), if_pos (by decide), lp_eq (by omega) hk, bd_eq (lane_drift hL)]
        · unfold G_X11_column_
          rw [bd_eq (mCol_yes hB.mt hT ht hk), if_neg (by decide), bd_eq (inL_yes (m := 3) (by decide) (by omega) (by omega)), if_neg (by decide), if_neg (by decide), if_pos (by decide), bd_eq (col_drift_at (by omega) hk), gq_in (by omega) (by omega), nx_nI (by omega), dm]
      · obtain ⟨μ1, e1, f1⟩ := worst_x hV.2 hK.2.1 hK.1 (hB.le ht hk) (by omega) hL hw
        have hB1 := hB.scr (fr_LQ f1)
        obtain ⟨μ2, e2, f2⟩ := worst_m hV.2 hK.2.1 hK.1 (by omega) hk (hB.le ht hk) (hB1.mv ht) (hB1.tab ht) hw
        refine Ans.q (r := nI (am (fun i => ct (cn (sf (S 0) t) k) (sb (S 0) t k i) (sb (S 0) t k (i + 1))) (min B (V t)))) (μ1 := μ1) (μ2 := μ2) h ?_ (fr_LQ f1) ?_ (fr_qM f2)
        · unfold G_X10_column
          rw [bd_eq (xCol_yes hB.xt hT ht hk), if_neg (by decide), gq_in (by omega) (by omega), gq_in (by omega) (by omega), if_neg (by decide), if_neg (by decide), if_pos (by decide), lp_eq (by omega) hk, bd_eq e1]
        · unfold G_X11_column_
          rw [bd_eq (mCol_yes hB1.mt hT ht hk), if_neg (by decide), bd_eq (inL_yes (m := 3) (by decide) (by omega) (by omega)), if_neg (by decide), if_neg (by decide), if_neg (by decide), if_pos (by decide), bd_eq e2]
      · refine Ans.p (r := nI D - nI (sd (S 0) t k)) h ?_ ?_
        · unfold G_X10_column
          have b2 : rI μ 7 4 = nI D := hB.2.2.2.2.1.2.2.1
          rw [bd_eq (xCol_yes hB.xt hT ht hk), if_neg (by decide), gq_in (by omega) (by omega), gq_in (by omega) (by omega), if_neg (by decide), if_neg (by decide), if_neg (by decide), if_pos (by decide), lp_eq (by omega) hk, bd_eq (lane_drift hL), b2]
        · unfold G_X11_column_
          have b6 := hB.2.2.2.2.2.2.2.1
          rw [bd_eq (mCol_yes hB.mt hT ht hk), if_neg (by decide), bd_eq (inL_yes (m := 3) (by decide) (by omega) (by omega)), if_neg (by decide), if_neg (by decide), if_neg (by decide), if_neg (by decide), bd_eq (col_drift_at (by omega) hk), gq_in (by omega) (by omega), nx_nI (by omega), dm, b6]
end A
