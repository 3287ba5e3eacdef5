/-! the least errors: numbers alone -/
def qs (g : Nat → Nat) (a w : Nat) : Nat := fb_sm (fun k => g (a + k) * g (a + k)) w
def ss (g : Nat → Nat) (a w : Nat) : Nat := fb_sm (fun k => g (a + k)) w
def ct (g : Nat → Nat) (a b : Nat) : Nat := 720720 * qs g a (b - a) - 720720 / (b - a) * ss g a (b - a) * ss g a (b - a)
theorem sq_add (s x : Nat) : (s + x) * (s + x) = s * s + 2 * (s * x) + x * x := by
  rw [Nat.add_mul, Nat.mul_add, Nat.mul_add, Nat.mul_comm x s]
  omega
theorem amgm (s y : Nat) : 2 * (s * y) ≤ s * s + y * y := by
  rcases Nat.le_total s y with h | h
  · obtain ⟨d, rfl⟩ := Nat.exists_eq_add_of_le h
    have e1 := sq_add s d
    have e2 : s * (s + d) = s * s + s * d := Nat.mul_add _ _ _
    omega
  · obtain ⟨d, rfl⟩ := Nat.exists_eq_add_of_le h
    have e1 := sq_add y d
    have e2 : (y + d) * y = y * y + y * d := by rw [Nat.add_mul, Nat.mul_comm d y]
    omega
theorem ct_alg {w s x : Nat} (h0 : 0 < w) (hw : w < 16) : 720720 / (w + 1) * (s + x) * (s + x) ≤ 720720 * (x * x) + 720720 / w * s * s := by
  have h := amgm s (w * x)
  have e2 : w * x * (w * x) = w * w * (x * x) := Nat.mul_mul_mul_comm _ _ _ _
  have e3 : s * (w * x) = w * (s * x) := Nat.mul_left_comm _ _ _
  rw [e2, e3] at h
  rw [Nat.mul_assoc, sq_add, Nat.mul_assoc (720720 / w)]
  generalize s * s = A at *
  generalize s * x = B at *
  generalize x * x = C at *
  rcases (show w = 1 ∨ w = 2 ∨ w = 3 ∨ w = 4 ∨ w = 5 ∨ w = 6 ∨ w = 7 ∨ w = 8 ∨ w = 9 ∨ w = 10 ∨ w = 11 ∨ w = 12 ∨ w = 13 ∨ w = 14 ∨ w = 15 by omega) with rfl | rfl | rfl | rfl | rfl | rfl | rfl | rfl | rfl | rfl | rfl | rfl | rfl | rfl | rfl
  all_goals (simp only [Nat.reduceAdd, Nat.reduceDiv, Nat.reduceMul] at h ⊢; omega)
theorem ct_low (g : Nat → Nat) (a : Nat) : ∀ w, 0 < w → w ≤ 16 → 720720 / w * ss g a w * ss g a w ≤ 720720 * qs g a w := by
  intro w
  induction w with
  | zero => intro h; exact absurd h (by omega)
  | succ w ih =>
    intro _ hw
    have e1 : ss g a (w + 1) = ss g a w + g (a + w) := rfl
    have e2 : qs g a (w + 1) = qs g a w + g (a + w) * g (a + w) := rfl
    rw [e1, e2]
    rcases Nat.eq_zero_or_pos w with rfl | h
    · rw [show ss g a 0 = 0 from rfl, show qs g a 0 = 0 from rfl, Nat.zero_add, Nat.zero_add, Nat.zero_add, Nat.mul_assoc]
      exact Nat.le_refl _
    · have h1 := ih h (by omega)
      have h2 := ct_alg (s := ss g a w) (x := g (a + w)) h (by omega)
      rw [Nat.mul_add 720720]
      exact Nat.le_trans h2 (by rw [Nat.add_comm]; exact Nat.add_le_add_right h1 _)
theorem ct_mono1 (g : Nat → Nat) {a b : Nat} (h : a < b) (hb : b < a + 16) : ct g a b ≤ ct g a (b + 1) := by
  obtain ⟨w, rfl⟩ : ∃ w, b = a + w := ⟨b - a, by omega⟩
  unfold ct
  rw [show a + w + 1 - a = w + 1 by omega, show a + w - a = w by omega]
  have e1 : ss g a (w + 1) = ss g a w + g (a + w) := rfl
  have e2 : qs g a (w + 1) = qs g a w + g (a + w) * g (a + w) := rfl
  rw [e1, e2, Nat.mul_add 720720]
  have h1 := ct_low g a w (by omega) (by omega)
  have h2 := ct_alg (w := w) (s := ss g a w) (x := g (a + w)) (by omega) (by omega)
  omega
theorem ct_mono (g : Nat → Nat) {a b : Nat} (h : a < b) : ∀ d, b + d ≤ a + 16 → ct g a b ≤ ct g a (b + d) := by
  intro d
  induction d with
  | zero => intro _; exact Nat.le_refl _
  | succ d ih =>
    intro hd
    exact Nat.le_trans (ih (by omega)) (ct_mono1 g (by omega) (by omega))
theorem qs_le (g : Nat → Nat) (a : Nat) : ∀ w, qs g a w ≤ ss g a w * ss g a w := by
  intro w
  induction w with
  | zero => exact Nat.le_refl _
  | succ w ih =>
    have e1 : ss g a (w + 1) = ss g a w + g (a + w) := rfl
    have e2 : qs g a (w + 1) = qs g a w + g (a + w) * g (a + w) := rfl
    rw [e1, e2, sq_add]
    omega
theorem ss_le {g : Nat → Nat} {n : Nat} {a w : Nat} (h : a + w ≤ n) : ss g a w ≤ fb_sm g n := by
  have h1 := fb_sm_split g a w
  have h2 := fb_sm_mono g (a + w) (n - (a + w))
  rw [show a + w + (n - (a + w)) = n by omega] at h2
  unfold ss
  omega
theorem ct_le {g : Nat → Nat} {n a b : Nat} (hg : fb_sm g n ≤ 999) (hb : b ≤ n) (hab : a ≤ b) : ct g a b ≤ 719279280720 := by
  have h1 := qs_le g a (b - a)
  have h2 : ss g a (b - a) ≤ 999 := Nat.le_trans (ss_le (n := n) (by omega)) hg
  have h3 : ss g a (b - a) * ss g a (b - a) ≤ 999 * 999 := Nat.mul_le_mul h2 h2
  unfold ct
  omega
def NV : Nat := 1000000000000000
def mnl (f : Nat → Nat) : Nat → Nat
  | 0 => NV
  | k + 1 => min (mnl f k) (f k)
theorem mnl_nv (f : Nat → Nat) : ∀ m, mnl f m ≤ NV
  | 0 => Nat.le_refl _
  | m + 1 => Nat.le_trans (Nat.min_le_left _ _) (mnl_nv f m)
theorem mnl_le (f : Nat → Nat) : ∀ {m k}, k < m → mnl f m ≤ f k := by
  intro m
  induction m with
  | zero => intro k h; omega
  | succ m ih =>
    intro k h
    show min (mnl f m) (f m) ≤ f k
    rcases Nat.lt_or_ge k m with h1 | h1
    · exact Nat.le_trans (Nat.min_le_left _ _) (ih h1)
    · rw [show k = m by omega]; exact Nat.min_le_right _ _
theorem mnl_ge {f : Nat → Nat} {b : Nat} (hb : b ≤ NV) : ∀ {m}, (∀ k, k < m → b ≤ f k) → b ≤ mnl f m := by
  intro m
  induction m with
  | zero => intro _; exact hb
  | succ m ih => intro h; exact Nat.le_min.mpr ⟨ih (fun k hk => h k (by omega)), h m (by omega)⟩
theorem mnl_eq {f : Nat → Nat} {m k b : Nat} (hk : k < m) (hb : b ≤ NV) (e : f k = b) (h : ∀ k, k < m → b ≤ f k) : mnl f m = b := Nat.le_antisymm (e ▸ mnl_le f hk) (mnl_ge hb h)
theorem mnl_cong {f f' : Nat → Nat} : ∀ {m}, (∀ k, k < m → f k = f' k) → mnl f m = mnl f' m := by
  intro m
  induction m with
  | zero => intro _; rfl
  | succ m ih => intro h; show min _ _ = min _ _; rw [ih (fun k hk => h k (by omega)), h m (by omega)]
def wf (g : Nat → Nat) (r : Nat → Nat) (v e : Nat) : Nat := if r e = NV then NV else ct g v e + r e
def Wt (g : Nat → Nat) (n : Nat) : Nat → Nat → Nat
  | 0, v => if v = n then 0 else NV
  | j + 1, v => mnl (fun k => wf g (Wt g n j) v (v + 1 + k)) (n - v)
theorem W_inf (g : Nat → Nat) (n : Nat) : ∀ j v, (j = 0 → v ≠ n) → (1 ≤ j → n < v + j) → Wt g n j v = NV := by
  intro j
  induction j with
  | zero => intro v h _; exact if_neg (h rfl)
  | succ j ih =>
    intro v _ h
    have h1 := h (by omega)
    refine Nat.le_antisymm (mnl_nv _ _) (mnl_ge (Nat.le_refl _) (fun k hk => ?_))
    show NV ≤ wf g (Wt g n j) v (v + 1 + k)
    unfold wf
    rw [if_pos (ih (v + 1 + k) (by omega) (by omega))]
    exact Nat.le_refl _
section W
variable {g : Nat → Nat} {n : Nat}
theorem W_fin (hg : fb_sm g n ≤ 999) (hn : n ≤ 16) : ∀ j v, 1 ≤ j → v + j ≤ n → Wt g n j v ≤ j * 719279280720 := by
  intro j
  induction j with
  | zero => intro v h; omega
  | succ j ih =>
    intro v _ h
    rcases Nat.eq_zero_or_pos j with rfl | hj
    · refine Nat.le_trans (mnl_le _ (k := n - v - 1) (by omega)) ?_
      show wf g (Wt g n 0) v (v + 1 + (n - v - 1)) ≤ _
      rw [show v + 1 + (n - v - 1) = n by omega]
      have e : Wt g n 0 n = 0 := if_pos rfl
      unfold wf
      rw [e, if_neg (by decide)]
      have := ct_le (a := v) (b := n) hg (Nat.le_refl n) (by omega)
      omega
    · refine Nat.le_trans (mnl_le _ (k := 0) (by omega)) ?_
      show wf g (Wt g n j) v (v + 1 + 0) ≤ _
      have h1 := ih (v + 1) hj (by omega)
      have h2 : j * 719279280720 ≤ 16 * 719279280720 := Nat.mul_le_mul_right _ (by omega)
      unfold wf
      rw [Nat.add_zero, if_neg (by unfold NV; omega)]
      have h3 := ct_le (a := v) (b := v + 1) hg (by omega) (by omega)
      rw [Nat.add_mul]
      omega
theorem W_lt (hg : fb_sm g n ≤ 999) (hn : n ≤ 16) {j v : Nat} (hj : 1 ≤ j) (h : v + j ≤ n) : Wt g n j v ≤ 11508468491520 := by
  have h1 := W_fin hg hn j v hj h
  have h2 : j * 719279280720 ≤ 16 * 719279280720 := Nat.mul_le_mul_right _ (by omega)
  omega
theorem W_ne (hg : fb_sm g n ≤ 999) (hn : n ≤ 16) {j v : Nat} (hj : 1 ≤ j) (h : v + j ≤ n) : Wt g n j v ≠ NV := by
  have := W_lt hg hn hj h
  unfold NV
  omega
theorem W_le63 (hg : fb_sm g n ≤ 999) (hn : n ≤ 16) (j v : Nat) : Wt g n j v ≤ NV := by
  cases j with
  | zero => show (if v = n then 0 else NV) ≤ NV; split <;> unfold NV <;> omega
  | succ j => exact mnl_nv _ _
theorem W_one (hg : fb_sm g n ≤ 999) {v : Nat} (h : v < n) : Wt g n 1 v = ct g v n := by
  have h1 := ct_le (a := v) (b := n) hg (Nat.le_refl n) (by omega)
  have e : Wt g n 0 n = 0 := if_pos rfl
  refine mnl_eq (k := n - v - 1) (by omega) (by unfold NV; omega) ?_ (fun k hk => ?_)
  · show wf g (Wt g n 0) v (v + 1 + (n - v - 1)) = _
    rw [show v + 1 + (n - v - 1) = n by omega]
    unfold wf
    rw [e, if_neg (by decide), Nat.add_zero]
  · show ct g v n ≤ wf g (Wt g n 0) v (v + 1 + k)
    unfold wf
    by_cases hk : v + 1 + k = n
    · rw [hk, e, if_neg (by decide), Nat.add_zero]; exact Nat.le_refl _
    · rw [if_pos (show Wt g n 0 (v + 1 + k) = NV from if_neg hk)]; unfold NV; omega
/-- where the second begins: the lowest that has the least -/
def sec (g : Nat → Nat) (n j v : Nat) : Nat := v + 1 + fa_first (fun k => decide (Wt g n (j - 1) (v + 1 + k) ≠ NV ∧ ct g v (v + 1 + k) + Wt g n (j - 1) (v + 1 + k) = Wt g n j v)) (n - v)
theorem sec_eq {j v e : Nat} (h1 : v < e) (h2 : e ≤ n) (h3 : Wt g n (j - 1) e ≠ NV) (h4 : ct g v e + Wt g n (j - 1) e = Wt g n j v) (h5 : ∀ e', v < e' → e' < e → Wt g n (j - 1) e' = NV ∨ ct g v e' + Wt g n (j - 1) e' ≠ Wt g n j v) : sec g n j v = e := by
  unfold sec
  generalize hp : (fun k => decide (Wt g n (j - 1) (v + 1 + k) ≠ NV ∧ ct g v (v + 1 + k) + Wt g n (j - 1) (v + 1 + k) = Wt g n j v)) = p
  have pe : ∀ k, p k = decide (Wt g n (j - 1) (v + 1 + k) ≠ NV ∧ ct g v (v + 1 + k) + Wt g n (j - 1) (v + 1 + k) = Wt g n j v) := fun k => by rw [← hp]
  rcases Nat.lt_trichotomy (v + 1 + fa_first p (n - v)) e with h | h | h
  · have q := fa_first_yes p (n - v) (by omega)
    rw [pe] at q
    have q := of_decide_eq_true q
    rcases h5 _ (by omega) h with q1 | q1
    · exact absurd q1 q.1
    · exact absurd q.2 q1
  · exact h
  · have q := fa_first_no p (n - v) (e - v - 1) (by omega)
    rw [pe, show v + 1 + (e - v - 1) = e by omega] at q
    exact absurd ⟨h3, h4⟩ (of_decide_eq_false q)
end W
/-- how many are tried: m at most, from e on -/
def tr (c f : Nat → Nat) : Nat → Nat → Nat → Nat
  | 0, _, _ => 0
  | m + 1, e, b => 1 + if min b (f e) ≤ c e then 0 else tr c f m (e + 1) (min b (f e))
theorem tr_any (c f : Nat → Nat) (m e : Nat) {b b' : Nat} (h : f e ≤ b) (h' : f e ≤ b') : tr c f (m + 1) e b = tr c f (m + 1) e b' := by
  unfold tr
  rw [Nat.min_eq_right h, Nat.min_eq_right h']
def trs (g : Nat → Nat) (n j v : Nat) : Nat := if j ≤ 1 then 1 else tr (ct g v) (fun e => ct g v e + Wt g n (j - 1) e) (n - j + 1 - v) (v + 1) NV
def trA (g : Nat → Nat) (n k : Nat) : Nat := fb_sm (fun i => fb_sm (fun v => trs g n (i + 1) v) (n - (i + 1) + 1)) k
def plA (n k : Nat) : Nat := fb_sm (fun i => fb_sm (fun v => if i = 0 then 1 else n - (i + 1) + 1 - v) (n - (i + 1) + 1)) k
/-- where k begin -/
def bo (g : Nat → Nat) (n k : Nat) : Nat → Nat
  | 0 => 0
  | i + 1 => if i + 1 < k then sec g n (k - i) (bo g n k i) else n
theorem seek_done {g : Nat → Nat} {n : Nat} (hg : fb_sm g n ≤ 999) (hn : n ≤ 16) {j v b s : Nat} (hj : 2 ≤ j) (hv : v + j ≤ n) (h1 : v < s) (h2 : s ≤ n - j + 1) (h3 : ct g v s + Wt g n (j - 1) s = b) (h4 : ∀ e, v < e → e < s → b < ct g v e + Wt g n (j - 1) e) (h5 : ∀ e, v < e → e ≤ n - j + 1 → b ≤ ct g v e + Wt g n (j - 1) e) : Wt g n j v = b ∧ sec g n j v = s := by
  have fin : ∀ e, e ≤ n - j + 1 → Wt g n (j - 1) e ≠ NV := fun e he => W_ne hg hn (by omega) (by omega)
  have bn : b ≤ NV := by
    have := W_lt hg hn (j := j - 1) (v := s) (by omega) (by omega)
    have := ct_le (a := v) (b := s) hg (by omega) (by omega)
    unfold NV
    omega
  have e1 : Wt g n j v = b := by
    rw [show j = (j - 1) + 1 by omega]
    refine mnl_eq (k := s - v - 1) (by omega) bn ?_ (fun k hk => ?_)
    · show wf g (Wt g n (j - 1)) v (v + 1 + (s - v - 1)) = b
      rw [show v + 1 + (s - v - 1) = s by omega]
      unfold wf
      rw [if_neg (fin s h2), h3]
    · show b ≤ wf g (Wt g n (j - 1)) v (v + 1 + k)
      unfold wf
      by_cases hq : v + 1 + k ≤ n - j + 1
      · rw [if_neg (fin _ hq)]
        exact h5 _ (by omega) hq
      · rw [if_pos (W_inf g n (j - 1) (v + 1 + k) (by omega) (by omega))]
        exact bn
  refine ⟨e1, sec_eq h1 (by omega) (fin s h2) (h3.trans e1.symm) (fun e q1 q2 => Or.inr ?_)⟩
  have := h4 e q1 q2
  omega
/-- how the second begins where it is sought -/
theorem sec_spec {g : Nat → Nat} {n : Nat} (hg : fb_sm g n ≤ 999) (hn : n ≤ 16) {j v : Nat} (hj : 2 ≤ j) (hv : v + j ≤ n) : v < sec g n j v ∧ sec g n j v ≤ n - j + 1 ∧ ct g v (sec g n j v) + Wt g n (j - 1) (sec g n j v) = Wt g n j v ∧ ∀ e, v < e → e < sec g n j v → ct g v e + Wt g n (j - 1) e ≠ Wt g n j v := by
  obtain ⟨i, hi, h2, h3⟩ := fb_low (fun k => ((ct g v (v + 1 + k) + Wt g n (j - 1) (v + 1 + k) : Nat) : Int)) (n := n - j + 1 - v) (by omega)
  obtain ⟨e1, e2⟩ := seek_done hg hn (s := v + 1 + i) (b := ct g v (v + 1 + i) + Wt g n (j - 1) (v + 1 + i)) hj hv (by omega) (by omega) rfl (fun e q1 q2 => by
    have := h3 (e - v - 1) (by omega)
    rw [show v + 1 + (e - v - 1) = e by omega] at this
    omega) (fun e q1 q2 => by
    have := h2 (e - v - 1) (by omega)
    rw [show v + 1 + (e - v - 1) = e by omega] at this
    omega)
  rw [e2, e1]
  refine ⟨by omega, by omega, rfl, fun e q1 q2 => ?_⟩
  have := h3 (e - v - 1) (by omega)
  rw [show v + 1 + (e - v - 1) = e by omega] at this
  omega
theorem bo_spec {g : Nat → Nat} {n : Nat} (hg : fb_sm g n ≤ 999) (hn : n ≤ 16) {k : Nat} (hk : k ≤ n) : ∀ i, i < k → bo g n k i + (k - i) ≤ n ∧ bo g n k i < bo g n k (i + 1) := by
  intro i
  induction i with
  | zero =>
    intro h
    refine ⟨by show 0 + (k - 0) ≤ n; omega, ?_⟩
    show 0 < if 0 + 1 < k then sec g n (k - 0) 0 else n
    by_cases h1 : 0 + 1 < k
    · rw [if_pos h1]
      exact (sec_spec hg hn (j := k - 0) (v := 0) (by omega) (by omega)).1
    · rw [if_neg h1]; omega
  | succ i ih =>
    intro h
    obtain ⟨a, b⟩ := ih (by omega)
    have e : bo g n k (i + 1) = sec g n (k - i) (bo g n k i) := if_pos h
    have s := sec_spec hg hn (j := k - i) (v := bo g n k i) (by omega) (by omega)
    have a1 : bo g n k (i + 1) + (k - (i + 1)) ≤ n := by rw [e]; omega
    refine ⟨a1, ?_⟩
    show bo g n k (i + 1) < if i + 1 + 1 < k then sec g n (k - (i + 1)) (bo g n k (i + 1)) else n
    by_cases h1 : i + 1 + 1 < k
    · rw [if_pos h1]
      exact (sec_spec hg hn (j := k - (i + 1)) (v := bo g n k (i + 1)) (by omega) a1).1
    · rw [if_neg h1]; omega
theorem bo_end {g : Nat → Nat} {n k : Nat} (hk : 0 < k) : bo g n k k = n := by
  obtain ⟨i, rfl⟩ : ∃ i, k = i + 1 := ⟨k - 1, by omega⟩
  exact if_neg (by omega)
