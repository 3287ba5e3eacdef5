/-! mathematics over the functions: how they are evaluated -/
theorem nx_nI {k : Nat} (h : k < 2 ^ 31) : nx (nI k) = k := nI_clamp h
theorem inB_nI {k n : Nat} (h : k < n) (hn : n < 2 ^ 31) : inB (nI k) n = true := by unfold inB; exact decide_eq_true (nI_in h hn)
theorem gq_t {ρ : Type} {x : Option ρ} : gq true x = x := rfl
theorem gq_in {ρ : Type} {x : Option ρ} {k n : Nat} (h : k < n) (hn : n < 2 ^ 31) : gq (inB (nI k) n) x = x := by rw [inB_nI h hn]; rfl
theorem gq_d {ρ : Type} {x : Option ρ} {c : Prop} [Decidable c] (h : c) : gq (decide c) x = x := by rw [decide_eq_true h]; rfl
theorem lb_e {α ρ : Type} (e : α) (f : α → Option ρ) : lb e f = f e := rfl
theorem bd_s {α ρ : Type} (a : α) (μ : Mem) (f : α → Mem → Option ρ) : bd (some (a, μ)) f = f a μ := rfl
theorem bd_eq {α ρ : Type} {o : Option (α × Mem)} {a : α} {μ : Mem} {f : α → Mem → Option ρ} (h : o = some (a, μ)) : bd o f = f a μ := by rw [h]; rfl
theorem rI_wI_ne {μ : Mem} {p k q j : Nat} {v : Int32} (h : q ≠ p) : rI (wI μ p k v) q j = rI μ q j := by simp [rI, wI, wR, h]
theorem rI_wI_eq {μ : Mem} {p k j : Nat} {v : Int32} : rI (wI μ p k v) p j = if j = k then v else rI μ p j := by simp [rI, wI, wR, upd]
theorem rI_wI_at {μ : Mem} {p k : Nat} {v : Int32} : rI (wI μ p k v) p k = v := by simp [rI, wI, wR, upd]
theorem rI_wI_off {μ : Mem} {p k j : Nat} {v : Int32} (h : j ≠ k) : rI (wI μ p k v) p j = rI μ p j := by simp [rI, wI, wR, upd, h]
theorem rI_wL {μ : Mem} {p k q j : Nat} {v : Int64} : rI (wL μ p k v) q j = rI μ q j := rfl
theorem rL_wI {μ : Mem} {p k q j : Nat} {v : Int32} : rL (wI μ p k v) q j = rL μ q j := rfl
theorem rL_wR {μ : Mem} {p q j : Nat} {f : Nat → Int32} : rL (wR μ p f) q j = rL μ q j := rfl
theorem rL_wL_ne {μ : Mem} {p k q j : Nat} {v : Int64} (h : q ≠ p) : rL (wL μ p k v) q j = rL μ q j := by simp [rL, wL, wQ, h]
theorem rL_wL_eq {μ : Mem} {p k j : Nat} {v : Int64} : rL (wL μ p k v) p j = if j = k then v else rL μ p j := by simp [rL, wL, wQ, vp_updL]
theorem rL_wL_at {μ : Mem} {p k : Nat} {v : Int64} : rL (wL μ p k v) p k = v := by simp [rL, wL, wQ, vp_updL]
theorem rL_wL_off {μ : Mem} {p k j : Nat} {v : Int64} (h : j ≠ k) : rL (wL μ p k v) p j = rL μ p j := by simp [rL, wL, wQ, vp_updL, h]
theorem rI_wR_ne {μ : Mem} {p q j : Nat} {f : Nat → Int32} (h : q ≠ p) : rI (wR μ p f) q j = rI μ q j := by simp [rI, wR, h]
theorem rI_wR_at {μ : Mem} {p j : Nat} {f : Nat → Int32} : rI (wR μ p f) p j = f j := by simp [rI, wR]
theorem rI_wC_ne {μ : Mem} {s i p j n q k : Nat} (h : q ≠ p) : rI (wC μ s i p j n) q k = rI μ q k := rI_wR_ne h
theorem rI_wC_at {μ : Mem} {s i p j n k : Nat} : rI (wC μ s i p j n) p k = if j ≤ k ∧ k < j + n then rI μ s (i + (k - j)) else rI μ p k := by unfold wC; rw [rI_wR_at]; rfl
theorem rL_wC {μ : Mem} {s i p j n q k : Nat} : rL (wC μ s i p j n) q k = rL μ q k := rfl
theorem rI_wT_ne {μ : Mem} {f : Nat → Int32} {i p j n q k : Nat} (h : q ≠ p) : rI (wT μ f i p j n) q k = rI μ q k := rI_wR_ne h
theorem rI_wT_at {μ : Mem} {f : Nat → Int32} {i p j n k : Nat} : rI (wT μ f i p j n) p k = if j ≤ k ∧ k < j + n then f (i + (k - j)) else rI μ p k := by unfold wT; rw [rI_wR_at]; rfl
theorem rL_wT {μ : Mem} {f : Nat → Int32} {i p j n q k : Nat} : rL (wT μ f i p j n) q k = rL μ q k := rfl
/-- what lies outside of S is as it was -/
def Fr (S : Nat → Nat → Prop) (μ μ' : Mem) : Prop := ∀ q j, ¬ S q j → rI μ' q j = rI μ q j ∧ rL μ' q j = rL μ q j
theorem Fr.rf {S : Nat → Nat → Prop} {μ : Mem} : Fr S μ μ := fun _ _ _ => ⟨rfl, rfl⟩
theorem Fr.tr {S : Nat → Nat → Prop} {μ μ1 μ2 : Mem} (h : Fr S μ μ1) (h2 : Fr S μ1 μ2) : Fr S μ μ2 := fun q j hq => ⟨(h2 q j hq).1.trans (h q j hq).1, (h2 q j hq).2.trans (h q j hq).2⟩
theorem Fr.mono {S S' : Nat → Nat → Prop} {μ μ1 : Mem} (h : Fr S μ μ1) (hs : ∀ q j, S q j → S' q j) : Fr S' μ μ1 := fun q j hq => h q j (fun z => hq (hs q j z))
theorem Fr.i {S : Nat → Nat → Prop} {μ μ1 : Mem} (h : Fr S μ μ1) {q j : Nat} (hq : ¬ S q j) : rI μ1 q j = rI μ q j := (h q j hq).1
theorem Fr.l {S : Nat → Nat → Prop} {μ μ1 : Mem} (h : Fr S μ μ1) {q j : Nat} (hq : ¬ S q j) : rL μ1 q j = rL μ q j := (h q j hq).2
theorem Fr.wI {S : Nat → Nat → Prop} {μ μ1 : Mem} (h : Fr S μ μ1) {p k : Nat} {v : Int32} (hp : S p k) : Fr S μ (wI μ1 p k v) := fun q j hq => ⟨by
  by_cases e : q = p
  · subst e
    by_cases e2 : j = k
    · subst e2; exact absurd hp hq
    · rw [rI_wI_off e2]; exact h.i hq
  · rw [rI_wI_ne e]; exact h.i hq, by rw [rL_wI]; exact h.l hq⟩
theorem Fr.wL {S : Nat → Nat → Prop} {μ μ1 : Mem} (h : Fr S μ μ1) {p k : Nat} {v : Int64} (hp : S p k) : Fr S μ (wL μ1 p k v) := fun q j hq => ⟨by rw [rI_wL]; exact h.i hq, by
  by_cases e : q = p
  · subst e
    by_cases e2 : j = k
    · subst e2; exact absurd hp hq
    · rw [rL_wL_off e2]; exact h.l hq
  · rw [rL_wL_ne e]; exact h.l hq⟩
theorem Fr.wC {S : Nat → Nat → Prop} {μ μ1 : Mem} (h : Fr S μ μ1) {s i p j n : Nat} (hp : ∀ k, j ≤ k → k < j + n → S p k) : Fr S μ (wC μ1 s i p j n) := fun q k hq => ⟨by
  by_cases e : q = p
  · subst e
    rw [rI_wC_at]
    by_cases e2 : j ≤ k ∧ k < j + n
    · exact absurd (hp k e2.1 e2.2) hq
    · rw [if_neg e2]; exact h.i hq
  · rw [rI_wC_ne e]; exact h.i hq, by rw [rL_wC]; exact h.l hq⟩
theorem Fr.wT {S : Nat → Nat → Prop} {μ μ1 : Mem} (h : Fr S μ μ1) {f : Nat → Int32} {i p j n : Nat} (hp : ∀ k, j ≤ k → k < j + n → S p k) : Fr S μ (wT μ1 f i p j n) := fun q k hq => ⟨by
  by_cases e : q = p
  · subst e
    rw [rI_wT_at]
    by_cases e2 : j ≤ k ∧ k < j + n
    · exact absurd (hp k e2.1 e2.2) hq
    · rw [if_neg e2]; exact h.i hq
  · rw [rI_wT_ne e]; exact h.i hq, by rw [rL_wT]; exact h.l hq⟩
/-- a loop that counts upward, its state known at each turn -/
theorem loop_up {σ β : Type} (L : Nat → Int32 → σ → Option β) (N : Nat) (st : Nat → σ) {res : Option β} (step : ∀ n k, k < N → L (n + 1) (nI k) (st k) = L n (nI (k + 1)) (st (k + 1))) (fin : ∀ n, L (n + 1) (nI N) (st N) = res) : ∀ n k, k ≤ N → N - k < n → L n (nI k) (st k) = res := by
  intro n
  induction n with
  | zero => intro k _ h; omega
  | succ n ih =>
    intro k hk h
    rcases Nat.lt_or_ge k N with h1 | h1
    · rw [step n k h1]
      exact ih (k + 1) h1 (by omega)
    · have e : k = N := by omega
      subst e
      exact fin n
/-- a loop that counts upward and keeps what is said of its state -/
theorem loop_inv {σ β : Type} (L : Nat → Int32 → σ → Option β) (N : Nat) (I : Nat → σ → Prop) {P : Option β → Prop} (step : ∀ n k s, k < N → I k s → ∃ s', I (k + 1) s' ∧ L (n + 1) (nI k) s = L n (nI (k + 1)) s') (fin : ∀ n s, I N s → P (L (n + 1) (nI N) s)) : ∀ n k s, k ≤ N → N - k < n → I k s → P (L n (nI k) s) := by
  intro n
  induction n with
  | zero => intro k _ _ h; omega
  | succ n ih =>
    intro k s hk h hI
    rcases Nat.lt_or_ge k N with h1 | h1
    · obtain ⟨s', hI', e⟩ := step n k s h1 hI
      rw [e]
      exact ih (k + 1) s' h1 (by omega) hI'
    · have e : k = N := by omega
      subst e
      exact fin n s hI
/-- .. and may end ahead of time -/
theorem loop_br {σ β : Type} (L : Nat → Int32 → σ → Option β) (N : Nat) (I : Nat → σ → Prop) {P : Option β → Prop} (step : ∀ n k s, k < N → I k s → P (L (n + 1) (nI k) s) ∨ ∃ s', I (k + 1) s' ∧ L (n + 1) (nI k) s = L n (nI (k + 1)) s') (fin : ∀ n s, I N s → P (L (n + 1) (nI N) s)) : ∀ n k s, k ≤ N → N - k < n → I k s → P (L n (nI k) s) := by
  intro n
  induction n with
  | zero => intro k _ _ h; omega
  | succ n ih =>
    intro k s hk h hI
    rcases Nat.lt_or_ge k N with h1 | h1
    · rcases step n k s h1 hI with hp | ⟨s', hI', e⟩
      · exact hp
      · rw [e]
        exact ih (k + 1) s' h1 (by omega) hI'
    · have e : k = N := by omega
      subst e
      exact fin n s hI
theorem cmp_lt (x y : Int64) : lg_cmp x y < 0 ↔ x < y := by
  unfold lg_cmp
  by_cases h : x > y
  · rw [if_pos h]
    have : ¬ x < y := fun h2 => Int64.lt_irrefl (Int64.lt_trans h h2)
    exact ⟨fun h => absurd h (by decide), fun h => absurd h this⟩
  · rw [if_neg h]
    by_cases h2 : x = y
    · rw [if_pos h2]
      exact ⟨fun h => absurd h (by decide), fun h3 => absurd (h2 ▸ h3) Int64.lt_irrefl⟩
    · rw [if_neg h2]
      refine ⟨fun _ => ?_, fun _ => by decide⟩
      have h3 : ¬ y.toInt < x.toInt := fun q => h (Int64.lt_iff_toInt_lt.mpr q)
      have h4 : x.toInt ≠ y.toInt := fun q => h2 (Int64.toInt_inj.mp q)
      exact Int64.lt_iff_toInt_lt.mpr (by omega)
theorem cmp_eq (x y : Int64) : lg_cmp x y = 0 ↔ x = y := by
  unfold lg_cmp
  by_cases h : x > y
  · rw [if_pos h]
    exact ⟨fun h => absurd h (by decide), fun h2 => absurd (h2 ▸ h) Int64.lt_irrefl⟩
  · rw [if_neg h]
    by_cases h2 : x = y
    · rw [if_pos h2]
      exact ⟨fun _ => h2, fun _ => rfl⟩
    · rw [if_neg h2]
      exact ⟨fun h => absurd h (by decide), fun h => absurd h h2⟩
theorem cmp_gt (x y : Int64) : 0 < lg_cmp x y ↔ y < x := by
  unfold lg_cmp
  by_cases h : x > y
  · rw [if_pos h]
    exact ⟨fun _ => h, fun _ => by decide⟩
  · rw [if_neg h]
    by_cases h2 : x = y
    · rw [if_pos h2]
      exact ⟨fun h => absurd h (by decide), fun h3 => absurd h3 h⟩
    · rw [if_neg h2]
      exact ⟨fun h => absurd h (by decide), fun h3 => absurd h3 h⟩
theorem cmp_le (x y : Int64) : lg_cmp x y ≤ 0 ↔ x ≤ y := by
  have h := cmp_gt x y
  have h1 : lg_cmp x y ≤ 0 ↔ ¬ 0 < lg_cmp x y := by rw [fa_le, fa_lt]; omega
  have h2 : x ≤ y ↔ ¬ y < x := by rw [fa_le64, fa_lt64]; omega
  rw [h1, h2, h]
theorem cmp_ge (x y : Int64) : 0 ≤ lg_cmp x y ↔ y ≤ x := by
  have h := cmp_lt x y
  have h1 : 0 ≤ lg_cmp x y ↔ ¬ lg_cmp x y < 0 := by rw [fa_le, fa_lt]; omega
  have h2 : y ≤ x ↔ ¬ x < y := by rw [fa_le64, fa_lt64]; omega
  rw [h1, h2, h]
/-- the model's in(): of ints -/
theorem in_eq (x : Int32) (lo hi : Int32) (μ : Mem) : G_X11_in x.toInt64 lo.toInt64 hi.toInt64 μ = some (if lo ≤ x ∧ x ≤ hi then 1 else 0, μ) := by
  unfold G_X11_in
  simp only [cmp_lt, cmp_gt, fa_wide_lt]
  by_cases h1 : x < lo
  · rw [if_pos h1, if_neg (fun h => (fa_of_lt h1).2.1 h.1)]
  · rw [if_neg h1]
    by_cases h2 : hi < x
    · rw [if_pos h2, if_neg (fun h => (fa_of_lt h2).2.1 h.2)]
    · rw [if_neg h2, if_pos ⟨fa_of_nlt h1, fa_of_nlt h2⟩]
theorem bB_if {c : Prop} [Decidable c] : bB (if c then 1 else 0) = true := by
  by_cases h : c
  · rw [if_pos h]; rfl
  · rw [if_neg h]; rfl
theorem if10 {c : Prop} [Decidable c] {ρ : Type} {a b : ρ} : (if (if c then (1 : Int32) else 0) = 0 then a else b) = if c then b else a := by
  by_cases h : c
  · rw [if_pos h, if_pos h, if_neg (by decide)]
  · rw [if_neg h, if_neg h, if_pos rfl]
theorem bd_ite {c : Prop} [Decidable c] {α ρ : Type} {x y : Option (α × Mem)} {f : α → Mem → Option ρ} : bd (if c then x else y) f = if c then bd x f else bd y f := by
  by_cases h : c
  · rw [if_pos h, if_pos h]
  · rw [if_neg h, if_neg h]
/-- what is in bounds is a number -/
theorem nI_rng {x : Int32} {n : Nat} (hn : n < 2 ^ 31) (h0 : 0 ≤ x) (h : x < nI n) : ∃ k, k < n ∧ x = nI k := by
  rcases pk_ix x hn with h1 | h1 | h1
  · exact absurd h1 (by rw [fa_lt]; rw [fa_le] at h0; omega)
  · exact absurd h1 (by rw [fa_le]; rw [fa_lt] at h; omega)
  · exact h1
theorem imax_nI {a b : Nat} (ha : a < 2 ^ 31) (hb : b < 2 ^ 31) : imax (nI a) (nI b) = nI (max a b) := by
  unfold imax
  by_cases h : a < b
  · rw [if_pos ((nI_ltI ha hb).mpr h), Nat.max_eq_right (by omega)]
  · rw [if_neg (fun q => h ((nI_ltI ha hb).mp q)), Nat.max_eq_left (by omega)]
theorem imin_nI {a b : Nat} (ha : a < 2 ^ 31) (hb : b < 2 ^ 31) : imin (nI a) (nI b) = nI (min a b) := by
  unfold imin
  by_cases h : b < a
  · rw [if_pos ((nI_ltI hb ha).mpr h), Nat.min_eq_right (by omega)]
  · rw [if_neg (fun q => h ((nI_ltI hb ha).mp q)), Nat.min_eq_left (by omega)]
theorem nI_sub1 {a : Nat} (h : 0 < a) : nI a - 1 = nI (a - 1) := pk_sub (a := a) (b := 1) h
theorem nI_inj {a b : Nat} (ha : a < 2 ^ 31) (hb : b < 2 ^ 31) (h : nI a = nI b) : a = b := (nI_eq ha hb).mp h
theorem nI_m1 {a : Nat} (h : a < 2 ^ 31) : nI a ≠ (-1 : Int32) := by
  intro e
  have h1 := congrArg Int32.toInt e
  rw [nI_toInt h] at h1
  have h2 : (-1 : Int32).toInt = -1 := by decide
  omega
/-! numbers as they stand in the code -/
theorem l_nle {m k : Nat} (h : k < m) (hm : m < 2 ^ 31) : ¬ (OfNat.ofNat m : Int32) ≤ nI k := nI_ge h hm
theorem l_le {m k : Nat} (h : m ≤ k) (hk : k < 2 ^ 31) : (OfNat.ofNat m : Int32) ≤ nI k := nI_le h hk
theorem l_lt {m k : Nat} (h : m < k) (hk : k < 2 ^ 31) : (OfNat.ofNat m : Int32) < nI k := nI_lt h hk
theorem l_nlt {m k : Nat} (h : k ≤ m) (hm : m < 2 ^ 31) : ¬ (OfNat.ofNat m : Int32) < nI k := nI_nlt h hm
theorem r_le {m k : Nat} (h : k ≤ m) (hm : m < 2 ^ 31) : nI k ≤ (OfNat.ofNat m : Int32) := nI_le h hm
theorem r_nle {m k : Nat} (h : m < k) (hk : k < 2 ^ 31) : ¬ nI k ≤ (OfNat.ofNat m : Int32) := nI_ge h hk
theorem r_lt {m k : Nat} (h : k < m) (hm : m < 2 ^ 31) : nI k < (OfNat.ofNat m : Int32) := nI_lt h hm
theorem r_nlt {m k : Nat} (h : m ≤ k) (hk : k < 2 ^ 31) : ¬ nI k < (OfNat.ofNat m : Int32) := nI_nlt h hk
theorem r_ne {m k : Nat} (h : k ≠ m) (hk : k < 2 ^ 31) (hm : m < 2 ^ 31) : ¬ nI k = (OfNat.ofNat m : Int32) := fun q => h ((nI_eq hk hm).mp q)
theorem r_eq {m k : Nat} (h : k = m) : nI k = (OfNat.ofNat m : Int32) := by rw [h]; rfl
theorem l_mul (m k : Nat) : (OfNat.ofNat m : Int32) * nI k = nI (m * k) := pk_mul m k
theorem r_mul (m k : Nat) : nI k * (OfNat.ofNat m : Int32) = nI (k * m) := pk_mul k m
theorem l_add (m k : Nat) : (OfNat.ofNat m : Int32) + nI k = nI (m + k) := nI_add m k
theorem r_add (m k : Nat) : nI k + (OfNat.ofNat m : Int32) = nI (k + m) := nI_add k m
theorem r_sub {m k : Nat} (h : m ≤ k) : nI k - (OfNat.ofNat m : Int32) = nI (k - m) := pk_sub h
