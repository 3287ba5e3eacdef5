/-! texts: a book -/
abbrev BS : Type := Nat × Nat × Nat × (Nat → Int32) × (Nat → Int32) × (Nat → Int32)
def zs (x : BS) : Nat := x.1
def zt (x : BS) : Nat := x.2.1
def zr (x : BS) : Nat := x.2.2.1
def zS (x : BS) : Nat → Int32 := x.2.2.2.1
def zT (x : BS) : Nat → Int32 := x.2.2.2.2.1
def zR (x : BS) : Nat → Int32 := x.2.2.2.2.2
def pu4 (f : Nat → Int32) (i : Nat) (d : Nat → Int32) : Nat → Int32 := fun j => if 4 * i ≤ j ∧ j < 4 * i + 4 then d (4 + (j - 4 * i)) else f j
def bnx (x : BS) (y : Nat) (d : Nat → Int32) : BS := if y = 0 then (1, zt x, zr x, d, zT x, zR x) else if y = 1 then (zs x, zt x + 1, zr x, zS x, pu (zT x) (zt x) (d 3), zR x) else (zs x, zt x, zr x + 1, zS x, zT x, pu4 (zR x) (zr x) d)
/-- which clause begins: 3 for none -/
def whc (x : BS) (k : Nat) : Nat := if k = 115 ∧ zs x = 0 then 0 else if k = 116 ∧ zt x < 3 then 1 else if k = 114 ∧ zr x < 20 then 2 else 3
def clr (l : Nat) (ch : Nat → Nat) (x : BS) (p : Nat) : Nat ⊕ (Nat × BS) := if whc x (tc l ch (sk l ch p)) = 3 then .inl (sk l ch p) else match itz l ch (whc x (tc l ch (sk l ch p))) (sk l ch p + 1) with
  | .inl e => .inl e
  | .inr (e, d) => .inr (e, bnx x (whc x (tc l ch (sk l ch p))) d)
def okr (x : BS) (i : Nat) : Bool := decide (¬ nI (zt x) ≤ zR x (4 * i)) && (decide (¬ zT x (nx (zR x (4 * i))) ≤ zR x (4 * i + 1)) && decide (¬ zT x (nx (zR x (4 * i))) ≤ zR x (4 * i + 2)))
def fw (x : BS) : Nat → Bool
  | 0 => decide (0 < zt x)
  | i + 1 => fw x i && okr x i
def bkr (l : Nat) (ch : Nat → Nat) : Nat → Nat → BS → Nat ⊕ BS
  | 0, _, _ => .inl 0
  | n + 1, p, x => match clr l ch x p with
    | .inl e => .inl e
    | .inr (e, x') => if tc l ch e = 0 then (if fw x' (zr x') = true then .inr x' else .inl l) else bkr l ch n (e + 1) x'
/-- in what bounds all lies -/
def GK (k : Nat) (x : Int32) : Prop := x = tUSUAL k ∨ ∃ v, x = nI v ∧ gL k ≤ v ∧ v ≤ gH k
def BW (x : BS) : Prop := zs x ≤ 1 ∧ zt x ≤ 3 ∧ zr x ≤ 20 ∧ (∀ k, k < 3 → GK k (zS x k)) ∧ (∀ i, i < zt x → GK 3 (zT x i)) ∧ ∀ i j, i < zr x → j < 4 → GK (4 + j) (zR x (4 * i + j))
theorem numr_v {l : Nat} {ch : Nat → Nat} {d lo hi p e v : Nat} (h : numr l ch d lo hi p = .inr (e, v)) : lo ≤ v ∧ v ≤ hi := by
  unfold numr at h
  split at h
  · cases h
  · split at h
    · cases h
    · split at h
      · cases h
      next q =>
        have e := Sum.inr.inj h
        rw [e] at q
        dsimp only at q
        omega
theorem numr_en {l : Nat} {ch : Nat → Nat} (hc : CH l ch) {lo hi p e v : Nat} (hp : p ≤ l) (hh : hi ≤ 999) (hl : lo ≤ 999) (h : numr l ch 3 lo hi p = .inr (e, v)) : p < e ∧ e ≤ l := by
  have h240 := hc.1
  obtain ⟨μx, mx1, mx2⟩ : ∃ μ : Mem, TX l ch μ ∧ rI μ 1 2 = nI p := ⟨wI (wR (wI μ0 1 1 (nI l)) 2 (fun k => nI (ch k))) 1 2 (nI p), ⟨by rw [rI_wI_off (by omega), rI_wR_ne (by omega), rI_wI_at], fun k hk => by rw [rI_wI_ne (by omega), rI_wR_at]⟩, rI_wI_at⟩
  obtain ⟨r', μy, -, -, dd⟩ := rn_x (d := 3) (lo := lo) (hi := hi) hc mx1 mx2 hp (by omega) hh hl
  rcases dd with ⟨e', z1, -⟩ | ⟨e', v', z1, -, -, z4, z5, -⟩
  · rw [h] at z1; cases z1
  · rw [h] at z1
    have := congrArg Prod.fst (Sum.inr.inj z1)
    dsimp only at this
    omega
theorem its_rng {l : Nat} {ch : Nat → Nat} {a b : Nat} (hab : a ≤ b) (hb : b ≤ 8) : ∀ n p m d e d', (∀ k, a ≤ k → k < b → GK k (d k)) → its l ch a b n p m d = .inr (e, d') → ∀ k, a ≤ k → k < b → GK k (d' k) := by
  intro n
  induction n with
  | zero => intro p m d e d' _ h; cases h
  | succ n ih =>
    intro p m d e d' hd h
    unfold its at h
    split at h
    · split at h
      · have h := congrArg Prod.snd (Sum.inr.inj h)
        dsimp only at h
        rw [← h]; exact hd
      · cases h
    next q8 =>
      split at h
      · cases h
      · obtain ⟨k1, k2, k3⟩ := (itm_in (x := tc l ch (sk l ch p)) hab hb).resolve_left q8
        generalize itm a b (tc l ch (sk l ch p)) = k at *
        cases hn : numr l ch 3 (gL k) (gH k) (sk l ch p + 1) with
        | inl e' => rw [hn] at h; cases h
        | inr x =>
          obtain ⟨e', v⟩ := x
          rw [hn] at h
          dsimp only at h
          have nv := numr_v hn
          refine ih _ _ _ _ _ (fun j j1 j2 => ?_) h
          by_cases q : j = k
          · rw [q, pu_at]; exact Or.inr ⟨v, rfl, nv⟩
          · rw [pu_ne q]; exact hd j j1 j2
theorem itz_rng {l : Nat} {ch : Nat → Nat} {y p e : Nat} {d : Nat → Int32} (hy : y < 3) (h : itz l ch y p = .inr (e, d)) : ∀ k, ca y ≤ k → k < cb y → GK k (d k) := by
  obtain ⟨hab, hb, -⟩ := cab y hy
  exact its_rng hab hb 300 p _ _ e d (fun k _ _ => Or.inl rfl) h
theorem BW.step {x : BS} {y : Nat} {d : Nat → Int32} {k : Nat} (hx : BW x) (hk : whc x k = y) (hy : y < 3) (hd : ∀ k, ca y ≤ k → k < cb y → GK k (d k)) : BW (bnx x y d) := by
  obtain ⟨h1, h2, h3, h4, h5, h6⟩ := hx
  unfold whc at hk
  unfold bnx
  rcases (show y = 0 ∨ y = 1 ∨ y = 2 by omega) with rfl | rfl | rfl
  · rw [if_pos rfl]
    exact ⟨Nat.le_refl _, h2, h3, fun k hk => hd k (Nat.zero_le _) hk, h5, h6⟩
  · rw [if_neg (by omega), if_pos rfl]
    have lt : zt x < 3 := by
      split at hk
      · omega
      · split at hk
        next q => exact q.2
        · split at hk <;> omega
    refine ⟨h1, by show zt x + 1 ≤ 3; omega, h3, h4, fun i hi => ?_, h6⟩
    have hi : i < zt x + 1 := hi
    show GK 3 (pu (zT x) (zt x) (d 3) i)
    by_cases q : i = zt x
    · rw [q, pu_at]; exact hd 3 (by show 3 ≤ 3; omega) (by show 3 < 4; omega)
    · rw [pu_ne q]; exact h5 i (by omega)
  · rw [if_neg (by omega), if_neg (by omega)]
    have lt : zr x < 20 := by
      split at hk
      · omega
      · split at hk
        · omega
        · split at hk
          next q => exact q.2
          · omega
    refine ⟨h1, h2, by show zr x + 1 ≤ 20; omega, h4, h5, fun i j hi hj => ?_⟩
    have hi : i < zr x + 1 := hi
    show GK (4 + j) (pu4 (zR x) (zr x) d (4 * i + j))
    unfold pu4
    by_cases q : i = zr x
    · rw [if_pos (by omega), q, show 4 * zr x + j - 4 * zr x = j by omega]; exact hd (4 + j) (by show 4 ≤ 4 + j; omega) (by show 4 + j < 8; omega)
    · rw [if_neg (by omega)]; exact h6 i j (by omega) hj
theorem its_fl {l : Nat} {ch : Nat → Nat} (hc : CH l ch) {a b : Nat} (hab : a ≤ b) (hb : b ≤ 8) : ∀ n p m d e, p ≤ l → l < n + p → its l ch a b n p m d = .inl e → e ≤ l := by
  intro n
  induction n with
  | zero => intro p m d e hp hn h; omega
  | succ n ih =>
    intro p m d e hp hn h
    have s1 := sk_ge (ch := ch) hp
    have s2 := sk_le (ch := ch) hp
    unfold its at h
    split at h
    · split at h
      · cases h
      · have := Sum.inl.inj h; omega
    next q8 =>
      split at h
      · have := Sum.inl.inj h; omega
      · obtain ⟨k1, k2, k3⟩ := (itm_in (x := tc l ch (sk l ch p)) hab hb).resolve_left q8
        have hl := tc_lt (l := l) (ch := ch) (p := sk l ch p) (by have := gl_ne _ (show itm a b (tc l ch (sk l ch p)) < 8 by omega); omega)
        generalize hk : itm a b (tc l ch (sk l ch p)) = k at *
        cases hn : numr l ch 3 (gL k) (gH k) (sk l ch p + 1) with
        | inl e' =>
          rw [hn] at h
          have h' := Sum.inl.inj h
          have := numr_fl (by omega) hn
          omega
        | inr x =>
          obtain ⟨e', v⟩ := x
          rw [hn] at h
          dsimp only at h
          have gk := gl_ne k (by omega)
          have en := numr_en (lo := gL k) (hi := gH k) hc (by omega) gk.2.2.2.2 (by omega) hn
          exact ih _ _ _ _ en.2 (by omega) h
theorem clr_fl {l : Nat} {ch : Nat → Nat} (hc : CH l ch) {x : BS} {p e : Nat} (hp : p ≤ l) (h : clr l ch x p = .inl e) : e ≤ l := by
  have h240 := hc.1
  have s1 := sk_ge (ch := ch) hp
  have s2 := sk_le (ch := ch) hp
  unfold clr at h
  split at h
  · have := Sum.inl.inj h; omega
  next q =>
    have wl : whc x (tc l ch (sk l ch p)) < 3 ∧ tc l ch (sk l ch p) ≠ 0 := by
      unfold whc at q ⊢
      split
      next z => omega
      next z1 =>
        split
        next z => omega
        next z2 =>
          split
          next z => omega
          next z3 => rw [if_neg z1, if_neg z2, if_neg z3] at q; exact absurd rfl q
    have hl := tc_lt wl.2
    generalize whc x (tc l ch (sk l ch p)) = y at *
    obtain ⟨hab, hb, -⟩ := cab y wl.1
    cases hi : itz l ch y (sk l ch p + 1) with
    | inl e' =>
      rw [hi] at h
      have h' := Sum.inl.inj h
      have := its_fl hc hab hb 300 _ _ _ _ (by omega) (by omega) hi
      omega
    | inr z => rw [hi] at h; obtain ⟨a, b⟩ := z; cases h
