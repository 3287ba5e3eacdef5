/-! texts: the items of a clause -/
def gl (k : Nat) : Nat := [98, 100, 113, 118, 116, 97, 98, 110].getD k 1000
def gL (k : Nat) : Nat := [1, 0, 1, 2, 0, 0, 0, 1].getD k 0
def gH (k : Nat) : Nat := [8, 99, 999, 16, 2, 15, 15, 40].getD k 0
theorem k8 {P : Nat → Prop} (h0 : P 0) (h1 : P 1) (h2 : P 2) (h3 : P 3) (h4 : P 4) (h5 : P 5) (h6 : P 6) (h7 : P 7) : ∀ k, k < 8 → P k := fun k hk => by
  rcases (show k = 0 ∨ k = 1 ∨ k = 2 ∨ k = 3 ∨ k = 4 ∨ k = 5 ∨ k = 6 ∨ k = 7 by omega) with rfl | rfl | rfl | rfl | rfl | rfl | rfl | rfl <;> assumption
theorem gl_ne : ∀ k, k < 8 → gl k ≠ 59 ∧ gl k ≠ 0 ∧ gl k ≠ 32 ∧ gL k ≤ 2 ∧ gH k ≤ 999 := by decide
def itf (x : Nat) : Nat → Nat → Nat
  | 0, _ => 8
  | n + 1, k => if gl k = x then k else itf x n (k + 1)
def itm (a b x : Nat) : Nat := itf x (b - a) a
theorem itf_in {x : Nat} : ∀ n k, k + n ≤ 8 → itf x n k = 8 ∨ (k ≤ itf x n k ∧ itf x n k < k + n ∧ gl (itf x n k) = x) := by
  intro n
  induction n with
  | zero => intro k _; exact Or.inl rfl
  | succ n ih =>
    intro k h
    unfold itf
    by_cases q : gl k = x
    · rw [if_pos q]; exact Or.inr ⟨Nat.le_refl _, by omega, q⟩
    · rw [if_neg q]
      rcases ih (k + 1) (by omega) with e | ⟨e1, e2, e3⟩
      · exact Or.inl e
      · exact Or.inr ⟨by omega, by omega, e3⟩
theorem itm_in {a b x : Nat} (hab : a ≤ b) (hb : b ≤ 8) : itm a b x = 8 ∨ (a ≤ itm a b x ∧ itm a b x < b ∧ gl (itm a b x) = x) := by
  rcases itf_in (x := x) (b - a) a (by omega) with e | ⟨e1, e2, e3⟩
  · exact Or.inl e
  · exact Or.inr ⟨e1, by unfold itm; omega, e3⟩
theorem itm_no {a b x : Nat} (hab : a ≤ b) (hb : b ≤ 8) (h : x = 59 ∨ x = 0) : itm a b x = 8 := by
  rcases itm_in (x := x) hab hb with e | ⟨e1, e2, e3⟩
  · exact e
  · have := gl_ne _ (show itm a b x < 8 by omega)
    omega
section IT
variable {l : Nat} {ch : Nat → Nat} {μ : Mem} {p : Nat}
theorem chr_ok : ∀ k, k < 8 → G_J0_charAt_5068e_s0 (nI k) μ = some (nI (gl k), μ) := k8 rfl rfl rfl rfl rfl rfl rfl rfl
theorem low_x : ∀ k, k < 8 → tLOW k = nI (gL k) ∧ tHIGH k = nI (gH k) := k8 ⟨rfl, rfl⟩ ⟨rfl, rfl⟩ ⟨rfl, rfl⟩ ⟨rfl, rfl⟩ ⟨rfl, rfl⟩ ⟨rfl, rfl⟩ ⟨rfl, rfl⟩ ⟨rfl, rfl⟩
theorem gl_sm : ∀ k, k < 8 → gl k < 256 := by decide
theorem it_x {x b : Nat} (hx : x < 256) (hb : b ≤ 8) : ∀ n N k, k + n = b → n < N → L_X1_itemOf_2 N (nI x) (nI b) (nI k) μ = some (if itf x n k = 8 then -1 else nI (itf x n k), μ) := by
  intro n
  induction n with
  | zero =>
    intro N k h hN
    obtain ⟨N, rfl⟩ : ∃ n', N = n' + 1 := ⟨N - 1, by omega⟩
    rw [L_X1_itemOf_2, if_pos (nI_le (by omega) (by omega))]
    rfl
  | succ n ih =>
    intro N k h hN
    obtain ⟨N, rfl⟩ : ∃ n', N = n' + 1 := ⟨N - 1, by omega⟩
    rw [L_X1_itemOf_2, if_neg (nI_ge (by omega) (by omega)), bd_eq (chr_ok k (by omega)), lb_e, nI_1, ih N (k + 1) (by omega) (by omega), show itf x (n + 1) k = if gl k = x then k else itf x n (k + 1) from rfl]
    have g := gl_sm k (by omega)
    by_cases q : gl k = x
    · rw [if_pos q, if_pos (by rw [q]), if_neg (by omega)]
    · rw [if_neg q, if_neg (fun e => q (nI_inj (by omega) (by omega) e))]
theorem itemOf_x {x a b : Nat} (hx : x < 256) (hab : a ≤ b) (hb : b ≤ 8) : G_X1_itemOf (nI x) (nI a) (nI b) μ = some (if itm a b x = 8 then -1 else nI (itm a b x), μ) := it_x hx hb (b - a) 100000 a (by omega) (by omega)
/-! bits -/
theorem b_1 : ∀ i, i < 32 → bt 1 i = decide (i = 0) := by decide +kernel
theorem mk_or (x : Int32) {k j : Nat} (hk : k < 32) (hj : j < 32) : bt (x ||| ((1 : Int32) <<< (nI k &&& 31))) j = (bt x j || decide (j = k)) := by
  rw [b_or, b_shl k hk 1 hj]
  congr 1
  by_cases q : k ≤ j
  · rw [decide_eq_true q, Bool.true_and, b_1 _ (by omega)]
    by_cases q2 : j = k
    · rw [decide_eq_true q2, decide_eq_true (by omega)]
    · rw [decide_eq_false q2, decide_eq_false (by omega)]
  · rw [decide_eq_false q, decide_eq_false (by omega)]; rfl
theorem mk_and (x : Int32) {k : Nat} (hk : k < 32) : (x &&& ((1 : Int32) <<< (nI k &&& 31))) = 0 ↔ bt x k = false := by
  have e : ∀ j, j < 32 → bt (x &&& ((1 : Int32) <<< (nI k &&& 31))) j = (bt x j && decide (j = k)) := fun j hj => by
    have := mk_or 0 hk hj
    rw [b_or, b_0, Bool.false_or, Bool.false_or] at this
    rw [b_and, this]
  constructor
  · intro h
    have := e k hk
    rw [h, b_0, decide_eq_true rfl, Bool.and_true] at this
    exact this.symm
  · intro h
    refine b_ext fun j hj => ?_
    rw [e j hj, b_0]
    by_cases q : j = k
    · rw [q, h]; rfl
    · rw [decide_eq_false q, Bool.and_false]
theorem has_m (x : Int32) {k : Nat} (hk : k < 31) : G_X11_has x (nI k) μ = some (if bt x k = true then 1 else 0, μ) := by
  unfold G_X11_has
  have e : ∀ j, j < 32 → bt ((x >>> (nI k &&& 31)) &&& 1) j = (decide (j = 0) && bt x k) := fun j hj => by
    rw [b_and, b_sshr k (by omega) x hj, b_1 j hj]
    by_cases q : j = 0
    · rw [q, decide_eq_true rfl, Bool.and_true, Bool.true_and, if_pos (by omega), Nat.add_zero]
    · rw [decide_eq_false q, Bool.and_false, Bool.false_and]
  cases hb : bt x k with
  | true =>
    rw [if_pos rfl, if_pos]
    refine b_ext fun j hj => ?_
    rw [e j hj, hb, b_1 j hj, Bool.and_true]
  | false =>
    rw [if_neg (show ¬ false = true by decide), if_neg]
    intro h
    have := e 0 (by omega)
    rw [h, hb, b_1 0 (by omega)] at this
    exact absurd this (by decide)
def its (l : Nat) (ch : Nat → Nat) (a b : Nat) : Nat → Nat → (Nat → Bool) → (Nat → Int32) → Nat ⊕ (Nat × (Nat → Int32))
  | 0, _, _, _ => .inl 0
  | n + 1, p, m, d => if itm a b (tc l ch (sk l ch p)) = 8 then (if tc l ch (sk l ch p) = 59 ∨ tc l ch (sk l ch p) = 0 then .inr (sk l ch p, d) else .inl (sk l ch p)) else if m (itm a b (tc l ch (sk l ch p))) = true then .inl (sk l ch p) else match numr l ch 3 (gL (itm a b (tc l ch (sk l ch p)))) (gH (itm a b (tc l ch (sk l ch p)))) (sk l ch p + 1) with
    | .inl e => .inl e
    | .inr (e, v) => its l ch a b n e (pu m (itm a b (tc l ch (sk l ch p))) true) (pu d (itm a b (tc l ch (sk l ch p))) (nI v))
def ixQ (a b q j : Nat) : Prop := f13 q j ∨ (q = 4 ∧ a ≤ j ∧ j < b)
def ctm (m : Nat → Bool) (a b : Nat) : Nat := fb_sm (fun j => if m (a + j) = true then 1 else 0) (b - a)
theorem ctm_le (m : Nat → Bool) (a b : Nat) : ctm m a b ≤ b - a := by
  have := fb_sm_bound (f := fun j => if m (a + j) = true then 1 else 0) (c := 1) (n := b - a) (fun j _ => by
    show (if m (a + j) = true then 1 else 0) ≤ 1
    split <;> omega)
  unfold ctm
  omega
theorem sm_pu {g : Nat → Nat} {k : Nat} (h0 : g k = 0) : ∀ n, fb_sm (fun j => if j = k then 1 else g j) n = fb_sm g n + if k < n then 1 else 0 := by
  intro n
  induction n with
  | zero => rfl
  | succ n ih =>
    rw [fb_sm_succ, ih, fb_sm_succ]
    by_cases q : n = k
    · rw [if_pos q, if_neg (by omega), if_pos (by omega), q, h0]
    · rw [if_neg q]
      by_cases q2 : k < n
      · rw [if_pos q2, if_pos (by omega)]; omega
      · rw [if_neg q2, if_neg (by omega)]; omega
theorem ctm_pu {m : Nat → Bool} {a b k : Nat} (h1 : a ≤ k) (h2 : k < b) (h : m k = false) : ctm (pu m k true) a b = ctm m a b + 1 := by
  unfold ctm
  have e : (fun j => if pu m k true (a + j) = true then 1 else 0) = (fun j => if j = k - a then 1 else if m (a + j) = true then 1 else 0) := funext fun j => by
    by_cases q : j = k - a
    · rw [if_pos q, show a + j = k by omega, pu_at, if_pos rfl]
    · rw [if_neg q, pu_ne (by omega)]
  rw [e, sm_pu (g := fun j => if m (a + j) = true then 1 else 0) (by show (if m (a + (k - a)) = true then 1 else 0) = 0; rw [show a + (k - a) = k by omega, h]; rfl), if_pos (by omega)]
theorem its_x (hc : CH l ch) {a b : Nat} (hab : a ≤ b) (hb : b ≤ 8) : ∀ n N p m d x4 μ, TX l ch μ → rI μ 1 2 = nI p → p ≤ l → l < n + p → n < N → (∀ k, k < 8 → bt x4 k = m k) → (∀ k, a ≤ k → k < b → rI μ 4 k = d k) → ∃ r μ', L_X1_readItems_22 N (nI a) (nI b) x4 (nI (a + ctm m a b)) μ = some (r, μ') ∧ Fr (ixQ a b) μ μ' ∧ ((∃ e, its l ch a b n p m d = .inl e ∧ r = 0 ∧ rI μ' 1 3 = nI e) ∨ ∃ e d', its l ch a b n p m d = .inr (e, d') ∧ r = 1 ∧ rI μ' 1 2 = nI e ∧ e ≤ l ∧ p ≤ e ∧ (tc l ch e = 59 ∨ tc l ch e = 0) ∧ ∀ k, a ≤ k → k < b → rI μ' 4 k = d' k) := by
  have h240 := hc.1
  intro n
  induction n with
  | zero => intro N p m d x4 μ hT h hp hn; omega
  | succ n ih =>
    intro N p m d x4 μ hT h hp hn hN hm hd
    obtain ⟨N, rfl⟩ : ∃ n', N = n' + 1 := ⟨N - 1, by omega⟩
    have cl := ctm_le m a b
    have s1 := sk_ge (ch := ch) hp
    have s2 := sk_le (ch := ch) hp
    have t255 := tc_le (l := l) (ch := ch) (p := sk l ch p) hc
    obtain ⟨μ1, e1, g1, y1⟩ := peek_ok hc hT h hp
    have f1 : Fr (ixQ a b) μ μ1 := g1.mono (fun q j e => by unfold f12 at e; unfold ixQ f13; omega)
    rw [L_X1_readItems_22, if_neg (nI_nlt (by omega) (by omega)), bd_eq e1]
    unfold its
    generalize hq : sk l ch p = q0 at *
    have d1 : ∀ k, a ≤ k → k < b → rI μ1 4 k = d k := fun k ka kb => (g1.i (by unfold f12; omega)).trans (hd k ka kb)
    by_cases q59 : tc l ch q0 = 59 ∨ tc l ch q0 = 0
    · rw [if_pos (itm_no hab hb q59), if_pos q59]
      have e : (if nI (tc l ch q0) = (59 : Int32) then some ((1 : Int32), μ1) else if nI (tc l ch q0) = 0 then some (1, μ1) else bd (G_X1_itemOf (nI (tc l ch q0)) (nI a) (nI b) μ1) (fun r_6 μ_5 => if r_6 = (-1 : Int32) then F_X1_readItems_73 μ_5 else if (x4 &&& ((1 : Int32) <<< (r_6 &&& 31))) = 0 then lb (x4 ||| ((1 : Int32) <<< (r_6 &&& 31))) (fun x4_7 => lb (wI μ_5 1 2 ((rI μ_5 1 2) + (1 : Int32))) (fun μ_8 => gq (inB r_6 8) (gq (inB r_6 8) (bd (G_X8_readNumber (3 : Int32) (tLOW (nx r_6)) (tHIGH (nx r_6)) μ_8) (fun r_10 μ_9 => gq (inB r_6 8) (lb (wI μ_9 4 (nx r_6) r_10) (fun μ_11 => gq (inB r_6 8) (if (rI μ_11 4 (nx r_6)) = (-1 : Int32) then some ((0 : Int32), μ_11) else lb (nI (a + ctm m a b) + (1 : Int32)) (fun x5_12 => L_X1_readItems_22 N (nI a) (nI b) x4_7 x5_12 μ_11))))))))) else F_X1_readItems_73 μ_5)) = some (1, μ1) := by
        rcases q59 with q | q
        · rw [if_pos (r_eq (m := 59) q)]
        · rw [if_neg (r_ne (m := 59) (by omega) (by omega) (by omega)), if_pos (by rw [q]; rfl)]
      rw [e]
      exact ⟨_, _, rfl, f1, Or.inr ⟨_, _, rfl, rfl, y1, s2, s1, q59, d1⟩⟩
    · rw [if_neg (r_ne (m := 59) (by omega) (by omega) (by omega)), if_neg (nI_ne0 (by omega) (by omega)), bd_eq (itemOf_x (by omega) hab hb)]
      have fail : ∃ r μ', F_X1_readItems_73 μ1 = some (r, μ') ∧ Fr (ixQ a b) μ μ' ∧ r = 0 ∧ rI μ' 1 3 = nI q0 := by
        unfold F_X1_readItems_73 G_X8_fail
        rw [y1, lb_e, bd_s, show bB 0 = true from rfl, gq_t]
        exact ⟨_, _, rfl, f1.wI (by unfold ixQ f13; omega), rfl, rI_wI_at⟩
      obtain ⟨rf, μf, ef, ff, ef0, ef1⟩ := fail
      have kin := itm_in (x := tc l ch q0) hab hb
      generalize hk : itm a b (tc l ch q0) = k at *
      by_cases q8 : k = 8
      · rw [if_pos q8, if_pos q8, if_neg q59, if_pos rfl]
        exact ⟨rf, μf, ef, ff, Or.inl ⟨_, rfl, ef0, ef1⟩⟩
      · obtain ⟨k1, k2, k3⟩ := kin.resolve_left q8
        have hl := tc_lt (l := l) (ch := ch) (p := q0) (by omega)
        have gk := gl_ne k (by omega)
        rw [if_neg q8, if_neg q8, if_neg (nI_m1 (by omega))]
        cases hmk : m k with
        | true =>
          rw [if_pos rfl, if_neg (fun z => by rw [mk_and x4 (by omega), hm k (by omega), hmk] at z; cases z)]
          exact ⟨rf, μf, ef, ff, Or.inl ⟨_, rfl, ef0, ef1⟩⟩
        | false =>
          rw [if_neg (show ¬ false = true by decide), if_pos ((mk_and x4 (by omega)).mpr (by rw [hm k (by omega), hmk])), lb_e, y1, nI_1, lb_e, gq_in (by omega) (by omega), gq_in (by omega) (by omega), nx_nI (by omega), (low_x k (by omega)).1, (low_x k (by omega)).2]
          have f2 : Fr (ixQ a b) μ (wI μ1 1 2 (nI (q0 + 1))) := f1.wI (by unfold ixQ f13; omega)
          obtain ⟨r, μ3, e3, g3, d3⟩ := rn_x (d := 3) (lo := gL k) (hi := gH k) (p := q0 + 1) hc (hT.fr f2 (fun q j e => by unfold ixQ f13 at e; omega)) rI_wI_at (by omega) (by omega) (by omega) (by omega)
          have f3 : Fr (ixQ a b) μ (wI μ3 4 k r) := (f2.tr (g3.mono (fun q j e => by unfold f13 at e; unfold ixQ f13; omega))).wI (by unfold ixQ; omega)
          have e3' : G_X8_readNumber 3 (nI (gL k)) (nI (gH k)) _ = some (r, μ3) := e3
          rw [bd_eq e3', gq_in (by omega) (by omega), lb_e, gq_in (by omega) (by omega), rI_wI_at]
          rcases d3 with ⟨e, n1, n2, n3⟩ | ⟨e, v, n1, n2, n3, n4, n5, n6, n7⟩
          · rw [n1, if_pos n2]
            exact ⟨_, _, rfl, f3, Or.inl ⟨_, rfl, rfl, by rw [rI_wI_ne (by omega)]; exact n3⟩⟩
          · rw [n1, if_neg (by rw [n2]; exact nI_m1 (by omega)), lb_e, nI_1]
            dsimp only
            obtain ⟨r', μ4, i1, i2, i3⟩ := ih N e (pu m k true) (pu d k (nI v)) (x4 ||| ((1 : Int32) <<< (nI k &&& 31))) (wI μ3 4 k r) (hT.fr f3 (fun q j e => by unfold ixQ f13 at e; omega)) (by rw [rI_wI_ne (by omega)]; exact n3) n5 (by omega) (by omega) (fun j hj => by
              rw [mk_or x4 (by omega) (by omega), hm j hj]
              by_cases qj : j = k
              · rw [qj, pu_at, decide_eq_true rfl, Bool.or_true]
              · rw [pu_ne qj, decide_eq_false qj, Bool.or_false]) (fun j j1 j2 => by
              by_cases qj : j = k
              · rw [qj, pu_at, rI_wI_at, n2]
              · rw [pu_ne qj, rI_wI_off qj, g3.i (by unfold f13; omega), rI_wI_ne (by omega)]; exact d1 j j1 j2)
            rw [ctm_pu k1 k2 hmk] at i1
            refine ⟨r', μ4, i1, f3.tr i2, ?_⟩
            rcases i3 with x | ⟨e', d', x1, x2, x3, x4, x5, x6, x7⟩
            · exact Or.inl x
            · exact Or.inr ⟨e', d', x1, x2, x3, x4, by omega, x6, x7⟩
end IT
