/-! texts: the tape -/
def tc (l : Nat) (ch : Nat → Nat) (p : Nat) : Nat := if p < l then ch p else 0
def TX (l : Nat) (ch : Nat → Nat) (μ : Mem) : Prop := rI μ 1 1 = nI l ∧ ∀ k, k < l → rI μ 2 k = nI (ch k)
def TM (l : Nat) (ch : Nat → Nat) (μ : Mem) : Prop := rI μ 107 2 = nI l ∧ ∀ k, k < l → rI μ 108 k = nI (ch k)
def CH (l : Nat) (ch : Nat → Nat) : Prop := l ≤ 240 ∧ ∀ k, k < l → 1 ≤ ch k ∧ ch k ≤ 255
def skf (l : Nat) (ch : Nat → Nat) : Nat → Nat → Nat
  | 0, p => p
  | n + 1, p => if tc l ch p = 32 then skf l ch n (p + 1) else p
def sk (l : Nat) (ch : Nat → Nat) (p : Nat) : Nat := skf l ch (l - p) p
def ac (x : Nat) : Int32 := if x = 0 then -1 else nI x
theorem RT.split {μ : Mem} (h : RT μ) : ∃ l ch, CH l ch ∧ TX l ch μ ∧ TM l ch μ := by
  obtain ⟨l, h1, h2, h3, h4⟩ := h
  refine ⟨l, fun k => ((rI μ 2 k).toInt).toNat, ⟨h1, fun k hk => ?_⟩, ⟨h2, fun k hk => ?_⟩, h3, fun k hk => ?_⟩
  · obtain ⟨e, x, x1, x2, x3⟩ := h4 k hk
    show 1 ≤ ((rI μ 2 k).toInt).toNat ∧ ((rI μ 2 k).toInt).toNat ≤ 255
    rw [x3, nI_toInt (by omega)]
    omega
  · obtain ⟨e, x, x1, x2, x3⟩ := h4 k hk
    show rI μ 2 k = nI ((rI μ 2 k).toInt).toNat
    rw [x3, nI_toInt (by omega)]
    rfl
  · obtain ⟨e, x, x1, x2, x3⟩ := h4 k hk
    show rI μ 108 k = nI ((rI μ 2 k).toInt).toNat
    rw [← e, x3, nI_toInt (by omega)]
    rfl
section TP
variable {l : Nat} {ch : Nat → Nat} {μ : Mem} {p : Nat}
theorem tc_in (h : p < l) : tc l ch p = ch p := if_pos h
theorem tc_out (h : l ≤ p) : tc l ch p = 0 := if_neg (by omega)
theorem tc_le (hc : CH l ch) : tc l ch p ≤ 255 := by
  unfold tc
  split
  · exact (hc.2 p (by assumption)).2
  · omega
theorem tc_lt (h : tc l ch p ≠ 0) : p < l := by
  unfold tc at h
  by_cases q : p < l
  · exact q
  · rw [if_neg q] at h; exact absurd rfl h
theorem tc_pos (hc : CH l ch) (h : p < l) : 1 ≤ tc l ch p := by rw [tc_in h]; exact (hc.2 p h).1
theorem skf_ne (h : tc l ch p ≠ 32) : ∀ n, skf l ch n p = p
  | 0 => rfl
  | n + 1 => if_neg h
theorem sk_no (h : tc l ch p ≠ 32) : sk l ch p = p := skf_ne h _
theorem sk_sp (h : tc l ch p = 32) : sk l ch p = sk l ch (p + 1) := by
  have hp := tc_lt (show tc l ch p ≠ 0 by omega)
  unfold sk
  rw [show l - p = (l - (p + 1)) + 1 by omega]
  exact if_pos h
theorem sk_all : ∀ n p, l - p ≤ n → p ≤ l → tc l ch (sk l ch p) ≠ 32 ∧ p ≤ sk l ch p ∧ sk l ch p ≤ l := by
  intro n
  induction n with
  | zero =>
    intro p h hp
    have : tc l ch p ≠ 32 := by rw [tc_out (by omega)]; omega
    rw [sk_no this]
    exact ⟨this, by omega, by omega⟩
  | succ n ih =>
    intro p h hp
    by_cases q : tc l ch p = 32
    · have hl := tc_lt (show tc l ch p ≠ 0 by omega)
      rw [sk_sp q]
      obtain ⟨a, b, c⟩ := ih (p + 1) (by omega) (by omega)
      exact ⟨a, by omega, c⟩
    · rw [sk_no q]
      exact ⟨q, by omega, by omega⟩
theorem sk_ne (h : p ≤ l) : tc l ch (sk l ch p) ≠ 32 := (sk_all _ p (Nat.le_refl _) h).1
theorem sk_ge (h : p ≤ l) : p ≤ sk l ch p := (sk_all _ p (Nat.le_refl _) h).2.1
theorem sk_le (h : p ≤ l) : sk l ch p ≤ l := (sk_all _ p (Nat.le_refl _) h).2.2
theorem sk_sk (h : p ≤ l) : sk l ch (sk l ch p) = sk l ch p := sk_no (sk_ne h)
theorem TX.ag {μ' : Mem} (h : TX l ch μ) (e : ∀ q j, (q = 1 ∧ j = 1) ∨ q = 2 → rI μ' q j = rI μ q j) : TX l ch μ' := ⟨(e _ _ (by omega)).trans h.1, fun k hk => (e _ _ (by omega)).trans (h.2 k hk)⟩
theorem TM.ag {μ' : Mem} (h : TM l ch μ) (e : ∀ q j, (q = 107 ∧ j = 2) ∨ q = 108 → rI μ' q j = rI μ q j) : TM l ch μ' := ⟨(e _ _ (by omega)).trans h.1, fun k hk => (e _ _ (by omega)).trans (h.2 k hk)⟩
def f12 (q j : Nat) : Prop := q = 1 ∧ j = 2
def f13 (q j : Nat) : Prop := q = 1 ∧ (j = 2 ∨ j = 3)
def m3 (q j : Nat) : Prop := q = 107 ∧ j = 3
def m34 (q j : Nat) : Prop := q = 107 ∧ (j = 3 ∨ j = 4)
theorem peek_ok (hc : CH l ch) (hT : TX l ch μ) (h : rI μ 1 2 = nI p) (hp : p ≤ l) : ∃ μ', G_X8_peek μ = some (nI (tc l ch (sk l ch p)), μ') ∧ Fr f12 μ μ' ∧ rI μ' 1 2 = nI (sk l ch p) := by
  have h240 := hc.1
  have run : ∀ n p μ, TX l ch μ → rI μ 1 2 = nI p → p ≤ l → l - p < n → ∃ μ', L_X8_peek_0 n μ = some (nI (tc l ch (sk l ch p)), μ') ∧ Fr f12 μ μ' ∧ rI μ' 1 2 = nI (sk l ch p) := by
    intro n
    induction n with
    | zero => intro p μ _ _ _ h; omega
    | succ n ih =>
      intro p μ hT h hp hn
      have fin : tc l ch p ≠ 32 → ∃ μ', F_X8_peek_38 μ = some (nI (tc l ch (sk l ch p)), μ') ∧ Fr f12 μ μ' ∧ rI μ' 1 2 = nI (sk l ch p) := fun hne => by
        rw [sk_no hne]
        refine ⟨μ, ?_, Fr.rf, h⟩
        unfold F_X8_peek_38
        rw [hT.1, h]
        by_cases q : p < l
        · rw [if_neg (nI_ge q (by omega)), gq_in (by omega) (by omega), nx_nI (by omega), hT.2 p q, tc_in q]
        · rw [if_pos (nI_le (by omega) (by omega)), tc_out (by omega)]; rfl
      rw [L_X8_peek_0, hT.1, h]
      by_cases q : p < l
      · rw [if_neg (nI_ge q (by omega)), gq_in (by omega) (by omega), nx_nI (by omega), hT.2 p q]
        by_cases q2 : ch p = 32
        · have q3 : tc l ch p = 32 := by rw [tc_in q]; exact q2
          rw [if_pos (by rw [q2]; rfl), lb_e, nI_1, sk_sp q3]
          obtain ⟨μ', a1, a2, a3⟩ := ih (p + 1) (wI μ 1 2 (nI (p + 1))) (hT.ag (fun q j e => by
            rcases e with ⟨e1, e2⟩ | e
            · rw [e1, e2, rI_wI_off (by omega)]
            · rw [rI_wI_ne (by omega)])) rI_wI_at (by omega) (by omega)
          exact ⟨μ', a1, (Fr.rf.wI (show f12 1 2 from ⟨rfl, rfl⟩)).tr a2, a3⟩
        · have b := (hc.2 p q).2
          rw [if_neg (r_ne (m := 32) q2 (by omega) (by omega))]
          exact fin (by rw [tc_in q]; exact q2)
      · rw [if_pos (nI_le (by omega) (by omega))]
        exact fin (by rw [tc_out (by omega)]; omega)
  exact run 100000 p μ hT h hp (by omega)
theorem here_ok (hc : CH l ch) (hT : TM l ch μ) (h : rI μ 107 3 = nI p) (hp : p ≤ l) : G_X11_here μ = some (ac (tc l ch p), μ) := by
  have h240 := hc.1
  unfold G_X11_here ac
  rw [hT.1, h]
  by_cases q : p < l
  · have := hc.2 p q
    rw [if_neg (nI_ge q (by omega)), gq_in (by omega) (by omega), nx_nI (by omega), hT.2 p q, tc_in q, if_neg (by omega)]
  · rw [if_pos (nI_le (by omega) (by omega)), tc_out (by omega), if_pos rfl]
theorem ac_eq {x m : Nat} (hx : x ≤ 255) (hm : 1 ≤ m) (hm2 : m ≤ 255) : ac x = (OfNat.ofNat m : Int32) ↔ x = m := by
  unfold ac
  by_cases q : x = 0
  · rw [if_pos q]
    refine ⟨fun e => ?_, fun e => by omega⟩
    have e : (-1 : Int32) = nI m := e
    exact absurd e.symm (nI_m1 (by omega))
  · rw [if_neg q]
    exact nI_eq (by omega) (by omega)
theorem ac_m1 {x : Nat} (hx : x ≤ 255) : ac x = -1 ↔ x = 0 := by
  unfold ac
  by_cases q : x = 0
  · rw [if_pos q]; exact ⟨fun _ => q, fun _ => rfl⟩
  · rw [if_neg q]
    exact ⟨fun e => absurd e (nI_m1 (by omega)), fun e => absurd e q⟩
theorem ahead_ok (hc : CH l ch) (hT : TM l ch μ) (h : rI μ 107 3 = nI p) (hp : p ≤ l) : ∃ μ', G_X11_ahead μ = some (ac (tc l ch (sk l ch p)), μ') ∧ Fr m3 μ μ' ∧ rI μ' 107 3 = nI (sk l ch p) := by
  have h240 := hc.1
  have run : ∀ n p μ, TM l ch μ → rI μ 107 3 = nI p → p ≤ l → l - p < n → ∃ μ', L_X11_ahead_0 n μ = some (ac (tc l ch (sk l ch p)), μ') ∧ Fr m3 μ μ' ∧ rI μ' 107 3 = nI (sk l ch p) := by
    intro n
    induction n with
    | zero => intro p μ _ _ _ h; omega
    | succ n ih =>
      intro p μ hT h hp hn
      rw [L_X11_ahead_0, bd_eq (here_ok hc hT h hp)]
      by_cases q : tc l ch p = 32
      · have hl := tc_lt (show tc l ch p ≠ 0 by omega)
        rw [if_pos ((ac_eq (m := 32) (tc_le hc) (by omega) (by omega)).mpr q), h, lb_e, nI_1, sk_sp q]
        obtain ⟨μ', a1, a2, a3⟩ := ih (p + 1) (wI μ 107 3 (nI (p + 1))) (hT.ag (fun q j e => by
          rcases e with ⟨e1, e2⟩ | e
          · rw [e1, e2, rI_wI_off (by omega)]
          · rw [rI_wI_ne (by omega)])) rI_wI_at (by omega) (by omega)
        exact ⟨μ', a1, (Fr.rf.wI (show m3 107 3 from ⟨rfl, rfl⟩)).tr a2, a3⟩
      · rw [if_neg (fun e => q ((ac_eq (m := 32) (tc_le hc) (by omega) (by omega)).mp e)), bd_eq (here_ok hc hT h hp), sk_no q]
        exact ⟨μ, rfl, Fr.rf, h⟩
  exact run 100000 p μ hT h hp (by omega)
/-! numbers -/
abbrev dgt (x : Nat) : Prop := 48 ≤ x ∧ x ≤ 57
theorem isd_x (hc : CH l ch) (hT : TX l ch μ) (h : rI μ 1 2 = nI p) (hp : p ≤ l) : G_X8_isDigitNext μ = some (if dgt (tc l ch p) then 1 else 0, μ) := by
  have h240 := hc.1
  unfold G_X8_isDigitNext
  rw [hT.1, h]
  by_cases q : p < l
  · have := hc.2 p q
    rw [if_neg (nI_ge q (by omega)), gq_in (by omega) (by omega), gq_in (by omega) (by omega), nx_nI (by omega), hT.2 p q, tc_in q]
    by_cases q1 : ch p < 48
    · rw [if_pos (r_lt (m := 48) q1 (by omega)), if_neg (fun e => by unfold dgt at e; omega)]
    · rw [if_neg (r_nlt (m := 48) (by omega) (by omega))]
      by_cases q2 : 57 < ch p
      · rw [if_pos (l_lt (m := 57) q2 (by omega)), if_neg (fun e => by unfold dgt at e; omega)]
      · rw [if_neg (l_nlt (m := 57) (by omega) (by omega)), if_pos (by unfold dgt; omega)]
  · rw [if_pos (nI_le (by omega) (by omega)), tc_out (by omega), if_neg (fun e => by unfold dgt at e; omega)]
theorem isd_m {x : Nat} (hx : x ≤ 255) : G_X11_isDigit (ac x) μ = some (if dgt x then 1 else 0, μ) := by
  unfold G_X11_isDigit ac
  by_cases q : x = 0
  · rw [if_pos q, if_pos (by decide), if_neg (fun e => by unfold dgt at e; omega)]
  · rw [if_neg q]
    by_cases q1 : x < 48
    · rw [if_pos (r_lt (m := 48) q1 (by omega)), if_neg (fun e => by unfold dgt at e; omega)]
    · rw [if_neg (r_nlt (m := 48) (by omega) (by omega))]
      by_cases q2 : 57 < x
      · rw [if_pos (l_lt (m := 57) q2 (by omega)), if_neg (fun e => by unfold dgt at e; omega)]
      · rw [if_neg (l_nlt (m := 57) (by omega) (by omega)), if_pos (by unfold dgt; omega)]
def dgs (l : Nat) (ch : Nat → Nat) : Nat → Nat → Nat → Nat × Nat
  | 0, p, v => (p, v)
  | k + 1, p, v => if dgt (tc l ch p) then dgs l ch k (p + 1) (v * 10 + (tc l ch p - 48)) else (p, v)
theorem dgs_le : ∀ k p v, p ≤ l → p ≤ (dgs l ch k p v).1 ∧ (dgs l ch k p v).1 ≤ l ∧ (dgs l ch k p v).1 ≤ p + k := by
  intro k
  induction k with
  | zero => intro p v h; exact ⟨Nat.le_refl _, h, by show p ≤ _; omega⟩
  | succ k ih =>
    intro p v h
    unfold dgs
    by_cases q : dgt (tc l ch p)
    · have := tc_lt (show tc l ch p ≠ 0 by unfold dgt at q; omega)
      rw [if_pos q]
      obtain ⟨a, b, c⟩ := ih (p + 1) (v * 10 + (tc l ch p - 48)) (by omega)
      exact ⟨by omega, b, by omega⟩
    · rw [if_neg q]
      exact ⟨Nat.le_refl _, h, by show p ≤ _; omega⟩
theorem dgs_v : ∀ k p v, (dgs l ch k p v).2 < (v + 1) * 10 ^ k := by
  intro k
  induction k with
  | zero => intro p v; show v < (v + 1) * 1; omega
  | succ k ih =>
    intro p v
    unfold dgs
    by_cases q : dgt (tc l ch p)
    · rw [if_pos q]
      have h1 := ih (p + 1) (v * 10 + (tc l ch p - 48))
      have h2 : (v * 10 + (tc l ch p - 48) + 1) * 10 ^ k ≤ (v + 1) * 10 * 10 ^ k := Nat.mul_le_mul_right _ (by unfold dgt at q; omega)
      rw [show (v + 1) * 10 ^ (k + 1) = (v + 1) * 10 * 10 ^ k by rw [Nat.pow_succ, Nat.mul_assoc, Nat.mul_comm 10]]
      omega
    · rw [if_neg q]
      show v < _
      have : 1 ≤ 10 ^ (k + 1) := Nat.pow_pos (by omega)
      have h2 : (v + 1) * 1 ≤ (v + 1) * 10 ^ (k + 1) := Nat.mul_le_mul_left _ this
      omega
def numr (l : Nat) (ch : Nat → Nat) (d lo hi p : Nat) : Nat ⊕ (Nat × Nat) := if (dgs l ch d (sk l ch p) 0).1 = sk l ch p then .inl (sk l ch p) else if dgt (tc l ch (dgs l ch d (sk l ch p) 0).1) then .inl (dgs l ch d (sk l ch p) 0).1 else if (dgs l ch d (sk l ch p) 0).2 < lo ∨ hi < (dgs l ch d (sk l ch p) 0).2 then .inl ((dgs l ch d (sk l ch p) 0).1 - 1) else .inr (dgs l ch d (sk l ch p) 0)
theorem dg_x (hc : CH l ch) {d lo hi : Nat} (hd : d ≤ 3) : ∀ k i n v p μ, TX l ch μ → rI μ 1 2 = nI p → p ≤ l → i + k = d → k < n → ∃ μ', L_X8_readNumber_11 n (nI d) (nI lo) (nI hi) (nI i) (nI v) μ = F_X8_readNumber_60 (nI lo) (nI hi) (nI (i + ((dgs l ch k p v).1 - p))) (nI (dgs l ch k p v).2) μ' ∧ Fr f12 μ μ' ∧ rI μ' 1 2 = nI (dgs l ch k p v).1 := by
  have h240 := hc.1
  intro k
  induction k with
  | zero =>
    intro i n v p μ hT h hp hik hn
    obtain ⟨n, rfl⟩ : ∃ n', n = n' + 1 := ⟨n - 1, by omega⟩
    refine ⟨μ, ?_, Fr.rf, h⟩
    rw [L_X8_readNumber_11, if_pos (nI_le (by omega) (by omega)), show (dgs l ch 0 p v).1 = p from rfl, Nat.sub_self, Nat.add_zero]
    rfl
  | succ k ih =>
    intro i n v p μ hT h hp hik hn
    obtain ⟨n, rfl⟩ : ∃ n', n = n' + 1 := ⟨n - 1, by omega⟩
    rw [L_X8_readNumber_11, if_neg (nI_ge (by omega) (by omega)), bd_eq (isd_x hc hT h hp)]
    unfold dgs
    by_cases q : dgt (tc l ch p)
    · have hl := tc_lt (show tc l ch p ≠ 0 by unfold dgt at q; omega)
      have q' := q
      unfold dgt at q'
      have e0 : tc l ch p = ch p := tc_in hl
      rw [if_pos q, if_pos q, if_neg (by decide), h, gq_in (by omega) (by omega), nx_nI (by omega), hT.2 p hl, show (10 : Int32) = nI 10 from rfl, pk_mul, nI_add, show (48 : Int32) = nI 48 from rfl, pk_sub (by omega), lb_e, nI_1, lb_e, nI_1, lb_e, show v * 10 + ch p - 48 = v * 10 + (tc l ch p - 48) by omega]
      obtain ⟨μ', a1, a2, a3⟩ := ih (i + 1) n (v * 10 + (tc l ch p - 48)) (p + 1) (wI μ 1 2 (nI (p + 1))) (hT.ag (fun q j e => by
        rcases e with ⟨e1, e2⟩ | e
        · rw [e1, e2, rI_wI_off (by omega)]
        · rw [rI_wI_ne (by omega)])) rI_wI_at (by omega) (by omega) (by omega)
      have g := dgs_le (l := l) (ch := ch) k (p + 1) (v * 10 + (tc l ch p - 48)) (by omega)
      refine ⟨μ', ?_, (Fr.rf.wI (show f12 1 2 from ⟨rfl, rfl⟩)).tr a2, a3⟩
      rw [a1, show i + 1 + ((dgs l ch k (p + 1) (v * 10 + (tc l ch p - 48))).1 - (p + 1)) = i + ((dgs l ch k (p + 1) (v * 10 + (tc l ch p - 48))).1 - p) by omega]
    · rw [if_neg q, if_neg q, if_pos rfl]
      refine ⟨μ, ?_, Fr.rf, h⟩
      show _ = F_X8_readNumber_60 (nI lo) (nI hi) (nI (i + (p - p))) (nI v) μ
      rw [Nat.sub_self, Nat.add_zero]
theorem rn_x (hc : CH l ch) (hT : TX l ch μ) (h : rI μ 1 2 = nI p) (hp : p ≤ l) {d lo hi : Nat} (hd : d ≤ 3) (hh : hi ≤ 999) (hl9 : lo ≤ 999) : ∃ r μ', G_X8_readNumber (nI d) (nI lo) (nI hi) μ = some (r, μ') ∧ Fr f13 μ μ' ∧ ((∃ e, numr l ch d lo hi p = .inl e ∧ r = -1 ∧ rI μ' 1 3 = nI e) ∨ ∃ e v, numr l ch d lo hi p = .inr (e, v) ∧ r = nI v ∧ rI μ' 1 2 = nI e ∧ p < e ∧ e ≤ l ∧ lo ≤ v ∧ v ≤ hi) := by
  have h240 := hc.1
  obtain ⟨μ1, e1, g1, y1⟩ := peek_ok hc hT h hp
  have hT1 : TX l ch μ1 := hT.ag (fun q j e => g1.i (by unfold f12; omega))
  have s1 := sk_ge (ch := ch) hp
  have s2 := sk_le (ch := ch) hp
  obtain ⟨μ2, e2, g2, y2⟩ := dg_x hc (lo := lo) (hi := hi) hd d 0 100000 0 (sk l ch p) μ1 hT1 y1 s2 (by omega) (by omega)
  obtain ⟨b1, b2, b3⟩ := dgs_le (ch := ch) d (sk l ch p) 0 s2
  have b4 := dgs_v (l := l) (ch := ch) d (sk l ch p) 0
  have b5 : 10 ^ d ≤ 1000 := Nat.pow_le_pow_right (by omega) hd
  have hT2 : TX l ch μ2 := hT1.ag (fun q j e => g2.i (by unfold f12; omega))
  have fr : Fr f13 μ μ2 := (g1.tr g2).mono (fun q j e => by unfold f12 at e; unfold f13; omega)
  unfold G_X8_readNumber numr
  rw [bd_eq e1, show (0 : Int32) = nI 0 from rfl, e2]
  generalize dgs l ch d (sk l ch p) 0 = r at *
  obtain ⟨e, v⟩ := r
  dsimp only at *
  unfold F_X8_readNumber_60 F_X8_readNumber_72 F_X8_readNumber_94
  by_cases q : e = sk l ch p
  · rw [if_pos q, if_pos (by rw [q, Nat.sub_self]; rfl), y2, lb_e]
    exact ⟨_, _, rfl, fr.wI (by unfold f13; omega), Or.inl ⟨_, rfl, rfl, by rw [rI_wI_at, q]⟩⟩
  · rw [if_neg q, if_neg (nI_ne0 (by omega) (by omega)), bd_eq (isd_x hc hT2 y2 b2)]
    by_cases q2 : dgt (tc l ch e)
    · rw [if_pos q2, if_pos q2, if_neg (by decide), y2, lb_e]
      exact ⟨_, _, rfl, fr.wI (by unfold f13; omega), Or.inl ⟨_, rfl, rfl, by rw [rI_wI_at]⟩⟩
    · rw [if_neg q2, if_neg q2, if_pos rfl, y2, nI_sub1 (by omega), lb_e]
      by_cases q3 : v < lo
      · rw [if_pos (Or.inl q3), if_pos (nI_lt q3 (by omega))]
        exact ⟨_, _, rfl, fr.wI (by unfold f13; omega), Or.inl ⟨_, rfl, rfl, by rw [rI_wI_at]⟩⟩
      · rw [if_neg (nI_nlt (by omega) (by omega))]
        by_cases q4 : hi < v
        · rw [if_pos (Or.inr q4), if_neg (nI_ge q4 (by omega))]
          exact ⟨_, _, rfl, fr.wI (by unfold f13; omega), Or.inl ⟨_, rfl, rfl, by rw [rI_wI_at]⟩⟩
        · rw [if_neg (show ¬ (v < lo ∨ hi < v) by omega), if_pos (nI_le (by omega) (by omega))]
          exact ⟨_, _, rfl, fr, Or.inr ⟨e, v, rfl, rfl, y2, by omega, b2, by omega, by omega⟩⟩
theorem bad_ok {x : Int32} (h3 : rI μ 107 3 = x) (h4 : rI μ 107 4 = -1) : G_X11_bad μ = some ((), wI μ 107 4 x) := by
  unfold G_X11_bad F_X11_bad_20
  rw [if_pos h4, h3, lb_e]
theorem dg_m (hc : CH l ch) {d lo hi : Nat} (hd : d ≤ 3) : ∀ k i n v p μ, TM l ch μ → rI μ 107 3 = nI p → p ≤ l → i + k = d → k < n → ∃ μ', L_X11_number_22 n (nI d) (nI lo) (nI hi) (nI v) (nI i) μ = F_X11_number_69 (nI lo) (nI hi) (nI (dgs l ch k p v).2) μ' ∧ Fr m3 μ μ' ∧ rI μ' 107 3 = nI (dgs l ch k p v).1 := by
  have h240 := hc.1
  intro k
  induction k with
  | zero =>
    intro i n v p μ hT h hp hik hn
    obtain ⟨n, rfl⟩ : ∃ n', n = n' + 1 := ⟨n - 1, by omega⟩
    refine ⟨μ, ?_, Fr.rf, h⟩
    rw [L_X11_number_22, if_pos (nI_le (by omega) (by omega))]
    rfl
  | succ k ih =>
    intro i n v p μ hT h hp hik hn
    obtain ⟨n, rfl⟩ : ∃ n', n = n' + 1 := ⟨n - 1, by omega⟩
    rw [L_X11_number_22, if_neg (nI_ge (by omega) (by omega)), bd_eq (here_ok hc hT h hp), bd_eq (isd_m (tc_le hc)), bd_eq (here_ok hc hT h hp)]
    unfold dgs
    by_cases q : dgt (tc l ch p)
    · have hl := tc_lt (show tc l ch p ≠ 0 by unfold dgt at q; omega)
      have q' := q
      unfold dgt at q'
      rw [if_pos q, if_pos q, if_neg (by decide), h, show ac (tc l ch p) = nI (tc l ch p) from if_neg (by omega), show (10 : Int32) = nI 10 from rfl, pk_mul, nI_add, show (48 : Int32) = nI 48 from rfl, pk_sub (by omega), lb_e, nI_1, lb_e, nI_1, lb_e, show 10 * v + tc l ch p - 48 = v * 10 + (tc l ch p - 48) by omega]
      obtain ⟨μ', a1, a2, a3⟩ := ih (i + 1) n (v * 10 + (tc l ch p - 48)) (p + 1) (wI μ 107 3 (nI (p + 1))) (hT.ag (fun q j e => by
        rcases e with ⟨e1, e2⟩ | e
        · rw [e1, e2, rI_wI_off (by omega)]
        · rw [rI_wI_ne (by omega)])) rI_wI_at (by omega) (by omega) (by omega)
      exact ⟨μ', a1, (Fr.rf.wI (show m3 107 3 from ⟨rfl, rfl⟩)).tr a2, a3⟩
    · rw [if_neg q, if_neg q, if_pos rfl]
      exact ⟨μ, rfl, Fr.rf, h⟩
theorem rn_m (hc : CH l ch) (hT : TM l ch μ) (h : rI μ 107 3 = nI p) (h4 : rI μ 107 4 = -1) (hp : p ≤ l) {d lo hi : Nat} (hd1 : 1 ≤ d) (hd : d ≤ 3) (hh : hi ≤ 999) (hl9 : lo ≤ 999) : ∃ r μ', G_X11_number (nI d) (nI lo) (nI hi) μ = some (r, μ') ∧ Fr m34 μ μ' ∧ ((∃ e, numr l ch d lo hi p = .inl e ∧ rI μ' 107 4 = nI e) ∨ ∃ e v, numr l ch d lo hi p = .inr (e, v) ∧ r = nI v ∧ rI μ' 107 3 = nI e ∧ rI μ' 107 4 = -1) := by
  have h240 := hc.1
  obtain ⟨μ1, e1, g1, y1⟩ := ahead_ok hc hT h hp
  have hT1 : TM l ch μ1 := hT.ag (fun q j e => g1.i (by unfold m3; omega))
  have s1 := sk_ge (ch := ch) hp
  have s2 := sk_le (ch := ch) hp
  have z1 : rI μ1 107 4 = -1 := (g1.i (by unfold m3; omega)).trans h4
  obtain ⟨μ2, e2, g2, y2⟩ := dg_m hc (lo := lo) (hi := hi) hd d 0 100000 0 (sk l ch p) μ1 hT1 y1 s2 (by omega) (by omega)
  obtain ⟨b1, b2, b3⟩ := dgs_le (ch := ch) d (sk l ch p) 0 s2
  have b4 := dgs_v (l := l) (ch := ch) d (sk l ch p) 0
  have b5 : 10 ^ d ≤ 1000 := Nat.pow_le_pow_right (by omega) hd
  have hT2 : TM l ch μ2 := hT1.ag (fun q j e => g2.i (by unfold m3; omega))
  have z2 : rI μ2 107 4 = -1 := (g2.i (by unfold m3; omega)).trans z1
  have fr1 : Fr m34 μ μ1 := g1.mono (fun q j e => by unfold m3 at e; unfold m34; omega)
  have fr : Fr m34 μ μ2 := (g1.tr g2).mono (fun q j e => by unfold m3 at e; unfold m34; omega)
  have b0 : dgt (tc l ch (sk l ch p)) ↔ (dgs l ch d (sk l ch p) 0).1 ≠ sk l ch p := by
    obtain ⟨d', rfl⟩ : ∃ n', d = n' + 1 := ⟨d - 1, by omega⟩
    unfold dgs
    by_cases q : dgt (tc l ch (sk l ch p))
    · have hl := tc_lt (show tc l ch (sk l ch p) ≠ 0 by unfold dgt at q; omega)
      rw [if_pos q]
      have := (dgs_le (l := l) (ch := ch) d' (sk l ch p + 1) (0 * 10 + (tc l ch (sk l ch p) - 48)) (by omega)).1
      exact ⟨fun _ => by omega, fun _ => q⟩
    · rw [if_neg q]
      exact ⟨fun e => absurd e q, fun e => absurd rfl e⟩
  unfold G_X11_number numr
  rw [bd_eq e1, bd_eq (isd_m (tc_le hc)), show (0 : Int32) = nI 0 from rfl, e2]
  generalize dgs l ch d (sk l ch p) 0 = r at *
  obtain ⟨e, v⟩ := r
  dsimp only at *
  by_cases q : e = sk l ch p
  · rw [if_pos q, if_neg (fun z => (b0.mp z) q), if_pos rfl, bd_eq (bad_ok y1 z1)]
    exact ⟨_, _, rfl, fr1.wI (by unfold m34; omega), Or.inl ⟨_, rfl, rI_wI_at⟩⟩
  · rw [if_neg q, if_pos (b0.mpr q), if_neg (by decide)]
    unfold F_X11_number_69
    rw [bd_eq (here_ok hc hT2 y2 b2), bd_eq (isd_m (tc_le hc))]
    by_cases q2 : dgt (tc l ch e)
    · rw [if_pos q2, if_pos q2, if_neg (by decide), bd_eq (bad_ok y2 z2)]
      exact ⟨_, _, rfl, fr.wI (by unfold m34; omega), Or.inl ⟨_, rfl, rI_wI_at⟩⟩
    · rw [if_neg q2, if_neg q2, if_pos rfl, bd_eq (in_eq _ _ _ _)]
      by_cases q3 : v < lo ∨ hi < v
      · rw [if_pos q3, if_neg (fun z : nI lo ≤ nI v ∧ nI v ≤ nI hi => by
          rw [nI_leI (by omega) (by omega), nI_leI (by omega) (by omega)] at z
          omega), if_pos rfl, y2, nI_sub1 (by omega), lb_e, bd_eq (bad_ok (x := nI (e - 1)) rI_wI_at (by rw [rI_wI_off (by omega)]; exact z2))]
        exact ⟨_, _, rfl, (fr.wI (by unfold m34; omega)).wI (by unfold m34; omega), Or.inl ⟨_, rfl, rI_wI_at⟩⟩
      · rw [if_neg q3, if_pos (show nI lo ≤ nI v ∧ nI v ≤ nI hi from ⟨nI_le (by omega) (by omega), nI_le (by omega) (by omega)⟩), if_neg (by decide)]
        exact ⟨_, _, rfl, fr, Or.inr ⟨e, v, rfl, rfl, y2, z2⟩⟩
end TP
