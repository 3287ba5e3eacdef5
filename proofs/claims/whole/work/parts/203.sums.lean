/-! guards and sums -/
section Gd
variable {T : Nat} {μ : Mem}
theorem xTab_no (h : rI μ 7 2 = nI T) {x : Int32} (hx : x < 0 ∨ nI T ≤ x) : G_X10_hasTable x μ = some (0, μ) := by
  unfold G_X10_hasTable
  rw [h]
  by_cases h1 : x < 0
  · rw [if_pos h1]
  · rw [if_neg h1, if_pos (hx.resolve_left h1)]
theorem xTab_yes (h : rI μ 7 2 = nI T) (hT : T ≤ 3) {t : Nat} (ht : t < T) : G_X10_hasTable (nI t) μ = some (1, μ) := by
  unfold G_X10_hasTable
  rw [h, if_neg (nI_pos (by omega)), if_neg (nI_ge ht (by omega))]
theorem toL0 : (0 : Int64) = (0 : Int32).toInt64 := by decide
theorem toL1 : (1 : Int64) = (1 : Int32).toInt64 := by decide
theorem toL2 : (2 : Int64) = (2 : Int32).toInt64 := by decide
theorem toL3 : (3 : Int64) = (3 : Int32).toInt64 := by decide
theorem toLm1 : (-1 : Int64) = (-1 : Int32).toInt64 := by decide
theorem le_pred {x : Int32} {T : Nat} (hT : T < 2 ^ 31) (h0 : 0 ≤ x) : x ≤ nI T - 1 ↔ x < nI T := by
  have h1 : (nI T - 1).toInt = (T : Int) - 1 := by
    have := pk_sub_toInt (a := T) (b := 1)
    rw [Int32.toInt_sub, nI_toInt hT, show (1 : Int32).toInt = 1 from by decide]
    exact fb_bmod (by omega) (by omega)
  rw [fa_le, fa_lt, h1, nI_toInt hT]
  omega
theorem mTab_no (h : rI μ 107 12 = nI T) (hT : T ≤ 3) {x : Int32} (hx : x < 0 ∨ nI T ≤ x) : G_X11_isTable x μ = some (0, μ) := by
  unfold G_X11_isTable
  rw [h, toL0, in_eq, bd_s, if_neg, show bB 0 = true from rfl, gq_t]
  rintro ⟨h1, h2⟩
  rw [le_pred (by omega) h1] at h2
  rcases hx with hx | hx
  · exact (fa_of_lt hx).2.1 h1
  · exact (fa_of_lt h2).2.1 hx
theorem mTab_yes (h : rI μ 107 12 = nI T) (hT : T ≤ 3) {t : Nat} (ht : t < T) : G_X11_isTable (nI t) μ = some (1, μ) := by
  unfold G_X11_isTable
  rw [h, toL0, in_eq, bd_s, if_pos, show bB 1 = true from rfl, gq_t]
  exact ⟨nI_pos' (by omega), (le_pred (by omega) (nI_pos' (by omega))).mpr (nI_lt ht (by omega))⟩
theorem xCol_no (h : rI μ 7 2 = nI T) (hT : T ≤ 3) {x c : Int32} (hx : (x < 0 ∨ nI T ≤ x) ∨ c < 0 ∨ nI 2 ≤ c) : G_X10_hasColumn x c μ = some (0, μ) := by
  unfold G_X10_hasColumn
  by_cases h1 : x < 0 ∨ nI T ≤ x
  · rw [bd_eq (xTab_no h h1), if_pos rfl]
  · rcases pk_ix x (n := T) (by omega) with h2 | h2 | ⟨t, ht, rfl⟩
    · exact absurd (Or.inl h2) h1
    · exact absurd (Or.inr h2) h1
    · rw [bd_eq (xTab_yes h hT ht), if_neg (by decide)]
      rcases hx.resolve_left h1 with h3 | h3
      · rw [if_pos h3]
      · by_cases h4 : c < 0
        · rw [if_pos h4]
        · rw [if_neg h4, if_pos (show (2 : Int32) ≤ c from h3)]
theorem xCol_yes (h : rI μ 7 2 = nI T) (hT : T ≤ 3) {t c : Nat} (ht : t < T) (hc : c < 2) : G_X10_hasColumn (nI t) (nI c) μ = some (1, μ) := by
  unfold G_X10_hasColumn
  rw [bd_eq (xTab_yes h hT ht), if_neg (by decide), if_neg (nI_pos (by omega)), if_neg (l_nle hc (by omega))]
theorem mCol_no (h : rI μ 107 12 = nI T) (hT : T ≤ 3) {x c : Int32} (hx : (x < 0 ∨ nI T ≤ x) ∨ c < 0 ∨ nI 2 ≤ c) : G_X11_isColumn x c μ = some (0, μ) := by
  unfold G_X11_isColumn
  by_cases h1 : x < 0 ∨ nI T ≤ x
  · rw [bd_eq (mTab_no h hT h1), if_pos rfl]
  · rcases pk_ix x (n := T) (by omega) with h2 | h2 | ⟨t, ht, rfl⟩
    · exact absurd (Or.inl h2) h1
    · exact absurd (Or.inr h2) h1
    · rw [bd_eq (mTab_yes h hT ht), if_neg (by decide), toL0, toL1, in_eq, bd_s, if10, if_neg]
      rintro ⟨h3, h4⟩
      rw [fa_le] at h3 h4
      rcases hx.resolve_left h1 with h5 | h5
      · rw [fa_lt] at h5
        omega
      · rw [fa_le, nI_toInt (by omega)] at h5
        have : (1 : Int32).toInt = 1 := by decide
        omega
theorem mCol_yes (h : rI μ 107 12 = nI T) (hT : T ≤ 3) {t c : Nat} (ht : t < T) (hc : c < 2) : G_X11_isColumn (nI t) (nI c) μ = some (1, μ) := by
  unfold G_X11_isColumn
  rw [bd_eq (mTab_yes h hT ht), if_neg (by decide), toL0, toL1, in_eq, bd_s, if10, if_pos ⟨nI_pos' (by omega), r_le (m := 1) (by omega) (by omega)⟩]
/-- what a column may have -/
theorem ix_cases (x : Int32) {v : Nat} (hv : v ≤ 16) : (x < -1 ∨ nI v ≤ x) ∨ ∃ a, okv v a ∧ a ≤ 16 ∧ x = ix a := by
  have hm : (-1 : Int32).toInt = -1 := by decide
  rcases pk_ix x (n := v) (by omega) with h | h | ⟨k, hk, rfl⟩
  · by_cases h1 : x < -1
    · exact Or.inl (Or.inl h1)
    · refine Or.inr ⟨16, Or.inl rfl, Nat.le_refl _, ?_⟩
      rw [fa_lt] at h h1
      have h0 : (0 : Int32).toInt = 0 := by decide
      have e : x.toInt = (-1 : Int32).toInt := by omega
      exact Int32.toInt_inj.mp e
  · exact Or.inl (Or.inr h)
  · refine Or.inr ⟨k, Or.inr hk, by omega, ?_⟩
    unfold ix
    rw [if_neg (by omega)]
theorem ix_not {v a : Nat} (hv : v ≤ 16) (ha : okv v a) : ¬ ix a < -1 ∧ ¬ nI v ≤ ix a := by
  have hm : (-1 : Int32).toInt = -1 := by decide
  unfold ix
  by_cases h : a = 16
  · rw [if_pos h]
    refine ⟨by decide, fun q => ?_⟩
    rw [fa_le, nI_toInt (by omega)] at q
    omega
  · rw [if_neg h]
    have h1 : a < v := ha.resolve_left h
    refine ⟨fun q => ?_, nI_ge h1 (by omega)⟩
    rw [fa_lt, nI_toInt (by omega)] at q
    omega
theorem okv.le {v a : Nat} (h : okv v a) (hv : v ≤ 16) : a ≤ 16 := by rcases h with h | h <;> omega
theorem cellOf_ix {a b : Nat} (ha : a ≤ 16) (hb : b ≤ 16) : G_X7_cellOf (ix a) (ix b) μ = some (nI (17 * xk a + xk b), μ) := by
  unfold G_X7_cellOf
  have e : ∀ k, k ≤ 16 → ix k + 1 = nI (xk k) := by
    intro k hk
    unfold ix xk
    by_cases h : k = 16
    · rw [if_pos h, if_pos h]; rfl
    · rw [if_neg h, if_neg h, nI_1]
  rw [e a ha, Int32.add_assoc, e b hb, show (17 : Int32) = nI 17 from rfl, pk_mul, nI_add, Nat.mul_comm]
theorem xk_le {a : Nat} (ha : a ≤ 16) : xk a ≤ 16 := by unfold xk; split <;> omega
theorem alike_eq {v K : Nat} {f : Nat → Nat → Nat} {bd gr : Nat → Nat → Nat} {dr : Nat → Nat} {s : Nat} (h : XT v K f bd gr dr s μ) {a b : Nat} (ha : a ≤ 16) (hb : b ≤ 16) : G_X7_alike s (ix a) (ix b) μ = some (nI (f a b), μ) := by
  unfold G_X7_alike
  have h1 := xk_le ha
  have h2 := xk_le hb
  rw [bd_eq (cellOf_ix ha hb), gq_in (by omega) (by omega), nx_nI (by omega), h.2.2.1 a b ha hb]
theorem place_ix {t a b : Nat} (ht : t < 3) (ha : a ≤ 16) (hb : b ≤ 16) : G_X11_place (nI t) (ix a) (ix b) μ = some (nI (357 * t + (17 * a + b)), μ) := by
  have e1 : ix a = -1 ↔ a = 16 := by
    unfold ix
    by_cases h : a = 16
    · rw [if_pos h]; exact ⟨fun _ => h, fun _ => rfl⟩
    · rw [if_neg h]; exact ⟨fun q => absurd q (nI_m1 (by omega)), fun q => absurd q h⟩
  have e2 : ix b = -1 ↔ b = 16 := by
    unfold ix
    by_cases h : b = 16
    · rw [if_pos h]; exact ⟨fun _ => h, fun _ => rfl⟩
    · rw [if_neg h]; exact ⟨fun q => absurd q (nI_m1 (by omega)), fun q => absurd q h⟩
  have w1 : (if ix a = -1 then (16 : Int32) else ix a) = nI a := by
    by_cases h : a = 16
    · rw [if_pos (e1.mpr h), h]; rfl
    · rw [if_neg (fun q => h (e1.mp q))]; unfold ix; rw [if_neg h]
  have w2 : (if ix b = -1 then (16 : Int32) else ix b) = nI b := by
    by_cases h : b = 16
    · rw [if_pos (e2.mpr h), h]; rfl
    · rw [if_neg (fun q => h (e2.mp q))]; unfold ix; rw [if_neg h]
  have key : G_X11_place (nI t) (ix a) (ix b) μ = some (357 * nI t + 17 * (if ix a = -1 then (16 : Int32) else ix a) + (if ix b = -1 then (16 : Int32) else ix b), μ) := by
    unfold G_X11_place F_X11_place_18 F_X11_place_31
    by_cases h1 : ix a = -1 <;> by_cases h2 : ix b = -1 <;> simp only [h1, h2, if_true, if_false]
  rw [key, w1, w2, show (357 : Int32) = nI 357 from rfl, show (17 : Int32) = nI 17 from rfl, pk_mul, pk_mul, nI_add, nI_add, Nat.add_assoc]
end Gd
theorem sm_nI (f : Nat → Nat) (n : Nat) : nI (fb_sm f n) + nI (f n) = nI (fb_sm f (n + 1)) := nI_add _ _
theorem sm_row (f : Nat → Nat → Nat) (k : Nat) : ∀ n, fb_sm (fun i => f (i / 17) (i % 17)) (17 * n) = fb_sm (fun a => fb_sm (fun b => f a b) 17) n := by
  intro n
  induction n with
  | zero => rfl
  | succ n ih =>
    rw [show 17 * (n + 1) = 17 * n + 17 by omega, fb_sm_split, ih]
    show _ + fb_sm (fun k => f ((17 * n + k) / 17) ((17 * n + k) % 17)) 17 = fb_sm _ n + fb_sm (fun b => f n b) 17
    congr 1
    exact fb_sm_cong fun k hk => by rw [show (17 * n + k) / 17 = n by omega, show (17 * n + k) % 17 = k by omega]
section Sm
variable {t : Nat} {μ : Mem} {K : Nat} {f : Nat → Nat → Nat} {bd gr : Nat → Nat → Nat} {dr : Nat → Nat}
theorem MT.c (h : MT K f bd gr dr (fun k => rI μ 116 (357 * t + k))) {i : Nat} (hi : i < 289) : rI μ 116 (357 * t + i) = nI (f (i / 17) (i % 17)) := by
  have e := h.1 (i / 17) (i % 17) (by omega) (by omega)
  have e : rI μ 116 (357 * t + (17 * (i / 17) + i % 17)) = nI (f (i / 17) (i % 17)) := e
  rw [show 17 * (i / 17) + i % 17 = i by omega] at e
  exact e
theorem rowsOf_eq (h : MT K f bd gr dr (fun k => rI μ 116 (357 * t + k))) (ht : t < 3) : G_X11_rowsOf (nI t) μ = some (nI (rws f), μ) := by
  unfold G_X11_rowsOf
  have key := loop_up (fun n i (s : Int32) => L_X11_rowsOf_4 n (nI t) s i μ) 289 (fun k => nI (fb_sm (fun i => f (i / 17) (i % 17)) k)) (res := some (nI (rws f), μ)) (fun n k hk => by
    show L_X11_rowsOf_4 (n + 1) _ _ _ _ = _
    rw [L_X11_rowsOf_4, if_neg (l_nle hk (by omega)), show (357 : Int32) * nI t + nI k = nI (357 * t + k) from by rw [show (357 : Int32) = nI 357 from rfl, pk_mul, nI_add], gq_in (by omega) (by omega), nx_nI (by omega), h.c hk, lb_e, lb_e, sm_nI (fun i => f (i / 17) (i % 17)), nI_1]) (fun n => by
    show L_X11_rowsOf_4 (n + 1) _ _ _ _ = _
    rw [L_X11_rowsOf_4, if_pos (by decide), show 289 = 17 * 17 from rfl, sm_row f 0]
    rfl)
  exact key 100000 0 (by omega) (by omega)
theorem countAt_eq (h : MT K f bd gr dr (fun k => rI μ 116 (357 * t + k))) (ht : t < 3) {c a : Nat} (hc : c < 2) (ha : a ≤ 16) : G_X11_countAt (nI t) (nI c) (ix a) μ = some (nI (cn f c a), μ) := by
  unfold G_X11_countAt
  have key := loop_up (fun n i (s : Int32) => L_X11_countAt_6 n (nI t) (nI c) (ix a) s i μ) 17 (fun k => nI (fb_sm (fun o => if c = 0 then f a o else f o a) k)) (res := some (nI (cn f c a), μ)) (fun n k hk => by
    show L_X11_countAt_6 (n + 1) _ _ _ _ _ _ = _
    have e : F_X11_countAt_26 (L_X11_countAt_6 n) (nI t) (nI c) (ix a) (nI (fb_sm (fun o => if c = 0 then f a o else f o a) k)) (nI k) (ix k) μ = L_X11_countAt_6 n (nI t) (nI c) (ix a) (nI (fb_sm (fun o => if c = 0 then f a o else f o a) (k + 1))) (nI (k + 1)) μ := by
      unfold F_X11_countAt_26 F_X11_countAt_55
      rw [← sm_nI (fun o => if c = 0 then f a o else f o a)]
      by_cases h0 : c = 0
      · subst h0
        rw [if_pos rfl, bd_eq (place_ix ht ha (by omega)), gq_in (by omega) (by omega), nx_nI (by omega), lb_e, lb_e, nI_1]
        have e := h.1 a k ha (by omega)
        have e : rI μ 116 (357 * t + (17 * a + k)) = nI (f a k) := e
        rw [e]
        rfl
      · rw [if_neg (nI_ne0 (by omega) (by omega)), bd_eq (place_ix ht (by omega) ha), gq_in (by omega) (by omega), nx_nI (by omega), lb_e, lb_e, nI_1]
        have e := h.1 k a (by omega) ha
        have e : rI μ 116 (357 * t + (17 * k + a)) = nI (f k a) := e
        rw [e, if_neg h0]
    rw [L_X11_countAt_6, if_neg (l_nle hk (by omega))]
    by_cases h16 : k = 16
    · subst h16
      rw [if_pos (by decide)]
      exact e
    · rw [if_neg (r_ne (m := 16) h16 (by omega) (by omega))]
      have e2 : ix k = nI k := by unfold ix; rw [if_neg h16]
      rw [e2] at e
      exact e) (fun n => by
    show L_X11_countAt_6 (n + 1) _ _ _ _ _ _ = _
    rw [L_X11_countAt_6, if_pos (by decide)]
    rfl)
  exact key 100000 0 (by omega) (by omega)
theorem countAt_v (h : MT K f bd gr dr (fun k => rI μ 116 (357 * t + k))) (ht : t < 3) {c a : Nat} (hc : c < 2) (ha : a < 16) : G_X11_countAt (nI t) (nI c) (nI a) μ = some (nI (cn f c a), μ) := by
  have e := countAt_eq (c := c) (a := a) h ht hc (by omega)
  unfold ix at e
  rw [if_neg (by omega)] at e
  exact e
end Sm
