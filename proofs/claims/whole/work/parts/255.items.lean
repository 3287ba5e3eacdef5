/-! texts: the items of a clause, the model -/
def ca (y : Nat) : Nat := [0, 3, 4].getD y 0
def cb (y : Nat) : Nat := [3, 4, 8].getD y 0
def cL (y : Nat) : Nat := [115, 116, 114].getD y 0
theorem cab : ∀ y, y < 3 → ca y ≤ cb y ∧ cb y ≤ 8 ∧ cL y < 200 := by decide
theorem y8 {P : Nat → Nat → Prop} (h0 : P 0 0) (h1 : P 0 1) (h2 : P 0 2) (h3 : P 1 0) (h4 : P 2 0) (h5 : P 2 1) (h6 : P 2 2) (h7 : P 2 3) : ∀ y j, y < 3 → j < cb y - ca y → P y j := fun y j hy hj => by
  rcases (show y = 0 ∨ y = 1 ∨ y = 2 by omega) with rfl | rfl | rfl
  · rcases (show j = 0 ∨ j = 1 ∨ j = 2 by have : cb 0 - ca 0 = 3 := rfl; omega) with rfl | rfl | rfl <;> assumption
  · rcases (show j = 0 by have : cb 1 - ca 1 = 1 := rfl; omega) with rfl
    assumption
  · rcases (show j = 0 ∨ j = 1 ∨ j = 2 ∨ j = 3 by have : cb 2 - ca 2 = 4 := rfl; omega) with rfl | rfl | rfl | rfl <;> assumption
section IM
variable {l : Nat} {ch : Nat → Nat} {μ : Mem} {p : Nat}
theorem low_m : ∀ y j, y < 3 → j < cb y - ca y → G_X11_lowest (nI (cL y)) (nI j) μ = some (nI (gL (ca y + j)), μ) := y8 rfl rfl rfl rfl rfl rfl rfl rfl
theorem high_m : ∀ y j, y < 3 → j < cb y - ca y → G_X11_highest (nI (cL y)) (nI j) μ = some (nI (gH (ca y + j)), μ) := y8 rfl rfl rfl rfl rfl rfl rfl rfl
theorem usu_m : ∀ y j, y < 3 → j < cb y - ca y → G_X11_usual (nI (cL y)) (nI j) μ = some (tUSUAL (ca y + j), μ) := y8 rfl rfl rfl rfl rfl rfl rfl rfl
theorem itemOf_m {y x : Nat} (hy : y < 3) (hx : x ≤ 255) : G_X11_itemOf (nI (cL y)) (ac x) μ = some (if itm (ca y) (cb y) x = 8 then -1 else nI (itm (ca y) (cb y) x - ca y), μ) := by
  have e := fun m (h1 : 1 ≤ m) (h2 : m ≤ 255) => ac_eq (x := x) (m := m) hx h1 h2
  unfold G_X11_itemOf
  rcases (show y = 0 ∨ y = 1 ∨ y = 2 by omega) with rfl | rfl | rfl
  · rw [if_neg (by decide), if_pos (by decide), show itm (ca 0) (cb 0) x = if 98 = x then 0 else if 100 = x then 1 else if 113 = x then 2 else 8 from rfl]
    by_cases q1 : x = 98
    · rw [if_pos ((e 98 (by omega) (by omega)).mpr q1), if_pos q1.symm]; rfl
    · rw [if_neg (fun z => q1 ((e 98 (by omega) (by omega)).mp z)), if_neg (Ne.symm q1)]
      by_cases q2 : x = 100
      · rw [if_pos ((e 100 (by omega) (by omega)).mpr q2), if_pos q2.symm]; rfl
      · rw [if_neg (fun z => q2 ((e 100 (by omega) (by omega)).mp z)), if_neg (Ne.symm q2)]
        by_cases q3 : x = 113
        · rw [if_pos ((e 113 (by omega) (by omega)).mpr q3), if_pos q3.symm]; rfl
        · rw [if_neg (fun z => q3 ((e 113 (by omega) (by omega)).mp z)), if_neg (Ne.symm q3)]; rfl
  · rw [if_pos (by decide), show itm (ca 1) (cb 1) x = if 118 = x then 3 else 8 from rfl]
    by_cases q1 : x = 118
    · rw [if_pos ((e 118 (by omega) (by omega)).mpr q1), if_pos q1.symm]; rfl
    · rw [if_neg (fun z => q1 ((e 118 (by omega) (by omega)).mp z)), if_neg (Ne.symm q1)]; rfl
  · rw [if_neg (by decide), if_neg (by decide), show itm (ca 2) (cb 2) x = if 116 = x then 4 else if 97 = x then 5 else if 98 = x then 6 else if 110 = x then 7 else 8 from rfl]
    by_cases q1 : x = 116
    · rw [if_pos ((e 116 (by omega) (by omega)).mpr q1), if_pos q1.symm]; rfl
    · rw [if_neg (fun z => q1 ((e 116 (by omega) (by omega)).mp z)), if_neg (Ne.symm q1)]
      by_cases q2 : x = 97
      · rw [if_pos ((e 97 (by omega) (by omega)).mpr q2), if_pos q2.symm]; rfl
      · rw [if_neg (fun z => q2 ((e 97 (by omega) (by omega)).mp z)), if_neg (Ne.symm q2)]
        by_cases q3 : x = 98
        · rw [if_pos ((e 98 (by omega) (by omega)).mpr q3), if_pos q3.symm]; rfl
        · rw [if_neg (fun z => q3 ((e 98 (by omega) (by omega)).mp z)), if_neg (Ne.symm q3)]
          by_cases q4 : x = 110
          · rw [if_pos ((e 110 (by omega) (by omega)).mpr q4), if_pos q4.symm]; rfl
          · rw [if_neg (fun z => q4 ((e 110 (by omega) (by omega)).mp z)), if_neg (Ne.symm q4)]; rfl
def imQ (p2 lo hi q j : Nat) : Prop := m34 q j ∨ (q = p2 ∧ lo ≤ j ∧ j < hi)
def badAt (l : Nat) (ch : Nat → Nat) (e : Nat) (μ : Mem) : Prop := e ≤ l ∧ (rI μ 107 4 = nI e ∨ (rI μ 107 4 = -1 ∧ rI μ 107 3 = nI e ∧ tc l ch e ≠ 59 ∧ tc l ch e ≠ 0 ∧ tc l ch e ≠ 32))
theorem its_m (hc : CH l ch) {y : Nat} (hy : y < 3) {k2 n2 p2 o : Nat} (hp2 : 109 ≤ p2) (ho : o + (cb y - ca y) ≤ n2) (hn2 : n2 ≤ 80) : ∀ n N p m d x5 μ, TM l ch μ → rI μ 107 3 = nI (sk l ch p) → rI μ 107 4 = -1 → p ≤ l → l < n + p → n < N → (∀ j, j < cb y - ca y → bt x5 j = m (ca y + j)) → (∀ j, j < cb y - ca y → rI μ p2 (o + j) = d (ca y + j)) → ∃ μ', L_X11_items_41 N (nI (cL y)) k2 n2 p2 (nI o) x5 (if itm (ca y) (cb y) (tc l ch (sk l ch p)) = 8 then -1 else nI (itm (ca y) (cb y) (tc l ch (sk l ch p)) - ca y)) μ = some ((), μ') ∧ Fr (imQ p2 o (o + (cb y - ca y))) μ μ' ∧ ((∃ e, its l ch (ca y) (cb y) n p m d = .inl e ∧ badAt l ch e μ') ∨ ∃ e d', its l ch (ca y) (cb y) n p m d = .inr (e, d') ∧ rI μ' 107 4 = -1 ∧ rI μ' 107 3 = nI e ∧ ∀ j, j < cb y - ca y → rI μ' p2 (o + j) = d' (ca y + j)) := by
  have h240 := hc.1
  obtain ⟨hab, hb, hL⟩ := cab y hy
  intro n
  induction n with
  | zero => intro N p m d x5 μ hT h h4 hp hn; omega
  | succ n ih =>
    intro N p m d x5 μ hT h h4 hp hn hN hm hd
    obtain ⟨N, rfl⟩ : ∃ n', N = n' + 1 + 1 := ⟨N - 2, by omega⟩
    have s1 := sk_ge (ch := ch) hp
    have s2 := sk_le (ch := ch) hp
    have sn := sk_ne (ch := ch) hp
    have t255 := tc_le (l := l) (ch := ch) (p := sk l ch p) hc
    rw [L_X11_items_41, if_pos h4]
    unfold its
    generalize hq : sk l ch p = q0 at *
    have kin := itm_in (x := tc l ch q0) hab hb
    generalize hk : itm (ca y) (cb y) (tc l ch q0) = k at *
    by_cases q8 : k = 8
    · rw [if_pos q8, if_pos q8, if_pos rfl]
      by_cases q59 : tc l ch q0 = 59 ∨ tc l ch q0 = 0
      · rw [if_pos q59]
        exact ⟨_, rfl, Fr.rf, Or.inr ⟨_, _, rfl, h4, h, hd⟩⟩
      · rw [if_neg q59]
        exact ⟨_, rfl, Fr.rf, Or.inl ⟨_, rfl, s2, Or.inr ⟨h4, h, by omega, by omega, sn⟩⟩⟩
    · obtain ⟨k1, k2', k3⟩ := kin.resolve_left q8
      have hl := tc_lt (l := l) (ch := ch) (p := q0) (by have := gl_ne k (by omega); omega)
      have gk := gl_ne k (by omega)
      obtain ⟨j, hj⟩ : ∃ j, j = k - ca y := ⟨_, rfl⟩
      have hjk : ca y + j = k := by omega
      rw [if_neg q8, if_neg q8, ← hj, if_neg (nI_m1 (by omega)), bd_eq (has_m x5 (by omega)), hm j (by omega), hjk]
      cases hmk : m k with
      | true =>
        rw [if_pos rfl, if_pos rfl, if_neg (show ¬ (1 : Int32) = 0 by decide)]
        exact ⟨_, rfl, Fr.rf, Or.inl ⟨_, rfl, s2, Or.inr ⟨h4, h, by omega, by omega, sn⟩⟩⟩
      | false =>
        rw [if_neg (show ¬ false = true by decide), if_neg (show ¬ false = true by decide), if_pos rfl, lb_e, h, nI_1, lb_e, bd_eq (low_m y j hy (by omega)), bd_eq (high_m y j hy (by omega)), hjk]
        have f1 : Fr (imQ p2 o (o + (cb y - ca y))) μ (wI μ 107 3 (nI (q0 + 1))) := Fr.rf.wI (by unfold imQ m34; omega)
        obtain ⟨r, μ2, e2, g2, d2⟩ := rn_m (d := 3) (lo := gL k) (hi := gH k) (p := q0 + 1) (μ := wI μ 107 3 (nI (q0 + 1))) hc (hT.fr f1 (fun q j e => by unfold imQ m34 at e; omega)) rI_wI_at (by rw [rI_wI_off (by omega)]; exact h4) (by omega) (by omega) (by omega) (by omega) (by omega)
        have e2' : G_X11_number 3 (nI (gL k)) (nI (gH k)) _ = some (r, μ2) := e2
        rw [bd_eq e2', nI_add, gq_in (by omega) (by omega), nx_nI (by omega), lb_e, rI_wI_ne (by omega)]
        have f2 : Fr (imQ p2 o (o + (cb y - ca y))) μ (wI μ2 p2 (o + j) r) := (f1.tr (g2.mono (fun q j e => by unfold m34 at e; unfold imQ m34; omega))).wI (by unfold imQ; omega)
        unfold F_X11_items_127
        rcases d2 with ⟨e, n1, n2⟩ | ⟨e, v, n1, n2, n3, n4⟩
        · have el := numr_fl (by omega) n1
          rw [n1, n2, if_neg (nI_m1 (by omega)), L_X11_items_41, rI_wI_ne (by omega), n2, if_neg (nI_m1 (by omega))]
          exact ⟨_, rfl, f2, Or.inl ⟨_, rfl, el, Or.inl (by rw [rI_wI_ne (by omega)]; exact n2)⟩⟩
        · have en : p < e ∧ e ≤ l := by
            obtain ⟨μx, mx1, mx2⟩ : ∃ μ : Mem, TX l ch μ ∧ rI μ 1 2 = nI (q0 + 1) := ⟨wI (wR (wI μ0 1 1 (nI l)) 2 (fun k => nI (ch k))) 1 2 (nI (q0 + 1)), ⟨by rw [rI_wI_off (by omega), rI_wR_ne (by omega), rI_wI_at], fun k hk => by rw [rI_wI_ne (by omega), rI_wR_at]⟩, rI_wI_at⟩
            obtain ⟨r', μy, -, -, dd⟩ := rn_x (d := 3) (lo := gL k) (hi := gH k) hc mx1 mx2 (by omega) (by omega) (by omega) (by omega)
            rcases dd with ⟨e', z1, -⟩ | ⟨e', v', z1, -, -, z4, z5, -⟩
            · rw [n1] at z1; cases z1
            · rw [n1] at z1
              have := congrArg Prod.fst (Sum.inr.inj z1)
              dsimp only at this
              omega
          rw [n1, n4, if_pos rfl]
          dsimp only
          have hT2 : TM l ch (wI μ2 p2 (o + j) r) := hT.fr f2 (fun q j e => by unfold imQ m34 at e; omega)
          obtain ⟨μ3, e3, g3, y3⟩ := ahead_ok (p := e) hc hT2 (by rw [rI_wI_ne (by omega)]; exact n3) en.2
          rw [bd_eq e3, bd_eq (itemOf_m hy (tc_le hc))]
          have f3 : Fr (imQ p2 o (o + (cb y - ca y))) μ μ3 := f2.tr (g3.mono (fun q j e => by unfold m3 at e; unfold imQ m34; omega))
          obtain ⟨μ4, i1, i2, i3⟩ := ih (N + 1) e (pu m k true) (pu d k (nI v)) (x5 ||| ((1 : Int32) <<< (nI j &&& 31))) μ3 (hT.fr f3 (fun q j e => by unfold imQ m34 at e; omega)) y3 (by rw [g3.i (by unfold m3; omega), rI_wI_ne (by omega)]; exact n4) en.2 (by omega) (by omega) (fun i hi => by
            rw [mk_or x5 (by omega) (by omega), hm i hi]
            by_cases qi : i = j
            · rw [qi, hjk, pu_at, decide_eq_true rfl, Bool.or_true]
            · rw [pu_ne (by omega), decide_eq_false qi, Bool.or_false]) (fun i hi => by
            rw [g3.i (by unfold m3; omega)]
            by_cases qi : i = j
            · rw [qi, hjk, pu_at, rI_wI_at, n2]
            · rw [pu_ne (by omega), rI_wI_off (by omega), g2.i (by unfold m34; omega), rI_wI_ne (by omega)]; exact hd i hi)
          exact ⟨μ4, i1, f3.tr i2, i3⟩
/-! a clause's items from its letter on -/
def itz (l : Nat) (ch : Nat → Nat) (y p : Nat) : Nat ⊕ (Nat × (Nat → Int32)) := its l ch (ca y) (cb y) 300 p (fun _ => false) tUSUAL
theorem items_m (hc : CH l ch) {y : Nat} (hy : y < 3) {k2 n2 p2 o : Nat} (hp2 : 109 ≤ p2) (ho : o + (cb y - ca y) ≤ n2) (hn2 : n2 ≤ 80) (hT : TM l ch μ) (h : rI μ 107 3 = nI p) (h4 : rI μ 107 4 = -1) (hp : p ≤ l) : ∃ μ', G_X11_items (nI (cL y)) k2 n2 p2 (nI o) (nI (cb y - ca y)) μ = some ((), μ') ∧ Fr (imQ p2 o (o + (cb y - ca y))) μ μ' ∧ ((∃ e, itz l ch y p = .inl e ∧ badAt l ch e μ') ∨ ∃ e d', itz l ch y p = .inr (e, d') ∧ rI μ' 107 4 = -1 ∧ rI μ' 107 3 = nI e ∧ ∀ j, j < cb y - ca y → rI μ' p2 (o + j) = d' (ca y + j)) := by
  have h240 := hc.1
  obtain ⟨hab, hb, hL⟩ := cab y hy
  unfold G_X11_items
  refine loop_inv (fun n k (s : Mem) => L_X11_items_3 n (nI (cL y)) k2 n2 p2 (nI o) (nI (cb y - ca y)) k s) (cb y - ca y) (fun k s => Fr (fun q j => q = p2 ∧ o ≤ j ∧ j < o + (cb y - ca y)) μ s ∧ ∀ j, j < k → rI s p2 (o + j) = tUSUAL (ca y + j)) (P := fun r => ∃ μ', r = some ((), μ') ∧ Fr (imQ p2 o (o + (cb y - ca y))) μ μ' ∧ ((∃ e, itz l ch y p = .inl e ∧ badAt l ch e μ') ∨ ∃ e d', itz l ch y p = .inr (e, d') ∧ rI μ' 107 4 = -1 ∧ rI μ' 107 3 = nI e ∧ ∀ j, j < cb y - ca y → rI μ' p2 (o + j) = d' (ca y + j))) ?_ ?_ 100000 0 μ (by omega) (by omega) ⟨Fr.rf, fun j hj => absurd hj (by omega)⟩
  · rintro n k s hk ⟨f, dd⟩
    refine ⟨wI s p2 (o + k) (tUSUAL (ca y + k)), ⟨f.wI (by omega), fun j hj => ?_⟩, ?_⟩
    · rw [rI_wI_eq]
      by_cases q : j = k
      · rw [if_pos (by omega), q]
      · rw [if_neg (by omega)]; exact dd j (by omega)
    · show L_X11_items_3 (n + 1) (nI (cL y)) k2 n2 p2 (nI o) (nI (cb y - ca y)) (nI k) s = _
      rw [L_X11_items_3, if_neg (nI_ge hk (by omega)), bd_eq (usu_m y k hy hk), nI_add, gq_in (by omega) (by omega), nx_nI (by omega), lb_e, lb_e, nI_1]
  · rintro n s ⟨f, dd⟩
    show ∃ μ', L_X11_items_3 (n + 1) (nI (cL y)) k2 n2 p2 (nI o) (nI (cb y - ca y)) (nI (cb y - ca y)) s = _ ∧ _
    have hTs : TM l ch s := hT.fr f (fun q j e => by omega)
    obtain ⟨μ1, e1, g1, y1⟩ := ahead_ok (p := p) hc hTs ((f.i (by omega)).trans h) hp
    have f0 : Fr (imQ p2 o (o + (cb y - ca y))) μ s := f.mono (fun q j e => Or.inr e)
    have f1 : Fr (imQ p2 o (o + (cb y - ca y))) μ μ1 := f0.tr (g1.mono (fun q j e => by unfold m3 at e; unfold imQ m34; omega))
    rw [L_X11_items_3, if_pos (nI_le (Nat.le_refl _) (by omega)), bd_eq e1, bd_eq (itemOf_m hy (tc_le hc))]
    obtain ⟨μ2, i1, i2, i3⟩ := its_m (k2 := k2) hc hy hp2 ho hn2 300 100000 p (fun _ => false) tUSUAL 0 μ1 (hT.fr f1 (fun q j e => by unfold imQ m34 at e; omega)) y1 ((g1.i (by unfold m3; omega)).trans ((f.i (by omega)).trans h4)) hp (by omega) (by omega) (fun j hj => b_0 j) (fun j hj => (g1.i (by unfold m3; omega)).trans (dd j hj))
    exact ⟨μ2, i1, f1.tr i2, i3⟩
theorem items_x (hc : CH l ch) {y : Nat} (hy : y < 3) (hT : TX l ch μ) (h : rI μ 1 2 = nI p) (hp : p < l) : ∃ r μ', G_X1_readItems (nI (ca y)) (nI (cb y)) μ = some (r, μ') ∧ Fr (ixQ (ca y) (cb y)) μ μ' ∧ ((∃ e, itz l ch y (p + 1) = .inl e ∧ r = 0 ∧ rI μ' 1 3 = nI e) ∨ ∃ e d', itz l ch y (p + 1) = .inr (e, d') ∧ r = 1 ∧ rI μ' 1 2 = nI e ∧ e ≤ l ∧ p < e ∧ (tc l ch e = 59 ∨ tc l ch e = 0) ∧ ∀ k, ca y ≤ k → k < cb y → rI μ' 4 k = d' k) := by
  have h240 := hc.1
  obtain ⟨hab, hb, hL⟩ := cab y hy
  unfold G_X1_readItems G_X1_resetItems
  rw [h, nI_1, lb_e, pk_sub hab, cpB_nI (by omega) (by omega) (by omega) (by omega), gq_t, nx_nI (by omega), nx_nI (by omega), lb_e, bd_s]
  have f1 : Fr (ixQ (ca y) (cb y)) μ (wT (wI μ 1 2 (nI (p + 1))) tUSUAL (ca y) 4 (ca y) (cb y - ca y)) := (Fr.rf.wI (by unfold ixQ f13; omega)).wT (fun k k1 k2 => by unfold ixQ; omega)
  obtain ⟨r, μ2, i1, i2, i3⟩ := its_x hc hab hb 300 100000 (p + 1) (fun _ => false) tUSUAL 0 _ (hT.fr f1 (fun q j e => by unfold ixQ f13 at e; omega)) (by rw [rI_wT_ne (by omega), rI_wI_at]) (by omega) (by omega) (by omega) (fun j hj => b_0 j) (fun j j1 j2 => by rw [rI_wT_at, if_pos (by omega), show ca y + (j - ca y) = j by omega])
  have c0 : ctm (fun _ => false) (ca y) (cb y) = 0 := by
    unfold ctm
    rw [show (fun j : Nat => if (fun _ => false : Nat → Bool) (ca y + j) = true then 1 else 0) = fun _ => 0 from rfl, fb_sm_const, Nat.mul_zero]
  rw [c0, Nat.add_zero] at i1
  refine ⟨r, μ2, i1, f1.tr i2, ?_⟩
  rcases i3 with x | ⟨e, d', x1, x2, x3, x4, x5, x6, x7⟩
  · exact Or.inl x
  · exact Or.inr ⟨e, d', x1, x2, x3, x4, by omega, x6, x7⟩
end IM
