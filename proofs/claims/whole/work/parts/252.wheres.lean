/-! texts: a condition, unit by unit -/
abbrev W5 : Type := Nat × (Nat → Nat) × (Nat → Nat) × (Nat → Nat) × (Nat → Int32)
def pu {α : Type} (f : Nat → α) (k : Nat) (x : α) : Nat → α := fun j => if j = k then x else f j
theorem pu_at {α : Type} {f : Nat → α} {k : Nat} {x : α} : pu f k x k = x := if_pos rfl
theorem pu_ne {α : Type} {f : Nat → α} {k j : Nat} {x : α} (h : j ≠ k) : pu f k x j = f j := if_neg h
def whr (l : Nat) (ch : Nat → Nat) : Nat → Nat → Nat → Nat → (Nat → Nat) → (Nat → Nat) → (Nat → Nat) → (Nat → Int32) → Nat ⊕ W5
  | 0, _, _, _, _, _, _, _ => .inl 0
  | n + 1, p, t, z, tm, cl, sg, nu => if z = 6 then .inl (sk l ch p) else match unr l ch p with
    | .inl e => .inl e
    | .inr (e, c, s, v) => if tc l ch (sk l ch e) = 0 then .inr (z + 1, pu tm z t, pu cl z c, pu sg z s, pu nu z v) else if tc l ch (sk l ch e) = 38 then whr l ch n (sk l ch e + 1) t (z + 1) (pu tm z t) (pu cl z c) (pu sg z s) (pu nu z v) else if tc l ch (sk l ch e) = 124 then whr l ch n (sk l ch e + 1) (t + 1) (z + 1) (pu tm z t) (pu cl z c) (pu sg z s) (pu nu z v) else .inl (sk l ch e)
theorem unr_le {l : Nat} {ch : Nat → Nat} (hc : CH l ch) {p e c s : Nat} {v : Int32} (hp : p ≤ l) (h : unr l ch p = .inr (e, c, s, v)) : e ≤ l ∧ c < 2 ∧ s < 4 := by
  have m : ∃ μ : Mem, TX l ch μ ∧ rI μ 1 2 = nI p := ⟨wI (wR (wI μ0 1 1 (nI l)) 2 (fun k => nI (ch k))) 1 2 (nI p), ⟨by rw [rI_wI_off (by omega), rI_wR_ne (by omega), rI_wI_at], fun k hk => by rw [rI_wI_ne (by omega), rI_wR_at]⟩, rI_wI_at⟩
  obtain ⟨μ, m1, m2⟩ := m
  obtain ⟨r, μ', -, -, d⟩ := ru_x (p0 := 39) (z := 0) hc m1 m2 hp (by omega) (by omega)
  rcases d with ⟨e', d1, -⟩ | ⟨e', c', s', v', d1, -, -, d2, d3, d4, -⟩
  · rw [h] at d1; exact absurd d1 (by intro z; cases z)
  · rw [h] at d1
    have d1 := Sum.inr.inj d1
    have x1 := congrArg (fun x => x.1) d1
    have x2 := congrArg (fun x => x.2.1) d1
    have x3 := congrArg (fun x => x.2.2.1) d1
    dsimp only at x1 x2 x3
    omega
theorem numr_fl {l : Nat} {ch : Nat → Nat} {d lo hi p e : Nat} (hp : p ≤ l) (h : numr l ch d lo hi p = .inl e) : e ≤ l := by
  have s2 := sk_le (ch := ch) hp
  obtain ⟨b1, b2, b3⟩ := dgs_le (ch := ch) d (sk l ch p) 0 s2
  unfold numr at h
  split at h
  · have := Sum.inl.inj h; omega
  · split at h
    · have := Sum.inl.inj h; omega
    · split at h
      · have := Sum.inl.inj h; omega
      · cases h
theorem unr_fl {l : Nat} {ch : Nat → Nat} {p e : Nat} (hp : p ≤ l) (h : unr l ch p = .inl e) : e ≤ l := by
  have s2 := sk_le (ch := ch) hp
  unfold unr at h
  split at h
  next q =>
    have lt := tc_lt (l := l) (ch := ch) (p := sk l ch p) (by omega)
    have s3 := sk_le (ch := ch) (l := l) (p := sk l ch p + 1) (by omega)
    split at h
    · have := Sum.inl.inj h; omega
    next q4 =>
      have lt2 := tc_lt (l := l) (ch := ch) (p := sk l ch (sk l ch p + 1)) (fun e => q4 (by rw [e]; rfl))
      split at h
      · cases h
      · cases hn : numr l ch 2 0 99 (sk l ch (sk l ch p + 1) + 1) with
        | inl e' =>
          rw [hn] at h
          have h' := Sum.inl.inj h
          have := numr_fl (by omega) hn
          omega
        | inr x => rw [hn] at h; obtain ⟨a, b⟩ := x; cases h
  · have := Sum.inl.inj h; omega
/-- what is read is a condition -/
theorem whr_ok {l : Nat} {ch : Nat → Nat} (hc : CH l ch) : ∀ n p t z tm cl sg nu w, p ≤ l → z ≤ 6 → (0 < z → tm 0 = 0) → (z = 0 → t = 0) → (0 < z → t = tm (z - 1) ∨ t = tm (z - 1) + 1) → (∀ u, u + 1 < z → tm (u + 1) = tm u ∨ tm (u + 1) = tm u + 1) → (∀ u, u < z → cl u < 2 ∧ sg u < 4) → whr l ch n p t z tm cl sg nu = .inr w → WH w.1 w.2.1 w.2.2.1 w.2.2.2.1 := by
  intro n
  induction n with
  | zero => intro p t z tm cl sg nu w _ _ _ _ _ _ _ h; exact absurd h (by intro z; cases z)
  | succ n ih =>
    intro p t z tm cl sg nu w hp hz h0 h1 h2 h3 h4 h
    unfold whr at h
    by_cases z6 : z = 6
    · rw [if_pos z6] at h; exact absurd h (by intro z; cases z)
    · rw [if_neg z6] at h
      cases hu : unr l ch p with
      | inl e => rw [hu] at h; exact absurd h (by intro z; cases z)
      | inr x =>
        obtain ⟨e, c, s, v⟩ := x
        rw [hu] at h
        dsimp only at h
        obtain ⟨k1, k2, k3⟩ := unr_le hc hp hu
        have n0 : 0 < z + 1 → pu tm z t 0 = 0 := fun _ => by
          by_cases q : z = 0
          · rw [q, pu_at]; exact h1 q
          · rw [pu_ne (by omega)]; exact h0 (by omega)
        have n3 : ∀ u, u + 1 < z + 1 → pu tm z t (u + 1) = pu tm z t u ∨ pu tm z t (u + 1) = pu tm z t u + 1 := fun u hu => by
          rw [pu_ne (show u ≠ z by omega)]
          by_cases q : u + 1 = z
          · rw [q, pu_at]
            have := h2 (by omega)
            rw [show z - 1 = u by omega] at this
            exact this
          · rw [pu_ne q]; exact h3 u (by omega)
        have n4 : ∀ u, u < z + 1 → pu cl z c u < 2 ∧ pu sg z s u < 4 := fun u hu => by
          by_cases q : u = z
          · rw [q, pu_at, pu_at]; exact ⟨k2, k3⟩
          · rw [pu_ne q, pu_ne q]; exact h4 u (by omega)
        have pt : pu tm z t (z + 1 - 1) = t := pu_at
        by_cases q0 : tc l ch (sk l ch e) = 0
        · rw [if_pos q0] at h
          have h := Sum.inr.inj h
          rw [← h]
          exact ⟨by show 1 ≤ z + 1; omega, by show z + 1 ≤ 6; omega, n0 (by omega), n3, n4⟩
        · have lt := tc_lt q0
          rw [if_neg q0] at h
          by_cases q1 : tc l ch (sk l ch e) = 38
          · rw [if_pos q1] at h
            exact ih _ _ _ _ _ _ _ _ (by omega) (by omega) n0 (fun e => absurd e (by omega)) (fun _ => Or.inl pt.symm) n3 n4 h
          · rw [if_neg q1] at h
            by_cases q2 : tc l ch (sk l ch e) = 124
            · rw [if_pos q2] at h
              exact ih _ _ _ _ _ _ _ _ (by omega) (by omega) n0 (fun e => absurd e (by omega)) (fun _ => Or.inr (by rw [pt])) n3 n4 h
            · rw [if_neg q2] at h; exact absurd h (by intro z; cases z)
section WL
variable {l : Nat} {ch : Nat → Nat}
def wxQ (p0 q j : Nat) : Prop := f13 q j ∨ (p0 ≤ q ∧ q ≤ p0 + 4)
theorem XW.put {z : Nat} {tm cl sg : Nat → Nat} {nu : Nat → Int32} {p0 t c s : Nat} {v : Int32} {μ μ' : Mem} (h : XW z tm cl sg nu p0 μ) (h0 : rI μ' p0 4 = nI (z + 1)) (ho : ∀ q j, p0 + 1 ≤ q → q ≤ p0 + 4 → j ≠ z → rI μ' q j = rI μ q j) (h1 : rI μ' (p0 + 1) z = nI t) (h2 : rI μ' (p0 + 2) z = nI c) (h3 : rI μ' (p0 + 3) z = nI s) (h4 : rI μ' (p0 + 4) z = v) : XW (z + 1) (pu tm z t) (pu cl z c) (pu sg z s) (pu nu z v) p0 μ' := ⟨h0, fun u hu => by
  by_cases q : u = z
  · rw [q, pu_at, pu_at, pu_at, pu_at]; exact ⟨h1, h2, h3, h4⟩
  · rw [pu_ne q, pu_ne q, pu_ne q, pu_ne q, ho _ _ (by omega) (by omega) q, ho _ _ (by omega) (by omega) q, ho _ _ (by omega) (by omega) q, ho _ _ (by omega) (by omega) q]
    exact h.2 u (by omega)⟩
theorem wl_x (hc : CH l ch) {p0 : Nat} (hp0 : 3 ≤ p0) : ∀ n N p t z tm cl sg nu μ, TX l ch μ → rI μ 1 2 = nI p → p ≤ l → n + z = 7 → z ≤ 6 → n < N → XW z tm cl sg nu p0 μ → ∃ r μ', L_X9_read_11 N p0 (nI t) μ = some (r, μ') ∧ Fr (wxQ p0) μ μ' ∧ ((∃ e, whr l ch n p t z tm cl sg nu = .inl e ∧ r = nI e ∧ e ≤ 300) ∨ ∃ w, whr l ch n p t z tm cl sg nu = .inr w ∧ r = -1 ∧ XW w.1 w.2.1 w.2.2.1 w.2.2.2.1 w.2.2.2.2 p0 μ') := by
  have h240 := hc.1
  intro n
  induction n with
  | zero => intro N p t z tm cl sg nu μ hT h hp hz hz6 hN hX; omega
  | succ n ih =>
    intro N p t z tm cl sg nu μ hT h hp hz hz6 hN hX
    obtain ⟨N, rfl⟩ : ∃ n', N = n' + 1 := ⟨N - 1, by omega⟩
    rw [L_X9_read_11, hX.1]
    unfold whr
    by_cases q6 : z = 6
    · obtain ⟨μ1, e1, g1, y1⟩ := peek_ok hc hT h hp
      have := sk_le (ch := ch) hp
      rw [if_pos q6, if_pos (l_le (m := 6) (by omega) (by omega)), bd_eq e1, y1]
      exact ⟨_, _, rfl, g1.mono (fun q j e => by unfold f12 at e; unfold wxQ f13; omega), Or.inl ⟨_, rfl, rfl, by omega⟩⟩
    · rw [if_neg q6, if_neg (l_nle (m := 6) (by omega) (by omega))]
      obtain ⟨r, μ1, e1, g1, d1⟩ := ru_x (p0 := p0) (z := z) hc hT h hp hp0 (by omega)
      have f1 : Fr (wxQ p0) μ μ1 := g1.mono (fun q j e => by unfold uxQ f13 at e; unfold wxQ f13; omega)
      rw [bd_eq e1]
      rcases d1 with ⟨e, a1, a2, a3⟩ | ⟨e, c, s, v, a1, a2, a3, a4, a5, a6, a7, a8, a9⟩
      · have := unr_fl hp a1
        rw [a1, a2, if_pos rfl, a3]
        exact ⟨_, _, rfl, f1, Or.inl ⟨_, rfl, rfl, by omega⟩⟩
      · rw [a1, a2, if_neg (by decide), g1.i (by unfold uxQ f13; omega), hX.1, gq_in (by omega) (by omega), nx_nI (by omega), lb_e]
        dsimp only
        have f2 : Fr (wxQ p0) μ (wI μ1 (p0 + 1) z (nI t)) := f1.wI (by unfold wxQ; omega)
        have hT2 : TX l ch (wI μ1 (p0 + 1) z (nI t)) := hT.fr f2 (fun q j e => by unfold wxQ f13 at e; omega)
        obtain ⟨μ3, e3, g3, y3⟩ := peek_ok (p := e) hc hT2 (by rw [rI_wI_ne (by omega)]; exact a3) a4
        have f3 : Fr (wxQ p0) μ μ3 := f2.tr (g3.mono (fun q j e => by unfold f12 at e; unfold wxQ f13; omega))
        have c3 : rI μ3 p0 4 = nI z := by rw [g3.i (by unfold f12; omega), rI_wI_ne (by omega), g1.i (by unfold uxQ f13; omega)]; exact hX.1
        have k255 := tc_le (l := l) (ch := ch) (p := sk l ch e) hc
        have s2 := sk_le (ch := ch) a4
        have put : ∀ μ', (∀ q j, (q = p0 ∧ j = 4) ∨ f12 q j ∨ rI μ' q j = rI μ3 q j) → rI μ' p0 4 = nI (z + 1) → XW (z + 1) (pu tm z t) (pu cl z c) (pu sg z s) (pu nu z v) p0 μ' := fun μ' ag h0 => by
          have ag' : ∀ q j, p0 + 1 ≤ q → rI μ' q j = rI (wI μ1 (p0 + 1) z (nI t)) q j := fun q j hq => ((ag q j).resolve_left (by omega)).resolve_left (by unfold f12; omega) |>.trans (g3.i (by unfold f12; omega))
          refine hX.put h0 (fun q j q1 q2 q3 => ?_) ?_ ?_ ?_ ?_
          · rw [ag' q j q1]
            by_cases q4 : q = p0 + 1
            · rw [q4, rI_wI_off q3]; exact g1.i (by unfold uxQ f13; omega)
            · rw [rI_wI_ne q4]; exact g1.i (by unfold uxQ f13; omega)
          · rw [ag' _ _ (by omega), rI_wI_at]
          · rw [ag' _ _ (by omega), rI_wI_ne (by omega)]; exact a7
          · rw [ag' _ _ (by omega), rI_wI_ne (by omega)]; exact a8
          · rw [ag' _ _ (by omega), rI_wI_ne (by omega)]; exact a9
        rw [bd_eq e3]
        by_cases q0 : tc l ch (sk l ch e) = 0
        · rw [if_pos q0, if_pos (by rw [q0]; rfl), c3, nI_1, lb_e]
          refine ⟨_, _, rfl, f3.wI (by unfold wxQ; omega), Or.inr ⟨_, rfl, rfl, put _ (fun q j => ?_) rI_wI_at⟩⟩
          by_cases q1 : q = p0 ∧ j = 4
          · exact Or.inl q1
          · refine Or.inr (Or.inr ?_)
            by_cases q2 : q = p0
            · rw [q2, rI_wI_off (by omega)]
            · rw [rI_wI_ne q2]
        · have lt := tc_lt q0
          rw [if_neg q0, if_neg (nI_ne0 (by omega) (by omega))]
          have go : ∀ t', ∃ r μ', F_X9_read_97 (L_X9_read_11 N) p0 (nI t) (nI t') μ3 = some (r, μ') ∧ Fr (wxQ p0) μ μ' ∧ ((∃ e', whr l ch n (sk l ch e + 1) (t + t') (z + 1) (pu tm z t) (pu cl z c) (pu sg z s) (pu nu z v) = .inl e' ∧ r = nI e' ∧ e' ≤ 300) ∨ ∃ w, whr l ch n (sk l ch e + 1) (t + t') (z + 1) (pu tm z t) (pu cl z c) (pu sg z s) (pu nu z v) = .inr w ∧ r = -1 ∧ XW w.1 w.2.1 w.2.2.1 w.2.2.2.1 w.2.2.2.2 p0 μ') := fun t' => by
            unfold F_X9_read_97
            rw [nI_add, lb_e, y3, nI_1, lb_e, rI_wI_ne (by omega), c3, nI_1, lb_e]
            have f4 : Fr (wxQ p0) μ (wI (wI μ3 1 2 (nI (sk l ch e + 1))) p0 4 (nI (z + 1))) := (f3.wI (by unfold wxQ f13; omega)).wI (by unfold wxQ; omega)
            obtain ⟨r, μ', i1, i2, i3⟩ := ih N (sk l ch e + 1) (t + t') (z + 1) (pu tm z t) (pu cl z c) (pu sg z s) (pu nu z v) _ (hT.fr f4 (fun q j e => by unfold wxQ f13 at e; omega)) (by rw [rI_wI_ne (by omega), rI_wI_at]) (by omega) (by omega) (by omega) (by omega) (put _ (fun q j => by
              by_cases q1 : q = p0 ∧ j = 4
              · exact Or.inl q1
              · by_cases q2 : f12 q j
                · exact Or.inr (Or.inl q2)
                · refine Or.inr (Or.inr ?_)
                  have : rI (wI (wI μ3 1 2 (nI (sk l ch e + 1))) p0 4 (nI (z + 1))) q j = rI (wI μ3 1 2 (nI (sk l ch e + 1))) q j := by
                    by_cases q3 : q = p0
                    · rw [q3, rI_wI_off (by omega)]
                    · rw [rI_wI_ne q3]
                  rw [this]
                  by_cases q3 : q = 1
                  · rw [q3, rI_wI_off (by unfold f12 at q2; omega)]
                  · rw [rI_wI_ne q3]) rI_wI_at)
            exact ⟨r, μ', i1, f4.tr i2, i3⟩
          unfold F_X9_read_85
          by_cases q1 : tc l ch (sk l ch e) = 38
          · rw [if_pos q1, if_pos (r_eq (m := 38) q1), if_neg (r_ne (m := 124) (by omega) (by omega) (by omega))]
            exact go 0
          · rw [if_neg q1, if_neg (r_ne (m := 38) q1 (by omega) (by omega))]
            by_cases q2 : tc l ch (sk l ch e) = 124
            · rw [if_pos q2, if_pos (r_eq (m := 124) q2), if_pos (r_eq (m := 124) q2)]
              exact go 1
            · rw [if_neg q2, if_neg (r_ne (m := 124) q2 (by omega) (by omega)), y3]
              exact ⟨_, _, rfl, f3, Or.inl ⟨_, rfl, rfl, by omega⟩⟩
theorem MW.put {z i : Nat} {tm cl sg : Nat → Nat} {nu : Nat → Int32} {t c s : Nat} {v : Int32} {μ μ' : Mem} (h : MW z tm cl sg nu i μ) (h0 : rI μ' 115 i = nI (z + 1)) (ho : ∀ j, j < 24 * i + 4 * z → rI μ' 114 j = rI μ 114 j) (h1 : rI μ' 114 (4 * (6 * i + z)) = nI t) (h2 : rI μ' 114 (4 * (6 * i + z) + 1) = nI c) (h3 : rI μ' 114 (4 * (6 * i + z) + 2) = nI s) (h4 : rI μ' 114 (4 * (6 * i + z) + 3) = v) : MW (z + 1) (pu tm z t) (pu cl z c) (pu sg z s) (pu nu z v) i μ' := ⟨h0, fun u hu => by
  by_cases q : u = z
  · rw [q, pu_at, pu_at, pu_at, pu_at]; exact ⟨h1, h2, h3, h4⟩
  · rw [pu_ne q, pu_ne q, pu_ne q, pu_ne q, ho _ (by omega), ho _ (by omega), ho _ (by omega), ho _ (by omega)]
    exact h.2 u (by omega)⟩
theorem wl_m (hc : CH l ch) {i : Nat} (hi : i < 5) : ∀ n N p t z tm cl sg nu μ, TM l ch μ → rI μ 107 3 = nI p → rI μ 107 4 = -1 → p ≤ l → n + z = 7 → z ≤ 6 → n + 1 < N → MW z tm cl sg nu i μ → ∃ r μ', L_X11_readWhere_21 N (nI i) (nI t) 1 μ = some (r, μ') ∧ Fr (umQ i) μ μ' ∧ ((∃ e, whr l ch n p t z tm cl sg nu = .inl e ∧ r = nI e) ∨ ∃ w, whr l ch n p t z tm cl sg nu = .inr w ∧ r = -1 ∧ MW w.1 w.2.1 w.2.2.1 w.2.2.2.1 w.2.2.2.2 i μ') := by
  have h240 := hc.1
  intro n
  induction n with
  | zero => intro N p t z tm cl sg nu μ hT h h4 hp hz hz6 hN hX; omega
  | succ n ih =>
    intro N p t z tm cl sg nu μ hT h h4 hp hz hz6 hN hX
    obtain ⟨N, rfl⟩ : ∃ n', N = n' + 1 + 1 := ⟨N - 2, by omega⟩
    rw [L_X11_readWhere_21, if_neg (by decide)]
    obtain ⟨μ1, e1, f1, k1, d1⟩ := ru_m (t := t) hc hT h h4 hp hi hz6 hX.1
    rw [bd_eq e1]
    unfold whr
    rcases d1 with ⟨e, a1, a2⟩ | ⟨hz5, e, c, s, v, a1, a2, a3, a4, a5, a6, a7, a8⟩
    · have le : e ≤ l := by
        by_cases q6 : z = 6
        · rw [if_pos q6] at a1
          have := sk_le (ch := ch) hp
          have := Sum.inl.inj a1
          omega
        · rw [if_neg q6] at a1
          exact unr_fl hp a1
      rw [if_neg (by rw [a2]; exact nI_m1 (by omega))]
      unfold F_X11_readWhere_47 F_X11_readWhere_68 F_X11_readWhere_83 F_X11_readWhere_100
      rw [if_neg (by decide), if_neg (by decide), if_pos rfl, lb_e, if_neg (by decide), lb_e, L_X11_readWhere_21, if_pos rfl, rI_wI_off (by omega), if_neg (by rw [a2]; exact nI_m1 (by omega))]
      unfold F_X11_readWhere_125
      rw [rI_wI_off (by omega), a2]
      refine ⟨_, _, rfl, f1.wI (by unfold umQ m34; omega), Or.inl ⟨e, ?_, rfl⟩⟩
      by_cases q6 : z = 6
      · rw [if_pos q6] at a1 ⊢
        rw [Sum.inl.inj a1]
      · rw [if_neg q6] at a1 ⊢
        rw [a1]
    · have hl := unr_le hc hp a1
      rw [if_neg (show ¬ z = 6 by omega), a1, if_pos a3]
      dsimp only
      have hT1 : TM l ch μ1 := hT.fr f1 (fun q j e => by unfold umQ m34 at e; omega)
      obtain ⟨μ3, e3, g3, y3⟩ := ahead_ok (p := e) hc hT1 a2 hl.1
      have f3 : Fr (umQ i) μ μ3 := f1.tr (g3.mono (fun q j e => by unfold m3 at e; unfold umQ m34; omega))
      have k255 := tc_le (l := l) (ch := ch) (p := sk l ch e) hc
      have s2 := sk_le (ch := ch) hl.1
      have put : ∀ {x : Int32}, MW (z + 1) (pu tm z t) (pu cl z c) (pu sg z s) (pu nu z v) i (wI μ3 107 3 x) := fun {x} => by
        refine hX.put ?_ (fun j hj => ?_) ?_ ?_ ?_ ?_
        · rw [rI_wI_ne (by omega), g3.i (by unfold m3; omega)]; exact a4
        · rw [rI_wI_ne (by omega), g3.i (by unfold m3; omega)]; exact k1 j hj
        · rw [rI_wI_ne (by omega), g3.i (by unfold m3; omega)]; exact a5
        · rw [rI_wI_ne (by omega), g3.i (by unfold m3; omega)]; exact a6
        · rw [rI_wI_ne (by omega), g3.i (by unfold m3; omega)]; exact a7
        · rw [rI_wI_ne (by omega), g3.i (by unfold m3; omega)]; exact a8
      have z3 : ∀ {x : Int32}, rI (wI μ3 107 3 x) 107 4 = -1 := fun {x} => by rw [rI_wI_off (by omega), g3.i (by unfold m3; omega)]; exact a3
      have f4 : ∀ {x : Int32}, Fr (umQ i) μ (wI μ3 107 3 x) := f3.wI (by unfold umQ m34; omega)
      have hT4 : ∀ {x : Int32}, TM l ch (wI μ3 107 3 x) := fun {x} => hT.fr (f4 (x := x)) (fun q j e => by unfold umQ m34 at e; omega)
      have go : ∀ t', tc l ch (sk l ch e) ≠ 0 → ∃ r μ', L_X11_readWhere_21 (N + 1) (nI i) (nI t + nI t') 1 (wI μ3 107 3 (nI (sk l ch e) + 1)) = some (r, μ') ∧ Fr (umQ i) μ μ' ∧ ((∃ e', whr l ch n (sk l ch e + 1) (t + t') (z + 1) (pu tm z t) (pu cl z c) (pu sg z s) (pu nu z v) = .inl e' ∧ r = nI e') ∨ ∃ w, whr l ch n (sk l ch e + 1) (t + t') (z + 1) (pu tm z t) (pu cl z c) (pu sg z s) (pu nu z v) = .inr w ∧ r = -1 ∧ MW w.1 w.2.1 w.2.2.1 w.2.2.2.1 w.2.2.2.2 i μ') := fun t' hne => by
        have lt := tc_lt hne
        rw [nI_add, nI_1]
        obtain ⟨r, μ', i1, i2, i3⟩ := ih (N + 1) (sk l ch e + 1) (t + t') (z + 1) (pu tm z t) (pu cl z c) (pu sg z s) (pu nu z v) _ (hT4 (x := nI (sk l ch e + 1))) rI_wI_at z3 (by omega) (by omega) (by omega) (by omega) put
        exact ⟨r, μ', i1, f4.tr i2, i3⟩
      rw [bd_eq e3]
      unfold F_X11_readWhere_47 F_X11_readWhere_63 F_X11_readWhere_68 F_X11_readWhere_83 F_X11_readWhere_100
      simp only [lb_e, y3]
      rw [if_neg (show ¬ (1 : Int32) = 0 by decide), if_pos (show True from trivial)]
      by_cases q1 : tc l ch (sk l ch e) = 38
      · rw [if_pos ((ac_eq (m := 38) k255 (by omega) (by omega)).mpr q1), if_neg (fun e => by have := (ac_eq (m := 124) k255 (by omega) (by omega)).mp e; omega), if_neg (by omega), if_pos q1]
        exact go 0 (by omega)
      · rw [if_neg (fun e => q1 ((ac_eq (m := 38) k255 (by omega) (by omega)).mp e))]
        by_cases q2 : tc l ch (sk l ch e) = 124
        · rw [if_pos ((ac_eq (m := 124) k255 (by omega) (by omega)).mpr q2), if_pos ((ac_eq (m := 124) k255 (by omega) (by omega)).mpr q2), if_neg (by omega), if_neg q1, if_pos q2]
          exact go 1 (by omega)
        · have n2 := fun e => q2 ((ac_eq (m := 124) k255 (by omega) (by omega)).mp e)
          rw [if_neg n2, if_neg n2]
          have e0 : nI (sk l ch e) + 0 = nI (sk l ch e) := nI_add _ 0
          obtain ⟨μ5, e5, g5, y5⟩ := ahead_ok (p := sk l ch e) (μ := wI μ3 107 3 (nI (sk l ch e))) hc hT4 rI_wI_at s2
          rw [sk_sk hl.1] at e5 y5
          rw [e0, L_X11_readWhere_21, if_pos rfl, if_pos z3, bd_eq e5]
          unfold F_X11_readWhere_125
          have z5 : rI μ5 107 4 = -1 := (g5.i (by unfold m3; omega)).trans z3
          by_cases q0 : tc l ch (sk l ch e) = 0
          · rw [if_pos ((ac_m1 k255).mpr q0), if_pos q0, z5]
            have m5 := put (x := nI (sk l ch e))
            exact ⟨_, _, rfl, f4.tr (g5.mono (fun q j e => by unfold m3 at e; unfold umQ m34; omega)), Or.inr ⟨_, rfl, rfl, ⟨(g5.i (by unfold m3; omega)).trans m5.1, fun u hu => by
              rw [g5.i (by unfold m3; omega), g5.i (by unfold m3; omega), g5.i (by unfold m3; omega), g5.i (by unfold m3; omega)]; exact m5.2 u hu⟩⟩⟩
          · rw [if_neg (fun e => q0 ((ac_m1 k255).mp e)), if_neg q0, if_neg q1, if_neg q2, bd_eq (bad_ok y5 z5), rI_wI_at]
            exact ⟨_, _, rfl, (f4.tr (g5.mono (fun q j e => by unfold m3 at e; unfold umQ m34; omega))).wI (by unfold umQ m34; omega), Or.inl ⟨_, rfl, rfl⟩⟩
end WL
