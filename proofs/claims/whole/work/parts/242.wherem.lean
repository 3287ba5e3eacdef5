/-! bounds: the model -/
section WM
variable {μ : Mem} {z : Nat} {tm cl sg : Nat → Nat} {nu : Nat → Int32} {i K D v t : Nat} {f : Nat → Nat → Nat} {bd gr : Nat → Nat → Nat} {dr : Nat → Nat}
theorem ub_in {kc : Int32 → Int32 → Int32 → Int32 → Int32 → Int32 → Int32 → Mem → Option (Int32 × Mem)} (hM : MT K f bd gr dr (fun k => rI μ 116 (357 * t + k))) (ht : t < 3) (hW : MW z tm cl sg nu i μ) (hi : i < 5) (hw : WH z tm cl sg) (hv : v ≤ 16) (hK : K ≤ 8) {u k w a c : Nat} (hc : c < 2) (hl : LW v K D (cn f c) (bd c) (gr c) (dr c)) (hs : rws f ≤ 999) (hu : u < z) (hk : k < K) (hw1 : 1 ≤ w) (hw3 : w ≤ 3) : L_X11_unitBy_87 kc 100000 (nI t) (nI i) (nI u) (nI w) (nI c) (nI a) (nI k) (nI (bd c (k + 1) - bd c k)) 0 (nI (bd c k)) μ = kc (nI t) (nI i) (nI u) (nI w) (nI c) (nI (a + ubk w (hcN (sg u) (nu u) (bd c k) (bd c (k + 1))) (seg (cn f c) (bd c k) (bd c (k + 1))) (gr c k) (bd c (k + 1) - bd c k))) (nI (k + 1)) μ := by
  obtain ⟨b1, b2, b3, b4⟩ := hl.fc (Nat.le_trans (cn_sm f hc (by omega)) hs) hv hk
  have hle := hcN_le (sg u) (nu u) (bd c k) (bd c (k + 1))
  have run : ∀ m q, bd c k ≤ q → q ≤ bd c (k + 1) → bd c (k + 1) - q < m → L_X11_unitBy_87 kc m (nI t) (nI i) (nI u) (nI w) (nI c) (nI a) (nI k) (nI (bd c (k + 1) - bd c k)) (nI (hcN (sg u) (nu u) (bd c k) q)) (nI q) μ = kc (nI t) (nI i) (nI u) (nI w) (nI c) (nI (a + ubk w (hcN (sg u) (nu u) (bd c k) (bd c (k + 1))) (seg (cn f c) (bd c k) (bd c (k + 1))) (gr c k) (bd c (k + 1) - bd c k))) (nI (k + 1)) μ := by
    intro m
    induction m with
    | zero => intro q _ _ h; omega
    | succ m ih =>
      intro q h1 h2 h3
      rcases Nat.lt_or_ge q (bd c (k + 1)) with hq | hq
      · have e : hcN (sg u) (nu u) (bd c k) (q + 1) = hcN (sg u) (nu u) (bd c k) q + if uh (sg u) (nu u) q = true then 1 else 0 := by
          unfold hcN
          rw [show q + 1 - bd c k = (q - bd c k) + 1 by omega, fb_sm_succ, show bd c k + (q - bd c k) = q by omega]
        have hh := uhM hW hi hw hu (w := q) (by omega)
        rw [ix_n (by omega)] at hh
        rw [L_X11_unitBy_87, bd_eq (col_of1 hM ht hc hK hk), if_neg (nI_nlt (by omega) (by omega)), bd_eq hh]
        unfold F_X11_unitBy_120
        simp only [lb_e, nI_1]
        have nx2 := ih (q + 1) (by omega) (by omega) (by omega)
        rw [e] at nx2
        cases hb : uh (sg u) (nu u) q with
        | false =>
          rw [hb, if_neg (by decide)] at nx2
          rw [if_pos bI_f, i0, nI_add]
          exact nx2
        | true =>
          rw [hb, if_pos rfl] at nx2
          rw [if_neg (show ¬ bI true = 0 by decide)]
          exact nx2
      · have e : q = bd c (k + 1) := by omega
        subst e
        rw [L_X11_unitBy_87, bd_eq (col_of1 hM ht hc hK hk), if_pos (nI_lt (by omega) (by omega)), bd_eq (col_of2 hM ht hc hK hk), bd_eq (col_of3 hM ht hc hK hk)]
        unfold F_X11_unitBy_185 F_X11_unitBy_227 F_X11_unitBy_230
        simp only [lb_e, nI_1]
        generalize hh : hcN (sg u) (nu u) (bd c k) (bd c (k + 1)) = h at hle ⊢
        generalize hT : seg (cn f c) (bd c k) (bd c (k + 1)) = tot at b3 ⊢
        generalize hG : gr c k = g at b4 ⊢
        generalize hWd : bd c (k + 1) - bd c k = W at hle ⊢
        by_cases q : h = 0
        · rw [if_pos (show nI h ≤ 0 by rw [q]; decide), show ubk w h tot g W = 0 from if_pos q]
          rfl
        · have m1 : g * (W - h) ≤ 999 * 16 := Nat.mul_le_mul b4 (by omega)
          have m2 : g * h ≤ 999 * 16 := Nat.mul_le_mul b4 (by omega)
          have m3 : tot * h ≤ 999 * 16 := Nat.mul_le_mul b3 (by omega)
          have v1 : ubk 1 h tot g W = tot - g * (W - h) := (if_neg q).trans (if_pos rfl)
          have v2 : ubk 2 h tot g W = min tot (g * h) := (if_neg q).trans ((if_neg (by omega)).trans (if_pos rfl))
          have v3 : ubk 3 h tot g W = tot * h / W := (if_neg q).trans ((if_neg (by omega)).trans (if_neg (by omega)))
          rw [if_neg (nI_nle (by omega) (by omega)), pk_sub (by omega), pk_mul, pk_mul, pk_mul, zI_sub, (zI_max (by omega) (by omega)).2, show ((tot : Int) - ((g * (W - h) : Nat) : Int)).toNat = tot - g * (W - h) by omega, imin_nI (by omega) (by omega), gq_nI (by omega) (by omega), pk_div (by omega) (by omega) (by omega), nI_add, nI_add, nI_add, nI_add]
          rcases (show w = 1 ∨ w = 2 ∨ w = 3 by omega) with rfl | rfl | rfl
          · rw [if_pos (show nI 1 = (1 : Int32) from rfl), if_pos (show nI 1 = (1 : Int32) from rfl), v1]
            by_cases q2 : h = W
            · rw [if_pos (by rw [q2]), q2, Nat.sub_self, Nat.mul_zero, Nat.sub_zero]
            · rw [if_neg (fun e => q2 (nI_inj (by omega) (by omega) e))]
          · rw [if_neg (show ¬ nI 2 = (1 : Int32) by decide), if_neg (show ¬ nI 2 = (1 : Int32) by decide), if_pos (show nI 2 = (2 : Int32) from rfl), v2]
            exact ite_self _
          · rw [if_neg (show ¬ nI 3 = (1 : Int32) by decide), if_neg (show ¬ nI 3 = (1 : Int32) by decide), if_neg (show ¬ nI 3 = (2 : Int32) by decide), v3]
            exact ite_self _
  have r := run 100000 (bd c k) (Nat.le_refl _) (by omega) (by omega)
  rw [show hcN (sg u) (nu u) (bd c k) (bd c k) = 0 by unfold hcN; rw [Nat.sub_self]; rfl] at r
  exact r
def fuM (sg cl : Nat → Nat) (nu : Nat → Int32) (f : Nat → Nat → Nat) (bd gr : Nat → Nat → Nat) (K w u : Nat) : Nat := uB w (sg u) (nu u) (cn f (cl u)) (bd (cl u)) (gr (cl u)) K
theorem unitBy_ok (hM : MT K f bd gr dr (fun k => rI μ 116 (357 * t + k))) (ht : t < 3) (hW : MW z tm cl sg nu i μ) (hi : i < 5) (hw : WH z tm cl sg) (hv : v ≤ 16) (hK : K ≤ 8) (hl : ∀ c, c < 2 → LW v K D (cn f c) (bd c) (gr c) (dr c)) (hs : rws f ≤ 999) {u w : Nat} (hu : u < z) (hw1 : 1 ≤ w) (hw3 : w ≤ 3) : G_X11_unitBy (nI t) (nI i) (nI u) (nI w) μ = some (nI (fuM sg cl nu f bd gr K w u), μ) := by
  have hz := hw.2.1
  obtain ⟨x1, x2, x3, x4⟩ := hW.2 u hu
  obtain ⟨c2, s4⟩ := hw.2.2.2.2 u hu
  have hl' := hl _ c2
  unfold G_X11_unitBy fuM uB
  rw [show G_X11_unitAt (nI i) (nI u) 1 μ = some (nI (cl u), μ) from by rw [show (1 : Int32) = nI 1 from rfl, unitAt_eq hi (by omega) (by omega), x2], bd_s, show G_X11_unitAt (nI i) (nI u) 2 μ = some (nI (sg u), μ) from by rw [show (2 : Int32) = nI 2 from rfl, unitAt_eq hi (by omega) (by omega), x3], bd_s]
  by_cases q : sg u = 3
  · have e := countAtX (f := f) (t := t) (μ := μ) hM.1 ht c2 (a := 16) (by omega)
    rw [if_pos (r_eq (m := 3) q), if_pos q, show (-1 : Int32) = ix 16 from rfl, bd_eq e]
  · rw [if_neg (r_ne (m := 3) q (by omega) (by omega)), if_neg q]
    have key := loop_up (fun n k (s : Int32) => L_X11_unitBy_35 n (nI t) (nI i) (nI u) (nI w) (nI (cl u)) s k μ) K (fun k => nI (uBs w (sg u) (nu u) (cn f (cl u)) (bd (cl u)) (gr (cl u)) k)) (res := some (nI (uBs w (sg u) (nu u) (cn f (cl u)) (bd (cl u)) (gr (cl u)) K), μ)) (fun n k hk => by
      show L_X11_unitBy_35 (n + 1) _ _ _ _ _ _ _ _ = _
      obtain ⟨b1, b2, b3, b4⟩ := hl'.fc (Nat.le_trans (cn_sm f c2 (by omega)) hs) hv hk
      rw [L_X11_unitBy_35, bd_eq (col_many hM ht c2), if_neg (nI_ge hk (by omega)), bd_eq (col_of1 hM ht c2 hK hk), bd_eq (col_of0 hM ht c2 hK hk), pk_sub (by omega), nI_1, show bd (cl u) (k + 1) - 1 - bd (cl u) k + 1 = bd (cl u) (k + 1) - bd (cl u) k by omega, lb_e, bd_eq (col_of0 hM ht c2 hK hk), ub_in hM ht hW hi hw hv hK c2 hl' hs hu hk hw1 hw3]
      rfl) (fun n => by
      show L_X11_unitBy_35 (n + 1) _ _ _ _ _ _ _ _ = _
      rw [L_X11_unitBy_35, bd_eq (col_many hM ht c2), if_pos (nI_le (Nat.le_refl _) (by omega))])
    exact key 100000 0 (by omega) (by omega)
theorem tm_hit (hw : WH z tm cl sg) : ∀ {b t}, b < z → t ≤ tm b → ∃ j, j ≤ b ∧ tm j = t := by
  intro b
  induction b with
  | zero => intro t _ h; exact ⟨0, Nat.le_refl _, by have := hw.2.2.1; omega⟩
  | succ b ih =>
    intro t hb h
    by_cases q : t = tm (b + 1)
    · exact ⟨b + 1, Nat.le_refl _, q.symm⟩
    · have s := hw.2.2.2.1 b hb
      obtain ⟨j, h1, h2⟩ := ih (t := t) (by omega) (by omega)
      exact ⟨j, by omega, h2⟩
theorem nT_pos {t : Nat} : ∀ {i}, (∃ j, j < i ∧ tm j = t) → 1 ≤ nT tm t i := by
  intro i
  induction i with
  | zero => rintro ⟨j, h, _⟩; omega
  | succ i ih =>
    rintro ⟨j, h1, h2⟩
    have e : nT tm t (i + 1) = nT tm t i + if tm i = t then 1 else 0 := rfl
    by_cases q : tm i = t
    · rw [if_pos q] at e; omega
    · rw [if_neg q] at e
      have := ih ⟨j, by have : j ≠ i := fun e => q (e ▸ h2); omega, h2⟩
      omega
def trB (tm f : Nat → Nat) (R w z t : Nat) : Nat := if w = 1 then tLo tm f R t z else fT tm f t z - 1
theorem termBy_ok (hM : MT K f bd gr dr (fun k => rI μ 116 (357 * t + k))) (ht : t < 3) (hW : MW z tm cl sg nu i μ) (hi : i < 5) (hw : WH z tm cl sg) (hv : v ≤ 16) (hK : K ≤ 8) (hl : ∀ c, c < 2 → LW v K D (cn f c) (bd c) (gr c) (dr c)) (hs : rws f ≤ 999) {s w : Nat} (hst : s ≤ tm (z - 1)) (hw1 : 1 ≤ w) (hw3 : w ≤ 3) : G_X11_termBy (nI t) (nI i) (nI s) (nI w) μ = some (nI (trB tm (fuM sg cl nu f bd gr K w) (rws f) w z s), μ) := by
  have hz := hw.2.1
  have hz1 := hw.1
  have fl : ∀ j, j < z → fuM sg cl nu f bd gr K w j ≤ 7992 := fun j hj => by
    have hc := (hw.2.2.2.2 j hj).1
    exact uB_le (hl _ hc) (Nat.le_trans (cn_sm f hc (by omega)) hs) hv hK (Nat.le_trans (cn_le f hc (by omega)) hs)
  have tl : ∀ j, j < z → tm j ≤ 5 := fun j hj => by have := tm_le hw hj; omega
  have t5 := tl (z - 1) (by omega)
  have ub := fun u (hu : u < z) => unitBy_ok hM ht hW hi hw hv hK hl hs hu hw1 hw3
  generalize hF : fuM sg cl nu f bd gr K w = F at fl ub ⊢
  have np : 1 ≤ nT tm s z := by
    obtain ⟨j, h1, h2⟩ := tm_hit hw (b := z - 1) (t := s) (by omega) hst
    exact nT_pos ⟨j, by omega, h2⟩
  have fp : 0 < fT tm F s z := by
    obtain ⟨j, h1, h2⟩ := tm_hit hw (b := z - 1) (t := s) (by omega) hst
    exact fT_pos ⟨j, by omega, h2⟩
  have nl := nT_le tm s z
  have sl := sT_le (tm := tm) (f := F) (t := s) (i := z) fl
  have sl6 : z * 7992 ≤ 6 * 7992 := Nat.mul_le_mul_right _ hz
  have fl9 := fT_le (tm := tm) (f := F) (t := s) (i := z) fl
  have nr : (nT tm s z - 1) * rws f ≤ 5 * 999 := Nat.mul_le_mul (by omega) hs
  unfold G_X11_termBy
  have key := loop_up (fun n k (st : Int32 × Int32 × Int32) => L_X11_termBy_12 n (nI t) (nI i) (nI s) (nI w) st.1 st.2.1 st.2.2 k μ) z (fun k => (nI (nT tm s k), nI (sT tm F s k), xq (fT tm F s k))) (res := some (nI (trB tm F (rws f) w z s), μ)) (fun n k hk => by
    show L_X11_termBy_12 (n + 1) (nI t) (nI i) (nI s) (nI w) (nI (nT tm s k)) (nI (sT tm F s k)) (xq (fT tm F s k)) (nI k) μ = L_X11_termBy_12 n (nI t) (nI i) (nI s) (nI w) (nI (nT tm s (k + 1))) (nI (sT tm F s (k + 1))) (xq (fT tm F s (k + 1))) (nI (k + 1)) μ
    have e1 : nT tm s (k + 1) = nT tm s k + if tm k = s then 1 else 0 := rfl
    have e2 : sT tm F s (k + 1) = sT tm F s k + if tm k = s then F k else 0 := rfl
    have e3 : fT tm F s (k + 1) = if tm k = s then (if fT tm F s k = 0 then F k + 1 else min (fT tm F s k) (F k + 1)) else fT tm F s k := rfl
    have lk := fT_le (tm := tm) (f := F) (t := s) (i := k) (fun j hj => fl j (by omega))
    have tk := tl k hk
    have fk := fl k hk
    rw [L_X11_termBy_12, gq_in hi (by omega), nx_nI (by omega), hW.1, if_neg (nI_ge hk (by omega)), show G_X11_unitAt (nI i) (nI k) 0 μ = some (nI (tm k), μ) from by rw [show (0 : Int32) = nI 0 from rfl, unitAt_eq hi (by omega) (by omega), Nat.add_zero, (hW.2 k hk).1], bd_s]
    unfold F_X11_termBy_75 F_X11_termBy_77
    simp only [lb_e, nI_1]
    by_cases q : tm k = s
    · rw [if_pos q] at e1 e2 e3
      rw [if_pos (by rw [q]), bd_eq (ub k hk), nI_add, e1, e2, e3]
      by_cases q0 : fT tm F s k = 0
      · rw [if_pos q0, if_pos (by rw [q0]; rfl)]
        rfl
      · have ex : xq (fT tm F s k) = nI (fT tm F s k - 1) := if_neg q0
        rw [if_neg q0, if_neg (by rw [ex]; exact nI_m1 (by omega)), ex, imin_nI (by omega) (by omega), show xq (min (fT tm F s k) (F k + 1)) = nI (min (fT tm F s k) (F k + 1) - 1) from if_neg (by omega), show min (fT tm F s k) (F k + 1) - 1 = min (fT tm F s k - 1) (F k) by omega]
    · rw [if_neg q] at e1 e2 e3
      rw [if_neg (fun e => q (nI_inj (by omega) (by omega) e)), e1, e2, e3]
      rfl) (fun n => by
    show L_X11_termBy_12 (n + 1) (nI t) (nI i) (nI s) (nI w) (nI (nT tm s z)) (nI (sT tm F s z)) (xq (fT tm F s z)) (nI z) μ = _
    rw [L_X11_termBy_12, gq_in hi (by omega), nx_nI (by omega), hW.1, if_pos (nI_le (Nat.le_refl _) (by omega)), bd_eq (rowsOfC hM.1 ht), nI_sub1 np, pk_mul, zI_sub, (zI_max (by omega) (by omega)).2]
    unfold trB tLo
    by_cases q : w = 1
    · rw [if_pos (by rw [q]; rfl), if_pos q]
      congr 3
      omega
    · rw [if_neg (r_ne (m := 1) q (by omega) (by omega)), if_neg q]
      rw [show xq (fT tm F s z) = nI (fT tm F s z - 1) from if_neg (by omega)])
  exact key 100000 0 (by omega) (by omega)
def whB (tm f : Nat → Nat) (R w z : Nat) : Nat := if w = 1 then wLo tm f R z (tm (z - 1) + 1) else min (wUp tm f z (tm (z - 1) + 1)) R
theorem whereBy_ok (hM : MT K f bd gr dr (fun k => rI μ 116 (357 * t + k))) (ht : t < 3) (hW : MW z tm cl sg nu i μ) (hi : i < 5) (hw : WH z tm cl sg) (hv : v ≤ 16) (hK : K ≤ 8) (hl : ∀ c, c < 2 → LW v K D (cn f c) (bd c) (gr c) (dr c)) (hs : rws f ≤ 999) {w : Nat} (hw1 : 1 ≤ w) (hw3 : w ≤ 3) : G_X11_whereBy (nI t) (nI i) (nI w) μ = some (nI (whB tm (fuM sg cl nu f bd gr K w) (rws f) w z), μ) := by
  have hz := hw.2.1
  have hz1 := hw.1
  have fl : ∀ j, j < z → fuM sg cl nu f bd gr K w j ≤ 7992 := fun j hj => by
    have hc := (hw.2.2.2.2 j hj).1
    exact uB_le (hl _ hc) (Nat.le_trans (cn_sm f hc (by omega)) hs) hv hK (Nat.le_trans (cn_le f hc (by omega)) hs)
  have tl := tm_le hw (b := z - 1) (by omega)
  have tb := fun s (h : s ≤ tm (z - 1)) => termBy_ok hM ht hW hi hw hv hK hl hs h hw1 hw3
  generalize hF : fuM sg cl nu f bd gr K w = F at fl tb ⊢
  have ter : G_X11_terms (nI i) μ = some (nI (tm (z - 1) + 1), μ) := by
    unfold G_X11_terms
    rw [gq_in hi (by omega), nx_nI (by omega), hW.1, nI_sub1 hz1, show G_X11_unitAt (nI i) (nI (z - 1)) 0 μ = some (nI (tm (z - 1)), μ) from by rw [show (0 : Int32) = nI 0 from rfl, unitAt_eq hi (by omega) (by omega), Nat.add_zero, (hW.2 (z - 1) (by omega)).1], bd_s, nI_1]
  have sl6 : z * 7992 ≤ 6 * 7992 := Nat.mul_le_mul_right _ hz
  have rl : ∀ s, trB tm F (rws f) w z s ≤ 47952 := fun s => by
    have h1 := sT_le (tm := tm) (f := F) (t := s) (i := z) fl
    have h2 := fT_le (tm := tm) (f := F) (t := s) (i := z) fl
    unfold trB tLo
    split <;> omega
  generalize hR : (fun s => trB tm F (rws f) w z s) = r
  have ra : ∀ s, trB tm F (rws f) w z s = r s := fun s => by rw [← hR]
  have rl' : ∀ s, r s ≤ 47952 := fun s => by rw [← ra]; exact rl s
  have sb : ∀ k, k ≤ 6 → fb_sm r k ≤ 287712 := fun k hk => by
    have := fb_sm_bound (f := r) (c := 47952) (n := k) (fun j _ => rl' j)
    have e : k * 47952 ≤ 6 * 47952 := Nat.mul_le_mul_right _ hk
    omega
  have mb : ∀ k, mf r k ≤ 47952 := fun k => mf_bd fun t _ => rl' t
  unfold G_X11_whereBy
  have key := loop_up (fun n k (st : Int32 × Int32) => L_X11_whereBy_9 n (nI t) (nI i) (nI w) st.1 st.2 k μ) (tm (z - 1) + 1) (fun k => (nI (fb_sm r k), nI (mf r k))) (res := some (nI (whB tm F (rws f) w z), μ)) (fun n k hk => by
    show L_X11_whereBy_9 (n + 1) (nI t) (nI i) (nI w) (nI (fb_sm r k)) (nI (mf r k)) (nI k) μ = L_X11_whereBy_9 n (nI t) (nI i) (nI w) (nI (fb_sm r k + r k)) (nI (max (mf r k) (r k))) (nI (k + 1)) μ
    have m1 := mb k
    have m2 := rl' k
    rw [L_X11_whereBy_9, bd_eq ter, if_neg (nI_ge hk (by omega)), bd_eq (tb k (by omega)), ra, lb_e, lb_e, lb_e, nI_add, nI_1, imax_nI (by omega) (by omega)]) (fun n => by
    show L_X11_whereBy_9 (n + 1) (nI t) (nI i) (nI w) (nI (fb_sm r (tm (z - 1) + 1))) (nI (mf r (tm (z - 1) + 1))) (nI (tm (z - 1) + 1)) μ = _
    have s1 := sb (tm (z - 1) + 1) (by omega)
    rw [L_X11_whereBy_9, bd_eq ter, if_pos (nI_le (Nat.le_refl _) (by omega)), bd_eq (rowsOfC hM.1 ht), imin_nI (by omega) (by omega)]
    unfold whB wLo wUp
    by_cases q : w = 1
    · rw [if_pos (by rw [q]; rfl), if_pos q, ← hR]
      unfold trB
      simp only [if_pos q]
    · rw [if_neg (r_ne (m := 1) q (by omega) (by omega)), if_neg q, ← hR]
      unfold trB
      simp only [if_neg q])
  exact key 100000 0 (by omega) (by omega)
end WM
section WA
variable {c T : Nat} {V : Nat → Nat} {B D m : Nat} {S : Nat → St} {μ : Mem}
theorem RB.hl (hB : RB c T V B D m S μ) {t : Nat} (ht : t < T) : ∀ k, k < 2 → LW (V t) (min B (V t)) D (cn (sf (S 0) t) k) (sb (S 0) t k) (sg (S 0) t k) (sd (S 0) t k) := (hB.sw ht).2.2
/-- the class's three bounds -/
theorem find_rb {z i : Nat} {tm cl sg' : Nat → Nat} {nu : Nat → Int32} (hB : RB c T V B D m S μ) {t : Nat} (ht : t < T) (hi : i < 4) (hw : WH z tm cl sg') (hX : XW z tm cl sg' nu (39 + 5 * i) μ) : ∃ μ', G_X2_find (39 + 5 * i) (9 + 9 * t) (9 + 9 * t + 3) (9 + 9 * t + 6) μ = some ((), μ') ∧ Fr (fun q _ => q = 103) μ μ' ∧ ∀ w, w < 3 → rI μ' 103 w = nI (whB tm (fuM sg' cl nu (sf (S 0) t) (sb (S 0) t) (sg (S 0) t) (min B (V t)) (w + 1)) (rws (sf (S 0) t)) (w + 1) z) := by
  have hT := hB.T3
  have hV := hB.V2 ht
  have hK := hB.K8 ht
  obtain ⟨μ', e, f, r0, r1, r2⟩ := find_ok (G := cn (sf (S 0) t)) (BD := sb (S 0) t) (GR := sg (S 0) t) (DR := sd (S 0) t) (PP := fun k => 9 + 9 * t + 3 + 3 * k) (ps := 9 + 9 * t) (R := rws (sf (S 0) t)) hX hw (fun k hk => (hB.sheet ht).2.2.2 k hk) (fun k hk => hB.hl ht k hk) (fun k hk => hB.le ht hk) (fun k hk => Nat.le_trans (cn_le _ hk (by omega)) (hB.sw ht).2.1) hV.2 hK.2.1 (fun k hk => by omega) (by omega) (by omega) (hB.sheet ht).2.1 (hB.sw ht).2.1
  refine ⟨μ', e, f, fun w hw => ?_⟩
  rcases (show w = 0 ∨ w = 1 ∨ w = 2 by omega) with rfl | rfl | rfl
  · exact r0
  · exact r1
  · exact r2
theorem out_if {ρ : Type} {w : Int32} {n : Nat} {a b : ρ} (hn : n + 1 < 2 ^ 31) (hw : w < 0 ∨ nI (n + 1) ≤ w) : (if w < 0 then a else if w ≤ nI n then b else a) = a := by
  by_cases q : w < 0
  · rw [if_pos q]
  · rw [if_neg q, if_neg (fun z => by
      have h2 := hw.resolve_left q
      rw [fa_le] at z h2
      rw [nI_toInt (by omega)] at z h2
      omega)]
theorem a_where (h : RR c μ) (x y w : Int32) : Ans c (G_X10_where x y w μ) (G_X11_where x y w) := by
  have h0 := h
  obtain ⟨-, -, ⟨W, hW4, y1, y2, hWs⟩, T, V, B, D, m, S, hB, hP, -⟩ := h0
  have hT := hB.T3
  have nox : (x < 0 ∨ nI T ≤ x) → Ans c (G_X10_where x y w μ) (G_X11_where x y w) := fun hx => by
    refine Ans.p (r := -1) h ?_ ?_
    · unfold G_X10_where; rw [bd_eq (xTab_no hB.xt hx), if_pos rfl]
    · unfold G_X11_where; rw [bd_eq (mTab_no hB.mt hT hx), if_pos rfl]
  rcases pk_ix x (n := T) (by omega) with hx | hx | ⟨t, ht, rfl⟩
  · exact nox (Or.inl hx)
  · exact nox (Or.inr hx)
  have noy : (y < 0 ∨ nI W ≤ y) → Ans c (G_X10_where (nI t) y w μ) (G_X11_where (nI t) y w) := fun hy => by
    refine Ans.p (r := -1) h ?_ ?_
    · unfold G_X10_where; rw [bd_eq (xTab_yes hB.xt hT ht), if_neg (by decide), bd_eq (xWh_no y1 hy), if_pos rfl]
    · unfold G_X11_where; rw [bd_eq (mTab_yes hB.mt hT ht), if_neg (by decide), bd_eq (mWh_no y2 hW4 hy), if_pos rfl]
  rcases pk_ix y (n := W) (by omega) with hy | hy | ⟨i, hi, rfl⟩
  · exact noy (Or.inl hy)
  · exact noy (Or.inr hy)
  obtain ⟨z, tm, cl, sg', nu, hwh, hX, hM⟩ := hWs i hi
  have hV := hB.V2 ht
  have hK := hB.K8 ht
  have hr := (hB.sw ht).2.1
  have now : (w < 0 ∨ nI 4 ≤ w) → Ans c (G_X10_where (nI t) (nI i) w μ) (G_X11_where (nI t) (nI i) w) := fun hw => by
    refine Ans.p (r := -1) h ?_ ?_
    · unfold G_X10_where
      rw [bd_eq (xTab_yes hB.xt hT ht), if_neg (by decide), bd_eq (xWh_yes y1 hW4 hi), if_neg (by decide)]
      exact out_if (n := 3) (by omega) hw
    · unfold G_X11_where
      rw [bd_eq (mTab_yes hB.mt hT ht), if_neg (by decide), bd_eq (mWh_yes y2 hW4 hi), if_neg (by decide), bd_eq (inL_no (m := 3) (by decide) (by omega) hw), if_pos rfl]
  rcases pk_ix w (n := 4) (by omega) with hw | hw | ⟨w, hw, rfl⟩
  · exact now (Or.inl hw)
  · exact now (Or.inr hw)
  by_cases w0 : w = 0
  · subst w0
    obtain ⟨u1, u2, u3⟩ := hB.u (by omega)
    obtain ⟨ts, hts⟩ : ∃ ts : Nat → Nat, ts = fun _ => t := ⟨_, rfl⟩
    have ts0 : ts 0 = t := by rw [hts]
    obtain ⟨μa, ea, fa, la⟩ := beginX (μ := μ) ts
    obtain ⟨μb, eb, fb, lb'⟩ := takeX la (by omega)
    rw [ts0] at eb
    have fx : Fr lxR μ μb := fa.tr fb
    have hBc : RB c T V B D m S μb := hB.ag (fun q j e => fx.i (by unfold lxR; omega))
    have hXc := hX.ag (μ' := μb) hwh.2.1 (fun q j q1 q2 => fx.i (by unfold lxR; omega))
    have hj := rhX (hBc.sheet ht) hXc hwh hV.2 (hB.sw ht).1 (fun a b ha hb => Nat.le_trans (cell_le _ ha hb) hr) u3
    have lx := Nat.le_trans (tS_le (sf (S 0) t) (hld z tm cl sg' nu)) hr
    generalize hR : (if tN (sf (S 0) t) ≤ su (S 0) then lN (tS (sf (S 0) t) (hld z tm cl sg' nu)) else -1) = r at hj
    obtain ⟨μd, ed, fd, dd⟩ := look_x fx lb' (by omega) r
    have hBd : RB c T V B D m S μd := hB.ag (fun q j e => fd.i (by unfold lxQ; omega))
    obtain ⟨μe, ee, fe, le, e27, e28⟩ := beginM (μ := μd) ts (hBd.u (by omega)).2.1
    obtain ⟨μf, ef, ff, lf⟩ := takeM (x := nI t) le (by omega) (by rw [ts0])
    have fm : Fr lmR μd μf := fe.tr (ff.mono (fun q j z => by unfold lmR; omega))
    have hBg : RB c T V B D m S μf := hBd.ag (fun q j e => fm.i (by unfold lmR; omega))
    have hMf : MW z tm cl sg' nu i μf := ⟨(fm.i (by unfold lmR; omega)).trans ((fd.i (by unfold lxQ; omega)).trans hM.1), fun u hu => by
      rw [fm.i (by unfold lmR; omega), fm.i (by unfold lmR; omega), fm.i (by unfold lmR; omega), fm.i (by unfold lmR; omega), fd.i (by unfold lxQ; omega), fd.i (by unfold lxQ; omega), fd.i (by unfold lxQ; omega), fd.i (by unfold lxQ; omega)]; exact hM.2 u hu⟩
    obtain ⟨μh, eh, fh, h28⟩ := trM1 hBg ht hMf (by omega) hwh u3 ((ff.i (by omega)).trans e27) ((ff.i (by omega)).trans e28)
    have lh : LKm 1 ts μh := ⟨(fh.i (by omega)).trans lf.1, fun i hi => (fh.i (by omega)).trans (lf.2 i hi)⟩
    have eL : (if tN (sf (S 0) t) ≤ su (S 0) then nI (tS (sf (S 0) t) (hld z tm cl sg' nu)) else -1).toInt64 = r := by
      rw [← hR]
      by_cases q : tN (sf (S 0) t) ≤ su (S 0)
      · rw [if_pos q, if_pos q, nI_l (by omega)]
      · rw [if_neg q, if_neg q]; rfl
    obtain ⟨μi, ei, fi, di⟩ := look_m (fm.tr (fh.mono (fun q j z => by unfold lmR; omega))) lh (by omega) (by omega) (st := if tN (sf (S 0) t) ≤ su (S 0) then 0 else 1) (by split <;> omega) h28 r
    have hst : r = -1 ↔ (if tN (sf (S 0) t) ≤ su (S 0) then 0 else 1) ≠ 0 := by
      rw [← hR]
      by_cases z : tN (sf (S 0) t) ≤ su (S 0)
      · rw [if_pos z, if_pos z]
        exact ⟨fun e => absurd e (lN_m1 (by omega)), fun e => absurd rfl e⟩
      · rw [if_neg z, if_neg z]
        exact ⟨fun _ => by omega, fun _ => rfl⟩
    have er : (if (if tN (sf (S 0) t) ≤ su (S 0) then 0 else 1) = 0 then r else -1) = r := by
      by_cases z : (if tN (sf (S 0) t) ≤ su (S 0) then 0 else 1) = 0
      · rw [if_pos z]
      · rw [if_neg z, hst.mpr z]
    rw [er] at ei
    refine ⟨r.toInt32, μd, μi, ?_, ?_, look_rr h (by omega) fd dd fi di hst⟩
    · unfold G_X10_where
      rw [bd_eq (xTab_yes hB.xt hT ht), if_neg (by decide), bd_eq (xWh_yes y1 hW4 hi), if_neg (by decide), if_neg (show ¬ nI 0 < 0 by decide), if_pos (show nI 0 ≤ 3 by decide), gq_in (by omega) (by omega), if_pos (show nI 0 = 0 from rfl), bd_eq ea, bd_eq eb, gq_in (by omega) (by omega), sp_eq (by omega), wp_eq (by omega), (hBc.u (by omega)).1, bd_eq hj, bd_eq ed]
    · unfold G_X11_where
      rw [bd_eq (mTab_yes hBd.mt hT ht), if_neg (by decide), bd_eq (mWh_yes (((fd.i (by unfold lxQ; omega))).trans y2) hW4 hi), if_neg (by decide), bd_eq (inL_yes (m := 3) (by decide) (by omega) (by omega)), if_neg (by decide), if_pos (show nI 0 ≤ 0 by decide), bd_eq ee, bd_eq ef, bd_eq eh, eL, bd_eq ei]
  · obtain ⟨μ1, e1, f1, r1⟩ := find_rb hB ht (by omega) hwh hX
    have fs : Fr SCR μ μ1 := f1.mono (fun q j e => by unfold SCR; omega)
    have hB1 := hB.scr fs
    have hM1 : MW z tm cl sg' nu i μ1 := ⟨(f1.i (by omega)).trans hM.1, fun u hu => by
      rw [f1.i (by omega), f1.i (by omega), f1.i (by omega), f1.i (by omega)]; exact hM.2 u hu⟩
    have em := whereBy_ok (w := w) (hB1.tab ht) (by omega) hM1 (by omega) hwh hV.2 hK.2.1 (hB1.hl ht) hr (by omega) (by omega)
    have rw' := r1 (w - 1) (by omega)
    rw [show w - 1 + 1 = w by omega] at rw'
    refine Ans.q h (r := nI (whB tm (fuM sg' cl nu (sf (S 0) t) (sb (S 0) t) (sg (S 0) t) (min B (V t)) w) (rws (sf (S 0) t)) w z)) (μ1 := μ1) (μ2 := μ1) ?_ fs ?_ Fr.rf
    · unfold G_X10_where
      rw [bd_eq (xTab_yes hB.xt hT ht), if_neg (by decide), bd_eq (xWh_yes y1 hW4 hi), if_neg (by decide), if_neg (r_nlt (m := 0) (Nat.zero_le _) (by omega)), if_pos (r_le (m := 3) (by omega) (by omega)), gq_in (by omega) (by omega), if_neg (nI_ne0 (by omega) (by omega)), gq_in (by omega) (by omega), sp_eq (by omega), wp_eq (by omega), bd_eq e1]
      rcases (show w = 1 ∨ w = 2 ∨ w = 3 by omega) with rfl | rfl | rfl
      · rw [if_pos (show nI 1 = 1 from rfl), rw']
      · rw [if_neg (show ¬ nI 2 = 1 by decide), if_pos (show nI 2 = 2 from rfl), rw']
      · rw [if_neg (show ¬ nI 3 = 1 by decide), if_neg (show ¬ nI 3 = 2 by decide), rw']
    · unfold G_X11_where
      rw [bd_eq (mTab_yes hB1.mt hT ht), if_neg (by decide), bd_eq (mWh_yes ((f1.i (by omega)).trans y2) hW4 hi), if_neg (by decide), bd_eq (inL_yes (m := 3) (by decide) (by omega) (by omega)), if_neg (by decide), if_neg (nI_nle (by omega) (by omega)), bd_eq em]
end WA
