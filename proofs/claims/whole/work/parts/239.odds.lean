/-! odds -/
theorem gcd_step {a b : Nat} : Nat.gcd a b = Nat.gcd b (a % b) := by rw [Nat.gcd_comm a b, Nat.gcd_rec b a, Nat.gcd_comm]
theorem mod_half {a b : Nat} (h : 0 < a % b) (hb : 0 < b) : 2 * (b % (a % b)) < b := by
  have r := Nat.mod_lt a hb
  generalize a % b = x at *
  have s := Nat.mod_lt b h
  by_cases q : 2 * x ≤ b
  · omega
  · have e : b % x = (b - x) % x := Nat.mod_eq_sub_mod (by omega)
    have e2 : (b - x) % x = b - x := Nat.mod_eq_of_lt (by omega)
    omega
section O
variable {μ : Mem}
theorem cdX : ∀ k a b turn fuel, a < 2 ^ 63 → b < 2 ^ k → b < 2 ^ 63 → turn + 2 * k ≤ 128 → 2 * k + 1 < fuel → L_X10_commonDivisor_9 fuel (lN a) (lN b) (nI turn) μ = F_X10_commonDivisor_45 (lN (Nat.gcd a b)) μ := by
  intro k
  induction k with
  | zero =>
    intro a b turn fuel ha hb hb2 ht hf
    obtain ⟨fu, rfl⟩ : ∃ fu, fuel = fu + 1 := ⟨fuel - 1, by omega⟩
    have b0 : b = 0 := by have : b < 1 := hb; omega
    rw [L_X10_commonDivisor_9, if_pos ((lN_pos hb2).mpr b0), ite_self, b0, Nat.gcd_zero_right]
  | succ k ih =>
    intro a b turn fuel ha hb hb2 ht hf
    obtain ⟨fu, rfl⟩ : ∃ fu, fuel = fu + 1 := ⟨fuel - 1, by omega⟩
    by_cases b0 : b = 0
    · rw [L_X10_commonDivisor_9, if_pos ((lN_pos hb2).mpr b0), ite_self, b0, Nat.gcd_zero_right]
    · have r := Nat.mod_lt a (show 0 < b by omega)
      rw [L_X10_commonDivisor_9, if_neg (l_nle (m := 128) (by omega) (by omega)), if_neg (fun z => b0 ((lN_pos hb2).mp z)), gq_lN (by omega) hb2, pk_lRem ha (by omega) hb2, lb_e, nI_1, lb_e, gcd_step]
      obtain ⟨fu2, rfl⟩ : ∃ fu2, fu = fu2 + 1 := ⟨fu - 1, by omega⟩
      by_cases r0 : a % b = 0
      · rw [L_X10_commonDivisor_9, if_pos ((lN_pos (by omega)).mpr r0), ite_self, r0, Nat.gcd_zero_right]
      · have mh := mod_half (a := a) (b := b) (by omega) (by omega)
        have pw : 2 ^ (k + 1) = 2 * 2 ^ k := by rw [Nat.pow_succ, Nat.mul_comm]
        rw [L_X10_commonDivisor_9, if_neg (l_nle (m := 128) (by omega) (by omega)), if_neg (fun z => r0 ((lN_pos (by omega)).mp z)), gq_lN (by omega) (by omega), pk_lRem hb2 (by omega) (by omega), lb_e, nI_1, lb_e, gcd_step (a := b), ih (a % b) (b % (a % b)) (turn + 1 + 1) fu2 (by omega) (by omega) (by omega) (by omega) (by omega)]
theorem cdM {x4 : Int32} {l5 l7 : Int64} : ∀ k a b fuel, a < 2 ^ 63 → b < 2 ^ k → b < 2 ^ 63 → 2 * k + 1 < fuel → L_X11_odds_115 fuel x4 l5 l7 (lN a) (lN b) μ = if x4 = 0 then gq (decide (¬ lN (Nat.gcd a b) = 0)) (some (l5 / lN (Nat.gcd a b), μ)) else gq (decide (¬ lN (Nat.gcd a b) = 0)) (some (l7 / lN (Nat.gcd a b), μ)) := by
  have z0 : ∀ {n : Nat}, n < 2 ^ 63 → (lg_cmp (lN n) 0 = 0 ↔ n = 0) := fun {n} h => by
    rw [cmp_eq, show (0 : Int64) = lN 0 from rfl, pk_lEQ h (by omega)]
  intro k
  induction k with
  | zero =>
    intro a b fuel ha hb hb2 hf
    obtain ⟨fu, rfl⟩ : ∃ fu, fuel = fu + 1 := ⟨fuel - 1, by omega⟩
    have b0 : b = 0 := by have : b < 1 := hb; omega
    rw [L_X11_odds_115, if_pos ((z0 hb2).mpr b0), b0, Nat.gcd_zero_right]
  | succ k ih =>
    intro a b fuel ha hb hb2 hf
    obtain ⟨fu, rfl⟩ : ∃ fu, fuel = fu + 1 := ⟨fuel - 1, by omega⟩
    by_cases b0 : b = 0
    · rw [L_X11_odds_115, if_pos ((z0 hb2).mpr b0), b0, Nat.gcd_zero_right]
    · have r := Nat.mod_lt a (show 0 < b by omega)
      rw [L_X11_odds_115, if_neg (fun z => b0 ((z0 hb2).mp z)), gq_lN (by omega) hb2, pk_lRem ha (by omega) hb2, lb_e, gcd_step]
      obtain ⟨fu2, rfl⟩ : ∃ fu2, fu = fu2 + 1 := ⟨fu - 1, by omega⟩
      by_cases r0 : a % b = 0
      · rw [L_X11_odds_115, if_pos ((z0 (by omega)).mpr r0), r0, Nat.gcd_zero_right]
      · have mh := mod_half (a := a) (b := b) (by omega) (by omega)
        have pw : 2 ^ (k + 1) = 2 * 2 ^ k := by rw [Nat.pow_succ, Nat.mul_comm]
        rw [L_X11_odds_115, if_neg (fun z => r0 ((z0 (by omega)).mp z)), gq_lN (by omega) (by omega), pk_lRem hb2 (by omega) (by omega), lb_e, gcd_step (a := b), ih (a % b) (b % (a % b)) fu2 (by omega) (by omega) (by omega) (by omega)]
def prd (H : Nat) : Nat → Nat
  | 0 => 1
  | k + 1 => prd H k * (H - k)
theorem prd_pos {H : Nat} : ∀ {k}, k ≤ H → 0 < prd H k := by
  intro k
  induction k with
  | zero => intro _; exact Nat.one_pos
  | succ k ih => intro h; exact Nat.mul_pos (ih (by omega)) (by omega)
theorem prd_zero {H : Nat} : ∀ {k}, H < k → prd H k = 0 := by
  intro k
  induction k with
  | zero => intro h; omega
  | succ k ih =>
    intro h
    show prd H k * (H - k) = 0
    by_cases q : H < k
    · rw [ih q, Nat.zero_mul]
    · rw [show H - k = 0 by omega, Nat.mul_zero]
theorem prd_le {H k : Nat} (h : H ≤ 999) (hk : k ≤ 4) : prd H k ≤ 996005996001 := by
  have a : ∀ k, k ≤ 4 → prd H k ≤ 999 ^ k := fun k => by
    induction k with
    | zero => intro _; exact Nat.le_refl _
    | succ k ih =>
      intro h4
      have := ih (by omega)
      show prd H k * (H - k) ≤ 999 ^ k * 999
      exact Nat.mul_le_mul this (by omega)
  have b := a k hk
  have c : 999 ^ k ≤ 999 ^ 4 := Nat.pow_le_pow_right (by omega) hk
  omega
theorem oddX {k w R H s : Nat} (hk : k ≤ 4) (hw : w < 2) (hR : rI μ s 3 = nI R) (hR1 : k ≤ R) (hR9 : R ≤ 999) (hH : k ≤ H) (hH9 : H ≤ 999) : L_X10_odds_109 100000 (nI k) (nI w) s (lN H) 1 1 0 μ = some (lN ((if w = 0 then prd H k else prd R k) / Nat.gcd (prd H k) (prd R k)), μ) := by
  have p1 := prd_pos hH
  have p2 := prd_pos hR1
  have l1 := prd_le hH9 hk
  have l2 := prd_le hR9 hk
  have g1 : 0 < Nat.gcd (prd H k) (prd R k) := Nat.gcd_pos_of_pos_left _ p1
  have g2 : Nat.gcd (prd H k) (prd R k) ≤ prd H k := Nat.le_of_dvd p1 (Nat.gcd_dvd_left _ _)
  have key := loop_up (fun n i (st : Int64 × Int64) => L_X10_odds_109 n (nI k) (nI w) s (lN H) st.1 st.2 i μ) k (fun i => (lN (prd H i), lN (prd R i))) (res := some (lN ((if w = 0 then prd H k else prd R k) / Nat.gcd (prd H k) (prd R k)), μ)) (fun n i hi => by
    show L_X10_odds_109 (n + 1) _ _ _ _ _ _ _ _ = _
    rw [L_X10_odds_109, if_neg (nI_ge hi (by omega)), nI_l (by omega), lN_sub (by omega), lN_mul, lb_e, hR, pk_sub (by omega), nI_l (by omega), lN_mul, lb_e, lb_e, nI_1]
    rfl) (fun n => by
    show L_X10_odds_109 (n + 1) _ _ _ _ _ _ _ _ = _
    have cd : G_X10_commonDivisor (lN (prd H k)) (lN (prd R k)) μ = some (lN (Nat.gcd (prd H k) (prd R k)), μ) := by
      unfold G_X10_commonDivisor
      have := cdX (μ := μ) 40 (prd H k) (prd R k) 0 100000 (by omega) (by omega) (by omega) (by omega) (by omega)
      refine Eq.trans this ?_
      unfold F_X10_commonDivisor_45
      rw [if_neg (fun z => by have := (lN_pos (by omega)).mp z; omega)]
    rw [L_X10_odds_109, if_pos (nI_le (Nat.le_refl _) (by omega)), bd_eq cd]
    unfold F_X10_odds_167
    rw [gq_lN g1 (by omega), gq_lN g1 (by omega), pk_lDiv (by omega) g1 (by omega), pk_lDiv (by omega) g1 (by omega)]
    by_cases q : w = 0
    · rw [if_pos (show nI w = 0 by rw [q]; rfl), if_pos q]
    · rw [if_neg (nI_ne0 (by omega) (by omega)), if_neg q])
  exact key 100000 0 (by omega) (by omega)
theorem a_odds {c : Nat} (h : RR c μ) (x y k w : Int32) : Ans c (G_X10_odds x y k w μ) (G_X11_odds x y k w) := by
  have h0 := h
  obtain ⟨-, -, ⟨nw, hw4, w1, w2, w3⟩, T, V, B, D, m, S, hB, hP, -⟩ := h0
  have hT := hB.T3
  have nox : (x < 0 ∨ nI T ≤ x) → Ans c (G_X10_odds x y k w μ) (G_X11_odds x y k w) := fun hx => by
    refine Ans.p (r := -1) h ?_ ?_
    · unfold G_X10_odds; rw [bd_eq (xTab_no hB.xt hx), if_pos rfl]
    · unfold G_X11_odds; rw [bd_eq (mTab_no hB.mt hT hx), if_pos rfl]
  rcases pk_ix x (n := T) (by omega) with hx | hx | ⟨t, ht, rfl⟩
  · exact nox (Or.inl hx)
  · exact nox (Or.inr hx)
  · have noy : (y < 0 ∨ nI nw ≤ y) → Ans c (G_X10_odds (nI t) y k w μ) (G_X11_odds (nI t) y k w) := fun hy => by
      refine Ans.p (r := -1) h ?_ ?_
      · unfold G_X10_odds; rw [bd_eq (xTab_yes hB.xt hT ht), if_neg (by decide), bd_eq (xWh_no w1 hy), if_pos rfl]
      · unfold G_X11_odds; rw [bd_eq (mTab_yes hB.mt hT ht), if_neg (by decide), bd_eq (mWh_no w2 hw4 hy), if_pos rfl]
    rcases pk_ix y (n := nw) (by omega) with hy | hy | ⟨i, hi, rfl⟩
    · exact noy (Or.inl hy)
    · exact noy (Or.inr hy)
    · obtain ⟨z, tm, cl, sg, nu, hwh, hx, hm⟩ := w3 i hi
      have hV := hB.V2 ht
      have hr := (hB.sw ht).2.1
      rcases num_cases k (n := 4) (by omega) with hk | ⟨k, k1, k4, rfl⟩
      · refine Ans.p (r := -1) h ?_ ?_
        · unfold G_X10_odds
          rw [bd_eq (xTab_yes hB.xt hT ht), if_neg (by decide), bd_eq (xWh_yes w1 hw4 hi), if_neg (by decide)]
          rcases hk with hk | hk
          · rw [if_pos hk]
          · rw [if_pos (show (4 : Int32) < k from hk), ite_self]
        · unfold G_X11_odds
          rw [bd_eq (mTab_yes hB.mt hT ht), if_neg (by decide), bd_eq (mWh_yes w2 hw4 hi), if_neg (by decide), show (4 : Int64) = (nI 4).toInt64 from by decide, bd_eq (in1_no hk), if_pos rfl]
      · have now : (w < 0 ∨ nI 2 ≤ w) → Ans c (G_X10_odds (nI t) (nI i) (nI k) w μ) (G_X11_odds (nI t) (nI i) (nI k) w) := fun hw => by
          refine Ans.p (r := -1) h ?_ ?_
          · unfold G_X10_odds
            rw [bd_eq (xTab_yes hB.xt hT ht), if_neg (by decide), bd_eq (xWh_yes w1 hw4 hi), if_neg (by decide), if_neg (r_nlt (m := 1) k1 (by omega)), if_neg (l_nlt (m := 4) k4 (by omega))]
            by_cases q : w < 0
            · rw [if_pos q]
            · rw [if_neg q, if_neg (fun z : w ≤ 1 => by
                have h2 := hw.resolve_left q
                rw [fa_le] at z h2
                rw [nI_toInt (by omega)] at h2
                have : (1 : Int32).toInt = 1 := by decide
                omega)]
          · unfold G_X11_odds
            rw [bd_eq (mTab_yes hB.mt hT ht), if_neg (by decide), bd_eq (mWh_yes w2 hw4 hi), if_neg (by decide), show (4 : Int64) = (nI 4).toInt64 from by decide, bd_eq (in1_yes (by omega) k1 k4), if_neg (by decide), bd_eq (inL_no (m := 1) (by decide) (by omega) hw), if_pos rfl]
        rcases pk_ix w (n := 2) (by omega) with hw | hw | ⟨w, hw2, rfl⟩
        · exact now (Or.inl hw)
        · exact now (Or.inr hw)
        · have hS := hB.sheet ht
          have rh := rhX hS hx hwh hV.2 (hB.sw ht).1 (fun a b ha hb => Nat.le_trans (cell_le _ ha hb) hr) (u := 289) (by omega)
          rw [if_pos (tN_le _)] at rh
          have tr := trM0 hB ht hm (by omega) hwh
          have ts := tS_le (sf (S 0) t) (hld z tm cl sg nu)
          generalize hH : tS (sf (S 0) t) (hld z tm cl sg nu) = H at *
          generalize hR : rws (sf (S 0) t) = R at *
          have hR3 : rI μ (9 + 9 * t) 3 = nI R := by rw [← hR]; exact hS.2.1
          have ro : G_X11_rowsOf (nI t) μ = some (nI R, μ) := by rw [← hR]; exact rowsOf_eq (hB.tab ht) (by omega)
          by_cases q : k ≤ R
          · have p2 := prd_pos q
            have l1 := prd_le (H := H) (k := k) (by omega) k4
            have l2 := prd_le (H := R) (k := k) (by omega) k4
            have mm : G_X11_odds (nI t) (nI i) (nI k) (nI w) μ = some (lN ((if w = 0 then prd H k else prd R k) / Nat.gcd (prd R k) (prd H k)), μ) := by
              have g1 : 0 < Nat.gcd (prd R k) (prd H k) := Nat.gcd_pos_of_pos_left _ p2
              have g2 : Nat.gcd (prd R k) (prd H k) ≤ prd R k := Nat.le_of_dvd p2 (Nat.gcd_dvd_left _ _)
              unfold G_X11_odds
              rw [bd_eq (mTab_yes hB.mt hT ht), if_neg (by decide), bd_eq (mWh_yes w2 hw4 hi), if_neg (by decide), show (4 : Int64) = (nI 4).toInt64 from by decide, bd_eq (in1_yes (by omega) k1 k4), if_neg (by decide), bd_eq (inL_yes (m := 1) (by decide) (by omega) (by omega)), if_neg (by decide), bd_eq ro, if_pos (nI_le q (by omega))]
              have key := loop_up (fun n j (st : Int64 × Int64) => L_X11_odds_61 n (nI t) (nI i) (nI k) (nI w) st.1 st.2 j μ) k (fun j => (lN (prd H j), lN (prd R j))) (res := some (lN ((if w = 0 then prd H k else prd R k) / Nat.gcd (prd R k) (prd H k)), μ)) (fun n j hj => by
                show L_X11_odds_61 (n + 1) _ _ _ _ _ _ _ _ = _
                rw [L_X11_odds_61, if_neg (nI_ge hj (by omega)), bd_eq tr, zI_sub, (zI_max (by omega) (by omega)).2, show ((H : Int) - (j : Int)).toNat = H - j by omega, nI_l (by omega), lN_mul, lb_e, bd_eq ro, pk_sub (by omega), nI_l (by omega), lN_mul, lb_e, lb_e, nI_1]
                rfl) (fun n => by
                show L_X11_odds_61 (n + 1) _ _ _ _ _ _ _ _ = _
                rw [L_X11_odds_61, if_pos (nI_le (Nat.le_refl _) (by omega)), cdM 40 (prd R k) (prd H k) 100000 (by omega) (by omega) (by omega) (by omega), gq_lN g1 (by omega), gq_lN g1 (by omega), pk_lDiv (by omega) g1 (by omega), pk_lDiv (by omega) g1 (by omega)]
                by_cases q : w = 0
                · rw [if_pos (show nI w = 0 by rw [q]; rfl), if_pos q]
                · rw [if_neg (nI_ne0 (by omega) (by omega)), if_neg q])
              exact key 100000 0 (by omega) (by omega)
            refine Ans.p h ?_ mm
            unfold G_X10_odds
            have rh : G_X7_rowsHeldBy (9 + 9 * t) (39 + 5 * i) 289 μ = some (lN H, μ) := rh
            rw [bd_eq (xTab_yes hB.xt hT ht), if_neg (by decide), bd_eq (xWh_yes w1 hw4 hi), if_neg (by decide), if_neg (r_nlt (m := 1) k1 (by omega)), if_neg (l_nlt (m := 4) k4 (by omega)), if_neg (nI_pos (by omega)), if_pos (r_le (m := 1) (by omega) (by omega)), gq_in (by omega) (by omega), sp_eq (by omega), hR3, if_pos (nI_le q (by omega)), gq_in (by omega) (by omega), wp_eq (by omega), bd_eq rh, nI_l (by omega)]
            by_cases q2 : k ≤ H
            · rw [if_pos ((cmp_ge _ _).mpr ((pk_lLE (by omega) (by omega)).mpr q2)), oddX k4 hw2 hR3 q (by omega) q2 (by omega), Nat.gcd_comm]
            · rw [if_neg (fun z => q2 ((pk_lLE (by omega) (by omega)).mp ((cmp_ge _ _).mp z))), prd_zero (by omega), Nat.gcd_zero_right]
              by_cases q3 : w = 0
              · rw [if_pos (show nI w = 0 by rw [q3]; rfl), if_pos q3, Nat.zero_div]; rfl
              · rw [if_neg (nI_ne0 (by omega) (by omega)), if_neg q3, Nat.div_self p2]; rfl
          · refine Ans.p (r := -1) h ?_ ?_
            · unfold G_X10_odds
              rw [bd_eq (xTab_yes hB.xt hT ht), if_neg (by decide), bd_eq (xWh_yes w1 hw4 hi), if_neg (by decide), if_neg (r_nlt (m := 1) k1 (by omega)), if_neg (l_nlt (m := 4) k4 (by omega)), if_neg (nI_pos (by omega)), if_pos (r_le (m := 1) (by omega) (by omega)), gq_in (by omega) (by omega), sp_eq (by omega), hR3, if_neg (nI_ge (by omega) (by omega))]
            · unfold G_X11_odds
              rw [bd_eq (mTab_yes hB.mt hT ht), if_neg (by decide), bd_eq (mWh_yes w2 hw4 hi), if_neg (by decide), show (4 : Int64) = (nI 4).toInt64 from by decide, bd_eq (in1_yes (by omega) k1 k4), if_neg (by decide), bd_eq (inL_yes (m := 1) (by decide) (by omega) (by omega)), if_neg (by decide), bd_eq ro, if_neg (nI_ge (by omega) (by omega))]
end O
