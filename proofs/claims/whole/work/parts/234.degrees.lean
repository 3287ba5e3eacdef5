/-! joins by degrees -/
def ctGE (h : Nat → Nat) (n x : Nat) : Nat := fb_ct (fun u => decide (x ≤ h u)) n
theorem ctGE_anti (h : Nat → Nat) (n : Nat) {x y : Nat} (hxy : x ≤ y) : ctGE h n y ≤ ctGE h n x := fb_ct_sub fun k _ hk => decide_eq_true (Nat.le_trans hxy (of_decide_eq_true hk))
theorem mf_at (F : Nat → Nat) : ∀ n, mf F n = 0 ∨ ∃ k, k < n ∧ F k = mf F n := by
  intro n
  induction n with
  | zero => exact Or.inl rfl
  | succ n ih =>
    have e : mf F (n + 1) = max (mf F n) (F n) := rfl
    by_cases q : mf F n ≤ F n
    · exact Or.inr ⟨n, by omega, by omega⟩
    · rcases ih with h | ⟨k, h1, h2⟩
      · omega
      · exact Or.inr ⟨k, by omega, by omega⟩
def dgr (g : Nat → Nat) (n k : Nat) : Nat := mf (fun x => if k < ctGE g n x then x else 0) 1000
theorem dgr_lt (g : Nat → Nat) (n k : Nat) : dgr g n k < 1000 := by
  have : dgr g n k ≤ 999 := mf_bd fun x hx => by
    show (if k < ctGE g n x then x else 0) ≤ 999
    split <;> omega
  omega
theorem dgr_iff {g : Nat → Nat} {n k x : Nat} (h1 : 1 ≤ x) (h2 : x < 1000) : x ≤ dgr g n k ↔ k < ctGE g n x := by
  constructor
  · intro h
    rcases mf_at (fun x => if k < ctGE g n x then x else 0) 1000 with e | ⟨y, hy, e⟩
    · have : dgr g n k = 0 := e
      omega
    · have e : (if k < ctGE g n y then y else 0) = dgr g n k := e
      by_cases q : k < ctGE g n y
      · rw [if_pos q] at e
        have := ctGE_anti g n (show x ≤ y by omega)
        omega
      · rw [if_neg q] at e; omega
  · intro h
    have := mf_le (fun x => if k < ctGE g n x then x else 0) (n := 1000) (k := x) h2
    have : (if k < ctGE g n x then x else 0) ≤ dgr g n k := this
    rw [if_pos h] at this
    exact this
theorem dgr_eq {g : Nat → Nat} {n k a : Nat} (ha : a < 1000) (h : ∀ x, 1 ≤ x → x < 1000 → (x ≤ a ↔ k < ctGE g n x)) : dgr g n k = a := by
  have l := dgr_lt g n k
  apply Nat.le_antisymm
  · by_cases q : dgr g n k ≤ a
    · exact q
    · exact (h _ (by omega) l).mpr ((dgr_iff (by omega) l).mp (Nat.le_refl _))
  · by_cases q : a ≤ dgr g n k
    · exact q
    · exact (dgr_iff (by omega) ha).mpr ((h a (by omega) ha).mp (Nat.le_refl _))
theorem dgr_out {g : Nat → Nat} {n k : Nat} (h : n ≤ k) : dgr g n k = 0 := dgr_eq (by omega) fun x h1 h2 => by
  have := fb_ct_le (fun u => decide (x ≤ g u)) n
  have : ctGE g n x ≤ n := this
  omega
theorem dgr_pad {g : Nat → Nat} {n : Nat} (hn : n ≤ 16) (k : Nat) : dgr (fun v => if v < n then g v else 0) 16 k = dgr g n k := by
  refine dgr_eq (dgr_lt _ _ _) fun x h1 h2 => ?_
  rw [dgr_iff h1 h2]
  have e : ctGE (fun v => if v < n then g v else 0) 16 x = ctGE g n x := by
    unfold ctGE
    rw [show (16 : Nat) = n + (16 - n) by omega, fb_ct_split]
    have a : fb_ct (fun k => decide (x ≤ if n + k < n then g (n + k) else 0)) (16 - n) = 0 := fb_ct_zero.mpr fun k _ => by
      rw [if_neg (by omega)]
      exact decide_eq_false (by omega)
    have b : fb_ct (fun u => decide (x ≤ if u < n then g u else 0)) n = fb_ct (fun u => decide (x ≤ g u)) n := fb_ct_cong fun k hk => by rw [if_pos hk]
    rw [a, b, Nat.add_zero]
  rw [e]
/-- the richest outside of a mask: none, or its number and one -/
def roS (g : Nat → Nat) (M : Nat) : Nat → Nat
  | 0 => 0
  | v + 1 => if M.testBit v = true then roS g M v else if roS g M v = 0 then v + 1 else if g (roS g M v - 1) < g v then v + 1 else roS g M v
theorem roS_le (g : Nat → Nat) (M : Nat) : ∀ v, roS g M v ≤ v := by
  intro v
  induction v with
  | zero => exact Nat.le_refl _
  | succ v ih =>
    show (if M.testBit v = true then roS g M v else if roS g M v = 0 then v + 1 else if g (roS g M v - 1) < g v then v + 1 else roS g M v) ≤ v + 1
    split
    · omega
    · split
      · omega
      · split <;> omega
theorem roS_ok (g : Nat → Nat) (M : Nat) : ∀ v, (roS g M v = 0 → ∀ w, w < v → M.testBit w = true) ∧ (∀ u, roS g M v = u + 1 → M.testBit u = false ∧ ∀ w, w < v → M.testBit w = false → g w ≤ g u) := by
  intro v
  induction v with
  | zero => exact ⟨fun _ w h => absurd h (by omega), fun u h => absurd h (by show ¬ 0 = u + 1; omega)⟩
  | succ v ih =>
    obtain ⟨i1, i2⟩ := ih
    have e : roS g M (v + 1) = if M.testBit v = true then roS g M v else if roS g M v = 0 then v + 1 else if g (roS g M v - 1) < g v then v + 1 else roS g M v := rfl
    by_cases b : M.testBit v = true
    · rw [if_pos b] at e
      rw [e]
      refine ⟨fun h w hw => ?_, fun u h => ⟨(i2 u h).1, fun w hw hb => ?_⟩⟩
      · by_cases q : w = v
        · rw [q]; exact b
        · exact i1 h w (by omega)
      · by_cases q : w = v
        · rw [q, b] at hb; exact absurd hb (by decide)
        · exact (i2 u h).2 w (by omega) hb
    · have b' : M.testBit v = false := by cases hq : M.testBit v with
        | true => exact absurd hq b
        | false => rfl
      rw [if_neg b] at e
      by_cases z : roS g M v = 0
      · rw [if_pos z] at e
        rw [e]
        refine ⟨fun h => absurd h (by omega), fun u h => ?_⟩
        have hu : u = v := by omega
        subst hu
        refine ⟨b', fun w hw hb => ?_⟩
        by_cases q : w = u
        · rw [q]; exact Nat.le_refl _
        · have := i1 z w (by omega)
          rw [this] at hb
          exact absurd hb (by decide)
      · rw [if_neg z] at e
        obtain ⟨u0, hu0⟩ : ∃ u0, roS g M v = u0 + 1 := ⟨roS g M v - 1, by omega⟩
        obtain ⟨j1, j2⟩ := i2 u0 hu0
        rw [hu0, show u0 + 1 - 1 = u0 by omega] at e
        by_cases q : g u0 < g v
        · rw [if_pos q] at e
          rw [e]
          refine ⟨fun h => absurd h (by omega), fun u h => ?_⟩
          have hu : u = v := by omega
          subst hu
          refine ⟨b', fun w hw hb => ?_⟩
          by_cases q2 : w = u
          · rw [q2]; exact Nat.le_refl _
          · have := j2 w (by omega) hb
            omega
        · rw [if_neg q] at e
          rw [e]
          refine ⟨fun h => absurd h (by omega), fun u h => ?_⟩
          have hu : u = u0 := by omega
          subst hu
          refine ⟨j1, fun w hw hb => ?_⟩
          by_cases q2 : w = v
          · rw [q2]; omega
          · exact j2 w (by omega) hb
def rIx (r : Nat) : Int32 := if r = 0 then -1 else nI (r - 1)
theorem one_shl {v : Nat} (hv : v < 16) : (1 : Int32) <<< (nI v &&& 31) = nI (2 ^ v) := by
  have h : 2 ^ v < 2 ^ 16 := Nat.pow_lt_pow_right (by decide) hv
  have e := pk_shlN (n := 1) (nI v &&& 31) v (s_l v (by omega)) (by omega)
  rw [Nat.one_mul] at e
  exact e
section Dx
variable {v K : Nat} {g bd gr : Nat → Nat} {dr p : Nat} {v' K' : Nat} {g' bd' gr' : Nat → Nat} {dr' p' : Nat} {μ : Mem}
theorem rich_ok (h : XL v K g bd gr dr p μ) (hv : v ≤ 16) (hg : ∀ k, k < v → g k ≤ 999) (M : Nat) : G_X4_richestOutside p (nI M) μ = some (rIx (roS g M v), μ) := by
  unfold G_X4_richestOutside
  have key := loop_up (fun n i (s : Int32) => L_X4_richestOutside_4 n p (nI M) s i μ) v (fun i => rIx (roS g M i)) (res := some (rIx (roS g M v), μ)) (fun n i hi => by
    show L_X4_richestOutside_4 (n + 1) _ _ _ _ _ = _
    have l := roS_le g M i
    rw [L_X4_richestOutside_4, h.1.1, if_neg (nI_ge hi (by omega)), one_shl (by omega)]
    unfold F_X4_richestOutside_25 F_X4_richestOutside_52 F_X4_richestOutside_54
    rw [lb_e, lb_e, nI_1, if_neg (show ¬ (1 : Int32) = 0 by decide), if_pos (show (0 : Int32) = 0 from rfl)]
    have e : roS g M (i + 1) = if M.testBit i = true then roS g M i else if roS g M i = 0 then i + 1 else if g (roS g M i - 1) < g i then i + 1 else roS g M i := rfl
    rw [e]
    by_cases b : M.testBit i = true
    · rw [if_pos b, if_neg (fun z => by have := (fa_bit (n := M) (j := i) (by omega)).mp z; rw [b] at this; exact absurd this (by decide))]
    · rw [if_neg b, if_pos ((fa_bit (n := M) (j := i) (by omega)).mpr (by cases hq : M.testBit i with
        | true => exact absurd hq b
        | false => rfl))]
      have ri : rIx (i + 1) = nI i := by unfold rIx; rw [if_neg (by omega), show i + 1 - 1 = i by omega]
      by_cases z : roS g M i = 0
      · rw [if_pos z, z, if_pos (show rIx 0 = -1 from rfl), ri]
      · rw [if_neg z]
        have r2 : rIx (roS g M i) = nI (roS g M i - 1) := if_neg z
        have g1 := hg i hi
        have g2 := hg (roS g M i - 1) (by omega)
        rw [r2, if_neg (nI_m1 (by omega)), gq_in (by omega) (by omega), gq_in (by omega) (by omega), nx_nI (by omega), nx_nI (by omega), h.1.2.2 i (by omega), h.1.2.2 (roS g M i - 1) (by omega)]
        by_cases q : g (roS g M i - 1) < g i
        · rw [if_pos q, if_neg (nI_ge q (by omega)), ri]
        · rw [if_neg q, if_pos (nI_le (by omega) (by omega)), r2]) (fun n => by
    show L_X4_richestOutside_4 (n + 1) _ _ _ _ _ = _
    rw [L_X4_richestOutside_4, h.1.1, if_pos (nI_le (Nat.le_refl _) (by omega))])
  exact key 100000 0 (by omega) (by omega)
def tkn (g : Nat → Nat) (n M r : Nat) : Prop := fb_ct (fun u => M.testBit u) n = r ∧ ∀ u w, u < n → w < n → M.testBit u = true → M.testBit w = false → g w ≤ g u
theorem tkn_0 (g : Nat → Nat) (n : Nat) : tkn g n 0 0 := ⟨fb_ct_zero.mpr fun k _ => Nat.zero_testBit k, fun u w _ _ h => absurd h (by rw [Nat.zero_testBit]; decide)⟩
theorem tkn_end {n M r : Nat} (h : tkn g n M r) (hr : n ≤ r) : roS g M n = 0 := by
  have l := fb_ct_le (fun u => M.testBit u) n
  have a : fb_ct (fun u => M.testBit u) n = n := by rw [h.1] at l ⊢; omega
  have b := fb_ct_all.mp a
  by_cases q : roS g M n = 0
  · exact q
  · have ro := roS_le g M n
    have := ((roS_ok g M n).2 (roS g M n - 1) (by omega)).1
    have b2 := b (roS g M n - 1) (by omega)
    rw [b2] at this
    exact absurd this (by decide)
theorem tkn_step {n M r : Nat} (h : tkn g n M r) (hr : r < n) (hg : ∀ k, k < n → g k ≤ 999) : ∃ u, u < n ∧ roS g M n = u + 1 ∧ g u = dgr g n r ∧ tkn g n (M ||| 2 ^ u) (r + 1) := by
  have ro := roS_le g M n
  have nz : roS g M n ≠ 0 := fun z => by
    have a := (roS_ok g M n).1 z
    have b : fb_ct (fun u => M.testBit u) n = n := fb_ct_all.mpr a
    have := h.1
    omega
  obtain ⟨u, hu⟩ : ∃ u, roS g M n = u + 1 := ⟨roS g M n - 1, by omega⟩
  obtain ⟨u1, u2⟩ := (roS_ok g M n).2 u hu
  have un : u < n := by omega
  have ct' : fb_ct (fun k => (M ||| 2 ^ u).testBit k) n = r + 1 := by
    have a := fb_ct_upd (fun k => M.testBit k) true (i := u) (n := n) un
    rw [show (fun k => (M ||| 2 ^ u).testBit k) = (fun k => if k = u then true else M.testBit k) from funext fun k => by
      rw [fb_bit_set]
      by_cases q : k = u
      · rw [if_pos q, decide_eq_true q, Bool.or_true]
      · rw [if_neg q, decide_eq_false q, Bool.or_false]]
    have hr' := h.1
    rw [show (if M.testBit u then 1 else 0) = 0 from by rw [u1]; rfl, show (if true then 1 else 0) = 1 from rfl] at a
    omega
  refine ⟨u, un, hu, ?_, ct', fun x w hx hw bx bw => ?_⟩
  · refine (dgr_eq (by have := hg u un; omega) fun x h1 h2 => ?_).symm
    constructor
    · intro hx
      have a : fb_ct (fun k => (M ||| 2 ^ u).testBit k) n ≤ ctGE g n x := fb_ct_sub fun k hk hb => by
        rw [fb_bit_set] at hb
        by_cases q : k = u
        · rw [q]; exact decide_eq_true hx
        · rw [decide_eq_false q, Bool.or_false] at hb
          exact decide_eq_true (Nat.le_trans hx (h.2 k u hk un hb u1))
      omega
    · intro hc
      by_cases q : x ≤ g u
      · exact q
      · have a : ctGE g n x ≤ fb_ct (fun k => M.testBit k) n := fb_ct_sub fun k hk hb => by
          have hb := of_decide_eq_true hb
          cases hq : M.testBit k with
          | true => rfl
          | false => have := u2 k hk hq; omega
        have := h.1
        omega
  · rw [fb_bit_set] at bx bw
    have w1 : M.testBit w = false := by
      cases hq : M.testBit w with
      | true => rw [hq] at bw; exact absurd bw (by simp)
      | false => rfl
    by_cases q : x = u
    · rw [q]; exact u2 w hw w1
    · rw [decide_eq_false q, Bool.or_false] at bx
      exact h.2 x w hx hw bx w1
theorem degX_ok (h : XL v K g bd gr dr p μ) (h' : XL v' K' g' bd' gr' dr' p' μ) (hv : v ≤ 16) (hv' : v' ≤ 16) (hg : ∀ k, k < v → g k ≤ 999) (hg' : ∀ k, k < v' → g' k ≤ 999) : G_X4_joinByDegrees p p' μ = some (lN (fb_sm (fun r => dgr g v r * dgr g' v' r) (min v v')), μ) := by
  unfold G_X4_joinByDegrees
  refine loop_br (fun n i (s : Int32 × Int32 × Int64) => L_X4_joinByDegrees_10 n p p' s.1 s.2.1 s.2.2 i μ) (min v v') (fun r s => ∃ M M', s.1 = nI M ∧ s.2.1 = nI M' ∧ tkn g v M r ∧ tkn g' v' M' r ∧ s.2.2 = lN (fb_sm (fun r => dgr g v r * dgr g' v' r) r)) (P := fun o => o = some (lN (fb_sm (fun r => dgr g v r * dgr g' v' r) (min v v')), μ)) ?_ ?_ 100000 0 (0, 0, 0) (by omega) (by omega) ⟨0, 0, rfl, rfl, tkn_0 g v, tkn_0 g' v', rfl⟩
  · rintro n r ⟨x2, x3, l4⟩ hr ⟨M, M', e1, e2, t1, t2, e3⟩
    have e1 : x2 = nI M := e1
    have e2 : x3 = nI M' := e2
    have e3 : l4 = lN (fb_sm (fun r => dgr g v r * dgr g' v' r) r) := e3
    subst e1 e2 e3
    obtain ⟨u, u1, u2, u3, u4⟩ := tkn_step t1 (by omega) hg
    obtain ⟨w, w1, w2, w3, w4⟩ := tkn_step t2 (by omega) hg'
    right
    have gu := hg u u1
    have gw := hg' w w1
    refine ⟨(nI (M ||| 2 ^ u), nI (M' ||| 2 ^ w), lN (fb_sm (fun r => dgr g v r * dgr g' v' r) (r + 1))), ⟨_, _, rfl, rfl, u4, w4, rfl⟩, ?_⟩
    show L_X4_joinByDegrees_10 (n + 1) p p' (nI M) (nI M') (lN (fb_sm (fun r => dgr g v r * dgr g' v' r) r)) (nI r) μ = _
    have ru : rIx (roS g M v) = nI u := by unfold rIx; rw [u2, if_neg (by omega), show u + 1 - 1 = u by omega]
    have rw' : rIx (roS g' M' v') = nI w := by unfold rIx; rw [w2, if_neg (by omega), show w + 1 - 1 = w by omega]
    rw [L_X4_joinByDegrees_10, if_neg (l_nle (m := 16) (by omega) (by omega)), bd_eq (rich_ok h hv hg M), bd_eq (rich_ok h' hv' hg' M'), ru, rw', if_neg (nI_m1 (by omega)), if_neg (nI_m1 (by omega)), gq_in (by omega) (by omega), gq_in (by omega) (by omega), nx_nI (by omega), nx_nI (by omega), h.1.2.2 u (by omega), h'.1.2.2 w (by omega), nI_l (by omega), nI_l (by omega), lN_mul, lN_add, lb_e, one_shl (by omega), one_shl (by omega), fa_or, fa_or, lb_e, lb_e, lb_e, nI_1, u3, w3]
    rfl
  · rintro n ⟨x2, x3, l4⟩ ⟨M, M', e1, e2, t1, t2, e3⟩
    have e1 : x2 = nI M := e1
    have e2 : x3 = nI M' := e2
    have e3 : l4 = lN (fb_sm (fun r => dgr g v r * dgr g' v' r) (min v v')) := e3
    subst e1 e2 e3
    show L_X4_joinByDegrees_10 (n + 1) p p' (nI M) (nI M') _ (nI (min v v')) μ = _
    rw [L_X4_joinByDegrees_10, bd_eq (rich_ok h hv hg M), bd_eq (rich_ok h' hv' hg' M')]
    by_cases q : v ≤ v'
    · rw [tkn_end t1 (by omega), if_pos (show rIx 0 = -1 from rfl), ite_self]
    · rw [tkn_end t2 (by omega), if_pos (show rIx 0 = -1 from rfl), ite_self, ite_self]
end Dx
/-- sorted, so far -/
def srt (h s : Nat → Nat) (v : Nat) : Prop := ∀ k, k < v → s k < 1000 ∧ ∀ x, 1 ≤ x → x < 1000 → (x ≤ s k ↔ k < ctGE h v x)
theorem srt_desc {h s : Nat → Nat} {v : Nat} (hs : srt h s v) {j k : Nat} (hjk : j ≤ k) (hk : k < v) : s k ≤ s j := by
  obtain ⟨l, a⟩ := hs k hk
  by_cases z : s k = 0
  · omega
  · have := (a (s k) (by omega) l).mp (Nat.le_refl _)
    exact ((hs j (by omega)).2 (s k) (by omega) l).mpr (by omega)
theorem srt_ins {h s s' : Nat → Nat} {v p n : Nat} (hs : srt h s v) (hn : n = h v) (hn2 : n < 1000) (hp : p ≤ v) (hp1 : p = 0 ∨ n ≤ s (p - 1)) (hp2 : ∀ j, p ≤ j → j < v → s j < n) (e1 : ∀ j, j < p → s' j = s j) (e2 : s' p = n) (e3 : ∀ j, p < j → j ≤ v → s' j = s (j - 1)) : srt h s' (v + 1) := by
  intro k hk
  have cs : ∀ x, ctGE h (v + 1) x = ctGE h v x + if x ≤ n then 1 else 0 := fun x => by
    show fb_ct (fun u => decide (x ≤ h u)) v + (if decide (x ≤ h v) = true then 1 else 0) = _
    rw [← hn]
    by_cases q : x ≤ n
    · rw [if_pos q, if_pos (decide_eq_true q)]; rfl
    · rw [if_neg q, if_neg (by rw [decide_eq_false q]; decide)]; rfl
  have cv : ∀ x, ctGE h v x ≤ v := fun x => fb_ct_le _ v
  rcases Nat.lt_trichotomy k p with q | q | q
  · rw [e1 k q]
    obtain ⟨l, a⟩ := hs k (by omega)
    refine ⟨l, fun x x1 x2 => ?_⟩
    rw [cs x, a x x1 x2]
    have : n ≤ s k := by
      rcases hp1 with z | z
      · omega
      · have := srt_desc hs (j := k) (k := p - 1) (by omega) (by omega); omega
    by_cases c : x ≤ n
    · rw [if_pos c]
      have := (a x x1 x2).mp (by omega)
      omega
    · rw [if_neg c]; omega
  · subst q
    rw [e2]
    refine ⟨hn2, fun x x1 x2 => ?_⟩
    rw [cs x]
    by_cases c : x ≤ n
    · rw [if_pos c]
      refine ⟨fun _ => ?_, fun _ => c⟩
      rcases hp1 with z | z
      · omega
      · by_cases k0 : k = 0
        · omega
        · have := ((hs (k - 1) (by omega)).2 x x1 x2).mp (by omega)
          omega
    · rw [if_neg c]
      refine ⟨fun z => absurd z c, fun z => ?_⟩
      have := cv x
      have kv : k < v := by omega
      have := ((hs k kv).2 x x1 x2).mpr (by omega)
      have := hp2 k (Nat.le_refl _) kv
      omega
  · rw [e3 k q (by omega)]
    obtain ⟨l, a⟩ := hs (k - 1) (by omega)
    refine ⟨l, fun x x1 x2 => ?_⟩
    have s1 := hp2 (k - 1) (by omega) (by omega)
    rw [cs x, a x x1 x2]
    by_cases c : x ≤ n
    · rw [if_pos c]; omega
    · rw [if_neg c]
      have : ¬ k - 1 < ctGE h v x := fun z => by have := (a x x1 x2).mpr z; omega
      omega
theorem srt_dgr {h s : Nat → Nat} {v k : Nat} (hs : srt h s v) (hk : k < v) : s k = dgr h v k := (dgr_eq (hs k hk).1 (hs k hk).2).symm
section Ms
variable {μ : Mem}
theorem ins_ok {kc : Int32 → Int32 → Int32 → Int32 → Mem → Option (Unit × Mem)} {x1 x2 : Int32} {fr v n : Nat} {s : Nat → Nat} (hfr : fr ≤ 16) (hv : v < 16) (hn : n < 1000) (hs : ∀ k, k < v → s k < 1000) : ∀ k fuel (μ : Mem), k ≤ v → k < fuel → (∀ j, j < k → rI μ 123 (fr + j) = nI (s j)) → (∀ j, k < j → j ≤ v → rI μ 123 (fr + j) = nI (s (j - 1))) → (∀ j, k ≤ j → j < v → s j < n) → ∃ μ' p, L_X11_sortCounts_24 kc fuel x1 x2 (nI fr) (nI v) (nI n) (nI k) μ = kc x1 x2 (nI fr) (nI (v + 1)) μ' ∧ Fr (fun q j => q = 123 ∧ fr ≤ j ∧ j ≤ fr + v) μ μ' ∧ p ≤ v ∧ (p = 0 ∨ n ≤ s (p - 1)) ∧ (∀ j, p ≤ j → j < v → s j < n) ∧ (∀ j, j < p → rI μ' 123 (fr + j) = nI (s j)) ∧ rI μ' 123 (fr + p) = nI n ∧ ∀ j, p < j → j ≤ v → rI μ' 123 (fr + j) = nI (s (j - 1)) := by
  intro k
  induction k with
  | zero =>
    intro fuel μ hk hf h1 h2 h3
    obtain ⟨fu, rfl⟩ : ∃ fu, fuel = fu + 1 := ⟨fuel - 1, by omega⟩
    refine ⟨wI μ 123 (fr + 0) (nI n), 0, ?_, Fr.rf.wI (by omega), by omega, Or.inl rfl, h3, fun j hj => absurd hj (by omega), rI_wI_at, fun j q1 q2 => (rI_wI_off (by omega)).trans (h2 j q1 q2)⟩
    rw [L_X11_sortCounts_24, if_pos (by decide)]
    unfold F_X11_sortCounts_71
    rw [nI_add, gq_in (by omega) (by omega), nx_nI (by omega), lb_e, lb_e, nI_1]
  | succ k ih =>
    intro fuel μ hk hf h1 h2 h3
    obtain ⟨fu, rfl⟩ : ∃ fu, fuel = fu + 1 := ⟨fuel - 1, by omega⟩
    have sk := hs k (by omega)
    rw [L_X11_sortCounts_24, if_neg (nI_nle (by omega) (by omega)), nI_add, nI_sub1 (by omega), gq_in (by omega) (by omega), nx_nI (by omega), show fr + (k + 1) - 1 = fr + k by omega, h1 k (by omega)]
    by_cases q : n ≤ s k
    · rw [if_pos (nI_le q (by omega))]
      refine ⟨wI μ 123 (fr + (k + 1)) (nI n), k + 1, ?_, Fr.rf.wI (by omega), by omega, Or.inr q, h3, fun j hj => (rI_wI_off (by omega)).trans (h1 j hj), rI_wI_at, fun j q1 q2 => (rI_wI_off (by omega)).trans (h2 j q1 q2)⟩
      unfold F_X11_sortCounts_71
      rw [nI_add, gq_in (by omega) (by omega), nx_nI (by omega), lb_e, lb_e, nI_1]
    · rw [if_neg (nI_ge (by omega) (by omega)), gq_in (by omega) (by omega), gq_in (by omega) (by omega), nx_nI (by omega), lb_e, pk_m1, lb_e]
      obtain ⟨μ', p, a, b, c⟩ := ih fu (wI μ 123 (fr + (k + 1)) (nI (s k))) (by omega) (by omega) (fun j hj => (rI_wI_off (by omega)).trans (h1 j (by omega))) (fun j q1 q2 => by
        by_cases e : j = k + 1
        · rw [e, rI_wI_at, show k + 1 - 1 = k by omega]
        · exact (rI_wI_off (by omega)).trans (h2 j (by omega) q2)) (fun j q1 q2 => by
        by_cases e : j = k
        · rw [e]; omega
        · exact h3 j (by omega) q2)
      exact ⟨μ', p, a, Fr.tr (Fr.rf.wI (by omega)) b, c⟩
theorem sortC_ok {c0 T : Nat} {V : Nat → Nat} {B D m : Nat} {S : Nat → St} (h : RB c0 T V B D m S μ) {t c fr : Nat} (ht : t < T) (hc : c < 2) (hfr : fr = 0 ∨ fr = 16) : ∃ μ', G_X11_sortCounts (nI t) (nI c) (nI fr) μ = some ((), μ') ∧ Fr (fun q j => q = 123 ∧ fr ≤ j ∧ j < fr + 16) μ μ' ∧ ∀ k, k < 16 → rI μ' 123 (fr + k) = nI (dgr (cn (sf (S 0) t) c) (V t) k) := by
  have hV := h.V2 ht
  have hT := h.T3
  obtain ⟨H, hH⟩ : ∃ H : Nat → Nat, H = fun v => if v < V t then cn (sf (S 0) t) c v else 0 := ⟨_, rfl⟩
  have eH : ∀ v, H v = if v < V t then cn (sf (S 0) t) c v else 0 := fun v => by rw [hH]
  have lH : ∀ v, v < 16 → H v < 1000 := fun v hv => by
    rw [eH]
    have := cn_le (sf (S 0) t) (c := c) (a := v) hc (by omega)
    have := (h.sw ht).2.1
    split <;> omega
  unfold G_X11_sortCounts
  refine loop_inv (fun n i (s : Mem) => L_X11_sortCounts_3 n (nI t) (nI c) (nI fr) i s) 16 (fun v s => Fr (fun q j => q = 123 ∧ fr ≤ j ∧ j < fr + 16) μ s ∧ ∃ a : Nat → Nat, srt H a v ∧ ∀ k, k < v → rI s 123 (fr + k) = nI (a k)) (P := fun o => ∃ μ', o = some ((), μ') ∧ Fr (fun q j => q = 123 ∧ fr ≤ j ∧ j < fr + 16) μ μ' ∧ ∀ k, k < 16 → rI μ' 123 (fr + k) = nI (dgr (cn (sf (S 0) t) c) (V t) k)) ?_ ?_ 100000 0 μ (by omega) (by omega) ⟨Fr.rf, fun _ => 0, fun k hk => absurd hk (by omega), fun k hk => absurd hk (by omega)⟩
  · rintro n v s hv ⟨f, a, sa, ra⟩
    have hB : RB c0 T V B D m S s := h.ag (fun q j e => f.i (by omega))
    obtain ⟨s', p, e, f', p1, p2, p3, q1, q2, q3⟩ := ins_ok (kc := L_X11_sortCounts_3 n) (x1 := nI t) (x2 := nI c) (fr := fr) (v := v) (n := H v) (s := a) (by omega) hv (lH v hv) (fun k hk => (sa k hk).1) v 100000 s (Nat.le_refl _) (by omega) ra (fun j z1 z2 => absurd z1 (by omega)) (fun j z1 z2 => absurd z1 (by omega))
    refine ⟨s', ⟨f.tr (f'.mono (fun q j z => by omega)), fun j => if j < p then a j else if j = p then H v else a (j - 1), srt_ins (p := p) sa rfl (lH v hv) p1 p2 p3 (fun j hj => if_pos hj) (by show (if p < p then a p else if p = p then H v else a (p - 1)) = H v; rw [if_neg (by omega), if_pos rfl]) (fun j z1 z2 => by show (if j < p then a j else if j = p then H v else a (j - 1)) = _; rw [if_neg (by omega), if_neg (by omega)]), fun k hk => ?_⟩, ?_⟩
    · show rI s' 123 (fr + k) = nI (if k < p then a k else if k = p then H v else a (k - 1))
      rcases Nat.lt_trichotomy k p with z | z | z
      · rw [if_pos z]; exact q1 k z
      · rw [if_neg (by omega), if_pos z, z]; exact q2
      · rw [if_neg (by omega), if_neg (by omega)]; exact q3 k z (by omega)
    · show L_X11_sortCounts_3 (n + 1) _ _ _ (nI v) s = _
      rw [L_X11_sortCounts_3, if_neg (l_nle hv (by omega)), bd_eq (countIn_ok hB ht hc hv), ← eH]
      exact e
  · rintro n s ⟨f, a, sa, ra⟩
    refine ⟨s, ?_, f, fun k hk => ?_⟩
    · show L_X11_sortCounts_3 (n + 1) _ _ _ (nI 16) s = _
      rw [L_X11_sortCounts_3, if_pos (by decide)]
    · rw [ra k hk, srt_dgr sa hk, hH, dgr_pad hV.2]
theorem degM_ok {c0 T : Nat} {V : Nat → Nat} {B D m : Nat} {S : Nat → St} (h : RB c0 T V B D m S μ) {t c o d : Nat} (ht : t < T) (hc : c < 2) (ho : o < T) (hd : d < 2) : ∃ μ', G_X11_degrees (nI t) (nI c) (nI o) (nI d) μ = some (lN (fb_sm (fun r => dgr (cn (sf (S 0) t) c) (V t) r * dgr (cn (sf (S 0) o) d) (V o) r) (min (V t) (V o))), μ') ∧ Fr SCR μ μ' := by
  have hV := h.V2 ht
  have hV' := h.V2 ho
  obtain ⟨μ1, e1, f1, s1⟩ := sortC_ok (fr := 0) h ht hc (Or.inl rfl)
  have hB1 : RB c0 T V B D m S μ1 := h.ag (fun q j e => f1.i (by omega))
  obtain ⟨μ2, e2, f2, s2⟩ := sortC_ok (fr := 16) hB1 ho hd (Or.inr rfl)
  have s1' : ∀ k, k < 16 → rI μ2 123 k = nI (dgr (cn (sf (S 0) t) c) (V t) k) := fun k hk => by
    have := s1 k hk
    rw [Nat.zero_add] at this
    rw [f2.i (by omega)]
    exact this
  refine ⟨μ2, ?_, (f1.mono (fun q j z => by unfold SCR; omega)).tr (f2.mono (fun q j z => by unfold SCR; omega))⟩
  unfold G_X11_degrees
  have e1 : G_X11_sortCounts (nI t) (nI c) 0 μ = some ((), μ1) := e1
  rw [bd_eq e1, show (16 : Int32) = nI 16 from rfl, bd_eq e2]
  have tail : fb_sm (fun r => dgr (cn (sf (S 0) t) c) (V t) r * dgr (cn (sf (S 0) o) d) (V o) r) 16 = fb_sm (fun r => dgr (cn (sf (S 0) t) c) (V t) r * dgr (cn (sf (S 0) o) d) (V o) r) (min (V t) (V o)) := by
    have sp := fb_sm_split (fun r => dgr (cn (sf (S 0) t) c) (V t) r * dgr (cn (sf (S 0) o) d) (V o) r) (min (V t) (V o)) (16 - min (V t) (V o))
    rw [show min (V t) (V o) + (16 - min (V t) (V o)) = 16 by omega] at sp
    rw [sp, show fb_sm (fun k => dgr (cn (sf (S 0) t) c) (V t) (min (V t) (V o) + k) * dgr (cn (sf (S 0) o) d) (V o) (min (V t) (V o) + k)) (16 - min (V t) (V o)) = fb_sm (fun _ => 0) (16 - min (V t) (V o)) from fb_sm_cong fun k _ => by
      by_cases q : V t ≤ V o
      · rw [dgr_out (by omega), Nat.zero_mul]
      · rw [dgr_out (g := cn (sf (S 0) o) d) (by omega), Nat.mul_zero], fb_sm_const, Nat.mul_zero, Nat.add_zero]
  have key := loop_up (fun n i (s : Int64) => L_X11_degrees_22 n s i μ2) 16 (fun k => lN (fb_sm (fun r => dgr (cn (sf (S 0) t) c) (V t) r * dgr (cn (sf (S 0) o) d) (V o) r) k)) (res := some (lN (fb_sm (fun r => dgr (cn (sf (S 0) t) c) (V t) r * dgr (cn (sf (S 0) o) d) (V o) r) (min (V t) (V o))), μ2)) (fun n k hk => by
    show L_X11_degrees_22 (n + 1) _ _ _ = _
    have l1 := dgr_lt (cn (sf (S 0) t) c) (V t) k
    have l2 := dgr_lt (cn (sf (S 0) o) d) (V o) k
    rw [L_X11_degrees_22, if_neg (l_nle (m := 16) hk (by omega)), gq_in (by omega) (by omega), show (16 : Int32) = nI 16 from rfl, nI_add, gq_in (by omega) (by omega), nx_nI (by omega), nx_nI (by omega), s1' k hk, s2 k hk, nI_l (by omega), nI_l (by omega), lN_mul, lN_add, lb_e, lb_e, nI_1]
    rfl) (fun n => by
    show L_X11_degrees_22 (n + 1) _ _ _ = _
    rw [L_X11_degrees_22, if_pos (by decide), tail])
  exact key 100000 0 (by omega) (by omega)
end Ms
