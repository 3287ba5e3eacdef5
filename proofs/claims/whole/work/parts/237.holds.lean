/-! whether a condition holds -/
def bI (b : Bool) : Int32 := if b = true then 1 else 0
theorem bI_t : bI true = 1 := rfl
theorem bI_f : bI false = 0 := rfl
theorem bB_bI (b : Bool) : bB (bI b) = true := by cases b <;> rfl
theorem bI_d {ρ : Type} {p : Prop} [Decidable p] {x y : ρ} {f : Int32 → ρ} (hx : x = f 1) (hy : y = f 0) : (if p then x else y) = f (bI (decide p)) := by
  by_cases q : p
  · rw [if_pos q, decide_eq_true q, hx]; rfl
  · rw [if_neg q, decide_eq_false q, hy]; rfl
theorem bI_n {ρ : Type} {p : Prop} [Decidable p] {x y : ρ} {f : Int32 → ρ} (hx : x = f 0) (hy : y = f 1) : (if p then x else y) = f (bI (decide (¬ p))) := by
  by_cases q : p
  · rw [if_pos q, decide_eq_false (fun z => z q), hx]; rfl
  · rw [if_neg q, decide_eq_true q, hy]; rfl
def uh (sg : Nat) (nu : Int32) (w : Nat) : Bool := if w = 16 then decide (sg = 3) else if sg = 0 then decide (ix w = nu) else if sg = 1 then decide (¬ nu ≤ ix w) else if sg = 2 then decide (¬ ix w ≤ nu) else false
section H
variable {μ : Mem} {z : Nat} {tm cl sg : Nat → Nat} {nu : Nat → Int32} {p i : Nat}
theorem uhX (h : XW z tm cl sg nu p μ) (hw : WH z tm cl sg) {u w : Nat} (hu : u < z) (hw16 : w ≤ 16) : G_X9_unitHolds p (nI u) (ix w) μ = some (bI (uh (sg u) (nu u) w), μ) := by
  have hz := hw.2.1
  obtain ⟨x1, x2, x3, x4⟩ := h.2 u hu
  have s4 := (hw.2.2.2.2 u hu).2
  unfold G_X9_unitHolds uh
  rw [gq_in (by omega) (by omega), gq_in (by omega) (by omega), gq_in (by omega) (by omega), gq_in (by omega) (by omega), nx_nI (by omega), x3, x4, lb_e, gq_in (by omega) (by omega)]
  by_cases e : w = 16
  · rw [if_pos e, if_pos (by rw [e]; rfl)]
    by_cases q : sg u = 3
    · rw [if_pos (r_eq (m := 3) q), decide_eq_true q]; rfl
    · rw [if_neg (r_ne (m := 3) q (by omega) (by omega)), decide_eq_false q]; rfl
  · rw [if_neg e, if_neg (ix_ne (by omega))]
    rcases (show sg u = 0 ∨ sg u = 1 ∨ sg u = 2 ∨ sg u = 3 by omega) with q | q | q | q
    · rw [q, if_pos (by decide), if_pos rfl]
      exact bI_d (f := fun x => some (x, μ)) rfl rfl
    · rw [q, if_neg (by decide), if_pos (by decide)]
      exact bI_n (f := fun x => some (x, μ)) rfl rfl
    · rw [q, if_neg (by decide), if_neg (by decide), if_pos (by decide)]
      exact bI_n (f := fun x => some (x, μ)) rfl rfl
    · rw [q, if_neg (by decide), if_neg (by decide), if_neg (by decide), if_neg (by decide), if_neg (by decide), if_neg (by decide)]
      rfl
theorem uhM (h : MW z tm cl sg nu i μ) (hi : i < 5) (hw : WH z tm cl sg) {u w : Nat} (hu : u < z) (hw16 : w ≤ 16) : G_X11_isUnitOf (nI i) (nI u) (ix w) μ = some (bI (uh (sg u) (nu u) w), μ) := by
  have hz := hw.2.1
  obtain ⟨x1, x2, x3, x4⟩ := h.2 u hu
  have s4 := (hw.2.2.2.2 u hu).2
  unfold G_X11_isUnitOf uh
  rw [show (3 : Int32) = nI 3 from rfl, bd_eq (unitAt_eq hi (by omega) (by omega)), x4]
  rw [show G_X11_unitAt (nI i) (nI u) 2 μ = some (nI (sg u), μ) from by rw [show (2 : Int32) = nI 2 from rfl, unitAt_eq hi (by omega) (by omega), x3], bd_s]
  by_cases e : w = 16
  · rw [if_pos e, e, show ix 16 = -1 from rfl]
    rw [if_pos rfl, if_pos rfl, if_pos rfl, if_pos rfl]
    rcases (show sg u = 0 ∨ sg u = 1 ∨ sg u = 2 ∨ sg u = 3 by omega) with q | q | q | q
    · rw [q]; rfl
    · rw [q]; rfl
    · rw [q]; rfl
    · rw [q]; rfl
  · have ne := ix_ne (w := w) (by omega)
    rw [if_neg e, if_neg ne, if_neg ne, if_neg ne, if_neg ne]
    rcases (show sg u = 0 ∨ sg u = 1 ∨ sg u = 2 ∨ sg u = 3 by omega) with q | q | q | q
    · rw [q, if_pos (by decide), if_pos rfl]
      exact bI_d (f := fun x => some (x, μ)) rfl rfl
    · rw [q, if_neg (by decide), if_pos (by decide)]
      exact bI_n (f := fun x => some (x, μ)) rfl rfl
    · rw [q, if_neg (by decide), if_neg (by decide), if_pos (by decide)]
      exact bI_n (f := fun x => some (x, μ)) rfl rfl
    · rw [q, if_neg (by decide), if_neg (by decide), if_neg (by decide), if_neg (by decide), if_neg (by decide), if_neg (by decide)]
      rfl
def alU (tm : Nat → Nat) (hv : Nat → Bool) (t : Nat) : Nat → Bool
  | 0 => true
  | i + 1 => alU tm hv t i && (decide (tm i ≠ t) || hv i)
def anT (tm : Nat → Nat) (hv : Nat → Bool) (z : Nat) : Nat → Bool
  | 0 => false
  | t + 1 => anT tm hv z t || alU tm hv t z
theorem alU_none {tm : Nat → Nat} {hv : Nat → Bool} {t : Nat} : ∀ {i}, (∀ j, j < i → tm j ≠ t) → alU tm hv t i = true := by
  intro i
  induction i with
  | zero => intro _; rfl
  | succ i ih =>
    intro h
    show (alU tm hv t i && (decide (tm i ≠ t) || hv i)) = true
    rw [ih (fun j hj => h j (by omega)), decide_eq_true (h i (by omega))]; rfl
theorem alU_cut {tm : Nat → Nat} {hv : Nat → Bool} {t i : Nat} : ∀ {d}, (∀ j, i ≤ j → j < i + d → tm j ≠ t) → alU tm hv t (i + d) = alU tm hv t i := by
  intro d
  induction d with
  | zero => intro _; rfl
  | succ d ih =>
    intro h
    show (alU tm hv t (i + d) && (decide (tm (i + d) ≠ t) || hv (i + d))) = _
    rw [ih (fun j a b => h j a (by omega)), decide_eq_true (h (i + d) (by omega) (by omega)), Bool.true_or, Bool.and_true]
theorem anT_true {tm : Nat → Nat} {hv : Nat → Bool} {z t : Nat} (h : alU tm hv t z = true) : ∀ {T}, t < T → anT tm hv z T = true := by
  intro T
  induction T with
  | zero => intro h; omega
  | succ T ih =>
    intro hT
    show (anT tm hv z T || alU tm hv T z) = true
    by_cases e : t = T
    · rw [← e, h, Bool.or_true]
    · rw [ih (by omega), Bool.true_or]
def hvF (cl sg : Nat → Nat) (nu : Nat → Int32) (a b u : Nat) : Bool := uh (sg u) (nu u) (if cl u = 0 then a else b)
def hld (z : Nat) (tm cl sg : Nat → Nat) (nu : Nat → Int32) (a b : Nat) : Bool := anT tm (hvF cl sg nu a b) z (tm (z - 1) + 1)
theorem tm_mono (hw : WH z tm cl sg) {a : Nat} : ∀ {b}, a ≤ b → b < z → tm a ≤ tm b := by
  intro b
  induction b with
  | zero => intro h _; rw [show a = 0 by omega]; exact Nat.le_refl _
  | succ b ih =>
    intro h hb
    by_cases e : a = b + 1
    · rw [e]; exact Nat.le_refl _
    · have := ih (by omega) (by omega)
      have := hw.2.2.2.1 b hb
      omega
theorem tm_le (hw : WH z tm cl sg) : ∀ {b}, b < z → tm b ≤ b := by
  intro b
  induction b with
  | zero => intro _; rw [hw.2.2.1]; exact Nat.le_refl _
  | succ b ih =>
    intro hb
    have := ih (by omega)
    have := hw.2.2.2.1 b hb
    omega
theorem hldM (h : MW z tm cl sg nu i μ) (hi : i < 5) (hw : WH z tm cl sg) {a b : Nat} (ha : a ≤ 16) (hb : b ≤ 16) : G_X11_holds (nI i) (ix a) (ix b) μ = some (bI (hld z tm cl sg nu a b), μ) := by
  have hz := hw.2.1
  have hz1 := hw.1
  have tl := tm_le hw (b := z - 1) (by omega)
  have ter : G_X11_terms (nI i) μ = some (nI (tm (z - 1) + 1), μ) := by
    unfold G_X11_terms
    rw [gq_in hi (by omega), nx_nI (by omega), h.1, nI_sub1 hz1, show G_X11_unitAt (nI i) (nI (z - 1)) 0 μ = some (nI (tm (z - 1)), μ) from by rw [show (0 : Int32) = nI 0 from rfl, unitAt_eq hi (by omega) (by omega), Nat.add_zero, (h.2 (z - 1) (by omega)).1], bd_s, nI_1]
  have ist : ∀ t, t < 7 → G_X11_isTermOf (nI i) (nI t) (ix a) (ix b) μ = some (bI (alU tm (hvF cl sg nu a b) t z), μ) := fun t ht => by
    unfold G_X11_isTermOf
    have key := loop_up (fun n u (s : Int32) => L_X11_isTermOf_6 n (nI i) (nI t) (ix a) (ix b) s u μ) z (fun u => bI (alU tm (hvF cl sg nu a b) t u)) (res := some (bI (alU tm (hvF cl sg nu a b) t z), μ)) (fun n u hu => by
      show L_X11_isTermOf_6 (n + 1) _ _ _ _ _ _ _ = _
      obtain ⟨y1, y2, -, -⟩ := h.2 u hu
      have tu := tm_le hw hu
      have e : alU tm (hvF cl sg nu a b) t (u + 1) = (alU tm (hvF cl sg nu a b) t u && (decide (tm u ≠ t) || hvF cl sg nu a b u)) := rfl
      rw [L_X11_isTermOf_6, gq_in hi (by omega), nx_nI (by omega), h.1, if_neg (nI_ge hu (by omega)), e]
      unfold F_X11_isTermOf_65 F_X11_isTermOf_66
      cases hq : alU tm (hvF cl sg nu a b) t u with
      | false =>
        rw [if_pos bI_f, lb_e, nI_1]; rfl
      | true =>
        rw [if_neg (by decide), show G_X11_unitAt (nI i) (nI u) 0 μ = some (nI (tm u), μ) from by rw [show (0 : Int32) = nI 0 from rfl, unitAt_eq hi (by omega) (by omega), Nat.add_zero, y1], bd_s, show G_X11_unitAt (nI i) (nI u) 1 μ = some (nI (cl u), μ) from by rw [show (1 : Int32) = nI 1 from rfl, unitAt_eq hi (by omega) (by omega), y2], bd_s, Bool.true_and]
        by_cases q : tm u = t
        · rw [if_pos (by rw [q]), decide_eq_false (fun z => z q), Bool.false_or]
          unfold F_X11_isTermOf_55 F_X11_isTermOf_65 F_X11_isTermOf_61 F_X11_isTermOf_66
          unfold hvF
          by_cases c0 : cl u = 0
          · rw [if_pos (by rw [c0]; rfl), bd_eq (uhM h hi hw hu ha), lb_e, lb_e, nI_1, if_pos c0]
            cases uh (sg u) (nu u) a <;> rfl
          · rw [if_neg (nI_ne0 (by omega) (by have := (hw.2.2.2.2 u hu).1; omega)), bd_eq (uhM h hi hw hu hb), lb_e, lb_e, nI_1, if_neg c0]
            cases uh (sg u) (nu u) b <;> rfl
        · rw [if_neg (fun z => q (nI_inj (by omega) (by omega) z)), decide_eq_true q, Bool.true_or]
          unfold F_X11_isTermOf_61 F_X11_isTermOf_66
          rw [lb_e, nI_1]; rfl) (fun n => by
      show L_X11_isTermOf_6 (n + 1) _ _ _ _ _ _ _ = _
      rw [L_X11_isTermOf_6, gq_in hi (by omega), nx_nI (by omega), h.1, if_pos (nI_le (Nat.le_refl _) (by omega)), bB_bI, gq_t])
    exact key 100000 0 (by omega) (by omega)
  unfold G_X11_holds hld
  have key := loop_up (fun n t (s : Int32) => L_X11_holds_6 n (nI i) (ix a) (ix b) s t μ) (tm (z - 1) + 1) (fun t => bI (anT tm (hvF cl sg nu a b) z t)) (res := some (bI (anT tm (hvF cl sg nu a b) z (tm (z - 1) + 1)), μ)) (fun n t ht => by
    show L_X11_holds_6 (n + 1) _ _ _ _ _ _ = _
    have e : anT tm (hvF cl sg nu a b) z (t + 1) = (anT tm (hvF cl sg nu a b) z t || alU tm (hvF cl sg nu a b) t z) := rfl
    rw [L_X11_holds_6, bd_eq ter, if_neg (nI_ge ht (by omega)), e]
    unfold F_X11_holds_33 F_X11_holds_38
    cases hq : anT tm (hvF cl sg nu a b) z t with
    | true => rw [if_neg (by decide), lb_e, nI_1]; rfl
    | false =>
      rw [if_pos bI_f, bd_eq (ist t (by omega)), lb_e, lb_e, nI_1, Bool.false_or]
      cases alU tm (hvF cl sg nu a b) t z <;> rfl) (fun n => by
    show L_X11_holds_6 (n + 1) _ _ _ _ _ _ = _
    rw [L_X11_holds_6, bd_eq ter, if_pos (nI_le (Nat.le_refl _) (by omega)), bB_bI, gq_t])
  exact key 100000 0 (by omega) (by omega)
theorem beg_ok (h : XW z tm cl sg nu p μ) (hw : WH z tm cl sg) {u : Nat} (hu : u < z) : G_X9_beginsTerm p (nI u) μ = some (bI (decide (u = 0 ∨ tm u ≠ tm (u - 1))), μ) := by
  have hz := hw.2.1
  unfold G_X9_beginsTerm
  by_cases e : u = 0
  · rw [if_pos (by rw [e]; rfl), decide_eq_true (Or.inl e)]; rfl
  · have t1 := tm_le hw hu
    have t2 := tm_le hw (b := u - 1) (by omega)
    rw [if_neg (nI_ne0 (by omega) (by omega)), gq_in (by omega) (by omega), nI_sub1 (by omega), gq_in (by omega) (by omega), nx_nI (by omega), nx_nI (by omega), (h.2 u hu).1, (h.2 (u - 1) (by omega)).1]
    by_cases q : tm u = tm (u - 1)
    · rw [if_pos (by rw [q]), decide_eq_false (fun z => z.elim e (fun y => y q))]; rfl
    · rw [if_neg (fun z => q (nI_inj (by omega) (by omega) z)), decide_eq_true (Or.inr q)]; rfl
theorem hldX (h : XW z tm cl sg nu p μ) (hw : WH z tm cl sg) {a b : Nat} (ha : a ≤ 16) (hb : b ≤ 16) : G_X9_holds p (ix a) (ix b) μ = some (bI (hld z tm cl sg nu a b), μ) := by
  have hz := hw.2.1
  have hz1 := hw.1
  unfold G_X9_holds
  have u36 : ∀ (kc : Nat → Int32 → Int32 → Int32 → Int32 → Mem → Option (Int32 × Mem)) (x : Bool) u, u < z → F_X9_holds_36 kc p (ix a) (ix b) (bI x) (nI u) μ = kc p (ix a) (ix b) (bI (x && hvF cl sg nu a b u)) (nI (u + 1)) μ := fun kc x u hu => by
    unfold F_X9_holds_36 F_X9_holds_68 F_X9_holds_69
    cases x with
    | false => rw [if_pos bI_f, lb_e, nI_1]; rfl
    | true =>
      rw [if_neg (by decide), gq_in (by omega) (by omega), nx_nI (by omega), (h.2 u hu).2.1, Bool.true_and]
      unfold F_X9_holds_58 F_X9_holds_68 F_X9_holds_69 hvF
      by_cases c0 : cl u = 0
      · rw [if_pos (by rw [c0]; rfl), bd_eq (uhX h hw hu ha), lb_e, lb_e, nI_1, if_pos c0]
        cases uh (sg u) (nu u) a <;> rfl
      · rw [if_neg (nI_ne0 (by omega) (by have := (hw.2.2.2.2 u hu).1; omega)), bd_eq (uhX h hw hu hb), lb_e, lb_e, nI_1, if_neg c0]
        cases uh (sg u) (nu u) b <;> rfl
  obtain ⟨hv, ehv⟩ : ∃ hv, hv = hvF cl sg nu a b := ⟨_, rfl⟩
  unfold hld
  rw [← ehv] at u36 ⊢
  refine loop_br (fun n u (s : Int32) => L_X9_holds_5 n p (ix a) (ix b) s u μ) z (fun u s => (u = 0 → s = 1) ∧ (1 ≤ u → s = bI (alU tm hv (tm (u - 1)) u) ∧ anT tm hv z (tm (u - 1)) = false)) (P := fun o => o = some (bI (anT tm hv z (tm (z - 1) + 1)), μ)) ?_ ?_ 100000 0 1 (by omega) (by omega) ⟨fun _ => rfl, fun h => absurd h (by omega)⟩
  · rintro n u s hu ⟨i0, i1⟩
    show L_X9_holds_5 (n + 1) p (ix a) (ix b) s (nI u) μ = _ ∨ ∃ s', _ ∧ L_X9_holds_5 (n + 1) p (ix a) (ix b) s (nI u) μ = _
    rw [L_X9_holds_5, h.1, if_neg (nI_ge hu (by omega)), bd_eq (beg_ok h hw hu)]
    unfold F_X9_holds_34
    by_cases e : u = 0
    · right
      have s1 := i0 e
      subst s1
      rw [decide_eq_true (Or.inl e), if_neg (by decide), if_neg (by decide), if_pos (show nI u ≤ 0 by rw [e]; decide)]
      have := u36 (L_X9_holds_5 n) true u hu
      refine ⟨bI (true && hv u), ⟨fun z => absurd z (by omega), fun _ => ?_⟩, this⟩
      subst e
      refine ⟨?_, ?_⟩
      · show bI (true && hv 0) = bI (true && (decide (tm 0 ≠ tm 0) || hv 0))
        rw [decide_eq_false (fun z => z rfl), Bool.false_or]
      · show anT tm hv z (tm 0) = false
        rw [hw.2.2.1]; rfl
    · obtain ⟨j1, j2⟩ := i1 (by omega)
      subst j1
      have tmu := hw.2.2.2.1 (u - 1) (by omega)
      rw [show u - 1 + 1 = u by omega] at tmu
      have ea : ∀ t, alU tm hv t (u + 1) = (alU tm hv t u && (decide (tm u ≠ t) || hv u)) := fun _ => rfl
      by_cases q : tm u = tm (u - 1)
      · right
        rw [decide_eq_false (fun z => z.elim e (fun y => y q)), if_pos bI_f, u36 (L_X9_holds_5 n) _ u hu]
        refine ⟨bI (alU tm hv (tm (u - 1)) u && hv u), ⟨fun z => absurd z (by omega), fun _ => ⟨?_, ?_⟩⟩, rfl⟩
        · rw [show u + 1 - 1 = u by omega, ea, q, decide_eq_false (fun z => z rfl), Bool.false_or]
        · rw [show u + 1 - 1 = u by omega, q]; exact j2
      · have cutU : alU tm hv (tm (u - 1)) z = alU tm hv (tm (u - 1)) u := by
          have := alU_cut (tm := tm) (hv := hv) (t := tm (u - 1)) (i := u) (d := z - u) (fun j a1 a2 => by
            have := tm_mono hw a1 (by omega)
            omega)
          rw [show u + (z - u) = z by omega] at this
          exact this
        rw [decide_eq_true (Or.inr q), if_neg (by decide)]
        cases hq : alU tm hv (tm (u - 1)) u with
        | true =>
          left
          rw [if_neg (by decide), if_neg (nI_nle (by omega) (by omega)), anT_true (t := tm (u - 1)) (cutU.trans hq) (by have := tm_mono hw (show u - 1 ≤ z - 1 by omega) (by omega); omega)]
          rfl
        | false =>
          right
          rw [if_pos bI_f]
          have := u36 (L_X9_holds_5 n) true u hu
          refine ⟨bI (true && hv u), ⟨fun z => absurd z (by omega), fun _ => ⟨?_, ?_⟩⟩, this⟩
          · rw [show u + 1 - 1 = u by omega, ea, alU_none (t := tm u) (i := u) (fun j hj => by
              have := tm_mono hw (show j ≤ u - 1 by omega) (by omega)
              omega), decide_eq_false (fun z => z rfl), Bool.false_or]
          · rw [show u + 1 - 1 = u by omega, show tm u = tm (u - 1) + 1 by omega]
            show (anT tm hv z (tm (u - 1)) || alU tm hv (tm (u - 1)) z) = false
            rw [j2, cutU, hq]; rfl
  · rintro n s ⟨-, i1⟩
    obtain ⟨j1, j2⟩ := i1 hz1
    subst j1
    show L_X9_holds_5 (n + 1) p (ix a) (ix b) _ (nI z) μ = _
    rw [L_X9_holds_5, h.1, if_pos (nI_le (Nat.le_refl _) (by omega)), bB_bI, gq_t]
    show _ = some (bI (anT tm hv z (tm (z - 1)) || alU tm hv (tm (z - 1)) z), μ)
    rw [j2, Bool.false_or]
end H
