/-! how many rows a condition holds for -/
theorem loop_bx {σ β : Type} (L : Nat → Int32 → σ → Option β) (X : Nat → Int32) (N : Nat) (I : Nat → σ → Prop) {P : Option β → Prop} (step : ∀ n k s, k < N → I k s → P (L (n + 1) (X k) s) ∨ ∃ s', I (k + 1) s' ∧ L (n + 1) (X k) s = L n (X (k + 1)) s') (fin : ∀ n s, I N s → P (L (n + 1) (X N) s)) : ∀ n k s, k ≤ N → N - k < n → I k s → P (L n (X k) s) := by
  intro n
  induction n with
  | zero => intro k _ _ h; omega
  | succ n ih =>
    intro k s hk h hI
    rcases Nat.lt_or_ge k N with h1 | h1
    · rcases step n k s h1 hI with hp | ⟨s', hI', e⟩
      · exact hp
      · rw [e]
        exact ih (k + 1) s' h1 (by omega) hI'
    · have e : k = N := by omega
      subst e
      exact fin n s hI
def xq (k : Nat) : Int32 := if k = 0 then -1 else nI (k - 1)
theorem xq_s (k : Nat) : xq k + 1 = xq (k + 1) := by
  unfold xq
  rw [if_neg (show ¬ k + 1 = 0 by omega), show k + 1 - 1 = k by omega]
  by_cases e : k = 0
  · rw [if_pos e, e]; rfl
  · rw [if_neg e, nI_1, show k - 1 + 1 = k by omega]
theorem xq_ix {k : Nat} (h : k ≤ 16) : xq k = ix (yk k) := by
  unfold xq yk ix
  by_cases e : k = 0
  · rw [if_pos e, if_pos e, if_pos rfl]
  · rw [if_neg e, if_neg e, if_neg (by omega)]
theorem xq_lt {v k : Nat} (hv : v ≤ 16) (h : k ≤ v) : ¬ nI v ≤ xq k := by
  unfold xq
  by_cases e : k = 0
  · rw [if_pos e]
    intro q
    rw [fa_le, nI_toInt (by omega)] at q
    have : (-1 : Int32).toInt = -1 := by decide
    omega
  · rw [if_neg e]; exact nI_ge (by omega) (by omega)
theorem xq_end {v : Nat} (hv : v ≤ 16) : nI v ≤ xq (v + 1) := by
  unfold xq
  rw [if_neg (by omega), show v + 1 - 1 = v by omega]
  exact nI_le (Nat.le_refl _) (by omega)
theorem sm_yk {g : Nat → Nat} {v : Nat} (hv : v ≤ 16) (hz : ∀ a, v ≤ a → a < 16 → g a = 0) : fb_sm (fun k => g (yk k)) (v + 1) = fb_sm g 17 := by
  have a : fb_sm (fun k => g (yk k)) (1 + v) = fb_sm (fun k => g (yk k)) 1 + fb_sm (fun k => g (yk (1 + k))) v := fb_sm_split _ 1 v
  have b : fb_sm (fun k => g (yk (1 + k))) v = fb_sm g v := fb_sm_cong fun k _ => by
    unfold yk
    rw [if_neg (by omega), show 1 + k - 1 = k by omega]
  have c : fb_sm (fun k => g (yk k)) 1 = g 16 := by show 0 + g (yk 0) = g 16; rw [Nat.zero_add]; rfl
  have d : fb_sm g (v + (16 - v)) = fb_sm g v + fb_sm (fun k => g (v + k)) (16 - v) := fb_sm_split _ v _
  have e : fb_sm (fun k => g (v + k)) (16 - v) = fb_sm (fun _ => 0) (16 - v) := fb_sm_cong fun k hk => hz (v + k) (by omega) (by omega)
  rw [fb_sm_const, Nat.mul_zero] at e
  rw [show v + (16 - v) = 16 by omega, e] at d
  have f : fb_sm g 17 = fb_sm g 16 + g 16 := rfl
  rw [show v + 1 = 1 + v by omega, a, b, c, f, d]
  omega
theorem sm2_yk {G : Nat → Nat → Nat} {v : Nat} (hv : v ≤ 16) (hz : ∀ a b, a ≤ 16 → b ≤ 16 → ((v ≤ a ∧ a < 16) ∨ (v ≤ b ∧ b < 16)) → G a b = 0) : fb_sm (fun a => fb_sm (fun b => G (yk a) (yk b)) (v + 1)) (v + 1) = fb_sm (fun a => fb_sm (fun b => G a b) 17) 17 := by
  rw [← sm_yk (g := fun a => fb_sm (fun b => G a b) 17) hv (fun a h1 h2 => by
    rw [show fb_sm (fun b => G a b) 17 = fb_sm (fun _ => 0) 17 from fb_sm_cong fun b hb => hz a b (by omega) (by omega) (Or.inl ⟨h1, h2⟩), fb_sm_const])]
  refine fb_sm_cong fun a ha => ?_
  exact sm_yk (g := fun b => G (yk a) b) hv (fun b h1 h2 => hz (yk a) b (yk_le (by omega)) (by omega) (Or.inr ⟨h1, h2⟩))
/-- cells that have rows; rows it holds for -/
def tN (f : Nat → Nat → Nat) : Nat := n2 f 17 17
def tS (f : Nat → Nat → Nat) (H : Nat → Nat → Bool) : Nat := s2 f (fun a b => if H a b = true then f a b else 0) 17 17
theorem tN_le (f : Nat → Nat → Nat) : tN f ≤ 289 := by
  have a : ∀ a, a < 17 → fb_sm (fun b => if 0 < f a b then 1 else 0) 17 ≤ 17 := fun a _ => by
    have := fb_sm_bound (f := fun b => if 0 < f a b then 1 else 0) (c := 1) (n := 17) (fun b _ => by
      show (if 0 < f a b then 1 else 0) ≤ 1
      split <;> omega)
    omega
  have := fb_sm_bound (c := 17) (n := 17) a
  unfold tN n2
  omega
theorem tS_le (f : Nat → Nat → Nat) (H : Nat → Nat → Bool) : tS f H ≤ rws f := by
  unfold tS s2 rws
  refine fb_sm_le fun a _ => fb_sm_le fun b _ => ?_
  show (if 0 < f a b then (if H a b = true then f a b else 0) else 0) ≤ f a b
  split
  · split <;> omega
  · omega
section T
variable {μ : Mem} {z : Nat} {tm cl sg : Nat → Nat} {nu : Nat → Int32} {p i : Nat}
theorem rhX {v K : Nat} {f : Nat → Nat → Nat} {bd gr : Nat → Nat → Nat} {dr : Nat → Nat} {s : Nat} (h : XT v K f bd gr dr s μ) (hX : XW z tm cl sg nu p μ) (hw : WH z tm cl sg) (hv : v ≤ 16) (hz : ZO v f) (lf : ∀ a b, a ≤ 16 → b ≤ 16 → f a b ≤ 999) {u : Nat} (hu : u ≤ 999) : G_X7_rowsHeldBy s p (nI u) μ = some (if tN f ≤ u then lN (tS f (hld z tm cl sg nu)) else -1, μ) := by
  have hvr : rI μ s 2 = nI v := h.1
  obtain ⟨f', hf'⟩ : ∃ f' : Nat → Nat → Nat, f' = fun a b => f (yk a) (yk b) := ⟨_, rfl⟩
  obtain ⟨W, hW⟩ : ∃ W : Nat → Nat → Nat, W = fun a b => if hld z tm cl sg nu (yk a) (yk b) = true then f (yk a) (yk b) else 0 := ⟨_, rfl⟩
  have eN : n2 f' (v + 1) (v + 1) = tN f := by
    rw [hf']
    exact sm2_yk (G := fun a b => if 0 < f a b then 1 else 0) hv (fun a b ha hb q => by rw [hz a b ha hb q]; rfl)
  have eS : s2 f' W (v + 1) (v + 1) = tS f (hld z tm cl sg nu) := by
    rw [hf', hW]
    exact sm2_yk (G := fun a b => if 0 < f a b then (if hld z tm cl sg nu a b = true then f a b else 0) else 0) hv (fun a b ha hb q => by rw [hz a b ha hb q]; rfl)
  have inn : ∀ kc a, a < v + 1 → n2 f' (v + 1) a ≤ u → (L_X7_rowsHeldBy_20 kc 100000 s p (nI u) (nI (n2 f' (v + 1) a)) (lN (s2 f' W (v + 1) a)) (xq a) (-1) μ = some (-1, μ) ∧ u < n2 f' (v + 1) (v + 1)) ∨ (L_X7_rowsHeldBy_20 kc 100000 s p (nI u) (nI (n2 f' (v + 1) a)) (lN (s2 f' W (v + 1) a)) (xq a) (-1) μ = kc s p (nI u) (nI (n2 f' (v + 1) (a + 1))) (lN (s2 f' W (v + 1) (a + 1))) (xq (a + 1)) μ ∧ n2 f' (v + 1) (a + 1) ≤ u) := fun kc a ha hle => by
    have e2 : n2 f' (v + 1) (a + 1) = n2 f' (v + 1) a + n1 f' a (v + 1) := rfl
    have mo := n2_mono f' (v + 1) (show a + 1 ≤ v + 1 by omega)
    refine loop_bx (fun n b (st : Int32 × Int64) => L_X7_rowsHeldBy_20 kc n s p (nI u) st.1 st.2 (xq a) b μ) xq (v + 1) (fun b st => st.1 = nI (n2 f' (v + 1) a + n1 f' a b) ∧ n2 f' (v + 1) a + n1 f' a b ≤ u ∧ st.2 = lN (s2 f' W (v + 1) a + s1 f' W a b)) (P := fun o => (o = some (-1, μ) ∧ u < n2 f' (v + 1) (v + 1)) ∨ (o = kc s p (nI u) (nI (n2 f' (v + 1) (a + 1))) (lN (s2 f' W (v + 1) (a + 1))) (xq (a + 1)) μ ∧ n2 f' (v + 1) (a + 1) ≤ u)) ?_ ?_ 100000 0 (nI (n2 f' (v + 1) a), lN (s2 f' W (v + 1) a)) (by omega) (by omega) ⟨rfl, hle, rfl⟩
    · rintro n b ⟨x3, l4⟩ hb ⟨q1, q2, q3⟩
      have q1 : x3 = nI (n2 f' (v + 1) a + n1 f' a b) := q1
      have q3 : l4 = lN (s2 f' W (v + 1) a + s1 f' W a b) := q3
      subst q1 q3
      have ya := yk_le (a := a) (by omega)
      have yb := yk_le (a := b) (by omega)
      have fe : f' a b = f (yk a) (yk b) := by rw [hf']
      have fl := lf (yk a) (yk b) ya yb
      have al : G_X7_alike s (xq a) (xq b) μ = some (nI (f' a b), μ) := by rw [xq_ix (by omega), xq_ix (by omega), fe]; exact alike_eq h ya yb
      have hh : G_X9_holds p (xq a) (xq b) μ = some (bI (hld z tm cl sg nu (yk a) (yk b)), μ) := by rw [xq_ix (by omega), xq_ix (by omega)]; exact hldX hX hw ya yb
      have e4 : n1 f' a (b + 1) = n1 f' a b + if 0 < f' a b then 1 else 0 := rfl
      have e5 : s1 f' W a (b + 1) = s1 f' W a b + if 0 < f' a b then W a b else 0 := rfl
      have we : W a b = if hld z tm cl sg nu (yk a) (yk b) = true then f' a b else 0 := by rw [hW, fe]
      have mo1 := n1_mono f' a (show b + 1 ≤ v + 1 by omega)
      have top : ∀ x3 l4, L_X7_rowsHeldBy_20 kc (n + 1) s p (nI u) x3 l4 (xq a) (xq b) μ = if f' a b = 0 then L_X7_rowsHeldBy_20 kc n s p (nI u) x3 l4 (xq a) (xq (b + 1)) μ else if x3 + 1 ≤ nI u then L_X7_rowsHeldBy_20 kc n s p (nI u) (x3 + 1) (l4 + lN (W a b)) (xq a) (xq (b + 1)) μ else some (-1, μ) := fun x3 l4 => by
        rw [L_X7_rowsHeldBy_20, hvr, if_neg (xq_lt hv (by omega)), bd_eq al, lb_e, bd_eq hh]
        unfold F_X7_rowsHeldBy_76 F_X7_rowsHeldBy_79
        simp only [lb_e, xq_s]
        by_cases q : f' a b = 0
        · rw [if_pos (show nI (f' a b) ≤ 0 by rw [q]; decide), if_pos q]
        · rw [if_neg (nI_nle (by omega) (by omega)), if_neg q, we]
          cases hld z tm cl sg nu (yk a) (yk b) with
          | false => rw [if_pos bI_f]; rfl
          | true => rw [if_neg (show ¬ bI true = 0 by decide), nI_l (by omega)]; rfl
      show ((L_X7_rowsHeldBy_20 kc (n + 1) s p (nI u) (nI (n2 f' (v + 1) a + n1 f' a b)) (lN (s2 f' W (v + 1) a + s1 f' W a b)) (xq a) (xq b) μ = _ ∧ _) ∨ _) ∨ ∃ s', _ ∧ L_X7_rowsHeldBy_20 kc (n + 1) s p (nI u) (nI (n2 f' (v + 1) a + n1 f' a b)) (lN (s2 f' W (v + 1) a + s1 f' W a b)) (xq a) (xq b) μ = _
      rw [top]
      by_cases q : f' a b = 0
      · right
        rw [if_neg (by omega)] at e4 e5
        rw [if_pos q]
        exact ⟨(nI (n2 f' (v + 1) a + n1 f' a b), lN (s2 f' W (v + 1) a + s1 f' W a b)), ⟨by rw [e4]; rfl, by rw [e4]; exact q2, by rw [e5]; rfl⟩, rfl⟩
      · rw [if_pos (by omega)] at e4 e5
        rw [if_neg q, nI_1, lN_add]
        by_cases q4 : n2 f' (v + 1) a + n1 f' a b + 1 ≤ u
        · right
          rw [if_pos (nI_le q4 (by omega))]
          exact ⟨(nI (n2 f' (v + 1) a + n1 f' a b + 1), lN (s2 f' W (v + 1) a + s1 f' W a b + W a b)), ⟨by rw [e4, ← Nat.add_assoc], by omega, by rw [e5, ← Nat.add_assoc]⟩, rfl⟩
        · left
          rw [if_neg (nI_ge (by omega) (by omega))]
          exact Or.inl ⟨rfl, by omega⟩
    · rintro n ⟨x3, l4⟩ ⟨q1, q2, q3⟩
      have q1 : x3 = nI (n2 f' (v + 1) a + n1 f' a (v + 1)) := q1
      have q3 : l4 = lN (s2 f' W (v + 1) a + s1 f' W a (v + 1)) := q3
      subst q1 q3
      right
      refine ⟨?_, by omega⟩
      show L_X7_rowsHeldBy_20 kc (n + 1) s p (nI u) (nI (n2 f' (v + 1) a + n1 f' a (v + 1))) (lN (s2 f' W (v + 1) a + s1 f' W a (v + 1))) (xq a) (xq (v + 1)) μ = _
      rw [L_X7_rowsHeldBy_20, hvr, if_pos (xq_end hv), lb_e, xq_s]
      rfl
  rw [← eN, ← eS]
  unfold G_X7_rowsHeldBy
  refine loop_bx (fun n a (st : Int32 × Int64) => L_X7_rowsHeldBy_8 n s p (nI u) st.1 st.2 a μ) xq (v + 1) (fun a st => st.1 = nI (n2 f' (v + 1) a) ∧ n2 f' (v + 1) a ≤ u ∧ st.2 = lN (s2 f' W (v + 1) a)) (P := fun o => o = some (if n2 f' (v + 1) (v + 1) ≤ u then lN (s2 f' W (v + 1) (v + 1)) else -1, μ)) ?_ ?_ 100000 0 (0, 0) (by omega) (by omega) ⟨rfl, Nat.zero_le _, rfl⟩
  · rintro n a ⟨x3, l4⟩ ha ⟨q1, q2, q3⟩
    have q1 : x3 = nI (n2 f' (v + 1) a) := q1
    have q3 : l4 = lN (s2 f' W (v + 1) a) := q3
    subst q1 q3
    show L_X7_rowsHeldBy_8 (n + 1) s p (nI u) (nI (n2 f' (v + 1) a)) (lN (s2 f' W (v + 1) a)) (xq a) μ = _ ∨ ∃ s', _ ∧ L_X7_rowsHeldBy_8 (n + 1) s p (nI u) (nI (n2 f' (v + 1) a)) (lN (s2 f' W (v + 1) a)) (xq a) μ = _
    rw [L_X7_rowsHeldBy_8, hvr, if_neg (xq_lt hv (by omega))]
    rcases inn (L_X7_rowsHeldBy_8 n) a ha q2 with ⟨e, l⟩ | ⟨e, l⟩
    · left; rw [e, if_neg (by omega)]
    · right
      exact ⟨(nI (n2 f' (v + 1) (a + 1)), lN (s2 f' W (v + 1) (a + 1))), ⟨rfl, l, rfl⟩, e⟩
  · rintro n ⟨x3, l4⟩ ⟨q1, q2, q3⟩
    have q3 : l4 = lN (s2 f' W (v + 1) (v + 1)) := q3
    subst q3
    show L_X7_rowsHeldBy_8 (n + 1) s p (nI u) x3 (lN (s2 f' W (v + 1) (v + 1))) (xq (v + 1)) μ = _
    rw [L_X7_rowsHeldBy_8, hvr, if_pos (xq_end hv), if_pos q2]
/-- the model's rows one by one -/
def kN (f : Nat → Nat → Nat) (k : Nat) : Nat := fb_sm (fun j => if 0 < f (j / 17) (j % 17) then 1 else 0) k
def kS (f : Nat → Nat → Nat) (H : Nat → Nat → Bool) (k : Nat) : Nat := fb_sm (fun j => if 0 < f (j / 17) (j % 17) then (if H (j / 17) (j % 17) = true then f (j / 17) (j % 17) else 0) else 0) k
theorem kN_all (f : Nat → Nat → Nat) : kN f 289 = tN f := sm_row (fun a b => if 0 < f a b then 1 else 0) 0 17
theorem kS_all (f : Nat → Nat → Nat) (H : Nat → Nat → Bool) : kS f H 289 = tS f H := sm_row (fun a b => if 0 < f a b then (if H a b = true then f a b else 0) else 0) 0 17
theorem kN_mono (f : Nat → Nat → Nat) {a b : Nat} (h : a ≤ b) : kN f a ≤ kN f b := by
  have := fb_sm_mono (fun j => if 0 < f (j / 17) (j % 17) then 1 else 0) a (b - a)
  rw [show a + (b - a) = b by omega] at this
  exact this
theorem tr54 {kc : Int32 → Int32 → Int32 → Int32 → Int32 → Mem → Option (Int32 × Mem)} {f : Nat → Nat → Nat} {t k : Nat} {x3 x4 : Int32} (hk : k < 289) (hE : rI μ 116 (357 * t + k) = nI (f (k / 17) (k % 17))) (ht : t < 3) {n : Nat} (hM : MW z tm cl sg nu i μ) (hi : i < 5) (hw : WH z tm cl sg) : L_X11_truth_6 (n + 1) (nI t) (nI i) x3 x4 (nI k) μ = F_X11_truth_54 (L_X11_truth_6 n) (nI t) (nI i) x3 x4 (nI k) (ix (k / 17)) (ix (k % 17)) μ := by
  rw [L_X11_truth_6, if_neg (l_nle hk (by omega))]
  unfold F_X11_truth_33
  rw [i17, pk_rem (by omega) (by omega) (by omega), pk_div (by omega) (by omega) (by omega)]
  have e : ∀ (g : Int32 → Option (Int32 × Mem)) (a : Nat), a ≤ 16 → (if nI a = (16 : Int32) then g (-1) else g (nI a)) = g (ix a) := fun g a ha => by
    by_cases q : a = 16
    · rw [if_pos (r_eq (m := 16) q), q]; rfl
    · rw [if_neg (r_ne (m := 16) q (by omega) (by omega)), ix_n q]
  rw [e (fun x => F_X11_truth_54 (L_X11_truth_6 n) (nI t) (nI i) x3 x4 (nI k) (-1) x μ) (k % 17) (by omega), e (fun x => F_X11_truth_54 (L_X11_truth_6 n) (nI t) (nI i) x3 x4 (nI k) (nI (k / 17)) x μ) (k % 17) (by omega)]
  exact e (fun x => F_X11_truth_54 (L_X11_truth_6 n) (nI t) (nI i) x3 x4 (nI k) x (ix (k % 17)) μ) (k / 17) (by omega)
theorem tr85 {kc : Int32 → Int32 → Int32 → Int32 → Int32 → Mem → Option (Int32 × Mem)} {f : Nat → Nat → Nat} {t k : Nat} {x3 : Int32} {s : Nat} (hk : k < 289) (hE : rI μ 116 (357 * t + k) = nI (f (k / 17) (k % 17))) (ht : t < 3) (hM : MW z tm cl sg nu i μ) (hi : i < 5) (hw : WH z tm cl sg) : F_X11_truth_85 kc (nI t) (nI i) x3 (nI s) (nI k) (ix (k / 17)) (ix (k % 17)) μ = kc (nI t) (nI i) x3 (nI (s + if hld z tm cl sg nu (k / 17) (k % 17) = true then f (k / 17) (k % 17) else 0)) (nI (k + 1)) μ := by
  unfold F_X11_truth_85 F_X11_truth_116 F_X11_truth_119
  rw [bd_eq (hldM hM hi hw (by omega) (by omega)), show (357 : Int32) = nI 357 from rfl, pk_mul, nI_add, gq_in (by omega) (by omega), nx_nI (by omega), hE, lb_e, lb_e, lb_e, lb_e, nI_1, nI_add]
  cases hld z tm cl sg nu (k / 17) (k % 17) with
  | false => rw [if_pos bI_f, i0, nI_add]; rfl
  | true => rw [if_neg (by decide)]; rfl
theorem trM0 {c0 T : Nat} {V : Nat → Nat} {B D m : Nat} {S : Nat → St} (h : RB c0 T V B D m S μ) {t : Nat} (ht : t < T) (hM : MW z tm cl sg nu i μ) (hi : i < 5) (hw : WH z tm cl sg) : G_X11_truth (nI t) (nI i) 0 μ = some (nI (tS (sf (S 0) t) (hld z tm cl sg nu)), μ) := by
  have hT := h.T3
  unfold G_X11_truth
  have key := loop_up (fun n k (s : Int32) => L_X11_truth_6 n (nI t) (nI i) 0 s k μ) 289 (fun k => nI (kS (sf (S 0) t) (hld z tm cl sg nu) k)) (res := some (nI (tS (sf (S 0) t) (hld z tm cl sg nu)), μ)) (fun n k hk => by
    show L_X11_truth_6 (n + 1) _ _ _ _ _ _ = _
    have hE := (h.tab ht).c hk
    have cl' := cell_le (sf (S 0) t) (a := k / 17) (b := k % 17) (by omega) (by omega)
    have hr := (h.sw ht).2.1
    have e5 : kS (sf (S 0) t) (hld z tm cl sg nu) (k + 1) = kS (sf (S 0) t) (hld z tm cl sg nu) k + if 0 < sf (S 0) t (k / 17) (k % 17) then (if hld z tm cl sg nu (k / 17) (k % 17) = true then sf (S 0) t (k / 17) (k % 17) else 0) else 0 := rfl
    rw [tr54 (kc := L_X11_truth_6 n) hk hE (by omega) hM hi hw]
    unfold F_X11_truth_54
    rw [show (357 : Int32) = nI 357 from rfl, pk_mul, nI_add, gq_in (by omega) (by omega), nx_nI (by omega), hE, if_pos rfl, tr85 hk hE (by omega) hM hi hw]
    by_cases q : sf (S 0) t (k / 17) (k % 17) = 0
    · rw [if_neg (by omega)] at e5
      rw [if_pos (show nI (sf (S 0) t (k / 17) (k % 17)) ≤ 0 by rw [q]; decide), e5]
      unfold F_X11_truth_119
      rw [lb_e, nI_1]; rfl
    · rw [if_pos (by omega)] at e5
      rw [if_neg (nI_nle (by omega) (by omega)), e5]) (fun n => by
    show L_X11_truth_6 (n + 1) _ _ _ _ _ _ = _
    rw [L_X11_truth_6, if_pos (by decide), kS_all])
  exact key 100000 0 (by omega) (by omega)
theorem trM1 {c0 T : Nat} {V : Nat → Nat} {B D m : Nat} {S : Nat → St} (h : RB c0 T V B D m S μ) {t u : Nat} (ht : t < T) (hM : MW z tm cl sg nu i μ) (hi : i < 5) (hw : WH z tm cl sg) (hu : u ≤ 999) (h27 : rI μ 107 27 = nI u) (h28 : rI μ 107 28 = 0) : ∃ μ', G_X11_truth (nI t) (nI i) 1 μ = some (if tN (sf (S 0) t) ≤ u then nI (tS (sf (S 0) t) (hld z tm cl sg nu)) else -1, μ') ∧ Fr (fun q j => q = 107 ∧ (j = 27 ∨ j = 28)) μ μ' ∧ rI μ' 107 28 = nI (if tN (sf (S 0) t) ≤ u then 0 else 1) := by
  have hT := h.T3
  have hz := hw.2.1
  rw [← kN_all, ← kS_all]
  generalize hf : sf (S 0) t = f at *
  have lf : ∀ a b, a ≤ 16 → b ≤ 16 → f a b ≤ 999 := fun a b ha hb => by
    rw [← hf]
    exact Nat.le_trans (cell_le _ ha hb) (h.sw ht).2.1
  unfold G_X11_truth
  refine loop_br (fun n k (s : Int32 × Mem) => L_X11_truth_6 n (nI t) (nI i) 1 s.1 k s.2) 289 (fun k s => kN f k ≤ u ∧ s.1 = nI (kS f (hld z tm cl sg nu) k) ∧ Fr (fun q j => q = 107 ∧ (j = 27 ∨ j = 28)) μ s.2 ∧ rI s.2 107 27 = nI (u - kN f k) ∧ rI s.2 107 28 = 0) (P := fun o => ∃ μ', o = some (if kN f 289 ≤ u then nI (kS f (hld z tm cl sg nu) 289) else -1, μ') ∧ Fr (fun q j => q = 107 ∧ (j = 27 ∨ j = 28)) μ μ' ∧ rI μ' 107 28 = nI (if kN f 289 ≤ u then 0 else 1)) ?_ ?_ 100000 0 (0, μ) (by omega) (by omega) ⟨Nat.zero_le _, rfl, Fr.rf, h27, h28⟩
  · rintro n k ⟨x4, s⟩ hk ⟨le, e2, fs, y27, y28⟩
    have e2 : x4 = nI (kS f (hld z tm cl sg nu) k) := e2
    subst e2
    have fs : Fr (fun q j => q = 107 ∧ (j = 27 ∨ j = 28)) μ s := fs
    have y27 : rI s 107 27 = nI (u - kN f k) := y27
    have hB : RB c0 T V B D m S s := h.ag (fun q j e => fs.i (by omega))
    have hMs : MW z tm cl sg nu i s := ⟨(fs.i (by omega)).trans hM.1, fun u hu => by
      rw [fs.i (by omega), fs.i (by omega), fs.i (by omega), fs.i (by omega)]; exact hM.2 u hu⟩
    have hE : rI s 116 (357 * t + k) = nI (f (k / 17) (k % 17)) := by rw [← hf]; exact (hB.tab ht).c hk
    have fl := lf (k / 17) (k % 17) (by omega) (by omega)
    have e4 : kN f (k + 1) = kN f k + if 0 < f (k / 17) (k % 17) then 1 else 0 := rfl
    have e5 : kS f (hld z tm cl sg nu) (k + 1) = kS f (hld z tm cl sg nu) k + if 0 < f (k / 17) (k % 17) then (if hld z tm cl sg nu (k / 17) (k % 17) = true then f (k / 17) (k % 17) else 0) else 0 := rfl
    have mo := kN_mono f (show k + 1 ≤ 289 by omega)
    show (∃ μ', L_X11_truth_6 (n + 1) (nI t) (nI i) 1 (nI (kS f (hld z tm cl sg nu) k)) (nI k) s = _ ∧ _) ∨ ∃ s', _ ∧ L_X11_truth_6 (n + 1) (nI t) (nI i) 1 (nI (kS f (hld z tm cl sg nu) k)) (nI k) s = _
    rw [tr54 (kc := L_X11_truth_6 n) hk hE (by omega) hMs hi hw]
    unfold F_X11_truth_54
    rw [show (357 : Int32) = nI 357 from rfl, pk_mul, nI_add, gq_in (by omega) (by omega), nx_nI (by omega), hE]
    by_cases q : f (k / 17) (k % 17) = 0
    · right
      rw [if_neg (by omega)] at e4 e5
      rw [if_pos (show nI (f (k / 17) (k % 17)) ≤ 0 by rw [q]; decide)]
      unfold F_X11_truth_119
      rw [lb_e, nI_1]
      exact ⟨(nI (kS f (hld z tm cl sg nu) k), s), ⟨by rw [e4]; exact le, by rw [e5]; rfl, fs, by rw [e4]; exact y27, y28⟩, rfl⟩
    · rw [if_pos (by omega)] at e4 e5
      obtain ⟨s1, eo, f1, z28, z27⟩ := over_ok y27 (by omega)
      rw [if_neg (nI_nle (by omega) (by omega)), if_neg (show ¬ (1 : Int32) = 0 by decide), bd_eq eo]
      by_cases q2 : u - kN f k = 0
      · left
        rw [if_pos q2] at z28
        rw [if_pos q2, if_neg (by decide)]
        refine ⟨s1, by rw [if_neg (by omega)], fs.tr f1, by rw [z28, if_neg (by omega)]; rfl⟩
      · right
        rw [if_neg q2] at z28
        have hM1 : MW z tm cl sg nu i s1 := ⟨(f1.i (by omega)).trans hMs.1, fun u hu => by
          rw [f1.i (by omega), f1.i (by omega), f1.i (by omega), f1.i (by omega)]; exact hMs.2 u hu⟩
        rw [if_neg q2, if_pos rfl, tr85 (f := f) hk ((f1.i (by omega)).trans hE) (by omega) hM1 hi hw]
        refine ⟨(nI (kS f (hld z tm cl sg nu) k + if hld z tm cl sg nu (k / 17) (k % 17) = true then f (k / 17) (k % 17) else 0), s1), ⟨by omega, by rw [e5], fs.tr f1, ?_, z28⟩, rfl⟩
        show rI s1 107 27 = _
        rw [z27 (by omega), e4]
        congr 1
  · rintro n ⟨x4, s⟩ ⟨le, e2, fs, y27, y28⟩
    have e2 : x4 = nI (kS f (hld z tm cl sg nu) 289) := e2
    subst e2
    refine ⟨s, ?_, fs, by rw [if_pos le]; exact y28⟩
    show L_X11_truth_6 (n + 1) (nI t) (nI i) 1 (nI (kS f (hld z tm cl sg nu) 289)) (nI 289) s = _
    rw [L_X11_truth_6, if_pos (by decide), if_pos le]
end T
