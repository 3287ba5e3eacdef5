/-! what an act does: numbers alone -/
def zI (z : Int) : Int32 := Int32.ofInt z
theorem nI_zI (n : Nat) : nI n = zI n := Int32.ofInt_eq_ofNat.symm
theorem nI_Z {n n' : Nat} {z : Int} (h : (n' : Int) = n + z) : nI n + zI z = nI n' := by
  rw [nI_zI n, nI_zI n', h]
  exact (Int32.ofInt_add _ _).symm
theorem zI_neg (z : Int) : -zI z = zI (-z) := (Int32.ofInt_neg z).symm
theorem zI_toInt {z : Int} (h1 : -2147483648 ≤ z) (h2 : z < 2147483648) : (zI z).toInt = z := fb_ofI h1 h2
theorem zI_max {z : Int} (h1 : -2147483648 < z) (h2 : z < 2147483648) : imax (zI z) 0 = nI z.toNat ∧ imax 0 (zI z) = nI z.toNat := by
  have e0 : (0 : Int32).toInt = 0 := by decide
  have e := zI_toInt (by omega) h2
  unfold imax
  by_cases h : z < 0
  · have a : zI z < 0 := by rw [fa_lt, e, e0]; exact h
    rw [if_pos a, if_neg (fa_of_lt a).2.2.1, show z.toNat = 0 by omega]
    exact ⟨rfl, rfl⟩
  · have a : ¬ zI z < 0 := by rw [fa_lt, e, e0]; exact h
    rw [if_neg a]
    have e2 : zI z = nI z.toNat := by rw [nI_zI, show ((z.toNat : Nat) : Int) = z by omega]
    refine ⟨e2, ?_⟩
    by_cases b : (0 : Int32) < zI z
    · rw [if_pos b]; exact e2
    · rw [if_neg b]
      rw [fa_lt, e, e0] at b
      rw [show z.toNat = 0 by omega]; rfl
theorem zI_abs {z : Int} (h1 : -2147483648 < z) (h2 : z < 2147483648) : iabs (zI z) = nI z.natAbs ∧ (if 0 ≤ zI z then zI z else -zI z) = nI z.natAbs := by
  have e0 : (0 : Int32).toInt = 0 := by decide
  have e := zI_toInt (by omega) h2
  unfold iabs
  have z0 : (0 : Int32) - zI z = -zI z := by
    apply Int32.toBitVec_inj.1
    show (0 : BitVec 32) - _ = - _
    simp
  rw [z0, and_self]
  by_cases h : 0 ≤ z
  · rw [if_pos (by rw [fa_le, e, e0]; exact h), nI_zI, show ((z.natAbs : Nat) : Int) = z by omega]
  · rw [if_neg (by rw [fa_le, e, e0]; exact h), nI_zI, zI_neg, show ((z.natAbs : Nat) : Int) = -z by omega]
/-- a cell has z more -/
def Chg (z : Int) (a b : Nat) (f f' : Nat → Nat → Nat) : Prop := (∀ x y, ¬ (x = a ∧ y = b) → f' x y = f x y) ∧ (f' a b : Int) = f a b + z
def chf (f : Nat → Nat → Nat) (a b : Nat) (z : Int) : Nat → Nat → Nat := put2 f a b ((f a b : Int) + z).toNat
theorem chf_Chg {f : Nat → Nat → Nat} {a b : Nat} {z : Int} (h : 0 ≤ (f a b : Int) + z) : Chg z a b f (chf f a b z) := by
  unfold chf put2
  refine ⟨fun x y q => if_neg q, ?_⟩
  show ((if a = a ∧ b = b then _ else _ : Nat) : Int) = _
  rw [if_pos ⟨rfl, rfl⟩]
  omega
theorem chf_back {f : Nat → Nat → Nat} {a b : Nat} {z : Int} (h : 0 ≤ (f a b : Int) + z) : chf (chf f a b z) a b (-z) = f := by
  have q := chf_Chg h
  funext x y
  show (if x = a ∧ y = b then ((chf f a b z a b : Int) + -z).toNat else chf f a b z x y) = f x y
  by_cases e : x = a ∧ y = b
  · rw [if_pos e, q.2, e.1, e.2]; omega
  · rw [if_neg e, q.1 x y e]
theorem sm_chg {x0 w : Nat} {z : Int} {g g' : Nat → Nat} : ∀ n, (∀ k, k < n → (g' k : Int) = g k + if x0 + k = w then z else 0) → (fb_sm g' n : Int) = fb_sm g n + if x0 ≤ w ∧ w < x0 + n then z else 0 := by
  intro n
  induction n with
  | zero => intro _; rw [if_neg (by omega)]; rfl
  | succ n ih =>
    intro h
    have h1 := ih (fun k hk => h k (by omega))
    have h2 := h n (by omega)
    rw [fb_sm_succ, fb_sm_succ]
    by_cases e : x0 + n = w
    · rw [if_pos e] at h2
      rw [if_neg (by omega)] at h1
      rw [if_pos (by omega)]
      omega
    · rw [if_neg e] at h2
      by_cases e2 : x0 ≤ w ∧ w < x0 + n
      · rw [if_pos e2] at h1
        rw [if_pos (by omega)]
        omega
      · rw [if_neg e2] at h1
        rw [if_neg (by omega)]
        omega
theorem seg_chg {x0 y w : Nat} {z : Int} {g g' : Nat → Nat} (hxy : x0 ≤ y) (h : ∀ x, x < y → (g' x : Int) = g x + if x = w then z else 0) : (seg g' x0 y : Int) = seg g x0 y + if x0 ≤ w ∧ w < y then z else 0 := by
  have e := sm_chg (x0 := x0) (w := w) (z := z) (g := fun k => g (x0 + k)) (g' := fun k => g' (x0 + k)) (y - x0) (fun k hk => h (x0 + k) (by omega))
  rw [show x0 + (y - x0) = y by omega] at e
  exact e
section Ch
variable {z : Int} {a b : Nat} {f f' : Nat → Nat → Nat}
theorem Chg.cnt (h : Chg z a b f f') (ha : a ≤ 16) (hb : b ≤ 16) {c : Nat} (hc : c < 2) (v : Nat) : (cn f' c v : Int) = cn f c v + if v = (if c = 0 then a else b) then z else 0 := by
  rcases (show c = 0 ∨ c = 1 by omega) with rfl | rfl
  · rw [if_pos rfl]
    show (fb_sm (fun o => f' v o) 17 : Int) = fb_sm (fun o => f v o) 17 + _
    by_cases e : v = a
    · subst e
      rw [if_pos rfl, sm_chg (x0 := 0) (w := b) (z := z) (g := fun o => f v o) 17 (fun k hk => by
        by_cases e : k = b
        · subst e; rw [if_pos (by omega)]; exact h.2
        · rw [if_neg (by omega), h.1 v k (by omega)]; omega), if_pos (by omega)]
    · rw [if_neg e, show (fun o => f' v o) = (fun o => f v o) from funext fun o => h.1 v o (by omega)]; omega
  · rw [if_neg (show ¬ (1 : Nat) = 0 by omega)]
    show (fb_sm (fun o => f' o v) 17 : Int) = fb_sm (fun o => f o v) 17 + _
    by_cases e : v = b
    · subst e
      rw [if_pos rfl, sm_chg (x0 := 0) (w := a) (z := z) (g := fun o => f o v) 17 (fun k hk => by
        by_cases e : k = a
        · subst e; rw [if_pos (by omega)]; exact h.2
        · rw [if_neg (by omega), h.1 k v (by omega)]; omega), if_pos (by omega)]
    · rw [if_neg e, show (fun o => f' o v) = (fun o => f o v) from funext fun o => h.1 o v (by omega)]; omega
theorem Chg.rwn (h : Chg z a b f f') (ha : a ≤ 16) (hb : b ≤ 16) : (rws f' : Int) = rws f + z := by
  have e := sm_chg (x0 := 0) (w := a) (z := z) (g := cn f 0) (g' := cn f' 0) 17 (fun k hk => by
    have := h.cnt ha hb (c := 0) (by omega) k
    rw [if_pos rfl] at this
    rw [this, Nat.zero_add])
  rw [if_pos (by omega)] at e
  exact e
theorem Chg.zo {v : Nat} (h : Chg z a b f f') (ha : okv v a) (hb : okv v b) (hz : ZO v f) : ZO v f' := fun x y hx hy q => by
  rw [h.1 x y (by unfold okv at ha hb; omega)]
  exact hz x y hx hy q
end Ch
/-- the greatests behind a change -/
def grF (g' bd gr : Nat → Nat) (w : Nat) (z : Int) (i : Nat) : Nat := if bd i ≤ w ∧ w < bd (i + 1) then min (gr i + z.toNat) (seg g' (bd i) (bd (i + 1))) else gr i
def cs1 (v K D : Nat) (g' bd : Nat → Nat) (dr w : Nat) (z : Int) : Nat → Nat := if w = 16 then bd else if D < dr + z.natAbs then bo g' v K else bd
def cs2 (v K D : Nat) (g' bd gr : Nat → Nat) (dr w : Nat) (z : Int) : Nat → Nat := if w = 16 then gr else if D < dr + z.natAbs then gb g' (bo g' v K) else grF g' bd gr w z
def cs3 (D dr w : Nat) (z : Int) : Nat := if w = 16 then dr else if D < dr + z.natAbs then 0 else dr + z.natAbs
theorem LW.chg {v K D : Nat} {g g' bd gr : Nat → Nat} {dr w : Nat} {z : Int} (h : LW v K D g bd gr dr) (hg : ∀ x, x < 16 → (g' x : Int) = g x + if x = w then z else 0) (hs : fb_sm g' v ≤ 999) (hv : v ≤ 16) (hK : 1 ≤ K) (hKv : K ≤ v) (hw : okv v w) : LW v K D g' (cs1 v K D g' bd dr w z) (cs2 v K D g' bd gr dr w z) (cs3 D dr w z) := by
  have sg : ∀ i, i < K → (seg g' (bd i) (bd (i + 1)) : Int) = seg g (bd i) (bd (i + 1)) + if bd i ≤ w ∧ w < bd (i + 1) then z else 0 := fun i hi => seg_chg (by have := h.2.2.1 i hi; omega) (fun x hx => hg x (by have := bd_le h (i := i + 1) (by omega); omega))
  unfold cs1 cs2 cs3
  by_cases h16 : w = 16
  · rw [if_pos h16, if_pos h16, if_pos h16]
    refine ⟨h.1, h.2.1, h.2.2.1, fun i hi => ?_, h.2.2.2.2⟩
    have e := sg i hi
    have := bd_le h (i := i + 1) (by omega)
    rw [if_neg (by omega)] at e
    have := h.2.2.2.1 i hi
    omega
  · rw [if_neg h16, if_neg h16, if_neg h16]
    by_cases hD : D < dr + z.natAbs
    · rw [if_pos hD, if_pos hD, if_pos hD]
      exact LW.built hs hv hK hKv
    · rw [if_neg hD, if_neg hD, if_neg hD]
      refine ⟨h.1, h.2.1, h.2.2.1, fun i hi => ?_, by omega⟩
      have e := sg i hi
      unfold grF
      by_cases q : bd i ≤ w ∧ w < bd (i + 1)
      · rw [if_pos q]; exact Nat.min_le_right _ _
      · rw [if_neg q]
        rw [if_neg q] at e
        have := h.2.2.2.1 i hi
        omega
/-- the bucket of a value -/
theorem bkt {v K D : Nat} {g bd gr : Nat → Nat} {dr : Nat} (h : LW v K D g bd gr dr) {w : Nat} (hw : w < v) : ∃ i, i < K ∧ bd i ≤ w ∧ w < bd (i + 1) := by
  have key : ∀ k, k ≤ K → w < bd k → ∃ i, i < k ∧ bd i ≤ w ∧ w < bd (i + 1) := by
    intro k
    induction k with
    | zero => intro _ q; rw [h.1] at q; omega
    | succ k ih =>
      intro hk q
      by_cases e : bd k ≤ w
      · exact ⟨k, by omega, e, q⟩
      · obtain ⟨i, h1, h2⟩ := ih (by omega) (by omega)
        exact ⟨i, by omega, h2⟩
  exact key K (Nat.le_refl _) (by rw [h.2.1]; exact hw)
/-- a table behind a change -/
def tb1 (v K D : Nat) (f' : Nat → Nat → Nat) (bd : Nat → Nat → Nat) (dr : Nat → Nat) (a b : Nat) (z : Int) (c : Nat) : Nat → Nat := cs1 v K D (cn f' c) (bd c) (dr c) (if c = 0 then a else b) z
def tb2 (v K D : Nat) (f' : Nat → Nat → Nat) (bd gr : Nat → Nat → Nat) (dr : Nat → Nat) (a b : Nat) (z : Int) (c : Nat) : Nat → Nat := cs2 v K D (cn f' c) (bd c) (gr c) (dr c) (if c = 0 then a else b) z
def tb3 (D : Nat) (dr : Nat → Nat) (a b : Nat) (z : Int) (c : Nat) : Nat := cs3 D (dr c) (if c = 0 then a else b) z
theorem SW.chg {v K D : Nat} {f f' : Nat → Nat → Nat} {bd gr : Nat → Nat → Nat} {dr : Nat → Nat} {a b : Nat} {z : Int} (h : SW v K D f bd gr dr) (hc : Chg z a b f f') (ha : okv v a) (hb : okv v b) (hv : v ≤ 16) (hK : 1 ≤ K) (hKv : K ≤ v) (hr : rws f' ≤ 999) : SW v K D f' (tb1 v K D f' bd dr a b z) (tb2 v K D f' bd gr dr a b z) (tb3 D dr a b z) := by
  have a16 := ha.le hv
  have b16 := hb.le hv
  refine ⟨hc.zo ha hb h.1, hr, fun c q => LW.chg (h.2.2 c q) (fun x _ => hc.cnt a16 b16 q x) (Nat.le_trans (cn_sm f' q (by omega)) hr) hv hK hKv ?_⟩
  split
  · exact ha
  · exact hb
/-- a book behind an act at a table -/
def stT (σ : St) (t : Nat) (f : Nat → Nat → Nat) (bd gr : Nat → Nat → Nat) (dr : Nat → Nat) : St := (fun t' => if t' = t then f else sf σ t', fun t' => if t' = t then bd else sb σ t', fun t' => if t' = t then gr else sg σ t', fun t' => if t' = t then dr else sd σ t', su σ, sn σ, sl σ)
def stU (σ : St) (u : Nat) : St := (sf σ, sb σ, sg σ, sd σ, u, sn σ, sl σ)
def stL (σ : St) (e : Nat → Int32) : St := (sf σ, sb σ, sg σ, sd σ, su σ, sn σ + 1, fun j w => if j = sn σ then e w else sl σ j w)
def chT (V : Nat → Nat) (B D : Nat) (σ : St) (t a b : Nat) (z : Int) : St := stT σ t (chf (sf σ t) a b z) (tb1 (V t) (min B (V t)) D (chf (sf σ t) a b z) (sb σ t) (sd σ t) a b z) (tb2 (V t) (min B (V t)) D (chf (sf σ t) a b z) (sb σ t) (sg σ t) (sd σ t) a b z) (tb3 D (sd σ t) a b z)
def blT (V : Nat → Nat) (B : Nat) (σ : St) (t c : Nat) : St := stT σ t (sf σ t) (fun c' => if c' = c then bo (cn (sf σ t) c) (V t) (min B (V t)) else sb σ t c') (fun c' => if c' = c then gb (cn (sf σ t) c) (bo (cn (sf σ t) c) (V t) (min B (V t))) else sg σ t c') (fun c' => if c' = c then 0 else sd σ t c')
def lge (x y z : Int32) (w : Nat) : Int32 := if w = 0 then x else if w = 1 then y else z
def psh (S : Nat → St) (σ : St) (j : Nat) : St := if j = 0 then σ else S (j - 1)
section Up
variable {σ : St} {t : Nat} {f : Nat → Nat → Nat} {bd gr : Nat → Nat → Nat} {dr : Nat → Nat}
theorem stT_f : sf (stT σ t f bd gr dr) t = f := if_pos rfl
theorem stT_b : sb (stT σ t f bd gr dr) t = bd := if_pos rfl
theorem stT_g : sg (stT σ t f bd gr dr) t = gr := if_pos rfl
theorem stT_d : sd (stT σ t f bd gr dr) t = dr := if_pos rfl
theorem stT_o {t' : Nat} (h : t' ≠ t) : samT (stT σ t f bd gr dr) σ t' := ⟨if_neg h, if_neg h, if_neg h, if_neg h⟩
end Up
theorem wfs_stT {T : Nat} {V : Nat → Nat} {B D : Nat} {σ : St} (h : WFS T V B D σ) {t : Nat} {f : Nat → Nat → Nat} {bd gr : Nat → Nat → Nat} {dr : Nat → Nat} (hs : SW (V t) (min B (V t)) D f bd gr dr) : WFS T V B D (stT σ t f bd gr dr) := by
  refine ⟨fun t' ht => ?_, h.2⟩
  by_cases e : t' = t
  · subst e
    rw [stT_f, stT_b, stT_g, stT_d]
    exact hs
  · obtain ⟨e1, e2, e3, e4⟩ := stT_o (σ := σ) (f := f) (bd := bd) (gr := gr) (dr := dr) e
    rw [e1, e2, e3, e4]
    exact h.1 t' ht
theorem wfs_stL {T : Nat} {V : Nat → Nat} {B D : Nat} {σ : St} (h : WFS T V B D σ) (e : Nat → Int32) : WFS T V B D (stL σ e) := h
theorem wfs_stU {T : Nat} {V : Nat → Nat} {B D : Nat} {σ : St} (h : WFS T V B D σ) {u : Nat} (h1 : 1 ≤ u) (h2 : u ≤ 999) : WFS T V B D (stU σ u) := ⟨h.1, fun _ => ⟨h1, h2⟩⟩
theorem wfs_chT {T : Nat} {V : Nat → Nat} {B D : Nat} {σ : St} (hC : CW T V B D) (h : WFS T V B D σ) {t a b : Nat} {z : Int} (ht : t < T) (ha : okv (V t) a) (hb : okv (V t) b) (h0 : 0 ≤ (sf σ t a b : Int) + z) (hr : (rws (sf σ t) : Int) + z ≤ 999) : WFS T V B D (chT V B D σ t a b z) := by
  have hV := hC.2.2 t ht
  have hB := hC.2.1 (by omega)
  have hch := chf_Chg h0
  have hrw := hch.rwn (ha.le hV.2) (hb.le hV.2)
  exact wfs_stT h ((h.1 t ht).chg hch ha hb hV.2 (by omega) (by omega) (by omega))
theorem wfs_blT {T : Nat} {V : Nat → Nat} {B D : Nat} {σ : St} (hC : CW T V B D) (h : WFS T V B D σ) {t c : Nat} (ht : t < T) (hc : c < 2) : WFS T V B D (blT V B σ t c) := by
  have hV := hC.2.2 t ht
  have hB := hC.2.1 (by omega)
  have hs := h.1 t ht
  refine wfs_stT h ⟨hs.1, hs.2.1, fun c' q => ?_⟩
  dsimp only
  by_cases e : c' = c
  · subst e
    rw [if_pos rfl, if_pos rfl, if_pos rfl]
    exact LW.built (Nat.le_trans (cn_sm _ q (by omega)) hs.2.1) hV.2 (by omega) (by omega)
  · rw [if_neg e, if_neg e, if_neg e]
    exact hs.2.2 c' q
/-- what a page says of a change -/
theorem US.of {v a b : Nat} {z : Int} {f : Nat → Nat → Nat} (ha : okv v a) (hb : okv v b) (h0 : 0 ≤ (f a b : Int) - z) : US v (ix a) (ix b) (zI z) f (chf f a b (-z)) := by
  by_cases h : 0 ≤ z
  · refine ⟨a, b, z.toNat, ha, hb, rfl, rfl, Or.inl ⟨?_, by omega, ?_⟩⟩
    · rw [nI_zI, show ((z.toNat : Nat) : Int) = z by omega]
    · unfold chf
      rw [show ((f a b : Int) + -z).toNat = f a b - z.toNat by omega]
  · refine ⟨a, b, (-z).toNat, ha, hb, rfl, rfl, Or.inr ⟨?_, ?_⟩⟩
    · rw [nI_zI, zI_neg, show -(((-z).toNat : Nat) : Int) = z by omega]
    · unfold chf
      rw [show ((f a b : Int) + -z).toNat = f a b + (-z).toNat by omega]
theorem US.chg {v : Nat} {x y n : Int32} {f f' : Nat → Nat → Nat} (h : US v x y n f f') : ∃ a b z, okv v a ∧ okv v b ∧ x = ix a ∧ y = ix b ∧ -n = zI z ∧ Chg z a b f f' := by
  obtain ⟨a, b, m, ha, hb, hx, hy, h | h⟩ := h
  · obtain ⟨h1, h2, h3⟩ := h
    refine ⟨a, b, -(m : Int), ha, hb, hx, hy, by rw [h1, nI_zI, zI_neg], ?_⟩
    rw [h3]
    have := chf_Chg (f := f) (a := a) (b := b) (z := -(m : Int)) (by omega)
    unfold chf at this
    rw [show ((f a b : Int) + -(m : Int)).toNat = f a b - m by omega] at this
    exact this
  · obtain ⟨h1, h3⟩ := h
    refine ⟨a, b, (m : Int), ha, hb, hx, hy, by rw [h1, nI_zI, zI_neg, zI_neg, Int.neg_neg], ?_⟩
    rw [h3]
    have := chf_Chg (f := f) (a := a) (b := b) (z := (m : Int)) (by omega)
    unfold chf at this
    rw [show ((f a b : Int) + (m : Int)).toNat = f a b + m by omega] at this
    exact this
