/-! the chain -/
section Ch
variable {c0 : Nat} {μ : Mem} {T : Nat} {V : Nat → Nat} {B D m : Nat} {S : Nat → St}
theorem goaX {v K : Nat} {g bd gr : Nat → Nat} {dr p : Nat} (h : XL v K g bd gr dr p μ) (hK : K ≤ 8) (hg : ∀ i, i < K → gr i ≤ 999) : G_X4_greatestOfAll p μ = some (nI (mf gr K), μ) := by
  unfold G_X4_greatestOfAll
  have key := loop_up (fun n i (s : Int32) => L_X4_greatestOfAll_4 n p s i μ) K (fun i => nI (mf gr i)) (res := some (nI (mf gr K), μ)) (fun n i hi => by
    show L_X4_greatestOfAll_4 (n + 1) _ _ _ _ = _
    have a1 : mf gr i ≤ 999 := mf_bd fun j hj => hg j (by omega)
    have a2 := hg i hi
    rw [L_X4_greatestOfAll_4, bd_eq (lane_size h), if_neg (nI_ge hi (by omega)), bd_eq (lane_greatest h hK hi), imax_nI (by omega) (by omega), lb_e, lb_e, nI_1]
    rfl) (fun n => by
    show L_X4_greatestOfAll_4 (n + 1) _ _ _ _ = _
    rw [L_X4_greatestOfAll_4, bd_eq (lane_size h), if_pos (nI_le (Nat.le_refl _) (by omega))])
  exact key 100000 0 (by omega) (by omega)
theorem goaM (h : RB c0 T V B D m S μ) {t c : Nat} (ht : t < T) (hc : c < 2) (hg : ∀ i, i < min B (V t) → sg (S 0) t c i ≤ 999) : G_X11_greatestOf (nI t) (nI c) μ = some (lN (mf (sg (S 0) t c) (min B (V t))), μ) := by
  have hT := h.T3
  have hK := h.K8 ht
  have hM := h.tab ht
  unfold G_X11_greatestOf
  have key := loop_up (fun n i (s : Int32) => L_X11_greatestOf_5 n (nI t) (nI c) s i μ) (min B (V t)) (fun i => nI (mf (sg (S 0) t c) i)) (res := some (lN (mf (sg (S 0) t c) (min B (V t))), μ)) (fun n i hi => by
    show L_X11_greatestOf_5 (n + 1) _ _ _ _ _ = _
    have a1 : mf (sg (S 0) t c) i ≤ 999 := mf_bd fun j hj => hg j (by omega)
    have a2 := hg i hi
    rw [L_X11_greatestOf_5, bd_eq (col_many hM (by omega) hc), if_neg (nI_ge hi (by omega)), bd_eq (col_of3 hM (by omega) hc hK.2.1 hi), imax_nI (by omega) (by omega), lb_e, lb_e, nI_1]
    rfl) (fun n => by
    show L_X11_greatestOf_5 (n + 1) _ _ _ _ _ = _
    have a1 : mf (sg (S 0) t c) (min B (V t)) ≤ 999 := mf_bd fun j hj => hg j (by omega)
    rw [L_X11_greatestOf_5, bd_eq (col_many hM (by omega) hc), if_pos (nI_le (Nat.le_refl _) (by omega)), nI_l (by omega)])
  exact key 100000 0 (by omega) (by omega)
/-- steps and sums, by rows -/
def n2 (f : Nat → Nat → Nat) (w a : Nat) : Nat := fb_sm (fun a => fb_sm (fun b => if 0 < f a b then 1 else 0) w) a
def n1 (f : Nat → Nat → Nat) (a b : Nat) : Nat := fb_sm (fun b => if 0 < f a b then 1 else 0) b
def s2 (f W : Nat → Nat → Nat) (w a : Nat) : Nat := fb_sm (fun a => fb_sm (fun b => if 0 < f a b then W a b else 0) w) a
def s1 (f W : Nat → Nat → Nat) (a b : Nat) : Nat := fb_sm (fun b => if 0 < f a b then W a b else 0) b
theorem n2_mono (f : Nat → Nat → Nat) (w : Nat) {a b : Nat} (h : a ≤ b) : n2 f w a ≤ n2 f w b := by
  have := fb_sm_mono (fun a => fb_sm (fun b => if 0 < f a b then 1 else 0) w) a (b - a)
  rw [show a + (b - a) = b by omega] at this
  exact this
theorem n1_mono (f : Nat → Nat → Nat) (r : Nat) {a b : Nat} (h : a ≤ b) : n1 f r a ≤ n1 f r b := by
  have := fb_sm_mono (fun b => if 0 < f r b then 1 else 0) a (b - a)
  rw [show a + (b - a) = b by omega] at this
  exact this
section X
variable {v K : Nat} {f : Nat → Nat → Nat} {bd gr : Nat → Nat → Nat} {dr : Nat → Nat} {s : Nat} {vA KA : Nat} {gA bA rA : Nat → Nat} {dA pA : Nat} {vB KB : Nat} {gB bB' rB : Nat → Nat} {dB pB : Nat}
def cW (f : Nat → Nat → Nat) (vA : Nat) (gA : Nat → Nat) (vB : Nat) (gB : Nat → Nat) (a b : Nat) : Nat := f a b * (if a < vA then gA a else 0) * (if b < vB then gB b else 0)
theorem ctX (h : XT v K f bd gr dr s μ) (hA : XL vA KA gA bA rA dA pA μ) (hB : XL vB KB gB bB' rB dB pB μ) (hv : v ≤ 16) (hvA : vA ≤ 16) (hvB : vB ≤ 16) (lf : ∀ a b, a ≤ 16 → b ≤ 16 → f a b ≤ 999) (lA : ∀ k, k < vA → gA k ≤ 999) (lB : ∀ k, k < vB → gB k ≤ 999) {u : Nat} (hu : u ≤ 999) : G_X7_chainTruth s pA pB (nI u) μ = some (if n2 f v v ≤ u then lN (s2 f (cW f vA gA vB gB) v v) else -1, μ) := by
  have hvr : rI μ s 2 = nI v := h.1
  have inn : ∀ kc a, a < v → n2 f v a ≤ u → (L_X7_chainTruth_21 kc 100000 s pA pB (nI u) (nI (n2 f v a)) (lN (s2 f (cW f vA gA vB gB) v a)) (nI a) 0 μ = some (-1, μ) ∧ u < n2 f v v) ∨ (L_X7_chainTruth_21 kc 100000 s pA pB (nI u) (nI (n2 f v a)) (lN (s2 f (cW f vA gA vB gB) v a)) (nI a) 0 μ = kc s pA pB (nI u) (nI (n2 f v (a + 1))) (lN (s2 f (cW f vA gA vB gB) v (a + 1))) (nI (a + 1)) μ ∧ n2 f v (a + 1) ≤ u) := fun kc a ha hle => by
    have e2 : n2 f v (a + 1) = n2 f v a + n1 f a v := rfl
    have e3 : s2 f (cW f vA gA vB gB) v (a + 1) = s2 f (cW f vA gA vB gB) v a + s1 f (cW f vA gA vB gB) a v := rfl
    have mo := n2_mono f v (show a + 1 ≤ v by omega)
    refine loop_br (fun n b (st : Int32 × Int64) => L_X7_chainTruth_21 kc n s pA pB (nI u) st.1 st.2 (nI a) b μ) v (fun b st => st.1 = nI (n2 f v a + n1 f a b) ∧ n2 f v a + n1 f a b ≤ u ∧ st.2 = lN (s2 f (cW f vA gA vB gB) v a + s1 f (cW f vA gA vB gB) a b)) (P := fun o => (o = some (-1, μ) ∧ u < n2 f v v) ∨ (o = kc s pA pB (nI u) (nI (n2 f v (a + 1))) (lN (s2 f (cW f vA gA vB gB) v (a + 1))) (nI (a + 1)) μ ∧ n2 f v (a + 1) ≤ u)) ?_ ?_ 100000 0 (nI (n2 f v a), lN (s2 f (cW f vA gA vB gB) v a)) (by omega) (by omega) ⟨rfl, hle, rfl⟩
    · rintro n b ⟨x4, l5⟩ hb ⟨q1, q2, q3⟩
      have q1 : x4 = nI (n2 f v a + n1 f a b) := q1
      have q3 : l5 = lN (s2 f (cW f vA gA vB gB) v a + s1 f (cW f vA gA vB gB) a b) := q3
      subst q1 q3
      have fl := lf a b (by omega) (by omega)
      have al : G_X7_alike s (nI a) (nI b) μ = some (nI (f a b), μ) := by
        have := alike_eq h (a := a) (b := b) (by omega) (by omega)
        rw [ix_n (by omega), ix_n (by omega)] at this
        exact this
      have lc1 : (if a < vA then gA a else 0) ≤ 999 := by
        by_cases q : a < vA
        · rw [if_pos q]; exact lA a q
        · rw [if_neg q]; omega
      have lc2 : (if b < vB then gB b else 0) ≤ 999 := by
        by_cases q : b < vB
        · rw [if_pos q]; exact lB b q
        · rw [if_neg q]; omega
      have e4 : n1 f a (b + 1) = n1 f a b + if 0 < f a b then 1 else 0 := rfl
      have e5 : s1 f (cW f vA gA vB gB) a (b + 1) = s1 f (cW f vA gA vB gB) a b + if 0 < f a b then cW f vA gA vB gB a b else 0 := rfl
      have top : ∀ x4 l5, L_X7_chainTruth_21 kc (n + 1) s pA pB (nI u) x4 l5 (nI a) (nI b) μ = if f a b = 0 then L_X7_chainTruth_21 kc n s pA pB (nI u) x4 l5 (nI a) (nI (b + 1)) μ else if x4 + 1 ≤ nI u then L_X7_chainTruth_21 kc n s pA pB (nI u) (x4 + 1) (l5 + lN (cW f vA gA vB gB a b)) (nI a) (nI (b + 1)) μ else some (-1, μ) := fun x4 l5 => by
        rw [L_X7_chainTruth_21, hvr, if_neg (nI_ge hb (by omega)), bd_eq al, nI_l (by omega), lb_e, lb_e, bd_eq (lane_countAt hA hvA (by omega)), bd_eq (lane_countAt hB hvB (by omega)), nI_l (by omega), nI_l (by omega), lN_mul, lN_mul, lb_e]
        unfold F_X7_chainTruth_84
        rw [lb_e, lb_e, nI_1]
        by_cases q : f a b = 0
        · rw [if_pos ((lN_pos (by omega)).mpr q), if_pos q]
        · rw [if_neg (fun z => q ((lN_pos (by omega)).mp z)), if_neg q]
          rfl
      have mo1 := n1_mono f a (show b + 1 ≤ v by omega)
      show (L_X7_chainTruth_21 kc (n + 1) s pA pB (nI u) (nI (n2 f v a + n1 f a b)) (lN (s2 f (cW f vA gA vB gB) v a + s1 f (cW f vA gA vB gB) a b)) (nI a) (nI b) μ = _ ∧ _ ∨ _) ∨ ∃ s', _ ∧ L_X7_chainTruth_21 kc (n + 1) s pA pB (nI u) (nI (n2 f v a + n1 f a b)) (lN (s2 f (cW f vA gA vB gB) v a + s1 f (cW f vA gA vB gB) a b)) (nI a) (nI b) μ = _
      rw [top]
      by_cases q : f a b = 0
      · right
        rw [if_neg (by omega)] at e4 e5
        rw [if_pos q]
        exact ⟨(nI (n2 f v a + n1 f a b), lN (s2 f (cW f vA gA vB gB) v a + s1 f (cW f vA gA vB gB) a b)), ⟨by rw [e4]; rfl, by rw [e4]; exact q2, by rw [e5]; rfl⟩, rfl⟩
      · rw [if_pos (by omega)] at e4 e5
        rw [if_neg q, nI_1, lN_add]
        by_cases q4 : n2 f v a + n1 f a b + 1 ≤ u
        · right
          rw [if_pos (nI_le q4 (by omega))]
          exact ⟨(nI (n2 f v a + n1 f a b + 1), lN (s2 f (cW f vA gA vB gB) v a + s1 f (cW f vA gA vB gB) a b + cW f vA gA vB gB a b)), ⟨by rw [e4, ← Nat.add_assoc], by omega, by rw [e5, ← Nat.add_assoc]⟩, rfl⟩
        · left
          rw [if_neg (nI_ge (by omega) (by omega))]
          exact Or.inl ⟨rfl, by omega⟩
    · rintro n ⟨x4, l5⟩ ⟨q1, q2, q3⟩
      have q1 : x4 = nI (n2 f v a + n1 f a v) := q1
      have q3 : l5 = lN (s2 f (cW f vA gA vB gB) v a + s1 f (cW f vA gA vB gB) a v) := q3
      subst q1 q3
      right
      refine ⟨?_, by omega⟩
      show L_X7_chainTruth_21 kc (n + 1) s pA pB (nI u) (nI (n2 f v a + n1 f a v)) (lN (s2 f (cW f vA gA vB gB) v a + s1 f (cW f vA gA vB gB) a v)) (nI a) (nI v) μ = _
      rw [L_X7_chainTruth_21, hvr, if_pos (nI_le (Nat.le_refl _) (by omega)), lb_e, nI_1]
      rfl
  unfold G_X7_chainTruth
  refine loop_br (fun n a (st : Int32 × Int64) => L_X7_chainTruth_9 n s pA pB (nI u) st.1 st.2 a μ) v (fun a st => st.1 = nI (n2 f v a) ∧ n2 f v a ≤ u ∧ st.2 = lN (s2 f (cW f vA gA vB gB) v a)) (P := fun o => o = some (if n2 f v v ≤ u then lN (s2 f (cW f vA gA vB gB) v v) else -1, μ)) ?_ ?_ 100000 0 (0, 0) (by omega) (by omega) ⟨rfl, Nat.zero_le _, rfl⟩
  · rintro n a ⟨x4, l5⟩ ha ⟨q1, q2, q3⟩
    have q1 : x4 = nI (n2 f v a) := q1
    have q3 : l5 = lN (s2 f (cW f vA gA vB gB) v a) := q3
    subst q1 q3
    show L_X7_chainTruth_9 (n + 1) s pA pB (nI u) (nI (n2 f v a)) (lN (s2 f (cW f vA gA vB gB) v a)) (nI a) μ = _ ∨ ∃ s', _ ∧ L_X7_chainTruth_9 (n + 1) s pA pB (nI u) (nI (n2 f v a)) (lN (s2 f (cW f vA gA vB gB) v a)) (nI a) μ = _
    rw [L_X7_chainTruth_9, hvr, if_neg (nI_ge ha (by omega))]
    rcases inn (L_X7_chainTruth_9 n) a ha q2 with ⟨e, l⟩ | ⟨e, l⟩
    · left; rw [e, if_neg (by omega)]
    · right
      exact ⟨(nI (n2 f v (a + 1)), lN (s2 f (cW f vA gA vB gB) v (a + 1))), ⟨rfl, l, rfl⟩, e⟩
  · rintro n ⟨x4, l5⟩ ⟨q1, q2, q3⟩
    have q3 : l5 = lN (s2 f (cW f vA gA vB gB) v v) := q3
    subst q3
    show L_X7_chainTruth_9 (n + 1) s pA pB (nI u) x4 (lN (s2 f (cW f vA gA vB gB) v v)) (nI v) μ = _
    rw [L_X7_chainTruth_9, hvr, if_pos (nI_le (Nat.le_refl _) (by omega)), if_pos q2]
end X
theorem ctM (h : RB c0 T V B D m S μ) (hT3 : T = 3) {u : Nat} (hu : u ≤ 999) (h27 : rI μ 107 27 = nI u) (h28 : rI μ 107 28 = 0) : ∃ μ', G_X11_chainTruth μ = some (if n2 (sf (S 0) 1) (V 1) (V 1) ≤ u then lN (s2 (sf (S 0) 1) (cW (sf (S 0) 1) (V 0) (cn (sf (S 0) 0) 1) (V 2) (cn (sf (S 0) 2) 0)) (V 1) (V 1)) else -1, μ') ∧ Fr (fun q j => q = 107 ∧ (j = 27 ∨ j = 28)) μ μ' ∧ rI μ' 107 28 = nI (if n2 (sf (S 0) 1) (V 1) (V 1) ≤ u then 0 else 1) := by
  have hV := h.V2 (t := 1) (by omega)
  have lf : ∀ a b, a ≤ 16 → b ≤ 16 → sf (S 0) 1 a b ≤ 999 := fun a b ha hb => Nat.le_trans (cell_le _ ha hb) (h.sw (t := 1) (by omega)).2.1
  have lA : ∀ k, k < 16 → cn (sf (S 0) 0) 1 k ≤ 999 := fun k hk => Nat.le_trans (cn_le _ (by omega) (by omega)) (h.sw (t := 0) (by omega)).2.1
  have lB : ∀ k, k < 16 → cn (sf (S 0) 2) 0 k ≤ 999 := fun k hk => Nat.le_trans (cn_le _ (by omega) (by omega)) (h.sw (t := 2) (by omega)).2.1
  generalize hf : sf (S 0) 1 = f at *
  generalize hv : V 1 = v at *
  generalize hW : cW f (V 0) (cn (sf (S 0) 0) 1) (V 2) (cn (sf (S 0) 2) 0) = W
  have inn : ∀ (kc : Int64 → Int32 → Mem → Option (Int64 × Mem)) a (s : Mem), a < v → n2 f v a ≤ u → Fr (fun q j => q = 107 ∧ (j = 27 ∨ j = 28)) μ s → rI s 107 27 = nI (u - n2 f v a) → rI s 107 28 = 0 → (∃ s', L_X11_chainTruth_17 kc 100000 (lN (s2 f W v a)) (nI a) 0 s = some (-1, s') ∧ u < n2 f v v ∧ Fr (fun q j => q = 107 ∧ (j = 27 ∨ j = 28)) μ s' ∧ rI s' 107 28 = 1) ∨ (∃ s', L_X11_chainTruth_17 kc 100000 (lN (s2 f W v a)) (nI a) 0 s = kc (lN (s2 f W v (a + 1))) (nI (a + 1)) s' ∧ n2 f v (a + 1) ≤ u ∧ Fr (fun q j => q = 107 ∧ (j = 27 ∨ j = 28)) μ s' ∧ rI s' 107 27 = nI (u - n2 f v (a + 1)) ∧ rI s' 107 28 = 0) := fun kc a s ha hle fs y27 y28 => by
    have e2 : n2 f v (a + 1) = n2 f v a + n1 f a v := rfl
    have e3 : s2 f W v (a + 1) = s2 f W v a + s1 f W a v := rfl
    have mo := n2_mono f v (show a + 1 ≤ v by omega)
    refine loop_br (fun n b (st : Int64 × Mem) => L_X11_chainTruth_17 kc n st.1 (nI a) b st.2) v (fun b st => n2 f v a + n1 f a b ≤ u ∧ st.1 = lN (s2 f W v a + s1 f W a b) ∧ Fr (fun q j => q = 107 ∧ (j = 27 ∨ j = 28)) μ st.2 ∧ rI st.2 107 27 = nI (u - (n2 f v a + n1 f a b)) ∧ rI st.2 107 28 = 0) (P := fun o => (∃ s', o = some (-1, s') ∧ u < n2 f v v ∧ Fr (fun q j => q = 107 ∧ (j = 27 ∨ j = 28)) μ s' ∧ rI s' 107 28 = 1) ∨ (∃ s', o = kc (lN (s2 f W v (a + 1))) (nI (a + 1)) s' ∧ n2 f v (a + 1) ≤ u ∧ Fr (fun q j => q = 107 ∧ (j = 27 ∨ j = 28)) μ s' ∧ rI s' 107 27 = nI (u - n2 f v (a + 1)) ∧ rI s' 107 28 = 0)) ?_ ?_ 100000 0 (lN (s2 f W v a), s) (by omega) (by omega) ⟨hle, rfl, fs, y27, y28⟩
    · rintro n b ⟨l1, st⟩ hb ⟨q2, q3, fs, z27, z28⟩
      have q3 : l1 = lN (s2 f W v a + s1 f W a b) := q3
      subst q3
      have fs : Fr (fun q j => q = 107 ∧ (j = 27 ∨ j = 28)) μ st := fs
      have z27 : rI st 107 27 = nI (u - (n2 f v a + n1 f a b)) := z27
      have hS : RB c0 T V B D m S st := h.ag (fun q j e => fs.i (by omega))
      have fl := lf a b (by omega) (by omega)
      have e4 : n1 f a (b + 1) = n1 f a b + if 0 < f a b then 1 else 0 := rfl
      have e5 : s1 f W a (b + 1) = s1 f W a b + if 0 < f a b then W a b else 0 := rfl
      have mv : rI st 113 1 = nI v := by rw [← hv]; exact hS.mv (t := 1) (by omega)
      have pl : G_X11_place 1 (nI a) (nI b) st = some (nI (357 * 1 + (17 * a + b)), st) := by
        have := place_ix (μ := st) (t := 1) (a := a) (b := b) (by omega) (by omega) (by omega)
        rw [ix_n (by omega), ix_n (by omega)] at this
        exact this
      have ce : rI st 116 (357 * 1 + (17 * a + b)) = nI (f a b) := by rw [← hf]; exact (hS.tab (t := 1) (by omega)).1 a b (by omega) (by omega)
      have mo1 := n1_mono f a (show b + 1 ≤ v by omega)
      show ((∃ s', L_X11_chainTruth_17 kc (n + 1) (lN (s2 f W v a + s1 f W a b)) (nI a) (nI b) st = _ ∧ _) ∨ (∃ s', L_X11_chainTruth_17 kc (n + 1) (lN (s2 f W v a + s1 f W a b)) (nI a) (nI b) st = _ ∧ _)) ∨ ∃ s', _ ∧ L_X11_chainTruth_17 kc (n + 1) (lN (s2 f W v a + s1 f W a b)) (nI a) (nI b) st = _
      rw [L_X11_chainTruth_17, mv, if_neg (nI_ge hb (by omega)), bd_eq pl, gq_in (by omega) (by omega), nx_nI (by omega), ce, lb_e]
      unfold F_X11_chainTruth_83
      by_cases q : f a b = 0
      · right
        rw [if_neg (by omega)] at e4 e5
        rw [if_pos (by rw [q]; decide), lb_e, nI_1]
        exact ⟨(lN (s2 f W v a + s1 f W a b), st), ⟨by rw [e4]; exact q2, by rw [e5]; rfl, fs, by rw [e4]; exact z27, z28⟩, rfl⟩
      · rw [if_pos (by omega)] at e4 e5
        obtain ⟨st1, eo, f1, y1, y2⟩ := over_ok z27 (by omega)
        have hS1 : RB c0 T V B D m S st1 := hS.ag (fun q j e => f1.i (by omega))
        rw [if_neg (nI_nle (by omega) (by omega)), bd_eq eo]
        by_cases q4 : u - (n2 f v a + n1 f a b) = 0
        · left; left
          rw [if_pos q4] at y1
          rw [if_pos q4, if_neg (by decide)]
          exact ⟨st1, rfl, by omega, fs.tr f1, y1⟩
        · right
          rw [if_neg q4] at y1
          have c1 : G_X11_countIn 0 1 (nI a) st1 = some (nI (if a < V 0 then cn (sf (S 0) 0) 1 a else 0), st1) := countIn_ok hS1 (t := 0) (k := 1) (by omega) (by omega) (by omega)
          have c2 : G_X11_countIn 2 0 (nI b) st1 = some (nI (if b < V 2 then cn (sf (S 0) 2) 0 b else 0), st1) := countIn_ok hS1 (t := 2) (k := 0) (by omega) (by omega) (by omega)
          have lc1 : (if a < V 0 then cn (sf (S 0) 0) 1 a else 0) ≤ 999 := by
            by_cases q : a < V 0
            · rw [if_pos q]; exact lA a (by omega)
            · rw [if_neg q]; omega
          have lc2 : (if b < V 2 then cn (sf (S 0) 2) 0 b else 0) ≤ 999 := by
            by_cases q : b < V 2
            · rw [if_pos q]; exact lB b (by omega)
            · rw [if_neg q]; omega
          have we : f a b * (if a < V 0 then cn (sf (S 0) 0) 1 a else 0) * (if b < V 2 then cn (sf (S 0) 2) 0 b else 0) = W a b := by rw [← hW]; rfl
          rw [if_neg q4, if_pos rfl, bd_eq c1, bd_eq c2, nI_l (by omega), nI_l (by omega), nI_l (by omega), lN_mul, lN_mul, we, lN_add, lb_e, lb_e, nI_1]
          refine ⟨(lN (s2 f W v a + s1 f W a b + W a b), st1), ⟨by omega, by rw [e5, ← Nat.add_assoc], fs.tr f1, ?_, y1⟩, rfl⟩
          show rI st1 107 27 = _
          rw [y2 (by omega), e4]
          congr 1
    · rintro n ⟨l1, st⟩ ⟨q2, q3, fs, z27, z28⟩
      have q3 : l1 = lN (s2 f W v a + s1 f W a v) := q3
      subst q3
      have fs : Fr (fun q j => q = 107 ∧ (j = 27 ∨ j = 28)) μ st := fs
      have hS : RB c0 T V B D m S st := h.ag (fun q j e => fs.i (by omega))
      have mv : rI st 113 1 = nI v := by rw [← hv]; exact hS.mv (t := 1) (by omega)
      right
      refine ⟨st, ?_, by omega, fs, z27, z28⟩
      show L_X11_chainTruth_17 kc (n + 1) (lN (s2 f W v a + s1 f W a v)) (nI a) (nI v) st = _
      rw [L_X11_chainTruth_17, mv, if_pos (nI_le (Nat.le_refl _) (by omega)), lb_e, nI_1]
      rfl
  unfold G_X11_chainTruth
  refine loop_br (fun n a (st : Int64 × Mem) => L_X11_chainTruth_4 n st.1 a st.2) v (fun a st => n2 f v a ≤ u ∧ st.1 = lN (s2 f W v a) ∧ Fr (fun q j => q = 107 ∧ (j = 27 ∨ j = 28)) μ st.2 ∧ rI st.2 107 27 = nI (u - n2 f v a) ∧ rI st.2 107 28 = 0) (P := fun o => ∃ μ', o = some (if n2 f v v ≤ u then lN (s2 f W v v) else -1, μ') ∧ Fr (fun q j => q = 107 ∧ (j = 27 ∨ j = 28)) μ μ' ∧ rI μ' 107 28 = nI (if n2 f v v ≤ u then 0 else 1)) ?_ ?_ 100000 0 (0, μ) (by omega) (by omega) ⟨Nat.zero_le _, rfl, Fr.rf, h27, h28⟩
  · rintro n a ⟨l1, st⟩ ha ⟨q2, q3, fs, z27, z28⟩
    have q3 : l1 = lN (s2 f W v a) := q3
    subst q3
    have fs : Fr (fun q j => q = 107 ∧ (j = 27 ∨ j = 28)) μ st := fs
    have hS : RB c0 T V B D m S st := h.ag (fun q j e => fs.i (by omega))
    have mv : rI st 113 1 = nI v := by rw [← hv]; exact hS.mv (t := 1) (by omega)
    show (∃ μ', L_X11_chainTruth_4 (n + 1) (lN (s2 f W v a)) (nI a) st = _ ∧ _) ∨ ∃ s', _ ∧ L_X11_chainTruth_4 (n + 1) (lN (s2 f W v a)) (nI a) st = _
    rw [L_X11_chainTruth_4, mv, if_neg (nI_ge ha (by omega))]
    rcases inn (L_X11_chainTruth_4 n) a st ha q2 fs z27 z28 with ⟨s', e, l, f', y⟩ | ⟨s', e, l, f', y1, y2⟩
    · left
      refine ⟨s', by rw [e, if_neg (by omega)], f', by rw [y, if_neg (by omega)]; rfl⟩
    · right
      exact ⟨(lN (s2 f W v (a + 1)), s'), ⟨l, rfl, f', y1, y2⟩, e⟩
  · rintro n ⟨l1, st⟩ ⟨q2, q3, fs, z27, z28⟩
    have q3 : l1 = lN (s2 f W v v) := q3
    subst q3
    have fs : Fr (fun q j => q = 107 ∧ (j = 27 ∨ j = 28)) μ st := fs
    have hS : RB c0 T V B D m S st := h.ag (fun q j e => fs.i (by omega))
    have mv : rI st 113 1 = nI v := by rw [← hv]; exact hS.mv (t := 1) (by omega)
    refine ⟨st, ?_, fs, by rw [if_pos q2]; exact z28⟩
    show L_X11_chainTruth_4 (n + 1) (lN (s2 f W v v)) (nI v) st = _
    rw [L_X11_chainTruth_4, mv, if_pos (nI_le (Nat.le_refl _) (by omega)), if_pos q2]
theorem a_chain {c : Nat} (h : RR c μ) (x : Int32) : Ans c (G_X10_chain x μ) (G_X11_chain x) := by
  have h0 := h
  obtain ⟨-, -, -, T, V, B, D, m, S, hB, hP, -⟩ := h0
  have hT := hB.T3
  by_cases hT3 : T < 3
  · refine Ans.p (r := -1) h ?_ ?_
    · unfold G_X10_chain; rw [hB.xt, if_pos (r_lt (m := 3) hT3 (by omega))]
    · unfold G_X11_chain; rw [hB.mt, if_pos (r_lt (m := 3) hT3 (by omega))]
  · have e3 : T = 3 := by omega
    have n3 : ¬ nI T < (3 : Int32) := r_nlt (m := 3) (by omega) (by omega)
    obtain ⟨u1, u2, u3⟩ := hB.u (by omega)
    have no : (x < 0 ∨ nI 2 ≤ x) → Ans c (G_X10_chain x μ) (G_X11_chain x) := fun hx => by
      refine Ans.p (r := -1) h ?_ ?_
      · unfold G_X10_chain
        rw [hB.xt, if_neg n3]
        by_cases q : x < 0
        · rw [if_pos q]
        · rw [if_neg q, if_neg (fun z : x ≤ 1 => by
            have h2 := hx.resolve_left q
            rw [fa_le] at z h2
            rw [nI_toInt (by omega)] at h2
            have : (1 : Int32).toInt = 1 := by decide
            omega)]
      · unfold G_X11_chain
        rw [hB.mt, if_neg n3, bd_eq (inL_no (m := 1) (by decide) (by omega) hx), if_pos rfl]
    rcases pk_ix x (n := 2) (by omega) with hx | hx | ⟨j, hj, rfl⟩
    · exact no (Or.inl hx)
    · exact no (Or.inr hx)
    · rcases (show j = 0 ∨ j = 1 by omega) with rfl | rfl
      · obtain ⟨ts, hts⟩ : ∃ ts : Nat → Nat, ts = fun i => i := ⟨_, rfl⟩
        have ts0 : nI (ts 0) = 0 := by rw [hts]; rfl
        have ts1 : nI (ts (0 + 1)) = 1 := by rw [hts]; rfl
        have ts2 : nI (ts (0 + 1 + 1)) = 2 := by rw [hts]; rfl
        obtain ⟨μa, ea, fa, la⟩ := beginX (μ := μ) ts
        obtain ⟨μb, eb, fb, lb'⟩ := takeX la (by omega)
        obtain ⟨μc, ec, fc, lc⟩ := takeX lb' (by omega)
        obtain ⟨μc2, ec2, fc2, lc2⟩ := takeX lc (by omega)
        rw [ts0] at eb
        rw [ts1] at ec
        rw [ts2] at ec2
        have fx : Fr lxR μ μc2 := ((fa.tr fb).tr fc).tr fc2
        have hBc : RB c T V B D m S μc2 := hB.ag (fun q j e => fx.i (by unfold lxR; omega))
        have V1 := hB.V2 (t := 1) (by omega)
        have lf : ∀ a b, a ≤ 16 → b ≤ 16 → sf (S 0) 1 a b ≤ 999 := fun a b ha hb => Nat.le_trans (cell_le _ ha hb) (hB.sw (t := 1) (by omega)).2.1
        have lA : ∀ k, k < V 0 → cn (sf (S 0) 0) 1 k ≤ 999 := fun k hk => Nat.le_trans (cn_le _ (by omega) (by have := hB.V2 (t := 0) (by omega); omega)) (hB.sw (t := 0) (by omega)).2.1
        have lB : ∀ k, k < V 2 → cn (sf (S 0) 2) 0 k ≤ 999 := fun k hk => Nat.le_trans (cn_le _ (by omega) (by have := hB.V2 (t := 2) (by omega); omega)) (hB.sw (t := 2) (by omega)).2.1
        have hj := ctX (hBc.sheet (t := 1) (by omega)) (hBc.lane (t := 0) (c := 1) (by omega) (by omega)) (hBc.lane (t := 2) (c := 0) (by omega) (by omega)) V1.2 (hB.V2 (t := 0) (by omega)).2 (hB.V2 (t := 2) (by omega)).2 lf lA lB u3
        have lx : s2 (sf (S 0) 1) (cW (sf (S 0) 1) (V 0) (cn (sf (S 0) 0) 1) (V 2) (cn (sf (S 0) 2) 0)) (V 1) (V 1) ≤ 255232767744 := by
          have a : ∀ a, a < V 1 → fb_sm (fun b => if 0 < sf (S 0) 1 a b then cW (sf (S 0) 1) (V 0) (cn (sf (S 0) 0) 1) (V 2) (cn (sf (S 0) 2) 0) a b else 0) (V 1) ≤ 15952047984 := fun a ha => by
            have b := fb_sm_bound (f := fun b => if 0 < sf (S 0) 1 a b then cW (sf (S 0) 1) (V 0) (cn (sf (S 0) 0) 1) (V 2) (cn (sf (S 0) 2) 0) a b else 0) (c := 997002999) (n := V 1) (fun b hb => by
              show (if 0 < sf (S 0) 1 a b then cW (sf (S 0) 1) (V 0) (cn (sf (S 0) 0) 1) (V 2) (cn (sf (S 0) 2) 0) a b else 0) ≤ _
              by_cases q : 0 < sf (S 0) 1 a b
              · rw [if_pos q]
                have c1 : (if a < V 0 then cn (sf (S 0) 0) 1 a else 0) ≤ 999 := by
                  by_cases q : a < V 0
                  · rw [if_pos q]; exact lA a q
                  · rw [if_neg q]; omega
                have c2 : (if b < V 2 then cn (sf (S 0) 2) 0 b else 0) ≤ 999 := by
                  by_cases q : b < V 2
                  · rw [if_pos q]; exact lB b q
                  · rw [if_neg q]; omega
                have := Nat.mul_le_mul (Nat.mul_le_mul (lf a b (by omega) (by omega)) c1) c2
                exact this
              · rw [if_neg q]; omega)
            have e : V 1 * 997002999 ≤ 16 * 997002999 := Nat.mul_le_mul_right _ V1.2
            omega
          have b := fb_sm_bound (c := 15952047984) (n := V 1) a
          have e : V 1 * 15952047984 ≤ 16 * 15952047984 := Nat.mul_le_mul_right _ V1.2
          unfold s2
          omega
        generalize hr : (if n2 (sf (S 0) 1) (V 1) (V 1) ≤ su (S 0) then lN (s2 (sf (S 0) 1) (cW (sf (S 0) 1) (V 0) (cn (sf (S 0) 0) 1) (V 2) (cn (sf (S 0) 2) 0)) (V 1) (V 1)) else -1) = r at hj
        obtain ⟨μd, ed, fd, dd⟩ := look_x fx lc2 (by omega) r
        have hBd : RB c T V B D m S μd := hB.ag (fun q j e => fd.i (by unfold lxQ; omega))
        obtain ⟨μe, ee, fe, le, e27, e28⟩ := beginM (μ := μd) ts (hBd.u (by omega)).2.1
        obtain ⟨μf, ef, ff, lf'⟩ := takeM (x := 0) le (by omega) ts0.symm
        obtain ⟨μg, eg, fg, lg2⟩ := takeM (x := 1) lf' (by omega) ts1.symm
        obtain ⟨μg2, eg2, fg2, lg3⟩ := takeM (x := 2) lg2 (by omega) ts2.symm
        have fm : Fr lmR μd μg2 := ((fe.tr (ff.mono (fun q j z => by unfold lmR; omega))).tr (fg.mono (fun q j z => by unfold lmR; omega))).tr (fg2.mono (fun q j z => by unfold lmR; omega))
        have hBg : RB c T V B D m S μg2 := hBd.ag (fun q j e => fm.i (by unfold lmR; omega))
        obtain ⟨μh, eh, fh, h28⟩ := ctM hBg e3 u3 ((fg2.i (by omega)).trans ((fg.i (by omega)).trans ((ff.i (by omega)).trans e27))) ((fg2.i (by omega)).trans ((fg.i (by omega)).trans ((ff.i (by omega)).trans e28)))
        have lh : LKm 3 ts μh := ⟨(fh.i (by omega)).trans lg3.1, fun i hi => (fh.i (by omega)).trans (lg3.2 i hi)⟩
        rw [hr] at eh
        obtain ⟨μi, ei, fi, di⟩ := look_m (fm.tr (fh.mono (fun q j z => by unfold lmR; omega))) lh (by omega) (by omega) (st := if n2 (sf (S 0) 1) (V 1) (V 1) ≤ su (S 0) then 0 else 1) (by split <;> omega) h28 r
        have hst : r = -1 ↔ (if n2 (sf (S 0) 1) (V 1) (V 1) ≤ su (S 0) then 0 else 1) ≠ 0 := by
          rw [← hr]
          by_cases z : n2 (sf (S 0) 1) (V 1) (V 1) ≤ su (S 0)
          · rw [if_pos z, if_pos z]
            exact ⟨fun e => absurd e (lN_m1 (by omega)), fun e => absurd rfl e⟩
          · rw [if_neg z, if_neg z]
            exact ⟨fun _ => by omega, fun _ => rfl⟩
        have er : (if (if n2 (sf (S 0) 1) (V 1) (V 1) ≤ su (S 0) then 0 else 1) = 0 then r else -1) = r := by
          by_cases z : (if n2 (sf (S 0) 1) (V 1) (V 1) ≤ su (S 0) then 0 else 1) = 0
          · rw [if_pos z]
          · rw [if_neg z, hst.mpr z]
        rw [er] at ei
        refine ⟨r, μd, μi, ?_, ?_, look_rr h (by omega) fd dd fi di hst⟩
        · unfold G_X10_chain
          rw [hB.xt, if_neg n3, if_neg (by decide), if_pos (by decide), if_neg (by decide), bd_eq ea]
          show L_X10_chain_85 (99999 + 1) 15 18 30 0 μa = _
          rw [L_X10_chain_85, if_neg (by decide), bd_eq eb, lb_e]
          show L_X10_chain_85 (99998 + 1) 15 18 30 1 μb = _
          rw [L_X10_chain_85, if_neg (by decide), bd_eq ec, lb_e]
          show L_X10_chain_85 (99997 + 1) 15 18 30 2 μc = _
          rw [L_X10_chain_85, if_neg (by decide), bd_eq ec2, lb_e]
          show L_X10_chain_85 (99996 + 1) 15 18 30 3 μc2 = _
          rw [L_X10_chain_85, if_pos (by decide), (hBc.u (by omega)).1]
          have hj' : G_X7_chainTruth 18 15 30 (nI (su (S 0))) μc2 = some (r, μc2) := hj
          rw [bd_eq hj', bd_eq ed]
        · unfold G_X11_chain
          rw [hBd.mt, if_neg n3, bd_eq (inL_yes (m := 1) (by decide) (by omega) (by omega)), if_neg (by decide), if_neg (by decide), bd_eq ee, bd_eq ef, bd_eq eg, bd_eq eg2, bd_eq eh, bd_eq ei]
      · obtain ⟨ju1, -⟩ := jX_ok hB (t := 0) (c := 1) (o := 1) (d := 0) (by omega) (by omega) (by omega) (by omega)
        obtain ⟨ju2, -⟩ := jX_ok hB (t := 1) (c := 1) (o := 2) (d := 0) (by omega) (by omega) (by omega) (by omega)
        have jm1 := jB_ok hB (t := 0) (c := 1) (o := 1) (d := 0) (by omega) (by omega) (by omega) (by omega) true
        have jm2 := jB_ok hB (t := 1) (c := 1) (o := 2) (d := 0) (by omega) (by omega) (by omega) (by omega) true
        have l1 := jr_le hB (t := 0) (c := 1) (o := 1) (d := 0) (by omega) (by omega) (by omega) (by omega) true
        have l2 := jr_le hB (t := 1) (c := 1) (o := 2) (d := 0) (by omega) (by omega) (by omega) (by omega) true
        have lg : ∀ t c, t < 3 → c < 2 → ∀ i, i < min B (V t) → sg (S 0) t c i ≤ 999 := fun t c ht hc i hi => (((hB.sw (t := t) (by omega)).2.2 c hc).fc (hB.le (by omega) hc) (hB.V2 (t := t) (by omega)).2 hi).2.2.2
        have g1 := goaX (hB.lane (t := 2) (c := 0) (by omega) (by omega)) (hB.K8 (t := 2) (by omega)).2.1 (lg 2 0 (by omega) (by omega))
        have g2 := goaX (hB.lane (t := 0) (c := 1) (by omega) (by omega)) (hB.K8 (t := 0) (by omega)).2.1 (lg 0 1 (by omega) (by omega))
        have m1 := goaM hB (t := 2) (c := 0) (by omega) (by omega) (lg 2 0 (by omega) (by omega))
        have m2 := goaM hB (t := 0) (c := 1) (by omega) (by omega) (lg 0 1 (by omega) (by omega))
        have b1 : mf (sg (S 0) 2 0) (min B (V 2)) ≤ 999 := mf_bd (lg 2 0 (by omega) (by omega))
        have b2 : mf (sg (S 0) 0 1) (min B (V 0)) ≤ 999 := mf_bd (lg 0 1 (by omega) (by omega))
        refine Ans.p (r := lmin (lN (jrT V B (S 0) true 0 1 1 0) * lN (mf (sg (S 0) 2 0) (min B (V 2)))) (lN (jrT V B (S 0) true 1 1 2 0) * lN (mf (sg (S 0) 0 1) (min B (V 0))))) h ?_ ?_
        · unfold G_X10_chain G_X7_chainUpper
          have ju1 : G_X4_joinUpper 15 (18 + 3) μ = some (lN (jrT V B (S 0) true 0 1 1 0), μ) := ju1
          have ju2 : G_X4_joinUpper (18 + 6) 30 μ = some (lN (jrT V B (S 0) true 1 1 2 0), μ) := ju2
          have g1 : G_X4_greatestOfAll 30 μ = some (nI (mf (sg (S 0) 2 0) (min B (V 2))), μ) := g1
          have g2 : G_X4_greatestOfAll 15 μ = some (nI (mf (sg (S 0) 0 1) (min B (V 0))), μ) := g2
          rw [hB.xt, if_neg n3, if_neg (by decide), if_pos (by decide), if_pos (by decide), bd_eq ju1, bd_eq g1, nI_l (by omega), lb_e, bd_eq ju2, bd_eq g2, nI_l (by omega), lb_e, bd_s]
        · unfold G_X11_chain
          have jm1 : G_X11_joinBy 0 1 1 0 1 μ = some (lN (jrT V B (S 0) true 0 1 1 0), μ) := jm1
          have jm2 : G_X11_joinBy 1 1 2 0 1 μ = some (lN (jrT V B (S 0) true 1 1 2 0), μ) := jm2
          have m1 : G_X11_greatestOf 2 0 μ = some (lN (mf (sg (S 0) 2 0) (min B (V 2))), μ) := m1
          have m2 : G_X11_greatestOf 0 1 μ = some (lN (mf (sg (S 0) 0 1) (min B (V 0))), μ) := m2
          rw [hB.mt, if_neg n3, bd_eq (inL_yes (m := 1) (by decide) (by omega) (by omega)), if_neg (by decide), if_pos (by decide), bd_eq jm1, bd_eq m1, bd_eq jm2, bd_eq m2]
end Ch
