/-! single reads -/
theorem shP_nI {q t : Nat} (h : t < 2 ^ 31) : shP q (nI t) = q + 1 + 9 * t := by unfold shP; rw [nx_nI h]
theorem lnP_nI {q t : Nat} (h : t < 2 ^ 31) : lnP q (nI t) = q + 1 + 3 * t := by unfold lnP; rw [nx_nI h]
theorem whP_nI {q t : Nat} (h : t < 2 ^ 31) : whP q (nI t) = q + 1 + 5 * t := by unfold whP; rw [nx_nI h]
theorem lp_eq {t c : Nat} (ht : t < 3) (hc : c < 2) : lnP ((shP 8 (nI t)) + 2) (nI c) = 12 + 9 * t + 3 * c := by
  rw [shP_nI (by omega), lnP_nI (by omega)]
  omega
theorem sp_eq {t : Nat} (ht : t < 3) : shP 8 (nI t) = 9 + 9 * t := by
  rw [shP_nI (by omega)]
theorem RB.sheet {c T : Nat} {V : Nat → Nat} {B D m : Nat} {S : Nat → St} {μ : Mem} (h : RB c T V B D m S μ) {t : Nat} (ht : t < T) : XT (V t) (min B (V t)) (sf (S 0) t) (sb (S 0) t) (sg (S 0) t) (sd (S 0) t) (9 + 9 * t) μ := h.2.2.2.2.1.2.2.2.2.1 t ht
theorem RB.lane {c0 T : Nat} {V : Nat → Nat} {B D m : Nat} {S : Nat → St} {μ : Mem} (h : RB c0 T V B D m S μ) {t c : Nat} (ht : t < T) (hc : c < 2) : XL (V t) (min B (V t)) (cn (sf (S 0) t) c) (sb (S 0) t c) (sg (S 0) t c) (sd (S 0) t c) (12 + 9 * t + 3 * c) μ := by
  have h1 := (h.sheet ht).2.2.2 c hc
  rw [show 9 + 9 * t + 3 + 3 * c = 12 + 9 * t + 3 * c by omega] at h1
  exact h1
theorem RB.tab {c T : Nat} {V : Nat → Nat} {B D m : Nat} {S : Nat → St} {μ : Mem} (h : RB c T V B D m S μ) {t : Nat} (ht : t < T) : MT (min B (V t)) (sf (S 0) t) (sb (S 0) t) (sg (S 0) t) (sd (S 0) t) (fun k => rI μ 116 (357 * t + k)) := h.2.2.2.2.2.2.2.2.2.1 t ht
theorem RB.sw {c T : Nat} {V : Nat → Nat} {B D m : Nat} {S : Nat → St} {μ : Mem} (h : RB c T V B D m S μ) {t : Nat} (ht : t < T) : SW (V t) (min B (V t)) D (sf (S 0) t) (sb (S 0) t) (sg (S 0) t) (sd (S 0) t) := (h.2.2.2.1 0 (Nat.zero_le _)).1 t ht
theorem RB.T3 {c T : Nat} {V : Nat → Nat} {B D m : Nat} {S : Nat → St} {μ : Mem} (h : RB c T V B D m S μ) : T ≤ 3 := h.1.1
theorem RB.V2 {c T : Nat} {V : Nat → Nat} {B D m : Nat} {S : Nat → St} {μ : Mem} (h : RB c T V B D m S μ) {t : Nat} (ht : t < T) : 2 ≤ V t ∧ V t ≤ 16 := h.1.2.2 t ht
theorem RB.K8 {c T : Nat} {V : Nat → Nat} {B D m : Nat} {S : Nat → St} {μ : Mem} (h : RB c T V B D m S μ) {t : Nat} (ht : t < T) : 1 ≤ min B (V t) ∧ min B (V t) ≤ 8 ∧ D ≤ 99 := by
  have h1 := h.1.2.1 (by omega)
  have h2 := h.V2 ht
  omega
theorem RB.xt {c T : Nat} {V : Nat → Nat} {B D m : Nat} {S : Nat → St} {μ : Mem} (h : RB c T V B D m S μ) : rI μ 7 2 = nI T := h.2.2.2.2.1.1
theorem RB.mt {c T : Nat} {V : Nat → Nat} {B D m : Nat} {S : Nat → St} {μ : Mem} (h : RB c T V B D m S μ) : rI μ 107 12 = nI T := h.2.2.2.2.2.1
theorem RB.mv {c T : Nat} {V : Nat → Nat} {B D m : Nat} {S : Nat → St} {μ : Mem} (h : RB c T V B D m S μ) {t : Nat} (ht : t < T) : rI μ 113 t = nI (V t) := h.2.2.2.2.2.2.2.2.1 t ht
section LaneR
variable {v K : Nat} {g bd gr : Nat → Nat} {dr p : Nat} {μ : Mem}
theorem XL.k (h : XL v K g bd gr dr p μ) : rI μ (p + 2) 0 = nI K := h.2.1
theorem XL.d (h : XL v K g bd gr dr p μ) : rI μ (p + 2) 1 = nI dr := h.2.2.1
theorem XL.f (h : XL v K g bd gr dr p μ) {i : Nat} (hi : i < K) : rI μ (p + 2) (2 + i) = nI (bd i) := (h.2.2.2 i hi).1
theorem XL.t (h : XL v K g bd gr dr p μ) {i : Nat} (hi : i < K) : rI μ (p + 2) (10 + i) = nI (seg g (bd i) (bd (i + 1))) := (h.2.2.2 i hi).2.1
theorem XL.r (h : XL v K g bd gr dr p μ) {i : Nat} (hi : i < K) : rI μ (p + 2) (18 + i) = nI (gr i) := (h.2.2.2 i hi).2.2
theorem lane_size (h : XL v K g bd gr dr p μ) : G_X4_size p μ = some (nI K, μ) := by
  unfold G_X4_size
  rw [h.k]
theorem lane_drift (h : XL v K g bd gr dr p μ) : G_X4_drift p μ = some (nI dr, μ) := by
  unfold G_X4_drift
  rw [h.d]
theorem lane_first (h : XL v K g bd gr dr p μ) (hK : K ≤ 8) {i : Nat} (hi : i < K) : G_X4_firstOf p (nI i) μ = some (nI (bd i), μ) := by
  unfold G_X4_firstOf
  rw [show (2 : Int32) + nI i = nI (2 + i) from nI_add 2 i, gq_in (by omega) (by omega), nx_nI (by omega), h.f hi]
theorem lane_total (h : XL v K g bd gr dr p μ) (hK : K ≤ 8) {i : Nat} (hi : i < K) : G_X4_totalOf p (nI i) μ = some (nI (seg g (bd i) (bd (i + 1))), μ) := by
  unfold G_X4_totalOf
  rw [show (10 : Int32) + nI i = nI (10 + i) from nI_add 10 i, gq_in (by omega) (by omega), nx_nI (by omega), h.t hi]
theorem lane_greatest (h : XL v K g bd gr dr p μ) (hK : K ≤ 8) {i : Nat} (hi : i < K) : G_X4_greatestOf p (nI i) μ = some (nI (gr i), μ) := by
  unfold G_X4_greatestOf
  rw [show (18 : Int32) + nI i = nI (18 + i) from nI_add 18 i, gq_in (by omega) (by omega), nx_nI (by omega), h.r hi]
theorem bd_mono {v K D : Nat} (h : LW v K D g bd gr dr) : ∀ {i j : Nat}, i ≤ j → j ≤ K → bd i ≤ bd j := by
  intro i j hij
  induction j with
  | zero => intro _; rw [show i = 0 by omega]; exact Nat.le_refl _
  | succ j ih =>
    intro hj
    rcases Nat.lt_or_ge i (j + 1) with h1 | h1
    · have h2 := ih (by omega) (by omega)
      have h3 := h.2.2.1 j (by omega)
      omega
    · rw [show i = j + 1 by omega]
      exact Nat.le_refl _
theorem bd_le {v K D : Nat} (h : LW v K D g bd gr dr) {i : Nat} (hi : i ≤ K) : bd i ≤ v := by
  have h1 := bd_mono h hi (Nat.le_refl K)
  rw [h.2.1] at h1
  exact h1
theorem lane_last {D : Nat} (h : XL v K g bd gr dr p μ) (hw : LW v K D g bd gr dr) (hK : K ≤ 8) (hv : v ≤ 16) {i : Nat} (hi : i < K) : G_X4_lastOf p (nI i) μ = some (nI (bd (i + 1) - 1), μ) := by
  unfold G_X4_lastOf F_X4_lastOf_29
  have h3 := hw.2.2.1 i hi
  have e0 : rI μ (p + 2) 0 = nI K := h.2.1
  rw [e0, show nI i + 1 = nI (i + 1) from nI_1 i]
  by_cases hl : K ≤ i + 1
  · rw [if_pos (nI_le hl (by omega)), h.1.1, nI_sub1 (by have := bd_le hw (i := i + 1) (by omega); omega)]
    rw [show i + 1 = K by omega, hw.2.1]
  · rw [if_neg (nI_ge (by omega) (by omega)), show (2 : Int32) + nI i + 1 = nI (2 + (i + 1)) from by rw [show (2 : Int32) + nI i = nI (2 + i) from nI_add 2 i, nI_1]; rfl, gq_in (by omega) (by omega), nx_nI (by omega), h.f (i := i + 1) (by omega), nI_sub1 (by omega)]
theorem lane_width {D : Nat} (h : XL v K g bd gr dr p μ) (hw : LW v K D g bd gr dr) (hK : K ≤ 8) (hv : v ≤ 16) {i : Nat} (hi : i < K) : G_X4_widthOf p (nI i) μ = some (nI (bd (i + 1) - bd i), μ) := by
  unfold G_X4_widthOf
  have h3 := hw.2.2.1 i hi
  rw [bd_eq (lane_last h hw hK hv hi), bd_eq (lane_first h hK hi), pk_sub (by omega), nI_1, show bd (i + 1) - 1 - bd i + 1 = bd (i + 1) - bd i by omega]
theorem lane_countAt (h : XL v K g bd gr dr p μ) (hv : v ≤ 16) {x : Nat} (hx : x < 2 ^ 31) : G_X4_countAt p (nI x) μ = some (nI (if x < v then g x else 0), μ) := by
  unfold G_X4_countAt
  rw [h.1.1]
  by_cases h1 : x < v
  · rw [if_pos h1, if_neg (nI_ge h1 (by omega)), gq_in (by omega) (by omega), nx_nI hx, h.1.2.2 x (by omega)]
  · rw [if_neg h1, if_pos (nI_le (by omega) hx)]
    rfl
end LaneR
section ColR
variable {t c : Nat} {μ : Mem} {K : Nat} {f : Nat → Nat → Nat} {bd gr : Nat → Nat → Nat} {dr : Nat → Nat}
theorem col_at (ht : t < 3) (hc : c < 2) : G_X11_column (nI t) (nI c) μ = some (nI (357 * t + (289 + 34 * c)), μ) := by
  unfold G_X11_column
  rw [show (357 : Int32) * nI t = nI (357 * t) from pk_mul 357 t, show (34 : Int32) * nI c = nI (34 * c) from pk_mul 34 c, show (289 : Int32) = nI 289 from rfl, nI_add, nI_add, Nat.add_assoc]
theorem col_many (h : MT K f bd gr dr (fun k => rI μ 116 (357 * t + k))) (ht : t < 3) (hc : c < 2) : G_X11_bucketMany (nI t) (nI c) μ = some (nI K, μ) := by
  unfold G_X11_bucketMany
  have e : rI μ 116 (357 * t + (289 + 34 * c + 0)) = nI K := (h.2 c hc).1
  rw [bd_eq (col_at ht hc), gq_in (by omega) (by omega), nx_nI (by omega), show 357 * t + (289 + 34 * c) = 357 * t + (289 + 34 * c + 0) from rfl, e]
theorem col_drift_at (ht : t < 3) (hc : c < 2) : G_X11_drift (nI t) (nI c) μ = some (nI (357 * t + (289 + 34 * c + 33)), μ) := by
  unfold G_X11_drift
  rw [bd_eq (col_at ht hc), show (34 : Int32) = nI 34 from rfl, nI_add, nI_sub1 (by omega)]
  congr 3
theorem col_of (ht : t < 3) (hc : c < 2) {i w : Nat} (hi : i < 8) (hw : w < 4) : G_X11_of (nI t) (nI c) (nI i) (nI w) μ = some (rI μ 116 (357 * t + (289 + 34 * c + (1 + 4 * i + w))), μ) := by
  unfold G_X11_of
  rw [bd_eq (col_at ht hc), nI_1, show (4 : Int32) * nI i = nI (4 * i) from pk_mul 4 i, nI_add, nI_add, gq_in (by omega) (by omega), nx_nI (by omega)]
  congr 3
  omega
theorem col_of0 (h : MT K f bd gr dr (fun k => rI μ 116 (357 * t + k))) (ht : t < 3) (hc : c < 2) (hK : K ≤ 8) {i : Nat} (hi : i < K) : G_X11_of (nI t) (nI c) (nI i) 0 μ = some (nI (bd c i), μ) := by
  rw [show (0 : Int32) = nI 0 from rfl, col_of ht hc (by omega) (by omega)]
  have e := ((h.2 c hc).2.2 i hi).1
  have e : rI μ 116 (357 * t + (289 + 34 * c + (1 + 4 * i))) = nI (bd c i) := e
  rw [Nat.add_zero, e]
theorem col_of1 (h : MT K f bd gr dr (fun k => rI μ 116 (357 * t + k))) (ht : t < 3) (hc : c < 2) (hK : K ≤ 8) {i : Nat} (hi : i < K) : G_X11_of (nI t) (nI c) (nI i) 1 μ = some (nI (bd c (i + 1) - 1), μ) := by
  rw [show (1 : Int32) = nI 1 from rfl, col_of ht hc (by omega) (by omega)]
  have e : rI μ 116 (357 * t + (289 + 34 * c + (1 + 4 * i + 1))) = nI (bd c (i + 1) - 1) := ((h.2 c hc).2.2 i hi).2.1
  rw [e]
theorem col_of2 (h : MT K f bd gr dr (fun k => rI μ 116 (357 * t + k))) (ht : t < 3) (hc : c < 2) (hK : K ≤ 8) {i : Nat} (hi : i < K) : G_X11_of (nI t) (nI c) (nI i) 2 μ = some (nI (seg (cn f c) (bd c i) (bd c (i + 1))), μ) := by
  rw [show (2 : Int32) = nI 2 from rfl, col_of ht hc (by omega) (by omega)]
  have e : rI μ 116 (357 * t + (289 + 34 * c + (1 + 4 * i + 2))) = nI (seg (cn f c) (bd c i) (bd c (i + 1))) := ((h.2 c hc).2.2 i hi).2.2.1
  rw [e]
theorem col_of3 (h : MT K f bd gr dr (fun k => rI μ 116 (357 * t + k))) (ht : t < 3) (hc : c < 2) (hK : K ≤ 8) {i : Nat} (hi : i < K) : G_X11_of (nI t) (nI c) (nI i) 3 μ = some (nI (gr c i), μ) := by
  rw [show (3 : Int32) = nI 3 from rfl, col_of ht hc (by omega) (by omega)]
  have e : rI μ 116 (357 * t + (289 + 34 * c + (1 + 4 * i + 3))) = nI (gr c i) := ((h.2 c hc).2.2 i hi).2.2.2
  rw [e]
end ColR
