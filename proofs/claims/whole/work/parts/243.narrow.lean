/-! which column to build anew -/
section NA
def bdN (k0 v K : Nat) (f bd : Nat → Nat → Nat) : Nat → Nat → Nat := fun c => if c = k0 then bo (cn f c) v K else bd c
def grN (k0 v K : Nat) (f gr : Nat → Nat → Nat) : Nat → Nat → Nat := fun c => if c = k0 then gb (cn f c) (bo (cn f c) v K) else gr c
def drN (k0 : Nat) (dr : Nat → Nat) : Nat → Nat := fun c => if c = k0 then 0 else dr c
def gp (z : Nat) (tm cl sg : Nat → Nat) (nu : Nat → Int32) (f bd gr : Nat → Nat → Nat) (K : Nat) : Int32 := nI (whB tm (fuM sg cl nu f bd gr K 2) (rws f) 2 z) - nI (whB tm (fuM sg cl nu f bd gr K 1) (rws f) 1 z)
variable {μ : Mem} {z : Nat} {tm cl sg : Nat → Nat} {nu : Nat → Int32} {i K D v t : Nat} {f : Nat → Nat → Nat} {bd gr : Nat → Nat → Nat} {dr : Nat → Nat} {B pw ps pa pb : Nat}
theorem LW.new (hl : ∀ c, c < 2 → LW v K D (cn f c) (bd c) (gr c) (dr c)) (hs : rws f ≤ 999) (hv : v ≤ 16) (hK1 : 1 ≤ K) (hKv : K ≤ v) (k0 : Nat) : ∀ c, c < 2 → LW v K D (cn f c) (bdN k0 v K f bd c) (grN k0 v K f gr c) (drN k0 dr c) := fun c hc => by
  unfold bdN grN drN
  by_cases q : c = k0
  · rw [if_pos q, if_pos q, if_pos q]
    exact LW.built (Nat.le_trans (cn_sm f hc (by omega)) hs) hv hK1 hKv
  · rw [if_neg q, if_neg q, if_neg q]
    exact hl c hc
theorem spread_ok (hX : XW z tm cl sg nu pw μ) (hw : WH z tm cl sg) (ha : XL v K (cn f 0) (bd 0) (gr 0) (dr 0) pa μ) (hb : XL v K (cn f 1) (bd 1) (gr 1) (dr 1) pb μ) (hl : ∀ c, c < 2 → LW v K D (cn f c) (bd c) (gr c) (dr c)) (hs : rws f ≤ 999) (hv : v ≤ 16) (hK : K ≤ 8) (qa : pa + 2 < 103 ∨ 103 < pa) (qb : pb + 2 < 103 ∨ 103 < pb) (hpw : pw + 4 < 103) (hps : ps < 103) (hR : rI μ ps 3 = nI (rws f)) : ∃ μ', G_X2_spread pw ps pa pb μ = some (gp z tm cl sg nu f bd gr K, μ') ∧ Fr (fun q _ => q = 103) μ μ' := by
  have two : ∀ {P : Nat → Prop}, P 0 → P 1 → ∀ c, c < 2 → P c := fun h0 h1 c hc => by
    rcases (show c = 0 ∨ c = 1 by omega) with rfl | rfl
    · exact h0
    · exact h1
  obtain ⟨μ', e, fr, r0, r1, r2⟩ := find_ok (G := cn f) (BD := bd) (GR := gr) (DR := dr) (PP := fun k => if k = 0 then pa else pb) (ps := ps) (R := rws f) hX hw (two (P := fun c => XL v K (cn f c) (bd c) (gr c) (dr c) (if c = 0 then pa else pb) μ) ha hb) hl (fun c hc => Nat.le_trans (cn_sm f hc (by omega)) hs) (fun c hc => Nat.le_trans (cn_le f hc (by omega)) hs) hv hK (two (P := fun c => (if c = 0 then pa else pb) + 2 < 103 ∨ 103 < (if c = 0 then pa else pb)) qa qb) hpw hps hR hs
  refine ⟨μ', ?_, fr⟩
  have e : G_X2_find pw ps pa pb μ = some ((), μ') := e
  unfold G_X2_spread
  rw [bd_eq e, r0, r1]
  rfl
theorem asif_ok {g bd' gr' : Nat → Nat} {dr' p : Nat} (h : XL v K g bd' gr' dr' p μ) (hp : p + 2 < 99) (hK : K = min B v) (hB : 1 ≤ B) (hB8 : B ≤ 8) (hv : v ≤ 16) (hv1 : 1 ≤ v) (hg : fb_sm g v ≤ 999) (h73 : rI μ 7 3 = nI B) : ∃ μ', G_X10_asIfBuilt p μ = some ((), μ') ∧ Fr (fun q _ => 99 ≤ q ∧ q ≤ 106 ∧ q ≠ 103) μ μ' ∧ XL v K g (bo g v K) (gb g (bo g v K)) 0 104 μ' := by
  obtain ⟨μ1, e1, f1, c1⟩ := c4_ok (p0 := 104) (p1 := p) (μ := μ) (by omega)
  have x1 := c1 _ _ _ _ _ _ (by omega) h
  obtain ⟨μ2, e2, f2, x2⟩ := layAnew_ok (B := B) hv hv1 hg hB hB8 (p := 104) (by omega) ⟨x1.1.1, fun k hk => x1.1.2.2 k (by omega)⟩
  rw [← hK] at x2
  refine ⟨μ2, ?_, (f1.mono (fun q j e => by omega)).tr (f2.mono (fun q j e => by unfold LAQ LQ at e; omega)), ⟨(f2.i (by unfold LAQ LQ; omega)).trans x1.1.1, (f2.i (by unfold LAQ LQ; omega)).trans x1.1.2.1, fun k hk => (f2.i (by unfold LAQ LQ; omega)).trans (x1.1.2.2 k hk)⟩, x2⟩
  unfold G_X10_asIfBuilt
  rw [bd_eq e1, f1.i (by omega), h73, bd_eq e2]
def sbQ (q j : Nat) : Prop := qM q j ∨ q = 124 ∨ (q = 116 ∧ j < 1072)
theorem gap_ok (hM : MT K f bd gr dr (fun k => rI μ 116 (357 * t + k))) (ht : t < 3) (hW : MW z tm cl sg nu i μ) (hi : i < 5) (hw : WH z tm cl sg) (hv : v ≤ 16) (hv1 : 1 ≤ v) (hK : K = min B v) (hB : 1 ≤ B) (hB8 : B ≤ 8) (hl : ∀ c, c < 2 → LW v K D (cn f c) (bd c) (gr c) (dr c)) (hs : rws f ≤ 999) (h113 : rI μ 113 t = nI v) (h112 : rI μ 112 0 = nI B) {k0 : Nat} (hk0 : k0 < 2) : ∃ μ', G_X11_gapIfBuilt (nI t) (nI i) (nI k0) μ = some (gp z tm cl sg nu f (bdN k0 v K f bd) (grN k0 v K f gr) K, μ') ∧ ∀ q j, ¬ SCR q j → rI μ' q j = rI μ q j := by
  have back : ∀ (r : Int32) (s0 : Mem), Fr sbQ μ s0 → (∀ j, j < 1072 → rI s0 124 j = rI μ 116 j) → ∃ μ', L_X11_gapIfBuilt_57 100000 r 0 s0 = some (r, μ') ∧ ∀ q j, ¬ SCR q j → rI μ' q j = rI μ q j := fun r s0 f0 c0 => by
    refine loop_inv (fun n k (s : Mem) => L_X11_gapIfBuilt_57 n r k s) 1072 (fun k s => Fr sbQ μ s ∧ (∀ j, j < 1072 → rI s 124 j = rI μ 116 j) ∧ ∀ j, j < k → rI s 116 j = rI μ 116 j) (P := fun o => ∃ μ', o = some (r, μ') ∧ ∀ q j, ¬ SCR q j → rI μ' q j = rI μ q j) ?_ ?_ 100000 0 s0 (by omega) (by omega) ⟨f0, c0, fun j h => absurd h (by omega)⟩
    · rintro n k s hk ⟨f1, c1, d1⟩
      refine ⟨wI s 116 k (rI s 124 k), ⟨f1.wI (by unfold sbQ; omega), fun j hj => by rw [rI_wI_ne (by omega)]; exact c1 j hj, fun j hj => ?_⟩, ?_⟩
      · rw [rI_wI_eq]
        by_cases q : j = k
        · rw [if_pos q, c1 k hk, q]
        · rw [if_neg q]; exact d1 j (by omega)
      · show L_X11_gapIfBuilt_57 (n + 1) r (nI k) s = _
        rw [L_X11_gapIfBuilt_57, if_neg (l_nle (m := 1072) hk (by omega)), gq_in (by omega) (by omega), gq_in (by omega) (by omega), nx_nI (by omega), lb_e, lb_e, nI_1]
    · rintro n s ⟨f1, c1, d1⟩
      refine ⟨s, ?_, fun q j hq => ?_⟩
      · show L_X11_gapIfBuilt_57 (n + 1) r (nI 1072) s = _
        rw [L_X11_gapIfBuilt_57, if_pos (by decide)]
      · by_cases e : q = 116 ∧ j < 1072
        · rw [e.1]; exact d1 j e.2
        · exact f1.i (by unfold sbQ qM; unfold SCR at hq; omega)
  unfold G_X11_gapIfBuilt
  refine loop_inv (fun n k (s : Mem) => L_X11_gapIfBuilt_3 n (nI t) (nI i) (nI k0) k s) 1072 (fun k s => Fr (fun q _ => q = 124) μ s ∧ ∀ j, j < k → rI s 124 j = rI μ 116 j) (P := fun o => ∃ μ', o = some (gp z tm cl sg nu f (bdN k0 v K f bd) (grN k0 v K f gr) K, μ') ∧ ∀ q j, ¬ SCR q j → rI μ' q j = rI μ q j) ?_ ?_ 100000 0 μ (by omega) (by omega) ⟨Fr.rf, fun j h => absurd h (by omega)⟩
  · rintro n k s hk ⟨f1, c1⟩
    refine ⟨wI s 124 k (rI s 116 k), ⟨Fr.wI (S := fun q _ => q = 124) f1 rfl, fun j hj => ?_⟩, ?_⟩
    · rw [rI_wI_eq]
      by_cases q : j = k
      · rw [if_pos q, f1.i (by omega), q]
      · rw [if_neg q]; exact c1 j (by omega)
    · show L_X11_gapIfBuilt_3 (n + 1) (nI t) (nI i) (nI k0) (nI k) s = _
      rw [L_X11_gapIfBuilt_3, if_neg (l_nle (m := 1072) hk (by omega)), gq_in (by omega) (by omega), gq_in (by omega) (by omega), nx_nI (by omega), lb_e, lb_e, nI_1]
  · rintro n s ⟨f1, c1⟩
    show ∃ μ', L_X11_gapIfBuilt_3 (n + 1) (nI t) (nI i) (nI k0) (nI 1072) s = _ ∧ _
    have h1 : CE f (fun k => rI s 116 (357 * t + k)) := fun a b ha hb => (f1.i (by omega)).trans (hM.1 a b ha hb)
    obtain ⟨s2, e2, f2, m2⟩ := buildNow_ok h1 ht hk0 hv hv1 ((f1.i (by omega)).trans h113) ((f1.i (by omega)).trans h112) hB hB8 (Nat.le_trans (cn_sm f hk0 (by omega)) hs)
    rw [← hK] at m2
    have f2' : Fr sbQ s s2 := f2.mono (fun q j e => by unfold cQ qM at e; unfold sbQ qM; omega)
    have fa : Fr sbQ μ s2 := (f1.mono (fun q j e => by unfold sbQ; omega)).tr f2'
    have hM2 : MT K f (bdN k0 v K f bd) (grN k0 v K f gr) (drN k0 dr) (fun k => rI s2 116 (357 * t + k)) := ⟨fun a b ha hb => (f2.i (by unfold cQ qM; omega)).trans (h1 a b ha hb), fun c hc => by
      unfold bdN grN drN
      by_cases q : c = k0
      · rw [if_pos q, if_pos q, if_pos q, q]
        obtain ⟨a1, a2, a3⟩ := m2
        exact ⟨a1, a2, a3⟩
      · rw [if_neg q, if_neg q, if_neg q]
        obtain ⟨a1, a2, a3⟩ := hM.2 c hc
        have ag : ∀ j, j < 34 → rI s2 116 (357 * t + (289 + 34 * c + j)) = rI μ 116 (357 * t + (289 + 34 * c + j)) := fun j hj => (f2.i (by unfold cQ qM; omega)).trans (f1.i (by omega))
        refine ⟨(ag 0 (by omega)).trans a1, (ag 33 (by omega)).trans a2, fun i hi => ?_⟩
        obtain ⟨b1, b2, b3, b4⟩ := a3 i hi
        exact ⟨(ag _ (by omega)).trans b1, (ag _ (by omega)).trans b2, (ag _ (by omega)).trans b3, (ag _ (by omega)).trans b4⟩⟩
    have hW2 : MW z tm cl sg nu i s2 := ⟨(fa.i (by unfold sbQ qM; omega)).trans hW.1, fun u hu => by
      rw [fa.i (by unfold sbQ qM; omega), fa.i (by unfold sbQ qM; omega), fa.i (by unfold sbQ qM; omega), fa.i (by unfold sbQ qM; omega)]; exact hW.2 u hu⟩
    have ln := LW.new hl hs hv (by omega) (by omega) k0
    have w2 := whereBy_ok (w := 2) hM2 ht hW2 hi hw hv (by omega) ln hs (by omega) (by omega)
    have w1 := whereBy_ok (w := 1) hM2 ht hW2 hi hw hv (by omega) ln hs (by omega) (by omega)
    rw [L_X11_gapIfBuilt_3, if_pos (by decide), bd_eq e2, show (2 : Int32) = nI 2 from rfl, bd_eq w2, show (1 : Int32) = nI 1 from rfl, bd_eq w1, lb_e]
    exact back _ s2 fa (fun j hj => (f2.i (by unfold cQ qM; omega)).trans (c1 j hj))
theorem RR.sci {c : Nat} {μ' : Mem} (hx : RR c μ) (h : ∀ q j, ¬ SCR q j → rI μ' q j = rI μ q j) : RR c μ' := by
  obtain ⟨h1, h2, h3, T, V, B, D, m, S, h4, h5, h6⟩ := hx
  exact ⟨RT.ag (fun q j e => h _ _ (by unfold SCR; omega)) h1, RK.ag (fun q j e => h _ _ (by unfold SCR; omega)) h2, RW.ag (fun q j e => h _ _ (by unfold SCR; omega)) h3, T, V, B, D, m, S, RB.ag (fun q j e => h _ _ (by unfold SCR; omega)) h4, RP.ag (fun q j e => h _ _ (by unfold SCR; omega)) h5, RI.ag h4.1.1 (fun q j e => h _ _ (by unfold SCR; omega)) h6⟩
end NA
section NB
variable {c T : Nat} {V : Nat → Nat} {B D m : Nat} {S : Nat → St} {μ : Mem}
theorem RB.sci {μ' : Mem} (h : RB c T V B D m S μ) (f : ∀ q j, ¬ SCR q j → rI μ' q j = rI μ q j) : RB c T V B D m S μ' := h.ag (fun q j e => f _ _ (by unfold SCR; omega))
theorem MW.sci {z i : Nat} {tm cl sg : Nat → Nat} {nu : Nat → Int32} {μ' : Mem} (h : MW z tm cl sg nu i μ) (f : ∀ q j, ¬ SCR q j → rI μ' q j = rI μ q j) : MW z tm cl sg nu i μ' := ⟨(f _ _ (by unfold SCR; omega)).trans h.1, fun u hu => by
  rw [f _ _ (by unfold SCR; omega), f _ _ (by unfold SCR; omega), f _ _ (by unfold SCR; omega), f _ _ (by unfold SCR; omega)]; exact h.2 u hu⟩
theorem XW.sci {z pw : Nat} {tm cl sg : Nat → Nat} {nu : Nat → Int32} {μ' : Mem} (h : XW z tm cl sg nu pw μ) (hp : 39 ≤ pw) (hp2 : pw ≤ 59) (hz : z ≤ 6) (f : ∀ q j, ¬ SCR q j → rI μ' q j = rI μ q j) : XW z tm cl sg nu pw μ' := h.ag hz (fun q j q1 q2 => f _ _ (by unfold SCR; omega))
theorem Fr.sc {S : Nat → Nat → Prop} {μ' : Mem} (h : Fr S μ μ') (hs : ∀ q j, S q j → SCR q j) : ∀ q j, ¬ SCR q j → rI μ' q j = rI μ q j := fun q j hq => h.i (fun z => hq (hs q j z))
/-- which is the narrowest -/
def nw0 (a b d : Int32) : Int32 := if a ≤ b then (if a ≤ d then -1 else 1) else if b ≤ d then 0 else 1
def nw1 (a b d : Int32) : Int32 := if a ≤ b then (if a ≤ d then a else d) else if b ≤ d then b else d
theorem nw_x {a b d : Int32} {w : Nat} (hw : w < 2) {r : Int32 → Option (Int32 × Mem)} : (if imin b d < a then if nI w = (1 : Int32) then r (a - imin b d) else if d < b then r 1 else r 0 else if nI w = 0 then r (-1) else r 0) = r (if w = 0 then nw0 a b d else a - nw1 a b d) := by
  unfold nw0 nw1 imin
  have e0 : a - a = 0 := by rw [Int32.sub_self]
  have lt_of : ∀ {x y : Int32}, ¬ y ≤ x → x < y := fun h => by rw [fa_lt]; rw [fa_le] at h; omega
  have nlt_of : ∀ {x y : Int32}, y ≤ x → ¬ x < y := fun h => by rw [fa_lt]; rw [fa_le] at h; omega
  have w01 := (show w = 0 ∨ w = 1 by omega)
  by_cases q3 : b ≤ d
  · rw [if_neg (nlt_of q3), if_neg (nlt_of q3)]
    by_cases q1 : a ≤ b
    · have q2 : a ≤ d := by rw [fa_le] at q1 q3 ⊢; omega
      rw [if_neg (nlt_of q1), if_pos q1, if_pos q2, if_pos q1, if_pos q2, e0]
      rcases w01 with rfl | rfl
      · rfl
      · rfl
    · rw [if_pos (lt_of q1), if_neg q1, if_pos q3, if_neg q1, if_pos q3]
      rcases w01 with rfl | rfl
      · rfl
      · rfl
  · rw [if_pos (lt_of q3), if_pos (lt_of q3)]
    by_cases q2 : a ≤ d
    · have q1 : a ≤ b := by rw [fa_le] at q2 q3 ⊢; omega
      rw [if_neg (nlt_of q2), if_pos q1, if_pos q2, if_pos q1, if_pos q2, e0]
      rcases w01 with rfl | rfl
      · rfl
      · rfl
    · rw [if_pos (lt_of q2), if_neg q2, if_neg q3, if_neg q2, if_neg q3, ite_self, ite_self]
      rcases w01 with rfl | rfl
      · rfl
      · rfl
theorem a_narrow (h : RR c μ) (x y w : Int32) : Ans c (G_X10_narrow x y w μ) (G_X11_narrow x y w) := by
  have h0 := h
  obtain ⟨-, -, ⟨W, hW4, y1, y2, hWs⟩, T, V, B, D, m, S, hB, hP, -⟩ := h0
  have hT := hB.T3
  have nox : (x < 0 ∨ nI T ≤ x) → Ans c (G_X10_narrow x y w μ) (G_X11_narrow x y w) := fun hx => by
    refine Ans.p (r := -1000000) h ?_ ?_
    · unfold G_X10_narrow; rw [bd_eq (xTab_no hB.xt hx), if_pos rfl]
    · unfold G_X11_narrow; rw [bd_eq (mTab_no hB.mt hT hx), if_pos rfl]
  rcases pk_ix x (n := T) (by omega) with hx | hx | ⟨t, ht, rfl⟩
  · exact nox (Or.inl hx)
  · exact nox (Or.inr hx)
  have noy : (y < 0 ∨ nI W ≤ y) → Ans c (G_X10_narrow (nI t) y w μ) (G_X11_narrow (nI t) y w) := fun hy => by
    refine Ans.p (r := -1000000) h ?_ ?_
    · unfold G_X10_narrow; rw [bd_eq (xTab_yes hB.xt hT ht), if_neg (by decide), bd_eq (xWh_no y1 hy), if_pos rfl]
    · unfold G_X11_narrow; rw [bd_eq (mTab_yes hB.mt hT ht), if_neg (by decide), bd_eq (mWh_no y2 hW4 hy), if_pos rfl]
  rcases pk_ix y (n := W) (by omega) with hy | hy | ⟨i, hi, rfl⟩
  · exact noy (Or.inl hy)
  · exact noy (Or.inr hy)
  obtain ⟨z, tm, cl, sg', nu, hwh, hX, hM⟩ := hWs i hi
  have hV := hB.V2 ht
  have hK := hB.K8 ht
  have hr := (hB.sw ht).2.1
  have now : (w < 0 ∨ nI 2 ≤ w) → Ans c (G_X10_narrow (nI t) (nI i) w μ) (G_X11_narrow (nI t) (nI i) w) := fun hw => by
    refine Ans.p (r := -1000000) h ?_ ?_
    · unfold G_X10_narrow
      rw [bd_eq (xTab_yes hB.xt hT ht), if_neg (by decide), bd_eq (xWh_yes y1 hW4 hi), if_neg (by decide)]
      exact out_if (n := 1) (by omega) hw
    · unfold G_X11_narrow
      rw [bd_eq (mTab_yes hB.mt hT ht), if_neg (by decide), bd_eq (mWh_yes y2 hW4 hi), if_neg (by decide), bd_eq (inL_no (m := 1) (by decide) (by omega) hw), if_pos rfl]
  rcases pk_ix w (n := 2) (by omega) with hw | hw | ⟨w, hw, rfl⟩
  · exact now (Or.inl hw)
  · exact now (Or.inr hw)
  have hB8 := hB.1.2.1 (by omega)
  have x73 : rI μ 7 3 = nI B := hB.2.2.2.2.1.2.1
  generalize hKK : min B (V t) = K at *
  have hl : ∀ k, k < 2 → LW (V t) K D (cn (sf (S 0) t) k) (sb (S 0) t k) (sg (S 0) t k) (sd (S 0) t k) := by rw [← hKK]; exact hB.hl ht
  have lanes : ∀ {s : Mem}, RB c T V B D m S s → ∀ k, k < 2 → XL (V t) K (cn (sf (S 0) t) k) (sb (S 0) t k) (sg (S 0) t k) (sd (S 0) t k) (9 + 9 * t + 3 + 3 * k) s := fun hb k hk => by rw [← hKK]; exact (hb.sheet ht).2.2.2 k hk
  have ln : ∀ k0, _ := fun k0 => LW.new hl hr hV.2 (by omega) (by omega) k0
  obtain ⟨μ1, e1, f1⟩ := spread_ok (ps := 9 + 9 * t) hX hwh (lanes hB 0 (by omega)) (lanes hB 1 (by omega)) hl hr hV.2 (by omega) (by omega) (by omega) (by omega) (by omega) (hB.sheet ht).2.1
  have g1 := f1.sc (fun q j e => by unfold SCR; omega)
  have hB1 := hB.sci g1
  obtain ⟨μ2, e2, f2, x2⟩ := asif_ok (B := B) (lanes hB1 0 (by omega)) (by omega) hKK.symm hB8.1 hB8.2.1 hV.2 (by omega) (hB.le ht (by omega)) hB1.2.2.2.2.1.2.1
  have g2 : ∀ q j, ¬ SCR q j → rI μ2 q j = rI μ q j := fun q j hq => (f2.sc (fun q j e => by unfold SCR; omega) q j hq).trans (g1 q j hq)
  have hB2 := hB.sci g2
  obtain ⟨μ3, e3, f3⟩ := spread_ok (ps := 9 + 9 * t) (bd := bdN 0 (V t) K (sf (S 0) t) (sb (S 0) t)) (gr := grN 0 (V t) K (sf (S 0) t) (sg (S 0) t)) (dr := drN 0 (sd (S 0) t)) (hX.sci (by omega) (by omega) hwh.2.1 g2) hwh x2 (lanes hB2 1 (by omega)) (ln 0) hr hV.2 (by omega) (by omega) (by omega) (by omega) (by omega) (hB2.sheet ht).2.1
  have g3 : ∀ q j, ¬ SCR q j → rI μ3 q j = rI μ q j := fun q j hq => (f3.sc (fun q j e => by unfold SCR; omega) q j hq).trans (g2 q j hq)
  have hB3 := hB.sci g3
  obtain ⟨μ4, e4, f4, x4⟩ := asif_ok (B := B) (lanes hB3 1 (by omega)) (by omega) hKK.symm hB8.1 hB8.2.1 hV.2 (by omega) (hB.le ht (by omega)) hB3.2.2.2.2.1.2.1
  have g4 : ∀ q j, ¬ SCR q j → rI μ4 q j = rI μ q j := fun q j hq => (f4.sc (fun q j e => by unfold SCR; omega) q j hq).trans (g3 q j hq)
  have hB4 := hB.sci g4
  obtain ⟨μ5, e5, f5⟩ := spread_ok (ps := 9 + 9 * t) (bd := bdN 1 (V t) K (sf (S 0) t) (sb (S 0) t)) (gr := grN 1 (V t) K (sf (S 0) t) (sg (S 0) t)) (dr := drN 1 (sd (S 0) t)) (hX.sci (by omega) (by omega) hwh.2.1 g4) hwh (lanes hB4 0 (by omega)) x4 (ln 1) hr hV.2 (by omega) (by omega) (by omega) (by omega) (by omega) (hB4.sheet ht).2.1
  have g5 : ∀ q j, ¬ SCR q j → rI μ5 q j = rI μ q j := fun q j hq => (f5.sc (fun q j e => by unfold SCR; omega) q j hq).trans (g4 q j hq)
  have hB5 := hB.sci g5
  have hM5 := hM.sci g5
  have tab : ∀ {s : Mem}, RB c T V B D m S s → MT K (sf (S 0) t) (sb (S 0) t) (sg (S 0) t) (sd (S 0) t) (fun k => rI s 116 (357 * t + k)) := fun hb => by rw [← hKK]; exact hb.tab ht
  have m2 := whereBy_ok (w := 2) (tab hB5) (by omega) hM5 (by omega) hwh hV.2 (by omega) hl hr (by omega) (by omega)
  have m1 := whereBy_ok (w := 1) (tab hB5) (by omega) hM5 (by omega) hwh hV.2 (by omega) hl hr (by omega) (by omega)
  obtain ⟨μ6, e6, g6'⟩ := gap_ok (k0 := 0) (tab hB5) (by omega) hM5 (by omega) hwh hV.2 (by omega) hKK.symm hB8.1 hB8.2.1 hl hr (hB5.mv ht) hB5.2.2.2.2.2.2.1 (by omega)
  have g6 : ∀ q j, ¬ SCR q j → rI μ6 q j = rI μ q j := fun q j hq => (g6' q j hq).trans (g5 q j hq)
  have hB6 := hB.sci g6
  have hM6 := hM.sci g6
  obtain ⟨μ7, e7, g7'⟩ := gap_ok (k0 := 1) (tab hB6) (by omega) hM6 (by omega) hwh hV.2 (by omega) hKK.symm hB8.1 hB8.2.1 hl hr (hB6.mv ht) hB6.2.2.2.2.2.2.1 (by omega)
  have g7 : ∀ q j, ¬ SCR q j → rI μ7 q j = rI μ q j := fun q j hq => (g7' q j hq).trans (g6 q j hq)
  have m2' : G_X11_whereBy (nI t) (nI i) 2 μ5 = _ := m2
  have m1' : G_X11_whereBy (nI t) (nI i) 1 μ5 = _ := m1
  have e6' : G_X11_gapIfBuilt (nI t) (nI i) 0 μ5 = _ := e6
  have e7' : G_X11_gapIfBuilt (nI t) (nI i) 1 μ6 = _ := e7
  generalize hga : gp z tm cl sg' nu (sf (S 0) t) (sb (S 0) t) (sg (S 0) t) K = a at *
  generalize hgb : gp z tm cl sg' nu (sf (S 0) t) (bdN 0 (V t) K (sf (S 0) t) (sb (S 0) t)) (grN 0 (V t) K (sf (S 0) t) (sg (S 0) t)) K = b at *
  generalize hgd : gp z tm cl sg' nu (sf (S 0) t) (bdN 1 (V t) K (sf (S 0) t) (sb (S 0) t)) (grN 1 (V t) K (sf (S 0) t) (sg (S 0) t)) K = d at *
  refine ⟨if w = 0 then nw0 a b d else a - nw1 a b d, μ5, μ7, ?_, ?_, (h.sci g7).up (by omega)⟩
  · unfold G_X10_narrow
    rw [bd_eq (xTab_yes hB.xt hT ht), if_neg (by decide), bd_eq (xWh_yes y1 hW4 hi), if_neg (by decide), if_neg (r_nlt (m := 0) (Nat.zero_le _) (by omega)), if_pos (r_le (m := 1) (by omega) (by omega)), gq_in (by omega) (by omega), gq_in (by omega) (by omega), sp_eq (by omega), wp_eq (by omega), bd_eq e1, bd_eq e2, bd_eq e3, bd_eq e4, bd_eq e5, lb_e]
    exact nw_x hw (r := fun x => some (x, μ5))
  · unfold G_X11_narrow
    rw [bd_eq (mTab_yes hB5.mt hT ht), if_neg (by decide), bd_eq (mWh_yes ((g5 _ _ (by unfold SCR; omega)).trans y2) hW4 hi), if_neg (by decide), bd_eq (inL_yes (m := 1) (by decide) (by omega) (by omega)), if_neg (by decide), bd_eq m2', bd_eq m1', lb_e]
    have ea : nI (whB tm (fuM sg' cl nu (sf (S 0) t) (sb (S 0) t) (sg (S 0) t) K 2) (rws (sf (S 0) t)) 2 z) - nI (whB tm (fuM sg' cl nu (sf (S 0) t) (sb (S 0) t) (sg (S 0) t) K 1) (rws (sf (S 0) t)) 1 z) = a := hga
    rw [ea]
    have fin : ∀ n x5 x6 s, L_X11_narrow_56 (n + 1) (nI t) (nI i) (nI w) a x5 x6 2 s = some (if w = 0 then x5 else a - x6, s) := fun n x5 x6 s => by
      rw [L_X11_narrow_56, if_pos (by decide)]
      rcases (show w = 0 ∨ w = 1 by omega) with rfl | rfl
      · rw [if_pos (show nI 0 = 0 from rfl), if_pos rfl]
      · rw [if_neg (show ¬ nI 1 = 0 by decide), if_neg (by omega)]
    have s1 : ∀ n x5 x6, L_X11_narrow_56 (n + 2) (nI t) (nI i) (nI w) a x5 x6 1 μ6 = some (if w = 0 then (if x6 ≤ d then x5 else 1) else a - (if x6 ≤ d then x6 else d), μ7) := fun n x5 x6 => by
      rw [L_X11_narrow_56, if_neg (by decide), bd_eq e7']
      unfold F_X11_narrow_87
      rw [lb_e, lb_e, show (1 : Int32) + 1 = 2 from rfl, fin, fin]
      by_cases q : x6 ≤ d
      · rw [if_pos q, if_pos q, if_pos q]
      · rw [if_neg q, if_neg q, if_neg q]
    rw [show (100000 : Nat) = 99997 + 2 + 1 from rfl, L_X11_narrow_56, if_neg (by decide), bd_eq e6']
    unfold F_X11_narrow_87
    rw [lb_e, lb_e, show (0 : Int32) + 1 = 1 from rfl, s1, s1]
    unfold nw0 nw1
    by_cases q : a ≤ b
    · rw [if_pos q, if_pos q, if_pos q]
    · rw [if_neg q, if_neg q, if_neg q]
end NB
