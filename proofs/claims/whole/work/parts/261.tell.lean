/-! texts: what a book tells -/
theorem sko {α : Type} {n : Nat} {P : Nat → α → Prop} (a0 : α) (h : ∀ i, i < n → ∃ v, P i v) : ∃ V : Nat → α, ∀ i, i < n → P i (V i) := by
  classical
  exact ⟨fun i => if hi : i < n then Classical.choose (h i hi) else a0, fun i hi => by
    show P i (if hi : i < n then Classical.choose (h i hi) else a0)
    rw [dif_pos hi]
    exact Classical.choose_spec (h i hi)⟩
def DC (x : BS) (V : Nat → Nat) (R : Nat → Nat × Nat × Nat × Nat) (B D U : Nat) : Prop := 1 ≤ zt x ∧ zt x ≤ 3 ∧ zr x ≤ 20 ∧ (zS x 0 = nI B ∧ 1 ≤ B ∧ B ≤ 8) ∧ (zS x 1 = nI D ∧ D ≤ 99) ∧ (zS x 2 = nI U ∧ 1 ≤ U ∧ U ≤ 999) ∧ (∀ i, i < zt x → zT x i = nI (V i) ∧ 2 ≤ V i ∧ V i ≤ 16) ∧ ∀ i, i < zr x → zR x (4 * i) = nI (R i).1 ∧ (R i).1 < zt x ∧ zR x (4 * i + 1) = ix (R i).2.1 ∧ okv (V (R i).1) (R i).2.1 ∧ zR x (4 * i + 2) = ix (R i).2.2.1 ∧ okv (V (R i).1) (R i).2.2.1 ∧ zR x (4 * i + 3) = nI (R i).2.2.2 ∧ (R i).2.2.2 ≤ 40
theorem fw_all {x : BS} : ∀ n, fw x n = true → 0 < zt x ∧ ∀ i, i < n → okr x i = true := by
  intro n
  induction n with
  | zero => intro h; exact ⟨of_decide_eq_true h, fun i hi => absurd hi (by omega)⟩
  | succ n ih =>
    intro h
    have h : (fw x n && okr x n) = true := h
    rw [Bool.and_eq_true] at h
    obtain ⟨a, b⟩ := ih h.1
    refine ⟨a, fun i hi => ?_⟩
    by_cases q : i = n
    · rw [q]; exact h.2
    · exact b i (by omega)
theorem dc_ok {x : BS} (hw : BW x) (hf : fw x (zr x) = true) : ∃ V R B D U, DC x V R B D U := by
  obtain ⟨h1, h2, h3, h4, h5, h6⟩ := hw
  obtain ⟨f1, f2⟩ := fw_all _ hf
  have s0 : ∃ B, zS x 0 = nI B ∧ 1 ≤ B ∧ B ≤ 8 := by
    rcases h4 0 (by omega) with e | ⟨v, e, e1, e2⟩
    · exact ⟨3, e, by omega, by omega⟩
    · exact ⟨v, e, e1, e2⟩
  have s1 : ∃ D, zS x 1 = nI D ∧ D ≤ 99 := by
    rcases h4 1 (by omega) with e | ⟨v, e, e1, e2⟩
    · exact ⟨20, e, by omega⟩
    · exact ⟨v, e, e2⟩
  have s2 : ∃ U, zS x 2 = nI U ∧ 1 ≤ U ∧ U ≤ 999 := by
    rcases h4 2 (by omega) with e | ⟨v, e, e1, e2⟩
    · exact ⟨999, e, by omega, by omega⟩
    · exact ⟨v, e, e1, e2⟩
  obtain ⟨B, hB⟩ := s0
  obtain ⟨D, hD⟩ := s1
  obtain ⟨U, hU⟩ := s2
  obtain ⟨V, hV⟩ := sko (n := zt x) (P := fun i v => zT x i = nI v ∧ 2 ≤ v ∧ v ≤ 16) 0 (fun i hi => by
    rcases h5 i hi with e | ⟨v, e, e1, e2⟩
    · exact ⟨8, e, by omega, by omega⟩
    · exact ⟨v, e, e1, e2⟩)
  obtain ⟨R, hR⟩ := sko (n := zr x) (P := fun i (r : Nat × Nat × Nat × Nat) => zR x (4 * i) = nI r.1 ∧ r.1 < zt x ∧ zR x (4 * i + 1) = ix r.2.1 ∧ okv (V r.1) r.2.1 ∧ zR x (4 * i + 2) = ix r.2.2.1 ∧ okv (V r.1) r.2.2.1 ∧ zR x (4 * i + 3) = nI r.2.2.2 ∧ r.2.2.2 ≤ 40) (0, 0, 0, 0) (fun i hi => by
    have ok := f2 i hi
    unfold okr at ok
    rw [Bool.and_eq_true, Bool.and_eq_true] at ok
    obtain ⟨o1, o2, o3⟩ := ok
    have o1 := of_decide_eq_true o1
    have o2 := of_decide_eq_true o2
    have o3 := of_decide_eq_true o3
    obtain ⟨t, t2, et⟩ : ∃ t, t ≤ 2 ∧ zR x (4 * i) = nI t := by
      rcases h6 i 0 hi (by omega) with e | ⟨v, e1, e2, e3⟩
      · exact ⟨0, by omega, e⟩
      · exact ⟨v, e3, e1⟩
    rw [et] at o1 o2 o3
    have tz : t < zt x := by
      by_cases q : t < zt x
      · exact q
      · exact absurd (nI_le (by omega) (by omega)) o1
    rw [nx_nI (by omega), (hV t tz).1] at o2 o3
    have vt := (hV t tz).2
    have get : ∀ {y : Int32}, (y = -1 ∨ ∃ v, y = nI v ∧ v ≤ 15) → ¬ nI (V t) ≤ y → ∃ a, y = ix a ∧ okv (V t) a := fun {y} h hn => by
      rcases h with e | ⟨v, e, e2⟩
      · exact ⟨16, e, Or.inl rfl⟩
      · refine ⟨v, by rw [ix_n (by omega)]; exact e, Or.inr ?_⟩
        by_cases q : v < V t
        · exact q
        · rw [e] at hn
          exact absurd (nI_le (by omega) (by omega)) hn
    obtain ⟨a, ea, oa⟩ := get (y := zR x (4 * i + 1)) (by
      rcases h6 i 1 hi (by omega) with e | ⟨v, e1, e2, e3⟩
      · exact Or.inl e
      · exact Or.inr ⟨v, e1, e3⟩) o2
    obtain ⟨b, eb, ob⟩ := get (y := zR x (4 * i + 2)) (by
      rcases h6 i 2 hi (by omega) with e | ⟨v, e1, e2, e3⟩
      · exact Or.inl e
      · exact Or.inr ⟨v, e1, e3⟩) o3
    obtain ⟨n, en, on⟩ : ∃ n, zR x (4 * i + 3) = nI n ∧ n ≤ 40 := by
      rcases h6 i 3 hi (by omega) with e | ⟨v, e1, e2, e3⟩
      · exact ⟨1, e, by omega⟩
      · exact ⟨v, e1, e3⟩
    exact ⟨(t, a, b, n), et, tz, ea, oa, eb, ob, en, on⟩)
  exact ⟨V, R, B, D, U, f1, h2, h3, hB, hD, hU, hV, hR⟩
def rF (R : Nat → Nat × Nat × Nat × Nat) : Nat → Nat → Nat → Nat → Nat
  | 0, _, _, _ => 0
  | k + 1, t, a, b => rF R k t a b + if t = (R k).1 ∧ a = (R k).2.1 ∧ b = (R k).2.2.1 then (R k).2.2.2 else 0
theorem rF_chg (R : Nat → Nat × Nat × Nat × Nat) (k : Nat) : Chg (R k).2.2.2 (R k).2.1 (R k).2.2.1 (rF R k (R k).1) (rF R (k + 1) (R k).1) := by
  refine ⟨fun a b h => ?_, ?_⟩
  · show rF R k (R k).1 a b + (if (R k).1 = (R k).1 ∧ a = (R k).2.1 ∧ b = (R k).2.2.1 then (R k).2.2.2 else 0) = _
    rw [if_neg (fun z => h z.2), Nat.add_zero]
  · show ((rF R k (R k).1 (R k).2.1 (R k).2.2.1 + (if (R k).1 = (R k).1 ∧ (R k).2.1 = (R k).2.1 ∧ (R k).2.2.1 = (R k).2.2.1 then (R k).2.2.2 else 0) : Nat) : Int) = _
    rw [if_pos ⟨rfl, rfl, rfl⟩]
    omega
theorem rF_ne {R : Nat → Nat × Nat × Nat × Nat} {k t : Nat} (h : t ≠ (R k).1) : rF R (k + 1) t = rF R k t := funext fun a => funext fun b => by
  show rF R k t a b + (if t = (R k).1 ∧ a = (R k).2.1 ∧ b = (R k).2.2.1 then (R k).2.2.2 else 0) = _
  rw [if_neg (fun z => h z.1), Nat.add_zero]
theorem rws_0 : rws (fun _ _ => 0) = 0 := by
  unfold rws
  rw [fb_sm_const, fb_sm_const]
theorem rF_ok {x : BS} {V : Nat → Nat} {R : Nat → Nat × Nat × Nat × Nat} {B D U : Nat} (h : DC x V R B D U) {t : Nat} (ht : t < zt x) : ∀ k, k ≤ zr x → rws (rF R k t) ≤ 40 * k ∧ ZO (V t) (rF R k t) := by
  intro k
  induction k with
  | zero => intro _; exact ⟨by show rws (fun _ _ => 0) ≤ 0; rw [rws_0]; omega, fun a b _ _ _ => rfl⟩
  | succ k ih =>
    intro hk
    obtain ⟨i1, i2⟩ := ih (by omega)
    obtain ⟨r1, r2, r3, r4, r5, r6, r7, r8⟩ := h.2.2.2.2.2.2.2 k (by omega)
    by_cases q : t = (R k).1
    · have c := rF_chg R k
      rw [← q] at c r4 r6
      have vt := (h.2.2.2.2.2.2.1 t ht).2.2
      have := c.rwn (by unfold okv at r4; omega) (by unfold okv at r6; omega)
      exact ⟨by omega, c.zo r4 r6 i2⟩
    · rw [rF_ne q]
      exact ⟨by omega, i2⟩
def σN (V : Nat → Nat) (R : Nat → Nat × Nat × Nat × Nat) (B U n : Nat) : St := (rF R n, fun t c => bo (cn (rF R n t) c) (V t) (min B (V t)), fun t c => gb (cn (rF R n t) c) (bo (cn (rF R n t) c) (V t) (min B (V t))), fun _ _ => 0, U, 0, fun _ _ => 0)
theorem σN_ok {x : BS} {V : Nat → Nat} {R : Nat → Nat × Nat × Nat × Nat} {B D U : Nat} (h : DC x V R B D U) : CW (zt x) V B D ∧ WFS (zt x) V B D (σN V R B U (zr x)) := by
  obtain ⟨d1, d2, d3, d4, d5, d6, d7, d8⟩ := id h
  refine ⟨⟨d2, fun _ => ⟨d4.2.1, d4.2.2, d5.2⟩, fun t ht => (d7 t ht).2⟩, fun t ht => ?_, fun _ => d6.2⟩
  obtain ⟨k1, k2⟩ := rF_ok h ht (zr x) (Nat.le_refl _)
  have vt := (d7 t ht).2
  refine ⟨k2, by show rws (rF R (zr x) t) ≤ 999; omega, fun c hc => ?_⟩
  exact LW.built (Nat.le_trans (cn_sm (rF R (zr x) t) hc (by omega)) (show rws (rF R (zr x) t) ≤ 999 by omega)) vt.2 (by omega) (by omega)
/-! the class tells -/
section TL
variable {μ : Mem} {x : BS} {V : Nat → Nat} {R : Nat → Nat × Nat × Nat × Nat} {B D U : Nat}
theorem fill_ok {k0 n0 p0 : Nat} (hn : n0 < 1000) : ∃ μ', G_J7_fill_53178 k0 n0 p0 0 μ = some ((), μ') ∧ Fr (fun q _ => q = p0) μ μ' ∧ ∀ j, j < n0 → rI μ' p0 j = 0 := by
  unfold G_J7_fill_53178
  rw [lb_e, show Int32.ofNat n0 = nI n0 from rfl]
  refine loop_inv (fun n k (s : Mem) => L_J7_fill_53178_5 n k0 n0 p0 0 k (nI n0) s) n0 (fun k s => Fr (fun q _ => q = p0) μ s ∧ ∀ j, j < k → rI s p0 j = 0) (P := fun o => ∃ μ', o = some ((), μ') ∧ Fr (fun q _ => q = p0) μ μ' ∧ ∀ j, j < n0 → rI μ' p0 j = 0) ?_ ?_ 100000 0 μ (by omega) (by omega) ⟨Fr.rf, fun j hj => absurd hj (by omega)⟩
  · rintro n k s hk ⟨f, d⟩
    refine ⟨wI s p0 k 0, ⟨Fr.wI (S := fun q _ => q = p0) f rfl, fun j hj => ?_⟩, ?_⟩
    · rw [rI_wI_eq]
      by_cases q : j = k
      · rw [if_pos q]
      · rw [if_neg q]; exact d j (by omega)
    · show L_J7_fill_53178_5 (n + 1) k0 n0 p0 0 (nI k) (nI n0) s = _
      rw [L_J7_fill_53178_5, if_neg (nI_ge hk (by omega)), gq_in hk (by omega), nx_nI (by omega), lb_e, lb_e, nI_1]
  · rintro n s ⟨f, d⟩
    refine ⟨s, ?_, f, d⟩
    show L_J7_fill_53178_5 (n + 1) k0 n0 p0 0 (nI n0) (nI n0) s = _
    rw [L_J7_fill_53178_5, if_pos (nI_le (Nat.le_refl _) (by omega))]
theorem c4clr_ok {p v : Nat} : ∃ μ', G_X4_clear p (nI v) μ = some ((), μ') ∧ Fr (fun q _ => p ≤ q ∧ q ≤ p + 2) μ μ' ∧ XC v (fun _ => 0) p μ' := by
  unfold G_X4_clear
  rw [lb_e, lb_e]
  obtain ⟨μ1, e1, f1, d1⟩ := fill_ok (k0 := 1016) (n0 := 16) (p0 := p + 1) (μ := wI (wI μ p 2 (nI v)) p 3 0) (by omega)
  obtain ⟨μ2, e2, f2, d2⟩ := fill_ok (k0 := 1026) (n0 := 26) (p0 := p + 2) (μ := μ1) (by omega)
  rw [bd_eq e1, bd_eq e2]
  refine ⟨μ2, rfl, ((((Fr.rf (S := fun q _ => p ≤ q ∧ q ≤ p + 2)).wI (by omega)).wI (by omega)).tr (f1.mono (fun q j e => by omega))).tr (f2.mono (fun q j e => by omega)), ?_, ?_, fun k hk => ?_⟩
  · rw [f2.i (by omega), f1.i (by omega), rI_wI_off (by omega), rI_wI_at]
  · rw [f2.i (by omega), f1.i (by omega), rI_wI_at]; rfl
  · rw [f2.i (by omega)]; exact d1 k hk
theorem cn_0 (c v : Nat) : cn (fun _ _ => 0) c v = 0 := by
  unfold cn
  rw [show (fun o : Nat => if c = 0 then (fun _ _ => 0 : Nat → Nat → Nat) v o else (fun _ _ => 0 : Nat → Nat → Nat) o v) = fun _ => 0 from funext fun o => ite_self _, fb_sm_const]
theorem c7clr_ok {s v : Nat} : ∃ μ', G_X7_clear s (nI v) μ = some ((), μ') ∧ Fr (fun q _ => s ≤ q ∧ q ≤ s + 8) μ μ' ∧ XU v (fun _ _ => 0) s μ' := by
  unfold G_X7_clear
  rw [lb_e, lb_e]
  obtain ⟨μ1, e1, f1, d1⟩ := fill_ok (k0 := 1289) (n0 := 289) (p0 := s + 1) (μ := wI (wI μ s 2 (nI v)) s 3 0) (by omega)
  obtain ⟨μ2, e2, f2, d2⟩ := c4clr_ok (p := s + 3) (v := v) (μ := μ1)
  obtain ⟨μ3, e3, f3, d3⟩ := c4clr_ok (p := s + 6) (v := v) (μ := μ2)
  rw [bd_eq e1, bd_eq e2, bd_eq e3]
  have cz : ∀ c, cn (fun _ _ => 0) c = fun _ => 0 := fun c => funext fun v => cn_0 c v
  refine ⟨μ3, rfl, (((((Fr.rf (S := fun q _ => s ≤ q ∧ q ≤ s + 8)).wI (by omega)).wI (by omega)).tr (f1.mono (fun q j e => by omega))).tr (f2.mono (fun q j e => by omega))).tr (f3.mono (fun q j e => by omega)), ?_, ?_, fun a b ha hb => ?_, fun c hc => ?_⟩
  · rw [f3.i (by omega), f2.i (by omega), f1.i (by omega), rI_wI_off (by omega), rI_wI_at]
  · rw [f3.i (by omega), f2.i (by omega), f1.i (by omega), rI_wI_at, rws_0]; rfl
  · have x1 := xk_le ha
    have x2 := xk_le hb
    rw [f3.i (by omega), f2.i (by omega), d1 _ (by omega)]; rfl
  · rw [cz]
    rcases (show c = 0 ∨ c = 1 by omega) with rfl | rfl
    · exact d2.ag (fun q j e => f3.i (by omega))
    · exact d3
theorem tell_x (hd : DC x V R B D U) (hw : BW x) (hK : XK x μ) : ∃ μ', G_X0_tell 7 μ = some ((), μ') ∧ Fr (fun q j => (q = 7 ∧ 2 ≤ j ∧ j ≤ 5) ∨ (9 ≤ q ∧ q ≤ 35) ∨ (q = 36 ∧ j = 1) ∨ (99 ≤ q ∧ q ≤ 102)) μ μ' ∧ XB (zt x) V B D (σN V R B U (zr x)) 0 7 μ' := by
  obtain ⟨d1, d2, d3, ⟨d4, d4a, d4b⟩, ⟨d5, d5a⟩, ⟨d6, d6a, d6b⟩, d7, d8⟩ := id hd
  obtain ⟨k1, k2, k3, k4, k5, k6⟩ := id hK
  unfold G_X0_tell
  rw [lb_e, lb_e, lb_e, lb_e, lb_e]
  have hh : ∃ μ1, wI (wI (wI (wI (wI μ 7 2 (rI μ 3 4)) 7 3 (rI (wI μ 7 2 (rI μ 3 4)) 4 0)) 7 4 (rI (wI (wI μ 7 2 (rI μ 3 4)) 7 3 (rI (wI μ 7 2 (rI μ 3 4)) 4 0)) 4 1)) 7 5 (rI (wI (wI (wI μ 7 2 (rI μ 3 4)) 7 3 (rI (wI μ 7 2 (rI μ 3 4)) 4 0)) 7 4 (rI (wI (wI μ 7 2 (rI μ 3 4)) 7 3 (rI (wI μ 7 2 (rI μ 3 4)) 4 0)) 4 1)) 4 2)) (7 + 29) 1 0 = μ1 := ⟨_, rfl⟩
  obtain ⟨μ1, hh⟩ := hh
  rw [hh]
  rw [rI_wI_ne (show (4 : Nat) ≠ 7 by omega), rI_wI_ne (show (4 : Nat) ≠ 7 by omega), rI_wI_ne (show (4 : Nat) ≠ 7 by omega), rI_wI_ne (show (4 : Nat) ≠ 7 by omega), rI_wI_ne (show (4 : Nat) ≠ 7 by omega), rI_wI_ne (show (4 : Nat) ≠ 7 by omega), k2, k4 0 (by omega), k4 1 (by omega), k4 2 (by omega), d4, d5, d6] at hh
  have f1 : Fr (fun q j => (q = 7 ∧ 2 ≤ j ∧ j ≤ 5) ∨ (q = 36 ∧ j = 1)) μ μ1 := by
    rw [← hh]
    exact (((((Fr.rf (S := fun q j => (q = 7 ∧ 2 ≤ j ∧ j ≤ 5) ∨ (q = 36 ∧ j = 1))).wI (by omega)).wI (by omega)).wI (by omega)).wI (by omega)).wI (by omega)
  have a2 : rI μ1 7 2 = nI (zt x) := by rw [← hh, rI_wI_ne (by omega), rI_wI_off (by omega), rI_wI_off (by omega), rI_wI_off (by omega), rI_wI_at]
  have a3 : rI μ1 7 3 = nI B := by rw [← hh, rI_wI_ne (by omega), rI_wI_off (by omega), rI_wI_off (by omega), rI_wI_at]
  have a4 : rI μ1 7 4 = nI D := by rw [← hh, rI_wI_ne (by omega), rI_wI_off (by omega), rI_wI_at]
  have a5 : rI μ1 7 5 = nI U := by rw [← hh, rI_wI_ne (by omega), rI_wI_at]
  have a36 : rI μ1 36 1 = 0 := by rw [← hh, rI_wI_at]
  have hK1 : XK x μ1 := hK.ag (fun q j e => f1.i (by omega))
  have sp : ∀ t, t < zt x → shP (7 + 1) (nI t) = 9 + 9 * t := fun t ht => sp_eq (by omega)
  -- the last: buckets
  have lay : ∀ μ2, Fr (fun q j => 9 ≤ q ∧ q ≤ 35) μ1 μ2 → (∀ t, t < zt x → XU (V t) (rF R (zr x) t) (9 + 9 * t) μ2) → ∃ μ', L_X0_tell_131 100000 7 0 μ2 = some ((), μ') ∧ Fr (fun q j => (9 ≤ q ∧ q ≤ 35) ∨ (99 ≤ q ∧ q ≤ 102)) μ1 μ' ∧ ∀ t, t < zt x → XT (V t) (min B (V t)) (rF R (zr x) t) (fun c => bo (cn (rF R (zr x) t) c) (V t) (min B (V t))) (fun c => gb (cn (rF R (zr x) t) c) (bo (cn (rF R (zr x) t) c) (V t) (min B (V t)))) (fun _ => 0) (9 + 9 * t) μ' := fun μ2 f2 u2 => by
    refine loop_inv (fun n k (s : Mem) => L_X0_tell_131 n 7 k s) (zt x) (fun k s => Fr (fun q j => (9 ≤ q ∧ q ≤ 35) ∨ (99 ≤ q ∧ q ≤ 102)) μ1 s ∧ (∀ t, t < zt x → XU (V t) (rF R (zr x) t) (9 + 9 * t) s) ∧ ∀ t, t < k → ∀ c, c < 2 → XS (min B (V t)) (cn (rF R (zr x) t) c) (bo (cn (rF R (zr x) t) c) (V t) (min B (V t))) (gb (cn (rF R (zr x) t) c) (bo (cn (rF R (zr x) t) c) (V t) (min B (V t)))) 0 (fun j => rI s (9 + 9 * t + 3 + 3 * c + 2) j)) (P := fun o => ∃ μ', o = some ((), μ') ∧ Fr (fun q j => (9 ≤ q ∧ q ≤ 35) ∨ (99 ≤ q ∧ q ≤ 102)) μ1 μ' ∧ ∀ t, t < zt x → XT (V t) (min B (V t)) (rF R (zr x) t) (fun c => bo (cn (rF R (zr x) t) c) (V t) (min B (V t))) (fun c => gb (cn (rF R (zr x) t) c) (bo (cn (rF R (zr x) t) c) (V t) (min B (V t)))) (fun _ => 0) (9 + 9 * t) μ') ?_ ?_ 100000 0 μ2 (by omega) (by omega) ⟨f2.mono (fun q j e => Or.inl e), u2, fun t ht => absurd ht (by omega)⟩
    · rintro n k s hk ⟨f, u, y⟩
      have vk := (d7 k hk).2
      obtain ⟨r1, r2⟩ := rF_ok hd hk (zr x) (Nat.le_refl _)
      have cl : ∀ {s' : Mem}, (∀ t, t < zt x → XU (V t) (rF R (zr x) t) (9 + 9 * t) s') → ∀ c, c < 2 → CL (V k) (cn (rF R (zr x) k) c) (9 + 9 * k + 3 + 3 * c) s' := fun u c hc => ⟨((u k hk).2.2.2 c hc).1, fun j hj => ((u k hk).2.2.2 c hc).2.2 j (by omega)⟩
      obtain ⟨s1, e1, g1, x1⟩ := layAnew_ok (B := B) (p := 9 + 9 * k + 3) vk.2 (by omega) (Nat.le_trans (cn_sm (rF R (zr x) k) (c := 0) (by omega) (by omega)) (by omega)) d4a d4b (by omega) (cl u 0 (by omega))
      have h1 : Fr (fun q j => (9 ≤ q ∧ q ≤ 35) ∨ (99 ≤ q ∧ q ≤ 102)) μ1 s1 := f.tr (g1.mono (fun q j e => by unfold LAQ LQ at e; omega))
      have u1 : ∀ t, t < zt x → XU (V t) (rF R (zr x) t) (9 + 9 * t) s1 := fun t ht => (u t ht).ag (fun q j q1 q2 q3 q4 => g1.i (by unfold LAQ LQ; omega))
      obtain ⟨s2, e2, g2, x2⟩ := layAnew_ok (B := B) (p := 9 + 9 * k + 6) vk.2 (by omega) (Nat.le_trans (cn_sm (rF R (zr x) k) (c := 1) (by omega) (by omega)) (by omega)) d4a d4b (by omega) (cl u1 1 (by omega))
      have h2 : Fr (fun q j => (9 ≤ q ∧ q ≤ 35) ∨ (99 ≤ q ∧ q ≤ 102)) μ1 s2 := h1.tr (g2.mono (fun q j e => by unfold LAQ LQ at e; omega))
      refine ⟨s2, ⟨h2, fun t ht => (u1 t ht).ag (fun q j q1 q2 q3 q4 => g2.i (by unfold LAQ LQ; omega)), fun t ht c hc => ?_⟩, ?_⟩
      · by_cases q : t = k
        · subst q
          rcases (show c = 0 ∨ c = 1 by omega) with rfl | rfl
          · exact x1.ag (fun j => g2.i (by unfold LAQ LQ; omega))
          · exact x2
        · exact (y t (by omega) c hc).ag (fun j => (g2.i (by unfold LAQ LQ; omega)).trans (g1.i (by unfold LAQ LQ; omega)))
      · show L_X0_tell_131 (n + 1) 7 (nI k) s = _
        rw [L_X0_tell_131, f.i (by omega), a2, if_neg (nI_ge hk (by omega)), gq_in (by omega) (by omega), sp k hk, f.i (by omega), a3, bd_eq e1, gq_in (by omega) (by omega), h1.i (by omega), a3, bd_eq e2, lb_e, nI_1]
    · rintro n s ⟨f, u, y⟩
      refine ⟨s, ?_, f, fun t ht => XT.of (u t ht) (fun c hc => y t ht c hc)⟩
      show L_X0_tell_131 (n + 1) 7 (nI (zt x)) s = _
      rw [L_X0_tell_131, f.i (by omega), a2, if_pos (nI_le (Nat.le_refl _) (by omega))]
  -- rows
  have row : ∀ μ2, Fr (fun q j => 9 ≤ q ∧ q ≤ 35) μ1 μ2 → (∀ t, t < zt x → XU (V t) (rF R 0 t) (9 + 9 * t) μ2) → ∃ μ', L_X0_tell_79 100000 7 0 μ2 = some ((), μ') ∧ Fr (fun q j => (9 ≤ q ∧ q ≤ 35) ∨ (99 ≤ q ∧ q ≤ 102)) μ1 μ' ∧ ∀ t, t < zt x → XT (V t) (min B (V t)) (rF R (zr x) t) (fun c => bo (cn (rF R (zr x) t) c) (V t) (min B (V t))) (fun c => gb (cn (rF R (zr x) t) c) (bo (cn (rF R (zr x) t) c) (V t) (min B (V t)))) (fun _ => 0) (9 + 9 * t) μ' := fun μ2 f2 u2 => by
    refine loop_inv (fun n k (s : Mem) => L_X0_tell_79 n 7 k s) (zr x) (fun k s => Fr (fun q j => 9 ≤ q ∧ q ≤ 35) μ1 s ∧ ∀ t, t < zt x → XU (V t) (rF R k t) (9 + 9 * t) s) (P := fun o => ∃ μ', o = some ((), μ') ∧ Fr (fun q j => (9 ≤ q ∧ q ≤ 35) ∨ (99 ≤ q ∧ q ≤ 102)) μ1 μ' ∧ ∀ t, t < zt x → XT (V t) (min B (V t)) (rF R (zr x) t) (fun c => bo (cn (rF R (zr x) t) c) (V t) (min B (V t))) (fun c => gb (cn (rF R (zr x) t) c) (bo (cn (rF R (zr x) t) c) (V t) (min B (V t)))) (fun _ => 0) (9 + 9 * t) μ') ?_ ?_ 100000 0 μ2 (by omega) (by omega) ⟨f2, u2⟩
    · rintro n k s hk ⟨f, u⟩
      obtain ⟨r1, r2, r3, r4, r5, r6, r7, r8⟩ := d8 k hk
      have hKs : XK x s := hK1.ag (fun q j e => f.i (by omega))
      have c0 := ri_x hKs d3 hk (j := 0) (by omega)
      rw [Nat.add_zero, r1] at c0
      have c0' : G_X1_rowItem (nI k) 0 s = _ := c0
      have c1 : G_X1_rowItem (nI k) 1 s = _ := ri_x hKs d3 hk (j := 1) (by omega)
      have c2 : G_X1_rowItem (nI k) 2 s = _ := ri_x hKs d3 hk (j := 2) (by omega)
      have c3 : G_X1_rowItem (nI k) 3 s = _ := ri_x hKs d3 hk (j := 3) (by omega)
      rw [r3] at c1
      rw [r5] at c2
      rw [r7] at c3
      have vt := (d7 _ r2).2
      obtain ⟨s1, e1, g1, x1⟩ := chR_ok (u _ r2) (rF_chg R k) (by unfold okv at r4; omega) (by unfold okv at r6; omega)
      rw [← nI_zI] at e1
      refine ⟨s1, ⟨f.tr (g1.mono (fun q j e => by unfold chQ at e; omega)), fun t ht => ?_⟩, ?_⟩
      · by_cases q : t = (R k).1
        · rw [q]; exact x1
        · rw [rF_ne q]
          exact (u t ht).ag (fun q' j q1 q2 q3 q4 => g1.i (by unfold chQ; omega))
      · show L_X0_tell_79 (n + 1) 7 (nI k) s = _
        rw [L_X0_tell_79, hKs.2.2.1, if_neg (nI_ge hk (by omega)), bd_eq c0', gq_in (by omega) (by omega), bd_eq c1, bd_eq c2, bd_eq c3, sp _ r2, bd_eq e1, lb_e, nI_1]
    · rintro n s ⟨f, u⟩
      show ∃ μ', L_X0_tell_79 (n + 1) 7 (nI (zr x)) s = _ ∧ _
      rw [L_X0_tell_79, f.i (by omega), hK1.2.2.1, if_pos (nI_le (Nat.le_refl _) (by omega))]
      exact lay s f u
  have all : ∃ μ', L_X0_tell_48 100000 7 0 μ1 = some ((), μ') ∧ Fr (fun q j => (9 ≤ q ∧ q ≤ 35) ∨ (99 ≤ q ∧ q ≤ 102)) μ1 μ' ∧ ∀ t, t < zt x → XT (V t) (min B (V t)) (rF R (zr x) t) (fun c => bo (cn (rF R (zr x) t) c) (V t) (min B (V t))) (fun c => gb (cn (rF R (zr x) t) c) (bo (cn (rF R (zr x) t) c) (V t) (min B (V t)))) (fun _ => 0) (9 + 9 * t) μ' := by
    refine loop_inv (fun n k (s : Mem) => L_X0_tell_48 n 7 k s) (zt x) (fun k s => Fr (fun q j => 9 ≤ q ∧ q ≤ 35) μ1 s ∧ ∀ t, t < k → XU (V t) (rF R 0 t) (9 + 9 * t) s) (P := fun o => ∃ μ', o = some ((), μ') ∧ Fr (fun q j => (9 ≤ q ∧ q ≤ 35) ∨ (99 ≤ q ∧ q ≤ 102)) μ1 μ' ∧ ∀ t, t < zt x → XT (V t) (min B (V t)) (rF R (zr x) t) (fun c => bo (cn (rF R (zr x) t) c) (V t) (min B (V t))) (fun c => gb (cn (rF R (zr x) t) c) (bo (cn (rF R (zr x) t) c) (V t) (min B (V t)))) (fun _ => 0) (9 + 9 * t) μ') ?_ ?_ 100000 0 μ1 (by omega) (by omega) ⟨Fr.rf, fun t ht => absurd ht (by omega)⟩
    · rintro n k s hk ⟨f, u⟩
      obtain ⟨s1, e1, g1, x1⟩ := c7clr_ok (s := 9 + 9 * k) (v := V k) (μ := s)
      refine ⟨s1, ⟨f.tr (g1.mono (fun q j e => by omega)), fun t ht => ?_⟩, ?_⟩
      · by_cases q : t = k
        · rw [q]; exact x1
        · exact (u t (by omega)).ag (fun q' j q1 q2 q3 q4 => g1.i (by omega))
      · show L_X0_tell_48 (n + 1) 7 (nI k) s = _
        rw [L_X0_tell_48, f.i (by omega), a2, if_neg (nI_ge hk (by omega)), gq_in (by omega) (by omega), gq_in (by omega) (by omega), sp k hk, nx_nI (by omega), f.i (by omega), hK1.2.2.2.2.1 k hk, (d7 k hk).1, bd_eq e1, lb_e, nI_1]
    · rintro n s ⟨f, u⟩
      show ∃ μ', L_X0_tell_48 (n + 1) 7 (nI (zt x)) s = _ ∧ _
      rw [L_X0_tell_48, f.i (by omega), a2, if_pos (nI_le (Nat.le_refl _) (by omega))]
      exact row s f u
  obtain ⟨μ', e, fr, xt⟩ := all
  refine ⟨μ', e, (f1.mono (fun q j e => by omega)).tr (fr.mono (fun q j e => by omega)), (fr.i (by omega)).trans a2, (fr.i (by omega)).trans a3, (fr.i (by omega)).trans a4, fun _ => (fr.i (by omega)).trans a5, fun t ht => xt t ht, (fr.i (by omega)).trans a36, fun j w hj => absurd hj (Nat.not_lt_zero _)⟩
end TL
