/-! texts: the model takes a book; text -/
section TK
variable {μ : Mem} {x : BS} {V : Nat → Nat} {R : Nat → Nat × Nat × Nat × Nat} {B D U : Nat}
def tkQ (q j : Nat) : Prop := (q = 107 ∧ (j = 12 ∨ j = 19 ∨ j = 23 ∨ j = 32)) ∨ q = 112 ∨ q = 113 ∨ q = 116 ∨ (118 ≤ q ∧ q ≤ 120)
theorem MC.ag {K : Nat} {g bd gr : Nat → Nat} {dr : Nat} {q q' : Nat → Int32} (hK : K ≤ 8) (h : MC K g bd gr dr q) (e : ∀ k, k < 34 → q' k = q k) : MC K g bd gr dr q' := by
  obtain ⟨a1, a2, a3⟩ := h
  refine ⟨(e _ (by omega)).trans a1, (e _ (by omega)).trans a2, fun i hi => ?_⟩
  obtain ⟨b1, b2, b3, b4⟩ := a3 i hi
  exact ⟨(e _ (by omega)).trans b1, (e _ (by omega)).trans b2, (e _ (by omega)).trans b3, (e _ (by omega)).trans b4⟩
theorem take_m (hd : DC x V R B D U) (hK : MK x μ) : ∃ μ', G_X11_takeBook μ = some (nI (zt x), μ') ∧ Fr tkQ μ μ' ∧ rI μ' 107 12 = nI (zt x) ∧ rI μ' 112 0 = nI B ∧ rI μ' 112 1 = nI D ∧ (∀ t, t < zt x → rI μ' 113 t = nI (V t)) ∧ rI μ' 107 23 = 0 ∧ rI μ' 107 32 = 0 ∧ MB (zt x) V B (σN V R B U (zr x)) (fun k => rI μ' 116 k) := by
  obtain ⟨d1, d2, d3, ⟨d4, d4a, d4b⟩, ⟨d5, d5a⟩, ⟨d6, d6a, d6b⟩, d7, d8⟩ := id hd
  obtain ⟨k2, k3, k4, k5, k6⟩ := id hK
  let G : Option (Int32 × Mem) → Prop := fun o => ∃ μ', o = some (nI (zt x), μ') ∧ Fr tkQ μ μ' ∧ rI μ' 107 12 = nI (zt x) ∧ rI μ' 112 0 = nI B ∧ rI μ' 112 1 = nI D ∧ (∀ t, t < zt x → rI μ' 113 t = nI (V t)) ∧ rI μ' 107 23 = 0 ∧ rI μ' 107 32 = 0 ∧ MB (zt x) V B (σN V R B U (zr x)) (fun k => rI μ' 116 k)
  show G (G_X11_takeBook μ)
  -- the last: buckets
  have lay : ∀ s0, Fr tkQ μ s0 → rI s0 107 12 = nI (zt x) → (rI s0 112 0 = nI B ∧ rI s0 112 1 = nI D) → (∀ t, t < zt x → rI s0 113 t = nI (V t)) → (rI s0 116 1071 = nI U ∧ rI s0 116 1072 = 0) → (∀ t, t < zt x → CE (rF R (zr x) t) (fun k => rI s0 116 (357 * t + k))) → G (L_X11_takeBook_166 100000 0 s0) := fun s0 f0 h12 h112 h113 h71 hc => by
    refine loop_inv (fun n k (s : Mem) => L_X11_takeBook_166 n k s) (zt x) (fun k s => Fr (fun q j => (q = 107 ∧ j = 19) ∨ (118 ≤ q ∧ q ≤ 120) ∨ (q = 116 ∧ j < 1071 ∧ 289 ≤ j % 357)) s0 s ∧ ∀ t, t < k → ∀ c, c < 2 → MC (min B (V t)) (cn (rF R (zr x) t) c) (bo (cn (rF R (zr x) t) c) (V t) (min B (V t))) (gb (cn (rF R (zr x) t) c) (bo (cn (rF R (zr x) t) c) (V t) (min B (V t)))) 0 (fun j => rI s 116 (357 * t + (289 + 34 * c + j)))) (P := G) ?_ ?_ 100000 0 s0 (by omega) (by omega) ⟨Fr.rf, fun t ht => absurd ht (by omega)⟩
    · rintro n k s hk ⟨f, y⟩
      have vk := (d7 k hk).2
      obtain ⟨r1, r2⟩ := rF_ok hd hk (zr x) (Nat.le_refl _)
      have ce : ∀ {s' : Mem}, Fr (fun q j => (q = 107 ∧ j = 19) ∨ (118 ≤ q ∧ q ≤ 120) ∨ (q = 116 ∧ j < 1071 ∧ 289 ≤ j % 357)) s0 s' → CE (rF R (zr x) k) (fun j => rI s' 116 (357 * k + j)) := fun g a b ha hb => (g.i (by omega)).trans (hc k hk a b ha hb)
      obtain ⟨s1, e1, g1, x1⟩ := buildNow_ok (c := 0) (ce f) (by omega) (by omega) vk.2 (by omega) ((f.i (by omega)).trans (h113 k hk)) ((f.i (by omega)).trans h112.1) d4a d4b (Nat.le_trans (cn_sm (rF R (zr x) k) (c := 0) (by omega) (by omega)) (by omega))
      have f1 : Fr (fun q j => (q = 107 ∧ j = 19) ∨ (118 ≤ q ∧ q ≤ 120) ∨ (q = 116 ∧ j < 1071 ∧ 289 ≤ j % 357)) s0 s1 := f.tr (g1.mono (fun q j e => by unfold cQ qM at e; omega))
      obtain ⟨s2, e2, g2, x2⟩ := buildNow_ok (c := 1) (ce f1) (by omega) (by omega) vk.2 (by omega) ((f1.i (by omega)).trans (h113 k hk)) ((f1.i (by omega)).trans h112.1) d4a d4b (Nat.le_trans (cn_sm (rF R (zr x) k) (c := 1) (by omega) (by omega)) (by omega))
      have f2 : Fr (fun q j => (q = 107 ∧ j = 19) ∨ (118 ≤ q ∧ q ≤ 120) ∨ (q = 116 ∧ j < 1071 ∧ 289 ≤ j % 357)) s0 s2 := f1.tr (g2.mono (fun q j e => by unfold cQ qM at e; omega))
      refine ⟨s2, ⟨f2, fun t ht c hc2 => ?_⟩, ?_⟩
      · by_cases q : t = k
        · subst q
          rcases (show c = 0 ∨ c = 1 by omega) with rfl | rfl
          · exact x1.ag (by omega) (fun j hj => g2.i (by unfold cQ qM; omega))
          · exact x2
        · have vt := (d7 t (by omega)).2
          exact (y t (by omega) c hc2).ag (by omega) (fun j hj => (g2.i (by unfold cQ qM; omega)).trans (g1.i (by unfold cQ qM; omega)))
      · show L_X11_takeBook_166 (n + 1) (nI k) s = _
        have e1' : G_X11_buildNow (nI k) 0 s = _ := e1
        have e2' : G_X11_buildNow (nI k) 1 s1 = _ := e2
        rw [L_X11_takeBook_166, f.i (by omega), h12, if_neg (nI_ge hk (by omega)), bd_eq e1', bd_eq e2', lb_e, nI_1]
    · rintro n s ⟨f, y⟩
      show G (L_X11_takeBook_166 (n + 1) (nI (zt x)) s)
      have s12 : rI s 107 12 = nI (zt x) := (f.i (by omega)).trans h12
      rw [L_X11_takeBook_166, s12, if_pos (nI_le (Nat.le_refl _) (by omega)), lb_e, lb_e, rI_wI_off (by omega), rI_wI_off (by omega), s12]
      have ff : Fr tkQ μ s := f0.tr (f.mono (fun q j e => by unfold tkQ; omega))
      refine ⟨_, rfl, (ff.wI (by unfold tkQ; omega)).wI (by unfold tkQ; omega), ?_, ?_, ?_, fun t ht => ?_, ?_, rI_wI_at, fun t ht => ⟨fun a b ha hb => ?_, fun c hc2 => ?_⟩, fun _ => ?_, ?_, fun j w hj => absurd hj (by show ¬ j < min 0 60; omega)⟩
      · rw [rI_wI_off (by omega), rI_wI_off (by omega)]; exact s12
      · rw [rI_wI_ne (by omega), rI_wI_ne (by omega), f.i (by omega)]; exact h112.1
      · rw [rI_wI_ne (by omega), rI_wI_ne (by omega), f.i (by omega)]; exact h112.2
      · rw [rI_wI_ne (by omega), rI_wI_ne (by omega), f.i (by omega)]; exact h113 t ht
      · rw [rI_wI_off (by omega), rI_wI_at]
      · show rI _ 116 (357 * t + (17 * a + b)) = _
        rw [rI_wI_ne (by omega), rI_wI_ne (by omega), f.i (by omega)]; exact hc t ht a b ha hb
      · have vt := (d7 t ht).2
        exact (y t ht c hc2).ag (by omega) (fun j hj => by
          show rI _ 116 _ = rI _ 116 _
          rw [rI_wI_ne (by omega), rI_wI_ne (by omega)])
      · show rI _ 116 1071 = _
        rw [rI_wI_ne (by omega), rI_wI_ne (by omega), f.i (by omega)]; exact h71.1
      · show rI _ 116 1072 = _
        rw [rI_wI_ne (by omega), rI_wI_ne (by omega), f.i (by omega)]; exact h71.2
  -- rows
  have row : ∀ s0, Fr tkQ μ s0 → rI s0 107 12 = nI (zt x) → (rI s0 112 0 = nI B ∧ rI s0 112 1 = nI D) → (∀ t, t < zt x → rI s0 113 t = nI (V t)) → (rI s0 116 1071 = nI U ∧ rI s0 116 1072 = 0) → (∀ t, t < zt x → CE (rF R 0 t) (fun k => rI s0 116 (357 * t + k))) → G (L_X11_takeBook_99 100000 0 s0) := fun s0 f0 h12 h112 h113 h71 hc => by
    refine loop_inv (fun n k (s : Mem) => L_X11_takeBook_99 n k s) (zr x) (fun k s => Fr (fun q j => q = 116 ∧ j < 1071) s0 s ∧ ∀ t, t < zt x → CE (rF R k t) (fun j => rI s 116 (357 * t + j))) (P := G) ?_ ?_ 100000 0 s0 (by omega) (by omega) ⟨Fr.rf, hc⟩
    · rintro n k s hk ⟨f, y⟩
      obtain ⟨r1, r2, r3, r4, r5, r6, r7, r8⟩ := d8 k hk
      have vt := (d7 _ r2).2
      have ha : (R k).2.1 ≤ 16 := by unfold okv at r4; omega
      have hb : (R k).2.2.1 ≤ 16 := by unfold okv at r6; omega
      have g111 : ∀ j, j < 4 → rI s 111 (4 * k + j) = zR x (4 * k + j) := fun j hj => (f.i (by omega)).trans ((f0.i (by unfold tkQ; omega)).trans (k6 _ (by omega)))
      have i40 : (4 : Int32) * nI k + 0 = nI (4 * k + 0) := by rw [show (4 : Int32) = nI 4 from rfl, pk_mul]; exact nI_add _ 0
      have i41 : (4 : Int32) * nI k + 1 = nI (4 * k + 1) := by rw [show (4 : Int32) = nI 4 from rfl, pk_mul]; exact nI_add _ 1
      have i42 : (4 : Int32) * nI k + 2 = nI (4 * k + 2) := by rw [show (4 : Int32) = nI 4 from rfl, pk_mul]; exact nI_add _ 2
      have i43 : (4 : Int32) * nI k + 3 = nI (4 * k + 3) := by rw [show (4 : Int32) = nI 4 from rfl, pk_mul]; exact nI_add _ 3
      have old := y _ r2 _ _ ha hb
      have old : rI s 116 (357 * (R k).1 + (17 * (R k).2.1 + (R k).2.2.1)) = nI (rF R k (R k).1 (R k).2.1 (R k).2.2.1) := old
      obtain ⟨cg1, cg2⟩ := rF_chg R k
      refine ⟨wI s 116 (357 * (R k).1 + (17 * (R k).2.1 + (R k).2.2.1)) (nI (rF R (k + 1) (R k).1 (R k).2.1 (R k).2.2.1)), ⟨Fr.wI (S := fun q j => q = 116 ∧ j < 1071) f ⟨rfl, by omega⟩, fun t ht a b ha' hb' => ?_⟩, ?_⟩
      · show rI (wI s 116 _ _) 116 (357 * t + (17 * a + b)) = _
        rw [rI_wI_eq]
        by_cases q : t = (R k).1 ∧ a = (R k).2.1 ∧ b = (R k).2.2.1
        · rw [if_pos (by rw [q.1, q.2.1, q.2.2]), q.1, q.2.1, q.2.2]
        · rw [if_neg (by omega)]
          have e : rF R (k + 1) t a b = rF R k t a b := by
            by_cases qt : t = (R k).1
            · rw [qt]; exact cg1 a b (fun z => q ⟨qt, z⟩)
            · rw [rF_ne qt]
          rw [e]; exact y t ht a b ha' hb'
      · show L_X11_takeBook_99 (n + 1) (nI k) s = _
        rw [L_X11_takeBook_99, f.i (by omega), f0.i (by unfold tkQ; omega), k3, if_neg (nI_ge hk (by omega)), i40, i41, i42, i43, gq_in (by omega) (by omega), gq_in (by omega) (by omega), gq_in (by omega) (by omega), nx_nI (k := 4 * k + 0) (by omega), nx_nI (k := 4 * k + 1) (by omega), nx_nI (k := 4 * k + 2) (by omega), g111 0 (by omega), g111 1 (by omega), g111 2 (by omega), Nat.add_zero, r1, r3, r5, bd_eq (place_ix (by omega) ha hb), gq_in (by omega) (by omega), gq_in (by omega) (by omega), gq_in (by omega) (by omega), nx_nI (k := 357 * (R k).1 + (17 * (R k).2.1 + (R k).2.2.1)) (by omega), nx_nI (k := 4 * k + 3) (by omega), g111 3 (by omega), r7, old, nI_add, lb_e, lb_e, nI_1, show rF R k (R k).1 (R k).2.1 (R k).2.2.1 + (R k).2.2.2 = rF R (k + 1) (R k).1 (R k).2.1 (R k).2.2.1 by omega]
    · rintro n s ⟨f, y⟩
      show G (L_X11_takeBook_99 (n + 1) (nI (zr x)) s)
      rw [L_X11_takeBook_99, f.i (by omega), f0.i (by unfold tkQ; omega), k3, if_pos (nI_le (Nat.le_refl _) (by omega))]
      exact lay s (f0.tr (f.mono (fun q j e => by unfold tkQ; omega))) ((f.i (by omega)).trans h12) ⟨(f.i (by omega)).trans h112.1, (f.i (by omega)).trans h112.2⟩ (fun t ht => (f.i (by omega)).trans (h113 t ht)) ⟨(f.i (by omega)).trans h71.1, (f.i (by omega)).trans h71.2⟩ y
  -- values
  have vals : ∀ s0, Fr tkQ μ s0 → rI s0 107 12 = nI (zt x) → (rI s0 112 0 = nI B ∧ rI s0 112 1 = nI D) → (rI s0 116 1071 = nI U ∧ rI s0 116 1072 = 0) → (∀ t, t < zt x → CE (rF R 0 t) (fun k => rI s0 116 (357 * t + k))) → G (L_X11_takeBook_71 100000 0 s0) := fun s0 f0 h12 h112 h71 hc => by
    refine loop_inv (fun n k (s : Mem) => L_X11_takeBook_71 n k s) (zt x) (fun k s => Fr (fun q j => q = 113) s0 s ∧ ∀ t, t < k → rI s 113 t = nI (V t)) (P := G) ?_ ?_ 100000 0 s0 (by omega) (by omega) ⟨Fr.rf, fun t ht => absurd ht (by omega)⟩
    · rintro n k s hk ⟨f, y⟩
      refine ⟨wI s 113 k (nI (V k)), ⟨Fr.wI (S := fun q j => q = 113) f rfl, fun t ht => ?_⟩, ?_⟩
      · rw [rI_wI_eq]
        by_cases q : t = k
        · rw [if_pos q, q]
        · rw [if_neg q]; exact y t (by omega)
      · show L_X11_takeBook_71 (n + 1) (nI k) s = _
        rw [L_X11_takeBook_71, f.i (by omega), h12, if_neg (nI_ge hk (by omega)), gq_in (by omega) (by omega), gq_in (by omega) (by omega), nx_nI (by omega), f.i (by omega), f0.i (by unfold tkQ; omega), k5 k hk, (d7 k hk).1, lb_e, lb_e, nI_1]
    · rintro n s ⟨f, y⟩
      show G (L_X11_takeBook_71 (n + 1) (nI (zt x)) s)
      rw [L_X11_takeBook_71, f.i (by omega), h12, if_pos (nI_le (Nat.le_refl _) (by omega))]
      exact row s (f0.tr (f.mono (fun q j e => by unfold tkQ; omega))) ((f.i (by omega)).trans h12) ⟨(f.i (by omega)).trans h112.1, (f.i (by omega)).trans h112.2⟩ y ⟨(f.i (by omega)).trans h71.1, (f.i (by omega)).trans h71.2⟩ (fun t ht a b ha hb => (f.i (by omega)).trans (hc t ht a b ha hb))
  -- naught
  have zero : ∀ s0, Fr tkQ μ s0 → rI s0 107 12 = nI (zt x) → (rI s0 112 0 = nI B ∧ rI s0 112 1 = nI D ∧ rI s0 112 2 = nI U) → G (L_X11_takeBook_35 100000 0 s0) := fun s0 f0 h12 h112 => by
    refine loop_inv (fun n k (s : Mem) => L_X11_takeBook_35 n k s) 1253 (fun k s => Fr (fun q j => q = 116) s0 s ∧ ∀ j, j < k → rI s 116 j = 0) (P := G) ?_ ?_ 100000 0 s0 (by omega) (by omega) ⟨Fr.rf, fun t ht => absurd ht (by omega)⟩
    · rintro n k s hk ⟨f, y⟩
      refine ⟨wI s 116 k 0, ⟨Fr.wI (S := fun q j => q = 116) f rfl, fun t ht => ?_⟩, ?_⟩
      · rw [rI_wI_eq]
        by_cases q : t = k
        · rw [if_pos q]
        · rw [if_neg q]; exact y t (by omega)
      · show L_X11_takeBook_35 (n + 1) (nI k) s = _
        rw [L_X11_takeBook_35, if_neg (l_nle (m := 1253) hk (by omega)), gq_in (by omega) (by omega), nx_nI (by omega), lb_e, lb_e, nI_1]
    · rintro n s ⟨f, y⟩
      show G (L_X11_takeBook_35 (n + 1) (nI 1253) s)
      rw [L_X11_takeBook_35, if_pos (by decide), f.i (by omega), h112.2.2, lb_e]
      refine vals _ ((f0.tr (f.mono (fun q j e => by unfold tkQ; omega))).wI (by unfold tkQ; omega)) ?_ ⟨?_, ?_⟩ ⟨rI_wI_at, ?_⟩ (fun t ht a b ha hb => ?_)
      · rw [rI_wI_ne (by omega), f.i (by omega)]; exact h12
      · rw [rI_wI_ne (by omega), f.i (by omega)]; exact h112.1
      · rw [rI_wI_ne (by omega), f.i (by omega)]; exact h112.2.1
      · rw [rI_wI_off (by omega)]; exact y 1072 (by omega)
      · show rI (wI s 116 1071 (nI U)) 116 (357 * t + (17 * a + b)) = _
        rw [rI_wI_off (by omega), y _ (by omega)]; rfl
  unfold G_X11_takeBook
  rw [k2, lb_e]
  refine loop_inv (fun n k (s : Mem) => L_X11_takeBook_10 n k s) 3 (fun k s => Fr (fun q j => q = 112) (wI μ 107 12 (nI (zt x))) s ∧ ∀ j, j < k → rI s 112 j = zS x j) (P := G) ?_ ?_ 100000 0 (wI μ 107 12 (nI (zt x))) (by omega) (by omega) ⟨Fr.rf, fun t ht => absurd ht (by omega)⟩
  · rintro n k s hk ⟨f, y⟩
    refine ⟨wI s 112 k (zS x k), ⟨Fr.wI (S := fun q j => q = 112) f rfl, fun t ht => ?_⟩, ?_⟩
    · rw [rI_wI_eq]
      by_cases q : t = k
      · rw [if_pos q, q]
      · rw [if_neg q]; exact y t (by omega)
    · show L_X11_takeBook_10 (n + 1) (nI k) s = _
      rw [L_X11_takeBook_10, if_neg (l_nle (m := 3) hk (by omega)), gq_in (by omega) (by omega), gq_in (by omega) (by omega), nx_nI (by omega), f.i (by omega), rI_wI_ne (by omega), k4 k hk, lb_e, lb_e, nI_1]
  · rintro n s ⟨f, y⟩
    show G (L_X11_takeBook_10 (n + 1) (nI 3) s)
    rw [L_X11_takeBook_10, if_pos (by decide)]
    have f0 : Fr tkQ μ s := ((Fr.rf (S := tkQ)).wI (by unfold tkQ; omega)).tr (f.mono (fun q j e => by unfold tkQ; omega))
    exact zero s f0 ((f.i (by omega)).trans rI_wI_at) ⟨(y 0 (by omega)).trans d4, (y 1 (by omega)).trans d5, (y 2 (by omega)).trans d6⟩
end TK
