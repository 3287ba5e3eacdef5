/-! texts: a book, the class -/
section BX
variable {l : Nat} {ch : Nat → Nat} {μ : Mem} {p : Nat}
def XK (x : BS) (μ : Mem) : Prop := rI μ 3 3 = nI (zs x) ∧ rI μ 3 4 = nI (zt x) ∧ rI μ 3 5 = nI (zr x) ∧ (∀ k, k < 3 → rI μ 4 k = zS x k) ∧ (∀ i, i < zt x → rI μ 5 i = zT x i) ∧ ∀ j, j < 4 * zr x → rI μ 6 j = zR x j
def bxQ (q j : Nat) : Prop := f13 q j ∨ (3 ≤ q ∧ q ≤ 6)
theorem XK.ag {x : BS} {μ' : Mem} (h : XK x μ) (e : ∀ q j, (q = 3 ∧ 3 ≤ j ∧ j ≤ 5) ∨ (q = 4 ∧ j < 3) ∨ q = 5 ∨ q = 6 → rI μ' q j = rI μ q j) : XK x μ' := by
  obtain ⟨h1, h2, h3, h4, h5, h6⟩ := h
  exact ⟨(e _ _ (by omega)).trans h1, (e _ _ (by omega)).trans h2, (e _ _ (by omega)).trans h3, fun k hk => (e _ _ (by omega)).trans (h4 k hk), fun i hi => (e _ _ (by omega)).trans (h5 i hi), fun j hj => (e _ _ (by omega)).trans (h6 j hj)⟩
theorem cl_x (hc : CH l ch) {x : BS} (hw : BW x) (hT : TX l ch μ) (hK : XK x μ) (h : rI μ 1 2 = nI p) (hp : p ≤ l) : ∃ r μ', G_X1_readClause μ = some (r, μ') ∧ Fr bxQ μ μ' ∧ ((∃ e, clr l ch x p = .inl e ∧ r = 0 ∧ rI μ' 1 3 = nI e) ∨ ∃ e x', clr l ch x p = .inr (e, x') ∧ r = 1 ∧ rI μ' 1 2 = nI e ∧ e ≤ l ∧ p < e ∧ (tc l ch e = 59 ∨ tc l ch e = 0) ∧ XK x' μ' ∧ BW x') := by
  have h240 := hc.1
  obtain ⟨w1, w2, w3, -, -, -⟩ := id hw
  have s1 := sk_ge (ch := ch) hp
  have s2 := sk_le (ch := ch) hp
  have t255 := tc_le (l := l) (ch := ch) (p := sk l ch p) hc
  obtain ⟨μ1, e1, g1, y1⟩ := peek_ok hc hT h hp
  have f1 : Fr bxQ μ μ1 := g1.mono (fun q j e => by unfold f12 at e; unfold bxQ f13; omega)
  have hK1 : XK x μ1 := hK.ag (fun q j e => g1.i (by unfold f12; omega))
  obtain ⟨k1, k2, k3, k4, k5, k6⟩ := id hK1
  have fail : ∃ r μ', F_X1_readClause_143 μ1 = some (r, μ') ∧ Fr bxQ μ μ' ∧ r = 0 ∧ rI μ' 1 3 = nI (sk l ch p) := by
    unfold F_X1_readClause_143 G_X8_fail
    rw [y1, lb_e, bd_s, show bB 0 = true from rfl, gq_t]
    exact ⟨_, _, rfl, f1.wI (by unfold bxQ f13; omega), rfl, rI_wI_at⟩
  obtain ⟨rf, μf, ef, ff, ef0, ef1⟩ := fail
  unfold G_X1_readClause clr
  rw [bd_eq e1]
  generalize hq : sk l ch p = q0 at *
  have hT1 : TX l ch μ1 := hT.fr f1 (fun q j e => by unfold bxQ f13 at e; omega)
  by_cases c0 : tc l ch q0 = 115 ∧ zs x = 0
  · have e0 : whc x (tc l ch q0) = 0 := if_pos c0
    have hl := tc_lt (l := l) (ch := ch) (p := q0) (by omega)
    rw [e0, if_neg (show ¬ (0 : Nat) = 3 by omega), if_pos (r_eq (m := 115) c0.1), k1, if_pos (by rw [c0.2]; rfl), lb_e]
    have f2 : Fr bxQ μ (wI μ1 3 3 1) := f1.wI (by unfold bxQ; omega)
    obtain ⟨r, μ3, e3, f3, d3⟩ := items_x (y := 0) (μ := wI μ1 3 3 1) hc (by omega) (hT.fr f2 (fun q j e => by unfold bxQ f13 at e; omega)) (by rw [rI_wI_ne (by omega)]; exact y1) hl
    have e3' : G_X1_readItems 0 3 (wI μ1 3 3 1) = some (r, μ3) := e3
    have f3' : Fr bxQ μ μ3 := f2.tr (f3.mono (fun q j e => by unfold ixQ f13 at e; unfold bxQ f13; omega))
    rw [bd_eq e3']
    rcases d3 with ⟨e, n1, n2, n3⟩ | ⟨e, d', n1, n2, n3, n4, n5, n6, n7⟩
    · rw [n1, n2, show bB 0 = true from rfl, gq_t]
      exact ⟨_, _, rfl, f3', Or.inl ⟨_, rfl, rfl, n3⟩⟩
    · rw [n1, n2, show bB 1 = true from rfl, gq_t]
      refine ⟨_, _, rfl, f3', Or.inr ⟨_, _, rfl, rfl, n3, n4, by omega, n6, ?_, BW.step hw e0 (by omega) (itz_rng (by omega) n1)⟩⟩
      refine ⟨?_, ?_, ?_, fun k hk => n7 k (Nat.zero_le _) hk, fun i hi => ?_, fun j hj => ?_⟩
      · rw [f3.i (by unfold ixQ f13; omega), rI_wI_at]; rfl
      · rw [f3.i (by unfold ixQ f13; omega), rI_wI_off (by omega)]; exact k2
      · rw [f3.i (by unfold ixQ f13; omega), rI_wI_off (by omega)]; exact k3
      · rw [f3.i (by unfold ixQ f13; omega), rI_wI_ne (by omega)]; exact k5 i hi
      · rw [f3.i (by unfold ixQ f13; omega), rI_wI_ne (by omega)]; exact k6 j hj
  · have red : ∀ {X Y : Option (Int32 × Mem)}, (if nI (tc l ch q0) = (115 : Int32) then if rI μ1 3 3 = 0 then X else Y else Y) = Y := fun {X Y} => by
      by_cases q : tc l ch q0 = 115
      · rw [if_pos (r_eq (m := 115) q), k1, if_neg (nI_ne0 (by omega) (by omega))]
      · rw [if_neg (r_ne (m := 115) q (by omega) (by omega))]
    rw [red]
    unfold F_X1_readClause_31
    by_cases c1 : tc l ch q0 = 116 ∧ zt x < 3
    · have e0 : whc x (tc l ch q0) = 1 := (if_neg c0).trans (if_pos c1)
      have hl := tc_lt (l := l) (ch := ch) (p := q0) (by omega)
      rw [e0, if_neg (show ¬ (1 : Nat) = 3 by omega), if_pos (r_eq (m := 116) c1.1), k2, if_neg (l_nle (m := 3) c1.2 (by omega))]
      obtain ⟨r, μ3, e3, f3, d3⟩ := items_x (y := 1) hc (by omega) hT1 y1 hl
      have e3' : G_X1_readItems 3 4 μ1 = some (r, μ3) := e3
      have f3' : Fr bxQ μ μ3 := f1.tr (f3.mono (fun q j e => by unfold ixQ f13 at e; unfold bxQ f13; omega))
      rw [bd_eq e3']
      rcases d3 with ⟨e, n1, n2, n3⟩ | ⟨e, d', n1, n2, n3, n4, n5, n6, n7⟩
      · rw [n1, n2, if_pos rfl]
        exact ⟨_, _, rfl, f3', Or.inl ⟨_, rfl, rfl, n3⟩⟩
      · have m34' : rI μ3 3 4 = nI (zt x) := (f3.i (by unfold ixQ f13; omega)).trans k2
        rw [n1, n2, if_neg (by decide), m34', gq_in (by omega) (by omega), nx_nI (by omega), n7 3 (by show 3 ≤ 3; omega) (by show 3 < 4; omega), lb_e, rI_wI_ne (by omega), m34', nI_1, lb_e]
        refine ⟨_, _, rfl, (f3'.wI (by unfold bxQ; omega)).wI (by unfold bxQ; omega), Or.inr ⟨_, _, rfl, rfl, ?_, n4, by omega, n6, ?_, BW.step hw e0 (by omega) (itz_rng (by omega) n1)⟩⟩
        · rw [rI_wI_ne (by omega), rI_wI_ne (by omega)]; exact n3
        refine ⟨?_, ?_, ?_, fun k hk => ?_, fun i hi => ?_, fun j hj => ?_⟩
        · rw [rI_wI_off (by omega), rI_wI_ne (by omega), f3.i (by unfold ixQ f13; omega)]; exact k1
        · rw [rI_wI_at]; rfl
        · rw [rI_wI_off (by omega), rI_wI_ne (by omega), f3.i (by unfold ixQ f13; omega)]; exact k3
        · rw [rI_wI_ne (by omega), rI_wI_ne (by omega), f3.i (by have : ca 1 = 3 := rfl; unfold ixQ f13; omega)]; exact k4 k hk
        · have hi : i < zt x + 1 := hi
          show rI _ 5 i = pu (zT x) (zt x) (d' 3) i
          rw [rI_wI_ne (by omega), rI_wI_eq]
          by_cases q : i = zt x
          · rw [if_pos q, q, pu_at]
          · rw [if_neg q, pu_ne q, f3.i (by unfold ixQ f13; omega)]; exact k5 i (by omega)
        · rw [rI_wI_ne (by omega), rI_wI_ne (by omega), f3.i (by unfold ixQ f13; omega)]; exact k6 j hj
    · have red2 : ∀ {X Y : Option (Int32 × Mem)}, (if nI (tc l ch q0) = (116 : Int32) then if (3 : Int32) ≤ rI μ1 3 4 then Y else X else Y) = Y := fun {X Y} => by
        by_cases q : tc l ch q0 = 116
        · rw [if_pos (r_eq (m := 116) q), k2, if_pos (l_le (m := 3) (by omega) (by omega))]
        · rw [if_neg (r_ne (m := 116) q (by omega) (by omega))]
      rw [red2]
      unfold F_X1_readClause_84
      by_cases c2 : tc l ch q0 = 114 ∧ zr x < 20
      · have e0 : whc x (tc l ch q0) = 2 := (if_neg c0).trans ((if_neg c1).trans (if_pos c2))
        have hl := tc_lt (l := l) (ch := ch) (p := q0) (by omega)
        rw [e0, if_neg (show ¬ (2 : Nat) = 3 by omega), if_pos (r_eq (m := 114) c2.1), k3, if_neg (l_nle (m := 20) c2.2 (by omega))]
        obtain ⟨r, μ3, e3, f3, d3⟩ := items_x (y := 2) hc (by omega) hT1 y1 hl
        have e3' : G_X1_readItems 4 8 μ1 = some (r, μ3) := e3
        have f3' : Fr bxQ μ μ3 := f1.tr (f3.mono (fun q j e => by unfold ixQ f13 at e; unfold bxQ f13; omega))
        rw [bd_eq e3']
        rcases d3 with ⟨e, n1, n2, n3⟩ | ⟨e, d', n1, n2, n3, n4, n5, n6, n7⟩
        · rw [n1, n2, if_pos rfl]
          exact ⟨_, _, rfl, f3', Or.inl ⟨_, rfl, rfl, n3⟩⟩
        · have m35 : rI μ3 3 5 = nI (zr x) := (f3.i (by unfold ixQ f13; omega)).trans k3
          rw [n1, n2, if_neg (by decide), m35, show (4 : Int32) = nI 4 from rfl, pk_mul, cpB_nI (by omega) (by omega) (by omega) (by omega), gq_t, nx_nI (by omega), nx_nI (by omega), lb_e, rI_wC_ne (by omega), m35, nI_1, lb_e]
          refine ⟨_, _, rfl, (f3'.wC (fun k _ _ => by unfold bxQ; omega)).wI (by unfold bxQ; omega), Or.inr ⟨_, _, rfl, rfl, ?_, n4, by omega, n6, ?_, BW.step hw e0 (by omega) (itz_rng (by omega) n1)⟩⟩
          · rw [rI_wI_ne (by omega), rI_wC_ne (by omega)]; exact n3
          refine ⟨?_, ?_, ?_, fun k hk => ?_, fun i hi => ?_, fun j hj => ?_⟩
          · rw [rI_wI_off (by omega), rI_wC_ne (by omega), f3.i (by unfold ixQ f13; omega)]; exact k1
          · rw [rI_wI_off (by omega), rI_wC_ne (by omega), f3.i (by unfold ixQ f13; omega)]; exact k2
          · rw [rI_wI_at]; rfl
          · rw [rI_wI_ne (by omega), rI_wC_ne (by omega), f3.i (by have : ca 2 = 4 := rfl; unfold ixQ f13; omega)]; exact k4 k hk
          · rw [rI_wI_ne (by omega), rI_wC_ne (by omega), f3.i (by unfold ixQ f13; omega)]; exact k5 i hi
          · have hj : j < 4 * (zr x + 1) := hj
            show rI _ 6 j = pu4 (zR x) (zr x) d' j
            unfold pu4
            rw [rI_wI_ne (by omega), rI_wC_at]
            by_cases q : 4 * zr x ≤ j
            · rw [if_pos (by omega), if_pos (by omega), n7 _ (by show 4 ≤ _; omega) (by show _ < 8; omega), show zr x * 4 = 4 * zr x by omega]
            · rw [if_neg (by omega), if_neg (by omega), f3.i (by unfold ixQ f13; omega)]; exact k6 j (by omega)
      · have e0 : whc x (tc l ch q0) = 3 := (if_neg c0).trans ((if_neg c1).trans (if_neg c2))
        have red3 : ∀ {X Y : Option (Int32 × Mem)}, (if nI (tc l ch q0) = (114 : Int32) then if (20 : Int32) ≤ rI μ1 3 5 then Y else X else Y) = Y := fun {X Y} => by
          by_cases q : tc l ch q0 = 114
          · rw [if_pos (r_eq (m := 114) q), k3, if_pos (l_le (m := 20) (by omega) (by omega))]
          · rw [if_neg (r_ne (m := 114) q (by omega) (by omega))]
        rw [e0, if_pos rfl, red3]
        exact ⟨rf, μf, ef, ff, Or.inl ⟨_, rfl, ef0, ef1⟩⟩
theorem ri_x {x : BS} (hK : XK x μ) (hr : zr x ≤ 20) {i j : Nat} (hi : i < zr x) (hj : j < 4) : G_X1_rowItem (nI i) (nI j) μ = some (zR x (4 * i + j), μ) := by
  unfold G_X1_rowItem
  rw [show (4 : Int32) = nI 4 from rfl, pk_mul, nI_add, gq_in (by omega) (by omega), nx_nI (by omega), show i * 4 + j = 4 * i + j by omega, hK.2.2.2.2.2 _ (by omega)]
theorem BW.row {x : BS} (hw : BW x) {i : Nat} (hi : i < zr x) : ∃ t, t ≤ 2 ∧ zR x (4 * i) = nI t := by
  rcases hw.2.2.2.2.2 i 0 hi (by omega) with e | ⟨v, e1, e2, e3⟩
  · exact ⟨0, by omega, e⟩
  · exact ⟨v, e3, e1⟩
theorem fits_x {x : BS} (hw : BW x) (hK : XK x μ) : G_X1_fits μ = some (if fw x (zr x) = true then 1 else 0, μ) := by
  obtain ⟨w1, w2, w3, -, -, -⟩ := id hw
  obtain ⟨k1, k2, k3, k4, k5, k6⟩ := id hK
  have mono : ∀ i d, fw x i = false → fw x (i + d) = false := fun i d h => by
    induction d with
    | zero => exact h
    | succ d ih => show (fw x (i + d) && okr x (i + d)) = false; rw [ih]; rfl
  unfold G_X1_fits
  refine loop_br (fun n i (_ : Unit) => L_X1_fits_2 n i μ) (zr x) (fun i _ => fw x i = decide (0 < zt x)) (P := fun o => o = some (if fw x (zr x) = true then 1 else 0, μ)) ?_ ?_ 100000 0 () (by omega) (by omega) rfl
  · rintro n i - hi hI
    obtain ⟨t, t2, et⟩ := hw.row hi
    have c0 := ri_x hK w3 hi (j := 0) (by omega)
    rw [Nat.add_zero] at c0
    have c0' : G_X1_rowItem (nI i) 0 μ = _ := c0
    have c1 : G_X1_rowItem (nI i) 1 μ = _ := ri_x hK w3 hi (j := 1) (by omega)
    have c2 : G_X1_rowItem (nI i) 2 μ = _ := ri_x hK w3 hi (j := 2) (by omega)
    have step : fw x (i + 1) = (fw x i && okr x i) := rfl
    have bad : okr x i = false → fw x (zr x) = false := fun h => by
      have := mono (i + 1) (zr x - (i + 1)) (by rw [step, h, Bool.and_false])
      rw [show i + 1 + (zr x - (i + 1)) = zr x by omega] at this
      exact this
    show L_X1_fits_2 (n + 1) (nI i) μ = _ ∨ ∃ s', _ ∧ L_X1_fits_2 (n + 1) (nI i) μ = _
    rw [L_X1_fits_2, k3, if_neg (nI_ge hi (by omega)), bd_eq c0', k2, bd_eq c1, bd_eq c2, et]
    by_cases q1 : zt x ≤ t
    · left
      rw [if_pos (nI_le q1 (by omega)), bad (by unfold okr; rw [et, decide_eq_false (fun z => z (nI_le q1 (by omega)))]; rfl)]
      rfl
    · rw [if_neg (nI_ge (by omega) (by omega)), gq_in (by omega) (by omega), gq_in (by omega) (by omega), nx_nI (by omega), k5 t (by omega)]
      have ok : okr x i = (decide (¬ zT x t ≤ zR x (4 * i + 1)) && decide (¬ zT x t ≤ zR x (4 * i + 2))) := by
        unfold okr
        rw [et, decide_eq_true (nI_ge (show t < zt x by omega) (by omega)), nx_nI (by omega), Bool.true_and]
      by_cases q2 : zT x t ≤ zR x (4 * i + 1)
      · left
        rw [if_pos q2, bad (by rw [ok, decide_eq_false (fun z => z q2)]; rfl)]
        rfl
      · rw [if_neg q2]
        by_cases q3 : zT x t ≤ zR x (4 * i + 2)
        · left
          rw [if_neg (show ¬ zR x (4 * i + 2) < zT x t by rw [fa_lt]; rw [fa_le] at q3; omega), bad (by rw [ok, decide_eq_false (show ¬ ¬ zT x t ≤ zR x (4 * i + 2) from fun z => z q3), Bool.and_false])]
          rfl
        · right
          rw [if_pos (show zR x (4 * i + 2) < zT x t by rw [fa_lt]; rw [fa_le] at q3; omega), lb_e, nI_1]
          exact ⟨(), by rw [step, hI, ok, decide_eq_true q2, decide_eq_true q3, Bool.and_true, Bool.and_true], rfl⟩
  · rintro n - hI
    show L_X1_fits_2 (n + 1) (nI (zr x)) μ = _
    rw [L_X1_fits_2, k3, if_pos (nI_le (Nat.le_refl _) (by omega)), k2, hI]
    by_cases q : zt x = 0
    · rw [if_pos (by rw [q]; decide), decide_eq_false (by omega)]; rfl
    · rw [if_neg (nI_nle (by omega) (by omega)), decide_eq_true (by omega)]; rfl
theorem bk_x (hc : CH l ch) : ∀ n N p c x μ, BW x → TX l ch μ → XK x μ → rI μ 1 2 = nI p → p ≤ l → c ≤ p → l < n + p → n < N → ∃ r μ', L_X1_read_27 N (nI c) μ = some (r, μ') ∧ Fr bxQ μ μ' ∧ ((∃ e, bkr l ch n p x = .inl e ∧ r = nI e ∧ e ≤ l) ∨ ∃ x', bkr l ch n p x = .inr x' ∧ r = -1 ∧ XK x' μ' ∧ BW x' ∧ fw x' (zr x') = true) := by
  have h240 := hc.1
  intro n
  induction n with
  | zero => intro N p c x μ _ _ _ _ hp _ hn; omega
  | succ n ih =>
    intro N p c x μ hw hT hK h hp hcp hn hN
    obtain ⟨N, rfl⟩ : ∃ n', N = n' + 1 := ⟨N - 1, by omega⟩
    obtain ⟨r, μ1, e1, f1, d1⟩ := cl_x hc hw hT hK h hp
    rw [L_X1_read_27, if_neg (l_nlt (m := 240) (by omega) (by omega)), bd_eq e1]
    unfold bkr
    rcases d1 with ⟨e, n1, n2, n3⟩ | ⟨e, x', n1, n2, n3, n4, n5, n6, n7, n8⟩
    · have el : e ≤ l := clr_fl hc hp n1
      rw [n1, n2, if_pos rfl, n3]
      exact ⟨_, _, rfl, f1, Or.inl ⟨_, rfl, rfl, el⟩⟩
    · have hT1 : TX l ch μ1 := hT.fr f1 (fun q j e => by unfold bxQ f13 at e; omega)
      obtain ⟨μ2, e2, g2, y2⟩ := peek_ok (p := e) hc hT1 n3 n4
      have f2 : Fr bxQ μ μ2 := f1.tr (g2.mono (fun q j e => by unfold f12 at e; unfold bxQ f13; omega))
      have hK2 : XK x' μ2 := n7.ag (fun q j e => g2.i (by unfold f12; omega))
      have es : sk l ch e = e := sk_no (by omega)
      rw [es] at e2 y2
      rw [n1, n2, if_neg (by decide), bd_eq e2]
      dsimp only
      by_cases q0 : tc l ch e = 0
      · rw [if_pos q0, if_pos (by rw [q0]; rfl)]
        unfold F_X1_read_73
        rw [bd_eq (fits_x n8 hK2)]
        cases hf : fw x' (zr x') with
        | true =>
          rw [if_pos rfl, if_pos rfl, if_neg (show ¬ (1 : Int32) = 0 by decide)]
          exact ⟨_, _, rfl, f2, Or.inr ⟨_, rfl, rfl, hK2, n8, hf⟩⟩
        | false =>
          rw [if_neg (show ¬ false = true by decide), if_neg (show ¬ false = true by decide), if_pos rfl, (hT1.fr g2 (fun q j e => by unfold f12 at e; omega)).1]
          exact ⟨_, _, rfl, f2, Or.inl ⟨_, rfl, rfl, Nat.le_refl _⟩⟩
      · have hl := tc_lt q0
        have k255 := tc_le (l := l) (ch := ch) (p := e) hc
        rw [if_neg q0, if_neg (nI_ne0 (by omega) (by omega)), y2, nI_1, lb_e, nI_1, lb_e]
        have f3 : Fr bxQ μ (wI μ2 1 2 (nI (e + 1))) := f2.wI (by unfold bxQ f13; omega)
        obtain ⟨r', μ4, i1, i2, i3⟩ := ih N (e + 1) (c + 1) x' _ n8 (hT.fr f3 (fun q j e => by unfold bxQ f13 at e; omega)) (hK2.ag (fun q j e => by rw [rI_wI_ne (by omega)])) rI_wI_at (by omega) (by omega) (by omega) (by omega)
        exact ⟨r', μ4, i1, f3.tr i2, i3⟩
end BX
