/-! texts: a book, the model's loop; fault -/
section BL
variable {l : Nat} {ch : Nat → Nat}
theorem bk_m (hc : CH l ch) : ∀ n N p x μ, BW x → TM l ch μ → MK x μ → rI μ 107 3 = nI p → rI μ 107 4 = -1 → p ≤ l → l < n + p → n + 1 < N → ∃ r μ', L_X11_readBook_49 N (nI (zs x)) 1 μ = some (r, μ') ∧ Fr bmQ μ μ' ∧ ((∃ e, bkr l ch n p x = .inl e ∧ r = nI e) ∨ ∃ x', bkr l ch n p x = .inr x' ∧ r = -1 ∧ MK x' μ') := by
  have h240 := hc.1
  intro n
  induction n with
  | zero => intro N p x μ _ _ _ _ _ hp hn; omega
  | succ n ih =>
    intro N p x μ hw hT hK h h4 hp hn hN
    obtain ⟨N, rfl⟩ : ∃ n', N = n' + 1 + 1 := ⟨N - 2, by omega⟩
    obtain ⟨w1, w2, w3, -, -, -⟩ := id hw
    have s1 := sk_ge (ch := ch) hp
    have s2 := sk_le (ch := ch) hp
    have sn := sk_ne (ch := ch) hp
    have t255 := tc_le (l := l) (ch := ch) (p := sk l ch p) hc
    obtain ⟨μ1, e1, g1, y1⟩ := ahead_ok hc hT h hp
    have f1 : Fr bmQ μ μ1 := g1.mono (fun q j e => by unfold m3 at e; unfold bmQ m34; omega)
    have hT1 : TM l ch μ1 := hT.fr f1 (fun q j e => by unfold bmQ m34 at e; omega)
    have z1 : rI μ1 107 4 = -1 := (g1.i (by unfold m3; omega)).trans h4
    have hK1 : MK x μ1 := hK.ag (fun q j e => g1.i (by unfold m3; omega))
    obtain ⟨k2, k3, k4, k5, k6⟩ := id hK1
    rw [L_X11_readBook_49, if_neg (show ¬ (1 : Int32) = 0 by decide), if_pos h4, bd_eq e1]
    unfold bkr clr
    generalize hq : sk l ch p = q0 at *
    have ace : ∀ m, 1 ≤ m → m ≤ 255 → (ac (tc l ch q0) = (OfNat.ofNat m : Int32) ↔ tc l ch q0 = m) := fun m m1 m2 => ac_eq t255 m1 m2
    -- once a clause's items are read
    have fin : ∀ (y : Nat) (μ3 : Mem) (x1 : Int32), y < 3 → whc x (tc l ch q0) = y → q0 < l → Fr bmQ μ μ3 → x1 = nI (zs (bnx x y (fun _ => 0))) → ((∃ e, itz l ch y (q0 + 1) = .inl e ∧ badAt l ch e μ3) ∨ ∃ e d', itz l ch y (q0 + 1) = .inr (e, d') ∧ rI μ3 107 4 = -1 ∧ rI μ3 107 3 = nI e ∧ MK (bnx x y d') μ3) → ∃ r μ', F_X11_readBook_211 (L_X11_readBook_49 (N + 1)) x1 μ3 = some (r, μ') ∧ Fr bmQ μ μ' ∧ ((∃ e, (match (match itz l ch y (q0 + 1) with | .inl e => .inl e | .inr (e, d) => .inr (e, bnx x y d) : Nat ⊕ (Nat × BS)) with | .inl e => .inl e | .inr (e, x') => if tc l ch e = 0 then (if fw x' (zr x') = true then .inr x' else .inl l) else bkr l ch n (e + 1) x' : Nat ⊕ BS) = .inl e ∧ r = nI e) ∨ ∃ x', (match (match itz l ch y (q0 + 1) with | .inl e => .inl e | .inr (e, d) => .inr (e, bnx x y d) : Nat ⊕ (Nat × BS)) with | .inl e => .inl e | .inr (e, x') => if tc l ch e = 0 then (if fw x' (zr x') = true then .inr x' else .inl l) else bkr l ch n (e + 1) x' : Nat ⊕ BS) = .inr x' ∧ r = -1 ∧ MK x' μ') := fun y μ3 x1 hy hwc hl f3 hx1 hd => by
      have hT3 : TM l ch μ3 := hT.fr f3 (fun q j e => by unfold bmQ m34 at e; omega)
      rcases hd with ⟨e, n1, n2⟩ | ⟨e, d', n1, n2, n3, n4⟩
      · obtain ⟨μ', a1, a2⟩ := aft_bad (N := N) (x1 := x1) hc hT3 n2
        rw [n1]
        exact ⟨_, μ', a1, f3.tr (a2.mono (fun q j e => Or.inl e)), Or.inl ⟨_, rfl, rfl⟩⟩
      · obtain ⟨el, pe, te⟩ := itz_en hc hy hl n1
        have hw' := BW.step hw hwc hy (itz_rng hy n1)
        have hx1' : x1 = nI (zs (bnx x y d')) := by
          rw [hx1]
          unfold bnx
          split
          · rfl
          · split <;> rfl
        obtain ⟨μ4, b1, b2, b3, b4⟩ := aft_ok (N := N) (x1 := x1) hc hT3 hw' n4 n2 n3 el te
        rw [n1]
        dsimp only
        by_cases q0' : tc l ch e = 0
        · obtain ⟨μ', c1, c2⟩ := b3 q0'
          rw [if_pos q0']
          refine ⟨_, μ', c1, f3.tr (c2.mono (fun q j e => Or.inl e)), ?_⟩
          cases hf : fw (bnx x y d') (zr (bnx x y d')) with
          | true => exact Or.inr ⟨_, rfl, rfl, n4.ag (fun q j e => c2.i (by unfold m34; omega))⟩
          | false => exact Or.inl ⟨_, rfl, rfl⟩
        · obtain ⟨c1, c2⟩ := b4 q0'
          have lt := tc_lt q0'
          rw [if_neg q0', c2, hx1']
          have f4 : Fr bmQ μ μ4 := f3.tr (b1.mono (fun q j e => Or.inl e))
          obtain ⟨r, μ', i1, i2, i3⟩ := ih (N + 1) (e + 1) (bnx x y d') μ4 hw' (hT.fr f4 (fun q j e => by unfold bmQ m34 at e; omega)) (n4.ag (fun q j e => b1.i (by unfold m34; omega))) c1 b2 (by omega) (by omega) (by omega)
          exact ⟨r, μ', i1, f4.tr i2, i3⟩
    by_cases c0 : tc l ch q0 = 115 ∧ zs x = 0
    · have e0 : whc x (tc l ch q0) = 0 := if_pos c0
      have hl := tc_lt (l := l) (ch := ch) (p := q0) (by omega)
      have acL : ac (tc l ch q0) = nI (cL 0) := by rw [c0.1]; rfl
      rw [if_pos ((ace 115 (by omega) (by omega)).mpr c0.1), if_pos (by rw [c0.2]; rfl), y1, nI_1, lb_e, acL]
      have f2 : Fr bmQ μ (wI μ1 107 3 (nI (q0 + 1))) := f1.wI (by unfold bmQ m34; omega)
      obtain ⟨μ3, e3, f3, d3⟩ := items_m (y := 0) (k2 := 1003) (n2 := 3) (p2 := 109) (o := 0) (p := q0 + 1) (μ := wI μ1 107 3 (nI (q0 + 1))) hc (by omega) (by omega) (by decide) (by omega) (hT.fr f2 (fun q j e => by unfold bmQ m34 at e; omega)) rI_wI_at (by rw [rI_wI_off (by omega)]; exact z1) (by omega)
      have e3' : G_X11_items (nI (cL 0)) 1003 3 109 0 3 (wI μ1 107 3 (nI (q0 + 1))) = some ((), μ3) := e3
      have f3' : Fr bmQ μ μ3 := f2.tr (f3.mono (fun q j e => by unfold imQ m34 at e; unfold bmQ m34; omega))
      rw [bd_eq e3', e0, if_neg (show ¬ (0 : Nat) = 3 by omega)]
      refine fin 0 μ3 1 (by omega) e0 hl f3' rfl ?_
      rcases d3 with ⟨e, n1, n2⟩ | ⟨e, d', n1, n2, n3, n4⟩
      · exact Or.inl ⟨e, n1, n2⟩
      · refine Or.inr ⟨e, d', n1, n2, n3, ?_, ?_, fun k hk => ?_, fun i hi => ?_, fun j hj => ?_⟩
        · rw [f3.i (by unfold imQ m34; omega), rI_wI_off (by omega)]; exact k2
        · rw [f3.i (by unfold imQ m34; omega), rI_wI_off (by omega)]; exact k3
        · have := n4 k hk
          rw [Nat.zero_add] at this
          rw [this]
          show d' (0 + k) = d' k
          rw [Nat.zero_add]
        · rw [f3.i (by unfold imQ m34; omega), rI_wI_ne (by omega)]; exact k5 i hi
        · rw [f3.i (by unfold imQ m34; omega), rI_wI_ne (by omega)]; exact k6 j hj
    · have red : ∀ {X Y : Option (Int32 × Mem)}, (if ac (tc l ch q0) = (115 : Int32) then if nI (zs x) = 0 then X else Y else Y) = Y := fun {X Y} => by
        by_cases q : tc l ch q0 = 115
        · rw [if_pos ((ace 115 (by omega) (by omega)).mpr q), if_neg (nI_ne0 (by omega) (by omega))]
        · rw [if_neg (fun z => q ((ace 115 (by omega) (by omega)).mp z))]
      rw [red]
      unfold F_X11_readBook_102
      by_cases c1 : tc l ch q0 = 116 ∧ zt x < 3
      · have e0 : whc x (tc l ch q0) = 1 := (if_neg c0).trans (if_pos c1)
        have hl := tc_lt (l := l) (ch := ch) (p := q0) (by omega)
        have acL : ac (tc l ch q0) = nI (cL 1) := by rw [c1.1]; rfl
        rw [if_pos ((ace 116 (by omega) (by omega)).mpr c1.1), k2, if_neg (l_nle (m := 3) c1.2 (by omega)), y1, nI_1, lb_e, acL, rI_wI_off (by omega), k2]
        have f2 : Fr bmQ μ (wI μ1 107 3 (nI (q0 + 1))) := f1.wI (by unfold bmQ m34; omega)
        obtain ⟨μ3, e3, f3, d3⟩ := items_m (y := 1) (k2 := 1003) (n2 := 3) (p2 := 110) (o := zt x) (p := q0 + 1) (μ := wI μ1 107 3 (nI (q0 + 1))) hc (by omega) (by omega) (by show zt x + 1 ≤ 3; omega) (by omega) (hT.fr f2 (fun q j e => by unfold bmQ m34 at e; omega)) rI_wI_at (by rw [rI_wI_off (by omega)]; exact z1) (by omega)
        have e3' : G_X11_items (nI (cL 1)) 1003 3 110 (nI (zt x)) 1 (wI μ1 107 3 (nI (q0 + 1))) = some ((), μ3) := e3
        have f3' : Fr bmQ μ μ3 := f2.tr (f3.mono (fun q j e => by unfold imQ m34 at e; unfold bmQ m34; omega))
        have m8 : rI μ3 107 8 = nI (zt x) := by rw [f3.i (by unfold imQ m34; omega), rI_wI_off (by omega)]; exact k2
        rw [bd_eq e3', m8, nI_1, lb_e, e0, if_neg (show ¬ (1 : Nat) = 3 by omega)]
        refine fin 1 _ (nI (zs x)) (by omega) e0 hl (f3'.wI (by unfold bmQ; omega)) rfl ?_
        rcases d3 with ⟨e, n1, n2⟩ | ⟨e, d', n1, n2, n3, n4⟩
        · refine Or.inl ⟨e, n1, ?_⟩
          unfold badAt at n2 ⊢
          rw [rI_wI_off (by omega), rI_wI_off (by omega)]
          exact n2
        · refine Or.inr ⟨e, d', n1, by rw [rI_wI_off (by omega)]; exact n2, by rw [rI_wI_off (by omega)]; exact n3, ?_, ?_, fun k hk => ?_, fun i hi => ?_, fun j hj => ?_⟩
          · rw [rI_wI_at]; rfl
          · rw [rI_wI_off (by omega), f3.i (by unfold imQ m34; omega), rI_wI_off (by omega)]; exact k3
          · rw [rI_wI_ne (by omega), f3.i (by unfold imQ m34; omega), rI_wI_ne (by omega)]; exact k4 k hk
          · have hi : i < zt x + 1 := hi
            show rI _ 110 i = pu (zT x) (zt x) (d' 3) i
            rw [rI_wI_ne (by omega)]
            by_cases q : i = zt x
            · rw [q, pu_at]
              exact n4 0 (by decide)
            · rw [pu_ne q, f3.i (by have : cb 1 - ca 1 = 1 := rfl; unfold imQ m34; omega), rI_wI_ne (by omega)]; exact k5 i (by omega)
          · rw [rI_wI_ne (by omega), f3.i (by unfold imQ m34; omega), rI_wI_ne (by omega)]; exact k6 j hj
      · have red2 : ∀ {X Y : Option (Int32 × Mem)}, (if ac (tc l ch q0) = (116 : Int32) then if (3 : Int32) ≤ rI μ1 107 8 then Y else X else Y) = Y := fun {X Y} => by
          by_cases q : tc l ch q0 = 116
          · rw [if_pos ((ace 116 (by omega) (by omega)).mpr q), k2, if_pos (l_le (m := 3) (by omega) (by omega))]
          · rw [if_neg (fun z => q ((ace 116 (by omega) (by omega)).mp z))]
        rw [red2]
        unfold F_X11_readBook_153
        by_cases c2 : tc l ch q0 = 114 ∧ zr x < 20
        · have e0 : whc x (tc l ch q0) = 2 := (if_neg c0).trans ((if_neg c1).trans (if_pos c2))
          have hl := tc_lt (l := l) (ch := ch) (p := q0) (by omega)
          have acL : ac (tc l ch q0) = nI (cL 2) := by rw [c2.1]; rfl
          have x4 : (4 : Int32) * nI (zr x) = nI (4 * zr x) := l_mul 4 _
          rw [if_pos ((ace 114 (by omega) (by omega)).mpr c2.1), k3, if_neg (l_nle (m := 20) c2.2 (by omega)), y1, nI_1, lb_e, acL, rI_wI_off (by omega), k3, x4]
          have f2 : Fr bmQ μ (wI μ1 107 3 (nI (q0 + 1))) := f1.wI (by unfold bmQ m34; omega)
          obtain ⟨μ3, e3, f3, d3⟩ := items_m (y := 2) (k2 := 1080) (n2 := 80) (p2 := 111) (o := 4 * zr x) (p := q0 + 1) (μ := wI μ1 107 3 (nI (q0 + 1))) hc (by omega) (by omega) (by show 4 * zr x + 4 ≤ 80; omega) (by omega) (hT.fr f2 (fun q j e => by unfold bmQ m34 at e; omega)) rI_wI_at (by rw [rI_wI_off (by omega)]; exact z1) (by omega)
          have e3' : G_X11_items (nI (cL 2)) 1080 80 111 (nI (4 * zr x)) 4 (wI μ1 107 3 (nI (q0 + 1))) = some ((), μ3) := e3
          have f3' : Fr bmQ μ μ3 := f2.tr (f3.mono (fun q j e => by unfold imQ m34 at e; unfold bmQ m34; omega))
          have m9 : rI μ3 107 9 = nI (zr x) := by rw [f3.i (by unfold imQ m34; omega), rI_wI_off (by omega)]; exact k3
          rw [bd_eq e3', m9, nI_1, lb_e, e0, if_neg (show ¬ (2 : Nat) = 3 by omega)]
          refine fin 2 _ (nI (zs x)) (by omega) e0 hl (f3'.wI (by unfold bmQ; omega)) rfl ?_
          rcases d3 with ⟨e, n1, n2⟩ | ⟨e, d', n1, n2, n3, n4⟩
          · refine Or.inl ⟨e, n1, ?_⟩
            unfold badAt at n2 ⊢
            rw [rI_wI_off (by omega), rI_wI_off (by omega)]
            exact n2
          · refine Or.inr ⟨e, d', n1, by rw [rI_wI_off (by omega)]; exact n2, by rw [rI_wI_off (by omega)]; exact n3, ?_, ?_, fun k hk => ?_, fun i hi => ?_, fun j hj => ?_⟩
            · rw [rI_wI_off (by omega), f3.i (by unfold imQ m34; omega), rI_wI_off (by omega)]; exact k2
            · rw [rI_wI_at]; rfl
            · rw [rI_wI_ne (by omega), f3.i (by unfold imQ m34; omega), rI_wI_ne (by omega)]; exact k4 k hk
            · rw [rI_wI_ne (by omega), f3.i (by unfold imQ m34; omega), rI_wI_ne (by omega)]; exact k5 i hi
            · have hj : j < 4 * (zr x + 1) := hj
              show rI _ 111 j = pu4 (zR x) (zr x) d' j
              unfold pu4
              rw [rI_wI_ne (by omega)]
              by_cases q : 4 * zr x ≤ j
              · rw [if_pos (by omega)]
                have := n4 (j - 4 * zr x) (by show j - 4 * zr x < 4; omega)
                rw [show 4 * zr x + (j - 4 * zr x) = j by omega] at this
                exact this
              · rw [if_neg (by omega), f3.i (by unfold imQ m34; omega), rI_wI_ne (by omega)]; exact k6 j (by omega)
        · have e0 : whc x (tc l ch q0) = 3 := (if_neg c0).trans ((if_neg c1).trans (if_neg c2))
          have red3 : ∀ {X Y : Option (Int32 × Mem)}, (if ac (tc l ch q0) = (114 : Int32) then if (20 : Int32) ≤ rI μ1 107 9 then Y else X else Y) = Y := fun {X Y} => by
            by_cases q : tc l ch q0 = 114
            · rw [if_pos ((ace 114 (by omega) (by omega)).mpr q), k3, if_pos (l_le (m := 20) (by omega) (by omega))]
            · rw [if_neg (fun z => q ((ace 114 (by omega) (by omega)).mp z))]
          rw [e0, if_pos rfl, red3]
          unfold F_X11_readBook_207
          rw [bd_eq (bad_ok y1 z1)]
          have f2 : Fr bmQ μ (wI μ1 107 4 (nI q0)) := f1.wI (by unfold bmQ m34; omega)
          obtain ⟨μ', a1, a2⟩ := aft_bad (N := N) (x1 := nI (zs x)) (e := q0) (μ := wI μ1 107 4 (nI q0)) hc (hT.fr f2 (fun q j e => by unfold bmQ m34 at e; omega)) ⟨s2, Or.inl rI_wI_at⟩
          exact ⟨_, μ', a1, f2.tr (a2.mono (fun q j e => Or.inl e)), Or.inl ⟨_, rfl, rfl⟩⟩
end BL
