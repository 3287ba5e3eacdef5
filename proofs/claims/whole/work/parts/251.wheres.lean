/-! texts: a condition -/
def sgi (x : Nat) : Nat := if x = 61 then 0 else if x = 60 then 1 else if x = 62 then 2 else if x = 63 then 3 else 4
theorem t16 : ∀ x, x < 256 → ((nI x).toUInt32 % 65536).toInt32 = nI x := by decide +kernel
theorem t8 : ∀ x, x < 256 → ((61 : Int32) = (nI x).toInt8.toInt32 ↔ x = 61) ∧ ((60 : Int32) = (nI x).toInt8.toInt32 ↔ x = 60) ∧ ((62 : Int32) = (nI x).toInt8.toInt32 ↔ x = 62) ∧ ((63 : Int32) = (nI x).toInt8.toInt32 ↔ x = 63) := by decide +kernel
theorem idx_ok {μ : Mem} {x : Nat} (hx : x < 256) : G_J0_indexOf_0f7a4_s1 (((nI x).toUInt32 % 65536).toInt32) μ = some (if sgi x = 4 then -1 else nI (sgi x), μ) := by
  obtain ⟨a1, a2, a3, a4⟩ := t8 x hx
  rw [t16 x hx]
  unfold G_J0_indexOf_0f7a4_s1 G_J0_indexOf_7cf53_s1 G_J0_isLatin1_aae02_s1 G_J0_length_8abf5_s1 G_J0_coder_7d493_s1 G_J1_indexOf_4cfef_s1 G_J1_canEncode_9a6ad G_J1_indexOfChar_4cfef_s1
  rw [if_neg (show ¬ (1 : Int32) = 0 by decide), if_pos (show (0 : Int32) = 0 from rfl), bd_s, if_neg (show ¬ (1 : Int32) = 0 by decide), if_neg (show ¬ (1 : Int32) = 0 by decide), bd_s, bd_s, if_neg (r_nlt (m := 0) (Nat.zero_le _) (by omega)), if_neg (l_nlt (m := 255) (by omega) (by omega)), bd_s, if_neg (show ¬ (1 : Int32) = 0 by decide), lb_e, lb_e, show imax (0 : Int32) 0 = 0 by decide, show imin ((4 : Int32) >>> ((0 : Int32) &&& 31)) 4 = 4 by decide, if_pos (show (0 : Int32) < 4 by decide), lb_e, show (100000 : Nat) = 99995 + 1 + 1 + 1 + 1 + 1 from rfl]
  have s0 : ∀ n (y : Int32), L_J1_indexOfChar_4cfef_s1_7 (n + 1) 4 y 0 μ = if (61 : Int32) = y then some (0, μ) else L_J1_indexOfChar_4cfef_s1_7 n 4 y 1 μ := fun n y => by rw [L_J1_indexOfChar_4cfef_s1_7, if_neg (by decide), show inB 0 (sLen.getD 1 0) = true by decide, gq_t, lb_e]; rfl
  have s1 : ∀ n (y : Int32), L_J1_indexOfChar_4cfef_s1_7 (n + 1) 4 y 1 μ = if (60 : Int32) = y then some (1, μ) else L_J1_indexOfChar_4cfef_s1_7 n 4 y 2 μ := fun n y => by rw [L_J1_indexOfChar_4cfef_s1_7, if_neg (by decide), show inB 1 (sLen.getD 1 0) = true by decide, gq_t, lb_e]; rfl
  have s2 : ∀ n (y : Int32), L_J1_indexOfChar_4cfef_s1_7 (n + 1) 4 y 2 μ = if (62 : Int32) = y then some (2, μ) else L_J1_indexOfChar_4cfef_s1_7 n 4 y 3 μ := fun n y => by rw [L_J1_indexOfChar_4cfef_s1_7, if_neg (by decide), show inB 2 (sLen.getD 1 0) = true by decide, gq_t, lb_e]; rfl
  have s3 : ∀ n (y : Int32), L_J1_indexOfChar_4cfef_s1_7 (n + 1) 4 y 3 μ = if (63 : Int32) = y then some (3, μ) else L_J1_indexOfChar_4cfef_s1_7 n 4 y 4 μ := fun n y => by rw [L_J1_indexOfChar_4cfef_s1_7, if_neg (by decide), show inB 3 (sLen.getD 1 0) = true by decide, gq_t, lb_e]; rfl
  have s4 : ∀ n (y : Int32), L_J1_indexOfChar_4cfef_s1_7 (n + 1) 4 y 4 μ = some (-1, μ) := fun n y => by rw [L_J1_indexOfChar_4cfef_s1_7, if_pos (by decide)]
  rw [s0, s1, s2, s3, s4]
  unfold sgi
  by_cases q1 : x = 61
  · rw [if_pos (a1.mpr q1), if_pos q1]; rfl
  · rw [if_neg (fun e => q1 (a1.mp e)), if_neg q1]
    by_cases q2 : x = 60
    · rw [if_pos (a2.mpr q2), if_pos q2]; rfl
    · rw [if_neg (fun e => q2 (a2.mp e)), if_neg q2]
      by_cases q3 : x = 62
      · rw [if_pos (a3.mpr q3), if_pos q3]; rfl
      · rw [if_neg (fun e => q3 (a3.mp e)), if_neg q3]
        by_cases q4 : x = 63
        · rw [if_pos (a4.mpr q4), if_pos q4]; rfl
        · rw [if_neg (fun e => q4 (a4.mp e)), if_neg q4]; rfl
theorem sgi_le (x : Nat) : sgi x ≤ 4 := by
  unfold sgi
  split
  · omega
  · split
    · omega
    · split
      · omega
      · split <;> omega
def unr (l : Nat) (ch : Nat → Nat) (p : Nat) : Nat ⊕ (Nat × Nat × Nat × Int32) := if tc l ch (sk l ch p) = 97 ∨ tc l ch (sk l ch p) = 98 then (if sgi (tc l ch (sk l ch (sk l ch p + 1))) = 4 then .inl (sk l ch (sk l ch p + 1)) else if sgi (tc l ch (sk l ch (sk l ch p + 1))) = 3 then .inr (sk l ch (sk l ch p + 1) + 1, tc l ch (sk l ch p) - 97, 3, -1) else match numr l ch 2 0 99 (sk l ch (sk l ch p + 1) + 1) with
  | .inl e => .inl e
  | .inr (e, v) => .inr (e, tc l ch (sk l ch p) - 97, sgi (tc l ch (sk l ch (sk l ch p + 1))), nI v)) else .inl (sk l ch p)
section WX
variable {l : Nat} {ch : Nat → Nat} {μ : Mem} {p p0 : Nat}
def uxQ (p0 z q j : Nat) : Prop := f13 q j ∨ (p0 + 2 ≤ q ∧ q ≤ p0 + 4 ∧ j = z)
theorem TX.fr {S : Nat → Nat → Prop} {μ' : Mem} (h : TX l ch μ) (f : Fr S μ μ') (e : ∀ q j, S q j → ¬ ((q = 1 ∧ j = 1) ∨ q = 2)) : TX l ch μ' := h.ag (fun q j z => f.i (fun s => e q j s z))
theorem TM.fr {S : Nat → Nat → Prop} {μ' : Mem} (h : TM l ch μ) (f : Fr S μ μ') (e : ∀ q j, S q j → ¬ ((q = 107 ∧ j = 2) ∨ q = 108)) : TM l ch μ' := h.ag (fun q j z => f.i (fun s => e q j s z))
theorem ru_x (hc : CH l ch) (hT : TX l ch μ) (h : rI μ 1 2 = nI p) (hp : p ≤ l) (hp0 : 3 ≤ p0) {z : Nat} (hz : z < 6) : ∃ r μ', G_X9_readUnit p0 (nI z) μ = some (r, μ') ∧ Fr (uxQ p0 z) μ μ' ∧ ((∃ e, unr l ch p = .inl e ∧ r = 0 ∧ rI μ' 1 3 = nI e) ∨ ∃ e c s v, unr l ch p = .inr (e, c, s, v) ∧ r = 1 ∧ rI μ' 1 2 = nI e ∧ e ≤ l ∧ c < 2 ∧ s < 4 ∧ rI μ' (p0 + 2) z = nI c ∧ rI μ' (p0 + 3) z = nI s ∧ rI μ' (p0 + 4) z = v) := by
  have h240 := hc.1
  have s1 := sk_ge (ch := ch) hp
  have s2 := sk_le (ch := ch) hp
  obtain ⟨μ1, e1, g1, y1⟩ := peek_ok hc hT h hp
  have f1 : Fr (uxQ p0 z) μ μ1 := g1.mono (fun q j e => by unfold f12 at e; unfold uxQ f13; omega)
  have t255 := tc_le (l := l) (ch := ch) (p := sk l ch p) hc
  unfold G_X9_readUnit unr
  rw [bd_eq e1]
  by_cases q : tc l ch (sk l ch p) = 97 ∨ tc l ch (sk l ch p) = 98
  · have hl := tc_lt (l := l) (ch := ch) (p := sk l ch p) (by omega)
    rw [if_pos q]
    have both : ∀ {ρ : Type} {X Y : ρ}, (if nI (tc l ch (sk l ch p)) = (97 : Int32) then X else if nI (tc l ch (sk l ch p)) = (98 : Int32) then X else Y) = X := fun {ρ X Y} => by
      rcases q with q | q
      · rw [if_pos (r_eq (m := 97) q)]
      · rw [if_neg (r_ne (m := 97) (by omega) (by omega) (by omega)), if_pos (r_eq (m := 98) q)]
    rw [both]
    unfold F_X9_readUnit_26
    rw [gq_in hz (by omega), nx_nI (by omega), show (97 : Int32) = nI 97 from rfl, pk_sub (by omega), lb_e, rI_wI_ne (by omega), y1, lb_e, nI_1]
    generalize hc2 : tc l ch (sk l ch p) - 97 = cl
    generalize hq : sk l ch p = q0 at *
    have s1' := sk_ge (ch := ch) (l := l) (p := q0 + 1) (by omega)
    have s2' := sk_le (ch := ch) (l := l) (p := q0 + 1) (by omega)
    have f2 : Fr (uxQ p0 z) μ (wI (wI μ1 (p0 + 2) z (nI cl)) 1 2 (nI (q0 + 1))) := (f1.wI (by unfold uxQ; omega)).wI (by unfold uxQ f13; omega)
    obtain ⟨μ3, e3, g3, y3⟩ := peek_ok (p := q0 + 1) hc (hT.fr f2 (fun q j e => by unfold uxQ f13 at e; omega)) rI_wI_at (by omega)
    have r3 : rI μ3 (p0 + 2) z = nI cl := (g3.i (by unfold f12; omega)).trans (by rw [rI_wI_ne (by omega), rI_wI_at])
    have f3 : Fr (uxQ p0 z) μ μ3 := f2.tr (g3.mono (fun q j e => by unfold f12 at e; unfold uxQ f13; omega))
    rw [bd_eq e3, bd_eq (idx_ok (by have := tc_le (l := l) (ch := ch) (p := sk l ch (q0 + 1)) hc; omega)), gq_in hz (by omega), lb_e, gq_in hz (by omega), rI_wI_at]
    have sle := sgi_le (tc l ch (sk l ch (q0 + 1)))
    generalize hr : sk l ch (q0 + 1) = r0 at *
    generalize hs : sgi (tc l ch r0) = s at *
    by_cases q4 : s = 4
    · rw [if_pos q4, if_pos q4, if_neg (by decide)]
      unfold G_X8_fail
      rw [lb_e, bd_s, rI_wI_ne (by omega), y3, show bB 0 = true from rfl, gq_t]
      exact ⟨_, _, rfl, (f3.wI (by unfold uxQ; omega)).wI (by unfold uxQ f13; omega), Or.inl ⟨_, rfl, rfl, rI_wI_at⟩⟩
    · have hl3 : r0 < l := tc_lt (ch := ch) (fun e => q4 (by rw [← hs, e]; rfl))
      rw [if_neg q4, if_neg q4, if_pos (l_le (m := 0) (Nat.zero_le _) (by omega)), rI_wI_ne (by omega), y3, lb_e, nI_1, gq_in hz (by omega), lb_e, gq_in hz (by omega), rI_wI_ne (show p0 + 3 ≠ p0 + 4 by omega), rI_wI_ne (by omega), rI_wI_at]
      have f4 : Fr (uxQ p0 z) μ (wI (wI (wI μ3 (p0 + 3) z (nI s)) 1 2 (nI (r0 + 1))) (p0 + 4) z (-1)) := ((f3.wI (by unfold uxQ; omega)).wI (by unfold uxQ f13; omega)).wI (by unfold uxQ; omega)
      by_cases q3 : s = 3
      · rw [if_pos (r_eq (m := 3) q3), if_pos q3]
        refine ⟨_, _, rfl, f4, Or.inr ⟨_, _, _, _, rfl, rfl, ?_, by omega, by omega, by omega, ?_, ?_, rI_wI_at⟩⟩
        · rw [rI_wI_ne (by omega), rI_wI_at]
        · rw [rI_wI_ne (by omega), rI_wI_ne (by omega), rI_wI_ne (by omega)]; exact r3
        · rw [rI_wI_ne (by omega), rI_wI_ne (by omega), rI_wI_at, q3]
      · rw [if_neg (r_ne (m := 3) q3 (by omega) (by omega)), if_neg q3]
        obtain ⟨r, μ5, e5, g5, d5⟩ := rn_x (d := 2) (lo := 0) (hi := 99) (p := r0 + 1) hc (hT.fr f4 (fun q j e => by unfold uxQ f13 at e; omega)) (by rw [rI_wI_ne (by omega), rI_wI_at]) (by omega) (by omega) (by omega) (by omega)
        have e5' : G_X8_readNumber 2 0 99 _ = some (r, μ5) := e5
        rw [bd_eq e5', gq_in hz (by omega), lb_e, gq_in hz (by omega), rI_wI_at]
        have f5 : Fr (uxQ p0 z) μ (wI μ5 (p0 + 4) z r) := (f4.tr (g5.mono (fun q j e => by unfold f13 at e; unfold uxQ f13; omega))).wI (by unfold uxQ; omega)
        rcases d5 with ⟨e, n1, n2, n3⟩ | ⟨e, v, n1, n2, n3, n4, n5, n6, n7⟩
        · rw [n1, if_pos n2]
          exact ⟨_, _, rfl, f5, Or.inl ⟨_, rfl, rfl, by rw [rI_wI_ne (by omega)]; exact n3⟩⟩
        · rw [n1, if_neg (by rw [n2]; exact nI_m1 (by omega))]
          refine ⟨_, _, rfl, f5, Or.inr ⟨_, _, _, _, rfl, rfl, ?_, n5, by omega, by omega, ?_, ?_, by rw [rI_wI_at, n2]⟩⟩
          · rw [rI_wI_ne (by omega)]; exact n3
          · rw [rI_wI_ne (by omega), g5.i (by unfold f13; omega), rI_wI_ne (by omega), rI_wI_ne (by omega), rI_wI_ne (by omega)]; exact r3
          · rw [rI_wI_ne (by omega), g5.i (by unfold f13; omega), rI_wI_ne (by omega), rI_wI_ne (by omega), rI_wI_at]
  · rw [if_neg q, if_neg (r_ne (m := 97) (by omega) (by omega) (by omega)), if_neg (r_ne (m := 98) (by omega) (by omega) (by omega))]
    unfold G_X8_fail
    rw [lb_e, bd_s, y1, show bB 0 = true from rfl, gq_t]
    exact ⟨_, _, rfl, f1.wI (by unfold uxQ f13; omega), Or.inl ⟨_, rfl, rfl, rI_wI_at⟩⟩
def umQ (i q j : Nat) : Prop := m34 q j ∨ (q = 115 ∧ j = i) ∨ (q = 114 ∧ 24 * i ≤ j ∧ j < 24 * i + 24)
theorem ru_m (hc : CH l ch) (hT : TM l ch μ) (h : rI μ 107 3 = nI p) (h4 : rI μ 107 4 = -1) (hp : p ≤ l) {i z t : Nat} (hi : i < 5) (hz : z ≤ 6) (hZ : rI μ 115 i = nI z) : ∃ μ', G_X11_readUnit (nI i) (nI t) μ = some ((), μ') ∧ Fr (umQ i) μ μ' ∧ (∀ j, j < 24 * i + 4 * z → rI μ' 114 j = rI μ 114 j) ∧ ((∃ e, (if z = 6 then .inl (sk l ch p) else unr l ch p) = .inl e ∧ rI μ' 107 4 = nI e) ∨ (z < 6 ∧ ∃ e c s v, unr l ch p = .inr (e, c, s, v) ∧ rI μ' 107 3 = nI e ∧ rI μ' 107 4 = -1 ∧ rI μ' 115 i = nI (z + 1) ∧ rI μ' 114 (4 * (6 * i + z)) = nI t ∧ rI μ' 114 (4 * (6 * i + z) + 1) = nI c ∧ rI μ' 114 (4 * (6 * i + z) + 2) = nI s ∧ rI μ' 114 (4 * (6 * i + z) + 3) = v)) := by
  have h240 := hc.1
  have s1 := sk_ge (ch := ch) hp
  have s2 := sk_le (ch := ch) hp
  obtain ⟨μ1, e1, g1, y1⟩ := ahead_ok hc hT h hp
  have f1 : Fr (umQ i) μ μ1 := g1.mono (fun q j e => by unfold m3 at e; unfold umQ m34; omega)
  have z1 : rI μ1 107 4 = -1 := (g1.i (by unfold m3; omega)).trans h4
  have k1 : ∀ j, rI μ1 114 j = rI μ 114 j := fun j => g1.i (by unfold m3; omega)
  have hZ1 : rI μ1 115 i = nI z := (g1.i (by unfold m3; omega)).trans hZ
  have t255 := tc_le (l := l) (ch := ch) (p := sk l ch p) hc
  have badu : ∀ {μ' : Mem} {x : Nat}, rI μ' 107 3 = nI x → rI μ' 107 4 = -1 → Fr (umQ i) μ μ' → (∀ j, j < 24 * i + 4 * z → rI μ' 114 j = rI μ 114 j) → ∃ μ'', F_X11_readUnit_28 μ' = some ((), μ'') ∧ Fr (umQ i) μ μ'' ∧ (∀ j, j < 24 * i + 4 * z → rI μ'' 114 j = rI μ 114 j) ∧ rI μ'' 107 4 = nI x := fun {μ' x} b1 b2 b3 b4 => by
    unfold F_X11_readUnit_28
    rw [bd_eq (bad_ok b1 b2)]
    exact ⟨_, rfl, b3.wI (by unfold umQ m34; omega), fun j hj => by rw [rI_wI_ne (by omega)]; exact b4 j hj, rI_wI_at⟩
  unfold G_X11_readUnit unr
  rw [bd_eq e1]
  by_cases q : tc l ch (sk l ch p) = 97 ∨ tc l ch (sk l ch p) = 98
  · have hl := tc_lt (l := l) (ch := ch) (p := sk l ch p) (by omega)
    rw [if_pos q]
    have both : ∀ {ρ : Type} {X Y : ρ}, (if ac (tc l ch (sk l ch p)) = (97 : Int32) then X else if ac (tc l ch (sk l ch p)) = (98 : Int32) then X else Y) = X := fun {ρ X Y} => by
      rcases q with q | q
      · rw [if_pos ((ac_eq (m := 97) t255 (by omega) (by omega)).mpr q)]
      · rw [if_neg (fun e => by have := (ac_eq (m := 97) t255 (by omega) (by omega)).mp e; omega), if_pos ((ac_eq (m := 98) t255 (by omega) (by omega)).mpr q)]
    rw [both]
    unfold F_X11_readUnit_17
    rw [gq_in hi (by omega), nx_nI (by omega), hZ1]
    by_cases z6 : z = 6
    · rw [if_pos z6, if_pos (r_eq (m := 6) z6)]
      obtain ⟨μ', a1, a2, a3, a4⟩ := badu y1 z1 f1 (fun j _ => k1 j)
      exact ⟨μ', a1, a2, a3, Or.inl ⟨_, rfl, a4⟩⟩
    · rw [if_neg z6, if_neg (r_ne (m := 6) z6 (by omega) (by omega)), gq_in hi (by omega), show (6 : Int32) = nI 6 from rfl, pk_mul, nI_add, show (4 : Int32) = nI 4 from rfl, pk_mul, lb_e, gq_in (by omega) (by omega), nx_nI (by omega), lb_e, nI_1, gq_in (by omega) (by omega), nx_nI (by omega), show ac (tc l ch (sk l ch p)) = nI (tc l ch (sk l ch p)) from if_neg (by omega), show (97 : Int32) = nI 97 from rfl, pk_sub (by omega), lb_e, show (3 : Int32) = nI 3 from rfl, nI_add, gq_in (by omega) (by omega), nx_nI (by omega), lb_e, rI_wI_ne (by omega), rI_wI_ne (by omega), rI_wI_ne (by omega), y1, nI_1, lb_e]
      have hx : ∃ x, x = 4 * (6 * i + z) := ⟨_, rfl⟩
      obtain ⟨x, hx⟩ := hx
      rw [← hx]
      generalize hc2 : tc l ch (sk l ch p) - 97 = cl
      generalize hq : sk l ch p = q0 at *
      have s1' := sk_ge (ch := ch) (l := l) (p := q0 + 1) (by omega)
      have s2' := sk_le (ch := ch) (l := l) (p := q0 + 1) (by omega)
      generalize hm2 : wI (wI (wI (wI μ1 114 x (nI t)) 114 (x + 1) (nI cl)) 114 (x + 3) (-1)) 107 3 (nI (q0 + 1)) = μ2
      have f2 : Fr (umQ i) μ μ2 := by
        rw [← hm2]
        exact (((f1.wI (by unfold umQ; omega)).wI (by unfold umQ; omega)).wI (by unfold umQ; omega)).wI (by unfold umQ m34; omega)
      have k2 : ∀ j, j < x → rI μ2 114 j = rI μ 114 j := fun j hj => by
        rw [← hm2, rI_wI_ne (by omega), rI_wI_off (by omega), rI_wI_off (by omega), rI_wI_off (by omega)]; exact k1 j
      have a0 : rI μ2 114 x = nI t := by rw [← hm2, rI_wI_ne (by omega), rI_wI_off (by omega), rI_wI_off (by omega), rI_wI_at]
      have a1 : rI μ2 114 (x + 1) = nI cl := by rw [← hm2, rI_wI_ne (by omega), rI_wI_off (by omega), rI_wI_at]
      have a3 : rI μ2 114 (x + 3) = -1 := by rw [← hm2, rI_wI_ne (by omega), rI_wI_at]
      have z2 : rI μ2 107 4 = -1 := by rw [← hm2, rI_wI_off (by omega), rI_wI_ne (by omega), rI_wI_ne (by omega), rI_wI_ne (by omega)]; exact z1
      have y2 : rI μ2 107 3 = nI (q0 + 1) := by rw [← hm2, rI_wI_at]
      have hZ2 : rI μ2 115 i = nI z := by rw [← hm2, rI_wI_ne (by omega), rI_wI_ne (by omega), rI_wI_ne (by omega), rI_wI_ne (by omega)]; exact hZ1
      obtain ⟨μ3, e3, g3, y3⟩ := ahead_ok (p := q0 + 1) hc (hT.fr f2 (fun q j e => by unfold umQ m34 at e; omega)) y2 (by omega)
      have f3 : Fr (umQ i) μ μ3 := f2.tr (g3.mono (fun q j e => by unfold m3 at e; unfold umQ m34; omega))
      rw [bd_eq e3]
      have r255 := tc_le (l := l) (ch := ch) (p := sk l ch (q0 + 1)) hc
      have sle := sgi_le (tc l ch (sk l ch (q0 + 1)))
      generalize hr : sk l ch (q0 + 1) = r0 at *
      have five : ∀ {G : Int32 → Option (Unit × Mem)}, (if ac (tc l ch r0) = (61 : Int32) then G 0 else if ac (tc l ch r0) = (60 : Int32) then G 1 else if ac (tc l ch r0) = (62 : Int32) then G 2 else if ac (tc l ch r0) = (63 : Int32) then G (nI 3) else G (-1)) = G (if sgi (tc l ch r0) = 4 then -1 else nI (sgi (tc l ch r0))) := fun {G} => by
        unfold sgi
        by_cases q1 : tc l ch r0 = 61
        · rw [if_pos ((ac_eq (m := 61) r255 (by omega) (by omega)).mpr q1), if_pos q1]; rfl
        · rw [if_neg (fun e => q1 ((ac_eq (m := 61) r255 (by omega) (by omega)).mp e)), if_neg q1]
          by_cases q2 : tc l ch r0 = 60
          · rw [if_pos ((ac_eq (m := 60) r255 (by omega) (by omega)).mpr q2), if_pos q2]; rfl
          · rw [if_neg (fun e => q2 ((ac_eq (m := 60) r255 (by omega) (by omega)).mp e)), if_neg q2]
            by_cases q3 : tc l ch r0 = 62
            · rw [if_pos ((ac_eq (m := 62) r255 (by omega) (by omega)).mpr q3), if_pos q3]; rfl
            · rw [if_neg (fun e => q3 ((ac_eq (m := 62) r255 (by omega) (by omega)).mp e)), if_neg q3]
              by_cases q4 : tc l ch r0 = 63
              · rw [if_pos ((ac_eq (m := 63) r255 (by omega) (by omega)).mpr q4), if_pos q4]; rfl
              · rw [if_neg (fun e => q4 ((ac_eq (m := 63) r255 (by omega) (by omega)).mp e)), if_neg q4]; rfl
      rw [five (G := fun v => F_X11_readUnit_148 (nI i) (nI x) (ac (tc l ch r0)) (nI x + 2) v μ3)]
      have q63 : ac (tc l ch r0) = (63 : Int32) ↔ sgi (tc l ch r0) = 3 := by
        rw [ac_eq (m := 63) r255 (by omega) (by omega)]
        unfold sgi
        constructor
        · intro e; rw [e]; rfl
        · intro e
          split at e
          · omega
          · split at e
            · omega
            · split at e
              · omega
              · split at e
                · assumption
                · omega
      unfold F_X11_readUnit_148 F_X11_readUnit_201
      rw [show (2 : Int32) = nI 2 from rfl, nI_add, gq_in (by omega) (by omega), nx_nI (by omega), lb_e, gq_in (by omega) (by omega), rI_wI_at, show (3 : Int32) = nI 3 from rfl, nI_add, nx_nI (by omega)]
      have s0 : sgi (tc l ch r0) ≠ 4 → r0 < l := fun z => tc_lt (ch := ch) (fun e => z (by rw [e]; rfl))
      generalize hs : sgi (tc l ch r0) = s at *
      by_cases q4 : s = 4
      · rw [if_pos q4, if_pos q4, if_pos rfl]
        obtain ⟨μ', b1, b2, b3, b4⟩ := badu (μ' := wI μ3 114 (x + 2) (-1)) (x := r0) (by rw [rI_wI_ne (by omega)]; exact y3) (by rw [rI_wI_ne (by omega), g3.i (by unfold m3; omega)]; exact z2) (f3.wI (by unfold umQ; omega)) (fun j hj => by rw [rI_wI_off (by omega), g3.i (by unfold m3; omega)]; exact k2 j (by omega))
        exact ⟨μ', b1, b2, b3, Or.inl ⟨_, rfl, b4⟩⟩
      · have hl3 := s0 q4
        rw [if_neg q4, if_neg q4, if_neg (nI_m1 (by omega)), rI_wI_ne (by omega), y3, nI_1, lb_e]
        generalize hm4 : wI (wI μ3 114 (x + 2) (nI s)) 107 3 (nI (r0 + 1)) = μ4
        have f4 : Fr (umQ i) μ μ4 := by
          rw [← hm4]
          exact (f3.wI (by unfold umQ; omega)).wI (by unfold umQ m34; omega)
        have o4 : ∀ j, j ≠ x + 2 → rI μ4 114 j = rI μ2 114 j := fun j hj => by
          rw [← hm4, rI_wI_ne (by omega), rI_wI_off hj]; exact g3.i (by unfold m3; omega)
        have b2 : rI μ4 114 (x + 2) = nI s := by rw [← hm4, rI_wI_ne (by omega), rI_wI_at]
        have z4 : rI μ4 107 4 = -1 := by rw [← hm4, rI_wI_off (by omega), rI_wI_ne (by omega), g3.i (by unfold m3; omega)]; exact z2
        have y4 : rI μ4 107 3 = nI (r0 + 1) := by rw [← hm4, rI_wI_at]
        have hZ4 : rI μ4 115 i = nI z := by rw [← hm4, rI_wI_ne (by omega), rI_wI_ne (by omega), g3.i (by unfold m3; omega)]; exact hZ2
        by_cases q3 : s = 3
        · rw [if_pos (q63.mpr q3), if_pos q3, gq_in hi (by omega), gq_in hi (by omega), hZ4, nI_1, lb_e]
          refine ⟨_, rfl, f4.wI (by unfold umQ; omega), fun j hj => by rw [rI_wI_ne (by omega), o4 j (by omega)]; exact k2 j (by omega), Or.inr ⟨by omega, _, _, _, _, rfl, ?_, ?_, rI_wI_at, ?_, ?_, ?_, ?_⟩⟩
          · rw [rI_wI_ne (by omega)]; exact y4
          · rw [rI_wI_ne (by omega)]; exact z4
          · rw [rI_wI_ne (by omega), o4 _ (by omega)]; exact a0
          · rw [rI_wI_ne (by omega), o4 _ (by omega)]; exact a1
          · rw [rI_wI_ne (by omega), b2, q3]
          · rw [rI_wI_ne (by omega), o4 _ (by omega)]; exact a3
        · rw [if_neg (fun e => q3 (q63.mp e)), if_neg q3]
          obtain ⟨r, μ5, e5, g5, d5⟩ := rn_m (d := 2) (lo := 0) (hi := 99) (p := r0 + 1) hc (hT.fr f4 (fun q j e => by unfold umQ m34 at e; omega)) y4 z4 (by omega) (by omega) (by omega) (by omega) (by omega)
          have e5' : G_X11_number (nI 2) 0 99 μ4 = some (r, μ5) := e5
          rw [bd_eq e5', gq_in (by omega) (by omega), nx_nI (k := x + 3) (by omega), lb_e, gq_in hi (by omega), gq_in hi (by omega), rI_wI_ne (by omega), g5.i (by unfold m34; omega), hZ4, nI_1, lb_e]
          have f5 : Fr (umQ i) μ (wI (wI μ5 114 (x + 3) r) 115 i (nI (z + 1))) := ((f4.tr (g5.mono (fun q j e => by unfold m34 at e; unfold umQ m34; omega))).wI (by unfold umQ; omega)).wI (by unfold umQ; omega)
          have k5 : ∀ j, j < x → rI (wI (wI μ5 114 (x + 3) r) 115 i (nI (z + 1))) 114 j = rI μ 114 j := fun j hj => by
            rw [rI_wI_ne (by omega), rI_wI_off (by omega), g5.i (by unfold m34; omega), o4 j (by omega)]; exact k2 j hj
          rcases d5 with ⟨e, n1, n3⟩ | ⟨e, v, n1, n2, n3, n4⟩
          · rw [n1]
            exact ⟨_, rfl, f5, fun j hj => k5 j (by omega), Or.inl ⟨_, rfl, by rw [rI_wI_ne (by omega), rI_wI_ne (by omega)]; exact n3⟩⟩
          · rw [n1]
            refine ⟨_, rfl, f5, fun j hj => k5 j (by omega), Or.inr ⟨by omega, _, _, _, _, rfl, ?_, ?_, rI_wI_at, ?_, ?_, ?_, ?_⟩⟩
            · rw [rI_wI_ne (by omega), rI_wI_ne (by omega)]; exact n3
            · rw [rI_wI_ne (by omega), rI_wI_ne (by omega)]; exact n4
            · rw [rI_wI_ne (by omega), rI_wI_off (by omega), g5.i (by unfold m34; omega), o4 _ (by omega)]; exact a0
            · rw [rI_wI_ne (by omega), rI_wI_off (by omega), g5.i (by unfold m34; omega), o4 _ (by omega)]; exact a1
            · rw [rI_wI_ne (by omega), rI_wI_off (by omega), g5.i (by unfold m34; omega)]; exact b2
            · rw [rI_wI_ne (by omega), rI_wI_at, n2]
  · rw [if_neg q, if_neg (fun e => q (Or.inl ((ac_eq (m := 97) t255 (by omega) (by omega)).mp e))), if_neg (fun e => q (Or.inr ((ac_eq (m := 98) t255 (by omega) (by omega)).mp e)))]
    obtain ⟨μ', a1, a2, a3, a4⟩ := badu y1 z1 f1 (fun j _ => k1 j)
    exact ⟨μ', a1, a2, a3, Or.inl ⟨_, ite_self _, a4⟩⟩
end WX
