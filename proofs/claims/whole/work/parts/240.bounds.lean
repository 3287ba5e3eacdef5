/-! bounds by the buckets: numbers, the class -/
def hcN (sg : Nat) (nu : Int32) (x y : Nat) : Nat := fb_sm (fun k => if uh sg nu (x + k) = true then 1 else 0) (y - x)
def ubk (w h tot gr W : Nat) : Nat := if h = 0 then 0 else if w = 1 then tot - gr * (W - h) else if w = 2 then min tot (gr * h) else tot * h / W
def uBs (w sg : Nat) (nu : Int32) (g bd gr : Nat → Nat) (K : Nat) : Nat := fb_sm (fun k => ubk w (hcN sg nu (bd k) (bd (k + 1))) (seg g (bd k) (bd (k + 1))) (gr k) (bd (k + 1) - bd k)) K
def uB (w sg : Nat) (nu : Int32) (g bd gr : Nat → Nat) (K : Nat) : Nat := if sg = 3 then g 16 else uBs w sg nu g bd gr K
theorem hcN_le (sg : Nat) (nu : Int32) (x y : Nat) : hcN sg nu x y ≤ y - x := by
  have := fb_sm_bound (f := fun k => if uh sg nu (x + k) = true then 1 else 0) (c := 1) (n := y - x) (fun k _ => by
    show (if uh sg nu (x + k) = true then 1 else 0) ≤ 1
    split <;> omega)
  unfold hcN
  omega
theorem ubk_le {w h tot gr W : Nat} (hh : h ≤ W) : ubk w h tot gr W ≤ tot := by
  unfold ubk
  by_cases q : h = 0
  · rw [if_pos q]; omega
  · rw [if_neg q]
    by_cases q1 : w = 1
    · rw [if_pos q1]; omega
    · rw [if_neg q1]
      by_cases q2 : w = 2
      · rw [if_pos q2]; omega
      · rw [if_neg q2]
        exact Nat.div_le_of_le_mul (by rw [Nat.mul_comm W]; exact Nat.mul_le_mul_left _ hh)
theorem uBs_le {w sg : Nat} {nu : Int32} {v K D dr : Nat} {g bd gr : Nat → Nat} (hw : LW v K D g bd gr dr) (hs : fb_sm g v ≤ 999) (hv : v ≤ 16) (hK : K ≤ 8) {k : Nat} (hk : k ≤ K) : uBs w sg nu g bd gr k ≤ 7992 := by
  have b := fb_sm_bound (f := fun k => ubk w (hcN sg nu (bd k) (bd (k + 1))) (seg g (bd k) (bd (k + 1))) (gr k) (bd (k + 1) - bd k)) (c := 999) (n := k) (fun j hj => by
    have := (hw.fc hs hv (i := j) (by omega)).2.2.1
    exact Nat.le_trans (ubk_le (hcN_le _ _ _ _)) this)
  have e : k * 999 ≤ 8 * 999 := Nat.mul_le_mul_right _ (by omega)
  unfold uBs
  omega
theorem uB_le {w sg : Nat} {nu : Int32} {v K D dr : Nat} {g bd gr : Nat → Nat} (hw : LW v K D g bd gr dr) (hs : fb_sm g v ≤ 999) (hv : v ≤ 16) (hK : K ≤ 8) (h16 : g 16 ≤ 999) : uB w sg nu g bd gr K ≤ 7992 := by
  unfold uB
  split
  · omega
  · exact uBs_le hw hs hv hK (Nat.le_refl _)
section U
variable {μ : Mem} {z : Nat} {tm cl sg : Nat → Nat} {nu : Nat → Int32} {pw : Nat} {v K D : Nat} {g bd gr : Nat → Nat} {dr p : Nat}
theorem held_ok (hX : XW z tm cl sg nu pw μ) (hw : WH z tm cl sg) (h : XL v K g bd gr dr p μ) (hl : LW v K D g bd gr dr) (hs : fb_sm g v ≤ 999) (hv : v ≤ 16) (hK : K ≤ 8) {u k : Nat} (hu : u < z) (hk : k < K) : G_X2_heldIn pw (nI u) p (nI k) μ = some (nI (hcN (sg u) (nu u) (bd k) (bd (k + 1))), μ) := by
  obtain ⟨b1, b2, -, -⟩ := hl.fc hs hv hk
  unfold G_X2_heldIn
  rw [bd_eq (lane_first h hK hk)]
  have run : ∀ m q, bd k ≤ q → q ≤ bd (k + 1) → bd (k + 1) - q < m → L_X2_heldIn_10 m pw (nI u) p (nI k) (nI (hcN (sg u) (nu u) (bd k) q)) (nI q) μ = some (nI (hcN (sg u) (nu u) (bd k) (bd (k + 1))), μ) := by
    intro m
    induction m with
    | zero => intro q _ _ h; omega
    | succ m ih =>
      intro q h1 h2 h3
      rcases Nat.lt_or_ge q (bd (k + 1)) with hq | hq
      · have e : hcN (sg u) (nu u) (bd k) (q + 1) = hcN (sg u) (nu u) (bd k) q + if uh (sg u) (nu u) q = true then 1 else 0 := by
          unfold hcN
          rw [show q + 1 - bd k = (q - bd k) + 1 by omega, fb_sm_succ, show bd k + (q - bd k) = q by omega]
        have hh := uhX hX hw hu (w := q) (by omega)
        rw [ix_n (by omega)] at hh
        rw [L_X2_heldIn_10, bd_eq (lane_last h hl hK hv hk), if_neg (nI_nlt (by omega) (by omega)), bd_eq hh]
        unfold F_X2_heldIn_37
        simp only [lb_e, nI_1]
        have nx2 := ih (q + 1) (by omega) (by omega) (by omega)
        rw [e] at nx2
        cases hb : uh (sg u) (nu u) q with
        | false =>
          rw [hb, if_neg (by decide)] at nx2
          rw [if_pos bI_f, i0, nI_add]
          exact nx2
        | true =>
          rw [hb, if_pos rfl] at nx2
          rw [if_neg (show ¬ bI true = 0 by decide)]
          exact nx2
      · have e : q = bd (k + 1) := by omega
        subst e
        rw [L_X2_heldIn_10, bd_eq (lane_last h hl hK hv hk), if_pos (nI_lt (by omega) (by omega))]
  have r := run 100000 (bd k) (Nat.le_refl _) (by omega) (by omega)
  unfold hcN at r
  rw [Nat.sub_self] at r
  exact r
def fuQ (q j : Nat) : Prop := q = 103 ∧ 3 ≤ j ∧ j ≤ 5
theorem XW.ag {μ' : Mem} (hX : XW z tm cl sg nu pw μ) (hz : z ≤ 6) (e : ∀ q j, pw ≤ q → q ≤ pw + 4 → rI μ' q j = rI μ q j) : XW z tm cl sg nu pw μ' := ⟨(e _ _ (by omega) (by omega)).trans hX.1, fun u hu => by
  rw [e _ _ (by omega) (by omega), e _ _ (by omega) (by omega), e _ _ (by omega) (by omega), e _ _ (by omega) (by omega)]; exact hX.2 u hu⟩
theorem addB_ok (h : XL v K g bd gr dr p μ) (hl : LW v K D g bd gr dr) (hs : fb_sm g v ≤ 999) (hv : v ≤ 16) (hK : K ≤ 8) {k hc a b c : Nat} (hk : k < K) (hh : hc ≤ bd (k + 1) - bd k) (e3 : rI μ 103 3 = nI a) (e4 : rI μ 103 4 = nI b) (e5 : rI μ 103 5 = nI c) : ∃ μ', G_X2_addBucket p (nI k) (nI hc) μ = some ((), μ') ∧ Fr fuQ μ μ' ∧ rI μ' 103 3 = nI (a + ubk 1 hc (seg g (bd k) (bd (k + 1))) (gr k) (bd (k + 1) - bd k)) ∧ rI μ' 103 4 = nI (b + ubk 2 hc (seg g (bd k) (bd (k + 1))) (gr k) (bd (k + 1) - bd k)) ∧ rI μ' 103 5 = nI (c + ubk 3 hc (seg g (bd k) (bd (k + 1))) (gr k) (bd (k + 1) - bd k)) := by
  obtain ⟨b1, b2, b3, b4⟩ := hl.fc hs hv hk
  unfold G_X2_addBucket
  rw [bd_eq (lane_width h hl hK hv hk)]
  by_cases q : hc = 0
  · rw [if_pos (show nI hc = 0 by rw [q]; rfl)]
    have u0 : ∀ w, ubk w hc (seg g (bd k) (bd (k + 1))) (gr k) (bd (k + 1) - bd k) = 0 := fun w => if_pos q
    rw [u0, u0, u0]
    exact ⟨μ, rfl, Fr.rf, e3, e4, e5⟩
  · have m1 : gr k * (bd (k + 1) - bd k - hc) ≤ 999 * 16 := Nat.mul_le_mul b4 (by omega)
    have m2 : gr k * hc ≤ 999 * 16 := Nat.mul_le_mul b4 (by omega)
    have m3 : seg g (bd k) (bd (k + 1)) * hc ≤ 999 * 16 := Nat.mul_le_mul b3 (by omega)
    have v1 : ubk 1 hc (seg g (bd k) (bd (k + 1))) (gr k) (bd (k + 1) - bd k) = seg g (bd k) (bd (k + 1)) - gr k * (bd (k + 1) - bd k - hc) := (if_neg q).trans (if_pos rfl)
    have v2 : ubk 2 hc (seg g (bd k) (bd (k + 1))) (gr k) (bd (k + 1) - bd k) = min (seg g (bd k) (bd (k + 1))) (gr k * hc) := (if_neg q).trans ((if_neg (by omega)).trans (if_pos rfl))
    have v3 : ubk 3 hc (seg g (bd k) (bd (k + 1))) (gr k) (bd (k + 1) - bd k) = seg g (bd k) (bd (k + 1)) * hc / (bd (k + 1) - bd k) := (if_neg q).trans ((if_neg (by omega)).trans (if_neg (by omega)))
    rw [if_neg (nI_ne0 (by omega) (by omega)), if_pos (l_le (m := 1) (by omega) (by omega)), bd_eq (lane_total h hK hk), bd_eq (lane_greatest h hK hk), pk_sub (by omega), pk_mul, zI_sub, (zI_max (by omega) (by omega)).2, show ((seg g (bd k) (bd (k + 1)) : Int) - ((gr k * (bd (k + 1) - bd k - hc) : Nat) : Int)).toNat = seg g (bd k) (bd (k + 1)) - gr k * (bd (k + 1) - bd k - hc) by omega, ← v1, e3, nI_add, lb_e, pk_mul, imin_nI (by omega) (by omega), ← v2, rI_wI_off (by omega), e4, nI_add, lb_e, gq_nI (by omega) (by omega), pk_mul, pk_div (by omega) (by omega) (by omega), ← v3, rI_wI_off (by omega), rI_wI_off (by omega), e5, nI_add, lb_e]
    refine ⟨_, rfl, ((Fr.rf.wI (by unfold fuQ; omega)).wI (by unfold fuQ; omega)).wI (by unfold fuQ; omega), ?_, ?_, rI_wI_at⟩
    · rw [rI_wI_off (by omega), rI_wI_off (by omega), rI_wI_at]
    · rw [rI_wI_off (by omega), rI_wI_at]
theorem findU_ok (hX : XW z tm cl sg nu pw μ) (hw : WH z tm cl sg) (h : XL v K g bd gr dr p μ) (hl : LW v K D g bd gr dr) (hs : fb_sm g v ≤ 999) (hv : v ≤ 16) (hK : K ≤ 8) (hp : p + 2 < 103 ∨ 103 < p) (hpw : pw + 4 < 103) {u : Nat} (hu : u < z) : ∃ μ', G_X2_findUnit pw (nI u) p μ = some ((), μ') ∧ Fr fuQ μ μ' ∧ rI μ' 103 3 = nI (uB 1 (sg u) (nu u) g bd gr K) ∧ rI μ' 103 4 = nI (uB 2 (sg u) (nu u) g bd gr K) ∧ rI μ' 103 5 = nI (uB 3 (sg u) (nu u) g bd gr K) := by
  have hz := hw.2.1
  have s4 := (hw.2.2.2.2 u hu).2
  unfold G_X2_findUnit uB
  rw [gq_in (by omega) (by omega), nx_nI (by omega), (hX.2 u hu).2.2.1]
  by_cases q : sg u = 3
  · rw [if_pos (r_eq (m := 3) q), if_pos q, if_pos q, if_pos q, lb_e, lb_e, lb_e]
    have e := h.1.2.1
    refine ⟨_, rfl, ((Fr.rf.wI (by unfold fuQ; omega)).wI (by unfold fuQ; omega)).wI (by unfold fuQ; omega), ?_, ?_, ?_⟩
    · rw [rI_wI_off (by omega), rI_wI_off (by omega), rI_wI_at]; exact e
    · rw [rI_wI_off (by omega), rI_wI_at, rI_wI_ne (by omega)]; exact e
    · rw [rI_wI_at, rI_wI_ne (by omega), rI_wI_ne (by omega)]; exact e
  · rw [if_neg (r_ne (m := 3) q (by omega) (by omega)), if_neg q, if_neg q, if_neg q, lb_e, lb_e, lb_e]
    refine loop_inv (fun n k (s : Mem) => L_X2_findUnit_53 n pw (nI u) p k s) K (fun k s => Fr fuQ μ s ∧ rI s 103 3 = nI (uBs 1 (sg u) (nu u) g bd gr k) ∧ rI s 103 4 = nI (uBs 2 (sg u) (nu u) g bd gr k) ∧ rI s 103 5 = nI (uBs 3 (sg u) (nu u) g bd gr k)) (P := fun o => ∃ μ', o = some ((), μ') ∧ Fr fuQ μ μ' ∧ rI μ' 103 3 = nI (uBs 1 (sg u) (nu u) g bd gr K) ∧ rI μ' 103 4 = nI (uBs 2 (sg u) (nu u) g bd gr K) ∧ rI μ' 103 5 = nI (uBs 3 (sg u) (nu u) g bd gr K)) ?_ ?_ 100000 0 _ (by omega) (by omega) ⟨((Fr.rf.wI (by unfold fuQ; omega)).wI (by unfold fuQ; omega)).wI (by unfold fuQ; omega), by rw [rI_wI_off (by omega), rI_wI_off (by omega), rI_wI_at]; rfl, by rw [rI_wI_off (by omega), rI_wI_at]; rfl, by rw [rI_wI_at]; rfl⟩
    · rintro n k s hk ⟨f, a3, a4, a5⟩
      have hX' := hX.ag (μ' := s) hz (fun q j q1 q2 => f.i (by unfold fuQ; omega))
      have h' : XL v K g bd gr dr p s := XL.ag (fun x j q1 q2 => f.i (by unfold fuQ; omega)) h
      obtain ⟨s', e', f', c3, c4, c5⟩ := addB_ok h' hl hs hv hK hk (hcN_le (sg u) (nu u) (bd k) (bd (k + 1))) a3 a4 a5
      refine ⟨s', ⟨f.tr f', c3, c4, c5⟩, ?_⟩
      show L_X2_findUnit_53 (n + 1) pw (nI u) p (nI k) s = _
      rw [L_X2_findUnit_53, bd_eq (lane_size h'), if_neg (nI_ge hk (by omega)), bd_eq (held_ok hX' hw h' hl hs hv hK hu hk), bd_eq e', lb_e, nI_1]
    · rintro n s ⟨f, a3, a4, a5⟩
      have h' : XL v K g bd gr dr p s := XL.ag (fun x j q1 q2 => f.i (by unfold fuQ; omega)) h
      refine ⟨s, ?_, f, a3, a4, a5⟩
      show L_X2_findUnit_53 (n + 1) pw (nI u) p (nI K) s = _
      rw [L_X2_findUnit_53, bd_eq (lane_size h'), if_pos (nI_le (Nat.le_refl _) (by omega))]
end U
/-! terms: how many units, their sum, the least of them and one -/
def nT (tm : Nat → Nat) (t i : Nat) : Nat := fb_sm (fun j => if tm j = t then 1 else 0) i
def sT (tm : Nat → Nat) (f : Nat → Nat) (t i : Nat) : Nat := fb_sm (fun j => if tm j = t then f j else 0) i
def fT (tm : Nat → Nat) (f : Nat → Nat) (t : Nat) : Nat → Nat
  | 0 => 0
  | i + 1 => if tm i = t then (if fT tm f t i = 0 then f i + 1 else min (fT tm f t i) (f i + 1)) else fT tm f t i
def tLo (tm : Nat → Nat) (f : Nat → Nat) (R t i : Nat) : Nat := sT tm f t i - (nT tm t i - 1) * R
theorem nT_cut {tm : Nat → Nat} {t i d : Nat} (h : ∀ j, i ≤ j → j < i + d → tm j ≠ t) : nT tm t (i + d) = nT tm t i := by
  unfold nT
  rw [fb_sm_split, show fb_sm (fun k => if tm (i + k) = t then 1 else 0) d = fb_sm (fun _ => 0) d from fb_sm_cong fun k hk => if_neg (h _ (by omega) (by omega)), fb_sm_const, Nat.mul_zero, Nat.add_zero]
theorem sT_cut {tm f : Nat → Nat} {t i d : Nat} (h : ∀ j, i ≤ j → j < i + d → tm j ≠ t) : sT tm f t (i + d) = sT tm f t i := by
  unfold sT
  rw [fb_sm_split, show fb_sm (fun k => if tm (i + k) = t then f (i + k) else 0) d = fb_sm (fun _ => 0) d from fb_sm_cong fun k hk => if_neg (h _ (by omega) (by omega)), fb_sm_const, Nat.mul_zero, Nat.add_zero]
theorem fT_cut {tm f : Nat → Nat} {t i : Nat} : ∀ {d}, (∀ j, i ≤ j → j < i + d → tm j ≠ t) → fT tm f t (i + d) = fT tm f t i := by
  intro d
  induction d with
  | zero => intro _; rfl
  | succ d ih =>
    intro h
    show (if tm (i + d) = t then _ else fT tm f t (i + d)) = _
    rw [if_neg (h _ (by omega) (by omega)), ih (fun j a b => h j a (by omega))]
theorem nT_none {tm : Nat → Nat} {t i : Nat} (h : ∀ j, j < i → tm j ≠ t) : nT tm t i = 0 := by
  have := nT_cut (tm := tm) (t := t) (i := 0) (d := i) (fun j _ b => h j (by omega))
  rw [Nat.zero_add] at this
  exact this
theorem sT_none {tm f : Nat → Nat} {t i : Nat} (h : ∀ j, j < i → tm j ≠ t) : sT tm f t i = 0 := by
  have := sT_cut (tm := tm) (f := f) (t := t) (i := 0) (d := i) (fun j _ b => h j (by omega))
  rw [Nat.zero_add] at this
  exact this
theorem fT_none {tm f : Nat → Nat} {t i : Nat} (h : ∀ j, j < i → tm j ≠ t) : fT tm f t i = 0 := by
  have := fT_cut (tm := tm) (f := f) (t := t) (i := 0) (d := i) (fun j _ b => h j (by omega))
  rw [Nat.zero_add] at this
  exact this
theorem nT_le (tm : Nat → Nat) (t i : Nat) : nT tm t i ≤ i := by
  have := fb_sm_bound (f := fun j => if tm j = t then 1 else 0) (c := 1) (n := i) (fun j _ => by
    show (if tm j = t then 1 else 0) ≤ 1
    split <;> omega)
  unfold nT
  omega
theorem sT_le {tm f : Nat → Nat} {t i : Nat} (h : ∀ j, j < i → f j ≤ 7992) : sT tm f t i ≤ i * 7992 := fb_sm_bound fun j hj => by
  show (if tm j = t then f j else 0) ≤ 7992
  split
  · exact h j hj
  · omega
theorem fT_le {tm f : Nat → Nat} {t : Nat} : ∀ {i}, (∀ j, j < i → f j ≤ 7992) → fT tm f t i ≤ 7993 := by
  intro i
  induction i with
  | zero => intro _; exact Nat.zero_le _
  | succ i ih =>
    intro h
    have a := ih (fun j hj => h j (by omega))
    have b := h i (by omega)
    show (if tm i = t then (if fT tm f t i = 0 then f i + 1 else min (fT tm f t i) (f i + 1)) else fT tm f t i) ≤ 7993
    split
    · split <;> omega
    · exact a
theorem fT_pos {tm f : Nat → Nat} {t : Nat} : ∀ {i}, (∃ j, j < i ∧ tm j = t) → 0 < fT tm f t i := by
  intro i
  induction i with
  | zero => rintro ⟨j, h, _⟩; omega
  | succ i ih =>
    rintro ⟨j, h1, h2⟩
    show 0 < (if tm i = t then (if fT tm f t i = 0 then f i + 1 else min (fT tm f t i) (f i + 1)) else fT tm f t i)
    by_cases q : tm i = t
    · rw [if_pos q]
      split <;> omega
    · rw [if_neg q]
      exact ih ⟨j, by have : j ≠ i := fun e => q (e ▸ h2); omega, h2⟩
def wLo (tm f : Nat → Nat) (R z T : Nat) : Nat := mf (fun t => tLo tm f R t z) T
def wUp (tm f : Nat → Nat) (z T : Nat) : Nat := fb_sm (fun t => fT tm f t z - 1) T
