/-! the tape is fed -/
def bv (x : Int32) (i : Nat) : Nat := ((x.toUInt32 >>> ((nI (24 - 8 * i)).toUInt32 &&& Int32.toUInt32 31)).toInt32).toBitVec.toNat % 2 ^ 8
theorem bv_x (x : Int32) (i : Nat) : (x.toUInt32 >>> ((nI (24 - 8 * i)).toUInt32 &&& Int32.toUInt32 31)).toInt32 &&& 255 = nI (bv x i) := pk_and _ 8 (by decide)
theorem bv_m (x : Int32) {i : Nat} (hi : i < 4) : (x >>> (nI (24 - 8 * i) &&& 31)) &&& 255 = nI (bv x i) := by
  rw [← bv_x]
  apply b_ext
  intro j hj
  rw [b_and, b_and, b_255, b_sshr _ (by omega) x hj, b_ushr _ (by omega) x]
  by_cases h : j < 8
  · rw [if_pos (by omega)]
  · rw [decide_eq_false h, Bool.and_false, Bool.and_false]
theorem bv_lt (x : Int32) (i : Nat) : bv x i < 256 := Nat.mod_lt _ (by decide)
def eb (x : Int32) (i : Nat) : Nat := if bv x i = 0 then 0 else 1
abbrev Tp : Type := Nat × (Nat → Nat)
def stp (b : Nat) (lt : Tp) : Tp := if b = 0 then lt else (lt.1 + 1, fun j => if j = lt.1 then b else lt.2 j)
def TS (lt : Tp) (pl sl p : Nat) (μ : Mem) : Prop := rI μ pl sl = nI lt.1 ∧ ∀ j, j < lt.1 → rI μ p j = nI (lt.2 j)
def TG (lt : Tp) : Prop := lt.1 ≤ 240 ∧ ∀ j, j < lt.1 → 1 ≤ lt.2 j ∧ lt.2 j ≤ 255
theorem stp_len (b : Nat) (lt : Tp) : (stp b lt).1 = lt.1 + if b = 0 then 0 else 1 := by
  unfold stp
  by_cases h : b = 0
  · rw [if_pos h, if_pos h]; rfl
  · rw [if_neg h, if_neg h]
theorem stp_TG {b : Nat} {lt : Tp} (h : TG lt) (hb : b < 256) (hl : (stp b lt).1 ≤ 240) : TG (stp b lt) := by
  refine ⟨hl, fun j hj => ?_⟩
  unfold stp at hj ⊢
  by_cases e : b = 0
  · rw [if_pos e] at hj ⊢; exact h.2 j hj
  · rw [if_neg e] at hj ⊢
    have hj : j < lt.1 + 1 := hj
    show 1 ≤ (if j = lt.1 then b else lt.2 j) ∧ (if j = lt.1 then b else lt.2 j) ≤ 255
    by_cases q : j = lt.1
    · rw [if_pos q]; omega
    · rw [if_neg q]; exact h.2 j (by omega)
theorem stp_TS {b : Nat} {lt : Tp} {pl sl p : Nat} {μ : Mem} (h : TS lt pl sl p μ) (hp : pl ≠ p) (hb : b ≠ 0) : TS (stp b lt) pl sl p (wI (wI μ p lt.1 (nI b)) pl sl (nI (lt.1 + 1))) := by
  unfold stp
  rw [if_neg hb]
  refine ⟨rI_wI_at, fun j hj => ?_⟩
  have hj : j < lt.1 + 1 := hj
  rw [rI_wI_ne (Ne.symm hp)]
  show _ = nI (if j = lt.1 then b else lt.2 j)
  by_cases q : j = lt.1
  · rw [q, rI_wI_at, if_pos rfl]
  · rw [rI_wI_off q, if_neg q]; exact h.2 j (by omega)
section F
variable {μ : Mem} {lt : Tp}
def fxQ (q j : Nat) : Prop := (q = 1 ∧ j = 1) ∨ q = 2
theorem app1 {x s : Int32} {i n : Nat} (hs : s = nI (24 - 8 * i)) (h : TS lt 1 1 2 μ) (hl : lt.1 + eb x i ≤ 240) : ∃ μ', L_X8_append_3 (n + 1) x s μ = L_X8_append_3 n x (s + (-8)) μ' ∧ Fr fxQ μ μ' ∧ TS (stp (bv x i) lt) 1 1 2 μ' := by
  have b := bv_lt x i
  unfold eb at hl
  rw [L_X8_append_3]
  unfold F_X8_append_49
  rw [if_neg (by rw [hs]; exact nI_pos (by omega))]
  have e := bv_x x i
  rw [← hs] at e
  rw [e, lb_e, lb_e]
  by_cases q : bv x i = 0
  · rw [if_pos (by rw [q]; rfl)]
    refine ⟨μ, rfl, Fr.rf, ?_⟩
    unfold stp
    rw [if_pos q]
    exact h
  · rw [if_neg q] at hl
    rw [if_neg (nI_ne0 (by omega) (by omega)), h.1, if_neg (l_nle (m := 240) (by omega) (by omega)), gq_in (by omega) (by omega), nx_nI (by omega), lb_e, rI_wI_ne (by omega), h.1, nI_1, lb_e, lb_e]
    exact ⟨_, rfl, (Fr.rf.wI (by unfold fxQ; omega)).wI (by unfold fxQ; omega), stp_TS h (by omega) q⟩
theorem appX {x : Int32} (h : TS lt 1 1 2 μ) (hl : lt.1 + (eb x 0 + eb x 1 + eb x 2 + eb x 3) ≤ 240) : ∃ μ', G_X8_append x μ = some ((), μ') ∧ Fr fxQ μ μ' ∧ TS (stp (bv x 3) (stp (bv x 2) (stp (bv x 1) (stp (bv x 0) lt)))) 1 1 2 μ' := by
  have l0 := stp_len (bv x 0) lt
  have l1 := stp_len (bv x 1) (stp (bv x 0) lt)
  have l2 := stp_len (bv x 2) (stp (bv x 1) (stp (bv x 0) lt))
  have f0 : eb x 0 = if bv x 0 = 0 then 0 else 1 := rfl
  have f1 : eb x 1 = if bv x 1 = 0 then 0 else 1 := rfl
  have f2 : eb x 2 = if bv x 2 = 0 then 0 else 1 := rfl
  rw [← f0] at l0
  rw [← f1] at l1
  rw [← f2] at l2
  obtain ⟨μ1, e1, g1, t1⟩ := app1 (x := x) (s := 24) (i := 0) (n := 99999) rfl h (by omega)
  obtain ⟨μ2, e2, g2, t2⟩ := app1 (x := x) (s := 24 + (-8)) (i := 1) (n := 99998) (by decide) t1 (by omega)
  obtain ⟨μ3, e3, g3, t3⟩ := app1 (x := x) (s := 24 + (-8) + (-8)) (i := 2) (n := 99997) (by decide) t2 (by omega)
  obtain ⟨μ4, e4, g4, t4⟩ := app1 (x := x) (s := 24 + (-8) + (-8) + (-8)) (i := 3) (n := 99996) (by decide) t3 (by omega)
  refine ⟨μ4, ?_, ((g1.tr g2).tr g3).tr g4, t4⟩
  unfold G_X8_append
  rw [e1, e2, e3, e4, L_X8_append_3, if_pos (by decide)]
theorem cnt1 {x s : Int32} {i n d : Nat} (hi : i < 4) (hs : s = nI (24 - 8 * i)) : L_X8_bytesIn_4 (n + 1) x (nI d) s μ = L_X8_bytesIn_4 n x (nI (d + eb x i)) (s + 8) μ := by
  have b := bv_lt x i
  have e := bv_x x i
  rw [← hs] at e
  rw [L_X8_bytesIn_4]
  unfold F_X8_bytesIn_23 eb
  rw [if_neg (by rw [hs]; exact l_nle (m := 32) (by omega) (by omega)), e, lb_e, lb_e, lb_e, nI_1]
  by_cases q : bv x i = 0
  · rw [if_pos (by rw [q]; rfl), if_pos q, Nat.add_zero]
  · rw [if_neg (nI_ne0 (by omega) (by omega)), if_neg q]
theorem cntX {x : Int32} : G_X8_bytesIn x μ = some (nI (eb x 0 + eb x 1 + eb x 2 + eb x 3), μ) := by
  unfold G_X8_bytesIn
  have c1 := cnt1 (μ := μ) (x := x) (s := 0) (i := 3) (n := 99999) (d := 0) (by omega) (by decide)
  have c2 := cnt1 (μ := μ) (x := x) (s := 0 + 8) (i := 2) (n := 99998) (d := 0 + eb x 3) (by omega) (by decide)
  have c3 := cnt1 (μ := μ) (x := x) (s := 0 + 8 + 8) (i := 1) (n := 99997) (d := 0 + eb x 3 + eb x 2) (by omega) (by decide)
  have c4 := cnt1 (μ := μ) (x := x) (s := 0 + 8 + 8 + 8) (i := 0) (n := 99996) (d := 0 + eb x 3 + eb x 2 + eb x 1) (by omega) (by decide)
  have c0 : L_X8_bytesIn_4 100000 x 0 0 μ = L_X8_bytesIn_4 (99999 + 1) x (nI 0) 0 μ := rfl
  rw [c0, c1, c2, c3, c4, L_X8_bytesIn_4, if_pos (by decide)]
  congr 3
  omega
def wdB (a b c d e : Int32) (k : Nat) : Int32 := if k < 4 then a else if k < 8 then b else if k < 12 then c else if k < 16 then d else e
def bs (a b c d e : Int32) (k : Nat) : Nat := bv (wdB a b c d e k) (k % 4)
def rn (f : Nat → Nat) (lt : Tp) : Nat → Tp
  | 0 => lt
  | k + 1 => stp (f k) (rn f lt k)
theorem rn_len (f : Nat → Nat) (lt : Tp) : ∀ k, (rn f lt k).1 = lt.1 + fb_sm (fun k => if f k = 0 then 0 else 1) k := by
  intro k
  induction k with
  | zero => rfl
  | succ k ih =>
    show (stp (f k) (rn f lt k)).1 = lt.1 + (fb_sm (fun k => if f k = 0 then 0 else 1) k + if f k = 0 then 0 else 1)
    rw [stp_len, ih, Nat.add_assoc]
theorem rn_TG (f : Nat → Nat) {lt : Tp} (h : TG lt) (hf : ∀ k, f k < 256) : ∀ k, (rn f lt k).1 ≤ 240 → TG (rn f lt k) := by
  intro k
  induction k with
  | zero => intro _; exact h
  | succ k ih =>
    intro hl
    have e : (rn f lt (k + 1)).1 = (rn f lt k).1 + if f k = 0 then 0 else 1 := stp_len _ _
    exact stp_TG (ih (by omega)) (hf k) hl
theorem byteOf_ok {a b c d e : Int32} {k : Nat} (hk : k < 20) : G_X11_byteOf a b c d e (nI k) μ = some (nI (bs a b c d e k), μ) := by
  have ev : ∀ x : Int32, F_X11_byteOf_45 (nI k) x μ = some (nI (bv x (k % 4)), μ) := fun x => by
    unfold F_X11_byteOf_45
    rw [show (4 : Int32) = nI 4 from rfl, pk_rem (by omega) (by omega) (by omega), show (8 : Int32) = nI 8 from rfl, pk_mul, show (24 : Int32) = nI 24 from rfl, pk_sub (by omega), bv_m x (by omega)]
  unfold G_X11_byteOf bs wdB
  rw [ev, ev, ev, ev, ev]
  by_cases h1 : k < 4
  · rw [if_neg (l_nle (m := 4) h1 (by omega)), if_pos h1]
  · rw [if_pos (l_le (m := 4) (by omega) (by omega)), if_neg h1]
    by_cases h2 : k < 8
    · rw [if_neg (l_nle (m := 8) h2 (by omega)), if_pos h2]
    · rw [if_pos (l_le (m := 8) (by omega) (by omega)), if_neg h2]
      by_cases h3 : k < 12
      · rw [if_neg (l_nle (m := 12) h3 (by omega)), if_pos h3]
      · rw [if_pos (l_le (m := 12) (by omega) (by omega)), if_neg h3]
        by_cases h4 : k < 16
        · rw [if_neg (l_nle (m := 16) h4 (by omega)), if_pos h4]
        · rw [if_pos (l_le (m := 16) (by omega) (by omega)), if_neg h4]
def fmQ (q j : Nat) : Prop := (q = 107 ∧ j = 2) ∨ q = 108
theorem feedM2 {a b c d e : Int32} (h : TS lt 107 2 108 μ) (hl : (rn (bs a b c d e) lt 20).1 ≤ 240) : ∃ μ', L_X11_feed_62 100000 a b c d e 0 μ = some (nI (rn (bs a b c d e) lt 20).1, μ') ∧ Fr fmQ μ μ' ∧ TS (rn (bs a b c d e) lt 20) 107 2 108 μ' := by
  have mono : ∀ k, k ≤ 20 → (rn (bs a b c d e) lt k).1 ≤ (rn (bs a b c d e) lt 20).1 := fun k hk => by
    rw [rn_len, rn_len]
    have := fb_sm_mono (fun k => if bs a b c d e k = 0 then 0 else 1) k (20 - k)
    rw [show k + (20 - k) = 20 by omega] at this
    omega
  refine loop_inv (fun n i (s : Mem) => L_X11_feed_62 n a b c d e i s) 20 (fun k s => Fr fmQ μ s ∧ TS (rn (bs a b c d e) lt k) 107 2 108 s) (P := fun o => ∃ μ', o = some (nI (rn (bs a b c d e) lt 20).1, μ') ∧ Fr fmQ μ μ' ∧ TS (rn (bs a b c d e) lt 20) 107 2 108 μ') ?_ ?_ 100000 0 μ (by omega) (by omega) ⟨Fr.rf, h⟩
  · rintro n k s hk ⟨f, t⟩
    have e1 : (rn (bs a b c d e) lt (k + 1)).1 = (rn (bs a b c d e) lt k).1 + if bs a b c d e k = 0 then 0 else 1 := stp_len _ _
    have m1 := mono (k + 1) (by omega)
    have bl : bs a b c d e k < 256 := bv_lt _ _
    show ∃ s', _ ∧ L_X11_feed_62 (n + 1) a b c d e (nI k) s = _
    rw [L_X11_feed_62, if_neg (l_nle hk (by omega)), bd_eq (byteOf_ok hk)]
    unfold F_X11_feed_109
    by_cases q : bs a b c d e k = 0
    · rw [if_pos (by rw [q]; rfl), lb_e, nI_1]
      refine ⟨s, ⟨f, ?_⟩, rfl⟩
      show TS (stp (bs a b c d e k) (rn (bs a b c d e) lt k)) 107 2 108 s
      unfold stp
      rw [if_pos q]
      exact t
    · rw [if_neg q] at e1
      rw [if_neg (nI_ne0 (by omega) (by omega)), t.1, gq_in (by omega) (by omega), nx_nI (by omega), lb_e, rI_wI_ne (by omega), t.1, nI_1, lb_e, lb_e, nI_1]
      exact ⟨_, ⟨(f.wI (by unfold fmQ; omega)).wI (by unfold fmQ; omega), stp_TS t (by omega) q⟩, rfl⟩
  · rintro n s ⟨f, t⟩
    refine ⟨s, ?_, f, t⟩
    show L_X11_feed_62 (n + 1) a b c d e (nI 20) s = _
    rw [L_X11_feed_62, if_pos (by decide), t.1]
theorem feedM1 {a b c d e : Int32} {l : Nat} (h : rI μ 107 2 = nI l) (hl : l ≤ 240) : G_X11_feed a b c d e μ = if l + fb_sm (fun k => if bs a b c d e k = 0 then 0 else 1) 20 ≤ 240 then L_X11_feed_62 100000 a b c d e 0 μ else some (-1, μ) := by
  unfold G_X11_feed
  have sb : ∀ k, fb_sm (fun k => if bs a b c d e k = 0 then 0 else 1) k ≤ k := fun k => by
    have := fb_sm_bound (f := fun k => if bs a b c d e k = 0 then 0 else 1) (c := 1) (n := k) (fun j _ => by
      show (if bs a b c d e j = 0 then 0 else 1) ≤ 1
      split <;> omega)
    omega
  have key := loop_up (fun n i (s : Int32) => L_X11_feed_6 n a b c d e s i μ) 20 (fun k => nI (fb_sm (fun k => if bs a b c d e k = 0 then 0 else 1) k)) (res := if l + fb_sm (fun k => if bs a b c d e k = 0 then 0 else 1) 20 ≤ 240 then L_X11_feed_62 100000 a b c d e 0 μ else some (-1, μ)) (fun n k hk => by
    show L_X11_feed_6 (n + 1) a b c d e _ _ μ = _
    have bl : bs a b c d e k < 256 := bv_lt _ _
    rw [L_X11_feed_6, if_neg (l_nle hk (by omega)), bd_eq (byteOf_ok hk)]
    unfold F_X11_feed_35
    rw [lb_e, lb_e, lb_e, lb_e, nI_1, fb_sm_succ]
    by_cases q : bs a b c d e k = 0
    · rw [if_pos (by rw [q]; rfl), if_pos q, i0, nI_add]
    · rw [if_neg (nI_ne0 (by omega) (by omega)), if_neg q, nI_1]) (fun n => by
    show L_X11_feed_6 (n + 1) a b c d e _ _ μ = _
    have := sb 20
    rw [L_X11_feed_6, if_pos (by decide), h, nI_add]
    by_cases q : l + fb_sm (fun k => if bs a b c d e k = 0 then 0 else 1) 20 ≤ 240
    · rw [if_pos q, if_pos (r_le (m := 240) q (by omega))]
    · rw [if_neg q, if_neg (r_nle (m := 240) (by omega) (by omega))])
  exact key 100000 0 (by omega) (by omega)
theorem a_feed {c : Nat} (h : RR c μ) (x1 x2 x3 x4 x5 : Int32) : Ans c (G_X10_feed x1 x2 x3 x4 x5 μ) (G_X11_feed x1 x2 x3 x4 x5) := by
  have h0 := h
  obtain ⟨⟨l, hl, t1, t2, t3⟩, -⟩ := h0
  have tv : ∀ k, k < l → rI μ 2 k = nI (nx (rI μ 2 k)) ∧ 1 ≤ nx (rI μ 2 k) ∧ nx (rI μ 2 k) ≤ 255 := fun k hk => by
    obtain ⟨-, x, a, b, e⟩ := t3 k hk
    rw [e, nx_nI (by omega)]
    exact ⟨rfl, a, b⟩
  have hX : TS (l, fun k => nx (rI μ 2 k)) 1 1 2 μ := ⟨t1, fun j hj => (tv j hj).1⟩
  have hM : TS (l, fun k => nx (rI μ 2 k)) 107 2 108 μ := ⟨t2, fun j hj => (t3 j hj).1.symm.trans (tv j hj).1⟩
  have hG : TG (l, fun k => nx (rI μ 2 k)) := ⟨hl, fun j hj => (tv j hj).2⟩
  generalize (l, fun k => nx (rI μ 2 k)) = lt at hX hM hG
  have hs : fb_sm (fun k => if bs x1 x2 x3 x4 x5 k = 0 then 0 else 1) 20 = (eb x1 0 + eb x1 1 + eb x1 2 + eb x1 3) + (eb x2 0 + eb x2 1 + eb x2 2 + eb x2 3) + (eb x3 0 + eb x3 1 + eb x3 2 + eb x3 3) + (eb x4 0 + eb x4 1 + eb x4 2 + eb x4 3) + (eb x5 0 + eb x5 1 + eb x5 2 + eb x5 3) := by
    show 0 + eb x1 0 + eb x1 1 + eb x1 2 + eb x1 3 + eb x2 0 + eb x2 1 + eb x2 2 + eb x2 3 + eb x3 0 + eb x3 1 + eb x3 2 + eb x3 3 + eb x4 0 + eb x4 1 + eb x4 2 + eb x4 3 + eb x5 0 + eb x5 1 + eb x5 2 + eb x5 3 = _
    omega
  have e1 : ∀ (x : Int32) i, eb x i ≤ 1 := fun x i => by unfold eb; split <;> omega
  have ln := rn_len (bs x1 x2 x3 x4 x5) lt 20
  have b10 := e1 x1 0; have b11 := e1 x1 1; have b12 := e1 x1 2; have b13 := e1 x1 3
  have b20 := e1 x2 0; have b21 := e1 x2 1; have b22 := e1 x2 2; have b23 := e1 x2 3
  have b30 := e1 x3 0; have b31 := e1 x3 1; have b32 := e1 x3 2; have b33 := e1 x3 3
  have b40 := e1 x4 0; have b41 := e1 x4 1; have b42 := e1 x4 2; have b43 := e1 x4 3
  have b50 := e1 x5 0; have b51 := e1 x5 1; have b52 := e1 x5 2; have b53 := e1 x5 3
  have l240 := hG.1
  by_cases q : lt.1 + fb_sm (fun k => if bs x1 x2 x3 x4 x5 k = 0 then 0 else 1) 20 ≤ 240
  · have r5 : rn (bs x1 x2 x3 x4 x5) lt 20 = stp (bv x5 3) (stp (bv x5 2) (stp (bv x5 1) (stp (bv x5 0) (rn (bs x1 x2 x3 x4 x5) lt 16)))) := rfl
    have r4 : rn (bs x1 x2 x3 x4 x5) lt 16 = stp (bv x4 3) (stp (bv x4 2) (stp (bv x4 1) (stp (bv x4 0) (rn (bs x1 x2 x3 x4 x5) lt 12)))) := rfl
    have r3 : rn (bs x1 x2 x3 x4 x5) lt 12 = stp (bv x3 3) (stp (bv x3 2) (stp (bv x3 1) (stp (bv x3 0) (rn (bs x1 x2 x3 x4 x5) lt 8)))) := rfl
    have r2 : rn (bs x1 x2 x3 x4 x5) lt 8 = stp (bv x2 3) (stp (bv x2 2) (stp (bv x2 1) (stp (bv x2 0) (rn (bs x1 x2 x3 x4 x5) lt 4)))) := rfl
    have r1 : rn (bs x1 x2 x3 x4 x5) lt 4 = stp (bv x1 3) (stp (bv x1 2) (stp (bv x1 1) (stp (bv x1 0) lt))) := rfl
    have n4 : (rn (bs x1 x2 x3 x4 x5) lt 4).1 = lt.1 + (0 + eb x1 0 + eb x1 1 + eb x1 2 + eb x1 3) := rn_len _ lt 4
    have n8 : (rn (bs x1 x2 x3 x4 x5) lt 8).1 = lt.1 + (0 + eb x1 0 + eb x1 1 + eb x1 2 + eb x1 3 + eb x2 0 + eb x2 1 + eb x2 2 + eb x2 3) := rn_len _ lt 8
    have n12 : (rn (bs x1 x2 x3 x4 x5) lt 12).1 = lt.1 + (0 + eb x1 0 + eb x1 1 + eb x1 2 + eb x1 3 + eb x2 0 + eb x2 1 + eb x2 2 + eb x2 3 + eb x3 0 + eb x3 1 + eb x3 2 + eb x3 3) := rn_len _ lt 12
    have n16 : (rn (bs x1 x2 x3 x4 x5) lt 16).1 = lt.1 + (0 + eb x1 0 + eb x1 1 + eb x1 2 + eb x1 3 + eb x2 0 + eb x2 1 + eb x2 2 + eb x2 3 + eb x3 0 + eb x3 1 + eb x3 2 + eb x3 3 + eb x4 0 + eb x4 1 + eb x4 2 + eb x4 3) := rn_len _ lt 16
    obtain ⟨μ1, a1, g1, s1⟩ := appX (x := x1) hX (by omega)
    rw [← r1] at s1
    obtain ⟨μ2, a2, g2, s2⟩ := appX (x := x2) s1 (by omega)
    rw [← r2] at s2
    obtain ⟨μ3, a3, g3, s3⟩ := appX (x := x3) s2 (by omega)
    rw [← r3] at s3
    obtain ⟨μ4, a4, g4, s4⟩ := appX (x := x4) s3 (by omega)
    rw [← r4] at s4
    obtain ⟨μ5, a5, g5, s5⟩ := appX (x := x5) s4 (by omega)
    rw [← r5] at s5
    have gg : Fr fxQ μ μ5 := (((g1.tr g2).tr g3).tr g4).tr g5
    have hM5 : TS lt 107 2 108 μ5 := ⟨(gg.i (by unfold fxQ; omega)).trans hM.1, fun j hj => (gg.i (by unfold fxQ; omega)).trans (hM.2 j hj)⟩
    obtain ⟨μ6, a6, g6, s6⟩ := feedM2 (a := x1) (b := x2) (c := x3) (d := x4) (e := x5) hM5 (by omega)
    have G20 := rn_TG (bs x1 x2 x3 x4 x5) hG (fun k => bv_lt _ _) 20 (by omega)
    have ff : Fr (fun q j => (q = 1 ∧ j = 1) ∨ q = 2 ∨ (q = 107 ∧ j = 2) ∨ q = 108 ∨ SCR q j) μ μ6 := (gg.mono (fun q j z => by unfold fxQ at z; omega)).tr (g6.mono (fun q j z => by unfold fmQ at z; omega))
    refine ⟨nI (rn (bs x1 x2 x3 x4 x5) lt 20).1, μ5, μ6, ?_, ?_, (h.tape ff ⟨(rn (bs x1 x2 x3 x4 x5) lt 20).1, G20.1, (g6.i (by unfold fmQ; omega)).trans s5.1, s6.1, fun k hk => ?_⟩).up (by omega)⟩
    · unfold G_X10_feed
      rw [bd_eq cntX, bd_eq cntX, bd_eq cntX, bd_eq cntX, bd_eq cntX, nI_add, nI_add, nI_add, nI_add, lb_e, hX.1, nI_add, ← hs, if_pos (r_le (m := 240) q (by omega)), bd_eq a1, bd_eq a2, bd_eq a3, bd_eq a4, bd_eq a5, s5.1]
    · rw [feedM1 hM5.1 l240, if_pos q, a6]
    · have y1 : rI μ6 2 k = nI ((rn (bs x1 x2 x3 x4 x5) lt 20).2 k) := (g6.i (by unfold fmQ; omega)).trans (s5.2 k hk)
      have y2 := G20.2 k hk
      exact ⟨y1.trans (s6.2 k hk).symm, _, y2.1, y2.2, y1⟩
  · refine Ans.p (r := -1) h ?_ ?_
    · unfold G_X10_feed
      rw [bd_eq cntX, bd_eq cntX, bd_eq cntX, bd_eq cntX, bd_eq cntX, nI_add, nI_add, nI_add, nI_add, lb_e, hX.1, nI_add, ← hs, if_neg (r_nle (m := 240) (by omega) (by omega))]
    · rw [feedM1 hM.1 l240, if_neg q]
end F
