/-! looks: what is taken and given back; joins -/
section L
variable {μ : Mem}
def LKx (n : Nat) (ts : Nat → Nat) (μ : Mem) : Prop := rI μ 0 12 = nI n ∧ ∀ i, i < n → rI μ 98 i = nI (ts i)
def LKm (n : Nat) (ts : Nat → Nat) (μ : Mem) : Prop := rI μ 107 26 = nI n ∧ ∀ i, i < n → rI μ 122 i = nI (ts i)
def lxQ (q j : Nat) : Prop := (q = 0 ∧ j = 12) ∨ q = 98 ∨ (q = 64 ∧ j = 4)
def lxR (q j : Nat) : Prop := (q = 0 ∧ j = 12) ∨ q = 98
def lmR (q j : Nat) : Prop := (q = 107 ∧ (j = 26 ∨ j = 27 ∨ j = 28)) ∨ q = 122
def lmQ (q j : Nat) : Prop := (q = 107 ∧ (j = 26 ∨ j = 27 ∨ j = 28)) ∨ q = 122 ∨ (q = 117 ∧ j = 4)
theorem beginX (ts : Nat → Nat) : ∃ μ', G_X10_beginLook μ = some ((), μ') ∧ Fr lxR μ μ' ∧ LKx 0 ts μ' := ⟨wI μ 0 12 0, rfl, Fr.rf.wI (by unfold lxR; omega), rI_wI_at, fun i h => absurd h (by omega)⟩
theorem takeX {n : Nat} {ts : Nat → Nat} (h : LKx n ts μ) (hn : n < 3) : ∃ μ', G_X10_take (nI (ts n)) μ = some ((), μ') ∧ Fr lxR μ μ' ∧ LKx (n + 1) ts μ' := by
  refine ⟨wI (wI μ 98 n (nI (ts n))) 0 12 (nI (n + 1)), ?_, (Fr.rf.wI (by unfold lxR; omega)).wI (by unfold lxR; omega), rI_wI_at, fun i hi => ?_⟩
  · unfold G_X10_take
    rw [h.1, if_neg (l_nle hn (by omega)), gq_in (by omega) (by omega), nx_nI (by omega), lb_e, rI_wI_ne (by omega), h.1, nI_1, lb_e]
  · rw [rI_wI_ne (by omega)]
    by_cases e : i = n
    · rw [e, rI_wI_at]
    · rw [rI_wI_off e]; exact h.2 i (by omega)
theorem endX {n : Nat} {ts : Nat → Nat} (h : LKx n ts μ) (hn : n ≤ 3) (l : Int64) : ∃ μ', G_X10_endLook l μ = some (l, μ') ∧ Fr lxQ μ μ' ∧ rI μ' 0 12 = nI (2 * n) ∧ (∀ i, i < n → rI μ' 98 i = nI (ts i)) ∧ (∀ i, i < n → rI μ' 98 (n + i) = nI (10 + ts (n - 1 - i))) ∧ rI μ' 64 4 = if l = -1 then rI μ 64 4 + 1 else rI μ 64 4 := by
  unfold G_X10_endLook
  rw [h.1, i3, imin_nI (by omega) (by omega), Nat.min_eq_left hn, lb_e]
  refine loop_inv (fun k i (s : Mem) => L_X10_endLook_12 k l (nI n) i s) n (fun i s => Fr (fun q _ => q = 98) μ s ∧ (∀ i, i < n → rI s 98 i = nI (ts i)) ∧ ∀ i', i' < i → rI s 98 (n + i') = nI (10 + ts (n - 1 - i'))) (P := fun o => ∃ μ', o = some (l, μ') ∧ Fr lxQ μ μ' ∧ rI μ' 0 12 = nI (2 * n) ∧ (∀ i, i < n → rI μ' 98 i = nI (ts i)) ∧ (∀ i, i < n → rI μ' 98 (n + i) = nI (10 + ts (n - 1 - i))) ∧ rI μ' 64 4 = if l = -1 then rI μ 64 4 + 1 else rI μ 64 4) ?_ ?_ 100000 0 μ (by omega) (by omega) ⟨Fr.rf, h.2, fun i' h => absurd h (by omega)⟩
  · rintro k i s hi ⟨f, a, b⟩
    refine ⟨wI s 98 (n + i) (nI (10 + ts (n - 1 - i))), ⟨Fr.wI (S := fun q _ => q = 98) f rfl, fun j hj => (rI_wI_off (by omega)).trans (a j hj), fun j hj => ?_⟩, ?_⟩
    · by_cases e : j = i
      · rw [e, rI_wI_at]
      · rw [rI_wI_off (by omega)]; exact b j (by omega)
    · show L_X10_endLook_12 (k + 1) l (nI n) (nI i) s = _
      rw [L_X10_endLook_12, if_neg (nI_ge hi (by omega)), nI_sub1 (by omega), pk_sub (by omega), gq_in (by omega) (by omega), nI_add, gq_in (by omega) (by omega), nx_nI (by omega), nx_nI (by omega), a (n - 1 - i) (by omega), show (10 : Int32) = nI 10 from rfl, nI_add, lb_e, lb_e, nI_1]
  · rintro k s ⟨f, a, b⟩
    have f1 : Fr lxQ μ (wI s 0 12 (nI (2 * n))) := (f.mono (fun q j z => by unfold lxQ; omega)).wI (by unfold lxQ; omega)
    have e : L_X10_endLook_12 (k + 1) l (nI n) (nI n) s = if l = -1 then some (l, wI (wI s 0 12 (nI (2 * n))) 64 4 (rI (wI s 0 12 (nI (2 * n))) 64 4 + 1)) else some (l, wI s 0 12 (nI (2 * n))) := by
      rw [L_X10_endLook_12, if_pos (nI_le (Nat.le_refl _) (by omega)), i2, pk_mul, lb_e, lb_e]
      by_cases q : l = -1
      · rw [if_pos ((cmp_eq _ _).mpr q), if_pos q]
      · rw [if_neg (fun z => q ((cmp_eq _ _).mp z)), if_neg q]
    show ∃ μ', L_X10_endLook_12 (k + 1) l (nI n) (nI n) s = _ ∧ _
    rw [e]
    have e4 : rI (wI s 0 12 (nI (2 * n))) 64 4 = rI μ 64 4 := (rI_wI_ne (by omega)).trans (f.i (by omega))
    by_cases q : l = -1
    · rw [if_pos q, if_pos q]
      refine ⟨_, rfl, f1.wI (by unfold lxQ; omega), by rw [rI_wI_ne (by omega), rI_wI_at], fun i hi => by rw [rI_wI_ne (by omega), rI_wI_ne (by omega)]; exact a i hi, fun i hi => by rw [rI_wI_ne (by omega), rI_wI_ne (by omega)]; exact b i hi, by rw [rI_wI_at, e4]⟩
    · rw [if_neg q, if_neg q]
      exact ⟨_, rfl, f1, rI_wI_at, fun i hi => by rw [rI_wI_ne (by omega)]; exact a i hi, fun i hi => by rw [rI_wI_ne (by omega)]; exact b i hi, e4⟩
theorem beginM (ts : Nat → Nat) {u : Nat} (h : rI μ 116 1071 = nI u) : ∃ μ', G_X11_begin μ = some ((), μ') ∧ Fr lmR μ μ' ∧ LKm 0 ts μ' ∧ rI μ' 107 27 = nI u ∧ rI μ' 107 28 = 0 := by
  refine ⟨wI (wI (wI μ 107 26 0) 107 27 (nI u)) 107 28 0, ?_, ((Fr.rf.wI (by unfold lmR; omega)).wI (by unfold lmR; omega)).wI (by unfold lmR; omega), ⟨by rw [rI_wI_off (by omega), rI_wI_off (by omega), rI_wI_at]; rfl, fun i h => absurd h (by omega)⟩, by rw [rI_wI_off (by omega), rI_wI_at], rI_wI_at⟩
  unfold G_X11_begin
  rw [lb_e, rI_wI_ne (by omega), h, lb_e, lb_e]
theorem takeM {n : Nat} {ts : Nat → Nat} {x : Int32} (h : LKm n ts μ) (hn : n < 6) (hx : x = nI (ts n)) : ∃ μ', G_X11_take x μ = some ((), μ') ∧ Fr (fun q j => (q = 107 ∧ j = 26) ∨ q = 122) μ μ' ∧ LKm (n + 1) ts μ' := by
  refine ⟨wI (wI μ 122 n (nI (ts n))) 107 26 (nI (n + 1)), ?_, (Fr.rf.wI (Or.inr rfl)).wI (Or.inl ⟨rfl, rfl⟩), rI_wI_at, fun i hi => ?_⟩
  · unfold G_X11_take
    rw [h.1, hx, gq_in (by omega) (by omega), nx_nI (by omega), lb_e, rI_wI_ne (by omega), h.1, nI_1, lb_e]
  · rw [rI_wI_ne (by omega)]
    by_cases e : i = n
    · rw [e, rI_wI_at]
    · rw [rI_wI_off e]; exact h.2 i (by omega)
theorem finM {n st : Nat} {ts : Nat → Nat} (h : LKm n ts μ) (hn : n ≤ 3) (hn1 : 1 ≤ n) (hst : st < 2) (h28 : rI μ 107 28 = nI st) (l : Int64) : ∃ μ', G_X11_finish l μ = some (if st = 0 then l else -1, μ') ∧ Fr lmQ μ μ' ∧ rI μ' 107 26 = nI (2 * n) ∧ (∀ i, i < n → rI μ' 122 i = nI (ts i)) ∧ (∀ i, i < n → rI μ' 122 (n + i) = nI (10 + ts (n - 1 - i))) ∧ rI μ' 117 4 = if st = 0 then rI μ 117 4 else rI μ 117 4 + 1 := by
  unfold G_X11_finish
  obtain ⟨k, rfl⟩ : ∃ k, n = k + 1 := ⟨n - 1, by omega⟩
  rw [h.1, lb_e, nI_sub1 (by omega), lb_e, show k + 1 - 1 = k by omega, ← pk_m1]
  refine loop_dn (fun f i (s : Mem) => L_X11_finish_10 f l i s) (fun u s => u ≤ k + 1 ∧ Fr (fun q j => (q = 107 ∧ j = 26) ∨ q = 122) μ s ∧ LKm (k + 1 + (k + 1 - u)) (fun i => if i < k + 1 then ts i else 10 + ts (k + 1 - 1 - (i - (k + 1)))) s) (P := fun o => ∃ μ', o = some (if st = 0 then l else -1, μ') ∧ Fr lmQ μ μ' ∧ rI μ' 107 26 = nI (2 * (k + 1)) ∧ (∀ i, i < k + 1 → rI μ' 122 i = nI (ts i)) ∧ (∀ i, i < k + 1 → rI μ' 122 (k + 1 + i) = nI (10 + ts (k + 1 - 1 - i))) ∧ rI μ' 117 4 = if st = 0 then rI μ 117 4 else rI μ 117 4 + 1) ?_ ?_ (k + 1) 100000 μ (by omega) ⟨Nat.le_refl _, Fr.rf, by rw [show k + 1 + (k + 1 - (k + 1)) = k + 1 by omega]; exact ⟨h.1, fun i hi => by dsimp only; rw [if_pos hi]; exact h.2 i hi⟩⟩
  · rintro f u s ⟨hu, fr, lk⟩
    have e0 : rI s 122 u = nI (ts u) := by
      have := lk.2 u (by omega)
      dsimp only at this
      rw [if_pos (by omega)] at this
      exact this
    obtain ⟨s', e1, f1, l1⟩ := takeM (x := nI (10 + ts u)) lk (by omega) (by
      show _ = nI (if k + 1 + (k + 1 - (u + 1)) < k + 1 then _ else _)
      rw [if_neg (by omega), show k + 1 - 1 - (k + 1 + (k + 1 - (u + 1)) - (k + 1)) = u by omega])
    refine ⟨s', ⟨by omega, fr.tr f1, by rw [show k + 1 + (k + 1 - u) = k + 1 + (k + 1 - (u + 1)) + 1 by omega]; exact l1⟩, ?_⟩
    show L_X11_finish_10 (f + 1) l (nI u) s = _
    rw [L_X11_finish_10, if_neg (nI_pos (by omega)), gq_in (by omega) (by omega), nx_nI (by omega), e0, show (10 : Int32) = nI 10 from rfl, nI_add, bd_eq e1, lb_e]
  · rintro f s ⟨hu, fr, lk⟩
    have c1 : rI s 107 26 = nI (2 * (k + 1)) := lk.1.trans (by congr 1; omega)
    have c2 : ∀ i, i < k + 1 → rI s 122 i = nI (ts i) := fun i hi => by
      have := lk.2 i (by omega)
      dsimp only at this
      rw [if_pos hi] at this
      exact this
    have c3 : ∀ i, i < k + 1 → rI s 122 (k + 1 + i) = nI (10 + ts (k + 1 - 1 - i)) := fun i hi => by
      have := lk.2 (k + 1 + i) (by omega)
      dsimp only at this
      rw [if_neg (by omega), show k + 1 + i - (k + 1) = i by omega] at this
      exact this
    have y28 : rI s 107 28 = nI st := (fr.i (by omega)).trans h28
    have y4 : rI s 117 4 = rI μ 117 4 := fr.i (by omega)
    have fr' : Fr lmQ μ s := fr.mono (fun q j z => by unfold lmQ; omega)
    show ∃ μ', L_X11_finish_10 (f + 1) l (-1) s = _ ∧ _
    unfold L_X11_finish_10 F_X11_finish_52
    rw [if_pos (by decide), y28, lb_e]
    by_cases q : st = 0
    · rw [if_pos (show nI st = 0 by rw [q]; rfl), if_pos (show nI st = 0 by rw [q]; rfl), if_pos q, if_pos q]
      exact ⟨s, rfl, fr', c1, c2, c3, y4⟩
    · rw [if_neg (nI_ne0 (by omega) (by omega)), rI_wI_ne (by omega), y28, if_neg (nI_ne0 (by omega) (by omega)), if_neg q, if_neg q]
      exact ⟨_, rfl, fr'.wI (by unfold lmQ; omega), (rI_wI_ne (by omega)).trans c1, fun i hi => (rI_wI_ne (by omega)).trans (c2 i hi), fun i hi => (rI_wI_ne (by omega)).trans (c3 i hi), by rw [rI_wI_at, y4]⟩
theorem over_ok {s : Nat} (h : rI μ 107 27 = nI s) (hs : s < 2000) : ∃ μ', G_X11_isOver μ = some (if s = 0 then 1 else 0, μ') ∧ Fr (fun q j => q = 107 ∧ (j = 27 ∨ j = 28)) μ μ' ∧ rI μ' 107 28 = (if s = 0 then 1 else 0) ∧ (0 < s → rI μ' 107 27 = nI (s - 1)) := by
  unfold G_X11_isOver F_X11_isOver_13
  rw [h]
  by_cases q : s = 0
  · rw [if_pos (by rw [q]; rfl), if_pos q, show bB 1 = true from rfl, gq_t, lb_e, lb_e, rI_wI_off (by omega), rI_wI_at, show bB 1 = true from rfl, gq_t]
    exact ⟨_, rfl, (Fr.rf.wI (by omega)).wI (by omega), by rw [rI_wI_off (by omega), rI_wI_at], fun z => absurd z (by omega)⟩
  · rw [if_neg (nI_ne0 (by omega) (by omega)), if_neg q, show bB 0 = true from rfl, gq_t, lb_e, lb_e]
    simp (disch := omega) only [rI_wI_at, rI_wI_off, h]
    rw [nI_sub1 (by omega), show bB 0 = true from rfl, gq_t]
    exact ⟨_, rfl, (Fr.rf.wI (by omega)).wI (by omega), by rw [rI_wI_off (by omega), rI_wI_at], fun _ => rI_wI_at⟩
end L
section J
variable {c0 : Nat} {μ : Mem} {T : Nat} {V : Nat → Nat} {B D m : Nat} {S : Nat → St}
def lkD (n : Nat) (ts : Nat → Nat) (b : Prop) [Decidable b] (pl sl p q : Nat) (μ μ' : Mem) : Prop := rI μ' pl sl = nI (2 * n) ∧ (∀ i, i < n → rI μ' p i = nI (ts i)) ∧ (∀ i, i < n → rI μ' p (n + i) = nI (10 + ts (n - 1 - i))) ∧ rI μ' q 4 = if b then rI μ q 4 + 1 else rI μ q 4
theorem look_x {n : Nat} {ts : Nat → Nat} {μc : Mem} (fx : Fr lxR μ μc) (lc : LKx n ts μc) (hn : n ≤ 3) (r : Int64) : ∃ μd, G_X10_endLook r μc = some (r, μd) ∧ Fr lxQ μ μd ∧ lkD n ts (r = -1) 0 12 98 64 μ μd := by
  obtain ⟨μd, ed, fd, d1, d2, d3, d4⟩ := endX lc hn r
  refine ⟨μd, ed, (fx.mono (fun q j z => by unfold lxR at z; unfold lxQ; omega)).tr fd, d1, d2, d3, ?_⟩
  rw [d4, fx.i (by unfold lxR; omega)]
theorem look_m {n st : Nat} {ts : Nat → Nat} {μd μh : Mem} (fm : Fr lmR μd μh) (lh : LKm n ts μh) (hn : n ≤ 3) (hn1 : 1 ≤ n) (hst : st < 2) (h28 : rI μh 107 28 = nI st) (l : Int64) : ∃ μi, G_X11_finish l μh = some (if st = 0 then l else -1, μi) ∧ Fr lmQ μd μi ∧ lkD n ts (st ≠ 0) 107 26 122 117 μd μi := by
  obtain ⟨μi, ei, fi, d1, d2, d3, d4⟩ := finM lh hn hn1 hst h28 l
  refine ⟨μi, ei, (fm.mono (fun q j z => by unfold lmR at z; unfold lmQ; omega)).tr fi, d1, d2, d3, ?_⟩
  rw [d4, fm.i (by unfold lmR; omega)]
  by_cases q : st = 0
  · rw [if_pos q, if_neg (fun z => z q)]
  · rw [if_neg q, if_pos q]
theorem look_rr {c : Nat} {μd μi : Mem} {n st : Nat} {ts : Nat → Nat} {r : Int64} (h : RR c μ) (hn : n ≤ 3) (f1 : Fr lxQ μ μd) (x : lkD n ts (r = -1) 0 12 98 64 μ μd) (f2 : Fr lmQ μd μi) (y : lkD n ts (st ≠ 0) 107 26 122 117 μd μi) (hr : r = -1 ↔ st ≠ 0) : RR (c + 1) μi := by
  obtain ⟨h1, ⟨h2, -⟩, h3, T, V, B, D, m, S, h4, h5, h6⟩ := h
  obtain ⟨x1, x2, x3, x4⟩ := x
  obtain ⟨m1, m2, m3, m4⟩ := y
  have ff : Fr (fun q j => lxQ q j ∨ lmQ q j) μ μi := (f1.mono (fun q j z => Or.inl z)).tr (f2.mono (fun q j z => Or.inr z))
  refine ⟨RT.ag (fun q j e => ff.i (by unfold lxQ lmQ; omega)) h1, ⟨fun k hk => ?_, 2 * n, by omega, (f2.i (by unfold lmQ; omega)).trans x1, m1, fun i hi => ?_⟩, RW.ag (fun q j e => ff.i (by unfold lxQ lmQ; omega)) h3, T, V, B, D, m, S, (RB.ag (fun q j e => ff.i (by unfold lxQ lmQ; omega)) h4).up (by omega), RP.ag (fun q j e => ff.i (by unfold lxQ lmQ; omega)) h5, (RI.ag h4.1.1 (fun q j e => ff.i (by unfold lxQ lmQ; omega)) h6).up (by omega)⟩
  · by_cases e : k = 4
    · subst e
      rw [f2.i (by unfold lmQ; omega), x4, m4, f1.i (by unfold lxQ; omega), h2 4 (by omega)]
      by_cases q : r = -1
      · rw [if_pos q, if_pos (hr.mp q)]
      · rw [if_neg q, if_neg (fun z => q (hr.mpr z))]
    · rw [ff.i (by unfold lxQ lmQ; omega), ff.i (by unfold lxQ lmQ; omega)]; exact h2 k hk
  · rw [f2.i (by unfold lmQ; omega)]
    by_cases e : i < n
    · rw [x2 i e, m2 i e]
    · have a := x3 (i - n) (by omega)
      have b := m3 (i - n) (by omega)
      rw [show n + (i - n) = i by omega] at a b
      rw [a, b]
def jN (g : Nat → Nat) (v : Nat) : Nat := fb_sm (fun k => if 0 < g k then 1 else 0) v
def jS (g : Nat → Nat) (v' : Nat) (g' : Nat → Nat) (v : Nat) : Nat := fb_sm (fun k => if 0 < g k then g k * (if k < v' then g' k else 0) else 0) v
theorem jN_mono (g : Nat → Nat) {a b : Nat} (h : a ≤ b) : jN g a ≤ jN g b := by
  have := fb_sm_mono (fun k => if 0 < g k then 1 else 0) a (b - a)
  rw [show a + (b - a) = b by omega] at this
  exact this
theorem jtX {v K : Nat} {g bd gr : Nat → Nat} {dr p : Nat} {v' K' : Nat} {g' bd' gr' : Nat → Nat} {dr' p' : Nat} (h : XL v K g bd gr dr p μ) (h' : XL v' K' g' bd' gr' dr' p' μ) (hv : v ≤ 16) (hv' : v' ≤ 16) (hg : ∀ k, k < v → g k ≤ 999) (hg' : ∀ k, k < v' → g' k ≤ 999) {u : Nat} (hu : u ≤ 999) : G_X4_joinTruth p p' (nI u) μ = some (if jN g v ≤ u then lN (jS g v' g' v) else -1, μ) := by
  unfold G_X4_joinTruth
  refine loop_br (fun n i (s : Int32 × Int64) => L_X4_joinTruth_8 n p p' (nI u) s.1 s.2 i μ) v (fun i s => s.1 = nI (jN g i) ∧ jN g i ≤ u ∧ s.2 = lN (jS g v' g' i)) (P := fun o => o = some (if jN g v ≤ u then lN (jS g v' g' v) else -1, μ)) ?_ ?_ 100000 0 (0, 0) (by omega) (by omega) ⟨rfl, Nat.zero_le _, rfl⟩
  · rintro n i ⟨x3, l4⟩ hi ⟨e1, le, e2⟩
    have e1 : x3 = nI (jN g i) := e1
    have e2 : l4 = lN (jS g v' g' i) := e2
    subst e1 e2
    have gi := hg i hi
    have sN : jN g (i + 1) = jN g i + if 0 < g i then 1 else 0 := rfl
    have sS : jS g v' g' (i + 1) = jS g v' g' i + if 0 < g i then g i * (if i < v' then g' i else 0) else 0 := rfl
    have top : L_X4_joinTruth_8 (n + 1) p p' (nI u) (nI (jN g i)) (lN (jS g v' g' i)) (nI i) μ = if g i = 0 then L_X4_joinTruth_8 n p p' (nI u) (nI (jN g i)) (lN (jS g v' g' i)) (nI (i + 1)) μ else if jN g i + 1 ≤ u then L_X4_joinTruth_8 n p p' (nI u) (nI (jN g i + 1)) (lN (jS g v' g' i + g i * (if i < v' then g' i else 0))) (nI (i + 1)) μ else some (-1, μ) := by
      have lc : (if i < v' then g' i else 0) ≤ 999 := by
        by_cases q : i < v'
        · rw [if_pos q]; exact hg' i q
        · rw [if_neg q]; omega
      rw [L_X4_joinTruth_8, h.1.1, if_neg (nI_ge hi (by omega)), gq_in (by omega) (by omega), nx_nI (by omega), h.1.2.2 i (by omega), nI_1, lb_e, gq_in (by omega) (by omega), bd_eq (lane_countAt h' hv' (by omega)), nI_l (by omega), nI_l (by omega), lN_mul, lN_add, lb_e]
      unfold F_X4_joinTruth_60
      rw [lb_e, lb_e, nI_1]
      by_cases q : g i = 0
      · rw [if_pos q, if_pos (by rw [q]; decide)]
      · rw [if_neg q, if_neg (nI_nle (by omega) (by omega))]
        by_cases q2 : jN g i + 1 ≤ u
        · rw [if_pos q2, if_pos (nI_le q2 (by omega))]
        · rw [if_neg q2, if_neg (nI_ge (by omega) (by omega))]
    show L_X4_joinTruth_8 (n + 1) p p' (nI u) (nI (jN g i)) (lN (jS g v' g' i)) (nI i) μ = _ ∨ _
    by_cases q : g i = 0
    · right
      rw [if_neg (by omega)] at sN sS
      exact ⟨(nI (jN g i), lN (jS g v' g' i)), ⟨by rw [sN]; rfl, by rw [sN]; exact le, by rw [sS]; rfl⟩, by show L_X4_joinTruth_8 (n + 1) p p' (nI u) (nI (jN g i)) (lN (jS g v' g' i)) (nI i) μ = _; rw [top, if_pos q]⟩
    · rw [if_pos (by omega)] at sN sS
      by_cases q2 : jN g i + 1 ≤ u
      · right
        exact ⟨(nI (jN g i + 1), lN (jS g v' g' i + g i * (if i < v' then g' i else 0))), ⟨by rw [sN], by omega, by rw [sS]⟩, by show L_X4_joinTruth_8 (n + 1) p p' (nI u) (nI (jN g i)) (lN (jS g v' g' i)) (nI i) μ = _; rw [top, if_neg q, if_pos q2]⟩
      · left
        have := jN_mono g (show i + 1 ≤ v by omega)
        rw [top, if_neg q, if_neg q2, if_neg (by omega)]
  · rintro n ⟨x3, l4⟩ ⟨e1, le, e2⟩
    have e2 : l4 = lN (jS g v' g' v) := e2
    show L_X4_joinTruth_8 (n + 1) p p' (nI u) x3 l4 (nI v) μ = _
    rw [L_X4_joinTruth_8, h.1.1, if_pos (nI_le (Nat.le_refl _) (by omega)), if_pos le, e2]
theorem jtM (h : RB c0 T V B D m S μ) {t c o d u : Nat} (ht : t < T) (hc : c < 2) (ho : o < T) (hd : d < 2) (hu : u ≤ 999) (h27 : rI μ 107 27 = nI u) (h28 : rI μ 107 28 = 0) : ∃ μ', G_X11_joinTruth (nI t) (nI c) (nI o) (nI d) μ = some (if jN (cn (sf (S 0) t) c) (V t) ≤ u then lN (jS (cn (sf (S 0) t) c) (V o) (cn (sf (S 0) o) d) (V t)) else -1, μ') ∧ Fr (fun q j => q = 107 ∧ (j = 27 ∨ j = 28)) μ μ' ∧ rI μ' 107 28 = nI (if jN (cn (sf (S 0) t) c) (V t) ≤ u then 0 else 1) := by
  have hT := h.T3
  have hV := h.V2 ht
  have hV' := h.V2 ho
  have lg : ∀ k, k < 16 → cn (sf (S 0) t) c k ≤ 999 := fun k hk => Nat.le_trans (cn_le _ hc (by omega)) (h.sw ht).2.1
  have lg' : ∀ k, k < 16 → cn (sf (S 0) o) d k ≤ 999 := fun k hk => Nat.le_trans (cn_le _ hd (by omega)) (h.sw ho).2.1
  generalize hg : cn (sf (S 0) t) c = g at *
  generalize hg' : cn (sf (S 0) o) d = g' at *
  unfold G_X11_joinTruth
  refine loop_br (fun n i (s : Int64 × Mem) => L_X11_joinTruth_6 n (nI t) (nI c) (nI o) (nI d) s.1 i s.2) (V t) (fun i s => jN g i ≤ u ∧ s.1 = lN (jS g (V o) g' i) ∧ Fr (fun q j => q = 107 ∧ (j = 27 ∨ j = 28)) μ s.2 ∧ rI s.2 107 27 = nI (u - jN g i) ∧ rI s.2 107 28 = 0) (P := fun o' => ∃ μ', o' = some (if jN g (V t) ≤ u then lN (jS g (V o) g' (V t)) else -1, μ') ∧ Fr (fun q j => q = 107 ∧ (j = 27 ∨ j = 28)) μ μ' ∧ rI μ' 107 28 = nI (if jN g (V t) ≤ u then 0 else 1)) ?_ ?_ 100000 0 (0, μ) (by omega) (by omega) ⟨Nat.zero_le _, rfl, Fr.rf, h27, h28⟩
  · rintro n i ⟨l5, s⟩ hi ⟨le, e2, f, y27, y28⟩
    have e2 : l5 = lN (jS g (V o) g' i) := e2
    subst e2
    have f : Fr (fun q j => q = 107 ∧ (j = 27 ∨ j = 28)) μ s := f
    have y27 : rI s 107 27 = nI (u - jN g i) := y27
    have hB : RB c0 T V B D m S s := h.ag (fun q j e => f.i (by omega))
    have gi := lg i (by omega)
    have sN : jN g (i + 1) = jN g i + if 0 < g i then 1 else 0 := rfl
    have sS : jS g (V o) g' (i + 1) = jS g (V o) g' i + if 0 < g i then g i * (if i < V o then g' i else 0) else 0 := rfl
    have ca : G_X11_countAt (nI t) (nI c) (nI i) s = some (nI (g i), s) := by rw [← hg]; exact countAt_v (hB.tab ht) (by omega) hc (by omega)
    show (∃ μ', L_X11_joinTruth_6 (n + 1) (nI t) (nI c) (nI o) (nI d) (lN (jS g (V o) g' i)) (nI i) s = _ ∧ _) ∨ ∃ s', _ ∧ L_X11_joinTruth_6 (n + 1) (nI t) (nI c) (nI o) (nI d) (lN (jS g (V o) g' i)) (nI i) s = _
    rw [L_X11_joinTruth_6, gq_in (by omega) (by omega), nx_nI (by omega), hB.mv ht, if_neg (nI_ge hi (by omega)), bd_eq ca]
    unfold F_X11_joinTruth_62
    by_cases q : g i = 0
    · right
      rw [if_neg (by omega)] at sN sS
      rw [if_pos (by rw [q]; decide), lb_e, nI_1]
      exact ⟨(lN (jS g (V o) g' i), s), ⟨by rw [sN]; exact le, by rw [sS]; rfl, f, by rw [sN]; exact y27, y28⟩, rfl⟩
    · rw [if_pos (by omega)] at sN sS
      obtain ⟨s1, e1, f1, z28, z27⟩ := over_ok y27 (by omega)
      have hB1 : RB c0 T V B D m S s1 := hB.ag (fun q j e => f1.i (by omega))
      rw [if_neg (nI_nle (by omega) (by omega)), bd_eq e1]
      by_cases q2 : u - jN g i = 0
      · left
        have := jN_mono g (show i + 1 ≤ V t by omega)
        rw [if_pos q2, if_neg (by decide)]
        rw [if_pos q2] at z28
        refine ⟨s1, by rw [if_neg (by omega)], f.tr f1, by rw [z28, if_neg (by omega)]; rfl⟩
      · right
        rw [if_neg q2] at z28
        have ci : G_X11_countIn (nI o) (nI d) (nI i) s1 = some (nI (if i < V o then g' i else 0), s1) := by rw [← hg']; exact countIn_ok hB1 ho hd (by omega)
        have lc : (if i < V o then g' i else 0) ≤ 999 := by
          by_cases q : i < V o
          · rw [if_pos q]; exact lg' i (by omega)
          · rw [if_neg q]; omega
        rw [if_neg q2, if_pos rfl, bd_eq ci, nI_l (by omega), nI_l (by omega), lN_mul, lN_add, lb_e, lb_e, nI_1]
        refine ⟨(lN (jS g (V o) g' i + g i * (if i < V o then g' i else 0)), s1), ⟨by omega, by rw [sS], f.tr f1, ?_, z28⟩, rfl⟩
        show rI s1 107 27 = _
        rw [z27 (by omega), sN]
        congr 1
  · rintro n ⟨l5, s⟩ ⟨le, e2, f, y27, y28⟩
    have e2 : l5 = lN (jS g (V o) g' (V t)) := e2
    subst e2
    have f : Fr (fun q j => q = 107 ∧ (j = 27 ∨ j = 28)) μ s := f
    have hB : RB c0 T V B D m S s := h.ag (fun q j e => f.i (by omega))
    refine ⟨s, ?_, f, by rw [if_pos le]; exact y28⟩
    show L_X11_joinTruth_6 (n + 1) (nI t) (nI c) (nI o) (nI d) (lN (jS g (V o) g' (V t))) (nI (V t)) s = _
    rw [L_X11_joinTruth_6, gq_in (by omega) (by omega), nx_nI (by omega), hB.mv ht, if_pos (nI_le (Nat.le_refl _) (by omega)), if_pos le]
theorem lN_m1 {n : Nat} (h : n < 2 ^ 63) : lN n ≠ (-1 : Int64) := fun e => by
  have h1 := congrArg Int64.toInt e
  rw [pk_lT h] at h1
  have h2 : (-1 : Int64).toInt = -1 := by decide
  omega
theorem jS_le {g : Nat → Nat} {v' : Nat} {g' : Nat → Nat} {v : Nat} (hg : ∀ k, k < v → g k ≤ 999) (hg' : ∀ k, k < v' → g' k ≤ 999) (hv : v ≤ 16) : jS g v' g' v ≤ 15968016 := by
  have b := fb_sm_bound (f := fun k => if 0 < g k then g k * (if k < v' then g' k else 0) else 0) (c := 998001) (n := v) (fun k hk => by
    show (if 0 < g k then g k * (if k < v' then g' k else 0) else 0) ≤ 998001
    split
    · have : (if k < v' then g' k else 0) ≤ 999 := by
        split
        · rename_i q; exact hg' k q
        · omega
      exact Nat.mul_le_mul (hg k hk) this
    · omega)
  have e : v * 998001 ≤ 16 * 998001 := Nat.mul_le_mul_right _ hv
  unfold jS
  omega
theorem RB.u (h : RB c0 T V B D m S μ) (hT0 : 0 < T) : rI μ 7 5 = nI (su (S 0)) ∧ rI μ 116 1071 = nI (su (S 0)) ∧ su (S 0) ≤ 999 := ⟨h.2.2.2.2.1.2.2.2.1 hT0, h.2.2.2.2.2.2.2.2.2.2.1 hT0, ((h.2.2.2.1 0 (Nat.zero_le _)).2 hT0).2⟩
theorem a_join {c : Nat} (h : RR c μ) (x y p q w : Int32) : Ans c (G_X10_join x y p q w μ) (G_X11_join x y p q w) := by
  have h0 := h
  obtain ⟨-, -, -, T, V, B, D, m, S, hB, hP, -⟩ := h0
  have hT := hB.T3
  rcases col_cases hT x y with hx | ⟨t, k, ht, hk, rfl, rfl⟩
  · refine Ans.p (r := -1) h ?_ ?_
    · unfold G_X10_join; rw [bd_eq (xCol_no hB.xt hT hx), if_pos rfl]
    · unfold G_X11_join; rw [bd_eq (mCol_no hB.mt hT hx), if_pos rfl]
  · rcases col_cases hT p q with hx | ⟨o, d, ho, hd, rfl, rfl⟩
    · refine Ans.p (r := -1) h ?_ ?_
      · unfold G_X10_join; rw [bd_eq (xCol_yes hB.xt hT ht hk), if_neg (by decide), bd_eq (xCol_no hB.xt hT hx), if_pos rfl]
      · unfold G_X11_join; rw [bd_eq (mCol_yes hB.mt hT ht hk), if_neg (by decide), bd_eq (mCol_no hB.mt hT hx), if_pos rfl]
    · have hV := hB.V2 ht
      have hV' := hB.V2 ho
      obtain ⟨u1, u2, u3⟩ := hB.u (by omega)
      have no : (w < 0 ∨ nI 4 ≤ w) → Ans c (G_X10_join (nI t) (nI k) (nI o) (nI d) w μ) (G_X11_join (nI t) (nI k) (nI o) (nI d) w) := fun hw => by
        refine Ans.p (r := -1) h ?_ ?_
        · unfold G_X10_join
          rw [bd_eq (xCol_yes hB.xt hT ht hk), if_neg (by decide), bd_eq (xCol_yes hB.xt hT ho hd), if_neg (by decide), gq_in (by omega) (by omega), gq_in (by omega) (by omega), gq_in (by omega) (by omega), gq_in (by omega) (by omega), if_neg (out_ne (m := 0) hw (by omega) (by omega)), if_neg (out_ne (m := 1) hw (by omega) (by omega)), if_neg (out_ne (m := 2) hw (by omega) (by omega)), if_neg (out_ne (m := 3) hw (by omega) (by omega))]
        · unfold G_X11_join
          rw [bd_eq (mCol_yes hB.mt hT ht hk), if_neg (by decide), bd_eq (mCol_yes hB.mt hT ho hd), if_neg (by decide), bd_eq (inL_no (m := 3) (by decide) (by omega) hw), if_pos rfl]
      rcases pk_ix w (n := 4) (by omega) with hw' | hw' | ⟨j, hj, rfl⟩
      · exact no (Or.inl hw')
      · exact no (Or.inr hw')
      · obtain ⟨ju, je⟩ := jX_ok hB ht hk ho hd
        have lg : ∀ i, i < V t → cn (sf (S 0) t) k i ≤ 999 := fun i hi => Nat.le_trans (cn_le _ hk (by omega)) (hB.sw ht).2.1
        have lg' : ∀ i, i < V o → cn (sf (S 0) o) d i ≤ 999 := fun i hi => Nat.le_trans (cn_le _ hd (by omega)) (hB.sw ho).2.1
        rcases (show j = 0 ∨ j = 1 ∨ j = 2 ∨ j = 3 by omega) with rfl | rfl | rfl | rfl
        · obtain ⟨ts, hts⟩ : ∃ ts : Nat → Nat, ts = fun i => if i = 0 then t else o := ⟨_, rfl⟩
          have ts0 : ts 0 = t := by rw [hts]; rfl
          have ts1 : ts 1 = o := by rw [hts]; rfl
          obtain ⟨μa, ea, fa, la⟩ := beginX (μ := μ) ts
          obtain ⟨μb, eb, fb, lb'⟩ := takeX la (by omega)
          obtain ⟨μc, ec, fc, lc⟩ := takeX lb' (by omega)
          rw [ts0] at eb
          rw [ts1] at ec
          have fx : Fr lxR μ μc := (fa.tr fb).tr fc
          have hBc : RB c T V B D m S μc := hB.ag (fun q j e => fx.i (by unfold lxR; omega))
          have hj := jtX (hBc.lane ht hk) (hBc.lane ho hd) hV.2 hV'.2 lg lg' u3
          have lx : jS (cn (sf (S 0) t) k) (V o) (cn (sf (S 0) o) d) (V t) ≤ 15968016 := jS_le lg lg' hV.2
          generalize hr : (if jN (cn (sf (S 0) t) k) (V t) ≤ su (S 0) then lN (jS (cn (sf (S 0) t) k) (V o) (cn (sf (S 0) o) d) (V t)) else -1) = r at hj
          obtain ⟨μd, ed, fd, dd⟩ := look_x fx lc (by omega) r
          have hBd : RB c T V B D m S μd := hB.ag (fun q j e => fd.i (by unfold lxQ; omega))
          obtain ⟨μe, ee, fe, le, e27, e28⟩ := beginM (μ := μd) ts (hBd.u (by omega)).2.1
          obtain ⟨μf, ef, ff, lf⟩ := takeM (x := nI t) le (by omega) (by rw [ts0])
          obtain ⟨μg, eg, fg, lg2⟩ := takeM (x := nI o) lf (by omega) (by rw [ts1])
          have fm : Fr lmR μd μg := (fe.tr (ff.mono (fun q j z => by unfold lmR; omega))).tr (fg.mono (fun q j z => by unfold lmR; omega))
          have hBg : RB c T V B D m S μg := hBd.ag (fun q j e => fm.i (by unfold lmR; omega))
          obtain ⟨μh, eh, fh, h28⟩ := jtM hBg ht hk ho hd u3 ((fg.i (by omega)).trans ((ff.i (by omega)).trans e27)) ((fg.i (by omega)).trans ((ff.i (by omega)).trans e28))
          have lh : LKm 2 ts μh := ⟨(fh.i (by omega)).trans lg2.1, fun i hi => (fh.i (by omega)).trans (lg2.2 i hi)⟩
          rw [hr] at eh
          obtain ⟨μi, ei, fi, di⟩ := look_m (fm.tr (fh.mono (fun q j z => by unfold lmR; omega))) lh (by omega) (by omega) (st := if jN (cn (sf (S 0) t) k) (V t) ≤ su (S 0) then 0 else 1) (by split <;> omega) h28 r
          have hst : r = -1 ↔ (if jN (cn (sf (S 0) t) k) (V t) ≤ su (S 0) then 0 else 1) ≠ 0 := by
            rw [← hr]
            by_cases z : jN (cn (sf (S 0) t) k) (V t) ≤ su (S 0)
            · rw [if_pos z, if_pos z]
              exact ⟨fun e => absurd e (lN_m1 (by omega)), fun e => absurd rfl e⟩
            · rw [if_neg z, if_neg z]
              exact ⟨fun _ => by omega, fun _ => rfl⟩
          have er : (if (if jN (cn (sf (S 0) t) k) (V t) ≤ su (S 0) then 0 else 1) = 0 then r else -1) = r := by
            by_cases z : (if jN (cn (sf (S 0) t) k) (V t) ≤ su (S 0) then 0 else 1) = 0
            · rw [if_pos z]
            · rw [if_neg z, hst.mpr z]
          rw [er] at ei
          refine ⟨r, μd, μi, ?_, ?_, look_rr h (by omega) fd dd fi di hst⟩
          · unfold G_X10_join
            rw [bd_eq (xCol_yes hB.xt hT ht hk), if_neg (by decide), bd_eq (xCol_yes hB.xt hT ho hd), if_neg (by decide), gq_in (by omega) (by omega), gq_in (by omega) (by omega), gq_in (by omega) (by omega), gq_in (by omega) (by omega), if_pos (by decide), bd_eq ea, bd_eq eb, bd_eq ec, lp_eq (by omega) hk, lp_eq (by omega) hd, (hBc.u (by omega)).1, bd_eq hj, bd_eq ed]
          · unfold G_X11_join
            rw [bd_eq (mCol_yes hBd.mt hT ht hk), if_neg (by decide), bd_eq (mCol_yes hBd.mt hT ho hd), if_neg (by decide), bd_eq (inL_yes (m := 3) (by decide) (by omega) (by omega)), if_neg (by decide), if_pos (by decide), bd_eq ee, bd_eq ef, bd_eq eg, bd_eq eh, bd_eq ei]
        · refine Ans.p (r := lN (jrT V B (S 0) true t k o d)) h ?_ ?_
          · unfold G_X10_join
            rw [bd_eq (xCol_yes hB.xt hT ht hk), if_neg (by decide), bd_eq (xCol_yes hB.xt hT ho hd), if_neg (by decide), gq_in (by omega) (by omega), gq_in (by omega) (by omega), gq_in (by omega) (by omega), gq_in (by omega) (by omega), if_neg (by decide), if_pos (by decide), lp_eq (by omega) hk, lp_eq (by omega) hd, bd_eq ju]
          · unfold G_X11_join F_X11_join_76
            rw [bd_eq (mCol_yes hB.mt hT ht hk), if_neg (by decide), bd_eq (mCol_yes hB.mt hT ho hd), if_neg (by decide), bd_eq (inL_yes (m := 3) (by decide) (by omega) (by omega)), if_neg (by decide), if_neg (by decide), if_neg (by decide), if_pos (by decide), bd_eq (jB_ok hB ht hk ho hd true)]
        · obtain ⟨μ1, e1, f1⟩ := degM_ok hB ht hk ho hd
          refine Ans.q (r := lN (fb_sm (fun r => dgr (cn (sf (S 0) t) k) (V t) r * dgr (cn (sf (S 0) o) d) (V o) r) (min (V t) (V o)))) (μ1 := μ) (μ2 := μ1) h ?_ Fr.rf ?_ f1
          · unfold G_X10_join
            rw [bd_eq (xCol_yes hB.xt hT ht hk), if_neg (by decide), bd_eq (xCol_yes hB.xt hT ho hd), if_neg (by decide), gq_in (by omega) (by omega), gq_in (by omega) (by omega), gq_in (by omega) (by omega), gq_in (by omega) (by omega), if_neg (by decide), if_neg (by decide), if_pos (by decide), lp_eq (by omega) hk, lp_eq (by omega) hd, bd_eq (degX_ok (hB.lane ht hk) (hB.lane ho hd) hV.2 hV'.2 lg lg')]
          · unfold G_X11_join
            rw [bd_eq (mCol_yes hB.mt hT ht hk), if_neg (by decide), bd_eq (mCol_yes hB.mt hT ho hd), if_neg (by decide), bd_eq (inL_yes (m := 3) (by decide) (by omega) (by omega)), if_neg (by decide), if_neg (by decide), if_pos (by decide), bd_eq e1]
        · refine Ans.p (r := lN (jrT V B (S 0) false t k o d)) h ?_ ?_
          · unfold G_X10_join
            rw [bd_eq (xCol_yes hB.xt hT ht hk), if_neg (by decide), bd_eq (xCol_yes hB.xt hT ho hd), if_neg (by decide), gq_in (by omega) (by omega), gq_in (by omega) (by omega), gq_in (by omega) (by omega), gq_in (by omega) (by omega), if_neg (by decide), if_neg (by decide), if_neg (by decide), if_pos (by decide), lp_eq (by omega) hk, lp_eq (by omega) hd, bd_eq je]
          · unfold G_X11_join F_X11_join_76
            rw [bd_eq (mCol_yes hB.mt hT ht hk), if_neg (by decide), bd_eq (mCol_yes hB.mt hT ho hd), if_neg (by decide), bd_eq (inL_yes (m := 3) (by decide) (by omega) (by omega)), if_neg (by decide), if_neg (by decide), if_neg (by decide), if_neg (by decide), bd_eq (jB_ok hB ht hk ho hd false)]
end J
