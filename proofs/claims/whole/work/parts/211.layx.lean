/-! the least errors: the class -/
theorem i0 : (0 : Int32) = nI 0 := rfl
theorem i1 : (1 : Int32) = nI 1 := rfl
theorem i2 : (2 : Int32) = nI 2 := rfl
theorem i17 : (17 : Int32) = nI 17 := rfl
theorem L720 : (720720 : Int64) = lN 720720 := rfl
theorem L0 : (0 : Int64) = lN 0 := rfl
theorem gq_lN {ρ : Type} {x : Option ρ} {k : Nat} (h : 0 < k) (hk : k < 2 ^ 63) : gq (decide (¬ lN k = 0)) x = x := gq_d (fun e => by
  have e : lN k = lN 0 := e
  rw [pk_lEQ hk (by omega)] at e
  omega)
theorem gq_nI {ρ : Type} {x : Option ρ} {k : Nat} (h : 0 < k) (hk : k < 2 ^ 31) : gq (decide (¬ nI k = 0)) x = x := gq_d (nI_ne0 h hk)
theorem ct_lN {g : Nat → Nat} {a w : Nat} (h0 : 0 < w) (hw : w ≤ 16) : lN 720720 * lN (qs g a w) - lN 720720 / lN w * lN (ss g a w) * lN (ss g a w) = lN (ct g a (a + w)) := by
  have h := ct_low g a w h0 hw
  unfold ct
  rw [pk_lDiv (by omega) h0 (by omega), lN_mul, lN_mul, lN_mul, lN_sub h, show a + w - a = w by omega]
def CL (v : Nat) (g : Nat → Nat) (p : Nat) (μ : Mem) : Prop := rI μ p 2 = nI v ∧ ∀ k, k < v → rI μ (p + 1) k = nI (g k)
def LQ (q _j : Nat) : Prop := 99 ≤ q ∧ q ≤ 102
theorem CL.fr {v : Nat} {g : Nat → Nat} {p : Nat} {μ μ' : Mem} (h : CL v g p μ) (hp : p + 1 < 99 ∨ 102 < p) (hf : Fr LQ μ μ') : CL v g p μ' := ⟨(hf.i (by unfold LQ; omega)).trans h.1, fun k hk => (hf.i (by unfold LQ; omega)).trans (h.2 k hk)⟩
theorem gle {g : Nat → Nat} {n k : Nat} (hg : fb_sm g n ≤ 999) (hk : k < n) : g k ≤ 999 := by
  have := fb_sm_part g hk
  omega
section X
variable {v p k : Nat} {g : Nat → Nat} {μ0 μ : Mem}
theorem fe_in {kc : Nat → Int32 → Mem → Option (Unit × Mem)} {a : Nat} (hv : v ≤ 16) (hg : fb_sm g v ≤ 999) (ha : a < v) (hp : p + 1 < 99 ∨ 102 < p) (hC : CL v g p μ0) (hf : Fr LQ μ0 μ) (h3 : rI μ 99 3 = nI v) (hE : ∀ a' b, a' < a → a' < b → b ≤ v → rL μ 100 (17 * a' + b) = lN (ct g a' b)) : ∃ μ', L_X5_findErrors_26 kc 100000 p (nI a) 0 0 1 μ = kc p (nI (a + 1)) μ' ∧ Fr LQ μ0 μ' ∧ rI μ' 99 3 = nI v ∧ ∀ a' b, a' < a + 1 → a' < b → b ≤ v → rL μ' 100 (17 * a' + b) = lN (ct g a' b) := by
  refine loop_inv (fun n i (s : Int64 × Int64 × Mem) => L_X5_findErrors_26 kc n p (nI a) s.1 s.2.1 i s.2.2) (v - a + 1) (fun w s => 1 ≤ w ∧ s.1 = lN (ss g a (w - 1)) ∧ s.2.1 = lN (qs g a (w - 1)) ∧ Fr LQ μ0 s.2.2 ∧ rI s.2.2 99 3 = nI v ∧ ∀ a' b, (a' < a ∨ (a' = a ∧ b < a + w)) → a' < b → b ≤ v → rL s.2.2 100 (17 * a' + b) = lN (ct g a' b)) (P := fun o => ∃ μ', o = kc p (nI (a + 1)) μ' ∧ Fr LQ μ0 μ' ∧ rI μ' 99 3 = nI v ∧ ∀ a' b, a' < a + 1 → a' < b → b ≤ v → rL μ' 100 (17 * a' + b) = lN (ct g a' b)) ?_ ?_ 100000 1 (0, 0, μ) (by omega) (by omega) ⟨by omega, rfl, rfl, hf, h3, fun a' b h h2 h3 => hE a' b (by omega) h2 h3⟩
  · rintro n w ⟨l3, l5, μ⟩ hw ⟨w1, e1, e2, f, q, E⟩
    have e1 : l3 = lN (ss g a (w - 1)) := e1
    have e2 : l5 = lN (qs g a (w - 1)) := e2
    have q : rI μ 99 3 = nI v := q
    subst e1 e2
    have C := hC.fr hp f
    have gv := gle hg (k := a + w - 1) (by omega)
    have c1 : rI μ (p + 1) (a + w - 1) = nI (g (a + w - 1)) := C.2 _ (by omega)
    have s1 : ss g a (w - 1) + g (a + w - 1) = ss g a w := by
      rw [show ss g a w = ss g a (w - 1 + 1) by rw [show w - 1 + 1 = w by omega], show a + w - 1 = a + (w - 1) by omega]; rfl
    have s2 : qs g a (w - 1) + g (a + w - 1) * g (a + w - 1) = qs g a w := by
      rw [show qs g a w = qs g a (w - 1 + 1) by rw [show w - 1 + 1 = w by omega], show a + w - 1 = a + (w - 1) by omega]; rfl
    refine ⟨(lN (ss g a w), lN (qs g a w), wL μ 100 (17 * a + (a + w)) (lN (ct g a (a + w)))), ⟨by omega, rfl, rfl, f.wL (by unfold LQ; omega), by rw [rI_wL]; exact q, fun a' b h1 h2 h3 => ?_⟩, ?_⟩
    · by_cases hb : a' = a ∧ b = a + w
      · obtain ⟨rfl, rfl⟩ := hb
        exact rL_wL_at
      · show rL (wL μ 100 _ _) 100 _ = _
        rw [rL_wL_off (by omega)]
        exact E a' b (by omega) h2 h3
    · show L_X5_findErrors_26 kc (n + 1) p (nI a) (lN (ss g a (w - 1))) (lN (qs g a (w - 1))) (nI w) μ = _
      rw [L_X5_findErrors_26, q, pk_sub (by omega), if_neg (nI_nlt (by omega) (by omega)), show nI a + nI w - 1 = nI (a + w - 1) from by rw [nI_add]; exact nI_sub1 (by omega), gq_in (by omega) (by omega), nx_nI (by omega), c1, nI_l (by omega), lb_e, lb_e, lb_e, lN_add, lN_mul, lN_add, s1, s2, nI_l (by omega), gq_lN (by omega) (by omega), i17, pk_mul, nI_add, nI_add, gq_in (by omega) (by omega), nx_nI (by omega), lb_e, lb_e, nI_1, L720, ct_lN (by omega) (by omega), show a * 17 + a + w = 17 * a + (a + w) by omega]
  · rintro n ⟨l3, l5, μ⟩ ⟨w1, e1, e2, f, q, E⟩
    have q : rI μ 99 3 = nI v := q
    refine ⟨μ, ?_, f, q, fun a' b h1 h2 h3 => E a' b (by omega) h2 h3⟩
    show L_X5_findErrors_26 kc (n + 1) p (nI a) l3 l5 (nI (v - a + 1)) μ = _
    rw [L_X5_findErrors_26, q, pk_sub (by omega), if_pos (nI_lt (by omega) (by omega)), lb_e, nI_1]
theorem fe_ok (hv : v ≤ 16) (hg : fb_sm g v ≤ 999) (hp : p + 1 < 99 ∨ 102 < p) (hC : CL v g p μ) : ∃ μ', G_X5_findErrors p μ = some ((), μ') ∧ Fr LQ μ μ' ∧ rI μ' 99 3 = nI v ∧ ∀ a b, a < b → b ≤ v → rL μ' 100 (17 * a + b) = lN (ct g a b) := by
  unfold G_X5_findErrors
  rw [lb_e, hC.1]
  refine loop_inv (fun n i (s : Mem) => L_X5_findErrors_10 n p i s) v (fun a s => Fr LQ μ s ∧ rI s 99 3 = nI v ∧ ∀ a' b, a' < a → a' < b → b ≤ v → rL s 100 (17 * a' + b) = lN (ct g a' b)) (P := fun o => ∃ μ', o = some ((), μ') ∧ Fr LQ μ μ' ∧ rI μ' 99 3 = nI v ∧ ∀ a b, a < b → b ≤ v → rL μ' 100 (17 * a + b) = lN (ct g a b)) ?_ ?_ 100000 0 (wI μ 99 3 (nI v)) (by omega) (by omega) ⟨Fr.rf.wI (by unfold LQ; omega), rI_wI_at, fun a' b h => absurd h (by omega)⟩
  · rintro n a s ha ⟨f, q, E⟩
    obtain ⟨s', e, f', q', E'⟩ := fe_in (kc := L_X5_findErrors_10 n) hv hg ha hp hC f q E
    refine ⟨s', ⟨f', q', E'⟩, ?_⟩
    show L_X5_findErrors_10 (n + 1) p (nI a) s = _
    rw [L_X5_findErrors_10, q, if_neg (nI_ge ha (by omega))]
    exact e
  · rintro n s ⟨f, q, E⟩
    refine ⟨s, ?_, f, q, fun a b h1 h2 => E a b (by omega) h1 h2⟩
    show L_X5_findErrors_10 (n + 1) p (nI v) s = _
    rw [L_X5_findErrors_10, q, if_pos (nI_le (Nat.le_refl _) (by omega))]
def SKF (j v q i : Nat) : Prop := (q = 99 ∧ (i = 4 ∨ i = 5)) ∨ ((q = 101 ∨ q = 102) ∧ i = 17 * j + v)
def SKP (g : Nat → Nat) (n j v t0 p0 : Nat) (μ μ' : Mem) : Prop := Fr (SKF j v) μ μ' ∧ rL μ' 101 (17 * j + v) = lN (Wt g n j v) ∧ rI μ' 102 (17 * j + v) = nI (sec g n j v) ∧ rI μ' 99 4 = nI (t0 + trs g n j v) ∧ rI μ' 99 5 = nI (p0 + (n - j + 1 - v))
theorem seek_fin {n j u t0 p0 b s : Nat} (hn : n ≤ 16) (hg : fb_sm g n ≤ 999) (hj : 2 ≤ j) (hu : u + j ≤ n) (hf : Fr (SKF j u) μ0 μ) (ht : rI μ 99 4 = nI (t0 + trs g n j u)) (hp : rI μ 99 5 = nI p0) (h1 : u < s) (h2 : s ≤ n - j + 1) (h3 : ct g u s + Wt g n (j - 1) s = b) (h4 : ∀ e, u < e → e < s → b < ct g u e + Wt g n (j - 1) e) (h5 : ∀ e, u < e → e ≤ n - j + 1 → b ≤ ct g u e + Wt g n (j - 1) e) : ∃ μ', F_X5_seek_104 (nI j) (nI u) (nI (n - j + 1)) (lN b) (nI s) μ = some ((), μ') ∧ SKP g n j u t0 p0 μ0 μ' := by
  obtain ⟨e1, e2⟩ := seek_done hg hn hj hu h1 h2 h3 h4 h5
  refine ⟨wI (wL (wI μ 99 5 (nI (p0 + (n - j + 1 - u)))) 101 (17 * j + u) (lN b)) 102 (17 * j + u) (nI s), ?_, ((hf.wI (by unfold SKF; omega)).wL (by unfold SKF; omega)).wI (by unfold SKF; omega), ?_, ?_, ?_, ?_⟩
  · unfold F_X5_seek_104
    rw [hp, pk_sub (by omega), nI_add, lb_e, i17, pk_mul, nI_add, gq_in (by omega) (by omega), nx_nI (by omega), lb_e, gq_in (by omega) (by omega), lb_e, show j * 17 + u = 17 * j + u by omega]
  · rw [rL_wI, rL_wL_at, e1]
  · rw [rI_wI_at, e2]
  · rw [rI_wI_ne (by omega), rI_wL, rI_wI_off (by omega), ht]
  · rw [rI_wI_ne (by omega), rI_wL, rI_wI_at]
theorem seek_ok {n j u t0 p0 : Nat} (hn : n ≤ 16) (hg : fb_sm g n ≤ 999) (hj : 2 ≤ j) (hu : u + j ≤ n) (h3 : rI μ 99 3 = nI n) (hE : ∀ a b, a < b → b ≤ n → rL μ 100 (17 * a + b) = lN (ct g a b)) (hW : ∀ e, e + (j - 1) ≤ n → rL μ 101 (17 * (j - 1) + e) = lN (Wt g n (j - 1) e)) (ht : rI μ 99 4 = nI t0) (hp : rI μ 99 5 = nI p0) : ∃ μ', G_X5_seek (nI j) (nI u) μ = some ((), μ') ∧ SKP g n j u t0 p0 μ μ' := by
  have fl : ∀ e, u < e → e ≤ n - j + 1 → ct g u e + Wt g n (j - 1) e ≤ 12227747772240 := fun e q1 q2 => by
    have a1 := W_lt hg hn (j := j - 1) (v := e) (by omega) (by omega)
    have a2 := ct_le (a := u) (b := e) hg (by omega) (by omega)
    omega
  have mo : ∀ e e', u < e → e ≤ e' → e' ≤ n → ct g u e ≤ ct g u e' := fun e e' q1 q2 q3 => by
    have := ct_mono g q1 (e' - e) (by omega)
    rw [show e + (e' - e) = e' by omega] at this
    exact this
  have tj : trs g n j u = tr (ct g u) (fun e => ct g u e + Wt g n (j - 1) e) (n - j + 1 - u) (u + 1) 9223372036854775807 := by
    unfold trs
    rw [if_neg (by omega), show n - j + 1 - u = (n - j - u) + 1 by omega]
    have := fl (u + 1) (by omega) (by omega)
    exact tr_any _ _ _ _ (by unfold NV; omega) (by show ct g u (u + 1) + Wt g n (j - 1) (u + 1) ≤ _; omega)
  unfold G_X5_seek
  rw [h3, pk_sub (by omega), nI_1, lb_e, nI_1, lb_e]
  refine loop_br (fun m i (s : Int64 × Int32 × Mem) => L_X5_seek_22 m (nI j) (nI u) (nI (n - j + 1)) s.1 s.2.1 i s.2.2) (n - j + 1 + 1) (fun e s => u + 1 ≤ e ∧ ∃ b d, s.1 = lN b ∧ b < 2 ^ 63 ∧ (e = u + 1 → b = 9223372036854775807) ∧ (u + 1 < e → ∃ bs, s.2.1 = nI bs ∧ u < bs ∧ bs < e ∧ ct g u bs + Wt g n (j - 1) bs = b ∧ ∀ e', u < e' → e' < bs → b < ct g u e' + Wt g n (j - 1) e') ∧ (∀ e', u < e' → e' < e → b ≤ ct g u e' + Wt g n (j - 1) e') ∧ Fr (SKF j u) μ s.2.2 ∧ rI s.2.2 99 4 = nI (t0 + d) ∧ d + tr (ct g u) (fun e => ct g u e + Wt g n (j - 1) e) (n - j + 1 + 1 - e) e b = trs g n j u ∧ rI s.2.2 99 5 = nI p0) (P := fun o => ∃ μ', o = some ((), μ') ∧ SKP g n j u t0 p0 μ μ') ?_ ?_ 100000 (u + 1) (9223372036854775807, nI (n - j + 1), μ) (by omega) (by omega) ⟨by omega, 9223372036854775807, 0, rfl, by omega, fun _ => rfl, fun h => absurd h (by omega), fun e' h1 h2 => absurd h1 (by omega), Fr.rf, ht, by rw [tj, show n - j + 1 + 1 - (u + 1) = n - j + 1 - u by omega, Nat.zero_add], hp⟩
  · rintro m e ⟨l4, x6, μ2⟩ he ⟨e1, b, d, hb, b63, bi, bn, ba, f, t4, td, q5⟩
    have hb : l4 = lN b := hb
    subst hb
    have f : Fr (SKF j u) μ μ2 := f
    have t4 : rI μ2 99 4 = nI (t0 + d) := t4
    have q1 : rL μ2 100 (17 * u + e) = lN (ct g u e) := (f.l (by unfold SKF; omega)).trans (hE u e (by omega) (by omega))
    have q2 : rL μ2 101 (17 * (j - 1) + e) = lN (Wt g n (j - 1) e) := (f.l (by unfold SKF; omega)).trans (hW e (by omega))
    have q5 : rI μ2 99 5 = nI p0 := q5
    have fe := fl e (by omega) (by omega)
    have f' : Fr (SKF j u) μ (wI μ2 99 4 (nI (t0 + (d + 1)))) := f.wI (by unfold SKF; omega)
    have q5' : rI (wI μ2 99 4 (nI (t0 + (d + 1)))) 99 5 = nI p0 := by rw [rI_wI_off (by omega)]; exact q5
    have te : tr (ct g u) (fun e => ct g u e + Wt g n (j - 1) e) (n - j + 1 + 1 - e) e b = 1 + if min b (ct g u e + Wt g n (j - 1) e) ≤ ct g u e then 0 else tr (ct g u) (fun e => ct g u e + Wt g n (j - 1) e) (n - j + 1 + 1 - (e + 1)) (e + 1) (min b (ct g u e + Wt g n (j - 1) e)) := by
      rw [show n - j + 1 + 1 - e = (n - j + 1 + 1 - (e + 1)) + 1 by omega]; rfl
    have body : ∀ (b' bs' : Nat), b' = min b (ct g u e + Wt g n (j - 1) e) → u < bs' → bs' < e + 1 → ct g u bs' + Wt g n (j - 1) bs' = b' → (∀ e', u < e' → e' < bs' → b' < ct g u e' + Wt g n (j - 1) e') → (∃ μ', F_X5_seek_87 (L_X5_seek_22 m) (nI j) (nI u) (nI (n - j + 1)) (lN b') (nI bs') (nI e) (lN (ct g u e)) (wI μ2 99 4 (nI (t0 + (d + 1)))) = some ((), μ') ∧ SKP g n j u t0 p0 μ μ') ∨ (F_X5_seek_87 (L_X5_seek_22 m) (nI j) (nI u) (nI (n - j + 1)) (lN b') (nI bs') (nI e) (lN (ct g u e)) (wI μ2 99 4 (nI (t0 + (d + 1)))) = L_X5_seek_22 m (nI j) (nI u) (nI (n - j + 1)) (lN b') (nI bs') (nI (e + 1)) (wI μ2 99 4 (nI (t0 + (d + 1)))) ∧ (d + 1) + tr (ct g u) (fun e => ct g u e + Wt g n (j - 1) e) (n - j + 1 + 1 - (e + 1)) (e + 1) b' = trs g n j u) := by
      intro b' bs' eb r1 r2 r3 r4
      clear bn
      have b'63 : b' < 2 ^ 63 := by omega
      unfold F_X5_seek_87
      by_cases hc : ct g u e < b'
      · right
        rw [if_pos ((cmp_lt _ _).mpr ((pk_lLT (by omega) b'63).mpr hc)), lb_e, nI_1]
        refine ⟨rfl, ?_⟩
        rw [te, ← eb, if_neg (by omega)] at td
        omega
      · left
        rw [if_neg (fun z => hc ((pk_lLT (by omega) b'63).mp ((cmp_lt _ _).mp z)))]
        rw [te, ← eb, if_pos (by omega)] at td
        refine seek_fin hn hg hj hu f' (by rw [rI_wI_at]; congr 1; omega) q5' r1 (by omega) r3 r4 (fun e' z1 z2 => ?_)
        rcases Nat.lt_trichotomy e' e with z | z | z
        · have := ba e' z1 z
          omega
        · subst z; omega
        · have := mo e e' (by omega) (by omega) (by omega)
          omega
    have top : L_X5_seek_22 (m + 1) (nI j) (nI u) (nI (n - j + 1)) (lN b) x6 (nI e) μ2 = if b ≤ ct g u e + Wt g n (j - 1) e then F_X5_seek_87 (L_X5_seek_22 m) (nI j) (nI u) (nI (n - j + 1)) (lN b) x6 (nI e) (lN (ct g u e)) (wI μ2 99 4 (nI (t0 + (d + 1)))) else F_X5_seek_87 (L_X5_seek_22 m) (nI j) (nI u) (nI (n - j + 1)) (lN (ct g u e + Wt g n (j - 1) e)) (nI e) (nI e) (lN (ct g u e)) (wI μ2 99 4 (nI (t0 + (d + 1)))) := by
      rw [L_X5_seek_22, if_neg (nI_nlt (by omega) (by omega)), i17, pk_mul, nI_add, gq_in (by omega) (by omega), nx_nI (by omega), show u * 17 + e = 17 * u + e by omega, q1, lb_e, nI_sub1 (by omega), pk_mul, nI_add, gq_in (by omega) (by omega), nx_nI (by omega), show (j - 1) * 17 + e = 17 * (j - 1) + e by omega, q2, lN_add, lb_e, t4, nI_1, lb_e, show t0 + d + 1 = t0 + (d + 1) by omega]
      by_cases hc : b ≤ ct g u e + Wt g n (j - 1) e
      · rw [if_pos hc, if_pos ((cmp_ge _ _).mpr ((pk_lLE b63 (by omega)).mpr hc))]
      · rw [if_neg hc, if_neg (fun z => hc ((pk_lLE b63 (by omega)).mp ((cmp_ge _ _).mp z)))]
    show (∃ μ', L_X5_seek_22 (m + 1) (nI j) (nI u) (nI (n - j + 1)) (lN b) x6 (nI e) μ2 = some ((), μ') ∧ SKP g n j u t0 p0 μ μ') ∨ ∃ s', _ ∧ L_X5_seek_22 (m + 1) (nI j) (nI u) (nI (n - j + 1)) (lN b) x6 (nI e) μ2 = _
    rw [top]
    by_cases hc : b ≤ ct g u e + Wt g n (j - 1) e
    · rw [if_pos hc]
      have hne : u + 1 < e := by
        rcases Nat.lt_or_ge (u + 1) e with z | z
        · exact z
        · have := bi (by omega); omega
      obtain ⟨bs, x1, x2, x3, x4, x5⟩ := bn hne
      have x1 : x6 = nI bs := x1
      subst x1
      rcases body b bs (by omega) x2 (by omega) x4 x5 with z | ⟨z1, z2⟩
      · exact Or.inl z
      · refine Or.inr ⟨(lN b, nI bs, wI μ2 99 4 (nI (t0 + (d + 1)))), ⟨by omega, b, d + 1, rfl, b63, fun z => by omega, fun _ => ⟨bs, rfl, x2, by omega, x4, x5⟩, fun e' y1 y2 => ?_, f', rI_wI_at, z2, q5'⟩, z1⟩
        rcases Nat.lt_or_ge e' e with y | y
        · exact ba e' y1 y
        · rw [show e' = e by omega]; exact hc
    · rw [if_neg hc]
      rcases body (ct g u e + Wt g n (j - 1) e) e (by omega) (by omega) (by omega) rfl (fun e' y1 y2 => by have := ba e' y1 y2; omega) with z | ⟨z1, z2⟩
      · exact Or.inl z
      · refine Or.inr ⟨(lN (ct g u e + Wt g n (j - 1) e), nI e, wI μ2 99 4 (nI (t0 + (d + 1)))), ⟨by omega, _, d + 1, rfl, by omega, fun z => by omega, fun _ => ⟨e, rfl, by omega, by omega, rfl, fun e' y1 y2 => by have := ba e' y1 y2; omega⟩, fun e' y1 y2 => ?_, f', rI_wI_at, z2, q5'⟩, z1⟩
        rcases Nat.lt_or_ge e' e with y | y
        · have := ba e' y1 y
          omega
        · rw [show e' = e by omega]; exact Nat.le_refl _
  · rintro m ⟨l4, x6, μ2⟩ ⟨e1, b, d, hb, b63, bi, bn, ba, f, t4, td, q5⟩
    have hb : l4 = lN b := hb
    subst hb
    obtain ⟨bs, x1, x2, x3, x4, x5⟩ := bn (by omega)
    clear bn
    have x1 : x6 = nI bs := x1
    subst x1
    show ∃ μ', L_X5_seek_22 (m + 1) (nI j) (nI u) (nI (n - j + 1)) (lN b) (nI bs) (nI (n - j + 1 + 1)) μ2 = some ((), μ') ∧ SKP g n j u t0 p0 μ μ'
    rw [L_X5_seek_22, if_pos (nI_lt (by omega) (by omega))]
    rw [show n - j + 1 + 1 - (n - j + 1 + 1) = 0 by omega, show tr (ct g u) (fun e => ct g u e + Wt g n (j - 1) e) 0 (n - j + 1 + 1) b = 0 from rfl] at td
    exact seek_fin hn hg hj hu f (by rw [show rI μ2 99 4 = nI (t0 + d) from t4]; congr 1; omega) q5 x2 (by omega) x4 x5 (fun e' y1 y2 => ba e' y1 (by omega))
end X
