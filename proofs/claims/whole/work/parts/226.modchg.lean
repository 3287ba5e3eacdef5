/-! the model changes a table -/
section D
variable {t c v K D : Nat} {g g' bd gr : Nat → Nat} {dr w : Nat} {z : Int} {μ : Mem}
theorem bkM (h : MC K g bd gr dr (fun k => rI μ 116 (357 * t + (289 + 34 * c + k)))) (ht : t < 3) (hc : c < 2) (hK : K ≤ 8) (hw : LW v K D g bd gr dr) (hv : v ≤ 16) {i0 : Nat} (h0 : i0 < K) (h1 : bd i0 ≤ w) (h2 : w < bd (i0 + 1)) : G_X11_bucketOf (nI t) (nI c) (nI w) μ = some (nI i0, μ) := by
  unfold G_X11_bucketOf
  have b16 : ∀ i, i ≤ K → bd i ≤ 16 := fun i hi => by have := bd_le hw hi; omega
  have key := loop_up (fun m i (_ : Unit) => L_X11_bucketOf_3 m (nI t) (nI c) (nI w) i μ) i0 (fun _ => ()) (res := some (nI i0, μ)) (fun m i q2 => by
    show L_X11_bucketOf_3 (m + 1) _ _ _ _ _ = _
    have e1 : rI μ 116 (357 * t + (289 + 34 * c + (1 + 4 * i + 1))) = nI (bd (i + 1) - 1) := (h.2.2 i (by omega)).2.1
    have l1 := hw.2.2.1 i (by omega)
    have l2 := bd_mono hw (show i + 1 ≤ i0 by omega) (by omega)
    have l3 := b16 i0 (by omega)
    have l4 := b16 (i0 + 1) (by omega)
    rw [L_X11_bucketOf_3, show (1 : Int32) = nI 1 from rfl, bd_eq (col_of ht hc (by omega) (by omega)), e1, if_neg (nI_ge (by omega) (by omega)), lb_e, nI_add]) (fun m => by
    show L_X11_bucketOf_3 (m + 1) _ _ _ _ _ = _
    have e1 : rI μ 116 (357 * t + (289 + 34 * c + (1 + 4 * i0 + 1))) = nI (bd (i0 + 1) - 1) := (h.2.2 i0 (by omega)).2.1
    have l3 := b16 (i0 + 1) (by omega)
    rw [L_X11_bucketOf_3, show (1 : Int32) = nI 1 from rfl, bd_eq (col_of ht hc (by omega) (by omega)), e1, if_pos (nI_le (by omega) (by omega))])
  exact key 100000 0 (by omega) (by omega)
def mcQ (t c q j : Nat) : Prop := q = 116 ∧ 357 * t + (289 + 34 * c) ≤ j ∧ j < 357 * t + (289 + 34 * c) + 34
theorem drifts_ok (h : MC K g bd gr dr (fun k => rI μ 116 (357 * t + (289 + 34 * c + k)))) (ht : t < 3) (hc : c < 2) (hK : K ≤ 8) (hw : LW v K D g bd gr dr) (hv : v ≤ 16) (hwv : okv v w) (hg : ∀ x, x < 16 → (g' x : Int) = g x + if x = w then z else 0) (hs : fb_sm g v ≤ 999) (hs' : fb_sm g' v ≤ 999) (hz : -1000 < z) (hz2 : z < 1000) : ∃ μ', G_X11_drifts (nI t) (nI c) (ix w) (zI z) μ = some ((), μ') ∧ Fr (mcQ t c) μ μ' ∧ MC K g' bd (if w = 16 then gr else grF g' bd gr w z) (if w = 16 then dr else dr + z.natAbs) (fun k => rI μ' 116 (357 * t + (289 + 34 * c + k))) := by
  have sg : ∀ i, i < K → (seg g' (bd i) (bd (i + 1)) : Int) = seg g (bd i) (bd (i + 1)) + if bd i ≤ w ∧ w < bd (i + 1) then z else 0 := fun i hi => seg_chg (by have := hw.2.2.1 i hi; omega) (fun x hx => hg x (by have := bd_le hw (i := i + 1) (by omega); omega))
  unfold G_X11_drifts
  by_cases e16 : w = 16
  · subst e16
    rw [if_pos ix_16, if_pos rfl, if_pos rfl]
    refine ⟨μ, rfl, Fr.rf, h.1, h.2.1, fun i hi => ?_⟩
    obtain ⟨t1, t2, t3, t4⟩ := h.2.2 i hi
    refine ⟨t1, t2, ?_, t4⟩
    have s := sg i hi
    have := bd_le hw (i := i + 1) (by omega)
    rw [if_neg (by omega)] at s
    rw [show seg g' (bd i) (bd (i + 1)) = seg g (bd i) (bd (i + 1)) by omega]
    exact t3
  · have hwv' : w < v := hwv.resolve_left e16
    rw [if_neg (ix_ne (by omega)), ix_n e16, if_neg e16, if_neg e16]
    obtain ⟨i0, h0, h1, h2⟩ := bkt hw hwv'
    have s0 := sg i0 h0
    rw [if_pos ⟨h1, h2⟩] at s0
    have lim := hw.2.2.1 i0 h0
    have lim2 := bd_le hw (i := i0 + 1) (by omega)
    have n1 : seg g' (bd i0) (bd (i0 + 1)) ≤ 999 := Nat.le_trans (ss_le (g := g') (n := v) (a := bd i0) (w := bd (i0 + 1) - bd i0) (by omega)) hs'
    have n3 : seg g (bd i0) (bd (i0 + 1)) ≤ 999 := Nat.le_trans (ss_le (g := g) (n := v) (a := bd i0) (w := bd (i0 + 1) - bd i0) (by omega)) hs
    have n2 := hw.2.2.2.1 i0 h0
    have r1 : rI μ 116 (357 * t + (289 + 34 * c + (1 + 4 * i0 + 2))) = nI (seg g (bd i0) (bd (i0 + 1))) := (h.2.2 i0 h0).2.2.1
    have r2 : rI μ 116 (357 * t + (289 + 34 * c + (1 + 4 * i0 + 3))) = nI (gr i0) := (h.2.2 i0 h0).2.2.2
    have r3 : rI μ 116 (357 * t + (289 + 34 * c + 33)) = nI dr := h.2.1
    have gr0 : grF g' bd gr w z i0 = min (seg g' (bd i0) (bd (i0 + 1))) (gr i0 + z.toNat) := (if_pos ⟨h1, h2⟩).trans (Nat.min_comm _ _)
    have oth : ∀ i, i < K → i ≠ i0 → ¬ (bd i ≤ w ∧ w < bd (i + 1)) := fun i hi hne q => by
      rcases Nat.lt_or_ge i i0 with c | c
      · have := bd_mono hw (show i + 1 ≤ i0 by omega) (by omega); omega
      · have := bd_mono hw (show i0 + 1 ≤ i by omega) (by omega); omega
    refine ⟨wI (wI (wI μ 116 (357 * t + (289 + 34 * c + (1 + 4 * i0 + 2))) (nI (seg g' (bd i0) (bd (i0 + 1))))) 116 (357 * t + (289 + 34 * c + (1 + 4 * i0 + 3))) (nI (grF g' bd gr w z i0))) 116 (357 * t + (289 + 34 * c + 33)) (nI (dr + z.natAbs)), ?_, ((Fr.rf.wI (by unfold mcQ; omega)).wI (by unfold mcQ; omega)).wI (by unfold mcQ; omega), ?_, rI_wI_at, fun i hi => ?_⟩
    · rw [bd_eq (bkM h ht hc hK hw hv h0 h1 h2), show (2 : Int32) = nI 2 from rfl, bd_eq (col_of ht hc (by omega) (by omega)), r1, nI_Z s0, lb_e, bd_eq (put_eq ht hc (by omega) (by omega)), show (3 : Int32) = nI 3 from rfl, bd_eq (col_of ht hc (by omega) (by omega)), rI_wI_off (by omega), r2, (zI_max (by omega) (by omega)).2, nI_add, imin_nI (by omega) (by omega), ← gr0, bd_eq (put_eq ht hc (by omega) (by omega)), bd_eq (col_drift_at ht hc), gq_in (by omega) (by omega), nx_nI (by omega), rI_wI_off (by omega), rI_wI_off (by omega), r3]
      unfold F_X11_drifts_94
      have ab := (zI_abs (z := z) (by omega) (by omega)).2
      by_cases hsg : 0 ≤ zI z
      · rw [if_pos hsg] at ab
        rw [if_pos hsg, ab, nI_add, gq_in (by omega) (by omega), nx_nI (by omega), lb_e]
      · rw [if_neg hsg] at ab
        rw [if_neg hsg, ab, nI_add, gq_in (by omega) (by omega), nx_nI (by omega), lb_e]
    · show rI (wI (wI (wI μ _ _ _) _ _ _) _ _ _) 116 (357 * t + (289 + 34 * c + 0)) = _
      rw [rI_wI_off (by omega), rI_wI_off (by omega), rI_wI_off (by omega)]; exact h.1
    · obtain ⟨t1, t2, t3, t4⟩ := h.2.2 i hi
      refine ⟨?_, ?_, ?_, ?_⟩
      · show rI (wI (wI (wI μ _ _ _) _ _ _) _ _ _) 116 (357 * t + (289 + 34 * c + (1 + 4 * i))) = _
        rw [rI_wI_off (by omega), rI_wI_off (by omega), rI_wI_off (by omega)]; exact t1
      · show rI (wI (wI (wI μ _ _ _) _ _ _) _ _ _) 116 (357 * t + (289 + 34 * c + (1 + 4 * i + 1))) = _
        rw [rI_wI_off (by omega), rI_wI_off (by omega), rI_wI_off (by omega)]; exact t2
      · show rI (wI (wI (wI μ _ _ _) _ _ _) _ _ _) 116 (357 * t + (289 + 34 * c + (1 + 4 * i + 2))) = _
        rw [rI_wI_off (by omega), rI_wI_off (by omega)]
        by_cases q : i = i0
        · subst q; exact rI_wI_at
        · have s := sg i hi
          rw [if_neg (oth i hi q)] at s
          rw [rI_wI_off (by omega), show seg g' (bd i) (bd (i + 1)) = seg g (bd i) (bd (i + 1)) by omega]
          exact t3
      · show rI (wI (wI (wI μ _ _ _) _ _ _) _ _ _) 116 (357 * t + (289 + 34 * c + (1 + 4 * i + 3))) = _
        rw [rI_wI_off (by omega)]
        by_cases q : i = i0
        · subst q; exact rI_wI_at
        · rw [rI_wI_off (by omega), rI_wI_off (by omega), show grF g' bd gr w z i = gr i from if_neg (oth i hi q)]
          exact t4
theorem chcol_ok {f : Nat → Nat → Nat} {B n : Nat} (hE : CE f (fun k => rI μ 116 (357 * t + k))) (h : MC K (cn f c) bd (if w = 16 then gr else grF (cn f c) bd gr w z) (if w = 16 then dr else dr + z.natAbs) (fun k => rI μ 116 (357 * t + (289 + 34 * c + k)))) (ht : t < 3) (hc : c < 2) (hv : v ≤ 16) (hv1 : 1 ≤ v) (hB1 : 1 ≤ B) (hB8 : B ≤ 8) (hK : K = min B v) (hD : D ≤ 99) (hdr : dr ≤ D) (hz : -1000 < z) (hz2 : z < 1000) (hs' : fb_sm (cn f c) v ≤ 999) (h112 : rI μ 112 0 = nI B) (h112' : rI μ 112 1 = nI D) (h113 : rI μ 113 t = nI v) : ∃ μ', L_X11_change_37 (n + 1) (nI t) (nI c) μ = L_X11_change_37 n (nI t) (nI (c + 1)) μ' ∧ Fr (cQ t c) μ μ' ∧ MC K (cn f c) (cs1 v K D (cn f c) bd dr w z) (cs2 v K D (cn f c) bd gr dr w z) (cs3 D dr w z) (fun k => rI μ' 116 (357 * t + (289 + 34 * c + k))) := by
  unfold cs1 cs2 cs3
  have d1 : rI μ 116 (357 * t + (289 + 34 * c + 33)) = nI (if w = 16 then dr else dr + z.natAbs) := h.2.1
  rw [L_X11_change_37, if_neg (l_nle hc (by omega)), bd_eq (col_drift_at ht hc), gq_in (by omega) (by omega), nx_nI (by omega), d1, h112']
  unfold F_X11_change_70
  by_cases e16 : w = 16
  · rw [if_pos e16] at h ⊢
    rw [if_pos e16] at h
    rw [if_pos (nI_le hdr (by omega)), if_pos e16, if_pos e16, if_pos e16, lb_e, nI_1]
    exact ⟨μ, rfl, Fr.rf, h⟩
  · rw [if_neg e16] at h ⊢
    rw [if_neg e16] at h
    rw [if_neg e16, if_neg e16, if_neg e16]
    by_cases hq : D < dr + z.natAbs
    · rw [if_neg (nI_ge hq (by omega)), if_pos hq, if_pos hq, if_pos hq]
      obtain ⟨μ2, e2, f2, x2⟩ := buildNow_ok (B := B) hE ht hc hv hv1 h113 h112 hB1 hB8 hs'
      rw [bd_eq e2, lb_e, nI_1]
      refine ⟨μ2, rfl, f2, ?_⟩
      rw [hK]
      exact x2
    · rw [if_pos (nI_le (by omega) (by omega)), if_neg hq, if_neg hq, if_neg hq, lb_e, nI_1]
      exact ⟨μ, rfl, Fr.rf, h⟩
end D
def tbQ (t q j : Nat) : Prop := qM q j ∨ (q = 116 ∧ 357 * t ≤ j ∧ j < 357 * t + 357)
theorem changeM {v B D t a b : Nat} {z : Int} {f : Nat → Nat → Nat} {bd gr : Nat → Nat → Nat} {dr : Nat → Nat} {μ : Mem} (h : MT (min B v) f bd gr dr (fun k => rI μ 116 (357 * t + k))) (hs : SW v (min B v) D f bd gr dr) (ht : t < 3) (ha : okv v a) (hb : okv v b) (h0 : 0 ≤ (f a b : Int) + z) (hr : (rws f : Int) + z ≤ 999) (hv : v ≤ 16) (hv1 : 1 ≤ v) (hB1 : 1 ≤ B) (hB8 : B ≤ 8) (hD : D ≤ 99) (hz : -1000 < z) (hz2 : z < 1000) (h112 : rI μ 112 0 = nI B) (h112' : rI μ 112 1 = nI D) (h113 : rI μ 113 t = nI v) : ∃ μ', G_X11_change (nI t) (ix a) (ix b) (zI z) μ = some ((), μ') ∧ Fr (tbQ t) μ μ' ∧ MT (min B v) (chf f a b z) (tb1 v (min B v) D (chf f a b z) bd dr a b z) (tb2 v (min B v) D (chf f a b z) bd gr dr a b z) (tb3 D dr a b z) (fun k => rI μ' 116 (357 * t + k)) := by
  have a16 := ha.le hv
  have b16 := hb.le hv
  have ch := chf_Chg h0
  have hrw := ch.rwn a16 b16
  have hr' : rws (chf f a b z) ≤ 999 := by omega
  obtain ⟨μ1, h1e⟩ : ∃ μ1, μ1 = wI μ 116 (357 * t + (17 * a + b)) (nI (chf f a b z a b)) := ⟨_, rfl⟩
  have f1 : Fr (fun q j => q = 116 ∧ 357 * t ≤ j ∧ j < 357 * t + 289) μ μ1 := by rw [h1e]; exact Fr.rf.wI (by omega)
  have E1 : CE (chf f a b z) (fun k => rI μ1 116 (357 * t + k)) := fun x y hx hy => by
    show rI μ1 116 (357 * t + (17 * x + y)) = _
    by_cases q : x = a ∧ y = b
    · rw [q.1, q.2, h1e, rI_wI_at]
    · rw [h1e, rI_wI_off (by omega), ch.1 x y q]
      exact h.1 x y hx hy
  have c0 : MC (min B v) (cn f 0) (bd 0) (gr 0) (dr 0) (fun k => rI μ1 116 (357 * t + (289 + 34 * 0 + k))) := (h.2 0 (by omega)).agb (by omega) (fun k hk => f1.i (by omega))
  obtain ⟨μ2, e2, f2, m2⟩ := drifts_ok (w := a) (z := z) (g' := cn (chf f a b z) 0) c0 ht (by omega) (by omega) (hs.2.2 0 (by omega)) hv ha (fun x _ => by have := ch.cnt a16 b16 (c := 0) (by omega) x; rw [if_pos rfl] at this; exact this) (Nat.le_trans (cn_sm f (by omega) (by omega)) hs.2.1) (Nat.le_trans (cn_sm _ (by omega) (by omega)) hr') hz hz2
  have c1 : MC (min B v) (cn f 1) (bd 1) (gr 1) (dr 1) (fun k => rI μ2 116 (357 * t + (289 + 34 * 1 + k))) := (h.2 1 (by omega)).agb (by omega) (fun k hk => (f2.i (by unfold mcQ; omega)).trans (f1.i (by omega)))
  obtain ⟨μ3, e3, f3, m3⟩ := drifts_ok (w := b) (z := z) (g' := cn (chf f a b z) 1) c1 ht (by omega) (by omega) (hs.2.2 1 (by omega)) hv hb (fun x _ => by have := ch.cnt a16 b16 (c := 1) (by omega) x; rw [if_neg (show ¬ (1 : Nat) = 0 by omega)] at this; exact this) (Nat.le_trans (cn_sm f (by omega) (by omega)) hs.2.1) (Nat.le_trans (cn_sm _ (by omega) (by omega)) hr') hz hz2
  have E3 : CE (chf f a b z) (fun k => rI μ3 116 (357 * t + k)) := fun x y hx hy => (f3.i (by unfold mcQ; omega)).trans ((f2.i (by unfold mcQ; omega)).trans (E1 x y hx hy))
  have g3 : ∀ q j, q ≠ 116 → rI μ3 q j = rI μ q j := fun q j hq => (f3.i (by unfold mcQ; omega)).trans ((f2.i (by unfold mcQ; omega)).trans (f1.i (by omega)))
  obtain ⟨μ4, e4, f4, m4⟩ := chcol_ok (n := 99999) (B := B) (w := a) (z := z) E3 (m2.agb (by omega) (fun k hk => f3.i (by unfold mcQ; omega))) ht (by omega) hv hv1 hB1 hB8 rfl hD (hs.2.2 0 (by omega)).2.2.2.2 hz hz2 (Nat.le_trans (cn_sm _ (by omega) (by omega)) hr') ((g3 _ _ (by omega)).trans h112) ((g3 _ _ (by omega)).trans h112') ((g3 _ _ (by omega)).trans h113)
  have E4 : CE (chf f a b z) (fun k => rI μ4 116 (357 * t + k)) := fun x y hx hy => (f4.i (by unfold cQ qM; omega)).trans (E3 x y hx hy)
  have g4 : ∀ q j, q = 112 ∨ q = 113 → rI μ4 q j = rI μ q j := fun q j hq => (f4.i (by unfold cQ qM; omega)).trans (g3 q j (by omega))
  obtain ⟨μ5, e5, f5, m5⟩ := chcol_ok (n := 99998) (B := B) (w := b) (z := z) E4 (m3.agb (by omega) (fun k hk => f4.i (by unfold cQ qM; omega))) ht (by omega) hv hv1 hB1 hB8 rfl hD (hs.2.2 1 (by omega)).2.2.2.2 hz hz2 (Nat.le_trans (cn_sm _ (by omega) (by omega)) hr') ((g4 _ _ (by omega)).trans h112) ((g4 _ _ (by omega)).trans h112') ((g4 _ _ (by omega)).trans h113)
  refine ⟨μ5, ?_, ((((f1.mono (fun q j z => by unfold tbQ; omega)).tr (f2.mono (fun q j z => by unfold mcQ at z; unfold tbQ; omega))).tr (f3.mono (fun q j z => by unfold mcQ at z; unfold tbQ; omega))).tr (f4.mono (fun q j z => by unfold cQ at z; unfold tbQ; rcases z with z | z; exact Or.inl z; right; omega))).tr (f5.mono (fun q j z => by unfold cQ at z; unfold tbQ; rcases z with z | z; exact Or.inl z; right; omega)), fun x y hx hy => (f5.i (by unfold cQ qM; omega)).trans (E4 x y hx hy), fun c hc => ?_⟩
  · unfold G_X11_change
    have e0 : rI μ 116 (357 * t + (17 * a + b)) = nI (f a b) := h.1 a b a16 b16
    rw [bd_eq (place_ix ht a16 b16), gq_in (by omega) (by omega), gq_in (by omega) (by omega), nx_nI (by omega), e0, nI_Z ch.2, lb_e, ← h1e, show (0 : Int32) = nI 0 from rfl, bd_eq e2, show (1 : Int32) = nI 1 from rfl, bd_eq e3, e4, e5, L_X11_change_37, if_pos (by decide)]
  · rcases (show c = 0 ∨ c = 1 by omega) with rfl | rfl
    · exact m4.agb (by omega) (fun k hk => f5.i (by unfold cQ qM; omega))
    · exact m5
section M
variable {T : Nat} {V : Nat → Nat} {B D m : Nat} {S : Nat → St} {μ : Mem} {σ : St}
theorem mb_tab {t : Nat} {f : Nat → Nat → Nat} {bd gr : Nat → Nat → Nat} {dr : Nat → Nat} {nb nb' : Nat → Int32} (h : MB T V B σ nb) (hT : T ≤ 3) (hB : B ≤ 8) (ht : t < T) (e : ∀ k, k < 357 * t ∨ 357 * t + 357 ≤ k → nb' k = nb k) (hm : MT (min B (V t)) f bd gr dr (fun k => nb' (357 * t + k))) : MB T V B (stT σ t f bd gr dr) nb' := by
  refine ⟨fun t' ht' => ?_, fun h0 => (e _ (by omega)).trans (h.2.1 h0), h.2.2.agb (fun k q1 q2 => e k (by omega))⟩
  by_cases et : t' = t
  · subst et
    rw [stT_f, stT_b, stT_g, stT_d]
    exact hm
  · obtain ⟨s1, s2, s3, s4⟩ := stT_o (σ := σ) (t := t) (f := f) (bd := bd) (gr := gr) (dr := dr) et
    rw [s1, s2, s3, s4]
    exact (h.1 t' ht').agb (by omega) (fun k hk => e _ (by omega))
theorem mmd_change {t a b : Nat} {z : Int} (h : mmd T V B D m S σ μ) (hC : CW T V B D) (hσ : WFS T V B D σ) (ht : t < T) (ha : okv (V t) a) (hb : okv (V t) b) (h0 : 0 ≤ (sf σ t a b : Int) + z) (hr : (rws (sf σ t) : Int) + z ≤ 999) (hz : -1000 < z) (hz2 : z < 1000) : ∃ μ', G_X11_change (nI t) (ix a) (ix b) (zI z) μ = some ((), μ') ∧ Fr amQ μ μ' ∧ mmd T V B D m S (chT V B D σ t a b z) μ' := by
  have hT := hC.1
  have hV := hC.2.2 t ht
  have hB := hC.2.1 (by omega)
  obtain ⟨h1, h2, h3, h4, h5, h6, h7⟩ := h
  obtain ⟨μ', e, f, X⟩ := changeM (h5.1 t ht) (hσ.1 t ht) (by omega) ha hb h0 hr hV.2 (by omega) hB.1 hB.2.1 hB.2.2 hz hz2 h2 h3 (h4 t ht)
  refine ⟨μ', e, f.mono (fun q j z => by unfold tbQ qM at z; unfold amQ; omega), (f.i (by unfold tbQ qM; omega)).trans h1, (f.i (by unfold tbQ qM; omega)).trans h2, (f.i (by unfold tbQ qM; omega)).trans h3, fun t' ht' => (f.i (by unfold tbQ qM; omega)).trans (h4 t' ht'), mb_tab h5 hT hB.2.1 ht (fun k hk => f.i (by unfold tbQ qM; omega)) X, (f.i (by unfold tbQ qM; omega)).trans h6, fun j hj => (h7 j hj).agb hT (fun _ => hB.2.1) (fun k _ => f.i (by unfold tbQ qM; omega))⟩
theorem mmd_build {t c : Nat} (h : mmd T V B D m S σ μ) (hC : CW T V B D) (hσ : WFS T V B D σ) (ht : t < T) (hc : c < 2) : ∃ μ', G_X11_buildNow (nI t) (nI c) μ = some ((), μ') ∧ Fr amQ μ μ' ∧ mmd T V B D m S (blT V B σ t c) μ' := by
  have hT := hC.1
  have hV := hC.2.2 t ht
  have hB := hC.2.1 (by omega)
  obtain ⟨h1, h2, h3, h4, h5, h6, h7⟩ := h
  have hE : CE (sf σ t) (fun k => rI μ 116 (357 * t + k)) := (h5.1 t ht).1
  obtain ⟨μ', e, f, X⟩ := buildNow_ok (B := B) hE (by omega) hc hV.2 (by omega) (h4 t ht) h2 hB.1 hB.2.1 (Nat.le_trans (cn_sm (sf σ t) hc (by omega)) (hσ.1 t ht).2.1)
  refine ⟨μ', e, f.mono (fun q j z => by unfold cQ qM at z; unfold amQ; omega), (f.i (by unfold cQ qM; omega)).trans h1, (f.i (by unfold cQ qM; omega)).trans h2, (f.i (by unfold cQ qM; omega)).trans h3, fun t' ht' => (f.i (by unfold cQ qM; omega)).trans (h4 t' ht'), mb_tab h5 hT hB.2.1 ht (fun k hk => f.i (by unfold cQ qM; omega)) ⟨fun a b ha hb => (f.i (by unfold cQ qM; omega)).trans (hE a b ha hb), fun c' hc' => ?_⟩, (f.i (by unfold cQ qM; omega)).trans h6, fun j hj => (h7 j hj).agb hT (fun _ => hB.2.1) (fun k _ => f.i (by unfold cQ qM; omega))⟩
  dsimp only
  by_cases ec : c' = c
  · subst ec
    rw [if_pos rfl, if_pos rfl, if_pos rfl]
    exact X
  · rw [if_neg ec, if_neg ec, if_neg ec]
    exact ((h5.1 t ht).2 c' hc').agb (by omega) (fun k hk => f.i (by unfold cQ qM; omega))
theorem mmd_budget {n : Nat} (h : mmd T V B D m S σ μ) (hC : CW T V B D) (hT0 : 0 < T) : Fr amQ μ (wI μ 116 1071 (nI n)) ∧ mmd T V B D m S (stU σ n) (wI μ 116 1071 (nI n)) := by
  have hT := hC.1
  have hB := hC.2.1 hT0
  obtain ⟨h1, h2, h3, h4, h5, h6, h7⟩ := h
  refine ⟨Fr.rf.wI (by unfold amQ; omega), (rI_wI_ne (by omega)).trans h1, (rI_wI_ne (by omega)).trans h2, (rI_wI_ne (by omega)).trans h3, fun t ht => (rI_wI_ne (by omega)).trans (h4 t ht), ⟨fun t ht => (h5.1 t ht).agb (by omega) (fun k hk => rI_wI_off (by omega)), fun _ => rI_wI_at, h5.2.2.agb (fun k q1 q2 => rI_wI_off (by omega))⟩, (rI_wI_ne (by omega)).trans h6, fun j hj => (h7 j hj).agb hT (fun _ => hB.2.1) (fun k _ => rI_wI_ne (by omega))⟩
theorem undoM_ok (h : mdX T V B D m S μ) (hw : wfP T V B D m S) (hm : 1 ≤ m) : ∃ μ', G_X11_undo μ = some (nI (m - 1), μ') ∧ Fr amQ μ μ' ∧ mdX T V B D (m - 1) (fun j => S (j + 1)) μ' := by
  obtain ⟨h1, h2, h3, h4, h5, h6, h7⟩ := h
  have hC := hw.1
  have hT := hC.1
  have hB : 0 < T → B ≤ 8 := fun z => (hC.2.1 z).2.1
  have hm40 := hw.2.2.1
  have m0 := h7 0 (by omega)
  rw [Nat.sub_zero] at m0
  unfold G_X11_undo
  rw [h6, if_neg (nI_ne0 hm (by omega)), nI_sub1 hm, lb_e]
  refine loop_inv (fun n i (s : Mem) => L_X11_undo_21 n i s) 1253 (fun k s => Fr (fun q j => q = 116 ∨ (q = 107 ∧ j = 23)) μ s ∧ rI s 107 23 = nI (m - 1) ∧ ∀ k', k' < k → rI s 116 k' = rI μ 121 (1253 * (m - 1) + k')) (P := fun o => ∃ μ', o = some (nI (m - 1), μ') ∧ Fr amQ μ μ' ∧ mdX T V B D (m - 1) (fun j => S (j + 1)) μ') ?_ ?_ 100000 0 (wI μ 107 23 (nI (m - 1))) (by omega) (by omega) ⟨Fr.rf.wI (by omega), rI_wI_at, fun k' h => absurd h (by omega)⟩
  · rintro n k s hk ⟨f, y, d⟩
    refine ⟨wI s 116 k (rI s 121 (1253 * (m - 1) + k)), ⟨f.wI (by omega), (rI_wI_ne (by omega)).trans y, fun k' h' => ?_⟩, ?_⟩
    · by_cases e : k' = k
      · subst e; rw [rI_wI_at]; exact f.i (by omega)
      · rw [rI_wI_off e]; exact d k' (by omega)
    · show L_X11_undo_21 (n + 1) (nI k) s = _
      rw [L_X11_undo_21, if_neg (l_nle hk (by omega)), y, show (1253 : Int32) = nI 1253 from rfl, pk_mul, nI_add, gq_in (by omega) (by omega), gq_in (by omega) (by omega), nx_nI (by omega), nx_nI (by omega), lb_e, lb_e, nI_1]
  · rintro n s ⟨f, y, d⟩
    refine ⟨s, ?_, f.mono (fun q j z => by unfold amQ; omega), (f.i (by omega)).trans h1, (f.i (by omega)).trans h2, (f.i (by omega)).trans h3, fun t ht => (f.i (by omega)).trans (h4 t ht), m0.agb hT hB (fun k hk => d k hk), y, fun j hj => ?_⟩
    · show L_X11_undo_21 (n + 1) (nI 1253) s = _
      rw [L_X11_undo_21, if_pos (by decide), y]
    · have := h7 (j + 1) (by omega)
      rw [show m - 1 - (j + 1) = m - 1 - 1 - j by omega] at this
      exact this.agb hT hB (fun k _ => f.i (by omega))
end M
