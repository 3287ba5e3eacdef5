/-! joins by the buckets -/
theorem zI_sub (a b : Nat) : nI a - nI b = zI ((a : Int) - b) := by rw [nI_zI, nI_zI]; exact (Int32.ofInt_sub _ _).symm
theorem zI_1 (z : Int) : zI z + 1 = zI (z + 1) := by rw [show (1 : Int32) = zI 1 from rfl]; exact (Int32.ofInt_add _ _).symm
theorem zI_nat {z : Int} (h : 0 ≤ z) : zI z = nI z.toNat := by rw [nI_zI, show ((z.toNat : Nat) : Int) = z by omega]
/-- in common -/
def cwN (l1 l2 f1 f2 : Nat) : Nat := min l1 l2 - max f1 f2
theorem cw_z {l1 l2 f1 f2 : Nat} (h1 : 1 ≤ l1) (h2 : 1 ≤ l2) (b1 : l1 ≤ 16) (b2 : l2 ≤ 16) (c1 : f1 ≤ 16) (c2 : f2 ≤ 16) : imin (nI (l1 - 1)) (nI (l2 - 1)) - imax (nI f1) (nI f2) + 1 = zI ((min l1 l2 : Int) - (max f1 f2 : Int)) := by
  rw [imin_nI (by omega) (by omega), imax_nI (by omega) (by omega), zI_sub, zI_1]
  congr 1
  omega
theorem cw_max {l1 l2 f1 f2 : Nat} (b1 : l1 ≤ 16) (b2 : l2 ≤ 16) (c1 : f1 ≤ 16) (c2 : f2 ≤ 16) : imax 0 (zI ((min l1 l2 : Int) - (max f1 f2 : Int))) = nI (cwN l1 l2 f1 f2) := by
  rw [(zI_max (by omega) (by omega)).2]
  congr 1
  unfold cwN
  omega
theorem lN_pos {n : Nat} (h : n < 2 ^ 63) : lg_cmp (lN n) 0 ≤ 0 ↔ n = 0 := by
  rw [cmp_le, show (0 : Int64) = lN 0 from rfl, pk_lLE h (by omega)]
  omega
theorem zL_pos {l1 l2 f1 f2 : Nat} (b1 : l1 ≤ 16) (b2 : l2 ≤ 16) (c1 : f1 ≤ 16) (c2 : f2 ≤ 16) : lg_cmp (zI ((min l1 l2 : Int) - (max f1 f2 : Int))).toInt64 0 ≤ 0 ↔ cwN l1 l2 f1 f2 = 0 := by
  rw [cmp_le, toL0, fa_wide_le, fa_le, zI_toInt (by omega) (by omega), show (0 : Int32).toInt = 0 from by decide]
  unfold cwN
  omega
theorem zL_nat {l1 l2 f1 f2 : Nat} (b1 : l1 ≤ 16) (b2 : l2 ≤ 16) (h : cwN l1 l2 f1 f2 ≠ 0) : (zI ((min l1 l2 : Int) - (max f1 f2 : Int))).toInt64 = lN (cwN l1 l2 f1 f2) := by
  unfold cwN at h ⊢
  rw [zI_nat (by omega), nI_l (by omega)]
  congr 1
  omega
/-- one pair's part -/
def jp (up : Bool) (w t1 t2 g1 g2 w1 w2 : Nat) : Nat := if w = 0 then 0 else match up with
  | true => min (min (t1 * g2) (t2 * g1)) (w * g1 * g2)
  | false => w * t1 * t2 / (w1 * w2)
theorem jp_le {up : Bool} {w t1 t2 g1 g2 w1 w2 : Nat} (hw : w ≤ 16) (h1 : t1 ≤ 999) (h2 : t2 ≤ 999) (h3 : g1 ≤ 999) (h4 : g2 ≤ 999) : jp up w t1 t2 g1 g2 w1 w2 ≤ 15968016 := by
  unfold jp
  by_cases e : w = 0
  · rw [if_pos e]; omega
  · rw [if_neg e]
    cases up with
    | true =>
      show min (min (t1 * g2) (t2 * g1)) (w * g1 * g2) ≤ _
      have : t1 * g2 ≤ 999 * 999 := Nat.mul_le_mul h1 h4
      omega
    | false =>
      show w * t1 * t2 / (w1 * w2) ≤ _
      have a : w * t1 ≤ 16 * 999 := Nat.mul_le_mul hw h1
      have b : w * t1 * t2 ≤ 16 * 999 * 999 := Nat.mul_le_mul a h2
      have := Nat.div_le_self (w * t1 * t2) (w1 * w2)
      omega
section J
variable {v K D : Nat} {g bd gr : Nat → Nat} {dr p : Nat} {v' K' D' : Nat} {g' bd' gr' : Nat → Nat} {dr' p' : Nat} {μ : Mem}
def jq (up : Bool) (g bd gr g' bd' gr' : Nat → Nat) (i k : Nat) : Nat := jp up (cwN (bd (i + 1)) (bd' (k + 1)) (bd i) (bd' k)) (seg g (bd i) (bd (i + 1))) (seg g' (bd' k) (bd' (k + 1))) (gr i) (gr' k) (bd (i + 1) - bd i) (bd' (k + 1) - bd' k)
def jr (up : Bool) (K K' : Nat) (g bd gr g' bd' gr' : Nat → Nat) : Nat := fb_sm (fun i => fb_sm (fun k => jq up g bd gr g' bd' gr' i k) K') K
theorem LW.fc (h : LW v K D g bd gr dr) (hs : fb_sm g v ≤ 999) (hv : v ≤ 16) {i : Nat} (hi : i < K) : bd i < bd (i + 1) ∧ bd (i + 1) ≤ 16 ∧ seg g (bd i) (bd (i + 1)) ≤ 999 ∧ gr i ≤ 999 := by
  have a := h.2.2.1 i hi
  have b := bd_le h (i := i + 1) (by omega)
  have c := seg_le h hs hi
  have d := h.2.2.2.1 i hi
  omega
theorem common_ok (h : XL v K g bd gr dr p μ) (h' : XL v' K' g' bd' gr' dr' p' μ) (hw : LW v K D g bd gr dr) (hw' : LW v' K' D' g' bd' gr' dr') (hK : K ≤ 8) (hK' : K' ≤ 8) (hv : v ≤ 16) (hv' : v' ≤ 16) (hs : fb_sm g v ≤ 999) (hs' : fb_sm g' v' ≤ 999) {i k : Nat} (hi : i < K) (hk : k < K') : G_X4_commonValues p (nI i) p' (nI k) μ = some (nI (cwN (bd (i + 1)) (bd' (k + 1)) (bd i) (bd' k)), μ) := by
  obtain ⟨a1, a2, -, -⟩ := hw.fc hs hv hi
  obtain ⟨b1, b2, -, -⟩ := hw'.fc hs' hv' hk
  unfold G_X4_commonValues
  rw [bd_eq (lane_first h hK hi), bd_eq (lane_first h' hK' hk), lb_e, bd_eq (lane_last h hw hK hv hi), bd_eq (lane_last h' hw' hK' hv' hk), lb_e, cw_z (by omega) (by omega) a2 b2 (by omega) (by omega), cw_max a2 b2 (by omega) (by omega)]
theorem jU_ok (h : XL v K g bd gr dr p μ) (h' : XL v' K' g' bd' gr' dr' p' μ) (hw : LW v K D g bd gr dr) (hw' : LW v' K' D' g' bd' gr' dr') (hK : K ≤ 8) (hK' : K' ≤ 8) (hv : v ≤ 16) (hv' : v' ≤ 16) (hs : fb_sm g v ≤ 999) (hs' : fb_sm g' v' ≤ 999) : G_X4_joinUpper p p' μ = some (lN (jr true K K' g bd gr g' bd' gr'), μ) := by
  unfold G_X4_joinUpper
  have key := loop_up (fun n i (s : Int64) => L_X4_joinUpper_5 n p p' s i μ) K (fun i => lN (fb_sm (fun i => fb_sm (fun k => jq true g bd gr g' bd' gr' i k) K') i)) (res := some (lN (jr true K K' g bd gr g' bd' gr'), μ)) (fun n i hi => by
    show L_X4_joinUpper_5 (n + 1) _ _ _ _ _ = _
    obtain ⟨a1, a2, a3, a4⟩ := hw.fc hs hv hi
    rw [L_X4_joinUpper_5, bd_eq (lane_size h), if_neg (nI_ge hi (by omega))]
    have key2 := loop_up (fun n' k (s : Int64) => L_X4_joinUpper_17 (L_X4_joinUpper_5 n) n' p p' s (nI i) k μ) K' (fun k => lN (fb_sm (fun i => fb_sm (fun k => jq true g bd gr g' bd' gr' i k) K') i + fb_sm (fun k => jq true g bd gr g' bd' gr' i k) k)) (res := L_X4_joinUpper_5 n p p' (lN (fb_sm (fun i => fb_sm (fun k => jq true g bd gr g' bd' gr' i k) K') (i + 1))) (nI (i + 1)) μ) (fun n' k hk => by
      show L_X4_joinUpper_17 (L_X4_joinUpper_5 n) (n' + 1) _ _ _ _ _ _ = _
      obtain ⟨b1, b2, b3, b4⟩ := hw'.fc hs' hv' hk
      have cl : cwN (bd (i + 1)) (bd' (k + 1)) (bd i) (bd' k) ≤ 16 := by unfold cwN; omega
      rw [L_X4_joinUpper_17, bd_eq (lane_size h'), if_neg (nI_ge hk (by omega)), bd_eq (common_ok h h' hw hw' hK hK' hv hv' hs hs' hi hk), nI_l (by omega), lb_e, bd_eq (lane_greatest h hK hi), nI_l (by omega), lb_e, bd_eq (lane_greatest h' hK' hk), nI_l (by omega), lb_e, bd_eq (lane_total h hK hi), bd_eq (lane_total h' hK' hk), nI_l (by omega), nI_l (by omega), lN_mul, lN_mul, lN_mul, lN_mul]
      have m1 : seg g (bd i) (bd (i + 1)) * gr' k ≤ 999 * 999 := Nat.mul_le_mul a3 b4
      have m2 : seg g' (bd' k) (bd' (k + 1)) * gr i ≤ 999 * 999 := Nat.mul_le_mul b3 a4
      have m3 : cwN (bd (i + 1)) (bd' (k + 1)) (bd i) (bd' k) * gr i ≤ 16 * 999 := Nat.mul_le_mul cl a4
      have m4 : cwN (bd (i + 1)) (bd' (k + 1)) (bd i) (bd' k) * gr i * gr' k ≤ 16 * 999 * 999 := Nat.mul_le_mul m3 b4
      rw [lmin_lN (by omega) (by omega), lb_e, lmin_lN (by omega) (by omega), lN_add, lb_e]
      unfold F_X4_joinUpper_104
      rw [lb_e, lb_e, nI_1, fb_sm_succ, ← Nat.add_assoc]
      by_cases q : cwN (bd (i + 1)) (bd' (k + 1)) (bd i) (bd' k) = 0
      · rw [if_pos ((lN_pos (by omega)).mpr q), show jq true g bd gr g' bd' gr' i k = 0 from if_pos q]
        rfl
      · rw [if_neg (fun z => q ((lN_pos (by omega)).mp z)), show jq true g bd gr g' bd' gr' i k = min (min (seg g (bd i) (bd (i + 1)) * gr' k) (seg g' (bd' k) (bd' (k + 1)) * gr i)) (cwN (bd (i + 1)) (bd' (k + 1)) (bd i) (bd' k) * gr i * gr' k) from if_neg q]) (fun n' => by
      show L_X4_joinUpper_17 (L_X4_joinUpper_5 n) (n' + 1) _ _ _ _ _ _ = _
      rw [L_X4_joinUpper_17, bd_eq (lane_size h'), if_pos (nI_le (Nat.le_refl _) (by omega)), lb_e, nI_1]
      rfl)
    exact key2 100000 0 (by omega) (by omega)) (fun n => by
    show L_X4_joinUpper_5 (n + 1) _ _ _ _ _ = _
    rw [L_X4_joinUpper_5, bd_eq (lane_size h), if_pos (nI_le (Nat.le_refl _) (by omega))]
    rfl)
  exact key 100000 0 (by omega) (by omega)
theorem jE_ok (h : XL v K g bd gr dr p μ) (h' : XL v' K' g' bd' gr' dr' p' μ) (hw : LW v K D g bd gr dr) (hw' : LW v' K' D' g' bd' gr' dr') (hK : K ≤ 8) (hK' : K' ≤ 8) (hv : v ≤ 16) (hv' : v' ≤ 16) (hs : fb_sm g v ≤ 999) (hs' : fb_sm g' v' ≤ 999) : G_X4_joinEstimate p p' μ = some (lN (jr false K K' g bd gr g' bd' gr'), μ) := by
  unfold G_X4_joinEstimate
  have key := loop_up (fun n i (s : Int64) => L_X4_joinEstimate_5 n p p' s i μ) K (fun i => lN (fb_sm (fun i => fb_sm (fun k => jq false g bd gr g' bd' gr' i k) K') i)) (res := some (lN (jr false K K' g bd gr g' bd' gr'), μ)) (fun n i hi => by
    show L_X4_joinEstimate_5 (n + 1) _ _ _ _ _ = _
    obtain ⟨a1, a2, a3, a4⟩ := hw.fc hs hv hi
    rw [L_X4_joinEstimate_5, bd_eq (lane_size h), if_neg (nI_ge hi (by omega))]
    have key2 := loop_up (fun n' k (s : Int64) => L_X4_joinEstimate_17 (L_X4_joinEstimate_5 n) n' p p' s (nI i) k μ) K' (fun k => lN (fb_sm (fun i => fb_sm (fun k => jq false g bd gr g' bd' gr' i k) K') i + fb_sm (fun k => jq false g bd gr g' bd' gr' i k) k)) (res := L_X4_joinEstimate_5 n p p' (lN (fb_sm (fun i => fb_sm (fun k => jq false g bd gr g' bd' gr' i k) K') (i + 1))) (nI (i + 1)) μ) (fun n' k hk => by
      show L_X4_joinEstimate_17 (L_X4_joinEstimate_5 n) (n' + 1) _ _ _ _ _ _ = _
      obtain ⟨b1, b2, b3, b4⟩ := hw'.fc hs' hv' hk
      have cl : cwN (bd (i + 1)) (bd' (k + 1)) (bd i) (bd' k) ≤ 16 := by unfold cwN; omega
      have wp : 0 < (bd (i + 1) - bd i) * (bd' (k + 1) - bd' k) := Nat.mul_pos (by omega) (by omega)
      have wl : (bd (i + 1) - bd i) * (bd' (k + 1) - bd' k) ≤ 16 * 16 := Nat.mul_le_mul (by omega) (by omega)
      have m3 : cwN (bd (i + 1)) (bd' (k + 1)) (bd i) (bd' k) * seg g (bd i) (bd (i + 1)) ≤ 16 * 999 := Nat.mul_le_mul cl a3
      have m4 : cwN (bd (i + 1)) (bd' (k + 1)) (bd i) (bd' k) * seg g (bd i) (bd (i + 1)) * seg g' (bd' k) (bd' (k + 1)) ≤ 16 * 999 * 999 := Nat.mul_le_mul m3 b3
      rw [L_X4_joinEstimate_17, bd_eq (lane_size h'), if_neg (nI_ge hk (by omega)), bd_eq (common_ok h h' hw hw' hK hK' hv hv' hs hs' hi hk), nI_l (by omega), lb_e, bd_eq (lane_width h hw hK hv hi), bd_eq (lane_width h' hw' hK' hv' hk), nI_l (by omega), nI_l (by omega), lN_mul, lb_e, bd_eq (lane_total h hK hi), bd_eq (lane_total h' hK' hk), nI_l (by omega), nI_l (by omega), lN_mul, lN_mul, gq_lN wp (by omega), pk_lDiv (by omega) wp (by omega), lN_add, lb_e]
      unfold F_X4_joinEstimate_93
      rw [lb_e, lb_e, nI_1, fb_sm_succ, ← Nat.add_assoc]
      by_cases q : cwN (bd (i + 1)) (bd' (k + 1)) (bd i) (bd' k) = 0
      · rw [if_pos ((lN_pos (by omega)).mpr q), show jq false g bd gr g' bd' gr' i k = 0 from if_pos q]
        rfl
      · rw [if_neg (fun z => q ((lN_pos (by omega)).mp z)), if_neg (fun z => by have := (lN_pos (by omega)).mp z; omega), show jq false g bd gr g' bd' gr' i k = cwN (bd (i + 1)) (bd' (k + 1)) (bd i) (bd' k) * seg g (bd i) (bd (i + 1)) * seg g' (bd' k) (bd' (k + 1)) / ((bd (i + 1) - bd i) * (bd' (k + 1) - bd' k)) from if_neg q]) (fun n' => by
      show L_X4_joinEstimate_17 (L_X4_joinEstimate_5 n) (n' + 1) _ _ _ _ _ _ = _
      rw [L_X4_joinEstimate_17, bd_eq (lane_size h'), if_pos (nI_le (Nat.le_refl _) (by omega)), lb_e, nI_1]
      rfl)
    exact key2 100000 0 (by omega) (by omega)) (fun n => by
    show L_X4_joinEstimate_5 (n + 1) _ _ _ _ _ = _
    rw [L_X4_joinEstimate_5, bd_eq (lane_size h), if_pos (nI_le (Nat.le_refl _) (by omega))]
    rfl)
  exact key 100000 0 (by omega) (by omega)
end J
section JM
variable {c0 : Nat} {μ : Mem} {T : Nat} {V : Nat → Nat} {B D m : Nat} {S : Nat → St}
def jrT (V : Nat → Nat) (B : Nat) (σ : St) (up : Bool) (t c o d : Nat) : Nat := jr up (min B (V t)) (min B (V o)) (cn (sf σ t) c) (sb σ t c) (sg σ t c) (cn (sf σ o) d) (sb σ o d) (sg σ o d)
theorem jB_ok (h : RB c0 T V B D m S μ) {t c o d : Nat} (ht : t < T) (hc : c < 2) (ho : o < T) (hd : d < 2) (up : Bool) : G_X11_joinBy (nI t) (nI c) (nI o) (nI d) (match up with | true => 1 | false => 0) μ = some (lN (jrT V B (S 0) up t c o d), μ) := by
  have hT := h.T3
  have hw := (h.sw ht).2.2 c hc
  have hw' := (h.sw ho).2.2 d hd
  have hs := h.le ht hc
  have hs' := h.le ho hd
  have hV := h.V2 ht
  have hV' := h.V2 ho
  have hK := h.K8 ht
  have hK' := h.K8 ho
  have hM := h.tab ht
  have hM' := h.tab ho
  unfold jrT
  generalize hg : cn (sf (S 0) t) c = g at *
  generalize hb : sb (S 0) t c = bd at *
  generalize hgr : sg (S 0) t c = gr at *
  generalize hg' : cn (sf (S 0) o) d = g' at *
  generalize hb' : sb (S 0) o d = bd' at *
  generalize hgr' : sg (S 0) o d = gr' at *
  unfold G_X11_joinBy
  have o0 : ∀ i, i < min B (V t) → G_X11_of (nI t) (nI c) (nI i) 0 μ = some (nI (bd i), μ) := fun i hi => by rw [← hb]; exact col_of0 hM (by omega) hc hK.2.1 hi
  have o1 : ∀ i, i < min B (V t) → G_X11_of (nI t) (nI c) (nI i) 1 μ = some (nI (bd (i + 1) - 1), μ) := fun i hi => by rw [← hb]; exact col_of1 hM (by omega) hc hK.2.1 hi
  have o2 : ∀ i, i < min B (V t) → G_X11_of (nI t) (nI c) (nI i) 2 μ = some (nI (seg g (bd i) (bd (i + 1))), μ) := fun i hi => by rw [← hb, ← hg]; exact col_of2 hM (by omega) hc hK.2.1 hi
  have o3 : ∀ i, i < min B (V t) → G_X11_of (nI t) (nI c) (nI i) 3 μ = some (nI (gr i), μ) := fun i hi => by rw [← hgr]; exact col_of3 hM (by omega) hc hK.2.1 hi
  have p0 : ∀ i, i < min B (V o) → G_X11_of (nI o) (nI d) (nI i) 0 μ = some (nI (bd' i), μ) := fun i hi => by rw [← hb']; exact col_of0 hM' (by omega) hd hK'.2.1 hi
  have p1 : ∀ i, i < min B (V o) → G_X11_of (nI o) (nI d) (nI i) 1 μ = some (nI (bd' (i + 1) - 1), μ) := fun i hi => by rw [← hb']; exact col_of1 hM' (by omega) hd hK'.2.1 hi
  have p2 : ∀ i, i < min B (V o) → G_X11_of (nI o) (nI d) (nI i) 2 μ = some (nI (seg g' (bd' i) (bd' (i + 1))), μ) := fun i hi => by rw [← hb', ← hg']; exact col_of2 hM' (by omega) hd hK'.2.1 hi
  have p3 : ∀ i, i < min B (V o) → G_X11_of (nI o) (nI d) (nI i) 3 μ = some (nI (gr' i), μ) := fun i hi => by rw [← hgr']; exact col_of3 hM' (by omega) hd hK'.2.1 hi
  generalize hf : (match up with | true => (1 : Int32) | false => 0) = fl
  have key := loop_up (fun n i (s : Int64) => L_X11_joinBy_6 n (nI t) (nI c) (nI o) (nI d) fl s i μ) (min B (V t)) (fun i => lN (fb_sm (fun i => fb_sm (fun k => jq up g bd gr g' bd' gr' i k) (min B (V o))) i)) (res := some (lN (jr up (min B (V t)) (min B (V o)) g bd gr g' bd' gr'), μ)) (fun n i hi => by
    show L_X11_joinBy_6 (n + 1) _ _ _ _ _ _ _ _ = _
    obtain ⟨a1, a2, a3, a4⟩ := hw.fc hs hV.2 hi
    rw [L_X11_joinBy_6, bd_eq (col_many hM (by omega) hc), if_neg (nI_ge hi (by omega))]
    have key2 := loop_up (fun n' k (s : Int64) => L_X11_joinBy_20 (L_X11_joinBy_6 n) n' (nI t) (nI c) (nI o) (nI d) fl s (nI i) k μ) (min B (V o)) (fun k => lN (fb_sm (fun i => fb_sm (fun k => jq up g bd gr g' bd' gr' i k) (min B (V o))) i + fb_sm (fun k => jq up g bd gr g' bd' gr' i k) k)) (res := L_X11_joinBy_6 n (nI t) (nI c) (nI o) (nI d) fl (lN (fb_sm (fun i => fb_sm (fun k => jq up g bd gr g' bd' gr' i k) (min B (V o))) (i + 1))) (nI (i + 1)) μ) (fun n' k hk => by
      show L_X11_joinBy_20 (L_X11_joinBy_6 n) (n' + 1) _ _ _ _ _ _ _ _ _ = _
      obtain ⟨b1, b2, b3, b4⟩ := hw'.fc hs' hV'.2 hk
      have cl : cwN (bd (i + 1)) (bd' (k + 1)) (bd i) (bd' k) ≤ 16 := by unfold cwN; omega
      have wp : 0 < (bd (i + 1) - bd i) * (bd' (k + 1) - bd' k) := Nat.mul_pos (by omega) (by omega)
      have wl : (bd (i + 1) - bd i) * (bd' (k + 1) - bd' k) ≤ 16 * 16 := Nat.mul_le_mul (by omega) (by omega)
      have m1 : seg g (bd i) (bd (i + 1)) * gr' k ≤ 999 * 999 := Nat.mul_le_mul a3 b4
      have m2 : seg g' (bd' k) (bd' (k + 1)) * gr i ≤ 999 * 999 := Nat.mul_le_mul b3 a4
      have m3 : cwN (bd (i + 1)) (bd' (k + 1)) (bd i) (bd' k) * gr i ≤ 16 * 999 := Nat.mul_le_mul cl a4
      have m4 : cwN (bd (i + 1)) (bd' (k + 1)) (bd i) (bd' k) * gr i * gr' k ≤ 16 * 999 * 999 := Nat.mul_le_mul m3 b4
      have m5 : cwN (bd (i + 1)) (bd' (k + 1)) (bd i) (bd' k) * seg g (bd i) (bd (i + 1)) ≤ 16 * 999 := Nat.mul_le_mul cl a3
      have m6 : cwN (bd (i + 1)) (bd' (k + 1)) (bd i) (bd' k) * seg g (bd i) (bd (i + 1)) * seg g' (bd' k) (bd' (k + 1)) ≤ 16 * 999 * 999 := Nat.mul_le_mul m5 b3
      rw [L_X11_joinBy_20, bd_eq (col_many hM' (by omega) hd), if_neg (nI_ge hk (by omega)), bd_eq (o1 i hi), bd_eq (p1 k hk), bd_eq (o0 i hi), bd_eq (p0 k hk), cw_z (by omega) (by omega) a2 b2 (by omega) (by omega), lb_e]
      rw [show fb_sm (fun k => jq up g bd gr g' bd' gr' i k) (k + 1) = fb_sm (fun k => jq up g bd gr g' bd' gr' i k) k + jq up g bd gr g' bd' gr' i k from rfl, ← Nat.add_assoc]
      by_cases q : cwN (bd (i + 1)) (bd' (k + 1)) (bd i) (bd' k) = 0
      · rw [if_pos ((zL_pos a2 b2 (by omega) (by omega)).mpr q), show jq up g bd gr g' bd' gr' i k = 0 from if_pos q]
        unfold F_X11_joinBy_236
        rw [lb_e, nI_1]
        rfl
      · rw [if_neg (fun z => q ((zL_pos a2 b2 (by omega) (by omega)).mp z)), zL_nat a2 b2 q, bd_eq (o2 i hi), nI_l (by omega), lb_e, bd_eq (p2 k hk), nI_l (by omega), lb_e, bd_eq (o3 i hi), nI_l (by omega), lb_e, bd_eq (p3 k hk), nI_l (by omega), lb_e, bd_eq (o1 i hi), bd_eq (o0 i hi), bd_eq (p1 k hk), bd_eq (p0 k hk), pk_sub (by omega), pk_sub (by omega), nI_1, nI_1, nI_l (by omega), nI_l (by omega), lN_mul, lb_e, show bd (i + 1) - 1 - bd i + 1 = bd (i + 1) - bd i by omega, show bd' (k + 1) - 1 - bd' k + 1 = bd' (k + 1) - bd' k by omega]
        unfold F_X11_joinBy_233 F_X11_joinBy_236
        cases up with
        | true =>
          subst hf
          rw [if_neg (by decide), lb_e, lb_e, nI_1, lN_mul, lN_mul, lN_mul, lN_mul, lmin_lN (by omega) (by omega), lmin_lN (by omega) (by omega), lN_add, show jq true g bd gr g' bd' gr' i k = min (min (seg g (bd i) (bd (i + 1)) * gr' k) (seg g' (bd' k) (bd' (k + 1)) * gr i)) (cwN (bd (i + 1)) (bd' (k + 1)) (bd i) (bd' k) * gr i * gr' k) from if_neg q, Nat.min_comm (min _ _)]
        | false =>
          subst hf
          rw [if_pos rfl, gq_lN wp (by omega), lb_e, lb_e, nI_1, lN_mul, lN_mul, pk_lDiv (by omega) wp (by omega), lN_add, show jq false g bd gr g' bd' gr' i k = cwN (bd (i + 1)) (bd' (k + 1)) (bd i) (bd' k) * seg g (bd i) (bd (i + 1)) * seg g' (bd' k) (bd' (k + 1)) / ((bd (i + 1) - bd i) * (bd' (k + 1) - bd' k)) from if_neg q]) (fun n' => by
      show L_X11_joinBy_20 (L_X11_joinBy_6 n) (n' + 1) _ _ _ _ _ _ _ _ _ = _
      rw [L_X11_joinBy_20, bd_eq (col_many hM' (by omega) hd), if_pos (nI_le (Nat.le_refl _) (by omega)), lb_e, nI_1]
      rfl)
    exact key2 100000 0 (by omega) (by omega)) (fun n => by
    show L_X11_joinBy_6 (n + 1) _ _ _ _ _ _ _ _ = _
    rw [L_X11_joinBy_6, bd_eq (col_many hM (by omega) hc), if_pos (nI_le (Nat.le_refl _) (by omega))]
    rfl)
  exact key 100000 0 (by omega) (by omega)
theorem jX_ok (h : RB c0 T V B D m S μ) {t c o d : Nat} (ht : t < T) (hc : c < 2) (ho : o < T) (hd : d < 2) : G_X4_joinUpper (12 + 9 * t + 3 * c) (12 + 9 * o + 3 * d) μ = some (lN (jrT V B (S 0) true t c o d), μ) ∧ G_X4_joinEstimate (12 + 9 * t + 3 * c) (12 + 9 * o + 3 * d) μ = some (lN (jrT V B (S 0) false t c o d), μ) := by
  have hK := h.K8 ht
  have hK' := h.K8 ho
  have hV := h.V2 ht
  have hV' := h.V2 ho
  exact ⟨jU_ok (h.lane ht hc) (h.lane ho hd) ((h.sw ht).2.2 c hc) ((h.sw ho).2.2 d hd) hK.2.1 hK'.2.1 hV.2 hV'.2 (h.le ht hc) (h.le ho hd), jE_ok (h.lane ht hc) (h.lane ho hd) ((h.sw ht).2.2 c hc) ((h.sw ho).2.2 d hd) hK.2.1 hK'.2.1 hV.2 hV'.2 (h.le ht hc) (h.le ho hd)⟩
theorem jr_le (h : RB c0 T V B D m S μ) {t c o d : Nat} (ht : t < T) (hc : c < 2) (ho : o < T) (hd : d < 2) (up : Bool) : jrT V B (S 0) up t c o d ≤ 1021953024 := by
  have hK := h.K8 ht
  have hK' := h.K8 ho
  have hV := h.V2 ht
  have hV' := h.V2 ho
  have a : ∀ i, i < min B (V t) → fb_sm (fun k => jq up (cn (sf (S 0) t) c) (sb (S 0) t c) (sg (S 0) t c) (cn (sf (S 0) o) d) (sb (S 0) o d) (sg (S 0) o d) i k) (min B (V o)) ≤ 127744128 := fun i hi => by
    have b := fb_sm_bound (f := fun k => jq up (cn (sf (S 0) t) c) (sb (S 0) t c) (sg (S 0) t c) (cn (sf (S 0) o) d) (sb (S 0) o d) (sg (S 0) o d) i k) (c := 15968016) (n := min B (V o)) (fun k hk => by
      obtain ⟨a1, a2, a3, a4⟩ := ((h.sw ht).2.2 c hc).fc (h.le ht hc) hV.2 hi
      obtain ⟨b1, b2, b3, b4⟩ := ((h.sw ho).2.2 d hd).fc (h.le ho hd) hV'.2 hk
      exact jp_le (by unfold cwN; omega) a3 b3 a4 b4)
    have e : min B (V o) * 15968016 ≤ 8 * 15968016 := Nat.mul_le_mul_right _ hK'.2.1
    omega
  have b := fb_sm_bound (c := 127744128) (n := min B (V t)) a
  have e : min B (V t) * 127744128 ≤ 8 * 127744128 := Nat.mul_le_mul_right _ hK.2.1
  unfold jrT jr
  omega
end JM
