/-! answers that only look -/
def Ans {ρ : Type} (c : Nat) (G1 : Option (ρ × Mem)) (G2 : Mem → Option (ρ × Mem)) : Prop := ∃ r μ1 μ2, G1 = some (r, μ1) ∧ G2 μ1 = some (r, μ2) ∧ RR (c + 1) μ2
theorem Ans.q {ρ : Type} {c : Nat} {μ : Mem} {G1 : Option (ρ × Mem)} {G2 : Mem → Option (ρ × Mem)} {r : ρ} {μ1 μ2 : Mem} (h : RR c μ) (e1 : G1 = some (r, μ1)) (f1 : Fr SCR μ μ1) (e2 : G2 μ1 = some (r, μ2)) (f2 : Fr SCR μ1 μ2) : Ans c G1 G2 := ⟨r, μ1, μ2, e1, e2, ((h.scr f1).scr f2).up (by omega)⟩
theorem Ans.p {ρ : Type} {c : Nat} {μ : Mem} {G1 : Option (ρ × Mem)} {G2 : Mem → Option (ρ × Mem)} {r : ρ} (h : RR c μ) (e1 : G1 = some (r, μ)) (e2 : G2 μ = some (r, μ)) : Ans c G1 G2 := ⟨r, μ, μ, e1, e2, h.up (by omega)⟩
theorem out_ne {x : Int32} {n m : Nat} (hx : x < 0 ∨ nI n ≤ x) (hm : m < n) (hn : n < 2 ^ 31) : ¬ x = OfNat.ofNat m := by
  intro e
  have e : x = nI m := e
  subst e
  rcases hx with h | h
  · exact nI_pos (by omega) h
  · exact nI_ge hm hn h
theorem inL_no {x : Int32} {m : Nat} {l : Int64} {μ : Mem} (hl : l = (nI m).toInt64) (hm : m + 1 < 2 ^ 31) (hx : x < 0 ∨ nI (m + 1) ≤ x) : G_X11_in x.toInt64 (0 : Int64) l μ = some (0, μ) := by
  rw [hl, toL0, in_eq, if_neg]
  rintro ⟨h1, h2⟩
  rw [fa_le] at h1 h2
  rw [nI_toInt (by omega)] at h2
  have h0 : (0 : Int32).toInt = 0 := by decide
  rcases hx with h | h
  · rw [fa_lt] at h; omega
  · rw [fa_le, nI_toInt (by omega)] at h; omega
theorem inL_yes {k m : Nat} {l : Int64} {μ : Mem} (hl : l = (nI m).toInt64) (hm : m < 2 ^ 31) (hk : k ≤ m) : G_X11_in (nI k).toInt64 (0 : Int64) l μ = some (1, μ) := by
  rw [hl, toL0, in_eq, if_pos ⟨nI_pos' (by omega), nI_le hk hm⟩]
/-- a value that is one less than a count -/
theorem inP_no {x : Int32} {n : Nat} {μ : Mem} (hn : n < 2 ^ 31) (hx : x < 0 ∨ nI n ≤ x) : G_X11_in x.toInt64 (0 : Int64) ((nI n - 1).toInt64) μ = some (0, μ) := by
  rw [toL0, in_eq, if_neg]
  rintro ⟨h1, h2⟩
  rw [le_pred hn h1] at h2
  rcases hx with h | h
  · exact (fa_of_lt h).2.1 h1
  · exact (fa_of_lt h2).2.1 h
theorem inP_yes {k n : Nat} {μ : Mem} (hn : n < 2 ^ 31) (hk : k < n) : G_X11_in (nI k).toInt64 (0 : Int64) ((nI n - 1).toInt64) μ = some (1, μ) := by
  rw [toL0, in_eq, if_pos ⟨nI_pos' (by omega), (le_pred hn (nI_pos' (by omega))).mpr (nI_lt hk hn)⟩]
section Q
variable {c : Nat} {μ : Mem}
theorem RB.g1 {c T : Nat} {V : Nat → Nat} {B D m : Nat} {S : Nat → St} {μ : Mem} (hB : RB c T V B D m S μ) : rI μ 36 1 = nI (sn (S 0)) := hB.2.2.2.2.1.2.2.2.2.2.1
theorem RB.g2 {c T : Nat} {V : Nat → Nat} {B D m : Nat} {S : Nat → St} {μ : Mem} (hB : RB c T V B D m S μ) : rI μ 116 1072 = nI (min (sn (S 0)) 60) := hB.2.2.2.2.2.2.2.2.2.2.2.1
theorem len_eq {c T : Nat} {V : Nat → Nat} {B D m : Nat} {S : Nat → St} {μ : Mem} (hB : RB c T V B D m S μ) (hc : c ≤ 600) : G_X3_length 36 μ = some (nI (min (sn (S 0)) 60), μ) := by
  have hn : sn (S 0) ≤ 40 * c := hB.2.2.1
  unfold G_X3_length
  rw [hB.g1, show (60 : Int32) = nI 60 from rfl, imin_nI (by omega) (by omega)]
theorem a_count (h : RR c μ) (hc : c ≤ 600) (x : Int32) : Ans c (G_X10_count x μ) (G_X11_count x) := by
  have h0 := h
  obtain ⟨⟨l, -, t1, t2, -⟩, ⟨-, d, -, k1, k2, -⟩, ⟨w, -, w1, w2, -⟩, T, V, B, D, m, S, hB, hP, -⟩ := h0
  refine Ans.p (r := if x = 0 then nI T else if x = 1 then nI w else if x = 2 then nI l else if x = 3 then nI (min (sn (S 0)) 60) else if x = 4 then nI m else if x = 5 then nI d else -1000000) h ?_ ?_
  · unfold G_X10_count
    rw [hB.xt, w1, t1, hP.2.1, k1, bd_eq (len_eq hB hc)]
    repeat (first | rfl | (split; · rfl))
  · unfold G_X11_count
    rw [hB.mt, w2, t2, hP.2.2.1, k2, hB.g2]
    repeat (first | rfl | (split; · rfl))
theorem xBook {T : Nat} (h : rI μ 7 2 = nI T) (hT : T ≤ 3) : G_X10_hasBook μ = some (if 0 < T then 1 else 0, μ) := by
  unfold G_X10_hasBook
  rw [h]
  by_cases h0 : 0 < T
  · rw [if_pos h0, if_neg (nI_nle h0 (by omega))]
  · rw [if_neg h0, show T = 0 by omega, if_pos (by decide)]
theorem mBook {T : Nat} (h : rI μ 107 12 = nI T) (hT : T ≤ 3) : G_X11_isBook μ = some (if 0 < T then 1 else 0, μ) := by
  unfold G_X11_isBook
  rw [h]
  by_cases h0 : 0 < T
  · rw [if_pos h0, if_neg (nI_nle h0 (by omega))]
  · rw [if_neg h0, show T = 0 by omega, if_pos (by decide)]
theorem a_rule (h : RR c μ) (x : Int32) : Ans c (G_X10_rule x μ) (G_X11_rule x) := by
  have h0 := h
  obtain ⟨-, -, -, T, V, B, D, m, S, hB, hP, -⟩ := h0
  have hT := hB.T3
  have e1 := xBook hB.xt hT
  have e2 := mBook hB.mt hT
  by_cases hT0 : 0 < T
  · rw [if_pos hT0] at e1 e2
    have b1 : rI μ 7 3 = nI B := hB.2.2.2.2.1.2.1
    have b2 : rI μ 7 4 = nI D := hB.2.2.2.2.1.2.2.1
    have b3 : rI μ 7 5 = nI (su (S 0)) := hB.2.2.2.2.1.2.2.2.1 hT0
    have b4 : rI μ 116 1071 = nI (su (S 0)) := hB.2.2.2.2.2.2.2.2.2.2.1 hT0
    have b5 := hB.2.2.2.2.2.2.1
    have b6 := hB.2.2.2.2.2.2.2.1
    rcases pk_ix x (n := 3) (by omega) with hx | hx | ⟨k, hk, rfl⟩
    all_goals first
      | (have hx' : x < 0 ∨ nI 3 ≤ x := by first | exact Or.inl hx | exact Or.inr hx
         refine Ans.p (r := -1) h ?_ ?_
         · unfold G_X10_rule
           rw [bd_eq e1, if_neg (by decide), if_neg (out_ne (m := 0) hx' (by omega) (by omega)), if_neg (out_ne (m := 1) hx' (by omega) (by omega)), if_neg (out_ne (m := 2) hx' (by omega) (by omega))]
         · unfold G_X11_rule
           rw [bd_eq e2, if_neg (by decide), bd_eq (inL_no (m := 2) (by decide) (by omega) hx'), if_pos rfl])
      | skip
    rcases (show k = 0 ∨ k = 1 ∨ k = 2 by omega) with rfl | rfl | rfl
    · refine Ans.p (r := nI B) h ?_ ?_
      · unfold G_X10_rule
        rw [bd_eq e1, if_neg (by decide), if_pos (by decide), b1]
      · unfold G_X11_rule
        rw [bd_eq e2, if_neg (by decide), bd_eq (inL_yes (m := 2) (by decide) (by omega) (by omega)), if_neg (by decide), if_neg (by decide), gq_in (by omega) (by omega), nx_nI (by omega), b5]
    · refine Ans.p (r := nI D) h ?_ ?_
      · unfold G_X10_rule
        rw [bd_eq e1, if_neg (by decide), if_neg (by decide), if_pos (by decide), b2]
      · unfold G_X11_rule
        rw [bd_eq e2, if_neg (by decide), bd_eq (inL_yes (m := 2) (by decide) (by omega) (by omega)), if_neg (by decide), if_neg (by decide), gq_in (by omega) (by omega), nx_nI (by omega), b6]
    · refine Ans.p (r := nI (su (S 0))) h ?_ ?_
      · unfold G_X10_rule
        rw [bd_eq e1, if_neg (by decide), if_neg (by decide), if_neg (by decide), if_pos (by decide), b3]
      · unfold G_X11_rule
        rw [bd_eq e2, if_neg (by decide), bd_eq (inL_yes (m := 2) (by decide) (by omega) (by omega)), if_neg (by decide), if_pos (by decide), b4]
  · rw [if_neg hT0] at e1 e2
    refine Ans.p (r := -1) h ?_ ?_
    · unfold G_X10_rule
      rw [bd_eq e1, if_pos rfl]
    · unfold G_X11_rule
      rw [bd_eq e2, if_pos rfl]
theorem a_status (h : RR c μ) (x : Int32) : Ans c (G_X10_status x μ) (G_X11_status x) := by
  have h0 := h
  obtain ⟨-, ⟨k0, -⟩, -⟩ := h0
  rcases pk_ix x (n := 5) (by omega) with hx | hx | ⟨k, hk, rfl⟩
  · refine Ans.p (r := -1) h ?_ ?_
    · unfold G_X10_status; rw [if_pos hx]
    · unfold G_X11_status; rw [bd_eq (inL_no (m := 4) (by decide) (by omega) (Or.inl hx)), if_pos rfl]
  · refine Ans.p (r := -1) h ?_ ?_
    · unfold G_X10_status
      by_cases h1 : x < 0
      · rw [if_pos h1]
      · rw [if_neg h1, if_pos (show (5 : Int32) ≤ x from hx)]
    · unfold G_X11_status; rw [bd_eq (inL_no (m := 4) (by decide) (by omega) (Or.inr hx)), if_pos rfl]
  · refine Ans.p (r := rI μ 64 k) h ?_ ?_
    · unfold G_X10_status; rw [if_neg (nI_pos (by omega)), if_neg (l_nle hk (by omega)), gq_in hk (by omega), nx_nI (by omega)]
    · unfold G_X11_status; rw [bd_eq (inL_yes (m := 4) (by decide) (by omega) (by omega)), if_neg (by decide), gq_in hk (by omega), nx_nI (by omega), k0 k hk]
theorem a_trace (h : RR c μ) (x : Int32) : Ans c (G_X10_trace x μ) (G_X11_trace x) := by
  have h0 := h
  obtain ⟨-, ⟨-, d, hd, k1, k2, k3⟩, -⟩ := h0
  rcases pk_ix x (n := d) (by omega) with hx | hx | ⟨k, hk, rfl⟩
  · refine Ans.p (r := -1) h ?_ ?_
    · unfold G_X10_trace; rw [if_pos hx]
    · unfold G_X11_trace; rw [k2, bd_eq (inP_no (by omega) (Or.inl hx)), if_pos rfl]
  · refine Ans.p (r := -1) h ?_ ?_
    · unfold G_X10_trace
      by_cases h1 : x < 0
      · rw [if_pos h1]
      · rw [if_neg h1, k1, if_pos hx]
    · unfold G_X11_trace; rw [k2, bd_eq (inP_no (by omega) (Or.inr hx)), if_pos rfl]
  · refine Ans.p (r := rI μ 98 k) h ?_ ?_
    · unfold G_X10_trace; rw [if_neg (nI_pos (by omega)), k1, if_neg (nI_ge hk (by omega)), gq_in (by omega) (by omega), nx_nI (by omega)]
    · unfold G_X11_trace; rw [k2, bd_eq (inP_yes (by omega) hk), if_neg (by decide), gq_in (by omega) (by omega), nx_nI (by omega), k3 k hk]
theorem a_rows (h : RR c μ) (x y z : Int32) : Ans c (G_X10_rows x y z μ) (G_X11_rows x y z) := by
  have h0 := h
  obtain ⟨-, -, -, T, V, B, D, m, S, hB, hP, -⟩ := h0
  have hT := hB.T3
  have no : (x < 0 ∨ nI T ≤ x) → Ans c (G_X10_rows x y z μ) (G_X11_rows x y z) := fun hx => by
    refine Ans.p (r := -1) h ?_ ?_
    · unfold G_X10_rows G_X10_hasCell
      rw [bd_eq (xTab_no hB.xt hx), if_pos rfl, bd_s, if_pos rfl]
    · unfold G_X11_rows
      rw [bd_eq (mTab_no hB.mt hT hx), if_pos rfl]
  rcases pk_ix x (n := T) (by omega) with hx | hx | ⟨t, ht, rfl⟩
  · exact no (Or.inl hx)
  · exact no (Or.inr hx)
  · have hV := hB.V2 ht
    have hS := hB.sheet ht
    have vno : ∀ u : Int32, (u < -1 ∨ nI (V t) ≤ u) → G_X11_isValue (nI t) u μ = some (0, μ) := fun u hu => by
      unfold G_X11_isValue
      rw [gq_in (by omega) (by omega), nx_nI (by omega), hB.mv ht, toLm1, in_eq, bd_s, if_neg, show bB 0 = true from rfl, gq_t]
      rintro ⟨h1, h2⟩
      rw [fa_le] at h1 h2
      have e1 : (nI (V t) - 1).toInt = (V t : Int) - 1 := by rw [nI_sub1 (by omega), nI_toInt (by omega)]; omega
      rcases hu with hu | hu
      · rw [fa_lt] at hu; omega
      · rw [fa_le, nI_toInt (by omega)] at hu; omega
    have vyes : ∀ a, okv (V t) a → G_X11_isValue (nI t) (ix a) μ = some (1, μ) := fun a ha => by
      unfold G_X11_isValue
      obtain ⟨n1, n2⟩ := ix_not hV.2 ha
      rw [gq_in (by omega) (by omega), nx_nI (by omega), hB.mv ht, toLm1, in_eq, bd_s, if_pos, show bB 1 = true from rfl, gq_t]
      refine ⟨fa_of_nlt n1, ?_⟩
      have e1 : (nI (V t) - 1).toInt = (V t : Int) - 1 := by rw [nI_sub1 (by omega), nI_toInt (by omega)]; omega
      rw [fa_le, nI_toInt (by omega)] at n2
      rw [fa_le]
      omega
    have cno : ((y < -1 ∨ nI (V t) ≤ y) ∨ (z < -1 ∨ nI (V t) ≤ z)) → G_X7_hasCell (9 + 9 * t) y z μ = some (0, μ) := fun hu => by
      unfold G_X7_hasCell
      rw [hS.1]
      repeat (first | rfl | (split; · rfl))
      simp_all
    rcases ix_cases y hV.2 with hy | ⟨a, ha, ha2, rfl⟩
    · refine Ans.p (r := -1) h ?_ ?_
      · unfold G_X10_rows G_X10_hasCell
        rw [bd_eq (xTab_yes hB.xt hT ht), if_neg (by decide), gq_in (by omega) (by omega), sp_eq (by omega), bd_eq (cno (Or.inl hy)), if_pos rfl, bd_s, if_pos rfl]
      · unfold G_X11_rows
        rw [bd_eq (mTab_yes hB.mt hT ht), if_neg (by decide), bd_eq (vno y hy), if_pos rfl]
    · rcases ix_cases z hV.2 with hz | ⟨b, hb, hb2, rfl⟩
      · refine Ans.p (r := -1) h ?_ ?_
        · unfold G_X10_rows G_X10_hasCell
          rw [bd_eq (xTab_yes hB.xt hT ht), if_neg (by decide), gq_in (by omega) (by omega), sp_eq (by omega), bd_eq (cno (Or.inr hz)), if_pos rfl, bd_s, if_pos rfl]
        · unfold G_X11_rows
          rw [bd_eq (mTab_yes hB.mt hT ht), if_neg (by decide), bd_eq (vyes a ha), if_neg (by decide), bd_eq (vno z hz), if_pos rfl]
      · refine Ans.p (r := nI (sf (S 0) t a b)) h ?_ ?_
        · unfold G_X10_rows G_X10_hasCell G_X7_hasCell
          obtain ⟨n1, n2⟩ := ix_not hV.2 ha
          obtain ⟨n3, n4⟩ := ix_not hV.2 hb
          rw [bd_eq (xTab_yes hB.xt hT ht), if_neg (by decide), gq_in (by omega) (by omega), sp_eq (by omega), hS.1, if_neg n1, if_neg n2, if_neg n3, if_neg n4, bd_s, if_neg (by decide), bd_s, if_neg (by decide), gq_in (by omega) (by omega), bd_eq (alike_eq hS ha2 hb2)]
        · unfold G_X11_rows
          have e : rI μ 116 (357 * t + (17 * a + b)) = nI (sf (S 0) t a b) := (hB.tab ht).1 a b ha2 hb2
          rw [bd_eq (mTab_yes hB.mt hT ht), if_neg (by decide), bd_eq (vyes a ha), if_neg (by decide), bd_eq (vyes b hb), if_neg (by decide), bd_eq (place_ix (by omega) ha2 hb2), gq_in (by omega) (by omega), nx_nI (by omega), e]
end Q
