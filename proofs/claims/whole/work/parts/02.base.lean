/-! The memory of the two systems as two functions of a place and a slot; places are numbers of objects in the order in which they are made. -/
abbrev Mem : Type := (Nat → Nat → Int32) × (Nat → Nat → Int64)
def rI (μ : Mem) (p k : Nat) : Int32 := μ.1 p k
def rL (μ : Mem) (p k : Nat) : Int64 := μ.2 p k
def wR (μ : Mem) (p : Nat) (f : Nat → Int32) : Mem := (fun q => if q = p then f else μ.1 q, μ.2)
def wQ (μ : Mem) (p : Nat) (f : Nat → Int64) : Mem := (μ.1, fun q => if q = p then f else μ.2 q)
def wI (μ : Mem) (p k : Nat) (v : Int32) : Mem := wR μ p (upd (μ.1 p) k v)
def wL (μ : Mem) (p k : Nat) (v : Int64) : Mem := wQ μ p (vp_updL (μ.2 p) k v)
/-- a copy of n ints: from place q at i to place p at j -/
def wC (μ : Mem) (q i p j n : Nat) : Mem := wR μ p (va_cpy (μ.1 q) (μ.1 p) i j n)
def imax (x y : Int32) : Int32 := if x < y then y else x
def imin (x y : Int32) : Int32 := if y < x then y else x
def iabs (x : Int32) : Int32 := if 0 ≤ x then x else 0 - x
def lmin (x y : Int64) : Int64 := if y < x then y else x
def nx (i : Int32) : Nat := i.toNatClampNeg
def inB (i : Int32) (n : Nat) : Bool := decide (¬ (i < 0 ∨ n ≤ i.toNatClampNeg))
theorem inB_in {i : Int32} {n : Nat} (h : inB i n = true) : vp_in i n := by unfold vp_in; exact of_decide_eq_true h
def bB (x : Int32) : Bool := decide (x = 0 ∨ x = 1)
def gq {ρ : Type} (b : Bool) (x : Option ρ) : Option ρ := match b with
  | true => x
  | false => none
def lb {α ρ : Type} (e : α) (f : α → Option ρ) : Option ρ := f e
def bd {α ρ : Type} (o : Option (α × Mem)) (f : α → Mem → Option ρ) : Option ρ := match o with
  | some r => f r.1 r.2
  | none => none
theorem gq_some {ρ : Type} {b : Bool} {x : Option ρ} {r : ρ} (h : gq b x = some r) : b = true ∧ x = some r := by
  cases b
  · exact absurd h (by simp [gq])
  · exact ⟨rfl, h⟩
theorem bd_some {α ρ : Type} {o : Option (α × Mem)} {f : α → Mem → Option ρ} {r : ρ} (h : bd o f = some r) : ∃ a μ, o = some (a, μ) ∧ f a μ = some r := by
  cases o with
  | none => exact absurd h (by simp [bd])
  | some z => exact ⟨z.1, z.2, rfl, h⟩
def kJ (n : Nat) : Nat := 1000000 + n

def kdT : List Nat := [10, 8, 1240, 1, 1008, 1003, 1080, 0, 13, 7, 1289, 12, 4, 1016, 1026, 4, 1016, 1026, 7, 1289, 12, 4, 1016, 1026, 4, 1016, 1026, 7, 1289, 12, 4, 1016, 1026, 4, 1016, 1026, 3, 1300, 14, 9, 1006, 1006, 1006, 1006, 9, 1006, 1006, 1006, 1006, 9, 1006, 1006, 1006, 1006, 9, 1006, 1006, 1006, 1006, 9, 1006, 1006, 1006, 1006, 1005, 6, 3440, 0, 13, 7, 1289, 12, 4, 1016, 1026, 4, 1016, 1026, 7, 1289, 12, 4, 1016, 1026, 4, 1016, 1026, 7, 1289, 12, 4, 1016, 1026, 4, 1016, 1026, 3, 1300, 1006, 5, 1000289, 1000289, 1289, 2, 4, 1016, 1026, 11, 1240, 1003, 1003, 1080, 1003, 1003, 1120, 1005, 2253, 1005, 1016, 1000306, 1017, 51120, 1006, 1032, 2072, 2253, 1000001]
def NP : Nat := 127
def kd (p : Nat) : Nat := kdT.getD p 99
theorem kd_lt {p k : Nat} (h : kd p = k) (hk : k ≠ 99) : p < NP := by
  rcases Nat.lt_or_ge p NP with q | q
  · exact q
  · exfalso
    have e : kd p = 99 := by
      unfold kd
      rw [List.getD_eq_getElem?_getD, List.getElem?_eq_none (show kdT.length ≤ p from q)]
      rfl
    exact hk (h.symm.trans e)
theorem kd_all {P : Nat → Prop} [DecidablePred P] (h : (List.range NP).all (fun i => decide (P i)) = true) {p k : Nat} (hp : kd p = k) (hk : k ≠ 99) : P p :=
  of_decide_eq_true (List.all_eq_true.mp h p (List.mem_range.mpr (kd_lt hp hk)))
def shP (q : Nat) (i : Int32) : Nat := q + 1 + 9 * nx i
def lnP (q : Nat) (i : Int32) : Nat := q + 1 + 3 * nx i
def whP (q : Nat) (i : Int32) : Nat := q + 1 + 5 * nx i
/-- what a world is: the launch, the addresses of places, the tables' numbers, the classes of arrays, addresses of static rows, what is carried of statics -/
abbrev Wd : Type := Launch × (Nat → Nat) × va_G × ClassId × ClassId × ClassId × ClassId × ClassId × (Nat → Nat)
def xl (X : Wd) : Launch := X.1
def xad (X : Wd) : Nat → Nat := X.2.1
def xD (X : Wd) : va_G := X.2.2.1
def xcI (X : Wd) : ClassId := X.2.2.2.1
def xcJ (X : Wd) : ClassId := X.2.2.2.2.1
def xcL (X : Wd) : ClassId := X.2.2.2.2.2.1
def xcS (X : Wd) : ClassId := X.2.2.2.2.2.2.1
def xcW (X : Wd) : ClassId := X.2.2.2.2.2.2.2.1
def xs (X : Wd) : Nat → Nat := X.2.2.2.2.2.2.2.2
def xA (X : Wd) : Nat → Prop := fun q => ∃ p, p < NP ∧ q = xad X p
def tys (X : Wd) : List (ClassId × FieldType) := [(xcI X, .int), (xcJ X, .long), (xcL X, .object RX4), (xcS X, .object RX7), (xcW X, .object RX9)]
def sLen : List Nat := [8, 4, 21]
def sByt : List (List Int32) := [[98, 100, 113, 118, 116, 97, 98, 110], [61, 60, 62, 63], [110, 111, 32, 115, 117, 99, 104, 32, 116, 97, 98, 108, 101, 32, 111, 114, 32, 119, 104, 97, 116]]
def tLOW (j : Nat) : Int32 := [1, 0, 1, 2, 0, 0, 0, 1].getD j 0
def tHIGH (j : Nat) : Int32 := [8, 99, 999, 16, 2, 15, 15, 40].getD j 0
def tUSUAL (j : Nat) : Int32 := [3, 20, 999, 8, 0, -1, -1, 1].getD j 0
/-- what is carried of statics and constants: rows of numbers, texts, what the throw of an exception asks -/
def xSt (X : Wd) (U : State) (H : Heap) : Prop :=
  (va_Z RX1 "LOW" "[I" (.ref (xs X 0)) (xA X) U H ∧ va_T .int (xs X 0) 8 (fun j => .int (tLOW j)) (xA X) U H) ∧
  (va_Z RX1 "HIGH" "[I" (.ref (xs X 1)) (xA X) U H ∧ va_T .int (xs X 1) 8 (fun j => .int (tHIGH j)) (xA X) U H) ∧
  (va_Z RX1 "USUAL" "[I" (.ref (xs X 2)) (xA X) U H ∧ va_T .int (xs X 2) 8 (fun j => .int (tUSUAL j)) (xA X) U H) ∧
  va_Z RJ0 "COMPACT_STRINGS" "Z" (.int 1) (xA X) U H ∧
  va_Zq RJ3 "SIOOBE_FORMATTER" "Ljava/util/function/BiFunction;" (xA X) U H ∧
  (vk_R RX1 92 "bdqvtabn" (xs X 10) U ∧ vk_R RX9 51 "=<>?" (xs X 11) U ∧ vk_R RX10 138 "no such table or what" (xs X 12) U) ∧
  vk_S 3 sLen sByt (fun i => xs X (10 + i)) (fun i => xs X (20 + i)) (xA X) U H ∧
  vx_Zq Bundle.tN "UNASSIGNED_STACK" Bundle.steD (xA X) U H ∧ vx_Zq Bundle.tN "SUPPRESSED_SENTINEL" Bundle.listD (xA X) U H
theorem xSt.warm {X : Wd} {s U : State} {H : Heap} (hW : s.WarmedH U.vm) (h : xSt X s H) : xSt X U H := by
  obtain ⟨⟨a1, a2⟩, ⟨b1, b2⟩, ⟨c1, c2⟩, d, e, ⟨f1, f2, f3⟩, g, i, j⟩ := h
  have hv := hW.alike
  exact ⟨⟨va_Z.moved hv a1, va_T.moved hv a2⟩, ⟨va_Z.moved hv b1, va_T.moved hv b2⟩, ⟨va_Z.moved hv c1, va_T.moved hv c2⟩, va_Z.moved hv d, va_Zq.moved hv e, ⟨vk_R.warm hW f1, vk_R.warm hW f2, vk_R.warm hW f3⟩, vk_S.moved hv g, vx_Zq.moved hv i, vx_Zq.moved hv j⟩
theorem xSt.same {X : Wd} {u U : State} {H : Heap} (hv : U.vm = u.vm) (h : xSt X u H) : xSt X U H := by
  obtain ⟨⟨a1, a2⟩, ⟨b1, b2⟩, ⟨c1, c2⟩, d, e, ⟨f1, f2, f3⟩, g, i, j⟩ := h
  have hv' : u.vm.Alike U.vm := by rw [hv]; exact Vm.Alike.refl u.vm
  exact ⟨⟨va_Z.moved hv' a1, va_T.moved hv' a2⟩, ⟨va_Z.moved hv' b1, va_T.moved hv' b2⟩, ⟨va_Z.moved hv' c1, va_T.moved hv' c2⟩, va_Z.moved hv' d, va_Zq.moved hv' e, ⟨vk_R.same hv f1, vk_R.same hv f2, vk_R.same hv f3⟩, vk_S.moved hv' g, vx_Zq.moved hv' i, vx_Zq.moved hv' j⟩
theorem xSt.kept {X : Wd} {U : State} {H H1 : Heap} (h : xSt X U H) (hq : ∀ a : Nat, a < H.size → ¬ xA X a → H1[a]? = H[a]?) : xSt X U H1 := by
  obtain ⟨⟨a1, a2⟩, ⟨b1, b2⟩, ⟨c1, c2⟩, d, e, f, g, i, j⟩ := h
  exact ⟨⟨va_Z.kept a1 hq, va_T.kept a2 hq⟩, ⟨va_Z.kept b1 hq, va_T.kept b2 hq⟩, ⟨va_Z.kept c1 hq, va_T.kept c2 hq⟩, va_Z.kept d hq, va_Zq.kept e hq, f, vk_S.kept g hq, vx_Zq.kept i hq, vx_Zq.kept j hq⟩


/-- what a place of kind k holds -/
def cel (X : Wd) (f : Nat → Int32) (g : Nat → Int64) (k p : Nat) : va_E := match k with
  | 0 => .inr (0, [.ref (xad X (p + 1)), .ref (xad X (p + 29)), .int (f 2), .int (f 3), .int (f 4), .int (f 5)])
  | 1 => .inr (1, [.ref (xad X (p + 1)), .ref (xad X (p + 2)), .ref (xad X (p + 3)), .int (f 3), .int (f 4), .int (f 5)])
  | 2 => .inr (2, [.int (f 0), .int (f 1), .int (f 2), .int (f 3), .int (f 4), .int (f 5), .int (f 6), .int (f 7), .int (f 8)])
  | 3 => .inr (3, [.ref (xad X (p + 1)), .int (f 1)])
  | 4 => .inr (4, [.ref (xad X (p + 1)), .ref (xad X (p + 2)), .int (f 2), .int (f 3)])
  | 5 => .inr (5, [.ref (xad X (p + 1)), .ref (xad X (p + 2)), .ref (xad X (p + 3)), .int (f 3), .int (f 4), .int (f 5)])
  | 6 => .inr (6, [.ref (xad X (p + 1)), .int (f 1), .int (f 2)])
  | 7 => .inr (7, [.ref (xad X (p + 1)), .ref (xad X (p + 2)), .int (f 2), .int (f 3)])
  | 8 => .inr (8, [.ref (xad X (p + 1)), .int (f 1), .int (f 2), .int (f 3)])
  | 9 => .inr (9, [.ref (xad X (p + 1)), .ref (xad X (p + 2)), .ref (xad X (p + 3)), .ref (xad X (p + 4)), .int (f 4)])
  | 10 => .inr (10, [.ref (xad X (p + 1)), .ref (xad X (p + 3)), .ref (xad X (p + 7)), .ref (xad X (p + 38)), .ref (xad X (p + 64)), .ref (xad X (p + 65)), .ref (xad X (p + 67)), .ref (xad X (p + 98)), .ref (xad X (p + 99)), .ref (xad X (p + 103)), .ref (xad X (p + 104)), .int (f 11), .int (f 12), .long (g 13)])
  | 11 => .inr (11, [.int (f 0), .ref (xad X (p + 1)), .int (f 2), .int (f 3), .int (f 4), .ref (xad X (p + 2)), .ref (xad X (p + 3)), .ref (xad X (p + 4)), .int (f 8), .int (f 9), .ref (xad X (p + 5)), .ref (xad X (p + 6)), .int (f 12), .ref (xad X (p + 7)), .ref (xad X (p + 8)), .int (f 15), .ref (xad X (p + 9)), .ref (xad X (p + 10)), .ref (xad X (p + 11)), .int (f 19), .ref (xad X (p + 12)), .ref (xad X (p + 13)), .ref (xad X (p + 14)), .int (f 23), .long (g 24), .ref (xad X (p + 15)), .int (f 26), .int (f 27), .int (f 28), .ref (xad X (p + 16)), .ref (xad X (p + 17)), .ref (xad X (p + 18)), .int (f 32)])
  | 12 => .inl (xcL X, 2, .inr (.inr (.inr (.inr (fun i => some (xad X (p + 1 + 3 * i)))))))
  | 13 => .inl (xcS X, 3, .inr (.inr (.inr (.inr (fun i => some (xad X (p + 1 + 9 * i)))))))
  | 14 => .inl (xcW X, 5, .inr (.inr (.inr (.inr (fun i => some (xad X (p + 1 + 5 * i)))))))
  | k => if k < 1000000 then .inl (xcI X, k - 1000, .inl f) else .inl (xcJ X, k - 1000000, .inr (.inl g))
def wd (X : Wd) (μ : Mem) : va_W := (List.range NP).map (fun p => (xad X p, cel X (μ.1 p) (μ.2 p) (kd p) p))
theorem wd_get {X : Wd} {μ : Mem} {p k : Nat} (h : kd p = k) (hk : k ≠ 99) : (wd X μ)[p]? = some (xad X p, cel X (μ.1 p) (μ.2 p) k p) := by
  have hp := kd_lt h hk
  unfold wd
  rw [List.getElem?_map, List.getElem?_range hp, Option.map_some, h]
theorem wd_set {X : Wd} {μ μ' : Mem} {p k : Nat} (h : kd p = k) (hk : k ≠ 99) {e : va_E} (he : e = cel X (μ'.1 p) (μ'.2 p) k p) (ho : ∀ q, q ≠ p → μ'.1 q = μ.1 q ∧ μ'.2 q = μ.2 q) : (wd X μ).set p (xad X p, e) = wd X μ' := by
  have hp := kd_lt h hk
  subst he
  apply List.ext_getElem?
  intro i
  unfold wd
  rw [List.getElem?_set]
  by_cases hi : p = i
  · subst hi
    rw [if_pos rfl, List.getElem?_map, List.getElem?_range hp, Option.map_some, h]
    simp [hp]
  · rw [if_neg hi, List.getElem?_map, List.getElem?_map]
    rcases Nat.lt_or_ge i NP with q | q
    · rw [List.getElem?_range q, Option.map_some, Option.map_some, (ho i (fun z => hi z.symm)).1, (ho i (fun z => hi z.symm)).2]
    · rw [List.getElem?_eq_none (by simpa using q)]
      rfl
theorem wR_at (μ : Mem) (p : Nat) (f : Nat → Int32) : (wR μ p f).1 p = f := by simp [wR]
theorem wR_off (μ : Mem) {p q : Nat} (f : Nat → Int32) (h : q ≠ p) : (wR μ p f).1 q = μ.1 q := by simp [wR, h]
theorem wQ_at (μ : Mem) (p : Nat) (f : Nat → Int64) : (wQ μ p f).2 p = f := by simp [wQ]
theorem wQ_off (μ : Mem) {p q : Nat} (f : Nat → Int64) (h : q ≠ p) : (wQ μ p f).2 q = μ.2 q := by simp [wQ, h]
theorem wd_setR {X : Wd} {μ : Mem} {p k : Nat} (h : kd p = k) (hk : k ≠ 99) {f : Nat → Int32} {e : va_E} (he : e = cel X f (μ.2 p) k p) : (wd X μ).set p (xad X p, e) = wd X (wR μ p f) :=
  wd_set h hk (by rw [wR_at]; exact he) (fun q hq => ⟨wR_off μ f hq, rfl⟩)
theorem wd_setQ {X : Wd} {μ : Mem} {p k : Nat} (h : kd p = k) (hk : k ≠ 99) {g : Nat → Int64} {e : va_E} (he : e = cel X (μ.1 p) g k p) : (wd X μ).set p (xad X p, e) = wd X (wQ μ p g) :=
  wd_set h hk (by rw [wQ_at]; exact he) (fun q hq => ⟨rfl, wQ_off μ g hq⟩)
def WdOk (X : Wd) : Prop := (xl X).stackTraces = false ∧ ∀ p q, p < NP → q < NP → xad X p = xad X q → p = q
theorem wd_D {X : Wd} (hX : WdOk X) (μ : Mem) : va_D (xA X) (wd X μ) := by
  have key : ∀ (i : Nat) (q : Nat × va_E), (wd X μ)[i]? = some q → i < NP ∧ q.1 = xad X i := by
    intro i q h
    unfold wd at h
    rw [List.getElem?_map] at h
    rcases Nat.lt_or_ge i NP with z | z
    · rw [List.getElem?_range z, Option.map_some] at h
      exact ⟨z, by rw [← Option.some.inj h]⟩
    · rw [List.getElem?_eq_none (by simpa using z)] at h
      cases h
  refine ⟨fun i j a b ha hb hab => ?_, fun k q hq => ⟨k, (key k q hq).1, (key k q hq).2⟩⟩
  exact hX.2 i j (key i a ha).1 (key j b hb).1 (by rw [← (key i a ha).2, ← (key j b hb).2]; exact hab)
def TBL : List Cond := lw_tbl.filter goodWord
def WS (y : MethodName) (b : ByteArray) (n : Nat) (r : Option FieldType) : List Cond := .code y b n r :: TBL
theorem TBL_good : GoodIn TBL TBL := fun w hw => ⟨hw, good_of_word (List.mem_filter.mp hw).2⟩
theorem WS_good {y : MethodName} {b : ByteArray} {n : Nat} {r : Option FieldType} (h : Cond.code y b n r ∈ TBL) : GoodIn TBL (WS y b n r) := by
  intro w hw
  rcases List.mem_cons.mp hw with e | e
  · subst e
    exact TBL_good _ h
  · exact TBL_good _ e
theorem inP {w : Cond} (h : w ∈ k2_sels lw_privs) (hg : goodWord w = true) : w ∈ TBL := List.mem_filter.mpr ⟨List.mem_append_left _ h, hg⟩
theorem in0 {w : Cond} (h : w ∈ tables_1) (hg : goodWord w = true) : w ∈ TBL := List.mem_filter.mpr ⟨List.mem_append_right _ h, hg⟩
theorem in1 {w : Cond} (h : w ∈ tables_1_1) (hg : goodWord w = true) : w ∈ TBL := in0 (List.mem_append_left _ h) hg
theorem in2 {w : Cond} (h : w ∈ tables_1_2) (hg : goodWord w = true) : w ∈ TBL := in0 (List.mem_append_right _ (List.mem_append_left _ h)) hg
theorem in3 {w : Cond} (h : w ∈ tables_1_3) (hg : goodWord w = true) : w ∈ TBL := in0 (List.mem_append_right _ (List.mem_append_right _ (List.mem_append_left _ h))) hg
theorem in4 {w : Cond} (h : w ∈ tables_1_4) (hg : goodWord w = true) : w ∈ TBL := in0 (List.mem_append_right _ (List.mem_append_right _ (List.mem_append_right _ (List.mem_append_left _ h)))) hg
theorem in5 {w : Cond} (h : w ∈ tables_1_5) (hg : goodWord w = true) : w ∈ TBL := in0 (List.mem_append_right _ (List.mem_append_right _ (List.mem_append_right _ (List.mem_append_right _ (List.mem_append_left _ h))))) hg
theorem in6 {w : Cond} (h : w ∈ tables_1_6) (hg : goodWord w = true) : w ∈ TBL := in0 (List.mem_append_right _ (List.mem_append_right _ (List.mem_append_right _ (List.mem_append_right _ (List.mem_append_right _ (List.mem_append_left _ h)))))) hg
theorem in7 {w : Cond} (h : w ∈ tables_1_7) (hg : goodWord w = true) : w ∈ TBL := in0 (List.mem_append_right _ (List.mem_append_right _ (List.mem_append_right _ (List.mem_append_right _ (List.mem_append_right _ (List.mem_append_right _ (List.mem_append_left _ h))))))) hg
theorem in8 {w : Cond} (h : w ∈ tables_1_8) (hg : goodWord w = true) : w ∈ TBL := in0 (List.mem_append_right _ (List.mem_append_right _ (List.mem_append_right _ (List.mem_append_right _ (List.mem_append_right _ (List.mem_append_right _ (List.mem_append_right _ h))))))) hg
/-- a method's machine: the world, and what the kit's rows are about -/
abbrev Cx : Type := Wd × Program × Env × Room × State × MethodId × Array Value × List Frame × Method × Code × Nat × Nat
def cX (C : Cx) : Wd := C.1
def cP (C : Cx) : Program := C.2.1
def cE (C : Cx) : Env := C.2.2.1
def cR (C : Cx) : Room := C.2.2.2.1
def cS (C : Cx) : State := C.2.2.2.2.1
def cM (C : Cx) : MethodId := C.2.2.2.2.2.1
def cA (C : Cx) : Array Value := C.2.2.2.2.2.2.1
def cB (C : Cx) : List Frame := C.2.2.2.2.2.2.2.1
def cT (C : Cx) : Method := C.2.2.2.2.2.2.2.2.1
def cC (C : Cx) : Code := C.2.2.2.2.2.2.2.2.2.1
def cN (C : Cx) : Nat := C.2.2.2.2.2.2.2.2.2.2.1
def cO (C : Cx) : Nat := C.2.2.2.2.2.2.2.2.2.2.2
def Ok (C : Cx) (cc : ByteArray) (nL : Nat) (own : String) (rm : Room) : Prop :=
  (cP C).tables.exec = Jvm.exec ∧ (cC C).code = cc ∧ (cC C).maxLocals = nL ∧ (cS C).vm.findClass own = some (cM C).cls ∧ (∀ w ∈ TBL, w.before (cA C) (cS C) = true) ∧ va_K (xD (cX C)) vwCl (tys (cX C)) (cS C) ∧ WdOk (cX C) ∧ xSt (cX C) (cS C) (cS C).heap ∧ cR C = rm ∧ (cT C).locks = false ∧ cN C ≤ rm.cells ∧ cO C ≤ rm.slots
section OKP
variable {C : Cx} {cc : ByteArray} {nL : Nat} {own : String} {rm : Room}
theorem Ok.ex (h : Ok C cc nL own rm) : (cP C).tables.exec = Jvm.exec := h.1
theorem Ok.bc (h : Ok C cc nL own rm) : (cC C).code = cc := h.2.1
theorem Ok.ml (h : Ok C cc nL own rm) : (cC C).maxLocals = nL := h.2.2.1
theorem Ok.ow (h : Ok C cc nL own rm) : (cS C).vm.findClass own = some (cM C).cls := h.2.2.2.1
theorem Ok.ts (h : Ok C cc nL own rm) : ∀ w ∈ TBL, w.before (cA C) (cS C) = true := h.2.2.2.2.1
theorem Ok.K (h : Ok C cc nL own rm) : va_K (xD (cX C)) vwCl (tys (cX C)) (cS C) := h.2.2.2.2.2.1
theorem Ok.X (h : Ok C cc nL own rm) : WdOk (cX C) := h.2.2.2.2.2.2.1
theorem Ok.St (h : Ok C cc nL own rm) : xSt (cX C) (cS C) (cS C).heap := h.2.2.2.2.2.2.2.1
theorem Ok.R (h : Ok C cc nL own rm) : cR C = rm := h.2.2.2.2.2.2.2.2.1
theorem Ok.lk (h : Ok C cc nL own rm) : (cT C).locks = false := h.2.2.2.2.2.2.2.2.2.1
theorem Ok.ce (h : Ok C cc nL own rm) : cN C ≤ (cR C).cells := by rw [h.R]; exact h.2.2.2.2.2.2.2.2.2.2.1
theorem Ok.sl (h : Ok C cc nL own rm) : cO C ≤ (cR C).slots := by rw [h.R]; exact h.2.2.2.2.2.2.2.2.2.2.2
end OKP
/-- the machine comes from pc, with these locals and this stack, over this memory, to the end that the function's answer names -/
def J {ρ : Type} (C : Cx) (K : ρ → State → Prop) (μ : Mem) (pc : Nat) (ls : List (Nat × Value)) (st : List Value) (Z : Option ρ) : Prop :=
  ∀ (H : Heap) (locs : List Loc) (la : Array Slot), va_P (xD (cX C)) vwCl (wd (cX C) μ) H → va_S (xA (cX C)) (cS C).heap H locs → lv_has la (cC C).maxLocals ls → ∀ r, Z = some r → W (cP C) (xl (cX C)) (cE C) (cR C) (cS C) (cM C) (cA C) (cB C) (cT C) (cC C) H locs (cN C) (cO C) (K r) (F0 (cM C) pc la st)
def DD (cc : ByteArray) (pc : Nat) (i : Instr) (n pc' : Nat) : Prop := decode cc pc = .ok (i, n) ∧ pc + n = pc'
def DB (cc : ByteArray) (pc : Nat) (i : Instr) (off : Int) (pc' tgt : Nat) : Prop := decode cc pc = .ok (i, 3) ∧ pc + 3 = pc' ∧ (pc : Int) + off = (tgt : Int)
section JR
variable {ρ : Type} {C : Cx} {K : ρ → State → Prop} {μ : Mem} {pc pc' tgt : Nat} {ls : List (Nat × Value)} {st : List Value} {Z : Option ρ} {cc : ByteArray} {nL : Nat} {own : String} {rm : Room}
theorem J.no : J C K μ pc ls st none := fun _ _ _ _ _ _ _ h => by cases h
theorem J.sub {ls' : List (Nat × Value)} (ks : List Nat) (h : lv_pick ls ks = ls') (k : J C K μ pc ls' st Z) : J C K μ pc ls st Z :=
  fun H locs la hP hS hl r hr => k H locs la hP hS (lv_sub hl ks h) r hr
theorem J.ite {c : Prop} [Decidable c] {A B : Option ρ} (a : c → J C K μ pc ls st A) (b : ¬ c → J C K μ pc ls st B) : J C K μ pc ls st (if c then A else B) := by
  by_cases h : c
  · rw [if_pos h]; exact a h
  · rw [if_neg h]; exact b h
theorem J.gd {b : Bool} {A : Option ρ} (a : b = true → J C K μ pc ls st A) : J C K μ pc ls st (gq b A) :=
  fun H locs la hP hS hl r hr => a (gq_some hr).1 H locs la hP hS hl r (gq_some hr).2
theorem J.topi {x : Int32} {f : Int32 → Option ρ} (k : ∀ y : Int32, J C K μ pc ls (.int y :: st) (f y)) : J C K μ pc ls (.int x :: st) (lb x f) := k x
theorem J.topl {x : Int64} {f : Int64 → Option ρ} (k : ∀ y : Int64, J C K μ pc ls (.long y :: st) (f y)) : J C K μ pc ls (.long x :: st) (lb x f) := k x
theorem J.goto {off : Int} (hC : Ok C cc nL own rm) (d : DB cc pc (.goto off) off pc' tgt) (k : J C K μ tgt ls st Z) : J C K μ pc ls st Z :=
  fun H locs la hP hS hl r hr => lv_goto hC.ex hC.bc d.1 d.2.2 (k H locs la hP hS hl r hr)

theorem J.iconst {n : Int} {v : Int32} (hC : Ok C cc nL own rm) (d : DD cc pc (.iconst n) 1 pc') (hv : Int32.ofInt n = v) (k : J C K μ pc' ls (.int v :: st) Z) : J C K μ pc ls (st) Z := by
  obtain ⟨d, rfl⟩ := d
  exact fun H locs la hP hS hl r hr => lv_iconst hC.ex hC.bc d hv (k H locs la hP hS hl r hr)
theorem J.bipush {n : Int} {v : Int32} (hC : Ok C cc nL own rm) (d : DD cc pc (.bipush n) 2 pc') (hv : (Int8.ofInt n).toInt32 = v) (k : J C K μ pc' ls (.int v :: st) Z) : J C K μ pc ls (st) Z := by
  obtain ⟨d, rfl⟩ := d
  exact fun H locs la hP hS hl r hr => lv_bipush hC.ex hC.bc d hv (k H locs la hP hS hl r hr)
theorem J.sipush {n : Int} {v : Int32} (hC : Ok C cc nL own rm) (d : DD cc pc (.sipush n) 3 pc') (hv : (Int16.ofInt n).toInt32 = v) (k : J C K μ pc' ls (.int v :: st) Z) : J C K μ pc ls (st) Z := by
  obtain ⟨d, rfl⟩ := d
  exact fun H locs la hP hS hl r hr => lv_sipush hC.ex hC.bc d hv (k H locs la hP hS hl r hr)
theorem J.lconst {n : Fin 2} {v : Int64} (hC : Ok C cc nL own rm) (d : DD cc pc (.lconst n) 1 pc') (hv : Int64.ofNat (n : Nat) = v) (k : J C K μ pc' ls (.long v :: st) Z) : J C K μ pc ls (st) Z := by
  obtain ⟨d, rfl⟩ := d
  exact fun H locs la hP hS hl r hr => lv_lconst hC.ex hC.bc d hv (k H locs la hP hS hl r hr)
theorem J.iadd {x y : Int32} (hC : Ok C cc nL own rm) (d : DD cc pc (.iadd) 1 pc') (k : J C K μ pc' ls (.int (x + y) :: st) Z) : J C K μ pc ls (.int y :: .int x :: st) Z := by
  obtain ⟨d, rfl⟩ := d
  exact fun H locs la hP hS hl r hr => lv_iadd hC.ex hC.bc d (k H locs la hP hS hl r hr)
theorem J.isub {x y : Int32} (hC : Ok C cc nL own rm) (d : DD cc pc (.isub) 1 pc') (k : J C K μ pc' ls (.int (x - y) :: st) Z) : J C K μ pc ls (.int y :: .int x :: st) Z := by
  obtain ⟨d, rfl⟩ := d
  exact fun H locs la hP hS hl r hr => lv_isub hC.ex hC.bc d (k H locs la hP hS hl r hr)
theorem J.imul {x y : Int32} (hC : Ok C cc nL own rm) (d : DD cc pc (.imul) 1 pc') (k : J C K μ pc' ls (.int (x * y) :: st) Z) : J C K μ pc ls (.int y :: .int x :: st) Z := by
  obtain ⟨d, rfl⟩ := d
  exact fun H locs la hP hS hl r hr => lv_imul hC.ex hC.bc d (k H locs la hP hS hl r hr)
theorem J.iand {x y : Int32} (hC : Ok C cc nL own rm) (d : DD cc pc (.iand) 1 pc') (k : J C K μ pc' ls (.int (x &&& y) :: st) Z) : J C K μ pc ls (.int y :: .int x :: st) Z := by
  obtain ⟨d, rfl⟩ := d
  exact fun H locs la hP hS hl r hr => lv_iand hC.ex hC.bc d (k H locs la hP hS hl r hr)
theorem J.ior {x y : Int32} (hC : Ok C cc nL own rm) (d : DD cc pc (.ior) 1 pc') (k : J C K μ pc' ls (.int (x ||| y) :: st) Z) : J C K μ pc ls (.int y :: .int x :: st) Z := by
  obtain ⟨d, rfl⟩ := d
  exact fun H locs la hP hS hl r hr => lv_ior hC.ex hC.bc d (k H locs la hP hS hl r hr)
theorem J.ixor {x y : Int32} (hC : Ok C cc nL own rm) (d : DD cc pc (.ixor) 1 pc') (k : J C K μ pc' ls (.int (x ^^^ y) :: st) Z) : J C K μ pc ls (.int y :: .int x :: st) Z := by
  obtain ⟨d, rfl⟩ := d
  exact fun H locs la hP hS hl r hr => lv_ixor hC.ex hC.bc d (k H locs la hP hS hl r hr)
theorem J.ishl {x y : Int32} (hC : Ok C cc nL own rm) (d : DD cc pc (.ishl) 1 pc') (k : J C K μ pc' ls (.int (x <<< (y &&& 31)) :: st) Z) : J C K μ pc ls (.int y :: .int x :: st) Z := by
  obtain ⟨d, rfl⟩ := d
  exact fun H locs la hP hS hl r hr => lv_ishl hC.ex hC.bc d (k H locs la hP hS hl r hr)
theorem J.ishr {x y : Int32} (hC : Ok C cc nL own rm) (d : DD cc pc (.ishr) 1 pc') (k : J C K μ pc' ls (.int (x >>> (y &&& 31)) :: st) Z) : J C K μ pc ls (.int y :: .int x :: st) Z := by
  obtain ⟨d, rfl⟩ := d
  exact fun H locs la hP hS hl r hr => lv_ishr hC.ex hC.bc d (k H locs la hP hS hl r hr)
theorem J.ladd {x y : Int64} (hC : Ok C cc nL own rm) (d : DD cc pc (.ladd) 1 pc') (k : J C K μ pc' ls (.long (x + y) :: st) Z) : J C K μ pc ls (.long y :: .long x :: st) Z := by
  obtain ⟨d, rfl⟩ := d
  exact fun H locs la hP hS hl r hr => lv_ladd hC.ex hC.bc d (k H locs la hP hS hl r hr)
theorem J.lsub {x y : Int64} (hC : Ok C cc nL own rm) (d : DD cc pc (.lsub) 1 pc') (k : J C K μ pc' ls (.long (x - y) :: st) Z) : J C K μ pc ls (.long y :: .long x :: st) Z := by
  obtain ⟨d, rfl⟩ := d
  exact fun H locs la hP hS hl r hr => lv_lsub hC.ex hC.bc d (k H locs la hP hS hl r hr)
theorem J.lmul {x y : Int64} (hC : Ok C cc nL own rm) (d : DD cc pc (.lmul) 1 pc') (k : J C K μ pc' ls (.long (x * y) :: st) Z) : J C K μ pc ls (.long y :: .long x :: st) Z := by
  obtain ⟨d, rfl⟩ := d
  exact fun H locs la hP hS hl r hr => lv_lmul hC.ex hC.bc d (k H locs la hP hS hl r hr)
theorem J.land {x y : Int64} (hC : Ok C cc nL own rm) (d : DD cc pc (.land) 1 pc') (k : J C K μ pc' ls (.long (x &&& y) :: st) Z) : J C K μ pc ls (.long y :: .long x :: st) Z := by
  obtain ⟨d, rfl⟩ := d
  exact fun H locs la hP hS hl r hr => lv_land hC.ex hC.bc d (k H locs la hP hS hl r hr)
theorem J.lor {x y : Int64} (hC : Ok C cc nL own rm) (d : DD cc pc (.lor) 1 pc') (k : J C K μ pc' ls (.long (x ||| y) :: st) Z) : J C K μ pc ls (.long y :: .long x :: st) Z := by
  obtain ⟨d, rfl⟩ := d
  exact fun H locs la hP hS hl r hr => lv_lor hC.ex hC.bc d (k H locs la hP hS hl r hr)
theorem J.ineg {x : Int32} (hC : Ok C cc nL own rm) (d : DD cc pc (.ineg) 1 pc') (k : J C K μ pc' ls (.int (-x) :: st) Z) : J C K μ pc ls (.int x :: st) Z := by
  obtain ⟨d, rfl⟩ := d
  exact fun H locs la hP hS hl r hr => lv_ineg hC.ex hC.bc d (k H locs la hP hS hl r hr)
theorem J.i2l {x : Int32} (hC : Ok C cc nL own rm) (d : DD cc pc (.i2l) 1 pc') (k : J C K μ pc' ls (.long x.toInt64 :: st) Z) : J C K μ pc ls (.int x :: st) Z := by
  obtain ⟨d, rfl⟩ := d
  exact fun H locs la hP hS hl r hr => lv_i2l hC.ex hC.bc d rfl (k H locs la hP hS hl r hr)
theorem J.l2i {x : Int64} (hC : Ok C cc nL own rm) (d : DD cc pc (.l2i) 1 pc') (k : J C K μ pc' ls (.int x.toInt32 :: st) Z) : J C K μ pc ls (.long x :: st) Z := by
  obtain ⟨d, rfl⟩ := d
  exact fun H locs la hP hS hl r hr => lv_l2i hC.ex hC.bc d rfl (k H locs la hP hS hl r hr)
theorem J.i2c {x : Int32} (hC : Ok C cc nL own rm) (d : DD cc pc (.i2c) 1 pc') (k : J C K μ pc' ls (.int (x.toUInt32 % 65536).toInt32 :: st) Z) : J C K μ pc ls (.int x :: st) Z := by
  obtain ⟨d, rfl⟩ := d
  exact fun H locs la hP hS hl r hr => lv_i2c hC.ex hC.bc d rfl (k H locs la hP hS hl r hr)
theorem J.iushr {x y : Int32} (hC : Ok C cc nL own rm) (d : DD cc pc (.iushr) 1 pc') (k : J C K μ pc' ls (.int (x.toUInt32 >>> (y.toUInt32 &&& Int32.toUInt32 31)).toInt32 :: st) Z) : J C K μ pc ls (.int y :: .int x :: st) Z := by
  obtain ⟨d, rfl⟩ := d
  exact fun H locs la hP hS hl r hr => lv_iushr hC.ex hC.bc d rfl (k H locs la hP hS hl r hr)
theorem J.lushr {x : Int64} {y : Int32} (hC : Ok C cc nL own rm) (d : DD cc pc (.lushr) 1 pc') (k : J C K μ pc' ls (.long (x.toUInt64 >>> (y.toInt64.toUInt64 &&& Int64.toUInt64 63)).toInt64 :: st) Z) : J C K μ pc ls (.int y :: .long x :: st) Z := by
  obtain ⟨d, rfl⟩ := d
  exact fun H locs la hP hS hl r hr => lv_lushr hC.ex hC.bc d rfl (k H locs la hP hS hl r hr)
theorem J.lshl {x : Int64} {y : Int32} (hC : Ok C cc nL own rm) (d : DD cc pc (.lshl) 1 pc') (k : J C K μ pc' ls (.long (x <<< (y.toInt64 &&& 63)) :: st) Z) : J C K μ pc ls (.int y :: .long x :: st) Z := by
  obtain ⟨d, rfl⟩ := d
  exact fun H locs la hP hS hl r hr => lv_lshl hC.ex hC.bc d rfl (k H locs la hP hS hl r hr)
theorem J.lcmp {x y : Int64} (hC : Ok C cc nL own rm) (d : DD cc pc (.lcmp) 1 pc') (k : J C K μ pc' ls (.int (lg_cmp x y) :: st) Z) : J C K μ pc ls (.long y :: .long x :: st) Z := by
  obtain ⟨d, rfl⟩ := d
  exact fun H locs la hP hS hl r hr => W.lcmp hC.ex hC.bc d (k H locs la hP hS hl r hr)
theorem J.dup {v : Value} (hC : Ok C cc nL own rm) (d : DD cc pc (.dup) 1 pc') (hv : v.category = 1) (k : J C K μ pc' ls (v :: v :: st) Z) : J C K μ pc ls (v :: st) Z := by
  obtain ⟨d, rfl⟩ := d
  exact fun H locs la hP hS hl r hr => lv_dup hC.ex hC.bc d hv (k H locs la hP hS hl r hr)
theorem J.pop {v : Value} (hC : Ok C cc nL own rm) (d : DD cc pc (.pop) 1 pc') (hv : v.category = 1) (k : J C K μ pc' ls (st) Z) : J C K μ pc ls (v :: st) Z := by
  obtain ⟨d, rfl⟩ := d
  exact fun H locs la hP hS hl r hr => lv_pop hC.ex hC.bc d hv (k H locs la hP hS hl r hr)
theorem J.dup2 {v w : Value} (hC : Ok C cc nL own rm) (d : DD cc pc (.dup2) 1 pc') (hv : v.category = 1) (hw : w.category = 1) (k : J C K μ pc' ls (v :: w :: v :: w :: st) Z) : J C K μ pc ls (v :: w :: st) Z := by
  obtain ⟨d, rfl⟩ := d
  exact fun H locs la hP hS hl r hr => lv_dup2_11 hC.ex hC.bc d hv hw (k H locs la hP hS hl r hr)
theorem J.idiv {x y : Int32} (hC : Ok C cc nL own rm) (d : DD cc pc (.idiv) 1 pc') (k : J C K μ pc' ls (.int (x / y) :: st) Z) : J C K μ pc ls (.int y :: .int x :: st) (gq (decide (¬ y = 0)) Z) := by
  obtain ⟨d, rfl⟩ := d
  exact J.gd fun hy H locs la hP hS hl r hr => lv_idiv hC.ex hC.bc d (of_decide_eq_true hy) (k H locs la hP hS hl r hr)
theorem J.irem {x y : Int32} (hC : Ok C cc nL own rm) (d : DD cc pc (.irem) 1 pc') (k : J C K μ pc' ls (.int (x - x / y * y) :: st) Z) : J C K μ pc ls (.int y :: .int x :: st) (gq (decide (¬ y = 0)) Z) := by
  obtain ⟨d, rfl⟩ := d
  exact J.gd fun hy H locs la hP hS hl r hr => lv_irem hC.ex hC.bc d (of_decide_eq_true hy) (k H locs la hP hS hl r hr)
theorem J.ldiv {x y : Int64} (hC : Ok C cc nL own rm) (d : DD cc pc (.ldiv) 1 pc') (k : J C K μ pc' ls (.long (x / y) :: st) Z) : J C K μ pc ls (.long y :: .long x :: st) (gq (decide (¬ y = 0)) Z) := by
  obtain ⟨d, rfl⟩ := d
  exact J.gd fun hy H locs la hP hS hl r hr => lv_ldiv hC.ex hC.bc d (of_decide_eq_true hy) (k H locs la hP hS hl r hr)
theorem J.lrem {x y : Int64} (hC : Ok C cc nL own rm) (d : DD cc pc (.lrem) 1 pc') (k : J C K μ pc' ls (.long (x - x / y * y) :: st) Z) : J C K μ pc ls (.long y :: .long x :: st) (gq (decide (¬ y = 0)) Z) := by
  obtain ⟨d, rfl⟩ := d
  exact J.gd fun hy H locs la hP hS hl r hr => lv_lrem hC.ex hC.bc d (of_decide_eq_true hy) (k H locs la hP hS hl r hr)
theorem J.iload {i j : Nat} {x : Int32} (hC : Ok C cc nL own rm) (d : DD cc pc (.iload i) 2 pc') (hj : ls[j]? = some (i, .int x)) (k : J C K μ pc' ls (.int x :: st) Z) : J C K μ pc ls st Z := by
  obtain ⟨d, rfl⟩ := d
  exact fun H locs la hP hS hl r hr => lv_iload hC.ex hC.bc d (lv_at hl j hj) (k H locs la hP hS hl r hr)
theorem J.iload_n {i : Fin 4} {j : Nat} {x : Int32} (hC : Ok C cc nL own rm) (d : DD cc pc (.iload_n i) 1 pc') (hj : ls[j]? = some ((i : Nat), .int x)) (k : J C K μ pc' ls (.int x :: st) Z) : J C K μ pc ls st Z := by
  obtain ⟨d, rfl⟩ := d
  exact fun H locs la hP hS hl r hr => lv_iload_n hC.ex hC.bc d rfl (lv_at hl j hj) (k H locs la hP hS hl r hr)
theorem J.lload {i j : Nat} {x : Int64} (hC : Ok C cc nL own rm) (d : DD cc pc (.lload i) 2 pc') (hj : ls[j]? = some (i, .long x)) (k : J C K μ pc' ls (.long x :: st) Z) : J C K μ pc ls st Z := by
  obtain ⟨d, rfl⟩ := d
  exact fun H locs la hP hS hl r hr => lv_lload hC.ex hC.bc d (lv_at hl j hj) (k H locs la hP hS hl r hr)
theorem J.lload_n {i : Fin 4} {j : Nat} {x : Int64} (hC : Ok C cc nL own rm) (d : DD cc pc (.lload_n i) 1 pc') (hj : ls[j]? = some ((i : Nat), .long x)) (k : J C K μ pc' ls (.long x :: st) Z) : J C K μ pc ls st Z := by
  obtain ⟨d, rfl⟩ := d
  exact fun H locs la hP hS hl r hr => lv_lload_n hC.ex hC.bc d rfl (lv_at hl j hj) (k H locs la hP hS hl r hr)
theorem J.aload {i j : Nat} {x : Nat} (hC : Ok C cc nL own rm) (d : DD cc pc (.aload i) 2 pc') (hj : ls[j]? = some (i, .ref x)) (k : J C K μ pc' ls (.ref x :: st) Z) : J C K μ pc ls st Z := by
  obtain ⟨d, rfl⟩ := d
  exact fun H locs la hP hS hl r hr => lv_aload hC.ex hC.bc d (lv_at hl j hj) (k H locs la hP hS hl r hr)
theorem J.aload_n {i : Fin 4} {j : Nat} {x : Nat} (hC : Ok C cc nL own rm) (d : DD cc pc (.aload_n i) 1 pc') (hj : ls[j]? = some ((i : Nat), .ref x)) (k : J C K μ pc' ls (.ref x :: st) Z) : J C K μ pc ls st Z := by
  obtain ⟨d, rfl⟩ := d
  exact fun H locs la hP hS hl r hr => lv_aload_n hC.ex hC.bc d rfl (lv_at hl j hj) (k H locs la hP hS hl r hr)
theorem J.istore {i : Nat} {x : Int32} (ls' : List (Nat × Value)) (hC : Ok C cc nL own rm) (d : DD cc pc (.istore i) 2 pc') (hn : i < nL) (hl' : (i, Value.int x) :: ls.filter (fun q => !(q.1 == i) && !(q.1 + 1 == i && q.2.category == 2)) = ls') (k : J C K μ pc' ls' st Z) : J C K μ pc ls (.int x :: st) Z := by
  obtain ⟨d, rfl⟩ := d
  exact fun H locs la hP hS hl r hr => lv_istore hC.ex hC.bc d hl (by rw [hC.ml]; exact hn) hl' (fun la hl => k H locs la hP hS hl r hr)
theorem J.istore_n {i : Fin 4} {x : Int32} (ls' : List (Nat × Value)) (hC : Ok C cc nL own rm) (d : DD cc pc (.istore_n i) 1 pc') (hn : (i : Nat) < nL) (hl' : ((i : Nat), Value.int x) :: ls.filter (fun q => !(q.1 == (i : Nat)) && !(q.1 + 1 == (i : Nat) && q.2.category == 2)) = ls') (k : J C K μ pc' ls' st Z) : J C K μ pc ls (.int x :: st) Z := by
  obtain ⟨d, rfl⟩ := d
  exact fun H locs la hP hS hl r hr => lv_istore_n hC.ex hC.bc d rfl hl (by rw [hC.ml]; exact hn) hl' (fun la hl => k H locs la hP hS hl r hr)
theorem J.lstore {i : Nat} {x : Int64} (ls' : List (Nat × Value)) (hC : Ok C cc nL own rm) (d : DD cc pc (.lstore i) 2 pc') (hn : i + 1 < nL) (hl' : (i, Value.long x) :: ls.filter (fun q => !(q.1 == i) && (!(q.1 == i + 1) && !(q.1 + 1 == i && q.2.category == 2))) = ls') (k : J C K μ pc' ls' st Z) : J C K μ pc ls (.long x :: st) Z := by
  obtain ⟨d, rfl⟩ := d
  exact fun H locs la hP hS hl r hr => lv_lstore hC.ex hC.bc d hl (by rw [hC.ml]; exact hn) hl' (fun la hl => k H locs la hP hS hl r hr)
theorem J.lstore_n {i : Fin 4} {x : Int64} (ls' : List (Nat × Value)) (hC : Ok C cc nL own rm) (d : DD cc pc (.lstore_n i) 1 pc') (hn : (i : Nat) + 1 < nL) (hl' : ((i : Nat), Value.long x) :: ls.filter (fun q => !(q.1 == (i : Nat)) && (!(q.1 == (i : Nat) + 1) && !(q.1 + 1 == (i : Nat) && q.2.category == 2))) = ls') (k : J C K μ pc' ls' st Z) : J C K μ pc ls (.long x :: st) Z := by
  obtain ⟨d, rfl⟩ := d
  exact fun H locs la hP hS hl r hr => lv_lstore_n hC.ex hC.bc d rfl hl (by rw [hC.ml]; exact hn) hl' (fun la hl => k H locs la hP hS hl r hr)
theorem J.astore {i : Nat} {x : Nat} (ls' : List (Nat × Value)) (hC : Ok C cc nL own rm) (d : DD cc pc (.astore i) 2 pc') (hn : i < nL) (hl' : (i, Value.ref x) :: ls.filter (fun q => !(q.1 == i) && !(q.1 + 1 == i && q.2.category == 2)) = ls') (k : J C K μ pc' ls' st Z) : J C K μ pc ls (.ref x :: st) Z := by
  obtain ⟨d, rfl⟩ := d
  exact fun H locs la hP hS hl r hr => lv_astore hC.ex hC.bc d hl (by rw [hC.ml]; exact hn) hl' (fun la hl => k H locs la hP hS hl r hr)
theorem J.astore_n {i : Fin 4} {x : Nat} (ls' : List (Nat × Value)) (hC : Ok C cc nL own rm) (d : DD cc pc (.astore_n i) 1 pc') (hn : (i : Nat) < nL) (hl' : ((i : Nat), Value.ref x) :: ls.filter (fun q => !(q.1 == (i : Nat)) && !(q.1 + 1 == (i : Nat) && q.2.category == 2)) = ls') (k : J C K μ pc' ls' st Z) : J C K μ pc ls (.ref x :: st) Z := by
  obtain ⟨d, rfl⟩ := d
  exact fun H locs la hP hS hl r hr => lv_astore_n hC.ex hC.bc d rfl hl (by rw [hC.ml]; exact hn) hl' (fun la hl => k H locs la hP hS hl r hr)
theorem J.iinc {i j : Nat} {n : Int} {x v : Int32} {f : Int32 → Option ρ} (ls' : Int32 → List (Nat × Value)) (hC : Ok C cc nL own rm) (d : DD cc pc (.iinc i n) 3 pc') (hj : ls[j]? = some (i, .int x)) (hv : Int32.ofInt n = v) (hn : i < nL) (hl' : ∀ y : Int32, (i, Value.int y) :: ls.filter (fun q => !(q.1 == i) && !(q.1 + 1 == i && q.2.category == 2)) = ls' y) (k : ∀ y : Int32, J C K μ pc' (ls' y) st (f y)) : J C K μ pc ls st (lb (x + v) f) := by
  obtain ⟨d, rfl⟩ := d
  subst hv
  exact fun H locs la hP hS hl r hr => lv_iinc hC.ex hC.bc d hl hj rfl (by rw [hC.ml]; exact hn) (hl' _) (fun la hl => k _ H locs la hP hS hl r hr)
theorem J.if_eq {x : Int32} {off : Int} {A B : Option ρ} (hC : Ok C cc nL own rm) (d : DB cc pc (.ifCond .eq off) off pc' tgt) (a : x = 0 → J C K μ tgt ls st A) (b : ¬ x = 0 → J C K μ pc' ls st B) : J C K μ pc ls (.int x :: st) (if x = 0 then A else B) := by
  obtain ⟨d, rfl, ht⟩ := d
  refine J.ite (fun h H locs la hP hS hl r hr => ?_) (fun h H locs la hP hS hl r hr => ?_)
  · exact lv_if_eq hC.ex hC.bc d ht (fun _ => a h H locs la hP hS hl r hr) (fun q => absurd h q)
  · exact lv_if_eq hC.ex hC.bc d ht (fun q => absurd q h) (fun _ => b h H locs la hP hS hl r hr)
theorem J.icmp_eq {x y : Int32} {off : Int} {A B : Option ρ} (hC : Ok C cc nL own rm) (d : DB cc pc (.if_icmp .eq off) off pc' tgt) (a : x = y → J C K μ tgt ls st A) (b : ¬ x = y → J C K μ pc' ls st B) : J C K μ pc ls (.int y :: .int x :: st) (if x = y then A else B) := by
  obtain ⟨d, rfl, ht⟩ := d
  refine J.ite (fun h H locs la hP hS hl r hr => ?_) (fun h H locs la hP hS hl r hr => ?_)
  · exact lv_icmp_eq hC.ex hC.bc d ht (fun _ => a h H locs la hP hS hl r hr) (fun q => absurd h q)
  · exact lv_icmp_eq hC.ex hC.bc d ht (fun q => absurd q h) (fun _ => b h H locs la hP hS hl r hr)
theorem J.if_ne {x : Int32} {off : Int} {A B : Option ρ} (hC : Ok C cc nL own rm) (d : DB cc pc (.ifCond .ne off) off pc' tgt) (a : x = 0 → J C K μ pc' ls st A) (b : ¬ x = 0 → J C K μ tgt ls st B) : J C K μ pc ls (.int x :: st) (if x = 0 then A else B) := by
  obtain ⟨d, rfl, ht⟩ := d
  refine J.ite (fun h H locs la hP hS hl r hr => ?_) (fun h H locs la hP hS hl r hr => ?_)
  · exact lv_if_ne hC.ex hC.bc d ht (fun q => absurd h q) (fun _ => a h H locs la hP hS hl r hr)
  · exact lv_if_ne hC.ex hC.bc d ht (fun _ => b h H locs la hP hS hl r hr) (fun q => absurd q h)
theorem J.icmp_ne {x y : Int32} {off : Int} {A B : Option ρ} (hC : Ok C cc nL own rm) (d : DB cc pc (.if_icmp .ne off) off pc' tgt) (a : x = y → J C K μ pc' ls st A) (b : ¬ x = y → J C K μ tgt ls st B) : J C K μ pc ls (.int y :: .int x :: st) (if x = y then A else B) := by
  obtain ⟨d, rfl, ht⟩ := d
  refine J.ite (fun h H locs la hP hS hl r hr => ?_) (fun h H locs la hP hS hl r hr => ?_)
  · exact lv_icmp_ne hC.ex hC.bc d ht (fun q => absurd h q) (fun _ => a h H locs la hP hS hl r hr)
  · exact lv_icmp_ne hC.ex hC.bc d ht (fun _ => b h H locs la hP hS hl r hr) (fun q => absurd q h)
theorem J.if_lt {x : Int32} {off : Int} {A B : Option ρ} (hC : Ok C cc nL own rm) (d : DB cc pc (.ifCond .lt off) off pc' tgt) (a : x < 0 → J C K μ tgt ls st A) (b : ¬ x < 0 → J C K μ pc' ls st B) : J C K μ pc ls (.int x :: st) (if x < 0 then A else B) := by
  obtain ⟨d, rfl, ht⟩ := d
  refine J.ite (fun h H locs la hP hS hl r hr => ?_) (fun h H locs la hP hS hl r hr => ?_)
  · exact lv_if_lt hC.ex hC.bc d ht (fun _ => a h H locs la hP hS hl r hr) (fun q => absurd h q)
  · exact lv_if_lt hC.ex hC.bc d ht (fun q => absurd q h) (fun _ => b h H locs la hP hS hl r hr)
theorem J.icmp_lt {x y : Int32} {off : Int} {A B : Option ρ} (hC : Ok C cc nL own rm) (d : DB cc pc (.if_icmp .lt off) off pc' tgt) (a : x < y → J C K μ tgt ls st A) (b : ¬ x < y → J C K μ pc' ls st B) : J C K μ pc ls (.int y :: .int x :: st) (if x < y then A else B) := by
  obtain ⟨d, rfl, ht⟩ := d
  refine J.ite (fun h H locs la hP hS hl r hr => ?_) (fun h H locs la hP hS hl r hr => ?_)
  · exact lv_icmp_lt hC.ex hC.bc d ht (fun _ => a h H locs la hP hS hl r hr) (fun q => absurd h q)
  · exact lv_icmp_lt hC.ex hC.bc d ht (fun q => absurd q h) (fun _ => b h H locs la hP hS hl r hr)
theorem J.if_ge {x : Int32} {off : Int} {A B : Option ρ} (hC : Ok C cc nL own rm) (d : DB cc pc (.ifCond .ge off) off pc' tgt) (a : 0 ≤ x → J C K μ tgt ls st A) (b : ¬ 0 ≤ x → J C K μ pc' ls st B) : J C K μ pc ls (.int x :: st) (if 0 ≤ x then A else B) := by
  obtain ⟨d, rfl, ht⟩ := d
  refine J.ite (fun h H locs la hP hS hl r hr => ?_) (fun h H locs la hP hS hl r hr => ?_)
  · exact lv_if_ge hC.ex hC.bc d ht (fun _ => a h H locs la hP hS hl r hr) (fun q => absurd h q)
  · exact lv_if_ge hC.ex hC.bc d ht (fun q => absurd q h) (fun _ => b h H locs la hP hS hl r hr)
theorem J.icmp_ge {x y : Int32} {off : Int} {A B : Option ρ} (hC : Ok C cc nL own rm) (d : DB cc pc (.if_icmp .ge off) off pc' tgt) (a : y ≤ x → J C K μ tgt ls st A) (b : ¬ y ≤ x → J C K μ pc' ls st B) : J C K μ pc ls (.int y :: .int x :: st) (if y ≤ x then A else B) := by
  obtain ⟨d, rfl, ht⟩ := d
  refine J.ite (fun h H locs la hP hS hl r hr => ?_) (fun h H locs la hP hS hl r hr => ?_)
  · exact lv_icmp_ge hC.ex hC.bc d ht (fun _ => a h H locs la hP hS hl r hr) (fun q => absurd h q)
  · exact lv_icmp_ge hC.ex hC.bc d ht (fun q => absurd q h) (fun _ => b h H locs la hP hS hl r hr)
theorem J.if_gt {x : Int32} {off : Int} {A B : Option ρ} (hC : Ok C cc nL own rm) (d : DB cc pc (.ifCond .gt off) off pc' tgt) (a : 0 < x → J C K μ tgt ls st A) (b : ¬ 0 < x → J C K μ pc' ls st B) : J C K μ pc ls (.int x :: st) (if 0 < x then A else B) := by
  obtain ⟨d, rfl, ht⟩ := d
  refine J.ite (fun h H locs la hP hS hl r hr => ?_) (fun h H locs la hP hS hl r hr => ?_)
  · exact lv_if_gt hC.ex hC.bc d ht (fun _ => a h H locs la hP hS hl r hr) (fun q => absurd h q)
  · exact lv_if_gt hC.ex hC.bc d ht (fun q => absurd q h) (fun _ => b h H locs la hP hS hl r hr)
theorem J.icmp_gt {x y : Int32} {off : Int} {A B : Option ρ} (hC : Ok C cc nL own rm) (d : DB cc pc (.if_icmp .gt off) off pc' tgt) (a : y < x → J C K μ tgt ls st A) (b : ¬ y < x → J C K μ pc' ls st B) : J C K μ pc ls (.int y :: .int x :: st) (if y < x then A else B) := by
  obtain ⟨d, rfl, ht⟩ := d
  refine J.ite (fun h H locs la hP hS hl r hr => ?_) (fun h H locs la hP hS hl r hr => ?_)
  · exact lv_icmp_gt hC.ex hC.bc d ht (fun _ => a h H locs la hP hS hl r hr) (fun q => absurd h q)
  · exact lv_icmp_gt hC.ex hC.bc d ht (fun q => absurd q h) (fun _ => b h H locs la hP hS hl r hr)
theorem J.if_le {x : Int32} {off : Int} {A B : Option ρ} (hC : Ok C cc nL own rm) (d : DB cc pc (.ifCond .le off) off pc' tgt) (a : x ≤ 0 → J C K μ tgt ls st A) (b : ¬ x ≤ 0 → J C K μ pc' ls st B) : J C K μ pc ls (.int x :: st) (if x ≤ 0 then A else B) := by
  obtain ⟨d, rfl, ht⟩ := d
  refine J.ite (fun h H locs la hP hS hl r hr => ?_) (fun h H locs la hP hS hl r hr => ?_)
  · exact lv_if_le hC.ex hC.bc d ht (fun _ => a h H locs la hP hS hl r hr) (fun q => absurd h q)
  · exact lv_if_le hC.ex hC.bc d ht (fun q => absurd q h) (fun _ => b h H locs la hP hS hl r hr)
theorem J.icmp_le {x y : Int32} {off : Int} {A B : Option ρ} (hC : Ok C cc nL own rm) (d : DB cc pc (.if_icmp .le off) off pc' tgt) (a : x ≤ y → J C K μ tgt ls st A) (b : ¬ x ≤ y → J C K μ pc' ls st B) : J C K μ pc ls (.int y :: .int x :: st) (if x ≤ y then A else B) := by
  obtain ⟨d, rfl, ht⟩ := d
  refine J.ite (fun h H locs la hP hS hl r hr => ?_) (fun h H locs la hP hS hl r hr => ?_)
  · exact lv_icmp_le hC.ex hC.bc d ht (fun _ => a h H locs la hP hS hl r hr) (fun q => absurd h q)
  · exact lv_icmp_le hC.ex hC.bc d ht (fun q => absurd q h) (fun _ => b h H locs la hP hS hl r hr)
end JR
