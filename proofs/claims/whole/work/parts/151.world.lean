theorem nCall0 {C : Cx} {Q : State → Prop} {wn wn' : List va_E} {ce so pc pc' : Nat} {ls : List (Nat × Value)} {st : List Value} {cc : ByteArray} {nL : Nat} {own : String} {rm : Room} (hC : OkN C cc nL own rm) (hAO : va_AO RX4 (cS C) ∧ va_AO RX7 (cS C) ∧ va_AO RX9 (cS C)) {idx n a mc ms : Nat} {y : MethodName} {b : ByteArray} {rc : Room} (d : DD cc pc (.invokespecial idx) 3 pc') (hq : Cond.methodLink own idx y ∈ TBL) (y1 : Cond.code y b n none ∈ TBL) (y2 : Cond.initialized y.cls ∈ TBL) (y3 : Cond.instanceMethod y ∈ TBL) (y4 : y.name = "<init>") (y5 : y.cls ≠ "java/lang/invoke/MethodHandle" ∧ y.cls ≠ "java/lang/invoke/VarHandle") (y6 : (parseMethodDescriptor y.desc).map (fun d => d.parameters.length) = some 0) (hR : RleN rc n rm) (hcs : rc.cells = mc ∧ rc.slots = ms) (hM : CtN (cX C) y b n rc a wn wn') (hc : ce + mc ≤ rm.cells) (hs : so + ms ≤ rm.slots) (hw : (st.map fun v => v.category).sum ≤ 8) (kk : N C Q wn' (ce + mc) (so + ms) pc' ls st) : N C Q wn ce so pc ls (.ref (xad (cX C) a) :: st) := by
  obtain ⟨d, rfl⟩ := d
  obtain ⟨rfl, rfl⟩ := hcs
  intro H locs la hz hP hS hl
  have hrun := va_runI (R := cR C) (s := cS C) (H := H) (As := []) (rest := st) (g := F0 (cM C) pc la (.ref (xad (cX C) a) :: st)) ⟨hC.ex, hC.bc, hC.ml, hC.ow, hC.ts⟩ hM ⟨⟨rfl, rfl, by rw [hC.R]; exact hR.1, by rw [hC.R]; exact hR.2, pay_in hC.ts (WS_good y1), List.mem_cons_self, hC.ts _ y1, hC.ts _ y2, y5, fun sig hs => by rw [hs] at y6; exact (Option.some.inj y6).symm, hC.ts _ hq⟩, y4, hC.ts _ y3⟩ ⟨PreN.blind _, PreN.at hC hAO hz hP _⟩ rfl rfl (hl.1.trans hC.ml) rfl (lv_room hw) d (e := cE C) (below := cB C) (meth := cT C) (cells := ce) (slots := so) (locs := locs) ⟨by rw [hC.R]; exact hc, by rw [hC.R]; exact hs⟩
  refine va_callv hrun hS (fun q _ h => h) (fun q h => h) (fun u t H1 locs1 ht _ _ hB _ _ hS1 => ?_)
  subst ht
  exact kk _ locs1 la hB.1 hB.2 hS1 hl

def μ0 : Mem := (fun _ _ => 0, fun _ _ => 0)
theorem arr_ofC {s : State} {A : Array Value} {t : FieldType} (h : (Cond.arrayClass t).before A s = true) (ht : ∀ n, t ≠ .object n) : ∃ c, ArrOfT s c t ∧ va_RA s c t := by
  obtain ⟨cA, kA, comp, hf, hk, hkind⟩ := Cond.arrayClass_spec h
  refine ⟨cA, fun N z => ⟨(fun k h => by cases h), kA, hk, comp, hkind⟩, ?_⟩
  cases t with
  | object n => exact absurd rfl (ht n)
  | _ => exact hf
theorem arr_ofO {s : State} {A : Array Value} {n : String} (h : (Cond.arrayOver (.object n)).before A s = true) : ∃ c, ArrOfT s c (.object n) ∧ va_RA s c (.object n) := by
  obtain ⟨comp, cA, kA, h1, h2, h3, h4, h5⟩ := Cond.arrayOver_spec h
  exact ⟨cA, fun N z => ⟨(fun k h => by cases h), kA, h3, comp, h4⟩, kA, comp, h3, h4, h1, h5⟩
def lwTm (i : Nat) : Term := match i with
  | 0 => .string RX1 92
  | 1 => .string RX9 51
  | _ => .string RX10 138
set_option maxHeartbeats 4000000 in
set_option maxRecDepth 100000 in
theorem law_world {p : Program} {s : State} {m : MethodId} {meth : Method} {c : Code} (l : Launch) {b L : Nat} {xs : Nat → Int32} (C0 : lw_At p s m meth c b L xs) : ∃ X : Wd, xl X = l ∧ (∀ i, xad X i = s.heap.size + i) ∧ va_K (xD X) vwCl (tys X) s ∧ xSt X s s.heap ∧ NestOk s ∧ BadOk s ∧ (va_AO RX4 s ∧ va_AO RX7 s ∧ va_AO RX9 s) := by
  obtain ⟨hx, hb, hr, hml, hown, hts, hX, hbl, hlocks, hgv⟩ := id C0
  have hg := flat_of_before _ hgv
  have hT : ∀ w ∈ TBL, w.before #[Value.ref b] s = true := fun w hw => hts w (List.mem_filter.mp hw).1
  have hA : ∀ a : Nat, a < s.heap.size → ¬ (fun q : Nat => ∃ p, p < NP ∧ q = s.heap.size + p) a := fun a h1 h2 => by
    obtain ⟨p, -, e⟩ := h2
    omega
  obtain ⟨c0, i0, hK0⟩ := u_known (C := RX0) (T := TX0) (N := 6) (n := 6) hT i_X0 (hT (.instantiable RX0 6) (in1 (List.mem_of_getElem? (i := 89) rfl) rfl))
  obtain ⟨c1, i1, hK1⟩ := u_known (C := RX1) (T := TX1) (N := 6) (n := 6) hT i_X1 (hT (.instantiable RX1 6) (in1 (List.mem_of_getElem? (i := 60) rfl) rfl))
  obtain ⟨c2, i2, hK2⟩ := u_known (C := RX2) (T := TX2) (N := 9) (n := 9) hT i_X2 (hT (.instantiable RX2 9) (in2 (List.mem_of_getElem? (i := 27) rfl) rfl))
  obtain ⟨c3, i3, hK3⟩ := u_known (C := RX3) (T := TX3) (N := 2) (n := 2) hT i_X3 (hT (.instantiable RX3 2) (in1 (List.mem_of_getElem? (i := 149) rfl) rfl))
  obtain ⟨c4, i4, hK4⟩ := u_known (C := RX4) (T := TX4) (N := 4) (n := 4) hT i_X4 (hT (.instantiable RX4 4) (in1 (List.mem_of_getElem? (i := 103) rfl) rfl))
  obtain ⟨c5, i5, hK5⟩ := u_known (C := RX5) (T := TX5) (N := 6) (n := 6) hT i_X5 (hT (.instantiable RX5 6) (in1 (List.mem_of_getElem? (i := 239) rfl) rfl))
  obtain ⟨c6, i6, hK6⟩ := u_known (C := RX6) (T := TX6) (N := 3) (n := 3) hT i_X6 (hT (.instantiable RX6 3) (in1 (List.mem_of_getElem? (i := 222) rfl) rfl))
  obtain ⟨c7, i7, hK7⟩ := u_known (C := RX7) (T := TX7) (N := 4) (n := 4) hT i_X7 (hT (.instantiable RX7 4) (in1 (List.mem_of_getElem? (i := 96) rfl) rfl))
  obtain ⟨c8, i8, hK8⟩ := u_known (C := RX8) (T := TX8) (N := 4) (n := 4) hT i_X8 (hT (.instantiable RX8 4) (in1 (List.mem_of_getElem? (i := 34) rfl) rfl))
  obtain ⟨c9, i9, hK9⟩ := u_known (C := RX9) (T := TX9) (N := 5) (n := 5) hT i_X9 (hT (.instantiable RX9 5) (in1 (List.mem_of_getElem? (i := 192) rfl) rfl))
  obtain ⟨c10, i10, hK10⟩ := u_known (C := RX10) (T := TX10) (N := 14) (n := 14) hT i_X10 (hT (.instantiable RX10 14) (in1 (List.mem_of_getElem? (i := 26) rfl) rfl))
  obtain ⟨c11, i11, hK11⟩ := u_known (C := RX11) (T := TX11) (N := 33) (n := 33) hT i_X11 (hT (.instantiable RX11 33) (in5 (List.mem_of_getElem? (i := 199) rfl) rfl))
  have hKc : ∃ D : va_G, ∀ (k : Nat) (q : vw_C), vwCl[k]? = some q → u_Kn s q.1 q.2.1 q.2.2 (D.1 k) (D.2 k) := by
    refine ⟨(fun k => match k with | 0 => c0 | 1 => c1 | 2 => c2 | 3 => c3 | 4 => c4 | 5 => c5 | 6 => c6 | 7 => c7 | 8 => c8 | 9 => c9 | 10 => c10 | _ => c11, fun k => match k with | 0 => i0 | 1 => i1 | 2 => i2 | 3 => i3 | 4 => i4 | 5 => i5 | 6 => i6 | 7 => i7 | 8 => i8 | 9 => i9 | 10 => i10 | _ => i11), ?_⟩
    intro k q hq
    match k, hq with
    | 0, hq => cases hq; exact hK0
    | 1, hq => cases hq; exact hK1
    | 2, hq => cases hq; exact hK2
    | 3, hq => cases hq; exact hK3
    | 4, hq => cases hq; exact hK4
    | 5, hq => cases hq; exact hK5
    | 6, hq => cases hq; exact hK6
    | 7, hq => cases hq; exact hK7
    | 8, hq => cases hq; exact hK8
    | 9, hq => cases hq; exact hK9
    | 10, hq => cases hq; exact hK10
    | 11, hq => cases hq; exact hK11
    | k + 12, hq => simp [vwCl] at hq
  obtain ⟨D, hD⟩ := hKc
  obtain ⟨aI, hI1, hI2⟩ := arr_ofC (hT _ w_aI) (fun n h => by cases h)
  obtain ⟨aJ, hJ1, hJ2⟩ := arr_ofC (hT _ w_aJ) (fun n h => by cases h)
  have hoL : (Cond.arrayOver (.object RX4)).before #[Value.ref b] s = true := hts _ (by decide +kernel)
  obtain ⟨aL, hL1, hL2⟩ := arr_ofO hoL
  have hoS : (Cond.arrayOver (.object RX7)).before #[Value.ref b] s = true := hts _ (by decide +kernel)
  obtain ⟨aS, hS1, hS2⟩ := arr_ofO hoS
  have hoW : (Cond.arrayOver (.object RX9)).before #[Value.ref b] s = true := hts _ (by decide +kernel)
  obtain ⟨aW, hW1, hW2⟩ := arr_ofO hoW
  obtain ⟨t0, he0, hT0⟩ := va_Tof (tm := .static RX1 "LOW" "[I") (ty := .int) (N := 8) (f := fun j => .int (tLOW j)) (A := fun q : Nat => ∃ p, p < NP ∧ q = s.heap.size + p) (by decide) (hg _ (by decide +kernel)) (va_eqt (hg _ (by decide +kernel))) (fun j hj => by
    match j, hj with
    | 0, _ => exact va_eqt (hg _ (by decide +kernel))
    | 1, _ => exact va_eqt (hg _ (by decide +kernel))
    | 2, _ => exact va_eqt (hg _ (by decide +kernel))
    | 3, _ => exact va_eqt (hg _ (by decide +kernel))
    | 4, _ => exact va_eqt (hg _ (by decide +kernel))
    | 5, _ => exact va_eqt (hg _ (by decide +kernel))
    | 6, _ => exact va_eqt (hg _ (by decide +kernel))
    | 7, _ => exact va_eqt (hg _ (by decide +kernel))
    | j + 8, hj => exact absurd hj (by omega)) hA
  have hZ0 := va_Zof (A := fun q : Nat => ∃ p, p < NP ∧ q = s.heap.size + p) (hts (.laysStatic RX1 "LOW" "[I") (by decide +kernel)) (hts (.initialized RX1) (by decide +kernel)) he0 hA
  obtain ⟨t1, he1, hT1⟩ := va_Tof (tm := .static RX1 "HIGH" "[I") (ty := .int) (N := 8) (f := fun j => .int (tHIGH j)) (A := fun q : Nat => ∃ p, p < NP ∧ q = s.heap.size + p) (by decide) (hg _ (by decide +kernel)) (va_eqt (hg _ (by decide +kernel))) (fun j hj => by
    match j, hj with
    | 0, _ => exact va_eqt (hg _ (by decide +kernel))
    | 1, _ => exact va_eqt (hg _ (by decide +kernel))
    | 2, _ => exact va_eqt (hg _ (by decide +kernel))
    | 3, _ => exact va_eqt (hg _ (by decide +kernel))
    | 4, _ => exact va_eqt (hg _ (by decide +kernel))
    | 5, _ => exact va_eqt (hg _ (by decide +kernel))
    | 6, _ => exact va_eqt (hg _ (by decide +kernel))
    | 7, _ => exact va_eqt (hg _ (by decide +kernel))
    | j + 8, hj => exact absurd hj (by omega)) hA
  have hZ1 := va_Zof (A := fun q : Nat => ∃ p, p < NP ∧ q = s.heap.size + p) (hts (.laysStatic RX1 "HIGH" "[I") (by decide +kernel)) (hts (.initialized RX1) (by decide +kernel)) he1 hA
  obtain ⟨t2, he2, hT2⟩ := va_Tof (tm := .static RX1 "USUAL" "[I") (ty := .int) (N := 8) (f := fun j => .int (tUSUAL j)) (A := fun q : Nat => ∃ p, p < NP ∧ q = s.heap.size + p) (by decide) (hg _ (by decide +kernel)) (va_eqt (hg _ (by decide +kernel))) (fun j hj => by
    match j, hj with
    | 0, _ => exact va_eqt (hg _ (by decide +kernel))
    | 1, _ => exact va_eqt (hg _ (by decide +kernel))
    | 2, _ => exact va_eqt (hg _ (by decide +kernel))
    | 3, _ => exact va_eqt (hg _ (by decide +kernel))
    | 4, _ => exact va_eqt (hg _ (by decide +kernel))
    | 5, _ => exact va_eqt (hg _ (by decide +kernel))
    | 6, _ => exact va_eqt (hg _ (by decide +kernel))
    | 7, _ => exact va_eqt (hg _ (by decide +kernel))
    | j + 8, hj => exact absurd hj (by omega)) hA
  have hZ2 := va_Zof (A := fun q : Nat => ∃ p, p < NP ∧ q = s.heap.size + p) (hts (.laysStatic RX1 "USUAL" "[I") (by decide +kernel)) (hts (.initialized RX1) (by decide +kernel)) he2 hA
  have hZc := va_Zof (C := RJ0) (n := "COMPACT_STRINGS") (d := "Z") (v := .int 1) (A := fun q : Nat => ∃ p, p < NP ∧ q = s.heap.size + p) (hts _ (by decide +kernel)) (hts _ (by decide +kernel)) (va_eqt (hg _ (by decide +kernel))) hA
  have hZf := va_Zqof (C := RJ3) (n := "SIOOBE_FORMATTER") (d := "Ljava/util/function/BiFunction;") (A := fun q : Nat => ∃ p, p < NP ∧ q = s.heap.size + p) (hts _ (by decide +kernel)) (hts _ (by decide +kernel)) (hg _ (by decide +kernel)) hA
  have hZu := vx_Zqof (C := Bundle.tN) (n := "UNASSIGNED_STACK") (d := Bundle.steD) (A := fun q : Nat => ∃ p, p < NP ∧ q = s.heap.size + p) (hts _ (by decide +kernel)) (hts _ (by decide +kernel)) (hg _ (by decide +kernel)) hA
  have hZs := vx_Zqof (C := Bundle.tN) (n := "SUPPRESSED_SENTINEL") (d := Bundle.listD) (A := fun q : Nat => ∃ p, p < NP ∧ q = s.heap.size + p) (hts _ (by decide +kernel)) (hts _ (by decide +kernel)) (hg _ (by decide +kernel)) hA
  obtain ⟨adK, adV, hSt, hev⟩ := vk_Sof (N := 3) (tm := lwTm) (len := sLen) (byt := sByt) (A := fun q : Nat => ∃ p, p < NP ∧ q = s.heap.size + p) (args := #[Value.ref b]) (by decide) (fun i hi => by
    match i, hi with
    | 0, _ => exact hg _ (by decide +kernel)
    | 1, _ => exact hg _ (by decide +kernel)
    | 2, _ => exact hg _ (by decide +kernel)
    | i + 3, hi => exact absurd hi (by omega)) (fun i hi => by
    match i, hi with
    | 0, _ => exact hg _ (by decide +kernel)
    | 1, _ => exact hg _ (by decide +kernel)
    | 2, _ => exact hg _ (by decide +kernel)
    | i + 3, hi => exact absurd hi (by omega)) (fun i hi => by
    match i, hi with
    | 0, _ => exact hg _ (by decide +kernel)
    | 1, _ => exact hg _ (by decide +kernel)
    | 2, _ => exact hg _ (by decide +kernel)
    | i + 3, hi => exact absurd hi (by omega)) (fun i hi => by
    match i, hi with
    | 0, _ => exact hg _ (by decide +kernel)
    | 1, _ => exact hg _ (by decide +kernel)
    | 2, _ => exact hg _ (by decide +kernel)
    | i + 3, hi => exact absurd hi (by omega)) (fun i hi => by
    match i, hi with
    | 0, _ =>
      intro j hj
      match j, hj with
      | 0, _ => exact hg _ (by decide +kernel)
      | 1, _ => exact hg _ (by decide +kernel)
      | 2, _ => exact hg _ (by decide +kernel)
      | 3, _ => exact hg _ (by decide +kernel)
      | 4, _ => exact hg _ (by decide +kernel)
      | 5, _ => exact hg _ (by decide +kernel)
      | 6, _ => exact hg _ (by decide +kernel)
      | 7, _ => exact hg _ (by decide +kernel)
      | j + 8, hj => exact absurd hj (by show ¬ _ < 8; omega)
    | 1, _ =>
      intro j hj
      match j, hj with
      | 0, _ => exact hg _ (by decide +kernel)
      | 1, _ => exact hg _ (by decide +kernel)
      | 2, _ => exact hg _ (by decide +kernel)
      | 3, _ => exact hg _ (by decide +kernel)
      | j + 4, hj => exact absurd hj (by show ¬ _ < 4; omega)
    | 2, _ =>
      intro j hj
      match j, hj with
      | 0, _ => exact hg _ (by decide +kernel)
      | 1, _ => exact hg _ (by decide +kernel)
      | 2, _ => exact hg _ (by decide +kernel)
      | 3, _ => exact hg _ (by decide +kernel)
      | 4, _ => exact hg _ (by decide +kernel)
      | 5, _ => exact hg _ (by decide +kernel)
      | 6, _ => exact hg _ (by decide +kernel)
      | 7, _ => exact hg _ (by decide +kernel)
      | 8, _ => exact hg _ (by decide +kernel)
      | 9, _ => exact hg _ (by decide +kernel)
      | 10, _ => exact hg _ (by decide +kernel)
      | 11, _ => exact hg _ (by decide +kernel)
      | 12, _ => exact hg _ (by decide +kernel)
      | 13, _ => exact hg _ (by decide +kernel)
      | 14, _ => exact hg _ (by decide +kernel)
      | 15, _ => exact hg _ (by decide +kernel)
      | 16, _ => exact hg _ (by decide +kernel)
      | 17, _ => exact hg _ (by decide +kernel)
      | 18, _ => exact hg _ (by decide +kernel)
      | 19, _ => exact hg _ (by decide +kernel)
      | 20, _ => exact hg _ (by decide +kernel)
      | j + 21, hj => exact absurd hj (by show ¬ _ < 21; omega)
    | i + 3, hi => exact absurd hi (by omega)) (fun i j hi hj hij => by
    match i, j, hi, hj with
    | 0, 0, _, _ => exact absurd rfl hij
    | 0, 1, _, _ => first | exact Or.inl (hg _ (by decide +kernel)) | exact Or.inr (hg _ (by decide +kernel))
    | 0, 2, _, _ => first | exact Or.inl (hg _ (by decide +kernel)) | exact Or.inr (hg _ (by decide +kernel))
    | 1, 0, _, _ => first | exact Or.inl (hg _ (by decide +kernel)) | exact Or.inr (hg _ (by decide +kernel))
    | 1, 1, _, _ => exact absurd rfl hij
    | 1, 2, _, _ => first | exact Or.inl (hg _ (by decide +kernel)) | exact Or.inr (hg _ (by decide +kernel))
    | 2, 0, _, _ => first | exact Or.inl (hg _ (by decide +kernel)) | exact Or.inr (hg _ (by decide +kernel))
    | 2, 1, _, _ => first | exact Or.inl (hg _ (by decide +kernel)) | exact Or.inr (hg _ (by decide +kernel))
    | 2, 2, _, _ => exact absurd rfl hij
    | i + 3, _, hi, _ => exact absurd hi (by omega)
    | _, j + 3, _, hj => exact absurd hj (by omega)) hA
  refine ⟨(l, (fun i => s.heap.size + i), D, aI, aJ, aL, aS, aW, (fun j => if j = 0 then t0 else if j = 1 then t1 else if j = 2 then t2 else if j < 20 then adK (j - 10) else adV (j - 20))), rfl, fun i => rfl, ⟨hD, ?_⟩, ⟨⟨hZ0, hT0⟩, ⟨hZ1, hT1⟩, ⟨hZ2, hT2⟩, hZc, hZf, ⟨?_, ?_, ?_⟩, ?_, hZu, hZs⟩, ?_, ?_, va_AO.of hoL, va_AO.of hoS, va_AO.of hoW⟩
  · intro k q hq
    match k, hq with
    | 0, hq => cases hq; exact ⟨hI1, hI2⟩
    | 1, hq => cases hq; exact ⟨hJ1, hJ2⟩
    | 2, hq => cases hq; exact ⟨hL1, hL2⟩
    | 3, hq => cases hq; exact ⟨hS1, hS2⟩
    | 4, hq => cases hq; exact ⟨hW1, hW2⟩
    | k + 5, hq => simp [tys] at hq
  · exact vk_R.of (A := #[Value.ref b]) (hts _ (by decide +kernel)) (hev 0 (by decide))
  · exact vk_R.of (A := #[Value.ref b]) (hts _ (by decide +kernel)) (hev 1 (by decide))
  · exact vk_R.of (A := #[Value.ref b]) (hts _ (by decide +kernel)) (hev 2 (by decide))
  · refine ⟨fun i hi => ?_, fun i j hi hj e => ?_⟩
    · match i, hi with
      | 0, _ => exact hSt.1 0 (by decide)
      | 1, _ => exact hSt.1 1 (by decide)
      | 2, _ => exact hSt.1 2 (by decide)
      | i + 3, hi => exact absurd hi (by omega)
    · refine hSt.2 i j hi hj ?_
      match i, j, hi, hj with
      | 0, 0, _, _ => exact e
      | 0, 1, _, _ => exact e
      | 0, 2, _, _ => exact e
      | 1, 0, _, _ => exact e
      | 1, 1, _, _ => exact e
      | 1, 2, _, _ => exact e
      | 2, 0, _, _ => exact e
      | 2, 1, _, _ => exact e
      | 2, 2, _, _ => exact e
      | i + 3, _, hi, _ => exact absurd hi (by omega)
      | _, j + 3, _, hj => exact absurd hj (by omega)
  · have h : ∀ q ∈ nestL, Cond.methodLinkNest q.1 q.2.1 q.2.2.1 q.2.2.2 ∈ lw_tbl := by decide +kernel
    exact fun q hq => va_Nw.of rfl (hts _ (h q hq))
  · exact ⟨va_Nw.of rfl (hts _ (by decide +kernel)), va_Nw.of rfl (hts _ (by decide +kernel)), va_Nw.of rfl (hts _ (by decide +kernel)), va_Nw.of rfl (hts _ (by decide +kernel))⟩
