/-! objects as they are made: places in the order of making, addresses one behind another -/
def nestL : List (String × Nat × MethodName × String) := [("SafeBuckets", 11, ⟨"SafeBuckets$Tape", "<init>", "()V"⟩, "SafeBuckets"), ("SafeBuckets", 18, ⟨"SafeBuckets$BookReader", "<init>", "()V"⟩, "SafeBuckets"), ("SafeBuckets", 25, ⟨"SafeBuckets$Book", "<init>", "()V"⟩, "SafeBuckets"), ("SafeBuckets$Book", 11, ⟨"SafeBuckets$Sheet", "<init>", "()V"⟩, "SafeBuckets"), ("SafeBuckets$Sheet", 17, ⟨"SafeBuckets$Lane", "<init>", "()V"⟩, "SafeBuckets"), ("SafeBuckets$Book", 20, ⟨"SafeBuckets$Diary", "<init>", "()V"⟩, "SafeBuckets"), ("SafeBuckets", 36, ⟨"SafeBuckets$Where", "<init>", "()V"⟩, "SafeBuckets"), ("SafeBuckets", 43, ⟨"SafeBuckets$Past", "<init>", "()V"⟩, "SafeBuckets"), ("SafeBuckets", 56, ⟨"SafeBuckets$Layout", "<init>", "()V"⟩, "SafeBuckets"), ("SafeBuckets", 63, ⟨"SafeBuckets$Bounds", "<init>", "()V"⟩, "SafeBuckets"), ("SafeBuckets", 70, ⟨"SafeBuckets$Lane", "<init>", "()V"⟩, "SafeBuckets")]
def NestOk (U : State) : Prop := ∀ q ∈ nestL, va_Nw (.methodLinkNest q.1 q.2.1 q.2.2.1 q.2.2.2) U
theorem NestOk.warm {s U : State} (hW : s.WarmedH U.vm) (h : NestOk s) : NestOk U := fun q hq => va_Nw.warmM hW (h q hq)
theorem NestOk.same {u U : State} (hv : u.vm = U.vm) (h : NestOk u) : NestOk U := fun q hq => va_Nw.same rfl hv (h q hq)
def cw (X : Wd) (wn : List va_E) : va_W := wn.mapIdx (fun i e => (xad X i, e))
theorem cw_get {X : Wd} {wn : List va_E} {k : Nat} : (cw X wn)[k]? = (wn[k]?).map (fun e => (xad X k, e)) := by
  unfold cw
  rw [List.getElem?_mapIdx]
theorem cw_at {X : Wd} {wn : List va_E} {k : Nat} {e : va_E} (h : wn[k]? = some e) : (cw X wn)[k]? = some (xad X k, e) := by rw [cw_get, h]; rfl
theorem cw_push {X : Wd} {wn : List va_E} {e : va_E} : cw X (wn ++ [e]) = cw X wn ++ [(xad X wn.length, e)] := by
  unfold cw
  rw [List.mapIdx_append]
  simp
theorem cw_set {X : Wd} {wn : List va_E} {k : Nat} {e : va_E} : (cw X wn).set k (xad X k, e) = cw X (wn.set k e) := by
  apply List.ext_getElem?
  intro i
  rw [List.getElem?_set, cw_get, cw_get, List.getElem?_set]
  by_cases h : k = i
  · subst h
    simp only [if_true]
    by_cases hl : k < wn.length
    · simp [cw, hl]
    · simp [cw, hl]
  · simp [h]
def aA (X : Wd) : Nat → Prop := fun q => xad X 0 ≤ q
def Bs (X : Wd) : Prop := ∀ i, xad X i = xad X 0 + i
theorem cw_D {X : Wd} (hb : Bs X) (wn : List va_E) : va_D (aA X) (cw X wn) := by
  have key : ∀ (i : Nat) (q : Nat × va_E), (cw X wn)[i]? = some q → q.1 = xad X 0 + i := by
    intro i q h
    rw [cw_get] at h
    cases hw : wn[i]? with
    | none => rw [hw] at h; cases h
    | some e => rw [hw] at h; rw [← hb i, ← Option.some.inj h]
  refine ⟨fun i j a b ha hb' hab => ?_, fun k q hq => ?_⟩
  · have h1 := key i a ha
    have h2 := key j b hb'
    omega
  · show xad X 0 ≤ q.1
    rw [key k q hq]
    omega
def OkN (C : Cx) (cc : ByteArray) (nL : Nat) (own : String) (rm : Room) : Prop :=
  (cP C).tables.exec = Jvm.exec ∧ (cC C).code = cc ∧ (cC C).maxLocals = nL ∧ (cS C).vm.findClass own = some (cM C).cls ∧ (∀ w ∈ TBL, w.before (cA C) (cS C) = true) ∧ va_K (xD (cX C)) vwCl (tys (cX C)) (cS C) ∧ Bs (cX C) ∧ NestOk (cS C) ∧ cR C = rm ∧ (cT C).locks = false ∧ (∀ q : Nat, (cS C).heap.size ≤ q → aA (cX C) q)
def N (C : Cx) (Q : State → Prop) (wn : List va_E) (ce so pc : Nat) (ls : List (Nat × Value)) (st : List Value) : Prop :=
  ∀ (H : Heap) (locs : List Loc) (la : Array Slot), H.size = xad (cX C) 0 + wn.length → va_P (xD (cX C)) vwCl (cw (cX C) wn) H → va_S (aA (cX C)) (cS C).heap H locs → lv_has la (cC C).maxLocals ls → W (cP C) (xl (cX C)) (cE C) (cR C) (cS C) (cM C) (cA C) (cB C) (cT C) (cC C) H locs ce so Q (F0 (cM C) pc la st)
section OKN
variable {C : Cx} {cc : ByteArray} {nL : Nat} {own : String} {rm : Room}
theorem OkN.ex (h : OkN C cc nL own rm) : (cP C).tables.exec = Jvm.exec := h.1
theorem OkN.bc (h : OkN C cc nL own rm) : (cC C).code = cc := h.2.1
theorem OkN.ml (h : OkN C cc nL own rm) : (cC C).maxLocals = nL := h.2.2.1
theorem OkN.ow (h : OkN C cc nL own rm) : (cS C).vm.findClass own = some (cM C).cls := h.2.2.2.1
theorem OkN.ts (h : OkN C cc nL own rm) : ∀ w ∈ TBL, w.before (cA C) (cS C) = true := h.2.2.2.2.1
theorem OkN.K (h : OkN C cc nL own rm) : va_K (xD (cX C)) vwCl (tys (cX C)) (cS C) := h.2.2.2.2.2.1
theorem OkN.B (h : OkN C cc nL own rm) : Bs (cX C) := h.2.2.2.2.2.2.1
theorem OkN.Ne (h : OkN C cc nL own rm) : NestOk (cS C) := h.2.2.2.2.2.2.2.1
theorem OkN.R (h : OkN C cc nL own rm) : cR C = rm := h.2.2.2.2.2.2.2.2.1
theorem OkN.lk (h : OkN C cc nL own rm) : (cT C).locks = false := h.2.2.2.2.2.2.2.2.2.1
theorem OkN.A (h : OkN C cc nL own rm) : ∀ q : Nat, (cS C).heap.size ≤ q → aA (cX C) q := h.2.2.2.2.2.2.2.2.2.2
end OKN
section NR
variable {C : Cx} {Q : State → Prop} {wn wn' : List va_E} {ce so pc pc' tgt : Nat} {ls : List (Nat × Value)} {st : List Value} {cc : ByteArray} {nL : Nat} {own : String} {rm : Room}
theorem N.iconst {n : Int} {v : Int32} (hC : OkN C cc nL own rm) (d : DD cc pc (.iconst n) 1 pc') (hv : Int32.ofInt n = v) (k : N C Q wn ce so pc' ls (.int v :: st)) : N C Q wn ce so pc ls (st) := by
  obtain ⟨d, rfl⟩ := d
  exact fun H locs la hz hP hS hl => lv_iconst hC.ex hC.bc d hv (k H locs la hz hP hS hl)
theorem N.bipush {n : Int} {v : Int32} (hC : OkN C cc nL own rm) (d : DD cc pc (.bipush n) 2 pc') (hv : (Int8.ofInt n).toInt32 = v) (k : N C Q wn ce so pc' ls (.int v :: st)) : N C Q wn ce so pc ls (st) := by
  obtain ⟨d, rfl⟩ := d
  exact fun H locs la hz hP hS hl => lv_bipush hC.ex hC.bc d hv (k H locs la hz hP hS hl)
theorem N.sipush {n : Int} {v : Int32} (hC : OkN C cc nL own rm) (d : DD cc pc (.sipush n) 3 pc') (hv : (Int16.ofInt n).toInt32 = v) (k : N C Q wn ce so pc' ls (.int v :: st)) : N C Q wn ce so pc ls (st) := by
  obtain ⟨d, rfl⟩ := d
  exact fun H locs la hz hP hS hl => lv_sipush hC.ex hC.bc d hv (k H locs la hz hP hS hl)
theorem N.lconst {n : Fin 2} {v : Int64} (hC : OkN C cc nL own rm) (d : DD cc pc (.lconst n) 1 pc') (hv : Int64.ofNat (n : Nat) = v) (k : N C Q wn ce so pc' ls (.long v :: st)) : N C Q wn ce so pc ls (st) := by
  obtain ⟨d, rfl⟩ := d
  exact fun H locs la hz hP hS hl => lv_lconst hC.ex hC.bc d hv (k H locs la hz hP hS hl)
theorem N.dup {v : Value} (hC : OkN C cc nL own rm) (d : DD cc pc (.dup) 1 pc') (hv : v.category = 1) (k : N C Q wn ce so pc' ls (v :: v :: st)) : N C Q wn ce so pc ls (v :: st) := by
  obtain ⟨d, rfl⟩ := d
  exact fun H locs la hz hP hS hl => lv_dup hC.ex hC.bc d hv (k H locs la hz hP hS hl)
theorem N.ldc {idx : Nat} {v : Int32} (hC : OkN C cc nL own rm) (d : DD cc pc (.ldc idx) 2 pc') (hw : Cond.constant own idx v ∈ TBL) (k : N C Q wn ce so pc' ls (.int v :: st)) : N C Q wn ce so pc ls (st) := by
  obtain ⟨d, rfl⟩ := d
  exact fun H locs la hz hP hS hl => lv_ldc hC.ex hC.bc hC.ow (hC.ts _ hw) d (k H locs la hz hP hS hl)
theorem N.iload_n {i : Fin 4} {j : Nat} {x : Int32} (hC : OkN C cc nL own rm) (d : DD cc pc (.iload_n i) 1 pc') (hj : ls[j]? = some ((i : Nat), .int x)) (k : N C Q wn ce so pc' ls (.int x :: st)) : N C Q wn ce so pc ls st := by
  obtain ⟨d, rfl⟩ := d
  exact fun H locs la hz hP hS hl => lv_iload_n hC.ex hC.bc d rfl (lv_at hl j hj) (k H locs la hz hP hS hl)
theorem N.aload_n {i : Fin 4} {j : Nat} {x : Nat} (hC : OkN C cc nL own rm) (d : DD cc pc (.aload_n i) 1 pc') (hj : ls[j]? = some ((i : Nat), .ref x)) (k : N C Q wn ce so pc' ls (.ref x :: st)) : N C Q wn ce so pc ls st := by
  obtain ⟨d, rfl⟩ := d
  exact fun H locs la hz hP hS hl => lv_aload_n hC.ex hC.bc d rfl (lv_at hl j hj) (k H locs la hz hP hS hl)
theorem N.istore_n {i : Fin 4} {x : Int32} (ls' : List (Nat × Value)) (hC : OkN C cc nL own rm) (d : DD cc pc (.istore_n i) 1 pc') (hn : (i : Nat) < nL) (hl' : ((i : Nat), Value.int x) :: ls.filter (fun q => !(q.1 == (i : Nat)) && !(q.1 + 1 == (i : Nat) && q.2.category == 2)) = ls') (k : N C Q wn ce so pc' ls' st) : N C Q wn ce so pc ls (.int x :: st) := by
  obtain ⟨d, rfl⟩ := d
  exact fun H locs la hz hP hS hl => lv_istore_n hC.ex hC.bc d rfl hl (by rw [hC.ml]; exact hn) hl' (fun la hl => k H locs la hz hP hS hl)
theorem N.astore_n {i : Fin 4} {x : Nat} (ls' : List (Nat × Value)) (hC : OkN C cc nL own rm) (d : DD cc pc (.astore_n i) 1 pc') (hn : (i : Nat) < nL) (hl' : ((i : Nat), Value.ref x) :: ls.filter (fun q => !(q.1 == (i : Nat)) && !(q.1 + 1 == (i : Nat) && q.2.category == 2)) = ls') (k : N C Q wn ce so pc' ls' st) : N C Q wn ce so pc ls (.ref x :: st) := by
  obtain ⟨d, rfl⟩ := d
  exact fun H locs la hz hP hS hl => lv_astore_n hC.ex hC.bc d rfl hl (by rw [hC.ml]; exact hn) hl' (fun la hl => k H locs la hz hP hS hl)
theorem N.iinc {i j : Nat} {n : Int} {x v : Int32} (ls' : List (Nat × Value)) (hC : OkN C cc nL own rm) (d : DD cc pc (.iinc i n) 3 pc') (hj : ls[j]? = some (i, .int x)) (hv : x + Int32.ofInt n = v) (hn : i < nL) (hl' : (i, Value.int v) :: ls.filter (fun q => !(q.1 == i) && !(q.1 + 1 == i && q.2.category == 2)) = ls') (k : N C Q wn ce so pc' ls' st) : N C Q wn ce so pc ls st := by
  obtain ⟨d, rfl⟩ := d
  exact fun H locs la hz hP hS hl => lv_iinc hC.ex hC.bc d hl hj hv (by rw [hC.ml]; exact hn) hl' (fun la hl => k H locs la hz hP hS hl)
theorem N.goto {off : Int} (hC : OkN C cc nL own rm) (d : DB cc pc (.goto off) off pc' tgt) (k : N C Q wn ce so tgt ls st) : N C Q wn ce so pc ls st :=
  fun H locs la hz hP hS hl => lv_goto hC.ex hC.bc d.1 d.2.2 (k H locs la hz hP hS hl)
theorem N.geT {x y : Int32} {off : Int} (hC : OkN C cc nL own rm) (d : DB cc pc (.if_icmp .ge off) off pc' tgt) (h : y ≤ x) (k : N C Q wn ce so tgt ls st) : N C Q wn ce so pc ls (.int y :: .int x :: st) :=
  fun H locs la hz hP hS hl => lv_icmp_ge hC.ex hC.bc d.1 d.2.2 (fun _ => k H locs la hz hP hS hl) (fun q => absurd h q)
theorem N.geF {x y : Int32} {off : Int} (hC : OkN C cc nL own rm) (d : DB cc pc (.if_icmp .ge off) off pc' tgt) (h : ¬ y ≤ x) (k : N C Q wn ce so pc' ls st) : N C Q wn ce so pc ls (.int y :: .int x :: st) := by
  obtain ⟨d, rfl, ht⟩ := d
  exact fun H locs la hz hP hS hl => lv_icmp_ge hC.ex hC.bc d ht (fun q => absurd q h) (fun _ => k H locs la hz hP hS hl)
theorem N.objI {idx a : Nat} (hC : OkN C cc nL own rm) (d : DD cc pc (.invokespecial idx) 3 pc') (hl1 : Cond.methodLink own idx Lib.objectInit ∈ TBL) (hl2 : Cond.instanceMethod Lib.objectInit ∈ TBL) (hl3 : Cond.code Lib.objectInit ⟨#[0xb1]⟩ 1 none ∈ TBL) (hf : 1 ≤ rm.frames) (hlo : (st.map fun v => v.category).sum + 12 ≤ rm.locals) (k : N C Q wn ce so pc' ls st) : N C Q wn ce so pc ls (.ref a :: st) := by
  obtain ⟨d, rfl⟩ := d
  exact fun H locs la hz hP hS hl => W.objInit hC.ex hC.bc hC.ow (hC.ts _ hl1) (hC.ts _ hl2) (hC.ts _ hl3) rfl hl.1 rfl d (by rw [hC.R]; exact hf) (by show 2 * 0 + _ + 12 ≤ _; rw [hC.R]; omega) (k H locs la hz hP hS hl)
theorem cw_app {X : Wd} {D : va_G} {H H1 : Heap} {e : va_E} (hB : Bs X) (hz : H.size = xad X 0 + wn.length) (hP : va_P D vwCl (cw X wn) H) (o1 : ∀ q, q < H.size → H1[q]? = H[q]?) (he : va_at D vwCl (H.size, e) H1) : va_P D vwCl (cw X (wn ++ [e])) H1 := by
  rw [cw_push]
  refine (hP.kept (fun k x hx => o1 x.1 ((hP k x hx).lt))).app (fun k x hx => ?_)
  have hz1 : k < 1 := (List.getElem?_eq_some_iff.mp hx).1
  rw [show k = 0 by omega] at hx
  cases hx
  rw [hB, ← hz]
  exact he
theorem N.newaI {n : Int32} {M k : Nat} (hC : OkN C cc nL own rm) (d : DD cc pc (.newarray .int) 2 pc') (hw : Cond.arrayClass .int ∈ TBL) (hn : ¬ n < 0) (hN : nx n = M) (hb : M * componentBytes .int ≤ 536870912) (hc : ce + 1 ≤ rm.cells) (hs : so + M ≤ rm.slots) (hk : wn.length = k) (hwn : wn ++ [.inl (xcI (cX C), M, .inl (fun _ => 0))] = wn') (kk : N C Q wn' (ce + 1) (so + M) pc' ls (.ref (xad (cX C) k) :: st)) : N C Q wn ce so pc ls (.int n :: st) := by
  obtain ⟨d, rfl⟩ := d
  subst hk
  subst hwn
  intro H locs la hz hP hS hl
  refine va_newaK (atype := .int) hC.ex hC.bc (hC.ts _ hw) rfl d rfl hn hN hb (by rw [hC.R]; exact hc) (by rw [hC.R]; exact hs) rfl fun H1 cA e1 z1 o1 hAr hNm => ?_
  have hcA : cA = xcI (cX C) := Option.some.inj (hNm.symm.trans (hC.K.2 0 (xcI (cX C), .int) rfl).2)
  subst hcA
  rw [show xad (cX C) wn.length = H.size by rw [hC.B, hz]] at kk
  exact kk H1 locs la (by rw [z1, hz, List.length_append]; rfl) (cw_app hC.B hz hP o1 e1) ⟨Nat.le_trans hS.1 (by omega), fun x h1 h2 => (o1 x (Nat.lt_of_lt_of_le h1 hS.1)).trans (hS.2.1 x h1 h2), hS.2.2⟩ hl
theorem N.newaJ {n : Int32} {M k : Nat} (hC : OkN C cc nL own rm) (d : DD cc pc (.newarray .long) 2 pc') (hw : Cond.arrayClass .long ∈ TBL) (hn : ¬ n < 0) (hN : nx n = M) (hb : M * componentBytes .long ≤ 536870912) (hc : ce + 1 ≤ rm.cells) (hs : so + M ≤ rm.slots) (hk : wn.length = k) (hwn : wn ++ [.inl (xcJ (cX C), M, .inr (.inl (fun _ => 0)))] = wn') (kk : N C Q wn' (ce + 1) (so + M) pc' ls (.ref (xad (cX C) k) :: st)) : N C Q wn ce so pc ls (.int n :: st) := by
  obtain ⟨d, rfl⟩ := d
  subst hk
  subst hwn
  intro H locs la hz hP hS hl
  refine va_newaK (atype := .long) hC.ex hC.bc (hC.ts _ hw) rfl d rfl hn hN hb (by rw [hC.R]; exact hc) (by rw [hC.R]; exact hs) rfl fun H1 cA e1 z1 o1 hAr hNm => ?_
  have hcA : cA = xcJ (cX C) := Option.some.inj (hNm.symm.trans (hC.K.2 1 (xcJ (cX C), .long) rfl).2)
  subst hcA
  rw [show xad (cX C) wn.length = H.size by rw [hC.B, hz]] at kk
  exact kk H1 locs la (by rw [z1, hz, List.length_append]; rfl) (cw_app hC.B hz hP o1 e1) ⟨Nat.le_trans hS.1 (by omega), fun x h1 h2 => (o1 x (Nat.lt_of_lt_of_le h1 hS.1)).trans (hS.2.1 x h1 h2), hS.2.2⟩ hl
theorem N.anew {n : Int32} {M k t0 idx : Nat} {Cn : String} {cq : ClassId} (hC : OkN C cc nL own rm) (d : DD cc pc (.anewarray idx) 3 pc') (ht : (tys (cX C))[t0]? = some (cq, .object Cn)) (hcl : Cond.classLink own idx Cn ∈ TBL) (hov : va_AO Cn (cS C)) (hn : ¬ n < 0) (hN : nx n = M) (hb : M * 4 ≤ 536870912) (hc : ce + 1 ≤ rm.cells) (hs : so + M ≤ rm.slots) (hk : wn.length = k) (hwn : wn ++ [.inl (cq, M, .inr (.inr (.inr (.inr (fun _ => none)))))] = wn') (kk : N C Q wn' (ce + 1) (so + M) pc' ls (.ref (xad (cX C) k) :: st)) : N C Q wn ce so pc ls (.int n :: st) := by
  obtain ⟨d, rfl⟩ := d
  subst hk
  subst hwn
  subst hN
  intro H locs la hz hP hS hl
  refine W.anew hC.ex hC.bc hC.ow (hC.ts _ hcl) (va_AO.use hov) rfl d rfl hn hb (by rw [hC.R]; exact hc) (by rw [hC.R]; exact hs) fun cA kA comp f1 f2 f3 f4 => ?_
  have hcA : cA = cq := by
    obtain ⟨kA2, comp2, g1, g2, g3, g4⟩ := (hC.K.2 t0 _ ht).2
    exact Option.some.inj (f1.symm.trans g4)
  subst hcA
  generalize hH1 : H.push ({ cls := cA, slots := Array.replicate n.toNatClampNeg .null, vm := .none } : Cell) = H1
  have z1 : H1.size = H.size + 1 := by rw [← hH1, Array.size_push]
  have e1 : H1[H.size]? = some (arrV cA n.toNatClampNeg (fun _ => .null)) := by rw [← hH1, Array.getElem?_push_size, ← arrV_new]
  have o1 : ∀ q : Nat, q < H.size → H1[q]? = H[q]? := fun q hq => by rw [← hH1, Array.getElem?_push, if_neg (Nat.ne_of_lt hq)]
  rw [show xad (cX C) wn.length = H.size by rw [hC.B, hz]] at kk
  exact kk H1 locs la (by rw [z1, hz, List.length_append]; rfl) (cw_app hC.B hz hP o1 e1) ⟨Nat.le_trans hS.1 (by omega), fun x h1 h2 => (o1 x (Nat.lt_of_lt_of_le h1 hS.1)).trans (hS.2.1 x h1 h2), hS.2.2⟩ hl
theorem N.new {ci idx M k : Nat} {Cn : String} {T : u_T} {fs : List Value} (ty0 : Nat → FieldType) (hC : OkN C cc nL own rm) (d : DD cc pc (.new idx) 3 pc') (hcl : Cond.classLink own idx Cn ∈ TBL) (hins : Cond.instantiable Cn M ∈ TBL) (hini : Cond.initialized Cn ∈ TBL) (hci : vwCl[ci]? = some (Cn, T, M)) (hin : ∀ w ∈ u_ws Cn T M, w ∈ TBL) (hty : ∀ k, k < M → parseFieldDescriptor (T k).2.2.1 = some (ty0 k)) (hfs : ∀ j, j < M → defaultValue (ty0 j) = vp_V fs j) (hc : ce + 1 ≤ rm.cells) (hs : so + M ≤ rm.slots) (hk : wn.length = k) (hwn : wn ++ [.inr (ci, fs)] = wn') (kk : N C Q wn' (ce + 1) (so + M) pc' ls (.ref (xad (cX C) k) :: st)) : N C Q wn ce so pc ls st := by
  obtain ⟨d, rfl⟩ := d
  subst hk
  subst hwn
  intro H locs la hz hP hS hl
  have hKn := hC.K.1 ci _ hci
  refine W.newcK hC.ex hC.bc hC.ow (hC.ts _ hcl) (hC.ts _ hins) (hC.ts _ hini) rfl d (by rw [hC.R]; exact hc) (by rw [hC.R]; exact hs) hKn.2.1 rfl fun H1 kC hkC e1 z1 o1 => ?_
  rw [show xad (cX C) wn.length = H.size by rw [hC.B, hz]] at kk
  exact kk H1 locs la (by rw [z1, hz, List.length_append]; rfl) (cw_app hC.B hz hP o1 ⟨_, hci, (u_born ty0 hC.ts hin hKn hkC e1 hty).to hfs⟩) ⟨Nat.le_trans hS.1 (by omega), fun x h1 h2 => (o1 x (Nat.lt_of_lt_of_le h1 hS.1)).trans (hS.2.1 x h1 h2), hS.2.2⟩ hl
theorem n_put (hC : OkN C cc nL own rm) {ci idx k j M : Nat} {Cn ref : String} {T : u_T} {fs : List Value} {v : Value} {ty : FieldType} (ty0 : Nat → FieldType) (d : DD cc pc (.putfield idx) 3 pc') (hci : vwCl[ci]? = some (Cn, T, M)) (hin : ∀ w ∈ u_ws Cn T M, w ∈ TBL) (hty : ∀ k, k < M → parseFieldDescriptor (T k).2.2.1 = some (ty0 k)) (hnm : ∀ a, a < M → ∀ b, b < M → a ≠ b → (T a).2.1 ≠ (T b).2.1) (hj : j < M) (hl1 : Cond.fieldLink own idx ref (T j).2.1 (T j).2.2.1 ∈ TBL) (hs : (T j).1 = ref) (hfin : (T j).2.2.2 = false ∨ ((T j).2.2.2 = true ∧ (cT C).name = "<init>" ∧ (T j).1 = own)) (hd : parseFieldDescriptor (T j).2.2.1 = some ty) (hn : narrow ty v = v) (hfit : fits ty v = true) (he : wn[k]? = some (.inr (ci, fs))) (hlen : j < fs.length) (hwn : wn.set k (.inr (ci, fs.set j v)) = wn') (kk : N C Q wn' ce so pc' ls st) : N C Q wn ce so pc ls (v :: .ref (xad (cX C) k) :: st) := by
  obtain ⟨d, rfl⟩ := d
  subst hwn
  intro H locs la hz hP hS0 hl
  have hap := va_apart (own := own) hC.ts hin ty0 hty hnm hC.K hci
  have hD := cw_D hC.B wn
  have he' := cw_at (X := cX C) he
  obtain ⟨r, h1, cell, q1, q2, q3, q4⟩ := hP k _ he'
  have hr : r = (Cn, T, M) := Option.some.inj (h1.symm.trans hci)
  subst hr
  obtain ⟨hSl, hfc, kC, hkC, hkind⟩ := hC.K.1 ci _ hci
  obtain ⟨cf, kf, fi, f, hi, hsl⟩ := hSl j hj
  have hlay := hC.ts _ (hin _ (u_in_lay hj))
  have hst := (u_facts hfc hkC (u_lays hC.ts hin hj) hi).1
  have hsame : ∀ x, (cS C).fieldFound? (T j).1 (T j).2.1 (T j).2.2.1 = some x → (cS C).fieldFound? ref (T j).2.1 (T j).2.2.1 = some x := fun x hx => by rw [← hs]; exact hx
  have fin : ∀ (H' : Heap) (locs' : List Loc), H'[xad (cX C) k]? = some (cell.setSlot f.slot v) → H'.size = H.size → (∀ q : Nat, q ≠ xad (cX C) k → H'[q]? = H[q]?) → locs' = locs ++ [⟨xad (cX C) k, f.slot⟩] → W (cP C) (xl (cX C)) (cE C) (cR C) (cS C) (cM C) (cA C) (cB C) (cT C) (cC C) H' locs' ce so Q (F0 (cM C) (pc + 3) la st) := by
    intro H' locs' e1 e2 e3 el
    subst el
    rw [hsl] at e1 ⊢
    have hP1 := hP.set hD he' (e := .inr (ci, fs.set j v)) ⟨_, hci, t_OB.to (V := updV (vp_V fs) j v) ⟨_, e1, q2, q3, t_set q4 hap hj v⟩ (fun j _ => vp_updV_set hlen v j)⟩ e3
    rw [cw_set] at hP1
    exact kk H' _ la (by rw [e2, hz, List.length_set]) hP1 (hS0.put e2 e3 (hD.2 k _ he')) hl
  rcases hfin with hfin | ⟨hfin, hin2, hdecl⟩
  · unfold u_lay at hlay
    rw [if_neg (by rw [hfin]; decide)] at hlay
    have h6 := u_store hfc hkC hkind hlay hi hd hn hfit
    exact W.putK hC.ex hC.bc (f := f) ⟨hC.ow, hC.ts _ hl1, ⟨_, _, _, hsame _ hi⟩, hst⟩ (by rw [q2]; exact h6) q1 q3 (by rw [hsl]; exact k2_hasslot (q4 j hj)) rfl rfl d fun H' e1 e2 e3 => fin H' _ e1 e2 e3 rfl
  · unfold u_lay at hlay
    rw [if_pos hfin] at hlay
    have hcf : (cM C).cls = cf := by
      obtain ⟨_, _, c', _, _, _, -, -, hf', -, -, -, hown2, -⟩ := Cond.laysFinal_spec hlay
      have e1 : c' = cf := by have := hi.symm.trans hf'; simp at this; exact this.1.symm
      rw [hdecl] at hown2
      rw [← e1]; exact Option.some.inj (hC.ow.symm.trans hown2)
    have h6 := u_fits hfc hkC hkind (Or.inr hlay) hi hd hn hfit
    exact W.putFinK hC.ex hC.bc hC.ow (hC.ts _ hl1) (hsame _ hi) hst hcf hin2 (by rw [q2]; exact h6) q1 q3 (by rw [hsl]; exact k2_hasslot (q4 j hj)) rfl rfl d fun H' e1 e2 e3 => fin H' _ e1 e2 e3 rfl
theorem n_ast (hC : OkN C cc nL own rm) {k qk t0 ci M : Nat} {cq : ClassId} {r : vw_C} {vs : List Value} {f : Nat → Option Nat} {i : Int32} (d : DD cc pc (.aastore) 1 pc') (ha : wn[k]? = some (.inl (cq, M, .inr (.inr (.inr (.inr f)))))) (ht : (tys (cX C))[t0]? = some (cq, .object r.1)) (hv : wn[qk]? = some (.inr (ci, vs))) (hci : vwCl[ci]? = some r) (hin : inB i M = true) (hwn : wn.set k (.inl (cq, M, .inr (.inr (.inr (.inr (va_up f (nx i) (some (xad (cX C) qk)))))))) = wn') (kk : N C Q wn' ce so pc' ls st) : N C Q wn ce so pc ls (.ref (xad (cX C) qk) :: .int i :: .ref (xad (cX C) k) :: st) := by
  obtain ⟨d, rfl⟩ := d
  subst hwn
  intro H locs la hz hP hS hl
  have hD := cw_D hC.B wn
  have ha' := cw_at (X := cX C) ha
  have hlt := nx_lt hin
  have h0 : ¬ i < 0 := fun q => inB_in hin (Or.inl q)
  obtain ⟨r', hr', cellV, g1, g2, g3, -⟩ := hP qk _ (cw_at hv)
  have hcls := (hC.K.1 ci r hci).2
  obtain ⟨kA, comp, k1, k2, k3, -⟩ := (hC.K.2 t0 _ ht).2
  have hcomp : comp = (xD (cX C)).1 ci := Option.some.inj (k3.symm.trans hcls.1)
  subst hcomp
  obtain ⟨kC, hkC, -⟩ := hcls.2
  refine W.aast hC.ex hC.bc (hP k _ ha') (fun q h => by cases h) (fun h => by cases h) k1 k2 rfl hkC ⟨h0, by show _ < (arrV _ _ _).slots.size; rw [arrV_size]; exact hlt⟩ g1 (fun q h => by rw [g3] at h; cases h) (by rw [g2]; exact hkC) (by rw [g2]; exact va_assign hcls) rfl rfl d fun H1 e z oq => ?_
  have hP1 := hP.set hD ha' (e := .inl (cq, M, .inr (.inr (.inr (.inr (va_up f (nx i) (some (xad (cX C) qk)))))))) (by
    show H1[xad (cX C) k]? = some (vp_cell _ _)
    rw [e]
    rw [vp_cell_q, vp_cell_q, arrV_store]
    congr 2
    funext q
    by_cases hq : q = nx i
    · subst hq
      simp [updV, va_up, va_rf, nx]
    · simp [updV, va_up, hq, nx] at hq ⊢
      simp [hq]) oq
  rw [cw_set] at hP1
  exact kk H1 _ la (by rw [z, hz, List.length_set]) hP1 (hS.put z oq (hD.2 k _ ha')) hl
theorem N.alen {k t0 M : Nat} {cq : ClassId} {Cn : String} {f : Nat → Option Nat} {v : Int32} (hC : OkN C cc nL own rm) (d : DD cc pc (.arraylength) 1 pc') (ha : wn[k]? = some (.inl (cq, M, .inr (.inr (.inr (.inr f)))))) (ht : (tys (cX C))[t0]? = some (cq, .object Cn)) (hv : Int32.ofNat M = v) (kk : N C Q wn ce so pc' ls (.int v :: st)) : N C Q wn ce so pc ls (.ref (xad (cX C) k) :: st) := by
  obtain ⟨d, rfl⟩ := d
  exact fun H locs la hz hP hS hl => va_alen hC.ex hC.bc hC.K hP k t0 (cw_at ha) ht hv d (kk H locs la hz hP hS hl)
/-- a row of references seen as another that has the same places -/
theorem N.same {k M : Nat} {cq : ClassId} {f f' : Nat → Option Nat} (ha : wn[k]? = some (.inl (cq, M, .inr (.inr (.inr (.inr f)))))) (hf : ∀ j, j < M → f j = f' j) (hwn : wn.set k (.inl (cq, M, .inr (.inr (.inr (.inr f'))))) = wn') (kk : N C Q wn' ce so pc ls st) : N C Q wn ce so pc ls st := by
  subst hwn
  intro H locs la hz hP hS hl
  refine kk H locs la (by rw [hz, List.length_set]) ?_ hS hl
  intro i q hi
  rw [← cw_set, List.getElem?_set] at hi
  by_cases h : k = i
  · subst h
    rw [if_pos rfl] at hi
    split at hi
    · cases hi
      have h1 : H[xad (cX C) k]? = some (vp_cell cq (M, .inr (.inr (.inr (.inr f))))) := hP k _ (cw_at ha)
      show H[xad (cX C) k]? = some (vp_cell cq (M, .inr (.inr (.inr (.inr f')))))
      rw [h1, vp_cell_q, vp_cell_q]
      have : (fun j : Fin M => va_rf (f j.val)) = (fun j : Fin M => va_rf (f' j.val)) := by
        funext j
        rw [hf j.val j.isLt]
      unfold arrV
      rw [this]
    · cases hi
  · rw [if_neg h] at hi
    exact hP i q hi
def PreN (X : Wd) (wn : List va_E) (U : State) : Prop := U.heap.size = xad X 0 + wn.length ∧ va_P (xD X) vwCl (cw X wn) U.heap ∧ va_K (xD X) vwCl (tys X) U ∧ NestOk U ∧ (va_AO RX4 U ∧ va_AO RX7 U ∧ va_AO RX9 U)
def QN (X : Wd) (wn : List va_E) : Array Value → State → Outcome → State → Prop := va_Qv (fun (_ : Unit) => True) (fun _ t => t.heap.size = xad X 0 + wn.length ∧ va_P (xD X) vwCl (cw X wn) t.heap) (aA X)
def CtN (X : Wd) (y : MethodName) (b : ByteArray) (n : Nat) (rm : Room) (a : Nat) (wn wn' : List va_E) : Prop := Met (xl X) y (WS y b n none) rm (va_Pc [.ref (xad X a)] (PreN X wn)) (QN X wn') rm.cells rm.slots (aA X)
theorem N.vret (hC : OkN C cc nL own rm) (hr : (cT C).sig.returnType = none) (d : DD cc pc (.return_) 1 pc') : N C (MQ (cB C) (QN (cX C) wn) (cA C) (cS C) ce so (aA (cX C))) wn ce so pc ls [] := by
  intro H locs la hz hP hS hl
  exact W.vret hC.ex hC.bc hr (fun t ht _ => ⟨⟨(), rfl, trivial, (by subst ht; exact ⟨hz, hP⟩)⟩, hS.F ht⟩) hS.2.2 d.1 hC.lk
theorem PreN.blind {X : Wd} {wn : List va_E} (As : List Value) : FrameBlind (va_Pc As (PreN X wn)) := by
  intro a U g mk h
  obtain ⟨h1, h2, h3, h4, h5, h6, h7, h8⟩ := h
  have hv : U.vm.Alike (U.calling g mk a).vm := Vm.Alike.refl U.vm
  exact ⟨h1, h2, h3, va_K.moved hv h4, NestOk.same (u := U) rfl h5, va_AO.moved hv h6, va_AO.moved hv h7, va_AO.moved hv h8⟩
theorem PreN.at (hC : OkN C cc nL own rm) (hAO : va_AO RX4 (cS C) ∧ va_AO RX7 (cS C) ∧ va_AO RX9 (cS C)) {H : Heap} (hz : H.size = xad (cX C) 0 + wn.length) (hP : va_P (xD (cX C)) vwCl (cw (cX C) wn) H) (As : List Value) : ∀ U : State, U.heap = H → (cS C).WarmedH U.vm → va_Pc As (PreN (cX C) wn) As.toArray U := by
  intro U hU hW
  subst hU
  exact ⟨rfl, hz, hP, va_K.moved hW.alike hC.K, hC.Ne.warm hW, va_AO.moved hW.alike hAO.1, va_AO.moved hW.alike hAO.2.1, va_AO.moved hW.alike hAO.2.2⟩
def RleN (rc : Room) (n : Nat) (rm : Room) : Prop := rc.frames + 1 ≤ rm.frames ∧ 8 + (n + 11) + rc.locals ≤ rm.locals
theorem n_call (hC : OkN C cc nL own rm) (hAO : va_AO RX4 (cS C) ∧ va_AO RX7 (cS C) ∧ va_AO RX9 (cS C)) {idx n a mc ms : Nat} {y : MethodName} {b : ByteArray} {rc : Room} {host : String} (d : DD cc pc (.invokespecial idx) 3 pc') (hq : (own, idx, y, host) ∈ nestL) (y1 : Cond.code y b n none ∈ TBL) (y2 : Cond.initialized y.cls ∈ TBL) (y3 : Cond.instanceMethod y ∈ TBL) (y4 : y.name = "<init>") (y5 : y.cls ≠ "java/lang/invoke/MethodHandle" ∧ y.cls ≠ "java/lang/invoke/VarHandle") (y6 : (parseMethodDescriptor y.desc).map (fun d => d.parameters.length) = some 0) (hR : RleN rc n rm) (hcs : rc.cells = mc ∧ rc.slots = ms) (hM : CtN (cX C) y b n rc a wn wn') (hc : ce + mc ≤ rm.cells) (hs : so + ms ≤ rm.slots) (hw : (st.map fun v => v.category).sum ≤ 8) (kk : N C Q wn' (ce + mc) (so + ms) pc' ls st) : N C Q wn ce so pc ls (.ref (xad (cX C) a) :: st) := by
  obtain ⟨d, rfl⟩ := d
  obtain ⟨rfl, rfl⟩ := hcs
  intro H locs la hz hP hS hl
  have hrun := va_runIN (R := cR C) (s := cS C) (H := H) (host := host) (As := []) (rest := st) (g := F0 (cM C) pc la (.ref (xad (cX C) a) :: st)) ⟨hC.ex, hC.bc, hC.ml, hC.ow, hC.ts⟩ hM ⟨⟨⟨rfl, rfl, by rw [hC.R]; exact hR.1, by rw [hC.R]; exact hR.2, pay_in hC.ts (WS_good y1), List.mem_cons_self⟩, hC.ts _ y1, hC.ts _ y2, y5, fun sig hs => by rw [hs] at y6; exact (Option.some.inj y6).symm, va_Nw.use rfl (hC.Ne _ hq)⟩, y4, hC.ts _ y3⟩ ⟨PreN.blind _, PreN.at hC hAO hz hP _⟩ rfl rfl (hl.1.trans hC.ml) rfl (lv_room hw) d (e := cE C) (below := cB C) (meth := cT C) (cells := ce) (slots := so) (locs := locs) ⟨by rw [hC.R]; exact hc, by rw [hC.R]; exact hs⟩
  refine va_callv hrun hS (fun q _ h => h) (fun q h => h) (fun u t H1 locs1 ht _ _ hB _ _ hS1 => ?_)
  subst ht
  exact kk _ locs1 la hB.1 hB.2 hS1 hl
theorem CtN.of {X : Wd} {y : MethodName} {b : ByteArray} {n : Nat} {rm : Room} {a : Nat} {wn wn' : List va_E} (hB : Bs X) (hy : plainFor y = true) (hy2 : y.name = "<init>") (h1 : 1 ≤ n) (hA : xad X 0 ≤ xad X 0 + wn.length) (body : ∀ C : Cx, cX C = X → OkN C b n y.cls rm → (va_AO RX4 (cS C) ∧ va_AO RX7 (cS C) ∧ va_AO RX9 (cS C)) → (cT C).sig.returnType = none → (cT C).name = "<init>" → N C (MQ (cB C) (QN (cX C) wn') (cA C) (cS C) rm.cells rm.slots (aA (cX C))) wn 0 0 0 [(0, .ref (xad (cX C) a))] []) : CtN X y b n rm a wn wn' := by
  refine met_ofWF (cc := b) (maxL := n) (ret := none) hy rfl ?_
  intro p e s m args below meth c s₁ B hml hv
  obtain ⟨rfl, hz, hP, hK, hNe, hAO⟩ := hv
  have hts := atoms_spec (ws := WS y b n none) B.pre
  have hb := body (X, p, e, (headSpec (WS y b n none) rm).room, s, m, ([.ref (xad X a)] : List Value).toArray, below, meth, c, 0, 0) rfl ⟨B.exec, B.bytes, hml, findClass_of_methodNamed B.named, fun w hw => hts w (List.mem_cons_of_mem _ hw), hK, hB, hNe, rfl, B.notSynchronized, fun q hq => by
    show xad X 0 ≤ q
    have hq : s.heap.size ≤ q := hq
    rw [hz] at hq
    omega⟩ hAO B.returns ((name_of_methodNamed B.named B.method).1.trans hy2)
  have hl := lv_entry ([.ref (xad X a)]) (n := n) h1
  rw [lg_entry_eq]
  exact hb s.heap [] _ hz hP va_S.rf (by rw [show (cC (X, p, e, (headSpec (WS y b n none) rm).room, s, m, ([.ref (xad X a)] : List Value).toArray, below, meth, c, 0, 0)).maxLocals = n from hml]; exact hl)
end NR
