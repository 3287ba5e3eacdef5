section HR
variable {ρ : Type} {C : Cx} {K : ρ → State → Prop} {μ : Mem} {pc pc' tgt : Nat} {ls : List (Nat × Value)} {st : List Value} {Z : Option ρ} {cc : ByteArray} {nL : Nat} {own : String} {rm : Room}
theorem J.get {p ci idx k N : Nat} {Cn ref : String} {T : u_T} {fs : List Value} {v : Value} (hC : Ok C cc nL own rm) (d : DD cc pc (.getfield idx) 3 pc') (hp : kd p = ci) (h99 : ci ≠ 99) (hc : vwCl[ci]? = some (Cn, T, N)) (hin : ∀ w ∈ u_ws Cn T N, w ∈ TBL) (hk : k < N) (hl : Cond.fieldLink own idx ref (T k).2.1 (T k).2.2.1 ∈ TBL) (hs : (T k).1 = ref) (he : cel (cX C) (μ.1 p) (μ.2 p) ci p = .inr (ci, fs)) (hv : fs[k]? = some v)
    (kk : J C K μ pc' ls (v :: st) Z) : J C K μ pc ls (.ref (xad (cX C) p) :: st) Z := by
  obtain ⟨d, rfl⟩ := d
  exact fun H locs la hP hS hl' r hr => va_get hC.ex hC.bc hC.ts hin hC.ow hC.K hP p ((wd_get hp h99).trans (by rw [he])) hc k hk (hC.ts _ hl) (fun x hx => by rw [← hs]; exact hx) hv d (kk H locs la hP hS hl' r hr)
theorem J.put {p ci idx k N : Nat} {Cn ref : String} {T : u_T} {fs : List Value} {v : Value} {μ' : Mem} {ty : FieldType} (ty0 : Nat → FieldType) (hC : Ok C cc nL own rm) (d : DD cc pc (.putfield idx) 3 pc') (hp : kd p = ci) (h99 : ci ≠ 99) (hc : vwCl[ci]? = some (Cn, T, N)) (hin : ∀ w ∈ u_ws Cn T N, w ∈ TBL) (hty : ∀ k, k < N → parseFieldDescriptor (T k).2.2.1 = some (ty0 k)) (hnm : ∀ a, a < N → ∀ b, b < N → a ≠ b → (T a).2.1 ≠ (T b).2.1) (hk : k < N) (hl : Cond.fieldLink own idx ref (T k).2.1 (T k).2.2.1 ∈ TBL) (hs : (T k).1 = ref) (hfin : (T k).2.2.2 = false) (hd : parseFieldDescriptor (T k).2.2.1 = some ty) (hn : narrow ty v = v) (hfit : fits ty v = true) (he : cel (cX C) (μ.1 p) (μ.2 p) ci p = .inr (ci, fs)) (hlen : k < fs.length)
    (hset : (wd (cX C) μ).set p (xad (cX C) p, .inr (ci, fs.set k v)) = wd (cX C) μ')
    (kk : J C K μ' pc' ls st Z) : J C K μ pc ls (v :: .ref (xad (cX C) p) :: st) Z := by
  obtain ⟨d, rfl⟩ := d
  intro H locs la hP hS hl' r hr
  refine va_put hC.ex hC.bc hC.ts hin ty0 hty hnm hC.ow hC.K hP (wd_D hC.X μ) hS p ((wd_get hp h99).trans (by rw [he])) hc k hk (hC.ts _ hl) (fun x hx => by rw [← hs]; exact hx) hfin hd hn hfit hlen d (fun H1 locs1 hP1 _ hS1 => ?_)
  rw [hset] at hP1
  exact kk H1 locs1 la hP1 hS1 hl' r hr
def isI (k n : Nat) : Prop := k ≠ 99 ∧ ∀ (X : Wd) (f : Nat → Int32) (g : Nat → Int64) (p : Nat), cel X f g k p = .inl (xcI X, n, .inl f)
def isL (k n : Nat) : Prop := k ≠ 99 ∧ ∀ (X : Wd) (f : Nat → Int32) (g : Nat → Int64) (p : Nat), cel X f g k p = .inl (xcJ X, n, .inr (.inl g))
theorem J.iald {p k n : Nat} {i : Int32} (hk : isI k n) (hC : Ok C cc nL own rm) (d : DD cc pc (.iaload) 1 pc') (hp : kd p = k) (kk : J C K μ pc' ls (.int (rI μ p (nx i)) :: st) Z) : J C K μ pc ls (.int i :: .ref (xad (cX C) p) :: st) (gq (inB i n) Z) := by
  obtain ⟨d, rfl⟩ := d
  exact J.gd fun hi H locs la hP hS hl r hr => va_iald hC.ex hC.bc hC.K hP p 0 ((wd_get hp hk.1).trans (by first | (rw [hk.2]; done) | (rw [hk.2]; rfl))) rfl (inB_in hi) d (kk H locs la hP hS hl r hr)
theorem J.lald {p k n : Nat} {i : Int32} (hk : isL k n) (hC : Ok C cc nL own rm) (d : DD cc pc (.laload) 1 pc') (hp : kd p = k) (kk : J C K μ pc' ls (.long (rL μ p (nx i)) :: st) Z) : J C K μ pc ls (.int i :: .ref (xad (cX C) p) :: st) (gq (inB i n) Z) := by
  obtain ⟨d, rfl⟩ := d
  exact J.gd fun hi H locs la hP hS hl r hr => va_lald hC.ex hC.bc hC.K hP p 1 ((wd_get hp hk.1).trans (by first | (rw [hk.2]; done) | (rw [hk.2]; rfl))) rfl (inB_in hi) d (kk H locs la hP hS hl r hr)
theorem J.iast {p k n : Nat} {i v : Int32} {F : Mem → Option ρ} (hk : isI k n) (hC : Ok C cc nL own rm) (d : DD cc pc (.iastore) 1 pc') (hp : kd p = k) (kk : ∀ μ' : Mem, J C K μ' pc' ls st (F μ')) : J C K μ pc ls (.int v :: .int i :: .ref (xad (cX C) p) :: st) (gq (inB i n) (lb (wI μ p (nx i) v) F)) := by
  obtain ⟨d, rfl⟩ := d
  refine J.gd fun hi H locs la hP hS hl r hr => va_iast hC.ex hC.bc hC.K hP (wd_D hC.X μ) hS p 0 ((wd_get hp hk.1).trans (by first | (rw [hk.2]; done) | (rw [hk.2]; rfl))) rfl (inB_in hi) d (fun H1 locs1 hP1 _ hS1 => ?_)
  rw [wd_setR hp hk.1 (hk.2 _ _ _ _).symm] at hP1
  exact kk _ H1 locs1 la hP1 hS1 hl r hr
theorem J.last {p k n : Nat} {i : Int32} {v : Int64} {F : Mem → Option ρ} (hk : isL k n) (hC : Ok C cc nL own rm) (d : DD cc pc (.lastore) 1 pc') (hp : kd p = k) (kk : ∀ μ' : Mem, J C K μ' pc' ls st (F μ')) : J C K μ pc ls (.long v :: .int i :: .ref (xad (cX C) p) :: st) (gq (inB i n) (lb (wL μ p (nx i) v) F)) := by
  obtain ⟨d, rfl⟩ := d
  refine J.gd fun hi H locs la hP hS hl r hr => va_last hC.ex hC.bc hC.K hP (wd_D hC.X μ) hS p 1 ((wd_get hp hk.1).trans (by first | (rw [hk.2]; done) | (rw [hk.2]; rfl))) rfl (inB_in hi) d (fun H1 locs1 hP1 _ hS1 => ?_)
  rw [wd_setQ hp hk.1 (hk.2 _ _ _ _).symm] at hP1
  exact kk _ H1 locs1 la hP1 hS1 hl r hr
theorem J.alen {p k n : Nat} {v : Int32} (hk : isI k n) (hC : Ok C cc nL own rm) (d : DD cc pc (.arraylength) 1 pc') (hp : kd p = k) (hv : Int32.ofNat n = v) (kk : J C K μ pc' ls (.int v :: st) Z) : J C K μ pc ls (.ref (xad (cX C) p) :: st) Z := by
  obtain ⟨d, rfl⟩ := d
  exact fun H locs la hP hS hl r hr => va_alen hC.ex hC.bc hC.K hP p 0 ((wd_get hp hk.1).trans (by first | (rw [hk.2]; done) | (rw [hk.2]; rfl))) rfl hv d (kk H locs la hP hS hl r hr)
theorem kd_allB (B : Nat → Bool) (h : (List.range NP).all B = true) {p k : Nat} (hp : kd p = k) (hk : k ≠ 99) : B p = true := List.all_eq_true.mp h p (List.mem_range.mpr (kd_lt hp hk))
theorem nx_lt {i : Int32} {n : Nat} (h : inB i n = true) : nx i < n := Nat.not_le.mp fun q => inB_in h (Or.inr q)
theorem kd_ln {p : Nat} {i : Int32} (hp : kd p = 12) (hi : inB i 2 = true) : kd (lnP p i) = 4 := by
  have h := kd_allB (fun p => !(kd p == 12) || (List.range 2).all (fun j => kd (p + 1 + 3 * j) == 4)) (by decide +kernel) hp (by decide)
  simp only [hp, beq_self_eq_true, Bool.not_true, Bool.false_or] at h
  exact eq_of_beq (List.all_eq_true.mp h _ (List.mem_range.mpr (nx_lt hi)))
theorem kd_sh {p : Nat} {i : Int32} (hp : kd p = 13) (hi : inB i 3 = true) : kd (shP p i) = 7 := by
  have h := kd_allB (fun p => !(kd p == 13) || (List.range 3).all (fun j => kd (p + 1 + 9 * j) == 7)) (by decide +kernel) hp (by decide)
  simp only [hp, beq_self_eq_true, Bool.not_true, Bool.false_or] at h
  exact eq_of_beq (List.all_eq_true.mp h _ (List.mem_range.mpr (nx_lt hi)))
theorem kd_wh {p : Nat} {i : Int32} (hp : kd p = 14) (hi : inB i 5 = true) : kd (whP p i) = 9 := by
  have h := kd_allB (fun p => !(kd p == 14) || (List.range 5).all (fun j => kd (p + 1 + 5 * j) == 9)) (by decide +kernel) hp (by decide)
  simp only [hp, beq_self_eq_true, Bool.not_true, Bool.false_or] at h
  exact eq_of_beq (List.all_eq_true.mp h _ (List.mem_range.mpr (nx_lt hi)))
theorem J.aaldL {p : Nat} {i : Int32} (hC : Ok C cc nL own rm) (d : DD cc pc (.aaload) 1 pc') (hp : kd p = 12) (kk : kd (lnP p i) = 4 → J C K μ pc' ls (.ref (xad (cX C) (lnP p i)) :: st) Z) : J C K μ pc ls (.int i :: .ref (xad (cX C) p) :: st) (gq (inB i 2) Z) := by
  obtain ⟨d, rfl⟩ := d
  exact J.gd fun hi H locs la hP hS hl r hr => va_aldq hC.ex hC.bc hC.K hP p 2 (wd_get hp (by decide)) rfl (inB_in hi) d (kk (kd_ln hp hi) H locs la hP hS hl r hr)
theorem J.aaldS {p : Nat} {i : Int32} (hC : Ok C cc nL own rm) (d : DD cc pc (.aaload) 1 pc') (hp : kd p = 13) (kk : kd (shP p i) = 7 → J C K μ pc' ls (.ref (xad (cX C) (shP p i)) :: st) Z) : J C K μ pc ls (.int i :: .ref (xad (cX C) p) :: st) (gq (inB i 3) Z) := by
  obtain ⟨d, rfl⟩ := d
  exact J.gd fun hi H locs la hP hS hl r hr => va_aldq hC.ex hC.bc hC.K hP p 3 (wd_get hp (by decide)) rfl (inB_in hi) d (kk (kd_sh hp hi) H locs la hP hS hl r hr)
theorem J.aaldW {p : Nat} {i : Int32} (hC : Ok C cc nL own rm) (d : DD cc pc (.aaload) 1 pc') (hp : kd p = 14) (kk : kd (whP p i) = 9 → J C K μ pc' ls (.ref (xad (cX C) (whP p i)) :: st) Z) : J C K μ pc ls (.int i :: .ref (xad (cX C) p) :: st) (gq (inB i 5) Z) := by
  obtain ⟨d, rfl⟩ := d
  exact J.gd fun hi H locs la hP hS hl r hr => va_aldq hC.ex hC.bc hC.K hP p 4 (wd_get hp (by decide)) rfl (inB_in hi) d (kk (kd_wh hp hi) H locs la hP hS hl r hr)
theorem J.alenW {p : Nat} (hC : Ok C cc nL own rm) (d : DD cc pc (.arraylength) 1 pc') (hp : kd p = 14) (kk : J C K μ pc' ls (.int 5 :: st) Z) : J C K μ pc ls (.ref (xad (cX C) p) :: st) Z := by
  obtain ⟨d, rfl⟩ := d
  exact fun H locs la hP hS hl r hr => va_alen hC.ex hC.bc hC.K hP p 4 (wd_get hp (by decide)) rfl rfl d (kk H locs la hP hS hl r hr)
def cpB (sp dp n : Int32) (n0 n1 : Nat) : Bool := decide (¬ sp < 0) && (decide (¬ dp < 0) && (decide (¬ n < 0) && (decide (nx sp + nx n ≤ n0) && decide (nx dp + nx n ≤ n1))))
theorem J.acpy {q p k0 k1 n0 n1 idx : Nat} {sp dp n : Int32} {F : Mem → Option ρ} (h0 : isI k0 n0) (h1 : isI k1 n1) (hC : Ok C cc nL own rm) (d : DD cc pc (.invokestatic idx) 3 pc') (hq : kd q = k0) (hp : kd p = k1) (hl : Cond.methodLink own idx arraycopyName ∈ TBL) (hnat : Cond.native arraycopyName ∈ TBL) (hstt : Cond.static arraycopyName ∈ TBL) (hini : Cond.initialized "java/lang/System" ∈ TBL) (hfr : 1 ≤ rm.frames) (hlo : (st.map fun v => v.category).sum + (nativeFrameWords "java/lang/System" "arraycopy" 5 + 11) ≤ rm.locals)
    (kk : ∀ μ' : Mem, J C K μ' pc' ls st (F μ')) : J C K μ pc ls (.int n :: .int dp :: .ref (xad (cX C) p) :: .int sp :: .ref (xad (cX C) q) :: st) (gq (cpB sp dp n n0 n1) (lb (wC μ q (nx sp) p (nx dp) (nx n)) F)) := by
  obtain ⟨d, rfl⟩ := d
  refine J.gd fun hi H locs la hP hS hl' r hr => ?_
  simp only [cpB, Bool.and_eq_true, decide_eq_true_eq] at hi
  obtain ⟨a1, a2, a3, a4, a5⟩ := hi
  refine va_copyi hC.ex hC.bc (hl'.1).symm hC.ow (hC.ts _ hl) (hC.ts _ hnat) (hC.ts _ hstt) (hC.ts _ hini) hC.K hP (wd_D hC.X μ) hS q p 0 0 (ty := .int) ((wd_get hq h0.1).trans (by rw [h0.2])) ((wd_get hp h1.1).trans (by rw [h1.2])) rfl rfl rfl a1 a2 a3 a4 a5 (fun _ _ => rfl) (by rw [hC.R]; exact hfr) (by rw [hC.R]; exact hlo) d (fun H1 locs1 hP1 _ hS1 => ?_)
  rw [wd_setR hp h1.1 (h1.2 _ _ _ _).symm] at hP1
  exact kk _ H1 locs1 la hP1 hS1 hl' r hr
/-! what methods promise -/
def PreU (X : Wd) (μ : Mem) (U : State) : Prop := va_P (xD X) vwCl (wd X μ) U.heap ∧ va_K (xD X) vwCl (tys X) U ∧ xSt X U U.heap
def QI (X : Wd) (a : Int32) (μ : Mem) : Array Value → State → Outcome → State → Prop := va_Qi (fun r (_ : Unit) => r = a) (fun _ t => va_P (xD X) vwCl (wd X μ) t.heap) (xA X)
def QL (X : Wd) (a : Int64) (μ : Mem) : Array Value → State → Outcome → State → Prop := va_Ql (fun r (_ : Unit) => r = a) (fun _ t => va_P (xD X) vwCl (wd X μ) t.heap) (xA X)
def QV (X : Wd) (μ : Mem) : Array Value → State → Outcome → State → Prop := va_Qv (fun (_ : Unit) => True) (fun _ t => va_P (xD X) vwCl (wd X μ) t.heap) (xA X)
def QR (X : Wd) (p : Nat) (μ : Mem) : Array Value → State → Outcome → State → Prop := va_Qr (fun (_ : Unit) => True) (fun _ a t => a = xad X p ∧ va_P (xD X) vwCl (wd X μ) t.heap) (xA X)
def CtI (X : Wd) (y : MethodName) (b : ByteArray) (n : Nat) (r : Option FieldType) (rm : Room) (As : List Value) (μ : Mem) (G : Option (Int32 × Mem)) : Prop := ∀ a μ', G = some (a, μ') → Met (xl X) y (WS y b n r) rm (va_Pc As (PreU X μ)) (QI X a μ') 0 0 (xA X)
def CtL (X : Wd) (y : MethodName) (b : ByteArray) (n : Nat) (r : Option FieldType) (rm : Room) (As : List Value) (μ : Mem) (G : Option (Int64 × Mem)) : Prop := ∀ a μ', G = some (a, μ') → Met (xl X) y (WS y b n r) rm (va_Pc As (PreU X μ)) (QL X a μ') 0 0 (xA X)
def CtV (X : Wd) (y : MethodName) (b : ByteArray) (n : Nat) (r : Option FieldType) (rm : Room) (As : List Value) (μ : Mem) (G : Option (Unit × Mem)) : Prop := ∀ a μ', G = some (a, μ') → Met (xl X) y (WS y b n r) rm (va_Pc As (PreU X μ)) (QV X μ') 0 0 (xA X)
def CtR (q : Nat) (X : Wd) (y : MethodName) (b : ByteArray) (n : Nat) (r : Option FieldType) (rm : Room) (As : List Value) (μ : Mem) (G : Option (Unit × Mem)) : Prop := ∀ a μ', G = some (a, μ') → Met (xl X) y (WS y b n r) rm (va_Pc As (PreU X μ)) (QR X q μ') 0 0 (xA X)
def KI (C : Cx) : Int32 × Mem → State → Prop := fun r => MQ (cB C) (QI (cX C) r.1 r.2) (cA C) (cS C) (cN C) (cO C) (xA (cX C))
def KL (C : Cx) : Int64 × Mem → State → Prop := fun r => MQ (cB C) (QL (cX C) r.1 r.2) (cA C) (cS C) (cN C) (cO C) (xA (cX C))
def KV (C : Cx) : Unit × Mem → State → Prop := fun r => MQ (cB C) (QV (cX C) r.2) (cA C) (cS C) (cN C) (cO C) (xA (cX C))
def KR (q : Nat) (C : Cx) : Unit × Mem → State → Prop := fun r => MQ (cB C) (QR (cX C) q r.2) (cA C) (cS C) (cN C) (cO C) (xA (cX C))
theorem J.iret {v : Int32} (hC : Ok C cc nL own rm) (hr : (cT C).sig.returnType = some .int) (d : DD cc pc (.ireturn) 1 pc') : J C (KI C) μ pc ls [.int v] (some (v, μ)) := by
  intro H locs la hP hS hl r e
  cases e
  exact W.iret hC.ex hC.bc hr (fun t ht _ => ⟨⟨v, (), rfl, rfl, (by subst ht; exact hP)⟩, hS.F ht⟩) hS.2.2 d.1 hC.lk
theorem J.zret {v : Int32} (hC : Ok C cc nL own rm) (hr : (cT C).sig.returnType = some .boolean) (d : DD cc pc (.ireturn) 1 pc') : J C (KI C) μ pc ls [.int v] (gq (bB v) (some (v, μ))) := by
  refine J.gd fun hb => ?_
  intro H locs la hP hS hl r e
  cases e
  have hv : narrow .boolean (.int v) = .int v := by
    rcases (of_decide_eq_true hb : v = 0 ∨ v = 1) with h | h <;> rw [h] <;> rfl
  exact W.zret hC.ex hC.bc hr hv (fun t ht _ => ⟨⟨v, (), rfl, rfl, (by subst ht; exact hP)⟩, hS.F ht⟩) hS.2.2 d.1 hC.lk
theorem J.zretB {v : Int32} (hC : Ok C cc nL own rm) (hr : (cT C).sig.returnType = some .boolean) (d : DD cc pc (.ireturn) 1 pc') (hb : bB v = true) : J C (KI C) μ pc ls [.int v] (some (v, μ)) := by
  have h := J.zret (ls := ls) (v := v) (μ := μ) hC hr d
  rw [hb] at h
  exact h
theorem J.lret {v : Int64} (hC : Ok C cc nL own rm) (hr : (cT C).sig.returnType = some .long) (d : DD cc pc (.lreturn) 1 pc') : J C (KL C) μ pc ls [.long v] (some (v, μ)) := by
  intro H locs la hP hS hl r e
  cases e
  exact W.lret hC.ex hC.bc hr (fun t ht _ => ⟨⟨v, (), rfl, rfl, (by subst ht; exact hP)⟩, hS.F ht⟩) hS.2.2 d.1 hC.lk
theorem J.vret (hC : Ok C cc nL own rm) (hr : (cT C).sig.returnType = none) (d : DD cc pc (.return_) 1 pc') : J C (KV C) μ pc ls [] (some ((), μ)) := by
  intro H locs la hP hS hl r e
  cases e
  exact W.vret hC.ex hC.bc hr (fun t ht _ => ⟨⟨(), rfl, trivial, (by subst ht; exact hP)⟩, hS.F ht⟩) hS.2.2 d.1 hC.lk
theorem J.aret {p : Nat} {n : String} (hC : Ok C cc nL own rm) (hr : (cT C).sig.returnType = some (.object n)) (d : DD cc pc (.areturn) 1 pc') : J C (KR p C) μ pc ls [.ref (xad (cX C) p)] (some ((), μ)) := by
  intro H locs la hP hS hl r e
  cases e
  exact W.aret hC.ex hC.bc hr (Or.inl ⟨n, rfl⟩) (Or.inr ⟨_, rfl⟩) (fun t ht _ => ⟨⟨(), _, rfl, trivial, rfl, (by subst ht; exact hP)⟩, hS.F ht⟩) hS.2.2 d.1 hC.lk
def MV (y : MethodName) (b : ByteArray) (n : Nat) (r : Option FieldType) (np : Nat) : Prop := Cond.code y b n r ∈ TBL ∧ Cond.initialized y.cls ∈ TBL ∧ Cond.instanceMethod y ∈ TBL ∧ Cond.selects y.cls y y ∈ TBL ∧ (y.cls ≠ "java/lang/invoke/MethodHandle" ∧ y.cls ≠ "java/lang/invoke/VarHandle") ∧ (parseMethodDescriptor y.desc).map (fun d => d.parameters.length) = some np
def MS (y : MethodName) (b : ByteArray) (n : Nat) (r : Option FieldType) (np : Nat) : Prop := Cond.code y b n r ∈ TBL ∧ Cond.initialized y.cls ∈ TBL ∧ Cond.static y ∈ TBL ∧ (y.cls ≠ "java/lang/invoke/MethodHandle" ∧ y.cls ≠ "java/lang/invoke/VarHandle") ∧ (parseMethodDescriptor y.desc).map (fun d => d.parameters.length) = some np
def Rle (rc : Room) (n : Nat) (rm : Room) : Prop := rc.cells = 0 ∧ rc.slots = 0 ∧ rc.frames + 1 ≤ rm.frames ∧ 8 + (n + 11) + rc.locals ≤ rm.locals
theorem PreU.blind {X : Wd} {μ : Mem} (As : List Value) : FrameBlind (va_Pc As (PreU X μ)) := by
  intro a U g mk h
  obtain ⟨h1, h2, h3, h4⟩ := h
  exact ⟨h1, h2, va_K.moved (u := U) (U := U.calling g mk a) (Vm.Alike.refl U.vm) h3, xSt.same (u := U) (U := U.calling g mk a) rfl h4⟩


theorem callB_of2 {y : MethodName} {b : ByteArray} {n idx np : Nat} {r : Option FieldType} {rc : Room} (hC : Ok C cc nL own rm) (hl : Cond.methodLink own idx y ∈ TBL) (h1 : Cond.code y b n r ∈ TBL) (h2 : Cond.initialized y.cls ∈ TBL) (h3 : y.cls ≠ "java/lang/invoke/MethodHandle" ∧ y.cls ≠ "java/lang/invoke/VarHandle") (h4 : (parseMethodDescriptor y.desc).map (fun d => d.parameters.length) = some np) (hR : Rle rc n rm) : CallB (cR C) (cS C) (cA C) own idx y b n r (WS y b n r) rc 0 0 np := by
  refine ⟨hR.1, hR.2.1, by rw [hC.R]; exact hR.2.2.1, by rw [hC.R]; exact hR.2.2.2, pay_in hC.ts (WS_good h1), List.mem_cons_self, hC.ts _ h1, hC.ts _ h2, h3, fun sig hs => ?_, hC.ts _ hl⟩
  rw [hs] at h4
  exact (Option.some.inj h4).symm
theorem PreU.at (hC : Ok C cc nL own rm) {H : Heap} {locs : List Loc} (hP : va_P (xD (cX C)) vwCl (wd (cX C) μ) H) (hS : va_S (xA (cX C)) (cS C).heap H locs) (As : List Value) : ∀ U : State, U.heap = H → (cS C).WarmedH U.vm → va_Pc As (PreU (cX C) μ) As.toArray U := by
  intro U hU hW
  subst hU
  exact ⟨rfl, hP, va_K.moved hW.alike hC.K, xSt.warm hW (hC.St.kept hS.2.1)⟩
theorem J.callVI {p ci idx n np N : Nat} {T : u_T} {fs : List Value} {y : MethodName} {b : ByteArray} {r : Option FieldType} {rc : Room} {As : List Value} {sk : List Value} {G : Option (Int32 × Mem)} {F : Int32 → Mem → Option ρ} (hC : Ok C cc nL own rm) (d : DD cc pc (.invokevirtual idx) 3 pc') (hp : kd p = ci) (h99 : ci ≠ 99) (hc : vwCl[ci]? = some (y.cls, T, N)) (he : cel (cX C) (μ.1 p) (μ.2 p) ci p = .inr (ci, fs)) (hl : Cond.methodLink own idx y ∈ TBL) (hy : MV y b n r np) (hR : Rle rc n rm) (hM : CtI (cX C) y b n r rc (.ref (xad (cX C) p) :: As) μ G) (hn : As.length = np) (hsk : sk = (As.reverse ++ .ref (xad (cX C) p) :: st)) (hw : (st.map fun v => v.category).sum ≤ 8)
    (kk : ∀ (a : Int32) (μ' : Mem), J C K μ' pc' ls (.int a :: st) (F a μ')) : J C K μ pc ls sk (bd G F) := by
  obtain ⟨d, rfl⟩ := d
  subst hsk
  intro H locs la hP hS hl' r hr
  obtain ⟨a, μ', hG, hF⟩ := bd_some hr
  obtain ⟨y1, y2, y3, y4, y5, y6⟩ := hy
  have hrun := va_runV (As := As) (rest := st) (g := F0 (cM C) pc la (As.reverse ++ .ref (xad (cX C) p) :: st)) ⟨hC.ex, hC.bc, hC.ml, hC.ow, hC.ts⟩ (hM a μ' hG) ⟨callB_of2 hC hl y1 y2 y5 y6 hR, hC.ts _ y3, hC.ts _ y4⟩ ⟨PreU.blind _, va_recv hC.K hP hc ((wd_get hp h99).trans (by rw [he])), PreU.at hC hP hS _⟩ rfl hn (hl'.1.trans hC.ml) rfl (lv_room hw) d (e := cE C) (below := cB C) (meth := cT C) (cells := cN C) (slots := cO C) (locs := locs) ⟨hC.ce, hC.sl⟩
  refine va_calli hrun hS (fun q _ h => h) (fun q h => h) (fun v u t H1 locs1 ht _ hv hB _ _ hS1 => ?_)
  subst hv
  subst ht
  exact kk _ μ' _ locs1 la hB hS1 hl' r hF
theorem J.callVL {p ci idx n np N : Nat} {T : u_T} {fs : List Value} {y : MethodName} {b : ByteArray} {r : Option FieldType} {rc : Room} {As : List Value} {sk : List Value} {G : Option (Int64 × Mem)} {F : Int64 → Mem → Option ρ} (hC : Ok C cc nL own rm) (d : DD cc pc (.invokevirtual idx) 3 pc') (hp : kd p = ci) (h99 : ci ≠ 99) (hc : vwCl[ci]? = some (y.cls, T, N)) (he : cel (cX C) (μ.1 p) (μ.2 p) ci p = .inr (ci, fs)) (hl : Cond.methodLink own idx y ∈ TBL) (hy : MV y b n r np) (hR : Rle rc n rm) (hM : CtL (cX C) y b n r rc (.ref (xad (cX C) p) :: As) μ G) (hn : As.length = np) (hsk : sk = (As.reverse ++ .ref (xad (cX C) p) :: st)) (hw : (st.map fun v => v.category).sum ≤ 8)
    (kk : ∀ (a : Int64) (μ' : Mem), J C K μ' pc' ls (.long a :: st) (F a μ')) : J C K μ pc ls sk (bd G F) := by
  obtain ⟨d, rfl⟩ := d
  subst hsk
  intro H locs la hP hS hl' r hr
  obtain ⟨a, μ', hG, hF⟩ := bd_some hr
  obtain ⟨y1, y2, y3, y4, y5, y6⟩ := hy
  have hrun := va_runV (As := As) (rest := st) (g := F0 (cM C) pc la (As.reverse ++ .ref (xad (cX C) p) :: st)) ⟨hC.ex, hC.bc, hC.ml, hC.ow, hC.ts⟩ (hM a μ' hG) ⟨callB_of2 hC hl y1 y2 y5 y6 hR, hC.ts _ y3, hC.ts _ y4⟩ ⟨PreU.blind _, va_recv hC.K hP hc ((wd_get hp h99).trans (by rw [he])), PreU.at hC hP hS _⟩ rfl hn (hl'.1.trans hC.ml) rfl (lv_room hw) d (e := cE C) (below := cB C) (meth := cT C) (cells := cN C) (slots := cO C) (locs := locs) ⟨hC.ce, hC.sl⟩
  refine va_calll hrun hS (fun q _ h => h) (fun q h => h) (fun v u t H1 locs1 ht _ hv hB _ _ hS1 => ?_)
  subst hv
  subst ht
  exact kk _ μ' _ locs1 la hB hS1 hl' r hF
theorem J.callVV {p ci idx n np N : Nat} {T : u_T} {fs : List Value} {y : MethodName} {b : ByteArray} {r : Option FieldType} {rc : Room} {As : List Value} {sk : List Value} {G : Option (Unit × Mem)} {F : Unit → Mem → Option ρ} (hC : Ok C cc nL own rm) (d : DD cc pc (.invokevirtual idx) 3 pc') (hp : kd p = ci) (h99 : ci ≠ 99) (hc : vwCl[ci]? = some (y.cls, T, N)) (he : cel (cX C) (μ.1 p) (μ.2 p) ci p = .inr (ci, fs)) (hl : Cond.methodLink own idx y ∈ TBL) (hy : MV y b n r np) (hR : Rle rc n rm) (hM : CtV (cX C) y b n r rc (.ref (xad (cX C) p) :: As) μ G) (hn : As.length = np) (hsk : sk = (As.reverse ++ .ref (xad (cX C) p) :: st)) (hw : (st.map fun v => v.category).sum ≤ 8)
    (kk : ∀ (a : Unit) (μ' : Mem), J C K μ' pc' ls (st) (F a μ')) : J C K μ pc ls sk (bd G F) := by
  obtain ⟨d, rfl⟩ := d
  subst hsk
  intro H locs la hP hS hl' r hr
  obtain ⟨a, μ', hG, hF⟩ := bd_some hr
  obtain ⟨y1, y2, y3, y4, y5, y6⟩ := hy
  have hrun := va_runV (As := As) (rest := st) (g := F0 (cM C) pc la (As.reverse ++ .ref (xad (cX C) p) :: st)) ⟨hC.ex, hC.bc, hC.ml, hC.ow, hC.ts⟩ (hM a μ' hG) ⟨callB_of2 hC hl y1 y2 y5 y6 hR, hC.ts _ y3, hC.ts _ y4⟩ ⟨PreU.blind _, va_recv hC.K hP hc ((wd_get hp h99).trans (by rw [he])), PreU.at hC hP hS _⟩ rfl hn (hl'.1.trans hC.ml) rfl (lv_room hw) d (e := cE C) (below := cB C) (meth := cT C) (cells := cN C) (slots := cO C) (locs := locs) ⟨hC.ce, hC.sl⟩
  refine va_callv hrun hS (fun q _ h => h) (fun q h => h) (fun u t H1 locs1 ht _ _ hB _ _ hS1 => ?_)
  subst ht
  exact kk a μ' _ locs1 la hB hS1 hl' r hF
theorem J.callVR {q p ci idx n np N : Nat} {T : u_T} {fs : List Value} {y : MethodName} {b : ByteArray} {r : Option FieldType} {rc : Room} {As : List Value} {sk : List Value} {G : Option (Unit × Mem)} {F : Unit → Mem → Option ρ} (hC : Ok C cc nL own rm) (d : DD cc pc (.invokevirtual idx) 3 pc') (hp : kd p = ci) (h99 : ci ≠ 99) (hc : vwCl[ci]? = some (y.cls, T, N)) (he : cel (cX C) (μ.1 p) (μ.2 p) ci p = .inr (ci, fs)) (hl : Cond.methodLink own idx y ∈ TBL) (hy : MV y b n r np) (hR : Rle rc n rm) (hM : CtR q (cX C) y b n r rc (.ref (xad (cX C) p) :: As) μ G) (hn : As.length = np) (hsk : sk = (As.reverse ++ .ref (xad (cX C) p) :: st)) (hw : (st.map fun v => v.category).sum ≤ 8)
    (kk : ∀ (a : Unit) (μ' : Mem), J C K μ' pc' ls (.ref (xad (cX C) q) :: st) (F a μ')) : J C K μ pc ls sk (bd G F) := by
  obtain ⟨d, rfl⟩ := d
  subst hsk
  intro H locs la hP hS hl' r hr
  obtain ⟨a, μ', hG, hF⟩ := bd_some hr
  obtain ⟨y1, y2, y3, y4, y5, y6⟩ := hy
  have hrun := va_runV (As := As) (rest := st) (g := F0 (cM C) pc la (As.reverse ++ .ref (xad (cX C) p) :: st)) ⟨hC.ex, hC.bc, hC.ml, hC.ow, hC.ts⟩ (hM a μ' hG) ⟨callB_of2 hC hl y1 y2 y5 y6 hR, hC.ts _ y3, hC.ts _ y4⟩ ⟨PreU.blind _, va_recv hC.K hP hc ((wd_get hp h99).trans (by rw [he])), PreU.at hC hP hS _⟩ rfl hn (hl'.1.trans hC.ml) rfl (lv_room hw) d (e := cE C) (below := cB C) (meth := cT C) (cells := cN C) (slots := cO C) (locs := locs) ⟨hC.ce, hC.sl⟩
  refine va_callr hrun hS (fun q _ h => h) (fun q h => h) (fun u v t H1 locs1 ht _ _ hB _ _ hS1 => ?_)
  obtain ⟨hv, hB⟩ := hB
  subst hv
  subst ht
  exact kk a μ' _ locs1 la hB hS1 hl' r hF
theorem J.callSI {idx n np : Nat} {y : MethodName} {b : ByteArray} {r : Option FieldType} {rc : Room} {As : List Value} {sk : List Value} {G : Option (Int32 × Mem)} {F : Int32 → Mem → Option ρ} (hC : Ok C cc nL own rm) (d : DD cc pc (.invokestatic idx) 3 pc') (hl : Cond.methodLink own idx y ∈ TBL) (hy : MS y b n r np) (hR : Rle rc n rm) (hM : CtI (cX C) y b n r rc As μ G) (hn : As.length = np) (hsk : sk = (As.reverse ++ st)) (hw : (st.map fun v => v.category).sum ≤ 8)
    (kk : ∀ (a : Int32) (μ' : Mem), J C K μ' pc' ls (.int a :: st) (F a μ')) : J C K μ pc ls sk (bd G F) := by
  obtain ⟨d, rfl⟩ := d
  subst hsk
  intro H locs la hP hS hl' r hr
  obtain ⟨a, μ', hG, hF⟩ := bd_some hr
  obtain ⟨y1, y2, y3, y5, y6⟩ := hy
  have hrun := va_runS (As := As) (rest := st) (g := F0 (cM C) pc la (As.reverse ++ st)) ⟨hC.ex, hC.bc, hC.ml, hC.ow, hC.ts⟩ (hM a μ' hG) ⟨callB_of2 hC hl y1 y2 y5 y6 hR, hC.ts _ y3⟩ ⟨PreU.blind _, PreU.at hC hP hS _⟩ rfl hn (hl'.1.trans hC.ml) rfl (lv_room hw) d (e := cE C) (below := cB C) (meth := cT C) (cells := cN C) (slots := cO C) (locs := locs) ⟨hC.ce, hC.sl⟩
  refine va_calli hrun hS (fun q _ h => h) (fun q h => h) (fun v u t H1 locs1 ht _ hv hB _ _ hS1 => ?_)
  subst hv
  subst ht
  exact kk _ μ' _ locs1 la hB hS1 hl' r hF
theorem J.callSL {idx n np : Nat} {y : MethodName} {b : ByteArray} {r : Option FieldType} {rc : Room} {As : List Value} {sk : List Value} {G : Option (Int64 × Mem)} {F : Int64 → Mem → Option ρ} (hC : Ok C cc nL own rm) (d : DD cc pc (.invokestatic idx) 3 pc') (hl : Cond.methodLink own idx y ∈ TBL) (hy : MS y b n r np) (hR : Rle rc n rm) (hM : CtL (cX C) y b n r rc As μ G) (hn : As.length = np) (hsk : sk = (As.reverse ++ st)) (hw : (st.map fun v => v.category).sum ≤ 8)
    (kk : ∀ (a : Int64) (μ' : Mem), J C K μ' pc' ls (.long a :: st) (F a μ')) : J C K μ pc ls sk (bd G F) := by
  obtain ⟨d, rfl⟩ := d
  subst hsk
  intro H locs la hP hS hl' r hr
  obtain ⟨a, μ', hG, hF⟩ := bd_some hr
  obtain ⟨y1, y2, y3, y5, y6⟩ := hy
  have hrun := va_runS (As := As) (rest := st) (g := F0 (cM C) pc la (As.reverse ++ st)) ⟨hC.ex, hC.bc, hC.ml, hC.ow, hC.ts⟩ (hM a μ' hG) ⟨callB_of2 hC hl y1 y2 y5 y6 hR, hC.ts _ y3⟩ ⟨PreU.blind _, PreU.at hC hP hS _⟩ rfl hn (hl'.1.trans hC.ml) rfl (lv_room hw) d (e := cE C) (below := cB C) (meth := cT C) (cells := cN C) (slots := cO C) (locs := locs) ⟨hC.ce, hC.sl⟩
  refine va_calll hrun hS (fun q _ h => h) (fun q h => h) (fun v u t H1 locs1 ht _ hv hB _ _ hS1 => ?_)
  subst hv
  subst ht
  exact kk _ μ' _ locs1 la hB hS1 hl' r hF
theorem J.callSV {idx n np : Nat} {y : MethodName} {b : ByteArray} {r : Option FieldType} {rc : Room} {As : List Value} {sk : List Value} {G : Option (Unit × Mem)} {F : Unit → Mem → Option ρ} (hC : Ok C cc nL own rm) (d : DD cc pc (.invokestatic idx) 3 pc') (hl : Cond.methodLink own idx y ∈ TBL) (hy : MS y b n r np) (hR : Rle rc n rm) (hM : CtV (cX C) y b n r rc As μ G) (hn : As.length = np) (hsk : sk = (As.reverse ++ st)) (hw : (st.map fun v => v.category).sum ≤ 8)
    (kk : ∀ (a : Unit) (μ' : Mem), J C K μ' pc' ls (st) (F a μ')) : J C K μ pc ls sk (bd G F) := by
  obtain ⟨d, rfl⟩ := d
  subst hsk
  intro H locs la hP hS hl' r hr
  obtain ⟨a, μ', hG, hF⟩ := bd_some hr
  obtain ⟨y1, y2, y3, y5, y6⟩ := hy
  have hrun := va_runS (As := As) (rest := st) (g := F0 (cM C) pc la (As.reverse ++ st)) ⟨hC.ex, hC.bc, hC.ml, hC.ow, hC.ts⟩ (hM a μ' hG) ⟨callB_of2 hC hl y1 y2 y5 y6 hR, hC.ts _ y3⟩ ⟨PreU.blind _, PreU.at hC hP hS _⟩ rfl hn (hl'.1.trans hC.ml) rfl (lv_room hw) d (e := cE C) (below := cB C) (meth := cT C) (cells := cN C) (slots := cO C) (locs := locs) ⟨hC.ce, hC.sl⟩
  refine va_callv hrun hS (fun q _ h => h) (fun q h => h) (fun u t H1 locs1 ht _ _ hB _ _ hS1 => ?_)
  subst ht
  exact kk a μ' _ locs1 la hB hS1 hl' r hF
theorem J.callSR {q idx n np : Nat} {y : MethodName} {b : ByteArray} {r : Option FieldType} {rc : Room} {As : List Value} {sk : List Value} {G : Option (Unit × Mem)} {F : Unit → Mem → Option ρ} (hC : Ok C cc nL own rm) (d : DD cc pc (.invokestatic idx) 3 pc') (hl : Cond.methodLink own idx y ∈ TBL) (hy : MS y b n r np) (hR : Rle rc n rm) (hM : CtR q (cX C) y b n r rc As μ G) (hn : As.length = np) (hsk : sk = (As.reverse ++ st)) (hw : (st.map fun v => v.category).sum ≤ 8)
    (kk : ∀ (a : Unit) (μ' : Mem), J C K μ' pc' ls (.ref (xad (cX C) q) :: st) (F a μ')) : J C K μ pc ls sk (bd G F) := by
  obtain ⟨d, rfl⟩ := d
  subst hsk
  intro H locs la hP hS hl' r hr
  obtain ⟨a, μ', hG, hF⟩ := bd_some hr
  obtain ⟨y1, y2, y3, y5, y6⟩ := hy
  have hrun := va_runS (As := As) (rest := st) (g := F0 (cM C) pc la (As.reverse ++ st)) ⟨hC.ex, hC.bc, hC.ml, hC.ow, hC.ts⟩ (hM a μ' hG) ⟨callB_of2 hC hl y1 y2 y5 y6 hR, hC.ts _ y3⟩ ⟨PreU.blind _, PreU.at hC hP hS _⟩ rfl hn (hl'.1.trans hC.ml) rfl (lv_room hw) d (e := cE C) (below := cB C) (meth := cT C) (cells := cN C) (slots := cO C) (locs := locs) ⟨hC.ce, hC.sl⟩
  refine va_callr hrun hS (fun q _ h => h) (fun q h => h) (fun u v t H1 locs1 ht _ _ hB _ _ hS1 => ?_)
  obtain ⟨hv, hB⟩ := hB
  subst hv
  subst ht
  exact kk a μ' _ locs1 la hB hS1 hl' r hF

theorem J.mmax {idx : Nat} {x y : Int32} (hC : Ok C cc nL own rm) (d : DD cc pc (.invokestatic idx) 3 pc') (hl : Cond.methodLink own idx Lib.Math.max.name ∈ TBL) (w1 : Cond.static Lib.Math.max.name ∈ TBL) (w2 : Cond.initialized "java/lang/Math" ∈ TBL) (w3 : Cond.code Lib.Math.max.name Lib.Math.max.code 2 (some .int) ∈ TBL) (hf : 1 ≤ rm.frames) (hw : (st.map fun v => v.category).sum + 13 ≤ rm.locals) (kk : J C K μ pc' ls (.int (imax x y) :: st) Z) : J C K μ pc ls (.int y :: .int x :: st) Z := by
  obtain ⟨d, rfl⟩ := d
  exact fun H locs la hP hS hl' r hr => va_mmax hC.ex hC.bc hl'.1.symm hC.ow (hC.ts _ hl) (hC.ts _ w1) (hC.ts _ w2) (hC.ts _ w3) (by rw [hC.R]; exact hf) (by rw [hC.R]; exact hw) hC.ce hC.sl d (kk H locs la hP hS hl' r hr)
theorem J.mmin {idx : Nat} {x y : Int32} (hC : Ok C cc nL own rm) (d : DD cc pc (.invokestatic idx) 3 pc') (hl : Cond.methodLink own idx Lib.Math.min.name ∈ TBL) (w1 : Cond.static Lib.Math.min.name ∈ TBL) (w2 : Cond.initialized "java/lang/Math" ∈ TBL) (w3 : Cond.code Lib.Math.min.name Lib.Math.min.code 2 (some .int) ∈ TBL) (hf : 1 ≤ rm.frames) (hw : (st.map fun v => v.category).sum + 13 ≤ rm.locals) (kk : J C K μ pc' ls (.int (imin x y) :: st) Z) : J C K μ pc ls (.int y :: .int x :: st) Z := by
  obtain ⟨d, rfl⟩ := d
  exact fun H locs la hP hS hl' r hr => va_mmin hC.ex hC.bc hl'.1.symm hC.ow (hC.ts _ hl) (hC.ts _ w1) (hC.ts _ w2) (hC.ts _ w3) (by rw [hC.R]; exact hf) (by rw [hC.R]; exact hw) hC.ce hC.sl d (kk H locs la hP hS hl' r hr)
theorem J.mabs {idx : Nat} {x : Int32} (hC : Ok C cc nL own rm) (d : DD cc pc (.invokestatic idx) 3 pc') (hl : Cond.methodLink own idx Lib.Math.abs.name ∈ TBL) (w1 : Cond.static Lib.Math.abs.name ∈ TBL) (w2 : Cond.initialized "java/lang/Math" ∈ TBL) (w3 : Cond.code Lib.Math.abs.name Lib.Math.abs.code 1 (some .int) ∈ TBL) (hf : 1 ≤ rm.frames) (hw : (st.map fun v => v.category).sum + 13 ≤ rm.locals) (kk : J C K μ pc' ls (.int (iabs x) :: st) Z) : J C K μ pc ls (.int x :: st) Z := by
  obtain ⟨d, rfl⟩ := d
  exact fun H locs la hP hS hl' r hr => va_mabs hC.ex hC.bc hl'.1.symm hC.ow (hC.ts _ hl) (hC.ts _ w1) (hC.ts _ w2) (hC.ts _ w3) (by rw [hC.R]; exact hf) (by rw [hC.R]; exact hw) hC.ce hC.sl d (kk H locs la hP hS hl' r hr)
theorem J.lmin {idx : Nat} {x y : Int64} (hC : Ok C cc nL own rm) (d : DD cc pc (.invokestatic idx) 3 pc') (hl : Cond.methodLink own idx Lib.MathLoose.min_long.x ∈ TBL) (w1 : Cond.static Lib.MathLoose.min_long.x ∈ TBL) (w2 : Cond.initialized "java/lang/Math" ∈ TBL) (w3 : Cond.code Lib.MathLoose.min_long.x Lib.MathLoose.min_long.code 4 (some .long) ∈ TBL) (hf : 1 ≤ rm.frames) (hw : (st.map fun v => v.category).sum + 15 ≤ rm.locals) (kk : J C K μ pc' ls (.long (lmin x y) :: st) Z) : J C K μ pc ls (.long y :: .long x :: st) Z := by
  obtain ⟨d, rfl⟩ := d
  exact fun H locs la hP hS hl' r hr => va_mmin_long hC.ex hC.bc hl'.1.symm hC.ow (hC.ts _ hl) (hC.ts _ w1) (hC.ts _ w2) (hC.ts _ w3) (by rw [hC.R]; exact hf) (by rw [hC.R]; exact hw) hC.ce hC.sl d (kk H locs la hP hS hl' r hr)
theorem J.ldc {idx : Nat} {v : Int32} (hC : Ok C cc nL own rm) (d : DD cc pc (.ldc idx) 2 pc') (hw : Cond.constant own idx v ∈ TBL) (kk : J C K μ pc' ls (.int v :: st) Z) : J C K μ pc ls st Z := by
  obtain ⟨d, rfl⟩ := d
  exact fun H locs la hP hS hl' r hr => lv_ldc hC.ex hC.bc hC.ow (hC.ts _ hw) d (kk H locs la hP hS hl' r hr)
theorem J.ldc2 {idx : Nat} {v : Int64} (hC : Ok C cc nL own rm) (d : DD cc pc (.ldc2_w idx) 3 pc') (hw : Cond.constantLong own idx v ∈ TBL) (kk : J C K μ pc' ls (.long v :: st) Z) : J C K μ pc ls st Z := by
  obtain ⟨d, rfl⟩ := d
  exact fun H locs la hP hS hl' r hr => lv_ldc2 hC.ex hC.bc hC.ow (hC.ts _ hw) d (kk H locs la hP hS hl' r hr)
theorem J.tsI {dflt lo hi : Int} {offs : Array Int} {len : Nat} {x : Int32} {off : Int} (hC : Ok C cc nL own rm) (d : decode cc pc = .ok (.tableswitch dflt lo hi offs, len)) (h1 : ¬ x.toInt < lo) (h2 : ¬ hi < x.toInt) (ho : offs[(x.toInt - lo).toNat]? = some off) (ht : (pc : Int) + off = (tgt : Int)) (kk : J C K μ tgt ls st Z) : J C K μ pc ls (.int x :: st) Z :=
  fun H locs la hP hS hl' r hr => lv_tableIn hC.ex hC.bc d h1 h2 ho ht (kk H locs la hP hS hl' r hr)
theorem J.tsO {dflt lo hi : Int} {offs : Array Int} {len : Nat} {x : Int32} (hC : Ok C cc nL own rm) (d : decode cc pc = .ok (.tableswitch dflt lo hi offs, len)) (h : x.toInt < lo ∨ hi < x.toInt) (ht : (pc : Int) + dflt = (tgt : Int)) (kk : J C K μ tgt ls st Z) : J C K μ pc ls (.int x :: st) Z :=
  fun H locs la hP hS hl' r hr => lv_tableOut hC.ex hC.bc d h ht (kk H locs la hP hS hl' r hr)
theorem met_ofWF {l : Launch} {y : MethodName} {ws ws' : List Cond} {rm : Room} {Pc : Array Value → State → Prop} {Qc : Array Value → State → Outcome → State → Prop} {mc ms : Nat} {free : Addr → Prop} {cc : ByteArray} {maxL : Nat} {ret : Option FieldType}
    (hy : plainFor y = true) (hw : ws = Cond.code y cc maxL ret :: ws')
    (body : ∀ p e s m args below meth c s₁, BodyLoose p l y (headSpec ws rm) cc maxL ret e s m args below meth c s₁ → c.maxLocals = maxL → Pc args s →
      W p l e (headSpec ws rm).room s m args below meth c s.heap [] 0 0 (MQ below Qc args s mc ms free) (entryFrame m args maxL)) : Met l y ws rm Pc Qc mc ms free := by
  refine MetFree.of_bodySF (code := cc) (maxLocals := maxL) (ret := ret) hy ?_ ?_
  · intro args s m h hn
    obtain ⟨meth, c, h1, h2, h3, h4, h5, h6, -, -⟩ := Cond.code_spec hn (atoms_spec (ws := ws) h _ (by rw [hw]; exact List.mem_cons_self))
    exact ⟨meth, c, h1, h2, h3, h4, h5, h6⟩
  · intro p e s m args below meth c s₁ B hml hP _
    have hh0 : s₁.heap = s.heap := by rw [B.state]; rfl
    obtain ⟨t, a1, o, b1, b2, b3⟩ := body p e s m args below meth c s₁ B hml hP s₁ hh0 (Stand.of_body B)
    exact ⟨t, o, a1, b1, b2, ⟨b3.1, b3.2⟩⟩
/-- a method's contract out of a walk from its entry -/
theorem Ct.of {X : Wd} {y : MethodName} {b : ByteArray} {n : Nat} {ret : Option FieldType} {rm : Room} {As : List Value} {Q : ρ → Array Value → State → Outcome → State → Prop} {KK : Cx → ρ → State → Prop} (hKK : ∀ C : Cx, cX C = X → cN C = 0 → cO C = 0 → ∀ r, KK C r = MQ (cB C) (Q r) (cA C) (cS C) 0 0 (xA X)) (hX : WdOk X) (hy : plainFor y = true) (hsl : (lg_sl As).length ≤ n)
    (body : ∀ C : Cx, cX C = X → Ok C b n y.cls rm → (cT C).sig.returnType = ret → J C (KK C) μ 0 (lv_args 0 As) [] Z) (r : ρ) (hr : Z = some r) : Met (xl X) y (WS y b n ret) rm (va_Pc As (PreU X μ)) (Q r) 0 0 (xA X) := by
  refine met_ofWF (cc := b) (maxL := n) (ret := ret) hy rfl ?_
  intro p e s m args below meth c s₁ B hml hv
  obtain ⟨rfl, hP, hK, hSt⟩ := hv
  have hts := atoms_spec (ws := WS y b n ret) B.pre
  have hb := body (X, p, e, (headSpec (WS y b n ret) rm).room, s, m, As.toArray, below, meth, c, 0, 0) rfl ⟨B.exec, B.bytes, hml, findClass_of_methodNamed B.named, fun w hw => hts w (List.mem_cons_of_mem _ hw), hK, hX, hSt, rfl, B.notSynchronized, Nat.zero_le _, Nat.zero_le _⟩ B.returns
  have hl := lv_entry As (n := n) hsl
  rw [lg_entry_eq]
  have h := hb s.heap [] _ hP va_S.rf (by rw [show (cC (X, p, e, (headSpec (WS y b n ret) rm).room, s, m, As.toArray, below, meth, c, 0, 0)).maxLocals = n from hml]; exact hl) r hr
  rw [hKK _ rfl rfl rfl] at h
  exact h

end HR
