section SR
variable {ρ : Type} {C : Cx} {K : ρ → State → Prop} {μ : Mem} {pc pc' tgt : Nat} {ls : List (Nat × Value)} {st : List Value} {Z : Option ρ} {cc : ByteArray} {nL : Nat} {own : String} {rm : Room}
theorem J.i2b {x : Int32} (hC : Ok C cc nL own rm) (d : DD cc pc (.i2b) 1 pc') (k : J C K μ pc' ls (.int x.toInt8.toInt32 :: st) Z) : J C K μ pc ls (.int x :: st) Z := by
  obtain ⟨d, rfl⟩ := d
  exact fun H locs la hP hS hl r hr => lv_i2b hC.ex hC.bc d rfl (k H locs la hP hS hl r hr)
theorem J.gets {Cn n ds ref : String} {v : Value} {idx : Nat} (hC : Ok C cc nL own rm) (d : DD cc pc (.getstatic idx) 3 pc') (hZ : va_Z Cn n ds v (xA (cX C)) (cS C) (cS C).heap) (hl : Cond.fieldLink own idx ref n ds ∈ TBL) (hs : Cn = ref) (kk : J C K μ pc' ls (v :: st) Z) : J C K μ pc ls st Z := by
  obtain ⟨d, rfl⟩ := d
  subst hs
  exact fun H locs la hP hS hl' r hr => va_gets hC.ex hC.bc hZ hS hC.ow (hC.ts _ hl) (fun _ h => h) d (kk H locs la hP hS hl' r hr)
theorem J.tald {t N : Nat} {f : Nat → Int32} {i : Int32} (hC : Ok C cc nL own rm) (d : DD cc pc (.iaload) 1 pc') (hT : va_T .int t N (fun j => .int (f j)) (xA (cX C)) (cS C) (cS C).heap) (kk : J C K μ pc' ls (.int (f (nx i)) :: st) Z) : J C K μ pc ls (.int i :: .ref t :: st) (gq (inB i N) Z) := by
  obtain ⟨d, rfl⟩ := d
  exact J.gd fun hi H locs la hP hS hl r hr => va_ti hC.ex hC.bc hT hS (inB_in hi) rfl d (kk H locs la hP hS hl r hr)
theorem J.tbald {t N : Nat} {f : Nat → Int32} {i : Int32} (hC : Ok C cc nL own rm) (d : DD cc pc (.baload) 1 pc') (hT : va_T .byte t N (fun j => .int (f j)) (xA (cX C)) (cS C) (cS C).heap) (kk : J C K μ pc' ls (.int (f (nx i)) :: st) Z) : J C K μ pc ls (.int i :: .ref t :: st) (gq (inB i N) Z) := by
  obtain ⟨d, rfl⟩ := d
  exact J.gd fun hi H locs la hP hS hl r hr => va_tb hC.ex hC.bc hT hS (inB_in hi) rfl d (kk H locs la hP hS hl r hr)
theorem J.tlen {ty : FieldType} {t N : Nat} {f : Nat → Value} {v : Int32} (hC : Ok C cc nL own rm) (d : DD cc pc (.arraylength) 1 pc') (hT : va_T ty t N f (xA (cX C)) (cS C) (cS C).heap) (hv : Int32.ofNat N = v) (kk : J C K μ pc' ls (.int v :: st) Z) : J C K μ pc ls (.ref t :: st) Z := by
  obtain ⟨d, rfl⟩ := d
  exact fun H locs la hP hS hl r hr => va_tlen hC.ex hC.bc hT hS hv d (kk H locs la hP hS hl r hr)
theorem J.ldcS {tx : String} {idx q : Nat} (hC : Ok C cc nL own rm) (d : DD cc pc (.ldc idx) 2 pc') (hZ : vk_R own idx tx q (cS C)) (kk : J C K μ pc' ls (.ref q :: st) Z) : J C K μ pc ls st Z := by
  obtain ⟨d, rfl⟩ := d
  exact fun H locs la hP hS hl r hr => va_ldcS hC.ex hC.bc hC.ow hZ d (kk H locs la hP hS hl r hr)
theorem J.sgetf {on n ds ref : String} {idx q : Nat} {v : Value} (hC : Ok C cc nL own rm) (d : DD cc pc (.getfield idx) 3 pc') (hE : va_OF on n ds v q (xA (cX C)) (cS C) (cS C).heap) (hl : Cond.fieldLink own idx ref n ds ∈ TBL) (hs : on = ref) (kk : J C K μ pc' ls (v :: st) Z) : J C K μ pc ls (.ref q :: st) Z := by
  obtain ⟨d, rfl⟩ := d
  subst hs
  exact fun H locs la hP hS hl' r hr => vk_getf hC.ex hC.bc hE hS hC.ow (hC.ts _ hl) (fun _ h => h) d (kk H locs la hP hS hl' r hr)
theorem J.bret {v : Int32} (hC : Ok C cc nL own rm) (hr : (cT C).sig.returnType = some .byte) (d : DD cc pc (.ireturn) 1 pc') (hn : narrow .byte (.int v) = .int v) : J C (KI C) μ pc ls [.int v] (some (v, μ)) := by
  intro H locs la hP hS hl r e
  cases e
  exact W.zret hC.ex hC.bc hr hn (fun t ht _ => ⟨⟨v, (), rfl, rfl, (by subst ht; exact hP)⟩, hS.F ht⟩) hS.2.2 d.1 hC.lk
def chB (x : Int32) : Bool := decide ((x.toUInt32 % 65536).toInt32 = x)
theorem J.cret {v : Int32} (hC : Ok C cc nL own rm) (hr : (cT C).sig.returnType = some .char) (d : DD cc pc (.ireturn) 1 pc') : J C (KI C) μ pc ls [.int v] (gq (chB v) (some (v, μ))) := by
  refine J.gd fun hb => ?_
  intro H locs la hP hS hl r e
  cases e
  have hn : narrow .char (.int v) = .int v := by
    have h := pk_nc v
    rw [(of_decide_eq_true hb : (v.toUInt32 % 65536).toInt32 = v)] at h
    exact h
  exact W.zret hC.ex hC.bc hr hn (fun t ht _ => ⟨⟨v, (), rfl, rfl, (by subst ht; exact hP)⟩, hS.F ht⟩) hS.2.2 d.1 hC.lk
theorem J.callTI {i idx n np : Nat} {y : MethodName} {b : ByteArray} {r : Option FieldType} {rc : Room} {As : List Value} {sk : List Value} {G : Option (Int32 × Mem)} {F : Int32 → Mem → Option ρ} (hC : Ok C cc nL own rm) (d : DD cc pc (.invokevirtual idx) 3 pc') (hi : i < 3) (hyc : y.cls = "java/lang/String") (hl : Cond.methodLink own idx y ∈ TBL) (hy : MV y b n r np) (hR : Rle rc n rm) (hM : CtI (cX C) y b n r rc (.ref (xs (cX C) (10 + i)) :: As) μ G) (hn : As.length = np) (hsk : sk = (As.reverse ++ .ref (xs (cX C) (10 + i)) :: st)) (hw : (st.map fun v => v.category).sum ≤ 8)
    (kk : ∀ (a : Int32) (μ' : Mem), J C K μ' pc' ls (.int a :: st) (F a μ')) : J C K μ pc ls sk (bd G F) := by
  obtain ⟨d, rfl⟩ := d
  subst hsk
  intro H locs la hP hS hl' r hr
  obtain ⟨a, μ', hG, hF⟩ := bd_some hr
  obtain ⟨y1, y2, y3, y4, y5, y6⟩ := hy
  have hrv := vk_recv (i := i) hC.St.2.2.2.2.2.2.1 hi hS
  rw [← hyc] at hrv
  have hrun := va_runV (As := As) (rest := st) (g := F0 (cM C) pc la (As.reverse ++ .ref (xs (cX C) (10 + i)) :: st)) ⟨hC.ex, hC.bc, hC.ml, hC.ow, hC.ts⟩ (hM a μ' hG) ⟨callB_of2 hC hl y1 y2 y5 y6 hR, hC.ts _ y3, hC.ts _ y4⟩ ⟨PreU.blind _, hrv, PreU.at hC hP hS _⟩ rfl hn (hl'.1.trans hC.ml) rfl (lv_room hw) d (e := cE C) (below := cB C) (meth := cT C) (cells := cN C) (slots := cO C) (locs := locs) ⟨hC.ce, hC.sl⟩
  refine va_calli hrun hS (fun q _ h => h) (fun q h => h) (fun v u t H1 locs1 ht _ hv hB _ _ hS1 => ?_)
  subst hv
  subst ht
  exact kk _ μ' _ locs1 la hB hS1 hl' r hF
theorem sStr {i : Nat} (hC : Ok C cc nL own rm) (hi : i < 3) : va_OF "java/lang/String" "coder" "B" (.int 0) (xs (cX C) (10 + i)) (xA (cX C)) (cS C) (cS C).heap ∧ va_OF "java/lang/String" "value" "[B" (.ref (xs (cX C) (20 + i))) (xs (cX C) (10 + i)) (xA (cX C)) (cS C) (cS C).heap ∧ va_T .byte (xs (cX C) (20 + i)) (sLen.getD i 0) (fun j => .int ((sByt.getD i []).getD j 0)) (xA (cX C)) (cS C) (cS C).heap :=
  (hC.St.2.2.2.2.2.2.1.1 i hi).2
theorem J.ialdK {p k n j : Nat} {i : Int32} (hk : isI k n) (hC : Ok C cc nL own rm) (d : DD cc pc (.iaload) 1 pc') (hp : kd p = k) (hi : inB i n = true) (hj : nx i = j) (kk : J C K μ pc' ls (.int (rI μ p j) :: st) Z) : J C K μ pc ls (.int i :: .ref (xad (cX C) p) :: st) Z := by
  subst hj
  have h := J.iald (i := i) hk hC d hp kk
  rw [hi] at h
  exact h
theorem J.laldK {p k n j : Nat} {i : Int32} (hk : isL k n) (hC : Ok C cc nL own rm) (d : DD cc pc (.laload) 1 pc') (hp : kd p = k) (hi : inB i n = true) (hj : nx i = j) (kk : J C K μ pc' ls (.long (rL μ p j) :: st) Z) : J C K μ pc ls (.int i :: .ref (xad (cX C) p) :: st) Z := by
  subst hj
  have h := J.lald (i := i) hk hC d hp kk
  rw [hi] at h
  exact h
theorem J.iastK {p k n j : Nat} {i v : Int32} {F : Mem → Option ρ} (hk : isI k n) (hC : Ok C cc nL own rm) (d : DD cc pc (.iastore) 1 pc') (hp : kd p = k) (hi : inB i n = true) (hj : nx i = j) (kk : ∀ μ' : Mem, J C K μ' pc' ls st (F μ')) : J C K μ pc ls (.int v :: .int i :: .ref (xad (cX C) p) :: st) (lb (wI μ p j v) F) := by
  subst hj
  have h := J.iast (i := i) (v := v) (μ := μ) hk hC d hp kk
  rw [hi] at h
  exact h
theorem J.lastK {p k n j : Nat} {i : Int32} {v : Int64} {F : Mem → Option ρ} (hk : isL k n) (hC : Ok C cc nL own rm) (d : DD cc pc (.lastore) 1 pc') (hp : kd p = k) (hi : inB i n = true) (hj : nx i = j) (kk : ∀ μ' : Mem, J C K μ' pc' ls st (F μ')) : J C K μ pc ls (.long v :: .int i :: .ref (xad (cX C) p) :: st) (lb (wL μ p j v) F) := by
  subst hj
  have h := J.last (i := i) (v := v) (μ := μ) hk hC d hp kk
  rw [hi] at h
  exact h
theorem J.aaldLK {p q : Nat} {i : Int32} (hC : Ok C cc nL own rm) (d : DD cc pc (.aaload) 1 pc') (hp : kd p = 12) (hi : inB i 2 = true) (hq : lnP p i = q) (kk : kd q = 4 → J C K μ pc' ls (.ref (xad (cX C) q) :: st) Z) : J C K μ pc ls (.int i :: .ref (xad (cX C) p) :: st) Z := by
  subst hq
  have h := J.aaldL (i := i) hC d hp kk
  rw [hi] at h
  exact h
theorem J.aaldSK {p q : Nat} {i : Int32} (hC : Ok C cc nL own rm) (d : DD cc pc (.aaload) 1 pc') (hp : kd p = 13) (hi : inB i 3 = true) (hq : shP p i = q) (kk : kd q = 7 → J C K μ pc' ls (.ref (xad (cX C) q) :: st) Z) : J C K μ pc ls (.int i :: .ref (xad (cX C) p) :: st) Z := by
  subst hq
  have h := J.aaldS (i := i) hC d hp kk
  rw [hi] at h
  exact h
theorem J.acpyK {q p k0 k1 n0 n1 idx a b c : Nat} {sp dp n : Int32} {F : Mem → Option ρ} (h0 : isI k0 n0) (h1 : isI k1 n1) (hC : Ok C cc nL own rm) (d : DD cc pc (.invokestatic idx) 3 pc') (hq : kd q = k0) (hp : kd p = k1) (hl : Cond.methodLink own idx arraycopyName ∈ TBL) (hnat : Cond.native arraycopyName ∈ TBL) (hstt : Cond.static arraycopyName ∈ TBL) (hini : Cond.initialized "java/lang/System" ∈ TBL) (hfr : 1 ≤ rm.frames) (hlo : (st.map fun v => v.category).sum + (nativeFrameWords "java/lang/System" "arraycopy" 5 + 11) ≤ rm.locals) (hb : cpB sp dp n n0 n1 = true) (ha : nx sp = a) (hb2 : nx dp = b) (hc : nx n = c)
    (kk : ∀ μ' : Mem, J C K μ' pc' ls st (F μ')) : J C K μ pc ls (.int n :: .int dp :: .ref (xad (cX C) p) :: .int sp :: .ref (xad (cX C) q) :: st) (lb (wC μ q a p b c) F) := by
  subst ha; subst hb2; subst hc
  have h := J.acpy (sp := sp) (dp := dp) (n := n) (μ := μ) h0 h1 hC d hq hp hl hnat hstt hini hfr hlo kk
  rw [hb] at h
  exact h
theorem J.idivK {x y : Int32} (hC : Ok C cc nL own rm) (d : DD cc pc (.idiv) 1 pc') (hy : decide (¬ y = 0) = true) (k : J C K μ pc' ls (.int (x / y) :: st) Z) : J C K μ pc ls (.int y :: .int x :: st) Z := by
  have h := J.idiv (x := x) (y := y) hC d k
  rw [hy] at h
  exact h
theorem J.iremK {x y : Int32} (hC : Ok C cc nL own rm) (d : DD cc pc (.irem) 1 pc') (hy : decide (¬ y = 0) = true) (k : J C K μ pc' ls (.int (x - x / y * y) :: st) Z) : J C K μ pc ls (.int y :: .int x :: st) Z := by
  have h := J.irem (x := x) (y := y) hC d k
  rw [hy] at h
  exact h
theorem J.ldivK {x y : Int64} (hC : Ok C cc nL own rm) (d : DD cc pc (.ldiv) 1 pc') (hy : decide (¬ y = 0) = true) (k : J C K μ pc' ls (.long (x / y) :: st) Z) : J C K μ pc ls (.long y :: .long x :: st) Z := by
  have h := J.ldiv (x := x) (y := y) hC d k
  rw [hy] at h
  exact h
theorem J.lremK {x y : Int64} (hC : Ok C cc nL own rm) (d : DD cc pc (.lrem) 1 pc') (hy : decide (¬ y = 0) = true) (k : J C K μ pc' ls (.long (x - x / y * y) :: st) Z) : J C K μ pc ls (.long y :: .long x :: st) Z := by
  have h := J.lrem (x := x) (y := y) hC d k
  rw [hy] at h
  exact h
def wT (μ : Mem) (f : Nat → Int32) (i p j n : Nat) : Mem := wR μ p (va_cpy f (μ.1 p) i j n)
/-- a copy out of a static row of numbers -/
theorem J.tcpy {t N : Nat} {f : Nat → Int32} {p k1 n1 idx : Nat} {sp dp n : Int32} {F : Mem → Option ρ} (h1 : isI k1 n1) (hC : Ok C cc nL own rm) (d : DD cc pc (.invokestatic idx) 3 pc') (hX : va_T .int t N (fun j => .int (f j)) (xA (cX C)) (cS C) (cS C).heap) (hp : kd p = k1) (hl : Cond.methodLink own idx arraycopyName ∈ TBL) (hnat : Cond.native arraycopyName ∈ TBL) (hstt : Cond.static arraycopyName ∈ TBL) (hini : Cond.initialized "java/lang/System" ∈ TBL) (hfr : 1 ≤ rm.frames) (hlo : (st.map fun v => v.category).sum + (nativeFrameWords "java/lang/System" "arraycopy" 5 + 11) ≤ rm.locals)
    (kk : ∀ μ' : Mem, J C K μ' pc' ls st (F μ')) : J C K μ pc ls (.int n :: .int dp :: .ref (xad (cX C) p) :: .int sp :: .ref t :: st) (gq (cpB sp dp n N n1) (lb (wT μ f (nx sp) p (nx dp) (nx n)) F)) := by
  obtain ⟨d, rfl⟩ := d
  refine J.gd fun hi H locs la hP hS hl' r hr => ?_
  simp only [cpB, Bool.and_eq_true, decide_eq_true_eq] at hi
  obtain ⟨a1, a2, a3, a4, a5⟩ := hi
  have nn : ∀ z : Int32, ¬ z < 0 → z.toInt = (z.toNatClampNeg : Int) := by
    intro z hz
    have hz0 : (0 : Int) ≤ z.toInt := by
      have := Int32.not_lt.mp hz
      simpa using Int32.le_iff_toInt_le.mp this
    show z.toInt = ((z.toInt.toNat : Nat) : Int)
    omega
  have ha1 := (wd_get (X := cX C) (μ := μ) hp h1.1).trans (by rw [h1.2] : _ = some (xad (cX C) p, .inl (xcI (cX C), n1, .inl (μ.1 p))))
  have hD := wd_D hC.X μ
  intro T hT X
  obtain ⟨scr, hs1, hs2, hs3, hs4, -, hs5, hs7⟩ := hX
  have hc0 : H[t]? = some scr := by rw [hS.2.1 t (Array.getElem?_eq_some_iff.mp hs1).1 hs7]; exact hs1
  have hc1 : H[xad (cX C) p]? = some (vp_cell (xcI (cX C)) (n1, .inl (μ.1 p))) := hP p _ ha1
  obtain ⟨hs6, k0, hk0, cm0, hkk0⟩ := hs2
  obtain ⟨-, k1, hk1, cm1, hkk1⟩ := (hC.K.2 0 (xcI (cX C), .int) rfl).1 n1 (fun j => .int (μ.1 p j))
  obtain ⟨vm', X', step⟩ := X.arraycopy hC.ex hC.ow (hC.ts _ hl) (hC.ts _ hnat) (hC.ts _ hstt) (hC.ts _ hini) (src := t) (dst := xad (cX C) p) (cs := scr) (cd := vp_cell (xcI (cX C)) (n1, .inl (μ.1 p))) (srcPos := sp) (destPos := dp) (n := n) (by rw [hT]; exact hc0) (by rw [hT]; exact hc1)
    hs6 (fun _ h => by cases h) hs3 (fun h => by cases h) hk0 hk1 hkk0 hkk1 (by simp [refKind]) a1 a2 a3
    (by rw [nn sp a1, nn n a3]; simp only [nx] at a4; omega)
    (by rw [nn dp a2, nn n a3]; show ¬ _ > ((arrV (xcI (cX C)) n1 (fun j => .int (μ.1 p j))).slots.size : Int); rw [arrV_size]; simp only [nx] at a5; omega)
    (fun vm₁ _ i hi => by
      have e : scr.slots.getD (sp.toNatClampNeg + i) .null = .int (f (sp.toNatClampNeg + i)) := by
        rw [Array.getD_eq_getD_getElem?, hs5 _ (by simp only [nx] at a4; omega)]
        rfl
      refine ⟨?_, ?_⟩
      · rw [e]; rfl
      · rw [e]
        exact trivial)
    (g := F0 (cM C) pc la (.int n :: .int dp :: .ref (xad (cX C) p) :: .int sp :: .ref t :: st)) rfl (by rw [hl'.1]) (rest := st) rfl (by rw [hC.bc]; exact d) (by rw [hC.R]; exact hfr) (by show 2 * 0 + _ + _ ≤ _; rw [hC.R]; omega)
  have e1 : copied scr (vp_cell (xcI (cX C)) (n1, .inl (μ.1 p))) sp dp n = vp_cell (xcI (cX C)) (n1, .inl (va_cpy f (μ.1 p) (nx sp) (nx dp) (nx n))) := va_copiedX (fun z => .int z) scr (xcI (cX C)) f (μ.1 p) hs5 a4
  rw [e1] at X' step
  have hl9 : xad (cX C) p < H.size := (Array.getElem?_eq_some_iff.mp hc1).1
  have hheap : ((T.setVm vm').setCell (xad (cX C) p) (vp_cell (xcI (cX C)) (n1, .inl (va_cpy f (μ.1 p) (nx sp) (nx dp) (nx n))))).heap = H.setIfInBounds (xad (cX C) p) (vp_cell (xcI (cX C)) (n1, .inl (va_cpy f (μ.1 p) (nx sp) (nx dp) (nx n)))) := by rw [← hT]; rfl
  have oq : ∀ q : Nat, q ≠ xad (cX C) p → (H.setIfInBounds (xad (cX C) p) (vp_cell (xcI (cX C)) (n1, .inl (va_cpy f (μ.1 p) (nx sp) (nx dp) (nx n)))))[q]? = H[q]? := fun q hq => by simp [Array.getElem?_setIfInBounds, Ne.symm hq]
  have hP1 := hP.set hD ha1 (e := .inl (xcI (cX C), n1, .inl (va_cpy f (μ.1 p) (nx sp) (nx dp) (nx n)))) (show (H.setIfInBounds (xad (cX C) p) _)[xad (cX C) p]? = some _ by simp [Array.getElem?_setIfInBounds, hl9]) oq
  rw [wd_setR hp h1.1 (h1.2 _ _ _ _).symm] at hP1
  obtain ⟨t2, b1, b2⟩ := kk _ _ (locs ++ _) la hP1 ⟨by simp; exact hS.1, fun q g1 g2 => by
      rw [oq q (fun e => g2 (by rw [e]; exact hD.2 p _ ha1))]
      exact hS.2.1 q g1 g2, fun q hq => by
      rcases List.mem_append.mp hq with h | h
      · exact hS.2.2 q h
      · obtain ⟨z, -, hz⟩ := List.mem_map.mp h
        rw [← hz]
        exact hD.2 p _ ha1⟩ hl' r hr _ hheap X'
  exact ⟨t2, step t2 b1, b2⟩
end SR
theorem ml_J0_492 : Cond.methodLink RJ0 492 yJ0_isLatin1_aae02 ∈ TBL := in2 (List.mem_of_getElem? (i := 164) rfl) rfl
theorem fl_J0_38 : Cond.fieldLink RJ0 38 "java/lang/String" "COMPACT_STRINGS" "Z" ∈ TBL := in2 (List.mem_of_getElem? (i := 168) rfl) rfl
theorem ml_J0_495 : Cond.methodLink RJ0 495 yJ1_charAt_3b067 ∈ TBL := in2 (List.mem_of_getElem? (i := 170) rfl) rfl
theorem ml_J1_9 : Cond.methodLink RJ1 9 yJ0_checkIndex_df160 ∈ TBL := in2 (List.mem_of_getElem? (i := 173) rfl) rfl
theorem fl_J0_1053 : Cond.fieldLink RJ0 1053 "jdk/internal/util/Preconditions" "SIOOBE_FORMATTER" "Ljava/util/function/BiFunction;" ∈ TBL := in2 (List.mem_of_getElem? (i := 176) rfl) rfl
theorem ml_J0_1059 : Cond.methodLink RJ0 1059 yJ3_checkIndex_8e157 ∈ TBL := in2 (List.mem_of_getElem? (i := 178) rfl) rfl
theorem ml_J0_498 : Cond.methodLink RJ0 498 yJ2_charAt_3b067 ∈ TBL := in2 (List.mem_of_getElem? (i := 181) rfl) rfl
theorem ml_J2_67 : Cond.methodLink RJ2 67 yJ2_checkIndex_2214a ∈ TBL := in2 (List.mem_of_getElem? (i := 184) rfl) rfl
theorem ml_J2_48 : Cond.methodLink RJ2 48 yJ2_length_9d52b ∈ TBL := in2 (List.mem_of_getElem? (i := 187) rfl) rfl
theorem ml_J2_414 : Cond.methodLink RJ2 414 yJ0_checkIndex_df160 ∈ TBL := in2 (List.mem_of_getElem? (i := 190) rfl) rfl
theorem ml_J2_71 : Cond.methodLink RJ2 71 yJ2_getChar_3b067 ∈ TBL := in2 (List.mem_of_getElem? (i := 191) rfl) rfl
theorem fl_J2_44 : Cond.fieldLink RJ2 44 "java/lang/StringUTF16" "$assertionsDisabled" "Z" ∈ TBL := in2 (List.mem_of_getElem? (i := 194) rfl) rfl
theorem fl_J2_59 : Cond.fieldLink RJ2 59 "java/lang/StringUTF16" "HI_BYTE_SHIFT" "I" ∈ TBL := in2 (List.mem_of_getElem? (i := 196) rfl) rfl
theorem fl_J2_63 : Cond.fieldLink RJ2 63 "java/lang/StringUTF16" "LO_BYTE_SHIFT" "I" ∈ TBL := in2 (List.mem_of_getElem? (i := 198) rfl) rfl
theorem ml_J0_633 : Cond.methodLink RJ0 633 yJ0_indexOf_7cf53 ∈ TBL := in3 (List.mem_of_getElem? (i := 1) rfl) rfl
theorem ml_J0_505 : Cond.methodLink RJ0 505 yJ0_length_8abf5 ∈ TBL := in3 (List.mem_of_getElem? (i := 5) rfl) rfl
theorem ml_J0_335 : Cond.methodLink RJ0 335 yJ0_coder_7d493 ∈ TBL := in3 (List.mem_of_getElem? (i := 9) rfl) rfl
theorem ml_J0_637 : Cond.methodLink RJ0 637 yJ1_indexOf_4cfef ∈ TBL := in3 (List.mem_of_getElem? (i := 13) rfl) rfl
theorem ml_J1_88 : Cond.methodLink RJ1 88 yJ1_canEncode_9a6ad ∈ TBL := in3 (List.mem_of_getElem? (i := 16) rfl) rfl
theorem ml_J1_92 : Cond.methodLink RJ1 92 Lib.Math.max.name ∈ TBL := in3 (List.mem_of_getElem? (i := 19) rfl) rfl
theorem ml_J1_38 : Cond.methodLink RJ1 38 Lib.Math.min.name ∈ TBL := in3 (List.mem_of_getElem? (i := 22) rfl) rfl
theorem ml_J1_95 : Cond.methodLink RJ1 95 yJ1_indexOfChar_4cfef ∈ TBL := in3 (List.mem_of_getElem? (i := 25) rfl) rfl
theorem ml_J0_640 : Cond.methodLink RJ0 640 yJ2_indexOf_4cfef ∈ TBL := in3 (List.mem_of_getElem? (i := 28) rfl) rfl
theorem ml_J2_224 : Cond.methodLink RJ2 224 Lib.Math.max.name ∈ TBL := in3 (List.mem_of_getElem? (i := 31) rfl) rfl
theorem ml_J2_183 : Cond.methodLink RJ2 183 Lib.Math.min.name ∈ TBL := in3 (List.mem_of_getElem? (i := 32) rfl) rfl
theorem ml_J2_228 : Cond.methodLink RJ2 228 yJ2_indexOfChar_4cfef ∈ TBL := in3 (List.mem_of_getElem? (i := 34) rfl) rfl
theorem ml_J2_96 : Cond.methodLink RJ2 96 yJ2_checkBoundsBeginEnd_d044e ∈ TBL := in3 (List.mem_of_getElem? (i := 37) rfl) rfl
theorem ml_J2_241 : Cond.methodLink RJ2 241 yJ0_checkBoundsBeginEnd_23922 ∈ TBL := in3 (List.mem_of_getElem? (i := 40) rfl) rfl
theorem ml_J0_1062 : Cond.methodLink RJ0 1062 yJ3_checkFromToIndex_8c36e ∈ TBL := in3 (List.mem_of_getElem? (i := 43) rfl) rfl
theorem ml_J2_244 : Cond.methodLink RJ2 244 yJ2_indexOfCharUnsafe_4cfef ∈ TBL := in3 (List.mem_of_getElem? (i := 46) rfl) rfl
theorem ml_J2_232 : Cond.methodLink RJ2 232 yJ2_indexOfSupplementary_4cfef ∈ TBL := in3 (List.mem_of_getElem? (i := 49) rfl) rfl
theorem ml_J2_164 : Cond.methodLink RJ2 164 yJ11_isValidCodePoint_9a6ad ∈ TBL := in3 (List.mem_of_getElem? (i := 52) rfl) rfl
theorem ml_J2_157 : Cond.methodLink RJ2 157 yJ11_highSurrogate_5068e ∈ TBL := in3 (List.mem_of_getElem? (i := 55) rfl) rfl
theorem ml_J2_161 : Cond.methodLink RJ2 161 yJ11_lowSurrogate_5068e ∈ TBL := in3 (List.mem_of_getElem? (i := 59) rfl) rfl
theorem fl_J0_15 : Cond.fieldLink RJ0 15 "java/lang/String" "coder" "B" ∈ TBL := in8 (List.mem_of_getElem? (i := 69) rfl) rfl
theorem fl_J0_9 : Cond.fieldLink RJ0 9 "java/lang/String" "value" "[B" ∈ TBL := in8 (List.mem_of_getElem? (i := 70) rfl) rfl
