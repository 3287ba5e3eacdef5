def rmT : Room := { frames := 6, cells := 1, slots := 6, locals := 90 }
def QX (X : Wd) (res : Option Int32 × Mem) : Array Value → State → Outcome → State → Prop := va_Qi (fun r (_ : Unit) => res.1 = some r) (fun _ t => va_P (xD X) vwCl (wd X res.2) t.heap) (xA X)
def XX (X : Wd) (res : Option Int32 × Mem) : String → State → State → Prop := vx_X (fun (_ : Unit) => res.1 = none) (fun E _ t => E = NSE ∧ va_P (xD X) vwCl (wd X res.2) t.heap) (xA X)
def KX (C : Cx) : Option Int32 × Mem → State → Prop := fun res => vx_MQ (cB C) (QX (cX C) res) (XX (cX C) res) (cA C) (cS C) 1 6 (xA (cX C))
def dcl (c : String) : Cond := .declares ⟨c, "<init>", "(Ljava/lang/String;)V"⟩
def badB : List Cond := [Cond.castable NSE NSE, dcl "java/lang/RuntimeException", dcl "java/lang/Exception", dcl "java/lang/Throwable"]
theorem x_bad : ∀ w ∈ ((at13 RX10 140).filter vx_no).filter (fun w => !goodWord w), w ∈ badB := by decide +kernel
theorem x_in : ∀ w ∈ ((at13 RX10 140).filter vx_no).filter goodWord, w ∈ lw_tbl := by decide +kernel
theorem x_ot : ∀ w ∈ (at13 RX10 140).filter vx_no, vx_ot w = true := by decide +kernel
def BadOk (U : State) : Prop := va_Nw (.castable NSE NSE) U ∧ va_Nw (dcl "java/lang/RuntimeException") U ∧ va_Nw (dcl "java/lang/Exception") U ∧ va_Nw (dcl "java/lang/Throwable") U
theorem BadOk.warm {s U : State} (hW : s.WarmedH U.vm) (h : BadOk s) : BadOk U := ⟨va_Nw.warmC hW h.1, va_Nw.warmD hW h.2.1, va_Nw.warmD hW h.2.2.1, va_Nw.warmD hW h.2.2.2⟩
theorem BadOk.same {u U : State} (hv : u.vm = U.vm) (h : BadOk u) : BadOk U := ⟨va_Nw.same rfl hv h.1, va_Nw.same rfl hv h.2.1, va_Nw.same rfl hv h.2.2.1, va_Nw.same rfl hv h.2.2.2⟩
/-- there is no handler in the body, and the thrown class is what it is -/
def TT (C : Cx) : Prop := (∀ x ∈ (cC C).exceptionTable.toList, False) ∧ BadOk (cS C)
def PreX (X : Wd) (μ : Mem) (U : State) : Prop := PreU X μ U ∧ BadOk U
def CtX (X : Wd) (y : MethodName) (b : ByteArray) (n : Nat) (r : Option FieldType) (rm : Room) (As : List Value) (μ : Mem) (G : Option (Option Int32 × Mem)) : Prop := ∀ res, G = some res → vx_Met (xl X) y (WS y b n r) rm (va_Pc As (PreX X μ)) (QX X res) (XX X res) 1 6 (xA X)
theorem x_cl : Cond.classLink RX10 136 NSE ∈ TBL := in5 (List.mem_of_getElem? (i := 133) rfl) rfl
theorem x_ini : Cond.initialized NSE ∈ TBL := in1 (List.mem_of_getElem? (i := 24) rfl) rfl
section TX
variable {ρ : Type} {C : Cx} {K : ρ → State → Prop} {μ : Mem} {pc pc' tgt : Nat} {ls : List (Nat × Value)} {st : List Value} {Z : Option ρ} {cc : ByteArray} {nL : Nat} {own : String} {rm : Room}
theorem J.xret {v : Int32} (hC : Ok C cc nL own rm) (h0 : cN C = 0) (h1 : cO C = 0) (hr : (cT C).sig.returnType = some .int) (d : DD cc pc (.ireturn) 1 pc') : J C (KX C) μ pc ls [.int v] (some (some v, μ)) := by
  intro H locs la hP hS hl r e
  cases e
  rw [h0, h1]
  refine W.widen (k := 1) (n := 6) (by omega) (by omega) ?_
  exact vx_ret (W.iret hC.ex hC.bc hr (fun t ht _ => ⟨⟨v, (), rfl, rfl, (by subst ht; exact hP)⟩, hS.F ht⟩) hS.2.2 d.1 hC.lk)
theorem J.throwT (hC : Ok C cX10_table 4 RX10 rmT) (h0 : cN C = 0) (h1 : cO C = 0) (ht : TT C) : J C (KX C) μ 17 ls [] (some (none, μ)) := by
  intro H locs la hP hS hl r e
  cases e
  rw [h0, h1]
  refine throw13 (own := RX10) (text := "no such table or what") (ik := 136) (is := 138) (ic := 140) (sa := xs (cX C) 12) (A := xA (cX C)) hC.ex hC.bc hC.X.1 hC.ow (hC.ts _ x_cl) (hC.ts _ x_ini) hC.St.2.2.2.2.2.1.2.2 (vx_hat (B := badB) (fun w hw => hC.ts w (List.mem_filter.mpr ⟨x_in w hw, (List.mem_filter.mp hw).2⟩)) x_bad (vx_c (va_Nw.use rfl ht.2.1) (vx_c (va_Nw.use rfl ht.2.2.1) (vx_c (va_Nw.use rfl ht.2.2.2.1) (vx_c (va_Nw.use rfl ht.2.2.2.2) vx_n))))) ?_ hC.St.2.2.2.2.2.2.2.1 hC.St.2.2.2.2.2.2.2.2 hS hl.1 (by decide +kernel) (by decide +kernel) (by decide +kernel) (by decide +kernel) (by decide +kernel) (fun x hx => absurd (ht.1 x hx) id) (by rw [hC.R]; decide) (by rw [hC.R]; decide) (by rw [hC.R]; decide) (by rw [hC.R]; decide) hC.lk ?_ hS.2.2 (by omega) (by omega)
  · intro w hw
    rcases List.mem_cons.mp hw with e | hw
    · rw [e]; rfl
    · rcases List.mem_cons.mp hw with e | hw
      · rw [e]; rfl
      · exact x_ot w hw
  · intro t _ hz hq
    refine ⟨(), rfl, ⟨rfl, ?_⟩, ?_⟩
    · exact hP.kept (fun k q hk => hq q.1 (hP k q hk).lt)
    · exact ⟨Nat.le_trans hS.1 hz, fun q g1 g2 => (hq q (Nat.lt_of_lt_of_le g1 hS.1)).trans (hS.2.1 q g1 g2)⟩
theorem PreX.blind {X : Wd} {μ : Mem} (As : List Value) : FrameBlind (va_Pc As (PreX X μ)) := by
  intro a U g mk h
  obtain ⟨h1, h2, h3⟩ := h
  exact ⟨h1, (PreU.blind As a U g mk ⟨h1, h2⟩).2, BadOk.same (u := U) (U := U.calling g mk a) rfl h3⟩
theorem CtX.of {X : Wd} {y : MethodName} {b : ByteArray} {n : Nat} {ret : Option FieldType} {rm : Room} {As : List Value} {μ : Mem} {G : Option (Option Int32 × Mem)} (hX : WdOk X) (hy : plainName y.cls = true) (hsl : (lg_sl As).length ≤ n) (body : ∀ C : Cx, cX C = X → cN C = 0 → cO C = 0 → TT C → Ok C b n y.cls rm → (cT C).sig.returnType = ret → J C (KX C) μ 0 (lv_args 0 As) [] G) : CtX X y b n ret rm As μ G := by
  intro res hG
  refine vx_ofW (cc := b) (maxL := n) (ret := ret) hy rfl ?_
  intro p e s m args below meth c s₁ B hml ht hv
  obtain ⟨rfl, ⟨hP, hK, hSt⟩, hNw⟩ := hv
  have hts := atoms_spec (ws := WS y b n ret) B.pre
  have hb := body (X, p, e, (headSpec (WS y b n ret) rm).room, s, m, As.toArray, below, meth, c, 0, 0) rfl rfl rfl ⟨ht, hNw⟩ ⟨B.exec, B.bytes, hml, findClass_of_methodNamed B.named, fun w hw => hts w (List.mem_cons_of_mem _ hw), hK, hX, hSt, rfl, B.notSynchronized, Nat.zero_le _, Nat.zero_le _⟩ B.returns
  have hl := lv_entry As (n := n) hsl
  rw [lg_entry_eq]
  exact hb s.heap [] _ hP va_S.rf (by rw [show (cC (X, p, e, (headSpec (WS y b n ret) rm).room, s, m, As.toArray, below, meth, c, 0, 0)).maxLocals = n from hml]; exact hl) res hG
end TX
theorem eX10_table_0 : DD cX10_table 0 (.aload_n 0) 1 1 := ⟨by decide +kernel, rfl⟩
theorem eX10_table_1 : DD cX10_table 1 (.iload_n 1) 1 2 := ⟨by decide +kernel, rfl⟩
theorem eX10_table_2 : DD cX10_table 2 (.invokevirtual 132) 3 5 := ⟨by decide +kernel, rfl⟩
theorem eX10_table_5 : DB cX10_table 5 (.ifCond .eq 12) (12) 8 17 := ⟨by decide +kernel, rfl, by decide⟩
theorem eX10_table_8 : DD cX10_table 8 (.iload_n 2) 1 9 := ⟨by decide +kernel, rfl⟩
theorem eX10_table_9 : DB cX10_table 9 (.ifCond .lt 8) (8) 12 17 := ⟨by decide +kernel, rfl, by decide⟩
theorem eX10_table_12 : DD cX10_table 12 (.iload_n 2) 1 13 := ⟨by decide +kernel, rfl⟩
theorem eX10_table_13 : DD cX10_table 13 (.iconst 3) 1 14 := ⟨by decide +kernel, rfl⟩
theorem eX10_table_14 : DB cX10_table 14 (.if_icmp .le 13) (13) 17 27 := ⟨by decide +kernel, rfl, by decide⟩
theorem eX10_table_17 : DD cX10_table 17 (.new 136) 3 20 := ⟨by decide +kernel, rfl⟩
theorem eX10_table_20 : DD cX10_table 20 (.dup) 1 21 := ⟨by decide +kernel, rfl⟩
theorem eX10_table_21 : DD cX10_table 21 (.ldc 138) 2 23 := ⟨by decide +kernel, rfl⟩
theorem eX10_table_23 : DD cX10_table 23 (.invokespecial 140) 3 26 := ⟨by decide +kernel, rfl⟩
theorem eX10_table_26 : DD cX10_table 26 (.athrow) 1 27 := ⟨by decide +kernel, rfl⟩
theorem eX10_table_27 : DD cX10_table 27 (.aload_n 0) 1 28 := ⟨by decide +kernel, rfl⟩
theorem eX10_table_28 : DD cX10_table 28 (.getfield 26) 3 31 := ⟨by decide +kernel, rfl⟩
theorem eX10_table_31 : DD cX10_table 31 (.getfield 143) 3 34 := ⟨by decide +kernel, rfl⟩
theorem eX10_table_34 : DD cX10_table 34 (.iload_n 1) 1 35 := ⟨by decide +kernel, rfl⟩
theorem eX10_table_35 : DD cX10_table 35 (.aaload) 1 36 := ⟨by decide +kernel, rfl⟩
theorem eX10_table_36 : DD cX10_table 36 (.astore_n 3) 1 37 := ⟨by decide +kernel, rfl⟩
theorem eX10_table_37 : DD cX10_table 37 (.iload_n 2) 1 38 := ⟨by decide +kernel, rfl⟩
theorem eX10_table_38 : decode cX10_table 38 = .ok (.tableswitch 46 0 2 #[26, 31, 36], 26) := by decide +kernel
theorem eX10_table_64 : DD cX10_table 64 (.aload_n 3) 1 65 := ⟨by decide +kernel, rfl⟩
theorem eX10_table_65 : DD cX10_table 65 (.getfield 147) 3 68 := ⟨by decide +kernel, rfl⟩
theorem eX10_table_68 : DD cX10_table 68 (.ireturn) 1 69 := ⟨by decide +kernel, rfl⟩
theorem eX10_table_69 : DD cX10_table 69 (.aload_n 3) 1 70 := ⟨by decide +kernel, rfl⟩
theorem eX10_table_70 : DD cX10_table 70 (.getfield 152) 3 73 := ⟨by decide +kernel, rfl⟩
theorem eX10_table_73 : DD cX10_table 73 (.ireturn) 1 74 := ⟨by decide +kernel, rfl⟩
theorem eX10_table_74 : DD cX10_table 74 (.aload_n 3) 1 75 := ⟨by decide +kernel, rfl⟩
theorem eX10_table_75 : DD cX10_table 75 (.getfield 155) 3 78 := ⟨by decide +kernel, rfl⟩
theorem eX10_table_78 : DD cX10_table 78 (.iconst 0) 1 79 := ⟨by decide +kernel, rfl⟩
theorem eX10_table_79 : DD cX10_table 79 (.aaload) 1 80 := ⟨by decide +kernel, rfl⟩
theorem eX10_table_80 : DD cX10_table 80 (.getfield 159) 3 83 := ⟨by decide +kernel, rfl⟩
theorem eX10_table_83 : DD cX10_table 83 (.ireturn) 1 84 := ⟨by decide +kernel, rfl⟩
theorem eX10_table_84 : DD cX10_table 84 (.aload_n 3) 1 85 := ⟨by decide +kernel, rfl⟩
theorem eX10_table_85 : DD cX10_table 85 (.getfield 155) 3 88 := ⟨by decide +kernel, rfl⟩
theorem eX10_table_88 : DD cX10_table 88 (.iconst 1) 1 89 := ⟨by decide +kernel, rfl⟩
theorem eX10_table_89 : DD cX10_table 89 (.aaload) 1 90 := ⟨by decide +kernel, rfl⟩
theorem eX10_table_90 : DD cX10_table 90 (.getfield 159) 3 93 := ⟨by decide +kernel, rfl⟩
theorem eX10_table_93 : DD cX10_table 93 (.ireturn) 1 94 := ⟨by decide +kernel, rfl⟩
def F_X10_table_17  (μ : Mem) : Option (Option Int32 × Mem) :=
  some (none, μ)
set_option maxHeartbeats 4000000 in
theorem j_X10_table_17 {C : Cx} (hC : Ok C cX10_table 4 RX10 rmT) (h0 : cN C = 0) (h1 : cO C = 0) (ht : TT C) (hr : (cT C).sig.returnType = (some .int))  (μ : Mem) : J C (KX C) μ 17 [] [] (F_X10_table_17   μ) := by
  unfold F_X10_table_17
  exact J.throwT hC h0 h1 ht
def G_X10_table (x1 : Int32) (x2 : Int32) (μ : Mem) : Option (Option Int32 × Mem) :=
  bd (G_X10_hasTable x1 μ) (fun r_2 μ_1 => if r_2 = 0 then F_X10_table_17   μ_1 else if x2 < 0 then F_X10_table_17   μ_1 else if x2 ≤ (3 : Int32) then gq (inB x1 3) (if x2 = (0 : Int32) then some (some (rI μ_1 (shP 8 x1) 2), μ_1) else (if x2 = (1 : Int32) then some (some (rI μ_1 (shP 8 x1) 3), μ_1) else (if x2 = (2 : Int32) then some (some (rI μ_1 ((shP 8 x1) + 3) 3), μ_1) else (some (some (rI μ_1 ((shP 8 x1) + 6) 3), μ_1))))) else F_X10_table_17   μ_1)
set_option maxHeartbeats 4000000 in
theorem c_X10_table {X : Wd} (hX : WdOk X) (x1 : Int32) (x2 : Int32) (μ : Mem) : CtX X yX10_table cX10_table 4 (some .int) rmT [.ref (xad X 0), .int x1, .int x2] μ (G_X10_table x1 x2 μ) := by
  refine CtX.of hX (by decide) (by exact Nat.le_of_ble_eq_true rfl) ?_
  intro C hCX h0 h1 ht hC hr
  subst hCX
  show J C (KX C) μ 0 [(0, .ref (xad (cX C) 0)), (1, .int x1), (2, .int x2)] [] _
  unfold G_X10_table
  refine J.aload_n (j := 0) hC eX10_table_0 rfl ?_
  refine J.iload_n (j := 1) hC eX10_table_1 rfl ?_
  refine J.callVI (st := []) hC eX10_table_2 kk_0 (by decide) rfl rfl ml_X10_132 mv_X10_hasTable ⟨rfl, rfl, Nat.le_of_ble_eq_true rfl, Nat.le_of_ble_eq_true rfl⟩ (c_X10_hasTable hC.X x1 μ) rfl rfl (Nat.le_of_ble_eq_true rfl) (fun r_2 μ_1 => ?_)
  refine J.if_eq hC eX10_table_5 (fun _ => ?_) (fun _ => ?_)
  · refine J.sub [] rfl ?_
    exact j_X10_table_17 hC h0 h1 ht hr   μ_1
  · refine J.iload_n (j := 2) hC eX10_table_8 rfl ?_
    refine J.if_lt hC eX10_table_9 (fun _ => ?_) (fun _ => ?_)
    · refine J.sub [] rfl ?_
      exact j_X10_table_17 hC h0 h1 ht hr   μ_1
    · refine J.iload_n (j := 2) hC eX10_table_12 rfl ?_
      refine J.iconst hC eX10_table_13 ci_3 ?_
      refine J.icmp_le hC eX10_table_14 (fun _ => ?_) (fun _ => ?_)
      · refine J.aload_n (j := 0) hC eX10_table_27 rfl ?_
        refine gf_X10_26 (q := 7) hC eX10_table_28 kk_0 rfl ?_
        refine gf_X10_143 (q := 8) hC eX10_table_31 kk_7 rfl ?_
        refine J.iload_n (j := 1) hC eX10_table_34 rfl ?_
        refine J.aaldS hC eX10_table_35 kk_8 (fun hq_3 => ?_)
        refine J.astore_n [(3, .ref (xad (cX C) (shP 8 x1))), (0, .ref (xad (cX C) 0)), (1, .int x1), (2, .int x2)] hC eX10_table_36 (by decide) rfl ?_
        refine J.iload_n (j := 3) hC eX10_table_37 rfl ?_
        refine J.ite (fun h_4 => ?_) (fun h_4 => ?_)
        · refine J.tsI (off := 26) (tgt := 64) hC eX10_table_38 (by rw [h_4]; decide) (by rw [h_4]; decide) (by rw [h_4]; rfl) (by decide) ?_
          refine J.aload_n (j := 0) hC eX10_table_64 rfl ?_
          refine gf_X10_147 hC eX10_table_65 hq_3 ?_
          exact J.xret hC h0 h1 hr eX10_table_68
        refine J.ite (fun h_5 => ?_) (fun h_5 => ?_)
        · refine J.tsI (off := 31) (tgt := 69) hC eX10_table_38 (by rw [h_5]; decide) (by rw [h_5]; decide) (by rw [h_5]; rfl) (by decide) ?_
          refine J.aload_n (j := 0) hC eX10_table_69 rfl ?_
          refine gf_X10_152 hC eX10_table_70 hq_3 ?_
          exact J.xret hC h0 h1 hr eX10_table_73
        refine J.ite (fun h_6 => ?_) (fun h_6 => ?_)
        · refine J.tsI (off := 36) (tgt := 74) hC eX10_table_38 (by rw [h_6]; decide) (by rw [h_6]; decide) (by rw [h_6]; rfl) (by decide) ?_
          refine J.aload_n (j := 0) hC eX10_table_74 rfl ?_
          refine gf_X10_155 (q := (shP 8 x1) + 2) hC eX10_table_75 hq_3 rfl ?_
          refine J.iconst hC eX10_table_78 ci_0 ?_
          refine J.aaldLK (q := (shP 8 x1) + 3) hC eX10_table_79 (kf_X7_lanes hq_3) (by decide) rfl (fun hq_7 => ?_)
          refine gf_X10_159 hC eX10_table_80 hq_7 ?_
          exact J.xret hC h0 h1 hr eX10_table_83
        refine J.tsO (tgt := 84) hC eX10_table_38 (by have th_4 := lv_neT h_4 (show ((0 : Int32)).toInt = 0 from rfl); have th_5 := lv_neT h_5 (show ((1 : Int32)).toInt = 1 from rfl); have th_6 := lv_neT h_6 (show ((2 : Int32)).toInt = 2 from rfl); omega) (by decide) ?_
        refine J.aload_n (j := 0) hC eX10_table_84 rfl ?_
        refine gf_X10_155 (q := (shP 8 x1) + 2) hC eX10_table_85 hq_3 rfl ?_
        refine J.iconst hC eX10_table_88 ci_1 ?_
        refine J.aaldLK (q := (shP 8 x1) + 6) hC eX10_table_89 (kf_X7_lanes hq_3) (by decide) rfl (fun hq_8 => ?_)
        refine gf_X10_159 hC eX10_table_90 hq_8 ?_
        exact J.xret hC h0 h1 hr eX10_table_93
      · refine J.sub [] rfl ?_
        exact j_X10_table_17 hC h0 h1 ht hr   μ_1
def hhT : List (Nat × Nat × Nat × Nat) := [(0, 10, 13, 13)]
def rmTL : Room := { frames := 7, cells := 1, slots := 6, locals := 120 }
def WSW : List Cond := .codeWith yL_table cL_table 5 (some .int) hhT :: TBL
theorem x_cw : Cond.codeWith yL_table cL_table 5 (some .int) hhT ∈ TBL := in5 (List.mem_of_getElem? (i := 127) rfl) rfl
theorem x_cl2 : Cond.classLink RL 13 NSE ∈ TBL := in5 (List.mem_of_getElem? (i := 128) rfl) rfl
def G_L_table (x1 : Int32) (x2 : Int32) (μ : Mem) : Option (Int32 × Mem) := match G_X10_table x1 x2 μ with
  | some (some r, μ1) => some (0, wL μ1 126 0 r.toInt64)
  | some (none, μ1) => some (1, μ1)
  | none => none
theorem met_ofWH {l : Launch} {y : MethodName} {ws ws' : List Cond} {rm : Room} {Pc : Array Value → State → Prop} {Qc : Array Value → State → Outcome → State → Prop} {mc ms : Nat} {free : Addr → Prop} {cc : ByteArray} {maxL : Nat} {ret : Option FieldType} {hh : List (Nat × Nat × Nat × Nat)}
    (hy : plainName y.cls = true) (hw : ws = Cond.codeWith y cc maxL ret hh :: ws')
    (body : ∀ p e s m args below meth c s₁, BodyLoose p l y (headSpec ws rm) cc maxL ret e s m args below meth c s₁ → c.maxLocals = maxL → c.exceptionTable.toList = tableOf hh → Pc args s →
      W p l e (headSpec ws rm).room s m args below meth c s.heap [] 0 0 (MQ below Qc args s mc ms free) (entryFrame m args maxL)) : Met l y ws rm Pc Qc mc ms free := by
  refine MetFree.of_bodyS (code := cc) (maxLocals := maxL) (ret := ret) hy ?_ ?_
  · intro args s m h hn
    obtain ⟨m9, meth, c, hn9, h1, h2, h3, h4, -, h5, h6, -⟩ := Cond.codeWith_spec (atoms_spec (ws := ws) h _ (by rw [hw]; exact List.mem_cons_self))
    cases hn.symm.trans hn9
    exact ⟨meth, c, h1, h2, h3, h4, h5, h6⟩
  · intro p e s m args below meth c s₁ B hml hP _
    have hh0 : s₁.heap = s.heap := by rw [B.state]; rfl
    have ht := vx_table (x := y) B (atoms_spec (ws := ws) B.pre _ (by rw [hw]; exact List.mem_cons_self))
    obtain ⟨t, a1, o, b1, b2, b3⟩ := body p e s m args below meth c s₁ B hml ht hP s₁ hh0 (Stand.of_body B)
    exact ⟨t, o, a1, b1, b2, ⟨b3.1, b3.2⟩⟩
theorem eL_table_0 : DD cL_table 0 (.aload_n 3) 1 1 := ⟨by decide +kernel, rfl⟩
theorem eL_table_1 : DD cL_table 1 (.iconst 0) 1 2 := ⟨by decide +kernel, rfl⟩
theorem eL_table_2 : DD cL_table 2 (.aload_n 0) 1 3 := ⟨by decide +kernel, rfl⟩
theorem eL_table_3 : DD cL_table 3 (.iload_n 1) 1 4 := ⟨by decide +kernel, rfl⟩
theorem eL_table_4 : DD cL_table 4 (.iload_n 2) 1 5 := ⟨by decide +kernel, rfl⟩
theorem eL_table_5 : DD cL_table 5 (.invokevirtual 7) 3 8 := ⟨by decide +kernel, rfl⟩
theorem eL_table_8 : DD cL_table 8 (.i2l) 1 9 := ⟨by decide +kernel, rfl⟩
theorem eL_table_9 : DD cL_table 9 (.lastore) 1 10 := ⟨by decide +kernel, rfl⟩
theorem eL_table_10 : DB cL_table 10 (.goto 7) (7) 13 17 := ⟨by decide +kernel, rfl, by decide⟩
theorem eL_table_13 : DD cL_table 13 (.astore 4) 2 15 := ⟨by decide +kernel, rfl⟩
theorem eL_table_15 : DD cL_table 15 (.iconst 1) 1 16 := ⟨by decide +kernel, rfl⟩
theorem eL_table_16 : DD cL_table 16 (.ireturn) 1 17 := ⟨by decide +kernel, rfl⟩
theorem eL_table_17 : DD cL_table 17 (.iconst 0) 1 18 := ⟨by decide +kernel, rfl⟩
theorem eL_table_18 : DD cL_table 18 (.ireturn) 1 19 := ⟨by decide +kernel, rfl⟩
set_option maxHeartbeats 4000000 in
theorem c_L_table {X : Wd} (hX : WdOk X) (x1 : Int32) (x2 : Int32) (μ : Mem) (a : Int32) (μ9 : Mem) (hG : G_L_table x1 x2 μ = some (a, μ9)) : Met (xl X) yL_table WSW rmTL (va_Pc [.ref (xad X 0), .int x1, .int x2, .ref (xad X 126)] (PreX X μ)) (QI X a μ9) 1 6 (xA X) := by
  refine met_ofWH (cc := cL_table) (maxL := 5) (ret := some .int) (hh := hhT) (by decide) rfl ?_
  intro p e s m args below meth c s₁ B hml htab hv
  obtain ⟨rfl, ⟨hP, hK, hSt⟩, hNw⟩ := hv
  have hts := atoms_spec (ws := WSW) B.pre
  obtain ⟨C, eC⟩ : ∃ C : Cx, C = (X, p, e, (headSpec WSW rmTL).room, s, m, ([.ref (xad X 0), .int x1, .int x2, .ref (xad X 126)] : List Value).toArray, below, meth, c, 0, 0) := ⟨_, rfl⟩
  obtain ⟨C1, eC1⟩ : ∃ C : Cx, C = (X, p, e, (headSpec WSW rmTL).room, s, m, ([.ref (xad X 0), .int x1, .int x2, .ref (xad X 126)] : List Value).toArray, below, meth, c, 1, 6) := ⟨_, rfl⟩
  have hC : Ok C cL_table 5 RL rmTL := by rw [eC]; exact ⟨B.exec, B.bytes, hml, findClass_of_methodNamed B.named, fun w hw => hts w (List.mem_cons_of_mem _ hw), hK, hX, hSt, rfl, B.notSynchronized, Nat.zero_le _, Nat.zero_le _⟩
  have hC1 : Ok C1 cL_table 5 RL rmTL := by rw [eC1]; exact ⟨B.exec, B.bytes, hml, findClass_of_methodNamed B.named, fun w hw => hts w (List.mem_cons_of_mem _ hw), hK, hX, hSt, rfl, B.notSynchronized, Nat.le_refl _, Nat.le_refl _⟩
  have hr : (cT C1).sig.returnType = some .int := by rw [eC1]; exact B.returns
  have hl := lv_entry ([.ref (xad X 0), .int x1, .int x2, .ref (xad X 126)]) (n := 5) (Nat.le_of_ble_eq_true rfl)
  rw [lg_entry_eq]
  have key : J C (fun (_ : Unit) => KI C1 (a, μ9)) μ 0 [(0, .ref (xad X 0)), (1, .int x1), (2, .int x2), (3, .ref (xad X 126))] [] (some ()) := by
    have eX : cX C = X := by rw [eC]; rfl
    rw [← eX]
    refine J.aload_n (j := 3) hC eL_table_0 rfl ?_
    refine J.iconst hC eL_table_1 ci_0 ?_
    refine J.aload_n (j := 0) hC eL_table_2 rfl ?_
    refine J.iload_n (j := 1) hC eL_table_3 rfl ?_
    refine J.iload_n (j := 2) hC eL_table_4 rfl ?_
    intro H locs la hP hS hl' r hr'
    obtain ⟨y1, y2, y3, y4, y5, y6⟩ := mv_X10_table
    cases hg : G_X10_table x1 x2 μ with
    | none => rw [G_L_table, hg] at hG; cases hG
    | some res =>
      have hrun := vx_runV (R := cR C) (s := cS C) (H := H) (As := [.int x1, .int x2]) (rest := [.int 0, .ref (xad (cX C) 126)]) (g := F0 (cM C) 5 la [.int x2, .int x1, .ref (xad (cX C) 0), .int 0, .ref (xad (cX C) 126)]) ⟨hC.ex, hC.bc, hC.ml, hC.ow, hC.ts⟩ (c_X10_table hC.X x1 x2 μ res hg) ⟨⟨rfl, rfl, by rw [hC.R]; exact Nat.le_of_ble_eq_true rfl, by rw [hC.R]; exact Nat.le_of_ble_eq_true rfl, pay_in hC.ts (WS_good y1), List.mem_cons_self, hC.ts _ y1, hC.ts _ y2, y5, fun sig hs => by rw [hs] at y6; exact (Option.some.inj y6).symm, hC.ts _ ml_L_7⟩, hC.ts _ y3, hC.ts _ y4⟩ ⟨PreX.blind _, va_recv hC.K hP rfl (wd_get kk_0 (by decide)), fun U hU hW => ⟨rfl, (PreU.at hC hP hS [] U hU hW).2, BadOk.warm hW (by rw [eC]; exact hNw)⟩⟩ rfl rfl (hl'.1.trans hC.ml) rfl (lv_room (Nat.le_of_ble_eq_true rfl)) eL_table_5.1 (e := cE C) (below := cB C) (meth := cT C) (cells := cN C) (slots := cO C) (locs := locs) ⟨by rw [hC.R, eC]; exact Nat.le_refl _, by rw [hC.R, eC]; exact Nat.le_refl _⟩
      refine vx_calli hrun hS (fun q _ h => h) (fun q h => h) (fun q _ h => h) (fun E ce q9 u t H1 locs1 ht hvm hpx hBX _ _ hS1 hce hcv hcl => ?_) (fun v u t H1 locs1 ht _ hv hB _ _ hS1 => ?_)
      · obtain ⟨hE, hB⟩ := hBX
        subst ht
        subst hE
        have eG : (a, μ9) = (1, res.2) := by
          obtain ⟨r1, r2⟩ := res
          have hpx : r1 = none := hpx
          subst hpx
          rw [G_L_table, hg] at hG
          exact (Option.some.inj hG).symm
        rw [eG]
        refine vx_catch (own := RL) (name := NSE) hC.ow [] ⟨0, 10, 13, 13⟩ [] (by rw [eC]; exact htab) (fun z hz => absurd hz List.not_mem_nil) rfl (by decide) (hC.ts _ x_cl2) (va_Nw.use rfl (by rw [eC]; exact hNw.1)) hce hcv hcl ?_
        have hj : J C1 (KI C1) res.2 13 [] [.ref q9] (some (1, res.2)) := by
          refine J.astore [(4, .ref q9)] hC1 eL_table_13 (by decide) rfl ?_
          refine J.iconst hC1 eL_table_15 ci_1 ?_
          exact J.iret hC1 hr eL_table_16
        subst eC
        subst eC1
        exact hj t.heap locs1 la hB hS1 ⟨hl'.1, hl'.2.1, fun q hq => absurd hq List.not_mem_nil⟩ _ rfl
      · subst ht
        have hv : res.1 = some v := hv
        have eG : (a, μ9) = (0, wL res.2 126 0 v.toInt64) := by
          obtain ⟨r1, r2⟩ := res
          have hv : r1 = some v := hv
          subst hv
          rw [G_L_table, hg] at hG
          exact (Option.some.inj hG).symm
        rw [eG]
        have hj : J C1 (KI C1) res.2 8 [] [.int v, .int 0, .ref (xad (cX C1) 126)] (lb (wL res.2 126 0 v.toInt64) (fun μ2 => some (0, μ2))) := by
          refine J.i2l hC1 eL_table_8 ?_
          refine J.lastK (j := 0) il_1 hC1 eL_table_9 kk_126 (by decide) (by decide) (fun μ2 => ?_)
          refine J.goto hC1 eL_table_10 ?_
          refine J.iconst hC1 eL_table_17 ci_0 ?_
          exact J.iret hC1 hr eL_table_18
        subst eC
        subst eC1
        exact hj t.heap locs1 la hB hS1 ⟨hl'.1, hl'.2.1, fun q hq => absurd hq List.not_mem_nil⟩ _ rfl
  subst eC
  subst eC1
  exact key s.heap [] _ hP va_S.rf (by rw [show (cC (X, p, e, (headSpec WSW rmTL).room, s, m, ([.ref (xad X 0), .int x1, .int x2, .ref (xad X 126)] : List Value).toArray, below, meth, c, 0, 0)).maxLocals = 5 from hml]; exact hl) () rfl
