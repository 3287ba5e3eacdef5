def cks (X : Wd) : List Nat → Nat → List va_E
  | [], _ => []
  | k :: ks, p => cel X (fun _ => 0) (fun _ => 0) k p :: cks X ks (p + 1)
theorem cks_cat {X : Wd} {a b : List Nat} {p q : Nat} (hq : p + a.length = q) : cks X (a ++ b) p = cks X a p ++ cks X b q := by
  subst hq
  induction a generalizing p with
  | nil => rfl
  | cons k a ih =>
    show _ :: cks X (a ++ b) (p + 1) = _ :: (cks X a (p + 1) ++ _)
    rw [ih]
    congr 3
    simp only [List.length_cons]
    omega
theorem cks_get {X : Wd} {ks : List Nat} {p i : Nat} : (cks X ks p)[i]? = (ks[i]?).map (fun k => cel X (fun _ => 0) (fun _ => 0) k (p + i)) := by
  induction ks generalizing p i with
  | nil => simp [cks]
  | cons k ks ih =>
    cases i with
    | zero => rfl
    | succ i =>
      show (cks X ks (p + 1))[i]? = (ks[i]?).map _
      rw [ih]
      congr 1
      funext k
      rw [show p + 1 + i = p + (i + 1) by omega]
def ks_X8 : List Nat := [8] ++ [1240]
theorem ck_X8_k {X : Wd} {p : Nat} : ck_X8 X p = cks X ks_X8 p := by
  unfold ck_X8 ks_X8
  rw [cks_cat (q := p + 1) rfl]
  rfl
def ks_X1 : List Nat := [1] ++ [1008] ++ [1003] ++ [1080]
theorem ck_X1_k {X : Wd} {p : Nat} : ck_X1 X p = cks X ks_X1 p := by
  unfold ck_X1 ks_X1
  rw [cks_cat (q := p + 3) rfl, cks_cat (q := p + 2) rfl, cks_cat (q := p + 1) rfl]
  rfl
def ks_X4 : List Nat := [4] ++ [1016] ++ [1026]
theorem ck_X4_k {X : Wd} {p : Nat} : ck_X4 X p = cks X ks_X4 p := by
  unfold ck_X4 ks_X4
  rw [cks_cat (q := p + 2) rfl, cks_cat (q := p + 1) rfl]
  rfl
def ks_X7 : List Nat := [7] ++ [1289] ++ [12] ++ ks_X4 ++ ks_X4
theorem ck_X7_k {X : Wd} {p : Nat} : ck_X7 X p = cks X ks_X7 p := by
  unfold ck_X7 ks_X7
  rw [cks_cat (q := p + 6) rfl, cks_cat (q := p + 3) rfl, cks_cat (q := p + 2) rfl, cks_cat (q := p + 1) rfl]
  simp only [ck_X4_k]
  rfl
def ks_X3 : List Nat := [3] ++ [1300]
theorem ck_X3_k {X : Wd} {p : Nat} : ck_X3 X p = cks X ks_X3 p := by
  unfold ck_X3 ks_X3
  rw [cks_cat (q := p + 1) rfl]
  rfl
def ks_X0 : List Nat := [0] ++ [13] ++ ks_X7 ++ ks_X7 ++ ks_X7 ++ ks_X3
theorem ck_X0_k {X : Wd} {p : Nat} : ck_X0 X p = cks X ks_X0 p := by
  unfold ck_X0 ks_X0
  rw [cks_cat (q := p + 29) rfl, cks_cat (q := p + 20) rfl, cks_cat (q := p + 11) rfl, cks_cat (q := p + 2) rfl, cks_cat (q := p + 1) rfl]
  simp only [ck_X3_k, ck_X7_k]
  rfl
def ks_X9 : List Nat := [9] ++ [1006] ++ [1006] ++ [1006] ++ [1006]
theorem ck_X9_k {X : Wd} {p : Nat} : ck_X9 X p = cks X ks_X9 p := by
  unfold ck_X9 ks_X9
  rw [cks_cat (q := p + 4) rfl, cks_cat (q := p + 3) rfl, cks_cat (q := p + 2) rfl, cks_cat (q := p + 1) rfl]
  rfl
def ks_X6 : List Nat := [6] ++ [3440]
theorem ck_X6_k {X : Wd} {p : Nat} : ck_X6 X p = cks X ks_X6 p := by
  unfold ck_X6 ks_X6
  rw [cks_cat (q := p + 1) rfl]
  rfl
def ks_X5 : List Nat := [5] ++ [1000289] ++ [1000289] ++ [1289]
theorem ck_X5_k {X : Wd} {p : Nat} : ck_X5 X p = cks X ks_X5 p := by
  unfold ck_X5 ks_X5
  rw [cks_cat (q := p + 3) rfl, cks_cat (q := p + 2) rfl, cks_cat (q := p + 1) rfl]
  rfl
def ks_X2 : List Nat := [2]
theorem ck_X2_k {X : Wd} {p : Nat} : ck_X2 X p = cks X ks_X2 p := by
  unfold ck_X2 ks_X2
  rfl
def ks_X10 : List Nat := [10] ++ ks_X8 ++ ks_X1 ++ ks_X0 ++ [14] ++ ks_X9 ++ ks_X9 ++ ks_X9 ++ ks_X9 ++ ks_X9 ++ [1005] ++ ks_X6 ++ ks_X0 ++ [1006] ++ ks_X5 ++ ks_X2 ++ ks_X4
theorem ck_X10_k {X : Wd} {p : Nat} : ck_X10 X p = cks X ks_X10 p := by
  unfold ck_X10 ks_X10
  rw [cks_cat (q := p + 104) rfl, cks_cat (q := p + 103) rfl, cks_cat (q := p + 99) rfl, cks_cat (q := p + 98) rfl, cks_cat (q := p + 67) rfl, cks_cat (q := p + 65) rfl, cks_cat (q := p + 64) rfl, cks_cat (q := p + 59) rfl, cks_cat (q := p + 54) rfl, cks_cat (q := p + 49) rfl, cks_cat (q := p + 44) rfl, cks_cat (q := p + 39) rfl, cks_cat (q := p + 38) rfl, cks_cat (q := p + 7) rfl, cks_cat (q := p + 3) rfl, cks_cat (q := p + 1) rfl]
  simp only [ck_X0_k, ck_X1_k, ck_X2_k, ck_X4_k, ck_X5_k, ck_X6_k, ck_X8_k, ck_X9_k]
  rfl
def ks_X11 : List Nat := [11] ++ [1240] ++ [1003] ++ [1003] ++ [1080] ++ [1003] ++ [1003] ++ [1120] ++ [1005] ++ [2253] ++ [1005] ++ [1016] ++ [1000306] ++ [1017] ++ [51120] ++ [1006] ++ [1032] ++ [2072] ++ [2253]
theorem ck_X11_k {X : Wd} {p : Nat} : ck_X11 X p = cks X ks_X11 p := by
  unfold ck_X11 ks_X11
  rw [cks_cat (q := p + 18) rfl, cks_cat (q := p + 17) rfl, cks_cat (q := p + 16) rfl, cks_cat (q := p + 15) rfl, cks_cat (q := p + 14) rfl, cks_cat (q := p + 13) rfl, cks_cat (q := p + 12) rfl, cks_cat (q := p + 11) rfl, cks_cat (q := p + 10) rfl, cks_cat (q := p + 9) rfl, cks_cat (q := p + 8) rfl, cks_cat (q := p + 7) rfl, cks_cat (q := p + 6) rfl, cks_cat (q := p + 5) rfl, cks_cat (q := p + 4) rfl, cks_cat (q := p + 3) rfl, cks_cat (q := p + 2) rfl, cks_cat (q := p + 1) rfl]
  rfl
theorem N.istore {C : Cx} {Q : State → Prop} {wn : List va_E} {ce so pc pc' : Nat} {ls : List (Nat × Value)} {st : List Value} {cc : ByteArray} {nL : Nat} {own : String} {rm : Room} {i : Nat} {x : Int32} (ls' : List (Nat × Value)) (hC : OkN C cc nL own rm) (d : DD cc pc (.istore i) 2 pc') (hn : i < nL) (hl' : (i, Value.int x) :: ls.filter (fun q => !(q.1 == i) && !(q.1 + 1 == i && q.2.category == 2)) = ls') (k : N C Q wn ce so pc' ls' st) : N C Q wn ce so pc ls (.int x :: st) := by
  obtain ⟨d, rfl⟩ := d
  exact fun H locs la hz hP hS hl => lv_istore hC.ex hC.bc d hl (by rw [hC.ml]; exact hn) hl' (fun la hl => k H locs la hz hP hS hl)
def wn0 (X : Wd) : List va_E := ck_X10 X 0 ++ ck_X11 X 107 ++ [.inl (xcJ X, 1, .inr (.inl (fun _ => 0)))]
theorem wn0_len {X : Wd} : (wn0 X).length = 127 := by
  unfold wn0
  rw [List.length_append, List.length_append, ck_X10_len, ck_X11_len]
  rfl
theorem wn0_ks {X : Wd} : wn0 X = cks X kdT 0 := by
  have e : kdT = ks_X10 ++ ks_X11 ++ [1000001] := by decide +kernel
  rw [e, cks_cat (q := 126) (by decide +kernel), cks_cat (q := 107) (by decide +kernel)]
  unfold wn0
  rw [ck_X10_k, ck_X11_k]
  rfl
theorem wn0_wd {X : Wd} : cw X (wn0 X) = wd X μ0 := by
  apply List.ext_getElem?
  intro i
  rw [cw_get, wn0_ks, cks_get]
  unfold wd
  rw [List.getElem?_map]
  rcases Nat.lt_or_ge i NP with h | h
  · have e : kdT[i]? = some (kd i) := by
      unfold kd
      rw [List.getD_eq_getElem?_getD]
      have h2 : i < kdT.length := h
      rw [List.getElem?_eq_getElem h2]
      rfl
    rw [List.getElem?_range h, e, Nat.zero_add]
    rfl
  · rw [List.getElem?_eq_none (show kdT.length ≤ i from h), List.getElem?_eq_none (by simpa using h)]
    rfl
set_option maxHeartbeats 4000000 in
theorem law_start (hMath : ∀ (L : Nat) (ys : Nat → Int32), L ≤ 3072 → G_law L ys 513 0 μ0 = some ()) {p : Program} {e : Env} {s : State} {m : MethodId} {below : List Frame} {meth : Method} {c : Code} (l : Launch) (hflags : l.flags = flags0) {b L : Nat} {xs : Nat → Int32} (hL : L ≤ 3072) (C0 : lw_At p s m meth c b L xs) : W p l e room_1 s m #[Value.ref b] below meth c s.heap [] 0 0 (lw_Z below #[Value.ref b] s) (entryFrame m ([Value.ref b] : List Value).toArray 7) := by
  obtain ⟨hx, hb, hr, hml, hown, hts, hX, hbl, hlocks, hgv⟩ := id C0
  obtain ⟨X, eX, had, hK, hSt, hNe, hBad, hAO⟩ := law_world l C0
  subst eX
  have hT : ∀ w ∈ TBL, w.before #[Value.ref b] s = true := fun w hw => hts w (List.mem_filter.mp hw).1
  have hWd : WdOk X := ⟨by unfold Launch.stackTraces; rw [hflags]; decide +kernel, fun p q _ _ e => by rw [had, had] at e; omega⟩
  have hBs : Bs X := fun i => by rw [had, had]; omega
  obtain ⟨C, eC⟩ : ∃ C : Cx, C = (X, p, e, room_1, s, m, #[Value.ref b], below, meth, c, 127, 61402) := ⟨_, rfl⟩
  have eXC : cX C = X := by rw [eC]; rfl
  have hC : OkN C cL_law 7 RL room_1 := by rw [eC]; exact ⟨hx, hb, hml, hown, hT, hK, hBs, hNe, rfl, hlocks, fun q hq => by show xad X 0 ≤ q; rw [had]; exact hq⟩
  have hAO : va_AO RX4 (cS C) ∧ va_AO RX7 (cS C) ∧ va_AO RX9 (cS C) := by rw [eC]; exact hAO
  have hJ : Ok C cL_law 7 RL room_1 := by rw [eC]; exact ⟨hx, hb, hml, hown, hT, hK, hWd, hSt, rfl, hlocks, Nat.le_of_ble_eq_true rfl, Nat.le_of_ble_eq_true rfl⟩
  have hsc : SC C b L xs := by
    rw [eC]
    refine ⟨hX, hbl, fun h => ?_⟩
    obtain ⟨p, -, h⟩ := h
    have h : b = xad X p := h
    have hbl : b < s.heap.size := hbl
    rw [had] at h
    omega
  have hF : ∀ q, xA (cX C) q → s.heap.size ≤ q := fun q h => by
    obtain ⟨p, -, h⟩ := h
    rw [eXC, had] at h
    omega
  have hB : BadOk (cS C) := by rw [eC]; exact hBad
  obtain ⟨w10, e10⟩ : ∃ w, w = ck_X10 (cX C) 0 := ⟨_, rfl⟩
  obtain ⟨w11, e11⟩ : ∃ w, w = ck_X11 (cX C) 107 := ⟨_, rfl⟩
  have l10 : w10.length = 107 := by rw [e10]; exact ck_X10_len
  have l11 : w11.length = 19 := by rw [e11]; exact ck_X11_len
  have h10 : CtN (cX C) yX10_init cX10_init 2 rmN_X10 0 [.inr (10, [.null, .null, .null, .null, .null, .null, .null, .null, .null, .null, .null, .int 0, .int 0, .long 0])] w10 := by rw [e10]; exact ci_X10 hC.B []
  have h11 : CtN (cX C) yX11_init cX11_init 1 rmN_X11 107 (w10 ++ [.inr (11, [.int 0, .null, .int 0, .int 0, .int 0, .null, .null, .null, .int 0, .int 0, .null, .null, .int 0, .null, .null, .int 0, .null, .null, .null, .int 0, .null, .null, .null, .int 0, .long 0, .null, .int 0, .int 0, .int 0, .null, .null, .null, .int 0])]) (w10 ++ w11) := by
    have h := ci_X11 hC.B w10
    rw [l10, ← e11] at h
    exact h
  have ew : w10 ++ w11 ++ [.inl (xcJ (cX C), 1, .inr (.inl (fun _ => 0)))] = wn0 (cX C) := by rw [e10, e11]; rfl
  clear e10 e11
  have key : N C (lw_Z below #[Value.ref b] s) [] 0 0 0 [(0, .ref b)] [] := by
    refine N.new (ci := 10) (M := 14) (k := 0) (fs := [.null, .null, .null, .null, .null, .null, .null, .null, .null, .null, .null, .int 0, .int 0, .long 0]) (wn' := [.inr (10, [.null, .null, .null, .null, .null, .null, .null, .null, .null, .null, .null, .int 0, .int 0, .long 0])]) tyX10 hC eL_law_0 (in1 (List.mem_of_getElem? (i := 25) rfl) rfl) (in1 (List.mem_of_getElem? (i := 26) rfl) rfl) (in1 (List.mem_of_getElem? (i := 1) rfl) rfl) rfl i_X10 tyX10_ok (by decide) (Nat.le_of_ble_eq_true rfl) (Nat.le_of_ble_eq_true rfl) rfl rfl ?_
    refine N.dup hC eL_law_3 rfl ?_
    refine nCall0 (a := 0) (wn' := w10) hC hAO (y := yX10_init) (b := cX10_init) (n := 2) (rc := rmN_X10) (mc := 106) (ms := 6817) eL_law_4 ml_L_15 (in1 (List.mem_of_getElem? (i := 29) rfl) rfl) (in1 (List.mem_of_getElem? (i := 1) rfl) rfl) (in1 (List.mem_of_getElem? (i := 28) rfl) rfl) rfl (by decide +kernel) (by decide +kernel) ⟨Nat.le_of_ble_eq_true rfl, Nat.le_of_ble_eq_true rfl⟩ ⟨rfl, rfl⟩ h10 (Nat.le_of_ble_eq_true rfl) (Nat.le_of_ble_eq_true rfl) (Nat.le_of_ble_eq_true rfl) ?_
    refine N.astore_n [(1, .ref (xad (cX C) 0)), (0, .ref b)] hC eL_law_7 (by decide) rfl ?_
    refine N.new (ci := 11) (M := 33) (k := 107) (fs := [.int 0, .null, .int 0, .int 0, .int 0, .null, .null, .null, .int 0, .int 0, .null, .null, .int 0, .null, .null, .int 0, .null, .null, .null, .int 0, .null, .null, .null, .int 0, .long 0, .null, .int 0, .int 0, .int 0, .null, .null, .null, .int 0]) (wn' := w10 ++ [.inr (11, [.int 0, .null, .int 0, .int 0, .int 0, .null, .null, .null, .int 0, .int 0, .null, .null, .int 0, .null, .null, .int 0, .null, .null, .null, .int 0, .null, .null, .null, .int 0, .long 0, .null, .int 0, .int 0, .int 0, .null, .null, .null, .int 0])]) tyX11 hC eL_law_8 (in5 (List.mem_of_getElem? (i := 198) rfl) rfl) (in5 (List.mem_of_getElem? (i := 199) rfl) rfl) (in1 (List.mem_of_getElem? (i := 12) rfl) rfl) rfl i_X11 tyX11_ok (by decide) (Nat.le_of_ble_eq_true rfl) (Nat.le_of_ble_eq_true rfl) l10 rfl ?_
    refine N.dup hC eL_law_11 rfl ?_
    refine nCall0 (a := 107) (wn' := w10 ++ w11) hC hAO (y := yX11_init) (b := cX11_init) (n := 1) (rc := rmN_X11) (mc := 18) (ms := 54537) eL_law_12 ml_L_18 (in5 (List.mem_of_getElem? (i := 202) rfl) rfl) (in1 (List.mem_of_getElem? (i := 12) rfl) rfl) (in5 (List.mem_of_getElem? (i := 201) rfl) rfl) rfl (by decide +kernel) (by decide +kernel) ⟨Nat.le_of_ble_eq_true rfl, Nat.le_of_ble_eq_true rfl⟩ ⟨rfl, rfl⟩ h11 (Nat.le_of_ble_eq_true rfl) (Nat.le_of_ble_eq_true rfl) (Nat.le_of_ble_eq_true rfl) ?_
    refine N.astore_n [(2, .ref (xad (cX C) 107)), (1, .ref (xad (cX C) 0)), (0, .ref b)] hC eL_law_15 (by decide) rfl ?_
    refine N.iconst hC eL_law_16 ci_1 ?_
    refine N.newaJ (M := 1) (k := 126) (wn' := wn0 (cX C)) hC eL_law_17 w_aJ (by decide) (by decide) (Nat.le_of_ble_eq_true rfl) (Nat.le_of_ble_eq_true rfl) (Nat.le_of_ble_eq_true rfl) (by rw [List.length_append, l10, l11]) ew ?_
    refine N.astore_n [(3, .ref (xad (cX C) 126)), (2, .ref (xad (cX C) 107)), (1, .ref (xad (cX C) 0)), (0, .ref b)] hC eL_law_19 (by decide) rfl ?_
    refine N.iconst hC eL_law_20 ci_0 ?_
    refine N.istore [(4, .int 0), (3, .ref (xad (cX C) 126)), (2, .ref (xad (cX C) 107)), (1, .ref (xad (cX C) 0)), (0, .ref b)] hC eL_law_21 (by decide) rfl ?_
    intro H locs la hz hP hS hl
    have hl := lv_sub hl [4, 3, 2, 1, 0] rfl
    rw [wn0_wd] at hP
    refine va_forget (fun q hq => ?_) ?_
    · have h := hS.2.2 q hq
      have h : xad (cX C) 0 ≤ q.base := h
      rw [eXC, had] at h
      rw [eC]
      exact h
    have e1 : cN C = 127 := by rw [eC]; rfl
    have e2 : cO C = 61402 := by rw [eC]; rfl
    have hgo := law_loop (B := below) (s := s) 513 C hJ hsc hB (by rw [eC]; rfl) (by rw [eC]; rfl) (by rw [eC]; rfl) (by rw [eC]; exact hr) hF (by rw [e1]; omega) (by rw [e2]; omega) 0 μ0 H [] la hP ⟨hS.1, fun q h1 h2 => hS.2.1 q h1 (fun h3 => ?_), fun q hq => absurd hq List.not_mem_nil⟩ hl () (hMath L xs hL)
    · rw [e1, e2] at hgo
      exact hgo
    · have h3 : xad (cX C) 0 ≤ q := h3
      rw [eXC, had] at h3
      have h1 : q < s.heap.size := by rw [eC] at h1; exact h1
      omega
  have hl := lv_entry ([.ref b]) (n := 7) (Nat.le_of_ble_eq_true rfl)
  rw [lg_entry_eq]
  subst eC
  exact key s.heap [] _ (by show s.heap.size = xad X 0 + 0; have h := had 0; omega) (fun k q h => by simp [cw] at h) va_S.rf (by rw [show (cC (X, p, e, room_1, s, m, #[Value.ref b], below, meth, c, 127, 61402)).maxLocals = 7 from hml]; exact hl)
