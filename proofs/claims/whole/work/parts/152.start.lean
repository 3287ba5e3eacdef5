theorem N.istore {C : Cx} {Q : State → Prop} {wn : List va_E} {ce so pc pc' : Nat} {ls : List (Nat × Value)} {st : List Value} {cc : ByteArray} {nL : Nat} {own : String} {rm : Room} {i : Nat} {x : Int32} (ls' : List (Nat × Value)) (hC : OkN C cc nL own rm) (d : DD cc pc (.istore i) 2 pc') (hn : i < nL) (hl' : (i, Value.int x) :: ls.filter (fun q => !(q.1 == i) && !(q.1 + 1 == i && q.2.category == 2)) = ls') (k : N C Q wn ce so pc' ls' st) : N C Q wn ce so pc ls (.int x :: st) := by
  obtain ⟨d, rfl⟩ := d
  exact fun H locs la hz hP hS hl => lv_istore hC.ex hC.bc d hl (by rw [hC.ml]; exact hn) hl' (fun la hl => k H locs la hz hP hS hl)
def wn0 (X : Wd) : List va_E := ck_X10 X 0 ++ ck_X11 X 107 ++ [.inl (xcJ X, 1, .inr (.inl (fun _ => 0)))]
theorem wn0_len {X : Wd} : (wn0 X).length = 127 := by
  unfold wn0
  rw [List.length_append, List.length_append, ck_X10_len, ck_X11_len]
  rfl
set_option maxRecDepth 100000 in
theorem wn0_eq {X : Wd} : wn0 X = (List.range NP).map (fun p => cel X (fun _ => 0) (fun _ => 0) (kd p) p) := by
  rfl
theorem wn0_wd {X : Wd} : cw X (wn0 X) = wd X μ0 := by
  apply List.ext_getElem?
  intro i
  rw [cw_get, wn0_eq]
  unfold wd
  rw [List.getElem?_map, List.getElem?_map, Option.map_map]
  rfl
set_option maxHeartbeats 4000000 in
theorem law_start (hMath : ∀ (L : Nat) (ys : Nat → Int32), L ≤ 3072 → G_law L ys 513 0 μ0 = some ()) {p : Program} {e : Env} {s : State} {m : MethodId} {below : List Frame} {meth : Method} {c : Code} (l : Launch) (hflags : l.flags = flags0) {b L : Nat} {xs : Nat → Int32} (hL : L ≤ 3072) (C0 : lw_At p s m meth c b L xs) : W p l e room_1 s m #[Value.ref b] below meth c s.heap [] 0 0 (lw_Z below #[Value.ref b] s) (entryFrame m ([Value.ref b] : List Value).toArray 7) := by
  obtain ⟨hx, hb, hr, hml, hown, hts, hX, hbl, hlocks, hgv⟩ := id C0
  obtain ⟨X, eX, had, hK, hSt, hNe, hBad, hAO⟩ := law_world l C0
  subst eX
  have hT : ∀ w ∈ TBL, w.before #[Value.ref b] s = true := fun w hw => hts w (List.mem_filter.mp hw).1
  have hWd : WdOk X := ⟨by unfold Launch.stackTraces; rw [hflags]; decide +kernel, fun p q _ _ e => by rw [had, had] at e; omega⟩
  have hBs : Bs X := fun i => by rw [had, had]; omega
  obtain ⟨C, eC⟩ : ∃ C : Cx, C = (X, p, e, room_1, s, m, #[Value.ref b], below, meth, c, 127, 61402) := ⟨_, rfl⟩
  have eXC : cX C = X := by rw [eC]; rfl
  have hC : OkN C cL_law 7 RL room_1 := by rw [eC]; exact ⟨hx, hb, hml, hown, hT, hK, hBs, hNe, rfl, hlocks, fun q hq => by show xad X 0 ≤ q; rw [had]; exact hq⟩
  have hAO : va_AO RX4 (cS C) ∧ va_AO RX7 (cS C) ∧ va_AO RX9 (cS C) := by rw [eC]; exact hAO
  have hJ : Ok C cL_law 7 RL room_1 := by rw [eC]; exact ⟨hx, hb, hml, hown, hT, hK, hWd, hSt, rfl, hlocks, Nat.le_of_ble_eq_true rfl, Nat.le_of_ble_eq_true rfl⟩
  have hsc : SC C b L xs := by
    rw [eC]
    refine ⟨hX, hbl, fun h => ?_⟩
    obtain ⟨p, -, h⟩ := h
    have h : b = xad X p := h
    have hbl : b < s.heap.size := hbl
    rw [had] at h
    omega
  have hF : ∀ q, xA (cX C) q → s.heap.size ≤ q := fun q h => by
    obtain ⟨p, -, h⟩ := h
    rw [eXC, had] at h
    omega
  have hB : BadOk (cS C) := by rw [eC]; exact hBad
  have key : N C (lw_Z below #[Value.ref b] s) [] 0 0 0 [(0, .ref b)] [] := by
    refine N.new (ci := 10) (M := 14) (k := 0) (fs := [.null, .null, .null, .null, .null, .null, .null, .null, .null, .null, .null, .int 0, .int 0, .long 0]) (wn' := [.inr (10, [.null, .null, .null, .null, .null, .null, .null, .null, .null, .null, .null, .int 0, .int 0, .long 0])]) tyX10 hC eL_law_0 (in1 (List.mem_of_getElem? (i := 25) rfl) rfl) (in1 (List.mem_of_getElem? (i := 26) rfl) rfl) (in1 (List.mem_of_getElem? (i := 1) rfl) rfl) rfl i_X10 tyX10_ok (by decide) (Nat.le_of_ble_eq_true rfl) (Nat.le_of_ble_eq_true rfl) rfl rfl ?_
    refine N.dup hC eL_law_3 rfl ?_
    refine nCall0 (a := 0) (wn' := ck_X10 (cX C) 0) hC hAO (y := yX10_init) (b := cX10_init) (n := 2) (rc := rmN_X10) (mc := 106) (ms := 6817) eL_law_4 ml_L_15 (in1 (List.mem_of_getElem? (i := 29) rfl) rfl) (in1 (List.mem_of_getElem? (i := 1) rfl) rfl) (in1 (List.mem_of_getElem? (i := 28) rfl) rfl) rfl (by decide +kernel) (by decide +kernel) ⟨Nat.le_of_ble_eq_true rfl, Nat.le_of_ble_eq_true rfl⟩ ⟨rfl, rfl⟩ (ci_X10 hC.B []) (Nat.le_of_ble_eq_true rfl) (Nat.le_of_ble_eq_true rfl) (Nat.le_of_ble_eq_true rfl) ?_
    refine N.astore_n [(1, .ref (xad (cX C) 0)), (0, .ref b)] hC eL_law_7 (by decide) rfl ?_
    refine N.new (ci := 11) (M := 33) (k := 107) (fs := [.int 0, .null, .int 0, .int 0, .int 0, .null, .null, .null, .int 0, .int 0, .null, .null, .int 0, .null, .null, .int 0, .null, .null, .null, .int 0, .null, .null, .null, .int 0, .long 0, .null, .int 0, .int 0, .int 0, .null, .null, .null, .int 0]) (wn' := ck_X10 (cX C) 0 ++ [.inr (11, [.int 0, .null, .int 0, .int 0, .int 0, .null, .null, .null, .int 0, .int 0, .null, .null, .int 0, .null, .null, .int 0, .null, .null, .null, .int 0, .null, .null, .null, .int 0, .long 0, .null, .int 0, .int 0, .int 0, .null, .null, .null, .int 0])]) tyX11 hC eL_law_8 (in5 (List.mem_of_getElem? (i := 198) rfl) rfl) (in5 (List.mem_of_getElem? (i := 199) rfl) rfl) (in1 (List.mem_of_getElem? (i := 12) rfl) rfl) rfl i_X11 tyX11_ok (by decide) (Nat.le_of_ble_eq_true rfl) (Nat.le_of_ble_eq_true rfl) ck_X10_len rfl ?_
    refine N.dup hC eL_law_11 rfl ?_
    have h11 : CtN (cX C) yX11_init cX11_init 1 rmN_X11 107 (ck_X10 (cX C) 0 ++ [.inr (11, [.int 0, .null, .int 0, .int 0, .int 0, .null, .null, .null, .int 0, .int 0, .null, .null, .int 0, .null, .null, .int 0, .null, .null, .null, .int 0, .null, .null, .null, .int 0, .long 0, .null, .int 0, .int 0, .int 0, .null, .null, .null, .int 0])]) (ck_X10 (cX C) 0 ++ ck_X11 (cX C) 107) := by
      have h := ci_X11 hC.B (ck_X10 (cX C) 0)
      rw [ck_X10_len] at h
      exact h
    refine nCall0 (a := 107) (wn' := ck_X10 (cX C) 0 ++ ck_X11 (cX C) 107) hC hAO (y := yX11_init) (b := cX11_init) (n := 1) (rc := rmN_X11) (mc := 18) (ms := 54537) eL_law_12 ml_L_18 (in5 (List.mem_of_getElem? (i := 202) rfl) rfl) (in1 (List.mem_of_getElem? (i := 12) rfl) rfl) (in5 (List.mem_of_getElem? (i := 201) rfl) rfl) rfl (by decide +kernel) (by decide +kernel) ⟨Nat.le_of_ble_eq_true rfl, Nat.le_of_ble_eq_true rfl⟩ ⟨rfl, rfl⟩ h11 (Nat.le_of_ble_eq_true rfl) (Nat.le_of_ble_eq_true rfl) (Nat.le_of_ble_eq_true rfl) ?_
    refine N.astore_n [(2, .ref (xad (cX C) 107)), (1, .ref (xad (cX C) 0)), (0, .ref b)] hC eL_law_15 (by decide) rfl ?_
    refine N.iconst hC eL_law_16 ci_1 ?_
    refine N.newaJ (M := 1) (k := 126) (wn' := wn0 (cX C)) hC eL_law_17 w_aJ (by decide) (by decide) (Nat.le_of_ble_eq_true rfl) (Nat.le_of_ble_eq_true rfl) (Nat.le_of_ble_eq_true rfl) (by rw [List.length_append, ck_X10_len, ck_X11_len]) rfl ?_
    refine N.astore_n [(3, .ref (xad (cX C) 126)), (2, .ref (xad (cX C) 107)), (1, .ref (xad (cX C) 0)), (0, .ref b)] hC eL_law_19 (by decide) rfl ?_
    refine N.iconst hC eL_law_20 ci_0 ?_
    refine N.istore [(4, .int 0), (3, .ref (xad (cX C) 126)), (2, .ref (xad (cX C) 107)), (1, .ref (xad (cX C) 0)), (0, .ref b)] hC eL_law_21 (by decide) rfl ?_
    intro H locs la hz hP hS hl
    have hl := lv_sub hl [4, 3, 2, 1, 0] rfl
    rw [wn0_wd] at hP
    refine va_forget (fun q hq => ?_) ?_
    · have h := hS.2.2 q hq
      have h : xad (cX C) 0 ≤ q.base := h
      rw [eXC, had] at h
      rw [eC]
      exact h
    have hgo := law_loop (B := below) (s := s) 513 C hJ hsc hB (by rw [eC]; rfl) (by rw [eC]; rfl) (by rw [eC]; rfl) (by rw [eC]; exact hr) hF (by rw [eC]; exact Nat.le_of_ble_eq_true rfl) (by rw [eC]; exact Nat.le_of_ble_eq_true rfl) 0 μ0 H [] la hP ⟨hS.1, fun q h1 h2 => hS.2.1 q h1 (fun h3 => ?_), fun q hq => absurd hq List.not_mem_nil⟩ hl () (hMath L xs hL)
    · have e1 : cN C = 127 := by rw [eC]; rfl
      have e2 : cO C = 61402 := by rw [eC]; rfl
      rw [e1, e2] at hgo
      exact hgo
    · have h3 : xad (cX C) 0 ≤ q := h3
      rw [eXC, had] at h3
      have h1 : q < s.heap.size := by rw [eC] at h1; exact h1
      omega
  have hl := lv_entry ([.ref b]) (n := 7) (Nat.le_of_ble_eq_true rfl)
  rw [lg_entry_eq]
  subst eC
  exact key s.heap [] _ (by show s.heap.size = xad X 0 + 0; rw [had]) (fun k q h => by simp [cw] at h) va_S.rf (by rw [show (cC (X, p, e, room_1, s, m, #[Value.ref b], below, meth, c, 127, 61402)).maxLocals = 7 from hml]; exact hl)
