/-! THE CLAIM OUT OF ONE WALK OF THE LAW'S BODY. Your part is whole_start (and what it stands on); all else here is the same for every law, but numbers. -/
def R_law : String := "SafeBucketsLaw"
def lw_P (b : Addr) (xs : List Int32) (args : Array Value) (s : State) : Prop := args = #[.ref b] ∧ s.IntsAt b xs ∧ xs.length ≤ 3072 ∧ (Jvm.Cond.and given_1 narrow_1).before args s = true
def lw_Q (_ : Array Value) (s : State) (o : Outcome) (t : State) : Prop := o = .returned (some (.int 1)) ∧ Framed s o t [] 601024 7293034
def lw_Z (below : List Frame) (a : Array Value) (s : State) : State → Prop := fun t => ∃ o, t.status = .running ∧ Ended t below o ∧ lw_Q a s o t
/-- the law's own end, with 1 on the stack, nothing written that was there before, its room as the claim has it -/
theorem lw_ret {p : Program} {l : Launch} {e : Env} {s : State} {m : MethodId} {below : List Frame} {meth : Method} {c : Code} {b : Nat} (hx : p.tables.exec = Jvm.exec) (hb : c.code = code) (hr : meth.sig.returnType = ret) (hlocks : meth.locks = false) {pc : Nat} {H : Heap} {ls : Array Slot} (hdg : decode code pc = .ok (.ireturn, 1)) : W p l e room_1 s m #[Value.ref b] below meth c H [] 601024 7293034 (lw_Z below #[Value.ref b] s) (F0 m pc ls [.int 1]) := by
  intro T hT X
  obtain ⟨fs, hret, hrun, hended, hW, hframe⟩ := X.leave (v := some (.int 1)) (hlocks := hlocks) (fun h => by rw [hr] at h; cases h)
  have hmeth' : T.vm.method? m = some meth := X.method'
  refine ⟨T.setFrames fs, ?_, .returned (some (.int 1)), hrun, hended, rfl, ⟨_, rfl⟩, hW, hframe⟩
  jvm_step X.here [X.here.top, hx, hb, hdg, hmeth', hr, ret, narrow_b1]
  (try refine ⟨rfl, ?_⟩); (try refine ⟨rfl, ?_⟩)
  first | (intro acts; rw [hret _ acts rfl rfl rfl]) | rw [hret _ _ rfl rfl rfl]
  exact Steps.refl _
/-- what holds at the law's entry: the machine, the code, the tables' words (any of lw_tbl by 'hts w (by decide +kernel)'), the script of L ints xs at the cell b, what the Statement gives of the start (any of its parts by flat_of_before) -/
def lw_At (p : Program) (s : State) (m : MethodId) (meth : Method) (c : Code) (b L : Nat) (xs : Nat → Int32) : Prop :=
  p.tables.exec = Jvm.exec ∧ c.code = code ∧ meth.sig.returnType = ret ∧ c.maxLocals = 7 ∧ s.vm.findClass R_law = some m.cls ∧ (∀ w ∈ lw_tbl, w.before #[Value.ref b] s = true) ∧ va_X b L xs s s.heap ∧ b < s.heap.size ∧ meth.locks = false ∧ (Jvm.Cond.and given_1 narrow_1).before #[Value.ref b] s = true
theorem eL_law_0 : DD cL_law 0 (.new 8) 3 3 := ⟨by decide +kernel, rfl⟩
theorem eL_law_3 : DD cL_law 3 (.dup) 1 4 := ⟨by decide +kernel, rfl⟩
theorem eL_law_4 : DD cL_law 4 (.invokespecial 15) 3 7 := ⟨by decide +kernel, rfl⟩
theorem eL_law_7 : DD cL_law 7 (.astore_n 1) 1 8 := ⟨by decide +kernel, rfl⟩
theorem eL_law_8 : DD cL_law 8 (.new 16) 3 11 := ⟨by decide +kernel, rfl⟩
theorem eL_law_11 : DD cL_law 11 (.dup) 1 12 := ⟨by decide +kernel, rfl⟩
theorem eL_law_12 : DD cL_law 12 (.invokespecial 18) 3 15 := ⟨by decide +kernel, rfl⟩
theorem eL_law_15 : DD cL_law 15 (.astore_n 2) 1 16 := ⟨by decide +kernel, rfl⟩
theorem eL_law_16 : DD cL_law 16 (.iconst 1) 1 17 := ⟨by decide +kernel, rfl⟩
theorem eL_law_17 : DD cL_law 17 (.newarray .long) 2 19 := ⟨by decide +kernel, rfl⟩
theorem eL_law_19 : DD cL_law 19 (.astore_n 3) 1 20 := ⟨by decide +kernel, rfl⟩
theorem eL_law_20 : DD cL_law 20 (.iconst 0) 1 21 := ⟨by decide +kernel, rfl⟩
theorem eL_law_21 : DD cL_law 21 (.istore 4) 2 23 := ⟨by decide +kernel, rfl⟩
theorem eL_law_23 : DD cL_law 23 (.iload 4) 2 25 := ⟨by decide +kernel, rfl⟩
theorem eL_law_25 : DD cL_law 25 (.aload_n 0) 1 26 := ⟨by decide +kernel, rfl⟩
theorem eL_law_26 : DD cL_law 26 (.arraylength) 1 27 := ⟨by decide +kernel, rfl⟩
theorem eL_law_27 : DD cL_law 27 (.bipush 6) 2 29 := ⟨by decide +kernel, rfl⟩
theorem eL_law_29 : DD cL_law 29 (.isub) 1 30 := ⟨by decide +kernel, rfl⟩
theorem eL_law_30 : DB cL_law 30 (.if_icmp .gt 1722) (1722) 33 1752 := ⟨by decide +kernel, rfl, by decide⟩
theorem eL_law_33 : DD cL_law 33 (.aload_n 0) 1 34 := ⟨by decide +kernel, rfl⟩
theorem eL_law_34 : DD cL_law 34 (.iload 4) 2 36 := ⟨by decide +kernel, rfl⟩
theorem eL_law_36 : DD cL_law 36 (.iaload) 1 37 := ⟨by decide +kernel, rfl⟩
theorem eL_law_37 : DD cL_law 37 (.bipush 63) 2 39 := ⟨by decide +kernel, rfl⟩
theorem eL_law_39 : DD cL_law 39 (.iand) 1 40 := ⟨by decide +kernel, rfl⟩
theorem eL_law_40 : decode cL_law 40 = .ok (.tableswitch 1706 0 34 #[156, 229, 254, 279, 304, 329, 397, 446, 495, 556, 605, 655, 716, 777, 858, 919, 980, 1053, 1090, 1115, 1184, 1209, 1222, 1259, 1308, 1382, 1408, 1433, 1482, 1544, 1593, 1630, 1655, 1668, 1681], 156) := by decide +kernel
theorem eL_law_1746 : DD cL_law 1746 (.iinc 4 6) 3 1749 := ⟨by decide +kernel, rfl⟩
theorem eL_law_1749 : DB cL_law 1749 (.goto (-1726)) (-1726) 1752 23 := ⟨by decide +kernel, rfl, by decide⟩
theorem eL_law_1752 : DD cL_law 1752 (.iconst 1) 1 1753 := ⟨by decide +kernel, rfl⟩
theorem eL_law_1753 : DD cL_law 1753 (.ireturn) 1 1754 := ⟨by decide +kernel, rfl⟩
/-- one call of the script: both systems are asked, and their answers compared -/
def stepL (L : Nat) (ys : Nat → Int32) (kc : Int32 → Mem → Option Unit) (x4 : Int32) (μ : Mem) : Option Unit :=
  lb (ys (nx x4) &&& (63 : Int32)) (fun x => if x = (0 : Int32) then Z_0 L ys kc x4 μ else (
    if x = (1 : Int32) then Z_1 L ys kc x4 μ else (
    if x = (2 : Int32) then Z_2 L ys kc x4 μ else (
    if x = (3 : Int32) then Z_3 L ys kc x4 μ else (
    if x = (4 : Int32) then Z_4 L ys kc x4 μ else (
    if x = (5 : Int32) then Z_5 L ys kc x4 μ else (
    if x = (6 : Int32) then Z_6 L ys kc x4 μ else (
    if x = (7 : Int32) then Z_7 L ys kc x4 μ else (
    if x = (8 : Int32) then Z_8 L ys kc x4 μ else (
    if x = (9 : Int32) then Z_9 L ys kc x4 μ else (
    if x = (10 : Int32) then Z_10 L ys kc x4 μ else (
    if x = (11 : Int32) then Z_11 L ys kc x4 μ else (
    if x = (12 : Int32) then Z_12 L ys kc x4 μ else (
    if x = (13 : Int32) then Z_13 L ys kc x4 μ else (
    if x = (14 : Int32) then Z_14 L ys kc x4 μ else (
    if x = (15 : Int32) then Z_15 L ys kc x4 μ else (
    if x = (16 : Int32) then Z_16 L ys kc x4 μ else (
    if x = (17 : Int32) then Z_17 L ys kc x4 μ else (
    if x = (18 : Int32) then Z_18 L ys kc x4 μ else (
    if x = (19 : Int32) then Z_19 L ys kc x4 μ else (
    if x = (20 : Int32) then Z_20 L ys kc x4 μ else (
    if x = (21 : Int32) then Z_21 L ys kc x4 μ else (
    if x = (22 : Int32) then Z_22 L ys kc x4 μ else (
    if x = (23 : Int32) then Z_23 L ys kc x4 μ else (
    if x = (24 : Int32) then Z_24 L ys kc x4 μ else (
    if x = (25 : Int32) then Z_25 L ys kc x4 μ else (
    if x = (26 : Int32) then Z_26 L ys kc x4 μ else (
    if x = (27 : Int32) then Z_27 L ys kc x4 μ else (
    if x = (28 : Int32) then Z_28 L ys kc x4 μ else (
    if x = (29 : Int32) then Z_29 L ys kc x4 μ else (
    if x = (30 : Int32) then Z_30 L ys kc x4 μ else (
    if x = (31 : Int32) then Z_31 L ys kc x4 μ else (
    if x = (32 : Int32) then Z_32 L ys kc x4 μ else (
    if x = (33 : Int32) then Z_33 L ys kc x4 μ else (
    if x = (34 : Int32) then Z_34 L ys kc x4 μ else (
    kc x4 μ))))))))))))))))))))))))))))))))))))
def G_law (L : Nat) (ys : Nat → Int32) : Nat → Int32 → Mem → Option Unit
  | 0, _, _ => none
  | n + 1, x4, μ => if Int32.ofNat L - (6 : Int32) < x4 then some () else gq (inB x4 L) (stepL L ys (fun x μ => lb (x + (6 : Int32)) (fun y => G_law L ys n y μ)) x4 μ)
theorem law_end {C : Cx} {b : Nat} {B : List Frame} {s : State} (hC : Ok C cL_law 7 RL room_1) (hB : cB C = B) (hs : cS C = s) (hA : cA C = #[Value.ref b]) (hr : (cT C).sig.returnType = ret) (hF : ∀ q, xA (cX C) q → s.heap.size ≤ q) (h1 : cN C ≤ 601024) (h2 : cO C ≤ 7293034) (μ : Mem) (ls : List (Nat × Value)) : J C (fun _ : Unit => lw_Z B #[Value.ref b] s) μ 1752 ls [] (some ()) := by
  subst hB
  subst hs
  refine J.iconst hC eL_law_1752 ci_1 ?_
  intro H locs la hP hS hl r e
  refine va_forget (fun q hq => hF _ (hS.2.2 q hq)) ?_
  refine W.widen (k := 601024) (n := 7293034) h1 h2 ?_
  rw [hC.R, hA]
  exact lw_ret hC.ex hC.bc hr hC.lk eL_law_1753.1
set_option maxHeartbeats 4000000 in
theorem law_loop {b L : Nat} {ys : Nat → Int32} {B : List Frame} {s : State} : ∀ (n : Nat) (C : Cx), Ok C cL_law 7 RL room_1 → SC C b L ys → BadOk (cS C) → cB C = B → cS C = s → cA C = #[Value.ref b] → (cT C).sig.returnType = ret → (∀ q, xA (cX C) q → s.heap.size ≤ q) → cN C + n ≤ 601024 → cO C + 6 * n ≤ 7293034 → ∀ (x4 : Int32) (μ : Mem), J C (fun _ : Unit => lw_Z B #[Value.ref b] s) μ 23 [(0, .ref b), (1, .ref (xad (cX C) 0)), (2, .ref (xad (cX C) 107)), (3, .ref (xad (cX C) 126)), (4, .int x4)] [] (G_law L ys n x4 μ) := by
  intro n
  induction n with
  | zero => intros; exact J.no
  | succ n ih =>
    intro C hC hs hB eB eS eA hr hF h1 h2 x4 μ
    have hN : cN C + 1 ≤ room_1.cells := by show _ ≤ 601024; omega
    have hO : cO C + 6 ≤ room_1.slots := by show _ ≤ 7293034; omega
    have hD : Ok (upC C) cL_law 7 RL room_1 := hC.up hN hO
    have hs2 : SC (upC C) b L ys := hs
    have ih' := ih (upC C) hD hs2 hB eB eS eA hr hF (by show cN C + 1 + n ≤ _; omega) (by show cO C + 6 + 6 * n ≤ _; omega)
    have hk : ∀ (x4 : Int32) (μ : Mem), J (upC C) (fun _ : Unit => lw_Z B #[Value.ref b] s) μ 1746 [(0, .ref b), (1, .ref (xad (cX C) 0)), (2, .ref (xad (cX C) 107)), (3, .ref (xad (cX C) 126)), (4, .int x4)] [] ((fun x μ => lb (x + (6 : Int32)) (fun y => G_law L ys n y μ)) x4 μ) := by
      intro x4 μ
      refine J.iinc (j := 4) (fun y => [(4, .int y), (0, .ref b), (1, .ref (xad (cX C) 0)), (2, .ref (xad (cX C) 107)), (3, .ref (xad (cX C) 126))]) hD eL_law_1746 rfl (show Int32.ofInt 6 = (6 : Int32) from rfl) (by decide) (fun _ => rfl) (fun y => ?_)
      refine J.goto hD eL_law_1749 ?_
      refine J.sub [1, 2, 3, 4, 0] rfl ?_
      exact ih' y μ
    rw [G_law]
    refine J.iload (j := 4) hC eL_law_23 rfl ?_
    refine J.aload_n (j := 0) hC eL_law_25 rfl ?_
    refine J.slen hC hs eL_law_26 ?_
    refine J.bipush hC eL_law_27 (show _ = (6 : Int32) from rfl) ?_
    refine J.isub hC eL_law_29 ?_
    refine J.icmp_gt hC eL_law_30 (fun _ => ?_) (fun _ => ?_)
    · exact law_end hC eB eS eA hr hF (by omega) (by omega) μ _
    · refine J.aload_n (j := 0) hC eL_law_33 rfl ?_
      refine J.iload (j := 4) hC eL_law_34 rfl ?_
      refine J.sld hC hs eL_law_36 ?_
      refine J.bipush hC eL_law_37 (show _ = (63 : Int32) from rfl) ?_
      refine J.iand hC eL_law_39 ?_
      unfold stepL
      refine J.topi (fun x => ?_)
      refine J.ite (fun h0 => ?_) (fun h0 => ?_)
      · refine J.tsI (off := 156) (tgt := 196) hC eL_law_40 (by rw [h0]; decide) (by rw [h0]; decide) (by rw [h0]; rfl) (by decide) ?_
        exact J.up (z_0 hD hs2 _ hk x4 μ)
      refine J.ite (fun h1 => ?_) (fun h1 => ?_)
      · refine J.tsI (off := 229) (tgt := 269) hC eL_law_40 (by rw [h1]; decide) (by rw [h1]; decide) (by rw [h1]; rfl) (by decide) ?_
        exact J.up (z_1 hD hs2 _ hk x4 μ)
      refine J.ite (fun h2 => ?_) (fun h2 => ?_)
      · refine J.tsI (off := 254) (tgt := 294) hC eL_law_40 (by rw [h2]; decide) (by rw [h2]; decide) (by rw [h2]; rfl) (by decide) ?_
        exact J.up (z_2 hD hs2 _ hk x4 μ)
      refine J.ite (fun h3 => ?_) (fun h3 => ?_)
      · refine J.tsI (off := 279) (tgt := 319) hC eL_law_40 (by rw [h3]; decide) (by rw [h3]; decide) (by rw [h3]; rfl) (by decide) ?_
        exact J.up (z_3 hD hs2 _ hk x4 μ)
      refine J.ite (fun h4 => ?_) (fun h4 => ?_)
      · refine J.tsI (off := 304) (tgt := 344) hC eL_law_40 (by rw [h4]; decide) (by rw [h4]; decide) (by rw [h4]; rfl) (by decide) ?_
        exact J.up (z_4 hD hs2 _ hk x4 μ)
      refine J.ite (fun h5 => ?_) (fun h5 => ?_)
      · refine J.tsI (off := 329) (tgt := 369) hC eL_law_40 (by rw [h5]; decide) (by rw [h5]; decide) (by rw [h5]; rfl) (by decide) ?_
        exact z_5 hC hs hB hN hO hD hs2 _ hk x4 μ
      refine J.ite (fun h6 => ?_) (fun h6 => ?_)
      · refine J.tsI (off := 397) (tgt := 437) hC eL_law_40 (by rw [h6]; decide) (by rw [h6]; decide) (by rw [h6]; rfl) (by decide) ?_
        exact J.up (z_6 hD hs2 _ hk x4 μ)
      refine J.ite (fun h7 => ?_) (fun h7 => ?_)
      · refine J.tsI (off := 446) (tgt := 486) hC eL_law_40 (by rw [h7]; decide) (by rw [h7]; decide) (by rw [h7]; rfl) (by decide) ?_
        exact J.up (z_7 hD hs2 _ hk x4 μ)
      refine J.ite (fun h8 => ?_) (fun h8 => ?_)
      · refine J.tsI (off := 495) (tgt := 535) hC eL_law_40 (by rw [h8]; decide) (by rw [h8]; decide) (by rw [h8]; rfl) (by decide) ?_
        exact J.up (z_8 hD hs2 _ hk x4 μ)
      refine J.ite (fun h9 => ?_) (fun h9 => ?_)
      · refine J.tsI (off := 556) (tgt := 596) hC eL_law_40 (by rw [h9]; decide) (by rw [h9]; decide) (by rw [h9]; rfl) (by decide) ?_
        exact J.up (z_9 hD hs2 _ hk x4 μ)
      refine J.ite (fun h10 => ?_) (fun h10 => ?_)
      · refine J.tsI (off := 605) (tgt := 645) hC eL_law_40 (by rw [h10]; decide) (by rw [h10]; decide) (by rw [h10]; rfl) (by decide) ?_
        exact J.up (z_10 hD hs2 _ hk x4 μ)
      refine J.ite (fun h11 => ?_) (fun h11 => ?_)
      · refine J.tsI (off := 655) (tgt := 695) hC eL_law_40 (by rw [h11]; decide) (by rw [h11]; decide) (by rw [h11]; rfl) (by decide) ?_
        exact J.up (z_11 hD hs2 _ hk x4 μ)
      refine J.ite (fun h12 => ?_) (fun h12 => ?_)
      · refine J.tsI (off := 716) (tgt := 756) hC eL_law_40 (by rw [h12]; decide) (by rw [h12]; decide) (by rw [h12]; rfl) (by decide) ?_
        exact J.up (z_12 hD hs2 _ hk x4 μ)
      refine J.ite (fun h13 => ?_) (fun h13 => ?_)
      · refine J.tsI (off := 777) (tgt := 817) hC eL_law_40 (by rw [h13]; decide) (by rw [h13]; decide) (by rw [h13]; rfl) (by decide) ?_
        exact J.up (z_13 hD hs2 _ hk x4 μ)
      refine J.ite (fun h14 => ?_) (fun h14 => ?_)
      · refine J.tsI (off := 858) (tgt := 898) hC eL_law_40 (by rw [h14]; decide) (by rw [h14]; decide) (by rw [h14]; rfl) (by decide) ?_
        exact J.up (z_14 hD hs2 _ hk x4 μ)
      refine J.ite (fun h15 => ?_) (fun h15 => ?_)
      · refine J.tsI (off := 919) (tgt := 959) hC eL_law_40 (by rw [h15]; decide) (by rw [h15]; decide) (by rw [h15]; rfl) (by decide) ?_
        exact J.up (z_15 hD hs2 _ hk x4 μ)
      refine J.ite (fun h16 => ?_) (fun h16 => ?_)
      · refine J.tsI (off := 980) (tgt := 1020) hC eL_law_40 (by rw [h16]; decide) (by rw [h16]; decide) (by rw [h16]; rfl) (by decide) ?_
        exact J.up (z_16 hD hs2 _ hk x4 μ)
      refine J.ite (fun h17 => ?_) (fun h17 => ?_)
      · refine J.tsI (off := 1053) (tgt := 1093) hC eL_law_40 (by rw [h17]; decide) (by rw [h17]; decide) (by rw [h17]; rfl) (by decide) ?_
        exact J.up (z_17 hD hs2 _ hk x4 μ)
      refine J.ite (fun h18 => ?_) (fun h18 => ?_)
      · refine J.tsI (off := 1090) (tgt := 1130) hC eL_law_40 (by rw [h18]; decide) (by rw [h18]; decide) (by rw [h18]; rfl) (by decide) ?_
        exact J.up (z_18 hD hs2 _ hk x4 μ)
      refine J.ite (fun h19 => ?_) (fun h19 => ?_)
      · refine J.tsI (off := 1115) (tgt := 1155) hC eL_law_40 (by rw [h19]; decide) (by rw [h19]; decide) (by rw [h19]; rfl) (by decide) ?_
        exact J.up (z_19 hD hs2 _ hk x4 μ)
      refine J.ite (fun h20 => ?_) (fun h20 => ?_)
      · refine J.tsI (off := 1184) (tgt := 1224) hC eL_law_40 (by rw [h20]; decide) (by rw [h20]; decide) (by rw [h20]; rfl) (by decide) ?_
        exact J.up (z_20 hD hs2 _ hk x4 μ)
      refine J.ite (fun h21 => ?_) (fun h21 => ?_)
      · refine J.tsI (off := 1209) (tgt := 1249) hC eL_law_40 (by rw [h21]; decide) (by rw [h21]; decide) (by rw [h21]; rfl) (by decide) ?_
        exact J.up (z_21 hD hs2 _ hk x4 μ)
      refine J.ite (fun h22 => ?_) (fun h22 => ?_)
      · refine J.tsI (off := 1222) (tgt := 1262) hC eL_law_40 (by rw [h22]; decide) (by rw [h22]; decide) (by rw [h22]; rfl) (by decide) ?_
        exact J.up (z_22 hD hs2 _ hk x4 μ)
      refine J.ite (fun h23 => ?_) (fun h23 => ?_)
      · refine J.tsI (off := 1259) (tgt := 1299) hC eL_law_40 (by rw [h23]; decide) (by rw [h23]; decide) (by rw [h23]; rfl) (by decide) ?_
        exact J.up (z_23 hD hs2 _ hk x4 μ)
      refine J.ite (fun h24 => ?_) (fun h24 => ?_)
      · refine J.tsI (off := 1308) (tgt := 1348) hC eL_law_40 (by rw [h24]; decide) (by rw [h24]; decide) (by rw [h24]; rfl) (by decide) ?_
        exact J.up (z_24 hD hs2 _ hk x4 μ)
      refine J.ite (fun h25 => ?_) (fun h25 => ?_)
      · refine J.tsI (off := 1382) (tgt := 1422) hC eL_law_40 (by rw [h25]; decide) (by rw [h25]; decide) (by rw [h25]; rfl) (by decide) ?_
        exact J.up (z_25 hD hs2 _ hk x4 μ)
      refine J.ite (fun h26 => ?_) (fun h26 => ?_)
      · refine J.tsI (off := 1408) (tgt := 1448) hC eL_law_40 (by rw [h26]; decide) (by rw [h26]; decide) (by rw [h26]; rfl) (by decide) ?_
        exact J.up (z_26 hD hs2 _ hk x4 μ)
      refine J.ite (fun h27 => ?_) (fun h27 => ?_)
      · refine J.tsI (off := 1433) (tgt := 1473) hC eL_law_40 (by rw [h27]; decide) (by rw [h27]; decide) (by rw [h27]; rfl) (by decide) ?_
        exact J.up (z_27 hD hs2 _ hk x4 μ)
      refine J.ite (fun h28 => ?_) (fun h28 => ?_)
      · refine J.tsI (off := 1482) (tgt := 1522) hC eL_law_40 (by rw [h28]; decide) (by rw [h28]; decide) (by rw [h28]; rfl) (by decide) ?_
        exact J.up (z_28 hD hs2 _ hk x4 μ)
      refine J.ite (fun h29 => ?_) (fun h29 => ?_)
      · refine J.tsI (off := 1544) (tgt := 1584) hC eL_law_40 (by rw [h29]; decide) (by rw [h29]; decide) (by rw [h29]; rfl) (by decide) ?_
        exact J.up (z_29 hD hs2 _ hk x4 μ)
      refine J.ite (fun h30 => ?_) (fun h30 => ?_)
      · refine J.tsI (off := 1593) (tgt := 1633) hC eL_law_40 (by rw [h30]; decide) (by rw [h30]; decide) (by rw [h30]; rfl) (by decide) ?_
        exact J.up (z_30 hD hs2 _ hk x4 μ)
      refine J.ite (fun h31 => ?_) (fun h31 => ?_)
      · refine J.tsI (off := 1630) (tgt := 1670) hC eL_law_40 (by rw [h31]; decide) (by rw [h31]; decide) (by rw [h31]; rfl) (by decide) ?_
        exact J.up (z_31 hD hs2 _ hk x4 μ)
      refine J.ite (fun h32 => ?_) (fun h32 => ?_)
      · refine J.tsI (off := 1655) (tgt := 1695) hC eL_law_40 (by rw [h32]; decide) (by rw [h32]; decide) (by rw [h32]; rfl) (by decide) ?_
        exact J.up (z_32 hD hs2 _ hk x4 μ)
      refine J.ite (fun h33 => ?_) (fun h33 => ?_)
      · refine J.tsI (off := 1668) (tgt := 1708) hC eL_law_40 (by rw [h33]; decide) (by rw [h33]; decide) (by rw [h33]; rfl) (by decide) ?_
        exact J.up (z_33 hD hs2 _ hk x4 μ)
      refine J.ite (fun h34 => ?_) (fun h34 => ?_)
      · refine J.tsI (off := 1681) (tgt := 1721) hC eL_law_40 (by rw [h34]; decide) (by rw [h34]; decide) (by rw [h34]; rfl) (by decide) ?_
        exact J.up (z_34 hD hs2 _ hk x4 μ)
      refine J.tsO (tgt := 1746) hC eL_law_40 (by have t0 := lv_neT h0 (show ((0 : Int32)).toInt = 0 from rfl); have t1 := lv_neT h1 (show ((1 : Int32)).toInt = 1 from rfl); have t2 := lv_neT h2 (show ((2 : Int32)).toInt = 2 from rfl); have t3 := lv_neT h3 (show ((3 : Int32)).toInt = 3 from rfl); have t4 := lv_neT h4 (show ((4 : Int32)).toInt = 4 from rfl); have t5 := lv_neT h5 (show ((5 : Int32)).toInt = 5 from rfl); have t6 := lv_neT h6 (show ((6 : Int32)).toInt = 6 from rfl); have t7 := lv_neT h7 (show ((7 : Int32)).toInt = 7 from rfl); have t8 := lv_neT h8 (show ((8 : Int32)).toInt = 8 from rfl); have t9 := lv_neT h9 (show ((9 : Int32)).toInt = 9 from rfl); have t10 := lv_neT h10 (show ((10 : Int32)).toInt = 10 from rfl); have t11 := lv_neT h11 (show ((11 : Int32)).toInt = 11 from rfl); have t12 := lv_neT h12 (show ((12 : Int32)).toInt = 12 from rfl); have t13 := lv_neT h13 (show ((13 : Int32)).toInt = 13 from rfl); have t14 := lv_neT h14 (show ((14 : Int32)).toInt = 14 from rfl); have t15 := lv_neT h15 (show ((15 : Int32)).toInt = 15 from rfl); have t16 := lv_neT h16 (show ((16 : Int32)).toInt = 16 from rfl); have t17 := lv_neT h17 (show ((17 : Int32)).toInt = 17 from rfl); have t18 := lv_neT h18 (show ((18 : Int32)).toInt = 18 from rfl); have t19 := lv_neT h19 (show ((19 : Int32)).toInt = 19 from rfl); have t20 := lv_neT h20 (show ((20 : Int32)).toInt = 20 from rfl); have t21 := lv_neT h21 (show ((21 : Int32)).toInt = 21 from rfl); have t22 := lv_neT h22 (show ((22 : Int32)).toInt = 22 from rfl); have t23 := lv_neT h23 (show ((23 : Int32)).toInt = 23 from rfl); have t24 := lv_neT h24 (show ((24 : Int32)).toInt = 24 from rfl); have t25 := lv_neT h25 (show ((25 : Int32)).toInt = 25 from rfl); have t26 := lv_neT h26 (show ((26 : Int32)).toInt = 26 from rfl); have t27 := lv_neT h27 (show ((27 : Int32)).toInt = 27 from rfl); have t28 := lv_neT h28 (show ((28 : Int32)).toInt = 28 from rfl); have t29 := lv_neT h29 (show ((29 : Int32)).toInt = 29 from rfl); have t30 := lv_neT h30 (show ((30 : Int32)).toInt = 30 from rfl); have t31 := lv_neT h31 (show ((31 : Int32)).toInt = 31 from rfl); have t32 := lv_neT h32 (show ((32 : Int32)).toInt = 32 from rfl); have t33 := lv_neT h33 (show ((33 : Int32)).toInt = 33 from rfl); have t34 := lv_neT h34 (show ((34 : Int32)).toInt = 34 from rfl); omega) (by decide) ?_
      exact J.up (hk x4 μ)
