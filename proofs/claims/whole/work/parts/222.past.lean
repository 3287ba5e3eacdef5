/-! what an act does: the class's past and log -/
def clX (T : Nat) (V : Nat → Nat) (B D m : Nat) (S : Nat → St) (μ : Mem) : Prop := XB T V B D (S 0) m 7 μ ∧ rI μ 65 1 = nI m ∧ ∃ q, q < 40 ∧ rI μ 65 2 = nI (61 * q) ∧ ∀ j, j < m → PR T V B (fun k => rI μ 66 (61 * ((q + 40 - j) % 40) + k)) (S j) (S (j + 1))
def mdX (T : Nat) (V : Nat → Nat) (B D m : Nat) (S : Nat → St) (μ : Mem) : Prop := rI μ 107 12 = nI T ∧ rI μ 112 0 = nI B ∧ rI μ 112 1 = nI D ∧ (∀ t, t < T → rI μ 113 t = nI (V t)) ∧ MB T V B (S 0) (fun k => rI μ 116 k) ∧ rI μ 107 23 = nI m ∧ ∀ j, j < m → MB T V B (S (j + 1)) (fun k => rI μ 121 (1253 * (m - 1 - j) + k))
def wfP (T : Nat) (V : Nat → Nat) (B D m : Nat) (S : Nat → St) : Prop := CW T V B D ∧ (T = 0 → m = 0 ∧ sn (S 0) = 0) ∧ m ≤ 40 ∧ ∀ j, j ≤ m → WFS T V B D (S j)
theorem bp_split {c T : Nat} {V : Nat → Nat} {B D m : Nat} {S : Nat → St} {μ : Mem} (h : RB c T V B D m S μ) (hp : RP T V B m S μ) : wfP T V B D m S ∧ clX T V B D m S μ ∧ mdX T V B D m S μ ∧ sn (S 0) ≤ 40 * c := by
  obtain ⟨h1, h2, h3, h4, h5, h6, h7, h8, h9, h10⟩ := h
  obtain ⟨p1, p2, p3, q, p4, p5, p6⟩ := hp
  exact ⟨⟨h1, h2, p1, h4⟩, ⟨h5, p2, q, p4, p5, fun j hj => (p6 j hj).2⟩, ⟨h6, h7, h8, h9, h10, p3, fun j hj => (p6 j hj).1⟩, h3⟩
theorem bp_join {c T : Nat} {V : Nat → Nat} {B D m : Nat} {S : Nat → St} {μ : Mem} (h1 : wfP T V B D m S) (h2 : clX T V B D m S μ) (h3 : mdX T V B D m S μ) (h4 : sn (S 0) ≤ 40 * c) : RB c T V B D m S μ ∧ RP T V B m S μ := by
  obtain ⟨a1, a2, a3, a4⟩ := h1
  obtain ⟨b1, b2, q, b3, b4, b5⟩ := h2
  obtain ⟨c1, c2, c3, c4, c5, c6, c7⟩ := h3
  exact ⟨⟨a1, a2, h4, a4, b1, c1, c2, c3, c4, c5⟩, a3, b2, c6, q, b3, b4, fun j hj => ⟨c7 j hj, b5 j hj⟩⟩
theorem XS.agb {K : Nat} {g bd gr : Nat → Nat} {dr : Nat} {q q' : Nat → Int32} (hK : K ≤ 8) (h : XS K g bd gr dr q) (e : ∀ k, k < 26 → q' k = q k) : XS K g bd gr dr q' := ⟨(e _ (by omega)).trans h.1, (e _ (by omega)).trans h.2.1, fun i hi => ⟨(e _ (by omega)).trans (h.2.2 i hi).1, (e _ (by omega)).trans (h.2.2 i hi).2.1, (e _ (by omega)).trans (h.2.2 i hi).2.2⟩⟩
theorem PR.agb {T : Nat} {V : Nat → Nat} {B : Nat} {pg pg' : Nat → Int32} {σ σ' : St} (hB : B ≤ 8) (h : PR T V B pg σ σ') (e : ∀ k, k < 61 → pg' k = pg k) : PR T V B pg' σ σ' := by
  obtain ⟨h1, h2, h3, h4⟩ := h
  refine ⟨(e _ (by omega)).trans h1, h2, h3, ?_⟩
  rcases h4 with ⟨p1, p2⟩ | ⟨t, t1, t2, t3, s1, ch, hh, c1, c2, c3, c4, c5⟩
  · exact Or.inl ⟨(e _ (by omega)).trans p1, p2⟩
  · refine Or.inr ⟨t, t1, (e _ (by omega)).trans t2, t3, fun c hc => (s1 c hc).agb (by omega) (fun k hk => e _ (by omega)), ch, hh, c1, (e _ (by omega)).trans c2, c3, c4, fun i hi => ?_⟩
    have := c5 i hi
    rw [e _ (by omega), e _ (by omega), e _ (by omega)]
    exact this
theorem nI_p0 (a : Nat) : nI a + 0 = nI a := nI_add a 0
theorem nI_p2 (a : Nat) : nI a + 2 = nI (a + 2) := nI_add a 2
theorem nI_p3 (a : Nat) : nI a + 3 = nI (a + 3) := nI_add a 3
theorem cpB_nI {a b n n0 n1 : Nat} (h1 : a + n ≤ n0) (h2 : b + n ≤ n1) (h3 : n0 < 2 ^ 31) (h4 : n1 < 2 ^ 31) : cpB (nI a) (nI b) (nI n) n0 n1 = true := by
  unfold cpB
  rw [nx_nI (by omega), nx_nI (by omega), nx_nI (by omega), decide_eq_true (nI_pos (by omega)), decide_eq_true (nI_pos (by omega)), decide_eq_true (nI_pos (by omega)), decide_eq_true h1, decide_eq_true h2]
  rfl
def opn (T : Nat) (V : Nat → Nat) (B m : Nat) (S : Nat → St) (x : Int32) (q : Nat) (μ : Mem) : Prop := q < 40 ∧ rI μ 65 1 = nI (min (m + 1) 40) ∧ rI μ 65 2 = nI (61 * q) ∧ (∀ j, j + 1 < min (m + 1) 40 → PR T V B (fun k => rI μ 66 (61 * ((q + 40 - (j + 1)) % 40) + k)) (S j) (S (j + 1))) ∧ rI μ 66 (61 * q) = x ∧ rI μ 66 (61 * q + 1) = nI (su (S 0))
section P
variable {T : Nat} {V : Nat → Nat} {B D m : Nat} {S : Nat → St} {μ : Mem}
def opQ (p j : Nat) : Prop := (p = 65 ∧ (j = 1 ∨ j = 2)) ∨ p = 66
theorem open_ok (h : clX T V B D m S μ) (hm : m ≤ 40) (hT0 : 0 < T) (hT : T ≤ 3) (hB : B ≤ 8) {x : Int32} (hx : x = -1 ∨ ∃ t, t < T ∧ x = nI t) : ∃ q μ', G_X6_open 7 x μ = some ((), μ') ∧ Fr opQ μ μ' ∧ opn T V B m S x q μ' ∧ rI μ' 66 (61 * q + 2) = nI 0 ∧ ∀ t, t < T → x = nI t → ∀ c, c < 2 → ∀ k, k < 26 → rI μ' 66 (61 * q + (9 + 26 * c + k)) = rI μ (9 + 9 * t + 3 + 3 * c + 2) k := by
  obtain ⟨hX, h1, q0, hq0, h2, hP⟩ := h
  have h5 : rI μ 7 5 = nI (su (S 0)) := hX.2.2.2.1 hT0
  obtain ⟨q, hq⟩ : ∃ q, q = (q0 + 1) % 40 := ⟨_, rfl⟩
  have hq4 : q < 40 := by omega
  have hrem : (61 * q0 + 61) % 2440 = 61 * q := by omega
  obtain ⟨μ5, h5e⟩ : ∃ μ5, μ5 = wI (wI (wI (wI (wI μ 65 2 (nI (61 * q))) 65 1 (nI (min (m + 1) 40))) 66 (61 * q) x) 66 (61 * q + 1) (nI (su (S 0)))) 66 (61 * q + 2) 0 := ⟨_, rfl⟩
  have f5 : Fr opQ μ μ5 := by
    rw [h5e]
    exact ((((Fr.rf.wI (by unfold opQ; omega)).wI (by unfold opQ; omega)).wI (by unfold opQ; omega)).wI (by unfold opQ; omega)).wI (by unfold opQ; omega)
  have e652 : rI μ5 65 2 = nI (61 * q) := by rw [h5e, rI_wI_ne (by omega), rI_wI_ne (by omega), rI_wI_ne (by omega), rI_wI_off (by omega), rI_wI_at]
  have e651 : rI μ5 65 1 = nI (min (m + 1) 40) := by rw [h5e, rI_wI_ne (by omega), rI_wI_ne (by omega), rI_wI_ne (by omega), rI_wI_at]
  have p0 : rI μ5 66 (61 * q) = x := by rw [h5e, rI_wI_off (by omega), rI_wI_off (by omega), rI_wI_at]
  have p1 : rI μ5 66 (61 * q + 1) = nI (su (S 0)) := by rw [h5e, rI_wI_off (by omega), rI_wI_at]
  have p2 : rI μ5 66 (61 * q + 2) = nI 0 := by rw [h5e, rI_wI_at]; rfl
  have pO : ∀ j, j < 61 * q ∨ 61 * q + 61 ≤ j → rI μ5 66 j = rI μ 66 j := fun j hj => by
    rw [h5e, rI_wI_off (by omega), rI_wI_off (by omega), rI_wI_off (by omega), rI_wI_ne (by omega), rI_wI_ne (by omega)]
  have op : ∀ μ', Fr (fun p j => p = 66 ∧ 61 * q + 9 ≤ j ∧ j < 61 * q + 61) μ5 μ' → opn T V B m S x q μ' := fun μ' hf => by
    refine ⟨hq4, (hf.i (by omega)).trans e651, (hf.i (by omega)).trans e652, fun j hj => ?_, (hf.i (by omega)).trans p0, (hf.i (by omega)).trans p1⟩
    have := hP j (by omega)
    refine this.agb hB (fun k hk => ?_)
    have e : (q + 40 - (j + 1)) % 40 = (q0 + 40 - j) % 40 := by omega
    have e2 : (q0 + 40 - j) % 40 ≠ q := by omega
    have e3 : (q0 + 40 - j) % 40 < 40 := by omega
    rw [e]
    generalize (q0 + 40 - j) % 40 = r at *
    rw [hf.i (by omega), pO _ (by omega)]
  have start : G_X6_open 7 x μ = L_X6_open_71 100000 7 x 0 μ5 := by
    unfold G_X6_open
    rw [h2, i61, nI_add, show (2440 : Int32) = nI 2440 from rfl, pk_rem (by omega) (by omega) (by omega), hrem, lb_e, rI_wI_off (by omega), h1, nI_1, show (40 : Int32) = nI 40 from rfl, imin_nI (by omega) (by omega), lb_e]
    simp (disch := omega) only [rI_wI_at, rI_wI_off, rI_wI_ne, lb_e, nI_p0, nI_1, nI_p2, gq_in, nx_nI, h5]
    rw [h5e]
  rcases hx with rfl | ⟨t, ht, rfl⟩
  · refine ⟨q, μ5, ?_, f5, op μ5 Fr.rf, p2, fun t ht e => absurd e.symm (nI_m1 (by omega))⟩
    rw [start, L_X6_open_71, if_neg (by decide), if_pos rfl]
  · have stp : ∀ (c : Nat) (μ' : Mem) (n : Nat), c < 2 → rI μ' 65 2 = nI (61 * q) → L_X6_open_71 (n + 1) 7 (nI t) (nI c) μ' = L_X6_open_71 n 7 (nI t) (nI (c + 1)) (wC μ' (9 + 9 * t + 3 + 3 * c + 2) 0 66 (61 * q + 9 + c * 26) 26) := fun c μ' n hc he => by
      rw [L_X6_open_71, if_neg (l_nle hc (by omega)), if_neg (nI_m1 (by omega)), gq_in (by omega) (by omega), gq_in (by omega) (by omega), he, show (9 : Int32) = nI 9 from rfl, show (26 : Int32) = nI 26 from rfl, pk_mul, nI_add, nI_add, show cpB 0 (nI (61 * q + 9 + c * 26)) (nI 26) 26 2440 = true from cpB_nI (a := 0) (by omega) (by omega) (by omega) (by omega), gq_t, nx_nI (by omega), nx_nI (by omega), show nx 0 = 0 from rfl, lb_e, lb_e, nI_1, shP_nI (by omega), lnP_nI (by omega), show 7 + 1 + 1 + 9 * t + 2 + 1 + 3 * c + 2 = 9 + 9 * t + 3 + 3 * c + 2 by omega]
    have fa : Fr (fun p j => p = 66 ∧ 61 * q + 9 ≤ j ∧ j < 61 * q + 61) μ5 (wC μ5 (9 + 9 * t + 3 + 3 * 0 + 2) 0 66 (61 * q + 9 + 0 * 26) 26) := Fr.rf.wC (fun k q1 q2 => by omega)
    have fb : Fr (fun p j => p = 66 ∧ 61 * q + 9 ≤ j ∧ j < 61 * q + 61) μ5 (wC (wC μ5 (9 + 9 * t + 3 + 3 * 0 + 2) 0 66 (61 * q + 9 + 0 * 26) 26) (9 + 9 * t + 3 + 3 * 1 + 2) 0 66 (61 * q + 9 + 1 * 26) 26) := fa.wC (fun k q1 q2 => by omega)
    refine ⟨q, _, ?_, f5.tr (fb.mono (fun p j h => by unfold opQ; omega)), op _ fb, (fb.i (by omega)).trans p2, fun t' ht' e c hc k hk => ?_⟩
    · rw [start, show (0 : Int32) = nI 0 from rfl, stp 0 μ5 99999 (by omega) e652, stp 1 _ 99998 (by omega) ((fa.i (by omega)).trans e652), L_X6_open_71, if_pos (by decide)]
    · have et : t = t' := nI_inj (by omega) (by omega) e
      subst et
      rcases (show c = 0 ∨ c = 1 by omega) with rfl | rfl
      · rw [rI_wC_at, if_neg (by omega), rI_wC_at, if_pos (by omega), f5.i (by unfold opQ; omega)]
        congr 1
        omega
      · rw [rI_wC_at, if_pos (by omega), rI_wC_ne (by omega), f5.i (by unfold opQ; omega)]
        congr 1
        omega
theorem noteRows_ok {q n : Nat} {x1 x2 x3 : Int32} (hq : q < 40) (hn : n < 2) (h1 : rI μ 65 2 = nI (61 * q)) (h2 : rI μ 66 (61 * q + 2) = nI n) : ∃ μ', G_X6_noteRows x1 x2 x3 μ = some ((), μ') ∧ Fr (fun p j => p = 66 ∧ 61 * q + 2 ≤ j ∧ j < 61 * q + 9) μ μ' ∧ rI μ' 66 (61 * q + 2) = nI (n + 1) ∧ rI μ' 66 (61 * q + (3 + 3 * n)) = x1 ∧ rI μ' 66 (61 * q + (4 + 3 * n)) = x2 ∧ rI μ' 66 (61 * q + (5 + 3 * n)) = x3 ∧ ∀ j, j < n → rI μ' 66 (61 * q + (3 + 3 * j)) = rI μ 66 (61 * q + (3 + 3 * j)) ∧ rI μ' 66 (61 * q + (4 + 3 * j)) = rI μ 66 (61 * q + (4 + 3 * j)) ∧ rI μ' 66 (61 * q + (5 + 3 * j)) = rI μ 66 (61 * q + (5 + 3 * j)) := by
  refine ⟨wI (wI (wI (wI μ 66 (61 * q + (3 + 3 * n)) x1) 66 (61 * q + (4 + 3 * n)) x2) 66 (61 * q + (5 + 3 * n)) x3) 66 (61 * q + 2) (nI (n + 1)), ?_, (((Fr.rf.wI (by omega)).wI (by omega)).wI (by omega)).wI (by omega), rI_wI_at, ?_, ?_, ?_, fun j hj => ⟨?_, ?_, ?_⟩⟩
  · unfold G_X6_noteRows
    rw [h1, i2, nI_add, gq_in (by omega) (by omega), nx_nI (by omega), h2, lb_e, if_neg (nI_ge hn (by omega)), i3, pk_mul, nI_add, nI_add, lb_e, gq_in (by omega) (by omega), nx_nI (by omega), lb_e, nI_1, gq_in (by omega) (by omega), nx_nI (by omega), lb_e, nI_add, gq_in (by omega) (by omega), nx_nI (by omega), lb_e, rI_wI_ne (by omega), rI_wI_ne (by omega), rI_wI_ne (by omega), h1, nI_add, gq_in (by omega) (by omega), nx_nI (by omega), lb_e, nI_1, show 61 * q + 3 + n * 3 = 61 * q + (3 + 3 * n) by omega, show 61 * q + (3 + 3 * n) + 1 = 61 * q + (4 + 3 * n) by omega, show 61 * q + (3 + 3 * n) + 2 = 61 * q + (5 + 3 * n) by omega]
  · rw [rI_wI_off (by omega), rI_wI_off (by omega), rI_wI_off (by omega), rI_wI_at]
  · rw [rI_wI_off (by omega), rI_wI_off (by omega), rI_wI_at]
  · rw [rI_wI_off (by omega), rI_wI_at]
  · rw [rI_wI_off (by omega), rI_wI_off (by omega), rI_wI_off (by omega), rI_wI_off (by omega)]
  · rw [rI_wI_off (by omega), rI_wI_off (by omega), rI_wI_off (by omega), rI_wI_off (by omega)]
  · rw [rI_wI_off (by omega), rI_wI_off (by omega), rI_wI_off (by omega), rI_wI_off (by omega)]
theorem note_ok {n sk : Nat} {lg : Nat → Nat → Int32} {x y z : Int32} (h : XG n lg sk 36 μ) (hn : n < 100000) (hs : sk ≤ 40) : ∃ μ', G_X3_note 36 x y z μ = some ((), μ') ∧ Fr (fun p j => (p = 36 ∧ j = 1) ∨ p = 37) μ μ' ∧ XG (n + 1) (fun j w => if j = n then lge x y z w else lg j w) (min (sk + 1) 40) 36 μ' := by
  refine ⟨wI (wI (wI (wI μ 37 (3 * (n % 100)) x) 37 (3 * (n % 100) + 1) y) 37 (3 * (n % 100) + 2) z) 36 1 (nI (n + 1)), ?_, (((Fr.rf.wI (by omega)).wI (by omega)).wI (by omega)).wI (by omega), rI_wI_at, fun j w hj hj2 hw => ?_⟩
  · unfold G_X3_note
    rw [h.1, bd_eq (fmod_nI (by omega)), i3, pk_mul, lb_e, gq_in (by omega) (by omega), nx_nI (by omega), lb_e, nI_1, gq_in (by omega) (by omega), nx_nI (by omega), lb_e, i2, nI_add, gq_in (by omega) (by omega), nx_nI (by omega), lb_e, rI_wI_ne (by omega), rI_wI_ne (by omega), rI_wI_ne (by omega), h.1, nI_1, lb_e, show n % 100 * 3 = 3 * (n % 100) by omega]
  · show rI (wI (wI (wI (wI μ 37 (3 * (n % 100)) x) 37 (3 * (n % 100) + 1) y) 37 (3 * (n % 100) + 2) z) 36 1 (nI (n + 1))) 37 (3 * (j % 100) + w) = if j = n then lge x y z w else lg j w
    rw [rI_wI_ne (by omega)]
    by_cases e : j = n
    · subst e
      rw [if_pos rfl]
      unfold lge
      rcases (show w = 0 ∨ w = 1 ∨ w = 2 by omega) with rfl | rfl | rfl
      · rw [rI_wI_off (by omega), rI_wI_off (by omega), Nat.add_zero, rI_wI_at, if_pos rfl]
      · rw [rI_wI_off (by omega), rI_wI_at]; rfl
      · rw [rI_wI_at]; rfl
    · rw [if_neg e, rI_wI_off (by omega), rI_wI_off (by omega), rI_wI_off (by omega)]
      exact h.2 j w (by omega) (by omega) hw
theorem opn_ag {x : Int32} {q : Nat} {μ' : Mem} (h : opn T V B m S x q μ) (hB : B ≤ 8) (e : ∀ p j, (p = 65 ∧ (j = 1 ∨ j = 2)) ∨ (p = 66 ∧ (j < 61 * q + 2 ∨ 61 * q + 61 ≤ j)) → rI μ' p j = rI μ p j) : opn T V B m S x q μ' := by
  obtain ⟨h1, h2, h3, h4, h5, h6⟩ := h
  refine ⟨h1, (e _ _ (by omega)).trans h2, (e _ _ (by omega)).trans h3, fun j hj => (h4 j hj).agb hB (fun k hk => ?_), (e _ _ (by omega)).trans h5, (e _ _ (by omega)).trans h6⟩
  have e2 : (q + 40 - (j + 1)) % 40 ≠ q := by omega
  generalize (q + 40 - (j + 1)) % 40 = r at *
  exact e _ _ (by omega)
theorem act_fin {x : Int32} {q : Nat} {σ : St} (h : opn T V B m S x q μ) (h2 : rI μ 7 2 = nI T) (h3 : rI μ 7 3 = nI B) (h4 : rI μ 7 4 = nI D) (h5 : rI μ 7 5 = nI (su σ)) (ht : ∀ t, t < T → XT (V t) (min B (V t)) (sf σ t) (sb σ t) (sg σ t) (sd σ t) (9 + 9 * t) μ) (hg : XG (sn σ) (sl σ) (min (m + 1) 40) 36 μ) (hp : PR T V B (fun k => rI μ 66 (61 * q + k)) σ (S 0)) : clX T V B D (min (m + 1) 40) (psh S σ) μ := by
  refine ⟨⟨h2, h3, h4, fun _ => h5, ht, hg⟩, h.2.1, q, h.1, h.2.2.1, fun j hj => ?_⟩
  by_cases e : j = 0
  · subst e
    have e2 : (q + 40 - 0) % 40 = q := by have := h.1; omega
    rw [e2]
    exact hp
  · have := h.2.2.2.1 (j - 1) (by omega)
    rw [show j - 1 + 1 = j by omega] at this
    unfold psh
    rw [if_neg e, if_neg (by omega), show j + 1 - 1 = j by omega]
    exact this
end P
