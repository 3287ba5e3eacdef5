/-! what a book holds: rows for each two of what they have (16: missing), borders, greatests, drifts, the budget, how many acts, the acts -/
abbrev St : Type := (Nat → Nat → Nat → Nat) × (Nat → Nat → Nat → Nat) × (Nat → Nat → Nat → Nat) × (Nat → Nat → Nat) × Nat × Nat × (Nat → Nat → Int32)
def sf (σ : St) : Nat → Nat → Nat → Nat := σ.1
def sb (σ : St) : Nat → Nat → Nat → Nat := σ.2.1
def sg (σ : St) : Nat → Nat → Nat → Nat := σ.2.2.1
def sd (σ : St) : Nat → Nat → Nat := σ.2.2.2.1
def su (σ : St) : Nat := σ.2.2.2.2.1
def sn (σ : St) : Nat := σ.2.2.2.2.2.1
def sl (σ : St) : Nat → Nat → Int32 := σ.2.2.2.2.2.2
/-- how many rows have v in column c -/
def cn (f : Nat → Nat → Nat) (c v : Nat) : Nat := fb_sm (fun o => if c = 0 then f v o else f o v) 17
def rws (f : Nat → Nat → Nat) : Nat := fb_sm (fun a => fb_sm (fun b => f a b) 17) 17
/-- a sum of g from x up to ahead of y -/
def seg (g : Nat → Nat) (x y : Nat) : Nat := fb_sm (fun k => g (x + k)) (y - x)
def LW (v K D : Nat) (g bd gr : Nat → Nat) (dr : Nat) : Prop := bd 0 = 0 ∧ bd K = v ∧ (∀ i, i < K → bd i < bd (i + 1)) ∧ (∀ i, i < K → gr i ≤ seg g (bd i) (bd (i + 1))) ∧ dr ≤ D
def ZO (v : Nat) (f : Nat → Nat → Nat) : Prop := ∀ a b, a ≤ 16 → b ≤ 16 → ((v ≤ a ∧ a < 16) ∨ (v ≤ b ∧ b < 16)) → f a b = 0
def SW (v K D : Nat) (f : Nat → Nat → Nat) (bd gr : Nat → Nat → Nat) (dr : Nat → Nat) : Prop := ZO v f ∧ rws f ≤ 999 ∧ ∀ c, c < 2 → LW v K D (cn f c) (bd c) (gr c) (dr c)
def WFS (T : Nat) (V : Nat → Nat) (B D : Nat) (σ : St) : Prop := (∀ t, t < T → SW (V t) (min B (V t)) D (sf σ t) (sb σ t) (sg σ t) (sd σ t)) ∧ (0 < T → 1 ≤ su σ ∧ su σ ≤ 999)
def CW (T : Nat) (V : Nat → Nat) (B D : Nat) : Prop := T ≤ 3 ∧ (0 < T → 1 ≤ B ∧ B ≤ 8 ∧ D ≤ 99) ∧ ∀ t, t < T → 2 ≤ V t ∧ V t ≤ 16
/-- what the model's row holds of a column, a table, a book -/
def MC (K : Nat) (g bd gr : Nat → Nat) (dr : Nat) (q : Nat → Int32) : Prop := q 0 = nI K ∧ q 33 = nI dr ∧ ∀ i, i < K → q (1 + 4 * i) = nI (bd i) ∧ q (1 + 4 * i + 1) = nI (bd (i + 1) - 1) ∧ q (1 + 4 * i + 2) = nI (seg g (bd i) (bd (i + 1))) ∧ q (1 + 4 * i + 3) = nI (gr i)
def MT (K : Nat) (f : Nat → Nat → Nat) (bd gr : Nat → Nat → Nat) (dr : Nat → Nat) (nb : Nat → Int32) : Prop := (∀ a b, a ≤ 16 → b ≤ 16 → nb (17 * a + b) = nI (f a b)) ∧ ∀ c, c < 2 → MC K (cn f c) (bd c) (gr c) (dr c) (fun k => nb (289 + 34 * c + k))
def MG (n : Nat) (lg : Nat → Nat → Int32) (nb : Nat → Int32) : Prop := nb 1072 = nI (min n 60) ∧ ∀ j w, j < min n 60 → w < 3 → nb (1073 + 3 * j + w) = lg (n - min n 60 + j) w
def MB (T : Nat) (V : Nat → Nat) (B : Nat) (σ : St) (nb : Nat → Int32) : Prop := (∀ t, t < T → MT (min B (V t)) (sf σ t) (sb σ t) (sg σ t) (sd σ t) (fun k => nb (357 * t + k))) ∧ (0 < T → nb 1071 = nI (su σ)) ∧ MG (sn σ) (sl σ) nb
/-- what the class holds of a column at p, a table at s, acts at d, a book at q -/
def xk (a : Nat) : Nat := if a = 16 then 0 else a + 1
def XS (K : Nat) (g bd gr : Nat → Nat) (dr : Nat) (q : Nat → Int32) : Prop := q 0 = nI K ∧ q 1 = nI dr ∧ ∀ i, i < K → q (2 + i) = nI (bd i) ∧ q (10 + i) = nI (seg g (bd i) (bd (i + 1))) ∧ q (18 + i) = nI (gr i)
def XC (v : Nat) (g : Nat → Nat) (p : Nat) (μ : Mem) : Prop := rI μ p 2 = nI v ∧ rI μ p 3 = nI (g 16) ∧ ∀ k, k < 16 → rI μ (p + 1) k = nI (g k)
def XL (v K : Nat) (g bd gr : Nat → Nat) (dr p : Nat) (μ : Mem) : Prop := XC v g p μ ∧ XS K g bd gr dr (fun k => rI μ (p + 2) k)
def XT (v K : Nat) (f : Nat → Nat → Nat) (bd gr : Nat → Nat → Nat) (dr : Nat → Nat) (s : Nat) (μ : Mem) : Prop := rI μ s 2 = nI v ∧ rI μ s 3 = nI (rws f) ∧ (∀ a b, a ≤ 16 → b ≤ 16 → rI μ (s + 1) (17 * xk a + xk b) = nI (f a b)) ∧ ∀ c, c < 2 → XL v K (cn f c) (bd c) (gr c) (dr c) (s + 3 + 3 * c) μ
def XG (n : Nat) (lg : Nat → Nat → Int32) (sk d : Nat) (μ : Mem) : Prop := rI μ d 1 = nI n ∧ ∀ j w, j < n → n ≤ j + 60 + sk → w < 3 → rI μ (d + 1) (3 * (j % 100) + w) = lg j w
def XB (T : Nat) (V : Nat → Nat) (B D : Nat) (σ : St) (sk q : Nat) (μ : Mem) : Prop := rI μ q 2 = nI T ∧ rI μ q 3 = nI B ∧ rI μ q 4 = nI D ∧ (0 < T → rI μ q 5 = nI (su σ)) ∧ (∀ t, t < T → XT (V t) (min B (V t)) (sf σ t) (sb σ t) (sg σ t) (sd σ t) (q + 2 + 9 * t) μ) ∧ XG (sn σ) (sl σ) sk (q + 29) μ
/-- what both hold of a condition -/
def WH (z : Nat) (tm cl sg : Nat → Nat) : Prop := 1 ≤ z ∧ z ≤ 6 ∧ tm 0 = 0 ∧ (∀ u, u + 1 < z → tm (u + 1) = tm u ∨ tm (u + 1) = tm u + 1) ∧ ∀ u, u < z → cl u < 2 ∧ sg u < 4
def XW (z : Nat) (tm cl sg : Nat → Nat) (nu : Nat → Int32) (p : Nat) (μ : Mem) : Prop := rI μ p 4 = nI z ∧ ∀ u, u < z → rI μ (p + 1) u = nI (tm u) ∧ rI μ (p + 2) u = nI (cl u) ∧ rI μ (p + 3) u = nI (sg u) ∧ rI μ (p + 4) u = nu u
def MW (z : Nat) (tm cl sg : Nat → Nat) (nu : Nat → Int32) (i : Nat) (μ : Mem) : Prop := rI μ 115 i = nI z ∧ ∀ u, u < z → rI μ 114 (4 * (6 * i + u)) = nI (tm u) ∧ rI μ 114 (4 * (6 * i + u) + 1) = nI (cl u) ∧ rI μ 114 (4 * (6 * i + u) + 2) = nI (sg u) ∧ rI μ 114 (4 * (6 * i + u) + 3) = nu u
/-- what a page of the past says: from what is, f, back to what was, f' -/
def ix (a : Nat) : Int32 := if a = 16 then -1 else nI a
def okv (v a : Nat) : Prop := a = 16 ∨ a < v
def put2 (f : Nat → Nat → Nat) (a b m : Nat) : Nat → Nat → Nat := fun x y => if x = a ∧ y = b then m else f x y
def US (v : Nat) (x y n : Int32) (f f' : Nat → Nat → Nat) : Prop := ∃ a b m, okv v a ∧ okv v b ∧ x = ix a ∧ y = ix b ∧ ((n = nI m ∧ m ≤ f a b ∧ f' = put2 f a b (f a b - m)) ∨ (n = -nI m ∧ f' = put2 f a b (f a b + m)))
def PS (v K : Nat) (pg : Nat → Int32) (f f' : Nat → Nat → Nat) (bd' gr' : Nat → Nat → Nat) (dr' : Nat → Nat) : Prop := (∀ c, c < 2 → XS K (cn f' c) (bd' c) (gr' c) (dr' c) (fun k => pg (9 + 26 * c + k))) ∧ ∃ (ch : Nat) (h : Nat → Nat → Nat → Nat), ch ≤ 2 ∧ pg 2 = nI ch ∧ h 0 = f ∧ h ch = f' ∧ ∀ i, i < ch → US v (pg (3 + 3 * i)) (pg (4 + 3 * i)) (pg (5 + 3 * i)) (h i) (h (i + 1))
def samT (σ σ' : St) (t : Nat) : Prop := sf σ t = sf σ' t ∧ sb σ t = sb σ' t ∧ sg σ t = sg σ' t ∧ sd σ t = sd σ' t
def PR (T : Nat) (V : Nat → Nat) (B : Nat) (pg : Nat → Int32) (σ σ' : St) : Prop := pg 1 = nI (su σ') ∧ sn σ = sn σ' + 1 ∧ (∀ j w, j < sn σ' → sl σ j w = sl σ' j w) ∧ ((pg 0 = -1 ∧ ∀ t, t < T → samT σ σ' t) ∨ ∃ t, t < T ∧ pg 0 = nI t ∧ (∀ t', t' < T → t' ≠ t → samT σ σ' t') ∧ PS (V t) (min B (V t)) pg (sf σ t) (sf σ' t) (sb σ' t) (sg σ' t) (sd σ' t))
/-- the parts of what ties the two: tape; looks; refusals; conditions; the past; the image; the book -/
def RT (μ : Mem) : Prop := ∃ l, l ≤ 240 ∧ rI μ 1 1 = nI l ∧ rI μ 107 2 = nI l ∧ ∀ k, k < l → rI μ 2 k = rI μ 108 k ∧ ∃ x, 1 ≤ x ∧ x ≤ 255 ∧ rI μ 2 k = nI x
def RK (μ : Mem) : Prop := (∀ k, k < 5 → rI μ 64 k = rI μ 117 k) ∧ ∃ d, d ≤ 6 ∧ rI μ 0 12 = nI d ∧ rI μ 107 26 = nI d ∧ ∀ i, i < d → rI μ 98 i = rI μ 122 i
def RW (μ : Mem) : Prop := ∃ w, w ≤ 4 ∧ rI μ 0 11 = nI w ∧ rI μ 107 15 = nI w ∧ ∀ i, i < w → ∃ z tm cl sg nu, WH z tm cl sg ∧ XW z tm cl sg nu (39 + 5 * i) μ ∧ MW z tm cl sg nu i μ
def RP (T : Nat) (V : Nat → Nat) (B m : Nat) (S : Nat → St) (μ : Mem) : Prop := m ≤ 40 ∧ rI μ 65 1 = nI m ∧ rI μ 107 23 = nI m ∧ ∃ q, q < 40 ∧ rI μ 65 2 = nI (61 * q) ∧ ∀ j, j < m → MB T V B (S (j + 1)) (fun k => rI μ 121 (1253 * (m - 1 - j) + k)) ∧ PR T V B (fun k => rI μ 66 (61 * ((q + 40 - j) % 40) + k)) (S j) (S (j + 1))
def RI (c T : Nat) (V : Nat → Nat) (B D : Nat) (μ : Mem) : Prop := (rI μ 107 32 = 0 ∧ rI μ 67 2 = 0) ∨ (rI μ 107 32 = 1 ∧ 0 < T ∧ ∃ σ, WFS T V B D σ ∧ sn σ ≤ 40 * c ∧ XB T V B D σ 0 67 μ ∧ MB T V B σ (fun k => rI μ 125 k))
def RB (c T : Nat) (V : Nat → Nat) (B D m : Nat) (S : Nat → St) (μ : Mem) : Prop := CW T V B D ∧ (T = 0 → m = 0 ∧ sn (S 0) = 0) ∧ sn (S 0) ≤ 40 * c ∧ (∀ j, j ≤ m → WFS T V B D (S j)) ∧ XB T V B D (S 0) m 7 μ ∧ rI μ 107 12 = nI T ∧ rI μ 112 0 = nI B ∧ rI μ 112 1 = nI D ∧ (∀ t, t < T → rI μ 113 t = nI (V t)) ∧ MB T V B (S 0) (fun k => rI μ 116 k)
def RR (c : Nat) (μ : Mem) : Prop := RT μ ∧ RK μ ∧ RW μ ∧ ∃ T V B D m S, RB c T V B D m S μ ∧ RP T V B m S μ ∧ RI c T V B D μ
/-- what answers alone may change -/
def SCR (q j : Nat) : Prop := (q = 1 ∧ (j = 2 ∨ j = 3)) ∨ (3 ≤ q ∧ q ≤ 6) ∨ (99 ≤ q ∧ q ≤ 106) ∨ (q = 0 ∧ j = 13) ∨ (q = 107 ∧ (j = 0 ∨ j = 3 ∨ j = 4 ∨ j = 8 ∨ j = 9 ∨ j = 19 ∨ j = 24 ∨ j = 27 ∨ j = 28)) ∨ (109 ≤ q ∧ q ≤ 111) ∨ (118 ≤ q ∧ q ≤ 120) ∨ q = 123 ∨ q = 124 ∨ q = 126
theorem XL.ag {v K : Nat} {g bd gr : Nat → Nat} {dr p : Nat} {μ μ' : Mem} (h : ∀ x j, p ≤ x → x ≤ p + 2 → rI μ' x j = rI μ x j) (hx : XL v K g bd gr dr p μ) : XL v K g bd gr dr p μ' := by
  obtain ⟨⟨h1, h2, h3⟩, h4, h5, h6⟩ := hx
  have e := fun j => h (p + 2) j (by omega) (by omega)
  refine ⟨⟨(h p 2 (by omega) (by omega)).trans h1, (h p 3 (by omega) (by omega)).trans h2, fun k hk => (h (p + 1) k (by omega) (by omega)).trans (h3 k hk)⟩, (e 0).trans h4, (e 1).trans h5, fun i hi => ?_⟩
  obtain ⟨a, b, c⟩ := h6 i hi
  exact ⟨(e _).trans a, (e _).trans b, (e _).trans c⟩
theorem XT.ag {v K : Nat} {f : Nat → Nat → Nat} {bd gr : Nat → Nat → Nat} {dr : Nat → Nat} {s : Nat} {μ μ' : Mem} (h : ∀ x j, s ≤ x → x ≤ s + 8 → rI μ' x j = rI μ x j) (hx : XT v K f bd gr dr s μ) : XT v K f bd gr dr s μ' := by
  obtain ⟨h1, h2, h3, h4⟩ := hx
  refine ⟨(h s 2 (by omega) (by omega)).trans h1, (h s 3 (by omega) (by omega)).trans h2, fun a b ha hb => (h (s + 1) _ (by omega) (by omega)).trans (h3 a b ha hb), fun c hc => XL.ag (fun x j h1 h2 => h x j (by omega) (by omega)) (h4 c hc)⟩
theorem XG.ag {n : Nat} {lg : Nat → Nat → Int32} {sk d : Nat} {μ μ' : Mem} (h : ∀ x j, d ≤ x → x ≤ d + 1 → rI μ' x j = rI μ x j) (hx : XG n lg sk d μ) : XG n lg sk d μ' := by
  obtain ⟨h1, h2⟩ := hx
  exact ⟨(h d 1 (by omega) (by omega)).trans h1, fun j w a b c => (h (d + 1) _ (by omega) (by omega)).trans (h2 j w a b c)⟩
theorem XB.ag {T : Nat} {V : Nat → Nat} {B D : Nat} {σ : St} {sk q : Nat} {μ μ' : Mem} (hT : T ≤ 3) (h : ∀ x j, q ≤ x → x ≤ q + 30 → rI μ' x j = rI μ x j) (hx : XB T V B D σ sk q μ) : XB T V B D σ sk q μ' := by
  obtain ⟨h1, h2, h3, h4, h5, h6⟩ := hx
  refine ⟨(h q 2 (by omega) (by omega)).trans h1, (h q 3 (by omega) (by omega)).trans h2, (h q 4 (by omega) (by omega)).trans h3, fun ht => (h q 5 (by omega) (by omega)).trans (h4 ht), fun t ht => XT.ag (fun x j h1 h2 => h x j (by omega) (by omega)) (h5 t ht), XG.ag (fun x j h1 h2 => h x j (by omega) (by omega)) h6⟩
theorem MB.ag {T : Nat} {V : Nat → Nat} {B : Nat} {σ : St} {nb nb' : Nat → Int32} (h : ∀ j, nb' j = nb j) (hx : MB T V B σ nb) : MB T V B σ nb' := by
  rw [show nb' = nb from funext h]; exact hx
theorem RT.ag {μ μ' : Mem} (h : ∀ q j, (q = 1 ∧ j = 1) ∨ q = 2 ∨ (q = 107 ∧ j = 2) ∨ q = 108 → rI μ' q j = rI μ q j) (hx : RT μ) : RT μ' := by
  obtain ⟨l, h1, h2, h3, h4⟩ := hx
  refine ⟨l, h1, (h 1 1 (by omega)).trans h2, (h 107 2 (by omega)).trans h3, fun k hk => ?_⟩
  rw [h 2 k (by omega), h 108 k (by omega)]
  exact h4 k hk
theorem RK.ag {μ μ' : Mem} (h : ∀ q j, q = 64 ∨ q = 117 ∨ (q = 0 ∧ j = 12) ∨ (q = 107 ∧ j = 26) ∨ q = 98 ∨ q = 122 → rI μ' q j = rI μ q j) (hx : RK μ) : RK μ' := by
  obtain ⟨h0, d, h1, h2, h3, h4⟩ := hx
  refine ⟨fun k hk => by rw [h 64 k (by omega), h 117 k (by omega)]; exact h0 k hk, d, h1, (h 0 12 (by omega)).trans h2, (h 107 26 (by omega)).trans h3, fun k hk => ?_⟩
  rw [h 98 k (by omega), h 122 k (by omega)]
  exact h4 k hk
theorem RW.ag {μ μ' : Mem} (h : ∀ q j, (q = 0 ∧ j = 11) ∨ (q = 107 ∧ j = 15) ∨ (39 ≤ q ∧ q ≤ 58) ∨ (q = 114 ∧ j < 96) ∨ (q = 115 ∧ j < 4) → rI μ' q j = rI μ q j) (hx : RW μ) : RW μ' := by
  obtain ⟨w, h1, h2, h3, h4⟩ := hx
  refine ⟨w, h1, (h 0 11 (by omega)).trans h2, (h 107 15 (by omega)).trans h3, fun i hi => ?_⟩
  obtain ⟨z, tm, cl, sg, nu, hw, ⟨x1, x2⟩, y1, y2⟩ := h4 i hi
  have hz := hw.2.1
  refine ⟨z, tm, cl, sg, nu, hw, ⟨(h _ 4 (by omega)).trans x1, fun u hu => ?_⟩, (h 115 i (by omega)).trans y1, fun u hu => ?_⟩
  · rw [h _ u (by omega), h _ u (by omega), h _ u (by omega), h _ u (by omega)]
    exact x2 u hu
  · rw [h 114 _ (by omega), h 114 _ (by omega), h 114 _ (by omega), h 114 _ (by omega)]
    exact y2 u hu
theorem RP.ag {T : Nat} {V : Nat → Nat} {B m : Nat} {S : Nat → St} {μ μ' : Mem} (h : ∀ q j, (q = 65 ∧ (j = 1 ∨ j = 2)) ∨ (q = 107 ∧ j = 23) ∨ q = 121 ∨ q = 66 → rI μ' q j = rI μ q j) (hx : RP T V B m S μ) : RP T V B m S μ' := by
  obtain ⟨h1, h2, h3, q, h4, h5, h6⟩ := hx
  refine ⟨h1, (h 65 1 (by omega)).trans h2, (h 107 23 (by omega)).trans h3, q, h4, (h 65 2 (by omega)).trans h5, fun j hj => ?_⟩
  have e1 : (fun k => rI μ' 121 (1253 * (m - 1 - j) + k)) = (fun k => rI μ 121 (1253 * (m - 1 - j) + k)) := funext fun k => h 121 _ (by omega)
  have e2 : (fun k => rI μ' 66 (61 * ((q + 40 - j) % 40) + k)) = (fun k => rI μ 66 (61 * ((q + 40 - j) % 40) + k)) := funext fun k => h 66 _ (by omega)
  rw [e1, e2]
  exact h6 j hj
theorem RI.ag {c T : Nat} {V : Nat → Nat} {B D : Nat} {μ μ' : Mem} (hT : T ≤ 3) (h : ∀ q j, (q = 107 ∧ j = 32) ∨ (67 ≤ q ∧ q ≤ 97) ∨ q = 125 → rI μ' q j = rI μ q j) (hx : RI c T V B D μ) : RI c T V B D μ' := by
  rcases hx with ⟨h1, h2⟩ | ⟨h1, h2, σ, h3, h4, h5, h6⟩
  · exact Or.inl ⟨(h 107 32 (by omega)).trans h1, (h 67 2 (by omega)).trans h2⟩
  · exact Or.inr ⟨(h 107 32 (by omega)).trans h1, h2, σ, h3, h4, XB.ag hT (fun x j a b => h x j (by omega)) h5, MB.ag (fun j => h 125 j (by omega)) h6⟩
theorem RB.ag {c T : Nat} {V : Nat → Nat} {B D m : Nat} {S : Nat → St} {μ μ' : Mem} (h : ∀ q j, (7 ≤ q ∧ q ≤ 37) ∨ (q = 107 ∧ j = 12) ∨ q = 112 ∨ q = 113 ∨ q = 116 → rI μ' q j = rI μ q j) (hx : RB c T V B D m S μ) : RB c T V B D m S μ' := by
  obtain ⟨h1, h2, h3, h4, h5, h6, h7, h8, h9, h10⟩ := hx
  exact ⟨h1, h2, h3, h4, XB.ag h1.1 (fun x j a b => h x j (by omega)) h5, (h 107 12 (by omega)).trans h6, (h 112 0 (by omega)).trans h7, (h 112 1 (by omega)).trans h8, fun t ht => (h 113 t (by omega)).trans (h9 t ht), MB.ag (fun j => h 116 j (by omega)) h10⟩
theorem RR.scr {c : Nat} {μ μ' : Mem} (hx : RR c μ) (h : Fr SCR μ μ') : RR c μ' := by
  obtain ⟨h1, h2, h3, T, V, B, D, m, S, h4, h5, h6⟩ := hx
  refine ⟨RT.ag (fun q j e => h.i (by unfold SCR; omega)) h1, RK.ag (fun q j e => h.i (by unfold SCR; omega)) h2, RW.ag (fun q j e => h.i (by unfold SCR; omega)) h3, T, V, B, D, m, S, RB.ag (fun q j e => h.i (by unfold SCR; omega)) h4, RP.ag (fun q j e => h.i (by unfold SCR; omega)) h5, RI.ag h4.1.1 (fun q j e => h.i (by unfold SCR; omega)) h6⟩
theorem RI.up {c c' T : Nat} {V : Nat → Nat} {B D : Nat} {μ : Mem} (hc : c ≤ c') (hx : RI c T V B D μ) : RI c' T V B D μ := by
  rcases hx with h | ⟨h1, h2, σ, h3, h4, h5, h6⟩
  · exact Or.inl h
  · exact Or.inr ⟨h1, h2, σ, h3, by omega, h5, h6⟩
theorem RB.up {c c' T : Nat} {V : Nat → Nat} {B D m : Nat} {S : Nat → St} {μ : Mem} (hc : c ≤ c') (hx : RB c T V B D m S μ) : RB c' T V B D m S μ := by
  obtain ⟨h1, h2, h3, h4⟩ := hx
  exact ⟨h1, h2, by omega, h4⟩
theorem RR.up {c c' : Nat} {μ : Mem} (hc : c ≤ c') (hx : RR c μ) : RR c' μ := by
  obtain ⟨h1, h2, h3, T, V, B, D, m, S, h4, h5, h6⟩ := hx
  exact ⟨h1, h2, h3, T, V, B, D, m, S, h4.up hc, h5, h6.up hc⟩
/-- at the start -/
theorem RR.start : RR 0 μ0 := by
  refine ⟨⟨0, by omega, rfl, rfl, fun k hk => absurd hk (by omega)⟩, ⟨fun k _ => rfl, 0, by omega, rfl, rfl, fun k hk => absurd hk (by omega)⟩, ⟨0, by omega, rfl, rfl, fun k hk => absurd hk (by omega)⟩, 0, fun _ => 0, 0, 0, 0, fun _ => (fun _ _ _ => 0, fun _ _ _ => 0, fun _ _ _ => 0, fun _ _ => 0, 0, 0, fun _ _ => 0), ?_, ?_, Or.inl ⟨rfl, rfl⟩⟩
  · exact ⟨⟨by omega, fun h => absurd h (by omega), fun t h => absurd h (by omega)⟩, fun _ => ⟨rfl, rfl⟩, Nat.le_refl _, fun j _ => ⟨fun t h => absurd h (by omega), fun h => absurd h (by omega)⟩, ⟨rfl, rfl, rfl, fun h => absurd h (by omega), fun t h => absurd h (by omega), rfl, fun j w h => absurd h (Nat.not_lt_zero _)⟩, rfl, rfl, rfl, fun t h => absurd h (by omega), ⟨fun t h => absurd h (by omega), fun h => absurd h (by omega), rfl, fun j w h => absurd h (by show ¬ j < min 0 60; omega)⟩⟩
  · exact ⟨by omega, rfl, rfl, 0, by omega, rfl, fun j h => absurd h (by omega)⟩
