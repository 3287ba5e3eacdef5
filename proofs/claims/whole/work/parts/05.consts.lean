def rmF (f l : Nat) : Room := { frames := f, cells := 0, slots := 0, locals := l }
theorem Rle_of {f l n f2 l2 : Nat} (h : f + 1 ≤ f2) (h2 : 8 + (n + 11) + l ≤ l2) : Rle (rmF f l) n (rmF f2 l2) := ⟨rfl, rfl, h, h2⟩
theorem CtI.of {X : Wd} {y : MethodName} {b : ByteArray} {n : Nat} {ret : Option FieldType} {rm : Room} {As : List Value} {μ : Mem} {G : Option (Int32 × Mem)} (hX : WdOk X) (hy : plainFor y = true) (hsl : (lg_sl As).length ≤ n) (body : ∀ C : Cx, cX C = X → Ok C b n y.cls rm → (cT C).sig.returnType = ret → J C (KI C) μ 0 (lv_args 0 As) [] G) : CtI X y b n ret rm As μ G := by
  intro a μ1 hG
  exact Ct.of (Q := fun r => QI X r.1 r.2) (KK := KI) (fun C h h1 h2 r => by subst h; unfold KI; rw [h1, h2]) hX hy hsl body (a, μ1) hG
theorem CtL.of {X : Wd} {y : MethodName} {b : ByteArray} {n : Nat} {ret : Option FieldType} {rm : Room} {As : List Value} {μ : Mem} {G : Option (Int64 × Mem)} (hX : WdOk X) (hy : plainFor y = true) (hsl : (lg_sl As).length ≤ n) (body : ∀ C : Cx, cX C = X → Ok C b n y.cls rm → (cT C).sig.returnType = ret → J C (KL C) μ 0 (lv_args 0 As) [] G) : CtL X y b n ret rm As μ G := by
  intro a μ1 hG
  exact Ct.of (Q := fun r => QL X r.1 r.2) (KK := KL) (fun C h h1 h2 r => by subst h; unfold KL; rw [h1, h2]) hX hy hsl body (a, μ1) hG
theorem CtV.of {X : Wd} {y : MethodName} {b : ByteArray} {n : Nat} {ret : Option FieldType} {rm : Room} {As : List Value} {μ : Mem} {G : Option (Unit × Mem)} (hX : WdOk X) (hy : plainFor y = true) (hsl : (lg_sl As).length ≤ n) (body : ∀ C : Cx, cX C = X → Ok C b n y.cls rm → (cT C).sig.returnType = ret → J C (KV C) μ 0 (lv_args 0 As) [] G) : CtV X y b n ret rm As μ G := by
  intro a μ1 hG
  exact Ct.of (Q := fun r => QV X r.2) (KK := KV) (fun C h h1 h2 r => by subst h; unfold KV; rw [h1, h2]) hX hy hsl body (a, μ1) hG
theorem CtR.of {q : Nat} {X : Wd} {y : MethodName} {b : ByteArray} {n : Nat} {ret : Option FieldType} {rm : Room} {As : List Value} {μ : Mem} {G : Option (Unit × Mem)} (hX : WdOk X) (hy : plainFor y = true) (hsl : (lg_sl As).length ≤ n) (body : ∀ C : Cx, cX C = X → Ok C b n y.cls rm → (cT C).sig.returnType = ret → J C (KR q C) μ 0 (lv_args 0 As) [] G) : CtR q X y b n ret rm As μ G := by
  intro a μ1 hG
  exact Ct.of (Q := fun r => QR X q r.2) (KK := KR q) (fun C h h1 h2 r => by subst h; unfold KR; rw [h1, h2]) hX hy hsl body (a, μ1) hG
theorem ci_m8 : Int32.ofInt (-8) = (-8 : Int32) := by decide
theorem ci_m1 : Int32.ofInt (-1) = (-1 : Int32) := by decide
theorem ci_0 : Int32.ofInt (0) = (0 : Int32) := by decide
theorem ci_1 : Int32.ofInt (1) = (1 : Int32) := by decide
theorem ci_2 : Int32.ofInt (2) = (2 : Int32) := by decide
theorem ci_3 : Int32.ofInt (3) = (3 : Int32) := by decide
theorem ci_4 : Int32.ofInt (4) = (4 : Int32) := by decide
theorem ci_5 : Int32.ofInt (5) = (5 : Int32) := by decide
theorem ci_6 : Int32.ofInt (6) = (6 : Int32) := by decide
theorem ci_8 : Int32.ofInt (8) = (8 : Int32) := by decide
theorem cb_m2 : (Int8.ofInt (-2)).toInt32 = (-2 : Int32) := by decide
theorem cb_6 : (Int8.ofInt (6)).toInt32 = (6 : Int32) := by decide
theorem cb_8 : (Int8.ofInt (8)).toInt32 = (8 : Int32) := by decide
theorem cb_9 : (Int8.ofInt (9)).toInt32 = (9 : Int32) := by decide
theorem cb_10 : (Int8.ofInt (10)).toInt32 = (10 : Int32) := by decide
theorem cb_12 : (Int8.ofInt (12)).toInt32 = (12 : Int32) := by decide
theorem cb_15 : (Int8.ofInt (15)).toInt32 = (15 : Int32) := by decide
theorem cb_16 : (Int8.ofInt (16)).toInt32 = (16 : Int32) := by decide
theorem cb_17 : (Int8.ofInt (17)).toInt32 = (17 : Int32) := by decide
theorem cb_18 : (Int8.ofInt (18)).toInt32 = (18 : Int32) := by decide
theorem cb_20 : (Int8.ofInt (20)).toInt32 = (20 : Int32) := by decide
theorem cb_24 : (Int8.ofInt (24)).toInt32 = (24 : Int32) := by decide
theorem cb_26 : (Int8.ofInt (26)).toInt32 = (26 : Int32) := by decide
theorem cb_32 : (Int8.ofInt (32)).toInt32 = (32 : Int32) := by decide
theorem cb_33 : (Int8.ofInt (33)).toInt32 = (33 : Int32) := by decide
theorem cb_34 : (Int8.ofInt (34)).toInt32 = (34 : Int32) := by decide
theorem cb_38 : (Int8.ofInt (38)).toInt32 = (38 : Int32) := by decide
theorem cb_40 : (Int8.ofInt (40)).toInt32 = (40 : Int32) := by decide
theorem cb_48 : (Int8.ofInt (48)).toInt32 = (48 : Int32) := by decide
theorem cb_57 : (Int8.ofInt (57)).toInt32 = (57 : Int32) := by decide
theorem cb_59 : (Int8.ofInt (59)).toInt32 = (59 : Int32) := by decide
theorem cb_60 : (Int8.ofInt (60)).toInt32 = (60 : Int32) := by decide
theorem cb_61 : (Int8.ofInt (61)).toInt32 = (61 : Int32) := by decide
theorem cb_62 : (Int8.ofInt (62)).toInt32 = (62 : Int32) := by decide
theorem cb_63 : (Int8.ofInt (63)).toInt32 = (63 : Int32) := by decide
theorem cb_80 : (Int8.ofInt (80)).toInt32 = (80 : Int32) := by decide
theorem cb_97 : (Int8.ofInt (97)).toInt32 = (97 : Int32) := by decide
theorem cb_98 : (Int8.ofInt (98)).toInt32 = (98 : Int32) := by decide
theorem cb_99 : (Int8.ofInt (99)).toInt32 = (99 : Int32) := by decide
theorem cb_100 : (Int8.ofInt (100)).toInt32 = (100 : Int32) := by decide
theorem cb_110 : (Int8.ofInt (110)).toInt32 = (110 : Int32) := by decide
theorem cb_113 : (Int8.ofInt (113)).toInt32 = (113 : Int32) := by decide
theorem cb_114 : (Int8.ofInt (114)).toInt32 = (114 : Int32) := by decide
theorem cb_115 : (Int8.ofInt (115)).toInt32 = (115 : Int32) := by decide
theorem cb_116 : (Int8.ofInt (116)).toInt32 = (116 : Int32) := by decide
theorem cb_118 : (Int8.ofInt (118)).toInt32 = (118 : Int32) := by decide
theorem cb_120 : (Int8.ofInt (120)).toInt32 = (120 : Int32) := by decide
theorem cb_124 : (Int8.ofInt (124)).toInt32 = (124 : Int32) := by decide
theorem cs_128 : (Int16.ofInt (128)).toInt32 = (128 : Int32) := by decide
theorem cs_180 : (Int16.ofInt (180)).toInt32 = (180 : Int32) := by decide
theorem cs_240 : (Int16.ofInt (240)).toInt32 = (240 : Int32) := by decide
theorem cs_255 : (Int16.ofInt (255)).toInt32 = (255 : Int32) := by decide
theorem cs_289 : (Int16.ofInt (289)).toInt32 = (289 : Int32) := by decide
theorem cs_300 : (Int16.ofInt (300)).toInt32 = (300 : Int32) := by decide
theorem cs_306 : (Int16.ofInt (306)).toInt32 = (306 : Int32) := by decide
theorem cs_357 : (Int16.ofInt (357)).toInt32 = (357 : Int32) := by decide
theorem cs_999 : (Int16.ofInt (999)).toInt32 = (999 : Int32) := by decide
theorem cs_1023 : (Int16.ofInt (1023)).toInt32 = (1023 : Int32) := by decide
theorem cs_1071 : (Int16.ofInt (1071)).toInt32 = (1071 : Int32) := by decide
theorem cs_1072 : (Int16.ofInt (1072)).toInt32 = (1072 : Int32) := by decide
theorem cs_1073 : (Int16.ofInt (1073)).toInt32 = (1073 : Int32) := by decide
theorem cs_1253 : (Int16.ofInt (1253)).toInt32 = (1253 : Int32) := by decide
theorem cs_2440 : (Int16.ofInt (2440)).toInt32 = (2440 : Int32) := by decide
theorem cl_0 : Int64.ofNat ((0 : Fin 2) : Nat) = (0 : Int64) := by decide
theorem cl_1 : Int64.ofNat ((1 : Fin 2) : Nat) = (1 : Int64) := by decide
