/-! the law's loop -/
section LWR
variable {ρ : Type} {C : Cx} {K : ρ → State → Prop} {μ : Mem} {pc pc' tgt : Nat} {ls : List (Nat × Value)} {st : List Value} {Z : Option ρ} {cc : ByteArray} {nL : Nat} {own : String} {rm : Room}
/-- the script's row, out of reach of the two systems -/
def SC (C : Cx) (b L : Nat) (ys : Nat → Int32) : Prop := va_X b L ys (cS C) (cS C).heap ∧ b < (cS C).heap.size ∧ ¬ xA (cX C) b
theorem J.sld {b L : Nat} {ys : Nat → Int32} {i : Int32} (hC : Ok C cc nL own rm) (hs : SC C b L ys) (d : DD cc pc (.iaload) 1 pc') (k : J C K μ pc' ls (.int (ys (nx i)) :: st) Z) : J C K μ pc ls (.int i :: .ref b :: st) (gq (inB i L) Z) := by
  obtain ⟨d, rfl⟩ := d
  exact J.gd fun hi H locs la hP hS hl r hr => va_sld hC.ex hC.bc hs.1 hs.2.1 hs.2.2 hS (inB_in hi) d (k H locs la hP hS hl r hr)
theorem J.slen {b L : Nat} {ys : Nat → Int32} (hC : Ok C cc nL own rm) (hs : SC C b L ys) (d : DD cc pc (.arraylength) 1 pc') (k : J C K μ pc' ls (.int (Int32.ofNat L) :: st) Z) : J C K μ pc ls (.ref b :: st) Z := by
  obtain ⟨d, rfl⟩ := d
  exact fun H locs la hP hS hl r hr => va_slen hC.ex hC.bc hs.1 hs.2.1 hs.2.2 hS d (k H locs la hP hS hl r hr)
/-- one cell and six slots more -/
def upC (C : Cx) : Cx := (cX C, cP C, cE C, cR C, cS C, cM C, cA C, cB C, cT C, cC C, cN C + 1, cO C + 6)
theorem Ok.up (hC : Ok C cc nL own rm) (h1 : cN C + 1 ≤ rm.cells) (h2 : cO C + 6 ≤ rm.slots) : Ok (upC C) cc nL own rm := ⟨hC.1, hC.2.1, hC.2.2.1, hC.2.2.2.1, hC.2.2.2.2.1, hC.2.2.2.2.2.1, hC.2.2.2.2.2.2.1, hC.2.2.2.2.2.2.2.1, hC.2.2.2.2.2.2.2.2.1, hC.2.2.2.2.2.2.2.2.2.1, h1, h2⟩
theorem J.up (k : J (upC C) K μ pc ls st Z) : J C K μ pc ls st Z := by
  intro H locs la hP hS hl r hr
  exact W.widen (k := cN C + 1) (n := cO C + 6) (by omega) (by omega) (k H locs la hP hS hl r hr)
theorem w_tst : Cond.static yL_table ∈ TBL := in5 (List.mem_of_getElem? (i := 126) rfl) rfl
theorem w_tin : Cond.initialized RL ∈ TBL := in1 (List.mem_of_getElem? (i := 0) rfl) rfl
theorem WSW_good : GoodIn TBL WSW := by
  intro w hw
  rcases List.mem_cons.mp hw with e | e
  · subst e
    exact TBL_good _ x_cw
  · exact TBL_good _ e
theorem J.callTab {x1 x2 : Int32} {F : Int32 → Mem → Option ρ} (hC : Ok C cc nL RL room_1) (hB : BadOk (cS C)) (h1 : cN C + 1 ≤ room_1.cells) (h2 : cO C + 6 ≤ room_1.slots) (d : DD cc pc (.invokestatic 42) 3 pc') (kk : ∀ (a : Int32) (μ' : Mem), J (upC C) K μ' pc' ls (.int a :: []) (F a μ')) : J C K μ pc ls [.ref (xad (cX C) 126), .int x2, .int x1, .ref (xad (cX C) 0)] (bd (G_L_table x1 x2 μ) F) := by
  obtain ⟨d, rfl⟩ := d
  intro H locs la hP hS hl' r hr
  obtain ⟨a, μ', hG, hF⟩ := bd_some hr
  have hrun := vx_runSW (R := cR C) (s := cS C) (H := H) (As := [.ref (xad (cX C) 0), .int x1, .int x2, .ref (xad (cX C) 126)]) (rest := []) (g := F0 (cM C) pc la [.ref (xad (cX C) 126), .int x2, .int x1, .ref (xad (cX C) 0)]) ⟨hC.ex, hC.bc, hC.ml, hC.ow, hC.ts⟩ (c_L_table hC.X x1 x2 μ a μ' hG) ⟨⟨rfl, rfl, by rw [hC.R]; exact Nat.le_of_ble_eq_true rfl, by rw [hC.R]; exact Nat.le_of_ble_eq_true rfl, pay_in hC.ts WSW_good, List.mem_cons_self⟩, hC.ts _ x_cw, hC.ts _ w_tin, by decide +kernel, fun sig hs => by
      have h6 : (parseMethodDescriptor yL_table.desc).map (fun d => d.parameters.length) = some 4 := by decide +kernel
      rw [hs] at h6
      exact (Option.some.inj h6).symm, hC.ts _ ml_L_42, hC.ts _ w_tst⟩ ⟨PreX.blind _, fun U hU hW => ⟨rfl, (PreU.at hC hP hS [] U hU hW).2, BadOk.warm hW hB⟩⟩ rfl rfl (hl'.1.trans hC.ml) rfl (lv_room (Nat.le_of_ble_eq_true rfl)) d (e := cE C) (below := cB C) (meth := cT C) (cells := cN C) (slots := cO C) (locs := locs) ⟨by rw [hC.R]; exact h1, by rw [hC.R]; exact h2⟩
  refine va_calli hrun hS (fun q _ h => h) (fun q h => h) (fun v u t H1 locs1 ht _ hv hB _ _ hS1 => ?_)
  subst hv
  subst ht
  exact kk _ μ' _ locs1 la hB hS1 hl' r hF
end LWR
theorem eL_law_196 : DD cL_law 196 (.aload_n 1) 1 197 := ⟨by decide +kernel, rfl⟩
theorem eL_law_197 : DD cL_law 197 (.aload_n 0) 1 198 := ⟨by decide +kernel, rfl⟩
theorem eL_law_198 : DD cL_law 198 (.iload 4) 2 200 := ⟨by decide +kernel, rfl⟩
theorem eL_law_200 : DD cL_law 200 (.iconst 1) 1 201 := ⟨by decide +kernel, rfl⟩
theorem eL_law_201 : DD cL_law 201 (.iadd) 1 202 := ⟨by decide +kernel, rfl⟩
theorem eL_law_202 : DD cL_law 202 (.iaload) 1 203 := ⟨by decide +kernel, rfl⟩
theorem eL_law_203 : DD cL_law 203 (.aload_n 0) 1 204 := ⟨by decide +kernel, rfl⟩
theorem eL_law_204 : DD cL_law 204 (.iload 4) 2 206 := ⟨by decide +kernel, rfl⟩
theorem eL_law_206 : DD cL_law 206 (.iconst 2) 1 207 := ⟨by decide +kernel, rfl⟩
theorem eL_law_207 : DD cL_law 207 (.iadd) 1 208 := ⟨by decide +kernel, rfl⟩
theorem eL_law_208 : DD cL_law 208 (.iaload) 1 209 := ⟨by decide +kernel, rfl⟩
theorem eL_law_209 : DD cL_law 209 (.aload_n 0) 1 210 := ⟨by decide +kernel, rfl⟩
theorem eL_law_210 : DD cL_law 210 (.iload 4) 2 212 := ⟨by decide +kernel, rfl⟩
theorem eL_law_212 : DD cL_law 212 (.iconst 3) 1 213 := ⟨by decide +kernel, rfl⟩
theorem eL_law_213 : DD cL_law 213 (.iadd) 1 214 := ⟨by decide +kernel, rfl⟩
theorem eL_law_214 : DD cL_law 214 (.iaload) 1 215 := ⟨by decide +kernel, rfl⟩
theorem eL_law_215 : DD cL_law 215 (.aload_n 0) 1 216 := ⟨by decide +kernel, rfl⟩
theorem eL_law_216 : DD cL_law 216 (.iload 4) 2 218 := ⟨by decide +kernel, rfl⟩
theorem eL_law_218 : DD cL_law 218 (.iconst 4) 1 219 := ⟨by decide +kernel, rfl⟩
theorem eL_law_219 : DD cL_law 219 (.iadd) 1 220 := ⟨by decide +kernel, rfl⟩
theorem eL_law_220 : DD cL_law 220 (.iaload) 1 221 := ⟨by decide +kernel, rfl⟩
theorem eL_law_221 : DD cL_law 221 (.aload_n 0) 1 222 := ⟨by decide +kernel, rfl⟩
theorem eL_law_222 : DD cL_law 222 (.iload 4) 2 224 := ⟨by decide +kernel, rfl⟩
theorem eL_law_224 : DD cL_law 224 (.iconst 5) 1 225 := ⟨by decide +kernel, rfl⟩
theorem eL_law_225 : DD cL_law 225 (.iadd) 1 226 := ⟨by decide +kernel, rfl⟩
theorem eL_law_226 : DD cL_law 226 (.iaload) 1 227 := ⟨by decide +kernel, rfl⟩
theorem eL_law_227 : DD cL_law 227 (.invokevirtual 19) 3 230 := ⟨by decide +kernel, rfl⟩
theorem eL_law_230 : DD cL_law 230 (.aload_n 2) 1 231 := ⟨by decide +kernel, rfl⟩
theorem eL_law_231 : DD cL_law 231 (.aload_n 0) 1 232 := ⟨by decide +kernel, rfl⟩
theorem eL_law_232 : DD cL_law 232 (.iload 4) 2 234 := ⟨by decide +kernel, rfl⟩
theorem eL_law_234 : DD cL_law 234 (.iconst 1) 1 235 := ⟨by decide +kernel, rfl⟩
theorem eL_law_235 : DD cL_law 235 (.iadd) 1 236 := ⟨by decide +kernel, rfl⟩
theorem eL_law_236 : DD cL_law 236 (.iaload) 1 237 := ⟨by decide +kernel, rfl⟩
theorem eL_law_237 : DD cL_law 237 (.aload_n 0) 1 238 := ⟨by decide +kernel, rfl⟩
theorem eL_law_238 : DD cL_law 238 (.iload 4) 2 240 := ⟨by decide +kernel, rfl⟩
theorem eL_law_240 : DD cL_law 240 (.iconst 2) 1 241 := ⟨by decide +kernel, rfl⟩
theorem eL_law_241 : DD cL_law 241 (.iadd) 1 242 := ⟨by decide +kernel, rfl⟩
theorem eL_law_242 : DD cL_law 242 (.iaload) 1 243 := ⟨by decide +kernel, rfl⟩
theorem eL_law_243 : DD cL_law 243 (.aload_n 0) 1 244 := ⟨by decide +kernel, rfl⟩
theorem eL_law_244 : DD cL_law 244 (.iload 4) 2 246 := ⟨by decide +kernel, rfl⟩
theorem eL_law_246 : DD cL_law 246 (.iconst 3) 1 247 := ⟨by decide +kernel, rfl⟩
theorem eL_law_247 : DD cL_law 247 (.iadd) 1 248 := ⟨by decide +kernel, rfl⟩
theorem eL_law_248 : DD cL_law 248 (.iaload) 1 249 := ⟨by decide +kernel, rfl⟩
theorem eL_law_249 : DD cL_law 249 (.aload_n 0) 1 250 := ⟨by decide +kernel, rfl⟩
theorem eL_law_250 : DD cL_law 250 (.iload 4) 2 252 := ⟨by decide +kernel, rfl⟩
theorem eL_law_252 : DD cL_law 252 (.iconst 4) 1 253 := ⟨by decide +kernel, rfl⟩
theorem eL_law_253 : DD cL_law 253 (.iadd) 1 254 := ⟨by decide +kernel, rfl⟩
theorem eL_law_254 : DD cL_law 254 (.iaload) 1 255 := ⟨by decide +kernel, rfl⟩
theorem eL_law_255 : DD cL_law 255 (.aload_n 0) 1 256 := ⟨by decide +kernel, rfl⟩
theorem eL_law_256 : DD cL_law 256 (.iload 4) 2 258 := ⟨by decide +kernel, rfl⟩
theorem eL_law_258 : DD cL_law 258 (.iconst 5) 1 259 := ⟨by decide +kernel, rfl⟩
theorem eL_law_259 : DD cL_law 259 (.iadd) 1 260 := ⟨by decide +kernel, rfl⟩
theorem eL_law_260 : DD cL_law 260 (.iaload) 1 261 := ⟨by decide +kernel, rfl⟩
theorem eL_law_261 : DD cL_law 261 (.invokevirtual 23) 3 264 := ⟨by decide +kernel, rfl⟩
theorem eL_law_264 : DB cL_law 264 (.if_icmp .eq 1482) (1482) 267 1746 := ⟨by decide +kernel, rfl, by decide⟩
def Z_0 (L : Nat) (ys : Nat → Int32) (kc : Int32 → Mem → Option Unit) (x4 : Int32) (μ : Mem) : Option Unit :=
  gq (inB (x4 + (1 : Int32)) L) (gq (inB (x4 + (2 : Int32)) L) (gq (inB (x4 + (3 : Int32)) L) (gq (inB (x4 + (4 : Int32)) L) (gq (inB (x4 + (5 : Int32)) L) (bd (G_X10_feed (ys (nx (x4 + (1 : Int32)))) (ys (nx (x4 + (2 : Int32)))) (ys (nx (x4 + (3 : Int32)))) (ys (nx (x4 + (4 : Int32)))) (ys (nx (x4 + (5 : Int32)))) μ) (fun r_2 μ_1 => gq (inB (x4 + (1 : Int32)) L) (gq (inB (x4 + (2 : Int32)) L) (gq (inB (x4 + (3 : Int32)) L) (gq (inB (x4 + (4 : Int32)) L) (gq (inB (x4 + (5 : Int32)) L) (bd (G_X11_feed (ys (nx (x4 + (1 : Int32)))) (ys (nx (x4 + (2 : Int32)))) (ys (nx (x4 + (3 : Int32)))) (ys (nx (x4 + (4 : Int32)))) (ys (nx (x4 + (5 : Int32)))) μ_1) (fun r_4 μ_3 => if r_2 = r_4 then kc x4 μ_3 else none))))))))))))
set_option maxHeartbeats 4000000 in
theorem z_0 {C : Cx} (hC : Ok C cL_law 7 RL room_1) {K : Unit → State → Prop} {b L : Nat} {ys : Nat → Int32} (hs : SC C b L ys) (kc : Int32 → Mem → Option Unit) (hk : ∀ (x4 : Int32) (μ : Mem), J C K μ 1746 [(0, .ref b), (1, .ref (xad (cX C) 0)), (2, .ref (xad (cX C) 107)), (3, .ref (xad (cX C) 126)), (4, .int x4)] [] (kc x4 μ)) (x4 : Int32) (μ : Mem) : J C K μ 196 [(0, .ref b), (1, .ref (xad (cX C) 0)), (2, .ref (xad (cX C) 107)), (3, .ref (xad (cX C) 126)), (4, .int x4)] [] (Z_0 L ys kc x4 μ) := by
  unfold Z_0
  refine J.aload_n (j := 1) hC eL_law_196 rfl ?_
  refine J.aload_n (j := 0) hC eL_law_197 rfl ?_
  refine J.iload (j := 4) hC eL_law_198 rfl ?_
  refine J.iconst hC eL_law_200 ci_1 ?_
  refine J.iadd hC eL_law_201 ?_
  refine J.sld hC hs eL_law_202 ?_
  refine J.aload_n (j := 0) hC eL_law_203 rfl ?_
  refine J.iload (j := 4) hC eL_law_204 rfl ?_
  refine J.iconst hC eL_law_206 ci_2 ?_
  refine J.iadd hC eL_law_207 ?_
  refine J.sld hC hs eL_law_208 ?_
  refine J.aload_n (j := 0) hC eL_law_209 rfl ?_
  refine J.iload (j := 4) hC eL_law_210 rfl ?_
  refine J.iconst hC eL_law_212 ci_3 ?_
  refine J.iadd hC eL_law_213 ?_
  refine J.sld hC hs eL_law_214 ?_
  refine J.aload_n (j := 0) hC eL_law_215 rfl ?_
  refine J.iload (j := 4) hC eL_law_216 rfl ?_
  refine J.iconst hC eL_law_218 ci_4 ?_
  refine J.iadd hC eL_law_219 ?_
  refine J.sld hC hs eL_law_220 ?_
  refine J.aload_n (j := 0) hC eL_law_221 rfl ?_
  refine J.iload (j := 4) hC eL_law_222 rfl ?_
  refine J.iconst hC eL_law_224 ci_5 ?_
  refine J.iadd hC eL_law_225 ?_
  refine J.sld hC hs eL_law_226 ?_
  refine J.callVI (st := []) hC eL_law_227 kk_0 (by decide) rfl rfl ml_L_19 mv_X10_feed ⟨rfl, rfl, Nat.le_of_ble_eq_true rfl, Nat.le_of_ble_eq_true rfl⟩ (c_X10_feed hC.X (ys (nx (x4 + (1 : Int32)))) (ys (nx (x4 + (2 : Int32)))) (ys (nx (x4 + (3 : Int32)))) (ys (nx (x4 + (4 : Int32)))) (ys (nx (x4 + (5 : Int32)))) μ) rfl rfl (Nat.le_of_ble_eq_true rfl) (fun r_2 μ_1 => ?_)
  refine J.aload_n (j := 2) hC eL_law_230 rfl ?_
  refine J.aload_n (j := 0) hC eL_law_231 rfl ?_
  refine J.iload (j := 4) hC eL_law_232 rfl ?_
  refine J.iconst hC eL_law_234 ci_1 ?_
  refine J.iadd hC eL_law_235 ?_
  refine J.sld hC hs eL_law_236 ?_
  refine J.aload_n (j := 0) hC eL_law_237 rfl ?_
  refine J.iload (j := 4) hC eL_law_238 rfl ?_
  refine J.iconst hC eL_law_240 ci_2 ?_
  refine J.iadd hC eL_law_241 ?_
  refine J.sld hC hs eL_law_242 ?_
  refine J.aload_n (j := 0) hC eL_law_243 rfl ?_
  refine J.iload (j := 4) hC eL_law_244 rfl ?_
  refine J.iconst hC eL_law_246 ci_3 ?_
  refine J.iadd hC eL_law_247 ?_
  refine J.sld hC hs eL_law_248 ?_
  refine J.aload_n (j := 0) hC eL_law_249 rfl ?_
  refine J.iload (j := 4) hC eL_law_250 rfl ?_
  refine J.iconst hC eL_law_252 ci_4 ?_
  refine J.iadd hC eL_law_253 ?_
  refine J.sld hC hs eL_law_254 ?_
  refine J.aload_n (j := 0) hC eL_law_255 rfl ?_
  refine J.iload (j := 4) hC eL_law_256 rfl ?_
  refine J.iconst hC eL_law_258 ci_5 ?_
  refine J.iadd hC eL_law_259 ?_
  refine J.sld hC hs eL_law_260 ?_
  refine J.callVI (st := [.int r_2]) hC eL_law_261 kk_107 (by decide) rfl rfl ml_L_23 mv_X11_feed ⟨rfl, rfl, Nat.le_of_ble_eq_true rfl, Nat.le_of_ble_eq_true rfl⟩ (c_X11_feed hC.X (ys (nx (x4 + (1 : Int32)))) (ys (nx (x4 + (2 : Int32)))) (ys (nx (x4 + (3 : Int32)))) (ys (nx (x4 + (4 : Int32)))) (ys (nx (x4 + (5 : Int32)))) μ_1) rfl rfl (Nat.le_of_ble_eq_true rfl) (fun r_4 μ_3 => ?_)
  refine J.icmp_eq hC eL_law_264 (fun _ => ?_) (fun _ => ?_)
  · refine J.sub [0, 1, 2, 3, 4] rfl ?_
    exact hk x4 μ_3
  · exact J.no
theorem eL_law_269 : DD cL_law 269 (.aload_n 1) 1 270 := ⟨by decide +kernel, rfl⟩
theorem eL_law_270 : DD cL_law 270 (.aload_n 0) 1 271 := ⟨by decide +kernel, rfl⟩
theorem eL_law_271 : DD cL_law 271 (.iload 4) 2 273 := ⟨by decide +kernel, rfl⟩
theorem eL_law_273 : DD cL_law 273 (.iconst 1) 1 274 := ⟨by decide +kernel, rfl⟩
theorem eL_law_274 : DD cL_law 274 (.iadd) 1 275 := ⟨by decide +kernel, rfl⟩
theorem eL_law_275 : DD cL_law 275 (.iaload) 1 276 := ⟨by decide +kernel, rfl⟩
theorem eL_law_276 : DD cL_law 276 (.invokevirtual 24) 3 279 := ⟨by decide +kernel, rfl⟩
theorem eL_law_279 : DD cL_law 279 (.aload_n 2) 1 280 := ⟨by decide +kernel, rfl⟩
theorem eL_law_280 : DD cL_law 280 (.aload_n 0) 1 281 := ⟨by decide +kernel, rfl⟩
theorem eL_law_281 : DD cL_law 281 (.iload 4) 2 283 := ⟨by decide +kernel, rfl⟩
theorem eL_law_283 : DD cL_law 283 (.iconst 1) 1 284 := ⟨by decide +kernel, rfl⟩
theorem eL_law_284 : DD cL_law 284 (.iadd) 1 285 := ⟨by decide +kernel, rfl⟩
theorem eL_law_285 : DD cL_law 285 (.iaload) 1 286 := ⟨by decide +kernel, rfl⟩
theorem eL_law_286 : DD cL_law 286 (.invokevirtual 28) 3 289 := ⟨by decide +kernel, rfl⟩
theorem eL_law_289 : DB cL_law 289 (.if_icmp .eq 1457) (1457) 292 1746 := ⟨by decide +kernel, rfl, by decide⟩
def Z_1 (L : Nat) (ys : Nat → Int32) (kc : Int32 → Mem → Option Unit) (x4 : Int32) (μ : Mem) : Option Unit :=
  gq (inB (x4 + (1 : Int32)) L) (bd (G_X10_end (ys (nx (x4 + (1 : Int32)))) μ) (fun r_2 μ_1 => gq (inB (x4 + (1 : Int32)) L) (bd (G_X11_end (ys (nx (x4 + (1 : Int32)))) μ_1) (fun r_4 μ_3 => if r_2 = r_4 then kc x4 μ_3 else none))))
set_option maxHeartbeats 4000000 in
theorem z_1 {C : Cx} (hC : Ok C cL_law 7 RL room_1) {K : Unit → State → Prop} {b L : Nat} {ys : Nat → Int32} (hs : SC C b L ys) (kc : Int32 → Mem → Option Unit) (hk : ∀ (x4 : Int32) (μ : Mem), J C K μ 1746 [(0, .ref b), (1, .ref (xad (cX C) 0)), (2, .ref (xad (cX C) 107)), (3, .ref (xad (cX C) 126)), (4, .int x4)] [] (kc x4 μ)) (x4 : Int32) (μ : Mem) : J C K μ 269 [(0, .ref b), (1, .ref (xad (cX C) 0)), (2, .ref (xad (cX C) 107)), (3, .ref (xad (cX C) 126)), (4, .int x4)] [] (Z_1 L ys kc x4 μ) := by
  unfold Z_1
  refine J.aload_n (j := 1) hC eL_law_269 rfl ?_
  refine J.aload_n (j := 0) hC eL_law_270 rfl ?_
  refine J.iload (j := 4) hC eL_law_271 rfl ?_
  refine J.iconst hC eL_law_273 ci_1 ?_
  refine J.iadd hC eL_law_274 ?_
  refine J.sld hC hs eL_law_275 ?_
  refine J.callVI (st := []) hC eL_law_276 kk_0 (by decide) rfl rfl ml_L_24 mv_X10_end ⟨rfl, rfl, Nat.le_of_ble_eq_true rfl, Nat.le_of_ble_eq_true rfl⟩ (c_X10_end hC.X (ys (nx (x4 + (1 : Int32)))) μ) rfl rfl (Nat.le_of_ble_eq_true rfl) (fun r_2 μ_1 => ?_)
  refine J.aload_n (j := 2) hC eL_law_279 rfl ?_
  refine J.aload_n (j := 0) hC eL_law_280 rfl ?_
  refine J.iload (j := 4) hC eL_law_281 rfl ?_
  refine J.iconst hC eL_law_283 ci_1 ?_
  refine J.iadd hC eL_law_284 ?_
  refine J.sld hC hs eL_law_285 ?_
  refine J.callVI (st := [.int r_2]) hC eL_law_286 kk_107 (by decide) rfl rfl ml_L_28 mv_X11_end ⟨rfl, rfl, Nat.le_of_ble_eq_true rfl, Nat.le_of_ble_eq_true rfl⟩ (c_X11_end hC.X (ys (nx (x4 + (1 : Int32)))) μ_1) rfl rfl (Nat.le_of_ble_eq_true rfl) (fun r_4 μ_3 => ?_)
  refine J.icmp_eq hC eL_law_289 (fun _ => ?_) (fun _ => ?_)
  · refine J.sub [0, 1, 2, 3, 4] rfl ?_
    exact hk x4 μ_3
  · exact J.no
theorem eL_law_294 : DD cL_law 294 (.aload_n 1) 1 295 := ⟨by decide +kernel, rfl⟩
theorem eL_law_295 : DD cL_law 295 (.aload_n 0) 1 296 := ⟨by decide +kernel, rfl⟩
theorem eL_law_296 : DD cL_law 296 (.iload 4) 2 298 := ⟨by decide +kernel, rfl⟩
theorem eL_law_298 : DD cL_law 298 (.iconst 1) 1 299 := ⟨by decide +kernel, rfl⟩
theorem eL_law_299 : DD cL_law 299 (.iadd) 1 300 := ⟨by decide +kernel, rfl⟩
theorem eL_law_300 : DD cL_law 300 (.iaload) 1 301 := ⟨by decide +kernel, rfl⟩
theorem eL_law_301 : DD cL_law 301 (.invokevirtual 29) 3 304 := ⟨by decide +kernel, rfl⟩
theorem eL_law_304 : DD cL_law 304 (.aload_n 2) 1 305 := ⟨by decide +kernel, rfl⟩
theorem eL_law_305 : DD cL_law 305 (.aload_n 0) 1 306 := ⟨by decide +kernel, rfl⟩
theorem eL_law_306 : DD cL_law 306 (.iload 4) 2 308 := ⟨by decide +kernel, rfl⟩
theorem eL_law_308 : DD cL_law 308 (.iconst 1) 1 309 := ⟨by decide +kernel, rfl⟩
theorem eL_law_309 : DD cL_law 309 (.iadd) 1 310 := ⟨by decide +kernel, rfl⟩
theorem eL_law_310 : DD cL_law 310 (.iaload) 1 311 := ⟨by decide +kernel, rfl⟩
theorem eL_law_311 : DD cL_law 311 (.invokevirtual 33) 3 314 := ⟨by decide +kernel, rfl⟩
theorem eL_law_314 : DB cL_law 314 (.if_icmp .eq 1432) (1432) 317 1746 := ⟨by decide +kernel, rfl, by decide⟩
def Z_2 (L : Nat) (ys : Nat → Int32) (kc : Int32 → Mem → Option Unit) (x4 : Int32) (μ : Mem) : Option Unit :=
  gq (inB (x4 + (1 : Int32)) L) (bd (G_X10_fault (ys (nx (x4 + (1 : Int32)))) μ) (fun r_2 μ_1 => gq (inB (x4 + (1 : Int32)) L) (bd (G_X11_fault (ys (nx (x4 + (1 : Int32)))) μ_1) (fun r_4 μ_3 => if r_2 = r_4 then kc x4 μ_3 else none))))
set_option maxHeartbeats 4000000 in
theorem z_2 {C : Cx} (hC : Ok C cL_law 7 RL room_1) {K : Unit → State → Prop} {b L : Nat} {ys : Nat → Int32} (hs : SC C b L ys) (kc : Int32 → Mem → Option Unit) (hk : ∀ (x4 : Int32) (μ : Mem), J C K μ 1746 [(0, .ref b), (1, .ref (xad (cX C) 0)), (2, .ref (xad (cX C) 107)), (3, .ref (xad (cX C) 126)), (4, .int x4)] [] (kc x4 μ)) (x4 : Int32) (μ : Mem) : J C K μ 294 [(0, .ref b), (1, .ref (xad (cX C) 0)), (2, .ref (xad (cX C) 107)), (3, .ref (xad (cX C) 126)), (4, .int x4)] [] (Z_2 L ys kc x4 μ) := by
  unfold Z_2
  refine J.aload_n (j := 1) hC eL_law_294 rfl ?_
  refine J.aload_n (j := 0) hC eL_law_295 rfl ?_
  refine J.iload (j := 4) hC eL_law_296 rfl ?_
  refine J.iconst hC eL_law_298 ci_1 ?_
  refine J.iadd hC eL_law_299 ?_
  refine J.sld hC hs eL_law_300 ?_
  refine J.callVI (st := []) hC eL_law_301 kk_0 (by decide) rfl rfl ml_L_29 mv_X10_fault ⟨rfl, rfl, Nat.le_of_ble_eq_true rfl, Nat.le_of_ble_eq_true rfl⟩ (c_X10_fault hC.X (ys (nx (x4 + (1 : Int32)))) μ) rfl rfl (Nat.le_of_ble_eq_true rfl) (fun r_2 μ_1 => ?_)
  refine J.aload_n (j := 2) hC eL_law_304 rfl ?_
  refine J.aload_n (j := 0) hC eL_law_305 rfl ?_
  refine J.iload (j := 4) hC eL_law_306 rfl ?_
  refine J.iconst hC eL_law_308 ci_1 ?_
  refine J.iadd hC eL_law_309 ?_
  refine J.sld hC hs eL_law_310 ?_
  refine J.callVI (st := [.int r_2]) hC eL_law_311 kk_107 (by decide) rfl rfl ml_L_33 mv_X11_fault ⟨rfl, rfl, Nat.le_of_ble_eq_true rfl, Nat.le_of_ble_eq_true rfl⟩ (c_X11_fault hC.X (ys (nx (x4 + (1 : Int32)))) μ_1) rfl rfl (Nat.le_of_ble_eq_true rfl) (fun r_4 μ_3 => ?_)
  refine J.icmp_eq hC eL_law_314 (fun _ => ?_) (fun _ => ?_)
  · refine J.sub [0, 1, 2, 3, 4] rfl ?_
    exact hk x4 μ_3
  · exact J.no
theorem eL_law_319 : DD cL_law 319 (.aload_n 1) 1 320 := ⟨by decide +kernel, rfl⟩
theorem eL_law_320 : DD cL_law 320 (.aload_n 0) 1 321 := ⟨by decide +kernel, rfl⟩
theorem eL_law_321 : DD cL_law 321 (.iload 4) 2 323 := ⟨by decide +kernel, rfl⟩
theorem eL_law_323 : DD cL_law 323 (.iconst 1) 1 324 := ⟨by decide +kernel, rfl⟩
theorem eL_law_324 : DD cL_law 324 (.iadd) 1 325 := ⟨by decide +kernel, rfl⟩
theorem eL_law_325 : DD cL_law 325 (.iaload) 1 326 := ⟨by decide +kernel, rfl⟩
theorem eL_law_326 : DD cL_law 326 (.invokevirtual 34) 3 329 := ⟨by decide +kernel, rfl⟩
theorem eL_law_329 : DD cL_law 329 (.aload_n 2) 1 330 := ⟨by decide +kernel, rfl⟩
theorem eL_law_330 : DD cL_law 330 (.aload_n 0) 1 331 := ⟨by decide +kernel, rfl⟩
theorem eL_law_331 : DD cL_law 331 (.iload 4) 2 333 := ⟨by decide +kernel, rfl⟩
theorem eL_law_333 : DD cL_law 333 (.iconst 1) 1 334 := ⟨by decide +kernel, rfl⟩
theorem eL_law_334 : DD cL_law 334 (.iadd) 1 335 := ⟨by decide +kernel, rfl⟩
theorem eL_law_335 : DD cL_law 335 (.iaload) 1 336 := ⟨by decide +kernel, rfl⟩
theorem eL_law_336 : DD cL_law 336 (.invokevirtual 37) 3 339 := ⟨by decide +kernel, rfl⟩
theorem eL_law_339 : DB cL_law 339 (.if_icmp .eq 1407) (1407) 342 1746 := ⟨by decide +kernel, rfl, by decide⟩
def Z_3 (L : Nat) (ys : Nat → Int32) (kc : Int32 → Mem → Option Unit) (x4 : Int32) (μ : Mem) : Option Unit :=
  gq (inB (x4 + (1 : Int32)) L) (bd (G_X10_text (ys (nx (x4 + (1 : Int32)))) μ) (fun r_2 μ_1 => gq (inB (x4 + (1 : Int32)) L) (bd (G_X11_text (ys (nx (x4 + (1 : Int32)))) μ_1) (fun r_4 μ_3 => if r_2 = r_4 then kc x4 μ_3 else none))))
set_option maxHeartbeats 4000000 in
theorem z_3 {C : Cx} (hC : Ok C cL_law 7 RL room_1) {K : Unit → State → Prop} {b L : Nat} {ys : Nat → Int32} (hs : SC C b L ys) (kc : Int32 → Mem → Option Unit) (hk : ∀ (x4 : Int32) (μ : Mem), J C K μ 1746 [(0, .ref b), (1, .ref (xad (cX C) 0)), (2, .ref (xad (cX C) 107)), (3, .ref (xad (cX C) 126)), (4, .int x4)] [] (kc x4 μ)) (x4 : Int32) (μ : Mem) : J C K μ 319 [(0, .ref b), (1, .ref (xad (cX C) 0)), (2, .ref (xad (cX C) 107)), (3, .ref (xad (cX C) 126)), (4, .int x4)] [] (Z_3 L ys kc x4 μ) := by
  unfold Z_3
  refine J.aload_n (j := 1) hC eL_law_319 rfl ?_
  refine J.aload_n (j := 0) hC eL_law_320 rfl ?_
  refine J.iload (j := 4) hC eL_law_321 rfl ?_
  refine J.iconst hC eL_law_323 ci_1 ?_
  refine J.iadd hC eL_law_324 ?_
  refine J.sld hC hs eL_law_325 ?_
  refine J.callVI (st := []) hC eL_law_326 kk_0 (by decide) rfl rfl ml_L_34 mv_X10_text ⟨rfl, rfl, Nat.le_of_ble_eq_true rfl, Nat.le_of_ble_eq_true rfl⟩ (c_X10_text hC.X (ys (nx (x4 + (1 : Int32)))) μ) rfl rfl (Nat.le_of_ble_eq_true rfl) (fun r_2 μ_1 => ?_)
  refine J.aload_n (j := 2) hC eL_law_329 rfl ?_
  refine J.aload_n (j := 0) hC eL_law_330 rfl ?_
  refine J.iload (j := 4) hC eL_law_331 rfl ?_
  refine J.iconst hC eL_law_333 ci_1 ?_
  refine J.iadd hC eL_law_334 ?_
  refine J.sld hC hs eL_law_335 ?_
  refine J.callVI (st := [.int r_2]) hC eL_law_336 kk_107 (by decide) rfl rfl ml_L_37 mv_X11_text ⟨rfl, rfl, Nat.le_of_ble_eq_true rfl, Nat.le_of_ble_eq_true rfl⟩ (c_X11_text hC.X (ys (nx (x4 + (1 : Int32)))) μ_1) rfl rfl (Nat.le_of_ble_eq_true rfl) (fun r_4 μ_3 => ?_)
  refine J.icmp_eq hC eL_law_339 (fun _ => ?_) (fun _ => ?_)
  · refine J.sub [0, 1, 2, 3, 4] rfl ?_
    exact hk x4 μ_3
  · exact J.no
theorem eL_law_344 : DD cL_law 344 (.aload_n 1) 1 345 := ⟨by decide +kernel, rfl⟩
theorem eL_law_345 : DD cL_law 345 (.aload_n 0) 1 346 := ⟨by decide +kernel, rfl⟩
theorem eL_law_346 : DD cL_law 346 (.iload 4) 2 348 := ⟨by decide +kernel, rfl⟩
theorem eL_law_348 : DD cL_law 348 (.iconst 1) 1 349 := ⟨by decide +kernel, rfl⟩
theorem eL_law_349 : DD cL_law 349 (.iadd) 1 350 := ⟨by decide +kernel, rfl⟩
theorem eL_law_350 : DD cL_law 350 (.iaload) 1 351 := ⟨by decide +kernel, rfl⟩
theorem eL_law_351 : DD cL_law 351 (.invokevirtual 38) 3 354 := ⟨by decide +kernel, rfl⟩
theorem eL_law_354 : DD cL_law 354 (.aload_n 2) 1 355 := ⟨by decide +kernel, rfl⟩
theorem eL_law_355 : DD cL_law 355 (.aload_n 0) 1 356 := ⟨by decide +kernel, rfl⟩
theorem eL_law_356 : DD cL_law 356 (.iload 4) 2 358 := ⟨by decide +kernel, rfl⟩
theorem eL_law_358 : DD cL_law 358 (.iconst 1) 1 359 := ⟨by decide +kernel, rfl⟩
theorem eL_law_359 : DD cL_law 359 (.iadd) 1 360 := ⟨by decide +kernel, rfl⟩
theorem eL_law_360 : DD cL_law 360 (.iaload) 1 361 := ⟨by decide +kernel, rfl⟩
theorem eL_law_361 : DD cL_law 361 (.invokevirtual 41) 3 364 := ⟨by decide +kernel, rfl⟩
theorem eL_law_364 : DB cL_law 364 (.if_icmp .eq 1382) (1382) 367 1746 := ⟨by decide +kernel, rfl, by decide⟩
def Z_4 (L : Nat) (ys : Nat → Int32) (kc : Int32 → Mem → Option Unit) (x4 : Int32) (μ : Mem) : Option Unit :=
  gq (inB (x4 + (1 : Int32)) L) (bd (G_X10_rule (ys (nx (x4 + (1 : Int32)))) μ) (fun r_2 μ_1 => gq (inB (x4 + (1 : Int32)) L) (bd (G_X11_rule (ys (nx (x4 + (1 : Int32)))) μ_1) (fun r_4 μ_3 => if r_2 = r_4 then kc x4 μ_3 else none))))
set_option maxHeartbeats 4000000 in
theorem z_4 {C : Cx} (hC : Ok C cL_law 7 RL room_1) {K : Unit → State → Prop} {b L : Nat} {ys : Nat → Int32} (hs : SC C b L ys) (kc : Int32 → Mem → Option Unit) (hk : ∀ (x4 : Int32) (μ : Mem), J C K μ 1746 [(0, .ref b), (1, .ref (xad (cX C) 0)), (2, .ref (xad (cX C) 107)), (3, .ref (xad (cX C) 126)), (4, .int x4)] [] (kc x4 μ)) (x4 : Int32) (μ : Mem) : J C K μ 344 [(0, .ref b), (1, .ref (xad (cX C) 0)), (2, .ref (xad (cX C) 107)), (3, .ref (xad (cX C) 126)), (4, .int x4)] [] (Z_4 L ys kc x4 μ) := by
  unfold Z_4
  refine J.aload_n (j := 1) hC eL_law_344 rfl ?_
  refine J.aload_n (j := 0) hC eL_law_345 rfl ?_
  refine J.iload (j := 4) hC eL_law_346 rfl ?_
  refine J.iconst hC eL_law_348 ci_1 ?_
  refine J.iadd hC eL_law_349 ?_
  refine J.sld hC hs eL_law_350 ?_
  refine J.callVI (st := []) hC eL_law_351 kk_0 (by decide) rfl rfl ml_L_38 mv_X10_rule ⟨rfl, rfl, Nat.le_of_ble_eq_true rfl, Nat.le_of_ble_eq_true rfl⟩ (c_X10_rule hC.X (ys (nx (x4 + (1 : Int32)))) μ) rfl rfl (Nat.le_of_ble_eq_true rfl) (fun r_2 μ_1 => ?_)
  refine J.aload_n (j := 2) hC eL_law_354 rfl ?_
  refine J.aload_n (j := 0) hC eL_law_355 rfl ?_
  refine J.iload (j := 4) hC eL_law_356 rfl ?_
  refine J.iconst hC eL_law_358 ci_1 ?_
  refine J.iadd hC eL_law_359 ?_
  refine J.sld hC hs eL_law_360 ?_
  refine J.callVI (st := [.int r_2]) hC eL_law_361 kk_107 (by decide) rfl rfl ml_L_41 mv_X11_rule ⟨rfl, rfl, Nat.le_of_ble_eq_true rfl, Nat.le_of_ble_eq_true rfl⟩ (c_X11_rule hC.X (ys (nx (x4 + (1 : Int32)))) μ_1) rfl rfl (Nat.le_of_ble_eq_true rfl) (fun r_4 μ_3 => ?_)
  refine J.icmp_eq hC eL_law_364 (fun _ => ?_) (fun _ => ?_)
  · refine J.sub [0, 1, 2, 3, 4] rfl ?_
    exact hk x4 μ_3
  · exact J.no
theorem eL_law_369 : DD cL_law 369 (.aload_n 1) 1 370 := ⟨by decide +kernel, rfl⟩
theorem eL_law_370 : DD cL_law 370 (.aload_n 0) 1 371 := ⟨by decide +kernel, rfl⟩
theorem eL_law_371 : DD cL_law 371 (.iload 4) 2 373 := ⟨by decide +kernel, rfl⟩
theorem eL_law_373 : DD cL_law 373 (.iconst 1) 1 374 := ⟨by decide +kernel, rfl⟩
theorem eL_law_374 : DD cL_law 374 (.iadd) 1 375 := ⟨by decide +kernel, rfl⟩
theorem eL_law_375 : DD cL_law 375 (.iaload) 1 376 := ⟨by decide +kernel, rfl⟩
theorem eL_law_376 : DD cL_law 376 (.aload_n 0) 1 377 := ⟨by decide +kernel, rfl⟩
theorem eL_law_377 : DD cL_law 377 (.iload 4) 2 379 := ⟨by decide +kernel, rfl⟩
theorem eL_law_379 : DD cL_law 379 (.iconst 2) 1 380 := ⟨by decide +kernel, rfl⟩
theorem eL_law_380 : DD cL_law 380 (.iadd) 1 381 := ⟨by decide +kernel, rfl⟩
theorem eL_law_381 : DD cL_law 381 (.iaload) 1 382 := ⟨by decide +kernel, rfl⟩
theorem eL_law_382 : DD cL_law 382 (.aload_n 3) 1 383 := ⟨by decide +kernel, rfl⟩
theorem eL_law_383 : DD cL_law 383 (.invokestatic 42) 3 386 := ⟨by decide +kernel, rfl⟩
theorem eL_law_386 : DD cL_law 386 (.istore 5) 2 388 := ⟨by decide +kernel, rfl⟩
theorem eL_law_388 : DD cL_law 388 (.aload_n 2) 1 389 := ⟨by decide +kernel, rfl⟩
theorem eL_law_389 : DD cL_law 389 (.aload_n 0) 1 390 := ⟨by decide +kernel, rfl⟩
theorem eL_law_390 : DD cL_law 390 (.iload 4) 2 392 := ⟨by decide +kernel, rfl⟩
theorem eL_law_392 : DD cL_law 392 (.iconst 1) 1 393 := ⟨by decide +kernel, rfl⟩
theorem eL_law_393 : DD cL_law 393 (.iadd) 1 394 := ⟨by decide +kernel, rfl⟩
theorem eL_law_394 : DD cL_law 394 (.iaload) 1 395 := ⟨by decide +kernel, rfl⟩
theorem eL_law_395 : DD cL_law 395 (.aload_n 0) 1 396 := ⟨by decide +kernel, rfl⟩
theorem eL_law_396 : DD cL_law 396 (.iload 4) 2 398 := ⟨by decide +kernel, rfl⟩
theorem eL_law_398 : DD cL_law 398 (.iconst 2) 1 399 := ⟨by decide +kernel, rfl⟩
theorem eL_law_399 : DD cL_law 399 (.iadd) 1 400 := ⟨by decide +kernel, rfl⟩
theorem eL_law_400 : DD cL_law 400 (.iaload) 1 401 := ⟨by decide +kernel, rfl⟩
theorem eL_law_401 : DD cL_law 401 (.invokevirtual 47) 3 404 := ⟨by decide +kernel, rfl⟩
theorem eL_law_404 : DD cL_law 404 (.istore 6) 2 406 := ⟨by decide +kernel, rfl⟩
theorem eL_law_406 : DD cL_law 406 (.aload_n 2) 1 407 := ⟨by decide +kernel, rfl⟩
theorem eL_law_407 : DD cL_law 407 (.invokevirtual 48) 3 410 := ⟨by decide +kernel, rfl⟩
theorem eL_law_410 : DD cL_law 410 (.iload 5) 2 412 := ⟨by decide +kernel, rfl⟩
theorem eL_law_412 : DB cL_law 412 (.if_icmp .eq 5) (5) 415 417 := ⟨by decide +kernel, rfl, by decide⟩
theorem eL_law_417 : DD cL_law 417 (.iload 5) 2 419 := ⟨by decide +kernel, rfl⟩
theorem eL_law_419 : DB cL_law 419 (.ifCond .ne 15) (15) 422 434 := ⟨by decide +kernel, rfl, by decide⟩
theorem eL_law_422 : DD cL_law 422 (.aload_n 3) 1 423 := ⟨by decide +kernel, rfl⟩
theorem eL_law_423 : DD cL_law 423 (.iconst 0) 1 424 := ⟨by decide +kernel, rfl⟩
theorem eL_law_424 : DD cL_law 424 (.laload) 1 425 := ⟨by decide +kernel, rfl⟩
theorem eL_law_425 : DD cL_law 425 (.iload 6) 2 427 := ⟨by decide +kernel, rfl⟩
theorem eL_law_427 : DD cL_law 427 (.i2l) 1 428 := ⟨by decide +kernel, rfl⟩
theorem eL_law_428 : DD cL_law 428 (.lcmp) 1 429 := ⟨by decide +kernel, rfl⟩
theorem eL_law_429 : DB cL_law 429 (.ifCond .eq 5) (5) 432 434 := ⟨by decide +kernel, rfl, by decide⟩
theorem eL_law_434 : DB cL_law 434 (.goto 1312) (1312) 437 1746 := ⟨by decide +kernel, rfl, by decide⟩
def Z_5 (L : Nat) (ys : Nat → Int32) (kc : Int32 → Mem → Option Unit) (x4 : Int32) (μ : Mem) : Option Unit :=
  gq (inB (x4 + (1 : Int32)) L) (gq (inB (x4 + (2 : Int32)) L) (bd (G_L_table (ys (nx (x4 + (1 : Int32)))) (ys (nx (x4 + (2 : Int32)))) μ) (fun r_t μ_t => gq (inB (x4 + (1 : Int32)) L) (gq (inB (x4 + (2 : Int32)) L) (bd (G_X11_table (ys (nx (x4 + (1 : Int32)))) (ys (nx (x4 + (2 : Int32)))) μ_t) (fun r_2 μ_1 => bd (G_X11_thrown  μ_1) (fun r_4 μ_3 => if r_4 = r_t then if r_t = 0 then if (lg_cmp (rL μ_3 126 0) r_2.toInt64) = 0 then kc x4 μ_3 else none else kc x4 μ_3 else none)))))))
set_option maxHeartbeats 4000000 in
theorem z_5 {C : Cx} (hC : Ok C cL_law 7 RL room_1) {K : Unit → State → Prop} {b L : Nat} {ys : Nat → Int32} (hs : SC C b L ys) (hB : BadOk (cS C)) (hN : cN C + 1 ≤ room_1.cells) (hO : cO C + 6 ≤ room_1.slots) (hD : Ok (upC C) cL_law 7 RL room_1) (hs2 : SC (upC C) b L ys) (kc : Int32 → Mem → Option Unit) (hk : ∀ (x4 : Int32) (μ : Mem), J (upC C) K μ 1746 [(0, .ref b), (1, .ref (xad (cX C) 0)), (2, .ref (xad (cX C) 107)), (3, .ref (xad (cX C) 126)), (4, .int x4)] [] (kc x4 μ)) (x4 : Int32) (μ : Mem) : J C K μ 369 [(0, .ref b), (1, .ref (xad (cX C) 0)), (2, .ref (xad (cX C) 107)), (3, .ref (xad (cX C) 126)), (4, .int x4)] [] (Z_5 L ys kc x4 μ) := by
  unfold Z_5
  refine J.aload_n (j := 1) hC eL_law_369 rfl ?_
  refine J.aload_n (j := 0) hC eL_law_370 rfl ?_
  refine J.iload (j := 4) hC eL_law_371 rfl ?_
  refine J.iconst hC eL_law_373 ci_1 ?_
  refine J.iadd hC eL_law_374 ?_
  refine J.sld hC hs eL_law_375 ?_
  refine J.aload_n (j := 0) hC eL_law_376 rfl ?_
  refine J.iload (j := 4) hC eL_law_377 rfl ?_
  refine J.iconst hC eL_law_379 ci_2 ?_
  refine J.iadd hC eL_law_380 ?_
  refine J.sld hC hs eL_law_381 ?_
  refine J.aload_n (j := 3) hC eL_law_382 rfl ?_
  refine J.callTab hC hB hN hO eL_law_383 (fun r_t μ_t => ?_)
  refine J.istore [(5, .int r_t), (0, .ref b), (1, .ref (xad (cX C) 0)), (2, .ref (xad (cX C) 107)), (3, .ref (xad (cX C) 126)), (4, .int x4)] hD eL_law_386 (by decide) rfl ?_
  refine J.aload_n (j := 3) hD eL_law_388 rfl ?_
  refine J.aload_n (j := 1) hD eL_law_389 rfl ?_
  refine J.iload (j := 5) hD eL_law_390 rfl ?_
  refine J.iconst hD eL_law_392 ci_1 ?_
  refine J.iadd hD eL_law_393 ?_
  refine J.sld hD hs2 eL_law_394 ?_
  refine J.aload_n (j := 1) hD eL_law_395 rfl ?_
  refine J.iload (j := 5) hD eL_law_396 rfl ?_
  refine J.iconst hD eL_law_398 ci_2 ?_
  refine J.iadd hD eL_law_399 ?_
  refine J.sld hD hs2 eL_law_400 ?_
  refine J.callVI (st := []) hD eL_law_401 kk_107 (by decide) rfl rfl ml_L_47 mv_X11_table ⟨rfl, rfl, Nat.le_of_ble_eq_true rfl, Nat.le_of_ble_eq_true rfl⟩ (c_X11_table hD.X (ys (nx (x4 + (1 : Int32)))) (ys (nx (x4 + (2 : Int32)))) μ_t) rfl rfl (Nat.le_of_ble_eq_true rfl) (fun r_2 μ_1 => ?_)
  refine J.istore [(6, .int r_2), (5, .int r_t), (0, .ref b), (1, .ref (xad (cX C) 0)), (2, .ref (xad (cX C) 107)), (3, .ref (xad (cX C) 126)), (4, .int x4)] hD eL_law_404 (by decide) rfl ?_
  refine J.aload_n (j := 4) hD eL_law_406 rfl ?_
  refine J.callVI (st := []) hD eL_law_407 kk_107 (by decide) rfl rfl ml_L_48 mv_X11_thrown ⟨rfl, rfl, Nat.le_of_ble_eq_true rfl, Nat.le_of_ble_eq_true rfl⟩ (c_X11_thrown hD.X  μ_1) rfl rfl (Nat.le_of_ble_eq_true rfl) (fun r_4 μ_3 => ?_)
  refine J.iload (j := 1) hD eL_law_410 rfl ?_
  refine J.icmp_eq hD eL_law_412 (fun _ => ?_) (fun _ => ?_)
  · refine J.iload (j := 1) hD eL_law_417 rfl ?_
    refine J.if_ne hD eL_law_419 (fun _ => ?_) (fun _ => ?_)
    · refine J.aload_n (j := 5) hD eL_law_422 rfl ?_
      refine J.iconst hD eL_law_423 ci_0 ?_
      refine J.laldK (j := 0) il_1 hD eL_law_424 kk_126 (by decide) (by decide) ?_
      refine J.iload (j := 0) hD eL_law_425 rfl ?_
      refine J.i2l hD eL_law_427 ?_
      refine J.lcmp hD eL_law_428 ?_
      refine J.if_eq hD eL_law_429 (fun _ => ?_) (fun _ => ?_)
      · refine J.goto hD eL_law_434 ?_
        refine J.sub [2, 3, 4, 5, 6] rfl ?_
        exact hk x4 μ_3
      · exact J.no
    · refine J.goto hD eL_law_434 ?_
      refine J.sub [2, 3, 4, 5, 6] rfl ?_
      exact hk x4 μ_3
  · exact J.no
