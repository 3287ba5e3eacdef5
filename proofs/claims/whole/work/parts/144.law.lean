theorem eL_law_1224 : DD cL_law 1224 (.aload_n 1) 1 1225 := ⟨by decide +kernel, rfl⟩
theorem eL_law_1225 : DD cL_law 1225 (.aload_n 0) 1 1226 := ⟨by decide +kernel, rfl⟩
theorem eL_law_1226 : DD cL_law 1226 (.iload 4) 2 1228 := ⟨by decide +kernel, rfl⟩
theorem eL_law_1228 : DD cL_law 1228 (.iconst 1) 1 1229 := ⟨by decide +kernel, rfl⟩
theorem eL_law_1229 : DD cL_law 1229 (.iadd) 1 1230 := ⟨by decide +kernel, rfl⟩
theorem eL_law_1230 : DD cL_law 1230 (.iaload) 1 1231 := ⟨by decide +kernel, rfl⟩
theorem eL_law_1231 : DD cL_law 1231 (.invokevirtual 115) 3 1234 := ⟨by decide +kernel, rfl⟩
theorem eL_law_1234 : DD cL_law 1234 (.aload_n 2) 1 1235 := ⟨by decide +kernel, rfl⟩
theorem eL_law_1235 : DD cL_law 1235 (.aload_n 0) 1 1236 := ⟨by decide +kernel, rfl⟩
theorem eL_law_1236 : DD cL_law 1236 (.iload 4) 2 1238 := ⟨by decide +kernel, rfl⟩
theorem eL_law_1238 : DD cL_law 1238 (.iconst 1) 1 1239 := ⟨by decide +kernel, rfl⟩
theorem eL_law_1239 : DD cL_law 1239 (.iadd) 1 1240 := ⟨by decide +kernel, rfl⟩
theorem eL_law_1240 : DD cL_law 1240 (.iaload) 1 1241 := ⟨by decide +kernel, rfl⟩
theorem eL_law_1241 : DD cL_law 1241 (.invokevirtual 118) 3 1244 := ⟨by decide +kernel, rfl⟩
theorem eL_law_1244 : DB cL_law 1244 (.if_icmp .eq 502) (502) 1247 1746 := ⟨by decide +kernel, rfl, by decide⟩
def Z_20 (L : Nat) (ys : Nat → Int32) (kc : Int32 → Mem → Option Unit) (x4 : Int32) (μ : Mem) : Option Unit :=
  gq (inB (x4 + (1 : Int32)) L) (bd (G_X10_status (ys (nx (x4 + (1 : Int32)))) μ) (fun r_2 μ_1 => gq (inB (x4 + (1 : Int32)) L) (bd (G_X11_status (ys (nx (x4 + (1 : Int32)))) μ_1) (fun r_4 μ_3 => if r_2 = r_4 then kc x4 μ_3 else none))))
set_option maxHeartbeats 4000000 in
theorem z_20 {C : Cx} (hC : Ok C cL_law 7 RL room_1) {K : Unit → State → Prop} {b L : Nat} {ys : Nat → Int32} (hs : SC C b L ys) (kc : Int32 → Mem → Option Unit) (hk : ∀ (x4 : Int32) (μ : Mem), J C K μ 1746 [(0, .ref b), (1, .ref (xad (cX C) 0)), (2, .ref (xad (cX C) 107)), (3, .ref (xad (cX C) 126)), (4, .int x4)] [] (kc x4 μ)) (x4 : Int32) (μ : Mem) : J C K μ 1224 [(0, .ref b), (1, .ref (xad (cX C) 0)), (2, .ref (xad (cX C) 107)), (3, .ref (xad (cX C) 126)), (4, .int x4)] [] (Z_20 L ys kc x4 μ) := by
  unfold Z_20
  refine J.aload_n (j := 1) hC eL_law_1224 rfl ?_
  refine J.aload_n (j := 0) hC eL_law_1225 rfl ?_
  refine J.iload (j := 4) hC eL_law_1226 rfl ?_
  refine J.iconst hC eL_law_1228 ci_1 ?_
  refine J.iadd hC eL_law_1229 ?_
  refine J.sld hC hs eL_law_1230 ?_
  refine J.callVI (st := []) hC eL_law_1231 kk_0 (by decide) rfl rfl ml_L_115 mv_X10_status ⟨rfl, rfl, Nat.le_of_ble_eq_true rfl, Nat.le_of_ble_eq_true rfl⟩ (c_X10_status hC.X (ys (nx (x4 + (1 : Int32)))) μ) rfl rfl (Nat.le_of_ble_eq_true rfl) (fun r_2 μ_1 => ?_)
  refine J.aload_n (j := 2) hC eL_law_1234 rfl ?_
  refine J.aload_n (j := 0) hC eL_law_1235 rfl ?_
  refine J.iload (j := 4) hC eL_law_1236 rfl ?_
  refine J.iconst hC eL_law_1238 ci_1 ?_
  refine J.iadd hC eL_law_1239 ?_
  refine J.sld hC hs eL_law_1240 ?_
  refine J.callVI (st := [.int r_2]) hC eL_law_1241 kk_107 (by decide) rfl rfl ml_L_118 mv_X11_status ⟨rfl, rfl, Nat.le_of_ble_eq_true rfl, Nat.le_of_ble_eq_true rfl⟩ (c_X11_status hC.X (ys (nx (x4 + (1 : Int32)))) μ_1) rfl rfl (Nat.le_of_ble_eq_true rfl) (fun r_4 μ_3 => ?_)
  refine J.icmp_eq hC eL_law_1244 (fun _ => ?_) (fun _ => ?_)
  · refine J.sub [0, 1, 2, 3, 4] rfl ?_
    exact hk x4 μ_3
  · exact J.no
theorem eL_law_1249 : DD cL_law 1249 (.aload_n 1) 1 1250 := ⟨by decide +kernel, rfl⟩
theorem eL_law_1250 : DD cL_law 1250 (.invokevirtual 119) 3 1253 := ⟨by decide +kernel, rfl⟩
theorem eL_law_1253 : DD cL_law 1253 (.aload_n 2) 1 1254 := ⟨by decide +kernel, rfl⟩
theorem eL_law_1254 : DD cL_law 1254 (.invokevirtual 122) 3 1257 := ⟨by decide +kernel, rfl⟩
theorem eL_law_1257 : DB cL_law 1257 (.if_icmp .eq 489) (489) 1260 1746 := ⟨by decide +kernel, rfl, by decide⟩
def Z_21 (L : Nat) (ys : Nat → Int32) (kc : Int32 → Mem → Option Unit) (x4 : Int32) (μ : Mem) : Option Unit :=
  bd (G_X10_undo  μ) (fun r_2 μ_1 => bd (G_X11_undo  μ_1) (fun r_4 μ_3 => if r_2 = r_4 then kc x4 μ_3 else none))
set_option maxHeartbeats 4000000 in
theorem z_21 {C : Cx} (hC : Ok C cL_law 7 RL room_1) {K : Unit → State → Prop} {b L : Nat} {ys : Nat → Int32} (hs : SC C b L ys) (kc : Int32 → Mem → Option Unit) (hk : ∀ (x4 : Int32) (μ : Mem), J C K μ 1746 [(0, .ref b), (1, .ref (xad (cX C) 0)), (2, .ref (xad (cX C) 107)), (3, .ref (xad (cX C) 126)), (4, .int x4)] [] (kc x4 μ)) (x4 : Int32) (μ : Mem) : J C K μ 1249 [(0, .ref b), (1, .ref (xad (cX C) 0)), (2, .ref (xad (cX C) 107)), (3, .ref (xad (cX C) 126)), (4, .int x4)] [] (Z_21 L ys kc x4 μ) := by
  unfold Z_21
  refine J.aload_n (j := 1) hC eL_law_1249 rfl ?_
  refine J.callVI (st := []) hC eL_law_1250 kk_0 (by decide) rfl rfl ml_L_119 mv_X10_undo ⟨rfl, rfl, Nat.le_of_ble_eq_true rfl, Nat.le_of_ble_eq_true rfl⟩ (c_X10_undo hC.X  μ) rfl rfl (Nat.le_of_ble_eq_true rfl) (fun r_2 μ_1 => ?_)
  refine J.aload_n (j := 2) hC eL_law_1253 rfl ?_
  refine J.callVI (st := [.int r_2]) hC eL_law_1254 kk_107 (by decide) rfl rfl ml_L_122 mv_X11_undo ⟨rfl, rfl, Nat.le_of_ble_eq_true rfl, Nat.le_of_ble_eq_true rfl⟩ (c_X11_undo hC.X  μ_1) rfl rfl (Nat.le_of_ble_eq_true rfl) (fun r_4 μ_3 => ?_)
  refine J.icmp_eq hC eL_law_1257 (fun _ => ?_) (fun _ => ?_)
  · refine J.sub [0, 1, 2, 3, 4] rfl ?_
    exact hk x4 μ_3
  · exact J.no
theorem eL_law_1262 : DD cL_law 1262 (.aload_n 1) 1 1263 := ⟨by decide +kernel, rfl⟩
theorem eL_law_1263 : DD cL_law 1263 (.aload_n 0) 1 1264 := ⟨by decide +kernel, rfl⟩
theorem eL_law_1264 : DD cL_law 1264 (.iload 4) 2 1266 := ⟨by decide +kernel, rfl⟩
theorem eL_law_1266 : DD cL_law 1266 (.iconst 1) 1 1267 := ⟨by decide +kernel, rfl⟩
theorem eL_law_1267 : DD cL_law 1267 (.iadd) 1 1268 := ⟨by decide +kernel, rfl⟩
theorem eL_law_1268 : DD cL_law 1268 (.iaload) 1 1269 := ⟨by decide +kernel, rfl⟩
theorem eL_law_1269 : DD cL_law 1269 (.aload_n 0) 1 1270 := ⟨by decide +kernel, rfl⟩
theorem eL_law_1270 : DD cL_law 1270 (.iload 4) 2 1272 := ⟨by decide +kernel, rfl⟩
theorem eL_law_1272 : DD cL_law 1272 (.iconst 2) 1 1273 := ⟨by decide +kernel, rfl⟩
theorem eL_law_1273 : DD cL_law 1273 (.iadd) 1 1274 := ⟨by decide +kernel, rfl⟩
theorem eL_law_1274 : DD cL_law 1274 (.iaload) 1 1275 := ⟨by decide +kernel, rfl⟩
theorem eL_law_1275 : DD cL_law 1275 (.invokevirtual 123) 3 1278 := ⟨by decide +kernel, rfl⟩
theorem eL_law_1278 : DD cL_law 1278 (.aload_n 2) 1 1279 := ⟨by decide +kernel, rfl⟩
theorem eL_law_1279 : DD cL_law 1279 (.aload_n 0) 1 1280 := ⟨by decide +kernel, rfl⟩
theorem eL_law_1280 : DD cL_law 1280 (.iload 4) 2 1282 := ⟨by decide +kernel, rfl⟩
theorem eL_law_1282 : DD cL_law 1282 (.iconst 1) 1 1283 := ⟨by decide +kernel, rfl⟩
theorem eL_law_1283 : DD cL_law 1283 (.iadd) 1 1284 := ⟨by decide +kernel, rfl⟩
theorem eL_law_1284 : DD cL_law 1284 (.iaload) 1 1285 := ⟨by decide +kernel, rfl⟩
theorem eL_law_1285 : DD cL_law 1285 (.aload_n 0) 1 1286 := ⟨by decide +kernel, rfl⟩
theorem eL_law_1286 : DD cL_law 1286 (.iload 4) 2 1288 := ⟨by decide +kernel, rfl⟩
theorem eL_law_1288 : DD cL_law 1288 (.iconst 2) 1 1289 := ⟨by decide +kernel, rfl⟩
theorem eL_law_1289 : DD cL_law 1289 (.iadd) 1 1290 := ⟨by decide +kernel, rfl⟩
theorem eL_law_1290 : DD cL_law 1290 (.iaload) 1 1291 := ⟨by decide +kernel, rfl⟩
theorem eL_law_1291 : DD cL_law 1291 (.invokevirtual 126) 3 1294 := ⟨by decide +kernel, rfl⟩
theorem eL_law_1294 : DB cL_law 1294 (.if_icmp .eq 452) (452) 1297 1746 := ⟨by decide +kernel, rfl, by decide⟩
def Z_22 (L : Nat) (ys : Nat → Int32) (kc : Int32 → Mem → Option Unit) (x4 : Int32) (μ : Mem) : Option Unit :=
  gq (inB (x4 + (1 : Int32)) L) (gq (inB (x4 + (2 : Int32)) L) (bd (G_X10_log (ys (nx (x4 + (1 : Int32)))) (ys (nx (x4 + (2 : Int32)))) μ) (fun r_2 μ_1 => gq (inB (x4 + (1 : Int32)) L) (gq (inB (x4 + (2 : Int32)) L) (bd (G_X11_log (ys (nx (x4 + (1 : Int32)))) (ys (nx (x4 + (2 : Int32)))) μ_1) (fun r_4 μ_3 => if r_2 = r_4 then kc x4 μ_3 else none))))))
set_option maxHeartbeats 4000000 in
theorem z_22 {C : Cx} (hC : Ok C cL_law 7 RL room_1) {K : Unit → State → Prop} {b L : Nat} {ys : Nat → Int32} (hs : SC C b L ys) (kc : Int32 → Mem → Option Unit) (hk : ∀ (x4 : Int32) (μ : Mem), J C K μ 1746 [(0, .ref b), (1, .ref (xad (cX C) 0)), (2, .ref (xad (cX C) 107)), (3, .ref (xad (cX C) 126)), (4, .int x4)] [] (kc x4 μ)) (x4 : Int32) (μ : Mem) : J C K μ 1262 [(0, .ref b), (1, .ref (xad (cX C) 0)), (2, .ref (xad (cX C) 107)), (3, .ref (xad (cX C) 126)), (4, .int x4)] [] (Z_22 L ys kc x4 μ) := by
  unfold Z_22
  refine J.aload_n (j := 1) hC eL_law_1262 rfl ?_
  refine J.aload_n (j := 0) hC eL_law_1263 rfl ?_
  refine J.iload (j := 4) hC eL_law_1264 rfl ?_
  refine J.iconst hC eL_law_1266 ci_1 ?_
  refine J.iadd hC eL_law_1267 ?_
  refine J.sld hC hs eL_law_1268 ?_
  refine J.aload_n (j := 0) hC eL_law_1269 rfl ?_
  refine J.iload (j := 4) hC eL_law_1270 rfl ?_
  refine J.iconst hC eL_law_1272 ci_2 ?_
  refine J.iadd hC eL_law_1273 ?_
  refine J.sld hC hs eL_law_1274 ?_
  refine J.callVI (st := []) hC eL_law_1275 kk_0 (by decide) rfl rfl ml_L_123 mv_X10_log ⟨rfl, rfl, Nat.le_of_ble_eq_true rfl, Nat.le_of_ble_eq_true rfl⟩ (c_X10_log hC.X (ys (nx (x4 + (1 : Int32)))) (ys (nx (x4 + (2 : Int32)))) μ) rfl rfl (Nat.le_of_ble_eq_true rfl) (fun r_2 μ_1 => ?_)
  refine J.aload_n (j := 2) hC eL_law_1278 rfl ?_
  refine J.aload_n (j := 0) hC eL_law_1279 rfl ?_
  refine J.iload (j := 4) hC eL_law_1280 rfl ?_
  refine J.iconst hC eL_law_1282 ci_1 ?_
  refine J.iadd hC eL_law_1283 ?_
  refine J.sld hC hs eL_law_1284 ?_
  refine J.aload_n (j := 0) hC eL_law_1285 rfl ?_
  refine J.iload (j := 4) hC eL_law_1286 rfl ?_
  refine J.iconst hC eL_law_1288 ci_2 ?_
  refine J.iadd hC eL_law_1289 ?_
  refine J.sld hC hs eL_law_1290 ?_
  refine J.callVI (st := [.int r_2]) hC eL_law_1291 kk_107 (by decide) rfl rfl ml_L_126 mv_X11_log ⟨rfl, rfl, Nat.le_of_ble_eq_true rfl, Nat.le_of_ble_eq_true rfl⟩ (c_X11_log hC.X (ys (nx (x4 + (1 : Int32)))) (ys (nx (x4 + (2 : Int32)))) μ_1) rfl rfl (Nat.le_of_ble_eq_true rfl) (fun r_4 μ_3 => ?_)
  refine J.icmp_eq hC eL_law_1294 (fun _ => ?_) (fun _ => ?_)
  · refine J.sub [0, 1, 2, 3, 4] rfl ?_
    exact hk x4 μ_3
  · exact J.no
theorem eL_law_1299 : DD cL_law 1299 (.aload_n 1) 1 1300 := ⟨by decide +kernel, rfl⟩
theorem eL_law_1300 : DD cL_law 1300 (.aload_n 0) 1 1301 := ⟨by decide +kernel, rfl⟩
theorem eL_law_1301 : DD cL_law 1301 (.iload 4) 2 1303 := ⟨by decide +kernel, rfl⟩
theorem eL_law_1303 : DD cL_law 1303 (.iconst 1) 1 1304 := ⟨by decide +kernel, rfl⟩
theorem eL_law_1304 : DD cL_law 1304 (.iadd) 1 1305 := ⟨by decide +kernel, rfl⟩
theorem eL_law_1305 : DD cL_law 1305 (.iaload) 1 1306 := ⟨by decide +kernel, rfl⟩
theorem eL_law_1306 : DD cL_law 1306 (.aload_n 0) 1 1307 := ⟨by decide +kernel, rfl⟩
theorem eL_law_1307 : DD cL_law 1307 (.iload 4) 2 1309 := ⟨by decide +kernel, rfl⟩
theorem eL_law_1309 : DD cL_law 1309 (.iconst 2) 1 1310 := ⟨by decide +kernel, rfl⟩
theorem eL_law_1310 : DD cL_law 1310 (.iadd) 1 1311 := ⟨by decide +kernel, rfl⟩
theorem eL_law_1311 : DD cL_law 1311 (.iaload) 1 1312 := ⟨by decide +kernel, rfl⟩
theorem eL_law_1312 : DD cL_law 1312 (.aload_n 0) 1 1313 := ⟨by decide +kernel, rfl⟩
theorem eL_law_1313 : DD cL_law 1313 (.iload 4) 2 1315 := ⟨by decide +kernel, rfl⟩
theorem eL_law_1315 : DD cL_law 1315 (.iconst 3) 1 1316 := ⟨by decide +kernel, rfl⟩
theorem eL_law_1316 : DD cL_law 1316 (.iadd) 1 1317 := ⟨by decide +kernel, rfl⟩
theorem eL_law_1317 : DD cL_law 1317 (.iaload) 1 1318 := ⟨by decide +kernel, rfl⟩
theorem eL_law_1318 : DD cL_law 1318 (.invokevirtual 127) 3 1321 := ⟨by decide +kernel, rfl⟩
theorem eL_law_1321 : DD cL_law 1321 (.aload_n 2) 1 1322 := ⟨by decide +kernel, rfl⟩
theorem eL_law_1322 : DD cL_law 1322 (.aload_n 0) 1 1323 := ⟨by decide +kernel, rfl⟩
theorem eL_law_1323 : DD cL_law 1323 (.iload 4) 2 1325 := ⟨by decide +kernel, rfl⟩
theorem eL_law_1325 : DD cL_law 1325 (.iconst 1) 1 1326 := ⟨by decide +kernel, rfl⟩
theorem eL_law_1326 : DD cL_law 1326 (.iadd) 1 1327 := ⟨by decide +kernel, rfl⟩
theorem eL_law_1327 : DD cL_law 1327 (.iaload) 1 1328 := ⟨by decide +kernel, rfl⟩
theorem eL_law_1328 : DD cL_law 1328 (.aload_n 0) 1 1329 := ⟨by decide +kernel, rfl⟩
theorem eL_law_1329 : DD cL_law 1329 (.iload 4) 2 1331 := ⟨by decide +kernel, rfl⟩
theorem eL_law_1331 : DD cL_law 1331 (.iconst 2) 1 1332 := ⟨by decide +kernel, rfl⟩
theorem eL_law_1332 : DD cL_law 1332 (.iadd) 1 1333 := ⟨by decide +kernel, rfl⟩
theorem eL_law_1333 : DD cL_law 1333 (.iaload) 1 1334 := ⟨by decide +kernel, rfl⟩
theorem eL_law_1334 : DD cL_law 1334 (.aload_n 0) 1 1335 := ⟨by decide +kernel, rfl⟩
theorem eL_law_1335 : DD cL_law 1335 (.iload 4) 2 1337 := ⟨by decide +kernel, rfl⟩
theorem eL_law_1337 : DD cL_law 1337 (.iconst 3) 1 1338 := ⟨by decide +kernel, rfl⟩
theorem eL_law_1338 : DD cL_law 1338 (.iadd) 1 1339 := ⟨by decide +kernel, rfl⟩
theorem eL_law_1339 : DD cL_law 1339 (.iaload) 1 1340 := ⟨by decide +kernel, rfl⟩
theorem eL_law_1340 : DD cL_law 1340 (.invokevirtual 130) 3 1343 := ⟨by decide +kernel, rfl⟩
theorem eL_law_1343 : DB cL_law 1343 (.if_icmp .eq 403) (403) 1346 1746 := ⟨by decide +kernel, rfl, by decide⟩
def Z_23 (L : Nat) (ys : Nat → Int32) (kc : Int32 → Mem → Option Unit) (x4 : Int32) (μ : Mem) : Option Unit :=
  gq (inB (x4 + (1 : Int32)) L) (gq (inB (x4 + (2 : Int32)) L) (gq (inB (x4 + (3 : Int32)) L) (bd (G_X10_where (ys (nx (x4 + (1 : Int32)))) (ys (nx (x4 + (2 : Int32)))) (ys (nx (x4 + (3 : Int32)))) μ) (fun r_2 μ_1 => gq (inB (x4 + (1 : Int32)) L) (gq (inB (x4 + (2 : Int32)) L) (gq (inB (x4 + (3 : Int32)) L) (bd (G_X11_where (ys (nx (x4 + (1 : Int32)))) (ys (nx (x4 + (2 : Int32)))) (ys (nx (x4 + (3 : Int32)))) μ_1) (fun r_4 μ_3 => if r_2 = r_4 then kc x4 μ_3 else none))))))))
set_option maxHeartbeats 4000000 in
theorem z_23 {C : Cx} (hC : Ok C cL_law 7 RL room_1) {K : Unit → State → Prop} {b L : Nat} {ys : Nat → Int32} (hs : SC C b L ys) (kc : Int32 → Mem → Option Unit) (hk : ∀ (x4 : Int32) (μ : Mem), J C K μ 1746 [(0, .ref b), (1, .ref (xad (cX C) 0)), (2, .ref (xad (cX C) 107)), (3, .ref (xad (cX C) 126)), (4, .int x4)] [] (kc x4 μ)) (x4 : Int32) (μ : Mem) : J C K μ 1299 [(0, .ref b), (1, .ref (xad (cX C) 0)), (2, .ref (xad (cX C) 107)), (3, .ref (xad (cX C) 126)), (4, .int x4)] [] (Z_23 L ys kc x4 μ) := by
  unfold Z_23
  refine J.aload_n (j := 1) hC eL_law_1299 rfl ?_
  refine J.aload_n (j := 0) hC eL_law_1300 rfl ?_
  refine J.iload (j := 4) hC eL_law_1301 rfl ?_
  refine J.iconst hC eL_law_1303 ci_1 ?_
  refine J.iadd hC eL_law_1304 ?_
  refine J.sld hC hs eL_law_1305 ?_
  refine J.aload_n (j := 0) hC eL_law_1306 rfl ?_
  refine J.iload (j := 4) hC eL_law_1307 rfl ?_
  refine J.iconst hC eL_law_1309 ci_2 ?_
  refine J.iadd hC eL_law_1310 ?_
  refine J.sld hC hs eL_law_1311 ?_
  refine J.aload_n (j := 0) hC eL_law_1312 rfl ?_
  refine J.iload (j := 4) hC eL_law_1313 rfl ?_
  refine J.iconst hC eL_law_1315 ci_3 ?_
  refine J.iadd hC eL_law_1316 ?_
  refine J.sld hC hs eL_law_1317 ?_
  refine J.callVI (st := []) hC eL_law_1318 kk_0 (by decide) rfl rfl ml_L_127 mv_X10_where ⟨rfl, rfl, Nat.le_of_ble_eq_true rfl, Nat.le_of_ble_eq_true rfl⟩ (c_X10_where hC.X (ys (nx (x4 + (1 : Int32)))) (ys (nx (x4 + (2 : Int32)))) (ys (nx (x4 + (3 : Int32)))) μ) rfl rfl (Nat.le_of_ble_eq_true rfl) (fun r_2 μ_1 => ?_)
  refine J.aload_n (j := 2) hC eL_law_1321 rfl ?_
  refine J.aload_n (j := 0) hC eL_law_1322 rfl ?_
  refine J.iload (j := 4) hC eL_law_1323 rfl ?_
  refine J.iconst hC eL_law_1325 ci_1 ?_
  refine J.iadd hC eL_law_1326 ?_
  refine J.sld hC hs eL_law_1327 ?_
  refine J.aload_n (j := 0) hC eL_law_1328 rfl ?_
  refine J.iload (j := 4) hC eL_law_1329 rfl ?_
  refine J.iconst hC eL_law_1331 ci_2 ?_
  refine J.iadd hC eL_law_1332 ?_
  refine J.sld hC hs eL_law_1333 ?_
  refine J.aload_n (j := 0) hC eL_law_1334 rfl ?_
  refine J.iload (j := 4) hC eL_law_1335 rfl ?_
  refine J.iconst hC eL_law_1337 ci_3 ?_
  refine J.iadd hC eL_law_1338 ?_
  refine J.sld hC hs eL_law_1339 ?_
  refine J.callVI (st := [.int r_2]) hC eL_law_1340 kk_107 (by decide) rfl rfl ml_L_130 mv_X11_where ⟨rfl, rfl, Nat.le_of_ble_eq_true rfl, Nat.le_of_ble_eq_true rfl⟩ (c_X11_where hC.X (ys (nx (x4 + (1 : Int32)))) (ys (nx (x4 + (2 : Int32)))) (ys (nx (x4 + (3 : Int32)))) μ_1) rfl rfl (Nat.le_of_ble_eq_true rfl) (fun r_4 μ_3 => ?_)
  refine J.icmp_eq hC eL_law_1343 (fun _ => ?_) (fun _ => ?_)
  · refine J.sub [0, 1, 2, 3, 4] rfl ?_
    exact hk x4 μ_3
  · exact J.no
theorem eL_law_1348 : DD cL_law 1348 (.aload_n 1) 1 1349 := ⟨by decide +kernel, rfl⟩
theorem eL_law_1349 : DD cL_law 1349 (.aload_n 0) 1 1350 := ⟨by decide +kernel, rfl⟩
theorem eL_law_1350 : DD cL_law 1350 (.iload 4) 2 1352 := ⟨by decide +kernel, rfl⟩
theorem eL_law_1352 : DD cL_law 1352 (.iconst 1) 1 1353 := ⟨by decide +kernel, rfl⟩
theorem eL_law_1353 : DD cL_law 1353 (.iadd) 1 1354 := ⟨by decide +kernel, rfl⟩
theorem eL_law_1354 : DD cL_law 1354 (.iaload) 1 1355 := ⟨by decide +kernel, rfl⟩
theorem eL_law_1355 : DD cL_law 1355 (.aload_n 0) 1 1356 := ⟨by decide +kernel, rfl⟩
theorem eL_law_1356 : DD cL_law 1356 (.iload 4) 2 1358 := ⟨by decide +kernel, rfl⟩
theorem eL_law_1358 : DD cL_law 1358 (.iconst 2) 1 1359 := ⟨by decide +kernel, rfl⟩
theorem eL_law_1359 : DD cL_law 1359 (.iadd) 1 1360 := ⟨by decide +kernel, rfl⟩
theorem eL_law_1360 : DD cL_law 1360 (.iaload) 1 1361 := ⟨by decide +kernel, rfl⟩
theorem eL_law_1361 : DD cL_law 1361 (.aload_n 0) 1 1362 := ⟨by decide +kernel, rfl⟩
theorem eL_law_1362 : DD cL_law 1362 (.iload 4) 2 1364 := ⟨by decide +kernel, rfl⟩
theorem eL_law_1364 : DD cL_law 1364 (.iconst 3) 1 1365 := ⟨by decide +kernel, rfl⟩
theorem eL_law_1365 : DD cL_law 1365 (.iadd) 1 1366 := ⟨by decide +kernel, rfl⟩
theorem eL_law_1366 : DD cL_law 1366 (.iaload) 1 1367 := ⟨by decide +kernel, rfl⟩
theorem eL_law_1367 : DD cL_law 1367 (.aload_n 0) 1 1368 := ⟨by decide +kernel, rfl⟩
theorem eL_law_1368 : DD cL_law 1368 (.iload 4) 2 1370 := ⟨by decide +kernel, rfl⟩
theorem eL_law_1370 : DD cL_law 1370 (.iconst 4) 1 1371 := ⟨by decide +kernel, rfl⟩
theorem eL_law_1371 : DD cL_law 1371 (.iadd) 1 1372 := ⟨by decide +kernel, rfl⟩
theorem eL_law_1372 : DD cL_law 1372 (.iaload) 1 1373 := ⟨by decide +kernel, rfl⟩
theorem eL_law_1373 : DD cL_law 1373 (.aload_n 0) 1 1374 := ⟨by decide +kernel, rfl⟩
theorem eL_law_1374 : DD cL_law 1374 (.iload 4) 2 1376 := ⟨by decide +kernel, rfl⟩
theorem eL_law_1376 : DD cL_law 1376 (.iconst 5) 1 1377 := ⟨by decide +kernel, rfl⟩
theorem eL_law_1377 : DD cL_law 1377 (.iadd) 1 1378 := ⟨by decide +kernel, rfl⟩
theorem eL_law_1378 : DD cL_law 1378 (.iaload) 1 1379 := ⟨by decide +kernel, rfl⟩
theorem eL_law_1379 : DD cL_law 1379 (.invokevirtual 131) 3 1382 := ⟨by decide +kernel, rfl⟩
theorem eL_law_1382 : DD cL_law 1382 (.aload_n 2) 1 1383 := ⟨by decide +kernel, rfl⟩
theorem eL_law_1383 : DD cL_law 1383 (.aload_n 0) 1 1384 := ⟨by decide +kernel, rfl⟩
theorem eL_law_1384 : DD cL_law 1384 (.iload 4) 2 1386 := ⟨by decide +kernel, rfl⟩
theorem eL_law_1386 : DD cL_law 1386 (.iconst 1) 1 1387 := ⟨by decide +kernel, rfl⟩
theorem eL_law_1387 : DD cL_law 1387 (.iadd) 1 1388 := ⟨by decide +kernel, rfl⟩
theorem eL_law_1388 : DD cL_law 1388 (.iaload) 1 1389 := ⟨by decide +kernel, rfl⟩
theorem eL_law_1389 : DD cL_law 1389 (.aload_n 0) 1 1390 := ⟨by decide +kernel, rfl⟩
theorem eL_law_1390 : DD cL_law 1390 (.iload 4) 2 1392 := ⟨by decide +kernel, rfl⟩
theorem eL_law_1392 : DD cL_law 1392 (.iconst 2) 1 1393 := ⟨by decide +kernel, rfl⟩
theorem eL_law_1393 : DD cL_law 1393 (.iadd) 1 1394 := ⟨by decide +kernel, rfl⟩
theorem eL_law_1394 : DD cL_law 1394 (.iaload) 1 1395 := ⟨by decide +kernel, rfl⟩
theorem eL_law_1395 : DD cL_law 1395 (.aload_n 0) 1 1396 := ⟨by decide +kernel, rfl⟩
theorem eL_law_1396 : DD cL_law 1396 (.iload 4) 2 1398 := ⟨by decide +kernel, rfl⟩
theorem eL_law_1398 : DD cL_law 1398 (.iconst 3) 1 1399 := ⟨by decide +kernel, rfl⟩
theorem eL_law_1399 : DD cL_law 1399 (.iadd) 1 1400 := ⟨by decide +kernel, rfl⟩
theorem eL_law_1400 : DD cL_law 1400 (.iaload) 1 1401 := ⟨by decide +kernel, rfl⟩
theorem eL_law_1401 : DD cL_law 1401 (.aload_n 0) 1 1402 := ⟨by decide +kernel, rfl⟩
theorem eL_law_1402 : DD cL_law 1402 (.iload 4) 2 1404 := ⟨by decide +kernel, rfl⟩
theorem eL_law_1404 : DD cL_law 1404 (.iconst 4) 1 1405 := ⟨by decide +kernel, rfl⟩
theorem eL_law_1405 : DD cL_law 1405 (.iadd) 1 1406 := ⟨by decide +kernel, rfl⟩
theorem eL_law_1406 : DD cL_law 1406 (.iaload) 1 1407 := ⟨by decide +kernel, rfl⟩
theorem eL_law_1407 : DD cL_law 1407 (.aload_n 0) 1 1408 := ⟨by decide +kernel, rfl⟩
theorem eL_law_1408 : DD cL_law 1408 (.iload 4) 2 1410 := ⟨by decide +kernel, rfl⟩
theorem eL_law_1410 : DD cL_law 1410 (.iconst 5) 1 1411 := ⟨by decide +kernel, rfl⟩
theorem eL_law_1411 : DD cL_law 1411 (.iadd) 1 1412 := ⟨by decide +kernel, rfl⟩
theorem eL_law_1412 : DD cL_law 1412 (.iaload) 1 1413 := ⟨by decide +kernel, rfl⟩
theorem eL_law_1413 : DD cL_law 1413 (.invokevirtual 135) 3 1416 := ⟨by decide +kernel, rfl⟩
theorem eL_law_1416 : DD cL_law 1416 (.lcmp) 1 1417 := ⟨by decide +kernel, rfl⟩
theorem eL_law_1417 : DB cL_law 1417 (.ifCond .eq 329) (329) 1420 1746 := ⟨by decide +kernel, rfl, by decide⟩
def Z_24 (L : Nat) (ys : Nat → Int32) (kc : Int32 → Mem → Option Unit) (x4 : Int32) (μ : Mem) : Option Unit :=
  gq (inB (x4 + (1 : Int32)) L) (gq (inB (x4 + (2 : Int32)) L) (gq (inB (x4 + (3 : Int32)) L) (gq (inB (x4 + (4 : Int32)) L) (gq (inB (x4 + (5 : Int32)) L) (bd (G_X10_join (ys (nx (x4 + (1 : Int32)))) (ys (nx (x4 + (2 : Int32)))) (ys (nx (x4 + (3 : Int32)))) (ys (nx (x4 + (4 : Int32)))) (ys (nx (x4 + (5 : Int32)))) μ) (fun r_2 μ_1 => gq (inB (x4 + (1 : Int32)) L) (gq (inB (x4 + (2 : Int32)) L) (gq (inB (x4 + (3 : Int32)) L) (gq (inB (x4 + (4 : Int32)) L) (gq (inB (x4 + (5 : Int32)) L) (bd (G_X11_join (ys (nx (x4 + (1 : Int32)))) (ys (nx (x4 + (2 : Int32)))) (ys (nx (x4 + (3 : Int32)))) (ys (nx (x4 + (4 : Int32)))) (ys (nx (x4 + (5 : Int32)))) μ_1) (fun r_4 μ_3 => if (lg_cmp r_2 r_4) = 0 then kc x4 μ_3 else none))))))))))))
set_option maxHeartbeats 4000000 in
theorem z_24 {C : Cx} (hC : Ok C cL_law 7 RL room_1) {K : Unit → State → Prop} {b L : Nat} {ys : Nat → Int32} (hs : SC C b L ys) (kc : Int32 → Mem → Option Unit) (hk : ∀ (x4 : Int32) (μ : Mem), J C K μ 1746 [(0, .ref b), (1, .ref (xad (cX C) 0)), (2, .ref (xad (cX C) 107)), (3, .ref (xad (cX C) 126)), (4, .int x4)] [] (kc x4 μ)) (x4 : Int32) (μ : Mem) : J C K μ 1348 [(0, .ref b), (1, .ref (xad (cX C) 0)), (2, .ref (xad (cX C) 107)), (3, .ref (xad (cX C) 126)), (4, .int x4)] [] (Z_24 L ys kc x4 μ) := by
  unfold Z_24
  refine J.aload_n (j := 1) hC eL_law_1348 rfl ?_
  refine J.aload_n (j := 0) hC eL_law_1349 rfl ?_
  refine J.iload (j := 4) hC eL_law_1350 rfl ?_
  refine J.iconst hC eL_law_1352 ci_1 ?_
  refine J.iadd hC eL_law_1353 ?_
  refine J.sld hC hs eL_law_1354 ?_
  refine J.aload_n (j := 0) hC eL_law_1355 rfl ?_
  refine J.iload (j := 4) hC eL_law_1356 rfl ?_
  refine J.iconst hC eL_law_1358 ci_2 ?_
  refine J.iadd hC eL_law_1359 ?_
  refine J.sld hC hs eL_law_1360 ?_
  refine J.aload_n (j := 0) hC eL_law_1361 rfl ?_
  refine J.iload (j := 4) hC eL_law_1362 rfl ?_
  refine J.iconst hC eL_law_1364 ci_3 ?_
  refine J.iadd hC eL_law_1365 ?_
  refine J.sld hC hs eL_law_1366 ?_
  refine J.aload_n (j := 0) hC eL_law_1367 rfl ?_
  refine J.iload (j := 4) hC eL_law_1368 rfl ?_
  refine J.iconst hC eL_law_1370 ci_4 ?_
  refine J.iadd hC eL_law_1371 ?_
  refine J.sld hC hs eL_law_1372 ?_
  refine J.aload_n (j := 0) hC eL_law_1373 rfl ?_
  refine J.iload (j := 4) hC eL_law_1374 rfl ?_
  refine J.iconst hC eL_law_1376 ci_5 ?_
  refine J.iadd hC eL_law_1377 ?_
  refine J.sld hC hs eL_law_1378 ?_
  refine J.callVL (st := []) hC eL_law_1379 kk_0 (by decide) rfl rfl ml_L_131 mv_X10_join ⟨rfl, rfl, Nat.le_of_ble_eq_true rfl, Nat.le_of_ble_eq_true rfl⟩ (c_X10_join hC.X (ys (nx (x4 + (1 : Int32)))) (ys (nx (x4 + (2 : Int32)))) (ys (nx (x4 + (3 : Int32)))) (ys (nx (x4 + (4 : Int32)))) (ys (nx (x4 + (5 : Int32)))) μ) rfl rfl (Nat.le_of_ble_eq_true rfl) (fun r_2 μ_1 => ?_)
  refine J.aload_n (j := 2) hC eL_law_1382 rfl ?_
  refine J.aload_n (j := 0) hC eL_law_1383 rfl ?_
  refine J.iload (j := 4) hC eL_law_1384 rfl ?_
  refine J.iconst hC eL_law_1386 ci_1 ?_
  refine J.iadd hC eL_law_1387 ?_
  refine J.sld hC hs eL_law_1388 ?_
  refine J.aload_n (j := 0) hC eL_law_1389 rfl ?_
  refine J.iload (j := 4) hC eL_law_1390 rfl ?_
  refine J.iconst hC eL_law_1392 ci_2 ?_
  refine J.iadd hC eL_law_1393 ?_
  refine J.sld hC hs eL_law_1394 ?_
  refine J.aload_n (j := 0) hC eL_law_1395 rfl ?_
  refine J.iload (j := 4) hC eL_law_1396 rfl ?_
  refine J.iconst hC eL_law_1398 ci_3 ?_
  refine J.iadd hC eL_law_1399 ?_
  refine J.sld hC hs eL_law_1400 ?_
  refine J.aload_n (j := 0) hC eL_law_1401 rfl ?_
  refine J.iload (j := 4) hC eL_law_1402 rfl ?_
  refine J.iconst hC eL_law_1404 ci_4 ?_
  refine J.iadd hC eL_law_1405 ?_
  refine J.sld hC hs eL_law_1406 ?_
  refine J.aload_n (j := 0) hC eL_law_1407 rfl ?_
  refine J.iload (j := 4) hC eL_law_1408 rfl ?_
  refine J.iconst hC eL_law_1410 ci_5 ?_
  refine J.iadd hC eL_law_1411 ?_
  refine J.sld hC hs eL_law_1412 ?_
  refine J.callVL (st := [.long r_2]) hC eL_law_1413 kk_107 (by decide) rfl rfl ml_L_135 mv_X11_join ⟨rfl, rfl, Nat.le_of_ble_eq_true rfl, Nat.le_of_ble_eq_true rfl⟩ (c_X11_join hC.X (ys (nx (x4 + (1 : Int32)))) (ys (nx (x4 + (2 : Int32)))) (ys (nx (x4 + (3 : Int32)))) (ys (nx (x4 + (4 : Int32)))) (ys (nx (x4 + (5 : Int32)))) μ_1) rfl rfl (Nat.le_of_ble_eq_true rfl) (fun r_4 μ_3 => ?_)
  refine J.lcmp hC eL_law_1416 ?_
  refine J.if_eq hC eL_law_1417 (fun _ => ?_) (fun _ => ?_)
  · refine J.sub [0, 1, 2, 3, 4] rfl ?_
    exact hk x4 μ_3
  · exact J.no
theorem eL_law_1422 : DD cL_law 1422 (.aload_n 1) 1 1423 := ⟨by decide +kernel, rfl⟩
theorem eL_law_1423 : DD cL_law 1423 (.aload_n 0) 1 1424 := ⟨by decide +kernel, rfl⟩
theorem eL_law_1424 : DD cL_law 1424 (.iload 4) 2 1426 := ⟨by decide +kernel, rfl⟩
theorem eL_law_1426 : DD cL_law 1426 (.iconst 1) 1 1427 := ⟨by decide +kernel, rfl⟩
theorem eL_law_1427 : DD cL_law 1427 (.iadd) 1 1428 := ⟨by decide +kernel, rfl⟩
theorem eL_law_1428 : DD cL_law 1428 (.iaload) 1 1429 := ⟨by decide +kernel, rfl⟩
theorem eL_law_1429 : DD cL_law 1429 (.invokevirtual 136) 3 1432 := ⟨by decide +kernel, rfl⟩
theorem eL_law_1432 : DD cL_law 1432 (.aload_n 2) 1 1433 := ⟨by decide +kernel, rfl⟩
theorem eL_law_1433 : DD cL_law 1433 (.aload_n 0) 1 1434 := ⟨by decide +kernel, rfl⟩
theorem eL_law_1434 : DD cL_law 1434 (.iload 4) 2 1436 := ⟨by decide +kernel, rfl⟩
theorem eL_law_1436 : DD cL_law 1436 (.iconst 1) 1 1437 := ⟨by decide +kernel, rfl⟩
theorem eL_law_1437 : DD cL_law 1437 (.iadd) 1 1438 := ⟨by decide +kernel, rfl⟩
theorem eL_law_1438 : DD cL_law 1438 (.iaload) 1 1439 := ⟨by decide +kernel, rfl⟩
theorem eL_law_1439 : DD cL_law 1439 (.invokevirtual 140) 3 1442 := ⟨by decide +kernel, rfl⟩
theorem eL_law_1442 : DD cL_law 1442 (.lcmp) 1 1443 := ⟨by decide +kernel, rfl⟩
theorem eL_law_1443 : DB cL_law 1443 (.ifCond .eq 303) (303) 1446 1746 := ⟨by decide +kernel, rfl, by decide⟩
def Z_25 (L : Nat) (ys : Nat → Int32) (kc : Int32 → Mem → Option Unit) (x4 : Int32) (μ : Mem) : Option Unit :=
  gq (inB (x4 + (1 : Int32)) L) (bd (G_X10_chain (ys (nx (x4 + (1 : Int32)))) μ) (fun r_2 μ_1 => gq (inB (x4 + (1 : Int32)) L) (bd (G_X11_chain (ys (nx (x4 + (1 : Int32)))) μ_1) (fun r_4 μ_3 => if (lg_cmp r_2 r_4) = 0 then kc x4 μ_3 else none))))
set_option maxHeartbeats 4000000 in
theorem z_25 {C : Cx} (hC : Ok C cL_law 7 RL room_1) {K : Unit → State → Prop} {b L : Nat} {ys : Nat → Int32} (hs : SC C b L ys) (kc : Int32 → Mem → Option Unit) (hk : ∀ (x4 : Int32) (μ : Mem), J C K μ 1746 [(0, .ref b), (1, .ref (xad (cX C) 0)), (2, .ref (xad (cX C) 107)), (3, .ref (xad (cX C) 126)), (4, .int x4)] [] (kc x4 μ)) (x4 : Int32) (μ : Mem) : J C K μ 1422 [(0, .ref b), (1, .ref (xad (cX C) 0)), (2, .ref (xad (cX C) 107)), (3, .ref (xad (cX C) 126)), (4, .int x4)] [] (Z_25 L ys kc x4 μ) := by
  unfold Z_25
  refine J.aload_n (j := 1) hC eL_law_1422 rfl ?_
  refine J.aload_n (j := 0) hC eL_law_1423 rfl ?_
  refine J.iload (j := 4) hC eL_law_1424 rfl ?_
  refine J.iconst hC eL_law_1426 ci_1 ?_
  refine J.iadd hC eL_law_1427 ?_
  refine J.sld hC hs eL_law_1428 ?_
  refine J.callVL (st := []) hC eL_law_1429 kk_0 (by decide) rfl rfl ml_L_136 mv_X10_chain ⟨rfl, rfl, Nat.le_of_ble_eq_true rfl, Nat.le_of_ble_eq_true rfl⟩ (c_X10_chain hC.X (ys (nx (x4 + (1 : Int32)))) μ) rfl rfl (Nat.le_of_ble_eq_true rfl) (fun r_2 μ_1 => ?_)
  refine J.aload_n (j := 2) hC eL_law_1432 rfl ?_
  refine J.aload_n (j := 0) hC eL_law_1433 rfl ?_
  refine J.iload (j := 4) hC eL_law_1434 rfl ?_
  refine J.iconst hC eL_law_1436 ci_1 ?_
  refine J.iadd hC eL_law_1437 ?_
  refine J.sld hC hs eL_law_1438 ?_
  refine J.callVL (st := [.long r_2]) hC eL_law_1439 kk_107 (by decide) rfl rfl ml_L_140 mv_X11_chain ⟨rfl, rfl, Nat.le_of_ble_eq_true rfl, Nat.le_of_ble_eq_true rfl⟩ (c_X11_chain hC.X (ys (nx (x4 + (1 : Int32)))) μ_1) rfl rfl (Nat.le_of_ble_eq_true rfl) (fun r_4 μ_3 => ?_)
  refine J.lcmp hC eL_law_1442 ?_
  refine J.if_eq hC eL_law_1443 (fun _ => ?_) (fun _ => ?_)
  · refine J.sub [0, 1, 2, 3, 4] rfl ?_
    exact hk x4 μ_3
  · exact J.no
