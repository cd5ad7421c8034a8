/-! The law: its cases. -/
set_option maxHeartbeats 4000000 in
set_option maxRecDepth 100000 in
theorem law_c16 {C : Ctx} (X : CX C code 7 RL wsL_law room_1 (some .boolean)) {b Ln k0 kc ks : Nat} {xs : Nat → Int32} {σ : Mem} (HX : SX C b Ln xs) (hk : k0 + 5 ≤ Ln) (hr : kc + 1 ≤ 1084 ∧ ks + 6 ≤ 9122) (hS : WLD σ) (kk : ∀ σ', WLD σ' → G C 7 (kc + 1) (ks + 6) 1588 (LL C b k0) [] σ') : G C 7 kc ks 1198 (LL C b k0) [] σ := by
  obtain ⟨kv, σ1, bv, σ2, e1, e2, h35, h50, hW⟩ := st_order hS
  refine g_aload_n X dL_law_1198 1 rfl rfl ?_
  refine g_aload_n X dL_law_1199 3 rfl rfl ?_
  refine c_KW (vs := [.ref (adr C 0), .ref (adr C 50)]) (rest := []) X (kL_order (cL C) σ) (fun s a hts => vx_cwSW 2 hts gL_law_L_order rfl rfl rfl (by decide +kernel) ⟨Nat.le_of_ble_eq_true rfl, Nat.le_of_ble_eq_true rfl⟩) rfl rfl rfl (Nat.le_of_ble_eq_true rfl) dL_law_1200 hr e1 ?_
  refine g_istore (L' := (5, .int kv) :: LL C b k0) X dL_law_1203 (by decide) rfl ?_
  refine g_aload_n X dL_law_1205 3 rfl rfl ?_
  refine c_VIeq (q := 35) (vs := []) (rest := []) X (kX3_order (cL C) σ1) (fun s a hts => cwV 0 hts gL_law_X3_order rfl rfl rfl (by decide +kernel) ⟨Nat.le_of_ble_eq_true rfl, Nat.le_of_ble_eq_true rfl⟩) obj_m (rfl : vwCl[3]? = some (RX3, TX3, 21)) rfl rfl rfl rfl (Nat.le_of_ble_eq_true rfl) dL_law_1206 hr e2 ?_
  refine g_istore (L' := (6, .int bv) :: (5, .int kv) :: LL C b k0) X dL_law_1209 (by decide) rfl ?_
  exact l_tail (p := 1211) X h35 h50 hr rfl rfl rfl rfl dL_law_1211 dL_law_1212 dL_law_1215 dL_law_1217 dL_law_1222 dL_law_1224 dL_law_1227 dL_law_1228 dL_law_1229 dL_law_1230 dL_law_1232 dL_law_1233 dL_law_1234 dL_law_1239 (by decide) (kk σ2 hW)
set_option maxHeartbeats 4000000 in
set_option maxRecDepth 100000 in
theorem law_c17 {C : Ctx} (X : CX C code 7 RL wsL_law room_1 (some .boolean)) {b Ln k0 kc ks : Nat} {xs : Nat → Int32} {σ : Mem} (HX : SX C b Ln xs) (hk : k0 + 5 ≤ Ln) (hr : kc + 1 ≤ 1084 ∧ ks + 6 ≤ 9122) (hS : WLD σ) (kk : ∀ σ', WLD σ' → G C 7 (kc + 1) (ks + 6) 1588 (LL C b k0) [] σ') : G C 7 kc ks 1242 (LL C b k0) [] σ := by
  obtain ⟨kv, σ1, bv, σ2, e1, e2, h35, h50, hW⟩ := st_carry (x := xs (k0 + 1)) (y := xs (k0 + 2)) (c := xs (k0 + 3)) hS
  refine g_aload_n X dL_law_1242 1 rfl rfl ?_
  refine l_arg X HX (k0 := k0) (j := 1) (p0 := 0) (p4 := 4) (by omega) rfl rfl rfl dL_law_1243 dL_law_1244 dL_law_1246 dL_law_1247 dL_law_1248 ?_
  refine l_arg X HX (k0 := k0) (j := 2) (p0 := 0) (p4 := 4) (by omega) rfl rfl rfl dL_law_1249 dL_law_1250 dL_law_1252 dL_law_1253 dL_law_1254 ?_
  refine l_arg X HX (k0 := k0) (j := 3) (p0 := 0) (p4 := 4) (by omega) rfl rfl rfl dL_law_1255 dL_law_1256 dL_law_1258 dL_law_1259 dL_law_1260 ?_
  refine g_aload_n X dL_law_1261 3 rfl rfl ?_
  refine c_KW (vs := [.ref (adr C 0), .int (xs (k0 + 1)), .int (xs (k0 + 2)), .int (xs (k0 + 3)), .ref (adr C 50)]) (rest := []) X (kL_carry (cL C) (xs (k0 + 1)) (xs (k0 + 2)) (xs (k0 + 3)) σ) (fun s a hts => vx_cwSW 5 hts gL_law_L_carry rfl rfl rfl (by decide +kernel) ⟨Nat.le_of_ble_eq_true rfl, Nat.le_of_ble_eq_true rfl⟩) rfl rfl rfl (Nat.le_of_ble_eq_true rfl) dL_law_1262 hr e1 ?_
  refine g_istore (L' := (5, .int kv) :: LL C b k0) X dL_law_1265 (by decide) rfl ?_
  refine g_aload_n X dL_law_1267 3 rfl rfl ?_
  refine l_arg X HX (k0 := k0) (j := 1) (p0 := 1) (p4 := 5) (by omega) rfl rfl rfl dL_law_1268 dL_law_1269 dL_law_1271 dL_law_1272 dL_law_1273 ?_
  refine l_arg X HX (k0 := k0) (j := 2) (p0 := 1) (p4 := 5) (by omega) rfl rfl rfl dL_law_1274 dL_law_1275 dL_law_1277 dL_law_1278 dL_law_1279 ?_
  refine l_arg X HX (k0 := k0) (j := 3) (p0 := 1) (p4 := 5) (by omega) rfl rfl rfl dL_law_1280 dL_law_1281 dL_law_1283 dL_law_1284 dL_law_1285 ?_
  refine c_VIeq (q := 35) (vs := [.int (xs (k0 + 1)), .int (xs (k0 + 2)), .int (xs (k0 + 3))]) (rest := []) X (kX3_carry (cL C) (xs (k0 + 1)) (xs (k0 + 2)) (xs (k0 + 3)) σ1) (fun s a hts => cwV 3 hts gL_law_X3_carry rfl rfl rfl (by decide +kernel) ⟨Nat.le_of_ble_eq_true rfl, Nat.le_of_ble_eq_true rfl⟩) obj_m (rfl : vwCl[3]? = some (RX3, TX3, 21)) rfl rfl rfl rfl (Nat.le_of_ble_eq_true rfl) dL_law_1286 hr e2 ?_
  refine g_istore (L' := (6, .int bv) :: (5, .int kv) :: LL C b k0) X dL_law_1289 (by decide) rfl ?_
  exact l_tail (p := 1291) X h35 h50 hr rfl rfl rfl rfl dL_law_1291 dL_law_1292 dL_law_1295 dL_law_1297 dL_law_1302 dL_law_1304 dL_law_1307 dL_law_1308 dL_law_1309 dL_law_1310 dL_law_1312 dL_law_1313 dL_law_1314 dL_law_1319 (by decide) (kk σ2 hW)
set_option maxHeartbeats 4000000 in
set_option maxRecDepth 100000 in
theorem law_c18 {C : Ctx} (X : CX C code 7 RL wsL_law room_1 (some .boolean)) {b k0 kc ks : Nat} {σ : Mem} (hr : kc ≤ 1084 ∧ ks ≤ 9122) (hS : WLD σ) (kk : ∀ σ', WLD σ' → G C 7 kc ks 1588 (LL C b k0) [] σ') : G C 7 kc ks 1322 (LL C b k0) [] σ := by
  obtain ⟨bv, σ1, σ2, e1, e2, hW⟩ := st_take hS
  refine g_aload_n X dL_law_1322 1 rfl rfl ?_
  refine c_VIeq (q := 0) (vs := []) (rest := []) X (kX2_take (cL C) σ) (fun s a hts => cwV 0 hts gL_law_X2_take rfl rfl rfl (by decide +kernel) ⟨Nat.le_of_ble_eq_true rfl, Nat.le_of_ble_eq_true rfl⟩) obj_x (rfl : vwCl[2]? = some (RX2, TX2, 15)) rfl rfl rfl rfl (Nat.le_of_ble_eq_true rfl) dL_law_1323 hr e1 ?_
  refine g_aload_n X dL_law_1326 2 rfl rfl ?_
  refine c_VIeq (q := 35) (vs := []) (rest := [.int bv]) X (kX3_take (cL C) σ1) (fun s a hts => cwV 0 hts gL_law_X3_take rfl rfl rfl (by decide +kernel) ⟨Nat.le_of_ble_eq_true rfl, Nat.le_of_ble_eq_true rfl⟩) obj_m (rfl : vwCl[3]? = some (RX3, TX3, 21)) rfl rfl rfl rfl (Nat.le_of_ble_eq_true rfl) dL_law_1327 hr e2 ?_
  exact l_icmp_eq (tgt := 1588) X dL_law_1330 (by decide) (fun _ => kk σ2 hW) (fun hc => absurd rfl hc)
set_option maxHeartbeats 4000000 in
set_option maxRecDepth 100000 in
theorem law_c19 {C : Ctx} (X : CX C code 7 RL wsL_law room_1 (some .boolean)) {b k0 kc ks : Nat} {σ : Mem} (hr : kc ≤ 1084 ∧ ks ≤ 9122) (hS : WLD σ) (kk : ∀ σ', WLD σ' → G C 7 kc ks 1588 (LL C b k0) [] σ') : G C 7 kc ks 1335 (LL C b k0) [] σ := by
  obtain ⟨bv, σ1, σ2, e1, e2, hW⟩ := st_whyNot hS
  refine g_aload_n X dL_law_1335 1 rfl rfl ?_
  refine c_VIeq (q := 0) (vs := []) (rest := []) X (kX2_whyNot (cL C) σ) (fun s a hts => cwV 0 hts gL_law_X2_whyNot rfl rfl rfl (by decide +kernel) ⟨Nat.le_of_ble_eq_true rfl, Nat.le_of_ble_eq_true rfl⟩) obj_x (rfl : vwCl[2]? = some (RX2, TX2, 15)) rfl rfl rfl rfl (Nat.le_of_ble_eq_true rfl) dL_law_1336 hr e1 ?_
  refine g_aload_n X dL_law_1339 2 rfl rfl ?_
  refine c_VIeq (q := 35) (vs := []) (rest := [.int bv]) X (kX3_whyNot (cL C) σ1) (fun s a hts => cwV 0 hts gL_law_X3_whyNot rfl rfl rfl (by decide +kernel) ⟨Nat.le_of_ble_eq_true rfl, Nat.le_of_ble_eq_true rfl⟩) obj_m (rfl : vwCl[3]? = some (RX3, TX3, 21)) rfl rfl rfl rfl (Nat.le_of_ble_eq_true rfl) dL_law_1340 hr e2 ?_
  exact l_icmp_eq (tgt := 1588) X dL_law_1343 (by decide) (fun _ => kk σ2 hW) (fun hc => absurd rfl hc)
set_option maxHeartbeats 4000000 in
set_option maxRecDepth 100000 in
theorem law_c20 {C : Ctx} (X : CX C code 7 RL wsL_law room_1 (some .boolean)) {b Ln k0 kc ks : Nat} {xs : Nat → Int32} {σ : Mem} (HX : SX C b Ln xs) (hk : k0 + 5 ≤ Ln) (hr : kc + 1 ≤ 1084 ∧ ks + 6 ≤ 9122) (hS : WLD σ) (kk : ∀ σ', WLD σ' → G C 7 (kc + 1) (ks + 6) 1588 (LL C b k0) [] σ') : G C 7 kc ks 1348 (LL C b k0) [] σ := by
  obtain ⟨kv, σ1, bv, σ2, e1, e2, h35, h50, hW⟩ := st_handCost hS
  refine g_aload_n X dL_law_1348 1 rfl rfl ?_
  refine g_aload_n X dL_law_1349 3 rfl rfl ?_
  refine c_KW (vs := [.ref (adr C 0), .ref (adr C 50)]) (rest := []) X (kL_handCost (cL C) σ) (fun s a hts => vx_cwSW 2 hts gL_law_L_handCost rfl rfl rfl (by decide +kernel) ⟨Nat.le_of_ble_eq_true rfl, Nat.le_of_ble_eq_true rfl⟩) rfl rfl rfl (Nat.le_of_ble_eq_true rfl) dL_law_1350 hr e1 ?_
  refine g_istore (L' := (5, .int kv) :: LL C b k0) X dL_law_1353 (by decide) rfl ?_
  refine g_aload_n X dL_law_1355 3 rfl rfl ?_
  refine c_VIeq (q := 35) (vs := []) (rest := []) X (kX3_handCost (cL C) σ1) (fun s a hts => cwV 0 hts gL_law_X3_handCost rfl rfl rfl (by decide +kernel) ⟨Nat.le_of_ble_eq_true rfl, Nat.le_of_ble_eq_true rfl⟩) obj_m (rfl : vwCl[3]? = some (RX3, TX3, 21)) rfl rfl rfl rfl (Nat.le_of_ble_eq_true rfl) dL_law_1356 hr e2 ?_
  refine g_istore (L' := (6, .int bv) :: (5, .int kv) :: LL C b k0) X dL_law_1359 (by decide) rfl ?_
  exact l_tail (p := 1361) X h35 h50 hr rfl rfl rfl rfl dL_law_1361 dL_law_1362 dL_law_1365 dL_law_1367 dL_law_1372 dL_law_1374 dL_law_1377 dL_law_1378 dL_law_1379 dL_law_1380 dL_law_1382 dL_law_1383 dL_law_1384 dL_law_1389 (by decide) (kk σ2 hW)
set_option maxHeartbeats 4000000 in
set_option maxRecDepth 100000 in
theorem law_c21 {C : Ctx} (X : CX C code 7 RL wsL_law room_1 (some .boolean)) {b Ln k0 kc ks : Nat} {xs : Nat → Int32} {σ : Mem} (HX : SX C b Ln xs) (hk : k0 + 5 ≤ Ln) (hr : kc + 1 ≤ 1084 ∧ ks + 6 ≤ 9122) (hS : WLD σ) (kk : ∀ σ', WLD σ' → G C 7 (kc + 1) (ks + 6) 1588 (LL C b k0) [] σ') : G C 7 kc ks 1392 (LL C b k0) [] σ := by
  obtain ⟨kv, σ1, bv, σ2, e1, e2, h35, h50, hW⟩ := st_middle hS
  refine g_aload_n X dL_law_1392 1 rfl rfl ?_
  refine g_aload_n X dL_law_1393 3 rfl rfl ?_
  refine c_KW (vs := [.ref (adr C 0), .ref (adr C 50)]) (rest := []) X (kL_middle (cL C) σ) (fun s a hts => vx_cwSW 2 hts gL_law_L_middle rfl rfl rfl (by decide +kernel) ⟨Nat.le_of_ble_eq_true rfl, Nat.le_of_ble_eq_true rfl⟩) rfl rfl rfl (Nat.le_of_ble_eq_true rfl) dL_law_1394 hr e1 ?_
  refine g_istore (L' := (5, .int kv) :: LL C b k0) X dL_law_1397 (by decide) rfl ?_
  refine g_aload_n X dL_law_1399 3 rfl rfl ?_
  refine c_VIeq (q := 35) (vs := []) (rest := []) X (kX3_middle (cL C) σ1) (fun s a hts => cwV 0 hts gL_law_X3_middle rfl rfl rfl (by decide +kernel) ⟨Nat.le_of_ble_eq_true rfl, Nat.le_of_ble_eq_true rfl⟩) obj_m (rfl : vwCl[3]? = some (RX3, TX3, 21)) rfl rfl rfl rfl (Nat.le_of_ble_eq_true rfl) dL_law_1400 hr e2 ?_
  refine g_istore (L' := (6, .int bv) :: (5, .int kv) :: LL C b k0) X dL_law_1403 (by decide) rfl ?_
  exact l_tail (p := 1405) X h35 h50 hr rfl rfl rfl rfl dL_law_1405 dL_law_1406 dL_law_1409 dL_law_1411 dL_law_1416 dL_law_1418 dL_law_1421 dL_law_1422 dL_law_1423 dL_law_1424 dL_law_1426 dL_law_1427 dL_law_1428 dL_law_1433 (by decide) (kk σ2 hW)
set_option maxHeartbeats 4000000 in
set_option maxRecDepth 100000 in
theorem law_c22 {C : Ctx} (X : CX C code 7 RL wsL_law room_1 (some .boolean)) {b Ln k0 kc ks : Nat} {xs : Nat → Int32} {σ : Mem} (HX : SX C b Ln xs) (hk : k0 + 5 ≤ Ln) (hr : kc + 1 ≤ 1084 ∧ ks + 6 ≤ 9122) (hS : WLD σ) (kk : ∀ σ', WLD σ' → G C 7 (kc + 1) (ks + 6) 1588 (LL C b k0) [] σ') : G C 7 kc ks 1436 (LL C b k0) [] σ := by
  obtain ⟨kv, σ1, bv, σ2, e1, e2, h35, h50, hW⟩ := st_about (v := bz (xs (k0 + 1))) (x := xs (k0 + 2)) (y := xs (k0 + 3)) hS
  refine g_aload_n X dL_law_1436 1 rfl rfl ?_
  refine l_arg X HX (k0 := k0) (j := 1) (p0 := 0) (p4 := 4) (by omega) rfl rfl rfl dL_law_1437 dL_law_1438 dL_law_1440 dL_law_1441 dL_law_1442 ?_
  refine l_bool (t7 := 1450) (t8 := 1451) X dL_law_1443 dL_law_1446 dL_law_1447 dL_law_1450 rfl rfl ?_
  refine l_arg X HX (k0 := k0) (j := 2) (p0 := 0) (p4 := 4) (by omega) rfl rfl rfl dL_law_1451 dL_law_1452 dL_law_1454 dL_law_1455 dL_law_1456 ?_
  refine l_arg X HX (k0 := k0) (j := 3) (p0 := 0) (p4 := 4) (by omega) rfl rfl rfl dL_law_1457 dL_law_1458 dL_law_1460 dL_law_1461 dL_law_1462 ?_
  refine g_aload_n X dL_law_1463 3 rfl rfl ?_
  refine c_KW (vs := [.ref (adr C 0), .int (bz (xs (k0 + 1))), .int (xs (k0 + 2)), .int (xs (k0 + 3)), .ref (adr C 50)]) (rest := []) X (kL_about (cL C) (bz (xs (k0 + 1))) (xs (k0 + 2)) (xs (k0 + 3)) σ) (fun s a hts => vx_cwSW 5 hts gL_law_L_about rfl rfl rfl (by decide +kernel) ⟨Nat.le_of_ble_eq_true rfl, Nat.le_of_ble_eq_true rfl⟩) rfl rfl rfl (Nat.le_of_ble_eq_true rfl) dL_law_1464 hr e1 ?_
  refine g_istore (L' := (5, .int kv) :: LL C b k0) X dL_law_1467 (by decide) rfl ?_
  refine g_aload_n X dL_law_1469 3 rfl rfl ?_
  refine l_arg X HX (k0 := k0) (j := 1) (p0 := 1) (p4 := 5) (by omega) rfl rfl rfl dL_law_1470 dL_law_1471 dL_law_1473 dL_law_1474 dL_law_1475 ?_
  refine l_bool (t7 := 1483) (t8 := 1484) X dL_law_1476 dL_law_1479 dL_law_1480 dL_law_1483 rfl rfl ?_
  refine l_arg X HX (k0 := k0) (j := 2) (p0 := 1) (p4 := 5) (by omega) rfl rfl rfl dL_law_1484 dL_law_1485 dL_law_1487 dL_law_1488 dL_law_1489 ?_
  refine l_arg X HX (k0 := k0) (j := 3) (p0 := 1) (p4 := 5) (by omega) rfl rfl rfl dL_law_1490 dL_law_1491 dL_law_1493 dL_law_1494 dL_law_1495 ?_
  refine c_VIeq (q := 35) (vs := [.int (bz (xs (k0 + 1))), .int (xs (k0 + 2)), .int (xs (k0 + 3))]) (rest := []) X (kX3_about (cL C) (bz (xs (k0 + 1))) (xs (k0 + 2)) (xs (k0 + 3)) σ1) (fun s a hts => cwV 3 hts gL_law_X3_about rfl rfl rfl (by decide +kernel) ⟨Nat.le_of_ble_eq_true rfl, Nat.le_of_ble_eq_true rfl⟩) obj_m (rfl : vwCl[3]? = some (RX3, TX3, 21)) rfl rfl rfl rfl (Nat.le_of_ble_eq_true rfl) dL_law_1496 hr e2 ?_
  refine g_istore (L' := (6, .int bv) :: (5, .int kv) :: LL C b k0) X dL_law_1499 (by decide) rfl ?_
  exact l_tail (p := 1501) X h35 h50 hr rfl rfl rfl rfl dL_law_1501 dL_law_1502 dL_law_1505 dL_law_1507 dL_law_1512 dL_law_1514 dL_law_1517 dL_law_1518 dL_law_1519 dL_law_1520 dL_law_1522 dL_law_1523 dL_law_1524 dL_law_1529 (by decide) (kk σ2 hW)
set_option maxHeartbeats 4000000 in
set_option maxRecDepth 100000 in
theorem law_c23 {C : Ctx} (X : CX C code 7 RL wsL_law room_1 (some .boolean)) {b Ln k0 kc ks : Nat} {xs : Nat → Int32} {σ : Mem} (HX : SX C b Ln xs) (hk : k0 + 5 ≤ Ln) (hr : kc + 1 ≤ 1084 ∧ ks + 6 ≤ 9122) (hS : WLD σ) (kk : ∀ σ', WLD σ' → G C 7 (kc + 1) (ks + 6) 1588 (LL C b k0) [] σ') : G C 7 kc ks 1532 (LL C b k0) [] σ := by
  obtain ⟨kv, σ1, bv, σ2, e1, e2, h35, h50, hW⟩ := st_count (x := xs (k0 + 1)) hS
  refine g_aload_n X dL_law_1532 1 rfl rfl ?_
  refine l_arg X HX (k0 := k0) (j := 1) (p0 := 0) (p4 := 4) (by omega) rfl rfl rfl dL_law_1533 dL_law_1534 dL_law_1536 dL_law_1537 dL_law_1538 ?_
  refine g_aload_n X dL_law_1539 3 rfl rfl ?_
  refine c_KW (vs := [.ref (adr C 0), .int (xs (k0 + 1)), .ref (adr C 50)]) (rest := []) X (kL_count (cL C) (xs (k0 + 1)) σ) (fun s a hts => vx_cwSW 3 hts gL_law_L_count rfl rfl rfl (by decide +kernel) ⟨Nat.le_of_ble_eq_true rfl, Nat.le_of_ble_eq_true rfl⟩) rfl rfl rfl (Nat.le_of_ble_eq_true rfl) dL_law_1540 hr e1 ?_
  refine g_istore (L' := (5, .int kv) :: LL C b k0) X dL_law_1543 (by decide) rfl ?_
  refine g_aload_n X dL_law_1545 3 rfl rfl ?_
  refine l_arg X HX (k0 := k0) (j := 1) (p0 := 1) (p4 := 5) (by omega) rfl rfl rfl dL_law_1546 dL_law_1547 dL_law_1549 dL_law_1550 dL_law_1551 ?_
  refine c_VIeq (q := 35) (vs := [.int (xs (k0 + 1))]) (rest := []) X (kX3_count (cL C) (xs (k0 + 1)) σ1) (fun s a hts => cwV 1 hts gL_law_X3_count rfl rfl rfl (by decide +kernel) ⟨Nat.le_of_ble_eq_true rfl, Nat.le_of_ble_eq_true rfl⟩) obj_m (rfl : vwCl[3]? = some (RX3, TX3, 21)) rfl rfl rfl rfl (Nat.le_of_ble_eq_true rfl) dL_law_1552 hr e2 ?_
  refine g_istore (L' := (6, .int bv) :: (5, .int kv) :: LL C b k0) X dL_law_1555 (by decide) rfl ?_
  exact l_tail (p := 1557) X h35 h50 hr rfl rfl rfl rfl dL_law_1557 dL_law_1558 dL_law_1561 dL_law_1563 dL_law_1568 dL_law_1570 dL_law_1573 dL_law_1574 dL_law_1575 dL_law_1576 dL_law_1578 dL_law_1579 dL_law_1580 dL_law_1585 (by decide) (kk σ2 hW)
