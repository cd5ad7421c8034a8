/-! The law: its cases. -/
set_option maxHeartbeats 4000000 in
set_option maxRecDepth 100000 in
theorem law_c0 {C : Ctx} (X : CX C code 7 RL wsL_law room_1 (some .boolean)) {b Ln k0 kc ks : Nat} {xs : Nat → Int32} {σ : Mem} (HX : SX C b Ln xs) (hk : k0 + 5 ≤ Ln) (hr : kc + 1 ≤ 1084 ∧ ks + 6 ≤ 9122) (hS : WLD σ) (kk : ∀ σ', WLD σ' → G C 7 (kc + 1) (ks + 6) 1588 (LL C b k0) [] σ') : G C 7 kc ks 148 (LL C b k0) [] σ := by
  obtain ⟨kv, σ1, bv, σ2, e1, e2, h35, h50, hW⟩ := st_heap (x := xs (k0 + 1)) (y := xs (k0 + 2)) hS
  refine g_aload_n X dL_law_148 1 rfl rfl ?_
  refine l_arg X HX (k0 := k0) (j := 1) (p0 := 0) (p4 := 4) (by omega) rfl rfl rfl dL_law_149 dL_law_150 dL_law_152 dL_law_153 dL_law_154 ?_
  refine l_arg X HX (k0 := k0) (j := 2) (p0 := 0) (p4 := 4) (by omega) rfl rfl rfl dL_law_155 dL_law_156 dL_law_158 dL_law_159 dL_law_160 ?_
  refine g_aload_n X dL_law_161 3 rfl rfl ?_
  refine c_KW (vs := [.ref (adr C 0), .int (xs (k0 + 1)), .int (xs (k0 + 2)), .ref (adr C 50)]) (rest := []) X (kL_heap (cL C) (xs (k0 + 1)) (xs (k0 + 2)) σ) (fun s a hts => vx_cwSW 4 hts gL_law_L_heap rfl rfl rfl (by decide +kernel) ⟨Nat.le_of_ble_eq_true rfl, Nat.le_of_ble_eq_true rfl⟩) rfl rfl rfl (Nat.le_of_ble_eq_true rfl) dL_law_162 hr e1 ?_
  refine g_istore (L' := (5, .int kv) :: LL C b k0) X dL_law_165 (by decide) rfl ?_
  refine g_aload_n X dL_law_167 3 rfl rfl ?_
  refine l_arg X HX (k0 := k0) (j := 1) (p0 := 1) (p4 := 5) (by omega) rfl rfl rfl dL_law_168 dL_law_169 dL_law_171 dL_law_172 dL_law_173 ?_
  refine l_arg X HX (k0 := k0) (j := 2) (p0 := 1) (p4 := 5) (by omega) rfl rfl rfl dL_law_174 dL_law_175 dL_law_177 dL_law_178 dL_law_179 ?_
  refine c_VIeq (q := 35) (vs := [.int (xs (k0 + 1)), .int (xs (k0 + 2))]) (rest := []) X (kX3_heap (cL C) (xs (k0 + 1)) (xs (k0 + 2)) σ1) (fun s a hts => cwV 2 hts gL_law_X3_heap rfl rfl rfl (by decide +kernel) ⟨Nat.le_of_ble_eq_true rfl, Nat.le_of_ble_eq_true rfl⟩) obj_m (rfl : vwCl[3]? = some (RX3, TX3, 21)) rfl rfl rfl rfl (Nat.le_of_ble_eq_true rfl) dL_law_180 hr e2 ?_
  refine g_istore (L' := (6, .int bv) :: (5, .int kv) :: LL C b k0) X dL_law_183 (by decide) rfl ?_
  exact l_tail (p := 185) X h35 h50 hr rfl rfl rfl rfl dL_law_185 dL_law_186 dL_law_189 dL_law_191 dL_law_196 dL_law_198 dL_law_201 dL_law_202 dL_law_203 dL_law_204 dL_law_206 dL_law_207 dL_law_208 dL_law_213 (by decide) (kk σ2 hW)
set_option maxHeartbeats 4000000 in
set_option maxRecDepth 100000 in
theorem law_c1 {C : Ctx} (X : CX C code 7 RL wsL_law room_1 (some .boolean)) {b Ln k0 kc ks : Nat} {xs : Nat → Int32} {σ : Mem} (HX : SX C b Ln xs) (hk : k0 + 5 ≤ Ln) (hr : kc + 1 ≤ 1084 ∧ ks + 6 ≤ 9122) (hS : WLD σ) (kk : ∀ σ', WLD σ' → G C 7 (kc + 1) (ks + 6) 1588 (LL C b k0) [] σ') : G C 7 kc ks 216 (LL C b k0) [] σ := by
  obtain ⟨kv, σ1, bv, σ2, e1, e2, h35, h50, hW⟩ := st_hole (x := xs (k0 + 1)) (y := xs (k0 + 2)) hS
  refine g_aload_n X dL_law_216 1 rfl rfl ?_
  refine l_arg X HX (k0 := k0) (j := 1) (p0 := 0) (p4 := 4) (by omega) rfl rfl rfl dL_law_217 dL_law_218 dL_law_220 dL_law_221 dL_law_222 ?_
  refine l_arg X HX (k0 := k0) (j := 2) (p0 := 0) (p4 := 4) (by omega) rfl rfl rfl dL_law_223 dL_law_224 dL_law_226 dL_law_227 dL_law_228 ?_
  refine g_aload_n X dL_law_229 3 rfl rfl ?_
  refine c_KW (vs := [.ref (adr C 0), .int (xs (k0 + 1)), .int (xs (k0 + 2)), .ref (adr C 50)]) (rest := []) X (kL_hole (cL C) (xs (k0 + 1)) (xs (k0 + 2)) σ) (fun s a hts => vx_cwSW 4 hts gL_law_L_hole rfl rfl rfl (by decide +kernel) ⟨Nat.le_of_ble_eq_true rfl, Nat.le_of_ble_eq_true rfl⟩) rfl rfl rfl (Nat.le_of_ble_eq_true rfl) dL_law_230 hr e1 ?_
  refine g_istore (L' := (5, .int kv) :: LL C b k0) X dL_law_233 (by decide) rfl ?_
  refine g_aload_n X dL_law_235 3 rfl rfl ?_
  refine l_arg X HX (k0 := k0) (j := 1) (p0 := 1) (p4 := 5) (by omega) rfl rfl rfl dL_law_236 dL_law_237 dL_law_239 dL_law_240 dL_law_241 ?_
  refine l_arg X HX (k0 := k0) (j := 2) (p0 := 1) (p4 := 5) (by omega) rfl rfl rfl dL_law_242 dL_law_243 dL_law_245 dL_law_246 dL_law_247 ?_
  refine c_VIeq (q := 35) (vs := [.int (xs (k0 + 1)), .int (xs (k0 + 2))]) (rest := []) X (kX3_hole (cL C) (xs (k0 + 1)) (xs (k0 + 2)) σ1) (fun s a hts => cwV 2 hts gL_law_X3_hole rfl rfl rfl (by decide +kernel) ⟨Nat.le_of_ble_eq_true rfl, Nat.le_of_ble_eq_true rfl⟩) obj_m (rfl : vwCl[3]? = some (RX3, TX3, 21)) rfl rfl rfl rfl (Nat.le_of_ble_eq_true rfl) dL_law_248 hr e2 ?_
  refine g_istore (L' := (6, .int bv) :: (5, .int kv) :: LL C b k0) X dL_law_251 (by decide) rfl ?_
  exact l_tail (p := 253) X h35 h50 hr rfl rfl rfl rfl dL_law_253 dL_law_254 dL_law_257 dL_law_259 dL_law_264 dL_law_266 dL_law_269 dL_law_270 dL_law_271 dL_law_272 dL_law_274 dL_law_275 dL_law_276 dL_law_281 (by decide) (kk σ2 hW)
set_option maxHeartbeats 4000000 in
set_option maxRecDepth 100000 in
theorem law_c2 {C : Ctx} (X : CX C code 7 RL wsL_law room_1 (some .boolean)) {b Ln k0 kc ks : Nat} {xs : Nat → Int32} {σ : Mem} (HX : SX C b Ln xs) (hk : k0 + 5 ≤ Ln) (hr : kc + 1 ≤ 1084 ∧ ks + 6 ≤ 9122) (hS : WLD σ) (kk : ∀ σ', WLD σ' → G C 7 (kc + 1) (ks + 6) 1588 (LL C b k0) [] σ') : G C 7 kc ks 284 (LL C b k0) [] σ := by
  obtain ⟨kv, σ1, bv, σ2, e1, e2, h35, h50, hW⟩ := st_alter (v := bz (xs (k0 + 1))) (x := xs (k0 + 2)) (p := xs (k0 + 3)) (q := xs (k0 + 4)) hS
  refine g_aload_n X dL_law_284 1 rfl rfl ?_
  refine l_arg X HX (k0 := k0) (j := 1) (p0 := 0) (p4 := 4) (by omega) rfl rfl rfl dL_law_285 dL_law_286 dL_law_288 dL_law_289 dL_law_290 ?_
  refine l_bool (t7 := 298) (t8 := 299) X dL_law_291 dL_law_294 dL_law_295 dL_law_298 rfl rfl ?_
  refine l_arg X HX (k0 := k0) (j := 2) (p0 := 0) (p4 := 4) (by omega) rfl rfl rfl dL_law_299 dL_law_300 dL_law_302 dL_law_303 dL_law_304 ?_
  refine l_arg X HX (k0 := k0) (j := 3) (p0 := 0) (p4 := 4) (by omega) rfl rfl rfl dL_law_305 dL_law_306 dL_law_308 dL_law_309 dL_law_310 ?_
  refine l_arg X HX (k0 := k0) (j := 4) (p0 := 0) (p4 := 4) (by omega) rfl rfl rfl dL_law_311 dL_law_312 dL_law_314 dL_law_315 dL_law_316 ?_
  refine g_aload_n X dL_law_317 3 rfl rfl ?_
  refine c_KW (vs := [.ref (adr C 0), .int (bz (xs (k0 + 1))), .int (xs (k0 + 2)), .int (xs (k0 + 3)), .int (xs (k0 + 4)), .ref (adr C 50)]) (rest := []) X (kL_alter (cL C) (bz (xs (k0 + 1))) (xs (k0 + 2)) (xs (k0 + 3)) (xs (k0 + 4)) σ) (fun s a hts => vx_cwSW 6 hts gL_law_L_alter rfl rfl rfl (by decide +kernel) ⟨Nat.le_of_ble_eq_true rfl, Nat.le_of_ble_eq_true rfl⟩) rfl rfl rfl (Nat.le_of_ble_eq_true rfl) dL_law_318 hr e1 ?_
  refine g_istore (L' := (5, .int kv) :: LL C b k0) X dL_law_321 (by decide) rfl ?_
  refine g_aload_n X dL_law_323 3 rfl rfl ?_
  refine l_arg X HX (k0 := k0) (j := 1) (p0 := 1) (p4 := 5) (by omega) rfl rfl rfl dL_law_324 dL_law_325 dL_law_327 dL_law_328 dL_law_329 ?_
  refine l_bool (t7 := 337) (t8 := 338) X dL_law_330 dL_law_333 dL_law_334 dL_law_337 rfl rfl ?_
  refine l_arg X HX (k0 := k0) (j := 2) (p0 := 1) (p4 := 5) (by omega) rfl rfl rfl dL_law_338 dL_law_339 dL_law_341 dL_law_342 dL_law_343 ?_
  refine l_arg X HX (k0 := k0) (j := 3) (p0 := 1) (p4 := 5) (by omega) rfl rfl rfl dL_law_344 dL_law_345 dL_law_347 dL_law_348 dL_law_349 ?_
  refine l_arg X HX (k0 := k0) (j := 4) (p0 := 1) (p4 := 5) (by omega) rfl rfl rfl dL_law_350 dL_law_351 dL_law_353 dL_law_354 dL_law_355 ?_
  refine c_VIeq (q := 35) (vs := [.int (bz (xs (k0 + 1))), .int (xs (k0 + 2)), .int (xs (k0 + 3)), .int (xs (k0 + 4))]) (rest := []) X (kX3_alter (cL C) (bz (xs (k0 + 1))) (xs (k0 + 2)) (xs (k0 + 3)) (xs (k0 + 4)) σ1) (fun s a hts => cwV 4 hts gL_law_X3_alter rfl rfl rfl (by decide +kernel) ⟨Nat.le_of_ble_eq_true rfl, Nat.le_of_ble_eq_true rfl⟩) obj_m (rfl : vwCl[3]? = some (RX3, TX3, 21)) rfl rfl rfl rfl (Nat.le_of_ble_eq_true rfl) dL_law_356 hr e2 ?_
  refine g_istore (L' := (6, .int bv) :: (5, .int kv) :: LL C b k0) X dL_law_359 (by decide) rfl ?_
  exact l_tail (p := 361) X h35 h50 hr rfl rfl rfl rfl dL_law_361 dL_law_362 dL_law_365 dL_law_367 dL_law_372 dL_law_374 dL_law_377 dL_law_378 dL_law_379 dL_law_380 dL_law_382 dL_law_383 dL_law_384 dL_law_389 (by decide) (kk σ2 hW)
set_option maxHeartbeats 4000000 in
set_option maxRecDepth 100000 in
theorem law_c3 {C : Ctx} (X : CX C code 7 RL wsL_law room_1 (some .boolean)) {b Ln k0 kc ks : Nat} {xs : Nat → Int32} {σ : Mem} (HX : SX C b Ln xs) (hk : k0 + 5 ≤ Ln) (hr : kc + 1 ≤ 1084 ∧ ks + 6 ≤ 9122) (hS : WLD σ) (kk : ∀ σ', WLD σ' → G C 7 (kc + 1) (ks + 6) 1588 (LL C b k0) [] σ') : G C 7 kc ks 392 (LL C b k0) [] σ := by
  obtain ⟨kv, σ1, bv, σ2, e1, e2, h35, h50, hW⟩ := st_measure (x := xs (k0 + 1)) (y := xs (k0 + 2)) hS
  refine g_aload_n X dL_law_392 1 rfl rfl ?_
  refine l_arg X HX (k0 := k0) (j := 1) (p0 := 0) (p4 := 4) (by omega) rfl rfl rfl dL_law_393 dL_law_394 dL_law_396 dL_law_397 dL_law_398 ?_
  refine l_arg X HX (k0 := k0) (j := 2) (p0 := 0) (p4 := 4) (by omega) rfl rfl rfl dL_law_399 dL_law_400 dL_law_402 dL_law_403 dL_law_404 ?_
  refine g_aload_n X dL_law_405 3 rfl rfl ?_
  refine c_KW (vs := [.ref (adr C 0), .int (xs (k0 + 1)), .int (xs (k0 + 2)), .ref (adr C 50)]) (rest := []) X (kL_measure (cL C) (xs (k0 + 1)) (xs (k0 + 2)) σ) (fun s a hts => vx_cwSW 4 hts gL_law_L_measure rfl rfl rfl (by decide +kernel) ⟨Nat.le_of_ble_eq_true rfl, Nat.le_of_ble_eq_true rfl⟩) rfl rfl rfl (Nat.le_of_ble_eq_true rfl) dL_law_406 hr e1 ?_
  refine g_istore (L' := (5, .int kv) :: LL C b k0) X dL_law_409 (by decide) rfl ?_
  refine g_aload_n X dL_law_411 3 rfl rfl ?_
  refine l_arg X HX (k0 := k0) (j := 1) (p0 := 1) (p4 := 5) (by omega) rfl rfl rfl dL_law_412 dL_law_413 dL_law_415 dL_law_416 dL_law_417 ?_
  refine l_arg X HX (k0 := k0) (j := 2) (p0 := 1) (p4 := 5) (by omega) rfl rfl rfl dL_law_418 dL_law_419 dL_law_421 dL_law_422 dL_law_423 ?_
  refine c_VIeq (q := 35) (vs := [.int (xs (k0 + 1)), .int (xs (k0 + 2))]) (rest := []) X (kX3_measure (cL C) (xs (k0 + 1)) (xs (k0 + 2)) σ1) (fun s a hts => cwV 2 hts gL_law_X3_measure rfl rfl rfl (by decide +kernel) ⟨Nat.le_of_ble_eq_true rfl, Nat.le_of_ble_eq_true rfl⟩) obj_m (rfl : vwCl[3]? = some (RX3, TX3, 21)) rfl rfl rfl rfl (Nat.le_of_ble_eq_true rfl) dL_law_424 hr e2 ?_
  refine g_istore (L' := (6, .int bv) :: (5, .int kv) :: LL C b k0) X dL_law_427 (by decide) rfl ?_
  exact l_tail (p := 429) X h35 h50 hr rfl rfl rfl rfl dL_law_429 dL_law_430 dL_law_433 dL_law_435 dL_law_440 dL_law_442 dL_law_445 dL_law_446 dL_law_447 dL_law_448 dL_law_450 dL_law_451 dL_law_452 dL_law_457 (by decide) (kk σ2 hW)
set_option maxHeartbeats 4000000 in
set_option maxRecDepth 100000 in
theorem law_c4 {C : Ctx} (X : CX C code 7 RL wsL_law room_1 (some .boolean)) {b Ln k0 kc ks : Nat} {xs : Nat → Int32} {σ : Mem} (HX : SX C b Ln xs) (hk : k0 + 5 ≤ Ln) (hr : kc + 1 ≤ 1084 ∧ ks + 6 ≤ 9122) (hS : WLD σ) (kk : ∀ σ', WLD σ' → G C 7 (kc + 1) (ks + 6) 1588 (LL C b k0) [] σ') : G C 7 kc ks 460 (LL C b k0) [] σ := by
  obtain ⟨kv, σ1, bv, σ2, e1, e2, h35, h50, hW⟩ := st_own (x := xs (k0 + 1)) (y := xs (k0 + 2)) (c := xs (k0 + 3)) hS
  refine g_aload_n X dL_law_460 1 rfl rfl ?_
  refine l_arg X HX (k0 := k0) (j := 1) (p0 := 0) (p4 := 4) (by omega) rfl rfl rfl dL_law_461 dL_law_462 dL_law_464 dL_law_465 dL_law_466 ?_
  refine l_arg X HX (k0 := k0) (j := 2) (p0 := 0) (p4 := 4) (by omega) rfl rfl rfl dL_law_467 dL_law_468 dL_law_470 dL_law_471 dL_law_472 ?_
  refine l_arg X HX (k0 := k0) (j := 3) (p0 := 0) (p4 := 4) (by omega) rfl rfl rfl dL_law_473 dL_law_474 dL_law_476 dL_law_477 dL_law_478 ?_
  refine g_aload_n X dL_law_479 3 rfl rfl ?_
  refine c_KW (vs := [.ref (adr C 0), .int (xs (k0 + 1)), .int (xs (k0 + 2)), .int (xs (k0 + 3)), .ref (adr C 50)]) (rest := []) X (kL_own (cL C) (xs (k0 + 1)) (xs (k0 + 2)) (xs (k0 + 3)) σ) (fun s a hts => vx_cwSW 5 hts gL_law_L_own rfl rfl rfl (by decide +kernel) ⟨Nat.le_of_ble_eq_true rfl, Nat.le_of_ble_eq_true rfl⟩) rfl rfl rfl (Nat.le_of_ble_eq_true rfl) dL_law_480 hr e1 ?_
  refine g_istore (L' := (5, .int kv) :: LL C b k0) X dL_law_483 (by decide) rfl ?_
  refine g_aload_n X dL_law_485 3 rfl rfl ?_
  refine l_arg X HX (k0 := k0) (j := 1) (p0 := 1) (p4 := 5) (by omega) rfl rfl rfl dL_law_486 dL_law_487 dL_law_489 dL_law_490 dL_law_491 ?_
  refine l_arg X HX (k0 := k0) (j := 2) (p0 := 1) (p4 := 5) (by omega) rfl rfl rfl dL_law_492 dL_law_493 dL_law_495 dL_law_496 dL_law_497 ?_
  refine l_arg X HX (k0 := k0) (j := 3) (p0 := 1) (p4 := 5) (by omega) rfl rfl rfl dL_law_498 dL_law_499 dL_law_501 dL_law_502 dL_law_503 ?_
  refine c_VIeq (q := 35) (vs := [.int (xs (k0 + 1)), .int (xs (k0 + 2)), .int (xs (k0 + 3))]) (rest := []) X (kX3_own (cL C) (xs (k0 + 1)) (xs (k0 + 2)) (xs (k0 + 3)) σ1) (fun s a hts => cwV 3 hts gL_law_X3_own rfl rfl rfl (by decide +kernel) ⟨Nat.le_of_ble_eq_true rfl, Nat.le_of_ble_eq_true rfl⟩) obj_m (rfl : vwCl[3]? = some (RX3, TX3, 21)) rfl rfl rfl rfl (Nat.le_of_ble_eq_true rfl) dL_law_504 hr e2 ?_
  refine g_istore (L' := (6, .int bv) :: (5, .int kv) :: LL C b k0) X dL_law_507 (by decide) rfl ?_
  exact l_tail (p := 509) X h35 h50 hr rfl rfl rfl rfl dL_law_509 dL_law_510 dL_law_513 dL_law_515 dL_law_520 dL_law_522 dL_law_525 dL_law_526 dL_law_527 dL_law_528 dL_law_530 dL_law_531 dL_law_532 dL_law_537 (by decide) (kk σ2 hW)
set_option maxHeartbeats 4000000 in
set_option maxRecDepth 100000 in
theorem law_c5 {C : Ctx} (X : CX C code 7 RL wsL_law room_1 (some .boolean)) {b Ln k0 kc ks : Nat} {xs : Nat → Int32} {σ : Mem} (HX : SX C b Ln xs) (hk : k0 + 5 ≤ Ln) (hr : kc + 1 ≤ 1084 ∧ ks + 6 ≤ 9122) (hS : WLD σ) (kk : ∀ σ', WLD σ' → G C 7 (kc + 1) (ks + 6) 1588 (LL C b k0) [] σ') : G C 7 kc ks 540 (LL C b k0) [] σ := by
  obtain ⟨kv, σ1, bv, σ2, e1, e2, h35, h50, hW⟩ := st_cap (x := xs (k0 + 1)) (y := xs (k0 + 2)) (c := xs (k0 + 3)) hS
  refine g_aload_n X dL_law_540 1 rfl rfl ?_
  refine l_arg X HX (k0 := k0) (j := 1) (p0 := 0) (p4 := 4) (by omega) rfl rfl rfl dL_law_541 dL_law_542 dL_law_544 dL_law_545 dL_law_546 ?_
  refine l_arg X HX (k0 := k0) (j := 2) (p0 := 0) (p4 := 4) (by omega) rfl rfl rfl dL_law_547 dL_law_548 dL_law_550 dL_law_551 dL_law_552 ?_
  refine l_arg X HX (k0 := k0) (j := 3) (p0 := 0) (p4 := 4) (by omega) rfl rfl rfl dL_law_553 dL_law_554 dL_law_556 dL_law_557 dL_law_558 ?_
  refine g_aload_n X dL_law_559 3 rfl rfl ?_
  refine c_KW (vs := [.ref (adr C 0), .int (xs (k0 + 1)), .int (xs (k0 + 2)), .int (xs (k0 + 3)), .ref (adr C 50)]) (rest := []) X (kL_cap (cL C) (xs (k0 + 1)) (xs (k0 + 2)) (xs (k0 + 3)) σ) (fun s a hts => vx_cwSW 5 hts gL_law_L_cap rfl rfl rfl (by decide +kernel) ⟨Nat.le_of_ble_eq_true rfl, Nat.le_of_ble_eq_true rfl⟩) rfl rfl rfl (Nat.le_of_ble_eq_true rfl) dL_law_560 hr e1 ?_
  refine g_istore (L' := (5, .int kv) :: LL C b k0) X dL_law_563 (by decide) rfl ?_
  refine g_aload_n X dL_law_565 3 rfl rfl ?_
  refine l_arg X HX (k0 := k0) (j := 1) (p0 := 1) (p4 := 5) (by omega) rfl rfl rfl dL_law_566 dL_law_567 dL_law_569 dL_law_570 dL_law_571 ?_
  refine l_arg X HX (k0 := k0) (j := 2) (p0 := 1) (p4 := 5) (by omega) rfl rfl rfl dL_law_572 dL_law_573 dL_law_575 dL_law_576 dL_law_577 ?_
  refine l_arg X HX (k0 := k0) (j := 3) (p0 := 1) (p4 := 5) (by omega) rfl rfl rfl dL_law_578 dL_law_579 dL_law_581 dL_law_582 dL_law_583 ?_
  refine c_VIeq (q := 35) (vs := [.int (xs (k0 + 1)), .int (xs (k0 + 2)), .int (xs (k0 + 3))]) (rest := []) X (kX3_cap (cL C) (xs (k0 + 1)) (xs (k0 + 2)) (xs (k0 + 3)) σ1) (fun s a hts => cwV 3 hts gL_law_X3_cap rfl rfl rfl (by decide +kernel) ⟨Nat.le_of_ble_eq_true rfl, Nat.le_of_ble_eq_true rfl⟩) obj_m (rfl : vwCl[3]? = some (RX3, TX3, 21)) rfl rfl rfl rfl (Nat.le_of_ble_eq_true rfl) dL_law_584 hr e2 ?_
  refine g_istore (L' := (6, .int bv) :: (5, .int kv) :: LL C b k0) X dL_law_587 (by decide) rfl ?_
  exact l_tail (p := 589) X h35 h50 hr rfl rfl rfl rfl dL_law_589 dL_law_590 dL_law_593 dL_law_595 dL_law_600 dL_law_602 dL_law_605 dL_law_606 dL_law_607 dL_law_608 dL_law_610 dL_law_611 dL_law_612 dL_law_617 (by decide) (kk σ2 hW)
set_option maxHeartbeats 4000000 in
set_option maxRecDepth 100000 in
theorem law_c6 {C : Ctx} (X : CX C code 7 RL wsL_law room_1 (some .boolean)) {b Ln k0 kc ks : Nat} {xs : Nat → Int32} {σ : Mem} (HX : SX C b Ln xs) (hk : k0 + 5 ≤ Ln) (hr : kc + 1 ≤ 1084 ∧ ks + 6 ≤ 9122) (hS : WLD σ) (kk : ∀ σ', WLD σ' → G C 7 (kc + 1) (ks + 6) 1588 (LL C b k0) [] σ') : G C 7 kc ks 620 (LL C b k0) [] σ := by
  obtain ⟨kv, σ1, bv, σ2, e1, e2, h35, h50, hW⟩ := st_terms (x := xs (k0 + 1)) (y := xs (k0 + 2)) hS
  refine g_aload_n X dL_law_620 1 rfl rfl ?_
  refine l_arg X HX (k0 := k0) (j := 1) (p0 := 0) (p4 := 4) (by omega) rfl rfl rfl dL_law_621 dL_law_622 dL_law_624 dL_law_625 dL_law_626 ?_
  refine l_arg X HX (k0 := k0) (j := 2) (p0 := 0) (p4 := 4) (by omega) rfl rfl rfl dL_law_627 dL_law_628 dL_law_630 dL_law_631 dL_law_632 ?_
  refine g_aload_n X dL_law_633 3 rfl rfl ?_
  refine c_KW (vs := [.ref (adr C 0), .int (xs (k0 + 1)), .int (xs (k0 + 2)), .ref (adr C 50)]) (rest := []) X (kL_terms (cL C) (xs (k0 + 1)) (xs (k0 + 2)) σ) (fun s a hts => vx_cwSW 4 hts gL_law_L_terms rfl rfl rfl (by decide +kernel) ⟨Nat.le_of_ble_eq_true rfl, Nat.le_of_ble_eq_true rfl⟩) rfl rfl rfl (Nat.le_of_ble_eq_true rfl) dL_law_634 hr e1 ?_
  refine g_istore (L' := (5, .int kv) :: LL C b k0) X dL_law_637 (by decide) rfl ?_
  refine g_aload_n X dL_law_639 3 rfl rfl ?_
  refine l_arg X HX (k0 := k0) (j := 1) (p0 := 1) (p4 := 5) (by omega) rfl rfl rfl dL_law_640 dL_law_641 dL_law_643 dL_law_644 dL_law_645 ?_
  refine l_arg X HX (k0 := k0) (j := 2) (p0 := 1) (p4 := 5) (by omega) rfl rfl rfl dL_law_646 dL_law_647 dL_law_649 dL_law_650 dL_law_651 ?_
  refine c_VIeq (q := 35) (vs := [.int (xs (k0 + 1)), .int (xs (k0 + 2))]) (rest := []) X (kX3_terms (cL C) (xs (k0 + 1)) (xs (k0 + 2)) σ1) (fun s a hts => cwV 2 hts gL_law_X3_terms rfl rfl rfl (by decide +kernel) ⟨Nat.le_of_ble_eq_true rfl, Nat.le_of_ble_eq_true rfl⟩) obj_m (rfl : vwCl[3]? = some (RX3, TX3, 21)) rfl rfl rfl rfl (Nat.le_of_ble_eq_true rfl) dL_law_652 hr e2 ?_
  refine g_istore (L' := (6, .int bv) :: (5, .int kv) :: LL C b k0) X dL_law_655 (by decide) rfl ?_
  exact l_tail (p := 657) X h35 h50 hr rfl rfl rfl rfl dL_law_657 dL_law_658 dL_law_661 dL_law_663 dL_law_668 dL_law_670 dL_law_673 dL_law_674 dL_law_675 dL_law_676 dL_law_678 dL_law_679 dL_law_680 dL_law_685 (by decide) (kk σ2 hW)
set_option maxHeartbeats 4000000 in
set_option maxRecDepth 100000 in
theorem law_c7 {C : Ctx} (X : CX C code 7 RL wsL_law room_1 (some .boolean)) {b Ln k0 kc ks : Nat} {xs : Nat → Int32} {σ : Mem} (HX : SX C b Ln xs) (hk : k0 + 5 ≤ Ln) (hr : kc + 1 ≤ 1084 ∧ ks + 6 ≤ 9122) (hS : WLD σ) (kk : ∀ σ', WLD σ' → G C 7 (kc + 1) (ks + 6) 1588 (LL C b k0) [] σ') : G C 7 kc ks 688 (LL C b k0) [] σ := by
  obtain ⟨kv, σ1, bv, σ2, e1, e2, h35, h50, hW⟩ := st_unit (x := xs (k0 + 1)) (y := xs (k0 + 2)) hS
  refine g_aload_n X dL_law_688 1 rfl rfl ?_
  refine l_arg X HX (k0 := k0) (j := 1) (p0 := 0) (p4 := 4) (by omega) rfl rfl rfl dL_law_689 dL_law_690 dL_law_692 dL_law_693 dL_law_694 ?_
  refine l_arg X HX (k0 := k0) (j := 2) (p0 := 0) (p4 := 4) (by omega) rfl rfl rfl dL_law_695 dL_law_696 dL_law_698 dL_law_699 dL_law_700 ?_
  refine g_aload_n X dL_law_701 3 rfl rfl ?_
  refine c_KW (vs := [.ref (adr C 0), .int (xs (k0 + 1)), .int (xs (k0 + 2)), .ref (adr C 50)]) (rest := []) X (kL_unit (cL C) (xs (k0 + 1)) (xs (k0 + 2)) σ) (fun s a hts => vx_cwSW 4 hts gL_law_L_unit rfl rfl rfl (by decide +kernel) ⟨Nat.le_of_ble_eq_true rfl, Nat.le_of_ble_eq_true rfl⟩) rfl rfl rfl (Nat.le_of_ble_eq_true rfl) dL_law_702 hr e1 ?_
  refine g_istore (L' := (5, .int kv) :: LL C b k0) X dL_law_705 (by decide) rfl ?_
  refine g_aload_n X dL_law_707 3 rfl rfl ?_
  refine l_arg X HX (k0 := k0) (j := 1) (p0 := 1) (p4 := 5) (by omega) rfl rfl rfl dL_law_708 dL_law_709 dL_law_711 dL_law_712 dL_law_713 ?_
  refine l_arg X HX (k0 := k0) (j := 2) (p0 := 1) (p4 := 5) (by omega) rfl rfl rfl dL_law_714 dL_law_715 dL_law_717 dL_law_718 dL_law_719 ?_
  refine c_VIeq (q := 35) (vs := [.int (xs (k0 + 1)), .int (xs (k0 + 2))]) (rest := []) X (kX3_unit (cL C) (xs (k0 + 1)) (xs (k0 + 2)) σ1) (fun s a hts => cwV 2 hts gL_law_X3_unit rfl rfl rfl (by decide +kernel) ⟨Nat.le_of_ble_eq_true rfl, Nat.le_of_ble_eq_true rfl⟩) obj_m (rfl : vwCl[3]? = some (RX3, TX3, 21)) rfl rfl rfl rfl (Nat.le_of_ble_eq_true rfl) dL_law_720 hr e2 ?_
  refine g_istore (L' := (6, .int bv) :: (5, .int kv) :: LL C b k0) X dL_law_723 (by decide) rfl ?_
  exact l_tail (p := 725) X h35 h50 hr rfl rfl rfl rfl dL_law_725 dL_law_726 dL_law_729 dL_law_731 dL_law_736 dL_law_738 dL_law_741 dL_law_742 dL_law_743 dL_law_744 dL_law_746 dL_law_747 dL_law_748 dL_law_753 (by decide) (kk σ2 hW)
