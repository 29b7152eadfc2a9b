section LawCases
variable {E1 E2 : EE} {p : Program} {l : Launch} {e : Env} {s : State} {m : MethodId} {below : List Frame} {meth : Method} {c : Code} {b L : Nat} {xs : Nat → Int32} {cells slots : Nat} {Q : State → Prop} {σ τ : St} {i n : Nat}
set_option maxRecDepth 100000 in
theorem lc_0 (X : LCx E1 E2 p s m c b L xs) (hL : L ≤ 3072) (hi : i + 6 ≤ L) (hC : cells ≤ 600000 ∧ slots ≤ 7302250) (hn : n ≤ i) (r : Rel σ τ n) (k : ∀ σ' τ', Rel σ' τ' (n + 1) → LWx E1 E2 p l e s m b below meth c cells slots Q 1572 [(0, .ref b), (1, .ref (ea E1 0)), (2, .ref (ea E2 0)), (3, .int (nI i))] [] σ' τ') : LWx E1 E2 p l e s m b below meth c cells slots Q 216 [(0, .ref b), (1, .ref (ea E1 0)), (2, .ref (ea E2 0)), (3, .int (nI i))] [] σ τ := by
  obtain ⟨x, σ', τ', e1, e2, r'⟩ := op_dish r ((xs (i + 1))) ((xs (i + 2))) ((xs (i + 3)))
  refine zt_aload_n X dL_law_216 1 rfl rfl ?_
  refine zt_arg X (j := 1) (v := 1) (by decide) rfl (by omega) hL rfl rfl dL_law_217 dL_law_218 dL_law_219 dL_law_220 dL_law_221 ?_
  refine zt_arg X (j := 2) (v := 2) (by decide) rfl (by omega) hL rfl rfl dL_law_222 dL_law_223 dL_law_224 dL_law_225 dL_law_226 ?_
  refine zt_arg X (j := 3) (v := 3) (by decide) rfl (by omega) hL rfl rfl dL_law_227 dL_law_228 dL_law_229 dL_law_230 dL_law_231 ?_
  refine zt_callC X [.int (xs (i + 1)), .int (xs (i + 2)), .int (xs (i + 3))] [] (ctX8_dish e1) dL_law_232 v_X8 k_327 g_328 g_329 g_67 g_330 nX8_dish rfl rfl (Nat.le_of_ble_eq_true rfl) ⟨Nat.le_of_ble_eq_true rfl, Nat.le_of_ble_eq_true rfl⟩ hC ?_
  refine zt_aload_n X dL_law_235 2 rfl rfl ?_
  refine zt_arg X (j := 1) (v := 1) (by decide) rfl (by omega) hL rfl rfl dL_law_236 dL_law_237 dL_law_238 dL_law_239 dL_law_240 ?_
  refine zt_arg X (j := 2) (v := 2) (by decide) rfl (by omega) hL rfl rfl dL_law_241 dL_law_242 dL_law_243 dL_law_244 dL_law_245 ?_
  refine zt_arg X (j := 3) (v := 3) (by decide) rfl (by omega) hL rfl rfl dL_law_246 dL_law_247 dL_law_248 dL_law_249 dL_law_250 ?_
  refine zt_callM X [.int (xs (i + 1)), .int (xs (i + 2)), .int (xs (i + 3))] [.int x] (ctX9_dish e2) dL_law_251 v_X9 k_859 g_860 g_861 h_77 g_862 nX9_dish rfl rfl (Nat.le_of_ble_eq_true rfl) ⟨Nat.le_of_ble_eq_true rfl, Nat.le_of_ble_eq_true rfl⟩ hC ?_
  refine zt_icmp_eq X 1572 dL_law_254 (by decide) (fun _ => ?_) (fun h => absurd rfl h)
  exact k σ' τ' (r'.mono (by omega))
set_option maxRecDepth 100000 in
theorem lc_1 (X : LCx E1 E2 p s m c b L xs) (hL : L ≤ 3072) (hi : i + 6 ≤ L) (hC : cells ≤ 600000 ∧ slots ≤ 7302250) (hn : n ≤ i) (r : Rel σ τ n) (k : ∀ σ' τ', Rel σ' τ' (n + 1) → LWx E1 E2 p l e s m b below meth c cells slots Q 1572 [(0, .ref b), (1, .ref (ea E1 0)), (2, .ref (ea E2 0)), (3, .int (nI i))] [] σ' τ') : LWx E1 E2 p l e s m b below meth c cells slots Q 259 [(0, .ref b), (1, .ref (ea E1 0)), (2, .ref (ea E2 0)), (3, .int (nI i))] [] σ τ := by
  obtain ⟨x, σ', τ', e1, e2, r'⟩ := op_ofDish r ((xs (i + 1))) ((xs (i + 2)))
  refine zt_aload_n X dL_law_259 1 rfl rfl ?_
  refine zt_arg X (j := 1) (v := 1) (by decide) rfl (by omega) hL rfl rfl dL_law_260 dL_law_261 dL_law_262 dL_law_263 dL_law_264 ?_
  refine zt_arg X (j := 2) (v := 2) (by decide) rfl (by omega) hL rfl rfl dL_law_265 dL_law_266 dL_law_267 dL_law_268 dL_law_269 ?_
  refine zt_callC X [.int (xs (i + 1)), .int (xs (i + 2))] [] (ctX8_ofDish e1) dL_law_270 v_X8 k_345 g_346 g_347 g_67 g_348 nX8_ofDish rfl rfl (Nat.le_of_ble_eq_true rfl) ⟨Nat.le_of_ble_eq_true rfl, Nat.le_of_ble_eq_true rfl⟩ hC ?_
  refine zt_aload_n X dL_law_273 2 rfl rfl ?_
  refine zt_arg X (j := 1) (v := 1) (by decide) rfl (by omega) hL rfl rfl dL_law_274 dL_law_275 dL_law_276 dL_law_277 dL_law_278 ?_
  refine zt_arg X (j := 2) (v := 2) (by decide) rfl (by omega) hL rfl rfl dL_law_279 dL_law_280 dL_law_281 dL_law_282 dL_law_283 ?_
  refine zt_callM X [.int (xs (i + 1)), .int (xs (i + 2))] [.int x] (ctX9_ofDish e2) dL_law_284 v_X9 k_879 g_880 g_881 h_77 g_882 nX9_ofDish rfl rfl (Nat.le_of_ble_eq_true rfl) ⟨Nat.le_of_ble_eq_true rfl, Nat.le_of_ble_eq_true rfl⟩ hC ?_
  refine zt_icmp_eq X 1572 dL_law_287 (by decide) (fun _ => ?_) (fun h => absurd rfl h)
  exact k σ' τ' (r'.mono (by omega))
set_option maxRecDepth 100000 in
theorem lc_2 (X : LCx E1 E2 p s m c b L xs) (hL : L ≤ 3072) (hi : i + 6 ≤ L) (hC : cells ≤ 600000 ∧ slots ≤ 7302250) (hn : n ≤ i) (r : Rel σ τ n) (k : ∀ σ' τ', Rel σ' τ' (n + 1) → LWx E1 E2 p l e s m b below meth c cells slots Q 1572 [(0, .ref b), (1, .ref (ea E1 0)), (2, .ref (ea E2 0)), (3, .int (nI i))] [] σ' τ') : LWx E1 E2 p l e s m b below meth c cells slots Q 292 [(0, .ref b), (1, .ref (ea E1 0)), (2, .ref (ea E2 0)), (3, .int (nI i))] [] σ τ := by
  obtain ⟨x, σ', τ', e1, e2, r'⟩ := op_menu r ((xs (i + 1))) ((xs (i + 2)))
  refine zt_aload_n X dL_law_292 1 rfl rfl ?_
  refine zt_arg X (j := 1) (v := 1) (by decide) rfl (by omega) hL rfl rfl dL_law_293 dL_law_294 dL_law_295 dL_law_296 dL_law_297 ?_
  refine zt_arg X (j := 2) (v := 2) (by decide) rfl (by omega) hL rfl rfl dL_law_298 dL_law_299 dL_law_300 dL_law_301 dL_law_302 ?_
  refine zt_callC X [.int (xs (i + 1)), .int (xs (i + 2))] [] (ctX8_menu e1) dL_law_303 v_X8 k_353 g_354 g_355 g_67 g_356 nX8_menu rfl rfl (Nat.le_of_ble_eq_true rfl) ⟨Nat.le_of_ble_eq_true rfl, Nat.le_of_ble_eq_true rfl⟩ hC ?_
  refine zt_aload_n X dL_law_306 2 rfl rfl ?_
  refine zt_arg X (j := 1) (v := 1) (by decide) rfl (by omega) hL rfl rfl dL_law_307 dL_law_308 dL_law_309 dL_law_310 dL_law_311 ?_
  refine zt_arg X (j := 2) (v := 2) (by decide) rfl (by omega) hL rfl rfl dL_law_312 dL_law_313 dL_law_314 dL_law_315 dL_law_316 ?_
  refine zt_callM X [.int (xs (i + 1)), .int (xs (i + 2))] [.int x] (ctX9_menu e2) dL_law_317 v_X9 k_887 g_888 g_889 h_77 g_890 nX9_menu rfl rfl (Nat.le_of_ble_eq_true rfl) ⟨Nat.le_of_ble_eq_true rfl, Nat.le_of_ble_eq_true rfl⟩ hC ?_
  refine zt_icmp_eq X 1572 dL_law_320 (by decide) (fun _ => ?_) (fun h => absurd rfl h)
  exact k σ' τ' (r'.mono (by omega))
set_option maxRecDepth 100000 in
theorem lc_3 (X : LCx E1 E2 p s m c b L xs) (hL : L ≤ 3072) (hi : i + 6 ≤ L) (hC : cells ≤ 600000 ∧ slots ≤ 7302250) (hn : n ≤ i) (r : Rel σ τ n) (k : ∀ σ' τ', Rel σ' τ' (n + 1) → LWx E1 E2 p l e s m b below meth c cells slots Q 1572 [(0, .ref b), (1, .ref (ea E1 0)), (2, .ref (ea E2 0)), (3, .int (nI i))] [] σ' τ') : LWx E1 E2 p l e s m b below meth c cells slots Q 325 [(0, .ref b), (1, .ref (ea E1 0)), (2, .ref (ea E2 0)), (3, .int (nI i))] [] σ τ := by
  obtain ⟨x, σ', τ', e1, e2, r'⟩ := op_house r ((xs (i + 1))) ((xs (i + 2)))
  refine zt_aload_n X dL_law_325 1 rfl rfl ?_
  refine zt_arg X (j := 1) (v := 1) (by decide) rfl (by omega) hL rfl rfl dL_law_326 dL_law_327 dL_law_328 dL_law_329 dL_law_330 ?_
  refine zt_arg X (j := 2) (v := 2) (by decide) rfl (by omega) hL rfl rfl dL_law_331 dL_law_332 dL_law_333 dL_law_334 dL_law_335 ?_
  refine zt_callC X [.int (xs (i + 1)), .int (xs (i + 2))] [] (ctX8_house e1) dL_law_336 v_X8 k_360 g_361 g_362 g_67 g_363 nX8_house rfl rfl (Nat.le_of_ble_eq_true rfl) ⟨Nat.le_of_ble_eq_true rfl, Nat.le_of_ble_eq_true rfl⟩ hC ?_
  refine zt_aload_n X dL_law_339 2 rfl rfl ?_
  refine zt_arg X (j := 1) (v := 1) (by decide) rfl (by omega) hL rfl rfl dL_law_340 dL_law_341 dL_law_342 dL_law_343 dL_law_344 ?_
  refine zt_arg X (j := 2) (v := 2) (by decide) rfl (by omega) hL rfl rfl dL_law_345 dL_law_346 dL_law_347 dL_law_348 dL_law_349 ?_
  refine zt_callM X [.int (xs (i + 1)), .int (xs (i + 2))] [.int x] (ctX9_house e2) dL_law_350 v_X9 k_894 g_895 g_896 h_77 g_897 nX9_house rfl rfl (Nat.le_of_ble_eq_true rfl) ⟨Nat.le_of_ble_eq_true rfl, Nat.le_of_ble_eq_true rfl⟩ hC ?_
  refine zt_icmp_eq X 1572 dL_law_353 (by decide) (fun _ => ?_) (fun h => absurd rfl h)
  exact k σ' τ' (r'.mono (by omega))
set_option maxRecDepth 100000 in
theorem lc_4 (X : LCx E1 E2 p s m c b L xs) (hL : L ≤ 3072) (hi : i + 6 ≤ L) (hC : cells ≤ 600000 ∧ slots ≤ 7302250) (hn : n ≤ i) (r : Rel σ τ n) (k : ∀ σ' τ', Rel σ' τ' (n + 1) → LWx E1 E2 p l e s m b below meth c cells slots Q 1572 [(0, .ref b), (1, .ref (ea E1 0)), (2, .ref (ea E2 0)), (3, .int (nI i))] [] σ' τ') : LWx E1 E2 p l e s m b below meth c cells slots Q 358 [(0, .ref b), (1, .ref (ea E1 0)), (2, .ref (ea E2 0)), (3, .int (nI i))] [] σ τ := by
  obtain ⟨x, σ', τ', e1, e2, r'⟩ := op_diner r ((xs (i + 1))) ((xs (i + 2)))
  refine zt_aload_n X dL_law_358 1 rfl rfl ?_
  refine zt_arg X (j := 1) (v := 1) (by decide) rfl (by omega) hL rfl rfl dL_law_359 dL_law_360 dL_law_361 dL_law_362 dL_law_363 ?_
  refine zt_arg X (j := 2) (v := 2) (by decide) rfl (by omega) hL rfl rfl dL_law_364 dL_law_365 dL_law_366 dL_law_367 dL_law_368 ?_
  refine zt_callC X [.int (xs (i + 1)), .int (xs (i + 2))] [] (ctX8_diner e1) dL_law_369 v_X8 k_365 g_366 g_367 g_67 g_368 nX8_diner rfl rfl (Nat.le_of_ble_eq_true rfl) ⟨Nat.le_of_ble_eq_true rfl, Nat.le_of_ble_eq_true rfl⟩ hC ?_
  refine zt_aload_n X dL_law_372 2 rfl rfl ?_
  refine zt_arg X (j := 1) (v := 1) (by decide) rfl (by omega) hL rfl rfl dL_law_373 dL_law_374 dL_law_375 dL_law_376 dL_law_377 ?_
  refine zt_arg X (j := 2) (v := 2) (by decide) rfl (by omega) hL rfl rfl dL_law_378 dL_law_379 dL_law_380 dL_law_381 dL_law_382 ?_
  refine zt_callM X [.int (xs (i + 1)), .int (xs (i + 2))] [.int x] (ctX9_diner e2) dL_law_383 v_X9 k_899 g_900 g_901 h_77 g_902 nX9_diner rfl rfl (Nat.le_of_ble_eq_true rfl) ⟨Nat.le_of_ble_eq_true rfl, Nat.le_of_ble_eq_true rfl⟩ hC ?_
  refine zt_icmp_eq X 1572 dL_law_386 (by decide) (fun _ => ?_) (fun h => absurd rfl h)
  exact k σ' τ' (r'.mono (by omega))
set_option maxRecDepth 100000 in
theorem lc_5 (X : LCx E1 E2 p s m c b L xs) (hL : L ≤ 3072) (hi : i + 6 ≤ L) (hC : cells ≤ 600000 ∧ slots ≤ 7302250) (hn : n ≤ i) (r : Rel σ τ n) (k : ∀ σ' τ', Rel σ' τ' (n + 1) → LWx E1 E2 p l e s m b below meth c cells slots Q 1572 [(0, .ref b), (1, .ref (ea E1 0)), (2, .ref (ea E2 0)), (3, .int (nI i))] [] σ' τ') : LWx E1 E2 p l e s m b below meth c cells slots Q 391 [(0, .ref b), (1, .ref (ea E1 0)), (2, .ref (ea E2 0)), (3, .int (nI i))] [] σ τ := by
  obtain ⟨x, σ', τ', e1, e2, r'⟩ := op_ofDiner r ((xs (i + 1))) ((xs (i + 2)))
  refine zt_aload_n X dL_law_391 1 rfl rfl ?_
  refine zt_arg X (j := 1) (v := 1) (by decide) rfl (by omega) hL rfl rfl dL_law_392 dL_law_393 dL_law_394 dL_law_395 dL_law_396 ?_
  refine zt_arg X (j := 2) (v := 2) (by decide) rfl (by omega) hL rfl rfl dL_law_397 dL_law_398 dL_law_399 dL_law_400 dL_law_401 ?_
  refine zt_callC X [.int (xs (i + 1)), .int (xs (i + 2))] [] (ctX8_ofDiner e1) dL_law_402 v_X8 k_376 g_377 g_378 g_67 g_379 nX8_ofDiner rfl rfl (Nat.le_of_ble_eq_true rfl) ⟨Nat.le_of_ble_eq_true rfl, Nat.le_of_ble_eq_true rfl⟩ hC ?_
  refine zt_aload_n X dL_law_405 2 rfl rfl ?_
  refine zt_arg X (j := 1) (v := 1) (by decide) rfl (by omega) hL rfl rfl dL_law_406 dL_law_407 dL_law_408 dL_law_409 dL_law_410 ?_
  refine zt_arg X (j := 2) (v := 2) (by decide) rfl (by omega) hL rfl rfl dL_law_411 dL_law_412 dL_law_413 dL_law_414 dL_law_415 ?_
  refine zt_callM X [.int (xs (i + 1)), .int (xs (i + 2))] [.int x] (ctX9_ofDiner e2) dL_law_416 v_X9 k_908 g_909 g_910 h_77 g_911 nX9_ofDiner rfl rfl (Nat.le_of_ble_eq_true rfl) ⟨Nat.le_of_ble_eq_true rfl, Nat.le_of_ble_eq_true rfl⟩ hC ?_
  refine zt_icmp_eq X 1572 dL_law_419 (by decide) (fun _ => ?_) (fun h => absurd rfl h)
  exact k σ' τ' (r'.mono (by omega))
set_option maxRecDepth 100000 in
theorem lc_6 (X : LCx E1 E2 p s m c b L xs) (hL : L ≤ 3072) (hi : i + 6 ≤ L) (hC : cells ≤ 600000 ∧ slots ≤ 7302250) (hn : n ≤ i) (r : Rel σ τ n) (k : ∀ σ' τ', Rel σ' τ' (n + 1) → LWx E1 E2 p l e s m b below meth c cells slots Q 1572 [(0, .ref b), (1, .ref (ea E1 0)), (2, .ref (ea E2 0)), (3, .int (nI i))] [] σ' τ') : LWx E1 E2 p l e s m b below meth c cells slots Q 424 [(0, .ref b), (1, .ref (ea E1 0)), (2, .ref (ea E2 0)), (3, .int (nI i))] [] σ τ := by
  obtain ⟨x, σ', τ', e1, e2, r'⟩ := op_change r ((xs (i + 1))) ((xs (i + 2))) ((xs (i + 3)))
  refine zt_aload_n X dL_law_424 1 rfl rfl ?_
  refine zt_arg X (j := 1) (v := 1) (by decide) rfl (by omega) hL rfl rfl dL_law_425 dL_law_426 dL_law_427 dL_law_428 dL_law_429 ?_
  refine zt_arg X (j := 2) (v := 2) (by decide) rfl (by omega) hL rfl rfl dL_law_430 dL_law_431 dL_law_432 dL_law_433 dL_law_434 ?_
  refine zt_arg X (j := 3) (v := 3) (by decide) rfl (by omega) hL rfl rfl dL_law_435 dL_law_436 dL_law_437 dL_law_438 dL_law_439 ?_
  refine zt_callC X [.int (xs (i + 1)), .int (xs (i + 2)), .int (xs (i + 3))] [] (ctX8_change e1) dL_law_440 v_X8 k_422 g_423 g_424 g_67 g_425 nX8_change rfl rfl (Nat.le_of_ble_eq_true rfl) ⟨Nat.le_of_ble_eq_true rfl, Nat.le_of_ble_eq_true rfl⟩ hC ?_
  refine zt_aload_n X dL_law_443 2 rfl rfl ?_
  refine zt_arg X (j := 1) (v := 1) (by decide) rfl (by omega) hL rfl rfl dL_law_444 dL_law_445 dL_law_446 dL_law_447 dL_law_448 ?_
  refine zt_arg X (j := 2) (v := 2) (by decide) rfl (by omega) hL rfl rfl dL_law_449 dL_law_450 dL_law_451 dL_law_452 dL_law_453 ?_
  refine zt_arg X (j := 3) (v := 3) (by decide) rfl (by omega) hL rfl rfl dL_law_454 dL_law_455 dL_law_456 dL_law_457 dL_law_458 ?_
  refine zt_callM X [.int (xs (i + 1)), .int (xs (i + 2)), .int (xs (i + 3))] [.int x] (ctX9_change e2) dL_law_459 v_X9 k_998 g_999 g_1000 h_77 g_1001 nX9_change rfl rfl (Nat.le_of_ble_eq_true rfl) ⟨Nat.le_of_ble_eq_true rfl, Nat.le_of_ble_eq_true rfl⟩ hC ?_
  refine zt_icmp_eq X 1572 dL_law_462 (by decide) (fun _ => ?_) (fun h => absurd rfl h)
  exact k σ' τ' (r'.mono (by omega))
set_option maxRecDepth 100000 in
theorem lc_7 (X : LCx E1 E2 p s m c b L xs) (hL : L ≤ 3072) (hi : i + 6 ≤ L) (hC : cells ≤ 600000 ∧ slots ≤ 7302250) (hn : n ≤ i) (r : Rel σ τ n) (k : ∀ σ' τ', Rel σ' τ' (n + 1) → LWx E1 E2 p l e s m b below meth c cells slots Q 1572 [(0, .ref b), (1, .ref (ea E1 0)), (2, .ref (ea E2 0)), (3, .int (nI i))] [] σ' τ') : LWx E1 E2 p l e s m b below meth c cells slots Q 467 [(0, .ref b), (1, .ref (ea E1 0)), (2, .ref (ea E2 0)), (3, .int (nI i))] [] σ τ := by
  obtain ⟨x, σ', τ', e1, e2, r'⟩ := op_become r ((xs (i + 1))) ((xs (i + 2)))
  refine zt_aload_n X dL_law_467 1 rfl rfl ?_
  refine zt_arg X (j := 1) (v := 1) (by decide) rfl (by omega) hL rfl rfl dL_law_468 dL_law_469 dL_law_470 dL_law_471 dL_law_472 ?_
  refine zt_arg X (j := 2) (v := 2) (by decide) rfl (by omega) hL rfl rfl dL_law_473 dL_law_474 dL_law_475 dL_law_476 dL_law_477 ?_
  refine zt_callC X [.int (xs (i + 1)), .int (xs (i + 2))] [] (ctX8_become e1) dL_law_478 v_X8 k_429 g_430 g_431 g_67 g_432 nX8_become rfl rfl (Nat.le_of_ble_eq_true rfl) ⟨Nat.le_of_ble_eq_true rfl, Nat.le_of_ble_eq_true rfl⟩ hC ?_
  refine zt_aload_n X dL_law_481 2 rfl rfl ?_
  refine zt_arg X (j := 1) (v := 1) (by decide) rfl (by omega) hL rfl rfl dL_law_482 dL_law_483 dL_law_484 dL_law_485 dL_law_486 ?_
  refine zt_arg X (j := 2) (v := 2) (by decide) rfl (by omega) hL rfl rfl dL_law_487 dL_law_488 dL_law_489 dL_law_490 dL_law_491 ?_
  refine zt_callM X [.int (xs (i + 1)), .int (xs (i + 2))] [.int x] (ctX9_become e2) dL_law_492 v_X9 k_1002 g_1003 g_1004 h_77 g_1005 nX9_become rfl rfl (Nat.le_of_ble_eq_true rfl) ⟨Nat.le_of_ble_eq_true rfl, Nat.le_of_ble_eq_true rfl⟩ hC ?_
  refine zt_icmp_eq X 1572 dL_law_495 (by decide) (fun _ => ?_) (fun h => absurd rfl h)
  exact k σ' τ' (r'.mono (by omega))
set_option maxRecDepth 100000 in
theorem lc_8 (X : LCx E1 E2 p s m c b L xs) (hL : L ≤ 3072) (hi : i + 6 ≤ L) (hC : cells ≤ 600000 ∧ slots ≤ 7302250) (hn : n ≤ i) (r : Rel σ τ n) (k : ∀ σ' τ', Rel σ' τ' (n + 1) → LWx E1 E2 p l e s m b below meth c cells slots Q 1572 [(0, .ref b), (1, .ref (ea E1 0)), (2, .ref (ea E2 0)), (3, .int (nI i))] [] σ' τ') : LWx E1 E2 p l e s m b below meth c cells slots Q 500 [(0, .ref b), (1, .ref (ea E1 0)), (2, .ref (ea E2 0)), (3, .int (nI i))] [] σ τ := by
  obtain ⟨x, σ', τ', e1, e2, r'⟩ := op_as r ((xs (i + 1))) ((xs (i + 2)))
  refine zt_aload_n X dL_law_500 1 rfl rfl ?_
  refine zt_arg X (j := 1) (v := 1) (by decide) rfl (by omega) hL rfl rfl dL_law_501 dL_law_502 dL_law_503 dL_law_504 dL_law_505 ?_
  refine zt_arg X (j := 2) (v := 2) (by decide) rfl (by omega) hL rfl rfl dL_law_506 dL_law_507 dL_law_508 dL_law_509 dL_law_510 ?_
  refine zt_callC X [.int (xs (i + 1)), .int (xs (i + 2))] [] (ctX8_as e1) dL_law_511 v_X8 k_433 g_434 g_435 g_67 g_436 nX8_as rfl rfl (Nat.le_of_ble_eq_true rfl) ⟨Nat.le_of_ble_eq_true rfl, Nat.le_of_ble_eq_true rfl⟩ hC ?_
  refine zt_aload_n X dL_law_514 2 rfl rfl ?_
  refine zt_arg X (j := 1) (v := 1) (by decide) rfl (by omega) hL rfl rfl dL_law_515 dL_law_516 dL_law_517 dL_law_518 dL_law_519 ?_
  refine zt_arg X (j := 2) (v := 2) (by decide) rfl (by omega) hL rfl rfl dL_law_520 dL_law_521 dL_law_522 dL_law_523 dL_law_524 ?_
  refine zt_callM X [.int (xs (i + 1)), .int (xs (i + 2))] [.int x] (ctX9_as e2) dL_law_525 v_X9 k_1006 g_1007 g_1008 h_77 g_1009 nX9_as rfl rfl (Nat.le_of_ble_eq_true rfl) ⟨Nat.le_of_ble_eq_true rfl, Nat.le_of_ble_eq_true rfl⟩ hC ?_
  refine zt_icmp_eq X 1572 dL_law_528 (by decide) (fun _ => ?_) (fun h => absurd rfl h)
  exact k σ' τ' (r'.mono (by omega))
set_option maxRecDepth 100000 in
theorem lc_9 (X : LCx E1 E2 p s m c b L xs) (hL : L ≤ 3072) (hi : i + 6 ≤ L) (hC : cells ≤ 600000 ∧ slots ≤ 7302250) (hn : n ≤ i) (r : Rel σ τ n) (k : ∀ σ' τ', Rel σ' τ' (n + 1) → LWx E1 E2 p l e s m b below meth c cells slots Q 1572 [(0, .ref b), (1, .ref (ea E1 0)), (2, .ref (ea E2 0)), (3, .int (nI i))] [] σ' τ') : LWx E1 E2 p l e s m b below meth c cells slots Q 533 [(0, .ref b), (1, .ref (ea E1 0)), (2, .ref (ea E2 0)), (3, .int (nI i))] [] σ τ := by
  obtain ⟨x, σ', τ', e1, e2, r'⟩ := op_feed r (((((xs (i + 1))).toInt64 <<< ((32 : Int32).toInt64 &&& 63)) ||| (((xs (i + 2))).toInt64 &&& 4294967295))) ((xs (i + 3)))
  refine zt_aload_n X dL_law_533 1 rfl rfl ?_
  refine zt_arg X (j := 1) (v := 1) (by decide) rfl (by omega) hL rfl rfl dL_law_534 dL_law_535 dL_law_536 dL_law_537 dL_law_538 ?_
  refine zt_i2l X dL_law_539 ?_
  refine zt_bipush X dL_law_540 (v := 32) (by decide) ?_
  refine zt_lshl X dL_law_542 ?_
  refine zt_arg X (j := 2) (v := 2) (by decide) rfl (by omega) hL rfl rfl dL_law_543 dL_law_544 dL_law_545 dL_law_546 dL_law_547 ?_
  refine zt_i2l X dL_law_548 ?_
  refine zt_ldc2 X dL_law_549 k_1240 ?_
  refine zt_land X dL_law_552 rfl ?_
  refine zt_lor X dL_law_553 rfl ?_
  refine zt_arg X (j := 3) (v := 3) (by decide) rfl (by omega) hL rfl rfl dL_law_554 dL_law_555 dL_law_556 dL_law_557 dL_law_558 ?_
  refine zt_callC X [.long ((((xs (i + 1))).toInt64 <<< ((32 : Int32).toInt64 &&& 63)) ||| (((xs (i + 2))).toInt64 &&& 4294967295)), .int (xs (i + 3))] [] (ctX8_feed e1) dL_law_559 v_X8 k_445 g_446 g_447 g_67 g_448 nX8_feed rfl rfl (Nat.le_of_ble_eq_true rfl) ⟨Nat.le_of_ble_eq_true rfl, Nat.le_of_ble_eq_true rfl⟩ hC ?_
  refine zt_aload_n X dL_law_562 2 rfl rfl ?_
  refine zt_arg X (j := 1) (v := 1) (by decide) rfl (by omega) hL rfl rfl dL_law_563 dL_law_564 dL_law_565 dL_law_566 dL_law_567 ?_
  refine zt_i2l X dL_law_568 ?_
  refine zt_bipush X dL_law_569 (v := 32) (by decide) ?_
  refine zt_lshl X dL_law_571 ?_
  refine zt_arg X (j := 2) (v := 2) (by decide) rfl (by omega) hL rfl rfl dL_law_572 dL_law_573 dL_law_574 dL_law_575 dL_law_576 ?_
  refine zt_i2l X dL_law_577 ?_
  refine zt_ldc2 X dL_law_578 k_1240 ?_
  refine zt_land X dL_law_581 rfl ?_
  refine zt_lor X dL_law_582 rfl ?_
  refine zt_arg X (j := 3) (v := 3) (by decide) rfl (by omega) hL rfl rfl dL_law_583 dL_law_584 dL_law_585 dL_law_586 dL_law_587 ?_
  refine zt_callM X [.long ((((xs (i + 1))).toInt64 <<< ((32 : Int32).toInt64 &&& 63)) ||| (((xs (i + 2))).toInt64 &&& 4294967295)), .int (xs (i + 3))] [.int x] (ctX9_feed e2) dL_law_588 v_X9 k_1018 g_1019 g_1020 h_77 g_1021 nX9_feed rfl rfl (Nat.le_of_ble_eq_true rfl) ⟨Nat.le_of_ble_eq_true rfl, Nat.le_of_ble_eq_true rfl⟩ hC ?_
  refine zt_icmp_eq X 1572 dL_law_591 (by decide) (fun _ => ?_) (fun h => absurd rfl h)
  exact k σ' τ' (r'.mono (by omega))
set_option maxRecDepth 100000 in
theorem lc_10 (X : LCx E1 E2 p s m c b L xs) (hL : L ≤ 3072) (hi : i + 6 ≤ L) (hC : cells ≤ 600000 ∧ slots ≤ 7302250) (hn : n ≤ i) (r : Rel σ τ n) (k : ∀ σ' τ', Rel σ' τ' (n + 1) → LWx E1 E2 p l e s m b below meth c cells slots Q 1572 [(0, .ref b), (1, .ref (ea E1 0)), (2, .ref (ea E2 0)), (3, .int (nI i))] [] σ' τ') : LWx E1 E2 p l e s m b below meth c cells slots Q 596 [(0, .ref b), (1, .ref (ea E1 0)), (2, .ref (ea E2 0)), (3, .int (nI i))] [] σ τ := by
  obtain ⟨x, σ', τ', e1, e2, r'⟩ := op_text r ((xs (i + 1)))
  refine zt_aload_n X dL_law_596 1 rfl rfl ?_
  refine zt_arg X (j := 1) (v := 1) (by decide) rfl (by omega) hL rfl rfl dL_law_597 dL_law_598 dL_law_599 dL_law_600 dL_law_601 ?_
  refine zt_callC X [.int (xs (i + 1))] [] (ctX8_text e1) dL_law_602 v_X8 k_453 g_454 g_455 g_67 g_456 nX8_text rfl rfl (Nat.le_of_ble_eq_true rfl) ⟨Nat.le_of_ble_eq_true rfl, Nat.le_of_ble_eq_true rfl⟩ hC ?_
  refine zt_aload_n X dL_law_605 2 rfl rfl ?_
  refine zt_arg X (j := 1) (v := 1) (by decide) rfl (by omega) hL rfl rfl dL_law_606 dL_law_607 dL_law_608 dL_law_609 dL_law_610 ?_
  refine zt_callM X [.int (xs (i + 1))] [.int x] (ctX9_text e2) dL_law_611 v_X9 k_1023 g_1024 g_1025 h_77 g_1026 nX9_text rfl rfl (Nat.le_of_ble_eq_true rfl) ⟨Nat.le_of_ble_eq_true rfl, Nat.le_of_ble_eq_true rfl⟩ hC ?_
  refine zt_icmp_eq X 1572 dL_law_614 (by decide) (fun _ => ?_) (fun h => absurd rfl h)
  exact k σ' τ' (r'.mono (by omega))
set_option maxRecDepth 100000 in
theorem lc_11 (X : LCx E1 E2 p s m c b L xs) (hL : L ≤ 3072) (hi : i + 6 ≤ L) (hC : cells ≤ 600000 ∧ slots ≤ 7302250) (hn : n ≤ i) (r : Rel σ τ n) (k : ∀ σ' τ', Rel σ' τ' (n + 1) → LWx E1 E2 p l e s m b below meth c cells slots Q 1572 [(0, .ref b), (1, .ref (ea E1 0)), (2, .ref (ea E2 0)), (3, .int (nI i))] [] σ' τ') : LWx E1 E2 p l e s m b below meth c cells slots Q 619 [(0, .ref b), (1, .ref (ea E1 0)), (2, .ref (ea E2 0)), (3, .int (nI i))] [] σ τ := by
  obtain ⟨x, σ', τ', e1, e2, r'⟩ := op_law r ((xs (i + 1))) ((xs (i + 2))) ((xs (i + 3))) ((xs (i + 4)))
  refine zt_aload_n X dL_law_619 1 rfl rfl ?_
  refine zt_arg X (j := 1) (v := 1) (by decide) rfl (by omega) hL rfl rfl dL_law_620 dL_law_621 dL_law_622 dL_law_623 dL_law_624 ?_
  refine zt_arg X (j := 2) (v := 2) (by decide) rfl (by omega) hL rfl rfl dL_law_625 dL_law_626 dL_law_627 dL_law_628 dL_law_629 ?_
  refine zt_arg X (j := 3) (v := 3) (by decide) rfl (by omega) hL rfl rfl dL_law_630 dL_law_631 dL_law_632 dL_law_633 dL_law_634 ?_
  refine zt_arg X (j := 4) (v := 4) (by decide) rfl (by omega) hL rfl rfl dL_law_635 dL_law_636 dL_law_637 dL_law_638 dL_law_639 ?_
  refine zt_callC X [.int (xs (i + 1)), .int (xs (i + 2)), .int (xs (i + 3)), .int (xs (i + 4))] [] (ctX8_law e1) dL_law_640 v_X8 k_513 g_514 g_515 g_67 g_516 nX8_law rfl rfl (Nat.le_of_ble_eq_true rfl) ⟨Nat.le_of_ble_eq_true rfl, Nat.le_of_ble_eq_true rfl⟩ hC ?_
  refine zt_aload_n X dL_law_643 2 rfl rfl ?_
  refine zt_arg X (j := 1) (v := 1) (by decide) rfl (by omega) hL rfl rfl dL_law_644 dL_law_645 dL_law_646 dL_law_647 dL_law_648 ?_
  refine zt_arg X (j := 2) (v := 2) (by decide) rfl (by omega) hL rfl rfl dL_law_649 dL_law_650 dL_law_651 dL_law_652 dL_law_653 ?_
  refine zt_arg X (j := 3) (v := 3) (by decide) rfl (by omega) hL rfl rfl dL_law_654 dL_law_655 dL_law_656 dL_law_657 dL_law_658 ?_
  refine zt_arg X (j := 4) (v := 4) (by decide) rfl (by omega) hL rfl rfl dL_law_659 dL_law_660 dL_law_661 dL_law_662 dL_law_663 ?_
  refine zt_callM X [.int (xs (i + 1)), .int (xs (i + 2)), .int (xs (i + 3)), .int (xs (i + 4))] [.int x] (ctX9_law e2) dL_law_664 v_X9 k_1014 g_1015 g_1016 h_77 g_1017 nX9_law rfl rfl (Nat.le_of_ble_eq_true rfl) ⟨Nat.le_of_ble_eq_true rfl, Nat.le_of_ble_eq_true rfl⟩ hC ?_
  refine zt_icmp_eq X 1572 dL_law_667 (by decide) (fun _ => ?_) (fun h => absurd rfl h)
  exact k σ' τ' (r'.mono (by omega))
set_option maxRecDepth 100000 in
theorem lc_12 (X : LCx E1 E2 p s m c b L xs) (hL : L ≤ 3072) (hi : i + 6 ≤ L) (hC : cells ≤ 600000 ∧ slots ≤ 7302250) (hn : n ≤ i) (r : Rel σ τ n) (k : ∀ σ' τ', Rel σ' τ' (n + 1) → LWx E1 E2 p l e s m b below meth c cells slots Q 1572 [(0, .ref b), (1, .ref (ea E1 0)), (2, .ref (ea E2 0)), (3, .int (nI i))] [] σ' τ') : LWx E1 E2 p l e s m b below meth c cells slots Q 672 [(0, .ref b), (1, .ref (ea E1 0)), (2, .ref (ea E2 0)), (3, .int (nI i))] [] σ τ := by
  obtain ⟨x, σ', τ', e1, e2, r'⟩ := op_days r ((xs (i + 1)))
  refine zt_aload_n X dL_law_672 1 rfl rfl ?_
  refine zt_arg X (j := 1) (v := 1) (by decide) rfl (by omega) hL rfl rfl dL_law_673 dL_law_674 dL_law_675 dL_law_676 dL_law_677 ?_
  refine zt_callC X [.int (xs (i + 1))] [] (ctX8_days e1) dL_law_678 v_X8 k_518 g_519 g_520 g_67 g_521 nX8_days rfl rfl (Nat.le_of_ble_eq_true rfl) ⟨Nat.le_of_ble_eq_true rfl, Nat.le_of_ble_eq_true rfl⟩ hC ?_
  refine zt_aload_n X dL_law_681 2 rfl rfl ?_
  refine zt_arg X (j := 1) (v := 1) (by decide) rfl (by omega) hL rfl rfl dL_law_682 dL_law_683 dL_law_684 dL_law_685 dL_law_686 ?_
  refine zt_callM X [.int (xs (i + 1))] [.int x] (ctX9_days e2) dL_law_687 v_X9 k_1031 g_1032 g_1033 h_77 g_1034 nX9_days rfl rfl (Nat.le_of_ble_eq_true rfl) ⟨Nat.le_of_ble_eq_true rfl, Nat.le_of_ble_eq_true rfl⟩ hC ?_
  refine zt_icmp_eq X 1572 dL_law_690 (by decide) (fun _ => ?_) (fun h => absurd rfl h)
  exact k σ' τ' (r'.mono (by omega))
set_option maxRecDepth 100000 in
theorem lc_13 (X : LCx E1 E2 p s m c b L xs) (hL : L ≤ 3072) (hi : i + 6 ≤ L) (hC : cells ≤ 600000 ∧ slots ≤ 7302250) (hn : n ≤ i) (r : Rel σ τ n) (k : ∀ σ' τ', Rel σ' τ' (n + 1) → LWx E1 E2 p l e s m b below meth c cells slots Q 1572 [(0, .ref b), (1, .ref (ea E1 0)), (2, .ref (ea E2 0)), (3, .int (nI i))] [] σ' τ') : LWx E1 E2 p l e s m b below meth c cells slots Q 695 [(0, .ref b), (1, .ref (ea E1 0)), (2, .ref (ea E2 0)), (3, .int (nI i))] [] σ τ := by
  obtain ⟨x, σ', τ', e1, e2, r'⟩ := op_loose r ((xs (i + 1)))
  refine zt_aload_n X dL_law_695 1 rfl rfl ?_
  refine zt_arg X (j := 1) (v := 1) (by decide) rfl (by omega) hL rfl rfl dL_law_696 dL_law_697 dL_law_698 dL_law_699 dL_law_700 ?_
  refine zt_callC X [.int (xs (i + 1))] [] (ctX8_loose e1) dL_law_701 v_X8 k_543 g_544 g_545 g_67 g_546 nX8_loose rfl rfl (Nat.le_of_ble_eq_true rfl) ⟨Nat.le_of_ble_eq_true rfl, Nat.le_of_ble_eq_true rfl⟩ hC ?_
  refine zt_aload_n X dL_law_704 2 rfl rfl ?_
  refine zt_arg X (j := 1) (v := 1) (by decide) rfl (by omega) hL rfl rfl dL_law_705 dL_law_706 dL_law_707 dL_law_708 dL_law_709 ?_
  refine zt_callM X [.int (xs (i + 1))] [.int x] (ctX9_loose e2) dL_law_710 v_X9 k_1060 g_1061 g_1062 h_77 g_1063 nX9_loose rfl rfl (Nat.le_of_ble_eq_true rfl) ⟨Nat.le_of_ble_eq_true rfl, Nat.le_of_ble_eq_true rfl⟩ hC ?_
  refine zt_icmp_eq X 1572 dL_law_713 (by decide) (fun _ => ?_) (fun h => absurd rfl h)
  exact k σ' τ' (r'.mono (by omega))
set_option maxRecDepth 100000 in
theorem lc_14 (X : LCx E1 E2 p s m c b L xs) (hL : L ≤ 3072) (hi : i + 6 ≤ L) (hC : cells ≤ 600000 ∧ slots ≤ 7302250) (hn : n ≤ i) (r : Rel σ τ n) (k : ∀ σ' τ', Rel σ' τ' (n + 1) → LWx E1 E2 p l e s m b below meth c cells slots Q 1572 [(0, .ref b), (1, .ref (ea E1 0)), (2, .ref (ea E2 0)), (3, .int (nI i))] [] σ' τ') : LWx E1 E2 p l e s m b below meth c cells slots Q 718 [(0, .ref b), (1, .ref (ea E1 0)), (2, .ref (ea E2 0)), (3, .int (nI i))] [] σ τ := by
  obtain ⟨x, σ', τ', e1, e2, r'⟩ := op_then r ((xs (i + 1))) ((xs (i + 2))) ((xs (i + 3)))
  refine zt_aload_n X dL_law_718 1 rfl rfl ?_
  refine zt_arg X (j := 1) (v := 1) (by decide) rfl (by omega) hL rfl rfl dL_law_719 dL_law_720 dL_law_721 dL_law_722 dL_law_723 ?_
  refine zt_arg X (j := 2) (v := 2) (by decide) rfl (by omega) hL rfl rfl dL_law_724 dL_law_725 dL_law_726 dL_law_727 dL_law_728 ?_
  refine zt_arg X (j := 3) (v := 3) (by decide) rfl (by omega) hL rfl rfl dL_law_729 dL_law_730 dL_law_731 dL_law_732 dL_law_733 ?_
  refine zt_callC X [.int (xs (i + 1)), .int (xs (i + 2)), .int (xs (i + 3))] [] (ctX8_then e1) dL_law_734 v_X8 k_552 g_553 g_554 g_67 g_555 nX8_then rfl rfl (Nat.le_of_ble_eq_true rfl) ⟨Nat.le_of_ble_eq_true rfl, Nat.le_of_ble_eq_true rfl⟩ hC ?_
  refine zt_aload_n X dL_law_737 2 rfl rfl ?_
  refine zt_arg X (j := 1) (v := 1) (by decide) rfl (by omega) hL rfl rfl dL_law_738 dL_law_739 dL_law_740 dL_law_741 dL_law_742 ?_
  refine zt_arg X (j := 2) (v := 2) (by decide) rfl (by omega) hL rfl rfl dL_law_743 dL_law_744 dL_law_745 dL_law_746 dL_law_747 ?_
  refine zt_arg X (j := 3) (v := 3) (by decide) rfl (by omega) hL rfl rfl dL_law_748 dL_law_749 dL_law_750 dL_law_751 dL_law_752 ?_
  refine zt_callM X [.int (xs (i + 1)), .int (xs (i + 2)), .int (xs (i + 3))] [.int x] (ctX9_then e2) dL_law_753 v_X9 k_1069 g_1070 g_1071 h_77 g_1072 nX9_then rfl rfl (Nat.le_of_ble_eq_true rfl) ⟨Nat.le_of_ble_eq_true rfl, Nat.le_of_ble_eq_true rfl⟩ hC ?_
  refine zt_icmp_eq X 1572 dL_law_756 (by decide) (fun _ => ?_) (fun h => absurd rfl h)
  exact k σ' τ' (r'.mono (by omega))
set_option maxRecDepth 100000 in
theorem lc_15 (X : LCx E1 E2 p s m c b L xs) (hL : L ≤ 3072) (hi : i + 6 ≤ L) (hC : cells ≤ 600000 ∧ slots ≤ 7302250) (hn : n ≤ i) (r : Rel σ τ n) (k : ∀ σ' τ', Rel σ' τ' (n + 1) → LWx E1 E2 p l e s m b below meth c cells slots Q 1572 [(0, .ref b), (1, .ref (ea E1 0)), (2, .ref (ea E2 0)), (3, .int (nI i))] [] σ' τ') : LWx E1 E2 p l e s m b below meth c cells slots Q 761 [(0, .ref b), (1, .ref (ea E1 0)), (2, .ref (ea E2 0)), (3, .int (nI i))] [] σ τ := by
  obtain ⟨x, σ', τ', e1, e2, r'⟩ := op_out r ((xs (i + 1))) ((xs (i + 2)))
  refine zt_aload_n X dL_law_761 1 rfl rfl ?_
  refine zt_arg X (j := 1) (v := 1) (by decide) rfl (by omega) hL rfl rfl dL_law_762 dL_law_763 dL_law_764 dL_law_765 dL_law_766 ?_
  refine zt_arg X (j := 2) (v := 2) (by decide) rfl (by omega) hL rfl rfl dL_law_767 dL_law_768 dL_law_769 dL_law_770 dL_law_771 ?_
  refine zt_callC X [.int (xs (i + 1)), .int (xs (i + 2))] [] (ctX8_out e1) dL_law_772 v_X8 k_568 g_569 g_570 g_67 g_571 nX8_out rfl rfl (Nat.le_of_ble_eq_true rfl) ⟨Nat.le_of_ble_eq_true rfl, Nat.le_of_ble_eq_true rfl⟩ hC ?_
  refine zt_aload_n X dL_law_775 2 rfl rfl ?_
  refine zt_arg X (j := 1) (v := 1) (by decide) rfl (by omega) hL rfl rfl dL_law_776 dL_law_777 dL_law_778 dL_law_779 dL_law_780 ?_
  refine zt_arg X (j := 2) (v := 2) (by decide) rfl (by omega) hL rfl rfl dL_law_781 dL_law_782 dL_law_783 dL_law_784 dL_law_785 ?_
  refine zt_callM X [.int (xs (i + 1)), .int (xs (i + 2))] [.int x] (ctX9_out e2) dL_law_786 v_X9 k_1073 g_1074 g_1075 h_77 g_1076 nX9_out rfl rfl (Nat.le_of_ble_eq_true rfl) ⟨Nat.le_of_ble_eq_true rfl, Nat.le_of_ble_eq_true rfl⟩ hC ?_
  refine zt_icmp_eq X 1572 dL_law_789 (by decide) (fun _ => ?_) (fun h => absurd rfl h)
  exact k σ' τ' (r'.mono (by omega))
set_option maxRecDepth 100000 in
theorem lc_16 (X : LCx E1 E2 p s m c b L xs) (hL : L ≤ 3072) (hi : i + 6 ≤ L) (hC : cells ≤ 600000 ∧ slots ≤ 7302250) (hn : n ≤ i) (r : Rel σ τ n) (k : ∀ σ' τ', Rel σ' τ' (n + 1) → LWx E1 E2 p l e s m b below meth c cells slots Q 1572 [(0, .ref b), (1, .ref (ea E1 0)), (2, .ref (ea E2 0)), (3, .int (nI i))] [] σ' τ') : LWx E1 E2 p l e s m b below meth c cells slots Q 794 [(0, .ref b), (1, .ref (ea E1 0)), (2, .ref (ea E2 0)), (3, .int (nI i))] [] σ τ := by
  obtain ⟨x, σ', τ', e1, e2, r'⟩ := op_first r ((xs (i + 1)))
  refine zt_aload_n X dL_law_794 1 rfl rfl ?_
  refine zt_arg X (j := 1) (v := 1) (by decide) rfl (by omega) hL rfl rfl dL_law_795 dL_law_796 dL_law_797 dL_law_798 dL_law_799 ?_
  refine zt_callC X [.int (xs (i + 1))] [] (ctX8_first e1) dL_law_800 v_X8 k_572 g_573 g_574 g_67 g_575 nX8_first rfl rfl (Nat.le_of_ble_eq_true rfl) ⟨Nat.le_of_ble_eq_true rfl, Nat.le_of_ble_eq_true rfl⟩ hC ?_
  refine zt_aload_n X dL_law_803 2 rfl rfl ?_
  refine zt_arg X (j := 1) (v := 1) (by decide) rfl (by omega) hL rfl rfl dL_law_804 dL_law_805 dL_law_806 dL_law_807 dL_law_808 ?_
  refine zt_callM X [.int (xs (i + 1))] [.int x] (ctX9_first e2) dL_law_809 v_X9 k_1078 g_1079 g_1080 h_77 g_1081 nX9_first rfl rfl (Nat.le_of_ble_eq_true rfl) ⟨Nat.le_of_ble_eq_true rfl, Nat.le_of_ble_eq_true rfl⟩ hC ?_
  refine zt_icmp_eq X 1572 dL_law_812 (by decide) (fun _ => ?_) (fun h => absurd rfl h)
  exact k σ' τ' (r'.mono (by omega))
set_option maxRecDepth 100000 in
theorem lc_17 (X : LCx E1 E2 p s m c b L xs) (hL : L ≤ 3072) (hi : i + 6 ≤ L) (hC : cells ≤ 600000 ∧ slots ≤ 7302250) (hn : n ≤ i) (r : Rel σ τ n) (k : ∀ σ' τ', Rel σ' τ' (n + 1) → LWx E1 E2 p l e s m b below meth c cells slots Q 1572 [(0, .ref b), (1, .ref (ea E1 0)), (2, .ref (ea E2 0)), (3, .int (nI i))] [] σ' τ') : LWx E1 E2 p l e s m b below meth c cells slots Q 817 [(0, .ref b), (1, .ref (ea E1 0)), (2, .ref (ea E2 0)), (3, .int (nI i))] [] σ τ := by
  obtain ⟨x, σ', τ', e1, e2, r'⟩ := op_roomFor r ((xs (i + 1))) ((xs (i + 2))) ((xs (i + 3)))
  refine zt_aload_n X dL_law_817 1 rfl rfl ?_
  refine zt_arg X (j := 1) (v := 1) (by decide) rfl (by omega) hL rfl rfl dL_law_818 dL_law_819 dL_law_820 dL_law_821 dL_law_822 ?_
  refine zt_arg X (j := 2) (v := 2) (by decide) rfl (by omega) hL rfl rfl dL_law_823 dL_law_824 dL_law_825 dL_law_826 dL_law_827 ?_
  refine zt_arg X (j := 3) (v := 3) (by decide) rfl (by omega) hL rfl rfl dL_law_828 dL_law_829 dL_law_830 dL_law_831 dL_law_832 ?_
  refine zt_callC X [.int (xs (i + 1)), .int (xs (i + 2)), .int (xs (i + 3))] [] (ctX8_roomFor e1) dL_law_833 v_X8 k_580 g_581 g_582 g_67 g_583 nX8_roomFor rfl rfl (Nat.le_of_ble_eq_true rfl) ⟨Nat.le_of_ble_eq_true rfl, Nat.le_of_ble_eq_true rfl⟩ hC ?_
  refine zt_aload_n X dL_law_836 2 rfl rfl ?_
  refine zt_arg X (j := 1) (v := 1) (by decide) rfl (by omega) hL rfl rfl dL_law_837 dL_law_838 dL_law_839 dL_law_840 dL_law_841 ?_
  refine zt_arg X (j := 2) (v := 2) (by decide) rfl (by omega) hL rfl rfl dL_law_842 dL_law_843 dL_law_844 dL_law_845 dL_law_846 ?_
  refine zt_arg X (j := 3) (v := 3) (by decide) rfl (by omega) hL rfl rfl dL_law_847 dL_law_848 dL_law_849 dL_law_850 dL_law_851 ?_
  refine zt_callM X [.int (xs (i + 1)), .int (xs (i + 2)), .int (xs (i + 3))] [.int x] (ctX9_roomFor e2) dL_law_852 v_X9 k_1082 g_1083 g_1084 h_77 g_1085 nX9_roomFor rfl rfl (Nat.le_of_ble_eq_true rfl) ⟨Nat.le_of_ble_eq_true rfl, Nat.le_of_ble_eq_true rfl⟩ hC ?_
  refine zt_icmp_eq X 1572 dL_law_855 (by decide) (fun _ => ?_) (fun h => absurd rfl h)
  exact k σ' τ' (r'.mono (by omega))
set_option maxRecDepth 100000 in
theorem lc_18 (X : LCx E1 E2 p s m c b L xs) (hL : L ≤ 3072) (hi : i + 6 ≤ L) (hC : cells ≤ 600000 ∧ slots ≤ 7302250) (hn : n ≤ i) (r : Rel σ τ n) (k : ∀ σ' τ', Rel σ' τ' (n + 1) → LWx E1 E2 p l e s m b below meth c cells slots Q 1572 [(0, .ref b), (1, .ref (ea E1 0)), (2, .ref (ea E2 0)), (3, .int (nI i))] [] σ' τ') : LWx E1 E2 p l e s m b below meth c cells slots Q 860 [(0, .ref b), (1, .ref (ea E1 0)), (2, .ref (ea E2 0)), (3, .int (nI i))] [] σ τ := by
  obtain ⟨x, σ', τ', e1, e2, r'⟩ := op_best r ((xs (i + 1))) ((xs (i + 2))) ((xs (i + 3)))
  refine zt_aload_n X dL_law_860 1 rfl rfl ?_
  refine zt_arg X (j := 1) (v := 1) (by decide) rfl (by omega) hL rfl rfl dL_law_861 dL_law_862 dL_law_863 dL_law_864 dL_law_865 ?_
  refine zt_arg X (j := 2) (v := 2) (by decide) rfl (by omega) hL rfl rfl dL_law_866 dL_law_867 dL_law_868 dL_law_869 dL_law_870 ?_
  refine zt_arg X (j := 3) (v := 3) (by decide) rfl (by omega) hL rfl rfl dL_law_871 dL_law_872 dL_law_873 dL_law_874 dL_law_875 ?_
  refine zt_callC X [.int (xs (i + 1)), .int (xs (i + 2)), .int (xs (i + 3))] [] (ctX8_best e1) dL_law_876 v_X8 k_584 g_585 g_586 g_67 g_587 nX8_best rfl rfl (Nat.le_of_ble_eq_true rfl) ⟨Nat.le_of_ble_eq_true rfl, Nat.le_of_ble_eq_true rfl⟩ hC ?_
  refine zt_aload_n X dL_law_879 2 rfl rfl ?_
  refine zt_arg X (j := 1) (v := 1) (by decide) rfl (by omega) hL rfl rfl dL_law_880 dL_law_881 dL_law_882 dL_law_883 dL_law_884 ?_
  refine zt_arg X (j := 2) (v := 2) (by decide) rfl (by omega) hL rfl rfl dL_law_885 dL_law_886 dL_law_887 dL_law_888 dL_law_889 ?_
  refine zt_arg X (j := 3) (v := 3) (by decide) rfl (by omega) hL rfl rfl dL_law_890 dL_law_891 dL_law_892 dL_law_893 dL_law_894 ?_
  refine zt_callM X [.int (xs (i + 1)), .int (xs (i + 2)), .int (xs (i + 3))] [.int x] (ctX9_best e2) dL_law_895 v_X9 k_1090 g_1091 g_1092 h_77 g_1093 nX9_best rfl rfl (Nat.le_of_ble_eq_true rfl) ⟨Nat.le_of_ble_eq_true rfl, Nat.le_of_ble_eq_true rfl⟩ hC ?_
  refine zt_icmp_eq X 1572 dL_law_898 (by decide) (fun _ => ?_) (fun h => absurd rfl h)
  exact k σ' τ' (r'.mono (by omega))
set_option maxRecDepth 100000 in
theorem lc_19 (X : LCx E1 E2 p s m c b L xs) (hL : L ≤ 3072) (hi : i + 6 ≤ L) (hC : cells ≤ 600000 ∧ slots ≤ 7302250) (hn : n ≤ i) (r : Rel σ τ n) (k : ∀ σ' τ', Rel σ' τ' (n + 1) → LWx E1 E2 p l e s m b below meth c cells slots Q 1572 [(0, .ref b), (1, .ref (ea E1 0)), (2, .ref (ea E2 0)), (3, .int (nI i))] [] σ' τ') : LWx E1 E2 p l e s m b below meth c cells slots Q 903 [(0, .ref b), (1, .ref (ea E1 0)), (2, .ref (ea E2 0)), (3, .int (nI i))] [] σ τ := by
  obtain ⟨x, σ', τ', e1, e2, r'⟩ := op_swap r ((xs (i + 1)))
  refine zt_aload_n X dL_law_903 1 rfl rfl ?_
  refine zt_arg X (j := 1) (v := 1) (by decide) rfl (by omega) hL rfl rfl dL_law_904 dL_law_905 dL_law_906 dL_law_907 dL_law_908 ?_
  refine zt_callC X [.int (xs (i + 1))] [] (ctX8_swap e1) dL_law_909 v_X8 k_592 g_593 g_594 g_67 g_595 nX8_swap rfl rfl (Nat.le_of_ble_eq_true rfl) ⟨Nat.le_of_ble_eq_true rfl, Nat.le_of_ble_eq_true rfl⟩ hC ?_
  refine zt_aload_n X dL_law_912 2 rfl rfl ?_
  refine zt_arg X (j := 1) (v := 1) (by decide) rfl (by omega) hL rfl rfl dL_law_913 dL_law_914 dL_law_915 dL_law_916 dL_law_917 ?_
  refine zt_callM X [.int (xs (i + 1))] [.int x] (ctX9_swap e2) dL_law_918 v_X9 k_1102 g_1103 g_1104 h_77 g_1105 nX9_swap rfl rfl (Nat.le_of_ble_eq_true rfl) ⟨Nat.le_of_ble_eq_true rfl, Nat.le_of_ble_eq_true rfl⟩ hC ?_
  refine zt_icmp_eq X 1572 dL_law_921 (by decide) (fun _ => ?_) (fun h => absurd rfl h)
  exact k σ' τ' (r'.mono (by omega))
set_option maxRecDepth 100000 in
theorem lc_20 (X : LCx E1 E2 p s m c b L xs) (hL : L ≤ 3072) (hi : i + 6 ≤ L) (hC : cells ≤ 600000 ∧ slots ≤ 7302250) (hn : n ≤ i) (r : Rel σ τ n) (k : ∀ σ' τ', Rel σ' τ' (n + 1) → LWx E1 E2 p l e s m b below meth c cells slots Q 1572 [(0, .ref b), (1, .ref (ea E1 0)), (2, .ref (ea E2 0)), (3, .int (nI i))] [] σ' τ') : LWx E1 E2 p l e s m b below meth c cells slots Q 926 [(0, .ref b), (1, .ref (ea E1 0)), (2, .ref (ea E2 0)), (3, .int (nI i))] [] σ τ := by
  obtain ⟨x, σ', τ', e1, e2, r'⟩ := op_whose r ((xs (i + 1))) ((xs (i + 2))) ((xs (i + 3)))
  refine zt_aload_n X dL_law_926 1 rfl rfl ?_
  refine zt_arg X (j := 1) (v := 1) (by decide) rfl (by omega) hL rfl rfl dL_law_927 dL_law_928 dL_law_929 dL_law_930 dL_law_931 ?_
  refine zt_arg X (j := 2) (v := 2) (by decide) rfl (by omega) hL rfl rfl dL_law_932 dL_law_933 dL_law_934 dL_law_935 dL_law_936 ?_
  refine zt_arg X (j := 3) (v := 3) (by decide) rfl (by omega) hL rfl rfl dL_law_937 dL_law_938 dL_law_939 dL_law_940 dL_law_941 ?_
  refine zt_callC X [.int (xs (i + 1)), .int (xs (i + 2)), .int (xs (i + 3))] [] (ctX8_whose e1) dL_law_942 v_X8 k_596 g_597 g_598 g_67 g_599 nX8_whose rfl rfl (Nat.le_of_ble_eq_true rfl) ⟨Nat.le_of_ble_eq_true rfl, Nat.le_of_ble_eq_true rfl⟩ hC ?_
  refine zt_aload_n X dL_law_945 2 rfl rfl ?_
  refine zt_arg X (j := 1) (v := 1) (by decide) rfl (by omega) hL rfl rfl dL_law_946 dL_law_947 dL_law_948 dL_law_949 dL_law_950 ?_
  refine zt_arg X (j := 2) (v := 2) (by decide) rfl (by omega) hL rfl rfl dL_law_951 dL_law_952 dL_law_953 dL_law_954 dL_law_955 ?_
  refine zt_arg X (j := 3) (v := 3) (by decide) rfl (by omega) hL rfl rfl dL_law_956 dL_law_957 dL_law_958 dL_law_959 dL_law_960 ?_
  refine zt_callM X [.int (xs (i + 1)), .int (xs (i + 2)), .int (xs (i + 3))] [.int x] (ctX9_whose e2) dL_law_961 v_X9 k_1106 g_1107 g_1108 h_77 g_1109 nX9_whose rfl rfl (Nat.le_of_ble_eq_true rfl) ⟨Nat.le_of_ble_eq_true rfl, Nat.le_of_ble_eq_true rfl⟩ hC ?_
  refine zt_icmp_eq X 1572 dL_law_964 (by decide) (fun _ => ?_) (fun h => absurd rfl h)
  exact k σ' τ' (r'.mono (by omega))
set_option maxRecDepth 100000 in
theorem lc_21 (X : LCx E1 E2 p s m c b L xs) (hL : L ≤ 3072) (hi : i + 6 ≤ L) (hC : cells ≤ 600000 ∧ slots ≤ 7302250) (hn : n ≤ i) (r : Rel σ τ n) (k : ∀ σ' τ', Rel σ' τ' (n + 1) → LWx E1 E2 p l e s m b below meth c cells slots Q 1572 [(0, .ref b), (1, .ref (ea E1 0)), (2, .ref (ea E2 0)), (3, .int (nI i))] [] σ' τ') : LWx E1 E2 p l e s m b below meth c cells slots Q 969 [(0, .ref b), (1, .ref (ea E1 0)), (2, .ref (ea E2 0)), (3, .int (nI i))] [] σ τ := by
  obtain ⟨x, σ', τ', e1, e2, r'⟩ := op_loved r ((xs (i + 1))) ((xs (i + 2)))
  refine zt_aload_n X dL_law_969 1 rfl rfl ?_
  refine zt_arg X (j := 1) (v := 1) (by decide) rfl (by omega) hL rfl rfl dL_law_970 dL_law_971 dL_law_972 dL_law_973 dL_law_974 ?_
  refine zt_arg X (j := 2) (v := 2) (by decide) rfl (by omega) hL rfl rfl dL_law_975 dL_law_976 dL_law_977 dL_law_978 dL_law_979 ?_
  refine zt_callC X [.int (xs (i + 1)), .int (xs (i + 2))] [] (ctX8_loved e1) dL_law_980 v_X8 k_607 g_608 g_609 g_67 g_610 nX8_loved rfl rfl (Nat.le_of_ble_eq_true rfl) ⟨Nat.le_of_ble_eq_true rfl, Nat.le_of_ble_eq_true rfl⟩ hC ?_
  refine zt_aload_n X dL_law_983 2 rfl rfl ?_
  refine zt_arg X (j := 1) (v := 1) (by decide) rfl (by omega) hL rfl rfl dL_law_984 dL_law_985 dL_law_986 dL_law_987 dL_law_988 ?_
  refine zt_arg X (j := 2) (v := 2) (by decide) rfl (by omega) hL rfl rfl dL_law_989 dL_law_990 dL_law_991 dL_law_992 dL_law_993 ?_
  refine zt_callM X [.int (xs (i + 1)), .int (xs (i + 2))] [.int x] (ctX9_loved e2) dL_law_994 v_X9 k_1117 g_1118 g_1119 h_77 g_1120 nX9_loved rfl rfl (Nat.le_of_ble_eq_true rfl) ⟨Nat.le_of_ble_eq_true rfl, Nat.le_of_ble_eq_true rfl⟩ hC ?_
  refine zt_icmp_eq X 1572 dL_law_997 (by decide) (fun _ => ?_) (fun h => absurd rfl h)
  exact k σ' τ' (r'.mono (by omega))
set_option maxRecDepth 100000 in
theorem lc_22 (X : LCx E1 E2 p s m c b L xs) (hL : L ≤ 3072) (hi : i + 6 ≤ L) (hC : cells ≤ 600000 ∧ slots ≤ 7302250) (hn : n ≤ i) (r : Rel σ τ n) (k : ∀ σ' τ', Rel σ' τ' (n + 1) → LWx E1 E2 p l e s m b below meth c cells slots Q 1572 [(0, .ref b), (1, .ref (ea E1 0)), (2, .ref (ea E2 0)), (3, .int (nI i))] [] σ' τ') : LWx E1 E2 p l e s m b below meth c cells slots Q 1002 [(0, .ref b), (1, .ref (ea E1 0)), (2, .ref (ea E2 0)), (3, .int (nI i))] [] σ τ := by
  obtain ⟨x, σ', τ', e1, e2, r'⟩ := op_pack r ((xs (i + 1)))
  refine zt_aload_n X dL_law_1002 1 rfl rfl ?_
  refine zt_arg X (j := 1) (v := 1) (by decide) rfl (by omega) hL rfl rfl dL_law_1003 dL_law_1004 dL_law_1005 dL_law_1006 dL_law_1007 ?_
  refine zt_callC X [.int (xs (i + 1))] [] (ctX8_pack e1) dL_law_1008 v_X8 k_611 g_612 g_613 g_67 g_614 nX8_pack rfl rfl (Nat.le_of_ble_eq_true rfl) ⟨Nat.le_of_ble_eq_true rfl, Nat.le_of_ble_eq_true rfl⟩ hC ?_
  refine zt_aload_n X dL_law_1011 2 rfl rfl ?_
  refine zt_arg X (j := 1) (v := 1) (by decide) rfl (by omega) hL rfl rfl dL_law_1012 dL_law_1013 dL_law_1014 dL_law_1015 dL_law_1016 ?_
  refine zt_callM X [.int (xs (i + 1))] [.int x] (ctX9_pack e2) dL_law_1017 v_X9 k_1125 g_1126 g_1127 h_77 g_1128 nX9_pack rfl rfl (Nat.le_of_ble_eq_true rfl) ⟨Nat.le_of_ble_eq_true rfl, Nat.le_of_ble_eq_true rfl⟩ hC ?_
  refine zt_icmp_eq X 1572 dL_law_1020 (by decide) (fun _ => ?_) (fun h => absurd rfl h)
  exact k σ' τ' (r'.mono (by omega))
set_option maxRecDepth 100000 in
theorem lc_23 (X : LCx E1 E2 p s m c b L xs) (hL : L ≤ 3072) (hi : i + 6 ≤ L) (hC : cells ≤ 600000 ∧ slots ≤ 7302250) (hn : n ≤ i) (r : Rel σ τ n) (k : ∀ σ' τ', Rel σ' τ' (n + 1) → LWx E1 E2 p l e s m b below meth c cells slots Q 1572 [(0, .ref b), (1, .ref (ea E1 0)), (2, .ref (ea E2 0)), (3, .int (nI i))] [] σ' τ') : LWx E1 E2 p l e s m b below meth c cells slots Q 1025 [(0, .ref b), (1, .ref (ea E1 0)), (2, .ref (ea E2 0)), (3, .int (nI i))] [] σ τ := by
  obtain ⟨x, σ', τ', e1, e2, r'⟩ := op_few r ((xs (i + 1)))
  refine zt_aload_n X dL_law_1025 1 rfl rfl ?_
  refine zt_arg X (j := 1) (v := 1) (by decide) rfl (by omega) hL rfl rfl dL_law_1026 dL_law_1027 dL_law_1028 dL_law_1029 dL_law_1030 ?_
  refine zt_callC X [.int (xs (i + 1))] [] (ctX8_few e1) dL_law_1031 v_X8 k_624 g_625 g_626 g_67 g_627 nX8_few rfl rfl (Nat.le_of_ble_eq_true rfl) ⟨Nat.le_of_ble_eq_true rfl, Nat.le_of_ble_eq_true rfl⟩ hC ?_
  refine zt_aload_n X dL_law_1034 2 rfl rfl ?_
  refine zt_arg X (j := 1) (v := 1) (by decide) rfl (by omega) hL rfl rfl dL_law_1035 dL_law_1036 dL_law_1037 dL_law_1038 dL_law_1039 ?_
  refine zt_callM X [.int (xs (i + 1))] [.int x] (ctX9_few e2) dL_law_1040 v_X9 k_1129 g_1130 g_1131 h_77 g_1132 nX9_few rfl rfl (Nat.le_of_ble_eq_true rfl) ⟨Nat.le_of_ble_eq_true rfl, Nat.le_of_ble_eq_true rfl⟩ hC ?_
  refine zt_icmp_eq X 1572 dL_law_1043 (by decide) (fun _ => ?_) (fun h => absurd rfl h)
  exact k σ' τ' (r'.mono (by omega))
set_option maxRecDepth 100000 in
theorem lc_24 (X : LCx E1 E2 p s m c b L xs) (hL : L ≤ 3072) (hi : i + 6 ≤ L) (hC : cells ≤ 600000 ∧ slots ≤ 7302250) (hn : n ≤ i) (r : Rel σ τ n) (k : ∀ σ' τ', Rel σ' τ' (n + 1) → LWx E1 E2 p l e s m b below meth c cells slots Q 1572 [(0, .ref b), (1, .ref (ea E1 0)), (2, .ref (ea E2 0)), (3, .int (nI i))] [] σ' τ') : LWx E1 E2 p l e s m b below meth c cells slots Q 1048 [(0, .ref b), (1, .ref (ea E1 0)), (2, .ref (ea E2 0)), (3, .int (nI i))] [] σ τ := by
  obtain ⟨x, σ', τ', e1, e2, r'⟩ := op_broken r ((xs (i + 1)))
  refine zt_aload_n X dL_law_1048 1 rfl rfl ?_
  refine zt_arg X (j := 1) (v := 1) (by decide) rfl (by omega) hL rfl rfl dL_law_1049 dL_law_1050 dL_law_1051 dL_law_1052 dL_law_1053 ?_
  refine zt_callC X [.int (xs (i + 1))] [] (ctX8_broken e1) dL_law_1054 v_X8 k_632 g_633 g_634 g_67 g_635 nX8_broken rfl rfl (Nat.le_of_ble_eq_true rfl) ⟨Nat.le_of_ble_eq_true rfl, Nat.le_of_ble_eq_true rfl⟩ hC ?_
  refine zt_aload_n X dL_law_1057 2 rfl rfl ?_
  refine zt_arg X (j := 1) (v := 1) (by decide) rfl (by omega) hL rfl rfl dL_law_1058 dL_law_1059 dL_law_1060 dL_law_1061 dL_law_1062 ?_
  refine zt_callM X [.int (xs (i + 1))] [.int x] (ctX9_broken e2) dL_law_1063 v_X9 k_1133 g_1134 g_1135 h_77 g_1136 nX9_broken rfl rfl (Nat.le_of_ble_eq_true rfl) ⟨Nat.le_of_ble_eq_true rfl, Nat.le_of_ble_eq_true rfl⟩ hC ?_
  refine zt_icmp_eq X 1572 dL_law_1066 (by decide) (fun _ => ?_) (fun h => absurd rfl h)
  exact k σ' τ' (r'.mono (by omega))
set_option maxRecDepth 100000 in
theorem lc_25 (X : LCx E1 E2 p s m c b L xs) (hL : L ≤ 3072) (hi : i + 6 ≤ L) (hC : cells ≤ 600000 ∧ slots ≤ 7302250) (hn : n ≤ i) (r : Rel σ τ n) (k : ∀ σ' τ', Rel σ' τ' (n + 1) → LWx E1 E2 p l e s m b below meth c cells slots Q 1572 [(0, .ref b), (1, .ref (ea E1 0)), (2, .ref (ea E2 0)), (3, .int (nI i))] [] σ' τ') : LWx E1 E2 p l e s m b below meth c cells slots Q 1071 [(0, .ref b), (1, .ref (ea E1 0)), (2, .ref (ea E2 0)), (3, .int (nI i))] [] σ τ := by
  obtain ⟨x, σ', τ', e1, e2, r'⟩ := op_swill r ((xs (i + 1)))
  refine zt_aload_n X dL_law_1071 1 rfl rfl ?_
  refine zt_arg X (j := 1) (v := 1) (by decide) rfl (by omega) hL rfl rfl dL_law_1072 dL_law_1073 dL_law_1074 dL_law_1075 dL_law_1076 ?_
  refine zt_callC X [.int (xs (i + 1))] [] (ctX8_swill e1) dL_law_1077 v_X8 k_636 g_637 g_638 g_67 g_639 nX8_swill rfl rfl (Nat.le_of_ble_eq_true rfl) ⟨Nat.le_of_ble_eq_true rfl, Nat.le_of_ble_eq_true rfl⟩ hC ?_
  refine zt_aload_n X dL_law_1080 2 rfl rfl ?_
  refine zt_arg X (j := 1) (v := 1) (by decide) rfl (by omega) hL rfl rfl dL_law_1081 dL_law_1082 dL_law_1083 dL_law_1084 dL_law_1085 ?_
  refine zt_callM X [.int (xs (i + 1))] [.int x] (ctX9_swill e2) dL_law_1086 v_X9 k_1141 g_1142 g_1143 h_77 g_1144 nX9_swill rfl rfl (Nat.le_of_ble_eq_true rfl) ⟨Nat.le_of_ble_eq_true rfl, Nat.le_of_ble_eq_true rfl⟩ hC ?_
  refine zt_icmp_eq X 1572 dL_law_1089 (by decide) (fun _ => ?_) (fun h => absurd rfl h)
  exact k σ' τ' (r'.mono (by omega))
set_option maxRecDepth 100000 in
theorem lc_26 (X : LCx E1 E2 p s m c b L xs) (hL : L ≤ 3072) (hi : i + 6 ≤ L) (hC : cells ≤ 600000 ∧ slots ≤ 7302250) (hn : n ≤ i) (r : Rel σ τ n) (k : ∀ σ' τ', Rel σ' τ' (n + 1) → LWx E1 E2 p l e s m b below meth c cells slots Q 1572 [(0, .ref b), (1, .ref (ea E1 0)), (2, .ref (ea E2 0)), (3, .int (nI i))] [] σ' τ') : LWx E1 E2 p l e s m b below meth c cells slots Q 1094 [(0, .ref b), (1, .ref (ea E1 0)), (2, .ref (ea E2 0)), (3, .int (nI i))] [] σ τ := by
  obtain ⟨x, σ', τ', e1, e2, r'⟩ := op_cheer r ((xs (i + 1))) ((xs (i + 2)))
  refine zt_aload_n X dL_law_1094 1 rfl rfl ?_
  refine zt_arg X (j := 1) (v := 1) (by decide) rfl (by omega) hL rfl rfl dL_law_1095 dL_law_1096 dL_law_1097 dL_law_1098 dL_law_1099 ?_
  refine zt_arg X (j := 2) (v := 2) (by decide) rfl (by omega) hL rfl rfl dL_law_1100 dL_law_1101 dL_law_1102 dL_law_1103 dL_law_1104 ?_
  refine zt_callC X [.int (xs (i + 1)), .int (xs (i + 2))] [] (ctX8_cheer e1) dL_law_1105 v_X8 k_640 g_641 g_642 g_67 g_643 nX8_cheer rfl rfl (Nat.le_of_ble_eq_true rfl) ⟨Nat.le_of_ble_eq_true rfl, Nat.le_of_ble_eq_true rfl⟩ hC ?_
  refine zt_aload_n X dL_law_1108 2 rfl rfl ?_
  refine zt_arg X (j := 1) (v := 1) (by decide) rfl (by omega) hL rfl rfl dL_law_1109 dL_law_1110 dL_law_1111 dL_law_1112 dL_law_1113 ?_
  refine zt_arg X (j := 2) (v := 2) (by decide) rfl (by omega) hL rfl rfl dL_law_1114 dL_law_1115 dL_law_1116 dL_law_1117 dL_law_1118 ?_
  refine zt_callM X [.int (xs (i + 1)), .int (xs (i + 2))] [.int x] (ctX9_cheer e2) dL_law_1119 v_X9 k_1145 g_1146 g_1147 h_77 g_1148 nX9_cheer rfl rfl (Nat.le_of_ble_eq_true rfl) ⟨Nat.le_of_ble_eq_true rfl, Nat.le_of_ble_eq_true rfl⟩ hC ?_
  refine zt_icmp_eq X 1572 dL_law_1122 (by decide) (fun _ => ?_) (fun h => absurd rfl h)
  exact k σ' τ' (r'.mono (by omega))
set_option maxRecDepth 100000 in
theorem lc_27 (X : LCx E1 E2 p s m c b L xs) (hL : L ≤ 3072) (hi : i + 6 ≤ L) (hC : cells ≤ 600000 ∧ slots ≤ 7302250) (hn : n ≤ i) (r : Rel σ τ n) (k : ∀ σ' τ', Rel σ' τ' (n + 1) → LWx E1 E2 p l e s m b below meth c cells slots Q 1572 [(0, .ref b), (1, .ref (ea E1 0)), (2, .ref (ea E2 0)), (3, .int (nI i))] [] σ' τ') : LWx E1 E2 p l e s m b below meth c cells slots Q 1127 [(0, .ref b), (1, .ref (ea E1 0)), (2, .ref (ea E2 0)), (3, .int (nI i))] [] σ τ := by
  obtain ⟨x, σ', τ', e1, e2, r'⟩ := op_odds r ((xs (i + 1))) ((xs (i + 2))) ((xs (i + 3))) ((xs (i + 4)))
  refine zt_aload_n X dL_law_1127 1 rfl rfl ?_
  refine zt_arg X (j := 1) (v := 1) (by decide) rfl (by omega) hL rfl rfl dL_law_1128 dL_law_1129 dL_law_1130 dL_law_1131 dL_law_1132 ?_
  refine zt_arg X (j := 2) (v := 2) (by decide) rfl (by omega) hL rfl rfl dL_law_1133 dL_law_1134 dL_law_1135 dL_law_1136 dL_law_1137 ?_
  refine zt_arg X (j := 3) (v := 3) (by decide) rfl (by omega) hL rfl rfl dL_law_1138 dL_law_1139 dL_law_1140 dL_law_1141 dL_law_1142 ?_
  refine zt_arg X (j := 4) (v := 4) (by decide) rfl (by omega) hL rfl rfl dL_law_1143 dL_law_1144 dL_law_1145 dL_law_1146 dL_law_1147 ?_
  refine zt_callC X [.int (xs (i + 1)), .int (xs (i + 2)), .int (xs (i + 3)), .int (xs (i + 4))] [] (ctX8_odds e1) dL_law_1148 v_X8 k_648 g_649 g_650 g_67 g_651 nX8_odds rfl rfl (Nat.le_of_ble_eq_true rfl) ⟨Nat.le_of_ble_eq_true rfl, Nat.le_of_ble_eq_true rfl⟩ hC ?_
  refine zt_aload_n X dL_law_1151 2 rfl rfl ?_
  refine zt_arg X (j := 1) (v := 1) (by decide) rfl (by omega) hL rfl rfl dL_law_1152 dL_law_1153 dL_law_1154 dL_law_1155 dL_law_1156 ?_
  refine zt_arg X (j := 2) (v := 2) (by decide) rfl (by omega) hL rfl rfl dL_law_1157 dL_law_1158 dL_law_1159 dL_law_1160 dL_law_1161 ?_
  refine zt_arg X (j := 3) (v := 3) (by decide) rfl (by omega) hL rfl rfl dL_law_1162 dL_law_1163 dL_law_1164 dL_law_1165 dL_law_1166 ?_
  refine zt_arg X (j := 4) (v := 4) (by decide) rfl (by omega) hL rfl rfl dL_law_1167 dL_law_1168 dL_law_1169 dL_law_1170 dL_law_1171 ?_
  refine zt_callM X [.int (xs (i + 1)), .int (xs (i + 2)), .int (xs (i + 3)), .int (xs (i + 4))] [.int x] (ctX9_odds e2) dL_law_1172 v_X9 k_1153 g_1154 g_1155 h_77 g_1156 nX9_odds rfl rfl (Nat.le_of_ble_eq_true rfl) ⟨Nat.le_of_ble_eq_true rfl, Nat.le_of_ble_eq_true rfl⟩ hC ?_
  refine zt_icmp_eq X 1572 dL_law_1175 (by decide) (fun _ => ?_) (fun h => absurd rfl h)
  exact k σ' τ' (r'.mono (by omega))
set_option maxRecDepth 100000 in
theorem lc_28 (X : LCx E1 E2 p s m c b L xs) (hL : L ≤ 3072) (hi : i + 6 ≤ L) (hC : cells ≤ 600000 ∧ slots ≤ 7302250) (hn : n ≤ i) (r : Rel σ τ n) (k : ∀ σ' τ', Rel σ' τ' (n + 1) → LWx E1 E2 p l e s m b below meth c cells slots Q 1572 [(0, .ref b), (1, .ref (ea E1 0)), (2, .ref (ea E2 0)), (3, .int (nI i))] [] σ' τ') : LWx E1 E2 p l e s m b below meth c cells slots Q 1180 [(0, .ref b), (1, .ref (ea E1 0)), (2, .ref (ea E2 0)), (3, .int (nI i))] [] σ τ := by
  obtain ⟨x, σ', τ', e1, e2, r'⟩ := op_seed r ((xs (i + 1)))
  refine zt_aload_n X dL_law_1180 1 rfl rfl ?_
  refine zt_arg X (j := 1) (v := 1) (by decide) rfl (by omega) hL rfl rfl dL_law_1181 dL_law_1182 dL_law_1183 dL_law_1184 dL_law_1185 ?_
  refine zt_callC X [.int (xs (i + 1))] [] (ctX8_seed e1) dL_law_1186 v_X8 k_655 g_656 g_657 g_67 g_658 nX8_seed rfl rfl (Nat.le_of_ble_eq_true rfl) ⟨Nat.le_of_ble_eq_true rfl, Nat.le_of_ble_eq_true rfl⟩ hC ?_
  refine zt_aload_n X dL_law_1189 2 rfl rfl ?_
  refine zt_arg X (j := 1) (v := 1) (by decide) rfl (by omega) hL rfl rfl dL_law_1190 dL_law_1191 dL_law_1192 dL_law_1193 dL_law_1194 ?_
  refine zt_callM X [.int (xs (i + 1))] [.int x] (ctX9_seed e2) dL_law_1195 v_X9 k_1157 g_1158 g_1159 h_77 g_1160 nX9_seed rfl rfl (Nat.le_of_ble_eq_true rfl) ⟨Nat.le_of_ble_eq_true rfl, Nat.le_of_ble_eq_true rfl⟩ hC ?_
  refine zt_icmp_eq X 1572 dL_law_1198 (by decide) (fun _ => ?_) (fun h => absurd rfl h)
  exact k σ' τ' (r'.mono (by omega))
set_option maxRecDepth 100000 in
theorem lc_29 (X : LCx E1 E2 p s m c b L xs) (hL : L ≤ 3072) (hi : i + 6 ≤ L) (hC : cells ≤ 600000 ∧ slots ≤ 7302250) (hn : n ≤ i) (r : Rel σ τ n) (k : ∀ σ' τ', Rel σ' τ' (n + 1) → LWx E1 E2 p l e s m b below meth c cells slots Q 1572 [(0, .ref b), (1, .ref (ea E1 0)), (2, .ref (ea E2 0)), (3, .int (nI i))] [] σ' τ') : LWx E1 E2 p l e s m b below meth c cells slots Q 1203 [(0, .ref b), (1, .ref (ea E1 0)), (2, .ref (ea E2 0)), (3, .int (nI i))] [] σ τ := by
  obtain ⟨x, σ', τ', e1, e2, r'⟩ := op_voice r ((xs (i + 1))) ((xs (i + 2))) ((xs (i + 3)))
  refine zt_aload_n X dL_law_1203 1 rfl rfl ?_
  refine zt_arg X (j := 1) (v := 1) (by decide) rfl (by omega) hL rfl rfl dL_law_1204 dL_law_1205 dL_law_1206 dL_law_1207 dL_law_1208 ?_
  refine zt_arg X (j := 2) (v := 2) (by decide) rfl (by omega) hL rfl rfl dL_law_1209 dL_law_1210 dL_law_1211 dL_law_1212 dL_law_1213 ?_
  refine zt_arg X (j := 3) (v := 3) (by decide) rfl (by omega) hL rfl rfl dL_law_1214 dL_law_1215 dL_law_1216 dL_law_1217 dL_law_1218 ?_
  refine zt_callC X [.int (xs (i + 1)), .int (xs (i + 2)), .int (xs (i + 3))] [] (ctX8_voice e1) dL_law_1219 v_X8 k_659 g_660 g_661 g_67 g_662 nX8_voice rfl rfl (Nat.le_of_ble_eq_true rfl) ⟨Nat.le_of_ble_eq_true rfl, Nat.le_of_ble_eq_true rfl⟩ hC ?_
  refine zt_aload_n X dL_law_1222 2 rfl rfl ?_
  refine zt_arg X (j := 1) (v := 1) (by decide) rfl (by omega) hL rfl rfl dL_law_1223 dL_law_1224 dL_law_1225 dL_law_1226 dL_law_1227 ?_
  refine zt_arg X (j := 2) (v := 2) (by decide) rfl (by omega) hL rfl rfl dL_law_1228 dL_law_1229 dL_law_1230 dL_law_1231 dL_law_1232 ?_
  refine zt_arg X (j := 3) (v := 3) (by decide) rfl (by omega) hL rfl rfl dL_law_1233 dL_law_1234 dL_law_1235 dL_law_1236 dL_law_1237 ?_
  refine zt_callM X [.int (xs (i + 1)), .int (xs (i + 2)), .int (xs (i + 3))] [.int x] (ctX9_voice e2) dL_law_1238 v_X9 k_1161 g_1162 g_1163 h_77 g_1164 nX9_voice rfl rfl (Nat.le_of_ble_eq_true rfl) ⟨Nat.le_of_ble_eq_true rfl, Nat.le_of_ble_eq_true rfl⟩ hC ?_
  refine zt_icmp_eq X 1572 dL_law_1241 (by decide) (fun _ => ?_) (fun h => absurd rfl h)
  exact k σ' τ' (r'.mono (by omega))
set_option maxRecDepth 100000 in
theorem lc_30 (X : LCx E1 E2 p s m c b L xs) (hL : L ≤ 3072) (hi : i + 6 ≤ L) (hC : cells ≤ 600000 ∧ slots ≤ 7302250) (hn : n ≤ i) (r : Rel σ τ n) (k : ∀ σ' τ', Rel σ' τ' (n + 1) → LWx E1 E2 p l e s m b below meth c cells slots Q 1572 [(0, .ref b), (1, .ref (ea E1 0)), (2, .ref (ea E2 0)), (3, .int (nI i))] [] σ' τ') : LWx E1 E2 p l e s m b below meth c cells slots Q 1246 [(0, .ref b), (1, .ref (ea E1 0)), (2, .ref (ea E2 0)), (3, .int (nI i))] [] σ τ := by
  obtain ⟨x, σ', τ', e1, e2, r'⟩ := op_trace r ((xs (i + 1)))
  refine zt_aload_n X dL_law_1246 1 rfl rfl ?_
  refine zt_arg X (j := 1) (v := 1) (by decide) rfl (by omega) hL rfl rfl dL_law_1247 dL_law_1248 dL_law_1249 dL_law_1250 dL_law_1251 ?_
  refine zt_callC X [.int (xs (i + 1))] [] (ctX8_trace e1) dL_law_1252 v_X8 k_687 g_688 g_689 g_67 g_690 nX8_trace rfl rfl (Nat.le_of_ble_eq_true rfl) ⟨Nat.le_of_ble_eq_true rfl, Nat.le_of_ble_eq_true rfl⟩ hC ?_
  refine zt_aload_n X dL_law_1255 2 rfl rfl ?_
  refine zt_arg X (j := 1) (v := 1) (by decide) rfl (by omega) hL rfl rfl dL_law_1256 dL_law_1257 dL_law_1258 dL_law_1259 dL_law_1260 ?_
  refine zt_callM X [.int (xs (i + 1))] [.int x] (ctX9_trace e2) dL_law_1261 v_X9 k_1185 g_1186 g_1187 h_77 g_1188 nX9_trace rfl rfl (Nat.le_of_ble_eq_true rfl) ⟨Nat.le_of_ble_eq_true rfl, Nat.le_of_ble_eq_true rfl⟩ hC ?_
  refine zt_icmp_eq X 1572 dL_law_1264 (by decide) (fun _ => ?_) (fun h => absurd rfl h)
  exact k σ' τ' (r'.mono (by omega))
set_option maxRecDepth 100000 in
theorem lc_31 (X : LCx E1 E2 p s m c b L xs) (hL : L ≤ 3072) (hi : i + 6 ≤ L) (hC : cells ≤ 600000 ∧ slots ≤ 7302250) (hn : n ≤ i) (r : Rel σ τ n) (k : ∀ σ' τ', Rel σ' τ' (n + 1) → LWx E1 E2 p l e s m b below meth c cells slots Q 1572 [(0, .ref b), (1, .ref (ea E1 0)), (2, .ref (ea E2 0)), (3, .int (nI i))] [] σ' τ') : LWx E1 E2 p l e s m b below meth c cells slots Q 1269 [(0, .ref b), (1, .ref (ea E1 0)), (2, .ref (ea E2 0)), (3, .int (nI i))] [] σ τ := by
  obtain ⟨x, σ', τ', e1, e2, r'⟩ := op_sheet r ((xs (i + 1))) ((xs (i + 2))) ((xs (i + 3)))
  refine zt_aload_n X dL_law_1269 1 rfl rfl ?_
  refine zt_arg X (j := 1) (v := 1) (by decide) rfl (by omega) hL rfl rfl dL_law_1270 dL_law_1271 dL_law_1272 dL_law_1273 dL_law_1274 ?_
  refine zt_arg X (j := 2) (v := 2) (by decide) rfl (by omega) hL rfl rfl dL_law_1275 dL_law_1276 dL_law_1277 dL_law_1278 dL_law_1279 ?_
  refine zt_arg X (j := 3) (v := 3) (by decide) rfl (by omega) hL rfl rfl dL_law_1280 dL_law_1281 dL_law_1282 dL_law_1283 dL_law_1284 ?_
  refine zt_callC X [.int (xs (i + 1)), .int (xs (i + 2)), .int (xs (i + 3))] [] (ctX8_sheet e1) dL_law_1285 v_X8 k_691 g_692 g_693 g_67 g_694 nX8_sheet rfl rfl (Nat.le_of_ble_eq_true rfl) ⟨Nat.le_of_ble_eq_true rfl, Nat.le_of_ble_eq_true rfl⟩ hC ?_
  refine zt_aload_n X dL_law_1288 2 rfl rfl ?_
  refine zt_arg X (j := 1) (v := 1) (by decide) rfl (by omega) hL rfl rfl dL_law_1289 dL_law_1290 dL_law_1291 dL_law_1292 dL_law_1293 ?_
  refine zt_arg X (j := 2) (v := 2) (by decide) rfl (by omega) hL rfl rfl dL_law_1294 dL_law_1295 dL_law_1296 dL_law_1297 dL_law_1298 ?_
  refine zt_arg X (j := 3) (v := 3) (by decide) rfl (by omega) hL rfl rfl dL_law_1299 dL_law_1300 dL_law_1301 dL_law_1302 dL_law_1303 ?_
  refine zt_callM X [.int (xs (i + 1)), .int (xs (i + 2)), .int (xs (i + 3))] [.int x] (ctX9_sheet e2) dL_law_1304 v_X9 k_1189 g_1190 g_1191 h_77 g_1192 nX9_sheet rfl rfl (Nat.le_of_ble_eq_true rfl) ⟨Nat.le_of_ble_eq_true rfl, Nat.le_of_ble_eq_true rfl⟩ hC ?_
  refine zt_icmp_eq X 1572 dL_law_1307 (by decide) (fun _ => ?_) (fun h => absurd rfl h)
  exact k σ' τ' (r'.mono (by omega))
set_option maxRecDepth 100000 in
theorem lc_32 (X : LCx E1 E2 p s m c b L xs) (hL : L ≤ 3072) (hi : i + 6 ≤ L) (hC : cells ≤ 600000 ∧ slots ≤ 7302250) (hn : n ≤ i) (r : Rel σ τ n) (k : ∀ σ' τ', Rel σ' τ' (n + 1) → LWx E1 E2 p l e s m b below meth c cells slots Q 1572 [(0, .ref b), (1, .ref (ea E1 0)), (2, .ref (ea E2 0)), (3, .int (nI i))] [] σ' τ') : LWx E1 E2 p l e s m b below meth c cells slots Q 1312 [(0, .ref b), (1, .ref (ea E1 0)), (2, .ref (ea E2 0)), (3, .int (nI i))] [] σ τ := by
  obtain ⟨x, σ', τ', e1, e2, r'⟩ := op_put r ((xs (i + 1))) ((xs (i + 2))) ((xs (i + 3)))
  refine zt_aload_n X dL_law_1312 1 rfl rfl ?_
  refine zt_arg X (j := 1) (v := 1) (by decide) rfl (by omega) hL rfl rfl dL_law_1313 dL_law_1314 dL_law_1315 dL_law_1316 dL_law_1317 ?_
  refine zt_arg X (j := 2) (v := 2) (by decide) rfl (by omega) hL rfl rfl dL_law_1318 dL_law_1319 dL_law_1320 dL_law_1321 dL_law_1322 ?_
  refine zt_arg X (j := 3) (v := 3) (by decide) rfl (by omega) hL rfl rfl dL_law_1323 dL_law_1324 dL_law_1325 dL_law_1326 dL_law_1327 ?_
  refine zt_callC X [.int (xs (i + 1)), .int (xs (i + 2)), .int (xs (i + 3))] [] (ctX8_put e1) dL_law_1328 v_X8 k_700 g_701 g_702 g_67 g_703 nX8_put rfl rfl (Nat.le_of_ble_eq_true rfl) ⟨Nat.le_of_ble_eq_true rfl, Nat.le_of_ble_eq_true rfl⟩ hC ?_
  refine zt_aload_n X dL_law_1331 2 rfl rfl ?_
  refine zt_arg X (j := 1) (v := 1) (by decide) rfl (by omega) hL rfl rfl dL_law_1332 dL_law_1333 dL_law_1334 dL_law_1335 dL_law_1336 ?_
  refine zt_arg X (j := 2) (v := 2) (by decide) rfl (by omega) hL rfl rfl dL_law_1337 dL_law_1338 dL_law_1339 dL_law_1340 dL_law_1341 ?_
  refine zt_arg X (j := 3) (v := 3) (by decide) rfl (by omega) hL rfl rfl dL_law_1342 dL_law_1343 dL_law_1344 dL_law_1345 dL_law_1346 ?_
  refine zt_callM X [.int (xs (i + 1)), .int (xs (i + 2)), .int (xs (i + 3))] [.int x] (ctX9_put e2) dL_law_1347 v_X9 k_1193 g_1194 g_1195 h_77 g_1196 nX9_put rfl rfl (Nat.le_of_ble_eq_true rfl) ⟨Nat.le_of_ble_eq_true rfl, Nat.le_of_ble_eq_true rfl⟩ hC ?_
  refine zt_icmp_eq X 1572 dL_law_1350 (by decide) (fun _ => ?_) (fun h => absurd rfl h)
  exact k σ' τ' (r'.mono (by omega))
set_option maxRecDepth 100000 in
theorem lc_33 (X : LCx E1 E2 p s m c b L xs) (hL : L ≤ 3072) (hi : i + 6 ≤ L) (hC : cells ≤ 600000 ∧ slots ≤ 7302250) (hn : n ≤ i) (r : Rel σ τ n) (k : ∀ σ' τ', Rel σ' τ' (n + 1) → LWx E1 E2 p l e s m b below meth c cells slots Q 1572 [(0, .ref b), (1, .ref (ea E1 0)), (2, .ref (ea E2 0)), (3, .int (nI i))] [] σ' τ') : LWx E1 E2 p l e s m b below meth c cells slots Q 1355 [(0, .ref b), (1, .ref (ea E1 0)), (2, .ref (ea E2 0)), (3, .int (nI i))] [] σ τ := by
  obtain ⟨x, σ', τ', e1, e2, r'⟩ := op_move r ((xs (i + 1))) ((xs (i + 2))) ((xs (i + 3))) ((xs (i + 4))) ((xs (i + 5)))
  refine zt_aload_n X dL_law_1355 1 rfl rfl ?_
  refine zt_arg X (j := 1) (v := 1) (by decide) rfl (by omega) hL rfl rfl dL_law_1356 dL_law_1357 dL_law_1358 dL_law_1359 dL_law_1360 ?_
  refine zt_arg X (j := 2) (v := 2) (by decide) rfl (by omega) hL rfl rfl dL_law_1361 dL_law_1362 dL_law_1363 dL_law_1364 dL_law_1365 ?_
  refine zt_arg X (j := 3) (v := 3) (by decide) rfl (by omega) hL rfl rfl dL_law_1366 dL_law_1367 dL_law_1368 dL_law_1369 dL_law_1370 ?_
  refine zt_arg X (j := 4) (v := 4) (by decide) rfl (by omega) hL rfl rfl dL_law_1371 dL_law_1372 dL_law_1373 dL_law_1374 dL_law_1375 ?_
  refine zt_arg X (j := 5) (v := 5) (by decide) rfl (by omega) hL rfl rfl dL_law_1376 dL_law_1377 dL_law_1378 dL_law_1379 dL_law_1380 ?_
  refine zt_callC X [.int (xs (i + 1)), .int (xs (i + 2)), .int (xs (i + 3)), .int (xs (i + 4)), .int (xs (i + 5))] [] (ctX8_move e1) dL_law_1381 v_X8 k_708 g_709 g_710 g_67 g_711 nX8_move rfl rfl (Nat.le_of_ble_eq_true rfl) ⟨Nat.le_of_ble_eq_true rfl, Nat.le_of_ble_eq_true rfl⟩ hC ?_
  refine zt_aload_n X dL_law_1384 2 rfl rfl ?_
  refine zt_arg X (j := 1) (v := 1) (by decide) rfl (by omega) hL rfl rfl dL_law_1385 dL_law_1386 dL_law_1387 dL_law_1388 dL_law_1389 ?_
  refine zt_arg X (j := 2) (v := 2) (by decide) rfl (by omega) hL rfl rfl dL_law_1390 dL_law_1391 dL_law_1392 dL_law_1393 dL_law_1394 ?_
  refine zt_arg X (j := 3) (v := 3) (by decide) rfl (by omega) hL rfl rfl dL_law_1395 dL_law_1396 dL_law_1397 dL_law_1398 dL_law_1399 ?_
  refine zt_arg X (j := 4) (v := 4) (by decide) rfl (by omega) hL rfl rfl dL_law_1400 dL_law_1401 dL_law_1402 dL_law_1403 dL_law_1404 ?_
  refine zt_arg X (j := 5) (v := 5) (by decide) rfl (by omega) hL rfl rfl dL_law_1405 dL_law_1406 dL_law_1407 dL_law_1408 dL_law_1409 ?_
  refine zt_callM X [.int (xs (i + 1)), .int (xs (i + 2)), .int (xs (i + 3)), .int (xs (i + 4)), .int (xs (i + 5))] [.int x] (ctX9_move e2) dL_law_1410 v_X9 k_1200 g_1201 g_1202 h_77 g_1203 nX9_move rfl rfl (Nat.le_of_ble_eq_true rfl) ⟨Nat.le_of_ble_eq_true rfl, Nat.le_of_ble_eq_true rfl⟩ hC ?_
  refine zt_icmp_eq X 1572 dL_law_1413 (by decide) (fun _ => ?_) (fun h => absurd rfl h)
  exact k σ' τ' (r'.mono (by omega))
set_option maxRecDepth 100000 in
theorem lc_34 (X : LCx E1 E2 p s m c b L xs) (hL : L ≤ 3072) (hi : i + 6 ≤ L) (hC : cells ≤ 600000 ∧ slots ≤ 7302250) (hn : n ≤ i) (r : Rel σ τ n) (k : ∀ σ' τ', Rel σ' τ' (n + 1) → LWx E1 E2 p l e s m b below meth c cells slots Q 1572 [(0, .ref b), (1, .ref (ea E1 0)), (2, .ref (ea E2 0)), (3, .int (nI i))] [] σ' τ') : LWx E1 E2 p l e s m b below meth c cells slots Q 1418 [(0, .ref b), (1, .ref (ea E1 0)), (2, .ref (ea E2 0)), (3, .int (nI i))] [] σ τ := by
  obtain ⟨x, σ', τ', e1, e2, r'⟩ := op_menus r ((xs (i + 1)))
  refine zt_aload_n X dL_law_1418 1 rfl rfl ?_
  refine zt_arg X (j := 1) (v := 1) (by decide) rfl (by omega) hL rfl rfl dL_law_1419 dL_law_1420 dL_law_1421 dL_law_1422 dL_law_1423 ?_
  refine zt_callC X [.int (xs (i + 1))] [] (ctX8_menus e1) dL_law_1424 v_X8 k_717 g_718 g_719 g_67 g_720 nX8_menus rfl rfl (Nat.le_of_ble_eq_true rfl) ⟨Nat.le_of_ble_eq_true rfl, Nat.le_of_ble_eq_true rfl⟩ hC ?_
  refine zt_aload_n X dL_law_1427 2 rfl rfl ?_
  refine zt_arg X (j := 1) (v := 1) (by decide) rfl (by omega) hL rfl rfl dL_law_1428 dL_law_1429 dL_law_1430 dL_law_1431 dL_law_1432 ?_
  refine zt_callM X [.int (xs (i + 1))] [.int x] (ctX9_menus e2) dL_law_1433 v_X9 k_1204 g_1205 g_1206 h_77 g_1207 nX9_menus rfl rfl (Nat.le_of_ble_eq_true rfl) ⟨Nat.le_of_ble_eq_true rfl, Nat.le_of_ble_eq_true rfl⟩ hC ?_
  refine zt_icmp_eq X 1572 dL_law_1436 (by decide) (fun _ => ?_) (fun h => absurd rfl h)
  exact k σ' τ' (r'.mono (by omega))
set_option maxRecDepth 100000 in
theorem lc_35 (X : LCx E1 E2 p s m c b L xs) (hL : L ≤ 3072) (hi : i + 6 ≤ L) (hC : cells ≤ 600000 ∧ slots ≤ 7302250) (hn : n ≤ i) (r : Rel σ τ n) (k : ∀ σ' τ', Rel σ' τ' (n + 1) → LWx E1 E2 p l e s m b below meth c cells slots Q 1572 [(0, .ref b), (1, .ref (ea E1 0)), (2, .ref (ea E2 0)), (3, .int (nI i))] [] σ' τ') : LWx E1 E2 p l e s m b below meth c cells slots Q 1441 [(0, .ref b), (1, .ref (ea E1 0)), (2, .ref (ea E2 0)), (3, .int (nI i))] [] σ τ := by
  obtain ⟨x, σ', τ', e1, e2, r'⟩ := op_judge r ((xs (i + 1)))
  refine zt_aload_n X dL_law_1441 1 rfl rfl ?_
  refine zt_arg X (j := 1) (v := 1) (by decide) rfl (by omega) hL rfl rfl dL_law_1442 dL_law_1443 dL_law_1444 dL_law_1445 dL_law_1446 ?_
  refine zt_callC X [.int (xs (i + 1))] [] (ctX8_judge e1) dL_law_1447 v_X8 k_721 g_722 g_723 g_67 g_724 nX8_judge rfl rfl (Nat.le_of_ble_eq_true rfl) ⟨Nat.le_of_ble_eq_true rfl, Nat.le_of_ble_eq_true rfl⟩ hC ?_
  refine zt_aload_n X dL_law_1450 2 rfl rfl ?_
  refine zt_arg X (j := 1) (v := 1) (by decide) rfl (by omega) hL rfl rfl dL_law_1451 dL_law_1452 dL_law_1453 dL_law_1454 dL_law_1455 ?_
  refine zt_callM X [.int (xs (i + 1))] [.int x] (ctX9_judge e2) dL_law_1456 v_X9 k_1208 g_1209 g_1210 h_77 g_1211 nX9_judge rfl rfl (Nat.le_of_ble_eq_true rfl) ⟨Nat.le_of_ble_eq_true rfl, Nat.le_of_ble_eq_true rfl⟩ hC ?_
  refine zt_icmp_eq X 1572 dL_law_1459 (by decide) (fun _ => ?_) (fun h => absurd rfl h)
  exact k σ' τ' (r'.mono (by omega))
set_option maxRecDepth 100000 in
theorem lc_36 (X : LCx E1 E2 p s m c b L xs) (hL : L ≤ 3072) (hi : i + 6 ≤ L) (hC : cells ≤ 600000 ∧ slots ≤ 7302250) (hn : n ≤ i) (r : Rel σ τ n) (k : ∀ σ' τ', Rel σ' τ' (n + 1) → LWx E1 E2 p l e s m b below meth c cells slots Q 1572 [(0, .ref b), (1, .ref (ea E1 0)), (2, .ref (ea E2 0)), (3, .int (nI i))] [] σ' τ') : LWx E1 E2 p l e s m b below meth c cells slots Q 1464 [(0, .ref b), (1, .ref (ea E1 0)), (2, .ref (ea E2 0)), (3, .int (nI i))] [] σ τ := by
  obtain ⟨x, σ', τ', e1, e2, r'⟩ := op_image r 
  refine zt_aload_n X dL_law_1464 1 rfl rfl ?_
  refine zt_callC X [] [] (ctX8_image e1) dL_law_1465 v_X8 k_726 g_727 g_728 g_67 g_729 nX8_image rfl rfl (Nat.le_of_ble_eq_true rfl) ⟨Nat.le_of_ble_eq_true rfl, Nat.le_of_ble_eq_true rfl⟩ hC ?_
  refine zt_aload_n X dL_law_1468 2 rfl rfl ?_
  refine zt_callM X [] [.int x] (ctX9_image e2) dL_law_1469 v_X9 k_1212 g_1213 g_1214 h_77 g_1215 nX9_image rfl rfl (Nat.le_of_ble_eq_true rfl) ⟨Nat.le_of_ble_eq_true rfl, Nat.le_of_ble_eq_true rfl⟩ hC ?_
  refine zt_icmp_eq X 1572 dL_law_1472 (by decide) (fun _ => ?_) (fun h => absurd rfl h)
  exact k σ' τ' (r'.mono (by omega))
set_option maxRecDepth 100000 in
theorem lc_37 (X : LCx E1 E2 p s m c b L xs) (hL : L ≤ 3072) (hi : i + 6 ≤ L) (hC : cells ≤ 600000 ∧ slots ≤ 7302250) (hn : n ≤ i) (r : Rel σ τ n) (k : ∀ σ' τ', Rel σ' τ' (n + 1) → LWx E1 E2 p l e s m b below meth c cells slots Q 1572 [(0, .ref b), (1, .ref (ea E1 0)), (2, .ref (ea E2 0)), (3, .int (nI i))] [] σ' τ') : LWx E1 E2 p l e s m b below meth c cells slots Q 1477 [(0, .ref b), (1, .ref (ea E1 0)), (2, .ref (ea E2 0)), (3, .int (nI i))] [] σ τ := by
  obtain ⟨x, σ', τ', e1, e2, r'⟩ := op_restore (by omega) r 
  refine zt_aload_n X dL_law_1477 1 rfl rfl ?_
  refine zt_callC X [] [] (ctX8_restore e1) dL_law_1478 v_X8 k_736 g_737 g_738 g_67 g_739 nX8_restore rfl rfl (Nat.le_of_ble_eq_true rfl) ⟨Nat.le_of_ble_eq_true rfl, Nat.le_of_ble_eq_true rfl⟩ hC ?_
  refine zt_aload_n X dL_law_1481 2 rfl rfl ?_
  refine zt_callM X [] [.int x] (ctX9_restore e2) dL_law_1482 v_X9 k_1216 g_1217 g_1218 h_77 g_1219 nX9_restore rfl rfl (Nat.le_of_ble_eq_true rfl) ⟨Nat.le_of_ble_eq_true rfl, Nat.le_of_ble_eq_true rfl⟩ hC ?_
  refine zt_icmp_eq X 1572 dL_law_1485 (by decide) (fun _ => ?_) (fun h => absurd rfl h)
  exact k σ' τ' (r'.mono (by omega))
set_option maxRecDepth 100000 in
theorem lc_38 (X : LCx E1 E2 p s m c b L xs) (hL : L ≤ 3072) (hi : i + 6 ≤ L) (hC : cells ≤ 600000 ∧ slots ≤ 7302250) (hn : n ≤ i) (r : Rel σ τ n) (k : ∀ σ' τ', Rel σ' τ' (n + 1) → LWx E1 E2 p l e s m b below meth c cells slots Q 1572 [(0, .ref b), (1, .ref (ea E1 0)), (2, .ref (ea E2 0)), (3, .int (nI i))] [] σ' τ') : LWx E1 E2 p l e s m b below meth c cells slots Q 1490 [(0, .ref b), (1, .ref (ea E1 0)), (2, .ref (ea E2 0)), (3, .int (nI i))] [] σ τ := by
  obtain ⟨x, σ', τ', e1, e2, r'⟩ := op_tell r ((xs (i + 1)))
  refine zt_aload_n X dL_law_1490 1 rfl rfl ?_
  refine zt_arg X (j := 1) (v := 1) (by decide) rfl (by omega) hL rfl rfl dL_law_1491 dL_law_1492 dL_law_1493 dL_law_1494 dL_law_1495 ?_
  refine zt_callC X [.int (xs (i + 1))] [] (ctX8_tell e1) dL_law_1496 v_X8 k_740 g_741 g_742 g_67 g_743 nX8_tell rfl rfl (Nat.le_of_ble_eq_true rfl) ⟨Nat.le_of_ble_eq_true rfl, Nat.le_of_ble_eq_true rfl⟩ hC ?_
  refine zt_aload_n X dL_law_1499 2 rfl rfl ?_
  refine zt_arg X (j := 1) (v := 1) (by decide) rfl (by omega) hL rfl rfl dL_law_1500 dL_law_1501 dL_law_1502 dL_law_1503 dL_law_1504 ?_
  refine zt_callM X [.int (xs (i + 1))] [.int x] (ctX9_tell e2) dL_law_1505 v_X9 k_1220 g_1221 g_1222 h_77 g_1223 nX9_tell rfl rfl (Nat.le_of_ble_eq_true rfl) ⟨Nat.le_of_ble_eq_true rfl, Nat.le_of_ble_eq_true rfl⟩ hC ?_
  refine zt_icmp_eq X 1572 dL_law_1508 (by decide) (fun _ => ?_) (fun h => absurd rfl h)
  exact k σ' τ' (r'.mono (by omega))
set_option maxRecDepth 100000 in
theorem lc_39 (X : LCx E1 E2 p s m c b L xs) (hL : L ≤ 3072) (hi : i + 6 ≤ L) (hC : cells ≤ 600000 ∧ slots ≤ 7302250) (hn : n ≤ i) (r : Rel σ τ n) (k : ∀ σ' τ', Rel σ' τ' (n + 1) → LWx E1 E2 p l e s m b below meth c cells slots Q 1572 [(0, .ref b), (1, .ref (ea E1 0)), (2, .ref (ea E2 0)), (3, .int (nI i))] [] σ' τ') : LWx E1 E2 p l e s m b below meth c cells slots Q 1513 [(0, .ref b), (1, .ref (ea E1 0)), (2, .ref (ea E2 0)), (3, .int (nI i))] [] σ τ := by
  obtain ⟨x, σ', τ', e1, e2, r'⟩ := op_check r 
  refine zt_aload_n X dL_law_1513 1 rfl rfl ?_
  refine zt_callC X [] [] (ctX8_check e1) dL_law_1514 v_X8 k_744 g_745 g_746 g_67 g_747 nX8_check rfl rfl (Nat.le_of_ble_eq_true rfl) ⟨Nat.le_of_ble_eq_true rfl, Nat.le_of_ble_eq_true rfl⟩ hC ?_
  refine zt_aload_n X dL_law_1517 2 rfl rfl ?_
  refine zt_callM X [] [.int x] (ctX9_check e2) dL_law_1518 v_X9 k_1224 g_1225 g_1226 h_77 g_1227 nX9_check rfl rfl (Nat.le_of_ble_eq_true rfl) ⟨Nat.le_of_ble_eq_true rfl, Nat.le_of_ble_eq_true rfl⟩ hC ?_
  refine zt_icmp_eq X 1572 dL_law_1521 (by decide) (fun _ => ?_) (fun h => absurd rfl h)
  exact k σ' τ' (r'.mono (by omega))
set_option maxRecDepth 100000 in
theorem lc_40 (X : LCx E1 E2 p s m c b L xs) (hL : L ≤ 3072) (hi : i + 6 ≤ L) (hC : cells ≤ 600000 ∧ slots ≤ 7302250) (hn : n ≤ i) (r : Rel σ τ n) (k : ∀ σ' τ', Rel σ' τ' (n + 1) → LWx E1 E2 p l e s m b below meth c cells slots Q 1572 [(0, .ref b), (1, .ref (ea E1 0)), (2, .ref (ea E2 0)), (3, .int (nI i))] [] σ' τ') : LWx E1 E2 p l e s m b below meth c cells slots Q 1526 [(0, .ref b), (1, .ref (ea E1 0)), (2, .ref (ea E2 0)), (3, .int (nI i))] [] σ τ := by
  obtain ⟨x, σ', τ', e1, e2, r'⟩ := op_count r ((xs (i + 1)))
  refine zt_aload_n X dL_law_1526 1 rfl rfl ?_
  refine zt_arg X (j := 1) (v := 1) (by decide) rfl (by omega) hL rfl rfl dL_law_1527 dL_law_1528 dL_law_1529 dL_law_1530 dL_law_1531 ?_
  refine zt_callC X [.int (xs (i + 1))] [] (ctX8_count e1) dL_law_1532 v_X8 k_748 g_749 g_750 g_67 g_751 nX8_count rfl rfl (Nat.le_of_ble_eq_true rfl) ⟨Nat.le_of_ble_eq_true rfl, Nat.le_of_ble_eq_true rfl⟩ hC ?_
  refine zt_aload_n X dL_law_1535 2 rfl rfl ?_
  refine zt_arg X (j := 1) (v := 1) (by decide) rfl (by omega) hL rfl rfl dL_law_1536 dL_law_1537 dL_law_1538 dL_law_1539 dL_law_1540 ?_
  refine zt_callM X [.int (xs (i + 1))] [.int x] (ctX9_count e2) dL_law_1541 v_X9 k_1228 g_1229 g_1230 h_77 g_1231 nX9_count rfl rfl (Nat.le_of_ble_eq_true rfl) ⟨Nat.le_of_ble_eq_true rfl, Nat.le_of_ble_eq_true rfl⟩ hC ?_
  refine zt_icmp_eq X 1572 dL_law_1544 (by decide) (fun _ => ?_) (fun h => absurd rfl h)
  exact k σ' τ' (r'.mono (by omega))
set_option maxRecDepth 100000 in
theorem lc_41 (X : LCx E1 E2 p s m c b L xs) (hL : L ≤ 3072) (hi : i + 6 ≤ L) (hC : cells ≤ 600000 ∧ slots ≤ 7302250) (hn : n ≤ i) (r : Rel σ τ n) (k : ∀ σ' τ', Rel σ' τ' (n + 1) → LWx E1 E2 p l e s m b below meth c cells slots Q 1572 [(0, .ref b), (1, .ref (ea E1 0)), (2, .ref (ea E2 0)), (3, .int (nI i))] [] σ' τ') : LWx E1 E2 p l e s m b below meth c cells slots Q 1549 [(0, .ref b), (1, .ref (ea E1 0)), (2, .ref (ea E2 0)), (3, .int (nI i))] [] σ τ := by
  obtain ⟨x, σ', τ', e1, e2, r'⟩ := op_told r ((xs (i + 1)))
  refine zt_aload_n X dL_law_1549 1 rfl rfl ?_
  refine zt_arg X (j := 1) (v := 1) (by decide) rfl (by omega) hL rfl rfl dL_law_1550 dL_law_1551 dL_law_1552 dL_law_1553 dL_law_1554 ?_
  refine zt_callC X [.int (xs (i + 1))] [] (ctX8_told e1) dL_law_1555 v_X8 k_760 g_761 g_762 g_67 g_763 nX8_told rfl rfl (Nat.le_of_ble_eq_true rfl) ⟨Nat.le_of_ble_eq_true rfl, Nat.le_of_ble_eq_true rfl⟩ hC ?_
  refine zt_aload_n X dL_law_1558 2 rfl rfl ?_
  refine zt_arg X (j := 1) (v := 1) (by decide) rfl (by omega) hL rfl rfl dL_law_1559 dL_law_1560 dL_law_1561 dL_law_1562 dL_law_1563 ?_
  refine zt_callM X [.int (xs (i + 1))] [.int x] (ctX9_told e2) dL_law_1564 v_X9 k_1236 g_1237 g_1238 h_77 g_1239 nX9_told rfl rfl (Nat.le_of_ble_eq_true rfl) ⟨Nat.le_of_ble_eq_true rfl, Nat.le_of_ble_eq_true rfl⟩ hC ?_
  refine zt_icmp_eq X 1572 dL_law_1567 (by decide) (fun _ => ?_) (fun h => absurd rfl h)
  exact k σ' τ' (r'.mono (by omega))
end LawCases
