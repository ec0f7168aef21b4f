-- THE LAW, a theorem a case
theorem lg_self (r : Int64) : lg_cmp r r = 0 := by
  unfold lg_cmp
  simp
section LC
variable {L i : Nat} {xs : Nat → Int32} {σ τ : mm}
theorem law_letters (hL : L ≤ 3072) (hi : i + 6 ≤ L) (h : Rel σ τ) (kk : ∀ σ' τ', Rel σ' τ' → Lm L xs 1504 (lvL i) [] (σ', τ')) : Lm L xs 228 (lvL i) [] (σ, τ) := by
  obtain ⟨r, σ', τ', e1, e2, hr⟩ := m_letters h (xs (i + 1))
  refine Lm.aload_n (x := (7, 0)) 2 dL_law_228 rfl rfl ?_
  refine Lm.arg (k := 1) dL_law_229 dL_law_230 dL_law_231 dL_law_232 dL_law_233 rfl hL (by omega) ?_
  refine Lm.callV (Y := mX7_letters) (d' := 2) (v := .inl r) (M1 := (σ', τ)) (c0 := 7) (ci := 7) (nf := 11) [.inl (xs (i + 1))] dL_law_234 rfl wv_RL_13 omX7_letters rfl in_7 rfl rfl rfl (Nat.le_of_ble_eq_true rfl) (Nat.le_of_ble_eq_true rfl) (kX7_letters (xs (i + 1)) σ τ e1) ?_
  refine Lm.aload_n (x := (32, 0)) 1 dL_law_237 rfl rfl ?_
  refine Lm.arg (k := 1) dL_law_238 dL_law_239 dL_law_240 dL_law_241 dL_law_242 rfl hL (by omega) ?_
  refine Lm.callV (Y := mX8_letters) (d' := 2) (v := .inl r) (M1 := (σ', τ')) (c0 := 32) (ci := 8) (nf := 42) [.inl (xs (i + 1))] dL_law_243 rfl wv_RL_17 omX8_letters rfl in_32 rfl rfl rfl (Nat.le_of_ble_eq_true rfl) (Nat.le_of_ble_eq_true rfl) (kX8_letters (xs (i + 1)) τ σ' e2) ?_
  exact Lm.icmp_eq 1504 dL_law_246 (by decide) (kk σ' τ' hr)
theorem law_box (hL : L ≤ 3072) (hi : i + 6 ≤ L) (h : Rel σ τ) (kk : ∀ σ' τ', Rel σ' τ' → Lm L xs 1504 (lvL i) [] (σ', τ')) : Lm L xs 251 (lvL i) [] (σ, τ) := by
  obtain ⟨r, σ', τ', e1, e2, hr⟩ := m_box h (xs (i + 1)) (xs (i + 2)) (xs (i + 3))
  refine Lm.aload_n (x := (7, 0)) 2 dL_law_251 rfl rfl ?_
  refine Lm.arg (k := 1) dL_law_252 dL_law_253 dL_law_254 dL_law_255 dL_law_256 rfl hL (by omega) ?_
  refine Lm.arg (k := 2) dL_law_257 dL_law_258 dL_law_259 dL_law_260 dL_law_261 rfl hL (by omega) ?_
  refine Lm.arg (k := 3) dL_law_262 dL_law_263 dL_law_264 dL_law_265 dL_law_266 rfl hL (by omega) ?_
  refine Lm.callV (Y := mX7_box) (d' := 2) (v := .inl r) (M1 := (σ', τ)) (c0 := 7) (ci := 7) (nf := 11) [.inl (xs (i + 1)), .inl (xs (i + 2)), .inl (xs (i + 3))] dL_law_267 rfl wv_RL_18 omX7_box rfl in_7 rfl rfl rfl (Nat.le_of_ble_eq_true rfl) (Nat.le_of_ble_eq_true rfl) (kX7_box (xs (i + 1)) (xs (i + 2)) (xs (i + 3)) σ τ e1) ?_
  refine Lm.aload_n (x := (32, 0)) 1 dL_law_270 rfl rfl ?_
  refine Lm.arg (k := 1) dL_law_271 dL_law_272 dL_law_273 dL_law_274 dL_law_275 rfl hL (by omega) ?_
  refine Lm.arg (k := 2) dL_law_276 dL_law_277 dL_law_278 dL_law_279 dL_law_280 rfl hL (by omega) ?_
  refine Lm.arg (k := 3) dL_law_281 dL_law_282 dL_law_283 dL_law_284 dL_law_285 rfl hL (by omega) ?_
  refine Lm.callV (Y := mX8_box) (d' := 2) (v := .inl r) (M1 := (σ', τ')) (c0 := 32) (ci := 8) (nf := 42) [.inl (xs (i + 1)), .inl (xs (i + 2)), .inl (xs (i + 3))] dL_law_286 rfl wv_RL_22 omX8_box rfl in_32 rfl rfl rfl (Nat.le_of_ble_eq_true rfl) (Nat.le_of_ble_eq_true rfl) (kX8_box (xs (i + 1)) (xs (i + 2)) (xs (i + 3)) τ σ' e2) ?_
  exact Lm.icmp_eq 1504 dL_law_289 (by decide) (kk σ' τ' hr)
theorem law_boxOf (hL : L ≤ 3072) (hi : i + 6 ≤ L) (h : Rel σ τ) (kk : ∀ σ' τ', Rel σ' τ' → Lm L xs 1504 (lvL i) [] (σ', τ')) : Lm L xs 294 (lvL i) [] (σ, τ) := by
  obtain ⟨r, σ', τ', e1, e2, hr⟩ := m_boxOf h (xs (i + 1)) (xs (i + 2))
  refine Lm.aload_n (x := (7, 0)) 2 dL_law_294 rfl rfl ?_
  refine Lm.arg (k := 1) dL_law_295 dL_law_296 dL_law_297 dL_law_298 dL_law_299 rfl hL (by omega) ?_
  refine Lm.arg (k := 2) dL_law_300 dL_law_301 dL_law_302 dL_law_303 dL_law_304 rfl hL (by omega) ?_
  refine Lm.callV (Y := mX7_boxOf) (d' := 1) (v := .inl r) (M1 := (σ', τ)) (c0 := 7) (ci := 7) (nf := 11) [.inl (xs (i + 1)), .inl (xs (i + 2))] dL_law_305 rfl wv_RL_23 omX7_boxOf rfl in_7 rfl rfl rfl (Nat.le_of_ble_eq_true rfl) (Nat.le_of_ble_eq_true rfl) (kX7_boxOf (xs (i + 1)) (xs (i + 2)) σ τ e1) ?_
  refine Lm.aload_n (x := (32, 0)) 1 dL_law_308 rfl rfl ?_
  refine Lm.arg (k := 1) dL_law_309 dL_law_310 dL_law_311 dL_law_312 dL_law_313 rfl hL (by omega) ?_
  refine Lm.arg (k := 2) dL_law_314 dL_law_315 dL_law_316 dL_law_317 dL_law_318 rfl hL (by omega) ?_
  refine Lm.callV (Y := mX8_boxOf) (d' := 2) (v := .inl r) (M1 := (σ', τ')) (c0 := 32) (ci := 8) (nf := 42) [.inl (xs (i + 1)), .inl (xs (i + 2))] dL_law_319 rfl wv_RL_27 omX8_boxOf rfl in_32 rfl rfl rfl (Nat.le_of_ble_eq_true rfl) (Nat.le_of_ble_eq_true rfl) (kX8_boxOf (xs (i + 1)) (xs (i + 2)) τ σ' e2) ?_
  exact Lm.icmp_eq 1504 dL_law_322 (by decide) (kk σ' τ' hr)
theorem law_row (hL : L ≤ 3072) (hi : i + 6 ≤ L) (h : Rel σ τ) (kk : ∀ σ' τ', Rel σ' τ' → Lm L xs 1504 (lvL i) [] (σ', τ')) : Lm L xs 327 (lvL i) [] (σ, τ) := by
  obtain ⟨r, σ', τ', e1, e2, hr⟩ := m_row h (xs (i + 1)) (xs (i + 2)) (xs (i + 3))
  refine Lm.aload_n (x := (7, 0)) 2 dL_law_327 rfl rfl ?_
  refine Lm.arg (k := 1) dL_law_328 dL_law_329 dL_law_330 dL_law_331 dL_law_332 rfl hL (by omega) ?_
  refine Lm.arg (k := 2) dL_law_333 dL_law_334 dL_law_335 dL_law_336 dL_law_337 rfl hL (by omega) ?_
  refine Lm.arg (k := 3) dL_law_338 dL_law_339 dL_law_340 dL_law_341 dL_law_342 rfl hL (by omega) ?_
  refine Lm.callV (Y := mX7_row) (d' := 2) (v := .inl r) (M1 := (σ', τ)) (c0 := 7) (ci := 7) (nf := 11) [.inl (xs (i + 1)), .inl (xs (i + 2)), .inl (xs (i + 3))] dL_law_343 rfl wv_RL_28 omX7_row rfl in_7 rfl rfl rfl (Nat.le_of_ble_eq_true rfl) (Nat.le_of_ble_eq_true rfl) (kX7_row (xs (i + 1)) (xs (i + 2)) (xs (i + 3)) σ τ e1) ?_
  refine Lm.aload_n (x := (32, 0)) 1 dL_law_346 rfl rfl ?_
  refine Lm.arg (k := 1) dL_law_347 dL_law_348 dL_law_349 dL_law_350 dL_law_351 rfl hL (by omega) ?_
  refine Lm.arg (k := 2) dL_law_352 dL_law_353 dL_law_354 dL_law_355 dL_law_356 rfl hL (by omega) ?_
  refine Lm.arg (k := 3) dL_law_357 dL_law_358 dL_law_359 dL_law_360 dL_law_361 rfl hL (by omega) ?_
  refine Lm.callV (Y := mX8_row) (d' := 2) (v := .inl r) (M1 := (σ', τ')) (c0 := 32) (ci := 8) (nf := 42) [.inl (xs (i + 1)), .inl (xs (i + 2)), .inl (xs (i + 3))] dL_law_362 rfl wv_RL_31 omX8_row rfl in_32 rfl rfl rfl (Nat.le_of_ble_eq_true rfl) (Nat.le_of_ble_eq_true rfl) (kX8_row (xs (i + 1)) (xs (i + 2)) (xs (i + 3)) τ σ' e2) ?_
  exact Lm.icmp_eq 1504 dL_law_365 (by decide) (kk σ' τ' hr)
theorem law_of (hL : L ≤ 3072) (hi : i + 6 ≤ L) (h : Rel σ τ) (kk : ∀ σ' τ', Rel σ' τ' → Lm L xs 1504 (lvL i) [] (σ', τ')) : Lm L xs 370 (lvL i) [] (σ, τ) := by
  obtain ⟨r, σ', τ', e1, e2, hr⟩ := m_of h (xs (i + 1)) (xs (i + 2))
  refine Lm.aload_n (x := (7, 0)) 2 dL_law_370 rfl rfl ?_
  refine Lm.arg (k := 1) dL_law_371 dL_law_372 dL_law_373 dL_law_374 dL_law_375 rfl hL (by omega) ?_
  refine Lm.arg (k := 2) dL_law_376 dL_law_377 dL_law_378 dL_law_379 dL_law_380 rfl hL (by omega) ?_
  refine Lm.callV (Y := mX7_of) (d' := 1) (v := .inl r) (M1 := (σ', τ)) (c0 := 7) (ci := 7) (nf := 11) [.inl (xs (i + 1)), .inl (xs (i + 2))] dL_law_381 rfl wv_RL_32 omX7_of rfl in_7 rfl rfl rfl (Nat.le_of_ble_eq_true rfl) (Nat.le_of_ble_eq_true rfl) (kX7_of (xs (i + 1)) (xs (i + 2)) σ τ e1) ?_
  refine Lm.aload_n (x := (32, 0)) 1 dL_law_384 rfl rfl ?_
  refine Lm.arg (k := 1) dL_law_385 dL_law_386 dL_law_387 dL_law_388 dL_law_389 rfl hL (by omega) ?_
  refine Lm.arg (k := 2) dL_law_390 dL_law_391 dL_law_392 dL_law_393 dL_law_394 rfl hL (by omega) ?_
  refine Lm.callV (Y := mX8_of) (d' := 2) (v := .inl r) (M1 := (σ', τ')) (c0 := 32) (ci := 8) (nf := 42) [.inl (xs (i + 1)), .inl (xs (i + 2))] dL_law_395 rfl wv_RL_35 omX8_of rfl in_32 rfl rfl rfl (Nat.le_of_ble_eq_true rfl) (Nat.le_of_ble_eq_true rfl) (kX8_of (xs (i + 1)) (xs (i + 2)) τ σ' e2) ?_
  exact Lm.icmp_eq 1504 dL_law_398 (by decide) (kk σ' τ' hr)
theorem law_change (hL : L ≤ 3072) (hi : i + 6 ≤ L) (h : Rel σ τ) (kk : ∀ σ' τ', Rel σ' τ' → Lm L xs 1504 (lvL i) [] (σ', τ')) : Lm L xs 403 (lvL i) [] (σ, τ) := by
  obtain ⟨r, σ', τ', e1, e2, hr⟩ := m_change h (xs (i + 1)) (xs (i + 2)) (xs (i + 3))
  refine Lm.aload_n (x := (7, 0)) 2 dL_law_403 rfl rfl ?_
  refine Lm.arg (k := 1) dL_law_404 dL_law_405 dL_law_406 dL_law_407 dL_law_408 rfl hL (by omega) ?_
  refine Lm.arg (k := 2) dL_law_409 dL_law_410 dL_law_411 dL_law_412 dL_law_413 rfl hL (by omega) ?_
  refine Lm.arg (k := 3) dL_law_414 dL_law_415 dL_law_416 dL_law_417 dL_law_418 rfl hL (by omega) ?_
  refine Lm.callV (Y := mX7_change) (d' := 1) (v := .inl r) (M1 := (σ', τ)) (c0 := 7) (ci := 7) (nf := 11) [.inl (xs (i + 1)), .inl (xs (i + 2)), .inl (xs (i + 3))] dL_law_419 rfl wv_RL_36 omX7_change rfl in_7 rfl rfl rfl (Nat.le_of_ble_eq_true rfl) (Nat.le_of_ble_eq_true rfl) (kX7_change (xs (i + 1)) (xs (i + 2)) (xs (i + 3)) σ τ e1) ?_
  refine Lm.aload_n (x := (32, 0)) 1 dL_law_422 rfl rfl ?_
  refine Lm.arg (k := 1) dL_law_423 dL_law_424 dL_law_425 dL_law_426 dL_law_427 rfl hL (by omega) ?_
  refine Lm.arg (k := 2) dL_law_428 dL_law_429 dL_law_430 dL_law_431 dL_law_432 rfl hL (by omega) ?_
  refine Lm.arg (k := 3) dL_law_433 dL_law_434 dL_law_435 dL_law_436 dL_law_437 rfl hL (by omega) ?_
  refine Lm.callV (Y := mX8_change) (d' := 2) (v := .inl r) (M1 := (σ', τ')) (c0 := 32) (ci := 8) (nf := 42) [.inl (xs (i + 1)), .inl (xs (i + 2)), .inl (xs (i + 3))] dL_law_438 rfl wv_RL_39 omX8_change rfl in_32 rfl rfl rfl (Nat.le_of_ble_eq_true rfl) (Nat.le_of_ble_eq_true rfl) (kX8_change (xs (i + 1)) (xs (i + 2)) (xs (i + 3)) τ σ' e2) ?_
  exact Lm.icmp_eq 1504 dL_law_441 (by decide) (kk σ' τ' hr)
theorem law_as (hL : L ≤ 3072) (hi : i + 6 ≤ L) (h : Rel σ τ) (kk : ∀ σ' τ', Rel σ' τ' → Lm L xs 1504 (lvL i) [] (σ', τ')) : Lm L xs 446 (lvL i) [] (σ, τ) := by
  obtain ⟨r, σ', τ', e1, e2, hr⟩ := m_as h (xs (i + 1)) (xs (i + 2))
  refine Lm.aload_n (x := (7, 0)) 2 dL_law_446 rfl rfl ?_
  refine Lm.arg (k := 1) dL_law_447 dL_law_448 dL_law_449 dL_law_450 dL_law_451 rfl hL (by omega) ?_
  refine Lm.arg (k := 2) dL_law_452 dL_law_453 dL_law_454 dL_law_455 dL_law_456 rfl hL (by omega) ?_
  refine Lm.callV (Y := mX7_as) (d' := 1) (v := .inl r) (M1 := (σ', τ)) (c0 := 7) (ci := 7) (nf := 11) [.inl (xs (i + 1)), .inl (xs (i + 2))] dL_law_457 rfl wv_RL_40 omX7_as rfl in_7 rfl rfl rfl (Nat.le_of_ble_eq_true rfl) (Nat.le_of_ble_eq_true rfl) (kX7_as (xs (i + 1)) (xs (i + 2)) σ τ e1) ?_
  refine Lm.aload_n (x := (32, 0)) 1 dL_law_460 rfl rfl ?_
  refine Lm.arg (k := 1) dL_law_461 dL_law_462 dL_law_463 dL_law_464 dL_law_465 rfl hL (by omega) ?_
  refine Lm.arg (k := 2) dL_law_466 dL_law_467 dL_law_468 dL_law_469 dL_law_470 rfl hL (by omega) ?_
  refine Lm.callV (Y := mX8_as) (d' := 2) (v := .inl r) (M1 := (σ', τ')) (c0 := 32) (ci := 8) (nf := 42) [.inl (xs (i + 1)), .inl (xs (i + 2))] dL_law_471 rfl wv_RL_43 omX8_as rfl in_32 rfl rfl rfl (Nat.le_of_ble_eq_true rfl) (Nat.le_of_ble_eq_true rfl) (kX8_as (xs (i + 1)) (xs (i + 2)) τ σ' e2) ?_
  exact Lm.icmp_eq 1504 dL_law_474 (by decide) (kk σ' τ' hr)
theorem law_drop (hL : L ≤ 3072) (hi : i + 6 ≤ L) (h : Rel σ τ) (kk : ∀ σ' τ', Rel σ' τ' → Lm L xs 1504 (lvL i) [] (σ', τ')) : Lm L xs 479 (lvL i) [] (σ, τ) := by
  obtain ⟨r, σ', τ', e1, e2, hr⟩ := m_drop h 
  refine Lm.aload_n (x := (7, 0)) 2 dL_law_479 rfl rfl ?_
  refine Lm.callV (Y := mX7_drop) (d' := 1) (v := .inl r) (M1 := (σ', τ)) (c0 := 7) (ci := 7) (nf := 11) [] dL_law_480 rfl wv_RL_44 omX7_drop rfl in_7 rfl rfl rfl (Nat.le_of_ble_eq_true rfl) (Nat.le_of_ble_eq_true rfl) (kX7_drop  σ τ e1) ?_
  refine Lm.aload_n (x := (32, 0)) 1 dL_law_483 rfl rfl ?_
  refine Lm.callV (Y := mX8_drop) (d' := 1) (v := .inl r) (M1 := (σ', τ')) (c0 := 32) (ci := 8) (nf := 42) [] dL_law_484 rfl wv_RL_48 omX8_drop rfl in_32 rfl rfl rfl (Nat.le_of_ble_eq_true rfl) (Nat.le_of_ble_eq_true rfl) (kX8_drop  τ σ' e2) ?_
  exact Lm.icmp_eq 1504 dL_law_487 (by decide) (kk σ' τ' hr)
theorem law_many (hL : L ≤ 3072) (hi : i + 6 ≤ L) (h : Rel σ τ) (kk : ∀ σ' τ', Rel σ' τ' → Lm L xs 1504 (lvL i) [] (σ', τ')) : Lm L xs 492 (lvL i) [] (σ, τ) := by
  obtain ⟨r, σ', τ', e1, e2, hr⟩ := m_many h 
  refine Lm.aload_n (x := (7, 0)) 2 dL_law_492 rfl rfl ?_
  refine Lm.callV (Y := mX7_many) (d' := 5) (v := .inl r) (M1 := (σ', τ)) (c0 := 7) (ci := 7) (nf := 11) [] dL_law_493 rfl wv_RL_49 omX7_many rfl in_7 rfl rfl rfl (Nat.le_of_ble_eq_true rfl) (Nat.le_of_ble_eq_true rfl) (kX7_many  σ τ e1) ?_
  refine Lm.aload_n (x := (32, 0)) 1 dL_law_496 rfl rfl ?_
  refine Lm.callV (Y := mX8_many) (d' := 4) (v := .inl r) (M1 := (σ', τ')) (c0 := 32) (ci := 8) (nf := 42) [] dL_law_497 rfl wv_RL_52 omX8_many rfl in_32 rfl rfl rfl (Nat.le_of_ble_eq_true rfl) (Nat.le_of_ble_eq_true rfl) (kX8_many  τ σ' e2) ?_
  exact Lm.icmp_eq 1504 dL_law_500 (by decide) (kk σ' τ' hr)
theorem law_point (hL : L ≤ 3072) (hi : i + 6 ≤ L) (h : Rel σ τ) (kk : ∀ σ' τ', Rel σ' τ' → Lm L xs 1504 (lvL i) [] (σ', τ')) : Lm L xs 505 (lvL i) [] (σ, τ) := by
  obtain ⟨r, σ', τ', e1, e2, hr⟩ := m_point h (xs (i + 1)) (xs (i + 2))
  refine Lm.aload_n (x := (7, 0)) 2 dL_law_505 rfl rfl ?_
  refine Lm.arg (k := 1) dL_law_506 dL_law_507 dL_law_508 dL_law_509 dL_law_510 rfl hL (by omega) ?_
  refine Lm.arg (k := 2) dL_law_511 dL_law_512 dL_law_513 dL_law_514 dL_law_515 rfl hL (by omega) ?_
  refine Lm.callV (Y := mX7_point) (d' := 5) (v := .inl r) (M1 := (σ', τ)) (c0 := 7) (ci := 7) (nf := 11) [.inl (xs (i + 1)), .inl (xs (i + 2))] dL_law_516 rfl wv_RL_53 omX7_point rfl in_7 rfl rfl rfl (Nat.le_of_ble_eq_true rfl) (Nat.le_of_ble_eq_true rfl) (kX7_point (xs (i + 1)) (xs (i + 2)) σ τ e1) ?_
  refine Lm.aload_n (x := (32, 0)) 1 dL_law_519 rfl rfl ?_
  refine Lm.arg (k := 1) dL_law_520 dL_law_521 dL_law_522 dL_law_523 dL_law_524 rfl hL (by omega) ?_
  refine Lm.arg (k := 2) dL_law_525 dL_law_526 dL_law_527 dL_law_528 dL_law_529 rfl hL (by omega) ?_
  refine Lm.callV (Y := mX8_point) (d' := 5) (v := .inl r) (M1 := (σ', τ')) (c0 := 32) (ci := 8) (nf := 42) [.inl (xs (i + 1)), .inl (xs (i + 2))] dL_law_530 rfl wv_RL_56 omX8_point rfl in_32 rfl rfl rfl (Nat.le_of_ble_eq_true rfl) (Nat.le_of_ble_eq_true rfl) (kX8_point (xs (i + 1)) (xs (i + 2)) τ σ' e2) ?_
  exact Lm.icmp_eq 1504 dL_law_533 (by decide) (kk σ' τ' hr)
theorem law_holds (hL : L ≤ 3072) (hi : i + 6 ≤ L) (h : Rel σ τ) (kk : ∀ σ' τ', Rel σ' τ' → Lm L xs 1504 (lvL i) [] (σ', τ')) : Lm L xs 538 (lvL i) [] (σ, τ) := by
  obtain ⟨r, σ', τ', e1, e2, hr⟩ := m_holds h (xs (i + 1))
  refine Lm.aload_n (x := (7, 0)) 2 dL_law_538 rfl rfl ?_
  refine Lm.arg (k := 1) dL_law_539 dL_law_540 dL_law_541 dL_law_542 dL_law_543 rfl hL (by omega) ?_
  refine Lm.callV (Y := mX7_holds) (d' := 4) (v := .inl r) (M1 := (σ', τ)) (c0 := 7) (ci := 7) (nf := 11) [.inl (xs (i + 1))] dL_law_544 rfl wv_RL_57 omX7_holds rfl in_7 rfl rfl rfl (Nat.le_of_ble_eq_true rfl) (Nat.le_of_ble_eq_true rfl) (kX7_holds (xs (i + 1)) σ τ e1) ?_
  refine Lm.aload_n (x := (32, 0)) 1 dL_law_547 rfl rfl ?_
  refine Lm.arg (k := 1) dL_law_548 dL_law_549 dL_law_550 dL_law_551 dL_law_552 rfl hL (by omega) ?_
  refine Lm.callV (Y := mX8_holds) (d' := 3) (v := .inl r) (M1 := (σ', τ')) (c0 := 32) (ci := 8) (nf := 42) [.inl (xs (i + 1))] dL_law_553 rfl wv_RL_60 omX8_holds rfl in_32 rfl rfl rfl (Nat.le_of_ble_eq_true rfl) (Nat.le_of_ble_eq_true rfl) (kX8_holds (xs (i + 1)) τ σ' e2) ?_
  exact Lm.icmp_eq 1504 dL_law_556 (by decide) (kk σ' τ' hr)
theorem law_best (hL : L ≤ 3072) (hi : i + 6 ≤ L) (h : Rel σ τ) (kk : ∀ σ' τ', Rel σ' τ' → Lm L xs 1504 (lvL i) [] (σ', τ')) : Lm L xs 561 (lvL i) [] (σ, τ) := by
  obtain ⟨r, σ', τ', e1, e2, hr⟩ := m_best h (xs (i + 1)) (xs (i + 2))
  refine Lm.aload_n (x := (7, 0)) 2 dL_law_561 rfl rfl ?_
  refine Lm.arg (k := 1) dL_law_562 dL_law_563 dL_law_564 dL_law_565 dL_law_566 rfl hL (by omega) ?_
  refine Lm.arg (k := 2) dL_law_567 dL_law_568 dL_law_569 dL_law_570 dL_law_571 rfl hL (by omega) ?_
  refine Lm.callV (Y := mX7_best) (d' := 5) (v := .inl r) (M1 := (σ', τ)) (c0 := 7) (ci := 7) (nf := 11) [.inl (xs (i + 1)), .inl (xs (i + 2))] dL_law_572 rfl wv_RL_61 omX7_best rfl in_7 rfl rfl rfl (Nat.le_of_ble_eq_true rfl) (Nat.le_of_ble_eq_true rfl) (kX7_best (xs (i + 1)) (xs (i + 2)) σ τ e1) ?_
  refine Lm.aload_n (x := (32, 0)) 1 dL_law_575 rfl rfl ?_
  refine Lm.arg (k := 1) dL_law_576 dL_law_577 dL_law_578 dL_law_579 dL_law_580 rfl hL (by omega) ?_
  refine Lm.arg (k := 2) dL_law_581 dL_law_582 dL_law_583 dL_law_584 dL_law_585 rfl hL (by omega) ?_
  refine Lm.callV (Y := mX8_best) (d' := 4) (v := .inl r) (M1 := (σ', τ')) (c0 := 32) (ci := 8) (nf := 42) [.inl (xs (i + 1)), .inl (xs (i + 2))] dL_law_586 rfl wv_RL_64 omX8_best rfl in_32 rfl rfl rfl (Nat.le_of_ble_eq_true rfl) (Nat.le_of_ble_eq_true rfl) (kX8_best (xs (i + 1)) (xs (i + 2)) τ σ' e2) ?_
  exact Lm.icmp_eq 1504 dL_law_589 (by decide) (kk σ' τ' hr)
theorem law_thin (hL : L ≤ 3072) (hi : i + 6 ≤ L) (h : Rel σ τ) (kk : ∀ σ' τ', Rel σ' τ' → Lm L xs 1504 (lvL i) [] (σ', τ')) : Lm L xs 594 (lvL i) [] (σ, τ) := by
  obtain ⟨r, σ', τ', e1, e2, hr⟩ := m_thin h (xs (i + 1))
  refine Lm.aload_n (x := (7, 0)) 2 dL_law_594 rfl rfl ?_
  refine Lm.arg (k := 1) dL_law_595 dL_law_596 dL_law_597 dL_law_598 dL_law_599 rfl hL (by omega) ?_
  refine Lm.callV (Y := mX7_thin) (d' := 5) (v := .inl r) (M1 := (σ', τ)) (c0 := 7) (ci := 7) (nf := 11) [.inl (xs (i + 1))] dL_law_600 rfl wv_RL_65 omX7_thin rfl in_7 rfl rfl rfl (Nat.le_of_ble_eq_true rfl) (Nat.le_of_ble_eq_true rfl) (kX7_thin (xs (i + 1)) σ τ e1) ?_
  refine Lm.aload_n (x := (32, 0)) 1 dL_law_603 rfl rfl ?_
  refine Lm.arg (k := 1) dL_law_604 dL_law_605 dL_law_606 dL_law_607 dL_law_608 rfl hL (by omega) ?_
  refine Lm.callV (Y := mX8_thin) (d' := 4) (v := .inl r) (M1 := (σ', τ')) (c0 := 32) (ci := 8) (nf := 42) [.inl (xs (i + 1))] dL_law_609 rfl wv_RL_68 omX8_thin rfl in_32 rfl rfl rfl (Nat.le_of_ble_eq_true rfl) (Nat.le_of_ble_eq_true rfl) (kX8_thin (xs (i + 1)) τ σ' e2) ?_
  exact Lm.icmp_eq 1504 dL_law_612 (by decide) (kk σ' τ' hr)
theorem law_mean (hL : L ≤ 3072) (hi : i + 6 ≤ L) (h : Rel σ τ) (kk : ∀ σ' τ', Rel σ' τ' → Lm L xs 1504 (lvL i) [] (σ', τ')) : Lm L xs 617 (lvL i) [] (σ, τ) := by
  obtain ⟨r, σ', τ', e1, e2, hr⟩ := m_mean h (xs (i + 1)) (xs (i + 2))
  refine Lm.aload_n (x := (7, 0)) 2 dL_law_617 rfl rfl ?_
  refine Lm.arg (k := 1) dL_law_618 dL_law_619 dL_law_620 dL_law_621 dL_law_622 rfl hL (by omega) ?_
  refine Lm.arg (k := 2) dL_law_623 dL_law_624 dL_law_625 dL_law_626 dL_law_627 rfl hL (by omega) ?_
  refine Lm.callV (Y := mX7_mean) (d' := 5) (v := .inl r) (M1 := (σ', τ)) (c0 := 7) (ci := 7) (nf := 11) [.inl (xs (i + 1)), .inl (xs (i + 2))] dL_law_628 rfl wv_RL_69 omX7_mean rfl in_7 rfl rfl rfl (Nat.le_of_ble_eq_true rfl) (Nat.le_of_ble_eq_true rfl) (kX7_mean (xs (i + 1)) (xs (i + 2)) σ τ e1) ?_
  refine Lm.aload_n (x := (32, 0)) 1 dL_law_631 rfl rfl ?_
  refine Lm.arg (k := 1) dL_law_632 dL_law_633 dL_law_634 dL_law_635 dL_law_636 rfl hL (by omega) ?_
  refine Lm.arg (k := 2) dL_law_637 dL_law_638 dL_law_639 dL_law_640 dL_law_641 rfl hL (by omega) ?_
  refine Lm.callV (Y := mX8_mean) (d' := 4) (v := .inl r) (M1 := (σ', τ')) (c0 := 32) (ci := 8) (nf := 42) [.inl (xs (i + 1)), .inl (xs (i + 2))] dL_law_642 rfl wv_RL_72 omX8_mean rfl in_32 rfl rfl rfl (Nat.le_of_ble_eq_true rfl) (Nat.le_of_ble_eq_true rfl) (kX8_mean (xs (i + 1)) (xs (i + 2)) τ σ' e2) ?_
  exact Lm.icmp_eq 1504 dL_law_645 (by decide) (kk σ' τ' hr)
theorem law_round (hL : L ≤ 3072) (hi : i + 6 ≤ L) (h : Rel σ τ) (kk : ∀ σ' τ', Rel σ' τ' → Lm L xs 1504 (lvL i) [] (σ', τ')) : Lm L xs 650 (lvL i) [] (σ, τ) := by
  obtain ⟨r, σ', τ', e1, e2, hr⟩ := m_round h (xs (i + 1))
  refine Lm.aload_n (x := (7, 0)) 2 dL_law_650 rfl rfl ?_
  refine Lm.arg (k := 1) dL_law_651 dL_law_652 dL_law_653 dL_law_654 dL_law_655 rfl hL (by omega) ?_
  refine Lm.callV (Y := mX7_round) (d' := 5) (v := .inl r) (M1 := (σ', τ)) (c0 := 7) (ci := 7) (nf := 11) [.inl (xs (i + 1))] dL_law_656 rfl wv_RL_73 omX7_round rfl in_7 rfl rfl rfl (Nat.le_of_ble_eq_true rfl) (Nat.le_of_ble_eq_true rfl) (kX7_round (xs (i + 1)) σ τ e1) ?_
  refine Lm.aload_n (x := (32, 0)) 1 dL_law_659 rfl rfl ?_
  refine Lm.arg (k := 1) dL_law_660 dL_law_661 dL_law_662 dL_law_663 dL_law_664 rfl hL (by omega) ?_
  refine Lm.callV (Y := mX8_round) (d' := 5) (v := .inl r) (M1 := (σ', τ')) (c0 := 32) (ci := 8) (nf := 42) [.inl (xs (i + 1))] dL_law_665 rfl wv_RL_76 omX8_round rfl in_32 rfl rfl rfl (Nat.le_of_ble_eq_true rfl) (Nat.le_of_ble_eq_true rfl) (kX8_round (xs (i + 1)) τ σ' e2) ?_
  exact Lm.icmp_eq 1504 dL_law_668 (by decide) (kk σ' τ' hr)
theorem law_tree (hL : L ≤ 3072) (hi : i + 6 ≤ L) (h : Rel σ τ) (kk : ∀ σ' τ', Rel σ' τ' → Lm L xs 1504 (lvL i) [] (σ', τ')) : Lm L xs 673 (lvL i) [] (σ, τ) := by
  obtain ⟨r, σ', τ', e1, e2, hr⟩ := m_tree h (xs (i + 1))
  refine Lm.aload_n (x := (7, 0)) 2 dL_law_673 rfl rfl ?_
  refine Lm.arg (k := 1) dL_law_674 dL_law_675 dL_law_676 dL_law_677 dL_law_678 rfl hL (by omega) ?_
  refine Lm.callV (Y := mX7_tree) (d' := 33) (v := .inl r) (M1 := (σ', τ)) (c0 := 7) (ci := 7) (nf := 11) [.inl (xs (i + 1))] dL_law_679 rfl wv_RL_77 omX7_tree rfl in_7 rfl rfl rfl (Nat.le_of_ble_eq_true rfl) (Nat.le_of_ble_eq_true rfl) (kX7_tree (xs (i + 1)) σ τ e1) ?_
  refine Lm.aload_n (x := (32, 0)) 1 dL_law_682 rfl rfl ?_
  refine Lm.arg (k := 1) dL_law_683 dL_law_684 dL_law_685 dL_law_686 dL_law_687 rfl hL (by omega) ?_
  refine Lm.callV (Y := mX8_tree) (d' := 56) (v := .inl r) (M1 := (σ', τ')) (c0 := 32) (ci := 8) (nf := 42) [.inl (xs (i + 1))] dL_law_688 rfl wv_RL_80 omX8_tree rfl in_32 rfl rfl rfl (Nat.le_of_ble_eq_true rfl) (Nat.le_of_ble_eq_true rfl) (kX8_tree (xs (i + 1)) τ σ' e2) ?_
  exact Lm.icmp_eq 1504 dL_law_691 (by decide) (kk σ' τ' hr)
theorem law_leaf (hL : L ≤ 3072) (hi : i + 6 ≤ L) (h : Rel σ τ) (kk : ∀ σ' τ', Rel σ' τ' → Lm L xs 1504 (lvL i) [] (σ', τ')) : Lm L xs 696 (lvL i) [] (σ, τ) := by
  obtain ⟨r, σ', τ', e1, e2, hr⟩ := m_leaf h (xs (i + 1)) (xs (i + 2))
  refine Lm.aload_n (x := (7, 0)) 2 dL_law_696 rfl rfl ?_
  refine Lm.arg (k := 1) dL_law_697 dL_law_698 dL_law_699 dL_law_700 dL_law_701 rfl hL (by omega) ?_
  refine Lm.arg (k := 2) dL_law_702 dL_law_703 dL_law_704 dL_law_705 dL_law_706 rfl hL (by omega) ?_
  refine Lm.callV (Y := mX7_leaf) (d' := 33) (v := .inl r) (M1 := (σ', τ)) (c0 := 7) (ci := 7) (nf := 11) [.inl (xs (i + 1)), .inl (xs (i + 2))] dL_law_707 rfl wv_RL_81 omX7_leaf rfl in_7 rfl rfl rfl (Nat.le_of_ble_eq_true rfl) (Nat.le_of_ble_eq_true rfl) (kX7_leaf (xs (i + 1)) (xs (i + 2)) σ τ e1) ?_
  refine Lm.aload_n (x := (32, 0)) 1 dL_law_710 rfl rfl ?_
  refine Lm.arg (k := 1) dL_law_711 dL_law_712 dL_law_713 dL_law_714 dL_law_715 rfl hL (by omega) ?_
  refine Lm.arg (k := 2) dL_law_716 dL_law_717 dL_law_718 dL_law_719 dL_law_720 rfl hL (by omega) ?_
  refine Lm.callV (Y := mX8_leaf) (d' := 56) (v := .inl r) (M1 := (σ', τ')) (c0 := 32) (ci := 8) (nf := 42) [.inl (xs (i + 1)), .inl (xs (i + 2))] dL_law_721 rfl wv_RL_84 omX8_leaf rfl in_32 rfl rfl rfl (Nat.le_of_ble_eq_true rfl) (Nat.le_of_ble_eq_true rfl) (kX8_leaf (xs (i + 1)) (xs (i + 2)) τ σ' e2) ?_
  exact Lm.icmp_eq 1504 dL_law_724 (by decide) (kk σ' τ' hr)
theorem law_side (hL : L ≤ 3072) (hi : i + 6 ≤ L) (h : Rel σ τ) (kk : ∀ σ' τ', Rel σ' τ' → Lm L xs 1504 (lvL i) [] (σ', τ')) : Lm L xs 729 (lvL i) [] (σ, τ) := by
  obtain ⟨r, σ', τ', e1, e2, hr⟩ := m_side h (xs (i + 1)) (xs (i + 2)) (xs (i + 3))
  refine Lm.aload_n (x := (7, 0)) 2 dL_law_729 rfl rfl ?_
  refine Lm.arg (k := 1) dL_law_730 dL_law_731 dL_law_732 dL_law_733 dL_law_734 rfl hL (by omega) ?_
  refine Lm.arg (k := 2) dL_law_735 dL_law_736 dL_law_737 dL_law_738 dL_law_739 rfl hL (by omega) ?_
  refine Lm.arg (k := 3) dL_law_740 dL_law_741 dL_law_742 dL_law_743 dL_law_744 rfl hL (by omega) ?_
  refine Lm.callV (Y := mX7_side) (d' := 33) (v := .inl r) (M1 := (σ', τ)) (c0 := 7) (ci := 7) (nf := 11) [.inl (xs (i + 1)), .inl (xs (i + 2)), .inl (xs (i + 3))] dL_law_745 rfl wv_RL_85 omX7_side rfl in_7 rfl rfl rfl (Nat.le_of_ble_eq_true rfl) (Nat.le_of_ble_eq_true rfl) (kX7_side (xs (i + 1)) (xs (i + 2)) (xs (i + 3)) σ τ e1) ?_
  refine Lm.aload_n (x := (32, 0)) 1 dL_law_748 rfl rfl ?_
  refine Lm.arg (k := 1) dL_law_749 dL_law_750 dL_law_751 dL_law_752 dL_law_753 rfl hL (by omega) ?_
  refine Lm.arg (k := 2) dL_law_754 dL_law_755 dL_law_756 dL_law_757 dL_law_758 rfl hL (by omega) ?_
  refine Lm.arg (k := 3) dL_law_759 dL_law_760 dL_law_761 dL_law_762 dL_law_763 rfl hL (by omega) ?_
  refine Lm.callV (Y := mX8_side) (d' := 56) (v := .inl r) (M1 := (σ', τ')) (c0 := 32) (ci := 8) (nf := 42) [.inl (xs (i + 1)), .inl (xs (i + 2)), .inl (xs (i + 3))] dL_law_764 rfl wv_RL_88 omX8_side rfl in_32 rfl rfl rfl (Nat.le_of_ble_eq_true rfl) (Nat.le_of_ble_eq_true rfl) (kX8_side (xs (i + 1)) (xs (i + 2)) (xs (i + 3)) τ σ' e2) ?_
  exact Lm.icmp_eq 1504 dL_law_767 (by decide) (kk σ' τ' hr)
theorem law_where (hL : L ≤ 3072) (hi : i + 6 ≤ L) (h : Rel σ τ) (kk : ∀ σ' τ', Rel σ' τ' → Lm L xs 1504 (lvL i) [] (σ', τ')) : Lm L xs 772 (lvL i) [] (σ, τ) := by
  obtain ⟨r, σ', τ', e1, e2, hr⟩ := m_where h (xs (i + 1))
  refine Lm.aload_n (x := (7, 0)) 2 dL_law_772 rfl rfl ?_
  refine Lm.arg (k := 1) dL_law_773 dL_law_774 dL_law_775 dL_law_776 dL_law_777 rfl hL (by omega) ?_
  refine Lm.callV (Y := mX7_where) (d' := 33) (v := .inl r) (M1 := (σ', τ)) (c0 := 7) (ci := 7) (nf := 11) [.inl (xs (i + 1))] dL_law_778 rfl wv_RL_89 omX7_where rfl in_7 rfl rfl rfl (Nat.le_of_ble_eq_true rfl) (Nat.le_of_ble_eq_true rfl) (kX7_where (xs (i + 1)) σ τ e1) ?_
  refine Lm.aload_n (x := (32, 0)) 1 dL_law_781 rfl rfl ?_
  refine Lm.arg (k := 1) dL_law_782 dL_law_783 dL_law_784 dL_law_785 dL_law_786 rfl hL (by omega) ?_
  refine Lm.callV (Y := mX8_where) (d' := 56) (v := .inl r) (M1 := (σ', τ')) (c0 := 32) (ci := 8) (nf := 42) [.inl (xs (i + 1))] dL_law_787 rfl wv_RL_92 omX8_where rfl in_32 rfl rfl rfl (Nat.le_of_ble_eq_true rfl) (Nat.le_of_ble_eq_true rfl) (kX8_where (xs (i + 1)) τ σ' e2) ?_
  exact Lm.icmp_eq 1504 dL_law_790 (by decide) (kk σ' τ' hr)
theorem law_judge (hL : L ≤ 3072) (hi : i + 6 ≤ L) (h : Rel σ τ) (kk : ∀ σ' τ', Rel σ' τ' → Lm L xs 1504 (lvL i) [] (σ', τ')) : Lm L xs 795 (lvL i) [] (σ, τ) := by
  obtain ⟨r, σ', τ', e1, e2, hr⟩ := m_judge h (xs (i + 1))
  refine Lm.aload_n (x := (7, 0)) 2 dL_law_795 rfl rfl ?_
  refine Lm.arg (k := 1) dL_law_796 dL_law_797 dL_law_798 dL_law_799 dL_law_800 rfl hL (by omega) ?_
  refine Lm.callV (Y := mX7_judge) (d' := 33) (v := .inl r) (M1 := (σ', τ)) (c0 := 7) (ci := 7) (nf := 11) [.inl (xs (i + 1))] dL_law_801 rfl wv_RL_93 omX7_judge rfl in_7 rfl rfl rfl (Nat.le_of_ble_eq_true rfl) (Nat.le_of_ble_eq_true rfl) (kX7_judge (xs (i + 1)) σ τ e1) ?_
  refine Lm.aload_n (x := (32, 0)) 1 dL_law_804 rfl rfl ?_
  refine Lm.arg (k := 1) dL_law_805 dL_law_806 dL_law_807 dL_law_808 dL_law_809 rfl hL (by omega) ?_
  refine Lm.callV (Y := mX8_judge) (d' := 56) (v := .inl r) (M1 := (σ', τ')) (c0 := 32) (ci := 8) (nf := 42) [.inl (xs (i + 1))] dL_law_810 rfl wv_RL_96 omX8_judge rfl in_32 rfl rfl rfl (Nat.le_of_ble_eq_true rfl) (Nat.le_of_ble_eq_true rfl) (kX8_judge (xs (i + 1)) τ σ' e2) ?_
  exact Lm.icmp_eq 1504 dL_law_813 (by decide) (kk σ' τ' hr)
theorem law_needs (hL : L ≤ 3072) (hi : i + 6 ≤ L) (h : Rel σ τ) (kk : ∀ σ' τ', Rel σ' τ' → Lm L xs 1504 (lvL i) [] (σ', τ')) : Lm L xs 818 (lvL i) [] (σ, τ) := by
  obtain ⟨r, σ', τ', e1, e2, hr⟩ := m_needs h 
  refine Lm.aload_n (x := (7, 0)) 2 dL_law_818 rfl rfl ?_
  refine Lm.callV (Y := mX7_needs) (d' := 5) (v := .inl r) (M1 := (σ', τ)) (c0 := 7) (ci := 7) (nf := 11) [] dL_law_819 rfl wv_RL_97 omX7_needs rfl in_7 rfl rfl rfl (Nat.le_of_ble_eq_true rfl) (Nat.le_of_ble_eq_true rfl) (kX7_needs  σ τ e1) ?_
  refine Lm.aload_n (x := (32, 0)) 1 dL_law_822 rfl rfl ?_
  refine Lm.callV (Y := mX8_needs) (d' := 4) (v := .inl r) (M1 := (σ', τ')) (c0 := 32) (ci := 8) (nf := 42) [] dL_law_823 rfl wv_RL_100 omX8_needs rfl in_32 rfl rfl rfl (Nat.le_of_ble_eq_true rfl) (Nat.le_of_ble_eq_true rfl) (kX8_needs  τ σ' e2) ?_
  exact Lm.icmp_eq 1504 dL_law_826 (by decide) (kk σ' τ' hr)
theorem law_without (hL : L ≤ 3072) (hi : i + 6 ≤ L) (h : Rel σ τ) (kk : ∀ σ' τ', Rel σ' τ' → Lm L xs 1504 (lvL i) [] (σ', τ')) : Lm L xs 831 (lvL i) [] (σ, τ) := by
  obtain ⟨r, σ', τ', e1, e2, hr⟩ := m_without h 
  refine Lm.aload_n (x := (7, 0)) 2 dL_law_831 rfl rfl ?_
  refine Lm.callV (Y := mX7_without) (d' := 5) (v := .inl r) (M1 := (σ', τ)) (c0 := 7) (ci := 7) (nf := 11) [] dL_law_832 rfl wv_RL_101 omX7_without rfl in_7 rfl rfl rfl (Nat.le_of_ble_eq_true rfl) (Nat.le_of_ble_eq_true rfl) (kX7_without  σ τ e1) ?_
  refine Lm.aload_n (x := (32, 0)) 1 dL_law_835 rfl rfl ?_
  refine Lm.callV (Y := mX8_without) (d' := 4) (v := .inl r) (M1 := (σ', τ')) (c0 := 32) (ci := 8) (nf := 42) [] dL_law_836 rfl wv_RL_104 omX8_without rfl in_32 rfl rfl rfl (Nat.le_of_ble_eq_true rfl) (Nat.le_of_ble_eq_true rfl) (kX8_without  τ σ' e2) ?_
  exact Lm.icmp_eq 1504 dL_law_839 (by decide) (kk σ' τ' hr)
theorem law_kind (hL : L ≤ 3072) (hi : i + 6 ≤ L) (h : Rel σ τ) (kk : ∀ σ' τ', Rel σ' τ' → Lm L xs 1504 (lvL i) [] (σ', τ')) : Lm L xs 844 (lvL i) [] (σ, τ) := by
  obtain ⟨r, σ', τ', e1, e2, hr⟩ := m_kind h (xs (i + 1))
  refine Lm.aload_n (x := (7, 0)) 2 dL_law_844 rfl rfl ?_
  refine Lm.arg (k := 1) dL_law_845 dL_law_846 dL_law_847 dL_law_848 dL_law_849 rfl hL (by omega) ?_
  refine Lm.callV (Y := mX7_kind) (d' := 5) (v := .inl r) (M1 := (σ', τ)) (c0 := 7) (ci := 7) (nf := 11) [.inl (xs (i + 1))] dL_law_850 rfl wv_RL_105 omX7_kind rfl in_7 rfl rfl rfl (Nat.le_of_ble_eq_true rfl) (Nat.le_of_ble_eq_true rfl) (kX7_kind (xs (i + 1)) σ τ e1) ?_
  refine Lm.aload_n (x := (32, 0)) 1 dL_law_853 rfl rfl ?_
  refine Lm.arg (k := 1) dL_law_854 dL_law_855 dL_law_856 dL_law_857 dL_law_858 rfl hL (by omega) ?_
  refine Lm.callV (Y := mX8_kind) (d' := 4) (v := .inl r) (M1 := (σ', τ')) (c0 := 32) (ci := 8) (nf := 42) [.inl (xs (i + 1))] dL_law_859 rfl wv_RL_108 omX8_kind rfl in_32 rfl rfl rfl (Nat.le_of_ble_eq_true rfl) (Nat.le_of_ble_eq_true rfl) (kX8_kind (xs (i + 1)) τ σ' e2) ?_
  exact Lm.icmp_eq 1504 dL_law_862 (by decide) (kk σ' τ' hr)
theorem law_boundFor (hL : L ≤ 3072) (hi : i + 6 ≤ L) (h : Rel σ τ) (kk : ∀ σ' τ', Rel σ' τ' → Lm L xs 1504 (lvL i) [] (σ', τ')) : Lm L xs 867 (lvL i) [] (σ, τ) := by
  obtain ⟨r, σ', τ', e1, e2, hr⟩ := m_boundFor h (xs (i + 1))
  refine Lm.aload_n (x := (7, 0)) 2 dL_law_867 rfl rfl ?_
  refine Lm.arg (k := 1) dL_law_868 dL_law_869 dL_law_870 dL_law_871 dL_law_872 rfl hL (by omega) ?_
  refine Lm.callV (Y := mX7_boundFor) (d' := 5) (v := .inl r) (M1 := (σ', τ)) (c0 := 7) (ci := 7) (nf := 11) [.inl (xs (i + 1))] dL_law_873 rfl wv_RL_109 omX7_boundFor rfl in_7 rfl rfl rfl (Nat.le_of_ble_eq_true rfl) (Nat.le_of_ble_eq_true rfl) (kX7_boundFor (xs (i + 1)) σ τ e1) ?_
  refine Lm.aload_n (x := (32, 0)) 1 dL_law_876 rfl rfl ?_
  refine Lm.arg (k := 1) dL_law_877 dL_law_878 dL_law_879 dL_law_880 dL_law_881 rfl hL (by omega) ?_
  refine Lm.callV (Y := mX8_boundFor) (d' := 4) (v := .inl r) (M1 := (σ', τ')) (c0 := 32) (ci := 8) (nf := 42) [.inl (xs (i + 1))] dL_law_882 rfl wv_RL_112 omX8_boundFor rfl in_32 rfl rfl rfl (Nat.le_of_ble_eq_true rfl) (Nat.le_of_ble_eq_true rfl) (kX8_boundFor (xs (i + 1)) τ σ' e2) ?_
  exact Lm.icmp_eq 1504 dL_law_885 (by decide) (kk σ' τ' hr)
theorem law_base (hL : L ≤ 3072) (hi : i + 6 ≤ L) (h : Rel σ τ) (kk : ∀ σ' τ', Rel σ' τ' → Lm L xs 1504 (lvL i) [] (σ', τ')) : Lm L xs 890 (lvL i) [] (σ, τ) := by
  obtain ⟨r, σ', τ', e1, e2, hr⟩ := m_base h (xs (i + 1)) (xs (i + 2)) (xs (i + 3))
  refine Lm.aload_n (x := (7, 0)) 2 dL_law_890 rfl rfl ?_
  refine Lm.arg (k := 1) dL_law_891 dL_law_892 dL_law_893 dL_law_894 dL_law_895 rfl hL (by omega) ?_
  refine Lm.arg (k := 2) dL_law_896 dL_law_897 dL_law_898 dL_law_899 dL_law_900 rfl hL (by omega) ?_
  refine Lm.arg (k := 3) dL_law_901 dL_law_902 dL_law_903 dL_law_904 dL_law_905 rfl hL (by omega) ?_
  refine Lm.callV (Y := mX7_base) (d' := 1) (v := .inl r) (M1 := (σ', τ)) (c0 := 7) (ci := 7) (nf := 11) [.inl (xs (i + 1)), .inl (xs (i + 2)), .inl (xs (i + 3))] dL_law_906 rfl wv_RL_113 omX7_base rfl in_7 rfl rfl rfl (Nat.le_of_ble_eq_true rfl) (Nat.le_of_ble_eq_true rfl) (kX7_base (xs (i + 1)) (xs (i + 2)) (xs (i + 3)) σ τ e1) ?_
  refine Lm.aload_n (x := (32, 0)) 1 dL_law_909 rfl rfl ?_
  refine Lm.arg (k := 1) dL_law_910 dL_law_911 dL_law_912 dL_law_913 dL_law_914 rfl hL (by omega) ?_
  refine Lm.arg (k := 2) dL_law_915 dL_law_916 dL_law_917 dL_law_918 dL_law_919 rfl hL (by omega) ?_
  refine Lm.arg (k := 3) dL_law_920 dL_law_921 dL_law_922 dL_law_923 dL_law_924 rfl hL (by omega) ?_
  refine Lm.callV (Y := mX8_base) (d' := 2) (v := .inl r) (M1 := (σ', τ')) (c0 := 32) (ci := 8) (nf := 42) [.inl (xs (i + 1)), .inl (xs (i + 2)), .inl (xs (i + 3))] dL_law_925 rfl wv_RL_116 omX8_base rfl in_32 rfl rfl rfl (Nat.le_of_ble_eq_true rfl) (Nat.le_of_ble_eq_true rfl) (kX8_base (xs (i + 1)) (xs (i + 2)) (xs (i + 3)) τ σ' e2) ?_
  exact Lm.icmp_eq 1504 dL_law_928 (by decide) (kk σ' τ' hr)
theorem law_baseOf (hL : L ≤ 3072) (hi : i + 6 ≤ L) (h : Rel σ τ) (kk : ∀ σ' τ', Rel σ' τ' → Lm L xs 1504 (lvL i) [] (σ', τ')) : Lm L xs 933 (lvL i) [] (σ, τ) := by
  obtain ⟨r, σ', τ', e1, e2, hr⟩ := m_baseOf h (xs (i + 1)) (xs (i + 2))
  refine Lm.aload_n (x := (7, 0)) 2 dL_law_933 rfl rfl ?_
  refine Lm.arg (k := 1) dL_law_934 dL_law_935 dL_law_936 dL_law_937 dL_law_938 rfl hL (by omega) ?_
  refine Lm.arg (k := 2) dL_law_939 dL_law_940 dL_law_941 dL_law_942 dL_law_943 rfl hL (by omega) ?_
  refine Lm.callV (Y := mX7_baseOf) (d' := 1) (v := .inl r) (M1 := (σ', τ)) (c0 := 7) (ci := 7) (nf := 11) [.inl (xs (i + 1)), .inl (xs (i + 2))] dL_law_944 rfl wv_RL_117 omX7_baseOf rfl in_7 rfl rfl rfl (Nat.le_of_ble_eq_true rfl) (Nat.le_of_ble_eq_true rfl) (kX7_baseOf (xs (i + 1)) (xs (i + 2)) σ τ e1) ?_
  refine Lm.aload_n (x := (32, 0)) 1 dL_law_947 rfl rfl ?_
  refine Lm.arg (k := 1) dL_law_948 dL_law_949 dL_law_950 dL_law_951 dL_law_952 rfl hL (by omega) ?_
  refine Lm.arg (k := 2) dL_law_953 dL_law_954 dL_law_955 dL_law_956 dL_law_957 rfl hL (by omega) ?_
  refine Lm.callV (Y := mX8_baseOf) (d' := 2) (v := .inl r) (M1 := (σ', τ')) (c0 := 32) (ci := 8) (nf := 42) [.inl (xs (i + 1)), .inl (xs (i + 2))] dL_law_958 rfl wv_RL_120 omX8_baseOf rfl in_32 rfl rfl rfl (Nat.le_of_ble_eq_true rfl) (Nat.le_of_ble_eq_true rfl) (kX8_baseOf (xs (i + 1)) (xs (i + 2)) τ σ' e2) ?_
  exact Lm.icmp_eq 1504 dL_law_961 (by decide) (kk σ' τ' hr)
theorem law_mix (hL : L ≤ 3072) (hi : i + 6 ≤ L) (h : Rel σ τ) (kk : ∀ σ' τ', Rel σ' τ' → Lm L xs 1504 (lvL i) [] (σ', τ')) : Lm L xs 966 (lvL i) [] (σ, τ) := by
  obtain ⟨r, σ', τ', e1, e2, hr⟩ := m_mix h (xs (i + 1)) (xs (i + 2)) (xs (i + 3))
  refine Lm.aload_n (x := (7, 0)) 2 dL_law_966 rfl rfl ?_
  refine Lm.arg (k := 1) dL_law_967 dL_law_968 dL_law_969 dL_law_970 dL_law_971 rfl hL (by omega) ?_
  refine Lm.arg (k := 2) dL_law_972 dL_law_973 dL_law_974 dL_law_975 dL_law_976 rfl hL (by omega) ?_
  refine Lm.arg (k := 3) dL_law_977 dL_law_978 dL_law_979 dL_law_980 dL_law_981 rfl hL (by omega) ?_
  refine Lm.callV (Y := mX7_mix) (d' := 2) (v := .inl r) (M1 := (σ', τ)) (c0 := 7) (ci := 7) (nf := 11) [.inl (xs (i + 1)), .inl (xs (i + 2)), .inl (xs (i + 3))] dL_law_982 rfl wv_RL_121 omX7_mix rfl in_7 rfl rfl rfl (Nat.le_of_ble_eq_true rfl) (Nat.le_of_ble_eq_true rfl) (kX7_mix (xs (i + 1)) (xs (i + 2)) (xs (i + 3)) σ τ e1) ?_
  refine Lm.aload_n (x := (32, 0)) 1 dL_law_985 rfl rfl ?_
  refine Lm.arg (k := 1) dL_law_986 dL_law_987 dL_law_988 dL_law_989 dL_law_990 rfl hL (by omega) ?_
  refine Lm.arg (k := 2) dL_law_991 dL_law_992 dL_law_993 dL_law_994 dL_law_995 rfl hL (by omega) ?_
  refine Lm.arg (k := 3) dL_law_996 dL_law_997 dL_law_998 dL_law_999 dL_law_1000 rfl hL (by omega) ?_
  refine Lm.callV (Y := mX8_mix) (d' := 3) (v := .inl r) (M1 := (σ', τ')) (c0 := 32) (ci := 8) (nf := 42) [.inl (xs (i + 1)), .inl (xs (i + 2)), .inl (xs (i + 3))] dL_law_1001 rfl wv_RL_124 omX8_mix rfl in_32 rfl rfl rfl (Nat.le_of_ble_eq_true rfl) (Nat.le_of_ble_eq_true rfl) (kX8_mix (xs (i + 1)) (xs (i + 2)) (xs (i + 3)) τ σ' e2) ?_
  exact Lm.icmp_eq 1504 dL_law_1004 (by decide) (kk σ' τ' hr)
theorem law_swap (hL : L ≤ 3072) (hi : i + 6 ≤ L) (h : Rel σ τ) (kk : ∀ σ' τ', Rel σ' τ' → Lm L xs 1504 (lvL i) [] (σ', τ')) : Lm L xs 1009 (lvL i) [] (σ, τ) := by
  obtain ⟨r, σ', τ', e1, e2, hr⟩ := m_swap h (xs (i + 1)) (xs (i + 2))
  refine Lm.aload_n (x := (7, 0)) 2 dL_law_1009 rfl rfl ?_
  refine Lm.arg (k := 1) dL_law_1010 dL_law_1011 dL_law_1012 dL_law_1013 dL_law_1014 rfl hL (by omega) ?_
  refine Lm.arg (k := 2) dL_law_1015 dL_law_1016 dL_law_1017 dL_law_1018 dL_law_1019 rfl hL (by omega) ?_
  refine Lm.callV (Y := mX7_swap) (d' := 2) (v := .inl r) (M1 := (σ', τ)) (c0 := 7) (ci := 7) (nf := 11) [.inl (xs (i + 1)), .inl (xs (i + 2))] dL_law_1020 rfl wv_RL_125 omX7_swap rfl in_7 rfl rfl rfl (Nat.le_of_ble_eq_true rfl) (Nat.le_of_ble_eq_true rfl) (kX7_swap (xs (i + 1)) (xs (i + 2)) σ τ e1) ?_
  refine Lm.aload_n (x := (32, 0)) 1 dL_law_1023 rfl rfl ?_
  refine Lm.arg (k := 1) dL_law_1024 dL_law_1025 dL_law_1026 dL_law_1027 dL_law_1028 rfl hL (by omega) ?_
  refine Lm.arg (k := 2) dL_law_1029 dL_law_1030 dL_law_1031 dL_law_1032 dL_law_1033 rfl hL (by omega) ?_
  refine Lm.callV (Y := mX8_swap) (d' := 3) (v := .inl r) (M1 := (σ', τ')) (c0 := 32) (ci := 8) (nf := 42) [.inl (xs (i + 1)), .inl (xs (i + 2))] dL_law_1034 rfl wv_RL_128 omX8_swap rfl in_32 rfl rfl rfl (Nat.le_of_ble_eq_true rfl) (Nat.le_of_ble_eq_true rfl) (kX8_swap (xs (i + 1)) (xs (i + 2)) τ σ' e2) ?_
  exact Lm.icmp_eq 1504 dL_law_1037 (by decide) (kk σ' τ' hr)
theorem law_det (hL : L ≤ 3072) (hi : i + 6 ≤ L) (h : Rel σ τ) (kk : ∀ σ' τ', Rel σ' τ' → Lm L xs 1504 (lvL i) [] (σ', τ')) : Lm L xs 1042 (lvL i) [] (σ, τ) := by
  obtain ⟨r, σ', τ', e1, e2, hr⟩ := m_det h 
  refine Lm.aload_n (x := (7, 0)) 2 dL_law_1042 rfl rfl ?_
  refine Lm.callV (Y := mX7_det) (d' := 3) (v := .inl r) (M1 := (σ', τ)) (c0 := 7) (ci := 7) (nf := 11) [] dL_law_1043 rfl wv_RL_129 omX7_det rfl in_7 rfl rfl rfl (Nat.le_of_ble_eq_true rfl) (Nat.le_of_ble_eq_true rfl) (kX7_det  σ τ e1) ?_
  refine Lm.aload_n (x := (32, 0)) 1 dL_law_1046 rfl rfl ?_
  refine Lm.callV (Y := mX8_det) (d' := 3) (v := .inl r) (M1 := (σ', τ')) (c0 := 32) (ci := 8) (nf := 42) [] dL_law_1047 rfl wv_RL_132 omX8_det rfl in_32 rfl rfl rfl (Nat.le_of_ble_eq_true rfl) (Nat.le_of_ble_eq_true rfl) (kX8_det  τ σ' e2) ?_
  exact Lm.icmp_eq 1504 dL_law_1050 (by decide) (kk σ' τ' hr)
theorem law_form (hL : L ≤ 3072) (hi : i + 6 ≤ L) (h : Rel σ τ) (kk : ∀ σ' τ', Rel σ' τ' → Lm L xs 1504 (lvL i) [] (σ', τ')) : Lm L xs 1055 (lvL i) [] (σ, τ) := by
  obtain ⟨r, σ', τ', e1, e2, hr⟩ := m_form h (xs (i + 1)) (xs (i + 2))
  refine Lm.aload_n (x := (7, 0)) 2 dL_law_1055 rfl rfl ?_
  refine Lm.arg (k := 1) dL_law_1056 dL_law_1057 dL_law_1058 dL_law_1059 dL_law_1060 rfl hL (by omega) ?_
  refine Lm.arg (k := 2) dL_law_1061 dL_law_1062 dL_law_1063 dL_law_1064 dL_law_1065 rfl hL (by omega) ?_
  refine Lm.callV (Y := mX7_form) (d' := 3) (v := .inl r) (M1 := (σ', τ)) (c0 := 7) (ci := 7) (nf := 11) [.inl (xs (i + 1)), .inl (xs (i + 2))] dL_law_1066 rfl wv_RL_133 omX7_form rfl in_7 rfl rfl rfl (Nat.le_of_ble_eq_true rfl) (Nat.le_of_ble_eq_true rfl) (kX7_form (xs (i + 1)) (xs (i + 2)) σ τ e1) ?_
  refine Lm.aload_n (x := (32, 0)) 1 dL_law_1069 rfl rfl ?_
  refine Lm.arg (k := 1) dL_law_1070 dL_law_1071 dL_law_1072 dL_law_1073 dL_law_1074 rfl hL (by omega) ?_
  refine Lm.arg (k := 2) dL_law_1075 dL_law_1076 dL_law_1077 dL_law_1078 dL_law_1079 rfl hL (by omega) ?_
  refine Lm.callV (Y := mX8_form) (d' := 3) (v := .inl r) (M1 := (σ', τ')) (c0 := 32) (ci := 8) (nf := 42) [.inl (xs (i + 1)), .inl (xs (i + 2))] dL_law_1080 rfl wv_RL_136 omX8_form rfl in_32 rfl rfl rfl (Nat.le_of_ble_eq_true rfl) (Nat.le_of_ble_eq_true rfl) (kX8_form (xs (i + 1)) (xs (i + 2)) τ σ' e2) ?_
  exact Lm.icmp_eq 1504 dL_law_1083 (by decide) (kk σ' τ' hr)
theorem law_shortest (hL : L ≤ 3072) (hi : i + 6 ≤ L) (h : Rel σ τ) (kk : ∀ σ' τ', Rel σ' τ' → Lm L xs 1504 (lvL i) [] (σ', τ')) : Lm L xs 1088 (lvL i) [] (σ, τ) := by
  obtain ⟨r, σ', τ', e1, e2, hr⟩ := m_shortest h (xs (i + 1))
  refine Lm.aload_n (x := (7, 0)) 2 dL_law_1088 rfl rfl ?_
  refine Lm.arg (k := 1) dL_law_1089 dL_law_1090 dL_law_1091 dL_law_1092 dL_law_1093 rfl hL (by omega) ?_
  refine Lm.callV (Y := mX7_shortest) (d' := 9) (v := .inl r) (M1 := (σ', τ)) (c0 := 7) (ci := 7) (nf := 11) [.inl (xs (i + 1))] dL_law_1094 rfl wv_RL_137 omX7_shortest rfl in_7 rfl rfl rfl (Nat.le_of_ble_eq_true rfl) (Nat.le_of_ble_eq_true rfl) (kX7_shortest (xs (i + 1)) σ τ e1) ?_
  refine Lm.aload_n (x := (32, 0)) 1 dL_law_1097 rfl rfl ?_
  refine Lm.arg (k := 1) dL_law_1098 dL_law_1099 dL_law_1100 dL_law_1101 dL_law_1102 rfl hL (by omega) ?_
  refine Lm.callV (Y := mX8_shortest) (d' := 3) (v := .inl r) (M1 := (σ', τ')) (c0 := 32) (ci := 8) (nf := 42) [.inl (xs (i + 1))] dL_law_1103 rfl wv_RL_140 omX8_shortest rfl in_32 rfl rfl rfl (Nat.le_of_ble_eq_true rfl) (Nat.le_of_ble_eq_true rfl) (kX8_shortest (xs (i + 1)) τ σ' e2) ?_
  exact Lm.icmp_eq 1504 dL_law_1106 (by decide) (kk σ' τ' hr)
theorem law_common (hL : L ≤ 3072) (hi : i + 6 ≤ L) (h : Rel σ τ) (kk : ∀ σ' τ', Rel σ' τ' → Lm L xs 1504 (lvL i) [] (σ', τ')) : Lm L xs 1111 (lvL i) [] (σ, τ) := by
  obtain ⟨r, σ', τ', e1, e2, hr⟩ := m_common h 
  refine Lm.aload_n (x := (7, 0)) 2 dL_law_1111 rfl rfl ?_
  refine Lm.callV (Y := mX7_common) (d' := 5) (v := .inl r) (M1 := (σ', τ)) (c0 := 7) (ci := 7) (nf := 11) [] dL_law_1112 rfl wv_RL_141 omX7_common rfl in_7 rfl rfl rfl (Nat.le_of_ble_eq_true rfl) (Nat.le_of_ble_eq_true rfl) (kX7_common  σ τ e1) ?_
  refine Lm.aload_n (x := (32, 0)) 1 dL_law_1115 rfl rfl ?_
  refine Lm.callV (Y := mX8_common_) (d' := 4) (v := .inl r) (M1 := (σ', τ')) (c0 := 32) (ci := 8) (nf := 42) [] dL_law_1116 rfl wv_RL_144 omX8_common_ rfl in_32 rfl rfl rfl (Nat.le_of_ble_eq_true rfl) (Nat.le_of_ble_eq_true rfl) (kX8_common_  τ σ' e2) ?_
  exact Lm.icmp_eq 1504 dL_law_1119 (by decide) (kk σ' τ' hr)
theorem law_lies (hL : L ≤ 3072) (hi : i + 6 ≤ L) (h : Rel σ τ) (kk : ∀ σ' τ', Rel σ' τ' → Lm L xs 1504 (lvL i) [] (σ', τ')) : Lm L xs 1124 (lvL i) [] (σ, τ) := by
  obtain ⟨r, σ', τ', e1, e2, hr⟩ := m_lies h (xs (i + 1))
  refine Lm.aload_n (x := (7, 0)) 2 dL_law_1124 rfl rfl ?_
  refine Lm.arg (k := 1) dL_law_1125 dL_law_1126 dL_law_1127 dL_law_1128 dL_law_1129 rfl hL (by omega) ?_
  refine Lm.callV (Y := mX7_lies) (d' := 4) (v := .inl r) (M1 := (σ', τ)) (c0 := 7) (ci := 7) (nf := 11) [.inl (xs (i + 1))] dL_law_1130 rfl wv_RL_145 omX7_lies rfl in_7 rfl rfl rfl (Nat.le_of_ble_eq_true rfl) (Nat.le_of_ble_eq_true rfl) (kX7_lies (xs (i + 1)) σ τ e1) ?_
  refine Lm.aload_n (x := (32, 0)) 1 dL_law_1133 rfl rfl ?_
  refine Lm.arg (k := 1) dL_law_1134 dL_law_1135 dL_law_1136 dL_law_1137 dL_law_1138 rfl hL (by omega) ?_
  refine Lm.callV (Y := mX8_lies) (d' := 3) (v := .inl r) (M1 := (σ', τ')) (c0 := 32) (ci := 8) (nf := 42) [.inl (xs (i + 1))] dL_law_1139 rfl wv_RL_148 omX8_lies rfl in_32 rfl rfl rfl (Nat.le_of_ble_eq_true rfl) (Nat.le_of_ble_eq_true rfl) (kX8_lies (xs (i + 1)) τ σ' e2) ?_
  exact Lm.icmp_eq 1504 dL_law_1142 (by decide) (kk σ' τ' hr)
theorem law_feed (hL : L ≤ 3072) (hi : i + 6 ≤ L) (h : Rel σ τ) (kk : ∀ σ' τ', Rel σ' τ' → Lm L xs 1504 (lvL i) [] (σ', τ')) : Lm L xs 1147 (lvL i) [] (σ, τ) := by
  obtain ⟨r, σ', τ', e1, e2, hr⟩ := m_feed h (xs (i + 1)) (xs (i + 2))
  refine Lm.aload_n (x := (7, 0)) 2 dL_law_1147 rfl rfl ?_
  refine Lm.arg (k := 1) dL_law_1148 dL_law_1149 dL_law_1150 dL_law_1151 dL_law_1152 rfl hL (by omega) ?_
  refine Lm.arg (k := 2) dL_law_1153 dL_law_1154 dL_law_1155 dL_law_1156 dL_law_1157 rfl hL (by omega) ?_
  refine Lm.callV (Y := mX7_feed) (d' := 1) (v := .inl r) (M1 := (σ', τ)) (c0 := 7) (ci := 7) (nf := 11) [.inl (xs (i + 1)), .inl (xs (i + 2))] dL_law_1158 rfl wv_RL_149 omX7_feed rfl in_7 rfl rfl rfl (Nat.le_of_ble_eq_true rfl) (Nat.le_of_ble_eq_true rfl) (kX7_feed (xs (i + 1)) (xs (i + 2)) σ τ e1) ?_
  refine Lm.aload_n (x := (32, 0)) 1 dL_law_1161 rfl rfl ?_
  refine Lm.arg (k := 1) dL_law_1162 dL_law_1163 dL_law_1164 dL_law_1165 dL_law_1166 rfl hL (by omega) ?_
  refine Lm.arg (k := 2) dL_law_1167 dL_law_1168 dL_law_1169 dL_law_1170 dL_law_1171 rfl hL (by omega) ?_
  refine Lm.callV (Y := mX8_feed) (d' := 1) (v := .inl r) (M1 := (σ', τ')) (c0 := 32) (ci := 8) (nf := 42) [.inl (xs (i + 1)), .inl (xs (i + 2))] dL_law_1172 rfl wv_RL_152 omX8_feed rfl in_32 rfl rfl rfl (Nat.le_of_ble_eq_true rfl) (Nat.le_of_ble_eq_true rfl) (kX8_feed (xs (i + 1)) (xs (i + 2)) τ σ' e2) ?_
  exact Lm.icmp_eq 1504 dL_law_1175 (by decide) (kk σ' τ' hr)
theorem law_wipe (hL : L ≤ 3072) (hi : i + 6 ≤ L) (h : Rel σ τ) (kk : ∀ σ' τ', Rel σ' τ' → Lm L xs 1504 (lvL i) [] (σ', τ')) : Lm L xs 1180 (lvL i) [] (σ, τ) := by
  obtain ⟨r, σ', τ', e1, e2, hr⟩ := m_wipe h 
  refine Lm.aload_n (x := (7, 0)) 2 dL_law_1180 rfl rfl ?_
  refine Lm.callV (Y := mX7_wipe) (d' := 0) (v := .inl r) (M1 := (σ', τ)) (c0 := 7) (ci := 7) (nf := 11) [] dL_law_1181 rfl wv_RL_153 omX7_wipe rfl in_7 rfl rfl rfl (Nat.le_of_ble_eq_true rfl) (Nat.le_of_ble_eq_true rfl) (kX7_wipe  σ τ (Option.some.inj e1)) ?_
  refine Lm.aload_n (x := (32, 0)) 1 dL_law_1184 rfl rfl ?_
  refine Lm.callV (Y := mX8_wipe) (d' := 0) (v := .inl r) (M1 := (σ', τ')) (c0 := 32) (ci := 8) (nf := 42) [] dL_law_1185 rfl wv_RL_156 omX8_wipe rfl in_32 rfl rfl rfl (Nat.le_of_ble_eq_true rfl) (Nat.le_of_ble_eq_true rfl) (kX8_wipe  τ σ' (Option.some.inj e2)) ?_
  exact Lm.icmp_eq 1504 dL_law_1188 (by decide) (kk σ' τ' hr)
theorem law_text (hL : L ≤ 3072) (hi : i + 6 ≤ L) (h : Rel σ τ) (kk : ∀ σ' τ', Rel σ' τ' → Lm L xs 1504 (lvL i) [] (σ', τ')) : Lm L xs 1193 (lvL i) [] (σ, τ) := by
  obtain ⟨r, σ', τ', e1, e2, hr⟩ := m_text h 
  refine Lm.aload_n (x := (7, 0)) 2 dL_law_1193 rfl rfl ?_
  refine Lm.callV (Y := mX7_text) (d' := 10) (v := .inl r) (M1 := (σ', τ)) (c0 := 7) (ci := 7) (nf := 11) [] dL_law_1194 rfl wv_RL_157 omX7_text rfl in_7 rfl rfl rfl (Nat.le_of_ble_eq_true rfl) (Nat.le_of_ble_eq_true rfl) (kX7_text  σ τ e1) ?_
  refine Lm.aload_n (x := (32, 0)) 1 dL_law_1197 rfl rfl ?_
  refine Lm.callV (Y := mX8_text) (d' := 7) (v := .inl r) (M1 := (σ', τ')) (c0 := 32) (ci := 8) (nf := 42) [] dL_law_1198 rfl wv_RL_160 omX8_text rfl in_32 rfl rfl rfl (Nat.le_of_ble_eq_true rfl) (Nat.le_of_ble_eq_true rfl) (kX8_text  τ σ' e2) ?_
  exact Lm.icmp_eq 1504 dL_law_1201 (by decide) (kk σ' τ' hr)
theorem law_sheet (hL : L ≤ 3072) (hi : i + 6 ≤ L) (h : Rel σ τ) (kk : ∀ σ' τ', Rel σ' τ' → Lm L xs 1504 (lvL i) [] (σ', τ')) : Lm L xs 1206 (lvL i) [] (σ, τ) := by
  obtain ⟨r, σ', τ', e1, e2, hr⟩ := m_sheet h (xs (i + 1)) (xs (i + 2)) (xs (i + 3))
  refine Lm.aload_n (x := (7, 0)) 2 dL_law_1206 rfl rfl ?_
  refine Lm.arg (k := 1) dL_law_1207 dL_law_1208 dL_law_1209 dL_law_1210 dL_law_1211 rfl hL (by omega) ?_
  refine Lm.arg (k := 2) dL_law_1212 dL_law_1213 dL_law_1214 dL_law_1215 dL_law_1216 rfl hL (by omega) ?_
  refine Lm.arg (k := 3) dL_law_1217 dL_law_1218 dL_law_1219 dL_law_1220 dL_law_1221 rfl hL (by omega) ?_
  refine Lm.callV (Y := mX7_sheet) (d' := 1) (v := .inl r) (M1 := (σ', τ)) (c0 := 7) (ci := 7) (nf := 11) [.inl (xs (i + 1)), .inl (xs (i + 2)), .inl (xs (i + 3))] dL_law_1222 rfl wv_RL_161 omX7_sheet rfl in_7 rfl rfl rfl (Nat.le_of_ble_eq_true rfl) (Nat.le_of_ble_eq_true rfl) (kX7_sheet (xs (i + 1)) (xs (i + 2)) (xs (i + 3)) σ τ e1) ?_
  refine Lm.aload_n (x := (32, 0)) 1 dL_law_1225 rfl rfl ?_
  refine Lm.arg (k := 1) dL_law_1226 dL_law_1227 dL_law_1228 dL_law_1229 dL_law_1230 rfl hL (by omega) ?_
  refine Lm.arg (k := 2) dL_law_1231 dL_law_1232 dL_law_1233 dL_law_1234 dL_law_1235 rfl hL (by omega) ?_
  refine Lm.arg (k := 3) dL_law_1236 dL_law_1237 dL_law_1238 dL_law_1239 dL_law_1240 rfl hL (by omega) ?_
  refine Lm.callV (Y := mX8_sheet) (d' := 2) (v := .inl r) (M1 := (σ', τ')) (c0 := 32) (ci := 8) (nf := 42) [.inl (xs (i + 1)), .inl (xs (i + 2)), .inl (xs (i + 3))] dL_law_1241 rfl wv_RL_164 omX8_sheet rfl in_32 rfl rfl rfl (Nat.le_of_ble_eq_true rfl) (Nat.le_of_ble_eq_true rfl) (kX8_sheet (xs (i + 1)) (xs (i + 2)) (xs (i + 3)) τ σ' e2) ?_
  exact Lm.icmp_eq 1504 dL_law_1244 (by decide) (kk σ' τ' hr)
theorem law_write (hL : L ≤ 3072) (hi : i + 6 ≤ L) (h : Rel σ τ) (kk : ∀ σ' τ', Rel σ' τ' → Lm L xs 1504 (lvL i) [] (σ', τ')) : Lm L xs 1249 (lvL i) [] (σ, τ) := by
  obtain ⟨r, σ', τ', e1, e2, hr⟩ := m_write h (xs (i + 1)) (xs (i + 2)) ((((xs (i + 3)).toInt64 <<< ((32 : Int32).toInt64 &&& 63)) ||| ((xs (i + 4)).toInt64 &&& (4294967295 : Int64))))
  refine Lm.aload_n (x := (7, 0)) 2 dL_law_1249 rfl rfl ?_
  refine Lm.arg (k := 1) dL_law_1250 dL_law_1251 dL_law_1252 dL_law_1253 dL_law_1254 rfl hL (by omega) ?_
  refine Lm.arg (k := 2) dL_law_1255 dL_law_1256 dL_law_1257 dL_law_1258 dL_law_1259 rfl hL (by omega) ?_
  refine Lm.arg (k := 3) dL_law_1260 dL_law_1261 dL_law_1262 dL_law_1263 dL_law_1264 rfl hL (by omega) ?_
  refine Lm.i2l dL_law_1265 rfl ?_
  refine Lm.bipush (v := (32 : Int32)) dL_law_1266 rfl (by decide) ?_
  refine Lm.lshl dL_law_1268 rfl ?_
  refine Lm.arg (k := 4) dL_law_1269 dL_law_1270 dL_law_1271 dL_law_1272 dL_law_1273 rfl hL (by omega) ?_
  refine Lm.i2l dL_law_1274 rfl ?_
  refine Lm.ldc2 (v := (4294967295 : Int64)) dL_law_1275 rfl lq_1624 ?_
  refine Lm.land dL_law_1278 rfl ?_
  refine Lm.lor dL_law_1279 rfl ?_
  refine Lm.callV (Y := mX7_write) (d' := 2) (v := .inr (.inl r)) (M1 := (σ', τ)) (c0 := 7) (ci := 7) (nf := 11) [.inl (xs (i + 1)), .inl (xs (i + 2)), .inr (.inl (((xs (i + 3)).toInt64 <<< ((32 : Int32).toInt64 &&& 63)) ||| ((xs (i + 4)).toInt64 &&& (4294967295 : Int64))))] dL_law_1280 rfl wv_RL_167 omX7_write rfl in_7 rfl rfl rfl (Nat.le_of_ble_eq_true rfl) (Nat.le_of_ble_eq_true rfl) (kX7_write (xs (i + 1)) (xs (i + 2)) ((((xs (i + 3)).toInt64 <<< ((32 : Int32).toInt64 &&& 63)) ||| ((xs (i + 4)).toInt64 &&& (4294967295 : Int64)))) σ τ e1) ?_
  refine Lm.aload_n (x := (32, 0)) 1 dL_law_1283 rfl rfl ?_
  refine Lm.arg (k := 1) dL_law_1284 dL_law_1285 dL_law_1286 dL_law_1287 dL_law_1288 rfl hL (by omega) ?_
  refine Lm.arg (k := 2) dL_law_1289 dL_law_1290 dL_law_1291 dL_law_1292 dL_law_1293 rfl hL (by omega) ?_
  refine Lm.arg (k := 3) dL_law_1294 dL_law_1295 dL_law_1296 dL_law_1297 dL_law_1298 rfl hL (by omega) ?_
  refine Lm.i2l dL_law_1299 rfl ?_
  refine Lm.bipush (v := (32 : Int32)) dL_law_1300 rfl (by decide) ?_
  refine Lm.lshl dL_law_1302 rfl ?_
  refine Lm.arg (k := 4) dL_law_1303 dL_law_1304 dL_law_1305 dL_law_1306 dL_law_1307 rfl hL (by omega) ?_
  refine Lm.i2l dL_law_1308 rfl ?_
  refine Lm.ldc2 (v := (4294967295 : Int64)) dL_law_1309 rfl lq_1624 ?_
  refine Lm.land dL_law_1312 rfl ?_
  refine Lm.lor dL_law_1313 rfl ?_
  refine Lm.callV (Y := mX8_write) (d' := 2) (v := .inr (.inl r)) (M1 := (σ', τ')) (c0 := 32) (ci := 8) (nf := 42) [.inl (xs (i + 1)), .inl (xs (i + 2)), .inr (.inl (((xs (i + 3)).toInt64 <<< ((32 : Int32).toInt64 &&& 63)) ||| ((xs (i + 4)).toInt64 &&& (4294967295 : Int64))))] dL_law_1314 rfl wv_RL_171 omX8_write rfl in_32 rfl rfl rfl (Nat.le_of_ble_eq_true rfl) (Nat.le_of_ble_eq_true rfl) (kX8_write (xs (i + 1)) (xs (i + 2)) ((((xs (i + 3)).toInt64 <<< ((32 : Int32).toInt64 &&& 63)) ||| ((xs (i + 4)).toInt64 &&& (4294967295 : Int64)))) τ σ' e2) ?_
  refine Lm.lcmp dL_law_1317 rfl ?_
  exact Lm.if_eq 1504 dL_law_1318 (by decide) (lg_self r) (kk σ' τ' hr)
theorem law_copy (hL : L ≤ 3072) (hi : i + 6 ≤ L) (h : Rel σ τ) (kk : ∀ σ' τ', Rel σ' τ' → Lm L xs 1504 (lvL i) [] (σ', τ')) : Lm L xs 1323 (lvL i) [] (σ, τ) := by
  obtain ⟨r, σ', τ', e1, e2, hr⟩ := m_copy h (xs (i + 1)) (xs (i + 2)) (xs (i + 3)) (xs (i + 4)) (xs (i + 5))
  refine Lm.aload_n (x := (7, 0)) 2 dL_law_1323 rfl rfl ?_
  refine Lm.arg (k := 1) dL_law_1324 dL_law_1325 dL_law_1326 dL_law_1327 dL_law_1328 rfl hL (by omega) ?_
  refine Lm.arg (k := 2) dL_law_1329 dL_law_1330 dL_law_1331 dL_law_1332 dL_law_1333 rfl hL (by omega) ?_
  refine Lm.arg (k := 3) dL_law_1334 dL_law_1335 dL_law_1336 dL_law_1337 dL_law_1338 rfl hL (by omega) ?_
  refine Lm.arg (k := 4) dL_law_1339 dL_law_1340 dL_law_1341 dL_law_1342 dL_law_1343 rfl hL (by omega) ?_
  refine Lm.arg (k := 5) dL_law_1344 dL_law_1345 dL_law_1346 dL_law_1347 dL_law_1348 rfl hL (by omega) ?_
  refine Lm.callV (Y := mX7_copy) (d' := 1) (v := .inl r) (M1 := (σ', τ)) (c0 := 7) (ci := 7) (nf := 11) [.inl (xs (i + 1)), .inl (xs (i + 2)), .inl (xs (i + 3)), .inl (xs (i + 4)), .inl (xs (i + 5))] dL_law_1349 rfl wv_RL_172 omX7_copy rfl in_7 rfl rfl rfl (Nat.le_of_ble_eq_true rfl) (Nat.le_of_ble_eq_true rfl) (kX7_copy (xs (i + 1)) (xs (i + 2)) (xs (i + 3)) (xs (i + 4)) (xs (i + 5)) σ τ e1) ?_
  refine Lm.aload_n (x := (32, 0)) 1 dL_law_1352 rfl rfl ?_
  refine Lm.arg (k := 1) dL_law_1353 dL_law_1354 dL_law_1355 dL_law_1356 dL_law_1357 rfl hL (by omega) ?_
  refine Lm.arg (k := 2) dL_law_1358 dL_law_1359 dL_law_1360 dL_law_1361 dL_law_1362 rfl hL (by omega) ?_
  refine Lm.arg (k := 3) dL_law_1363 dL_law_1364 dL_law_1365 dL_law_1366 dL_law_1367 rfl hL (by omega) ?_
  refine Lm.arg (k := 4) dL_law_1368 dL_law_1369 dL_law_1370 dL_law_1371 dL_law_1372 rfl hL (by omega) ?_
  refine Lm.arg (k := 5) dL_law_1373 dL_law_1374 dL_law_1375 dL_law_1376 dL_law_1377 rfl hL (by omega) ?_
  refine Lm.callV (Y := mX8_copy) (d' := 2) (v := .inl r) (M1 := (σ', τ')) (c0 := 32) (ci := 8) (nf := 42) [.inl (xs (i + 1)), .inl (xs (i + 2)), .inl (xs (i + 3)), .inl (xs (i + 4)), .inl (xs (i + 5))] dL_law_1378 rfl wv_RL_176 omX8_copy rfl in_32 rfl rfl rfl (Nat.le_of_ble_eq_true rfl) (Nat.le_of_ble_eq_true rfl) (kX8_copy (xs (i + 1)) (xs (i + 2)) (xs (i + 3)) (xs (i + 4)) (xs (i + 5)) τ σ' e2) ?_
  exact Lm.icmp_eq 1504 dL_law_1381 (by decide) (kk σ' τ' hr)
theorem law_lays (hL : L ≤ 3072) (hi : i + 6 ≤ L) (h : Rel σ τ) (kk : ∀ σ' τ', Rel σ' τ' → Lm L xs 1504 (lvL i) [] (σ', τ')) : Lm L xs 1386 (lvL i) [] (σ, τ) := by
  obtain ⟨r, σ', τ', e1, e2, hr⟩ := m_lays h (xs (i + 1)) (xs (i + 2))
  refine Lm.aload_n (x := (7, 0)) 2 dL_law_1386 rfl rfl ?_
  refine Lm.arg (k := 1) dL_law_1387 dL_law_1388 dL_law_1389 dL_law_1390 dL_law_1391 rfl hL (by omega) ?_
  refine Lm.arg (k := 2) dL_law_1392 dL_law_1393 dL_law_1394 dL_law_1395 dL_law_1396 rfl hL (by omega) ?_
  refine Lm.callV (Y := mX7_lays) (d' := 5) (v := .inl r) (M1 := (σ', τ)) (c0 := 7) (ci := 7) (nf := 11) [.inl (xs (i + 1)), .inl (xs (i + 2))] dL_law_1397 rfl wv_RL_177 omX7_lays rfl in_7 rfl rfl rfl (Nat.le_of_ble_eq_true rfl) (Nat.le_of_ble_eq_true rfl) (kX7_lays (xs (i + 1)) (xs (i + 2)) σ τ e1) ?_
  refine Lm.aload_n (x := (32, 0)) 1 dL_law_1400 rfl rfl ?_
  refine Lm.arg (k := 1) dL_law_1401 dL_law_1402 dL_law_1403 dL_law_1404 dL_law_1405 rfl hL (by omega) ?_
  refine Lm.arg (k := 2) dL_law_1406 dL_law_1407 dL_law_1408 dL_law_1409 dL_law_1410 rfl hL (by omega) ?_
  refine Lm.callV (Y := mX8_lays) (d' := 5) (v := .inl r) (M1 := (σ', τ')) (c0 := 32) (ci := 8) (nf := 42) [.inl (xs (i + 1)), .inl (xs (i + 2))] dL_law_1411 rfl wv_RL_180 omX8_lays rfl in_32 rfl rfl rfl (Nat.le_of_ble_eq_true rfl) (Nat.le_of_ble_eq_true rfl) (kX8_lays (xs (i + 1)) (xs (i + 2)) τ σ' e2) ?_
  exact Lm.icmp_eq 1504 dL_law_1414 (by decide) (kk σ' τ' hr)
theorem law_image (hL : L ≤ 3072) (hi : i + 6 ≤ L) (h : Rel σ τ) (kk : ∀ σ' τ', Rel σ' τ' → Lm L xs 1504 (lvL i) [] (σ', τ')) : Lm L xs 1419 (lvL i) [] (σ, τ) := by
  obtain ⟨r, σ', τ', e1, e2, hr⟩ := m_image h 
  refine Lm.aload_n (x := (7, 0)) 2 dL_law_1419 rfl rfl ?_
  refine Lm.callV (Y := mX7_image) (d' := 3) (v := .inl r) (M1 := (σ', τ)) (c0 := 7) (ci := 7) (nf := 11) [] dL_law_1420 rfl wv_RL_181 omX7_image rfl in_7 rfl rfl rfl (Nat.le_of_ble_eq_true rfl) (Nat.le_of_ble_eq_true rfl) (kX7_image  σ τ e1) ?_
  refine Lm.aload_n (x := (32, 0)) 1 dL_law_1423 rfl rfl ?_
  refine Lm.callV (Y := mX8_image) (d' := 1) (v := .inl r) (M1 := (σ', τ')) (c0 := 32) (ci := 8) (nf := 42) [] dL_law_1424 rfl wv_RL_184 omX8_image rfl in_32 rfl rfl rfl (Nat.le_of_ble_eq_true rfl) (Nat.le_of_ble_eq_true rfl) (kX8_image  τ σ' e2) ?_
  exact Lm.icmp_eq 1504 dL_law_1427 (by decide) (kk σ' τ' hr)
theorem law_undo (hL : L ≤ 3072) (hi : i + 6 ≤ L) (h : Rel σ τ) (kk : ∀ σ' τ', Rel σ' τ' → Lm L xs 1504 (lvL i) [] (σ', τ')) : Lm L xs 1432 (lvL i) [] (σ, τ) := by
  obtain ⟨r, σ', τ', e1, e2, hr⟩ := m_undo h 
  refine Lm.aload_n (x := (7, 0)) 2 dL_law_1432 rfl rfl ?_
  refine Lm.callV (Y := mX7_undo) (d' := 3) (v := .inl r) (M1 := (σ', τ)) (c0 := 7) (ci := 7) (nf := 11) [] dL_law_1433 rfl wv_RL_185 omX7_undo rfl in_7 rfl rfl rfl (Nat.le_of_ble_eq_true rfl) (Nat.le_of_ble_eq_true rfl) (kX7_undo  σ τ e1) ?_
  refine Lm.aload_n (x := (32, 0)) 1 dL_law_1436 rfl rfl ?_
  refine Lm.callV (Y := mX8_undo) (d' := 1) (v := .inl r) (M1 := (σ', τ')) (c0 := 32) (ci := 8) (nf := 42) [] dL_law_1437 rfl wv_RL_188 omX8_undo rfl in_32 rfl rfl rfl (Nat.le_of_ble_eq_true rfl) (Nat.le_of_ble_eq_true rfl) (kX8_undo  τ σ' e2) ?_
  exact Lm.icmp_eq 1504 dL_law_1440 (by decide) (kk σ' τ' hr)
theorem law_tear (hL : L ≤ 3072) (hi : i + 6 ≤ L) (h : Rel σ τ) (kk : ∀ σ' τ', Rel σ' τ' → Lm L xs 1504 (lvL i) [] (σ', τ')) : Lm L xs 1445 (lvL i) [] (σ, τ) := by
  obtain ⟨r, σ', τ', e1, e2, hr⟩ := m_tear h 
  refine Lm.aload_n (x := (7, 0)) 2 dL_law_1445 rfl rfl ?_
  refine Lm.callV (Y := mX7_tear) (d' := 0) (v := .inl r) (M1 := (σ', τ)) (c0 := 7) (ci := 7) (nf := 11) [] dL_law_1446 rfl wv_RL_189 omX7_tear rfl in_7 rfl rfl rfl (Nat.le_of_ble_eq_true rfl) (Nat.le_of_ble_eq_true rfl) (kX7_tear  σ τ (Option.some.inj e1)) ?_
  refine Lm.aload_n (x := (32, 0)) 1 dL_law_1449 rfl rfl ?_
  refine Lm.callV (Y := mX8_tear) (d' := 0) (v := .inl r) (M1 := (σ', τ')) (c0 := 32) (ci := 8) (nf := 42) [] dL_law_1450 rfl wv_RL_192 omX8_tear rfl in_32 rfl rfl rfl (Nat.le_of_ble_eq_true rfl) (Nat.le_of_ble_eq_true rfl) (kX8_tear  τ σ' (Option.some.inj e2)) ?_
  exact Lm.icmp_eq 1504 dL_law_1453 (by decide) (kk σ' τ' hr)
theorem law_count (hL : L ≤ 3072) (hi : i + 6 ≤ L) (h : Rel σ τ) (kk : ∀ σ' τ', Rel σ' τ' → Lm L xs 1504 (lvL i) [] (σ', τ')) : Lm L xs 1458 (lvL i) [] (σ, τ) := by
  obtain ⟨r, σ', τ', e1, e2, hr⟩ := m_count h (xs (i + 1))
  refine Lm.aload_n (x := (7, 0)) 2 dL_law_1458 rfl rfl ?_
  refine Lm.arg (k := 1) dL_law_1459 dL_law_1460 dL_law_1461 dL_law_1462 dL_law_1463 rfl hL (by omega) ?_
  refine Lm.callV (Y := mX7_count) (d' := 2) (v := .inl r) (M1 := (σ', τ)) (c0 := 7) (ci := 7) (nf := 11) [.inl (xs (i + 1))] dL_law_1464 rfl wv_RL_193 omX7_count rfl in_7 rfl rfl rfl (Nat.le_of_ble_eq_true rfl) (Nat.le_of_ble_eq_true rfl) (kX7_count (xs (i + 1)) σ τ e1) ?_
  refine Lm.aload_n (x := (32, 0)) 1 dL_law_1467 rfl rfl ?_
  refine Lm.arg (k := 1) dL_law_1468 dL_law_1469 dL_law_1470 dL_law_1471 dL_law_1472 rfl hL (by omega) ?_
  refine Lm.callV (Y := mX8_count) (d' := 1) (v := .inl r) (M1 := (σ', τ')) (c0 := 32) (ci := 8) (nf := 42) [.inl (xs (i + 1))] dL_law_1473 rfl wv_RL_196 omX8_count rfl in_32 rfl rfl rfl (Nat.le_of_ble_eq_true rfl) (Nat.le_of_ble_eq_true rfl) (kX8_count (xs (i + 1)) τ σ' e2) ?_
  exact Lm.icmp_eq 1504 dL_law_1476 (by decide) (kk σ' τ' hr)
theorem law_status (hL : L ≤ 3072) (hi : i + 6 ≤ L) (h : Rel σ τ) (kk : ∀ σ' τ', Rel σ' τ' → Lm L xs 1504 (lvL i) [] (σ', τ')) : Lm L xs 1481 (lvL i) [] (σ, τ) := by
  obtain ⟨r, σ', τ', e1, e2, hr⟩ := m_status h (xs (i + 1))
  refine Lm.aload_n (x := (7, 0)) 2 dL_law_1481 rfl rfl ?_
  refine Lm.arg (k := 1) dL_law_1482 dL_law_1483 dL_law_1484 dL_law_1485 dL_law_1486 rfl hL (by omega) ?_
  refine Lm.callV (Y := mX7_status) (d' := 1) (v := .inl r) (M1 := (σ', τ)) (c0 := 7) (ci := 7) (nf := 11) [.inl (xs (i + 1))] dL_law_1487 rfl wv_RL_197 omX7_status rfl in_7 rfl rfl rfl (Nat.le_of_ble_eq_true rfl) (Nat.le_of_ble_eq_true rfl) (kX7_status (xs (i + 1)) σ τ e1) ?_
  refine Lm.aload_n (x := (32, 0)) 1 dL_law_1490 rfl rfl ?_
  refine Lm.arg (k := 1) dL_law_1491 dL_law_1492 dL_law_1493 dL_law_1494 dL_law_1495 rfl hL (by omega) ?_
  refine Lm.callV (Y := mX8_status) (d' := 1) (v := .inl r) (M1 := (σ', τ')) (c0 := 32) (ci := 8) (nf := 42) [.inl (xs (i + 1))] dL_law_1496 rfl wv_RL_200 omX8_status rfl in_32 rfl rfl rfl (Nat.le_of_ble_eq_true rfl) (Nat.le_of_ble_eq_true rfl) (kX8_status (xs (i + 1)) τ σ' e2) ?_
  exact Lm.icmp_eq 1504 dL_law_1499 (by decide) (kk σ' τ' hr)
end LC
