/-! the law, call by call (printed by wip/gen/g99f.py) -/
set_option maxRecDepth 4000 in
theorem lc_0 {p : Program} {l : Launch} {e : Env} {s : State} {m : MethodId} {below : List Frame} {meth : Method} {c : Code} {b L : Nat} {xs : Nat → Int32} {g : cb_G} {cells slots : Nat} {Q : State → Prop} (C : lw_Cx p s m meth c b L xs g cells slots) {i : Nat} (hi : i + 6 ≤ L) (nx : lw_to p l e s m below meth c b g cells slots Q i 1551) : lw_to p l e s m below meth c b g cells slots Q i 232 := by
  intro σ M H locs ls hI hP hS hl
  obtain ⟨z, hc⟩ := P_terms hI (t32 (xs (i + 1))) (t32 (xs (i + 2)))
  refine lv_aload_n C.1.1 C.1.2.1 dl_232 rfl (lv_at hl 1 rfl) ?_
  refine lw_arg C hS hl (k := 1) (by omega) dl_233 dl_234 dl_235 dl_236 dl_237 ?_
  refine lw_arg C hS hl (k := 2) (by omega) dl_238 dl_239 dl_240 dl_241 dl_242 ?_
  refine lw_callI C (y := Y_CB_terms) (b0 := 0) (as := [vI (xs (i + 1)).toInt, vI (xs (i + 2)).toInt]) (rest := []) (fun _ _ => rfl) (rfl : cb_cl[10]? = some ("CauseBook", cb_T10, 14)) K_CB_terms cw_413 (Nat.le_of_ble_eq_true rfl) (Nat.le_of_ble_eq_true rfl) dl_243 rfl (Nat.le_of_ble_eq_true rfl) hc hP hS hl.1 ?_
  rintro z1 M1 H1 locs1 ⟨e1, hc1⟩ hP1 hS1
  cases vI_inj (Option.some.inj e1)
  refine lv_aload_n C.1.1 C.1.2.1 dl_246 rfl (lv_at hl 2 rfl) ?_
  refine lw_arg C hS1 hl (k := 1) (by omega) dl_247 dl_248 dl_249 dl_250 dl_251 ?_
  refine lw_arg C hS1 hl (k := 2) (by omega) dl_252 dl_253 dl_254 dl_255 dl_256 ?_
  refine lw_callI C (y := Y_RM_terms) (b0 := 141) (as := [vI (xs (i + 1)).toInt, vI (xs (i + 2)).toInt]) (rest := [.int (Int32.ofInt z)]) (fun _ _ => rfl) (rfl : cb_cl[11]? = some ("CauseBookModel", cb_T11, 25)) K_RM_terms cw_1158 (Nat.le_of_ble_eq_true rfl) (Nat.le_of_ble_eq_true rfl) dl_257 rfl (Nat.le_of_ble_eq_true rfl) hc1 hP1 hS1 hl.1 ?_
  rintro z2 M2 H2 locs2 ⟨e2, σ2, hI2⟩ hP2 hS2
  cases vI_inj (Option.some.inj e2)
  exact lv_icmp_eq (tgt := 1551) C.1.1 C.1.2.1 dl_260 (by decide) (fun _ => nx σ2 M2 H2 locs2 ls hI2 hP2 hS2 hl) (fun q => absurd rfl q)
set_option maxRecDepth 4000 in
theorem lc_1 {p : Program} {l : Launch} {e : Env} {s : State} {m : MethodId} {below : List Frame} {meth : Method} {c : Code} {b L : Nat} {xs : Nat → Int32} {g : cb_G} {cells slots : Nat} {Q : State → Prop} (C : lw_Cx p s m meth c b L xs g cells slots) {i : Nat} (hi : i + 6 ≤ L) (nx : lw_to p l e s m below meth c b g cells slots Q i 1551) : lw_to p l e s m below meth c b g cells slots Q i 265 := by
  intro σ M H locs ls hI hP hS hl
  obtain ⟨z, hc⟩ := P_object hI (t32 (xs (i + 1)))
  refine lv_aload_n C.1.1 C.1.2.1 dl_265 rfl (lv_at hl 1 rfl) ?_
  refine lw_arg C hS hl (k := 1) (by omega) dl_266 dl_267 dl_268 dl_269 dl_270 ?_
  refine lw_callI C (y := Y_CB_object) (b0 := 0) (as := [vI (xs (i + 1)).toInt]) (rest := []) (fun _ _ => rfl) (rfl : cb_cl[10]? = some ("CauseBook", cb_T10, 14)) K_CB_object cw_433 (Nat.le_of_ble_eq_true rfl) (Nat.le_of_ble_eq_true rfl) dl_271 rfl (Nat.le_of_ble_eq_true rfl) hc hP hS hl.1 ?_
  rintro z1 M1 H1 locs1 ⟨e1, hc1⟩ hP1 hS1
  cases vI_inj (Option.some.inj e1)
  refine lv_aload_n C.1.1 C.1.2.1 dl_274 rfl (lv_at hl 2 rfl) ?_
  refine lw_arg C hS1 hl (k := 1) (by omega) dl_275 dl_276 dl_277 dl_278 dl_279 ?_
  refine lw_callI C (y := Y_RM_object) (b0 := 141) (as := [vI (xs (i + 1)).toInt]) (rest := [.int (Int32.ofInt z)]) (fun _ _ => rfl) (rfl : cb_cl[11]? = some ("CauseBookModel", cb_T11, 25)) K_RM_object cw_1166 (Nat.le_of_ble_eq_true rfl) (Nat.le_of_ble_eq_true rfl) dl_280 rfl (Nat.le_of_ble_eq_true rfl) hc1 hP1 hS1 hl.1 ?_
  rintro z2 M2 H2 locs2 ⟨e2, σ2, hI2⟩ hP2 hS2
  cases vI_inj (Option.some.inj e2)
  exact lv_icmp_eq (tgt := 1551) C.1.1 C.1.2.1 dl_283 (by decide) (fun _ => nx σ2 M2 H2 locs2 ls hI2 hP2 hS2 hl) (fun q => absurd rfl q)
set_option maxRecDepth 4000 in
theorem lc_2 {p : Program} {l : Launch} {e : Env} {s : State} {m : MethodId} {below : List Frame} {meth : Method} {c : Code} {b L : Nat} {xs : Nat → Int32} {g : cb_G} {cells slots : Nat} {Q : State → Prop} (C : lw_Cx p s m meth c b L xs g cells slots) {i : Nat} (hi : i + 6 ≤ L) (nx : lw_to p l e s m below meth c b g cells slots Q i 1551) : lw_to p l e s m below meth c b g cells slots Q i 288 := by
  intro σ M H locs ls hI hP hS hl
  obtain ⟨z, hc⟩ := P_link hI (t32 (xs (i + 1))) (t32 (xs (i + 2))) (t32 (xs (i + 3)))
  refine lv_aload_n C.1.1 C.1.2.1 dl_288 rfl (lv_at hl 1 rfl) ?_
  refine lw_arg C hS hl (k := 1) (by omega) dl_289 dl_290 dl_291 dl_292 dl_293 ?_
  refine lw_arg C hS hl (k := 2) (by omega) dl_294 dl_295 dl_296 dl_297 dl_298 ?_
  refine lw_arg C hS hl (k := 3) (by omega) dl_299 dl_300 dl_301 dl_302 dl_303 ?_
  refine lw_callI C (y := Y_CB_link) (b0 := 0) (as := [vI (xs (i + 1)).toInt, vI (xs (i + 2)).toInt, vI (xs (i + 3)).toInt]) (rest := []) (fun _ _ => rfl) (rfl : cb_cl[10]? = some ("CauseBook", cb_T10, 14)) K_CB_link cw_477 (Nat.le_of_ble_eq_true rfl) (Nat.le_of_ble_eq_true rfl) dl_304 rfl (Nat.le_of_ble_eq_true rfl) hc hP hS hl.1 ?_
  rintro z1 M1 H1 locs1 ⟨e1, hc1⟩ hP1 hS1
  cases vI_inj (Option.some.inj e1)
  refine lv_aload_n C.1.1 C.1.2.1 dl_307 rfl (lv_at hl 2 rfl) ?_
  refine lw_arg C hS1 hl (k := 1) (by omega) dl_308 dl_309 dl_310 dl_311 dl_312 ?_
  refine lw_arg C hS1 hl (k := 2) (by omega) dl_313 dl_314 dl_315 dl_316 dl_317 ?_
  refine lw_arg C hS1 hl (k := 3) (by omega) dl_318 dl_319 dl_320 dl_321 dl_322 ?_
  refine lw_callI C (y := Y_RM_link) (b0 := 141) (as := [vI (xs (i + 1)).toInt, vI (xs (i + 2)).toInt, vI (xs (i + 3)).toInt]) (rest := [.int (Int32.ofInt z)]) (fun _ _ => rfl) (rfl : cb_cl[11]? = some ("CauseBookModel", cb_T11, 25)) K_RM_link cw_1190 (Nat.le_of_ble_eq_true rfl) (Nat.le_of_ble_eq_true rfl) dl_323 rfl (Nat.le_of_ble_eq_true rfl) hc1 hP1 hS1 hl.1 ?_
  rintro z2 M2 H2 locs2 ⟨e2, σ2, hI2⟩ hP2 hS2
  cases vI_inj (Option.some.inj e2)
  exact lv_icmp_eq (tgt := 1551) C.1.1 C.1.2.1 dl_326 (by decide) (fun _ => nx σ2 M2 H2 locs2 ls hI2 hP2 hS2 hl) (fun q => absurd rfl q)
set_option maxRecDepth 4000 in
theorem lc_3 {p : Program} {l : Launch} {e : Env} {s : State} {m : MethodId} {below : List Frame} {meth : Method} {c : Code} {b L : Nat} {xs : Nat → Int32} {g : cb_G} {cells slots : Nat} {Q : State → Prop} (C : lw_Cx p s m meth c b L xs g cells slots) {i : Nat} (hi : i + 6 ≤ L) (nx : lw_to p l e s m below meth c b g cells slots Q i 1551) : lw_to p l e s m below meth c b g cells slots Q i 331 := by
  intro σ M H locs ls hI hP hS hl
  obtain ⟨z, hc⟩ := P_cut hI (t32 (xs (i + 1)))
  refine lv_aload_n C.1.1 C.1.2.1 dl_331 rfl (lv_at hl 1 rfl) ?_
  refine lw_arg C hS hl (k := 1) (by omega) dl_332 dl_333 dl_334 dl_335 dl_336 ?_
  refine lw_callI C (y := Y_CB_cut) (b0 := 0) (as := [vI (xs (i + 1)).toInt]) (rest := []) (fun _ _ => rfl) (rfl : cb_cl[10]? = some ("CauseBook", cb_T10, 14)) K_CB_cut cw_493 (Nat.le_of_ble_eq_true rfl) (Nat.le_of_ble_eq_true rfl) dl_337 rfl (Nat.le_of_ble_eq_true rfl) hc hP hS hl.1 ?_
  rintro z1 M1 H1 locs1 ⟨e1, hc1⟩ hP1 hS1
  cases vI_inj (Option.some.inj e1)
  refine lv_aload_n C.1.1 C.1.2.1 dl_340 rfl (lv_at hl 2 rfl) ?_
  refine lw_arg C hS1 hl (k := 1) (by omega) dl_341 dl_342 dl_343 dl_344 dl_345 ?_
  refine lw_callI C (y := Y_RM_cut) (b0 := 141) (as := [vI (xs (i + 1)).toInt]) (rest := [.int (Int32.ofInt z)]) (fun _ _ => rfl) (rfl : cb_cl[11]? = some ("CauseBookModel", cb_T11, 25)) K_RM_cut cw_1203 (Nat.le_of_ble_eq_true rfl) (Nat.le_of_ble_eq_true rfl) dl_346 rfl (Nat.le_of_ble_eq_true rfl) hc1 hP1 hS1 hl.1 ?_
  rintro z2 M2 H2 locs2 ⟨e2, σ2, hI2⟩ hP2 hS2
  cases vI_inj (Option.some.inj e2)
  exact lv_icmp_eq (tgt := 1551) C.1.1 C.1.2.1 dl_349 (by decide) (fun _ => nx σ2 M2 H2 locs2 ls hI2 hP2 hS2 hl) (fun q => absurd rfl q)
set_option maxRecDepth 4000 in
theorem lc_4 {p : Program} {l : Launch} {e : Env} {s : State} {m : MethodId} {below : List Frame} {meth : Method} {c : Code} {b L : Nat} {xs : Nat → Int32} {g : cb_G} {cells slots : Nat} {Q : State → Prop} (C : lw_Cx p s m meth c b L xs g cells slots) {i : Nat} (hi : i + 6 ≤ L) (nx : lw_to p l e s m below meth c b g cells slots Q i 1551) : lw_to p l e s m below meth c b g cells slots Q i 354 := by
  intro σ M H locs ls hI hP hS hl
  obtain ⟨z, hc⟩ := P_rule hI (t32 (xs (i + 1))) (t32 (xs (i + 2))) (t32 (xs (i + 3))) (t32 (xs (i + 4))) (t32 (xs (i + 5)))
  refine lv_aload_n C.1.1 C.1.2.1 dl_354 rfl (lv_at hl 1 rfl) ?_
  refine lw_arg C hS hl (k := 1) (by omega) dl_355 dl_356 dl_357 dl_358 dl_359 ?_
  refine lw_arg C hS hl (k := 2) (by omega) dl_360 dl_361 dl_362 dl_363 dl_364 ?_
  refine lw_arg C hS hl (k := 3) (by omega) dl_365 dl_366 dl_367 dl_368 dl_369 ?_
  refine lw_arg C hS hl (k := 4) (by omega) dl_370 dl_371 dl_372 dl_373 dl_374 ?_
  refine lw_arg C hS hl (k := 5) (by omega) dl_375 dl_376 dl_377 dl_378 dl_379 ?_
  refine lw_callI C (y := Y_CB_rule) (b0 := 0) (as := [vI (xs (i + 1)).toInt, vI (xs (i + 2)).toInt, vI (xs (i + 3)).toInt, vI (xs (i + 4)).toInt, vI (xs (i + 5)).toInt]) (rest := []) (fun _ _ => rfl) (rfl : cb_cl[10]? = some ("CauseBook", cb_T10, 14)) K_CB_rule cw_501 (Nat.le_of_ble_eq_true rfl) (Nat.le_of_ble_eq_true rfl) dl_380 rfl (Nat.le_of_ble_eq_true rfl) hc hP hS hl.1 ?_
  rintro z1 M1 H1 locs1 ⟨e1, hc1⟩ hP1 hS1
  cases vI_inj (Option.some.inj e1)
  refine lv_aload_n C.1.1 C.1.2.1 dl_383 rfl (lv_at hl 2 rfl) ?_
  refine lw_arg C hS1 hl (k := 1) (by omega) dl_384 dl_385 dl_386 dl_387 dl_388 ?_
  refine lw_arg C hS1 hl (k := 2) (by omega) dl_389 dl_390 dl_391 dl_392 dl_393 ?_
  refine lw_arg C hS1 hl (k := 3) (by omega) dl_394 dl_395 dl_396 dl_397 dl_398 ?_
  refine lw_arg C hS1 hl (k := 4) (by omega) dl_399 dl_400 dl_401 dl_402 dl_403 ?_
  refine lw_arg C hS1 hl (k := 5) (by omega) dl_404 dl_405 dl_406 dl_407 dl_408 ?_
  refine lw_callI C (y := Y_RM_rule) (b0 := 141) (as := [vI (xs (i + 1)).toInt, vI (xs (i + 2)).toInt, vI (xs (i + 3)).toInt, vI (xs (i + 4)).toInt, vI (xs (i + 5)).toInt]) (rest := [.int (Int32.ofInt z)]) (fun _ _ => rfl) (rfl : cb_cl[11]? = some ("CauseBookModel", cb_T11, 25)) K_RM_rule cw_1207 (Nat.le_of_ble_eq_true rfl) (Nat.le_of_ble_eq_true rfl) dl_409 rfl (Nat.le_of_ble_eq_true rfl) hc1 hP1 hS1 hl.1 ?_
  rintro z2 M2 H2 locs2 ⟨e2, σ2, hI2⟩ hP2 hS2
  cases vI_inj (Option.some.inj e2)
  exact lv_icmp_eq (tgt := 1551) C.1.1 C.1.2.1 dl_412 (by decide) (fun _ => nx σ2 M2 H2 locs2 ls hI2 hP2 hS2 hl) (fun q => absurd rfl q)
set_option maxRecDepth 4000 in
theorem lc_5 {p : Program} {l : Launch} {e : Env} {s : State} {m : MethodId} {below : List Frame} {meth : Method} {c : Code} {b L : Nat} {xs : Nat → Int32} {g : cb_G} {cells slots : Nat} {Q : State → Prop} (C : lw_Cx p s m meth c b L xs g cells slots) {i : Nat} (hi : i + 6 ≤ L) (nx : lw_to p l e s m below meth c b g cells slots Q i 1551) : lw_to p l e s m below meth c b g cells slots Q i 417 := by
  intro σ M H locs ls hI hP hS hl
  obtain ⟨z, hc⟩ := P_drop hI (t32 (xs (i + 1)))
  refine lv_aload_n C.1.1 C.1.2.1 dl_417 rfl (lv_at hl 1 rfl) ?_
  refine lw_arg C hS hl (k := 1) (by omega) dl_418 dl_419 dl_420 dl_421 dl_422 ?_
  refine lw_callI C (y := Y_CB_drop) (b0 := 0) (as := [vI (xs (i + 1)).toInt]) (rest := []) (fun _ _ => rfl) (rfl : cb_cl[10]? = some ("CauseBook", cb_T10, 14)) K_CB_drop cw_509 (Nat.le_of_ble_eq_true rfl) (Nat.le_of_ble_eq_true rfl) dl_423 rfl (Nat.le_of_ble_eq_true rfl) hc hP hS hl.1 ?_
  rintro z1 M1 H1 locs1 ⟨e1, hc1⟩ hP1 hS1
  cases vI_inj (Option.some.inj e1)
  refine lv_aload_n C.1.1 C.1.2.1 dl_426 rfl (lv_at hl 2 rfl) ?_
  refine lw_arg C hS1 hl (k := 1) (by omega) dl_427 dl_428 dl_429 dl_430 dl_431 ?_
  refine lw_callI C (y := Y_RM_drop) (b0 := 141) (as := [vI (xs (i + 1)).toInt]) (rest := [.int (Int32.ofInt z)]) (fun _ _ => rfl) (rfl : cb_cl[11]? = some ("CauseBookModel", cb_T11, 25)) K_RM_drop cw_1213 (Nat.le_of_ble_eq_true rfl) (Nat.le_of_ble_eq_true rfl) dl_432 rfl (Nat.le_of_ble_eq_true rfl) hc1 hP1 hS1 hl.1 ?_
  rintro z2 M2 H2 locs2 ⟨e2, σ2, hI2⟩ hP2 hS2
  cases vI_inj (Option.some.inj e2)
  exact lv_icmp_eq (tgt := 1551) C.1.1 C.1.2.1 dl_435 (by decide) (fun _ => nx σ2 M2 H2 locs2 ls hI2 hP2 hS2 hl) (fun q => absurd rfl q)
set_option maxRecDepth 4000 in
theorem lc_6 {p : Program} {l : Launch} {e : Env} {s : State} {m : MethodId} {below : List Frame} {meth : Method} {c : Code} {b L : Nat} {xs : Nat → Int32} {g : cb_G} {cells slots : Nat} {Q : State → Prop} (C : lw_Cx p s m meth c b L xs g cells slots) {i : Nat} (hi : i + 6 ≤ L) (nx : lw_to p l e s m below meth c b g cells slots Q i 1551) : lw_to p l e s m below meth c b g cells slots Q i 440 := by
  intro σ M H locs ls hI hP hS hl
  obtain ⟨z, hc⟩ := P_cause hI (t32 (xs (i + 1))) (t32 (xs (i + 2))) (t32 (xs (i + 3)))
  refine lv_aload_n C.1.1 C.1.2.1 dl_440 rfl (lv_at hl 1 rfl) ?_
  refine lw_arg C hS hl (k := 1) (by omega) dl_441 dl_442 dl_443 dl_444 dl_445 ?_
  refine lw_arg C hS hl (k := 2) (by omega) dl_446 dl_447 dl_448 dl_449 dl_450 ?_
  refine lw_arg C hS hl (k := 3) (by omega) dl_451 dl_452 dl_453 dl_454 dl_455 ?_
  refine lw_callI C (y := Y_CB_cause) (b0 := 0) (as := [vI (xs (i + 1)).toInt, vI (xs (i + 2)).toInt, vI (xs (i + 3)).toInt]) (rest := []) (fun _ _ => rfl) (rfl : cb_cl[10]? = some ("CauseBook", cb_T10, 14)) K_CB_cause cw_517 (Nat.le_of_ble_eq_true rfl) (Nat.le_of_ble_eq_true rfl) dl_456 rfl (Nat.le_of_ble_eq_true rfl) hc hP hS hl.1 ?_
  rintro z1 M1 H1 locs1 ⟨e1, hc1⟩ hP1 hS1
  cases vI_inj (Option.some.inj e1)
  refine lv_aload_n C.1.1 C.1.2.1 dl_459 rfl (lv_at hl 2 rfl) ?_
  refine lw_arg C hS1 hl (k := 1) (by omega) dl_460 dl_461 dl_462 dl_463 dl_464 ?_
  refine lw_arg C hS1 hl (k := 2) (by omega) dl_465 dl_466 dl_467 dl_468 dl_469 ?_
  refine lw_arg C hS1 hl (k := 3) (by omega) dl_470 dl_471 dl_472 dl_473 dl_474 ?_
  refine lw_callI C (y := Y_RM_cause) (b0 := 141) (as := [vI (xs (i + 1)).toInt, vI (xs (i + 2)).toInt, vI (xs (i + 3)).toInt]) (rest := [.int (Int32.ofInt z)]) (fun _ _ => rfl) (rfl : cb_cl[11]? = some ("CauseBookModel", cb_T11, 25)) K_RM_cause cw_1217 (Nat.le_of_ble_eq_true rfl) (Nat.le_of_ble_eq_true rfl) dl_475 rfl (Nat.le_of_ble_eq_true rfl) hc1 hP1 hS1 hl.1 ?_
  rintro z2 M2 H2 locs2 ⟨e2, σ2, hI2⟩ hP2 hS2
  cases vI_inj (Option.some.inj e2)
  exact lv_icmp_eq (tgt := 1551) C.1.1 C.1.2.1 dl_478 (by decide) (fun _ => nx σ2 M2 H2 locs2 ls hI2 hP2 hS2 hl) (fun q => absurd rfl q)
set_option maxRecDepth 4000 in
theorem lc_7 {p : Program} {l : Launch} {e : Env} {s : State} {m : MethodId} {below : List Frame} {meth : Method} {c : Code} {b L : Nat} {xs : Nat → Int32} {g : cb_G} {cells slots : Nat} {Q : State → Prop} (C : lw_Cx p s m meth c b L xs g cells slots) {i : Nat} (hi : i + 6 ≤ L) (nx : lw_to p l e s m below meth c b g cells slots Q i 1551) : lw_to p l e s m below meth c b g cells slots Q i 483 := by
  intro σ M H locs ls hI hP hS hl
  obtain ⟨z, hc⟩ := P_sign hI (t32 (xs (i + 1))) (t32 (xs (i + 2)))
  refine lv_aload_n C.1.1 C.1.2.1 dl_483 rfl (lv_at hl 1 rfl) ?_
  refine lw_arg C hS hl (k := 1) (by omega) dl_484 dl_485 dl_486 dl_487 dl_488 ?_
  refine lw_arg C hS hl (k := 2) (by omega) dl_489 dl_490 dl_491 dl_492 dl_493 ?_
  refine lw_callI C (y := Y_CB_sign) (b0 := 0) (as := [vI (xs (i + 1)).toInt, vI (xs (i + 2)).toInt]) (rest := []) (fun _ _ => rfl) (rfl : cb_cl[10]? = some ("CauseBook", cb_T10, 14)) K_CB_sign cw_525 (Nat.le_of_ble_eq_true rfl) (Nat.le_of_ble_eq_true rfl) dl_494 rfl (Nat.le_of_ble_eq_true rfl) hc hP hS hl.1 ?_
  rintro z1 M1 H1 locs1 ⟨e1, hc1⟩ hP1 hS1
  cases vI_inj (Option.some.inj e1)
  refine lv_aload_n C.1.1 C.1.2.1 dl_497 rfl (lv_at hl 2 rfl) ?_
  refine lw_arg C hS1 hl (k := 1) (by omega) dl_498 dl_499 dl_500 dl_501 dl_502 ?_
  refine lw_arg C hS1 hl (k := 2) (by omega) dl_503 dl_504 dl_505 dl_506 dl_507 ?_
  refine lw_callI C (y := Y_RM_sign) (b0 := 141) (as := [vI (xs (i + 1)).toInt, vI (xs (i + 2)).toInt]) (rest := [.int (Int32.ofInt z)]) (fun _ _ => rfl) (rfl : cb_cl[11]? = some ("CauseBookModel", cb_T11, 25)) K_RM_sign cw_1229 (Nat.le_of_ble_eq_true rfl) (Nat.le_of_ble_eq_true rfl) dl_508 rfl (Nat.le_of_ble_eq_true rfl) hc1 hP1 hS1 hl.1 ?_
  rintro z2 M2 H2 locs2 ⟨e2, σ2, hI2⟩ hP2 hS2
  cases vI_inj (Option.some.inj e2)
  exact lv_icmp_eq (tgt := 1551) C.1.1 C.1.2.1 dl_511 (by decide) (fun _ => nx σ2 M2 H2 locs2 ls hI2 hP2 hS2 hl) (fun q => absurd rfl q)
set_option maxRecDepth 4000 in
theorem lc_8 {p : Program} {l : Launch} {e : Env} {s : State} {m : MethodId} {below : List Frame} {meth : Method} {c : Code} {b L : Nat} {xs : Nat → Int32} {g : cb_G} {cells slots : Nat} {Q : State → Prop} (C : lw_Cx p s m meth c b L xs g cells slots) {i : Nat} (hi : i + 6 ≤ L) (nx : lw_to p l e s m below meth c b g cells slots Q i 1551) : lw_to p l e s m below meth c b g cells slots Q i 516 := by
  intro σ M H locs ls hI hP hS hl
  obtain ⟨z, hc⟩ := P_reduce hI (t32 (xs (i + 1)))
  refine lv_aload_n C.1.1 C.1.2.1 dl_516 rfl (lv_at hl 1 rfl) ?_
  refine lw_arg C hS hl (k := 1) (by omega) dl_517 dl_518 dl_519 dl_520 dl_521 ?_
  refine lw_callI C (y := Y_CB_reduce) (b0 := 0) (as := [vI (xs (i + 1)).toInt]) (rest := []) (fun _ _ => rfl) (rfl : cb_cl[10]? = some ("CauseBook", cb_T10, 14)) K_CB_reduce cw_529 (Nat.le_of_ble_eq_true rfl) (Nat.le_of_ble_eq_true rfl) dl_522 rfl (Nat.le_of_ble_eq_true rfl) hc hP hS hl.1 ?_
  rintro z1 M1 H1 locs1 ⟨e1, hc1⟩ hP1 hS1
  cases vI_inj (Option.some.inj e1)
  refine lv_aload_n C.1.1 C.1.2.1 dl_525 rfl (lv_at hl 2 rfl) ?_
  refine lw_arg C hS1 hl (k := 1) (by omega) dl_526 dl_527 dl_528 dl_529 dl_530 ?_
  refine lw_callI C (y := Y_RM_reduce) (b0 := 141) (as := [vI (xs (i + 1)).toInt]) (rest := [.int (Int32.ofInt z)]) (fun _ _ => rfl) (rfl : cb_cl[11]? = some ("CauseBookModel", cb_T11, 25)) K_RM_reduce cw_1341 (Nat.le_of_ble_eq_true rfl) (Nat.le_of_ble_eq_true rfl) dl_531 rfl (Nat.le_of_ble_eq_true rfl) hc1 hP1 hS1 hl.1 ?_
  rintro z2 M2 H2 locs2 ⟨e2, σ2, hI2⟩ hP2 hS2
  cases vI_inj (Option.some.inj e2)
  exact lv_icmp_eq (tgt := 1551) C.1.1 C.1.2.1 dl_534 (by decide) (fun _ => nx σ2 M2 H2 locs2 ls hI2 hP2 hS2 hl) (fun q => absurd rfl q)
set_option maxRecDepth 4000 in
theorem lc_9 {p : Program} {l : Launch} {e : Env} {s : State} {m : MethodId} {below : List Frame} {meth : Method} {c : Code} {b L : Nat} {xs : Nat → Int32} {g : cb_G} {cells slots : Nat} {Q : State → Prop} (C : lw_Cx p s m meth c b L xs g cells slots) {i : Nat} (hi : i + 6 ≤ L) (nx : lw_to p l e s m below meth c b g cells slots Q i 1551) : lw_to p l e s m below meth c b g cells slots Q i 539 := by
  intro σ M H locs ls hI hP hS hl
  obtain ⟨z, hc⟩ := P_book hI (t32 (xs (i + 1)))
  refine lv_aload_n C.1.1 C.1.2.1 dl_539 rfl (lv_at hl 1 rfl) ?_
  refine lw_arg C hS hl (k := 1) (by omega) dl_540 dl_541 dl_542 dl_543 dl_544 ?_
  refine lw_callI C (y := Y_CB_book) (b0 := 0) (as := [vI (xs (i + 1)).toInt]) (rest := []) (fun _ _ => rfl) (rfl : cb_cl[10]? = some ("CauseBook", cb_T10, 14)) K_CB_book cw_631 (Nat.le_of_ble_eq_true rfl) (Nat.le_of_ble_eq_true rfl) dl_545 rfl (Nat.le_of_ble_eq_true rfl) hc hP hS hl.1 ?_
  rintro z1 M1 H1 locs1 ⟨e1, hc1⟩ hP1 hS1
  cases vI_inj (Option.some.inj e1)
  refine lv_aload_n C.1.1 C.1.2.1 dl_548 rfl (lv_at hl 2 rfl) ?_
  refine lw_arg C hS1 hl (k := 1) (by omega) dl_549 dl_550 dl_551 dl_552 dl_553 ?_
  refine lw_callI C (y := Y_RM_book) (b0 := 141) (as := [vI (xs (i + 1)).toInt]) (rest := [.int (Int32.ofInt z)]) (fun _ _ => rfl) (rfl : cb_cl[11]? = some ("CauseBookModel", cb_T11, 25)) K_RM_book cw_1233 (Nat.le_of_ble_eq_true rfl) (Nat.le_of_ble_eq_true rfl) dl_554 rfl (Nat.le_of_ble_eq_true rfl) hc1 hP1 hS1 hl.1 ?_
  rintro z2 M2 H2 locs2 ⟨e2, σ2, hI2⟩ hP2 hS2
  cases vI_inj (Option.some.inj e2)
  exact lv_icmp_eq (tgt := 1551) C.1.1 C.1.2.1 dl_557 (by decide) (fun _ => nx σ2 M2 H2 locs2 ls hI2 hP2 hS2 hl) (fun q => absurd rfl q)
set_option maxRecDepth 4000 in
theorem lc_10 {p : Program} {l : Launch} {e : Env} {s : State} {m : MethodId} {below : List Frame} {meth : Method} {c : Code} {b L : Nat} {xs : Nat → Int32} {g : cb_G} {cells slots : Nat} {Q : State → Prop} (C : lw_Cx p s m meth c b L xs g cells slots) {i : Nat} (hi : i + 6 ≤ L) (nx : lw_to p l e s m below meth c b g cells slots Q i 1551) : lw_to p l e s m below meth c b g cells slots Q i 562 := by
  intro σ M H locs ls hI hP hS hl
  obtain ⟨z, hc⟩ := P_see hI (t32 (xs (i + 1)))
  refine lv_aload_n C.1.1 C.1.2.1 dl_562 rfl (lv_at hl 1 rfl) ?_
  refine lw_arg C hS hl (k := 1) (by omega) dl_563 dl_564 dl_565 dl_566 dl_567 ?_
  refine lw_callI C (y := Y_CB_see) (b0 := 0) (as := [vI (xs (i + 1)).toInt]) (rest := []) (fun _ _ => rfl) (rfl : cb_cl[10]? = some ("CauseBook", cb_T10, 14)) K_CB_see cw_635 (Nat.le_of_ble_eq_true rfl) (Nat.le_of_ble_eq_true rfl) dl_568 rfl (Nat.le_of_ble_eq_true rfl) hc hP hS hl.1 ?_
  rintro z1 M1 H1 locs1 ⟨e1, hc1⟩ hP1 hS1
  cases vI_inj (Option.some.inj e1)
  refine lv_aload_n C.1.1 C.1.2.1 dl_571 rfl (lv_at hl 2 rfl) ?_
  refine lw_arg C hS1 hl (k := 1) (by omega) dl_572 dl_573 dl_574 dl_575 dl_576 ?_
  refine lw_callI C (y := Y_RM_see) (b0 := 141) (as := [vI (xs (i + 1)).toInt]) (rest := [.int (Int32.ofInt z)]) (fun _ _ => rfl) (rfl : cb_cl[11]? = some ("CauseBookModel", cb_T11, 25)) K_RM_see cw_1244 (Nat.le_of_ble_eq_true rfl) (Nat.le_of_ble_eq_true rfl) dl_577 rfl (Nat.le_of_ble_eq_true rfl) hc1 hP1 hS1 hl.1 ?_
  rintro z2 M2 H2 locs2 ⟨e2, σ2, hI2⟩ hP2 hS2
  cases vI_inj (Option.some.inj e2)
  exact lv_icmp_eq (tgt := 1551) C.1.1 C.1.2.1 dl_580 (by decide) (fun _ => nx σ2 M2 H2 locs2 ls hI2 hP2 hS2 hl) (fun q => absurd rfl q)
set_option maxRecDepth 4000 in
theorem lc_11 {p : Program} {l : Launch} {e : Env} {s : State} {m : MethodId} {below : List Frame} {meth : Method} {c : Code} {b L : Nat} {xs : Nat → Int32} {g : cb_G} {cells slots : Nat} {Q : State → Prop} (C : lw_Cx p s m meth c b L xs g cells slots) {i : Nat} (hi : i + 6 ≤ L) (nx : lw_to p l e s m below meth c b g cells slots Q i 1551) : lw_to p l e s m below meth c b g cells slots Q i 585 := by
  intro σ M H locs ls hI hP hS hl
  obtain ⟨z, hc⟩ := P_note hI (t32 (xs (i + 1))) (t32 (xs (i + 2)))
  refine lv_aload_n C.1.1 C.1.2.1 dl_585 rfl (lv_at hl 1 rfl) ?_
  refine lw_arg C hS hl (k := 1) (by omega) dl_586 dl_587 dl_588 dl_589 dl_590 ?_
  refine lw_arg C hS hl (k := 2) (by omega) dl_591 dl_592 dl_593 dl_594 dl_595 ?_
  refine lw_callI C (y := Y_CB_note) (b0 := 0) (as := [vI (xs (i + 1)).toInt, vI (xs (i + 2)).toInt]) (rest := []) (fun _ _ => rfl) (rfl : cb_cl[10]? = some ("CauseBook", cb_T10, 14)) K_CB_note cw_639 (Nat.le_of_ble_eq_true rfl) (Nat.le_of_ble_eq_true rfl) dl_596 rfl (Nat.le_of_ble_eq_true rfl) hc hP hS hl.1 ?_
  rintro z1 M1 H1 locs1 ⟨e1, hc1⟩ hP1 hS1
  cases vI_inj (Option.some.inj e1)
  refine lv_aload_n C.1.1 C.1.2.1 dl_599 rfl (lv_at hl 2 rfl) ?_
  refine lw_arg C hS1 hl (k := 1) (by omega) dl_600 dl_601 dl_602 dl_603 dl_604 ?_
  refine lw_arg C hS1 hl (k := 2) (by omega) dl_605 dl_606 dl_607 dl_608 dl_609 ?_
  refine lw_callI C (y := Y_RM_note) (b0 := 141) (as := [vI (xs (i + 1)).toInt, vI (xs (i + 2)).toInt]) (rest := [.int (Int32.ofInt z)]) (fun _ _ => rfl) (rfl : cb_cl[11]? = some ("CauseBookModel", cb_T11, 25)) K_RM_note cw_1248 (Nat.le_of_ble_eq_true rfl) (Nat.le_of_ble_eq_true rfl) dl_610 rfl (Nat.le_of_ble_eq_true rfl) hc1 hP1 hS1 hl.1 ?_
  rintro z2 M2 H2 locs2 ⟨e2, σ2, hI2⟩ hP2 hS2
  cases vI_inj (Option.some.inj e2)
  exact lv_icmp_eq (tgt := 1551) C.1.1 C.1.2.1 dl_613 (by decide) (fun _ => nx σ2 M2 H2 locs2 ls hI2 hP2 hS2 hl) (fun q => absurd rfl q)
set_option maxRecDepth 4000 in
theorem lc_12 {p : Program} {l : Launch} {e : Env} {s : State} {m : MethodId} {below : List Frame} {meth : Method} {c : Code} {b L : Nat} {xs : Nat → Int32} {g : cb_G} {cells slots : Nat} {Q : State → Prop} (C : lw_Cx p s m meth c b L xs g cells slots) {i : Nat} (hi : i + 6 ≤ L) (nx : lw_to p l e s m below meth c b g cells slots Q i 1551) : lw_to p l e s m below meth c b g cells slots Q i 618 := by
  intro σ M H locs ls hI hP hS hl
  obtain ⟨z, hc⟩ := P_clear hI
  refine lv_aload_n C.1.1 C.1.2.1 dl_618 rfl (lv_at hl 1 rfl) ?_
  refine lw_callI C (y := Y_CB_clear) (b0 := 0) (as := []) (rest := []) (fun _ _ => rfl) (rfl : cb_cl[10]? = some ("CauseBook", cb_T10, 14)) K_CB_clear cw_647 (Nat.le_of_ble_eq_true rfl) (Nat.le_of_ble_eq_true rfl) dl_619 rfl (Nat.le_of_ble_eq_true rfl) hc hP hS hl.1 ?_
  rintro z1 M1 H1 locs1 ⟨e1, hc1⟩ hP1 hS1
  cases vI_inj (Option.some.inj e1)
  refine lv_aload_n C.1.1 C.1.2.1 dl_622 rfl (lv_at hl 2 rfl) ?_
  refine lw_callI C (y := Y_RM_clear) (b0 := 141) (as := []) (rest := [.int (Int32.ofInt z)]) (fun _ _ => rfl) (rfl : cb_cl[11]? = some ("CauseBookModel", cb_T11, 25)) K_RM_clear cw_1253 (Nat.le_of_ble_eq_true rfl) (Nat.le_of_ble_eq_true rfl) dl_623 rfl (Nat.le_of_ble_eq_true rfl) hc1 hP1 hS1 hl.1 ?_
  rintro z2 M2 H2 locs2 ⟨e2, σ2, hI2⟩ hP2 hS2
  cases vI_inj (Option.some.inj e2)
  exact lv_icmp_eq (tgt := 1551) C.1.1 C.1.2.1 dl_626 (by decide) (fun _ => nx σ2 M2 H2 locs2 ls hI2 hP2 hS2 hl) (fun q => absurd rfl q)
set_option maxRecDepth 4000 in
theorem lc_13 {p : Program} {l : Launch} {e : Env} {s : State} {m : MethodId} {below : List Frame} {meth : Method} {c : Code} {b L : Nat} {xs : Nat → Int32} {g : cb_G} {cells slots : Nat} {Q : State → Prop} (C : lw_Cx p s m meth c b L xs g cells slots) {i : Nat} (hi : i + 6 ≤ L) (nx : lw_to p l e s m below meth c b g cells slots Q i 1551) : lw_to p l e s m below meth c b g cells slots Q i 631 := by
  intro σ M H locs ls hI hP hS hl
  obtain ⟨z, hc⟩ := P_window hI (t32 (xs (i + 1))) (t32 (xs (i + 2)))
  refine lv_aload_n C.1.1 C.1.2.1 dl_631 rfl (lv_at hl 1 rfl) ?_
  refine lw_arg C hS hl (k := 1) (by omega) dl_632 dl_633 dl_634 dl_635 dl_636 ?_
  refine lw_arg C hS hl (k := 2) (by omega) dl_637 dl_638 dl_639 dl_640 dl_641 ?_
  refine lw_callI C (y := Y_CB_window) (b0 := 0) (as := [vI (xs (i + 1)).toInt, vI (xs (i + 2)).toInt]) (rest := []) (fun _ _ => rfl) (rfl : cb_cl[10]? = some ("CauseBook", cb_T10, 14)) K_CB_window cw_651 (Nat.le_of_ble_eq_true rfl) (Nat.le_of_ble_eq_true rfl) dl_642 rfl (Nat.le_of_ble_eq_true rfl) hc hP hS hl.1 ?_
  rintro z1 M1 H1 locs1 ⟨e1, hc1⟩ hP1 hS1
  cases vI_inj (Option.some.inj e1)
  refine lv_aload_n C.1.1 C.1.2.1 dl_645 rfl (lv_at hl 2 rfl) ?_
  refine lw_arg C hS1 hl (k := 1) (by omega) dl_646 dl_647 dl_648 dl_649 dl_650 ?_
  refine lw_arg C hS1 hl (k := 2) (by omega) dl_651 dl_652 dl_653 dl_654 dl_655 ?_
  refine lw_callI C (y := Y_RM_window) (b0 := 141) (as := [vI (xs (i + 1)).toInt, vI (xs (i + 2)).toInt]) (rest := [.int (Int32.ofInt z)]) (fun _ _ => rfl) (rfl : cb_cl[11]? = some ("CauseBookModel", cb_T11, 25)) K_RM_window cw_1257 (Nat.le_of_ble_eq_true rfl) (Nat.le_of_ble_eq_true rfl) dl_656 rfl (Nat.le_of_ble_eq_true rfl) hc1 hP1 hS1 hl.1 ?_
  rintro z2 M2 H2 locs2 ⟨e2, σ2, hI2⟩ hP2 hS2
  cases vI_inj (Option.some.inj e2)
  exact lv_icmp_eq (tgt := 1551) C.1.1 C.1.2.1 dl_659 (by decide) (fun _ => nx σ2 M2 H2 locs2 ls hI2 hP2 hS2 hl) (fun q => absurd rfl q)
set_option maxRecDepth 4000 in
theorem lc_14 {p : Program} {l : Launch} {e : Env} {s : State} {m : MethodId} {below : List Frame} {meth : Method} {c : Code} {b L : Nat} {xs : Nat → Int32} {g : cb_G} {cells slots : Nat} {Q : State → Prop} (C : lw_Cx p s m meth c b L xs g cells slots) {i : Nat} (hi : i + 6 ≤ L) (nx : lw_to p l e s m below meth c b g cells slots Q i 1551) : lw_to p l e s m below meth c b g cells slots Q i 664 := by
  intro σ M H locs ls hI hP hS hl
  obtain ⟨z, hc⟩ := P_undo hI
  refine lv_aload_n C.1.1 C.1.2.1 dl_664 rfl (lv_at hl 1 rfl) ?_
  refine lw_callI C (y := Y_CB_undo) (b0 := 0) (as := []) (rest := []) (fun _ _ => rfl) (rfl : cb_cl[10]? = some ("CauseBook", cb_T10, 14)) K_CB_undo cw_662 (Nat.le_of_ble_eq_true rfl) (Nat.le_of_ble_eq_true rfl) dl_665 rfl (Nat.le_of_ble_eq_true rfl) hc hP hS hl.1 ?_
  rintro z1 M1 H1 locs1 ⟨e1, hc1⟩ hP1 hS1
  cases vI_inj (Option.some.inj e1)
  refine lv_aload_n C.1.1 C.1.2.1 dl_668 rfl (lv_at hl 2 rfl) ?_
  refine lw_callI C (y := Y_RM_undo) (b0 := 141) (as := []) (rest := [.int (Int32.ofInt z)]) (fun _ _ => rfl) (rfl : cb_cl[11]? = some ("CauseBookModel", cb_T11, 25)) K_RM_undo cw_1132 (Nat.le_of_ble_eq_true rfl) (Nat.le_of_ble_eq_true rfl) dl_669 rfl (Nat.le_of_ble_eq_true rfl) hc1 hP1 hS1 hl.1 ?_
  rintro z2 M2 H2 locs2 ⟨e2, σ2, hI2⟩ hP2 hS2
  cases vI_inj (Option.some.inj e2)
  exact lv_icmp_eq (tgt := 1551) C.1.1 C.1.2.1 dl_672 (by decide) (fun _ => nx σ2 M2 H2 locs2 ls hI2 hP2 hS2 hl) (fun q => absurd rfl q)
set_option maxRecDepth 4000 in
theorem lc_15 {p : Program} {l : Launch} {e : Env} {s : State} {m : MethodId} {below : List Frame} {meth : Method} {c : Code} {b L : Nat} {xs : Nat → Int32} {g : cb_G} {cells slots : Nat} {Q : State → Prop} (C : lw_Cx p s m meth c b L xs g cells slots) {i : Nat} (hi : i + 6 ≤ L) (nx : lw_to p l e s m below meth c b g cells slots Q i 1551) : lw_to p l e s m below meth c b g cells slots Q i 677 := by
  intro σ M H locs ls hI hP hS hl
  obtain ⟨z, hc⟩ := P_image hI (t32 (xs (i + 1)))
  refine lv_aload_n C.1.1 C.1.2.1 dl_677 rfl (lv_at hl 1 rfl) ?_
  refine lw_arg C hS hl (k := 1) (by omega) dl_678 dl_679 dl_680 dl_681 dl_682 ?_
  refine lw_callI C (y := Y_CB_image) (b0 := 0) (as := [vI (xs (i + 1)).toInt]) (rest := []) (fun _ _ => rfl) (rfl : cb_cl[10]? = some ("CauseBook", cb_T10, 14)) K_CB_image cw_670 (Nat.le_of_ble_eq_true rfl) (Nat.le_of_ble_eq_true rfl) dl_683 rfl (Nat.le_of_ble_eq_true rfl) hc hP hS hl.1 ?_
  rintro z1 M1 H1 locs1 ⟨e1, hc1⟩ hP1 hS1
  cases vI_inj (Option.some.inj e1)
  refine lv_aload_n C.1.1 C.1.2.1 dl_686 rfl (lv_at hl 2 rfl) ?_
  refine lw_arg C hS1 hl (k := 1) (by omega) dl_687 dl_688 dl_689 dl_690 dl_691 ?_
  refine lw_callI C (y := Y_RM_image) (b0 := 141) (as := [vI (xs (i + 1)).toInt]) (rest := [.int (Int32.ofInt z)]) (fun _ _ => rfl) (rfl : cb_cl[11]? = some ("CauseBookModel", cb_T11, 25)) K_RM_image cw_1147 (Nat.le_of_ble_eq_true rfl) (Nat.le_of_ble_eq_true rfl) dl_692 rfl (Nat.le_of_ble_eq_true rfl) hc1 hP1 hS1 hl.1 ?_
  rintro z2 M2 H2 locs2 ⟨e2, σ2, hI2⟩ hP2 hS2
  cases vI_inj (Option.some.inj e2)
  exact lv_icmp_eq (tgt := 1551) C.1.1 C.1.2.1 dl_695 (by decide) (fun _ => nx σ2 M2 H2 locs2 ls hI2 hP2 hS2 hl) (fun q => absurd rfl q)
set_option maxRecDepth 4000 in
theorem lc_16 {p : Program} {l : Launch} {e : Env} {s : State} {m : MethodId} {below : List Frame} {meth : Method} {c : Code} {b L : Nat} {xs : Nat → Int32} {g : cb_G} {cells slots : Nat} {Q : State → Prop} (C : lw_Cx p s m meth c b L xs g cells slots) {i : Nat} (hi : i + 6 ≤ L) (nx : lw_to p l e s m below meth c b g cells slots Q i 1551) : lw_to p l e s m below meth c b g cells slots Q i 700 := by
  intro σ M H locs ls hI hP hS hl
  obtain ⟨z, hc⟩ := P_back hI (t32 (xs (i + 1)))
  refine lv_aload_n C.1.1 C.1.2.1 dl_700 rfl (lv_at hl 1 rfl) ?_
  refine lw_arg C hS hl (k := 1) (by omega) dl_701 dl_702 dl_703 dl_704 dl_705 ?_
  refine lw_callI C (y := Y_CB_back) (b0 := 0) (as := [vI (xs (i + 1)).toInt]) (rest := []) (fun _ _ => rfl) (rfl : cb_cl[10]? = some ("CauseBook", cb_T10, 14)) K_CB_back cw_675 (Nat.le_of_ble_eq_true rfl) (Nat.le_of_ble_eq_true rfl) dl_706 rfl (Nat.le_of_ble_eq_true rfl) hc hP hS hl.1 ?_
  rintro z1 M1 H1 locs1 ⟨e1, hc1⟩ hP1 hS1
  cases vI_inj (Option.some.inj e1)
  refine lv_aload_n C.1.1 C.1.2.1 dl_709 rfl (lv_at hl 2 rfl) ?_
  refine lw_arg C hS1 hl (k := 1) (by omega) dl_710 dl_711 dl_712 dl_713 dl_714 ?_
  refine lw_callI C (y := Y_RM_back) (b0 := 141) (as := [vI (xs (i + 1)).toInt]) (rest := [.int (Int32.ofInt z)]) (fun _ _ => rfl) (rfl : cb_cl[11]? = some ("CauseBookModel", cb_T11, 25)) K_RM_back cw_1154 (Nat.le_of_ble_eq_true rfl) (Nat.le_of_ble_eq_true rfl) dl_715 rfl (Nat.le_of_ble_eq_true rfl) hc1 hP1 hS1 hl.1 ?_
  rintro z2 M2 H2 locs2 ⟨e2, σ2, hI2⟩ hP2 hS2
  cases vI_inj (Option.some.inj e2)
  exact lv_icmp_eq (tgt := 1551) C.1.1 C.1.2.1 dl_718 (by decide) (fun _ => nx σ2 M2 H2 locs2 ls hI2 hP2 hS2 hl) (fun q => absurd rfl q)
set_option maxRecDepth 4000 in
theorem lc_17 {p : Program} {l : Launch} {e : Env} {s : State} {m : MethodId} {below : List Frame} {meth : Method} {c : Code} {b L : Nat} {xs : Nat → Int32} {g : cb_G} {cells slots : Nat} {Q : State → Prop} (C : lw_Cx p s m meth c b L xs g cells slots) {i : Nat} (hi : i + 6 ≤ L) (nx : lw_to p l e s m below meth c b g cells slots Q i 1551) : lw_to p l e s m below meth c b g cells slots Q i 723 := by
  intro σ M H locs ls hI hP hS hl
  obtain ⟨z, hc⟩ := P_time hI (t32 (xs (i + 1))) (t32 (xs (i + 2))) (t32 (xs (i + 3)))
  refine lv_aload_n C.1.1 C.1.2.1 dl_723 rfl (lv_at hl 1 rfl) ?_
  refine lw_arg C hS hl (k := 1) (by omega) dl_724 dl_725 dl_726 dl_727 dl_728 ?_
  refine lw_arg C hS hl (k := 2) (by omega) dl_729 dl_730 dl_731 dl_732 dl_733 ?_
  refine lw_arg C hS hl (k := 3) (by omega) dl_734 dl_735 dl_736 dl_737 dl_738 ?_
  refine lw_callI C (y := Y_CB_time) (b0 := 0) (as := [vI (xs (i + 1)).toInt, vI (xs (i + 2)).toInt, vI (xs (i + 3)).toInt]) (rest := []) (fun _ _ => rfl) (rfl : cb_cl[10]? = some ("CauseBook", cb_T10, 14)) K_CB_time cw_679 (Nat.le_of_ble_eq_true rfl) (Nat.le_of_ble_eq_true rfl) dl_739 rfl (Nat.le_of_ble_eq_true rfl) hc hP hS hl.1 ?_
  rintro z1 M1 H1 locs1 ⟨e1, hc1⟩ hP1 hS1
  cases vI_inj (Option.some.inj e1)
  refine lv_aload_n C.1.1 C.1.2.1 dl_742 rfl (lv_at hl 2 rfl) ?_
  refine lw_arg C hS1 hl (k := 1) (by omega) dl_743 dl_744 dl_745 dl_746 dl_747 ?_
  refine lw_arg C hS1 hl (k := 2) (by omega) dl_748 dl_749 dl_750 dl_751 dl_752 ?_
  refine lw_arg C hS1 hl (k := 3) (by omega) dl_753 dl_754 dl_755 dl_756 dl_757 ?_
  refine lw_callI C (y := Y_RM_time) (b0 := 141) (as := [vI (xs (i + 1)).toInt, vI (xs (i + 2)).toInt, vI (xs (i + 3)).toInt]) (rest := [.int (Int32.ofInt z)]) (fun _ _ => rfl) (rfl : cb_cl[11]? = some ("CauseBookModel", cb_T11, 25)) K_RM_time cw_1265 (Nat.le_of_ble_eq_true rfl) (Nat.le_of_ble_eq_true rfl) dl_758 rfl (Nat.le_of_ble_eq_true rfl) hc1 hP1 hS1 hl.1 ?_
  rintro z2 M2 H2 locs2 ⟨e2, σ2, hI2⟩ hP2 hS2
  cases vI_inj (Option.some.inj e2)
  exact lv_icmp_eq (tgt := 1551) C.1.1 C.1.2.1 dl_761 (by decide) (fun _ => nx σ2 M2 H2 locs2 ls hI2 hP2 hS2 hl) (fun q => absurd rfl q)
set_option maxRecDepth 4000 in
theorem lc_18 {p : Program} {l : Launch} {e : Env} {s : State} {m : MethodId} {below : List Frame} {meth : Method} {c : Code} {b L : Nat} {xs : Nat → Int32} {g : cb_G} {cells slots : Nat} {Q : State → Prop} (C : lw_Cx p s m meth c b L xs g cells slots) {i : Nat} (hi : i + 6 ≤ L) (nx : lw_to p l e s m below meth c b g cells slots Q i 1551) : lw_to p l e s m below meth c b g cells slots Q i 766 := by
  intro σ M H locs ls hI hP hS hl
  obtain ⟨z, hc⟩ := P_spread hI (t32 (xs (i + 1))) (t32 (xs (i + 2)))
  refine lv_aload_n C.1.1 C.1.2.1 dl_766 rfl (lv_at hl 1 rfl) ?_
  refine lw_arg C hS hl (k := 1) (by omega) dl_767 dl_768 dl_769 dl_770 dl_771 ?_
  refine lw_arg C hS hl (k := 2) (by omega) dl_772 dl_773 dl_774 dl_775 dl_776 ?_
  refine lw_callI C (y := Y_CB_spread) (b0 := 0) (as := [vI (xs (i + 1)).toInt, vI (xs (i + 2)).toInt]) (rest := []) (fun _ _ => rfl) (rfl : cb_cl[10]? = some ("CauseBook", cb_T10, 14)) K_CB_spread cw_691 (Nat.le_of_ble_eq_true rfl) (Nat.le_of_ble_eq_true rfl) dl_777 rfl (Nat.le_of_ble_eq_true rfl) hc hP hS hl.1 ?_
  rintro z1 M1 H1 locs1 ⟨e1, hc1⟩ hP1 hS1
  cases vI_inj (Option.some.inj e1)
  refine lv_aload_n C.1.1 C.1.2.1 dl_780 rfl (lv_at hl 2 rfl) ?_
  refine lw_arg C hS1 hl (k := 1) (by omega) dl_781 dl_782 dl_783 dl_784 dl_785 ?_
  refine lw_arg C hS1 hl (k := 2) (by omega) dl_786 dl_787 dl_788 dl_789 dl_790 ?_
  refine lw_callI C (y := Y_RM_spread) (b0 := 141) (as := [vI (xs (i + 1)).toInt, vI (xs (i + 2)).toInt]) (rest := [.int (Int32.ofInt z)]) (fun _ _ => rfl) (rfl : cb_cl[11]? = some ("CauseBookModel", cb_T11, 25)) K_RM_spread cw_1297 (Nat.le_of_ble_eq_true rfl) (Nat.le_of_ble_eq_true rfl) dl_791 rfl (Nat.le_of_ble_eq_true rfl) hc1 hP1 hS1 hl.1 ?_
  rintro z2 M2 H2 locs2 ⟨e2, σ2, hI2⟩ hP2 hS2
  cases vI_inj (Option.some.inj e2)
  exact lv_icmp_eq (tgt := 1551) C.1.1 C.1.2.1 dl_794 (by decide) (fun _ => nx σ2 M2 H2 locs2 ls hI2 hP2 hS2 hl) (fun q => absurd rfl q)
set_option maxRecDepth 4000 in
theorem lc_19 {p : Program} {l : Launch} {e : Env} {s : State} {m : MethodId} {below : List Frame} {meth : Method} {c : Code} {b L : Nat} {xs : Nat → Int32} {g : cb_G} {cells slots : Nat} {Q : State → Prop} (C : lw_Cx p s m meth c b L xs g cells slots) {i : Nat} (hi : i + 6 ≤ L) (nx : lw_to p l e s m below meth c b g cells slots Q i 1551) : lw_to p l e s m below meth c b g cells slots Q i 799 := by
  intro σ M H locs ls hI hP hS hl
  obtain ⟨z, hc⟩ := P_code hI (t32 (xs (i + 1)))
  refine lv_aload_n C.1.1 C.1.2.1 dl_799 rfl (lv_at hl 1 rfl) ?_
  refine lw_arg C hS hl (k := 1) (by omega) dl_800 dl_801 dl_802 dl_803 dl_804 ?_
  refine lw_callI C (y := Y_CB_code) (b0 := 0) (as := [vI (xs (i + 1)).toInt]) (rest := []) (fun _ _ => rfl) (rfl : cb_cl[10]? = some ("CauseBook", cb_T10, 14)) K_CB_code cw_711 (Nat.le_of_ble_eq_true rfl) (Nat.le_of_ble_eq_true rfl) dl_805 rfl (Nat.le_of_ble_eq_true rfl) hc hP hS hl.1 ?_
  rintro z1 M1 H1 locs1 ⟨e1, hc1⟩ hP1 hS1
  cases vI_inj (Option.some.inj e1)
  refine lv_aload_n C.1.1 C.1.2.1 dl_808 rfl (lv_at hl 2 rfl) ?_
  refine lw_arg C hS1 hl (k := 1) (by omega) dl_809 dl_810 dl_811 dl_812 dl_813 ?_
  refine lw_callI C (y := Y_RM_code) (b0 := 141) (as := [vI (xs (i + 1)).toInt]) (rest := [.int (Int32.ofInt z)]) (fun _ _ => rfl) (rfl : cb_cl[11]? = some ("CauseBookModel", cb_T11, 25)) K_RM_code cw_1305 (Nat.le_of_ble_eq_true rfl) (Nat.le_of_ble_eq_true rfl) dl_814 rfl (Nat.le_of_ble_eq_true rfl) hc1 hP1 hS1 hl.1 ?_
  rintro z2 M2 H2 locs2 ⟨e2, σ2, hI2⟩ hP2 hS2
  cases vI_inj (Option.some.inj e2)
  exact lv_icmp_eq (tgt := 1551) C.1.1 C.1.2.1 dl_817 (by decide) (fun _ => nx σ2 M2 H2 locs2 ls hI2 hP2 hS2 hl) (fun q => absurd rfl q)
set_option maxRecDepth 4000 in
theorem lc_20 {p : Program} {l : Launch} {e : Env} {s : State} {m : MethodId} {below : List Frame} {meth : Method} {c : Code} {b L : Nat} {xs : Nat → Int32} {g : cb_G} {cells slots : Nat} {Q : State → Prop} (C : lw_Cx p s m meth c b L xs g cells slots) {i : Nat} (hi : i + 6 ≤ L) (nx : lw_to p l e s m below meth c b g cells slots Q i 1551) : lw_to p l e s m below meth c b g cells slots Q i 822 := by
  intro σ M H locs ls hI hP hS hl
  obtain ⟨z, hc⟩ := P_distance hI (t32 (xs (i + 1))) (t32 (xs (i + 2))) (t32 (xs (i + 3)))
  refine lv_aload_n C.1.1 C.1.2.1 dl_822 rfl (lv_at hl 1 rfl) ?_
  refine lw_arg C hS hl (k := 1) (by omega) dl_823 dl_824 dl_825 dl_826 dl_827 ?_
  refine lw_arg C hS hl (k := 2) (by omega) dl_828 dl_829 dl_830 dl_831 dl_832 ?_
  refine lw_arg C hS hl (k := 3) (by omega) dl_833 dl_834 dl_835 dl_836 dl_837 ?_
  refine lw_callI C (y := Y_CB_distance) (b0 := 0) (as := [vI (xs (i + 1)).toInt, vI (xs (i + 2)).toInt, vI (xs (i + 3)).toInt]) (rest := []) (fun _ _ => rfl) (rfl : cb_cl[10]? = some ("CauseBook", cb_T10, 14)) K_CB_distance cw_716 (Nat.le_of_ble_eq_true rfl) (Nat.le_of_ble_eq_true rfl) dl_838 rfl (Nat.le_of_ble_eq_true rfl) hc hP hS hl.1 ?_
  rintro z1 M1 H1 locs1 ⟨e1, hc1⟩ hP1 hS1
  cases vI_inj (Option.some.inj e1)
  refine lv_aload_n C.1.1 C.1.2.1 dl_841 rfl (lv_at hl 2 rfl) ?_
  refine lw_arg C hS1 hl (k := 1) (by omega) dl_842 dl_843 dl_844 dl_845 dl_846 ?_
  refine lw_arg C hS1 hl (k := 2) (by omega) dl_847 dl_848 dl_849 dl_850 dl_851 ?_
  refine lw_arg C hS1 hl (k := 3) (by omega) dl_852 dl_853 dl_854 dl_855 dl_856 ?_
  refine lw_callI C (y := Y_RM_distance) (b0 := 141) (as := [vI (xs (i + 1)).toInt, vI (xs (i + 2)).toInt, vI (xs (i + 3)).toInt]) (rest := [.int (Int32.ofInt z)]) (fun _ _ => rfl) (rfl : cb_cl[11]? = some ("CauseBookModel", cb_T11, 25)) K_RM_distance cw_1321 (Nat.le_of_ble_eq_true rfl) (Nat.le_of_ble_eq_true rfl) dl_857 rfl (Nat.le_of_ble_eq_true rfl) hc1 hP1 hS1 hl.1 ?_
  rintro z2 M2 H2 locs2 ⟨e2, σ2, hI2⟩ hP2 hS2
  cases vI_inj (Option.some.inj e2)
  exact lv_icmp_eq (tgt := 1551) C.1.1 C.1.2.1 dl_860 (by decide) (fun _ => nx σ2 M2 H2 locs2 ls hI2 hP2 hS2 hl) (fun q => absurd rfl q)
set_option maxRecDepth 4000 in
theorem lc_21 {p : Program} {l : Launch} {e : Env} {s : State} {m : MethodId} {below : List Frame} {meth : Method} {c : Code} {b L : Nat} {xs : Nat → Int32} {g : cb_G} {cells slots : Nat} {Q : State → Prop} (C : lw_Cx p s m meth c b L xs g cells slots) {i : Nat} (hi : i + 6 ≤ L) (nx : lw_to p l e s m below meth c b g cells slots Q i 1551) : lw_to p l e s m below meth c b g cells slots Q i 865 := by
  intro σ M H locs ls hI hP hS hl
  obtain ⟨z, hc⟩ := P_nearest hI (t32 (xs (i + 1)))
  refine lv_aload_n C.1.1 C.1.2.1 dl_865 rfl (lv_at hl 1 rfl) ?_
  refine lw_arg C hS hl (k := 1) (by omega) dl_866 dl_867 dl_868 dl_869 dl_870 ?_
  refine lw_callI C (y := Y_CB_nearest) (b0 := 0) (as := [vI (xs (i + 1)).toInt]) (rest := []) (fun _ _ => rfl) (rfl : cb_cl[10]? = some ("CauseBook", cb_T10, 14)) K_CB_nearest cw_724 (Nat.le_of_ble_eq_true rfl) (Nat.le_of_ble_eq_true rfl) dl_871 rfl (Nat.le_of_ble_eq_true rfl) hc hP hS hl.1 ?_
  rintro z1 M1 H1 locs1 ⟨e1, hc1⟩ hP1 hS1
  cases vI_inj (Option.some.inj e1)
  refine lv_aload_n C.1.1 C.1.2.1 dl_874 rfl (lv_at hl 2 rfl) ?_
  refine lw_arg C hS1 hl (k := 1) (by omega) dl_875 dl_876 dl_877 dl_878 dl_879 ?_
  refine lw_callI C (y := Y_RM_nearest) (b0 := 141) (as := [vI (xs (i + 1)).toInt]) (rest := [.int (Int32.ofInt z)]) (fun _ _ => rfl) (rfl : cb_cl[11]? = some ("CauseBookModel", cb_T11, 25)) K_RM_nearest cw_1358 (Nat.le_of_ble_eq_true rfl) (Nat.le_of_ble_eq_true rfl) dl_880 rfl (Nat.le_of_ble_eq_true rfl) hc1 hP1 hS1 hl.1 ?_
  rintro z2 M2 H2 locs2 ⟨e2, σ2, hI2⟩ hP2 hS2
  cases vI_inj (Option.some.inj e2)
  exact lv_icmp_eq (tgt := 1551) C.1.1 C.1.2.1 dl_883 (by decide) (fun _ => nx σ2 M2 H2 locs2 ls hI2 hP2 hS2 hl) (fun q => absurd rfl q)
set_option maxRecDepth 4000 in
theorem lc_22 {p : Program} {l : Launch} {e : Env} {s : State} {m : MethodId} {below : List Frame} {meth : Method} {c : Code} {b L : Nat} {xs : Nat → Int32} {g : cb_G} {cells slots : Nat} {Q : State → Prop} (C : lw_Cx p s m meth c b L xs g cells slots) {i : Nat} (hi : i + 6 ≤ L) (nx : lw_to p l e s m below meth c b g cells slots Q i 1551) : lw_to p l e s m below meth c b g cells slots Q i 888 := by
  intro σ M H locs ls hI hP hS hl
  obtain ⟨z, hc⟩ := P_joint hI (t32 (xs (i + 1))) (t32 (xs (i + 2)))
  refine lv_aload_n C.1.1 C.1.2.1 dl_888 rfl (lv_at hl 1 rfl) ?_
  refine lw_arg C hS hl (k := 1) (by omega) dl_889 dl_890 dl_891 dl_892 dl_893 ?_
  refine lw_arg C hS hl (k := 2) (by omega) dl_894 dl_895 dl_896 dl_897 dl_898 ?_
  refine lw_callI C (y := Y_CB_joint) (b0 := 0) (as := [vI (xs (i + 1)).toInt, vI (xs (i + 2)).toInt]) (rest := []) (fun _ _ => rfl) (rfl : cb_cl[10]? = some ("CauseBook", cb_T10, 14)) K_CB_joint cw_748 (Nat.le_of_ble_eq_true rfl) (Nat.le_of_ble_eq_true rfl) dl_899 rfl (Nat.le_of_ble_eq_true rfl) hc hP hS hl.1 ?_
  rintro z1 M1 H1 locs1 ⟨e1, hc1⟩ hP1 hS1
  cases vI_inj (Option.some.inj e1)
  refine lv_aload_n C.1.1 C.1.2.1 dl_902 rfl (lv_at hl 2 rfl) ?_
  refine lw_arg C hS1 hl (k := 1) (by omega) dl_903 dl_904 dl_905 dl_906 dl_907 ?_
  refine lw_arg C hS1 hl (k := 2) (by omega) dl_908 dl_909 dl_910 dl_911 dl_912 ?_
  refine lw_callI C (y := Y_RM_joint) (b0 := 141) (as := [vI (xs (i + 1)).toInt, vI (xs (i + 2)).toInt]) (rest := [.int (Int32.ofInt z)]) (fun _ _ => rfl) (rfl : cb_cl[11]? = some ("CauseBookModel", cb_T11, 25)) K_RM_joint cw_1369 (Nat.le_of_ble_eq_true rfl) (Nat.le_of_ble_eq_true rfl) dl_913 rfl (Nat.le_of_ble_eq_true rfl) hc1 hP1 hS1 hl.1 ?_
  rintro z2 M2 H2 locs2 ⟨e2, σ2, hI2⟩ hP2 hS2
  cases vI_inj (Option.some.inj e2)
  exact lv_icmp_eq (tgt := 1551) C.1.1 C.1.2.1 dl_916 (by decide) (fun _ => nx σ2 M2 H2 locs2 ls hI2 hP2 hS2 hl) (fun q => absurd rfl q)
set_option maxRecDepth 4000 in
theorem lc_23 {p : Program} {l : Launch} {e : Env} {s : State} {m : MethodId} {below : List Frame} {meth : Method} {c : Code} {b L : Nat} {xs : Nat → Int32} {g : cb_G} {cells slots : Nat} {Q : State → Prop} (C : lw_Cx p s m meth c b L xs g cells slots) {i : Nat} (hi : i + 6 ≤ L) (nx : lw_to p l e s m below meth c b g cells slots Q i 1551) : lw_to p l e s m below meth c b g cells slots Q i 921 := by
  intro σ M H locs ls hI hP hS hl
  obtain ⟨z, hc⟩ := P_odds hI (t32 (xs (i + 1))) (t32 (xs (i + 2)))
  refine lv_aload_n C.1.1 C.1.2.1 dl_921 rfl (lv_at hl 1 rfl) ?_
  refine lw_arg C hS hl (k := 1) (by omega) dl_922 dl_923 dl_924 dl_925 dl_926 ?_
  refine lw_arg C hS hl (k := 2) (by omega) dl_927 dl_928 dl_929 dl_930 dl_931 ?_
  refine lw_callL C (y := Y_CB_odds) (b0 := 0) (as := [vI (xs (i + 1)).toInt, vI (xs (i + 2)).toInt]) (rest := []) (fun _ _ => rfl) (rfl : cb_cl[10]? = some ("CauseBook", cb_T10, 14)) K_CB_odds cw_778 (Nat.le_of_ble_eq_true rfl) (Nat.le_of_ble_eq_true rfl) dl_932 rfl (Nat.le_of_ble_eq_true rfl) hc hP hS hl.1 ?_
  rintro z1 M1 H1 locs1 ⟨e1, hc1⟩ hP1 hS1
  cases vL_inj (Option.some.inj e1)
  refine lv_aload_n C.1.1 C.1.2.1 dl_935 rfl (lv_at hl 2 rfl) ?_
  refine lw_arg C hS1 hl (k := 1) (by omega) dl_936 dl_937 dl_938 dl_939 dl_940 ?_
  refine lw_arg C hS1 hl (k := 2) (by omega) dl_941 dl_942 dl_943 dl_944 dl_945 ?_
  refine lw_callL C (y := Y_RM_odds) (b0 := 141) (as := [vI (xs (i + 1)).toInt, vI (xs (i + 2)).toInt]) (rest := [.long (Int64.ofInt z)]) (fun _ _ => rfl) (rfl : cb_cl[11]? = some ("CauseBookModel", cb_T11, 25)) K_RM_odds cw_1373 (Nat.le_of_ble_eq_true rfl) (Nat.le_of_ble_eq_true rfl) dl_946 rfl (Nat.le_of_ble_eq_true rfl) hc1 hP1 hS1 hl.1 ?_
  rintro z2 M2 H2 locs2 ⟨e2, σ2, hI2⟩ hP2 hS2
  cases vL_inj (Option.some.inj e2)
  refine W.lcmp C.1.1 C.1.2.1 dl_949 ?_
  rw [lg_same]
  exact lv_if_eq (tgt := 1551) C.1.1 C.1.2.1 dl_950 (by decide) (fun _ => nx σ2 M2 H2 locs2 ls hI2 hP2 hS2 hl) (fun q => absurd rfl q)
set_option maxRecDepth 4000 in
theorem lc_24 {p : Program} {l : Launch} {e : Env} {s : State} {m : MethodId} {below : List Frame} {meth : Method} {c : Code} {b L : Nat} {xs : Nat → Int32} {g : cb_G} {cells slots : Nat} {Q : State → Prop} (C : lw_Cx p s m meth c b L xs g cells slots) {i : Nat} (hi : i + 6 ≤ L) (nx : lw_to p l e s m below meth c b g cells slots Q i 1551) : lw_to p l e s m below meth c b g cells slots Q i 955 := by
  intro σ M H locs ls hI hP hS hl
  obtain ⟨z, hc⟩ := P_likeliest hI (t32 (xs (i + 1)))
  refine lv_aload_n C.1.1 C.1.2.1 dl_955 rfl (lv_at hl 1 rfl) ?_
  refine lw_arg C hS hl (k := 1) (by omega) dl_956 dl_957 dl_958 dl_959 dl_960 ?_
  refine lw_callI C (y := Y_CB_likeliest) (b0 := 0) (as := [vI (xs (i + 1)).toInt]) (rest := []) (fun _ _ => rfl) (rfl : cb_cl[10]? = some ("CauseBook", cb_T10, 14)) K_CB_likeliest cw_799 (Nat.le_of_ble_eq_true rfl) (Nat.le_of_ble_eq_true rfl) dl_961 rfl (Nat.le_of_ble_eq_true rfl) hc hP hS hl.1 ?_
  rintro z1 M1 H1 locs1 ⟨e1, hc1⟩ hP1 hS1
  cases vI_inj (Option.some.inj e1)
  refine lv_aload_n C.1.1 C.1.2.1 dl_964 rfl (lv_at hl 2 rfl) ?_
  refine lw_arg C hS1 hl (k := 1) (by omega) dl_965 dl_966 dl_967 dl_968 dl_969 ?_
  refine lw_callI C (y := Y_RM_likeliest) (b0 := 141) (as := [vI (xs (i + 1)).toInt]) (rest := [.int (Int32.ofInt z)]) (fun _ _ => rfl) (rfl : cb_cl[11]? = some ("CauseBookModel", cb_T11, 25)) K_RM_likeliest cw_1389 (Nat.le_of_ble_eq_true rfl) (Nat.le_of_ble_eq_true rfl) dl_970 rfl (Nat.le_of_ble_eq_true rfl) hc1 hP1 hS1 hl.1 ?_
  rintro z2 M2 H2 locs2 ⟨e2, σ2, hI2⟩ hP2 hS2
  cases vI_inj (Option.some.inj e2)
  exact lv_icmp_eq (tgt := 1551) C.1.1 C.1.2.1 dl_973 (by decide) (fun _ => nx σ2 M2 H2 locs2 ls hI2 hP2 hS2 hl) (fun q => absurd rfl q)
set_option maxRecDepth 4000 in
theorem lc_25 {p : Program} {l : Launch} {e : Env} {s : State} {m : MethodId} {below : List Frame} {meth : Method} {c : Code} {b L : Nat} {xs : Nat → Int32} {g : cb_G} {cells slots : Nat} {Q : State → Prop} (C : lw_Cx p s m meth c b L xs g cells slots) {i : Nat} (hi : i + 6 ≤ L) (nx : lw_to p l e s m below meth c b g cells slots Q i 1551) : lw_to p l e s m below meth c b g cells slots Q i 978 := by
  intro σ M H locs ls hI hP hS hl
  obtain ⟨z, hc⟩ := P_ranked hI (t32 (xs (i + 1)))
  refine lv_aload_n C.1.1 C.1.2.1 dl_978 rfl (lv_at hl 1 rfl) ?_
  refine lw_arg C hS hl (k := 1) (by omega) dl_979 dl_980 dl_981 dl_982 dl_983 ?_
  refine lw_callI C (y := Y_CB_ranked) (b0 := 0) (as := [vI (xs (i + 1)).toInt]) (rest := []) (fun _ _ => rfl) (rfl : cb_cl[10]? = some ("CauseBook", cb_T10, 14)) K_CB_ranked cw_815 (Nat.le_of_ble_eq_true rfl) (Nat.le_of_ble_eq_true rfl) dl_984 rfl (Nat.le_of_ble_eq_true rfl) hc hP hS hl.1 ?_
  rintro z1 M1 H1 locs1 ⟨e1, hc1⟩ hP1 hS1
  cases vI_inj (Option.some.inj e1)
  refine lv_aload_n C.1.1 C.1.2.1 dl_987 rfl (lv_at hl 2 rfl) ?_
  refine lw_arg C hS1 hl (k := 1) (by omega) dl_988 dl_989 dl_990 dl_991 dl_992 ?_
  refine lw_callI C (y := Y_RM_ranked) (b0 := 141) (as := [vI (xs (i + 1)).toInt]) (rest := [.int (Int32.ofInt z)]) (fun _ _ => rfl) (rfl : cb_cl[11]? = some ("CauseBookModel", cb_T11, 25)) K_RM_ranked cw_1393 (Nat.le_of_ble_eq_true rfl) (Nat.le_of_ble_eq_true rfl) dl_993 rfl (Nat.le_of_ble_eq_true rfl) hc1 hP1 hS1 hl.1 ?_
  rintro z2 M2 H2 locs2 ⟨e2, σ2, hI2⟩ hP2 hS2
  cases vI_inj (Option.some.inj e2)
  exact lv_icmp_eq (tgt := 1551) C.1.1 C.1.2.1 dl_996 (by decide) (fun _ => nx σ2 M2 H2 locs2 ls hI2 hP2 hS2 hl) (fun q => absurd rfl q)
set_option maxRecDepth 4000 in
theorem lc_26 {p : Program} {l : Launch} {e : Env} {s : State} {m : MethodId} {below : List Frame} {meth : Method} {c : Code} {b L : Nat} {xs : Nat → Int32} {g : cb_G} {cells slots : Nat} {Q : State → Prop} (C : lw_Cx p s m meth c b L xs g cells slots) {i : Nat} (hi : i + 6 ≤ L) (nx : lw_to p l e s m below meth c b g cells slots Q i 1551) : lw_to p l e s m below meth c b g cells slots Q i 1001 := by
  intro σ M H locs ls hI hP hS hl
  obtain ⟨z, hc⟩ := P_hold hI (t32 (xs (i + 1)))
  refine lv_aload_n C.1.1 C.1.2.1 dl_1001 rfl (lv_at hl 1 rfl) ?_
  refine lw_arg C hS hl (k := 1) (by omega) dl_1002 dl_1003 dl_1004 dl_1005 dl_1006 ?_
  refine lw_callI C (y := Y_CB_hold) (b0 := 0) (as := [vI (xs (i + 1)).toInt]) (rest := []) (fun _ _ => rfl) (rfl : cb_cl[10]? = some ("CauseBook", cb_T10, 14)) K_CB_hold cw_819 (Nat.le_of_ble_eq_true rfl) (Nat.le_of_ble_eq_true rfl) dl_1007 rfl (Nat.le_of_ble_eq_true rfl) hc hP hS hl.1 ?_
  rintro z1 M1 H1 locs1 ⟨e1, hc1⟩ hP1 hS1
  cases vI_inj (Option.some.inj e1)
  refine lv_aload_n C.1.1 C.1.2.1 dl_1010 rfl (lv_at hl 2 rfl) ?_
  refine lw_arg C hS1 hl (k := 1) (by omega) dl_1011 dl_1012 dl_1013 dl_1014 dl_1015 ?_
  refine lw_callI C (y := Y_RM_hold) (b0 := 141) (as := [vI (xs (i + 1)).toInt]) (rest := [.int (Int32.ofInt z)]) (fun _ _ => rfl) (rfl : cb_cl[11]? = some ("CauseBookModel", cb_T11, 25)) K_RM_hold cw_1401 (Nat.le_of_ble_eq_true rfl) (Nat.le_of_ble_eq_true rfl) dl_1016 rfl (Nat.le_of_ble_eq_true rfl) hc1 hP1 hS1 hl.1 ?_
  rintro z2 M2 H2 locs2 ⟨e2, σ2, hI2⟩ hP2 hS2
  cases vI_inj (Option.some.inj e2)
  exact lv_icmp_eq (tgt := 1551) C.1.1 C.1.2.1 dl_1019 (by decide) (fun _ => nx σ2 M2 H2 locs2 ls hI2 hP2 hS2 hl) (fun q => absurd rfl q)
set_option maxRecDepth 4000 in
theorem lc_27 {p : Program} {l : Launch} {e : Env} {s : State} {m : MethodId} {below : List Frame} {meth : Method} {c : Code} {b L : Nat} {xs : Nat → Int32} {g : cb_G} {cells slots : Nat} {Q : State → Prop} (C : lw_Cx p s m meth c b L xs g cells slots) {i : Nat} (hi : i + 6 ≤ L) (nx : lw_to p l e s m below meth c b g cells slots Q i 1551) : lw_to p l e s m below meth c b g cells slots Q i 1024 := by
  intro σ M H locs ls hI hP hS hl
  obtain ⟨z, hc⟩ := P_minimal hI (t32 (xs (i + 1))) (t32 (xs (i + 2)))
  refine lv_aload_n C.1.1 C.1.2.1 dl_1024 rfl (lv_at hl 1 rfl) ?_
  refine lw_arg C hS hl (k := 1) (by omega) dl_1025 dl_1026 dl_1027 dl_1028 dl_1029 ?_
  refine lw_arg C hS hl (k := 2) (by omega) dl_1030 dl_1031 dl_1032 dl_1033 dl_1034 ?_
  refine lw_callI C (y := Y_CB_minimal) (b0 := 0) (as := [vI (xs (i + 1)).toInt, vI (xs (i + 2)).toInt]) (rest := []) (fun _ _ => rfl) (rfl : cb_cl[10]? = some ("CauseBook", cb_T10, 14)) K_CB_minimal cw_828 (Nat.le_of_ble_eq_true rfl) (Nat.le_of_ble_eq_true rfl) dl_1035 rfl (Nat.le_of_ble_eq_true rfl) hc hP hS hl.1 ?_
  rintro z1 M1 H1 locs1 ⟨e1, hc1⟩ hP1 hS1
  cases vI_inj (Option.some.inj e1)
  refine lv_aload_n C.1.1 C.1.2.1 dl_1038 rfl (lv_at hl 2 rfl) ?_
  refine lw_arg C hS1 hl (k := 1) (by omega) dl_1039 dl_1040 dl_1041 dl_1042 dl_1043 ?_
  refine lw_arg C hS1 hl (k := 2) (by omega) dl_1044 dl_1045 dl_1046 dl_1047 dl_1048 ?_
  refine lw_callI C (y := Y_RM_minimal) (b0 := 141) (as := [vI (xs (i + 1)).toInt, vI (xs (i + 2)).toInt]) (rest := [.int (Int32.ofInt z)]) (fun _ _ => rfl) (rfl : cb_cl[11]? = some ("CauseBookModel", cb_T11, 25)) K_RM_minimal cw_1405 (Nat.le_of_ble_eq_true rfl) (Nat.le_of_ble_eq_true rfl) dl_1049 rfl (Nat.le_of_ble_eq_true rfl) hc1 hP1 hS1 hl.1 ?_
  rintro z2 M2 H2 locs2 ⟨e2, σ2, hI2⟩ hP2 hS2
  cases vI_inj (Option.some.inj e2)
  exact lv_icmp_eq (tgt := 1551) C.1.1 C.1.2.1 dl_1052 (by decide) (fun _ => nx σ2 M2 H2 locs2 ls hI2 hP2 hS2 hl) (fun q => absurd rfl q)
set_option maxRecDepth 4000 in
theorem lc_28 {p : Program} {l : Launch} {e : Env} {s : State} {m : MethodId} {below : List Frame} {meth : Method} {c : Code} {b L : Nat} {xs : Nat → Int32} {g : cb_G} {cells slots : Nat} {Q : State → Prop} (C : lw_Cx p s m meth c b L xs g cells slots) {i : Nat} (hi : i + 6 ≤ L) (nx : lw_to p l e s m below meth c b g cells slots Q i 1551) : lw_to p l e s m below meth c b g cells slots Q i 1057 := by
  intro σ M H locs ls hI hP hS hl
  obtain ⟨z, hc⟩ := P_weakest hI (t32 (xs (i + 1)))
  refine lv_aload_n C.1.1 C.1.2.1 dl_1057 rfl (lv_at hl 1 rfl) ?_
  refine lw_arg C hS hl (k := 1) (by omega) dl_1058 dl_1059 dl_1060 dl_1061 dl_1062 ?_
  refine lw_callI C (y := Y_CB_weakest) (b0 := 0) (as := [vI (xs (i + 1)).toInt]) (rest := []) (fun _ _ => rfl) (rfl : cb_cl[10]? = some ("CauseBook", cb_T10, 14)) K_CB_weakest cw_840 (Nat.le_of_ble_eq_true rfl) (Nat.le_of_ble_eq_true rfl) dl_1063 rfl (Nat.le_of_ble_eq_true rfl) hc hP hS hl.1 ?_
  rintro z1 M1 H1 locs1 ⟨e1, hc1⟩ hP1 hS1
  cases vI_inj (Option.some.inj e1)
  refine lv_aload_n C.1.1 C.1.2.1 dl_1066 rfl (lv_at hl 2 rfl) ?_
  refine lw_arg C hS1 hl (k := 1) (by omega) dl_1067 dl_1068 dl_1069 dl_1070 dl_1071 ?_
  refine lw_callI C (y := Y_RM_weakest) (b0 := 141) (as := [vI (xs (i + 1)).toInt]) (rest := [.int (Int32.ofInt z)]) (fun _ _ => rfl) (rfl : cb_cl[11]? = some ("CauseBookModel", cb_T11, 25)) K_RM_weakest cw_1441 (Nat.le_of_ble_eq_true rfl) (Nat.le_of_ble_eq_true rfl) dl_1072 rfl (Nat.le_of_ble_eq_true rfl) hc1 hP1 hS1 hl.1 ?_
  rintro z2 M2 H2 locs2 ⟨e2, σ2, hI2⟩ hP2 hS2
  cases vI_inj (Option.some.inj e2)
  exact lv_icmp_eq (tgt := 1551) C.1.1 C.1.2.1 dl_1075 (by decide) (fun _ => nx σ2 M2 H2 locs2 ls hI2 hP2 hS2 hl) (fun q => absurd rfl q)
set_option maxRecDepth 4000 in
theorem lc_29 {p : Program} {l : Launch} {e : Env} {s : State} {m : MethodId} {below : List Frame} {meth : Method} {c : Code} {b L : Nat} {xs : Nat → Int32} {g : cb_G} {cells slots : Nat} {Q : State → Prop} (C : lw_Cx p s m meth c b L xs g cells slots) {i : Nat} (hi : i + 6 ≤ L) (nx : lw_to p l e s m below meth c b g cells slots Q i 1551) : lw_to p l e s m below meth c b g cells slots Q i 1080 := by
  intro σ M H locs ls hI hP hS hl
  obtain ⟨z, hc⟩ := P_ordered hI (t32 (xs (i + 1))) (t32 (xs (i + 2)))
  refine lv_aload_n C.1.1 C.1.2.1 dl_1080 rfl (lv_at hl 1 rfl) ?_
  refine lw_arg C hS hl (k := 1) (by omega) dl_1081 dl_1082 dl_1083 dl_1084 dl_1085 ?_
  refine lw_arg C hS hl (k := 2) (by omega) dl_1086 dl_1087 dl_1088 dl_1089 dl_1090 ?_
  refine lw_callI C (y := Y_CB_ordered) (b0 := 0) (as := [vI (xs (i + 1)).toInt, vI (xs (i + 2)).toInt]) (rest := []) (fun _ _ => rfl) (rfl : cb_cl[10]? = some ("CauseBook", cb_T10, 14)) K_CB_ordered cw_852 (Nat.le_of_ble_eq_true rfl) (Nat.le_of_ble_eq_true rfl) dl_1091 rfl (Nat.le_of_ble_eq_true rfl) hc hP hS hl.1 ?_
  rintro z1 M1 H1 locs1 ⟨e1, hc1⟩ hP1 hS1
  cases vI_inj (Option.some.inj e1)
  refine lv_aload_n C.1.1 C.1.2.1 dl_1094 rfl (lv_at hl 2 rfl) ?_
  refine lw_arg C hS1 hl (k := 1) (by omega) dl_1095 dl_1096 dl_1097 dl_1098 dl_1099 ?_
  refine lw_arg C hS1 hl (k := 2) (by omega) dl_1100 dl_1101 dl_1102 dl_1103 dl_1104 ?_
  refine lw_callI C (y := Y_RM_ordered) (b0 := 141) (as := [vI (xs (i + 1)).toInt, vI (xs (i + 2)).toInt]) (rest := [.int (Int32.ofInt z)]) (fun _ _ => rfl) (rfl : cb_cl[11]? = some ("CauseBookModel", cb_T11, 25)) K_RM_ordered cw_1449 (Nat.le_of_ble_eq_true rfl) (Nat.le_of_ble_eq_true rfl) dl_1105 rfl (Nat.le_of_ble_eq_true rfl) hc1 hP1 hS1 hl.1 ?_
  rintro z2 M2 H2 locs2 ⟨e2, σ2, hI2⟩ hP2 hS2
  cases vI_inj (Option.some.inj e2)
  exact lv_icmp_eq (tgt := 1551) C.1.1 C.1.2.1 dl_1108 (by decide) (fun _ => nx σ2 M2 H2 locs2 ls hI2 hP2 hS2 hl) (fun q => absurd rfl q)
set_option maxRecDepth 4000 in
theorem lc_30 {p : Program} {l : Launch} {e : Env} {s : State} {m : MethodId} {below : List Frame} {meth : Method} {c : Code} {b L : Nat} {xs : Nat → Int32} {g : cb_G} {cells slots : Nat} {Q : State → Prop} (C : lw_Cx p s m meth c b L xs g cells slots) {i : Nat} (hi : i + 6 ≤ L) (nx : lw_to p l e s m below meth c b g cells slots Q i 1551) : lw_to p l e s m below meth c b g cells slots Q i 1113 := by
  intro σ M H locs ls hI hP hS hl
  obtain ⟨z, hc⟩ := P_sure hI (t32 (xs (i + 1)))
  refine lv_aload_n C.1.1 C.1.2.1 dl_1113 rfl (lv_at hl 1 rfl) ?_
  refine lw_arg C hS hl (k := 1) (by omega) dl_1114 dl_1115 dl_1116 dl_1117 dl_1118 ?_
  refine lw_callI C (y := Y_CB_sure) (b0 := 0) (as := [vI (xs (i + 1)).toInt]) (rest := []) (fun _ _ => rfl) (rfl : cb_cl[10]? = some ("CauseBook", cb_T10, 14)) K_CB_sure cw_868 (Nat.le_of_ble_eq_true rfl) (Nat.le_of_ble_eq_true rfl) dl_1119 rfl (Nat.le_of_ble_eq_true rfl) hc hP hS hl.1 ?_
  rintro z1 M1 H1 locs1 ⟨e1, hc1⟩ hP1 hS1
  cases vI_inj (Option.some.inj e1)
  refine lv_aload_n C.1.1 C.1.2.1 dl_1122 rfl (lv_at hl 2 rfl) ?_
  refine lw_arg C hS1 hl (k := 1) (by omega) dl_1123 dl_1124 dl_1125 dl_1126 dl_1127 ?_
  refine lw_callI C (y := Y_RM_sure) (b0 := 141) (as := [vI (xs (i + 1)).toInt]) (rest := [.int (Int32.ofInt z)]) (fun _ _ => rfl) (rfl : cb_cl[11]? = some ("CauseBookModel", cb_T11, 25)) K_RM_sure cw_1457 (Nat.le_of_ble_eq_true rfl) (Nat.le_of_ble_eq_true rfl) dl_1128 rfl (Nat.le_of_ble_eq_true rfl) hc1 hP1 hS1 hl.1 ?_
  rintro z2 M2 H2 locs2 ⟨e2, σ2, hI2⟩ hP2 hS2
  cases vI_inj (Option.some.inj e2)
  exact lv_icmp_eq (tgt := 1551) C.1.1 C.1.2.1 dl_1131 (by decide) (fun _ => nx σ2 M2 H2 locs2 ls hI2 hP2 hS2 hl) (fun q => absurd rfl q)
set_option maxRecDepth 4000 in
theorem lc_31 {p : Program} {l : Launch} {e : Env} {s : State} {m : MethodId} {below : List Frame} {meth : Method} {c : Code} {b L : Nat} {xs : Nat → Int32} {g : cb_G} {cells slots : Nat} {Q : State → Prop} (C : lw_Cx p s m meth c b L xs g cells slots) {i : Nat} (hi : i + 6 ≤ L) (nx : lw_to p l e s m below meth c b g cells slots Q i 1551) : lw_to p l e s m below meth c b g cells slots Q i 1136 := by
  intro σ M H locs ls hI hP hS hl
  obtain ⟨z, hc⟩ := P_busiest hI (t32 (xs (i + 1))) (t32 (xs (i + 2)))
  refine lv_aload_n C.1.1 C.1.2.1 dl_1136 rfl (lv_at hl 1 rfl) ?_
  refine lw_arg C hS hl (k := 1) (by omega) dl_1137 dl_1138 dl_1139 dl_1140 dl_1141 ?_
  refine lw_arg C hS hl (k := 2) (by omega) dl_1142 dl_1143 dl_1144 dl_1145 dl_1146 ?_
  refine lw_callI C (y := Y_CB_busiest) (b0 := 0) (as := [vI (xs (i + 1)).toInt, vI (xs (i + 2)).toInt]) (rest := []) (fun _ _ => rfl) (rfl : cb_cl[10]? = some ("CauseBook", cb_T10, 14)) K_CB_busiest cw_889 (Nat.le_of_ble_eq_true rfl) (Nat.le_of_ble_eq_true rfl) dl_1147 rfl (Nat.le_of_ble_eq_true rfl) hc hP hS hl.1 ?_
  rintro z1 M1 H1 locs1 ⟨e1, hc1⟩ hP1 hS1
  cases vI_inj (Option.some.inj e1)
  refine lv_aload_n C.1.1 C.1.2.1 dl_1150 rfl (lv_at hl 2 rfl) ?_
  refine lw_arg C hS1 hl (k := 1) (by omega) dl_1151 dl_1152 dl_1153 dl_1154 dl_1155 ?_
  refine lw_arg C hS1 hl (k := 2) (by omega) dl_1156 dl_1157 dl_1158 dl_1159 dl_1160 ?_
  refine lw_callI C (y := Y_RM_busiest) (b0 := 141) (as := [vI (xs (i + 1)).toInt, vI (xs (i + 2)).toInt]) (rest := [.int (Int32.ofInt z)]) (fun _ _ => rfl) (rfl : cb_cl[11]? = some ("CauseBookModel", cb_T11, 25)) K_RM_busiest cw_1465 (Nat.le_of_ble_eq_true rfl) (Nat.le_of_ble_eq_true rfl) dl_1161 rfl (Nat.le_of_ble_eq_true rfl) hc1 hP1 hS1 hl.1 ?_
  rintro z2 M2 H2 locs2 ⟨e2, σ2, hI2⟩ hP2 hS2
  cases vI_inj (Option.some.inj e2)
  exact lv_icmp_eq (tgt := 1551) C.1.1 C.1.2.1 dl_1164 (by decide) (fun _ => nx σ2 M2 H2 locs2 ls hI2 hP2 hS2 hl) (fun q => absurd rfl q)
set_option maxRecDepth 4000 in
theorem lc_32 {p : Program} {l : Launch} {e : Env} {s : State} {m : MethodId} {below : List Frame} {meth : Method} {c : Code} {b L : Nat} {xs : Nat → Int32} {g : cb_G} {cells slots : Nat} {Q : State → Prop} (C : lw_Cx p s m meth c b L xs g cells slots) {i : Nat} (hi : i + 6 ≤ L) (nx : lw_to p l e s m below meth c b g cells slots Q i 1551) : lw_to p l e s m below meth c b g cells slots Q i 1169 := by
  intro σ M H locs ls hI hP hS hl
  obtain ⟨z, hc⟩ := P_groups hI (t32 (xs (i + 1)))
  refine lv_aload_n C.1.1 C.1.2.1 dl_1169 rfl (lv_at hl 1 rfl) ?_
  refine lw_arg C hS hl (k := 1) (by omega) dl_1170 dl_1171 dl_1172 dl_1173 dl_1174 ?_
  refine lw_callI C (y := Y_CB_groups) (b0 := 0) (as := [vI (xs (i + 1)).toInt]) (rest := []) (fun _ _ => rfl) (rfl : cb_cl[10]? = some ("CauseBook", cb_T10, 14)) K_CB_groups cw_900 (Nat.le_of_ble_eq_true rfl) (Nat.le_of_ble_eq_true rfl) dl_1175 rfl (Nat.le_of_ble_eq_true rfl) hc hP hS hl.1 ?_
  rintro z1 M1 H1 locs1 ⟨e1, hc1⟩ hP1 hS1
  cases vI_inj (Option.some.inj e1)
  refine lv_aload_n C.1.1 C.1.2.1 dl_1178 rfl (lv_at hl 2 rfl) ?_
  refine lw_arg C hS1 hl (k := 1) (by omega) dl_1179 dl_1180 dl_1181 dl_1182 dl_1183 ?_
  refine lw_callI C (y := Y_RM_groups) (b0 := 141) (as := [vI (xs (i + 1)).toInt]) (rest := [.int (Int32.ofInt z)]) (fun _ _ => rfl) (rfl : cb_cl[11]? = some ("CauseBookModel", cb_T11, 25)) K_RM_groups cw_1417 (Nat.le_of_ble_eq_true rfl) (Nat.le_of_ble_eq_true rfl) dl_1184 rfl (Nat.le_of_ble_eq_true rfl) hc1 hP1 hS1 hl.1 ?_
  rintro z2 M2 H2 locs2 ⟨e2, σ2, hI2⟩ hP2 hS2
  cases vI_inj (Option.some.inj e2)
  exact lv_icmp_eq (tgt := 1551) C.1.1 C.1.2.1 dl_1187 (by decide) (fun _ => nx σ2 M2 H2 locs2 ls hI2 hP2 hS2 hl) (fun q => absurd rfl q)
set_option maxRecDepth 4000 in
theorem lc_33 {p : Program} {l : Launch} {e : Env} {s : State} {m : MethodId} {below : List Frame} {meth : Method} {c : Code} {b L : Nat} {xs : Nat → Int32} {g : cb_G} {cells slots : Nat} {Q : State → Prop} (C : lw_Cx p s m meth c b L xs g cells slots) {i : Nat} (hi : i + 6 ≤ L) (nx : lw_to p l e s m below meth c b g cells slots Q i 1551) : lw_to p l e s m below meth c b g cells slots Q i 1192 := by
  intro σ M H locs ls hI hP hS hl
  obtain ⟨z, hc⟩ := P_group hI (t32 (xs (i + 1)))
  refine lv_aload_n C.1.1 C.1.2.1 dl_1192 rfl (lv_at hl 1 rfl) ?_
  refine lw_arg C hS hl (k := 1) (by omega) dl_1193 dl_1194 dl_1195 dl_1196 dl_1197 ?_
  refine lw_callI C (y := Y_CB_group) (b0 := 0) (as := [vI (xs (i + 1)).toInt]) (rest := []) (fun _ _ => rfl) (rfl : cb_cl[10]? = some ("CauseBook", cb_T10, 14)) K_CB_group cw_922 (Nat.le_of_ble_eq_true rfl) (Nat.le_of_ble_eq_true rfl) dl_1198 rfl (Nat.le_of_ble_eq_true rfl) hc hP hS hl.1 ?_
  rintro z1 M1 H1 locs1 ⟨e1, hc1⟩ hP1 hS1
  cases vI_inj (Option.some.inj e1)
  refine lv_aload_n C.1.1 C.1.2.1 dl_1201 rfl (lv_at hl 2 rfl) ?_
  refine lw_arg C hS1 hl (k := 1) (by omega) dl_1202 dl_1203 dl_1204 dl_1205 dl_1206 ?_
  refine lw_callI C (y := Y_RM_group) (b0 := 141) (as := [vI (xs (i + 1)).toInt]) (rest := [.int (Int32.ofInt z)]) (fun _ _ => rfl) (rfl : cb_cl[11]? = some ("CauseBookModel", cb_T11, 25)) K_RM_group cw_1433 (Nat.le_of_ble_eq_true rfl) (Nat.le_of_ble_eq_true rfl) dl_1207 rfl (Nat.le_of_ble_eq_true rfl) hc1 hP1 hS1 hl.1 ?_
  rintro z2 M2 H2 locs2 ⟨e2, σ2, hI2⟩ hP2 hS2
  cases vI_inj (Option.some.inj e2)
  exact lv_icmp_eq (tgt := 1551) C.1.1 C.1.2.1 dl_1210 (by decide) (fun _ => nx σ2 M2 H2 locs2 ls hI2 hP2 hS2 hl) (fun q => absurd rfl q)
set_option maxRecDepth 4000 in
theorem lc_34 {p : Program} {l : Launch} {e : Env} {s : State} {m : MethodId} {below : List Frame} {meth : Method} {c : Code} {b L : Nat} {xs : Nat → Int32} {g : cb_G} {cells slots : Nat} {Q : State → Prop} (C : lw_Cx p s m meth c b L xs g cells slots) {i : Nat} (hi : i + 6 ≤ L) (nx : lw_to p l e s m below meth c b g cells slots Q i 1551) : lw_to p l e s m below meth c b g cells slots Q i 1215 := by
  intro σ M H locs ls hI hP hS hl
  obtain ⟨z, hc⟩ := P_reduced hI (t32 (xs (i + 1)))
  refine lv_aload_n C.1.1 C.1.2.1 dl_1215 rfl (lv_at hl 1 rfl) ?_
  refine lw_arg C hS hl (k := 1) (by omega) dl_1216 dl_1217 dl_1218 dl_1219 dl_1220 ?_
  refine lw_callI C (y := Y_CB_reduced) (b0 := 0) (as := [vI (xs (i + 1)).toInt]) (rest := []) (fun _ _ => rfl) (rfl : cb_cl[10]? = some ("CauseBook", cb_T10, 14)) K_CB_reduced cw_927 (Nat.le_of_ble_eq_true rfl) (Nat.le_of_ble_eq_true rfl) dl_1221 rfl (Nat.le_of_ble_eq_true rfl) hc hP hS hl.1 ?_
  rintro z1 M1 H1 locs1 ⟨e1, hc1⟩ hP1 hS1
  cases vI_inj (Option.some.inj e1)
  refine lv_aload_n C.1.1 C.1.2.1 dl_1224 rfl (lv_at hl 2 rfl) ?_
  refine lw_arg C hS1 hl (k := 1) (by omega) dl_1225 dl_1226 dl_1227 dl_1228 dl_1229 ?_
  refine lw_callI C (y := Y_RM_reduced) (b0 := 141) (as := [vI (xs (i + 1)).toInt]) (rest := [.int (Int32.ofInt z)]) (fun _ _ => rfl) (rfl : cb_cl[11]? = some ("CauseBookModel", cb_T11, 25)) K_RM_reduced cw_1354 (Nat.le_of_ble_eq_true rfl) (Nat.le_of_ble_eq_true rfl) dl_1230 rfl (Nat.le_of_ble_eq_true rfl) hc1 hP1 hS1 hl.1 ?_
  rintro z2 M2 H2 locs2 ⟨e2, σ2, hI2⟩ hP2 hS2
  cases vI_inj (Option.some.inj e2)
  exact lv_icmp_eq (tgt := 1551) C.1.1 C.1.2.1 dl_1233 (by decide) (fun _ => nx σ2 M2 H2 locs2 ls hI2 hP2 hS2 hl) (fun q => absurd rfl q)
set_option maxRecDepth 4000 in
theorem lc_35 {p : Program} {l : Launch} {e : Env} {s : State} {m : MethodId} {below : List Frame} {meth : Method} {c : Code} {b L : Nat} {xs : Nat → Int32} {g : cb_G} {cells slots : Nat} {Q : State → Prop} (C : lw_Cx p s m meth c b L xs g cells slots) {i : Nat} (hi : i + 6 ≤ L) (nx : lw_to p l e s m below meth c b g cells slots Q i 1551) : lw_to p l e s m below meth c b g cells slots Q i 1238 := by
  intro σ M H locs ls hI hP hS hl
  obtain ⟨z, hc⟩ := P_ask hI (t32 (xs (i + 1)))
  refine lv_aload_n C.1.1 C.1.2.1 dl_1238 rfl (lv_at hl 1 rfl) ?_
  refine lw_arg C hS hl (k := 1) (by omega) dl_1239 dl_1240 dl_1241 dl_1242 dl_1243 ?_
  refine lw_callI C (y := Y_CB_ask) (b0 := 0) (as := [vI (xs (i + 1)).toInt]) (rest := []) (fun _ _ => rfl) (rfl : cb_cl[10]? = some ("CauseBook", cb_T10, 14)) K_CB_ask cw_931 (Nat.le_of_ble_eq_true rfl) (Nat.le_of_ble_eq_true rfl) dl_1244 rfl (Nat.le_of_ble_eq_true rfl) hc hP hS hl.1 ?_
  rintro z1 M1 H1 locs1 ⟨e1, hc1⟩ hP1 hS1
  cases vI_inj (Option.some.inj e1)
  refine lv_aload_n C.1.1 C.1.2.1 dl_1247 rfl (lv_at hl 2 rfl) ?_
  refine lw_arg C hS1 hl (k := 1) (by omega) dl_1248 dl_1249 dl_1250 dl_1251 dl_1252 ?_
  refine lw_callI C (y := Y_RM_ask) (b0 := 141) (as := [vI (xs (i + 1)).toInt]) (rest := [.int (Int32.ofInt z)]) (fun _ _ => rfl) (rfl : cb_cl[11]? = some ("CauseBookModel", cb_T11, 25)) K_RM_ask cw_1437 (Nat.le_of_ble_eq_true rfl) (Nat.le_of_ble_eq_true rfl) dl_1253 rfl (Nat.le_of_ble_eq_true rfl) hc1 hP1 hS1 hl.1 ?_
  rintro z2 M2 H2 locs2 ⟨e2, σ2, hI2⟩ hP2 hS2
  cases vI_inj (Option.some.inj e2)
  exact lv_icmp_eq (tgt := 1551) C.1.1 C.1.2.1 dl_1256 (by decide) (fun _ => nx σ2 M2 H2 locs2 ls hI2 hP2 hS2 hl) (fun q => absurd rfl q)
set_option maxRecDepth 4000 in
theorem lc_36 {p : Program} {l : Launch} {e : Env} {s : State} {m : MethodId} {below : List Frame} {meth : Method} {c : Code} {b L : Nat} {xs : Nat → Int32} {g : cb_G} {cells slots : Nat} {Q : State → Prop} (C : lw_Cx p s m meth c b L xs g cells slots) {i : Nat} (hi : i + 6 ≤ L) (nx : lw_to p l e s m below meth c b g cells slots Q i 1551) : lw_to p l e s m below meth c b g cells slots Q i 1261 := by
  intro σ M H locs ls hI hP hS hl
  obtain ⟨z, hc⟩ := P_cuts hI (t32 (xs (i + 1))) (t32 (xs (i + 2))) (t32 (xs (i + 3)))
  refine lv_aload_n C.1.1 C.1.2.1 dl_1261 rfl (lv_at hl 1 rfl) ?_
  refine lw_arg C hS hl (k := 1) (by omega) dl_1262 dl_1263 dl_1264 dl_1265 dl_1266 ?_
  refine lw_arg C hS hl (k := 2) (by omega) dl_1267 dl_1268 dl_1269 dl_1270 dl_1271 ?_
  refine lw_arg C hS hl (k := 3) (by omega) dl_1272 dl_1273 dl_1274 dl_1275 dl_1276 ?_
  refine lw_callI C (y := Y_CB_cuts) (b0 := 0) (as := [vI (xs (i + 1)).toInt, vI (xs (i + 2)).toInt, vI (xs (i + 3)).toInt]) (rest := []) (fun _ _ => rfl) (rfl : cb_cl[10]? = some ("CauseBook", cb_T10, 14)) K_CB_cuts cw_944 (Nat.le_of_ble_eq_true rfl) (Nat.le_of_ble_eq_true rfl) dl_1277 rfl (Nat.le_of_ble_eq_true rfl) hc hP hS hl.1 ?_
  rintro z1 M1 H1 locs1 ⟨e1, hc1⟩ hP1 hS1
  cases vI_inj (Option.some.inj e1)
  refine lv_aload_n C.1.1 C.1.2.1 dl_1280 rfl (lv_at hl 2 rfl) ?_
  refine lw_arg C hS1 hl (k := 1) (by omega) dl_1281 dl_1282 dl_1283 dl_1284 dl_1285 ?_
  refine lw_arg C hS1 hl (k := 2) (by omega) dl_1286 dl_1287 dl_1288 dl_1289 dl_1290 ?_
  refine lw_arg C hS1 hl (k := 3) (by omega) dl_1291 dl_1292 dl_1293 dl_1294 dl_1295 ?_
  refine lw_callI C (y := Y_RM_cuts) (b0 := 141) (as := [vI (xs (i + 1)).toInt, vI (xs (i + 2)).toInt, vI (xs (i + 3)).toInt]) (rest := [.int (Int32.ofInt z)]) (fun _ _ => rfl) (rfl : cb_cl[11]? = some ("CauseBookModel", cb_T11, 25)) K_RM_cuts cw_1469 (Nat.le_of_ble_eq_true rfl) (Nat.le_of_ble_eq_true rfl) dl_1296 rfl (Nat.le_of_ble_eq_true rfl) hc1 hP1 hS1 hl.1 ?_
  rintro z2 M2 H2 locs2 ⟨e2, σ2, hI2⟩ hP2 hS2
  cases vI_inj (Option.some.inj e2)
  exact lv_icmp_eq (tgt := 1551) C.1.1 C.1.2.1 dl_1299 (by decide) (fun _ => nx σ2 M2 H2 locs2 ls hI2 hP2 hS2 hl) (fun q => absurd rfl q)
set_option maxRecDepth 4000 in
theorem lc_37 {p : Program} {l : Launch} {e : Env} {s : State} {m : MethodId} {below : List Frame} {meth : Method} {c : Code} {b L : Nat} {xs : Nat → Int32} {g : cb_G} {cells slots : Nat} {Q : State → Prop} (C : lw_Cx p s m meth c b L xs g cells slots) {i : Nat} (hi : i + 6 ≤ L) (nx : lw_to p l e s m below meth c b g cells slots Q i 1551) : lw_to p l e s m below meth c b g cells slots Q i 1304 := by
  intro σ M H locs ls hI hP hS hl
  obtain ⟨z, hc⟩ := P_explains hI (t32 (xs (i + 1))) (t32 (xs (i + 2)))
  refine lv_aload_n C.1.1 C.1.2.1 dl_1304 rfl (lv_at hl 1 rfl) ?_
  refine lw_arg C hS hl (k := 1) (by omega) dl_1305 dl_1306 dl_1307 dl_1308 dl_1309 ?_
  refine lw_arg C hS hl (k := 2) (by omega) dl_1310 dl_1311 dl_1312 dl_1313 dl_1314 ?_
  refine lw_callI C (y := Y_CB_explains) (b0 := 0) (as := [vI (xs (i + 1)).toInt, vI (xs (i + 2)).toInt]) (rest := []) (fun _ _ => rfl) (rfl : cb_cl[10]? = some ("CauseBook", cb_T10, 14)) K_CB_explains cw_962 (Nat.le_of_ble_eq_true rfl) (Nat.le_of_ble_eq_true rfl) dl_1315 rfl (Nat.le_of_ble_eq_true rfl) hc hP hS hl.1 ?_
  rintro z1 M1 H1 locs1 ⟨e1, hc1⟩ hP1 hS1
  cases vI_inj (Option.some.inj e1)
  refine lv_aload_n C.1.1 C.1.2.1 dl_1318 rfl (lv_at hl 2 rfl) ?_
  refine lw_arg C hS1 hl (k := 1) (by omega) dl_1319 dl_1320 dl_1321 dl_1322 dl_1323 ?_
  refine lw_arg C hS1 hl (k := 2) (by omega) dl_1324 dl_1325 dl_1326 dl_1327 dl_1328 ?_
  refine lw_callI C (y := Y_RM_explains) (b0 := 141) (as := [vI (xs (i + 1)).toInt, vI (xs (i + 2)).toInt]) (rest := [.int (Int32.ofInt z)]) (fun _ _ => rfl) (rfl : cb_cl[11]? = some ("CauseBookModel", cb_T11, 25)) K_RM_explains cw_1477 (Nat.le_of_ble_eq_true rfl) (Nat.le_of_ble_eq_true rfl) dl_1329 rfl (Nat.le_of_ble_eq_true rfl) hc1 hP1 hS1 hl.1 ?_
  rintro z2 M2 H2 locs2 ⟨e2, σ2, hI2⟩ hP2 hS2
  cases vI_inj (Option.some.inj e2)
  exact lv_icmp_eq (tgt := 1551) C.1.1 C.1.2.1 dl_1332 (by decide) (fun _ => nx σ2 M2 H2 locs2 ls hI2 hP2 hS2 hl) (fun q => absurd rfl q)
set_option maxRecDepth 4000 in
theorem lc_38 {p : Program} {l : Launch} {e : Env} {s : State} {m : MethodId} {below : List Frame} {meth : Method} {c : Code} {b L : Nat} {xs : Nat → Int32} {g : cb_G} {cells slots : Nat} {Q : State → Prop} (C : lw_Cx p s m meth c b L xs g cells slots) {i : Nat} (hi : i + 6 ≤ L) (nx : lw_to p l e s m below meth c b g cells slots Q i 1551) : lw_to p l e s m below meth c b g cells slots Q i 1337 := by
  intro σ M H locs ls hI hP hS hl
  obtain ⟨z, hc⟩ := P_best hI (t32 (xs (i + 1))) (t32 (xs (i + 2)))
  refine lv_aload_n C.1.1 C.1.2.1 dl_1337 rfl (lv_at hl 1 rfl) ?_
  refine lw_arg C hS hl (k := 1) (by omega) dl_1338 dl_1339 dl_1340 dl_1341 dl_1342 ?_
  refine lw_arg C hS hl (k := 2) (by omega) dl_1343 dl_1344 dl_1345 dl_1346 dl_1347 ?_
  refine lw_callI C (y := Y_CB_best) (b0 := 0) (as := [vI (xs (i + 1)).toInt, vI (xs (i + 2)).toInt]) (rest := []) (fun _ _ => rfl) (rfl : cb_cl[10]? = some ("CauseBook", cb_T10, 14)) K_CB_best cw_974 (Nat.le_of_ble_eq_true rfl) (Nat.le_of_ble_eq_true rfl) dl_1348 rfl (Nat.le_of_ble_eq_true rfl) hc hP hS hl.1 ?_
  rintro z1 M1 H1 locs1 ⟨e1, hc1⟩ hP1 hS1
  cases vI_inj (Option.some.inj e1)
  refine lv_aload_n C.1.1 C.1.2.1 dl_1351 rfl (lv_at hl 2 rfl) ?_
  refine lw_arg C hS1 hl (k := 1) (by omega) dl_1352 dl_1353 dl_1354 dl_1355 dl_1356 ?_
  refine lw_arg C hS1 hl (k := 2) (by omega) dl_1357 dl_1358 dl_1359 dl_1360 dl_1361 ?_
  refine lw_callI C (y := Y_RM_best) (b0 := 141) (as := [vI (xs (i + 1)).toInt, vI (xs (i + 2)).toInt]) (rest := [.int (Int32.ofInt z)]) (fun _ _ => rfl) (rfl : cb_cl[11]? = some ("CauseBookModel", cb_T11, 25)) K_RM_best cw_1485 (Nat.le_of_ble_eq_true rfl) (Nat.le_of_ble_eq_true rfl) dl_1362 rfl (Nat.le_of_ble_eq_true rfl) hc1 hP1 hS1 hl.1 ?_
  rintro z2 M2 H2 locs2 ⟨e2, σ2, hI2⟩ hP2 hS2
  cases vI_inj (Option.some.inj e2)
  exact lv_icmp_eq (tgt := 1551) C.1.1 C.1.2.1 dl_1365 (by decide) (fun _ => nx σ2 M2 H2 locs2 ls hI2 hP2 hS2 hl) (fun q => absurd rfl q)
set_option maxRecDepth 4000 in
theorem lc_39 {p : Program} {l : Launch} {e : Env} {s : State} {m : MethodId} {below : List Frame} {meth : Method} {c : Code} {b L : Nat} {xs : Nat → Int32} {g : cb_G} {cells slots : Nat} {Q : State → Prop} (C : lw_Cx p s m meth c b L xs g cells slots) {i : Nat} (hi : i + 6 ≤ L) (nx : lw_to p l e s m below meth c b g cells slots Q i 1551) : lw_to p l e s m below meth c b g cells slots Q i 1370 := by
  intro σ M H locs ls hI hP hS hl
  obtain ⟨z, hc⟩ := P_cover hI
  refine lv_aload_n C.1.1 C.1.2.1 dl_1370 rfl (lv_at hl 1 rfl) ?_
  refine lw_callI C (y := Y_CB_cover) (b0 := 0) (as := []) (rest := []) (fun _ _ => rfl) (rfl : cb_cl[10]? = some ("CauseBook", cb_T10, 14)) K_CB_cover cw_987 (Nat.le_of_ble_eq_true rfl) (Nat.le_of_ble_eq_true rfl) dl_1371 rfl (Nat.le_of_ble_eq_true rfl) hc hP hS hl.1 ?_
  rintro z1 M1 H1 locs1 ⟨e1, hc1⟩ hP1 hS1
  cases vI_inj (Option.some.inj e1)
  refine lv_aload_n C.1.1 C.1.2.1 dl_1374 rfl (lv_at hl 2 rfl) ?_
  refine lw_callI C (y := Y_RM_cover) (b0 := 141) (as := []) (rest := [.int (Int32.ofInt z)]) (fun _ _ => rfl) (rfl : cb_cl[11]? = some ("CauseBookModel", cb_T11, 25)) K_RM_cover cw_1489 (Nat.le_of_ble_eq_true rfl) (Nat.le_of_ble_eq_true rfl) dl_1375 rfl (Nat.le_of_ble_eq_true rfl) hc1 hP1 hS1 hl.1 ?_
  rintro z2 M2 H2 locs2 ⟨e2, σ2, hI2⟩ hP2 hS2
  cases vI_inj (Option.some.inj e2)
  exact lv_icmp_eq (tgt := 1551) C.1.1 C.1.2.1 dl_1378 (by decide) (fun _ => nx σ2 M2 H2 locs2 ls hI2 hP2 hS2 hl) (fun q => absurd rfl q)
set_option maxRecDepth 4000 in
theorem lc_40 {p : Program} {l : Launch} {e : Env} {s : State} {m : MethodId} {below : List Frame} {meth : Method} {c : Code} {b L : Nat} {xs : Nat → Int32} {g : cb_G} {cells slots : Nat} {Q : State → Prop} (C : lw_Cx p s m meth c b L xs g cells slots) {i : Nat} (hi : i + 6 ≤ L) (nx : lw_to p l e s m below meth c b g cells slots Q i 1551) : lw_to p l e s m below meth c b g cells slots Q i 1383 := by
  intro σ M H locs ls hI hP hS hl
  obtain ⟨z, hc⟩ := P_ofCause hI (t32 (xs (i + 1))) (t32 (xs (i + 2)))
  refine lv_aload_n C.1.1 C.1.2.1 dl_1383 rfl (lv_at hl 1 rfl) ?_
  refine lw_arg C hS hl (k := 1) (by omega) dl_1384 dl_1385 dl_1386 dl_1387 dl_1388 ?_
  refine lw_arg C hS hl (k := 2) (by omega) dl_1389 dl_1390 dl_1391 dl_1392 dl_1393 ?_
  refine lw_callI C (y := Y_CB_ofCause) (b0 := 0) (as := [vI (xs (i + 1)).toInt, vI (xs (i + 2)).toInt]) (rest := []) (fun _ _ => rfl) (rfl : cb_cl[10]? = some ("CauseBook", cb_T10, 14)) K_CB_ofCause cw_1015 (Nat.le_of_ble_eq_true rfl) (Nat.le_of_ble_eq_true rfl) dl_1394 rfl (Nat.le_of_ble_eq_true rfl) hc hP hS hl.1 ?_
  rintro z1 M1 H1 locs1 ⟨e1, hc1⟩ hP1 hS1
  cases vI_inj (Option.some.inj e1)
  refine lv_aload_n C.1.1 C.1.2.1 dl_1397 rfl (lv_at hl 2 rfl) ?_
  refine lw_arg C hS1 hl (k := 1) (by omega) dl_1398 dl_1399 dl_1400 dl_1401 dl_1402 ?_
  refine lw_arg C hS1 hl (k := 2) (by omega) dl_1403 dl_1404 dl_1405 dl_1406 dl_1407 ?_
  refine lw_callI C (y := Y_RM_ofCause) (b0 := 141) (as := [vI (xs (i + 1)).toInt, vI (xs (i + 2)).toInt]) (rest := [.int (Int32.ofInt z)]) (fun _ _ => rfl) (rfl : cb_cl[11]? = some ("CauseBookModel", cb_T11, 25)) K_RM_ofCause cw_1513 (Nat.le_of_ble_eq_true rfl) (Nat.le_of_ble_eq_true rfl) dl_1408 rfl (Nat.le_of_ble_eq_true rfl) hc1 hP1 hS1 hl.1 ?_
  rintro z2 M2 H2 locs2 ⟨e2, σ2, hI2⟩ hP2 hS2
  cases vI_inj (Option.some.inj e2)
  exact lv_icmp_eq (tgt := 1551) C.1.1 C.1.2.1 dl_1411 (by decide) (fun _ => nx σ2 M2 H2 locs2 ls hI2 hP2 hS2 hl) (fun q => absurd rfl q)
set_option maxRecDepth 4000 in
theorem lc_41 {p : Program} {l : Launch} {e : Env} {s : State} {m : MethodId} {below : List Frame} {meth : Method} {c : Code} {b L : Nat} {xs : Nat → Int32} {g : cb_G} {cells slots : Nat} {Q : State → Prop} (C : lw_Cx p s m meth c b L xs g cells slots) {i : Nat} (hi : i + 6 ≤ L) (nx : lw_to p l e s m below meth c b g cells slots Q i 1551) : lw_to p l e s m below meth c b g cells slots Q i 1416 := by
  intro σ M H locs ls hI hP hS hl
  obtain ⟨z, hc⟩ := P_ofSign hI (t32 (xs (i + 1))) (t32 (xs (i + 2)))
  refine lv_aload_n C.1.1 C.1.2.1 dl_1416 rfl (lv_at hl 1 rfl) ?_
  refine lw_arg C hS hl (k := 1) (by omega) dl_1417 dl_1418 dl_1419 dl_1420 dl_1421 ?_
  refine lw_arg C hS hl (k := 2) (by omega) dl_1422 dl_1423 dl_1424 dl_1425 dl_1426 ?_
  refine lw_callI C (y := Y_CB_ofSign) (b0 := 0) (as := [vI (xs (i + 1)).toInt, vI (xs (i + 2)).toInt]) (rest := []) (fun _ _ => rfl) (rfl : cb_cl[10]? = some ("CauseBook", cb_T10, 14)) K_CB_ofSign cw_1024 (Nat.le_of_ble_eq_true rfl) (Nat.le_of_ble_eq_true rfl) dl_1427 rfl (Nat.le_of_ble_eq_true rfl) hc hP hS hl.1 ?_
  rintro z1 M1 H1 locs1 ⟨e1, hc1⟩ hP1 hS1
  cases vI_inj (Option.some.inj e1)
  refine lv_aload_n C.1.1 C.1.2.1 dl_1430 rfl (lv_at hl 2 rfl) ?_
  refine lw_arg C hS1 hl (k := 1) (by omega) dl_1431 dl_1432 dl_1433 dl_1434 dl_1435 ?_
  refine lw_arg C hS1 hl (k := 2) (by omega) dl_1436 dl_1437 dl_1438 dl_1439 dl_1440 ?_
  refine lw_callI C (y := Y_RM_ofSign) (b0 := 141) (as := [vI (xs (i + 1)).toInt, vI (xs (i + 2)).toInt]) (rest := [.int (Int32.ofInt z)]) (fun _ _ => rfl) (rfl : cb_cl[11]? = some ("CauseBookModel", cb_T11, 25)) K_RM_ofSign cw_1517 (Nat.le_of_ble_eq_true rfl) (Nat.le_of_ble_eq_true rfl) dl_1441 rfl (Nat.le_of_ble_eq_true rfl) hc1 hP1 hS1 hl.1 ?_
  rintro z2 M2 H2 locs2 ⟨e2, σ2, hI2⟩ hP2 hS2
  cases vI_inj (Option.some.inj e2)
  exact lv_icmp_eq (tgt := 1551) C.1.1 C.1.2.1 dl_1444 (by decide) (fun _ => nx σ2 M2 H2 locs2 ls hI2 hP2 hS2 hl) (fun q => absurd rfl q)
set_option maxRecDepth 4000 in
theorem lc_42 {p : Program} {l : Launch} {e : Env} {s : State} {m : MethodId} {below : List Frame} {meth : Method} {c : Code} {b L : Nat} {xs : Nat → Int32} {g : cb_G} {cells slots : Nat} {Q : State → Prop} (C : lw_Cx p s m meth c b L xs g cells slots) {i : Nat} (hi : i + 6 ≤ L) (nx : lw_to p l e s m below meth c b g cells slots Q i 1551) : lw_to p l e s m below meth c b g cells slots Q i 1449 := by
  intro σ M H locs ls hI hP hS hl
  obtain ⟨z, hc⟩ := P_ofObject hI (t32 (xs (i + 1))) (t32 (xs (i + 2)))
  refine lv_aload_n C.1.1 C.1.2.1 dl_1449 rfl (lv_at hl 1 rfl) ?_
  refine lw_arg C hS hl (k := 1) (by omega) dl_1450 dl_1451 dl_1452 dl_1453 dl_1454 ?_
  refine lw_arg C hS hl (k := 2) (by omega) dl_1455 dl_1456 dl_1457 dl_1458 dl_1459 ?_
  refine lw_callI C (y := Y_CB_ofObject) (b0 := 0) (as := [vI (xs (i + 1)).toInt, vI (xs (i + 2)).toInt]) (rest := []) (fun _ _ => rfl) (rfl : cb_cl[10]? = some ("CauseBook", cb_T10, 14)) K_CB_ofObject cw_1029 (Nat.le_of_ble_eq_true rfl) (Nat.le_of_ble_eq_true rfl) dl_1460 rfl (Nat.le_of_ble_eq_true rfl) hc hP hS hl.1 ?_
  rintro z1 M1 H1 locs1 ⟨e1, hc1⟩ hP1 hS1
  cases vI_inj (Option.some.inj e1)
  refine lv_aload_n C.1.1 C.1.2.1 dl_1463 rfl (lv_at hl 2 rfl) ?_
  refine lw_arg C hS1 hl (k := 1) (by omega) dl_1464 dl_1465 dl_1466 dl_1467 dl_1468 ?_
  refine lw_arg C hS1 hl (k := 2) (by omega) dl_1469 dl_1470 dl_1471 dl_1472 dl_1473 ?_
  refine lw_callI C (y := Y_RM_ofObject) (b0 := 141) (as := [vI (xs (i + 1)).toInt, vI (xs (i + 2)).toInt]) (rest := [.int (Int32.ofInt z)]) (fun _ _ => rfl) (rfl : cb_cl[11]? = some ("CauseBookModel", cb_T11, 25)) K_RM_ofObject cw_1521 (Nat.le_of_ble_eq_true rfl) (Nat.le_of_ble_eq_true rfl) dl_1474 rfl (Nat.le_of_ble_eq_true rfl) hc1 hP1 hS1 hl.1 ?_
  rintro z2 M2 H2 locs2 ⟨e2, σ2, hI2⟩ hP2 hS2
  cases vI_inj (Option.some.inj e2)
  exact lv_icmp_eq (tgt := 1551) C.1.1 C.1.2.1 dl_1477 (by decide) (fun _ => nx σ2 M2 H2 locs2 ls hI2 hP2 hS2 hl) (fun q => absurd rfl q)
set_option maxRecDepth 4000 in
theorem lc_43 {p : Program} {l : Launch} {e : Env} {s : State} {m : MethodId} {below : List Frame} {meth : Method} {c : Code} {b L : Nat} {xs : Nat → Int32} {g : cb_G} {cells slots : Nat} {Q : State → Prop} (C : lw_Cx p s m meth c b L xs g cells slots) {i : Nat} (hi : i + 6 ≤ L) (nx : lw_to p l e s m below meth c b g cells slots Q i 1551) : lw_to p l e s m below meth c b g cells slots Q i 1482 := by
  intro σ M H locs ls hI hP hS hl
  obtain ⟨z, hc⟩ := P_ofRule hI (t32 (xs (i + 1))) (t32 (xs (i + 2)))
  refine lv_aload_n C.1.1 C.1.2.1 dl_1482 rfl (lv_at hl 1 rfl) ?_
  refine lw_arg C hS hl (k := 1) (by omega) dl_1483 dl_1484 dl_1485 dl_1486 dl_1487 ?_
  refine lw_arg C hS hl (k := 2) (by omega) dl_1488 dl_1489 dl_1490 dl_1491 dl_1492 ?_
  refine lw_callI C (y := Y_CB_ofRule) (b0 := 0) (as := [vI (xs (i + 1)).toInt, vI (xs (i + 2)).toInt]) (rest := []) (fun _ _ => rfl) (rfl : cb_cl[10]? = some ("CauseBook", cb_T10, 14)) K_CB_ofRule cw_1037 (Nat.le_of_ble_eq_true rfl) (Nat.le_of_ble_eq_true rfl) dl_1493 rfl (Nat.le_of_ble_eq_true rfl) hc hP hS hl.1 ?_
  rintro z1 M1 H1 locs1 ⟨e1, hc1⟩ hP1 hS1
  cases vI_inj (Option.some.inj e1)
  refine lv_aload_n C.1.1 C.1.2.1 dl_1496 rfl (lv_at hl 2 rfl) ?_
  refine lw_arg C hS1 hl (k := 1) (by omega) dl_1497 dl_1498 dl_1499 dl_1500 dl_1501 ?_
  refine lw_arg C hS1 hl (k := 2) (by omega) dl_1502 dl_1503 dl_1504 dl_1505 dl_1506 ?_
  refine lw_callI C (y := Y_RM_ofRule) (b0 := 141) (as := [vI (xs (i + 1)).toInt, vI (xs (i + 2)).toInt]) (rest := [.int (Int32.ofInt z)]) (fun _ _ => rfl) (rfl : cb_cl[11]? = some ("CauseBookModel", cb_T11, 25)) K_RM_ofRule cw_1525 (Nat.le_of_ble_eq_true rfl) (Nat.le_of_ble_eq_true rfl) dl_1507 rfl (Nat.le_of_ble_eq_true rfl) hc1 hP1 hS1 hl.1 ?_
  rintro z2 M2 H2 locs2 ⟨e2, σ2, hI2⟩ hP2 hS2
  cases vI_inj (Option.some.inj e2)
  exact lv_icmp_eq (tgt := 1551) C.1.1 C.1.2.1 dl_1510 (by decide) (fun _ => nx σ2 M2 H2 locs2 ls hI2 hP2 hS2 hl) (fun q => absurd rfl q)
set_option maxRecDepth 4000 in
theorem lc_44 {p : Program} {l : Launch} {e : Env} {s : State} {m : MethodId} {below : List Frame} {meth : Method} {c : Code} {b L : Nat} {xs : Nat → Int32} {g : cb_G} {cells slots : Nat} {Q : State → Prop} (C : lw_Cx p s m meth c b L xs g cells slots) {i : Nat} (hi : i + 6 ≤ L) (nx : lw_to p l e s m below meth c b g cells slots Q i 1551) : lw_to p l e s m below meth c b g cells slots Q i 1515 := by
  intro σ M H locs ls hI hP hS hl
  obtain ⟨z, hc⟩ := P_count hI (t32 (xs (i + 1)))
  refine lv_aload_n C.1.1 C.1.2.1 dl_1515 rfl (lv_at hl 1 rfl) ?_
  refine lw_arg C hS hl (k := 1) (by omega) dl_1516 dl_1517 dl_1518 dl_1519 dl_1520 ?_
  refine lw_callI C (y := Y_CB_count) (b0 := 0) (as := [vI (xs (i + 1)).toInt]) (rest := []) (fun _ _ => rfl) (rfl : cb_cl[10]? = some ("CauseBook", cb_T10, 14)) K_CB_count cw_1042 (Nat.le_of_ble_eq_true rfl) (Nat.le_of_ble_eq_true rfl) dl_1521 rfl (Nat.le_of_ble_eq_true rfl) hc hP hS hl.1 ?_
  rintro z1 M1 H1 locs1 ⟨e1, hc1⟩ hP1 hS1
  cases vI_inj (Option.some.inj e1)
  refine lv_aload_n C.1.1 C.1.2.1 dl_1524 rfl (lv_at hl 2 rfl) ?_
  refine lw_arg C hS1 hl (k := 1) (by omega) dl_1525 dl_1526 dl_1527 dl_1528 dl_1529 ?_
  refine lw_callI C (y := Y_RM_count) (b0 := 141) (as := [vI (xs (i + 1)).toInt]) (rest := [.int (Int32.ofInt z)]) (fun _ _ => rfl) (rfl : cb_cl[11]? = some ("CauseBookModel", cb_T11, 25)) K_RM_count cw_1529 (Nat.le_of_ble_eq_true rfl) (Nat.le_of_ble_eq_true rfl) dl_1530 rfl (Nat.le_of_ble_eq_true rfl) hc1 hP1 hS1 hl.1 ?_
  rintro z2 M2 H2 locs2 ⟨e2, σ2, hI2⟩ hP2 hS2
  cases vI_inj (Option.some.inj e2)
  exact lv_icmp_eq (tgt := 1551) C.1.1 C.1.2.1 dl_1533 (by decide) (fun _ => nx σ2 M2 H2 locs2 ls hI2 hP2 hS2 hl) (fun q => absurd rfl q)
set_option maxRecDepth 4000 in
theorem lc_45 {p : Program} {l : Launch} {e : Env} {s : State} {m : MethodId} {below : List Frame} {meth : Method} {c : Code} {b L : Nat} {xs : Nat → Int32} {g : cb_G} {cells slots : Nat} {Q : State → Prop} (C : lw_Cx p s m meth c b L xs g cells slots) {i : Nat} (hi : i + 6 ≤ L) (nx : lw_to p l e s m below meth c b g cells slots Q i 1551) : lw_to p l e s m below meth c b g cells slots Q i 1538 := by
  intro σ M H locs ls hI hP hS hl
  obtain ⟨z, hc⟩ := P_status hI
  refine lv_aload_n C.1.1 C.1.2.1 dl_1538 rfl (lv_at hl 1 rfl) ?_
  refine lw_callI C (y := Y_CB_status) (b0 := 0) (as := []) (rest := []) (fun _ _ => rfl) (rfl : cb_cl[10]? = some ("CauseBook", cb_T10, 14)) K_CB_status cw_1046 (Nat.le_of_ble_eq_true rfl) (Nat.le_of_ble_eq_true rfl) dl_1539 rfl (Nat.le_of_ble_eq_true rfl) hc hP hS hl.1 ?_
  rintro z1 M1 H1 locs1 ⟨e1, hc1⟩ hP1 hS1
  cases vI_inj (Option.some.inj e1)
  refine lv_aload_n C.1.1 C.1.2.1 dl_1542 rfl (lv_at hl 2 rfl) ?_
  refine lw_callI C (y := Y_RM_status) (b0 := 141) (as := []) (rest := [.int (Int32.ofInt z)]) (fun _ _ => rfl) (rfl : cb_cl[11]? = some ("CauseBookModel", cb_T11, 25)) K_RM_status cw_1534 (Nat.le_of_ble_eq_true rfl) (Nat.le_of_ble_eq_true rfl) dl_1543 rfl (Nat.le_of_ble_eq_true rfl) hc1 hP1 hS1 hl.1 ?_
  rintro z2 M2 H2 locs2 ⟨e2, σ2, hI2⟩ hP2 hS2
  cases vI_inj (Option.some.inj e2)
  exact lv_icmp_eq (tgt := 1551) C.1.1 C.1.2.1 dl_1546 (by decide) (fun _ => nx σ2 M2 H2 locs2 ls hI2 hP2 hS2 hl) (fun q => absurd rfl q)
