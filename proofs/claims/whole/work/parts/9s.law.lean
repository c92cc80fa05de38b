section
/-! ===== the law's cases ===== -/
variable {xl : Nat} {xs : Nat → Int32} {k n i : Nat} {I : aI} {L : aL} {Q : aQ}
abbrev aLW (xl : Nat) (xs : Nat → Int32) (k n i pc : Nat) (st : List Value) (I : aI) (L : aL) (Q : aQ) : Prop := aB (some (xl, xs)) mL_law 1000 k n pc [.retAddr 2, .ref 0, .ref 880, .int (nI i)] st I L (cf_G (I 856 10)) Q
theorem lw_rd {c : Nat} {cz : Int} {pc : Nat} {st : List Value} (d0 : decode cL_law pc = .ok (.aload_n 0, 1)) (d1 : decode cL_law (pc + 1) = .ok (.iload_n 3, 1)) (d2 : decode cL_law (pc + 2) = .ok (.iconst cz, 1)) (hc : Int32.ofInt cz = nI c) (d3 : decode cL_law (pc + 3) = .ok (.iadd, 1)) (d4 : decode cL_law (pc + 4) = .ok (.iaload, 1)) (hx : xl ≤ 2560) (hi : i + c < xl)
    (kk : aLW xl xs k n i (pc + 5) (.int (xs (i + c)) :: st) I L Q) : aLW xl xs k n i pc st I L Q := by
  refine ar_sload_n (x := 1) d0 rfl ?_
  refine ar_iload_n d1 rfl ?_
  refine ar_iconst (v := nI c) d2 hc ?_
  refine ar_iadd (v := nI (i + c)) d3 (nI_add i c) ?_
  refine ar_sald (j := i + c) d4 (vp_in_nI hi (by omega)) (nI_clamp (by omega)) ?_
  exact kk
theorem lg_cmp_rf (x : Int64) : lg_cmp x x = 0 := by
  unfold lg_cmp
  simp
set_option maxRecDepth 100000 in
theorem lw_feed (hx : xl ≤ 2560) (hi : i + 5 ≤ xl) (h : gInv I L) (HK : ∀ (I : aI) (L : aL), gInv I L → aLW xl xs k n i 1189 [] I L Q) : aLW xl xs k n i 176 [] I L Q := by
  refine ar_aload_n dL_law_176 rfl ?_
  refine lw_rd (c := 1) dL_law_177 dL_law_178 dL_law_179 (by decide) dL_law_180 dL_law_181 hx (by omega) ?_
  refine ar_i2l dL_law_182 rfl ?_
  refine ar_bipush (v := (32 : Int32)) dL_law_183 (by decide) ?_
  refine ar_lshl dL_law_185 rfl ?_
  refine lw_rd (c := 2) dL_law_186 dL_law_187 dL_law_188 (by decide) dL_law_189 dL_law_190 hx (by omega) ?_
  refine ar_i2l dL_law_191 rfl ?_
  refine ar_ldc2 (v := (4294967295 : Int64)) dL_law_192 (am_mem 1113 (by decide +kernel) rfl) ?_
  refine ar_land dL_law_195 rfl ?_
  refine ar_lor dL_law_196 rfl ?_
  refine lw_rd (c := 3) dL_law_197 dL_law_198 dL_law_199 (by decide) dL_law_200 dL_law_201 hx (by omega) ?_
  refine pr_callVi (Y := mX5_feed) (vs := [.long ((((xs (i + 1)).toInt64 <<< ((32 : Int32).toInt64 &&& 63)) ||| ((xs (i + 2)).toInt64 &&& (4294967295 : Int64)))), .int (xs (i + 3))]) (st := []) dL_law_202 lkL_15 (b := 0) (by decide) rfl MX5_feed rfl (zc_X5_feed _ _ _ _ _ (q_feed h _ _)) (by decide) (Nat.le_of_ble_eq_true rfl) (fun I1 L1 r1 h1 => ?_)
  refine ar_aload_n dL_law_205 rfl ?_
  refine lw_rd (c := 1) dL_law_206 dL_law_207 dL_law_208 (by decide) dL_law_209 dL_law_210 hx (by omega) ?_
  refine ar_i2l dL_law_211 rfl ?_
  refine ar_bipush (v := (32 : Int32)) dL_law_212 (by decide) ?_
  refine ar_lshl dL_law_214 rfl ?_
  refine lw_rd (c := 2) dL_law_215 dL_law_216 dL_law_217 (by decide) dL_law_218 dL_law_219 hx (by omega) ?_
  refine ar_i2l dL_law_220 rfl ?_
  refine ar_ldc2 (v := (4294967295 : Int64)) dL_law_221 (am_mem 1113 (by decide +kernel) rfl) ?_
  refine ar_land dL_law_224 rfl ?_
  refine ar_lor dL_law_225 rfl ?_
  refine lw_rd (c := 3) dL_law_226 dL_law_227 dL_law_228 (by decide) dL_law_229 dL_law_230 hx (by omega) ?_
  refine pr_callVi (Y := mX6_feed) (vs := [.long ((((xs (i + 1)).toInt64 <<< ((32 : Int32).toInt64 &&& 63)) ||| ((xs (i + 2)).toInt64 &&& (4294967295 : Int64)))), .int (xs (i + 3))]) (st := [.int r1]) dL_law_231 lkL_19 (b := 880) (by decide) rfl MX6_feed rfl (zc_X6_feed _ _ _ _ _ h1) (by decide) (Nat.le_of_ble_eq_true rfl) (fun I2 L2 r2 h2 => ?_)
  exact ar_icmp_eq (tgt := 1189) dL_law_234 (by decide) (fun _ => HK _ _ h2.2) (fun c => absurd h2.1 c)
set_option maxRecDepth 100000 in
theorem lw_scene (hx : xl ≤ 2560) (hi : i + 5 ≤ xl) (h : gInv I L) (HK : ∀ (I : aI) (L : aL), gInv I L → aLW xl xs k n i 1189 [] I L Q) : aLW xl xs k n i 239 [] I L Q := by
  refine ar_aload_n dL_law_239 rfl ?_
  refine lw_rd (c := 1) dL_law_240 dL_law_241 dL_law_242 (by decide) dL_law_243 dL_law_244 hx (by omega) ?_
  refine lw_rd (c := 2) dL_law_245 dL_law_246 dL_law_247 (by decide) dL_law_248 dL_law_249 hx (by omega) ?_
  refine pr_callVi (Y := mX5_scene) (vs := [.int (xs (i + 1)), .int (xs (i + 2))]) (st := []) dL_law_250 lkL_20 (b := 0) (by decide) rfl MX5_scene rfl (zc_X5_scene CN HC_need _ _ _ _ _ (q_scene h _ _)) (by decide) (Nat.le_of_ble_eq_true rfl) (fun I1 L1 r1 h1 => ?_)
  refine ar_aload_n dL_law_253 rfl ?_
  refine lw_rd (c := 1) dL_law_254 dL_law_255 dL_law_256 (by decide) dL_law_257 dL_law_258 hx (by omega) ?_
  refine lw_rd (c := 2) dL_law_259 dL_law_260 dL_law_261 (by decide) dL_law_262 dL_law_263 hx (by omega) ?_
  refine pr_callVi (Y := mX6_scene) (vs := [.int (xs (i + 1)), .int (xs (i + 2))]) (st := [.int r1]) dL_law_264 lkL_24 (b := 880) (by decide) rfl MX6_scene rfl (zc_X6_scene CR HR_need _ _ _ _ _ h1) (by decide) (Nat.le_of_ble_eq_true rfl) (fun I2 L2 r2 h2 => ?_)
  exact ar_icmp_eq (tgt := 1189) dL_law_267 (by decide) (fun _ => HK _ _ h2.2) (fun c => absurd h2.1 c)
set_option maxRecDepth 100000 in
theorem lw_loss (hx : xl ≤ 2560) (hi : i + 5 ≤ xl) (h : gInv I L) (HK : ∀ (I : aI) (L : aL), gInv I L → aLW xl xs k n i 1189 [] I L Q) : aLW xl xs k n i 272 [] I L Q := by
  refine ar_aload_n dL_law_272 rfl ?_
  refine lw_rd (c := 1) dL_law_273 dL_law_274 dL_law_275 (by decide) dL_law_276 dL_law_277 hx (by omega) ?_
  refine lw_rd (c := 2) dL_law_278 dL_law_279 dL_law_280 (by decide) dL_law_281 dL_law_282 hx (by omega) ?_
  refine pr_callVi (Y := mX5_loss) (vs := [.int (xs (i + 1)), .int (xs (i + 2))]) (st := []) dL_law_283 lkL_25 (b := 0) (by decide) rfl MX5_loss rfl (zc_X5_loss _ _ _ _ _ (q_loss h _ _)) (by decide) (Nat.le_of_ble_eq_true rfl) (fun I1 L1 r1 h1 => ?_)
  refine ar_aload_n dL_law_286 rfl ?_
  refine lw_rd (c := 1) dL_law_287 dL_law_288 dL_law_289 (by decide) dL_law_290 dL_law_291 hx (by omega) ?_
  refine lw_rd (c := 2) dL_law_292 dL_law_293 dL_law_294 (by decide) dL_law_295 dL_law_296 hx (by omega) ?_
  refine pr_callVi (Y := mX6_loss) (vs := [.int (xs (i + 1)), .int (xs (i + 2))]) (st := [.int r1]) dL_law_297 lkL_28 (b := 880) (by decide) rfl MX6_loss rfl (zc_X6_loss _ _ _ _ _ h1) (by decide) (Nat.le_of_ble_eq_true rfl) (fun I2 L2 r2 h2 => ?_)
  exact ar_icmp_eq (tgt := 1189) dL_law_300 (by decide) (fun _ => HK _ _ h2.2) (fun c => absurd h2.1 c)
set_option maxRecDepth 100000 in
theorem lw_choice (hx : xl ≤ 2560) (hi : i + 5 ≤ xl) (h : gInv I L) (HK : ∀ (I : aI) (L : aL), gInv I L → aLW xl xs k n i 1189 [] I L Q) : aLW xl xs k n i 305 [] I L Q := by
  refine ar_aload_n dL_law_305 rfl ?_
  refine lw_rd (c := 1) dL_law_306 dL_law_307 dL_law_308 (by decide) dL_law_309 dL_law_310 hx (by omega) ?_
  refine lw_rd (c := 2) dL_law_311 dL_law_312 dL_law_313 (by decide) dL_law_314 dL_law_315 hx (by omega) ?_
  refine lw_rd (c := 3) dL_law_316 dL_law_317 dL_law_318 (by decide) dL_law_319 dL_law_320 hx (by omega) ?_
  refine pr_callVi (Y := mX5_choice) (vs := [.int (xs (i + 1)), .int (xs (i + 2)), .int (xs (i + 3))]) (st := []) dL_law_321 lkL_29 (b := 0) (by decide) rfl MX5_choice rfl (zc_X5_choice CN HC_need _ _ _ _ _ _ (q_choice h _ _ _)) (by decide) (Nat.le_of_ble_eq_true rfl) (fun I1 L1 r1 h1 => ?_)
  refine ar_aload_n dL_law_324 rfl ?_
  refine lw_rd (c := 1) dL_law_325 dL_law_326 dL_law_327 (by decide) dL_law_328 dL_law_329 hx (by omega) ?_
  refine lw_rd (c := 2) dL_law_330 dL_law_331 dL_law_332 (by decide) dL_law_333 dL_law_334 hx (by omega) ?_
  refine lw_rd (c := 3) dL_law_335 dL_law_336 dL_law_337 (by decide) dL_law_338 dL_law_339 hx (by omega) ?_
  refine pr_callVi (Y := mX6_choice) (vs := [.int (xs (i + 1)), .int (xs (i + 2)), .int (xs (i + 3))]) (st := [.int r1]) dL_law_340 lkL_33 (b := 880) (by decide) rfl MX6_choice rfl (zc_X6_choice CR HR_need _ _ _ _ _ _ h1) (by decide) (Nat.le_of_ble_eq_true rfl) (fun I2 L2 r2 h2 => ?_)
  exact ar_icmp_eq (tgt := 1189) dL_law_343 (by decide) (fun _ => HK _ _ h2.2) (fun c => absurd h2.1 c)
set_option maxRecDepth 100000 in
theorem lw_gives (hx : xl ≤ 2560) (hi : i + 5 ≤ xl) (h : gInv I L) (HK : ∀ (I : aI) (L : aL), gInv I L → aLW xl xs k n i 1189 [] I L Q) : aLW xl xs k n i 348 [] I L Q := by
  refine ar_aload_n dL_law_348 rfl ?_
  refine lw_rd (c := 1) dL_law_349 dL_law_350 dL_law_351 (by decide) dL_law_352 dL_law_353 hx (by omega) ?_
  refine lw_rd (c := 2) dL_law_354 dL_law_355 dL_law_356 (by decide) dL_law_357 dL_law_358 hx (by omega) ?_
  refine lw_rd (c := 3) dL_law_359 dL_law_360 dL_law_361 (by decide) dL_law_362 dL_law_363 hx (by omega) ?_
  refine lw_rd (c := 4) dL_law_364 dL_law_365 dL_law_366 (by decide) dL_law_367 dL_law_368 hx (by omega) ?_
  refine pr_callVi (Y := mX5_gives) (vs := [.int (xs (i + 1)), .int (xs (i + 2)), .int (xs (i + 3)), .int (xs (i + 4))]) (st := []) dL_law_369 lkL_34 (b := 0) (by decide) rfl MX5_gives rfl (zc_X5_gives _ _ _ _ _ _ _ (q_gives h _ _ _ _)) (by decide) (Nat.le_of_ble_eq_true rfl) (fun I1 L1 r1 h1 => ?_)
  refine ar_aload_n dL_law_372 rfl ?_
  refine lw_rd (c := 1) dL_law_373 dL_law_374 dL_law_375 (by decide) dL_law_376 dL_law_377 hx (by omega) ?_
  refine lw_rd (c := 2) dL_law_378 dL_law_379 dL_law_380 (by decide) dL_law_381 dL_law_382 hx (by omega) ?_
  refine lw_rd (c := 3) dL_law_383 dL_law_384 dL_law_385 (by decide) dL_law_386 dL_law_387 hx (by omega) ?_
  refine lw_rd (c := 4) dL_law_388 dL_law_389 dL_law_390 (by decide) dL_law_391 dL_law_392 hx (by omega) ?_
  refine pr_callVi (Y := mX6_gives) (vs := [.int (xs (i + 1)), .int (xs (i + 2)), .int (xs (i + 3)), .int (xs (i + 4))]) (st := [.int r1]) dL_law_393 lkL_38 (b := 880) (by decide) rfl MX6_gives rfl (zc_X6_gives _ _ _ _ _ _ _ h1) (by decide) (Nat.le_of_ble_eq_true rfl) (fun I2 L2 r2 h2 => ?_)
  exact ar_icmp_eq (tgt := 1189) dL_law_396 (by decide) (fun _ => HK _ _ h2.2) (fun c => absurd h2.1 c)
set_option maxRecDepth 100000 in
theorem lw_line (hx : xl ≤ 2560) (hi : i + 5 ≤ xl) (h : gInv I L) (HK : ∀ (I : aI) (L : aL), gInv I L → aLW xl xs k n i 1189 [] I L Q) : aLW xl xs k n i 401 [] I L Q := by
  refine ar_aload_n dL_law_401 rfl ?_
  refine lw_rd (c := 1) dL_law_402 dL_law_403 dL_law_404 (by decide) dL_law_405 dL_law_406 hx (by omega) ?_
  refine lw_rd (c := 2) dL_law_407 dL_law_408 dL_law_409 (by decide) dL_law_410 dL_law_411 hx (by omega) ?_
  refine lw_rd (c := 3) dL_law_412 dL_law_413 dL_law_414 (by decide) dL_law_415 dL_law_416 hx (by omega) ?_
  refine lw_rd (c := 4) dL_law_417 dL_law_418 dL_law_419 (by decide) dL_law_420 dL_law_421 hx (by omega) ?_
  refine pr_callVi (Y := mX5_line) (vs := [.int (xs (i + 1)), .int (xs (i + 2)), .int (xs (i + 3)), .int (xs (i + 4))]) (st := []) dL_law_422 lkL_39 (b := 0) (by decide) rfl MX5_line rfl (zc_X5_line _ _ _ _ _ _ _ (q_line h _ _ _ _)) (by decide) (Nat.le_of_ble_eq_true rfl) (fun I1 L1 r1 h1 => ?_)
  refine ar_aload_n dL_law_425 rfl ?_
  refine lw_rd (c := 1) dL_law_426 dL_law_427 dL_law_428 (by decide) dL_law_429 dL_law_430 hx (by omega) ?_
  refine lw_rd (c := 2) dL_law_431 dL_law_432 dL_law_433 (by decide) dL_law_434 dL_law_435 hx (by omega) ?_
  refine lw_rd (c := 3) dL_law_436 dL_law_437 dL_law_438 (by decide) dL_law_439 dL_law_440 hx (by omega) ?_
  refine lw_rd (c := 4) dL_law_441 dL_law_442 dL_law_443 (by decide) dL_law_444 dL_law_445 hx (by omega) ?_
  refine pr_callVi (Y := mX6_line) (vs := [.int (xs (i + 1)), .int (xs (i + 2)), .int (xs (i + 3)), .int (xs (i + 4))]) (st := [.int r1]) dL_law_446 lkL_42 (b := 880) (by decide) rfl MX6_line rfl (zc_X6_line _ _ _ _ _ _ _ h1) (by decide) (Nat.le_of_ble_eq_true rfl) (fun I2 L2 r2 h2 => ?_)
  exact ar_icmp_eq (tgt := 1189) dL_law_449 (by decide) (fun _ => HK _ _ h2.2) (fun c => absurd h2.1 c)
set_option maxRecDepth 100000 in
theorem lw_drop (hx : xl ≤ 2560) (hi : i + 5 ≤ xl) (h : gInv I L) (HK : ∀ (I : aI) (L : aL), gInv I L → aLW xl xs k n i 1189 [] I L Q) : aLW xl xs k n i 454 [] I L Q := by
  refine ar_aload_n dL_law_454 rfl ?_
  refine lw_rd (c := 1) dL_law_455 dL_law_456 dL_law_457 (by decide) dL_law_458 dL_law_459 hx (by omega) ?_
  refine lw_rd (c := 2) dL_law_460 dL_law_461 dL_law_462 (by decide) dL_law_463 dL_law_464 hx (by omega) ?_
  refine pr_callVi (Y := mX5_drop) (vs := [.int (xs (i + 1)), .int (xs (i + 2))]) (st := []) dL_law_465 lkL_43 (b := 0) (by decide) rfl MX5_drop rfl (zc_X5_drop _ _ _ _ _ (q_drop h _ _)) (by decide) (Nat.le_of_ble_eq_true rfl) (fun I1 L1 r1 h1 => ?_)
  refine ar_aload_n dL_law_468 rfl ?_
  refine lw_rd (c := 1) dL_law_469 dL_law_470 dL_law_471 (by decide) dL_law_472 dL_law_473 hx (by omega) ?_
  refine lw_rd (c := 2) dL_law_474 dL_law_475 dL_law_476 (by decide) dL_law_477 dL_law_478 hx (by omega) ?_
  refine pr_callVi (Y := mX6_drop) (vs := [.int (xs (i + 1)), .int (xs (i + 2))]) (st := [.int r1]) dL_law_479 lkL_46 (b := 880) (by decide) rfl MX6_drop rfl (zc_X6_drop _ _ _ _ _ h1) (by decide) (Nat.le_of_ble_eq_true rfl) (fun I2 L2 r2 h2 => ?_)
  exact ar_icmp_eq (tgt := 1189) dL_law_482 (by decide) (fun _ => HK _ _ h2.2) (fun c => absurd h2.1 c)
set_option maxRecDepth 100000 in
theorem lw_start (hx : xl ≤ 2560) (hi : i + 5 ≤ xl) (h : gInv I L) (HK : ∀ (I : aI) (L : aL), gInv I L → aLW xl xs k n i 1189 [] I L Q) : aLW xl xs k n i 487 [] I L Q := by
  refine ar_aload_n dL_law_487 rfl ?_
  refine lw_rd (c := 1) dL_law_488 dL_law_489 dL_law_490 (by decide) dL_law_491 dL_law_492 hx (by omega) ?_
  refine pr_callVi (Y := mX5_start) (vs := [.int (xs (i + 1))]) (st := []) dL_law_493 lkL_47 (b := 0) (by decide) rfl MX5_start rfl (zc_X5_start _ _ _ _ (q_start h _)) (by decide) (Nat.le_of_ble_eq_true rfl) (fun I1 L1 r1 h1 => ?_)
  refine ar_aload_n dL_law_496 rfl ?_
  refine lw_rd (c := 1) dL_law_497 dL_law_498 dL_law_499 (by decide) dL_law_500 dL_law_501 hx (by omega) ?_
  refine pr_callVi (Y := mX6_start) (vs := [.int (xs (i + 1))]) (st := [.int r1]) dL_law_502 lkL_51 (b := 880) (by decide) rfl MX6_start rfl (zc_X6_start _ _ _ _ h1) (by decide) (Nat.le_of_ble_eq_true rfl) (fun I2 L2 r2 h2 => ?_)
  exact ar_icmp_eq (tgt := 1189) dL_law_505 (by decide) (fun _ => HK _ _ h2.2) (fun c => absurd h2.1 c)
set_option maxRecDepth 100000 in
theorem lw_of (hx : xl ≤ 2560) (hi : i + 5 ≤ xl) (h : gInv I L) (HK : ∀ (I : aI) (L : aL), gInv I L → aLW xl xs k n i 1189 [] I L Q) : aLW xl xs k n i 510 [] I L Q := by
  refine ar_aload_n dL_law_510 rfl ?_
  refine lw_rd (c := 1) dL_law_511 dL_law_512 dL_law_513 (by decide) dL_law_514 dL_law_515 hx (by omega) ?_
  refine lw_rd (c := 2) dL_law_516 dL_law_517 dL_law_518 (by decide) dL_law_519 dL_law_520 hx (by omega) ?_
  refine pr_callVi (Y := mX5_of) (vs := [.int (xs (i + 1)), .int (xs (i + 2))]) (st := []) dL_law_521 lkL_52 (b := 0) (by decide) rfl MX5_of rfl (zc_X5_of _ _ _ _ _ (q_of h _ _)) (by decide) (Nat.le_of_ble_eq_true rfl) (fun I1 L1 r1 h1 => ?_)
  refine ar_aload_n dL_law_524 rfl ?_
  refine lw_rd (c := 1) dL_law_525 dL_law_526 dL_law_527 (by decide) dL_law_528 dL_law_529 hx (by omega) ?_
  refine lw_rd (c := 2) dL_law_530 dL_law_531 dL_law_532 (by decide) dL_law_533 dL_law_534 hx (by omega) ?_
  refine pr_callVi (Y := mX6_of) (vs := [.int (xs (i + 1)), .int (xs (i + 2))]) (st := [.int r1]) dL_law_535 lkL_55 (b := 880) (by decide) rfl MX6_of rfl (zc_X6_of _ _ _ _ _ h1) (by decide) (Nat.le_of_ble_eq_true rfl) (fun I2 L2 r2 h2 => ?_)
  exact ar_icmp_eq (tgt := 1189) dL_law_538 (by decide) (fun _ => HK _ _ h2.2) (fun c => absurd h2.1 c)
set_option maxRecDepth 100000 in
theorem lw_about (hx : xl ≤ 2560) (hi : i + 5 ≤ xl) (h : gInv I L) (HK : ∀ (I : aI) (L : aL), gInv I L → aLW xl xs k n i 1189 [] I L Q) : aLW xl xs k n i 543 [] I L Q := by
  refine ar_aload_n dL_law_543 rfl ?_
  refine lw_rd (c := 1) dL_law_544 dL_law_545 dL_law_546 (by decide) dL_law_547 dL_law_548 hx (by omega) ?_
  refine lw_rd (c := 2) dL_law_549 dL_law_550 dL_law_551 (by decide) dL_law_552 dL_law_553 hx (by omega) ?_
  refine lw_rd (c := 3) dL_law_554 dL_law_555 dL_law_556 (by decide) dL_law_557 dL_law_558 hx (by omega) ?_
  refine pr_callVi (Y := mX5_about) (vs := [.int (xs (i + 1)), .int (xs (i + 2)), .int (xs (i + 3))]) (st := []) dL_law_559 lkL_56 (b := 0) (by decide) rfl MX5_about rfl (zc_X5_about _ _ _ _ _ _ (q_about h _ _ _)) (by decide) (Nat.le_of_ble_eq_true rfl) (fun I1 L1 r1 h1 => ?_)
  refine ar_aload_n dL_law_562 rfl ?_
  refine lw_rd (c := 1) dL_law_563 dL_law_564 dL_law_565 (by decide) dL_law_566 dL_law_567 hx (by omega) ?_
  refine lw_rd (c := 2) dL_law_568 dL_law_569 dL_law_570 (by decide) dL_law_571 dL_law_572 hx (by omega) ?_
  refine lw_rd (c := 3) dL_law_573 dL_law_574 dL_law_575 (by decide) dL_law_576 dL_law_577 hx (by omega) ?_
  refine pr_callVi (Y := mX6_about) (vs := [.int (xs (i + 1)), .int (xs (i + 2)), .int (xs (i + 3))]) (st := [.int r1]) dL_law_578 lkL_59 (b := 880) (by decide) rfl MX6_about rfl (zc_X6_about _ _ _ _ _ _ h1) (by decide) (Nat.le_of_ble_eq_true rfl) (fun I2 L2 r2 h2 => ?_)
  exact ar_icmp_eq (tgt := 1189) dL_law_581 (by decide) (fun _ => HK _ _ h2.2) (fun c => absurd h2.1 c)
set_option maxRecDepth 100000 in
theorem lw_states (hx : xl ≤ 2560) (hi : i + 5 ≤ xl) (h : gInv I L) (HK : ∀ (I : aI) (L : aL), gInv I L → aLW xl xs k n i 1189 [] I L Q) : aLW xl xs k n i 586 [] I L Q := by
  refine ar_aload_n dL_law_586 rfl ?_
  refine lw_rd (c := 1) dL_law_587 dL_law_588 dL_law_589 (by decide) dL_law_590 dL_law_591 hx (by omega) ?_
  refine pr_callVi (Y := mX5_states) (vs := [.int (xs (i + 1))]) (st := []) dL_law_592 lkL_60 (b := 0) (by decide) rfl MX5_states rfl (zc_X5_states _ _ _ _ (q_states h _)) (by decide) (Nat.le_of_ble_eq_true rfl) (fun I1 L1 r1 h1 => ?_)
  refine ar_aload_n dL_law_595 rfl ?_
  refine lw_rd (c := 1) dL_law_596 dL_law_597 dL_law_598 (by decide) dL_law_599 dL_law_600 hx (by omega) ?_
  refine pr_callVi (Y := mX6_states) (vs := [.int (xs (i + 1))]) (st := [.int r1]) dL_law_601 lkL_63 (b := 880) (by decide) rfl MX6_states rfl (zc_X6_states _ _ _ _ h1) (by decide) (Nat.le_of_ble_eq_true rfl) (fun I2 L2 r2 h2 => ?_)
  exact ar_icmp_eq (tgt := 1189) dL_law_604 (by decide) (fun _ => HK _ _ h2.2) (fun c => absurd h2.1 c)
set_option maxRecDepth 100000 in
theorem lw_reached (hx : xl ≤ 2560) (hi : i + 5 ≤ xl) (h : gInv I L) (HK : ∀ (I : aI) (L : aL), gInv I L → aLW xl xs k n i 1189 [] I L Q) : aLW xl xs k n i 609 [] I L Q := by
  refine ar_aload_n dL_law_609 rfl ?_
  refine lw_rd (c := 1) dL_law_610 dL_law_611 dL_law_612 (by decide) dL_law_613 dL_law_614 hx (by omega) ?_
  refine pr_callVi (Y := mX5_reached) (vs := [.int (xs (i + 1))]) (st := []) dL_law_615 lkL_64 (b := 0) (by decide) rfl MX5_reached rfl (zc_X5_reached _ _ _ _ (q_reached h _)) (by decide) (Nat.le_of_ble_eq_true rfl) (fun I1 L1 r1 h1 => ?_)
  refine ar_aload_n dL_law_618 rfl ?_
  refine lw_rd (c := 1) dL_law_619 dL_law_620 dL_law_621 (by decide) dL_law_622 dL_law_623 hx (by omega) ?_
  refine pr_callVi (Y := mX6_reached) (vs := [.int (xs (i + 1))]) (st := [.int r1]) dL_law_624 lkL_67 (b := 880) (by decide) rfl MX6_reached rfl (zc_X6_reached _ _ _ _ h1) (by decide) (Nat.le_of_ble_eq_true rfl) (fun I2 L2 r2 h2 => ?_)
  exact ar_icmp_eq (tgt := 1189) dL_law_627 (by decide) (fun _ => HK _ _ h2.2) (fun c => absurd h2.1 c)
set_option maxRecDepth 100000 in
theorem lw_live (hx : xl ≤ 2560) (hi : i + 5 ≤ xl) (h : gInv I L) (HK : ∀ (I : aI) (L : aL), gInv I L → aLW xl xs k n i 1189 [] I L Q) : aLW xl xs k n i 632 [] I L Q := by
  refine ar_aload_n dL_law_632 rfl ?_
  refine lw_rd (c := 1) dL_law_633 dL_law_634 dL_law_635 (by decide) dL_law_636 dL_law_637 hx (by omega) ?_
  refine pr_callVi (Y := mX5_live) (vs := [.int (xs (i + 1))]) (st := []) dL_law_638 lkL_68 (b := 0) (by decide) rfl MX5_live rfl (zc_X5_live _ _ _ _ (q_live h _)) (by decide) (Nat.le_of_ble_eq_true rfl) (fun I1 L1 r1 h1 => ?_)
  refine ar_aload_n dL_law_641 rfl ?_
  refine lw_rd (c := 1) dL_law_642 dL_law_643 dL_law_644 (by decide) dL_law_645 dL_law_646 hx (by omega) ?_
  refine pr_callVi (Y := mX6_live) (vs := [.int (xs (i + 1))]) (st := [.int r1]) dL_law_647 lkL_71 (b := 880) (by decide) rfl MX6_live rfl (zc_X6_live _ _ _ _ h1) (by decide) (Nat.le_of_ble_eq_true rfl) (fun I2 L2 r2 h2 => ?_)
  exact ar_icmp_eq (tgt := 1189) dL_law_650 (by decide) (fun _ => HK _ _ h2.2) (fun c => absurd h2.1 c)
set_option maxRecDepth 100000 in
theorem lw_open (hx : xl ≤ 2560) (hi : i + 5 ≤ xl) (h : gInv I L) (HK : ∀ (I : aI) (L : aL), gInv I L → aLW xl xs k n i 1189 [] I L Q) : aLW xl xs k n i 655 [] I L Q := by
  refine ar_aload_n dL_law_655 rfl ?_
  refine lw_rd (c := 1) dL_law_656 dL_law_657 dL_law_658 (by decide) dL_law_659 dL_law_660 hx (by omega) ?_
  refine lw_rd (c := 2) dL_law_661 dL_law_662 dL_law_663 (by decide) dL_law_664 dL_law_665 hx (by omega) ?_
  refine pr_callVi (Y := mX5_open) (vs := [.int (xs (i + 1)), .int (xs (i + 2))]) (st := []) dL_law_666 lkL_72 (b := 0) (by decide) rfl MX5_open rfl (zc_X5_open _ _ _ _ _ (q_open h _ _)) (by decide) (Nat.le_of_ble_eq_true rfl) (fun I1 L1 r1 h1 => ?_)
  refine ar_aload_n dL_law_669 rfl ?_
  refine lw_rd (c := 1) dL_law_670 dL_law_671 dL_law_672 (by decide) dL_law_673 dL_law_674 hx (by omega) ?_
  refine lw_rd (c := 2) dL_law_675 dL_law_676 dL_law_677 (by decide) dL_law_678 dL_law_679 hx (by omega) ?_
  refine pr_callVi (Y := mX6_open) (vs := [.int (xs (i + 1)), .int (xs (i + 2))]) (st := [.int r1]) dL_law_680 lkL_75 (b := 880) (by decide) rfl MX6_open rfl (zc_X6_open _ _ _ _ _ h1) (by decide) (Nat.le_of_ble_eq_true rfl) (fun I2 L2 r2 h2 => ?_)
  exact ar_icmp_eq (tgt := 1189) dL_law_683 (by decide) (fun _ => HK _ _ h2.2) (fun c => absurd h2.1 c)
set_option maxRecDepth 100000 in
theorem lw_trap (hx : xl ≤ 2560) (hi : i + 5 ≤ xl) (h : gInv I L) (HK : ∀ (I : aI) (L : aL), gInv I L → aLW xl xs k n i 1189 [] I L Q) : aLW xl xs k n i 688 [] I L Q := by
  refine ar_aload_n dL_law_688 rfl ?_
  refine lw_rd (c := 1) dL_law_689 dL_law_690 dL_law_691 (by decide) dL_law_692 dL_law_693 hx (by omega) ?_
  refine pr_callVi (Y := mX5_trap) (vs := [.int (xs (i + 1))]) (st := []) dL_law_694 lkL_76 (b := 0) (by decide) rfl MX5_trap rfl (zc_X5_trap _ _ _ _ (q_trap h _)) (by decide) (Nat.le_of_ble_eq_true rfl) (fun I1 L1 r1 h1 => ?_)
  refine ar_aload_n dL_law_697 rfl ?_
  refine lw_rd (c := 1) dL_law_698 dL_law_699 dL_law_700 (by decide) dL_law_701 dL_law_702 hx (by omega) ?_
  refine pr_callVi (Y := mX6_trap) (vs := [.int (xs (i + 1))]) (st := [.int r1]) dL_law_703 lkL_79 (b := 880) (by decide) rfl MX6_trap rfl (zc_X6_trap _ _ _ _ h1) (by decide) (Nat.le_of_ble_eq_true rfl) (fun I2 L2 r2 h2 => ?_)
  exact ar_icmp_eq (tgt := 1189) dL_law_706 (by decide) (fun _ => HK _ _ h2.2) (fun c => absurd h2.1 c)
set_option maxRecDepth 100000 in
theorem lw_way (hx : xl ≤ 2560) (hi : i + 5 ≤ xl) (h : gInv I L) (HK : ∀ (I : aI) (L : aL), gInv I L → aLW xl xs k n i 1189 [] I L Q) : aLW xl xs k n i 711 [] I L Q := by
  refine ar_aload_n dL_law_711 rfl ?_
  refine lw_rd (c := 1) dL_law_712 dL_law_713 dL_law_714 (by decide) dL_law_715 dL_law_716 hx (by omega) ?_
  refine pr_callVi (Y := mX5_way) (vs := [.int (xs (i + 1))]) (st := []) dL_law_717 lkL_80 (b := 0) (by decide) rfl MX5_way rfl (zc_X5_way _ _ _ _ (q_way h _)) (by decide) (Nat.le_of_ble_eq_true rfl) (fun I1 L1 r1 h1 => ?_)
  refine ar_aload_n dL_law_720 rfl ?_
  refine lw_rd (c := 1) dL_law_721 dL_law_722 dL_law_723 (by decide) dL_law_724 dL_law_725 hx (by omega) ?_
  refine pr_callVi (Y := mX6_way) (vs := [.int (xs (i + 1))]) (st := [.int r1]) dL_law_726 lkL_83 (b := 880) (by decide) rfl MX6_way rfl (zc_X6_way _ _ _ _ h1) (by decide) (Nat.le_of_ble_eq_true rfl) (fun I2 L2 r2 h2 => ?_)
  exact ar_icmp_eq (tgt := 1189) dL_law_729 (by decide) (fun _ => HK _ _ h2.2) (fun c => absurd h2.1 c)
set_option maxRecDepth 100000 in
theorem lw_step (hx : xl ≤ 2560) (hi : i + 5 ≤ xl) (h : gInv I L) (HK : ∀ (I : aI) (L : aL), gInv I L → aLW xl xs k n i 1189 [] I L Q) : aLW xl xs k n i 734 [] I L Q := by
  refine ar_aload_n dL_law_734 rfl ?_
  refine lw_rd (c := 1) dL_law_735 dL_law_736 dL_law_737 (by decide) dL_law_738 dL_law_739 hx (by omega) ?_
  refine lw_rd (c := 2) dL_law_740 dL_law_741 dL_law_742 (by decide) dL_law_743 dL_law_744 hx (by omega) ?_
  refine pr_callVi (Y := mX5_step) (vs := [.int (xs (i + 1)), .int (xs (i + 2))]) (st := []) dL_law_745 lkL_84 (b := 0) (by decide) rfl MX5_step rfl (zc_X5_step _ _ _ _ _ (q_step h _ _)) (by decide) (Nat.le_of_ble_eq_true rfl) (fun I1 L1 r1 h1 => ?_)
  refine ar_aload_n dL_law_748 rfl ?_
  refine lw_rd (c := 1) dL_law_749 dL_law_750 dL_law_751 (by decide) dL_law_752 dL_law_753 hx (by omega) ?_
  refine lw_rd (c := 2) dL_law_754 dL_law_755 dL_law_756 (by decide) dL_law_757 dL_law_758 hx (by omega) ?_
  refine pr_callVi (Y := mX6_step) (vs := [.int (xs (i + 1)), .int (xs (i + 2))]) (st := [.int r1]) dL_law_759 lkL_87 (b := 880) (by decide) rfl MX6_step rfl (zc_X6_step _ _ _ _ _ h1) (by decide) (Nat.le_of_ble_eq_true rfl) (fun I2 L2 r2 h2 => ?_)
  exact ar_icmp_eq (tgt := 1189) dL_law_762 (by decide) (fun _ => HK _ _ h2.2) (fun c => absurd h2.1 c)
set_option maxRecDepth 100000 in
theorem lw_ways (hx : xl ≤ 2560) (hi : i + 5 ≤ xl) (h : gInv I L) (HK : ∀ (I : aI) (L : aL), gInv I L → aLW xl xs k n i 1189 [] I L Q) : aLW xl xs k n i 767 [] I L Q := by
  refine ar_aload_n dL_law_767 rfl ?_
  refine lw_rd (c := 1) dL_law_768 dL_law_769 dL_law_770 (by decide) dL_law_771 dL_law_772 hx (by omega) ?_
  refine pr_callVl (Y := mX5_ways) (vs := [.int (xs (i + 1))]) (st := []) dL_law_773 lkL_88 (b := 0) (by decide) rfl MX5_ways rfl (zc_X5_ways _ _ _ _ (q_ways h _)) (by decide) (Nat.le_of_ble_eq_true rfl) (fun I1 L1 r1 h1 => ?_)
  refine ar_aload_n dL_law_776 rfl ?_
  refine lw_rd (c := 1) dL_law_777 dL_law_778 dL_law_779 (by decide) dL_law_780 dL_law_781 hx (by omega) ?_
  refine pr_callVl (Y := mX6_ways) (vs := [.int (xs (i + 1))]) (st := [.long r1]) dL_law_782 lkL_92 (b := 880) (by decide) rfl MX6_ways rfl (zc_X6_ways _ _ _ _ h1) (by decide) (Nat.le_of_ble_eq_true rfl) (fun I2 L2 r2 h2 => ?_)
  refine ar_lcmp dL_law_785 rfl ?_
  refine ar_if_eq (tgt := 1189) dL_law_786 (by decide) (fun _ => HK _ _ h2.2) (fun c => absurd (by rw [h2.1]; exact lg_cmp_rf _) c)
set_option maxRecDepth 100000 in
theorem lw_cut (hx : xl ≤ 2560) (hi : i + 5 ≤ xl) (h : gInv I L) (HK : ∀ (I : aI) (L : aL), gInv I L → aLW xl xs k n i 1189 [] I L Q) : aLW xl xs k n i 791 [] I L Q := by
  refine ar_aload_n dL_law_791 rfl ?_
  refine lw_rd (c := 1) dL_law_792 dL_law_793 dL_law_794 (by decide) dL_law_795 dL_law_796 hx (by omega) ?_
  refine lw_rd (c := 2) dL_law_797 dL_law_798 dL_law_799 (by decide) dL_law_800 dL_law_801 hx (by omega) ?_
  refine ar_if_eq (tgt := 809) dL_law_802 (by decide) (fun c0 => ?_) (fun c0 => ?_)
  · refine ar_iconst (v := (0 : Int32)) dL_law_809 (by decide) ?_
    refine pr_callVi (Y := mX5_cut) (vs := [.int (xs (i + 1)), .int (0)]) (st := []) dL_law_810 lkL_93 (b := 0) (by decide) rfl MX5_cut rfl (zc_X5_cut _ _ _ _ _ (q_cut h _ false)) (by decide) (Nat.le_of_ble_eq_true rfl) (fun I1 L1 r1 h1 => ?_)
    refine ar_aload_n dL_law_813 rfl ?_
    refine lw_rd (c := 1) dL_law_814 dL_law_815 dL_law_816 (by decide) dL_law_817 dL_law_818 hx (by omega) ?_
    refine lw_rd (c := 2) dL_law_819 dL_law_820 dL_law_821 (by decide) dL_law_822 dL_law_823 hx (by omega) ?_
    refine ar_if_eq (tgt := 831) dL_law_824 (by decide) (fun _ => ?_) (fun c => absurd c0 c)
    refine ar_iconst (v := (0 : Int32)) dL_law_831 (by decide) ?_
    refine pr_callVi (Y := mX6_cut) (vs := [.int (xs (i + 1)), .int (0)]) (st := [.int r1]) dL_law_832 lkL_97 (b := 880) (by decide) rfl MX6_cut rfl (zc_X6_cut _ _ _ _ _ h1) (by decide) (Nat.le_of_ble_eq_true rfl) (fun I2 L2 r2 h2 => ?_)
    exact ar_icmp_eq (tgt := 1189) dL_law_835 (by decide) (fun _ => HK _ _ h2.2) (fun c => absurd h2.1 c)
  · refine ar_iconst (v := (1 : Int32)) dL_law_805 (by decide) ?_
    refine ar_goto (tgt := 810) dL_law_806 (by decide) ?_
    refine pr_callVi (Y := mX5_cut) (vs := [.int (xs (i + 1)), .int (1)]) (st := []) dL_law_810 lkL_93 (b := 0) (by decide) rfl MX5_cut rfl (zc_X5_cut _ _ _ _ _ (q_cut h _ true)) (by decide) (Nat.le_of_ble_eq_true rfl) (fun I1 L1 r1 h1 => ?_)
    refine ar_aload_n dL_law_813 rfl ?_
    refine lw_rd (c := 1) dL_law_814 dL_law_815 dL_law_816 (by decide) dL_law_817 dL_law_818 hx (by omega) ?_
    refine lw_rd (c := 2) dL_law_819 dL_law_820 dL_law_821 (by decide) dL_law_822 dL_law_823 hx (by omega) ?_
    refine ar_if_eq (tgt := 831) dL_law_824 (by decide) (fun c => absurd c c0) (fun _ => ?_)
    refine ar_iconst (v := (1 : Int32)) dL_law_827 (by decide) ?_
    refine ar_goto (tgt := 832) dL_law_828 (by decide) ?_
    refine pr_callVi (Y := mX6_cut) (vs := [.int (xs (i + 1)), .int (1)]) (st := [.int r1]) dL_law_832 lkL_97 (b := 880) (by decide) rfl MX6_cut rfl (zc_X6_cut _ _ _ _ _ h1) (by decide) (Nat.le_of_ble_eq_true rfl) (fun I2 L2 r2 h2 => ?_)
    exact ar_icmp_eq (tgt := 1189) dL_law_835 (by decide) (fun _ => HK _ _ h2.2) (fun c => absurd h2.1 c)
set_option maxRecDepth 100000 in
theorem lw_mend (hx : xl ≤ 2560) (hi : i + 5 ≤ xl) (h : gInv I L) (HK : ∀ (I : aI) (L : aL), gInv I L → aLW xl xs k n i 1189 [] I L Q) : aLW xl xs k n i 840 [] I L Q := by
  refine ar_aload_n dL_law_840 rfl ?_
  refine pr_callVi (Y := mX5_mend) (vs := []) (st := []) dL_law_841 lkL_98 (b := 0) (by decide) rfl MX5_mend rfl (zc_X5_mend  _ _ _ (q_mend h)) (by decide) (Nat.le_of_ble_eq_true rfl) (fun I1 L1 r1 h1 => ?_)
  refine ar_aload_n dL_law_844 rfl ?_
  refine pr_callVi (Y := mX6_mend) (vs := []) (st := [.int r1]) dL_law_845 lkL_102 (b := 880) (by decide) rfl MX6_mend rfl (zc_X6_mend  _ _ _ h1) (by decide) (Nat.le_of_ble_eq_true rfl) (fun I2 L2 r2 h2 => ?_)
  exact ar_icmp_eq (tgt := 1189) dL_law_848 (by decide) (fun _ => HK _ _ h2.2) (fun c => absurd h2.1 c)
set_option maxRecDepth 100000 in
theorem lw_sheet (hx : xl ≤ 2560) (hi : i + 5 ≤ xl) (h : gInv I L) (HK : ∀ (I : aI) (L : aL), gInv I L → aLW xl xs k n i 1189 [] I L Q) : aLW xl xs k n i 853 [] I L Q := by
  refine ar_aload_n dL_law_853 rfl ?_
  refine lw_rd (c := 1) dL_law_854 dL_law_855 dL_law_856 (by decide) dL_law_857 dL_law_858 hx (by omega) ?_
  refine lw_rd (c := 2) dL_law_859 dL_law_860 dL_law_861 (by decide) dL_law_862 dL_law_863 hx (by omega) ?_
  refine lw_rd (c := 3) dL_law_864 dL_law_865 dL_law_866 (by decide) dL_law_867 dL_law_868 hx (by omega) ?_
  refine pr_callVi (Y := mX5_sheet) (vs := [.int (xs (i + 1)), .int (xs (i + 2)), .int (xs (i + 3))]) (st := []) dL_law_869 lkL_103 (b := 0) (by decide) rfl MX5_sheet rfl (zc_X5_sheet _ _ _ _ _ _ (q_sheet h _ _ _)) (by decide) (Nat.le_of_ble_eq_true rfl) (fun I1 L1 r1 h1 => ?_)
  refine ar_aload_n dL_law_872 rfl ?_
  refine lw_rd (c := 1) dL_law_873 dL_law_874 dL_law_875 (by decide) dL_law_876 dL_law_877 hx (by omega) ?_
  refine lw_rd (c := 2) dL_law_878 dL_law_879 dL_law_880 (by decide) dL_law_881 dL_law_882 hx (by omega) ?_
  refine lw_rd (c := 3) dL_law_883 dL_law_884 dL_law_885 (by decide) dL_law_886 dL_law_887 hx (by omega) ?_
  refine pr_callVi (Y := mX6_sheet) (vs := [.int (xs (i + 1)), .int (xs (i + 2)), .int (xs (i + 3))]) (st := [.int r1]) dL_law_888 lkL_106 (b := 880) (by decide) rfl MX6_sheet rfl (zc_X6_sheet _ _ _ _ _ _ h1) (by decide) (Nat.le_of_ble_eq_true rfl) (fun I2 L2 r2 h2 => ?_)
  exact ar_icmp_eq (tgt := 1189) dL_law_891 (by decide) (fun _ => HK _ _ h2.2) (fun c => absurd h2.1 c)
set_option maxRecDepth 100000 in
theorem lw_write (hx : xl ≤ 2560) (hi : i + 5 ≤ xl) (h : gInv I L) (HK : ∀ (I : aI) (L : aL), gInv I L → aLW xl xs k n i 1189 [] I L Q) : aLW xl xs k n i 896 [] I L Q := by
  refine ar_aload_n dL_law_896 rfl ?_
  refine lw_rd (c := 1) dL_law_897 dL_law_898 dL_law_899 (by decide) dL_law_900 dL_law_901 hx (by omega) ?_
  refine lw_rd (c := 2) dL_law_902 dL_law_903 dL_law_904 (by decide) dL_law_905 dL_law_906 hx (by omega) ?_
  refine lw_rd (c := 3) dL_law_907 dL_law_908 dL_law_909 (by decide) dL_law_910 dL_law_911 hx (by omega) ?_
  refine pr_callVi (Y := mX5_write) (vs := [.int (xs (i + 1)), .int (xs (i + 2)), .int (xs (i + 3))]) (st := []) dL_law_912 lkL_107 (b := 0) (by decide) rfl MX5_write rfl (zc_X5_write _ _ _ _ _ _ (q_write h _ _ _)) (by decide) (Nat.le_of_ble_eq_true rfl) (fun I1 L1 r1 h1 => ?_)
  refine ar_aload_n dL_law_915 rfl ?_
  refine lw_rd (c := 1) dL_law_916 dL_law_917 dL_law_918 (by decide) dL_law_919 dL_law_920 hx (by omega) ?_
  refine lw_rd (c := 2) dL_law_921 dL_law_922 dL_law_923 (by decide) dL_law_924 dL_law_925 hx (by omega) ?_
  refine lw_rd (c := 3) dL_law_926 dL_law_927 dL_law_928 (by decide) dL_law_929 dL_law_930 hx (by omega) ?_
  refine pr_callVi (Y := mX6_write) (vs := [.int (xs (i + 1)), .int (xs (i + 2)), .int (xs (i + 3))]) (st := [.int r1]) dL_law_931 lkL_110 (b := 880) (by decide) rfl MX6_write rfl (zc_X6_write _ _ _ _ _ _ h1) (by decide) (Nat.le_of_ble_eq_true rfl) (fun I2 L2 r2 h2 => ?_)
  exact ar_icmp_eq (tgt := 1189) dL_law_934 (by decide) (fun _ => HK _ _ h2.2) (fun c => absurd h2.1 c)
set_option maxRecDepth 100000 in
theorem lw_words (hx : xl ≤ 2560) (hi : i + 5 ≤ xl) (h : gInv I L) (HK : ∀ (I : aI) (L : aL), gInv I L → aLW xl xs k n i 1189 [] I L Q) : aLW xl xs k n i 939 [] I L Q := by
  refine ar_aload_n dL_law_939 rfl ?_
  refine lw_rd (c := 1) dL_law_940 dL_law_941 dL_law_942 (by decide) dL_law_943 dL_law_944 hx (by omega) ?_
  refine lw_rd (c := 2) dL_law_945 dL_law_946 dL_law_947 (by decide) dL_law_948 dL_law_949 hx (by omega) ?_
  refine lw_rd (c := 3) dL_law_950 dL_law_951 dL_law_952 (by decide) dL_law_953 dL_law_954 hx (by omega) ?_
  refine lw_rd (c := 4) dL_law_955 dL_law_956 dL_law_957 (by decide) dL_law_958 dL_law_959 hx (by omega) ?_
  refine pr_callVi (Y := mX5_words) (vs := [.int (xs (i + 1)), .int (xs (i + 2)), .int (xs (i + 3)), .int (xs (i + 4))]) (st := []) dL_law_960 lkL_111 (b := 0) (by decide) rfl MX5_words rfl (zc_X5_words _ _ _ _ _ _ _ (q_words h _ _ _ _)) (by decide) (Nat.le_of_ble_eq_true rfl) (fun I1 L1 r1 h1 => ?_)
  refine ar_aload_n dL_law_963 rfl ?_
  refine lw_rd (c := 1) dL_law_964 dL_law_965 dL_law_966 (by decide) dL_law_967 dL_law_968 hx (by omega) ?_
  refine lw_rd (c := 2) dL_law_969 dL_law_970 dL_law_971 (by decide) dL_law_972 dL_law_973 hx (by omega) ?_
  refine lw_rd (c := 3) dL_law_974 dL_law_975 dL_law_976 (by decide) dL_law_977 dL_law_978 hx (by omega) ?_
  refine lw_rd (c := 4) dL_law_979 dL_law_980 dL_law_981 (by decide) dL_law_982 dL_law_983 hx (by omega) ?_
  refine pr_callVi (Y := mX6_words) (vs := [.int (xs (i + 1)), .int (xs (i + 2)), .int (xs (i + 3)), .int (xs (i + 4))]) (st := [.int r1]) dL_law_984 lkL_114 (b := 880) (by decide) rfl MX6_words rfl (zc_X6_words _ _ _ _ _ _ _ h1) (by decide) (Nat.le_of_ble_eq_true rfl) (fun I2 L2 r2 h2 => ?_)
  exact ar_icmp_eq (tgt := 1189) dL_law_987 (by decide) (fun _ => HK _ _ h2.2) (fun c => absurd h2.1 c)
set_option maxRecDepth 100000 in
theorem lw_sessions (hx : xl ≤ 2560) (hi : i + 5 ≤ xl) (h : gInv I L) (HK : ∀ (I : aI) (L : aL), gInv I L → aLW xl xs k n i 1189 [] I L Q) : aLW xl xs k n i 992 [] I L Q := by
  refine ar_aload_n dL_law_992 rfl ?_
  refine lw_rd (c := 1) dL_law_993 dL_law_994 dL_law_995 (by decide) dL_law_996 dL_law_997 hx (by omega) ?_
  refine lw_rd (c := 2) dL_law_998 dL_law_999 dL_law_1000 (by decide) dL_law_1001 dL_law_1002 hx (by omega) ?_
  refine pr_callVi (Y := mX5_sessions) (vs := [.int (xs (i + 1)), .int (xs (i + 2))]) (st := []) dL_law_1003 lkL_115 (b := 0) (by decide) rfl MX5_sessions rfl (zc_X5_sessions _ _ _ _ _ (q_sessions h _ _)) (by decide) (Nat.le_of_ble_eq_true rfl) (fun I1 L1 r1 h1 => ?_)
  refine ar_aload_n dL_law_1006 rfl ?_
  refine lw_rd (c := 1) dL_law_1007 dL_law_1008 dL_law_1009 (by decide) dL_law_1010 dL_law_1011 hx (by omega) ?_
  refine lw_rd (c := 2) dL_law_1012 dL_law_1013 dL_law_1014 (by decide) dL_law_1015 dL_law_1016 hx (by omega) ?_
  refine pr_callVi (Y := mX6_sessions) (vs := [.int (xs (i + 1)), .int (xs (i + 2))]) (st := [.int r1]) dL_law_1017 lkL_118 (b := 880) (by decide) rfl MX6_sessions rfl (zc_X6_sessions _ _ _ _ _ h1) (by decide) (Nat.le_of_ble_eq_true rfl) (fun I2 L2 r2 h2 => ?_)
  exact ar_icmp_eq (tgt := 1189) dL_law_1020 (by decide) (fun _ => HK _ _ h2.2) (fun c => absurd h2.1 c)
set_option maxRecDepth 100000 in
theorem lw_tell (hx : xl ≤ 2560) (hi : i + 5 ≤ xl) (h : gInv I L) (HK : ∀ (I : aI) (L : aL), gInv I L → aLW xl xs k n i 1189 [] I L Q) : aLW xl xs k n i 1025 [] I L Q := by
  refine ar_aload_n dL_law_1025 rfl ?_
  refine lw_rd (c := 1) dL_law_1026 dL_law_1027 dL_law_1028 (by decide) dL_law_1029 dL_law_1030 hx (by omega) ?_
  refine pr_callVi (Y := mX5_tell) (vs := [.int (xs (i + 1))]) (st := []) dL_law_1031 lkL_119 (b := 0) (by decide) rfl MX5_tell rfl (zc_X5_tell _ _ _ _ (q_tell h _)) (by decide) (Nat.le_of_ble_eq_true rfl) (fun I1 L1 r1 h1 => ?_)
  refine ar_aload_n dL_law_1034 rfl ?_
  refine lw_rd (c := 1) dL_law_1035 dL_law_1036 dL_law_1037 (by decide) dL_law_1038 dL_law_1039 hx (by omega) ?_
  refine pr_callVi (Y := mX6_tell) (vs := [.int (xs (i + 1))]) (st := [.int r1]) dL_law_1040 lkL_122 (b := 880) (by decide) rfl MX6_tell rfl (zc_X6_tell _ _ _ _ h1) (by decide) (Nat.le_of_ble_eq_true rfl) (fun I2 L2 r2 h2 => ?_)
  exact ar_icmp_eq (tgt := 1189) dL_law_1043 (by decide) (fun _ => HK _ _ h2.2) (fun c => absurd h2.1 c)
set_option maxRecDepth 100000 in
theorem lw_play (hx : xl ≤ 2560) (hi : i + 5 ≤ xl) (h : gInv I L) (HK : ∀ (I : aI) (L : aL), gInv I L → aLW xl xs k n i 1189 [] I L Q) : aLW xl xs k n i 1048 [] I L Q := by
  refine ar_aload_n dL_law_1048 rfl ?_
  refine pr_callVi (Y := mX5_play) (vs := []) (st := []) dL_law_1049 lkL_123 (b := 0) (by decide) rfl MX5_play rfl (zc_X5_play  _ _ _ (q_play h)) (by decide) (Nat.le_of_ble_eq_true rfl) (fun I1 L1 r1 h1 => ?_)
  refine ar_aload_n dL_law_1052 rfl ?_
  refine pr_callVi (Y := mX6_play) (vs := []) (st := [.int r1]) dL_law_1053 lkL_126 (b := 880) (by decide) rfl MX6_play rfl (zc_X6_play  _ _ _ h1) (by decide) (Nat.le_of_ble_eq_true rfl) (fun I2 L2 r2 h2 => ?_)
  exact ar_icmp_eq (tgt := 1189) dL_law_1056 (by decide) (fun _ => HK _ _ h2.2) (fun c => absurd h2.1 c)
set_option maxRecDepth 100000 in
theorem lw_at (hx : xl ≤ 2560) (hi : i + 5 ≤ xl) (h : gInv I L) (HK : ∀ (I : aI) (L : aL), gInv I L → aLW xl xs k n i 1189 [] I L Q) : aLW xl xs k n i 1061 [] I L Q := by
  refine ar_aload_n dL_law_1061 rfl ?_
  refine lw_rd (c := 1) dL_law_1062 dL_law_1063 dL_law_1064 (by decide) dL_law_1065 dL_law_1066 hx (by omega) ?_
  refine pr_callVi (Y := mX5_at) (vs := [.int (xs (i + 1))]) (st := []) dL_law_1067 lkL_127 (b := 0) (by decide) rfl MX5_at rfl (zc_X5_at _ _ _ _ (q_at h _)) (by decide) (Nat.le_of_ble_eq_true rfl) (fun I1 L1 r1 h1 => ?_)
  refine ar_aload_n dL_law_1070 rfl ?_
  refine lw_rd (c := 1) dL_law_1071 dL_law_1072 dL_law_1073 (by decide) dL_law_1074 dL_law_1075 hx (by omega) ?_
  refine pr_callVi (Y := mX6_at_) (vs := [.int (xs (i + 1))]) (st := [.int r1]) dL_law_1076 lkL_130 (b := 880) (by decide) rfl MX6_at_ rfl (zc_X6_at_ _ _ _ _ h1) (by decide) (Nat.le_of_ble_eq_true rfl) (fun I2 L2 r2 h2 => ?_)
  exact ar_icmp_eq (tgt := 1189) dL_law_1079 (by decide) (fun _ => HK _ _ h2.2) (fun c => absurd h2.1 c)
set_option maxRecDepth 100000 in
theorem lw_keep (hx : xl ≤ 2560) (hi : i + 5 ≤ xl) (h : gInv I L) (HK : ∀ (I : aI) (L : aL), gInv I L → aLW xl xs k n i 1189 [] I L Q) : aLW xl xs k n i 1084 [] I L Q := by
  refine ar_aload_n dL_law_1084 rfl ?_
  refine lw_rd (c := 1) dL_law_1085 dL_law_1086 dL_law_1087 (by decide) dL_law_1088 dL_law_1089 hx (by omega) ?_
  refine pr_callVi (Y := mX5_keep) (vs := [.int (xs (i + 1))]) (st := []) dL_law_1090 lkL_131 (b := 0) (by decide) rfl MX5_keep rfl (zc_X5_keep _ _ _ _ (q_keep h _)) (by decide) (Nat.le_of_ble_eq_true rfl) (fun I1 L1 r1 h1 => ?_)
  refine ar_aload_n dL_law_1093 rfl ?_
  refine lw_rd (c := 1) dL_law_1094 dL_law_1095 dL_law_1096 (by decide) dL_law_1097 dL_law_1098 hx (by omega) ?_
  refine pr_callVi (Y := mX6_keep) (vs := [.int (xs (i + 1))]) (st := [.int r1]) dL_law_1099 lkL_134 (b := 880) (by decide) rfl MX6_keep rfl (zc_X6_keep _ _ _ _ h1) (by decide) (Nat.le_of_ble_eq_true rfl) (fun I2 L2 r2 h2 => ?_)
  exact ar_icmp_eq (tgt := 1189) dL_law_1102 (by decide) (fun _ => HK _ _ h2.2) (fun c => absurd h2.1 c)
set_option maxRecDepth 100000 in
theorem lw_back (hx : xl ≤ 2560) (hi : i + 5 ≤ xl) (h : gInv I L) (HK : ∀ (I : aI) (L : aL), gInv I L → aLW xl xs k n i 1189 [] I L Q) : aLW xl xs k n i 1107 [] I L Q := by
  refine ar_aload_n dL_law_1107 rfl ?_
  refine lw_rd (c := 1) dL_law_1108 dL_law_1109 dL_law_1110 (by decide) dL_law_1111 dL_law_1112 hx (by omega) ?_
  refine pr_callVi (Y := mX5_back) (vs := [.int (xs (i + 1))]) (st := []) dL_law_1113 lkL_135 (b := 0) (by decide) rfl MX5_back rfl (zc_X5_back _ _ _ _ (q_back h _)) (by decide) (Nat.le_of_ble_eq_true rfl) (fun I1 L1 r1 h1 => ?_)
  refine ar_aload_n dL_law_1116 rfl ?_
  refine lw_rd (c := 1) dL_law_1117 dL_law_1118 dL_law_1119 (by decide) dL_law_1120 dL_law_1121 hx (by omega) ?_
  refine pr_callVi (Y := mX6_back) (vs := [.int (xs (i + 1))]) (st := [.int r1]) dL_law_1122 lkL_138 (b := 880) (by decide) rfl MX6_back rfl (zc_X6_back _ _ _ _ h1) (by decide) (Nat.le_of_ble_eq_true rfl) (fun I2 L2 r2 h2 => ?_)
  exact ar_icmp_eq (tgt := 1189) dL_law_1125 (by decide) (fun _ => HK _ _ h2.2) (fun c => absurd h2.1 c)
set_option maxRecDepth 100000 in
theorem lw_melt (hx : xl ≤ 2560) (hi : i + 5 ≤ xl) (h : gInv I L) (HK : ∀ (I : aI) (L : aL), gInv I L → aLW xl xs k n i 1189 [] I L Q) : aLW xl xs k n i 1130 [] I L Q := by
  refine ar_aload_n dL_law_1130 rfl ?_
  refine pr_callVi (Y := mX5_melt) (vs := []) (st := []) dL_law_1131 lkL_139 (b := 0) (by decide) rfl MX5_melt rfl (zc_X5_melt  _ _ _ (q_melt h)) (by decide) (Nat.le_of_ble_eq_true rfl) (fun I1 L1 r1 h1 => ?_)
  refine ar_aload_n dL_law_1134 rfl ?_
  refine pr_callVi (Y := mX6_melt) (vs := []) (st := [.int r1]) dL_law_1135 lkL_142 (b := 880) (by decide) rfl MX6_melt rfl (zc_X6_melt  _ _ _ h1) (by decide) (Nat.le_of_ble_eq_true rfl) (fun I2 L2 r2 h2 => ?_)
  exact ar_icmp_eq (tgt := 1189) dL_law_1138 (by decide) (fun _ => HK _ _ h2.2) (fun c => absurd h2.1 c)
set_option maxRecDepth 100000 in
theorem lw_clash (hx : xl ≤ 2560) (hi : i + 5 ≤ xl) (h : gInv I L) (HK : ∀ (I : aI) (L : aL), gInv I L → aLW xl xs k n i 1189 [] I L Q) : aLW xl xs k n i 1143 [] I L Q := by
  refine ar_aload_n dL_law_1143 rfl ?_
  refine lw_rd (c := 1) dL_law_1144 dL_law_1145 dL_law_1146 (by decide) dL_law_1147 dL_law_1148 hx (by omega) ?_
  refine pr_callVi (Y := mX5_clash) (vs := [.int (xs (i + 1))]) (st := []) dL_law_1149 lkL_143 (b := 0) (by decide) rfl MX5_clash rfl (zc_X5_clash _ _ _ _ (q_clash h _)) (by decide) (Nat.le_of_ble_eq_true rfl) (fun I1 L1 r1 h1 => ?_)
  refine ar_aload_n dL_law_1152 rfl ?_
  refine lw_rd (c := 1) dL_law_1153 dL_law_1154 dL_law_1155 (by decide) dL_law_1156 dL_law_1157 hx (by omega) ?_
  refine pr_callVi (Y := mX6_clash) (vs := [.int (xs (i + 1))]) (st := [.int r1]) dL_law_1158 lkL_146 (b := 880) (by decide) rfl MX6_clash rfl (zc_X6_clash _ _ _ _ h1) (by decide) (Nat.le_of_ble_eq_true rfl) (fun I2 L2 r2 h2 => ?_)
  exact ar_icmp_eq (tgt := 1189) dL_law_1161 (by decide) (fun _ => HK _ _ h2.2) (fun c => absurd h2.1 c)
set_option maxRecDepth 100000 in
theorem lw_count (hx : xl ≤ 2560) (hi : i + 5 ≤ xl) (h : gInv I L) (HK : ∀ (I : aI) (L : aL), gInv I L → aLW xl xs k n i 1189 [] I L Q) : aLW xl xs k n i 1166 [] I L Q := by
  refine ar_aload_n dL_law_1166 rfl ?_
  refine lw_rd (c := 1) dL_law_1167 dL_law_1168 dL_law_1169 (by decide) dL_law_1170 dL_law_1171 hx (by omega) ?_
  refine pr_callVi (Y := mX5_count) (vs := [.int (xs (i + 1))]) (st := []) dL_law_1172 lkL_147 (b := 0) (by decide) rfl MX5_count rfl (zc_X5_count _ _ _ _ (q_count h _)) (by decide) (Nat.le_of_ble_eq_true rfl) (fun I1 L1 r1 h1 => ?_)
  refine ar_aload_n dL_law_1175 rfl ?_
  refine lw_rd (c := 1) dL_law_1176 dL_law_1177 dL_law_1178 (by decide) dL_law_1179 dL_law_1180 hx (by omega) ?_
  refine pr_callVi (Y := mX6_count) (vs := [.int (xs (i + 1))]) (st := [.int r1]) dL_law_1181 lkL_150 (b := 880) (by decide) rfl MX6_count rfl (zc_X6_count _ _ _ _ h1) (by decide) (Nat.le_of_ble_eq_true rfl) (fun I2 L2 r2 h2 => ?_)
  exact ar_icmp_eq (tgt := 1189) dL_law_1184 (by decide) (fun _ => HK _ _ h2.2) (fun c => absurd h2.1 c)
end
