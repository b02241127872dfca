theorem lw_cat (l : List Value) (h : l.length ≤ 1) : (l.map fun v => v.category).sum ≤ 8 := by
  match l, h with
  | [], _ => decide
  | [v], _ => cases v <;> exact Nat.le_of_ble_eq_true rfl
theorem kWi_i {w w2 : Value} (h : kWi w w2) : kWi w w2 := h
theorem kWl_i {w w2 : Value} (h : kWl w w2) : kWl w w2 := h
theorem lw_case_0 {b L : Nat} {xs : Nat → Int32} {i : Nat} {M : zMem} {g : Nat → Option Nat} {X : List zShp} (hL : L ≤ 2048) (hi : i + 4 ≤ L) (hs : kSt M g X) (nx : ∀ M2 g2 X2, kSt M2 g2 X2 → zLT b L xs 850 i [] (SHP g2 X2) M2) : zLT b L xs 152 i [] (SHP g X) M := by
  obtain ⟨n, P, F, I, hok⟩ := hs
  have hX := kIm_len hok.2.2.2.1.2.2.2
  refine zl_x dl_152 ?_
  refine zl_ar 1 rfl dl_153 dl_154 dl_155 dl_156 dl_157 (by omega) (by omega) ?_
  refine zl_c1 (as := [.int (xs (i + 1))]) (pr_say hok _) hX ll_13 rfl ⟨by decide, by decide⟩ rfl dl_158 (fun w g2 X2 M1 hw hX2 h2 => ?_)
  refine zl_pop dl_161 hw ?_
  refine zl_m dl_162 ?_
  refine zl_ar 1 rfl dl_163 dl_164 dl_165 dl_166 dl_167 (by omega) (by omega) ?_
  refine zl_c2 (as := [.int (xs (i + 1))]) (rest := []) hX2 h2 ll_17 rfl ⟨by decide, by decide⟩ rfl (lw_cat _ (Nat.zero_le 1)) dl_168 (fun w2 M2 hs2 hE => ?_)
  obtain ⟨r, r2, rfl, rfl⟩ := (kEi_w hE)
  refine zl_pop dl_171 rfl ?_
  exact zl_goto dl_172 (by decide) (nx M2 g2 X2 hs2)
theorem lw_case_1 {b L : Nat} {xs : Nat → Int32} {i : Nat} {M : zMem} {g : Nat → Option Nat} {X : List zShp} (hL : L ≤ 2048) (hi : i + 4 ≤ L) (hs : kSt M g X) (nx : ∀ M2 g2 X2, kSt M2 g2 X2 → zLT b L xs 850 i [] (SHP g2 X2) M2) : zLT b L xs 175 i [] (SHP g X) M := by
  obtain ⟨n, P, F, I, hok⟩ := hs
  have hX := kIm_len hok.2.2.2.1.2.2.2
  refine zl_x dl_175 ?_
  refine zl_c1 (as := []) (pr_wipe hok) hX ll_18 rfl ⟨by decide, by decide⟩ rfl dl_176 (fun w g2 X2 M1 hw hX2 h2 => ?_)
  refine zl_pop dl_179 hw ?_
  refine zl_m dl_180 ?_
  refine zl_c2 (as := []) (rest := []) hX2 h2 ll_22 rfl ⟨by decide, by decide⟩ rfl (lw_cat _ (Nat.zero_le 1)) dl_181 (fun w2 M2 hs2 hE => ?_)
  obtain ⟨r, r2, rfl, rfl⟩ := (kEi_w hE)
  refine zl_pop dl_184 rfl ?_
  exact zl_goto dl_185 (by decide) (nx M2 g2 X2 hs2)
theorem lw_case_2 {b L : Nat} {xs : Nat → Int32} {i : Nat} {M : zMem} {g : Nat → Option Nat} {X : List zShp} (hL : L ≤ 2048) (hi : i + 4 ≤ L) (hs : kSt M g X) (nx : ∀ M2 g2 X2, kSt M2 g2 X2 → zLT b L xs 850 i [] (SHP g2 X2) M2) : zLT b L xs 188 i [] (SHP g X) M := by
  obtain ⟨n, P, F, I, hok⟩ := hs
  have hX := kIm_len hok.2.2.2.1.2.2.2
  refine zl_x dl_188 ?_
  refine zl_c1 (as := []) (pw_fault hok) hX ll_23 rfl ⟨by decide, by decide⟩ rfl dl_189 (fun w g2 X2 M1 hw hX2 h2 => ?_)
  refine zl_pop dl_192 hw ?_
  refine zl_m dl_193 ?_
  refine zl_c2 (as := []) (rest := []) hX2 h2 ll_26 rfl ⟨by decide, by decide⟩ rfl (lw_cat _ (Nat.zero_le 1)) dl_194 (fun w2 M2 hs2 hE => ?_)
  obtain ⟨r, r2, rfl, rfl⟩ := (kWi_i hE)
  refine zl_pop dl_197 rfl ?_
  exact zl_goto dl_198 (by decide) (nx M2 g2 X2 hs2)
theorem lw_case_3 {b L : Nat} {xs : Nat → Int32} {i : Nat} {M : zMem} {g : Nat → Option Nat} {X : List zShp} (hL : L ≤ 2048) (hi : i + 4 ≤ L) (hs : kSt M g X) (nx : ∀ M2 g2 X2, kSt M2 g2 X2 → zLT b L xs 850 i [] (SHP g2 X2) M2) : zLT b L xs 201 i [] (SHP g X) M := by
  obtain ⟨n, P, F, I, hok⟩ := hs
  have hX := kIm_len hok.2.2.2.1.2.2.2
  refine zl_x dl_201 ?_
  refine zl_c1 (as := []) (pr_book hok) hX ll_27 rfl ⟨by decide, by decide⟩ rfl dl_202 (fun w g2 X2 M1 hw hX2 h2 => ?_)
  refine zl_pop dl_205 hw ?_
  refine zl_m dl_206 ?_
  refine zl_c2 (as := []) (rest := []) hX2 h2 ll_30 rfl ⟨by decide, by decide⟩ rfl (lw_cat _ (Nat.zero_le 1)) dl_207 (fun w2 M2 hs2 hE => ?_)
  obtain ⟨r, r2, rfl, rfl⟩ := (kEi_w hE)
  refine zl_pop dl_210 rfl ?_
  exact zl_goto dl_211 (by decide) (nx M2 g2 X2 hs2)
theorem lw_case_4 {b L : Nat} {xs : Nat → Int32} {i : Nat} {M : zMem} {g : Nat → Option Nat} {X : List zShp} (hL : L ≤ 2048) (hi : i + 4 ≤ L) (hs : kSt M g X) (nx : ∀ M2 g2 X2, kSt M2 g2 X2 → zLT b L xs 850 i [] (SHP g2 X2) M2) : zLT b L xs 214 i [] (SHP g X) M := by
  obtain ⟨n, P, F, I, hok⟩ := hs
  have hX := kIm_len hok.2.2.2.1.2.2.2
  refine zl_x dl_214 ?_
  refine zl_ar 1 rfl dl_215 dl_216 dl_217 dl_218 dl_219 (by omega) (by omega) ?_
  refine zl_ar 2 rfl dl_220 dl_221 dl_222 dl_223 dl_224 (by omega) (by omega) ?_
  refine zl_c1 (as := [.int (xs (i + 1)), .int (xs (i + 2))]) (pr_thing hok _ _) hX ll_31 rfl ⟨by decide, by decide⟩ rfl dl_225 (fun w g2 X2 M1 hw hX2 h2 => ?_)
  refine zl_pop dl_228 hw ?_
  refine zl_m dl_229 ?_
  refine zl_ar 1 rfl dl_230 dl_231 dl_232 dl_233 dl_234 (by omega) (by omega) ?_
  refine zl_ar 2 rfl dl_235 dl_236 dl_237 dl_238 dl_239 (by omega) (by omega) ?_
  refine zl_c2 (as := [.int (xs (i + 1)), .int (xs (i + 2))]) (rest := []) hX2 h2 ll_35 rfl ⟨by decide, by decide⟩ rfl (lw_cat _ (Nat.zero_le 1)) dl_240 (fun w2 M2 hs2 hE => ?_)
  obtain ⟨r, r2, rfl, rfl⟩ := (kEi_w hE)
  refine zl_pop dl_243 rfl ?_
  exact zl_goto dl_244 (by decide) (nx M2 g2 X2 hs2)
theorem lw_case_5 {b L : Nat} {xs : Nat → Int32} {i : Nat} {M : zMem} {g : Nat → Option Nat} {X : List zShp} (hL : L ≤ 2048) (hi : i + 4 ≤ L) (hs : kSt M g X) (nx : ∀ M2 g2 X2, kSt M2 g2 X2 → zLT b L xs 850 i [] (SHP g2 X2) M2) : zLT b L xs 247 i [] (SHP g X) M := by
  obtain ⟨n, P, F, I, hok⟩ := hs
  have hX := kIm_len hok.2.2.2.1.2.2.2
  refine zl_x dl_247 ?_
  refine zl_ar 1 rfl dl_248 dl_249 dl_250 dl_251 dl_252 (by omega) (by omega) ?_
  refine zl_ar 2 rfl dl_253 dl_254 dl_255 dl_256 dl_257 (by omega) (by omega) ?_
  refine zl_c1 (as := [.int (xs (i + 1)), .int (xs (i + 2))]) (pr_join hok _ _) hX ll_36 rfl ⟨by decide, by decide⟩ rfl dl_258 (fun w g2 X2 M1 hw hX2 h2 => ?_)
  refine zl_pop dl_261 hw ?_
  refine zl_m dl_262 ?_
  refine zl_ar 1 rfl dl_263 dl_264 dl_265 dl_266 dl_267 (by omega) (by omega) ?_
  refine zl_ar 2 rfl dl_268 dl_269 dl_270 dl_271 dl_272 (by omega) (by omega) ?_
  refine zl_c2 (as := [.int (xs (i + 1)), .int (xs (i + 2))]) (rest := []) hX2 h2 ll_39 rfl ⟨by decide, by decide⟩ rfl (lw_cat _ (Nat.zero_le 1)) dl_273 (fun w2 M2 hs2 hE => ?_)
  obtain ⟨r, r2, rfl, rfl⟩ := (kEi_w hE)
  refine zl_pop dl_276 rfl ?_
  exact zl_goto dl_277 (by decide) (nx M2 g2 X2 hs2)
theorem lw_case_6 {b L : Nat} {xs : Nat → Int32} {i : Nat} {M : zMem} {g : Nat → Option Nat} {X : List zShp} (hL : L ≤ 2048) (hi : i + 4 ≤ L) (hs : kSt M g X) (nx : ∀ M2 g2 X2, kSt M2 g2 X2 → zLT b L xs 850 i [] (SHP g2 X2) M2) : zLT b L xs 280 i [] (SHP g X) M := by
  obtain ⟨n, P, F, I, hok⟩ := hs
  have hX := kIm_len hok.2.2.2.1.2.2.2
  refine zl_x dl_280 ?_
  refine zl_ar 1 rfl dl_281 dl_282 dl_283 dl_284 dl_285 (by omega) (by omega) ?_
  refine zl_c1 (as := [.int (xs (i + 1))]) (pr_part hok _) hX ll_40 rfl ⟨by decide, by decide⟩ rfl dl_286 (fun w g2 X2 M1 hw hX2 h2 => ?_)
  refine zl_pop dl_289 hw ?_
  refine zl_m dl_290 ?_
  refine zl_ar 1 rfl dl_291 dl_292 dl_293 dl_294 dl_295 (by omega) (by omega) ?_
  refine zl_c2 (as := [.int (xs (i + 1))]) (rest := []) hX2 h2 ll_43 rfl ⟨by decide, by decide⟩ rfl (lw_cat _ (Nat.zero_le 1)) dl_296 (fun w2 M2 hs2 hE => ?_)
  obtain ⟨r, r2, rfl, rfl⟩ := (kEi_w hE)
  refine zl_pop dl_299 rfl ?_
  exact zl_goto dl_300 (by decide) (nx M2 g2 X2 hs2)
theorem lw_case_7 {b L : Nat} {xs : Nat → Int32} {i : Nat} {M : zMem} {g : Nat → Option Nat} {X : List zShp} (hL : L ≤ 2048) (hi : i + 4 ≤ L) (hs : kSt M g X) (nx : ∀ M2 g2 X2, kSt M2 g2 X2 → zLT b L xs 850 i [] (SHP g2 X2) M2) : zLT b L xs 303 i [] (SHP g X) M := by
  obtain ⟨n, P, F, I, hok⟩ := hs
  have hX := kIm_len hok.2.2.2.1.2.2.2
  refine zl_x dl_303 ?_
  refine zl_ar 1 rfl dl_304 dl_305 dl_306 dl_307 dl_308 (by omega) (by omega) ?_
  refine zl_ar 2 rfl dl_309 dl_310 dl_311 dl_312 dl_313 (by omega) (by omega) ?_
  refine zl_c1 (as := [.int (xs (i + 1)), .int (xs (i + 2))]) (pr_set hok _ _) hX ll_44 rfl ⟨by decide, by decide⟩ rfl dl_314 (fun w g2 X2 M1 hw hX2 h2 => ?_)
  refine zl_pop dl_317 hw ?_
  refine zl_m dl_318 ?_
  refine zl_ar 1 rfl dl_319 dl_320 dl_321 dl_322 dl_323 (by omega) (by omega) ?_
  refine zl_ar 2 rfl dl_324 dl_325 dl_326 dl_327 dl_328 (by omega) (by omega) ?_
  refine zl_c2 (as := [.int (xs (i + 1)), .int (xs (i + 2))]) (rest := []) hX2 h2 ll_47 rfl ⟨by decide, by decide⟩ rfl (lw_cat _ (Nat.zero_le 1)) dl_329 (fun w2 M2 hs2 hE => ?_)
  obtain ⟨r, r2, rfl, rfl⟩ := (kEi_w hE)
  refine zl_pop dl_332 rfl ?_
  exact zl_goto dl_333 (by decide) (nx M2 g2 X2 hs2)
theorem lw_case_8 {b L : Nat} {xs : Nat → Int32} {i : Nat} {M : zMem} {g : Nat → Option Nat} {X : List zShp} (hL : L ≤ 2048) (hi : i + 4 ≤ L) (hs : kSt M g X) (nx : ∀ M2 g2 X2, kSt M2 g2 X2 → zLT b L xs 850 i [] (SHP g2 X2) M2) : zLT b L xs 336 i [] (SHP g X) M := by
  obtain ⟨n, P, F, I, hok⟩ := hs
  have hX := kIm_len hok.2.2.2.1.2.2.2
  refine zl_x dl_336 ?_
  refine zl_ar 1 rfl dl_337 dl_338 dl_339 dl_340 dl_341 (by omega) (by omega) ?_
  refine zl_ar 2 rfl dl_342 dl_343 dl_344 dl_345 dl_346 (by omega) (by omega) ?_
  refine zl_c1 (as := [.int (xs (i + 1)), .int (xs (i + 2))]) (pr_loaves hok _ _) hX ll_48 rfl ⟨by decide, by decide⟩ rfl dl_347 (fun w g2 X2 M1 hw hX2 h2 => ?_)
  refine zl_pop dl_350 hw ?_
  refine zl_m dl_351 ?_
  refine zl_ar 1 rfl dl_352 dl_353 dl_354 dl_355 dl_356 (by omega) (by omega) ?_
  refine zl_ar 2 rfl dl_357 dl_358 dl_359 dl_360 dl_361 (by omega) (by omega) ?_
  refine zl_c2 (as := [.int (xs (i + 1)), .int (xs (i + 2))]) (rest := []) hX2 h2 ll_51 rfl ⟨by decide, by decide⟩ rfl (lw_cat _ (Nat.zero_le 1)) dl_362 (fun w2 M2 hs2 hE => ?_)
  obtain ⟨r, r2, rfl, rfl⟩ := (kEi_w hE)
  refine zl_pop dl_365 rfl ?_
  exact zl_goto dl_366 (by decide) (nx M2 g2 X2 hs2)
theorem lw_case_9 {b L : Nat} {xs : Nat → Int32} {i : Nat} {M : zMem} {g : Nat → Option Nat} {X : List zShp} (hL : L ≤ 2048) (hi : i + 4 ≤ L) (hs : kSt M g X) (nx : ∀ M2 g2 X2, kSt M2 g2 X2 → zLT b L xs 850 i [] (SHP g2 X2) M2) : zLT b L xs 369 i [] (SHP g X) M := by
  obtain ⟨n, P, F, I, hok⟩ := hs
  have hX := kIm_len hok.2.2.2.1.2.2.2
  refine zl_x dl_369 ?_
  refine zl_ar 1 rfl dl_370 dl_371 dl_372 dl_373 dl_374 (by omega) (by omega) ?_
  refine zl_ar 2 rfl dl_375 dl_376 dl_377 dl_378 dl_379 (by omega) (by omega) ?_
  refine zl_c1 (as := [.int (xs (i + 1)), .int (xs (i + 2))]) (pw_touched hok _ _) hX ll_52 rfl ⟨by decide, by decide⟩ rfl dl_380 (fun w g2 X2 M1 hw hX2 h2 => ?_)
  refine zl_pop dl_383 hw ?_
  refine zl_m dl_384 ?_
  refine zl_ar 1 rfl dl_385 dl_386 dl_387 dl_388 dl_389 (by omega) (by omega) ?_
  refine zl_ar 2 rfl dl_390 dl_391 dl_392 dl_393 dl_394 (by omega) (by omega) ?_
  refine zl_c2 (as := [.int (xs (i + 1)), .int (xs (i + 2))]) (rest := []) hX2 h2 ll_55 rfl ⟨by decide, by decide⟩ rfl (lw_cat _ (Nat.zero_le 1)) dl_395 (fun w2 M2 hs2 hE => ?_)
  obtain ⟨r, r2, rfl, rfl⟩ := (kWi_i hE)
  refine zl_pop dl_398 rfl ?_
  exact zl_goto dl_399 (by decide) (nx M2 g2 X2 hs2)
theorem lw_case_10 {b L : Nat} {xs : Nat → Int32} {i : Nat} {M : zMem} {g : Nat → Option Nat} {X : List zShp} (hL : L ≤ 2048) (hi : i + 4 ≤ L) (hs : kSt M g X) (nx : ∀ M2 g2 X2, kSt M2 g2 X2 → zLT b L xs 850 i [] (SHP g2 X2) M2) : zLT b L xs 402 i [] (SHP g X) M := by
  obtain ⟨n, P, F, I, hok⟩ := hs
  have hX := kIm_len hok.2.2.2.1.2.2.2
  refine zl_x dl_402 ?_
  refine zl_ar 1 rfl dl_403 dl_404 dl_405 dl_406 dl_407 (by omega) (by omega) ?_
  refine zl_ar 2 rfl dl_408 dl_409 dl_410 dl_411 dl_412 (by omega) (by omega) ?_
  refine zl_c1 (as := [.int (xs (i + 1)), .int (xs (i + 2))]) (pw_may hok _ _) hX ll_56 rfl ⟨by decide, by decide⟩ rfl dl_413 (fun w g2 X2 M1 hw hX2 h2 => ?_)
  refine zl_pop dl_416 hw ?_
  refine zl_m dl_417 ?_
  refine zl_ar 1 rfl dl_418 dl_419 dl_420 dl_421 dl_422 (by omega) (by omega) ?_
  refine zl_ar 2 rfl dl_423 dl_424 dl_425 dl_426 dl_427 (by omega) (by omega) ?_
  refine zl_c2 (as := [.int (xs (i + 1)), .int (xs (i + 2))]) (rest := []) hX2 h2 ll_59 rfl ⟨by decide, by decide⟩ rfl (lw_cat _ (Nat.zero_le 1)) dl_428 (fun w2 M2 hs2 hE => ?_)
  obtain ⟨r, r2, rfl, rfl⟩ := (kWi_i hE)
  refine zl_pop dl_431 rfl ?_
  exact zl_goto dl_432 (by decide) (nx M2 g2 X2 hs2)
theorem lw_case_11 {b L : Nat} {xs : Nat → Int32} {i : Nat} {M : zMem} {g : Nat → Option Nat} {X : List zShp} (hL : L ≤ 2048) (hi : i + 4 ≤ L) (hs : kSt M g X) (nx : ∀ M2 g2 X2, kSt M2 g2 X2 → zLT b L xs 850 i [] (SHP g2 X2) M2) : zLT b L xs 435 i [] (SHP g X) M := by
  obtain ⟨n, P, F, I, hok⟩ := hs
  have hX := kIm_len hok.2.2.2.1.2.2.2
  refine zl_x dl_435 ?_
  refine zl_ar 1 rfl dl_436 dl_437 dl_438 dl_439 dl_440 (by omega) (by omega) ?_
  refine zl_ar 2 rfl dl_441 dl_442 dl_443 dl_444 dl_445 (by omega) (by omega) ?_
  refine zl_c1 (as := [.int (xs (i + 1)), .int (xs (i + 2))]) (pw_near hok _ _) hX ll_60 rfl ⟨by decide, by decide⟩ rfl dl_446 (fun w g2 X2 M1 hw hX2 h2 => ?_)
  refine zl_pop dl_449 hw ?_
  refine zl_m dl_450 ?_
  refine zl_ar 1 rfl dl_451 dl_452 dl_453 dl_454 dl_455 (by omega) (by omega) ?_
  refine zl_ar 2 rfl dl_456 dl_457 dl_458 dl_459 dl_460 (by omega) (by omega) ?_
  refine zl_c2 (as := [.int (xs (i + 1)), .int (xs (i + 2))]) (rest := []) hX2 h2 ll_63 rfl ⟨by decide, by decide⟩ rfl (lw_cat _ (Nat.zero_le 1)) dl_461 (fun w2 M2 hs2 hE => ?_)
  obtain ⟨r, r2, rfl, rfl⟩ := (kWi_i hE)
  refine zl_pop dl_464 rfl ?_
  exact zl_goto dl_465 (by decide) (nx M2 g2 X2 hs2)
theorem lw_case_12 {b L : Nat} {xs : Nat → Int32} {i : Nat} {M : zMem} {g : Nat → Option Nat} {X : List zShp} (hL : L ≤ 2048) (hi : i + 4 ≤ L) (hs : kSt M g X) (nx : ∀ M2 g2 X2, kSt M2 g2 X2 → zLT b L xs 850 i [] (SHP g2 X2) M2) : zLT b L xs 468 i [] (SHP g X) M := by
  obtain ⟨n, P, F, I, hok⟩ := hs
  have hX := kIm_len hok.2.2.2.1.2.2.2
  refine zl_x dl_468 ?_
  refine zl_ar 1 rfl dl_469 dl_470 dl_471 dl_472 dl_473 (by omega) (by omega) ?_
  refine zl_ar 2 rfl dl_474 dl_475 dl_476 dl_477 dl_478 (by omega) (by omega) ?_
  refine zl_ar 3 rfl dl_479 dl_480 dl_481 dl_482 dl_483 (by omega) (by omega) ?_
  refine zl_c1 (as := [.int (xs (i + 1)), .int (xs (i + 2)), .int (xs (i + 3))]) (pw_share hok _ _ _) hX ll_64 rfl ⟨by decide, by decide⟩ rfl dl_484 (fun w g2 X2 M1 hw hX2 h2 => ?_)
  refine zl_pop2 dl_487 hw ?_
  refine zl_m dl_488 ?_
  refine zl_ar 1 rfl dl_489 dl_490 dl_491 dl_492 dl_493 (by omega) (by omega) ?_
  refine zl_ar 2 rfl dl_494 dl_495 dl_496 dl_497 dl_498 (by omega) (by omega) ?_
  refine zl_ar 3 rfl dl_499 dl_500 dl_501 dl_502 dl_503 (by omega) (by omega) ?_
  refine zl_c2 (as := [.int (xs (i + 1)), .int (xs (i + 2)), .int (xs (i + 3))]) (rest := []) hX2 h2 ll_68 rfl ⟨by decide, by decide⟩ rfl (lw_cat _ (Nat.zero_le 1)) dl_504 (fun w2 M2 hs2 hE => ?_)
  obtain ⟨r, r2, rfl, rfl⟩ := (kWl_i hE)
  refine zl_pop2 dl_507 rfl ?_
  exact zl_goto dl_508 (by decide) (nx M2 g2 X2 hs2)
theorem lw_case_13 {b L : Nat} {xs : Nat → Int32} {i : Nat} {M : zMem} {g : Nat → Option Nat} {X : List zShp} (hL : L ≤ 2048) (hi : i + 4 ≤ L) (hs : kSt M g X) (nx : ∀ M2 g2 X2, kSt M2 g2 X2 → zLT b L xs 850 i [] (SHP g2 X2) M2) : zLT b L xs 511 i [] (SHP g X) M := by
  obtain ⟨n, P, F, I, hok⟩ := hs
  have hX := kIm_len hok.2.2.2.1.2.2.2
  refine zl_x dl_511 ?_
  refine zl_ar 1 rfl dl_512 dl_513 dl_514 dl_515 dl_516 (by omega) (by omega) ?_
  refine zl_ar 2 rfl dl_517 dl_518 dl_519 dl_520 dl_521 (by omega) (by omega) ?_
  refine zl_c1 (as := [.int (xs (i + 1)), .int (xs (i + 2))]) (pr_seen hok _ _) hX ll_69 rfl ⟨by decide, by decide⟩ rfl dl_522 (fun w g2 X2 M1 hw hX2 h2 => ?_)
  refine zl_pop dl_525 hw ?_
  refine zl_m dl_526 ?_
  refine zl_ar 1 rfl dl_527 dl_528 dl_529 dl_530 dl_531 (by omega) (by omega) ?_
  refine zl_ar 2 rfl dl_532 dl_533 dl_534 dl_535 dl_536 (by omega) (by omega) ?_
  refine zl_c2 (as := [.int (xs (i + 1)), .int (xs (i + 2))]) (rest := []) hX2 h2 ll_72 rfl ⟨by decide, by decide⟩ rfl (lw_cat _ (Nat.zero_le 1)) dl_537 (fun w2 M2 hs2 hE => ?_)
  obtain ⟨r, r2, rfl, rfl⟩ := (kEi_w hE)
  refine zl_pop dl_540 rfl ?_
  exact zl_goto dl_541 (by decide) (nx M2 g2 X2 hs2)
theorem lw_case_14 {b L : Nat} {xs : Nat → Int32} {i : Nat} {M : zMem} {g : Nat → Option Nat} {X : List zShp} (hL : L ≤ 2048) (hi : i + 4 ≤ L) (hs : kSt M g X) (nx : ∀ M2 g2 X2, kSt M2 g2 X2 → zLT b L xs 850 i [] (SHP g2 X2) M2) : zLT b L xs 544 i [] (SHP g X) M := by
  obtain ⟨n, P, F, I, hok⟩ := hs
  have hX := kIm_len hok.2.2.2.1.2.2.2
  refine zl_x dl_544 ?_
  refine zl_c1 (as := []) (pr_forget hok) hX ll_73 rfl ⟨by decide, by decide⟩ rfl dl_545 (fun w g2 X2 M1 hw hX2 h2 => ?_)
  refine zl_pop dl_548 hw ?_
  refine zl_m dl_549 ?_
  refine zl_c2 (as := []) (rest := []) hX2 h2 ll_76 rfl ⟨by decide, by decide⟩ rfl (lw_cat _ (Nat.zero_le 1)) dl_550 (fun w2 M2 hs2 hE => ?_)
  obtain ⟨r, r2, rfl, rfl⟩ := (kEi_w hE)
  refine zl_pop dl_553 rfl ?_
  exact zl_goto dl_554 (by decide) (nx M2 g2 X2 hs2)
theorem lw_case_15 {b L : Nat} {xs : Nat → Int32} {i : Nat} {M : zMem} {g : Nat → Option Nat} {X : List zShp} (hL : L ≤ 2048) (hi : i + 4 ≤ L) (hs : kSt M g X) (nx : ∀ M2 g2 X2, kSt M2 g2 X2 → zLT b L xs 850 i [] (SHP g2 X2) M2) : zLT b L xs 557 i [] (SHP g X) M := by
  obtain ⟨n, P, F, I, hok⟩ := hs
  have hX := kIm_len hok.2.2.2.1.2.2.2
  refine zl_x dl_557 ?_
  refine zl_ar 1 rfl dl_558 dl_559 dl_560 dl_561 dl_562 (by omega) (by omega) ?_
  refine zl_c1 (as := [.int (xs (i + 1))]) (pw_filled hok _) hX ll_77 rfl ⟨by decide, by decide⟩ rfl dl_563 (fun w g2 X2 M1 hw hX2 h2 => ?_)
  refine zl_pop dl_566 hw ?_
  refine zl_m dl_567 ?_
  refine zl_ar 1 rfl dl_568 dl_569 dl_570 dl_571 dl_572 (by omega) (by omega) ?_
  refine zl_c2 (as := [.int (xs (i + 1))]) (rest := []) hX2 h2 ll_80 rfl ⟨by decide, by decide⟩ rfl (lw_cat _ (Nat.zero_le 1)) dl_573 (fun w2 M2 hs2 hE => ?_)
  obtain ⟨r, r2, rfl, rfl⟩ := (kWi_i hE)
  refine zl_pop dl_576 rfl ?_
  exact zl_goto dl_577 (by decide) (nx M2 g2 X2 hs2)
theorem lw_case_16 {b L : Nat} {xs : Nat → Int32} {i : Nat} {M : zMem} {g : Nat → Option Nat} {X : List zShp} (hL : L ≤ 2048) (hi : i + 4 ≤ L) (hs : kSt M g X) (nx : ∀ M2 g2 X2, kSt M2 g2 X2 → zLT b L xs 850 i [] (SHP g2 X2) M2) : zLT b L xs 580 i [] (SHP g X) M := by
  obtain ⟨n, P, F, I, hok⟩ := hs
  have hX := kIm_len hok.2.2.2.1.2.2.2
  refine zl_x dl_580 ?_
  refine zl_ar 1 rfl dl_581 dl_582 dl_583 dl_584 dl_585 (by omega) (by omega) ?_
  refine zl_ar 2 rfl dl_586 dl_587 dl_588 dl_589 dl_590 (by omega) (by omega) ?_
  refine zl_c1 (as := [.int (xs (i + 1)), .int (xs (i + 2))]) (pw_sure hok _ _) hX ll_81 rfl ⟨by decide, by decide⟩ rfl dl_591 (fun w g2 X2 M1 hw hX2 h2 => ?_)
  refine zl_pop dl_594 hw ?_
  refine zl_m dl_595 ?_
  refine zl_ar 1 rfl dl_596 dl_597 dl_598 dl_599 dl_600 (by omega) (by omega) ?_
  refine zl_ar 2 rfl dl_601 dl_602 dl_603 dl_604 dl_605 (by omega) (by omega) ?_
  refine zl_c2 (as := [.int (xs (i + 1)), .int (xs (i + 2))]) (rest := []) hX2 h2 ll_84 rfl ⟨by decide, by decide⟩ rfl (lw_cat _ (Nat.zero_le 1)) dl_606 (fun w2 M2 hs2 hE => ?_)
  obtain ⟨r, r2, rfl, rfl⟩ := (kWi_i hE)
  refine zl_pop dl_609 rfl ?_
  exact zl_goto dl_610 (by decide) (nx M2 g2 X2 hs2)
theorem lw_case_17 {b L : Nat} {xs : Nat → Int32} {i : Nat} {M : zMem} {g : Nat → Option Nat} {X : List zShp} (hL : L ≤ 2048) (hi : i + 4 ≤ L) (hs : kSt M g X) (nx : ∀ M2 g2 X2, kSt M2 g2 X2 → zLT b L xs 850 i [] (SHP g2 X2) M2) : zLT b L xs 613 i [] (SHP g X) M := by
  obtain ⟨n, P, F, I, hok⟩ := hs
  have hX := kIm_len hok.2.2.2.1.2.2.2
  refine zl_x dl_613 ?_
  refine zl_ar 1 rfl dl_614 dl_615 dl_616 dl_617 dl_618 (by omega) (by omega) ?_
  refine zl_c1 (as := [.int (xs (i + 1))]) (pr_fed hok _) hX ll_85 rfl ⟨by decide, by decide⟩ rfl dl_619 (fun w g2 X2 M1 hw hX2 h2 => ?_)
  refine zl_m dl_622 ?_
  refine zl_ar 1 rfl dl_623 dl_624 dl_625 dl_626 dl_627 (by omega) (by omega) ?_
  refine zl_c2 (as := [.int (xs (i + 1))]) (rest := [w]) hX2 h2 ll_88 rfl ⟨by decide, by decide⟩ rfl (lw_cat _ (Nat.le_refl 1)) dl_628 (fun w2 M2 hs2 hE => ?_)
  obtain ⟨r, rfl, rfl⟩ := hE
  refine zl_eq dl_631 (by decide) (nx M2 g2 X2 hs2)
theorem lw_case_18 {b L : Nat} {xs : Nat → Int32} {i : Nat} {M : zMem} {g : Nat → Option Nat} {X : List zShp} (hL : L ≤ 2048) (hi : i + 4 ≤ L) (hs : kSt M g X) (nx : ∀ M2 g2 X2, kSt M2 g2 X2 → zLT b L xs 850 i [] (SHP g2 X2) M2) : zLT b L xs 636 i [] (SHP g X) M := by
  obtain ⟨n, P, F, I, hok⟩ := hs
  have hX := kIm_len hok.2.2.2.1.2.2.2
  refine zl_x dl_636 ?_
  refine zl_c1 (as := []) (pw_lack hok) hX ll_89 rfl ⟨by decide, by decide⟩ rfl dl_637 (fun w g2 X2 M1 hw hX2 h2 => ?_)
  refine zl_pop dl_640 hw ?_
  refine zl_m dl_641 ?_
  refine zl_c2 (as := []) (rest := []) hX2 h2 ll_92 rfl ⟨by decide, by decide⟩ rfl (lw_cat _ (Nat.zero_le 1)) dl_642 (fun w2 M2 hs2 hE => ?_)
  obtain ⟨r, r2, rfl, rfl⟩ := (kWi_i hE)
  refine zl_pop dl_645 rfl ?_
  exact zl_goto dl_646 (by decide) (nx M2 g2 X2 hs2)
theorem lw_case_19 {b L : Nat} {xs : Nat → Int32} {i : Nat} {M : zMem} {g : Nat → Option Nat} {X : List zShp} (hL : L ≤ 2048) (hi : i + 4 ≤ L) (hs : kSt M g X) (nx : ∀ M2 g2 X2, kSt M2 g2 X2 → zLT b L xs 850 i [] (SHP g2 X2) M2) : zLT b L xs 649 i [] (SHP g X) M := by
  obtain ⟨n, P, F, I, hok⟩ := hs
  have hX := kIm_len hok.2.2.2.1.2.2.2
  refine zl_x dl_649 ?_
  refine zl_ar 1 rfl dl_650 dl_651 dl_652 dl_653 dl_654 (by omega) (by omega) ?_
  refine zl_ar 2 rfl dl_655 dl_656 dl_657 dl_658 dl_659 (by omega) (by omega) ?_
  refine zl_c1 (as := [.int (xs (i + 1)), .int (xs (i + 2))]) (pw_makers hok _ _) hX ll_93 rfl ⟨by decide, by decide⟩ rfl dl_660 (fun w g2 X2 M1 hw hX2 h2 => ?_)
  refine zl_pop dl_663 hw ?_
  refine zl_m dl_664 ?_
  refine zl_ar 1 rfl dl_665 dl_666 dl_667 dl_668 dl_669 (by omega) (by omega) ?_
  refine zl_ar 2 rfl dl_670 dl_671 dl_672 dl_673 dl_674 (by omega) (by omega) ?_
  refine zl_c2 (as := [.int (xs (i + 1)), .int (xs (i + 2))]) (rest := []) hX2 h2 ll_96 rfl ⟨by decide, by decide⟩ rfl (lw_cat _ (Nat.zero_le 1)) dl_675 (fun w2 M2 hs2 hE => ?_)
  obtain ⟨r, r2, rfl, rfl⟩ := (kWi_i hE)
  refine zl_pop dl_678 rfl ?_
  exact zl_goto dl_679 (by decide) (nx M2 g2 X2 hs2)
theorem lw_case_20 {b L : Nat} {xs : Nat → Int32} {i : Nat} {M : zMem} {g : Nat → Option Nat} {X : List zShp} (hL : L ≤ 2048) (hi : i + 4 ≤ L) (hs : kSt M g X) (nx : ∀ M2 g2 X2, kSt M2 g2 X2 → zLT b L xs 850 i [] (SHP g2 X2) M2) : zLT b L xs 682 i [] (SHP g X) M := by
  obtain ⟨n, P, F, I, hok⟩ := hs
  have hX := kIm_len hok.2.2.2.1.2.2.2
  refine zl_x dl_682 ?_
  refine zl_ar 1 rfl dl_683 dl_684 dl_685 dl_686 dl_687 (by omega) (by omega) ?_
  refine zl_ar 2 rfl dl_688 dl_689 dl_690 dl_691 dl_692 (by omega) (by omega) ?_
  refine zl_c1 (as := [.int (xs (i + 1)), .int (xs (i + 2))]) (pw_washed hok _ _) hX ll_97 rfl ⟨by decide, by decide⟩ rfl dl_693 (fun w g2 X2 M1 hw hX2 h2 => ?_)
  refine zl_pop dl_696 hw ?_
  refine zl_m dl_697 ?_
  refine zl_ar 1 rfl dl_698 dl_699 dl_700 dl_701 dl_702 (by omega) (by omega) ?_
  refine zl_ar 2 rfl dl_703 dl_704 dl_705 dl_706 dl_707 (by omega) (by omega) ?_
  refine zl_c2 (as := [.int (xs (i + 1)), .int (xs (i + 2))]) (rest := []) hX2 h2 ll_100 rfl ⟨by decide, by decide⟩ rfl (lw_cat _ (Nat.zero_le 1)) dl_708 (fun w2 M2 hs2 hE => ?_)
  obtain ⟨r, r2, rfl, rfl⟩ := (kWi_i hE)
  refine zl_pop dl_711 rfl ?_
  exact zl_goto dl_712 (by decide) (nx M2 g2 X2 hs2)
theorem lw_case_21 {b L : Nat} {xs : Nat → Int32} {i : Nat} {M : zMem} {g : Nat → Option Nat} {X : List zShp} (hL : L ≤ 2048) (hi : i + 4 ≤ L) (hs : kSt M g X) (nx : ∀ M2 g2 X2, kSt M2 g2 X2 → zLT b L xs 850 i [] (SHP g2 X2) M2) : zLT b L xs 715 i [] (SHP g X) M := by
  obtain ⟨n, P, F, I, hok⟩ := hs
  have hX := kIm_len hok.2.2.2.1.2.2.2
  refine zl_x dl_715 ?_
  refine zl_ar 1 rfl dl_716 dl_717 dl_718 dl_719 dl_720 (by omega) (by omega) ?_
  refine zl_c1 (as := [.int (xs (i + 1))]) (pw_married hok _) hX ll_101 rfl ⟨by decide, by decide⟩ rfl dl_721 (fun w g2 X2 M1 hw hX2 h2 => ?_)
  refine zl_pop dl_724 hw ?_
  refine zl_m dl_725 ?_
  refine zl_ar 1 rfl dl_726 dl_727 dl_728 dl_729 dl_730 (by omega) (by omega) ?_
  refine zl_c2 (as := [.int (xs (i + 1))]) (rest := []) hX2 h2 ll_104 rfl ⟨by decide, by decide⟩ rfl (lw_cat _ (Nat.zero_le 1)) dl_731 (fun w2 M2 hs2 hE => ?_)
  obtain ⟨r, r2, rfl, rfl⟩ := (kWi_i hE)
  refine zl_pop dl_734 rfl ?_
  exact zl_goto dl_735 (by decide) (nx M2 g2 X2 hs2)
theorem lw_case_22 {b L : Nat} {xs : Nat → Int32} {i : Nat} {M : zMem} {g : Nat → Option Nat} {X : List zShp} (hL : L ≤ 2048) (hi : i + 4 ≤ L) (hs : kSt M g X) (nx : ∀ M2 g2 X2, kSt M2 g2 X2 → zLT b L xs 850 i [] (SHP g2 X2) M2) : zLT b L xs 738 i [] (SHP g X) M := by
  obtain ⟨n, P, F, I, hok⟩ := hs
  have hX := kIm_len hok.2.2.2.1.2.2.2
  refine zl_x dl_738 ?_
  refine zl_ar 1 rfl dl_739 dl_740 dl_741 dl_742 dl_743 (by omega) (by omega) ?_
  refine zl_ar 2 rfl dl_744 dl_745 dl_746 dl_747 dl_748 (by omega) (by omega) ?_
  refine zl_ar 3 rfl dl_749 dl_750 dl_751 dl_752 dl_753 (by omega) (by omega) ?_
  refine zl_c1 (as := [.int (xs (i + 1)), .int (xs (i + 2)), .int (xs (i + 3))]) (pw_days hok _ _ _) hX ll_105 rfl ⟨by decide, by decide⟩ rfl dl_754 (fun w g2 X2 M1 hw hX2 h2 => ?_)
  refine zl_pop dl_757 hw ?_
  refine zl_m dl_758 ?_
  refine zl_ar 1 rfl dl_759 dl_760 dl_761 dl_762 dl_763 (by omega) (by omega) ?_
  refine zl_ar 2 rfl dl_764 dl_765 dl_766 dl_767 dl_768 (by omega) (by omega) ?_
  refine zl_ar 3 rfl dl_769 dl_770 dl_771 dl_772 dl_773 (by omega) (by omega) ?_
  refine zl_c2 (as := [.int (xs (i + 1)), .int (xs (i + 2)), .int (xs (i + 3))]) (rest := []) hX2 h2 ll_109 rfl ⟨by decide, by decide⟩ rfl (lw_cat _ (Nat.zero_le 1)) dl_774 (fun w2 M2 hs2 hE => ?_)
  obtain ⟨r, r2, rfl, rfl⟩ := (kWi_i hE)
  refine zl_pop dl_777 rfl ?_
  exact zl_goto dl_778 (by decide) (nx M2 g2 X2 hs2)
theorem lw_case_23 {b L : Nat} {xs : Nat → Int32} {i : Nat} {M : zMem} {g : Nat → Option Nat} {X : List zShp} (hL : L ≤ 2048) (hi : i + 4 ≤ L) (hs : kSt M g X) (nx : ∀ M2 g2 X2, kSt M2 g2 X2 → zLT b L xs 850 i [] (SHP g2 X2) M2) : zLT b L xs 781 i [] (SHP g X) M := by
  obtain ⟨n, P, F, I, hok⟩ := hs
  have hX := kIm_len hok.2.2.2.1.2.2.2
  refine zl_x dl_781 ?_
  refine zl_ar 1 rfl dl_782 dl_783 dl_784 dl_785 dl_786 (by omega) (by omega) ?_
  refine zl_c1 (as := [.int (xs (i + 1))]) (pr_image hok _) hX ll_110 rfl ⟨by decide, by decide⟩ rfl dl_787 (fun w g2 X2 M1 hw hX2 h2 => ?_)
  refine zl_pop dl_790 hw ?_
  refine zl_m dl_791 ?_
  refine zl_ar 1 rfl dl_792 dl_793 dl_794 dl_795 dl_796 (by omega) (by omega) ?_
  refine zl_c2 (as := [.int (xs (i + 1))]) (rest := []) hX2 h2 ll_113 rfl ⟨by decide, by decide⟩ rfl (lw_cat _ (Nat.zero_le 1)) dl_797 (fun w2 M2 hs2 hE => ?_)
  obtain ⟨r, r2, rfl, rfl⟩ := (kEi_w hE)
  refine zl_pop dl_800 rfl ?_
  exact zl_goto dl_801 (by decide) (nx M2 g2 X2 hs2)
theorem lw_case_24 {b L : Nat} {xs : Nat → Int32} {i : Nat} {M : zMem} {g : Nat → Option Nat} {X : List zShp} (hL : L ≤ 2048) (hi : i + 4 ≤ L) (hs : kSt M g X) (nx : ∀ M2 g2 X2, kSt M2 g2 X2 → zLT b L xs 850 i [] (SHP g2 X2) M2) : zLT b L xs 804 i [] (SHP g X) M := by
  obtain ⟨n, P, F, I, hok⟩ := hs
  have hX := kIm_len hok.2.2.2.1.2.2.2
  refine zl_x dl_804 ?_
  refine zl_ar 1 rfl dl_805 dl_806 dl_807 dl_808 dl_809 (by omega) (by omega) ?_
  refine zl_c1 (as := [.int (xs (i + 1))]) (pr_restore hok _) hX ll_114 rfl ⟨by decide, by decide⟩ rfl dl_810 (fun w g2 X2 M1 hw hX2 h2 => ?_)
  refine zl_pop dl_813 hw ?_
  refine zl_m dl_814 ?_
  refine zl_ar 1 rfl dl_815 dl_816 dl_817 dl_818 dl_819 (by omega) (by omega) ?_
  refine zl_c2 (as := [.int (xs (i + 1))]) (rest := []) hX2 h2 ll_117 rfl ⟨by decide, by decide⟩ rfl (lw_cat _ (Nat.zero_le 1)) dl_820 (fun w2 M2 hs2 hE => ?_)
  obtain ⟨r, r2, rfl, rfl⟩ := (kEi_w hE)
  refine zl_pop dl_823 rfl ?_
  exact zl_goto dl_824 (by decide) (nx M2 g2 X2 hs2)
theorem lw_case_25 {b L : Nat} {xs : Nat → Int32} {i : Nat} {M : zMem} {g : Nat → Option Nat} {X : List zShp} (hL : L ≤ 2048) (hi : i + 4 ≤ L) (hs : kSt M g X) (nx : ∀ M2 g2 X2, kSt M2 g2 X2 → zLT b L xs 850 i [] (SHP g2 X2) M2) : zLT b L xs 827 i [] (SHP g X) M := by
  obtain ⟨n, P, F, I, hok⟩ := hs
  have hX := kIm_len hok.2.2.2.1.2.2.2
  refine zl_x dl_827 ?_
  refine zl_ar 1 rfl dl_828 dl_829 dl_830 dl_831 dl_832 (by omega) (by omega) ?_
  refine zl_c1 (as := [.int (xs (i + 1))]) (pr_told hok _) hX ll_118 rfl ⟨by decide, by decide⟩ rfl dl_833 (fun w g2 X2 M1 hw hX2 h2 => ?_)
  refine zl_pop dl_836 hw ?_
  refine zl_m dl_837 ?_
  refine zl_ar 1 rfl dl_838 dl_839 dl_840 dl_841 dl_842 (by omega) (by omega) ?_
  refine zl_c2 (as := [.int (xs (i + 1))]) (rest := []) hX2 h2 ll_121 rfl ⟨by decide, by decide⟩ rfl (lw_cat _ (Nat.zero_le 1)) dl_843 (fun w2 M2 hs2 hE => ?_)
  obtain ⟨r, r2, rfl, rfl⟩ := (kEi_w hE)
  refine zl_pop dl_846 rfl ?_
  exact zl_goto dl_847 (by decide) (nx M2 g2 X2 hs2)
