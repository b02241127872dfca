theorem lw_cat (l : List Value) (h : l.length ≤ 1) : (l.map fun v => v.category).sum ≤ 8 := by
  match l, h with
  | [], _ => decide
  | [v], _ => cases v <;> exact Nat.le_of_ble_eq_true rfl
theorem kWi_i {w w2 : Value} (h : kWi w w2) : kWi w w2 := h
theorem kWl_i {w w2 : Value} (h : kWl w w2) : kWl w w2 := h
theorem lw_case_0 {b L : Nat} {xs : Nat → Int32} {i : Nat} {M : zMem} {g : Nat → Option Nat} {X : List zShp} (hL : L ≤ 2048) (hi : i + 4 ≤ L) (hs : kSt M g X) (nx : ∀ M2 g2 X2, kSt M2 g2 X2 → zLT b L xs 851 i [] (SHP g2 X2) M2) : zLT b L xs 152 i [] (SHP g X) M := by
  obtain ⟨n, P, F, I, hok⟩ := hs
  have hX := kIm_len hok.2.2.2.1.2.2.2
  refine zl_x dl_152 ?_
  refine zl_ar 1 rfl dl_153 dl_154 dl_155 dl_156 dl_157 (by omega) (by omega) ?_
  refine zl_c1 (as := [.int (xs (i + 1))]) (pr_say hok _) hX ll_13 rfl ⟨by decide, by decide⟩ rfl dl_158 (fun w g2 X2 M1 hw hX2 h2 => ?_)
  refine zl_pop dl_161 hw ?_
  refine zl_m dl_162 ?_
  refine zl_ar 1 rfl dl_163 dl_164 dl_165 dl_166 dl_167 (by omega) (by omega) ?_
  refine zl_c2 (as := [.int (xs (i + 1))]) (rest := []) hX2 h2 ll_17 rfl ⟨by decide, by decide⟩ rfl (lw_cat _ (Nat.zero_le 1)) dl_168 (fun w2 M2 hs2 hE => ?_)
  obtain ⟨r, r2, rfl, rfl⟩ := (kEi_w hE)
  refine zl_pop dl_171 rfl ?_
  exact zl_goto dl_172 (by decide) (nx M2 g2 X2 hs2)
theorem lw_case_1 {b L : Nat} {xs : Nat → Int32} {i : Nat} {M : zMem} {g : Nat → Option Nat} {X : List zShp} (hL : L ≤ 2048) (hi : i + 4 ≤ L) (hs : kSt M g X) (nx : ∀ M2 g2 X2, kSt M2 g2 X2 → zLT b L xs 851 i [] (SHP g2 X2) M2) : zLT b L xs 175 i [] (SHP g X) M := by
  obtain ⟨n, P, F, I, hok⟩ := hs
  have hX := kIm_len hok.2.2.2.1.2.2.2
  refine zl_x dl_175 ?_
  refine zl_c1 (as := []) (pr_wipe hok) hX ll_18 rfl ⟨by decide, by decide⟩ rfl dl_176 (fun w g2 X2 M1 hw hX2 h2 => ?_)
  refine zl_pop dl_179 hw ?_
  refine zl_m dl_180 ?_
  refine zl_c2 (as := []) (rest := []) hX2 h2 ll_22 rfl ⟨by decide, by decide⟩ rfl (lw_cat _ (Nat.zero_le 1)) dl_181 (fun w2 M2 hs2 hE => ?_)
  obtain ⟨r, r2, rfl, rfl⟩ := (kEi_w hE)
  refine zl_pop dl_184 rfl ?_
  exact zl_goto dl_185 (by decide) (nx M2 g2 X2 hs2)
theorem lw_case_2 {b L : Nat} {xs : Nat → Int32} {i : Nat} {M : zMem} {g : Nat → Option Nat} {X : List zShp} (hL : L ≤ 2048) (hi : i + 4 ≤ L) (hs : kSt M g X) (nx : ∀ M2 g2 X2, kSt M2 g2 X2 → zLT b L xs 851 i [] (SHP g2 X2) M2) : zLT b L xs 188 i [] (SHP g X) M := by
  obtain ⟨n, P, F, I, hok⟩ := hs
  have hX := kIm_len hok.2.2.2.1.2.2.2
  refine zl_x dl_188 ?_
  refine zl_c1 (as := []) (pw_fault hok) hX ll_23 rfl ⟨by decide, by decide⟩ rfl dl_189 (fun w g2 X2 M1 hw hX2 h2 => ?_)
  refine zl_pop dl_192 hw ?_
  refine zl_m dl_193 ?_
  refine zl_c2 (as := []) (rest := []) hX2 h2 ll_26 rfl ⟨by decide, by decide⟩ rfl (lw_cat _ (Nat.zero_le 1)) dl_194 (fun w2 M2 hs2 hE => ?_)
  obtain ⟨r, r2, rfl, rfl⟩ := (kWi_i hE)
  refine zl_pop dl_197 rfl ?_
  exact zl_goto dl_198 (by decide) (nx M2 g2 X2 hs2)
theorem lw_case_3 {b L : Nat} {xs : Nat → Int32} {i : Nat} {M : zMem} {g : Nat → Option Nat} {X : List zShp} (hL : L ≤ 2048) (hi : i + 4 ≤ L) (hs : kSt M g X) (nx : ∀ M2 g2 X2, kSt M2 g2 X2 → zLT b L xs 851 i [] (SHP g2 X2) M2) : zLT b L xs 201 i [] (SHP g X) M := by
  obtain ⟨n, P, F, I, hok⟩ := hs
  have hX := kIm_len hok.2.2.2.1.2.2.2
  refine zl_x dl_201 ?_
  refine zl_c1 (as := []) (pr_book hok) hX ll_27 rfl ⟨by decide, by decide⟩ rfl dl_202 (fun w g2 X2 M1 hw hX2 h2 => ?_)
  refine zl_pop dl_205 hw ?_
  refine zl_m dl_206 ?_
  refine zl_c2 (as := []) (rest := []) hX2 h2 ll_30 rfl ⟨by decide, by decide⟩ rfl (lw_cat _ (Nat.zero_le 1)) dl_207 (fun w2 M2 hs2 hE => ?_)
  obtain ⟨r, r2, rfl, rfl⟩ := (kEi_w hE)
  refine zl_pop dl_210 rfl ?_
  exact zl_goto dl_211 (by decide) (nx M2 g2 X2 hs2)
theorem lw_case_4 {b L : Nat} {xs : Nat → Int32} {i : Nat} {M : zMem} {g : Nat → Option Nat} {X : List zShp} (hL : L ≤ 2048) (hi : i + 4 ≤ L) (hs : kSt M g X) (nx : ∀ M2 g2 X2, kSt M2 g2 X2 → zLT b L xs 851 i [] (SHP g2 X2) M2) : zLT b L xs 214 i [] (SHP g X) M := by
  obtain ⟨n, P, F, I, hok⟩ := hs
  have hX := kIm_len hok.2.2.2.1.2.2.2
  refine zl_x dl_214 ?_
  refine zl_ar 1 rfl dl_215 dl_216 dl_217 dl_218 dl_219 (by omega) (by omega) ?_
  refine zl_ar 2 rfl dl_220 dl_221 dl_222 dl_223 dl_224 (by omega) (by omega) ?_
  refine zl_c1 (as := [.int (xs (i + 1)), .int (xs (i + 2))]) (pr_thing hok _ _) hX ll_31 rfl ⟨by decide, by decide⟩ rfl dl_225 (fun w g2 X2 M1 hw hX2 h2 => ?_)
  refine zl_pop dl_228 hw ?_
  refine zl_m dl_229 ?_
  refine zl_ar 1 rfl dl_230 dl_231 dl_232 dl_233 dl_234 (by omega) (by omega) ?_
  refine zl_ar 2 rfl dl_235 dl_236 dl_237 dl_238 dl_239 (by omega) (by omega) ?_
  refine zl_c2 (as := [.int (xs (i + 1)), .int (xs (i + 2))]) (rest := []) hX2 h2 ll_35 rfl ⟨by decide, by decide⟩ rfl (lw_cat _ (Nat.zero_le 1)) dl_240 (fun w2 M2 hs2 hE => ?_)
  obtain ⟨r, r2, rfl, rfl⟩ := (kEi_w hE)
  refine zl_pop dl_243 rfl ?_
  exact zl_goto dl_244 (by decide) (nx M2 g2 X2 hs2)
theorem lw_case_5 {b L : Nat} {xs : Nat → Int32} {i : Nat} {M : zMem} {g : Nat → Option Nat} {X : List zShp} (hL : L ≤ 2048) (hi : i + 4 ≤ L) (hs : kSt M g X) (nx : ∀ M2 g2 X2, kSt M2 g2 X2 → zLT b L xs 851 i [] (SHP g2 X2) M2) : zLT b L xs 247 i [] (SHP g X) M := by
  obtain ⟨n, P, F, I, hok⟩ := hs
  have hX := kIm_len hok.2.2.2.1.2.2.2
  refine zl_x dl_247 ?_
  refine zl_ar 1 rfl dl_248 dl_249 dl_250 dl_251 dl_252 (by omega) (by omega) ?_
  refine zl_ar 2 rfl dl_253 dl_254 dl_255 dl_256 dl_257 (by omega) (by omega) ?_
  refine zl_c1 (as := [.int (xs (i + 1)), .int (xs (i + 2))]) (pr_join hok _ _) hX ll_36 rfl ⟨by decide, by decide⟩ rfl dl_258 (fun w g2 X2 M1 hw hX2 h2 => ?_)
  refine zl_pop dl_261 hw ?_
  refine zl_m dl_262 ?_
  refine zl_ar 1 rfl dl_263 dl_264 dl_265 dl_266 dl_267 (by omega) (by omega) ?_
  refine zl_ar 2 rfl dl_268 dl_269 dl_270 dl_271 dl_272 (by omega) (by omega) ?_
  refine zl_c2 (as := [.int (xs (i + 1)), .int (xs (i + 2))]) (rest := []) hX2 h2 ll_39 rfl ⟨by decide, by decide⟩ rfl (lw_cat _ (Nat.zero_le 1)) dl_273 (fun w2 M2 hs2 hE => ?_)
  obtain ⟨r, r2, rfl, rfl⟩ := (kEi_w hE)
  refine zl_pop dl_276 rfl ?_
  exact zl_goto dl_277 (by decide) (nx M2 g2 X2 hs2)
theorem lw_case_6 {b L : Nat} {xs : Nat → Int32} {i : Nat} {M : zMem} {g : Nat → Option Nat} {X : List zShp} (hL : L ≤ 2048) (hi : i + 4 ≤ L) (hs : kSt M g X) (nx : ∀ M2 g2 X2, kSt M2 g2 X2 → zLT b L xs 851 i [] (SHP g2 X2) M2) : zLT b L xs 280 i [] (SHP g X) M := by
  obtain ⟨n, P, F, I, hok⟩ := hs
  have hX := kIm_len hok.2.2.2.1.2.2.2
  refine zl_x dl_280 ?_
  refine zl_ar 1 rfl dl_281 dl_282 dl_283 dl_284 dl_285 (by omega) (by omega) ?_
  refine zl_c1 (as := [.int (xs (i + 1))]) (pr_part hok _) hX ll_40 rfl ⟨by decide, by decide⟩ rfl dl_286 (fun w g2 X2 M1 hw hX2 h2 => ?_)
  refine zl_pop dl_289 hw ?_
  refine zl_m dl_290 ?_
  refine zl_ar 1 rfl dl_291 dl_292 dl_293 dl_294 dl_295 (by omega) (by omega) ?_
  refine zl_c2 (as := [.int (xs (i + 1))]) (rest := []) hX2 h2 ll_43 rfl ⟨by decide, by decide⟩ rfl (lw_cat _ (Nat.zero_le 1)) dl_296 (fun w2 M2 hs2 hE => ?_)
  obtain ⟨r, r2, rfl, rfl⟩ := (kEi_w hE)
  refine zl_pop dl_299 rfl ?_
  exact zl_goto dl_300 (by decide) (nx M2 g2 X2 hs2)
theorem lw_case_7 {b L : Nat} {xs : Nat → Int32} {i : Nat} {M : zMem} {g : Nat → Option Nat} {X : List zShp} (hL : L ≤ 2048) (hi : i + 4 ≤ L) (hs : kSt M g X) (nx : ∀ M2 g2 X2, kSt M2 g2 X2 → zLT b L xs 851 i [] (SHP g2 X2) M2) : zLT b L xs 303 i [] (SHP g X) M := by
  obtain ⟨n, P, F, I, hok⟩ := hs
  have hX := kIm_len hok.2.2.2.1.2.2.2
  refine zl_x dl_303 ?_
  refine zl_ar 1 rfl dl_304 dl_305 dl_306 dl_307 dl_308 (by omega) (by omega) ?_
  refine zl_ar 2 rfl dl_309 dl_310 dl_311 dl_312 dl_313 (by omega) (by omega) ?_
  refine zl_c1 (as := [.int (xs (i + 1)), .int (xs (i + 2))]) (pr_set hok _ _) hX ll_44 rfl ⟨by decide, by decide⟩ rfl dl_314 (fun w g2 X2 M1 hw hX2 h2 => ?_)
  refine zl_pop dl_317 hw ?_
  refine zl_m dl_318 ?_
  refine zl_ar 1 rfl dl_319 dl_320 dl_321 dl_322 dl_323 (by omega) (by omega) ?_
  refine zl_ar 2 rfl dl_324 dl_325 dl_326 dl_327 dl_328 (by omega) (by omega) ?_
  refine zl_c2 (as := [.int (xs (i + 1)), .int (xs (i + 2))]) (rest := []) hX2 h2 ll_47 rfl ⟨by decide, by decide⟩ rfl (lw_cat _ (Nat.zero_le 1)) dl_329 (fun w2 M2 hs2 hE => ?_)
  obtain ⟨r, r2, rfl, rfl⟩ := (kEi_w hE)
  refine zl_pop dl_332 rfl ?_
  exact zl_goto dl_333 (by decide) (nx M2 g2 X2 hs2)
theorem lw_case_8 {b L : Nat} {xs : Nat → Int32} {i : Nat} {M : zMem} {g : Nat → Option Nat} {X : List zShp} (hL : L ≤ 2048) (hi : i + 4 ≤ L) (hs : kSt M g X) (nx : ∀ M2 g2 X2, kSt M2 g2 X2 → zLT b L xs 851 i [] (SHP g2 X2) M2) : zLT b L xs 336 i [] (SHP g X) M := by
  obtain ⟨n, P, F, I, hok⟩ := hs
  have hX := kIm_len hok.2.2.2.1.2.2.2
  refine zl_x dl_336 ?_
  refine zl_ar 1 rfl dl_337 dl_338 dl_339 dl_340 dl_341 (by omega) (by omega) ?_
  refine zl_ar 2 rfl dl_342 dl_343 dl_344 dl_345 dl_346 (by omega) (by omega) ?_
  refine zl_c1 (as := [.int (xs (i + 1)), .int (xs (i + 2))]) (pr_loaves hok _ _) hX ll_48 rfl ⟨by decide, by decide⟩ rfl dl_347 (fun w g2 X2 M1 hw hX2 h2 => ?_)
  refine zl_pop dl_350 hw ?_
  refine zl_m dl_351 ?_
  refine zl_ar 1 rfl dl_352 dl_353 dl_354 dl_355 dl_356 (by omega) (by omega) ?_
  refine zl_ar 2 rfl dl_357 dl_358 dl_359 dl_360 dl_361 (by omega) (by omega) ?_
  refine zl_c2 (as := [.int (xs (i + 1)), .int (xs (i + 2))]) (rest := []) hX2 h2 ll_51 rfl ⟨by decide, by decide⟩ rfl (lw_cat _ (Nat.zero_le 1)) dl_362 (fun w2 M2 hs2 hE => ?_)
  obtain ⟨r, r2, rfl, rfl⟩ := (kEi_w hE)
  refine zl_pop dl_365 rfl ?_
  exact zl_goto dl_366 (by decide) (nx M2 g2 X2 hs2)
theorem lw_case_9 {b L : Nat} {xs : Nat → Int32} {i : Nat} {M : zMem} {g : Nat → Option Nat} {X : List zShp} (hL : L ≤ 2048) (hi : i + 4 ≤ L) (hs : kSt M g X) (nx : ∀ M2 g2 X2, kSt M2 g2 X2 → zLT b L xs 851 i [] (SHP g2 X2) M2) : zLT b L xs 369 i [] (SHP g X) M := by
  obtain ⟨n, P, F, I, hok⟩ := hs
  have hX := kIm_len hok.2.2.2.1.2.2.2
  refine zl_x dl_369 ?_
  refine zl_ar 1 rfl dl_370 dl_371 dl_372 dl_373 dl_374 (by omega) (by omega) ?_
  refine zl_ar 2 rfl dl_375 dl_376 dl_377 dl_378 dl_379 (by omega) (by omega) ?_
  refine zl_c1 (as := [.int (xs (i + 1)), .int (xs (i + 2))]) (pw_touched hok _ _) hX ll_52 rfl ⟨by decide, by decide⟩ rfl dl_380 (fun w g2 X2 M1 hw hX2 h2 => ?_)
  refine zl_pop dl_383 hw ?_
  refine zl_m dl_384 ?_
  refine zl_ar 1 rfl dl_385 dl_386 dl_387 dl_388 dl_389 (by omega) (by omega) ?_
  refine zl_ar 2 rfl dl_390 dl_391 dl_392 dl_393 dl_394 (by omega) (by omega) ?_
  refine zl_c2 (as := [.int (xs (i + 1)), .int (xs (i + 2))]) (rest := []) hX2 h2 ll_55 rfl ⟨by decide, by decide⟩ rfl (lw_cat _ (Nat.zero_le 1)) dl_395 (fun w2 M2 hs2 hE => ?_)
  obtain ⟨r, r2, rfl, rfl⟩ := (kWi_i hE)
  refine zl_pop dl_398 rfl ?_
  exact zl_goto dl_399 (by decide) (nx M2 g2 X2 hs2)
theorem lw_case_10 {b L : Nat} {xs : Nat → Int32} {i : Nat} {M : zMem} {g : Nat → Option Nat} {X : List zShp} (hL : L ≤ 2048) (hi : i + 4 ≤ L) (hs : kSt M g X) (nx : ∀ M2 g2 X2, kSt M2 g2 X2 → zLT b L xs 851 i [] (SHP g2 X2) M2) : zLT b L xs 402 i [] (SHP g X) M := by
  obtain ⟨n, P, F, I, hok⟩ := hs
  have hX := kIm_len hok.2.2.2.1.2.2.2
  refine zl_x dl_402 ?_
  refine zl_ar 1 rfl dl_403 dl_404 dl_405 dl_406 dl_407 (by omega) (by omega) ?_
  refine zl_ar 2 rfl dl_408 dl_409 dl_410 dl_411 dl_412 (by omega) (by omega) ?_
  refine zl_c1 (as := [.int (xs (i + 1)), .int (xs (i + 2))]) (pw_may hok _ _) hX ll_56 rfl ⟨by decide, by decide⟩ rfl dl_413 (fun w g2 X2 M1 hw hX2 h2 => ?_)
  refine zl_pop dl_416 hw ?_
  refine zl_m dl_417 ?_
  refine zl_ar 1 rfl dl_418 dl_419 dl_420 dl_421 dl_422 (by omega) (by omega) ?_
  refine zl_ar 2 rfl dl_423 dl_424 dl_425 dl_426 dl_427 (by omega) (by omega) ?_
  refine zl_c2 (as := [.int (xs (i + 1)), .int (xs (i + 2))]) (rest := []) hX2 h2 ll_59 rfl ⟨by decide, by decide⟩ rfl (lw_cat _ (Nat.zero_le 1)) dl_428 (fun w2 M2 hs2 hE => ?_)
  obtain ⟨r, r2, rfl, rfl⟩ := (kWi_i hE)
  refine zl_pop dl_431 rfl ?_
  exact zl_goto dl_432 (by decide) (nx M2 g2 X2 hs2)
theorem lw_case_11 {b L : Nat} {xs : Nat → Int32} {i : Nat} {M : zMem} {g : Nat → Option Nat} {X : List zShp} (hL : L ≤ 2048) (hi : i + 4 ≤ L) (hs : kSt M g X) (nx : ∀ M2 g2 X2, kSt M2 g2 X2 → zLT b L xs 851 i [] (SHP g2 X2) M2) : zLT b L xs 435 i [] (SHP g X) M := by
  obtain ⟨n, P, F, I, hok⟩ := hs
  have hX := kIm_len hok.2.2.2.1.2.2.2
  refine zl_x dl_435 ?_
  refine zl_ar 1 rfl dl_436 dl_437 dl_438 dl_439 dl_440 (by omega) (by omega) ?_
  refine zl_ar 2 rfl dl_441 dl_442 dl_443 dl_444 dl_445 (by omega) (by omega) ?_
  refine zl_c1 (as := [.int (xs (i + 1)), .int (xs (i + 2))]) (pw_near hok _ _) hX ll_60 rfl ⟨by decide, by decide⟩ rfl dl_446 (fun w g2 X2 M1 hw hX2 h2 => ?_)
  refine zl_pop dl_449 hw ?_
  refine zl_m dl_450 ?_
  refine zl_ar 1 rfl dl_451 dl_452 dl_453 dl_454 dl_455 (by omega) (by omega) ?_
  refine zl_ar 2 rfl dl_456 dl_457 dl_458 dl_459 dl_460 (by omega) (by omega) ?_
  refine zl_c2 (as := [.int (xs (i + 1)), .int (xs (i + 2))]) (rest := []) hX2 h2 ll_63 rfl ⟨by decide, by decide⟩ rfl (lw_cat _ (Nat.zero_le 1)) dl_461 (fun w2 M2 hs2 hE => ?_)
  obtain ⟨r, r2, rfl, rfl⟩ := (kWi_i hE)
  refine zl_pop dl_464 rfl ?_
  exact zl_goto dl_465 (by decide) (nx M2 g2 X2 hs2)
theorem lw_case_12 {b L : Nat} {xs : Nat → Int32} {i : Nat} {M : zMem} {g : Nat → Option Nat} {X : List zShp} (hL : L ≤ 2048) (hi : i + 4 ≤ L) (hs : kSt M g X) (nx : ∀ M2 g2 X2, kSt M2 g2 X2 → zLT b L xs 851 i [] (SHP g2 X2) M2) : zLT b L xs 468 i [] (SHP g X) M := by
  obtain ⟨n, P, F, I, hok⟩ := hs
  have hX := kIm_len hok.2.2.2.1.2.2.2
  refine zl_x dl_468 ?_
  refine zl_ar 1 rfl dl_469 dl_470 dl_471 dl_472 dl_473 (by omega) (by omega) ?_
  refine zl_ar 2 rfl dl_474 dl_475 dl_476 dl_477 dl_478 (by omega) (by omega) ?_
  refine zl_ar 3 rfl dl_479 dl_480 dl_481 dl_482 dl_483 (by omega) (by omega) ?_
  refine zl_c1 (as := [.int (xs (i + 1)), .int (xs (i + 2)), .int (xs (i + 3))]) (pr_share hok _ _ _) hX ll_64 rfl ⟨by decide, by decide⟩ rfl dl_484 (fun w g2 X2 M1 hw hX2 h2 => ?_)
  refine zl_m dl_487 ?_
  refine zl_ar 1 rfl dl_488 dl_489 dl_490 dl_491 dl_492 (by omega) (by omega) ?_
  refine zl_ar 2 rfl dl_493 dl_494 dl_495 dl_496 dl_497 (by omega) (by omega) ?_
  refine zl_ar 3 rfl dl_498 dl_499 dl_500 dl_501 dl_502 (by omega) (by omega) ?_
  refine zl_c2 (as := [.int (xs (i + 1)), .int (xs (i + 2)), .int (xs (i + 3))]) (rest := [w]) hX2 h2 ll_68 rfl ⟨by decide, by decide⟩ rfl (lw_cat _ (Nat.le_refl 1)) dl_503 (fun w2 M2 hs2 hE => ?_)
  obtain ⟨r, rfl, rfl⟩ := hE
  refine zl_leq dl_506 dl_507 (by decide) (nx M2 g2 X2 hs2)
theorem lw_case_13 {b L : Nat} {xs : Nat → Int32} {i : Nat} {M : zMem} {g : Nat → Option Nat} {X : List zShp} (hL : L ≤ 2048) (hi : i + 4 ≤ L) (hs : kSt M g X) (nx : ∀ M2 g2 X2, kSt M2 g2 X2 → zLT b L xs 851 i [] (SHP g2 X2) M2) : zLT b L xs 512 i [] (SHP g X) M := by
  obtain ⟨n, P, F, I, hok⟩ := hs
  have hX := kIm_len hok.2.2.2.1.2.2.2
  refine zl_x dl_512 ?_
  refine zl_ar 1 rfl dl_513 dl_514 dl_515 dl_516 dl_517 (by omega) (by omega) ?_
  refine zl_ar 2 rfl dl_518 dl_519 dl_520 dl_521 dl_522 (by omega) (by omega) ?_
  refine zl_c1 (as := [.int (xs (i + 1)), .int (xs (i + 2))]) (pr_seen hok _ _) hX ll_69 rfl ⟨by decide, by decide⟩ rfl dl_523 (fun w g2 X2 M1 hw hX2 h2 => ?_)
  refine zl_pop dl_526 hw ?_
  refine zl_m dl_527 ?_
  refine zl_ar 1 rfl dl_528 dl_529 dl_530 dl_531 dl_532 (by omega) (by omega) ?_
  refine zl_ar 2 rfl dl_533 dl_534 dl_535 dl_536 dl_537 (by omega) (by omega) ?_
  refine zl_c2 (as := [.int (xs (i + 1)), .int (xs (i + 2))]) (rest := []) hX2 h2 ll_72 rfl ⟨by decide, by decide⟩ rfl (lw_cat _ (Nat.zero_le 1)) dl_538 (fun w2 M2 hs2 hE => ?_)
  obtain ⟨r, r2, rfl, rfl⟩ := (kEi_w hE)
  refine zl_pop dl_541 rfl ?_
  exact zl_goto dl_542 (by decide) (nx M2 g2 X2 hs2)
theorem lw_case_14 {b L : Nat} {xs : Nat → Int32} {i : Nat} {M : zMem} {g : Nat → Option Nat} {X : List zShp} (hL : L ≤ 2048) (hi : i + 4 ≤ L) (hs : kSt M g X) (nx : ∀ M2 g2 X2, kSt M2 g2 X2 → zLT b L xs 851 i [] (SHP g2 X2) M2) : zLT b L xs 545 i [] (SHP g X) M := by
  obtain ⟨n, P, F, I, hok⟩ := hs
  have hX := kIm_len hok.2.2.2.1.2.2.2
  refine zl_x dl_545 ?_
  refine zl_c1 (as := []) (pr_forget hok) hX ll_73 rfl ⟨by decide, by decide⟩ rfl dl_546 (fun w g2 X2 M1 hw hX2 h2 => ?_)
  refine zl_pop dl_549 hw ?_
  refine zl_m dl_550 ?_
  refine zl_c2 (as := []) (rest := []) hX2 h2 ll_76 rfl ⟨by decide, by decide⟩ rfl (lw_cat _ (Nat.zero_le 1)) dl_551 (fun w2 M2 hs2 hE => ?_)
  obtain ⟨r, r2, rfl, rfl⟩ := (kEi_w hE)
  refine zl_pop dl_554 rfl ?_
  exact zl_goto dl_555 (by decide) (nx M2 g2 X2 hs2)
theorem lw_case_15 {b L : Nat} {xs : Nat → Int32} {i : Nat} {M : zMem} {g : Nat → Option Nat} {X : List zShp} (hL : L ≤ 2048) (hi : i + 4 ≤ L) (hs : kSt M g X) (nx : ∀ M2 g2 X2, kSt M2 g2 X2 → zLT b L xs 851 i [] (SHP g2 X2) M2) : zLT b L xs 558 i [] (SHP g X) M := by
  obtain ⟨n, P, F, I, hok⟩ := hs
  have hX := kIm_len hok.2.2.2.1.2.2.2
  refine zl_x dl_558 ?_
  refine zl_ar 1 rfl dl_559 dl_560 dl_561 dl_562 dl_563 (by omega) (by omega) ?_
  refine zl_c1 (as := [.int (xs (i + 1))]) (pw_filled hok _) hX ll_77 rfl ⟨by decide, by decide⟩ rfl dl_564 (fun w g2 X2 M1 hw hX2 h2 => ?_)
  refine zl_pop dl_567 hw ?_
  refine zl_m dl_568 ?_
  refine zl_ar 1 rfl dl_569 dl_570 dl_571 dl_572 dl_573 (by omega) (by omega) ?_
  refine zl_c2 (as := [.int (xs (i + 1))]) (rest := []) hX2 h2 ll_80 rfl ⟨by decide, by decide⟩ rfl (lw_cat _ (Nat.zero_le 1)) dl_574 (fun w2 M2 hs2 hE => ?_)
  obtain ⟨r, r2, rfl, rfl⟩ := (kWi_i hE)
  refine zl_pop dl_577 rfl ?_
  exact zl_goto dl_578 (by decide) (nx M2 g2 X2 hs2)
theorem lw_case_16 {b L : Nat} {xs : Nat → Int32} {i : Nat} {M : zMem} {g : Nat → Option Nat} {X : List zShp} (hL : L ≤ 2048) (hi : i + 4 ≤ L) (hs : kSt M g X) (nx : ∀ M2 g2 X2, kSt M2 g2 X2 → zLT b L xs 851 i [] (SHP g2 X2) M2) : zLT b L xs 581 i [] (SHP g X) M := by
  obtain ⟨n, P, F, I, hok⟩ := hs
  have hX := kIm_len hok.2.2.2.1.2.2.2
  refine zl_x dl_581 ?_
  refine zl_ar 1 rfl dl_582 dl_583 dl_584 dl_585 dl_586 (by omega) (by omega) ?_
  refine zl_ar 2 rfl dl_587 dl_588 dl_589 dl_590 dl_591 (by omega) (by omega) ?_
  refine zl_c1 (as := [.int (xs (i + 1)), .int (xs (i + 2))]) (pw_sure hok _ _) hX ll_81 rfl ⟨by decide, by decide⟩ rfl dl_592 (fun w g2 X2 M1 hw hX2 h2 => ?_)
  refine zl_pop dl_595 hw ?_
  refine zl_m dl_596 ?_
  refine zl_ar 1 rfl dl_597 dl_598 dl_599 dl_600 dl_601 (by omega) (by omega) ?_
  refine zl_ar 2 rfl dl_602 dl_603 dl_604 dl_605 dl_606 (by omega) (by omega) ?_
  refine zl_c2 (as := [.int (xs (i + 1)), .int (xs (i + 2))]) (rest := []) hX2 h2 ll_84 rfl ⟨by decide, by decide⟩ rfl (lw_cat _ (Nat.zero_le 1)) dl_607 (fun w2 M2 hs2 hE => ?_)
  obtain ⟨r, r2, rfl, rfl⟩ := (kWi_i hE)
  refine zl_pop dl_610 rfl ?_
  exact zl_goto dl_611 (by decide) (nx M2 g2 X2 hs2)
theorem lw_case_17 {b L : Nat} {xs : Nat → Int32} {i : Nat} {M : zMem} {g : Nat → Option Nat} {X : List zShp} (hL : L ≤ 2048) (hi : i + 4 ≤ L) (hs : kSt M g X) (nx : ∀ M2 g2 X2, kSt M2 g2 X2 → zLT b L xs 851 i [] (SHP g2 X2) M2) : zLT b L xs 614 i [] (SHP g X) M := by
  obtain ⟨n, P, F, I, hok⟩ := hs
  have hX := kIm_len hok.2.2.2.1.2.2.2
  refine zl_x dl_614 ?_
  refine zl_ar 1 rfl dl_615 dl_616 dl_617 dl_618 dl_619 (by omega) (by omega) ?_
  refine zl_c1 (as := [.int (xs (i + 1))]) (pw_fed hok _) hX ll_85 rfl ⟨by decide, by decide⟩ rfl dl_620 (fun w g2 X2 M1 hw hX2 h2 => ?_)
  refine zl_pop dl_623 hw ?_
  refine zl_m dl_624 ?_
  refine zl_ar 1 rfl dl_625 dl_626 dl_627 dl_628 dl_629 (by omega) (by omega) ?_
  refine zl_c2 (as := [.int (xs (i + 1))]) (rest := []) hX2 h2 ll_88 rfl ⟨by decide, by decide⟩ rfl (lw_cat _ (Nat.zero_le 1)) dl_630 (fun w2 M2 hs2 hE => ?_)
  obtain ⟨r, r2, rfl, rfl⟩ := (kWi_i hE)
  refine zl_pop dl_633 rfl ?_
  exact zl_goto dl_634 (by decide) (nx M2 g2 X2 hs2)
theorem lw_case_18 {b L : Nat} {xs : Nat → Int32} {i : Nat} {M : zMem} {g : Nat → Option Nat} {X : List zShp} (hL : L ≤ 2048) (hi : i + 4 ≤ L) (hs : kSt M g X) (nx : ∀ M2 g2 X2, kSt M2 g2 X2 → zLT b L xs 851 i [] (SHP g2 X2) M2) : zLT b L xs 637 i [] (SHP g X) M := by
  obtain ⟨n, P, F, I, hok⟩ := hs
  have hX := kIm_len hok.2.2.2.1.2.2.2
  refine zl_x dl_637 ?_
  refine zl_c1 (as := []) (pw_lack hok) hX ll_89 rfl ⟨by decide, by decide⟩ rfl dl_638 (fun w g2 X2 M1 hw hX2 h2 => ?_)
  refine zl_pop dl_641 hw ?_
  refine zl_m dl_642 ?_
  refine zl_c2 (as := []) (rest := []) hX2 h2 ll_92 rfl ⟨by decide, by decide⟩ rfl (lw_cat _ (Nat.zero_le 1)) dl_643 (fun w2 M2 hs2 hE => ?_)
  obtain ⟨r, r2, rfl, rfl⟩ := (kWi_i hE)
  refine zl_pop dl_646 rfl ?_
  exact zl_goto dl_647 (by decide) (nx M2 g2 X2 hs2)
theorem lw_case_19 {b L : Nat} {xs : Nat → Int32} {i : Nat} {M : zMem} {g : Nat → Option Nat} {X : List zShp} (hL : L ≤ 2048) (hi : i + 4 ≤ L) (hs : kSt M g X) (nx : ∀ M2 g2 X2, kSt M2 g2 X2 → zLT b L xs 851 i [] (SHP g2 X2) M2) : zLT b L xs 650 i [] (SHP g X) M := by
  obtain ⟨n, P, F, I, hok⟩ := hs
  have hX := kIm_len hok.2.2.2.1.2.2.2
  refine zl_x dl_650 ?_
  refine zl_ar 1 rfl dl_651 dl_652 dl_653 dl_654 dl_655 (by omega) (by omega) ?_
  refine zl_ar 2 rfl dl_656 dl_657 dl_658 dl_659 dl_660 (by omega) (by omega) ?_
  refine zl_c1 (as := [.int (xs (i + 1)), .int (xs (i + 2))]) (pw_makers hok _ _) hX ll_93 rfl ⟨by decide, by decide⟩ rfl dl_661 (fun w g2 X2 M1 hw hX2 h2 => ?_)
  refine zl_pop dl_664 hw ?_
  refine zl_m dl_665 ?_
  refine zl_ar 1 rfl dl_666 dl_667 dl_668 dl_669 dl_670 (by omega) (by omega) ?_
  refine zl_ar 2 rfl dl_671 dl_672 dl_673 dl_674 dl_675 (by omega) (by omega) ?_
  refine zl_c2 (as := [.int (xs (i + 1)), .int (xs (i + 2))]) (rest := []) hX2 h2 ll_96 rfl ⟨by decide, by decide⟩ rfl (lw_cat _ (Nat.zero_le 1)) dl_676 (fun w2 M2 hs2 hE => ?_)
  obtain ⟨r, r2, rfl, rfl⟩ := (kWi_i hE)
  refine zl_pop dl_679 rfl ?_
  exact zl_goto dl_680 (by decide) (nx M2 g2 X2 hs2)
theorem lw_case_20 {b L : Nat} {xs : Nat → Int32} {i : Nat} {M : zMem} {g : Nat → Option Nat} {X : List zShp} (hL : L ≤ 2048) (hi : i + 4 ≤ L) (hs : kSt M g X) (nx : ∀ M2 g2 X2, kSt M2 g2 X2 → zLT b L xs 851 i [] (SHP g2 X2) M2) : zLT b L xs 683 i [] (SHP g X) M := by
  obtain ⟨n, P, F, I, hok⟩ := hs
  have hX := kIm_len hok.2.2.2.1.2.2.2
  refine zl_x dl_683 ?_
  refine zl_ar 1 rfl dl_684 dl_685 dl_686 dl_687 dl_688 (by omega) (by omega) ?_
  refine zl_ar 2 rfl dl_689 dl_690 dl_691 dl_692 dl_693 (by omega) (by omega) ?_
  refine zl_c1 (as := [.int (xs (i + 1)), .int (xs (i + 2))]) (pw_washed hok _ _) hX ll_97 rfl ⟨by decide, by decide⟩ rfl dl_694 (fun w g2 X2 M1 hw hX2 h2 => ?_)
  refine zl_pop dl_697 hw ?_
  refine zl_m dl_698 ?_
  refine zl_ar 1 rfl dl_699 dl_700 dl_701 dl_702 dl_703 (by omega) (by omega) ?_
  refine zl_ar 2 rfl dl_704 dl_705 dl_706 dl_707 dl_708 (by omega) (by omega) ?_
  refine zl_c2 (as := [.int (xs (i + 1)), .int (xs (i + 2))]) (rest := []) hX2 h2 ll_100 rfl ⟨by decide, by decide⟩ rfl (lw_cat _ (Nat.zero_le 1)) dl_709 (fun w2 M2 hs2 hE => ?_)
  obtain ⟨r, r2, rfl, rfl⟩ := (kWi_i hE)
  refine zl_pop dl_712 rfl ?_
  exact zl_goto dl_713 (by decide) (nx M2 g2 X2 hs2)
theorem lw_case_21 {b L : Nat} {xs : Nat → Int32} {i : Nat} {M : zMem} {g : Nat → Option Nat} {X : List zShp} (hL : L ≤ 2048) (hi : i + 4 ≤ L) (hs : kSt M g X) (nx : ∀ M2 g2 X2, kSt M2 g2 X2 → zLT b L xs 851 i [] (SHP g2 X2) M2) : zLT b L xs 716 i [] (SHP g X) M := by
  obtain ⟨n, P, F, I, hok⟩ := hs
  have hX := kIm_len hok.2.2.2.1.2.2.2
  refine zl_x dl_716 ?_
  refine zl_ar 1 rfl dl_717 dl_718 dl_719 dl_720 dl_721 (by omega) (by omega) ?_
  refine zl_c1 (as := [.int (xs (i + 1))]) (pw_married hok _) hX ll_101 rfl ⟨by decide, by decide⟩ rfl dl_722 (fun w g2 X2 M1 hw hX2 h2 => ?_)
  refine zl_pop dl_725 hw ?_
  refine zl_m dl_726 ?_
  refine zl_ar 1 rfl dl_727 dl_728 dl_729 dl_730 dl_731 (by omega) (by omega) ?_
  refine zl_c2 (as := [.int (xs (i + 1))]) (rest := []) hX2 h2 ll_104 rfl ⟨by decide, by decide⟩ rfl (lw_cat _ (Nat.zero_le 1)) dl_732 (fun w2 M2 hs2 hE => ?_)
  obtain ⟨r, r2, rfl, rfl⟩ := (kWi_i hE)
  refine zl_pop dl_735 rfl ?_
  exact zl_goto dl_736 (by decide) (nx M2 g2 X2 hs2)
theorem lw_case_22 {b L : Nat} {xs : Nat → Int32} {i : Nat} {M : zMem} {g : Nat → Option Nat} {X : List zShp} (hL : L ≤ 2048) (hi : i + 4 ≤ L) (hs : kSt M g X) (nx : ∀ M2 g2 X2, kSt M2 g2 X2 → zLT b L xs 851 i [] (SHP g2 X2) M2) : zLT b L xs 739 i [] (SHP g X) M := by
  obtain ⟨n, P, F, I, hok⟩ := hs
  have hX := kIm_len hok.2.2.2.1.2.2.2
  refine zl_x dl_739 ?_
  refine zl_ar 1 rfl dl_740 dl_741 dl_742 dl_743 dl_744 (by omega) (by omega) ?_
  refine zl_ar 2 rfl dl_745 dl_746 dl_747 dl_748 dl_749 (by omega) (by omega) ?_
  refine zl_ar 3 rfl dl_750 dl_751 dl_752 dl_753 dl_754 (by omega) (by omega) ?_
  refine zl_c1 (as := [.int (xs (i + 1)), .int (xs (i + 2)), .int (xs (i + 3))]) (pw_days hok _ _ _) hX ll_105 rfl ⟨by decide, by decide⟩ rfl dl_755 (fun w g2 X2 M1 hw hX2 h2 => ?_)
  refine zl_pop dl_758 hw ?_
  refine zl_m dl_759 ?_
  refine zl_ar 1 rfl dl_760 dl_761 dl_762 dl_763 dl_764 (by omega) (by omega) ?_
  refine zl_ar 2 rfl dl_765 dl_766 dl_767 dl_768 dl_769 (by omega) (by omega) ?_
  refine zl_ar 3 rfl dl_770 dl_771 dl_772 dl_773 dl_774 (by omega) (by omega) ?_
  refine zl_c2 (as := [.int (xs (i + 1)), .int (xs (i + 2)), .int (xs (i + 3))]) (rest := []) hX2 h2 ll_109 rfl ⟨by decide, by decide⟩ rfl (lw_cat _ (Nat.zero_le 1)) dl_775 (fun w2 M2 hs2 hE => ?_)
  obtain ⟨r, r2, rfl, rfl⟩ := (kWi_i hE)
  refine zl_pop dl_778 rfl ?_
  exact zl_goto dl_779 (by decide) (nx M2 g2 X2 hs2)
theorem lw_case_23 {b L : Nat} {xs : Nat → Int32} {i : Nat} {M : zMem} {g : Nat → Option Nat} {X : List zShp} (hL : L ≤ 2048) (hi : i + 4 ≤ L) (hs : kSt M g X) (nx : ∀ M2 g2 X2, kSt M2 g2 X2 → zLT b L xs 851 i [] (SHP g2 X2) M2) : zLT b L xs 782 i [] (SHP g X) M := by
  obtain ⟨n, P, F, I, hok⟩ := hs
  have hX := kIm_len hok.2.2.2.1.2.2.2
  refine zl_x dl_782 ?_
  refine zl_ar 1 rfl dl_783 dl_784 dl_785 dl_786 dl_787 (by omega) (by omega) ?_
  refine zl_c1 (as := [.int (xs (i + 1))]) (pr_image hok _) hX ll_110 rfl ⟨by decide, by decide⟩ rfl dl_788 (fun w g2 X2 M1 hw hX2 h2 => ?_)
  refine zl_pop dl_791 hw ?_
  refine zl_m dl_792 ?_
  refine zl_ar 1 rfl dl_793 dl_794 dl_795 dl_796 dl_797 (by omega) (by omega) ?_
  refine zl_c2 (as := [.int (xs (i + 1))]) (rest := []) hX2 h2 ll_113 rfl ⟨by decide, by decide⟩ rfl (lw_cat _ (Nat.zero_le 1)) dl_798 (fun w2 M2 hs2 hE => ?_)
  obtain ⟨r, r2, rfl, rfl⟩ := (kEi_w hE)
  refine zl_pop dl_801 rfl ?_
  exact zl_goto dl_802 (by decide) (nx M2 g2 X2 hs2)
theorem lw_case_24 {b L : Nat} {xs : Nat → Int32} {i : Nat} {M : zMem} {g : Nat → Option Nat} {X : List zShp} (hL : L ≤ 2048) (hi : i + 4 ≤ L) (hs : kSt M g X) (nx : ∀ M2 g2 X2, kSt M2 g2 X2 → zLT b L xs 851 i [] (SHP g2 X2) M2) : zLT b L xs 805 i [] (SHP g X) M := by
  obtain ⟨n, P, F, I, hok⟩ := hs
  have hX := kIm_len hok.2.2.2.1.2.2.2
  refine zl_x dl_805 ?_
  refine zl_ar 1 rfl dl_806 dl_807 dl_808 dl_809 dl_810 (by omega) (by omega) ?_
  refine zl_c1 (as := [.int (xs (i + 1))]) (pr_restore hok _) hX ll_114 rfl ⟨by decide, by decide⟩ rfl dl_811 (fun w g2 X2 M1 hw hX2 h2 => ?_)
  refine zl_pop dl_814 hw ?_
  refine zl_m dl_815 ?_
  refine zl_ar 1 rfl dl_816 dl_817 dl_818 dl_819 dl_820 (by omega) (by omega) ?_
  refine zl_c2 (as := [.int (xs (i + 1))]) (rest := []) hX2 h2 ll_117 rfl ⟨by decide, by decide⟩ rfl (lw_cat _ (Nat.zero_le 1)) dl_821 (fun w2 M2 hs2 hE => ?_)
  obtain ⟨r, r2, rfl, rfl⟩ := (kEi_w hE)
  refine zl_pop dl_824 rfl ?_
  exact zl_goto dl_825 (by decide) (nx M2 g2 X2 hs2)
theorem lw_case_25 {b L : Nat} {xs : Nat → Int32} {i : Nat} {M : zMem} {g : Nat → Option Nat} {X : List zShp} (hL : L ≤ 2048) (hi : i + 4 ≤ L) (hs : kSt M g X) (nx : ∀ M2 g2 X2, kSt M2 g2 X2 → zLT b L xs 851 i [] (SHP g2 X2) M2) : zLT b L xs 828 i [] (SHP g X) M := by
  obtain ⟨n, P, F, I, hok⟩ := hs
  have hX := kIm_len hok.2.2.2.1.2.2.2
  refine zl_x dl_828 ?_
  refine zl_ar 1 rfl dl_829 dl_830 dl_831 dl_832 dl_833 (by omega) (by omega) ?_
  refine zl_c1 (as := [.int (xs (i + 1))]) (pr_told hok _) hX ll_118 rfl ⟨by decide, by decide⟩ rfl dl_834 (fun w g2 X2 M1 hw hX2 h2 => ?_)
  refine zl_pop dl_837 hw ?_
  refine zl_m dl_838 ?_
  refine zl_ar 1 rfl dl_839 dl_840 dl_841 dl_842 dl_843 (by omega) (by omega) ?_
  refine zl_c2 (as := [.int (xs (i + 1))]) (rest := []) hX2 h2 ll_121 rfl ⟨by decide, by decide⟩ rfl (lw_cat _ (Nat.zero_le 1)) dl_844 (fun w2 M2 hs2 hE => ?_)
  obtain ⟨r, r2, rfl, rfl⟩ := (kEi_w hE)
  refine zl_pop dl_847 rfl ?_
  exact zl_goto dl_848 (by decide) (nx M2 g2 X2 hs2)
