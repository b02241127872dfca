/-! THE CLAIM OUT OF ONE WALK OF THE LAW'S BODY. Your part is whole_start (and what it stands on); all else here is the same for every law, but numbers. -/
def R_law : String := "OthersHandsLaw"
def lw_P (b : Addr) (xs : List Int32) (args : Array Value) (s : State) : Prop := args = #[.ref b] ∧ s.IntsAt b xs ∧ xs.length ≤ 2048 ∧ (Jvm.Cond.and given_1 narrow_1).before args s = true
def lw_Q (_ : Array Value) (s : State) (o : Outcome) (t : State) : Prop := o = .returned (some (.int 1)) ∧ Framed s o t [] 600000 7302250
def lw_Z (below : List Frame) (a : Array Value) (s : State) : State → Prop := fun t => ∃ o, t.status = .running ∧ Ended t below o ∧ lw_Q a s o t
/-- the law's own end, with 1 on the stack, nothing written that was there before, its room as the claim has it -/
theorem lw_ret {p : Program} {l : Launch} {e : Env} {s : State} {m : MethodId} {below : List Frame} {meth : Method} {c : Code} {b : Nat} (hx : p.tables.exec = Jvm.exec) (hb : c.code = code) (hr : meth.sig.returnType = ret) (hlocks : meth.locks = false) {pc : Nat} {H : Heap} {ls : Array Slot} (hdg : decode code pc = .ok (.ireturn, 1)) : W p l e room_1 s m #[Value.ref b] below meth c H [] 600000 7302250 (lw_Z below #[Value.ref b] s) (F0 m pc ls [.int 1]) := by
  intro T hT X
  obtain ⟨fs, hret, hrun, hended, hW, hframe⟩ := X.leave (v := some (.int 1)) (hlocks := hlocks) (fun h => by rw [hr] at h; cases h)
  have hmeth' : T.vm.method? m = some meth := X.method'
  refine ⟨T.setFrames fs, ?_, .returned (some (.int 1)), hrun, hended, rfl, ⟨_, rfl⟩, hW, hframe⟩
  jvm_step X.here [X.here.top, hx, hb, hdg, hmeth', hr, ret, narrow_b1]
  (try refine ⟨rfl, ?_⟩); (try refine ⟨rfl, ?_⟩)
  first | (intro acts; rw [hret _ acts rfl rfl rfl]) | rw [hret _ _ rfl rfl rfl]
  exact Steps.refl _
/-- what holds at the law's entry: the machine, the code, the tables' words (any of lw_tbl by 'hts w (by decide +kernel)'), the script of L ints xs at the cell b, what the Statement gives of the start (any of its parts by flat_of_before) -/
def lw_At (p : Program) (s : State) (m : MethodId) (meth : Method) (c : Code) (b L : Nat) (xs : Nat → Int32) : Prop :=
  p.tables.exec = Jvm.exec ∧ c.code = code ∧ meth.sig.returnType = ret ∧ c.maxLocals = 4 ∧ s.vm.findClass R_law = some m.cls ∧ (∀ w ∈ lw_tbl, w.before #[Value.ref b] s = true) ∧ va_X b L xs s s.heap ∧ b < s.heap.size ∧ meth.locks = false ∧ (Jvm.Cond.and given_1 narrow_1).before #[Value.ref b] s = true

theorem dl_0 : decode code 0 = .ok (.new 7, 3) := by decide +kernel
theorem dl_3 : decode code 3 = .ok (.dup, 1) := by decide +kernel
theorem dl_4 : decode code 4 = .ok (.invokespecial 9, 3) := by decide +kernel
theorem dl_7 : decode code 7 = .ok (.astore_n 1, 1) := by decide +kernel
theorem dl_8 : decode code 8 = .ok (.new 10, 3) := by decide +kernel
theorem dl_11 : decode code 11 = .ok (.dup, 1) := by decide +kernel
theorem dl_12 : decode code 12 = .ok (.invokespecial 12, 3) := by decide +kernel
theorem dl_15 : decode code 15 = .ok (.astore_n 2, 1) := by decide +kernel
theorem dl_16 : decode code 16 = .ok (.iconst 0, 1) := by decide +kernel
theorem dl_17 : decode code 17 = .ok (.istore_n 3, 1) := by decide +kernel
theorem dl_18 : decode code 18 = .ok (.iload_n 3, 1) := by decide +kernel
theorem dl_19 : decode code 19 = .ok (.aload_n 0, 1) := by decide +kernel
theorem dl_20 : decode code 20 = .ok (.arraylength, 1) := by decide +kernel
theorem dl_21 : decode code 21 = .ok (.iconst 4, 1) := by decide +kernel
theorem dl_22 : decode code 22 = .ok (.isub, 1) := by decide +kernel
theorem dl_23 : decode code 23 = .ok (.if_icmp .gt 833, 3) := by decide +kernel
theorem dl_26 : decode code 26 = .ok (.aload_n 0, 1) := by decide +kernel
theorem dl_27 : decode code 27 = .ok (.iload_n 3, 1) := by decide +kernel
theorem dl_28 : decode code 28 = .ok (.iaload, 1) := by decide +kernel
theorem dl_29 : decode code 29 = .ok (.bipush 31, 2) := by decide +kernel
theorem dl_31 : decode code 31 = .ok (.iand, 1) := by decide +kernel
theorem dl_32 : decode code 32 = .ok (.tableswitch 818 0 25 #[120, 143, 156, 169, 182, 215, 248, 271, 304, 337, 370, 403, 436, 479, 512, 525, 548, 581, 604, 617, 650, 683, 706, 749, 772, 795], 120) := by decide +kernel
theorem dl_152 : decode code 152 = .ok (.aload_n 1, 1) := by decide +kernel
theorem dl_153 : decode code 153 = .ok (.aload_n 0, 1) := by decide +kernel
theorem dl_154 : decode code 154 = .ok (.iload_n 3, 1) := by decide +kernel
theorem dl_155 : decode code 155 = .ok (.iconst 1, 1) := by decide +kernel
theorem dl_156 : decode code 156 = .ok (.iadd, 1) := by decide +kernel
theorem dl_157 : decode code 157 = .ok (.iaload, 1) := by decide +kernel
theorem dl_158 : decode code 158 = .ok (.invokevirtual 13, 3) := by decide +kernel
theorem dl_161 : decode code 161 = .ok (.pop, 1) := by decide +kernel
theorem dl_162 : decode code 162 = .ok (.aload_n 2, 1) := by decide +kernel
theorem dl_163 : decode code 163 = .ok (.aload_n 0, 1) := by decide +kernel
theorem dl_164 : decode code 164 = .ok (.iload_n 3, 1) := by decide +kernel
theorem dl_165 : decode code 165 = .ok (.iconst 1, 1) := by decide +kernel
theorem dl_166 : decode code 166 = .ok (.iadd, 1) := by decide +kernel
theorem dl_167 : decode code 167 = .ok (.iaload, 1) := by decide +kernel
theorem dl_168 : decode code 168 = .ok (.invokevirtual 17, 3) := by decide +kernel
theorem dl_171 : decode code 171 = .ok (.pop, 1) := by decide +kernel
theorem dl_172 : decode code 172 = .ok (.goto 678, 3) := by decide +kernel
theorem dl_175 : decode code 175 = .ok (.aload_n 1, 1) := by decide +kernel
theorem dl_176 : decode code 176 = .ok (.invokevirtual 18, 3) := by decide +kernel
theorem dl_179 : decode code 179 = .ok (.pop, 1) := by decide +kernel
theorem dl_180 : decode code 180 = .ok (.aload_n 2, 1) := by decide +kernel
theorem dl_181 : decode code 181 = .ok (.invokevirtual 22, 3) := by decide +kernel
theorem dl_184 : decode code 184 = .ok (.pop, 1) := by decide +kernel
theorem dl_185 : decode code 185 = .ok (.goto 665, 3) := by decide +kernel
theorem dl_188 : decode code 188 = .ok (.aload_n 1, 1) := by decide +kernel
theorem dl_189 : decode code 189 = .ok (.invokevirtual 23, 3) := by decide +kernel
theorem dl_192 : decode code 192 = .ok (.pop, 1) := by decide +kernel
theorem dl_193 : decode code 193 = .ok (.aload_n 2, 1) := by decide +kernel
theorem dl_194 : decode code 194 = .ok (.invokevirtual 26, 3) := by decide +kernel
theorem dl_197 : decode code 197 = .ok (.pop, 1) := by decide +kernel
theorem dl_198 : decode code 198 = .ok (.goto 652, 3) := by decide +kernel
theorem dl_201 : decode code 201 = .ok (.aload_n 1, 1) := by decide +kernel
theorem dl_202 : decode code 202 = .ok (.invokevirtual 27, 3) := by decide +kernel
theorem dl_205 : decode code 205 = .ok (.pop, 1) := by decide +kernel
theorem dl_206 : decode code 206 = .ok (.aload_n 2, 1) := by decide +kernel
theorem dl_207 : decode code 207 = .ok (.invokevirtual 30, 3) := by decide +kernel
theorem dl_210 : decode code 210 = .ok (.pop, 1) := by decide +kernel
theorem dl_211 : decode code 211 = .ok (.goto 639, 3) := by decide +kernel
theorem dl_214 : decode code 214 = .ok (.aload_n 1, 1) := by decide +kernel
theorem dl_215 : decode code 215 = .ok (.aload_n 0, 1) := by decide +kernel
theorem dl_216 : decode code 216 = .ok (.iload_n 3, 1) := by decide +kernel
theorem dl_217 : decode code 217 = .ok (.iconst 1, 1) := by decide +kernel
theorem dl_218 : decode code 218 = .ok (.iadd, 1) := by decide +kernel
theorem dl_219 : decode code 219 = .ok (.iaload, 1) := by decide +kernel
theorem dl_220 : decode code 220 = .ok (.aload_n 0, 1) := by decide +kernel
theorem dl_221 : decode code 221 = .ok (.iload_n 3, 1) := by decide +kernel
theorem dl_222 : decode code 222 = .ok (.iconst 2, 1) := by decide +kernel
theorem dl_223 : decode code 223 = .ok (.iadd, 1) := by decide +kernel
theorem dl_224 : decode code 224 = .ok (.iaload, 1) := by decide +kernel
theorem dl_225 : decode code 225 = .ok (.invokevirtual 31, 3) := by decide +kernel
theorem dl_228 : decode code 228 = .ok (.pop, 1) := by decide +kernel
theorem dl_229 : decode code 229 = .ok (.aload_n 2, 1) := by decide +kernel
theorem dl_230 : decode code 230 = .ok (.aload_n 0, 1) := by decide +kernel
theorem dl_231 : decode code 231 = .ok (.iload_n 3, 1) := by decide +kernel
theorem dl_232 : decode code 232 = .ok (.iconst 1, 1) := by decide +kernel
theorem dl_233 : decode code 233 = .ok (.iadd, 1) := by decide +kernel
theorem dl_234 : decode code 234 = .ok (.iaload, 1) := by decide +kernel
theorem dl_235 : decode code 235 = .ok (.aload_n 0, 1) := by decide +kernel
theorem dl_236 : decode code 236 = .ok (.iload_n 3, 1) := by decide +kernel
theorem dl_237 : decode code 237 = .ok (.iconst 2, 1) := by decide +kernel
theorem dl_238 : decode code 238 = .ok (.iadd, 1) := by decide +kernel
theorem dl_239 : decode code 239 = .ok (.iaload, 1) := by decide +kernel
theorem dl_240 : decode code 240 = .ok (.invokevirtual 35, 3) := by decide +kernel
theorem dl_243 : decode code 243 = .ok (.pop, 1) := by decide +kernel
theorem dl_244 : decode code 244 = .ok (.goto 606, 3) := by decide +kernel
theorem dl_247 : decode code 247 = .ok (.aload_n 1, 1) := by decide +kernel
theorem dl_248 : decode code 248 = .ok (.aload_n 0, 1) := by decide +kernel
theorem dl_249 : decode code 249 = .ok (.iload_n 3, 1) := by decide +kernel
theorem dl_250 : decode code 250 = .ok (.iconst 1, 1) := by decide +kernel
theorem dl_251 : decode code 251 = .ok (.iadd, 1) := by decide +kernel
theorem dl_252 : decode code 252 = .ok (.iaload, 1) := by decide +kernel
theorem dl_253 : decode code 253 = .ok (.aload_n 0, 1) := by decide +kernel
theorem dl_254 : decode code 254 = .ok (.iload_n 3, 1) := by decide +kernel
theorem dl_255 : decode code 255 = .ok (.iconst 2, 1) := by decide +kernel
theorem dl_256 : decode code 256 = .ok (.iadd, 1) := by decide +kernel
theorem dl_257 : decode code 257 = .ok (.iaload, 1) := by decide +kernel
theorem dl_258 : decode code 258 = .ok (.invokevirtual 36, 3) := by decide +kernel
theorem dl_261 : decode code 261 = .ok (.pop, 1) := by decide +kernel
theorem dl_262 : decode code 262 = .ok (.aload_n 2, 1) := by decide +kernel
theorem dl_263 : decode code 263 = .ok (.aload_n 0, 1) := by decide +kernel
theorem dl_264 : decode code 264 = .ok (.iload_n 3, 1) := by decide +kernel
theorem dl_265 : decode code 265 = .ok (.iconst 1, 1) := by decide +kernel
theorem dl_266 : decode code 266 = .ok (.iadd, 1) := by decide +kernel
theorem dl_267 : decode code 267 = .ok (.iaload, 1) := by decide +kernel
theorem dl_268 : decode code 268 = .ok (.aload_n 0, 1) := by decide +kernel
theorem dl_269 : decode code 269 = .ok (.iload_n 3, 1) := by decide +kernel
theorem dl_270 : decode code 270 = .ok (.iconst 2, 1) := by decide +kernel
theorem dl_271 : decode code 271 = .ok (.iadd, 1) := by decide +kernel
theorem dl_272 : decode code 272 = .ok (.iaload, 1) := by decide +kernel
theorem dl_273 : decode code 273 = .ok (.invokevirtual 39, 3) := by decide +kernel
theorem dl_276 : decode code 276 = .ok (.pop, 1) := by decide +kernel
theorem dl_277 : decode code 277 = .ok (.goto 573, 3) := by decide +kernel
theorem dl_280 : decode code 280 = .ok (.aload_n 1, 1) := by decide +kernel
theorem dl_281 : decode code 281 = .ok (.aload_n 0, 1) := by decide +kernel
theorem dl_282 : decode code 282 = .ok (.iload_n 3, 1) := by decide +kernel
theorem dl_283 : decode code 283 = .ok (.iconst 1, 1) := by decide +kernel
theorem dl_284 : decode code 284 = .ok (.iadd, 1) := by decide +kernel
theorem dl_285 : decode code 285 = .ok (.iaload, 1) := by decide +kernel
theorem dl_286 : decode code 286 = .ok (.invokevirtual 40, 3) := by decide +kernel
theorem dl_289 : decode code 289 = .ok (.pop, 1) := by decide +kernel
theorem dl_290 : decode code 290 = .ok (.aload_n 2, 1) := by decide +kernel
theorem dl_291 : decode code 291 = .ok (.aload_n 0, 1) := by decide +kernel
theorem dl_292 : decode code 292 = .ok (.iload_n 3, 1) := by decide +kernel
theorem dl_293 : decode code 293 = .ok (.iconst 1, 1) := by decide +kernel
theorem dl_294 : decode code 294 = .ok (.iadd, 1) := by decide +kernel
theorem dl_295 : decode code 295 = .ok (.iaload, 1) := by decide +kernel
theorem dl_296 : decode code 296 = .ok (.invokevirtual 43, 3) := by decide +kernel
theorem dl_299 : decode code 299 = .ok (.pop, 1) := by decide +kernel
theorem dl_300 : decode code 300 = .ok (.goto 550, 3) := by decide +kernel
theorem dl_303 : decode code 303 = .ok (.aload_n 1, 1) := by decide +kernel
theorem dl_304 : decode code 304 = .ok (.aload_n 0, 1) := by decide +kernel
theorem dl_305 : decode code 305 = .ok (.iload_n 3, 1) := by decide +kernel
theorem dl_306 : decode code 306 = .ok (.iconst 1, 1) := by decide +kernel
theorem dl_307 : decode code 307 = .ok (.iadd, 1) := by decide +kernel
theorem dl_308 : decode code 308 = .ok (.iaload, 1) := by decide +kernel
theorem dl_309 : decode code 309 = .ok (.aload_n 0, 1) := by decide +kernel
theorem dl_310 : decode code 310 = .ok (.iload_n 3, 1) := by decide +kernel
theorem dl_311 : decode code 311 = .ok (.iconst 2, 1) := by decide +kernel
theorem dl_312 : decode code 312 = .ok (.iadd, 1) := by decide +kernel
theorem dl_313 : decode code 313 = .ok (.iaload, 1) := by decide +kernel
theorem dl_314 : decode code 314 = .ok (.invokevirtual 44, 3) := by decide +kernel
theorem dl_317 : decode code 317 = .ok (.pop, 1) := by decide +kernel
theorem dl_318 : decode code 318 = .ok (.aload_n 2, 1) := by decide +kernel
theorem dl_319 : decode code 319 = .ok (.aload_n 0, 1) := by decide +kernel
theorem dl_320 : decode code 320 = .ok (.iload_n 3, 1) := by decide +kernel
theorem dl_321 : decode code 321 = .ok (.iconst 1, 1) := by decide +kernel
theorem dl_322 : decode code 322 = .ok (.iadd, 1) := by decide +kernel
theorem dl_323 : decode code 323 = .ok (.iaload, 1) := by decide +kernel
theorem dl_324 : decode code 324 = .ok (.aload_n 0, 1) := by decide +kernel
theorem dl_325 : decode code 325 = .ok (.iload_n 3, 1) := by decide +kernel
theorem dl_326 : decode code 326 = .ok (.iconst 2, 1) := by decide +kernel
theorem dl_327 : decode code 327 = .ok (.iadd, 1) := by decide +kernel
theorem dl_328 : decode code 328 = .ok (.iaload, 1) := by decide +kernel
theorem dl_329 : decode code 329 = .ok (.invokevirtual 47, 3) := by decide +kernel
theorem dl_332 : decode code 332 = .ok (.pop, 1) := by decide +kernel
theorem dl_333 : decode code 333 = .ok (.goto 517, 3) := by decide +kernel
theorem dl_336 : decode code 336 = .ok (.aload_n 1, 1) := by decide +kernel
theorem dl_337 : decode code 337 = .ok (.aload_n 0, 1) := by decide +kernel
theorem dl_338 : decode code 338 = .ok (.iload_n 3, 1) := by decide +kernel
theorem dl_339 : decode code 339 = .ok (.iconst 1, 1) := by decide +kernel
theorem dl_340 : decode code 340 = .ok (.iadd, 1) := by decide +kernel
theorem dl_341 : decode code 341 = .ok (.iaload, 1) := by decide +kernel
theorem dl_342 : decode code 342 = .ok (.aload_n 0, 1) := by decide +kernel
theorem dl_343 : decode code 343 = .ok (.iload_n 3, 1) := by decide +kernel
theorem dl_344 : decode code 344 = .ok (.iconst 2, 1) := by decide +kernel
theorem dl_345 : decode code 345 = .ok (.iadd, 1) := by decide +kernel
theorem dl_346 : decode code 346 = .ok (.iaload, 1) := by decide +kernel
theorem dl_347 : decode code 347 = .ok (.invokevirtual 48, 3) := by decide +kernel
theorem dl_350 : decode code 350 = .ok (.pop, 1) := by decide +kernel
theorem dl_351 : decode code 351 = .ok (.aload_n 2, 1) := by decide +kernel
theorem dl_352 : decode code 352 = .ok (.aload_n 0, 1) := by decide +kernel
theorem dl_353 : decode code 353 = .ok (.iload_n 3, 1) := by decide +kernel
theorem dl_354 : decode code 354 = .ok (.iconst 1, 1) := by decide +kernel
theorem dl_355 : decode code 355 = .ok (.iadd, 1) := by decide +kernel
theorem dl_356 : decode code 356 = .ok (.iaload, 1) := by decide +kernel
theorem dl_357 : decode code 357 = .ok (.aload_n 0, 1) := by decide +kernel
theorem dl_358 : decode code 358 = .ok (.iload_n 3, 1) := by decide +kernel
theorem dl_359 : decode code 359 = .ok (.iconst 2, 1) := by decide +kernel
theorem dl_360 : decode code 360 = .ok (.iadd, 1) := by decide +kernel
theorem dl_361 : decode code 361 = .ok (.iaload, 1) := by decide +kernel
theorem dl_362 : decode code 362 = .ok (.invokevirtual 51, 3) := by decide +kernel
theorem dl_365 : decode code 365 = .ok (.pop, 1) := by decide +kernel
theorem dl_366 : decode code 366 = .ok (.goto 484, 3) := by decide +kernel
theorem dl_369 : decode code 369 = .ok (.aload_n 1, 1) := by decide +kernel
theorem dl_370 : decode code 370 = .ok (.aload_n 0, 1) := by decide +kernel
theorem dl_371 : decode code 371 = .ok (.iload_n 3, 1) := by decide +kernel
theorem dl_372 : decode code 372 = .ok (.iconst 1, 1) := by decide +kernel
theorem dl_373 : decode code 373 = .ok (.iadd, 1) := by decide +kernel
theorem dl_374 : decode code 374 = .ok (.iaload, 1) := by decide +kernel
theorem dl_375 : decode code 375 = .ok (.aload_n 0, 1) := by decide +kernel
theorem dl_376 : decode code 376 = .ok (.iload_n 3, 1) := by decide +kernel
theorem dl_377 : decode code 377 = .ok (.iconst 2, 1) := by decide +kernel
theorem dl_378 : decode code 378 = .ok (.iadd, 1) := by decide +kernel
theorem dl_379 : decode code 379 = .ok (.iaload, 1) := by decide +kernel
theorem dl_380 : decode code 380 = .ok (.invokevirtual 52, 3) := by decide +kernel
theorem dl_383 : decode code 383 = .ok (.pop, 1) := by decide +kernel
theorem dl_384 : decode code 384 = .ok (.aload_n 2, 1) := by decide +kernel
theorem dl_385 : decode code 385 = .ok (.aload_n 0, 1) := by decide +kernel
theorem dl_386 : decode code 386 = .ok (.iload_n 3, 1) := by decide +kernel
theorem dl_387 : decode code 387 = .ok (.iconst 1, 1) := by decide +kernel
theorem dl_388 : decode code 388 = .ok (.iadd, 1) := by decide +kernel
theorem dl_389 : decode code 389 = .ok (.iaload, 1) := by decide +kernel
theorem dl_390 : decode code 390 = .ok (.aload_n 0, 1) := by decide +kernel
theorem dl_391 : decode code 391 = .ok (.iload_n 3, 1) := by decide +kernel
theorem dl_392 : decode code 392 = .ok (.iconst 2, 1) := by decide +kernel
theorem dl_393 : decode code 393 = .ok (.iadd, 1) := by decide +kernel
theorem dl_394 : decode code 394 = .ok (.iaload, 1) := by decide +kernel
theorem dl_395 : decode code 395 = .ok (.invokevirtual 55, 3) := by decide +kernel
theorem dl_398 : decode code 398 = .ok (.pop, 1) := by decide +kernel
theorem dl_399 : decode code 399 = .ok (.goto 451, 3) := by decide +kernel
theorem dl_402 : decode code 402 = .ok (.aload_n 1, 1) := by decide +kernel
theorem dl_403 : decode code 403 = .ok (.aload_n 0, 1) := by decide +kernel
theorem dl_404 : decode code 404 = .ok (.iload_n 3, 1) := by decide +kernel
theorem dl_405 : decode code 405 = .ok (.iconst 1, 1) := by decide +kernel
theorem dl_406 : decode code 406 = .ok (.iadd, 1) := by decide +kernel
theorem dl_407 : decode code 407 = .ok (.iaload, 1) := by decide +kernel
theorem dl_408 : decode code 408 = .ok (.aload_n 0, 1) := by decide +kernel
theorem dl_409 : decode code 409 = .ok (.iload_n 3, 1) := by decide +kernel
theorem dl_410 : decode code 410 = .ok (.iconst 2, 1) := by decide +kernel
theorem dl_411 : decode code 411 = .ok (.iadd, 1) := by decide +kernel
theorem dl_412 : decode code 412 = .ok (.iaload, 1) := by decide +kernel
theorem dl_413 : decode code 413 = .ok (.invokevirtual 56, 3) := by decide +kernel
theorem dl_416 : decode code 416 = .ok (.pop, 1) := by decide +kernel
theorem dl_417 : decode code 417 = .ok (.aload_n 2, 1) := by decide +kernel
theorem dl_418 : decode code 418 = .ok (.aload_n 0, 1) := by decide +kernel
theorem dl_419 : decode code 419 = .ok (.iload_n 3, 1) := by decide +kernel
theorem dl_420 : decode code 420 = .ok (.iconst 1, 1) := by decide +kernel
theorem dl_421 : decode code 421 = .ok (.iadd, 1) := by decide +kernel
theorem dl_422 : decode code 422 = .ok (.iaload, 1) := by decide +kernel
theorem dl_423 : decode code 423 = .ok (.aload_n 0, 1) := by decide +kernel
theorem dl_424 : decode code 424 = .ok (.iload_n 3, 1) := by decide +kernel
theorem dl_425 : decode code 425 = .ok (.iconst 2, 1) := by decide +kernel
theorem dl_426 : decode code 426 = .ok (.iadd, 1) := by decide +kernel
theorem dl_427 : decode code 427 = .ok (.iaload, 1) := by decide +kernel
theorem dl_428 : decode code 428 = .ok (.invokevirtual 59, 3) := by decide +kernel
theorem dl_431 : decode code 431 = .ok (.pop, 1) := by decide +kernel
theorem dl_432 : decode code 432 = .ok (.goto 418, 3) := by decide +kernel
theorem dl_435 : decode code 435 = .ok (.aload_n 1, 1) := by decide +kernel
theorem dl_436 : decode code 436 = .ok (.aload_n 0, 1) := by decide +kernel
theorem dl_437 : decode code 437 = .ok (.iload_n 3, 1) := by decide +kernel
theorem dl_438 : decode code 438 = .ok (.iconst 1, 1) := by decide +kernel
theorem dl_439 : decode code 439 = .ok (.iadd, 1) := by decide +kernel
theorem dl_440 : decode code 440 = .ok (.iaload, 1) := by decide +kernel
theorem dl_441 : decode code 441 = .ok (.aload_n 0, 1) := by decide +kernel
theorem dl_442 : decode code 442 = .ok (.iload_n 3, 1) := by decide +kernel
theorem dl_443 : decode code 443 = .ok (.iconst 2, 1) := by decide +kernel
theorem dl_444 : decode code 444 = .ok (.iadd, 1) := by decide +kernel
theorem dl_445 : decode code 445 = .ok (.iaload, 1) := by decide +kernel
theorem dl_446 : decode code 446 = .ok (.invokevirtual 60, 3) := by decide +kernel
theorem dl_449 : decode code 449 = .ok (.pop, 1) := by decide +kernel
theorem dl_450 : decode code 450 = .ok (.aload_n 2, 1) := by decide +kernel
theorem dl_451 : decode code 451 = .ok (.aload_n 0, 1) := by decide +kernel
theorem dl_452 : decode code 452 = .ok (.iload_n 3, 1) := by decide +kernel
theorem dl_453 : decode code 453 = .ok (.iconst 1, 1) := by decide +kernel
theorem dl_454 : decode code 454 = .ok (.iadd, 1) := by decide +kernel
theorem dl_455 : decode code 455 = .ok (.iaload, 1) := by decide +kernel
theorem dl_456 : decode code 456 = .ok (.aload_n 0, 1) := by decide +kernel
theorem dl_457 : decode code 457 = .ok (.iload_n 3, 1) := by decide +kernel
theorem dl_458 : decode code 458 = .ok (.iconst 2, 1) := by decide +kernel
theorem dl_459 : decode code 459 = .ok (.iadd, 1) := by decide +kernel
theorem dl_460 : decode code 460 = .ok (.iaload, 1) := by decide +kernel
theorem dl_461 : decode code 461 = .ok (.invokevirtual 63, 3) := by decide +kernel
theorem dl_464 : decode code 464 = .ok (.pop, 1) := by decide +kernel
theorem dl_465 : decode code 465 = .ok (.goto 385, 3) := by decide +kernel
theorem dl_468 : decode code 468 = .ok (.aload_n 1, 1) := by decide +kernel
theorem dl_469 : decode code 469 = .ok (.aload_n 0, 1) := by decide +kernel
theorem dl_470 : decode code 470 = .ok (.iload_n 3, 1) := by decide +kernel
theorem dl_471 : decode code 471 = .ok (.iconst 1, 1) := by decide +kernel
theorem dl_472 : decode code 472 = .ok (.iadd, 1) := by decide +kernel
theorem dl_473 : decode code 473 = .ok (.iaload, 1) := by decide +kernel
theorem dl_474 : decode code 474 = .ok (.aload_n 0, 1) := by decide +kernel
theorem dl_475 : decode code 475 = .ok (.iload_n 3, 1) := by decide +kernel
theorem dl_476 : decode code 476 = .ok (.iconst 2, 1) := by decide +kernel
theorem dl_477 : decode code 477 = .ok (.iadd, 1) := by decide +kernel
theorem dl_478 : decode code 478 = .ok (.iaload, 1) := by decide +kernel
theorem dl_479 : decode code 479 = .ok (.aload_n 0, 1) := by decide +kernel
theorem dl_480 : decode code 480 = .ok (.iload_n 3, 1) := by decide +kernel
theorem dl_481 : decode code 481 = .ok (.iconst 3, 1) := by decide +kernel
theorem dl_482 : decode code 482 = .ok (.iadd, 1) := by decide +kernel
theorem dl_483 : decode code 483 = .ok (.iaload, 1) := by decide +kernel
theorem dl_484 : decode code 484 = .ok (.invokevirtual 64, 3) := by decide +kernel
theorem dl_487 : decode code 487 = .ok (.pop2, 1) := by decide +kernel
theorem dl_488 : decode code 488 = .ok (.aload_n 2, 1) := by decide +kernel
theorem dl_489 : decode code 489 = .ok (.aload_n 0, 1) := by decide +kernel
theorem dl_490 : decode code 490 = .ok (.iload_n 3, 1) := by decide +kernel
theorem dl_491 : decode code 491 = .ok (.iconst 1, 1) := by decide +kernel
theorem dl_492 : decode code 492 = .ok (.iadd, 1) := by decide +kernel
theorem dl_493 : decode code 493 = .ok (.iaload, 1) := by decide +kernel
theorem dl_494 : decode code 494 = .ok (.aload_n 0, 1) := by decide +kernel
theorem dl_495 : decode code 495 = .ok (.iload_n 3, 1) := by decide +kernel
theorem dl_496 : decode code 496 = .ok (.iconst 2, 1) := by decide +kernel
theorem dl_497 : decode code 497 = .ok (.iadd, 1) := by decide +kernel
theorem dl_498 : decode code 498 = .ok (.iaload, 1) := by decide +kernel
theorem dl_499 : decode code 499 = .ok (.aload_n 0, 1) := by decide +kernel
theorem dl_500 : decode code 500 = .ok (.iload_n 3, 1) := by decide +kernel
theorem dl_501 : decode code 501 = .ok (.iconst 3, 1) := by decide +kernel
theorem dl_502 : decode code 502 = .ok (.iadd, 1) := by decide +kernel
theorem dl_503 : decode code 503 = .ok (.iaload, 1) := by decide +kernel
theorem dl_504 : decode code 504 = .ok (.invokevirtual 68, 3) := by decide +kernel
theorem dl_507 : decode code 507 = .ok (.pop2, 1) := by decide +kernel
theorem dl_508 : decode code 508 = .ok (.goto 342, 3) := by decide +kernel
theorem dl_511 : decode code 511 = .ok (.aload_n 1, 1) := by decide +kernel
theorem dl_512 : decode code 512 = .ok (.aload_n 0, 1) := by decide +kernel
theorem dl_513 : decode code 513 = .ok (.iload_n 3, 1) := by decide +kernel
theorem dl_514 : decode code 514 = .ok (.iconst 1, 1) := by decide +kernel
theorem dl_515 : decode code 515 = .ok (.iadd, 1) := by decide +kernel
theorem dl_516 : decode code 516 = .ok (.iaload, 1) := by decide +kernel
theorem dl_517 : decode code 517 = .ok (.aload_n 0, 1) := by decide +kernel
theorem dl_518 : decode code 518 = .ok (.iload_n 3, 1) := by decide +kernel
theorem dl_519 : decode code 519 = .ok (.iconst 2, 1) := by decide +kernel
theorem dl_520 : decode code 520 = .ok (.iadd, 1) := by decide +kernel
theorem dl_521 : decode code 521 = .ok (.iaload, 1) := by decide +kernel
theorem dl_522 : decode code 522 = .ok (.invokevirtual 69, 3) := by decide +kernel
theorem dl_525 : decode code 525 = .ok (.pop, 1) := by decide +kernel
theorem dl_526 : decode code 526 = .ok (.aload_n 2, 1) := by decide +kernel
theorem dl_527 : decode code 527 = .ok (.aload_n 0, 1) := by decide +kernel
theorem dl_528 : decode code 528 = .ok (.iload_n 3, 1) := by decide +kernel
theorem dl_529 : decode code 529 = .ok (.iconst 1, 1) := by decide +kernel
theorem dl_530 : decode code 530 = .ok (.iadd, 1) := by decide +kernel
theorem dl_531 : decode code 531 = .ok (.iaload, 1) := by decide +kernel
theorem dl_532 : decode code 532 = .ok (.aload_n 0, 1) := by decide +kernel
theorem dl_533 : decode code 533 = .ok (.iload_n 3, 1) := by decide +kernel
theorem dl_534 : decode code 534 = .ok (.iconst 2, 1) := by decide +kernel
theorem dl_535 : decode code 535 = .ok (.iadd, 1) := by decide +kernel
theorem dl_536 : decode code 536 = .ok (.iaload, 1) := by decide +kernel
theorem dl_537 : decode code 537 = .ok (.invokevirtual 72, 3) := by decide +kernel
theorem dl_540 : decode code 540 = .ok (.pop, 1) := by decide +kernel
theorem dl_541 : decode code 541 = .ok (.goto 309, 3) := by decide +kernel
theorem dl_544 : decode code 544 = .ok (.aload_n 1, 1) := by decide +kernel
theorem dl_545 : decode code 545 = .ok (.invokevirtual 73, 3) := by decide +kernel
theorem dl_548 : decode code 548 = .ok (.pop, 1) := by decide +kernel
theorem dl_549 : decode code 549 = .ok (.aload_n 2, 1) := by decide +kernel
theorem dl_550 : decode code 550 = .ok (.invokevirtual 76, 3) := by decide +kernel
theorem dl_553 : decode code 553 = .ok (.pop, 1) := by decide +kernel
theorem dl_554 : decode code 554 = .ok (.goto 296, 3) := by decide +kernel
theorem dl_557 : decode code 557 = .ok (.aload_n 1, 1) := by decide +kernel
theorem dl_558 : decode code 558 = .ok (.aload_n 0, 1) := by decide +kernel
theorem dl_559 : decode code 559 = .ok (.iload_n 3, 1) := by decide +kernel
theorem dl_560 : decode code 560 = .ok (.iconst 1, 1) := by decide +kernel
theorem dl_561 : decode code 561 = .ok (.iadd, 1) := by decide +kernel
theorem dl_562 : decode code 562 = .ok (.iaload, 1) := by decide +kernel
theorem dl_563 : decode code 563 = .ok (.invokevirtual 77, 3) := by decide +kernel
theorem dl_566 : decode code 566 = .ok (.pop, 1) := by decide +kernel
theorem dl_567 : decode code 567 = .ok (.aload_n 2, 1) := by decide +kernel
theorem dl_568 : decode code 568 = .ok (.aload_n 0, 1) := by decide +kernel
theorem dl_569 : decode code 569 = .ok (.iload_n 3, 1) := by decide +kernel
theorem dl_570 : decode code 570 = .ok (.iconst 1, 1) := by decide +kernel
theorem dl_571 : decode code 571 = .ok (.iadd, 1) := by decide +kernel
theorem dl_572 : decode code 572 = .ok (.iaload, 1) := by decide +kernel
theorem dl_573 : decode code 573 = .ok (.invokevirtual 80, 3) := by decide +kernel
theorem dl_576 : decode code 576 = .ok (.pop, 1) := by decide +kernel
theorem dl_577 : decode code 577 = .ok (.goto 273, 3) := by decide +kernel
theorem dl_580 : decode code 580 = .ok (.aload_n 1, 1) := by decide +kernel
theorem dl_581 : decode code 581 = .ok (.aload_n 0, 1) := by decide +kernel
theorem dl_582 : decode code 582 = .ok (.iload_n 3, 1) := by decide +kernel
theorem dl_583 : decode code 583 = .ok (.iconst 1, 1) := by decide +kernel
theorem dl_584 : decode code 584 = .ok (.iadd, 1) := by decide +kernel
theorem dl_585 : decode code 585 = .ok (.iaload, 1) := by decide +kernel
theorem dl_586 : decode code 586 = .ok (.aload_n 0, 1) := by decide +kernel
theorem dl_587 : decode code 587 = .ok (.iload_n 3, 1) := by decide +kernel
theorem dl_588 : decode code 588 = .ok (.iconst 2, 1) := by decide +kernel
theorem dl_589 : decode code 589 = .ok (.iadd, 1) := by decide +kernel
theorem dl_590 : decode code 590 = .ok (.iaload, 1) := by decide +kernel
theorem dl_591 : decode code 591 = .ok (.invokevirtual 81, 3) := by decide +kernel
theorem dl_594 : decode code 594 = .ok (.pop, 1) := by decide +kernel
theorem dl_595 : decode code 595 = .ok (.aload_n 2, 1) := by decide +kernel
theorem dl_596 : decode code 596 = .ok (.aload_n 0, 1) := by decide +kernel
theorem dl_597 : decode code 597 = .ok (.iload_n 3, 1) := by decide +kernel
theorem dl_598 : decode code 598 = .ok (.iconst 1, 1) := by decide +kernel
theorem dl_599 : decode code 599 = .ok (.iadd, 1) := by decide +kernel
theorem dl_600 : decode code 600 = .ok (.iaload, 1) := by decide +kernel
theorem dl_601 : decode code 601 = .ok (.aload_n 0, 1) := by decide +kernel
theorem dl_602 : decode code 602 = .ok (.iload_n 3, 1) := by decide +kernel
theorem dl_603 : decode code 603 = .ok (.iconst 2, 1) := by decide +kernel
theorem dl_604 : decode code 604 = .ok (.iadd, 1) := by decide +kernel
theorem dl_605 : decode code 605 = .ok (.iaload, 1) := by decide +kernel
theorem dl_606 : decode code 606 = .ok (.invokevirtual 84, 3) := by decide +kernel
theorem dl_609 : decode code 609 = .ok (.pop, 1) := by decide +kernel
theorem dl_610 : decode code 610 = .ok (.goto 240, 3) := by decide +kernel
theorem dl_613 : decode code 613 = .ok (.aload_n 1, 1) := by decide +kernel
theorem dl_614 : decode code 614 = .ok (.aload_n 0, 1) := by decide +kernel
theorem dl_615 : decode code 615 = .ok (.iload_n 3, 1) := by decide +kernel
theorem dl_616 : decode code 616 = .ok (.iconst 1, 1) := by decide +kernel
theorem dl_617 : decode code 617 = .ok (.iadd, 1) := by decide +kernel
theorem dl_618 : decode code 618 = .ok (.iaload, 1) := by decide +kernel
theorem dl_619 : decode code 619 = .ok (.invokevirtual 85, 3) := by decide +kernel
theorem dl_622 : decode code 622 = .ok (.aload_n 2, 1) := by decide +kernel
theorem dl_623 : decode code 623 = .ok (.aload_n 0, 1) := by decide +kernel
theorem dl_624 : decode code 624 = .ok (.iload_n 3, 1) := by decide +kernel
theorem dl_625 : decode code 625 = .ok (.iconst 1, 1) := by decide +kernel
theorem dl_626 : decode code 626 = .ok (.iadd, 1) := by decide +kernel
theorem dl_627 : decode code 627 = .ok (.iaload, 1) := by decide +kernel
theorem dl_628 : decode code 628 = .ok (.invokevirtual 88, 3) := by decide +kernel
theorem dl_631 : decode code 631 = .ok (.if_icmp .eq 219, 3) := by decide +kernel
theorem dl_634 : decode code 634 = .ok (.iconst 0, 1) := by decide +kernel
theorem dl_635 : decode code 635 = .ok (.ireturn, 1) := by decide +kernel
theorem dl_636 : decode code 636 = .ok (.aload_n 1, 1) := by decide +kernel
theorem dl_637 : decode code 637 = .ok (.invokevirtual 89, 3) := by decide +kernel
theorem dl_640 : decode code 640 = .ok (.pop, 1) := by decide +kernel
theorem dl_641 : decode code 641 = .ok (.aload_n 2, 1) := by decide +kernel
theorem dl_642 : decode code 642 = .ok (.invokevirtual 92, 3) := by decide +kernel
theorem dl_645 : decode code 645 = .ok (.pop, 1) := by decide +kernel
theorem dl_646 : decode code 646 = .ok (.goto 204, 3) := by decide +kernel
theorem dl_649 : decode code 649 = .ok (.aload_n 1, 1) := by decide +kernel
theorem dl_650 : decode code 650 = .ok (.aload_n 0, 1) := by decide +kernel
theorem dl_651 : decode code 651 = .ok (.iload_n 3, 1) := by decide +kernel
theorem dl_652 : decode code 652 = .ok (.iconst 1, 1) := by decide +kernel
theorem dl_653 : decode code 653 = .ok (.iadd, 1) := by decide +kernel
theorem dl_654 : decode code 654 = .ok (.iaload, 1) := by decide +kernel
theorem dl_655 : decode code 655 = .ok (.aload_n 0, 1) := by decide +kernel
theorem dl_656 : decode code 656 = .ok (.iload_n 3, 1) := by decide +kernel
theorem dl_657 : decode code 657 = .ok (.iconst 2, 1) := by decide +kernel
theorem dl_658 : decode code 658 = .ok (.iadd, 1) := by decide +kernel
theorem dl_659 : decode code 659 = .ok (.iaload, 1) := by decide +kernel
theorem dl_660 : decode code 660 = .ok (.invokevirtual 93, 3) := by decide +kernel
theorem dl_663 : decode code 663 = .ok (.pop, 1) := by decide +kernel
theorem dl_664 : decode code 664 = .ok (.aload_n 2, 1) := by decide +kernel
theorem dl_665 : decode code 665 = .ok (.aload_n 0, 1) := by decide +kernel
theorem dl_666 : decode code 666 = .ok (.iload_n 3, 1) := by decide +kernel
theorem dl_667 : decode code 667 = .ok (.iconst 1, 1) := by decide +kernel
theorem dl_668 : decode code 668 = .ok (.iadd, 1) := by decide +kernel
theorem dl_669 : decode code 669 = .ok (.iaload, 1) := by decide +kernel
theorem dl_670 : decode code 670 = .ok (.aload_n 0, 1) := by decide +kernel
theorem dl_671 : decode code 671 = .ok (.iload_n 3, 1) := by decide +kernel
theorem dl_672 : decode code 672 = .ok (.iconst 2, 1) := by decide +kernel
theorem dl_673 : decode code 673 = .ok (.iadd, 1) := by decide +kernel
theorem dl_674 : decode code 674 = .ok (.iaload, 1) := by decide +kernel
theorem dl_675 : decode code 675 = .ok (.invokevirtual 96, 3) := by decide +kernel
theorem dl_678 : decode code 678 = .ok (.pop, 1) := by decide +kernel
theorem dl_679 : decode code 679 = .ok (.goto 171, 3) := by decide +kernel
theorem dl_682 : decode code 682 = .ok (.aload_n 1, 1) := by decide +kernel
theorem dl_683 : decode code 683 = .ok (.aload_n 0, 1) := by decide +kernel
theorem dl_684 : decode code 684 = .ok (.iload_n 3, 1) := by decide +kernel
theorem dl_685 : decode code 685 = .ok (.iconst 1, 1) := by decide +kernel
theorem dl_686 : decode code 686 = .ok (.iadd, 1) := by decide +kernel
theorem dl_687 : decode code 687 = .ok (.iaload, 1) := by decide +kernel
theorem dl_688 : decode code 688 = .ok (.aload_n 0, 1) := by decide +kernel
theorem dl_689 : decode code 689 = .ok (.iload_n 3, 1) := by decide +kernel
theorem dl_690 : decode code 690 = .ok (.iconst 2, 1) := by decide +kernel
theorem dl_691 : decode code 691 = .ok (.iadd, 1) := by decide +kernel
theorem dl_692 : decode code 692 = .ok (.iaload, 1) := by decide +kernel
theorem dl_693 : decode code 693 = .ok (.invokevirtual 97, 3) := by decide +kernel
theorem dl_696 : decode code 696 = .ok (.pop, 1) := by decide +kernel
theorem dl_697 : decode code 697 = .ok (.aload_n 2, 1) := by decide +kernel
theorem dl_698 : decode code 698 = .ok (.aload_n 0, 1) := by decide +kernel
theorem dl_699 : decode code 699 = .ok (.iload_n 3, 1) := by decide +kernel
theorem dl_700 : decode code 700 = .ok (.iconst 1, 1) := by decide +kernel
theorem dl_701 : decode code 701 = .ok (.iadd, 1) := by decide +kernel
theorem dl_702 : decode code 702 = .ok (.iaload, 1) := by decide +kernel
theorem dl_703 : decode code 703 = .ok (.aload_n 0, 1) := by decide +kernel
theorem dl_704 : decode code 704 = .ok (.iload_n 3, 1) := by decide +kernel
theorem dl_705 : decode code 705 = .ok (.iconst 2, 1) := by decide +kernel
theorem dl_706 : decode code 706 = .ok (.iadd, 1) := by decide +kernel
theorem dl_707 : decode code 707 = .ok (.iaload, 1) := by decide +kernel
theorem dl_708 : decode code 708 = .ok (.invokevirtual 100, 3) := by decide +kernel
theorem dl_711 : decode code 711 = .ok (.pop, 1) := by decide +kernel
theorem dl_712 : decode code 712 = .ok (.goto 138, 3) := by decide +kernel
theorem dl_715 : decode code 715 = .ok (.aload_n 1, 1) := by decide +kernel
theorem dl_716 : decode code 716 = .ok (.aload_n 0, 1) := by decide +kernel
theorem dl_717 : decode code 717 = .ok (.iload_n 3, 1) := by decide +kernel
theorem dl_718 : decode code 718 = .ok (.iconst 1, 1) := by decide +kernel
theorem dl_719 : decode code 719 = .ok (.iadd, 1) := by decide +kernel
theorem dl_720 : decode code 720 = .ok (.iaload, 1) := by decide +kernel
theorem dl_721 : decode code 721 = .ok (.invokevirtual 101, 3) := by decide +kernel
theorem dl_724 : decode code 724 = .ok (.pop, 1) := by decide +kernel
theorem dl_725 : decode code 725 = .ok (.aload_n 2, 1) := by decide +kernel
theorem dl_726 : decode code 726 = .ok (.aload_n 0, 1) := by decide +kernel
theorem dl_727 : decode code 727 = .ok (.iload_n 3, 1) := by decide +kernel
theorem dl_728 : decode code 728 = .ok (.iconst 1, 1) := by decide +kernel
theorem dl_729 : decode code 729 = .ok (.iadd, 1) := by decide +kernel
theorem dl_730 : decode code 730 = .ok (.iaload, 1) := by decide +kernel
theorem dl_731 : decode code 731 = .ok (.invokevirtual 104, 3) := by decide +kernel
theorem dl_734 : decode code 734 = .ok (.pop, 1) := by decide +kernel
theorem dl_735 : decode code 735 = .ok (.goto 115, 3) := by decide +kernel
theorem dl_738 : decode code 738 = .ok (.aload_n 1, 1) := by decide +kernel
theorem dl_739 : decode code 739 = .ok (.aload_n 0, 1) := by decide +kernel
theorem dl_740 : decode code 740 = .ok (.iload_n 3, 1) := by decide +kernel
theorem dl_741 : decode code 741 = .ok (.iconst 1, 1) := by decide +kernel
theorem dl_742 : decode code 742 = .ok (.iadd, 1) := by decide +kernel
theorem dl_743 : decode code 743 = .ok (.iaload, 1) := by decide +kernel
theorem dl_744 : decode code 744 = .ok (.aload_n 0, 1) := by decide +kernel
theorem dl_745 : decode code 745 = .ok (.iload_n 3, 1) := by decide +kernel
theorem dl_746 : decode code 746 = .ok (.iconst 2, 1) := by decide +kernel
theorem dl_747 : decode code 747 = .ok (.iadd, 1) := by decide +kernel
theorem dl_748 : decode code 748 = .ok (.iaload, 1) := by decide +kernel
theorem dl_749 : decode code 749 = .ok (.aload_n 0, 1) := by decide +kernel
theorem dl_750 : decode code 750 = .ok (.iload_n 3, 1) := by decide +kernel
theorem dl_751 : decode code 751 = .ok (.iconst 3, 1) := by decide +kernel
theorem dl_752 : decode code 752 = .ok (.iadd, 1) := by decide +kernel
theorem dl_753 : decode code 753 = .ok (.iaload, 1) := by decide +kernel
theorem dl_754 : decode code 754 = .ok (.invokevirtual 105, 3) := by decide +kernel
theorem dl_757 : decode code 757 = .ok (.pop, 1) := by decide +kernel
theorem dl_758 : decode code 758 = .ok (.aload_n 2, 1) := by decide +kernel
theorem dl_759 : decode code 759 = .ok (.aload_n 0, 1) := by decide +kernel
theorem dl_760 : decode code 760 = .ok (.iload_n 3, 1) := by decide +kernel
theorem dl_761 : decode code 761 = .ok (.iconst 1, 1) := by decide +kernel
theorem dl_762 : decode code 762 = .ok (.iadd, 1) := by decide +kernel
theorem dl_763 : decode code 763 = .ok (.iaload, 1) := by decide +kernel
theorem dl_764 : decode code 764 = .ok (.aload_n 0, 1) := by decide +kernel
theorem dl_765 : decode code 765 = .ok (.iload_n 3, 1) := by decide +kernel
theorem dl_766 : decode code 766 = .ok (.iconst 2, 1) := by decide +kernel
theorem dl_767 : decode code 767 = .ok (.iadd, 1) := by decide +kernel
theorem dl_768 : decode code 768 = .ok (.iaload, 1) := by decide +kernel
theorem dl_769 : decode code 769 = .ok (.aload_n 0, 1) := by decide +kernel
theorem dl_770 : decode code 770 = .ok (.iload_n 3, 1) := by decide +kernel
theorem dl_771 : decode code 771 = .ok (.iconst 3, 1) := by decide +kernel
theorem dl_772 : decode code 772 = .ok (.iadd, 1) := by decide +kernel
theorem dl_773 : decode code 773 = .ok (.iaload, 1) := by decide +kernel
theorem dl_774 : decode code 774 = .ok (.invokevirtual 109, 3) := by decide +kernel
theorem dl_777 : decode code 777 = .ok (.pop, 1) := by decide +kernel
theorem dl_778 : decode code 778 = .ok (.goto 72, 3) := by decide +kernel
theorem dl_781 : decode code 781 = .ok (.aload_n 1, 1) := by decide +kernel
theorem dl_782 : decode code 782 = .ok (.aload_n 0, 1) := by decide +kernel
theorem dl_783 : decode code 783 = .ok (.iload_n 3, 1) := by decide +kernel
theorem dl_784 : decode code 784 = .ok (.iconst 1, 1) := by decide +kernel
theorem dl_785 : decode code 785 = .ok (.iadd, 1) := by decide +kernel
theorem dl_786 : decode code 786 = .ok (.iaload, 1) := by decide +kernel
theorem dl_787 : decode code 787 = .ok (.invokevirtual 110, 3) := by decide +kernel
theorem dl_790 : decode code 790 = .ok (.pop, 1) := by decide +kernel
theorem dl_791 : decode code 791 = .ok (.aload_n 2, 1) := by decide +kernel
theorem dl_792 : decode code 792 = .ok (.aload_n 0, 1) := by decide +kernel
theorem dl_793 : decode code 793 = .ok (.iload_n 3, 1) := by decide +kernel
theorem dl_794 : decode code 794 = .ok (.iconst 1, 1) := by decide +kernel
theorem dl_795 : decode code 795 = .ok (.iadd, 1) := by decide +kernel
theorem dl_796 : decode code 796 = .ok (.iaload, 1) := by decide +kernel
theorem dl_797 : decode code 797 = .ok (.invokevirtual 113, 3) := by decide +kernel
theorem dl_800 : decode code 800 = .ok (.pop, 1) := by decide +kernel
theorem dl_801 : decode code 801 = .ok (.goto 49, 3) := by decide +kernel
theorem dl_804 : decode code 804 = .ok (.aload_n 1, 1) := by decide +kernel
theorem dl_805 : decode code 805 = .ok (.aload_n 0, 1) := by decide +kernel
theorem dl_806 : decode code 806 = .ok (.iload_n 3, 1) := by decide +kernel
theorem dl_807 : decode code 807 = .ok (.iconst 1, 1) := by decide +kernel
theorem dl_808 : decode code 808 = .ok (.iadd, 1) := by decide +kernel
theorem dl_809 : decode code 809 = .ok (.iaload, 1) := by decide +kernel
theorem dl_810 : decode code 810 = .ok (.invokevirtual 114, 3) := by decide +kernel
theorem dl_813 : decode code 813 = .ok (.pop, 1) := by decide +kernel
theorem dl_814 : decode code 814 = .ok (.aload_n 2, 1) := by decide +kernel
theorem dl_815 : decode code 815 = .ok (.aload_n 0, 1) := by decide +kernel
theorem dl_816 : decode code 816 = .ok (.iload_n 3, 1) := by decide +kernel
theorem dl_817 : decode code 817 = .ok (.iconst 1, 1) := by decide +kernel
theorem dl_818 : decode code 818 = .ok (.iadd, 1) := by decide +kernel
theorem dl_819 : decode code 819 = .ok (.iaload, 1) := by decide +kernel
theorem dl_820 : decode code 820 = .ok (.invokevirtual 117, 3) := by decide +kernel
theorem dl_823 : decode code 823 = .ok (.pop, 1) := by decide +kernel
theorem dl_824 : decode code 824 = .ok (.goto 26, 3) := by decide +kernel
theorem dl_827 : decode code 827 = .ok (.aload_n 1, 1) := by decide +kernel
theorem dl_828 : decode code 828 = .ok (.aload_n 0, 1) := by decide +kernel
theorem dl_829 : decode code 829 = .ok (.iload_n 3, 1) := by decide +kernel
theorem dl_830 : decode code 830 = .ok (.iconst 1, 1) := by decide +kernel
theorem dl_831 : decode code 831 = .ok (.iadd, 1) := by decide +kernel
theorem dl_832 : decode code 832 = .ok (.iaload, 1) := by decide +kernel
theorem dl_833 : decode code 833 = .ok (.invokevirtual 118, 3) := by decide +kernel
theorem dl_836 : decode code 836 = .ok (.pop, 1) := by decide +kernel
theorem dl_837 : decode code 837 = .ok (.aload_n 2, 1) := by decide +kernel
theorem dl_838 : decode code 838 = .ok (.aload_n 0, 1) := by decide +kernel
theorem dl_839 : decode code 839 = .ok (.iload_n 3, 1) := by decide +kernel
theorem dl_840 : decode code 840 = .ok (.iconst 1, 1) := by decide +kernel
theorem dl_841 : decode code 841 = .ok (.iadd, 1) := by decide +kernel
theorem dl_842 : decode code 842 = .ok (.iaload, 1) := by decide +kernel
theorem dl_843 : decode code 843 = .ok (.invokevirtual 121, 3) := by decide +kernel
theorem dl_846 : decode code 846 = .ok (.pop, 1) := by decide +kernel
theorem dl_847 : decode code 847 = .ok (.goto 3, 3) := by decide +kernel
theorem dl_850 : decode code 850 = .ok (.iinc 3 4, 3) := by decide +kernel
theorem dl_853 : decode code 853 = .ok (.goto (-835), 3) := by decide +kernel
theorem dl_856 : decode code 856 = .ok (.iconst 1, 1) := by decide +kernel
theorem dl_857 : decode code 857 = .ok (.ireturn, 1) := by decide +kernel
theorem ll_9 : zLI "OthersHandsLaw" 9 m_O_init 0 := ⟨cd_O_init, by decide +kernel, (zg_1 (List.mem_of_getElem? (i := 17) rfl) rfl), (zg_1 (List.mem_of_getElem? (i := 18) rfl) rfl), rfl, rfl⟩
theorem ll_12 : zLI "OthersHandsLaw" 12 m_X_init 0 := ⟨cd_X_init, by decide +kernel, (zg_3 (List.mem_of_getElem? (i := 156) rfl) rfl), (zg_3 (List.mem_of_getElem? (i := 157) rfl) rfl), rfl, rfl⟩
theorem ll_13 : zLV "OthersHandsLaw" 13 m_O_say 1 := ⟨cd_O_say, by decide +kernel, (zg_2 (List.mem_of_getElem? (i := 0) rfl) rfl), (zg_2 (List.mem_of_getElem? (i := 1) rfl) rfl), (zg_2 (List.mem_of_getElem? (i := 2) rfl) rfl)⟩
theorem ll_17 : zLV "OthersHandsLaw" 17 m_X_say 1 := ⟨cd_X_say, by decide +kernel, (zg_3 (List.mem_of_getElem? (i := 228) rfl) rfl), (zg_3 (List.mem_of_getElem? (i := 229) rfl) rfl), (zg_3 (List.mem_of_getElem? (i := 230) rfl) rfl)⟩
theorem ll_18 : zLV "OthersHandsLaw" 18 m_O_wipe 0 := ⟨cd_O_wipe, by decide +kernel, (zg_2 (List.mem_of_getElem? (i := 8) rfl) rfl), (zg_2 (List.mem_of_getElem? (i := 9) rfl) rfl), (zg_2 (List.mem_of_getElem? (i := 10) rfl) rfl)⟩
theorem ll_22 : zLV "OthersHandsLaw" 22 m_X_wipe 0 := ⟨cd_X_wipe, by decide +kernel, (zg_3 (List.mem_of_getElem? (i := 235) rfl) rfl), (zg_3 (List.mem_of_getElem? (i := 236) rfl) rfl), (zg_3 (List.mem_of_getElem? (i := 237) rfl) rfl)⟩
theorem ll_23 : zLV "OthersHandsLaw" 23 m_O_fault 0 := ⟨cd_O_fault, by decide +kernel, (zg_2 (List.mem_of_getElem? (i := 16) rfl) rfl), (zg_2 (List.mem_of_getElem? (i := 17) rfl) rfl), (zg_2 (List.mem_of_getElem? (i := 18) rfl) rfl)⟩
theorem ll_26 : zLV "OthersHandsLaw" 26 m_X_fault 0 := ⟨cd_X_fault, by decide +kernel, (zg_3 (List.mem_of_getElem? (i := 239) rfl) rfl), (zg_4 (List.mem_of_getElem? (i := 0) rfl) rfl), (zg_4 (List.mem_of_getElem? (i := 1) rfl) rfl)⟩
theorem ll_27 : zLV "OthersHandsLaw" 27 m_O_book 0 := ⟨cd_O_book, by decide +kernel, (zg_2 (List.mem_of_getElem? (i := 66) rfl) rfl), (zg_2 (List.mem_of_getElem? (i := 67) rfl) rfl), (zg_2 (List.mem_of_getElem? (i := 68) rfl) rfl)⟩
theorem ll_30 : zLV "OthersHandsLaw" 30 m_X_book 0 := ⟨cd_X_book, by decide +kernel, (zg_4 (List.mem_of_getElem? (i := 7) rfl) rfl), (zg_4 (List.mem_of_getElem? (i := 8) rfl) rfl), (zg_4 (List.mem_of_getElem? (i := 9) rfl) rfl)⟩
theorem ll_31 : zLV "OthersHandsLaw" 31 m_O_thing 2 := ⟨cd_O_thing, by decide +kernel, (zg_2 (List.mem_of_getElem? (i := 81) rfl) rfl), (zg_2 (List.mem_of_getElem? (i := 82) rfl) rfl), (zg_2 (List.mem_of_getElem? (i := 83) rfl) rfl)⟩
theorem ll_35 : zLV "OthersHandsLaw" 35 m_X_thing 2 := ⟨cd_X_thing, by decide +kernel, (zg_4 (List.mem_of_getElem? (i := 11) rfl) rfl), (zg_4 (List.mem_of_getElem? (i := 12) rfl) rfl), (zg_4 (List.mem_of_getElem? (i := 13) rfl) rfl)⟩
theorem ll_36 : zLV "OthersHandsLaw" 36 m_O_join 2 := ⟨cd_O_join, by decide +kernel, (zg_2 (List.mem_of_getElem? (i := 89) rfl) rfl), (zg_2 (List.mem_of_getElem? (i := 90) rfl) rfl), (zg_2 (List.mem_of_getElem? (i := 91) rfl) rfl)⟩
theorem ll_39 : zLV "OthersHandsLaw" 39 m_X_join 2 := ⟨cd_X_join, by decide +kernel, (zg_4 (List.mem_of_getElem? (i := 19) rfl) rfl), (zg_4 (List.mem_of_getElem? (i := 20) rfl) rfl), (zg_4 (List.mem_of_getElem? (i := 21) rfl) rfl)⟩
theorem ll_40 : zLV "OthersHandsLaw" 40 m_O_part 1 := ⟨cd_O_part, by decide +kernel, (zg_2 (List.mem_of_getElem? (i := 96) rfl) rfl), (zg_2 (List.mem_of_getElem? (i := 97) rfl) rfl), (zg_2 (List.mem_of_getElem? (i := 98) rfl) rfl)⟩
theorem ll_43 : zLV "OthersHandsLaw" 43 m_X_part 1 := ⟨cd_X_part, by decide +kernel, (zg_4 (List.mem_of_getElem? (i := 26) rfl) rfl), (zg_4 (List.mem_of_getElem? (i := 27) rfl) rfl), (zg_4 (List.mem_of_getElem? (i := 28) rfl) rfl)⟩
theorem ll_44 : zLV "OthersHandsLaw" 44 m_O_set 2 := ⟨cd_O_set, by decide +kernel, (zg_2 (List.mem_of_getElem? (i := 100) rfl) rfl), (zg_2 (List.mem_of_getElem? (i := 101) rfl) rfl), (zg_2 (List.mem_of_getElem? (i := 102) rfl) rfl)⟩
theorem ll_47 : zLV "OthersHandsLaw" 47 m_X_set 2 := ⟨cd_X_set, by decide +kernel, (zg_4 (List.mem_of_getElem? (i := 30) rfl) rfl), (zg_4 (List.mem_of_getElem? (i := 31) rfl) rfl), (zg_4 (List.mem_of_getElem? (i := 32) rfl) rfl)⟩
theorem ll_48 : zLV "OthersHandsLaw" 48 m_O_loaves 2 := ⟨cd_O_loaves, by decide +kernel, (zg_2 (List.mem_of_getElem? (i := 111) rfl) rfl), (zg_2 (List.mem_of_getElem? (i := 112) rfl) rfl), (zg_2 (List.mem_of_getElem? (i := 113) rfl) rfl)⟩
theorem ll_51 : zLV "OthersHandsLaw" 51 m_X_loaves 2 := ⟨cd_X_loaves, by decide +kernel, (zg_4 (List.mem_of_getElem? (i := 34) rfl) rfl), (zg_4 (List.mem_of_getElem? (i := 35) rfl) rfl), (zg_4 (List.mem_of_getElem? (i := 36) rfl) rfl)⟩
theorem ll_52 : zLV "OthersHandsLaw" 52 m_O_touched 2 := ⟨cd_O_touched, by decide +kernel, (zg_2 (List.mem_of_getElem? (i := 115) rfl) rfl), (zg_2 (List.mem_of_getElem? (i := 116) rfl) rfl), (zg_2 (List.mem_of_getElem? (i := 117) rfl) rfl)⟩
theorem ll_55 : zLV "OthersHandsLaw" 55 m_X_touched 2 := ⟨cd_X_touched, by decide +kernel, (zg_4 (List.mem_of_getElem? (i := 38) rfl) rfl), (zg_4 (List.mem_of_getElem? (i := 39) rfl) rfl), (zg_4 (List.mem_of_getElem? (i := 40) rfl) rfl)⟩
theorem ll_56 : zLV "OthersHandsLaw" 56 m_O_may 2 := ⟨cd_O_may, by decide +kernel, (zg_2 (List.mem_of_getElem? (i := 172) rfl) rfl), (zg_2 (List.mem_of_getElem? (i := 173) rfl) rfl), (zg_2 (List.mem_of_getElem? (i := 174) rfl) rfl)⟩
theorem ll_59 : zLV "OthersHandsLaw" 59 m_X_may 2 := ⟨cd_X_may, by decide +kernel, (zg_4 (List.mem_of_getElem? (i := 77) rfl) rfl), (zg_4 (List.mem_of_getElem? (i := 78) rfl) rfl), (zg_4 (List.mem_of_getElem? (i := 79) rfl) rfl)⟩
theorem ll_60 : zLV "OthersHandsLaw" 60 m_O_near 2 := ⟨cd_O_near, by decide +kernel, (zg_2 (List.mem_of_getElem? (i := 184) rfl) rfl), (zg_2 (List.mem_of_getElem? (i := 185) rfl) rfl), (zg_2 (List.mem_of_getElem? (i := 186) rfl) rfl)⟩
theorem ll_63 : zLV "OthersHandsLaw" 63 m_X_near 2 := ⟨cd_X_near, by decide +kernel, (zg_4 (List.mem_of_getElem? (i := 85) rfl) rfl), (zg_4 (List.mem_of_getElem? (i := 86) rfl) rfl), (zg_4 (List.mem_of_getElem? (i := 87) rfl) rfl)⟩
theorem ll_64 : zLV "OthersHandsLaw" 64 m_O_share 3 := ⟨cd_O_share, by decide +kernel, (zg_2 (List.mem_of_getElem? (i := 192) rfl) rfl), (zg_2 (List.mem_of_getElem? (i := 193) rfl) rfl), (zg_2 (List.mem_of_getElem? (i := 194) rfl) rfl)⟩
theorem ll_68 : zLV "OthersHandsLaw" 68 m_X_share 3 := ⟨cd_X_share, by decide +kernel, (zg_4 (List.mem_of_getElem? (i := 93) rfl) rfl), (zg_4 (List.mem_of_getElem? (i := 94) rfl) rfl), (zg_4 (List.mem_of_getElem? (i := 95) rfl) rfl)⟩
theorem ll_69 : zLV "OthersHandsLaw" 69 m_O_seen 2 := ⟨cd_O_seen, by decide +kernel, (zg_2 (List.mem_of_getElem? (i := 202) rfl) rfl), (zg_2 (List.mem_of_getElem? (i := 203) rfl) rfl), (zg_2 (List.mem_of_getElem? (i := 204) rfl) rfl)⟩
theorem ll_72 : zLV "OthersHandsLaw" 72 m_X_seen 2 := ⟨cd_X_seen, by decide +kernel, (zg_4 (List.mem_of_getElem? (i := 99) rfl) rfl), (zg_4 (List.mem_of_getElem? (i := 100) rfl) rfl), (zg_4 (List.mem_of_getElem? (i := 101) rfl) rfl)⟩
theorem ll_73 : zLV "OthersHandsLaw" 73 m_O_forget 0 := ⟨cd_O_forget, by decide +kernel, (zg_2 (List.mem_of_getElem? (i := 210) rfl) rfl), (zg_2 (List.mem_of_getElem? (i := 211) rfl) rfl), (zg_2 (List.mem_of_getElem? (i := 212) rfl) rfl)⟩
theorem ll_76 : zLV "OthersHandsLaw" 76 m_X_forget 0 := ⟨cd_X_forget, by decide +kernel, (zg_4 (List.mem_of_getElem? (i := 103) rfl) rfl), (zg_4 (List.mem_of_getElem? (i := 104) rfl) rfl), (zg_4 (List.mem_of_getElem? (i := 105) rfl) rfl)⟩
theorem ll_77 : zLV "OthersHandsLaw" 77 m_O_filled 1 := ⟨cd_O_filled, by decide +kernel, (zg_2 (List.mem_of_getElem? (i := 218) rfl) rfl), (zg_2 (List.mem_of_getElem? (i := 219) rfl) rfl), (zg_2 (List.mem_of_getElem? (i := 220) rfl) rfl)⟩
theorem ll_80 : zLV "OthersHandsLaw" 80 m_X_filled 1 := ⟨cd_X_filled, by decide +kernel, (zg_4 (List.mem_of_getElem? (i := 107) rfl) rfl), (zg_4 (List.mem_of_getElem? (i := 108) rfl) rfl), (zg_4 (List.mem_of_getElem? (i := 109) rfl) rfl)⟩
theorem ll_81 : zLV "OthersHandsLaw" 81 m_O_sure 2 := ⟨cd_O_sure, by decide +kernel, (zg_3 (List.mem_of_getElem? (i := 12) rfl) rfl), (zg_3 (List.mem_of_getElem? (i := 13) rfl) rfl), (zg_3 (List.mem_of_getElem? (i := 14) rfl) rfl)⟩
theorem ll_84 : zLV "OthersHandsLaw" 84 m_X_sure 2 := ⟨cd_X_sure, by decide +kernel, (zg_4 (List.mem_of_getElem? (i := 127) rfl) rfl), (zg_4 (List.mem_of_getElem? (i := 128) rfl) rfl), (zg_4 (List.mem_of_getElem? (i := 129) rfl) rfl)⟩
theorem ll_85 : zLV "OthersHandsLaw" 85 m_O_fed 1 := ⟨cd_O_fed, by decide +kernel, (zg_3 (List.mem_of_getElem? (i := 29) rfl) rfl), (zg_3 (List.mem_of_getElem? (i := 30) rfl) rfl), (zg_3 (List.mem_of_getElem? (i := 31) rfl) rfl)⟩
theorem ll_88 : zLV "OthersHandsLaw" 88 m_X_fed 1 := ⟨cd_X_fed, by decide +kernel, (zg_4 (List.mem_of_getElem? (i := 131) rfl) rfl), (zg_4 (List.mem_of_getElem? (i := 132) rfl) rfl), (zg_4 (List.mem_of_getElem? (i := 133) rfl) rfl)⟩
theorem ll_89 : zLV "OthersHandsLaw" 89 m_O_lack 0 := ⟨cd_O_lack, by decide +kernel, (zg_3 (List.mem_of_getElem? (i := 60) rfl) rfl), (zg_3 (List.mem_of_getElem? (i := 61) rfl) rfl), (zg_3 (List.mem_of_getElem? (i := 62) rfl) rfl)⟩
theorem ll_92 : zLV "OthersHandsLaw" 92 m_X_lack 0 := ⟨cd_X_lack, by decide +kernel, (zg_4 (List.mem_of_getElem? (i := 139) rfl) rfl), (zg_4 (List.mem_of_getElem? (i := 140) rfl) rfl), (zg_4 (List.mem_of_getElem? (i := 141) rfl) rfl)⟩
theorem ll_93 : zLV "OthersHandsLaw" 93 m_O_makers 2 := ⟨cd_O_makers, by decide +kernel, (zg_3 (List.mem_of_getElem? (i := 68) rfl) rfl), (zg_3 (List.mem_of_getElem? (i := 69) rfl) rfl), (zg_3 (List.mem_of_getElem? (i := 70) rfl) rfl)⟩
theorem ll_96 : zLV "OthersHandsLaw" 96 m_X_makers 2 := ⟨cd_X_makers, by decide +kernel, (zg_4 (List.mem_of_getElem? (i := 143) rfl) rfl), (zg_4 (List.mem_of_getElem? (i := 144) rfl) rfl), (zg_4 (List.mem_of_getElem? (i := 145) rfl) rfl)⟩
theorem ll_97 : zLV "OthersHandsLaw" 97 m_O_washed 2 := ⟨cd_O_washed, by decide +kernel, (zg_3 (List.mem_of_getElem? (i := 85) rfl) rfl), (zg_3 (List.mem_of_getElem? (i := 86) rfl) rfl), (zg_3 (List.mem_of_getElem? (i := 87) rfl) rfl)⟩
theorem ll_100 : zLV "OthersHandsLaw" 100 m_X_washed 2 := ⟨cd_X_washed, by decide +kernel, (zg_4 (List.mem_of_getElem? (i := 151) rfl) rfl), (zg_4 (List.mem_of_getElem? (i := 152) rfl) rfl), (zg_4 (List.mem_of_getElem? (i := 153) rfl) rfl)⟩
theorem ll_101 : zLV "OthersHandsLaw" 101 m_O_married 1 := ⟨cd_O_married, by decide +kernel, (zg_3 (List.mem_of_getElem? (i := 91) rfl) rfl), (zg_3 (List.mem_of_getElem? (i := 92) rfl) rfl), (zg_3 (List.mem_of_getElem? (i := 93) rfl) rfl)⟩
theorem ll_104 : zLV "OthersHandsLaw" 104 m_X_married 1 := ⟨cd_X_married, by decide +kernel, (zg_4 (List.mem_of_getElem? (i := 155) rfl) rfl), (zg_4 (List.mem_of_getElem? (i := 156) rfl) rfl), (zg_4 (List.mem_of_getElem? (i := 157) rfl) rfl)⟩
theorem ll_105 : zLV "OthersHandsLaw" 105 m_O_days 3 := ⟨cd_O_days, by decide +kernel, (zg_3 (List.mem_of_getElem? (i := 124) rfl) rfl), (zg_3 (List.mem_of_getElem? (i := 125) rfl) rfl), (zg_3 (List.mem_of_getElem? (i := 126) rfl) rfl)⟩
theorem ll_109 : zLV "OthersHandsLaw" 109 m_X_days 3 := ⟨cd_X_days, by decide +kernel, (zg_4 (List.mem_of_getElem? (i := 168) rfl) rfl), (zg_4 (List.mem_of_getElem? (i := 169) rfl) rfl), (zg_4 (List.mem_of_getElem? (i := 170) rfl) rfl)⟩
theorem ll_110 : zLV "OthersHandsLaw" 110 m_O_image 1 := ⟨cd_O_image, by decide +kernel, (zg_3 (List.mem_of_getElem? (i := 137) rfl) rfl), (zg_3 (List.mem_of_getElem? (i := 138) rfl) rfl), (zg_3 (List.mem_of_getElem? (i := 139) rfl) rfl)⟩
theorem ll_113 : zLV "OthersHandsLaw" 113 m_X_image 1 := ⟨cd_X_image, by decide +kernel, (zg_4 (List.mem_of_getElem? (i := 173) rfl) rfl), (zg_4 (List.mem_of_getElem? (i := 174) rfl) rfl), (zg_4 (List.mem_of_getElem? (i := 175) rfl) rfl)⟩
theorem ll_114 : zLV "OthersHandsLaw" 114 m_O_restore 1 := ⟨cd_O_restore, by decide +kernel, (zg_3 (List.mem_of_getElem? (i := 146) rfl) rfl), (zg_3 (List.mem_of_getElem? (i := 147) rfl) rfl), (zg_3 (List.mem_of_getElem? (i := 148) rfl) rfl)⟩
theorem ll_117 : zLV "OthersHandsLaw" 117 m_X_restore 1 := ⟨cd_X_restore, by decide +kernel, (zg_4 (List.mem_of_getElem? (i := 177) rfl) rfl), (zg_4 (List.mem_of_getElem? (i := 178) rfl) rfl), (zg_4 (List.mem_of_getElem? (i := 179) rfl) rfl)⟩
theorem ll_118 : zLV "OthersHandsLaw" 118 m_O_told 1 := ⟨cd_O_told, by decide +kernel, (zg_3 (List.mem_of_getElem? (i := 150) rfl) rfl), (zg_3 (List.mem_of_getElem? (i := 151) rfl) rfl), (zg_3 (List.mem_of_getElem? (i := 152) rfl) rfl)⟩
theorem ll_121 : zLV "OthersHandsLaw" 121 m_X_told 1 := ⟨cd_X_told, by decide +kernel, (zg_4 (List.mem_of_getElem? (i := 181) rfl) rfl), (zg_4 (List.mem_of_getElem? (i := 182) rfl) rfl), (zg_4 (List.mem_of_getElem? (i := 183) rfl) rfl)⟩
