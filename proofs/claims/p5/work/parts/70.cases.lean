/-! THE CLAIM OUT OF ONE WALK OF THE LAW'S BODY. Your part is whole_start (and what it stands on); all else here is the same for every law, but numbers. -/
def R_law : String := "TraceMachinesLaw"
def lw_P (b : Addr) (xs : List Int32) (args : Array Value) (s : State) : Prop := args = #[.ref b] ∧ s.IntsAt b xs ∧ xs.length ≤ 2560 ∧ (Jvm.Cond.and given_1 narrow_1).before args s = true
def lw_Q (_ : Array Value) (s : State) (o : Outcome) (t : State) : Prop := o = .returned (some (.int 1)) ∧ Framed s o t [] 601024 7293034
def lw_Z (below : List Frame) (a : Array Value) (s : State) : State → Prop := fun t => ∃ o, t.status = .running ∧ Ended t below o ∧ lw_Q a s o t
/-- the law's own end, with 1 on the stack, nothing written that was there before, its room as the claim has it -/
theorem lw_ret {p : Program} {l : Launch} {e : Env} {s : State} {m : MethodId} {below : List Frame} {meth : Method} {c : Code} {b : Nat} (hx : p.tables.exec = Jvm.exec) (hb : c.code = code) (hr : meth.sig.returnType = ret) (hlocks : meth.locks = false) {pc : Nat} {H : Heap} {ls : Array Slot} (hdg : decode code pc = .ok (.ireturn, 1)) : W p l e room_1 s m #[Value.ref b] below meth c H [] 601024 7293034 (lw_Z below #[Value.ref b] s) (F0 m pc ls [.int 1]) := by
  intro T hT X
  obtain ⟨fs, hret, hrun, hended, hW, hframe⟩ := X.leave (v := some (.int 1)) (hlocks := hlocks) (fun h => by rw [hr] at h; cases h)
  have hmeth' : T.vm.method? m = some meth := X.method'
  refine ⟨T.setFrames fs, ?_, .returned (some (.int 1)), hrun, hended, rfl, ⟨_, rfl⟩, hW, hframe⟩
  jvm_step X.here [X.here.top, hx, hb, hdg, hmeth', hr, ret, narrow_b1]
  (try refine ⟨rfl, ?_⟩); (try refine ⟨rfl, ?_⟩)
  first | (intro acts; rw [hret _ acts rfl rfl rfl]) | rw [hret _ _ rfl rfl rfl]
  exact Steps.refl _
/-- what holds at the law's entry: the machine, the code, the tables' words (any of lw_tbl by 'hts w (by decide +kernel)'), the script of L ints xs at the cell b, what the Statement gives of the start (any of its parts by flat_of_before) -/
def lw_At (p : Program) (s : State) (m : MethodId) (meth : Method) (c : Code) (b L : Nat) (xs : Nat → Int32) : Prop :=
  p.tables.exec = Jvm.exec ∧ c.code = code ∧ meth.sig.returnType = ret ∧ c.maxLocals = 7 ∧ s.vm.findClass R_law = some m.cls ∧ (∀ w ∈ lw_tbl, w.before #[Value.ref b] s = true) ∧ va_X b L xs s s.heap ∧ b < s.heap.size ∧ meth.locks = false ∧ (Jvm.Cond.and given_1 narrow_1).before #[Value.ref b] s = true
theorem d_law_164 : decode code 164 = .ok (.aload_n 1, 1) := by decide +kernel
theorem d_law_165 : decode code 165 = .ok (.aload_n 0, 1) := by decide +kernel
theorem d_law_166 : decode code 166 = .ok (.iload 4, 2) := by decide +kernel
theorem d_law_168 : decode code 168 = .ok (.iconst 1, 1) := by decide +kernel
theorem d_law_169 : decode code 169 = .ok (.iadd, 1) := by decide +kernel
theorem d_law_170 : decode code 170 = .ok (.iaload, 1) := by decide +kernel
theorem d_law_171 : decode code 171 = .ok (.invokevirtual 19, 3) := by decide +kernel
theorem d_law_174 : decode code 174 = .ok (.pop, 1) := by decide +kernel
theorem d_law_175 : decode code 175 = .ok (.aload_n 2, 1) := by decide +kernel
theorem d_law_176 : decode code 176 = .ok (.aload_n 0, 1) := by decide +kernel
theorem d_law_177 : decode code 177 = .ok (.iload 4, 2) := by decide +kernel
theorem d_law_179 : decode code 179 = .ok (.iconst 1, 1) := by decide +kernel
theorem d_law_180 : decode code 180 = .ok (.iadd, 1) := by decide +kernel
theorem d_law_181 : decode code 181 = .ok (.iaload, 1) := by decide +kernel
theorem d_law_182 : decode code 182 = .ok (.invokevirtual 23, 3) := by decide +kernel
theorem d_law_185 : decode code 185 = .ok (.pop, 1) := by decide +kernel
theorem d_law_186 : decode code 186 = .ok (.goto 881, 3) := by decide +kernel
theorem d_law_189 : decode code 189 = .ok (.aload_n 1, 1) := by decide +kernel
theorem d_law_190 : decode code 190 = .ok (.aload_n 0, 1) := by decide +kernel
theorem d_law_191 : decode code 191 = .ok (.iload 4, 2) := by decide +kernel
theorem d_law_193 : decode code 193 = .ok (.iconst 1, 1) := by decide +kernel
theorem d_law_194 : decode code 194 = .ok (.iadd, 1) := by decide +kernel
theorem d_law_195 : decode code 195 = .ok (.iaload, 1) := by decide +kernel
theorem d_law_196 : decode code 196 = .ok (.invokevirtual 24, 3) := by decide +kernel
theorem d_law_199 : decode code 199 = .ok (.pop, 1) := by decide +kernel
theorem d_law_200 : decode code 200 = .ok (.aload_n 2, 1) := by decide +kernel
theorem d_law_201 : decode code 201 = .ok (.aload_n 0, 1) := by decide +kernel
theorem d_law_202 : decode code 202 = .ok (.iload 4, 2) := by decide +kernel
theorem d_law_204 : decode code 204 = .ok (.iconst 1, 1) := by decide +kernel
theorem d_law_205 : decode code 205 = .ok (.iadd, 1) := by decide +kernel
theorem d_law_206 : decode code 206 = .ok (.iaload, 1) := by decide +kernel
theorem d_law_207 : decode code 207 = .ok (.invokevirtual 28, 3) := by decide +kernel
theorem d_law_210 : decode code 210 = .ok (.pop, 1) := by decide +kernel
theorem d_law_211 : decode code 211 = .ok (.goto 856, 3) := by decide +kernel
theorem d_law_214 : decode code 214 = .ok (.aload_n 1, 1) := by decide +kernel
theorem d_law_215 : decode code 215 = .ok (.invokevirtual 29, 3) := by decide +kernel
theorem d_law_218 : decode code 218 = .ok (.pop, 1) := by decide +kernel
theorem d_law_219 : decode code 219 = .ok (.aload_n 2, 1) := by decide +kernel
theorem d_law_220 : decode code 220 = .ok (.invokevirtual 33, 3) := by decide +kernel
theorem d_law_223 : decode code 223 = .ok (.pop, 1) := by decide +kernel
theorem d_law_224 : decode code 224 = .ok (.goto 843, 3) := by decide +kernel
theorem d_law_227 : decode code 227 = .ok (.aload_n 1, 1) := by decide +kernel
theorem d_law_228 : decode code 228 = .ok (.aload_n 0, 1) := by decide +kernel
theorem d_law_229 : decode code 229 = .ok (.iload 4, 2) := by decide +kernel
theorem d_law_231 : decode code 231 = .ok (.iconst 1, 1) := by decide +kernel
theorem d_law_232 : decode code 232 = .ok (.iadd, 1) := by decide +kernel
theorem d_law_233 : decode code 233 = .ok (.iaload, 1) := by decide +kernel
theorem d_law_234 : decode code 234 = .ok (.invokevirtual 34, 3) := by decide +kernel
theorem d_law_237 : decode code 237 = .ok (.aload_n 2, 1) := by decide +kernel
theorem d_law_238 : decode code 238 = .ok (.aload_n 0, 1) := by decide +kernel
theorem d_law_239 : decode code 239 = .ok (.iload 4, 2) := by decide +kernel
theorem d_law_241 : decode code 241 = .ok (.iconst 1, 1) := by decide +kernel
theorem d_law_242 : decode code 242 = .ok (.iadd, 1) := by decide +kernel
theorem d_law_243 : decode code 243 = .ok (.iaload, 1) := by decide +kernel
theorem d_law_244 : decode code 244 = .ok (.invokevirtual 37, 3) := by decide +kernel
theorem d_law_247 : decode code 247 = .ok (.if_icmp .eq 820, 3) := by decide +kernel
theorem d_law_252 : decode code 252 = .ok (.aload_n 1, 1) := by decide +kernel
theorem d_law_253 : decode code 253 = .ok (.aload_n 0, 1) := by decide +kernel
theorem d_law_254 : decode code 254 = .ok (.iload 4, 2) := by decide +kernel
theorem d_law_256 : decode code 256 = .ok (.iconst 1, 1) := by decide +kernel
theorem d_law_257 : decode code 257 = .ok (.iadd, 1) := by decide +kernel
theorem d_law_258 : decode code 258 = .ok (.iaload, 1) := by decide +kernel
theorem d_law_259 : decode code 259 = .ok (.invokevirtual 38, 3) := by decide +kernel
theorem d_law_262 : decode code 262 = .ok (.pop, 1) := by decide +kernel
theorem d_law_263 : decode code 263 = .ok (.aload_n 2, 1) := by decide +kernel
theorem d_law_264 : decode code 264 = .ok (.aload_n 0, 1) := by decide +kernel
theorem d_law_265 : decode code 265 = .ok (.iload 4, 2) := by decide +kernel
theorem d_law_267 : decode code 267 = .ok (.iconst 1, 1) := by decide +kernel
theorem d_law_268 : decode code 268 = .ok (.iadd, 1) := by decide +kernel
theorem d_law_269 : decode code 269 = .ok (.iaload, 1) := by decide +kernel
theorem d_law_270 : decode code 270 = .ok (.invokevirtual 41, 3) := by decide +kernel
theorem d_law_273 : decode code 273 = .ok (.pop, 1) := by decide +kernel
theorem d_law_274 : decode code 274 = .ok (.goto 793, 3) := by decide +kernel
theorem d_law_277 : decode code 277 = .ok (.aload_n 1, 1) := by decide +kernel
theorem d_law_278 : decode code 278 = .ok (.aload_n 0, 1) := by decide +kernel
theorem d_law_279 : decode code 279 = .ok (.iload 4, 2) := by decide +kernel
theorem d_law_281 : decode code 281 = .ok (.iconst 1, 1) := by decide +kernel
theorem d_law_282 : decode code 282 = .ok (.iadd, 1) := by decide +kernel
theorem d_law_283 : decode code 283 = .ok (.iaload, 1) := by decide +kernel
theorem d_law_284 : decode code 284 = .ok (.invokevirtual 42, 3) := by decide +kernel
theorem d_law_287 : decode code 287 = .ok (.pop, 1) := by decide +kernel
theorem d_law_288 : decode code 288 = .ok (.aload_n 2, 1) := by decide +kernel
theorem d_law_289 : decode code 289 = .ok (.aload_n 0, 1) := by decide +kernel
theorem d_law_290 : decode code 290 = .ok (.iload 4, 2) := by decide +kernel
theorem d_law_292 : decode code 292 = .ok (.iconst 1, 1) := by decide +kernel
theorem d_law_293 : decode code 293 = .ok (.iadd, 1) := by decide +kernel
theorem d_law_294 : decode code 294 = .ok (.iaload, 1) := by decide +kernel
theorem d_law_295 : decode code 295 = .ok (.invokevirtual 45, 3) := by decide +kernel
theorem d_law_298 : decode code 298 = .ok (.pop, 1) := by decide +kernel
theorem d_law_299 : decode code 299 = .ok (.goto 768, 3) := by decide +kernel
theorem d_law_302 : decode code 302 = .ok (.aload_n 1, 1) := by decide +kernel
theorem d_law_303 : decode code 303 = .ok (.invokevirtual 46, 3) := by decide +kernel
theorem d_law_306 : decode code 306 = .ok (.pop, 1) := by decide +kernel
theorem d_law_307 : decode code 307 = .ok (.aload_n 2, 1) := by decide +kernel
theorem d_law_308 : decode code 308 = .ok (.invokevirtual 49, 3) := by decide +kernel
theorem d_law_311 : decode code 311 = .ok (.pop, 1) := by decide +kernel
theorem d_law_312 : decode code 312 = .ok (.goto 755, 3) := by decide +kernel
theorem d_law_315 : decode code 315 = .ok (.aload_n 1, 1) := by decide +kernel
theorem d_law_316 : decode code 316 = .ok (.aload_n 0, 1) := by decide +kernel
theorem d_law_317 : decode code 317 = .ok (.iload 4, 2) := by decide +kernel
theorem d_law_319 : decode code 319 = .ok (.iconst 1, 1) := by decide +kernel
theorem d_law_320 : decode code 320 = .ok (.iadd, 1) := by decide +kernel
theorem d_law_321 : decode code 321 = .ok (.iaload, 1) := by decide +kernel
theorem d_law_322 : decode code 322 = .ok (.aload_n 0, 1) := by decide +kernel
theorem d_law_323 : decode code 323 = .ok (.iload 4, 2) := by decide +kernel
theorem d_law_325 : decode code 325 = .ok (.iconst 2, 1) := by decide +kernel
theorem d_law_326 : decode code 326 = .ok (.iadd, 1) := by decide +kernel
theorem d_law_327 : decode code 327 = .ok (.iaload, 1) := by decide +kernel
theorem d_law_328 : decode code 328 = .ok (.aload_n 0, 1) := by decide +kernel
theorem d_law_329 : decode code 329 = .ok (.iload 4, 2) := by decide +kernel
theorem d_law_331 : decode code 331 = .ok (.iconst 3, 1) := by decide +kernel
theorem d_law_332 : decode code 332 = .ok (.iadd, 1) := by decide +kernel
theorem d_law_333 : decode code 333 = .ok (.iaload, 1) := by decide +kernel
theorem d_law_334 : decode code 334 = .ok (.aload_n 3, 1) := by decide +kernel
theorem d_law_335 : decode code 335 = .ok (.invokestatic 50, 3) := by decide +kernel
theorem d_law_338 : decode code 338 = .ok (.istore 5, 2) := by decide +kernel
theorem d_law_340 : decode code 340 = .ok (.aload_n 2, 1) := by decide +kernel
theorem d_law_341 : decode code 341 = .ok (.aload_n 0, 1) := by decide +kernel
theorem d_law_342 : decode code 342 = .ok (.iload 4, 2) := by decide +kernel
theorem d_law_344 : decode code 344 = .ok (.iconst 1, 1) := by decide +kernel
theorem d_law_345 : decode code 345 = .ok (.iadd, 1) := by decide +kernel
theorem d_law_346 : decode code 346 = .ok (.iaload, 1) := by decide +kernel
theorem d_law_347 : decode code 347 = .ok (.aload_n 0, 1) := by decide +kernel
theorem d_law_348 : decode code 348 = .ok (.iload 4, 2) := by decide +kernel
theorem d_law_350 : decode code 350 = .ok (.iconst 2, 1) := by decide +kernel
theorem d_law_351 : decode code 351 = .ok (.iadd, 1) := by decide +kernel
theorem d_law_352 : decode code 352 = .ok (.iaload, 1) := by decide +kernel
theorem d_law_353 : decode code 353 = .ok (.aload_n 0, 1) := by decide +kernel
theorem d_law_354 : decode code 354 = .ok (.iload 4, 2) := by decide +kernel
theorem d_law_356 : decode code 356 = .ok (.iconst 3, 1) := by decide +kernel
theorem d_law_357 : decode code 357 = .ok (.iadd, 1) := by decide +kernel
theorem d_law_358 : decode code 358 = .ok (.iaload, 1) := by decide +kernel
theorem d_law_359 : decode code 359 = .ok (.invokevirtual 55, 3) := by decide +kernel
theorem d_law_362 : decode code 362 = .ok (.istore 6, 2) := by decide +kernel
theorem d_law_364 : decode code 364 = .ok (.goto 703, 3) := by decide +kernel
theorem d_law_367 : decode code 367 = .ok (.aload_n 1, 1) := by decide +kernel
theorem d_law_368 : decode code 368 = .ok (.aload_n 0, 1) := by decide +kernel
theorem d_law_369 : decode code 369 = .ok (.iload 4, 2) := by decide +kernel
theorem d_law_371 : decode code 371 = .ok (.iconst 1, 1) := by decide +kernel
theorem d_law_372 : decode code 372 = .ok (.iadd, 1) := by decide +kernel
theorem d_law_373 : decode code 373 = .ok (.iaload, 1) := by decide +kernel
theorem d_law_374 : decode code 374 = .ok (.aload_n 0, 1) := by decide +kernel
theorem d_law_375 : decode code 375 = .ok (.iload 4, 2) := by decide +kernel
theorem d_law_377 : decode code 377 = .ok (.iconst 2, 1) := by decide +kernel
theorem d_law_378 : decode code 378 = .ok (.iadd, 1) := by decide +kernel
theorem d_law_379 : decode code 379 = .ok (.iaload, 1) := by decide +kernel
theorem d_law_380 : decode code 380 = .ok (.invokevirtual 56, 3) := by decide +kernel
theorem d_law_383 : decode code 383 = .ok (.pop, 1) := by decide +kernel
theorem d_law_384 : decode code 384 = .ok (.aload_n 2, 1) := by decide +kernel
theorem d_law_385 : decode code 385 = .ok (.aload_n 0, 1) := by decide +kernel
theorem d_law_386 : decode code 386 = .ok (.iload 4, 2) := by decide +kernel
theorem d_law_388 : decode code 388 = .ok (.iconst 1, 1) := by decide +kernel
theorem d_law_389 : decode code 389 = .ok (.iadd, 1) := by decide +kernel
theorem d_law_390 : decode code 390 = .ok (.iaload, 1) := by decide +kernel
theorem d_law_391 : decode code 391 = .ok (.aload_n 0, 1) := by decide +kernel
theorem d_law_392 : decode code 392 = .ok (.iload 4, 2) := by decide +kernel
theorem d_law_394 : decode code 394 = .ok (.iconst 2, 1) := by decide +kernel
theorem d_law_395 : decode code 395 = .ok (.iadd, 1) := by decide +kernel
theorem d_law_396 : decode code 396 = .ok (.iaload, 1) := by decide +kernel
theorem d_law_397 : decode code 397 = .ok (.invokevirtual 60, 3) := by decide +kernel
theorem d_law_400 : decode code 400 = .ok (.pop, 1) := by decide +kernel
theorem d_law_401 : decode code 401 = .ok (.goto 666, 3) := by decide +kernel
theorem d_law_404 : decode code 404 = .ok (.aload_n 1, 1) := by decide +kernel
theorem d_law_405 : decode code 405 = .ok (.aload_n 0, 1) := by decide +kernel
theorem d_law_406 : decode code 406 = .ok (.iload 4, 2) := by decide +kernel
theorem d_law_408 : decode code 408 = .ok (.iconst 1, 1) := by decide +kernel
theorem d_law_409 : decode code 409 = .ok (.iadd, 1) := by decide +kernel
theorem d_law_410 : decode code 410 = .ok (.iaload, 1) := by decide +kernel
theorem d_law_411 : decode code 411 = .ok (.aload_n 0, 1) := by decide +kernel
theorem d_law_412 : decode code 412 = .ok (.iload 4, 2) := by decide +kernel
theorem d_law_414 : decode code 414 = .ok (.iconst 2, 1) := by decide +kernel
theorem d_law_415 : decode code 415 = .ok (.iadd, 1) := by decide +kernel
theorem d_law_416 : decode code 416 = .ok (.iaload, 1) := by decide +kernel
theorem d_law_417 : decode code 417 = .ok (.invokevirtual 61, 3) := by decide +kernel
theorem d_law_420 : decode code 420 = .ok (.pop, 1) := by decide +kernel
theorem d_law_421 : decode code 421 = .ok (.aload_n 2, 1) := by decide +kernel
theorem d_law_422 : decode code 422 = .ok (.aload_n 0, 1) := by decide +kernel
theorem d_law_423 : decode code 423 = .ok (.iload 4, 2) := by decide +kernel
theorem d_law_425 : decode code 425 = .ok (.iconst 1, 1) := by decide +kernel
theorem d_law_426 : decode code 426 = .ok (.iadd, 1) := by decide +kernel
theorem d_law_427 : decode code 427 = .ok (.iaload, 1) := by decide +kernel
theorem d_law_428 : decode code 428 = .ok (.aload_n 0, 1) := by decide +kernel
theorem d_law_429 : decode code 429 = .ok (.iload 4, 2) := by decide +kernel
theorem d_law_431 : decode code 431 = .ok (.iconst 2, 1) := by decide +kernel
theorem d_law_432 : decode code 432 = .ok (.iadd, 1) := by decide +kernel
theorem d_law_433 : decode code 433 = .ok (.iaload, 1) := by decide +kernel
theorem d_law_434 : decode code 434 = .ok (.invokevirtual 64, 3) := by decide +kernel
theorem d_law_437 : decode code 437 = .ok (.pop, 1) := by decide +kernel
theorem d_law_438 : decode code 438 = .ok (.goto 629, 3) := by decide +kernel
theorem d_law_441 : decode code 441 = .ok (.aload_n 1, 1) := by decide +kernel
theorem d_law_442 : decode code 442 = .ok (.aload_n 0, 1) := by decide +kernel
theorem d_law_443 : decode code 443 = .ok (.iload 4, 2) := by decide +kernel
theorem d_law_445 : decode code 445 = .ok (.iconst 1, 1) := by decide +kernel
theorem d_law_446 : decode code 446 = .ok (.iadd, 1) := by decide +kernel
theorem d_law_447 : decode code 447 = .ok (.iaload, 1) := by decide +kernel
theorem d_law_448 : decode code 448 = .ok (.invokevirtual 65, 3) := by decide +kernel
theorem d_law_451 : decode code 451 = .ok (.pop, 1) := by decide +kernel
theorem d_law_452 : decode code 452 = .ok (.aload_n 2, 1) := by decide +kernel
theorem d_law_453 : decode code 453 = .ok (.aload_n 0, 1) := by decide +kernel
theorem d_law_454 : decode code 454 = .ok (.iload 4, 2) := by decide +kernel
theorem d_law_456 : decode code 456 = .ok (.iconst 1, 1) := by decide +kernel
theorem d_law_457 : decode code 457 = .ok (.iadd, 1) := by decide +kernel
theorem d_law_458 : decode code 458 = .ok (.iaload, 1) := by decide +kernel
theorem d_law_459 : decode code 459 = .ok (.invokevirtual 68, 3) := by decide +kernel
theorem d_law_462 : decode code 462 = .ok (.pop, 1) := by decide +kernel
theorem d_law_463 : decode code 463 = .ok (.goto 604, 3) := by decide +kernel
theorem d_law_466 : decode code 466 = .ok (.aload_n 1, 1) := by decide +kernel
theorem d_law_467 : decode code 467 = .ok (.aload_n 0, 1) := by decide +kernel
theorem d_law_468 : decode code 468 = .ok (.iload 4, 2) := by decide +kernel
theorem d_law_470 : decode code 470 = .ok (.iconst 1, 1) := by decide +kernel
theorem d_law_471 : decode code 471 = .ok (.iadd, 1) := by decide +kernel
theorem d_law_472 : decode code 472 = .ok (.iaload, 1) := by decide +kernel
theorem d_law_473 : decode code 473 = .ok (.ifCond .eq 7, 3) := by decide +kernel
theorem d_law_476 : decode code 476 = .ok (.iconst 1, 1) := by decide +kernel
theorem d_law_477 : decode code 477 = .ok (.goto 4, 3) := by decide +kernel
theorem d_law_480 : decode code 480 = .ok (.iconst 0, 1) := by decide +kernel
theorem d_law_481 : decode code 481 = .ok (.invokevirtual 69, 3) := by decide +kernel
theorem d_law_484 : decode code 484 = .ok (.pop, 1) := by decide +kernel
theorem d_law_485 : decode code 485 = .ok (.aload_n 2, 1) := by decide +kernel
theorem d_law_486 : decode code 486 = .ok (.aload_n 0, 1) := by decide +kernel
theorem d_law_487 : decode code 487 = .ok (.iload 4, 2) := by decide +kernel
theorem d_law_489 : decode code 489 = .ok (.iconst 1, 1) := by decide +kernel
theorem d_law_490 : decode code 490 = .ok (.iadd, 1) := by decide +kernel
theorem d_law_491 : decode code 491 = .ok (.iaload, 1) := by decide +kernel
theorem d_law_492 : decode code 492 = .ok (.ifCond .eq 7, 3) := by decide +kernel
theorem d_law_495 : decode code 495 = .ok (.iconst 1, 1) := by decide +kernel
theorem d_law_496 : decode code 496 = .ok (.goto 4, 3) := by decide +kernel
theorem d_law_499 : decode code 499 = .ok (.iconst 0, 1) := by decide +kernel
theorem d_law_500 : decode code 500 = .ok (.invokevirtual 73, 3) := by decide +kernel
theorem d_law_503 : decode code 503 = .ok (.pop, 1) := by decide +kernel
theorem d_law_504 : decode code 504 = .ok (.goto 563, 3) := by decide +kernel
theorem d_law_507 : decode code 507 = .ok (.aload_n 1, 1) := by decide +kernel
theorem d_law_508 : decode code 508 = .ok (.aload_n 0, 1) := by decide +kernel
theorem d_law_509 : decode code 509 = .ok (.iload 4, 2) := by decide +kernel
theorem d_law_511 : decode code 511 = .ok (.iconst 1, 1) := by decide +kernel
theorem d_law_512 : decode code 512 = .ok (.iadd, 1) := by decide +kernel
theorem d_law_513 : decode code 513 = .ok (.iaload, 1) := by decide +kernel
theorem d_law_514 : decode code 514 = .ok (.invokevirtual 74, 3) := by decide +kernel
theorem d_law_517 : decode code 517 = .ok (.pop, 1) := by decide +kernel
theorem d_law_518 : decode code 518 = .ok (.aload_n 2, 1) := by decide +kernel
theorem d_law_519 : decode code 519 = .ok (.aload_n 0, 1) := by decide +kernel
theorem d_law_520 : decode code 520 = .ok (.iload 4, 2) := by decide +kernel
theorem d_law_522 : decode code 522 = .ok (.iconst 1, 1) := by decide +kernel
theorem d_law_523 : decode code 523 = .ok (.iadd, 1) := by decide +kernel
theorem d_law_524 : decode code 524 = .ok (.iaload, 1) := by decide +kernel
theorem d_law_525 : decode code 525 = .ok (.invokevirtual 77, 3) := by decide +kernel
theorem d_law_528 : decode code 528 = .ok (.pop, 1) := by decide +kernel
theorem d_law_529 : decode code 529 = .ok (.goto 538, 3) := by decide +kernel
theorem d_law_532 : decode code 532 = .ok (.aload_n 1, 1) := by decide +kernel
theorem d_law_533 : decode code 533 = .ok (.aload_n 0, 1) := by decide +kernel
theorem d_law_534 : decode code 534 = .ok (.iload 4, 2) := by decide +kernel
theorem d_law_536 : decode code 536 = .ok (.iconst 1, 1) := by decide +kernel
theorem d_law_537 : decode code 537 = .ok (.iadd, 1) := by decide +kernel
theorem d_law_538 : decode code 538 = .ok (.iaload, 1) := by decide +kernel
theorem d_law_539 : decode code 539 = .ok (.invokevirtual 78, 3) := by decide +kernel
theorem d_law_542 : decode code 542 = .ok (.pop, 1) := by decide +kernel
theorem d_law_543 : decode code 543 = .ok (.aload_n 2, 1) := by decide +kernel
theorem d_law_544 : decode code 544 = .ok (.aload_n 0, 1) := by decide +kernel
theorem d_law_545 : decode code 545 = .ok (.iload 4, 2) := by decide +kernel
theorem d_law_547 : decode code 547 = .ok (.iconst 1, 1) := by decide +kernel
theorem d_law_548 : decode code 548 = .ok (.iadd, 1) := by decide +kernel
theorem d_law_549 : decode code 549 = .ok (.iaload, 1) := by decide +kernel
theorem d_law_550 : decode code 550 = .ok (.invokevirtual 81, 3) := by decide +kernel
theorem d_law_553 : decode code 553 = .ok (.pop, 1) := by decide +kernel
theorem d_law_554 : decode code 554 = .ok (.goto 513, 3) := by decide +kernel
theorem d_law_557 : decode code 557 = .ok (.aload_n 1, 1) := by decide +kernel
theorem d_law_558 : decode code 558 = .ok (.aload_n 0, 1) := by decide +kernel
theorem d_law_559 : decode code 559 = .ok (.iload 4, 2) := by decide +kernel
theorem d_law_561 : decode code 561 = .ok (.iconst 1, 1) := by decide +kernel
theorem d_law_562 : decode code 562 = .ok (.iadd, 1) := by decide +kernel
theorem d_law_563 : decode code 563 = .ok (.iaload, 1) := by decide +kernel
theorem d_law_564 : decode code 564 = .ok (.invokevirtual 82, 3) := by decide +kernel
theorem d_law_567 : decode code 567 = .ok (.pop, 1) := by decide +kernel
theorem d_law_568 : decode code 568 = .ok (.aload_n 2, 1) := by decide +kernel
theorem d_law_569 : decode code 569 = .ok (.aload_n 0, 1) := by decide +kernel
theorem d_law_570 : decode code 570 = .ok (.iload 4, 2) := by decide +kernel
theorem d_law_572 : decode code 572 = .ok (.iconst 1, 1) := by decide +kernel
theorem d_law_573 : decode code 573 = .ok (.iadd, 1) := by decide +kernel
theorem d_law_574 : decode code 574 = .ok (.iaload, 1) := by decide +kernel
theorem d_law_575 : decode code 575 = .ok (.invokevirtual 85, 3) := by decide +kernel
theorem d_law_578 : decode code 578 = .ok (.pop, 1) := by decide +kernel
theorem d_law_579 : decode code 579 = .ok (.goto 488, 3) := by decide +kernel
theorem d_law_582 : decode code 582 = .ok (.aload_n 1, 1) := by decide +kernel
theorem d_law_583 : decode code 583 = .ok (.aload_n 0, 1) := by decide +kernel
theorem d_law_584 : decode code 584 = .ok (.iload 4, 2) := by decide +kernel
theorem d_law_586 : decode code 586 = .ok (.iconst 1, 1) := by decide +kernel
theorem d_law_587 : decode code 587 = .ok (.iadd, 1) := by decide +kernel
theorem d_law_588 : decode code 588 = .ok (.iaload, 1) := by decide +kernel
theorem d_law_589 : decode code 589 = .ok (.invokevirtual 86, 3) := by decide +kernel
theorem d_law_592 : decode code 592 = .ok (.pop, 1) := by decide +kernel
theorem d_law_593 : decode code 593 = .ok (.aload_n 2, 1) := by decide +kernel
theorem d_law_594 : decode code 594 = .ok (.aload_n 0, 1) := by decide +kernel
theorem d_law_595 : decode code 595 = .ok (.iload 4, 2) := by decide +kernel
theorem d_law_597 : decode code 597 = .ok (.iconst 1, 1) := by decide +kernel
theorem d_law_598 : decode code 598 = .ok (.iadd, 1) := by decide +kernel
theorem d_law_599 : decode code 599 = .ok (.iaload, 1) := by decide +kernel
theorem d_law_600 : decode code 600 = .ok (.invokevirtual 89, 3) := by decide +kernel
theorem d_law_603 : decode code 603 = .ok (.pop, 1) := by decide +kernel
theorem d_law_604 : decode code 604 = .ok (.goto 463, 3) := by decide +kernel
theorem d_law_607 : decode code 607 = .ok (.aload_n 1, 1) := by decide +kernel
theorem d_law_608 : decode code 608 = .ok (.aload_n 0, 1) := by decide +kernel
theorem d_law_609 : decode code 609 = .ok (.iload 4, 2) := by decide +kernel
theorem d_law_611 : decode code 611 = .ok (.iconst 1, 1) := by decide +kernel
theorem d_law_612 : decode code 612 = .ok (.iadd, 1) := by decide +kernel
theorem d_law_613 : decode code 613 = .ok (.iaload, 1) := by decide +kernel
theorem d_law_614 : decode code 614 = .ok (.aload_n 0, 1) := by decide +kernel
theorem d_law_615 : decode code 615 = .ok (.iload 4, 2) := by decide +kernel
theorem d_law_617 : decode code 617 = .ok (.iconst 2, 1) := by decide +kernel
theorem d_law_618 : decode code 618 = .ok (.iadd, 1) := by decide +kernel
theorem d_law_619 : decode code 619 = .ok (.iaload, 1) := by decide +kernel
theorem d_law_620 : decode code 620 = .ok (.aload_n 0, 1) := by decide +kernel
theorem d_law_621 : decode code 621 = .ok (.iload 4, 2) := by decide +kernel
theorem d_law_623 : decode code 623 = .ok (.iconst 3, 1) := by decide +kernel
theorem d_law_624 : decode code 624 = .ok (.iadd, 1) := by decide +kernel
theorem d_law_625 : decode code 625 = .ok (.iaload, 1) := by decide +kernel
theorem d_law_626 : decode code 626 = .ok (.invokevirtual 90, 3) := by decide +kernel
theorem d_law_629 : decode code 629 = .ok (.pop, 1) := by decide +kernel
theorem d_law_630 : decode code 630 = .ok (.aload_n 2, 1) := by decide +kernel
theorem d_law_631 : decode code 631 = .ok (.aload_n 0, 1) := by decide +kernel
theorem d_law_632 : decode code 632 = .ok (.iload 4, 2) := by decide +kernel
theorem d_law_634 : decode code 634 = .ok (.iconst 1, 1) := by decide +kernel
theorem d_law_635 : decode code 635 = .ok (.iadd, 1) := by decide +kernel
theorem d_law_636 : decode code 636 = .ok (.iaload, 1) := by decide +kernel
theorem d_law_637 : decode code 637 = .ok (.aload_n 0, 1) := by decide +kernel
theorem d_law_638 : decode code 638 = .ok (.iload 4, 2) := by decide +kernel
theorem d_law_640 : decode code 640 = .ok (.iconst 2, 1) := by decide +kernel
theorem d_law_641 : decode code 641 = .ok (.iadd, 1) := by decide +kernel
theorem d_law_642 : decode code 642 = .ok (.iaload, 1) := by decide +kernel
theorem d_law_643 : decode code 643 = .ok (.aload_n 0, 1) := by decide +kernel
theorem d_law_644 : decode code 644 = .ok (.iload 4, 2) := by decide +kernel
theorem d_law_646 : decode code 646 = .ok (.iconst 3, 1) := by decide +kernel
theorem d_law_647 : decode code 647 = .ok (.iadd, 1) := by decide +kernel
theorem d_law_648 : decode code 648 = .ok (.iaload, 1) := by decide +kernel
theorem d_law_649 : decode code 649 = .ok (.invokevirtual 93, 3) := by decide +kernel
theorem d_law_652 : decode code 652 = .ok (.pop, 1) := by decide +kernel
theorem d_law_653 : decode code 653 = .ok (.goto 414, 3) := by decide +kernel
theorem d_law_656 : decode code 656 = .ok (.aload_n 1, 1) := by decide +kernel
theorem d_law_657 : decode code 657 = .ok (.aload_n 0, 1) := by decide +kernel
theorem d_law_658 : decode code 658 = .ok (.iload 4, 2) := by decide +kernel
theorem d_law_660 : decode code 660 = .ok (.iconst 1, 1) := by decide +kernel
theorem d_law_661 : decode code 661 = .ok (.iadd, 1) := by decide +kernel
theorem d_law_662 : decode code 662 = .ok (.iaload, 1) := by decide +kernel
theorem d_law_663 : decode code 663 = .ok (.aload_n 0, 1) := by decide +kernel
theorem d_law_664 : decode code 664 = .ok (.iload 4, 2) := by decide +kernel
theorem d_law_666 : decode code 666 = .ok (.iconst 2, 1) := by decide +kernel
theorem d_law_667 : decode code 667 = .ok (.iadd, 1) := by decide +kernel
theorem d_law_668 : decode code 668 = .ok (.iaload, 1) := by decide +kernel
theorem d_law_669 : decode code 669 = .ok (.invokevirtual 94, 3) := by decide +kernel
theorem d_law_672 : decode code 672 = .ok (.pop, 1) := by decide +kernel
theorem d_law_673 : decode code 673 = .ok (.aload_n 2, 1) := by decide +kernel
theorem d_law_674 : decode code 674 = .ok (.aload_n 0, 1) := by decide +kernel
theorem d_law_675 : decode code 675 = .ok (.iload 4, 2) := by decide +kernel
theorem d_law_677 : decode code 677 = .ok (.iconst 1, 1) := by decide +kernel
theorem d_law_678 : decode code 678 = .ok (.iadd, 1) := by decide +kernel
theorem d_law_679 : decode code 679 = .ok (.iaload, 1) := by decide +kernel
theorem d_law_680 : decode code 680 = .ok (.aload_n 0, 1) := by decide +kernel
theorem d_law_681 : decode code 681 = .ok (.iload 4, 2) := by decide +kernel
theorem d_law_683 : decode code 683 = .ok (.iconst 2, 1) := by decide +kernel
theorem d_law_684 : decode code 684 = .ok (.iadd, 1) := by decide +kernel
theorem d_law_685 : decode code 685 = .ok (.iaload, 1) := by decide +kernel
theorem d_law_686 : decode code 686 = .ok (.invokevirtual 97, 3) := by decide +kernel
theorem d_law_689 : decode code 689 = .ok (.pop, 1) := by decide +kernel
theorem d_law_690 : decode code 690 = .ok (.goto 377, 3) := by decide +kernel
theorem d_law_693 : decode code 693 = .ok (.aload_n 1, 1) := by decide +kernel
theorem d_law_694 : decode code 694 = .ok (.aload_n 0, 1) := by decide +kernel
theorem d_law_695 : decode code 695 = .ok (.iload 4, 2) := by decide +kernel
theorem d_law_697 : decode code 697 = .ok (.iconst 1, 1) := by decide +kernel
theorem d_law_698 : decode code 698 = .ok (.iadd, 1) := by decide +kernel
theorem d_law_699 : decode code 699 = .ok (.iaload, 1) := by decide +kernel
theorem d_law_700 : decode code 700 = .ok (.aload_n 0, 1) := by decide +kernel
theorem d_law_701 : decode code 701 = .ok (.iload 4, 2) := by decide +kernel
theorem d_law_703 : decode code 703 = .ok (.iconst 2, 1) := by decide +kernel
theorem d_law_704 : decode code 704 = .ok (.iadd, 1) := by decide +kernel
theorem d_law_705 : decode code 705 = .ok (.iaload, 1) := by decide +kernel
theorem d_law_706 : decode code 706 = .ok (.aload_n 0, 1) := by decide +kernel
theorem d_law_707 : decode code 707 = .ok (.iload 4, 2) := by decide +kernel
theorem d_law_709 : decode code 709 = .ok (.iconst 3, 1) := by decide +kernel
theorem d_law_710 : decode code 710 = .ok (.iadd, 1) := by decide +kernel
theorem d_law_711 : decode code 711 = .ok (.iaload, 1) := by decide +kernel
theorem d_law_712 : decode code 712 = .ok (.aload_n 0, 1) := by decide +kernel
theorem d_law_713 : decode code 713 = .ok (.iload 4, 2) := by decide +kernel
theorem d_law_715 : decode code 715 = .ok (.iconst 4, 1) := by decide +kernel
theorem d_law_716 : decode code 716 = .ok (.iadd, 1) := by decide +kernel
theorem d_law_717 : decode code 717 = .ok (.iaload, 1) := by decide +kernel
theorem d_law_718 : decode code 718 = .ok (.invokevirtual 98, 3) := by decide +kernel
theorem d_law_721 : decode code 721 = .ok (.pop, 1) := by decide +kernel
theorem d_law_722 : decode code 722 = .ok (.aload_n 2, 1) := by decide +kernel
theorem d_law_723 : decode code 723 = .ok (.aload_n 0, 1) := by decide +kernel
theorem d_law_724 : decode code 724 = .ok (.iload 4, 2) := by decide +kernel
theorem d_law_726 : decode code 726 = .ok (.iconst 1, 1) := by decide +kernel
theorem d_law_727 : decode code 727 = .ok (.iadd, 1) := by decide +kernel
theorem d_law_728 : decode code 728 = .ok (.iaload, 1) := by decide +kernel
theorem d_law_729 : decode code 729 = .ok (.aload_n 0, 1) := by decide +kernel
theorem d_law_730 : decode code 730 = .ok (.iload 4, 2) := by decide +kernel
theorem d_law_732 : decode code 732 = .ok (.iconst 2, 1) := by decide +kernel
theorem d_law_733 : decode code 733 = .ok (.iadd, 1) := by decide +kernel
theorem d_law_734 : decode code 734 = .ok (.iaload, 1) := by decide +kernel
theorem d_law_735 : decode code 735 = .ok (.aload_n 0, 1) := by decide +kernel
theorem d_law_736 : decode code 736 = .ok (.iload 4, 2) := by decide +kernel
theorem d_law_738 : decode code 738 = .ok (.iconst 3, 1) := by decide +kernel
theorem d_law_739 : decode code 739 = .ok (.iadd, 1) := by decide +kernel
theorem d_law_740 : decode code 740 = .ok (.iaload, 1) := by decide +kernel
theorem d_law_741 : decode code 741 = .ok (.aload_n 0, 1) := by decide +kernel
theorem d_law_742 : decode code 742 = .ok (.iload 4, 2) := by decide +kernel
theorem d_law_744 : decode code 744 = .ok (.iconst 4, 1) := by decide +kernel
theorem d_law_745 : decode code 745 = .ok (.iadd, 1) := by decide +kernel
theorem d_law_746 : decode code 746 = .ok (.iaload, 1) := by decide +kernel
theorem d_law_747 : decode code 747 = .ok (.invokevirtual 102, 3) := by decide +kernel
theorem d_law_750 : decode code 750 = .ok (.pop, 1) := by decide +kernel
theorem d_law_751 : decode code 751 = .ok (.goto 316, 3) := by decide +kernel
theorem d_law_754 : decode code 754 = .ok (.aload_n 1, 1) := by decide +kernel
theorem d_law_755 : decode code 755 = .ok (.aload_n 0, 1) := by decide +kernel
theorem d_law_756 : decode code 756 = .ok (.iload 4, 2) := by decide +kernel
theorem d_law_758 : decode code 758 = .ok (.iconst 1, 1) := by decide +kernel
theorem d_law_759 : decode code 759 = .ok (.iadd, 1) := by decide +kernel
theorem d_law_760 : decode code 760 = .ok (.iaload, 1) := by decide +kernel
theorem d_law_761 : decode code 761 = .ok (.aload_n 0, 1) := by decide +kernel
theorem d_law_762 : decode code 762 = .ok (.iload 4, 2) := by decide +kernel
theorem d_law_764 : decode code 764 = .ok (.iconst 2, 1) := by decide +kernel
theorem d_law_765 : decode code 765 = .ok (.iadd, 1) := by decide +kernel
theorem d_law_766 : decode code 766 = .ok (.iaload, 1) := by decide +kernel
theorem d_law_767 : decode code 767 = .ok (.aload_n 0, 1) := by decide +kernel
theorem d_law_768 : decode code 768 = .ok (.iload 4, 2) := by decide +kernel
theorem d_law_770 : decode code 770 = .ok (.iconst 3, 1) := by decide +kernel
theorem d_law_771 : decode code 771 = .ok (.iadd, 1) := by decide +kernel
theorem d_law_772 : decode code 772 = .ok (.iaload, 1) := by decide +kernel
theorem d_law_773 : decode code 773 = .ok (.invokevirtual 103, 3) := by decide +kernel
theorem d_law_776 : decode code 776 = .ok (.pop, 1) := by decide +kernel
theorem d_law_777 : decode code 777 = .ok (.aload_n 2, 1) := by decide +kernel
theorem d_law_778 : decode code 778 = .ok (.aload_n 0, 1) := by decide +kernel
theorem d_law_779 : decode code 779 = .ok (.iload 4, 2) := by decide +kernel
theorem d_law_781 : decode code 781 = .ok (.iconst 1, 1) := by decide +kernel
theorem d_law_782 : decode code 782 = .ok (.iadd, 1) := by decide +kernel
theorem d_law_783 : decode code 783 = .ok (.iaload, 1) := by decide +kernel
theorem d_law_784 : decode code 784 = .ok (.aload_n 0, 1) := by decide +kernel
theorem d_law_785 : decode code 785 = .ok (.iload 4, 2) := by decide +kernel
theorem d_law_787 : decode code 787 = .ok (.iconst 2, 1) := by decide +kernel
theorem d_law_788 : decode code 788 = .ok (.iadd, 1) := by decide +kernel
theorem d_law_789 : decode code 789 = .ok (.iaload, 1) := by decide +kernel
theorem d_law_790 : decode code 790 = .ok (.aload_n 0, 1) := by decide +kernel
theorem d_law_791 : decode code 791 = .ok (.iload 4, 2) := by decide +kernel
theorem d_law_793 : decode code 793 = .ok (.iconst 3, 1) := by decide +kernel
theorem d_law_794 : decode code 794 = .ok (.iadd, 1) := by decide +kernel
theorem d_law_795 : decode code 795 = .ok (.iaload, 1) := by decide +kernel
theorem d_law_796 : decode code 796 = .ok (.invokevirtual 106, 3) := by decide +kernel
theorem d_law_799 : decode code 799 = .ok (.pop, 1) := by decide +kernel
theorem d_law_800 : decode code 800 = .ok (.goto 267, 3) := by decide +kernel
theorem d_law_803 : decode code 803 = .ok (.aload_n 1, 1) := by decide +kernel
theorem d_law_804 : decode code 804 = .ok (.aload_n 0, 1) := by decide +kernel
theorem d_law_805 : decode code 805 = .ok (.iload 4, 2) := by decide +kernel
theorem d_law_807 : decode code 807 = .ok (.iconst 1, 1) := by decide +kernel
theorem d_law_808 : decode code 808 = .ok (.iadd, 1) := by decide +kernel
theorem d_law_809 : decode code 809 = .ok (.iaload, 1) := by decide +kernel
theorem d_law_810 : decode code 810 = .ok (.aload_n 0, 1) := by decide +kernel
theorem d_law_811 : decode code 811 = .ok (.iload 4, 2) := by decide +kernel
theorem d_law_813 : decode code 813 = .ok (.iconst 2, 1) := by decide +kernel
theorem d_law_814 : decode code 814 = .ok (.iadd, 1) := by decide +kernel
theorem d_law_815 : decode code 815 = .ok (.iaload, 1) := by decide +kernel
theorem d_law_816 : decode code 816 = .ok (.invokevirtual 107, 3) := by decide +kernel
theorem d_law_819 : decode code 819 = .ok (.pop, 1) := by decide +kernel
theorem d_law_820 : decode code 820 = .ok (.aload_n 2, 1) := by decide +kernel
theorem d_law_821 : decode code 821 = .ok (.aload_n 0, 1) := by decide +kernel
theorem d_law_822 : decode code 822 = .ok (.iload 4, 2) := by decide +kernel
theorem d_law_824 : decode code 824 = .ok (.iconst 1, 1) := by decide +kernel
theorem d_law_825 : decode code 825 = .ok (.iadd, 1) := by decide +kernel
theorem d_law_826 : decode code 826 = .ok (.iaload, 1) := by decide +kernel
theorem d_law_827 : decode code 827 = .ok (.aload_n 0, 1) := by decide +kernel
theorem d_law_828 : decode code 828 = .ok (.iload 4, 2) := by decide +kernel
theorem d_law_830 : decode code 830 = .ok (.iconst 2, 1) := by decide +kernel
theorem d_law_831 : decode code 831 = .ok (.iadd, 1) := by decide +kernel
theorem d_law_832 : decode code 832 = .ok (.iaload, 1) := by decide +kernel
theorem d_law_833 : decode code 833 = .ok (.invokevirtual 110, 3) := by decide +kernel
theorem d_law_836 : decode code 836 = .ok (.pop, 1) := by decide +kernel
theorem d_law_837 : decode code 837 = .ok (.goto 230, 3) := by decide +kernel
theorem d_law_840 : decode code 840 = .ok (.aload_n 1, 1) := by decide +kernel
theorem d_law_841 : decode code 841 = .ok (.aload_n 0, 1) := by decide +kernel
theorem d_law_842 : decode code 842 = .ok (.iload 4, 2) := by decide +kernel
theorem d_law_844 : decode code 844 = .ok (.iconst 1, 1) := by decide +kernel
theorem d_law_845 : decode code 845 = .ok (.iadd, 1) := by decide +kernel
theorem d_law_846 : decode code 846 = .ok (.iaload, 1) := by decide +kernel
theorem d_law_847 : decode code 847 = .ok (.invokevirtual 111, 3) := by decide +kernel
theorem d_law_850 : decode code 850 = .ok (.pop, 1) := by decide +kernel
theorem d_law_851 : decode code 851 = .ok (.aload_n 2, 1) := by decide +kernel
theorem d_law_852 : decode code 852 = .ok (.aload_n 0, 1) := by decide +kernel
theorem d_law_853 : decode code 853 = .ok (.iload 4, 2) := by decide +kernel
theorem d_law_855 : decode code 855 = .ok (.iconst 1, 1) := by decide +kernel
theorem d_law_856 : decode code 856 = .ok (.iadd, 1) := by decide +kernel
theorem d_law_857 : decode code 857 = .ok (.iaload, 1) := by decide +kernel
theorem d_law_858 : decode code 858 = .ok (.invokevirtual 114, 3) := by decide +kernel
theorem d_law_861 : decode code 861 = .ok (.pop, 1) := by decide +kernel
theorem d_law_862 : decode code 862 = .ok (.goto 205, 3) := by decide +kernel
theorem d_law_865 : decode code 865 = .ok (.aload_n 1, 1) := by decide +kernel
theorem d_law_866 : decode code 866 = .ok (.aload_n 0, 1) := by decide +kernel
theorem d_law_867 : decode code 867 = .ok (.iload 4, 2) := by decide +kernel
theorem d_law_869 : decode code 869 = .ok (.iconst 1, 1) := by decide +kernel
theorem d_law_870 : decode code 870 = .ok (.iadd, 1) := by decide +kernel
theorem d_law_871 : decode code 871 = .ok (.iaload, 1) := by decide +kernel
theorem d_law_872 : decode code 872 = .ok (.aload_n 0, 1) := by decide +kernel
theorem d_law_873 : decode code 873 = .ok (.iload 4, 2) := by decide +kernel
theorem d_law_875 : decode code 875 = .ok (.iconst 2, 1) := by decide +kernel
theorem d_law_876 : decode code 876 = .ok (.iadd, 1) := by decide +kernel
theorem d_law_877 : decode code 877 = .ok (.iaload, 1) := by decide +kernel
theorem d_law_878 : decode code 878 = .ok (.aload_n 0, 1) := by decide +kernel
theorem d_law_879 : decode code 879 = .ok (.iload 4, 2) := by decide +kernel
theorem d_law_881 : decode code 881 = .ok (.iconst 3, 1) := by decide +kernel
theorem d_law_882 : decode code 882 = .ok (.iadd, 1) := by decide +kernel
theorem d_law_883 : decode code 883 = .ok (.iaload, 1) := by decide +kernel
theorem d_law_884 : decode code 884 = .ok (.ifCond .eq 7, 3) := by decide +kernel
theorem d_law_887 : decode code 887 = .ok (.iconst 1, 1) := by decide +kernel
theorem d_law_888 : decode code 888 = .ok (.goto 4, 3) := by decide +kernel
theorem d_law_891 : decode code 891 = .ok (.iconst 0, 1) := by decide +kernel
theorem d_law_892 : decode code 892 = .ok (.invokevirtual 115, 3) := by decide +kernel
theorem d_law_895 : decode code 895 = .ok (.pop, 1) := by decide +kernel
theorem d_law_896 : decode code 896 = .ok (.aload_n 2, 1) := by decide +kernel
theorem d_law_897 : decode code 897 = .ok (.aload_n 0, 1) := by decide +kernel
theorem d_law_898 : decode code 898 = .ok (.iload 4, 2) := by decide +kernel
theorem d_law_900 : decode code 900 = .ok (.iconst 1, 1) := by decide +kernel
theorem d_law_901 : decode code 901 = .ok (.iadd, 1) := by decide +kernel
theorem d_law_902 : decode code 902 = .ok (.iaload, 1) := by decide +kernel
theorem d_law_903 : decode code 903 = .ok (.aload_n 0, 1) := by decide +kernel
theorem d_law_904 : decode code 904 = .ok (.iload 4, 2) := by decide +kernel
theorem d_law_906 : decode code 906 = .ok (.iconst 2, 1) := by decide +kernel
theorem d_law_907 : decode code 907 = .ok (.iadd, 1) := by decide +kernel
theorem d_law_908 : decode code 908 = .ok (.iaload, 1) := by decide +kernel
theorem d_law_909 : decode code 909 = .ok (.aload_n 0, 1) := by decide +kernel
theorem d_law_910 : decode code 910 = .ok (.iload 4, 2) := by decide +kernel
theorem d_law_912 : decode code 912 = .ok (.iconst 3, 1) := by decide +kernel
theorem d_law_913 : decode code 913 = .ok (.iadd, 1) := by decide +kernel
theorem d_law_914 : decode code 914 = .ok (.iaload, 1) := by decide +kernel
theorem d_law_915 : decode code 915 = .ok (.ifCond .eq 7, 3) := by decide +kernel
theorem d_law_918 : decode code 918 = .ok (.iconst 1, 1) := by decide +kernel
theorem d_law_919 : decode code 919 = .ok (.goto 4, 3) := by decide +kernel
theorem d_law_922 : decode code 922 = .ok (.iconst 0, 1) := by decide +kernel
theorem d_law_923 : decode code 923 = .ok (.invokevirtual 119, 3) := by decide +kernel
theorem d_law_926 : decode code 926 = .ok (.pop, 1) := by decide +kernel
theorem d_law_927 : decode code 927 = .ok (.goto 140, 3) := by decide +kernel
theorem d_law_930 : decode code 930 = .ok (.aload_n 1, 1) := by decide +kernel
theorem d_law_931 : decode code 931 = .ok (.aload_n 0, 1) := by decide +kernel
theorem d_law_932 : decode code 932 = .ok (.iload 4, 2) := by decide +kernel
theorem d_law_934 : decode code 934 = .ok (.iconst 1, 1) := by decide +kernel
theorem d_law_935 : decode code 935 = .ok (.iadd, 1) := by decide +kernel
theorem d_law_936 : decode code 936 = .ok (.iaload, 1) := by decide +kernel
theorem d_law_937 : decode code 937 = .ok (.aload_n 0, 1) := by decide +kernel
theorem d_law_938 : decode code 938 = .ok (.iload 4, 2) := by decide +kernel
theorem d_law_940 : decode code 940 = .ok (.iconst 2, 1) := by decide +kernel
theorem d_law_941 : decode code 941 = .ok (.iadd, 1) := by decide +kernel
theorem d_law_942 : decode code 942 = .ok (.iaload, 1) := by decide +kernel
theorem d_law_943 : decode code 943 = .ok (.invokevirtual 120, 3) := by decide +kernel
theorem d_law_946 : decode code 946 = .ok (.pop, 1) := by decide +kernel
theorem d_law_947 : decode code 947 = .ok (.aload_n 2, 1) := by decide +kernel
theorem d_law_948 : decode code 948 = .ok (.aload_n 0, 1) := by decide +kernel
theorem d_law_949 : decode code 949 = .ok (.iload 4, 2) := by decide +kernel
theorem d_law_951 : decode code 951 = .ok (.iconst 1, 1) := by decide +kernel
theorem d_law_952 : decode code 952 = .ok (.iadd, 1) := by decide +kernel
theorem d_law_953 : decode code 953 = .ok (.iaload, 1) := by decide +kernel
theorem d_law_954 : decode code 954 = .ok (.aload_n 0, 1) := by decide +kernel
theorem d_law_955 : decode code 955 = .ok (.iload 4, 2) := by decide +kernel
theorem d_law_957 : decode code 957 = .ok (.iconst 2, 1) := by decide +kernel
theorem d_law_958 : decode code 958 = .ok (.iadd, 1) := by decide +kernel
theorem d_law_959 : decode code 959 = .ok (.iaload, 1) := by decide +kernel
theorem d_law_960 : decode code 960 = .ok (.invokevirtual 123, 3) := by decide +kernel
theorem d_law_963 : decode code 963 = .ok (.pop, 1) := by decide +kernel
theorem d_law_964 : decode code 964 = .ok (.goto 103, 3) := by decide +kernel
theorem d_law_967 : decode code 967 = .ok (.aload_n 1, 1) := by decide +kernel
theorem d_law_968 : decode code 968 = .ok (.aload_n 0, 1) := by decide +kernel
theorem d_law_969 : decode code 969 = .ok (.iload 4, 2) := by decide +kernel
theorem d_law_971 : decode code 971 = .ok (.iconst 1, 1) := by decide +kernel
theorem d_law_972 : decode code 972 = .ok (.iadd, 1) := by decide +kernel
theorem d_law_973 : decode code 973 = .ok (.iaload, 1) := by decide +kernel
theorem d_law_974 : decode code 974 = .ok (.invokevirtual 124, 3) := by decide +kernel
theorem d_law_977 : decode code 977 = .ok (.pop, 1) := by decide +kernel
theorem d_law_978 : decode code 978 = .ok (.aload_n 2, 1) := by decide +kernel
theorem d_law_979 : decode code 979 = .ok (.aload_n 0, 1) := by decide +kernel
theorem d_law_980 : decode code 980 = .ok (.iload 4, 2) := by decide +kernel
theorem d_law_982 : decode code 982 = .ok (.iconst 1, 1) := by decide +kernel
theorem d_law_983 : decode code 983 = .ok (.iadd, 1) := by decide +kernel
theorem d_law_984 : decode code 984 = .ok (.iaload, 1) := by decide +kernel
theorem d_law_985 : decode code 985 = .ok (.invokevirtual 127, 3) := by decide +kernel
theorem d_law_988 : decode code 988 = .ok (.pop, 1) := by decide +kernel
theorem d_law_989 : decode code 989 = .ok (.goto 78, 3) := by decide +kernel
theorem d_law_992 : decode code 992 = .ok (.aload_n 1, 1) := by decide +kernel
theorem d_law_993 : decode code 993 = .ok (.aload_n 0, 1) := by decide +kernel
theorem d_law_994 : decode code 994 = .ok (.iload 4, 2) := by decide +kernel
theorem d_law_996 : decode code 996 = .ok (.iconst 1, 1) := by decide +kernel
theorem d_law_997 : decode code 997 = .ok (.iadd, 1) := by decide +kernel
theorem d_law_998 : decode code 998 = .ok (.iaload, 1) := by decide +kernel
theorem d_law_999 : decode code 999 = .ok (.invokevirtual 128, 3) := by decide +kernel
theorem d_law_1002 : decode code 1002 = .ok (.pop, 1) := by decide +kernel
theorem d_law_1003 : decode code 1003 = .ok (.aload_n 2, 1) := by decide +kernel
theorem d_law_1004 : decode code 1004 = .ok (.aload_n 0, 1) := by decide +kernel
theorem d_law_1005 : decode code 1005 = .ok (.iload 4, 2) := by decide +kernel
theorem d_law_1007 : decode code 1007 = .ok (.iconst 1, 1) := by decide +kernel
theorem d_law_1008 : decode code 1008 = .ok (.iadd, 1) := by decide +kernel
theorem d_law_1009 : decode code 1009 = .ok (.iaload, 1) := by decide +kernel
theorem d_law_1010 : decode code 1010 = .ok (.invokevirtual 131, 3) := by decide +kernel
theorem d_law_1013 : decode code 1013 = .ok (.pop, 1) := by decide +kernel
theorem d_law_1014 : decode code 1014 = .ok (.goto 53, 3) := by decide +kernel
theorem d_law_1017 : decode code 1017 = .ok (.aload_n 1, 1) := by decide +kernel
theorem d_law_1018 : decode code 1018 = .ok (.aload_n 0, 1) := by decide +kernel
theorem d_law_1019 : decode code 1019 = .ok (.iload 4, 2) := by decide +kernel
theorem d_law_1021 : decode code 1021 = .ok (.iconst 1, 1) := by decide +kernel
theorem d_law_1022 : decode code 1022 = .ok (.iadd, 1) := by decide +kernel
theorem d_law_1023 : decode code 1023 = .ok (.iaload, 1) := by decide +kernel
theorem d_law_1024 : decode code 1024 = .ok (.invokevirtual 132, 3) := by decide +kernel
theorem d_law_1027 : decode code 1027 = .ok (.pop, 1) := by decide +kernel
theorem d_law_1028 : decode code 1028 = .ok (.aload_n 2, 1) := by decide +kernel
theorem d_law_1029 : decode code 1029 = .ok (.aload_n 0, 1) := by decide +kernel
theorem d_law_1030 : decode code 1030 = .ok (.iload 4, 2) := by decide +kernel
theorem d_law_1032 : decode code 1032 = .ok (.iconst 1, 1) := by decide +kernel
theorem d_law_1033 : decode code 1033 = .ok (.iadd, 1) := by decide +kernel
theorem d_law_1034 : decode code 1034 = .ok (.iaload, 1) := by decide +kernel
theorem d_law_1035 : decode code 1035 = .ok (.invokevirtual 135, 3) := by decide +kernel
theorem d_law_1038 : decode code 1038 = .ok (.pop, 1) := by decide +kernel
theorem d_law_1039 : decode code 1039 = .ok (.goto 28, 3) := by decide +kernel
theorem d_law_1042 : decode code 1042 = .ok (.aload_n 1, 1) := by decide +kernel
theorem d_law_1043 : decode code 1043 = .ok (.aload_n 0, 1) := by decide +kernel
theorem d_law_1044 : decode code 1044 = .ok (.iload 4, 2) := by decide +kernel
theorem d_law_1046 : decode code 1046 = .ok (.iconst 1, 1) := by decide +kernel
theorem d_law_1047 : decode code 1047 = .ok (.iadd, 1) := by decide +kernel
theorem d_law_1048 : decode code 1048 = .ok (.iaload, 1) := by decide +kernel
theorem d_law_1049 : decode code 1049 = .ok (.invokevirtual 136, 3) := by decide +kernel
theorem d_law_1052 : decode code 1052 = .ok (.pop, 1) := by decide +kernel
theorem d_law_1053 : decode code 1053 = .ok (.aload_n 2, 1) := by decide +kernel
theorem d_law_1054 : decode code 1054 = .ok (.aload_n 0, 1) := by decide +kernel
theorem d_law_1055 : decode code 1055 = .ok (.iload 4, 2) := by decide +kernel
theorem d_law_1057 : decode code 1057 = .ok (.iconst 1, 1) := by decide +kernel
theorem d_law_1058 : decode code 1058 = .ok (.iadd, 1) := by decide +kernel
theorem d_law_1059 : decode code 1059 = .ok (.iaload, 1) := by decide +kernel
theorem d_law_1060 : decode code 1060 = .ok (.invokevirtual 139, 3) := by decide +kernel
theorem d_law_1063 : decode code 1063 = .ok (.pop, 1) := by decide +kernel
theorem d_law_1064 : decode code 1064 = .ok (.goto 3, 3) := by decide +kernel
/-! what class and reference agree in -/
def zUn (pn pc : Int32) (P : Nat → Nat → Int32) (un : Nat → Int32) (nu : Int32) : Prop := pc.toInt = nu.toInt ∧ (0 ≤ pn.toInt ∧ pn.toInt ≤ 7) ∧ (0 ≤ pc.toInt ∧ pc.toInt ≤ 8) ∧ ∀ k : Nat, (k : Int) < nu.toInt → zE (P ((pn.toInt + 8 - nu.toInt + (k : Int)) % 8).toNat) (fun j => un (503 * k + j))
def zRL (tn : Int32) (sg : Nat → Int32) (s0 s1 : Bool) (pn pc : Int32) (P : Nat → Nat → Int32) (K0 K1 R : Nat → Int32) (xt : Int32) (tb ik rw_ un ke : Nat → Int32) (nu : Int32) : Prop :=
  (tn.toInt = xt.toInt ∧ 0 ≤ tn.toInt) ∧ zSg tn.toInt sg tb ∧ (((ik 0).toInt ≠ 0 ↔ s0 = true) ∧ ((ik 1).toInt ≠ 0 ↔ s1 = true)) ∧ zE R rw_ ∧ zUn pn pc P un nu ∧ (s0 = true → zE K0 (fun j => ke (503 * 0 + j))) ∧ (s1 = true → zE K1 (fun j => ke (503 * 1 + j)))
theorem zW5_r {f : Nat → Int32} (h : zW5 f) (k : Nat) : (f (503 * k + 0)).toInt ≤ 20 ∧ ∀ t : Nat, t < 20 → (f (503 * k + (1 + t))).toInt ≤ 12 := ⟨((h _).1 (by omega)).2, fun t ht => ((h _).2.1 (by omega)).2⟩
/-- a row's like, its places as far as 503 told anew -/
theorem zE.eq' {R S T : Nat → Int32} (h : zE R S) (e : ∀ j : Nat, j < 503 → S j = T j) (hl : (S 0).toInt ≤ 20 ∧ ∀ t : Nat, t < 20 → (S (1 + t)).toInt ≤ 12) : zE R T := h.trans (zE_all e hl.1 hl.2)
theorem zup_e (P : Nat → Nat → Int32) (c : Nat) (r : Nat → Int32) : zup P c r c = r := by
  unfold zup
  rw [show Nat.beq c c = true from Nat.beq_refl c]
  rfl
theorem zup_n {P : Nat → Nat → Int32} {c i : Nat} {r : Nat → Int32} (h : i ≠ c) : zup P c r i = P i := by
  unfold zup
  cases h9 : Nat.beq i c with
  | false => rfl
  | true => exact absurd (Nat.eq_of_beq_eq_true h9) h
theorem z_nat01 {a : Int32} (h : a.toInt = 0 ∨ a.toInt = 1) : a.toNatClampNeg = a.toInt.toNat := zcl (by omega)
theorem zUn_rem {pn pc pn1 pc1 nu nu1 : Int32} {P P1 : Nat → Nat → Int32} {r rw_ un un1 : Nat → Int32} (h : zUn pn pc P un nu) (hE : zE r rw_) (hw : zW5 rw_) (hu : zW5 un) (hp : zPr pn pc P r pn1 pc1 P1) (hr : zRem rw_ un nu.toInt un1 nu1.toInt) : zUn pn1 pc1 P1 un1 nu1 := by
  obtain ⟨h1, h2, h3, h4⟩ := h
  obtain ⟨p1, p2, p3⟩ := hp
  obtain ⟨r1, r2, r3⟩ := hr
  have q1 : pn1.toInt = (pn.toInt + 1) % 8 := by
    rw [p1]
    split <;> omega
  have q2 : pc1.toInt = nu1.toInt := by
    rw [p2, r1, h1]
  have q3 : 1 ≤ nu1.toInt ∧ nu1.toInt ≤ 8 := by
    rw [r1]
    split <;> omega
  refine ⟨q2, by omega, by omega, fun k hk => ?_⟩
  rw [p3]
  by_cases c1 : (k : Int) = nu1.toInt - 1
  · rw [show ((pn1.toInt + 8 - nu1.toInt + (k : Int)) % 8).toNat = pn.toInt.toNat by omega, zup_e]
    refine hE.trans (zE_all (fun j hj => ?_) (zW5_0 hw).2 (fun t ht => (zW5.len hw t ht).2))
    show rw_ j = un1 (503 * k + j)
    rw [show 503 * k + j = 503 * (nu1.toInt - 1).toNat + j by omega, r2 j hj]
  · by_cases c2 : nu.toInt = 8
    · rw [if_pos c2] at r1
      have h5 := h4 (k + 1) (by omega)
      rw [zup_n (by omega), show ((pn1.toInt + 8 - nu1.toInt + (k : Int)) % 8).toNat = ((pn.toInt + 8 - nu.toInt + ((k + 1 : Nat) : Int)) % 8).toNat by omega]
      refine zE.eq' h5 (fun j hj => ?_) (zW5_r hu (k + 1))
      show un (503 * (k + 1) + j) = un1 (503 * k + j)
      rw [r3 (503 * k + j) (by omega), if_pos c2]
      congr 1
      omega
    · rw [if_neg c2] at r1
      have h5 := h4 k (by omega)
      rw [zup_n (by omega), show ((pn1.toInt + 8 - nu1.toInt + (k : Int)) % 8).toNat = ((pn.toInt + 8 - nu.toInt + (k : Int)) % 8).toNat by omega]
      refine zE.eq' h5 (fun j hj => ?_) (zW5_r hu k)
      show un (503 * k + j) = un1 (503 * k + j)
      rw [r3 (503 * k + j) (by omega), if_neg c2]
      rfl
theorem zUn_undo {pn pc pn1 pc1 nu nu1 : Int32} {P : Nat → Nat → Int32} {un : Nat → Int32} (h : zUn pn pc P un nu) (h0 : ¬ nu.toInt = 0) (e1 : pc1.toInt = pc.toInt - 1) (e2 : pn1.toInt = if pn.toInt = 0 then 7 else pn.toInt - 1) (e3 : nu1.toInt = nu.toInt - 1) : zUn pn1 pc1 P un nu1 ∧ zE (P pn1.toInt.toNat) (fun j => un (503 * nu1.toInt.toNat + j)) := by
  obtain ⟨h1, h2, h3, h4⟩ := h
  have q1 : pn1.toInt = (pn.toInt + 7) % 8 := by
    rw [e2]
    split <;> omega
  refine ⟨⟨by omega, by omega, by omega, fun k hk => ?_⟩, ?_⟩
  · rw [show ((pn1.toInt + 8 - nu1.toInt + (k : Int)) % 8).toNat = ((pn.toInt + 8 - nu.toInt + (k : Int)) % 8).toNat by omega]
    exact h4 k (by omega)
  · have h5 := h4 nu1.toInt.toNat (by omega)
    rw [show pn1.toInt.toNat = ((pn.toInt + 8 - nu.toInt + (nu1.toInt.toNat : Int)) % 8).toNat by omega]
    exact h5
section
variable {tn t1 pn pc pn1 pc1 xt xt1 nu nu1 zx zm aa bb : Int32} {sg sg1 K0 K1 K01 K11 R R1 tb tb1 ik ik1 rw_ rw1 un un1 ke ke1 : Nat → Int32} {s0 s1 t0 u1 : Bool} {P P1 : Nat → Nat → Int32}
theorem zRL_sign (h : zRL tn sg s0 s1 pn pc P K0 K1 R xt tb ik rw_ un ke nu) (hab : aa = bb)
    (f0 : tn.toInt ≤ 236 → sg1 = zsg4 sg tn.toInt.toNat (zch aa 24) (zch aa 16) (zch aa 8) (zch aa 0)) (f1 : ¬ tn.toInt ≤ 236 → sg1 = sg) (f2 : tn.toInt ≤ 236 → zx.toInt = tn.toInt + 4 ∧ t1.toInt = tn.toInt + 4) (f3 : ¬ tn.toInt ≤ 236 → zx.toInt = -1 ∧ t1.toInt = tn.toInt)
    (g0 : xt.toInt ≤ 236 → zm.toInt = xt.toInt + 4 ∧ xt1.toInt = xt.toInt + 4) (g1 : ¬ xt.toInt ≤ 236 → zm.toInt = -1 ∧ xt1.toInt = xt.toInt) (g2 : xt.toInt ≤ 236 → tb1 = zsg4 tb xt.toInt.toNat (zby bb 24) (zby bb 16) (zby bb 8) (zby bb 0)) (g3 : ¬ xt.toInt ≤ 236 → tb1 = tb) :
    zx.toInt = zm.toInt ∧ zRL t1 sg1 s0 s1 pn pc P K0 K1 R xt1 tb1 ik rw_ un ke nu := by
  subst hab
  obtain ⟨⟨h1, h2⟩, h3, h4⟩ := h
  by_cases cc : tn.toInt ≤ 236
  · have a0 := f0 cc
    have a2 := f2 cc
    have b0 := g0 (by omega)
    have b2 := g2 (by omega)
    rw [← h1] at b2
    have s4 := zSg_4 h3 h2 (zsq_cb aa 24) (zsq_cb aa 16) (zsq_cb aa 8) (zsq_cb aa 0)
    rw [← a0, ← b2] at s4
    exact ⟨by omega, ⟨by omega, by omega⟩, by rw [a2.2]; exact s4, h4⟩
  · have a1 := f1 cc
    have a3 := f3 cc
    have b1 := g1 (by omega)
    have b3 := g3 (by omega)
    exact ⟨by omega, ⟨by omega, by omega⟩, by rw [a1, b3, a3.2]; exact h3, h4⟩
theorem zRL_end (h : zRL tn sg s0 s1 pn pc P K0 K1 R xt tb ik rw_ un ke nu) (hab : aa = bb) (f0 : (0 ≤ aa.toInt ∧ aa.toInt ≤ tn.toInt) → zx.toInt = 1 ∧ t1.toInt = aa.toInt) (f1 : ¬ (0 ≤ aa.toInt ∧ aa.toInt ≤ tn.toInt) → zx.toInt = 0 ∧ t1.toInt = tn.toInt)
    (g0 : (0 ≤ bb.toInt ∧ bb.toInt ≤ xt.toInt) → zm.toInt = 1 ∧ xt1.toInt = bb.toInt) (g1 : ¬ (0 ≤ bb.toInt ∧ bb.toInt ≤ xt.toInt) → zm.toInt = 0 ∧ xt1.toInt = xt.toInt) : zx.toInt = zm.toInt ∧ zRL t1 sg s0 s1 pn pc P K0 K1 R xt1 tb ik rw_ un ke nu := by
  subst hab
  obtain ⟨⟨h1, h2⟩, h3, h4⟩ := h
  by_cases cc : 0 ≤ aa.toInt ∧ aa.toInt ≤ tn.toInt
  · have a0 := f0 cc
    have b0 := g0 (by omega)
    exact ⟨by omega, ⟨by omega, by omega⟩, h3.mono (by omega), h4⟩
  · have a1 := f1 cc
    have b1 := g1 (by omega)
    exact ⟨by omega, ⟨by omega, by omega⟩, h3.mono (by omega), h4⟩
theorem zRL_run (h : zRL tn sg s0 s1 pn pc P K0 K1 R xt tb ik rw_ un ke nu) (f : t1.toInt = 0) (g : xt1.toInt = 0) : zRL t1 sg s0 s1 pn pc P K0 K1 R xt1 tb ik rw_ un ke nu :=
  ⟨⟨by omega, by omega⟩, h.2.1.mono (by have := h.1.2; omega), h.2.2⟩
theorem zRL_traces {n1 : Int32} (h : zRL tn sg s0 s1 pn pc P K0 K1 R xt tb ik rw_ un ke nu) (hw : zW5 rw_) (hu : zW5 un) (e1 : R1 0 = n1) (f : t1.toInt = 0) (g : xt1.toInt = 0)
    (fx : ∃ R0 : Nat → Int32, zE R0 R ∧ ((zfin (0 : Int32).toInt sg R0 tn.toInt.toNat).1 = -1 ∧ zE R1 (zfin (0 : Int32).toInt sg R0 tn.toInt.toNat).2 ∧ zx = n1 ∧ zPr pn pc P R pn1 pc1 P1 ∨ ¬ (zfin (0 : Int32).toInt sg R0 tn.toInt.toNat).1 = -1 ∧ zx.toInt = -1000 - (zfin (0 : Int32).toInt sg R0 tn.toInt.toNat).1 ∧ R1 = R ∧ pn1 = pn ∧ pc1 = pc ∧ P1 = P))
    (fm : ∀ R0 : Nat → Int32, zE R0 rw_ → (zfin 0 tb R0 xt.toInt.toNat).1 = -1 ∧ zE (zfin 0 tb R0 xt.toInt.toNat).2 rw1 ∧ zm = rw1 0 ∧ zRem rw_ un nu.toInt un1 nu1.toInt ∨ ¬ (zfin 0 tb R0 xt.toInt.toNat).1 = -1 ∧ zm.toInt = -1000 - (zfin 0 tb R0 xt.toInt.toNat).1 ∧ rw1 = rw_ ∧ un1 = un ∧ nu1 = nu) :
    zx.toInt = zm.toInt ∧ zRL t1 sg s0 s1 pn1 pc1 P1 K0 K1 R1 xt1 tb ik rw1 un1 ke nu1 := by
  obtain ⟨⟨h1, h2⟩, h3, h4, h5, h6, h7⟩ := h
  obtain ⟨R0, r0, r1⟩ := fx
  have m1 := fm R0 (r0.trans h5)
  rw [zi_00, zfin_q h3 (p := tn.toInt.toNat) (by omega), h1] at r1
  have z9 : zSg t1.toInt sg tb := h3.mono (by omega)
  rcases r1 with ⟨a1, a2, a3, a4⟩ | ⟨a1, a2, a3, a4, a5, a6⟩
  · rcases m1 with ⟨b1, b2, b3, b4⟩ | ⟨b1, _⟩
    · have e9 := a2.trans b2
      exact ⟨by rw [a3, b3, ← e1, e9.1], ⟨by omega, by omega⟩, z9, h4, e9, zUn_rem h6 h5 hw hu a4 b4, h7⟩
    · exact absurd a1 b1
  · rcases m1 with ⟨b1, _⟩ | ⟨b1, b2, b3, b4, b5⟩
    · exact absurd b1 a1
    · exact ⟨by omega, ⟨by omega, by omega⟩, z9, h4, by rw [a3, b3]; exact h5, by rw [a4, a5, a6, b4, b5]; exact h6, h7⟩
theorem zRL_drop {n1 : Int32} (h : zRL tn sg s0 s1 pn pc P K0 K1 R xt tb ik rw_ un ke nu) (hw : zW5 rw_) (hu : zW5 un) (hab : aa = bb) (e1 : R1 0 = n1)
    (fx : ¬ (0 ≤ aa.toInt ∧ aa.toInt < (R 0).toInt) ∧ zx.toInt = -2 ∧ R1 = R ∧ pn1 = pn ∧ pc1 = pc ∧ P1 = P ∨ (0 ≤ aa.toInt ∧ aa.toInt < (R 0).toInt) ∧ zx = n1 ∧ zE R1 (zrm R aa.toNatClampNeg) ∧ zPr pn pc P R pn1 pc1 P1)
    (fm : ¬ (0 ≤ bb.toInt ∧ bb.toInt < (rw_ 0).toInt) ∧ zm.toInt = -2 ∧ rw1 = rw_ ∧ un1 = un ∧ nu1 = nu ∨ (0 ≤ bb.toInt ∧ bb.toInt < (rw_ 0).toInt) ∧ zm = rw1 0 ∧ zE rw1 (zrm rw_ bb.toInt.toNat) ∧ zRem rw_ un nu.toInt un1 nu1.toInt) :
    zx.toInt = zm.toInt ∧ zRL tn sg s0 s1 pn1 pc1 P1 K0 K1 R1 xt tb ik rw1 un1 ke nu1 := by
  subst hab
  obtain ⟨h1, h3, h4, h5, h6, h7⟩ := h
  have e0 := congrArg Int32.toInt h5.1
  rcases fx with ⟨a1, a2, a3, a4, a5, a6⟩ | ⟨a1, a2, a3, a4⟩
  · rcases fm with ⟨b1, b2, b3, b4, b5⟩ | ⟨b1, _⟩
    · exact ⟨by omega, h1, h3, h4, by rw [a3, b3]; exact h5, by rw [a4, a5, a6, b4, b5]; exact h6, h7⟩
    · exact absurd b1 (by omega)
  · rcases fm with ⟨b1, _⟩ | ⟨b1, b2, b3, b4⟩
    · exact absurd a1 (by omega)
    · have k1 := zE_rm2 (k := aa.toInt.toNat) h5.symm ⟨by omega, (zW5_0 hw).2⟩ (fun t ht => (zW5.len hw t ht).2)
      rw [zcl (i := aa) (by omega)] at a3
      have e9 := (a3.trans k1.symm).trans b3.symm
      exact ⟨by rw [a2, b2, ← e1, e9.1], h1, h3, h4, e9, zUn_rem h6 h5 hw hu a4 b4, h7⟩
theorem zE_set {R S : Nat → Int32} {at_ : Nat} {x : Int32} (h : zE R S) (ha : at_ = 501 ∨ at_ = 502) (hn : (R 0).toInt ≤ 20) (hl : ∀ t : Nat, t < 20 → (R (1 + t)).toInt ≤ 12) : zE (upd R at_ x) (upd S at_ x) := by
  obtain ⟨g0, g1, g2, g3⟩ := h
  have key : ∀ (T : Nat → Int32) (q : Nat), q < 501 → upd T at_ x q = T q := fun T q hq => by rw [z_at, if_neg (by omega)]
  refine ⟨by rw [key R 0 (by omega), key S 0 (by omega)]; exact g0, ?_, ?_, fun t ht => ?_⟩
  · rw [z_at, z_at]
    split
    · rfl
    · exact g1
  · rw [z_at, z_at]
    split
    · rfl
    · exact g2
  · rw [key R 0 (by omega)] at ht
    obtain ⟨g4, g5⟩ := g3 t ht
    have l9 := hl t (by omega)
    rw [key R (1 + t) (by omega), key S (1 + t) (by omega)]
    refine ⟨g4, fun i hi => ?_⟩
    rw [key R _ (by omega), key S _ (by omega), key R _ (by omega), key S _ (by omega)]
    exact g5 i hi
theorem zRL_set {at_ : Nat} {hi : Int} (h : zRL tn sg s0 s1 pn pc P K0 K1 R xt tb ik rw_ un ke nu) (hw : zW5 rw_) (hu : zW5 un) (hab : aa = bb) (ha : at_ = 501 ∨ at_ = 502)
    (fx : ¬ (0 ≤ aa.toInt ∧ aa.toInt ≤ hi) ∧ zx.toInt = -1 ∧ R1 = R ∧ pn1 = pn ∧ pc1 = pc ∧ P1 = P ∨ (0 ≤ aa.toInt ∧ aa.toInt ≤ hi) ∧ aa.toInt = (R at_).toInt ∧ zx.toInt = -3 ∧ R1 = R ∧ pn1 = pn ∧ pc1 = pc ∧ P1 = P ∨ (0 ≤ aa.toInt ∧ aa.toInt ≤ hi) ∧ ¬ aa.toInt = (R at_).toInt ∧ zx = R at_ ∧ R1 = upd R at_ aa ∧ zPr pn pc P R pn1 pc1 P1)
    (fm : ¬ (0 ≤ bb.toInt ∧ bb.toInt ≤ hi) ∧ zm.toInt = -1 ∧ rw1 = rw_ ∧ un1 = un ∧ nu1 = nu ∨ (0 ≤ bb.toInt ∧ bb.toInt ≤ hi) ∧ bb = rw_ at_ ∧ zm.toInt = -3 ∧ rw1 = rw_ ∧ un1 = un ∧ nu1 = nu ∨ (0 ≤ bb.toInt ∧ bb.toInt ≤ hi) ∧ ¬ bb = rw_ at_ ∧ zm = rw_ at_ ∧ rw1 = upd rw_ at_ bb ∧ zRem rw_ un nu.toInt un1 nu1.toInt) :
    zx.toInt = zm.toInt ∧ zRL tn sg s0 s1 pn1 pc1 P1 K0 K1 R1 xt tb ik rw1 un1 ke nu1 := by
  subst hab
  obtain ⟨h1, h3, h4, h5, h6, h7⟩ := h
  have e0 : R at_ = rw_ at_ := by
    rcases ha with rfl | rfl
    · exact h5.2.1
    · exact h5.2.2.1
  rcases fx with ⟨a1, a2, a3, a4, a5, a6⟩ | ⟨a1, a0, a2, a3, a4, a5, a6⟩ | ⟨a1, a0, a2, a3, a4⟩
  · rcases fm with ⟨b1, b2, b3, b4, b5⟩ | ⟨b1, _⟩ | ⟨b1, _⟩
    · exact ⟨by omega, h1, h3, h4, by rw [a3, b3]; exact h5, by rw [a4, a5, a6, b4, b5]; exact h6, h7⟩
    · exact absurd b1 a1
    · exact absurd b1 a1
  · rcases fm with ⟨b1, _⟩ | ⟨b1, b0, b2, b3, b4, b5⟩ | ⟨b1, b0, _⟩
    · exact absurd a1 b1
    · exact ⟨by omega, h1, h3, h4, by rw [a3, b3]; exact h5, by rw [a4, a5, a6, b4, b5]; exact h6, h7⟩
    · exact absurd ((fa_eq _ _).mpr (by rw [a0, e0])) b0
  · rcases fm with ⟨b1, _⟩ | ⟨b1, b0, _⟩ | ⟨b1, b0, b2, b3, b4⟩
    · exact absurd a1 b1
    · exact absurd (by rw [e0, ← b0]) a0
    · have e9 := (zE_set (x := aa) h5.symm ha (zW5_0 hw).2 (fun t ht => (zW5.len hw t ht).2)).symm
      exact ⟨by rw [a2, b2, e0], h1, h3, h4, by rw [a3, b3]; exact e9, zUn_rem h6 h5 hw hu a4 b4, h7⟩
theorem zRL_undo (h : zRL tn sg s0 s1 pn pc P K0 K1 R xt tb ik rw_ un ke nu) (hw1 : zW5 rw1)
    (fx : pc.toInt = 0 ∧ zx.toInt = -3 ∧ R1 = R ∧ pn1 = pn ∧ pc1 = pc ∨ ¬ pc.toInt = 0 ∧ pc1.toInt = pc.toInt - 1 ∧ (pn1.toInt = if pn.toInt = 0 then 7 else pn.toInt - 1) ∧ zx = pc1 ∧ zE R1 (P pn1.toInt.toNat))
    (fm : nu.toInt = 0 ∧ zm.toInt = -3 ∧ rw1 = rw_ ∧ nu1 = nu ∨ ¬ nu.toInt = 0 ∧ nu1.toInt = nu.toInt - 1 ∧ zm = nu1 ∧ ∀ q : Nat, q < 503 → rw1 q = un (503 * nu1.toInt.toNat + q)) :
    zx.toInt = zm.toInt ∧ zRL tn sg s0 s1 pn1 pc1 P K0 K1 R1 xt tb ik rw1 un ke nu1 := by
  obtain ⟨h1, h3, h4, h5, h6, h7⟩ := h
  have e0 := h6.1
  rcases fx with ⟨a1, a2, a3, a4, a5⟩ | ⟨a1, a2, a3, a4, a5⟩
  · rcases fm with ⟨b1, b2, b3, b5⟩ | ⟨b1, _⟩
    · exact ⟨by omega, h1, h3, h4, by rw [a3, b3]; exact h5, by rw [a4, a5, b5]; exact h6, h7⟩
    · exact absurd a1 (by omega)
  · rcases fm with ⟨b1, _⟩ | ⟨b1, b2, b3, b4⟩
    · exact absurd b1 (by omega)
    · obtain ⟨u1, u2⟩ := zUn_undo h6 b1 a2 a3 b2
      have e9 : zE rw1 (fun j => un (503 * nu1.toInt.toNat + j)) := zE_all b4 (zW5_0 hw1).2 (fun t ht => (zW5.len hw1 t ht).2)
      exact ⟨by rw [a4, b3]; omega, h1, h3, h4, (a5.trans u2).trans e9.symm, u1, h7⟩
theorem zE_ke {ke ke1 K R rw_ : Nat → Int32} {k : Nat} {a : Int} (hE : zE R rw_) (hw : zW5 rw_) (hk : a = (k : Int)) (g : ∀ q : Nat, ke1 q = if 503 * a ≤ (q : Int) ∧ (q : Int) < 503 * a + 503 then rw_ (q - 503 * a.toNat) else ke q) (hK : K = R) : zE K (fun j => ke1 (503 * k + j)) := by
  rw [hK]
  refine hE.trans (zE_all (fun j hj => ?_) (zW5_0 hw).2 (fun t ht => (zW5.len hw t ht).2))
  show rw_ j = ke1 (503 * k + j)
  rw [g, if_pos (by omega)]
  congr 1
  omega
theorem zE_ko {ke ke1 K rw_ : Nat → Int32} {k : Nat} {a : Int} (hE : zE K (fun j => ke (503 * k + j))) (hq : zW5 ke) (hk : a ≠ (k : Int) ∧ 0 ≤ a) (g : ∀ q : Nat, ke1 q = if 503 * a ≤ (q : Int) ∧ (q : Int) < 503 * a + 503 then rw_ (q - 503 * a.toNat) else ke q) : zE K (fun j => ke1 (503 * k + j)) :=
  zE.eq' hE (fun j hj => by
    show ke (503 * k + j) = ke1 (503 * k + j)
    rw [g, if_neg (by omega)]) (zW5_r hq k)
theorem zRL_keep (h : zRL tn sg s0 s1 pn pc P K0 K1 R xt tb ik rw_ un ke nu) (hw : zW5 rw_) (hq : zW5 ke) (hab : aa = bb)
    (f1 : (0 ≤ aa.toInt ∧ aa.toInt ≤ 1) → zx.toInt = 1) (f2 : ¬ (0 ≤ aa.toInt ∧ aa.toInt ≤ 1) → zx.toInt = 0 ∧ t0 = s0 ∧ u1 = s1) (f3 : aa.toInt = 0 → t0 = true ∧ u1 = s1) (f4 : aa.toInt = 1 → u1 = true ∧ t0 = s0)
    (k0 : aa.toInt = 0 → K01 = R ∧ K11 = K1) (k1 : aa.toInt = 1 → K11 = R ∧ K01 = K0) (k2 : ¬ (0 ≤ aa.toInt ∧ aa.toInt ≤ 1) → K01 = K0 ∧ K11 = K1)
    (g1 : (0 ≤ bb.toInt ∧ bb.toInt ≤ 1) → zm.toInt = 1) (g2 : ¬ (0 ≤ bb.toInt ∧ bb.toInt ≤ 1) → zm.toInt = 0) (g3 : ∀ q : Nat, ik1 q = if zm.toInt = 1 ∧ q = bb.toNatClampNeg then 1 else ik q)
    (g4 : (0 ≤ bb.toInt ∧ bb.toInt ≤ 1) → ∀ q : Nat, ke1 q = if 503 * bb.toInt ≤ (q : Int) ∧ (q : Int) < 503 * bb.toInt + 503 then rw_ (q - 503 * bb.toInt.toNat) else ke q) (g5 : ¬ (0 ≤ bb.toInt ∧ bb.toInt ≤ 1) → ke1 = ke) :
    zx.toInt = zm.toInt ∧ zRL tn sg t0 u1 pn pc P K01 K11 R xt tb ik1 rw_ un ke1 nu := by
  subst hab
  obtain ⟨h1, h3, ⟨i0, i1⟩, h5, h6, h7, h8⟩ := h
  have q1 : (1 : Int32).toInt ≠ 0 := by decide +kernel
  by_cases c0 : aa.toInt = 0
  · have e := z_nat01 (Or.inl c0)
    obtain ⟨rfl, rfl⟩ := f3 c0
    obtain ⟨x0, rfl⟩ := k0 c0
    have z := g1 (by omega)
    have g := g4 (by omega)
    refine ⟨by rw [z]; exact f1 (by omega), h1, h3, ⟨?_, ?_⟩, h5, h6, fun _ => zE_ke h5 hw c0 g x0, fun hs => zE_ko (h8 hs) hq (by omega) g⟩
    · rw [g3 0, if_pos ⟨z, by omega⟩]
      exact ⟨fun _ => rfl, fun _ => q1⟩
    · rw [g3 1, if_neg (by omega)]
      exact i1
  · by_cases c1 : aa.toInt = 1
    · have e := z_nat01 (Or.inr c1)
      obtain ⟨rfl, rfl⟩ := f4 c1
      obtain ⟨x1, rfl⟩ := k1 c1
      have z := g1 (by omega)
      have g := g4 (by omega)
      refine ⟨by rw [z]; exact f1 (by omega), h1, h3, ⟨?_, ?_⟩, h5, h6, fun hs => zE_ko (h7 hs) hq (by omega) g, fun _ => zE_ke h5 hw c1 g x1⟩
      · rw [g3 0, if_neg (by omega)]
        exact i0
      · rw [g3 1, if_pos ⟨z, by omega⟩]
        exact ⟨fun _ => rfl, fun _ => q1⟩
    · obtain ⟨y0, rfl, rfl⟩ := f2 (by omega)
      obtain ⟨rfl, rfl⟩ := k2 (by omega)
      have z := g2 (by omega)
      rw [g5 (by omega)]
      refine ⟨by omega, h1, h3, ⟨?_, ?_⟩, h5, h6, h7, h8⟩
      · rw [g3 0, if_neg (by omega)]
        exact i0
      · rw [g3 1, if_neg (by omega)]
        exact i1
/-- again: what it answers by what is kept -/
theorem zRL_again (h : zRL tn sg s0 s1 pn pc P K0 K1 R xt tb ik rw_ un ke nu) (hw1 : zW5 rw1) (hab : aa = bb)
    (fx : (¬ (aa.toInt = 0 ∧ s0 = true ∨ aa.toInt = 1 ∧ s1 = true) ∧ zx.toInt = 0 ∧ R1 = R ∧ pc1 = pc) ∨ (zx.toInt = 1 ∧ pc1.toInt = 0 ∧ (aa.toInt = 0 ∧ s0 = true ∧ zE R1 K0 ∨ aa.toInt = 1 ∧ s1 = true ∧ zE R1 K1)))
    (g1 : (0 ≤ bb.toInt ∧ bb.toInt ≤ 1) ∧ (ik bb.toNatClampNeg).toInt ≠ 0 → zm.toInt = 1) (g2 : ¬ ((0 ≤ bb.toInt ∧ bb.toInt ≤ 1) ∧ (ik bb.toNatClampNeg).toInt ≠ 0) → zm.toInt = 0)
    (fm : zm.toInt = 0 ∧ rw1 = rw_ ∧ nu1 = nu ∨ zm.toInt = 1 ∧ nu1.toInt = 0 ∧ ∀ q : Nat, q < 503 → rw1 q = ke (503 * bb.toInt.toNat + q)) :
    zx.toInt = zm.toInt ∧ zRL tn sg s0 s1 pn pc1 P K0 K1 R1 xt tb ik rw1 un ke nu1 := by
  subst hab
  obtain ⟨h1, h3, ⟨i0, i1⟩, h5, h6, h7, h8⟩ := h
  have e9 : zm.toInt = 1 ∧ nu1.toInt = 0 ∧ (∀ q : Nat, q < 503 → rw1 q = ke (503 * aa.toInt.toNat + q)) → zE rw1 (fun j => ke (503 * aa.toInt.toNat + j)) := fun q => zE_all q.2.2 (zW5_0 hw1).2 (fun t ht => (zW5.len hw1 t ht).2)
  rcases fx with ⟨a1, a2, a3, a4⟩ | ⟨a1, a2, a3⟩
  · have z : zm.toInt = 0 := g2 (fun q => by
      obtain ⟨q1, q2⟩ := q
      by_cases c0 : aa.toInt = 0
      · have e := z_nat01 (Or.inl c0)
        rw [show aa.toNatClampNeg = 0 by omega] at q2
        exact a1 (Or.inl ⟨c0, i0.mp q2⟩)
      · have c1 : aa.toInt = 1 := by omega
        have e := z_nat01 (Or.inr c1)
        rw [show aa.toNatClampNeg = 1 by omega] at q2
        exact a1 (Or.inr ⟨c1, i1.mp q2⟩))
    rcases fm with ⟨b1, b2, b3⟩ | ⟨b1, _⟩
    · exact ⟨by omega, h1, h3, ⟨i0, i1⟩, by rw [a3, b2]; exact h5, by rw [a4, b3]; exact h6, h7, h8⟩
    · omega
  · have hp : 0 ≤ aa.toInt ∧ aa.toInt ≤ 1 := by
      rcases a3 with a3 | a3 <;> omega
    have z : zm.toInt = 1 := g1 ⟨hp, by
      rcases a3 with ⟨c0, c1, _⟩ | ⟨c0, c1, _⟩
      · have e := z_nat01 (Or.inl c0)
        rw [show aa.toNatClampNeg = 0 by omega]
        exact i0.mpr c1
      · have e := z_nat01 (Or.inr c0)
        rw [show aa.toNatClampNeg = 1 by omega]
        exact i1.mpr c1⟩
    rcases fm with ⟨b1, _⟩ | fm
    · omega
    · have e8 := e9 fm
      obtain ⟨-, b2, -⟩ := fm
      refine ⟨by omega, h1, h3, ⟨i0, i1⟩, ?_, ⟨by omega, h6.2.1, by omega, fun k hk => absurd hk (by omega)⟩, h7, h8⟩
      rcases a3 with ⟨c0, c1, c2⟩ | ⟨c0, c1, c2⟩
      · rw [show aa.toInt.toNat = 0 by omega] at e8
        exact (c2.trans (h7 c1)).trans e8.symm
      · rw [show aa.toInt.toNat = 1 by omega] at e8
        exact (c2.trans (h8 c1)).trans e8.symm
end
theorem zRL_0 {P : Nat → Nat → Int32} {K0 K1 : Nat → Int32} : zRL 0 (fun _ => 0) false false 0 0 P K0 K1 (zrow 0 1 0 (fun _ => 0) (fun _ => 0) (fun _ => 0)) 0 (fun _ => 0) (fun _ => 0) (upd (fun _ => 0) 501 1) (fun _ => 0) (fun _ => 0) 0 := by
  have h0 := zi_00
  refine ⟨⟨rfl, by omega⟩, fun j hj => absurd hj (by omega), ⟨⟨fun h => absurd h0 h, fun h => absurd h (by decide)⟩, ⟨fun h => absurd h0 h, fun h => absurd h (by decide)⟩⟩, ⟨rfl, rfl, rfl, fun t ht => ?_⟩, ⟨rfl, by omega, by omega, fun k hk => absurd hk (by omega)⟩, fun h => absurd h (by decide), fun h => absurd h (by decide)⟩
  rw [zrow_0] at ht
  exact absurd ht (by omega)
theorem z_idx {i k v : Int32} {L : Nat} {n : Int} (hi : 0 ≤ i.toInt ∧ i.toInt + 5 ≤ (L : Int)) (hL : L ≤ 2560) (e : v = i + k) (hk : k.toInt = n) (hn : 0 ≤ n ∧ n ≤ 4) : vp_in v L := by
  have q : v.toInt = i.toInt + k.toInt := by rw [e, Int32.toInt_add]; exact zi_bmod (by omega)
  exact z_inL (by omega) (by omega)
theorem zr_1 (a w b : va_W) : (zap a (zap w []) ++ zap b []).Perm (zap a (zap w (zap b []))) := zp_eq (by show (a ++ (w ++ [])) ++ (b ++ []) = a ++ (w ++ (b ++ [])); rw [List.append_nil, List.append_nil, List.append_assoc])
theorem zb_Mo_at {G : zG} {a : Nat} {nu : Int32} {xt : Int32} {ro : Nat → Int32} {ke : Nat → Int32} {ik : Nat → Int32} {un : Nat → Int32} {tb : Nat → Int32} {w : va_W} (h : zb_Mo G a nu xt ro ke ik un tb w) : ∃ fs : List Value, w[0]? = some (a, .inr (12, fs)) := zb_Mo_open h (fun _ _ _ _ _ _ _ _ _ _ _ _ _ _ _ _ _ _ _ _ _ _ _ _ _ _ _ _ _ _ _ _ _ _ _ _ _ _ _ _ _ _ _ _ _ _ _ _ _ _ _ _ _ _ _ _ _ _ _ _ _ _ _ _ _ _ _ _ _ _ _ _ _ _ _ _ _ _ _ _ _ _ _ _ _ _ e _ _ _ _ _ _ _ _ _ _ _ _ _ _ _ _ _ _ _ _ _ _ _ _ _ _ => ⟨_, by rw [e]; rfl⟩)
set_option maxHeartbeats 4000000 in
set_option maxRecDepth 100000 in
theorem law_0 {p : Program} {e : Env} {s : State} {m : MethodId} {below : List Frame} {meth : Method} {c : Code} (l : Launch) {b L : Nat} {xs : Nat → Int32} {G : zG} (hL : L ≤ 2560) (Z : zC p s m #[Value.ref b] meth c code 7 "TraceMachinesLaw" G) (hr : meth.sig.returnType = ret) (hX : va_X b L xs s s.heap) (hbl : b < s.heap.size)  {i : Int32} {cells slots : Nat} (hroom : cells + 5 ≤ 601024 ∧ slots + 520 ≤ 7293034) (hi : 0 ≤ i.toInt ∧ i.toInt + 5 ≤ (L : Int)) {xX xText xNow xRead xPast xKept xTree xFol xMs xTree2 xMa2 xRun xRan xWo xPa xCo xPr xOd xFi xM0 xM1 xM2 xM3 mA zo : Nat} {tn : Int32} {sg : Nat → Int32} {s0 : Bool} {s1 : Bool} {pn : Int32} {pc : Int32} {P : Nat → Nat → Int32} {K0 : Nat → Int32} {K1 : Nat → Int32} {Rd : Nat → Int32} {n : Int32} {d : Int32} {mg : Int32} {L : Nat → Int32} {F : Nat → Int32} {V : Nat → Int32} {f0 : Nat → Int64} {x0 m0 : va_W} {nu0 : Int32} {xt0 : Int32} {ro0 : Nat → Int32} {ke0 : Nat → Int32} {ik0 : Nat → Int32} {un0 : Nat → Int32} {tb0 : Nat → Int32} {H : Heap} {locs : List Loc} {ls : Array Slot} (hx0 : XS G xX xText xNow xRead xPast xKept xTree xFol xMs xTree2 xMa2 xRun xRan xWo xPa xCo xPr xOd xFi xM0 xM1 xM2 xM3 True tn sg s0 s1 pn pc P K0 K1 Rd n d mg L F V x0) (hm0 : zb_Mo G mA nu0 xt0 ro0 ke0 ik0 un0 tb0 m0) (hR0 : zRL (tn) (sg) (s0) (s1) (pn) (pc) (P) (K0) (K1) (zrow (n) (d) (mg) (L) (F) (V)) (xt0) (tb0) (ik0) (ro0) (un0) (ke0) (nu0)) (hP : va_P G.1 classes (zap [(zo, .inl (G.2 1, 1, .inr (.inl f0)))] (zap x0 (zap m0 []))) H) (hD : va_D (fun q : Nat => s.heap.size ≤ q) (zap [(zo, .inl (G.2 1, 1, .inr (.inl f0)))] (zap x0 (zap m0 [])))) (hS : va_S (fun q : Nat => s.heap.size ≤ q) s.heap H locs) (hl : lv_has ls 7 [(0, .ref b), (1, .ref xX), (2, .ref mA), (3, .ref zo), (4, .int i)]) (kk : ∀ (f1 : Nat → Int64) (x1 m1 : va_W) (nu_1 : Int32) (xt_1 : Int32) (ro_1 : Nat → Int32) (ke_1 : Nat → Int32) (ik_1 : Nat → Int32) (un_1 : Nat → Int32) (tb_1 : Nat → Int32) (tn_1 : Int32) (sg_1 : Nat → Int32) (s0_1 : Bool) (s1_1 : Bool) (pn_1 : Int32) (pc_1 : Int32) (P_1 : Nat → Nat → Int32) (K0_1 : Nat → Int32) (K1_1 : Nat → Int32) (Rd_1 : Nat → Int32) (n_1 : Int32) (d_1 : Int32) (mg_1 : Int32) (L_1 : Nat → Int32) (F_1 : Nat → Int32) (V_1 : Nat → Int32) (H : Heap) (locs : List Loc) (ls : Array Slot), XS G xX xText xNow xRead xPast xKept xTree xFol xMs xTree2 xMa2 xRun xRan xWo xPa xCo xPr xOd xFi xM0 xM1 xM2 xM3 True tn_1 sg_1 s0_1 s1_1 pn_1 pc_1 P_1 K0_1 K1_1 Rd_1 n_1 d_1 mg_1 L_1 F_1 V_1 x1 → zb_Mo G mA nu_1 xt_1 ro_1 ke_1 ik_1 un_1 tb_1 m1 → zRL (tn_1) (sg_1) (s0_1) (s1_1) (pn_1) (pc_1) (P_1) (K0_1) (K1_1) (zrow (n_1) (d_1) (mg_1) (L_1) (F_1) (V_1)) (xt_1) (tb_1) (ik_1) (ro_1) (un_1) (ke_1) (nu_1) → va_P G.1 classes (zap [(zo, .inl (G.2 1, 1, .inr (.inl f1)))] (zap x1 (zap m1 []))) H → va_D (fun q : Nat => s.heap.size ≤ q) (zap [(zo, .inl (G.2 1, 1, .inr (.inl f1)))] (zap x1 (zap m1 []))) → va_S (fun q : Nat => s.heap.size ≤ q) s.heap H locs → lv_has ls 7 [(0, .ref b), (1, .ref xX), (2, .ref mA), (3, .ref zo), (4, .int i)] → W p l e room_1 s m #[Value.ref b] below meth c H locs (cells + 5) (slots + 520) (lw_Z below #[Value.ref b] s) (F0 m 1067 ls [])) : W p l e room_1 s m #[Value.ref b] below meth c H locs cells slots (lw_Z below #[Value.ref b] s) (F0 m 164 ls []) := by
  obtain ⟨hx, hb, hml, hown, hts, hK, hN, hlocks⟩ := id Z
  have hbA : ¬ (fun q : Nat => s.heap.size ≤ q) b := Nat.not_le.mpr hbl
  have hA : ∀ q : Nat, s.heap.size ≤ q → (fun q : Nat => s.heap.size ≤ q) q := fun _ h => h
  refine lv_aload_n hx hb d_law_164 rfl (lv_at hl 1 rfl) ?_
  refine lv_aload_n hx hb d_law_165 rfl (lv_at hl 0 rfl) ?_
  refine lv_iload hx hb d_law_166 (lv_at hl 4 rfl) ?_
  refine lv_iconst (v := 1) hx hb d_law_168 (by decide) ?_
  refine lv_iadd hx hb d_law_169 ?_
  refine lv_topi (fun v_1 ev_1 => ?_)
  have qv_1 := z_idx (k := 1) hi hL ev_1 li_1 (by decide)
  refine va_sld hx hb hX hbl hbA hS (i := v_1) qv_1 d_law_170 ?_
  refine lv_topi (fun v_2 ev_2 => ?_)
  obtain ⟨fs_3, hat_4⟩ := XS_at hx0
  refine z_callV (index := 19) (As := [.int v_2]) (rest := []) (wr := []) Z ((x_sign l G xX xText xNow xRead xPast xKept xTree xFol xMs xTree2 xMa2 xRun xRan xWo xPa xCo xPr xOd xFi xM0 xM1 xM2 xM3 (v_2) (tn) (sg) (s0) (s1) (pn) (pc) (P) (K0) (K1) (Rd) (n) (d) (mg) (L) (F) (V) x0 hx0).mid [(zo, .inl (G.2 1, 1, .inr (.inl f0)))] (zap m0 [])) hl.1 q478 q479 q480 q1 q481 ⟨by decide, by decide, by show _ = some 1; decide +kernel⟩ ⟨Nat.le_of_ble_eq_true rfl, Nat.le_of_ble_eq_true rfl⟩ (show cells + 0 ≤ 601024 ∧ slots + 0 ≤ 7293034 from ⟨by omega, by omega⟩) rfl (Nat.le_of_ble_eq_true rfl) d_law_171 hP hD hS hA 1 0 (zw_at1 (a := [(zo, .inl (G.2 1, 1, .inr (.inl f0)))]) (b := zap m0 []) hat_4) rfl rfl (List.range _) [] (zw_range _) rfl (zw_nd _) rfl (by intro i h9; cases h9) (fun v w1 H locs hw_5 hP hD hS => ?_)
  obtain ⟨w_9, ⟨x_6, x_7, x_8, rfl, hx_10, hf_11, hf_12, hf_13, hf_14⟩, rfl⟩ := hw_5
  have hP : va_P G.1 classes (zap [(zo, .inl (G.2 1, 1, .inr (.inl f0)))] (zap w_9 (zap m0 []))) H := hP
  have hD : va_D (fun q : Nat => s.heap.size ≤ q) (zap [(zo, .inl (G.2 1, 1, .inr (.inl f0)))] (zap w_9 (zap m0 []))) := hD
  refine W.widen (k := cells + 0) (n := slots + 0) (show cells + 0 ≤ cells + 0 from Nat.le_refl _) (show slots + 0 ≤ slots + 0 from Nat.le_refl _) ?_
  refine lv_pop hx hb d_law_174 rfl ?_
  refine lv_aload_n hx hb d_law_175 rfl (lv_at hl 2 rfl) ?_
  refine lv_aload_n hx hb d_law_176 rfl (lv_at hl 0 rfl) ?_
  refine lv_iload hx hb d_law_177 (lv_at hl 4 rfl) ?_
  refine lv_iconst (v := 1) hx hb d_law_179 (by decide) ?_
  refine lv_iadd hx hb d_law_180 ?_
  refine lv_topi (fun v_15 ev_15 => ?_)
  have qv_15 := z_idx (k := 1) hi hL ev_15 li_1 (by decide)
  refine va_sld hx hb hX hbl hbA hS (i := v_15) qv_15 d_law_181 ?_
  refine lv_topi (fun v_16 ev_16 => ?_)
  obtain ⟨fs_17, hat_18⟩ := zb_Mo_at hm0
  refine z_callV (index := 23) (As := [.int v_16]) (rest := []) (wr := []) Z ((m_sign l G mA (v_16)  (nu0) (xt0) (ro0) (ke0) (ik0) (un0) (tb0) m0 hm0).mid2 [(zo, .inl (G.2 1, 1, .inr (.inl f0)))] w_9 []) hl.1 q1273 q1274 q1275 q14 q1276 ⟨by decide, by decide, by show _ = some 1; decide +kernel⟩ ⟨Nat.le_of_ble_eq_true rfl, Nat.le_of_ble_eq_true rfl⟩ (show cells + 0 ≤ 601024 ∧ slots + 0 ≤ 7293034 from ⟨by omega, by omega⟩) rfl (Nat.le_of_ble_eq_true rfl) d_law_182 hP hD hS hA _ 12 (zw_at2 (a := [(zo, .inl (G.2 1, 1, .inr (.inl f0)))]) (x := w_9) (b := []) hat_18) rfl rfl (List.range _) [] (zw_range _) rfl (zw_nd _) rfl (by intro i h9; cases h9) (fun v w1 H locs hw_19 hP hD hS => ?_)
  obtain ⟨w_21, ⟨xt_27, tb_28, x_20, ⟨rfl, hf_23, hf_24, hf_25, hf_26⟩, hm_22⟩, rfl⟩ := hw_19
  have hP : va_P G.1 classes (zap [(zo, .inl (G.2 1, 1, .inr (.inl f0)))] (zap w_9 (zap w_21 []))) H := hP
  have hD : va_D (fun q : Nat => s.heap.size ≤ q) (zap [(zo, .inl (G.2 1, 1, .inr (.inl f0)))] (zap w_9 (zap w_21 []))) := hD
  refine W.widen (k := cells + 0) (n := slots + 0) (show cells + 0 ≤ cells + 0 from Nat.le_refl _) (show slots + 0 ≤ slots + 0 from Nat.le_refl _) ?_
  have hq9 : (x_6 : Int32).toInt = (x_20 : Int32).toInt ∧ zRL (x_7) (x_8) (s0) (s1) (pn) (pc) (P) (K0) (K1) (zrow (n) (d) (mg) (L) (F) (V)) (xt_27) (tb_28) (ik0) (ro0) (un0) (ke0) (nu0) := zRL_sign hR0 (ev_2.trans ((congrArg (fun z : Int32 => xs z.toNatClampNeg) (ev_1.trans ev_15.symm)).trans ev_16.symm)) hf_11 hf_12 hf_13 hf_14 hf_23 hf_24 hf_25 hf_26
  refine lv_pop hx hb d_law_185 rfl ?_
  refine lv_goto (tgt := 1067) hx hb d_law_186 (by decide) ?_
  refine W.widen (k := cells + 5) (n := slots + 520) (by omega) (by omega) ?_
  exact kk _ _ _ _ _ _ _ _ _ _ _ _ _ _ _ _ _ _ _ _ _ _ _ _ _ _ _ _ _ hx_10 hm_22 (hq9.2) hP hD hS (lv_sub hl [0, 1, 2, 3, 4] rfl)
set_option maxHeartbeats 4000000 in
set_option maxRecDepth 100000 in
theorem law_1 {p : Program} {e : Env} {s : State} {m : MethodId} {below : List Frame} {meth : Method} {c : Code} (l : Launch) {b L : Nat} {xs : Nat → Int32} {G : zG} (hL : L ≤ 2560) (Z : zC p s m #[Value.ref b] meth c code 7 "TraceMachinesLaw" G) (hr : meth.sig.returnType = ret) (hX : va_X b L xs s s.heap) (hbl : b < s.heap.size)  {i : Int32} {cells slots : Nat} (hroom : cells + 5 ≤ 601024 ∧ slots + 520 ≤ 7293034) (hi : 0 ≤ i.toInt ∧ i.toInt + 5 ≤ (L : Int)) {xX xText xNow xRead xPast xKept xTree xFol xMs xTree2 xMa2 xRun xRan xWo xPa xCo xPr xOd xFi xM0 xM1 xM2 xM3 mA zo : Nat} {tn : Int32} {sg : Nat → Int32} {s0 : Bool} {s1 : Bool} {pn : Int32} {pc : Int32} {P : Nat → Nat → Int32} {K0 : Nat → Int32} {K1 : Nat → Int32} {Rd : Nat → Int32} {n : Int32} {d : Int32} {mg : Int32} {L : Nat → Int32} {F : Nat → Int32} {V : Nat → Int32} {f0 : Nat → Int64} {x0 m0 : va_W} {nu0 : Int32} {xt0 : Int32} {ro0 : Nat → Int32} {ke0 : Nat → Int32} {ik0 : Nat → Int32} {un0 : Nat → Int32} {tb0 : Nat → Int32} {H : Heap} {locs : List Loc} {ls : Array Slot} (hx0 : XS G xX xText xNow xRead xPast xKept xTree xFol xMs xTree2 xMa2 xRun xRan xWo xPa xCo xPr xOd xFi xM0 xM1 xM2 xM3 True tn sg s0 s1 pn pc P K0 K1 Rd n d mg L F V x0) (hm0 : zb_Mo G mA nu0 xt0 ro0 ke0 ik0 un0 tb0 m0) (hR0 : zRL (tn) (sg) (s0) (s1) (pn) (pc) (P) (K0) (K1) (zrow (n) (d) (mg) (L) (F) (V)) (xt0) (tb0) (ik0) (ro0) (un0) (ke0) (nu0)) (hP : va_P G.1 classes (zap [(zo, .inl (G.2 1, 1, .inr (.inl f0)))] (zap x0 (zap m0 []))) H) (hD : va_D (fun q : Nat => s.heap.size ≤ q) (zap [(zo, .inl (G.2 1, 1, .inr (.inl f0)))] (zap x0 (zap m0 [])))) (hS : va_S (fun q : Nat => s.heap.size ≤ q) s.heap H locs) (hl : lv_has ls 7 [(0, .ref b), (1, .ref xX), (2, .ref mA), (3, .ref zo), (4, .int i)]) (kk : ∀ (f1 : Nat → Int64) (x1 m1 : va_W) (nu_1 : Int32) (xt_1 : Int32) (ro_1 : Nat → Int32) (ke_1 : Nat → Int32) (ik_1 : Nat → Int32) (un_1 : Nat → Int32) (tb_1 : Nat → Int32) (tn_1 : Int32) (sg_1 : Nat → Int32) (s0_1 : Bool) (s1_1 : Bool) (pn_1 : Int32) (pc_1 : Int32) (P_1 : Nat → Nat → Int32) (K0_1 : Nat → Int32) (K1_1 : Nat → Int32) (Rd_1 : Nat → Int32) (n_1 : Int32) (d_1 : Int32) (mg_1 : Int32) (L_1 : Nat → Int32) (F_1 : Nat → Int32) (V_1 : Nat → Int32) (H : Heap) (locs : List Loc) (ls : Array Slot), XS G xX xText xNow xRead xPast xKept xTree xFol xMs xTree2 xMa2 xRun xRan xWo xPa xCo xPr xOd xFi xM0 xM1 xM2 xM3 True tn_1 sg_1 s0_1 s1_1 pn_1 pc_1 P_1 K0_1 K1_1 Rd_1 n_1 d_1 mg_1 L_1 F_1 V_1 x1 → zb_Mo G mA nu_1 xt_1 ro_1 ke_1 ik_1 un_1 tb_1 m1 → zRL (tn_1) (sg_1) (s0_1) (s1_1) (pn_1) (pc_1) (P_1) (K0_1) (K1_1) (zrow (n_1) (d_1) (mg_1) (L_1) (F_1) (V_1)) (xt_1) (tb_1) (ik_1) (ro_1) (un_1) (ke_1) (nu_1) → va_P G.1 classes (zap [(zo, .inl (G.2 1, 1, .inr (.inl f1)))] (zap x1 (zap m1 []))) H → va_D (fun q : Nat => s.heap.size ≤ q) (zap [(zo, .inl (G.2 1, 1, .inr (.inl f1)))] (zap x1 (zap m1 []))) → va_S (fun q : Nat => s.heap.size ≤ q) s.heap H locs → lv_has ls 7 [(0, .ref b), (1, .ref xX), (2, .ref mA), (3, .ref zo), (4, .int i)] → W p l e room_1 s m #[Value.ref b] below meth c H locs (cells + 5) (slots + 520) (lw_Z below #[Value.ref b] s) (F0 m 1067 ls [])) : W p l e room_1 s m #[Value.ref b] below meth c H locs cells slots (lw_Z below #[Value.ref b] s) (F0 m 189 ls []) := by
  obtain ⟨hx, hb, hml, hown, hts, hK, hN, hlocks⟩ := id Z
  have hbA : ¬ (fun q : Nat => s.heap.size ≤ q) b := Nat.not_le.mpr hbl
  have hA : ∀ q : Nat, s.heap.size ≤ q → (fun q : Nat => s.heap.size ≤ q) q := fun _ h => h
  refine lv_aload_n hx hb d_law_189 rfl (lv_at hl 1 rfl) ?_
  refine lv_aload_n hx hb d_law_190 rfl (lv_at hl 0 rfl) ?_
  refine lv_iload hx hb d_law_191 (lv_at hl 4 rfl) ?_
  refine lv_iconst (v := 1) hx hb d_law_193 (by decide) ?_
  refine lv_iadd hx hb d_law_194 ?_
  refine lv_topi (fun v_1 ev_1 => ?_)
  have qv_1 := z_idx (k := 1) hi hL ev_1 li_1 (by decide)
  refine va_sld hx hb hX hbl hbA hS (i := v_1) qv_1 d_law_195 ?_
  refine lv_topi (fun v_2 ev_2 => ?_)
  obtain ⟨fs_3, hat_4⟩ := XS_at hx0
  refine z_callV (index := 24) (As := [.int v_2]) (rest := []) (wr := []) Z ((x_end l G xX xText xNow xRead xPast xKept xTree xFol xMs xTree2 xMa2 xRun xRan xWo xPa xCo xPr xOd xFi xM0 xM1 xM2 xM3 (v_2) (tn) (sg) (s0) (s1) (pn) (pc) (P) (K0) (K1) (Rd) (n) (d) (mg) (L) (F) (V) x0 hx0).mid [(zo, .inl (G.2 1, 1, .inr (.inl f0)))] (zap m0 [])) hl.1 q486 q487 q488 q1 q489 ⟨by decide, by decide, by show _ = some 1; decide +kernel⟩ ⟨Nat.le_of_ble_eq_true rfl, Nat.le_of_ble_eq_true rfl⟩ (show cells + 0 ≤ 601024 ∧ slots + 0 ≤ 7293034 from ⟨by omega, by omega⟩) rfl (Nat.le_of_ble_eq_true rfl) d_law_196 hP hD hS hA 1 0 (zw_at1 (a := [(zo, .inl (G.2 1, 1, .inr (.inl f0)))]) (b := zap m0 []) hat_4) rfl rfl (List.range _) [] (zw_range _) rfl (zw_nd _) rfl (by intro i h9; cases h9) (fun v w1 H locs hw_5 hP hD hS => ?_)
  obtain ⟨w_8, ⟨x_6, x_7, rfl, hx_9, hf_10, hf_11, hf_12⟩, rfl⟩ := hw_5
  have hP : va_P G.1 classes (zap [(zo, .inl (G.2 1, 1, .inr (.inl f0)))] (zap w_8 (zap m0 []))) H := hP
  have hD : va_D (fun q : Nat => s.heap.size ≤ q) (zap [(zo, .inl (G.2 1, 1, .inr (.inl f0)))] (zap w_8 (zap m0 []))) := hD
  refine W.widen (k := cells + 0) (n := slots + 0) (show cells + 0 ≤ cells + 0 from Nat.le_refl _) (show slots + 0 ≤ slots + 0 from Nat.le_refl _) ?_
  refine lv_pop hx hb d_law_199 rfl ?_
  refine lv_aload_n hx hb d_law_200 rfl (lv_at hl 2 rfl) ?_
  refine lv_aload_n hx hb d_law_201 rfl (lv_at hl 0 rfl) ?_
  refine lv_iload hx hb d_law_202 (lv_at hl 4 rfl) ?_
  refine lv_iconst (v := 1) hx hb d_law_204 (by decide) ?_
  refine lv_iadd hx hb d_law_205 ?_
  refine lv_topi (fun v_13 ev_13 => ?_)
  have qv_13 := z_idx (k := 1) hi hL ev_13 li_1 (by decide)
  refine va_sld hx hb hX hbl hbA hS (i := v_13) qv_13 d_law_206 ?_
  refine lv_topi (fun v_14 ev_14 => ?_)
  obtain ⟨fs_15, hat_16⟩ := zb_Mo_at hm0
  refine z_callV (index := 28) (As := [.int v_14]) (rest := []) (wr := []) Z ((m_end l G mA (v_14)  (nu0) (xt0) (ro0) (ke0) (ik0) (un0) (tb0) m0 hm0).mid2 [(zo, .inl (G.2 1, 1, .inr (.inl f0)))] w_8 []) hl.1 q1277 q1278 q1279 q14 q1280 ⟨by decide, by decide, by show _ = some 1; decide +kernel⟩ ⟨Nat.le_of_ble_eq_true rfl, Nat.le_of_ble_eq_true rfl⟩ (show cells + 0 ≤ 601024 ∧ slots + 0 ≤ 7293034 from ⟨by omega, by omega⟩) rfl (Nat.le_of_ble_eq_true rfl) d_law_207 hP hD hS hA _ 12 (zw_at2 (a := [(zo, .inl (G.2 1, 1, .inr (.inl f0)))]) (x := w_8) (b := []) hat_16) rfl rfl (List.range _) [] (zw_range _) rfl (zw_nd _) rfl (by intro i h9; cases h9) (fun v w1 H locs hw_17 hP hD hS => ?_)
  obtain ⟨w_19, ⟨xt_24, x_18, ⟨rfl, hf_21, hf_22, hf_23⟩, hm_20⟩, rfl⟩ := hw_17
  have hP : va_P G.1 classes (zap [(zo, .inl (G.2 1, 1, .inr (.inl f0)))] (zap w_8 (zap w_19 []))) H := hP
  have hD : va_D (fun q : Nat => s.heap.size ≤ q) (zap [(zo, .inl (G.2 1, 1, .inr (.inl f0)))] (zap w_8 (zap w_19 []))) := hD
  refine W.widen (k := cells + 0) (n := slots + 0) (show cells + 0 ≤ cells + 0 from Nat.le_refl _) (show slots + 0 ≤ slots + 0 from Nat.le_refl _) ?_
  have hq9 : (x_6 : Int32).toInt = (x_18 : Int32).toInt ∧ zRL (x_7) (sg) (s0) (s1) (pn) (pc) (P) (K0) (K1) (zrow (n) (d) (mg) (L) (F) (V)) (xt_24) (tb0) (ik0) (ro0) (un0) (ke0) (nu0) := zRL_end hR0 (ev_2.trans ((congrArg (fun z : Int32 => xs z.toNatClampNeg) (ev_1.trans ev_13.symm)).trans ev_14.symm)) hf_11 hf_12 hf_22 hf_23
  refine lv_pop hx hb d_law_210 rfl ?_
  refine lv_goto (tgt := 1067) hx hb d_law_211 (by decide) ?_
  refine W.widen (k := cells + 5) (n := slots + 520) (by omega) (by omega) ?_
  exact kk _ _ _ _ _ _ _ _ _ _ _ _ _ _ _ _ _ _ _ _ _ _ _ _ _ _ _ _ _ hx_9 hm_20 (hq9.2) hP hD hS (lv_sub hl [0, 1, 2, 3, 4] rfl)
set_option maxHeartbeats 4000000 in
set_option maxRecDepth 100000 in
theorem law_2 {p : Program} {e : Env} {s : State} {m : MethodId} {below : List Frame} {meth : Method} {c : Code} (l : Launch) {b L : Nat} {xs : Nat → Int32} {G : zG} (hL : L ≤ 2560) (Z : zC p s m #[Value.ref b] meth c code 7 "TraceMachinesLaw" G) (hr : meth.sig.returnType = ret) (hX : va_X b L xs s s.heap) (hbl : b < s.heap.size)  {i : Int32} {cells slots : Nat} (hroom : cells + 5 ≤ 601024 ∧ slots + 520 ≤ 7293034) (hi : 0 ≤ i.toInt ∧ i.toInt + 5 ≤ (L : Int)) {xX xText xNow xRead xPast xKept xTree xFol xMs xTree2 xMa2 xRun xRan xWo xPa xCo xPr xOd xFi xM0 xM1 xM2 xM3 mA zo : Nat} {tn : Int32} {sg : Nat → Int32} {s0 : Bool} {s1 : Bool} {pn : Int32} {pc : Int32} {P : Nat → Nat → Int32} {K0 : Nat → Int32} {K1 : Nat → Int32} {Rd : Nat → Int32} {n : Int32} {d : Int32} {mg : Int32} {L : Nat → Int32} {F : Nat → Int32} {V : Nat → Int32} {f0 : Nat → Int64} {x0 m0 : va_W} {nu0 : Int32} {xt0 : Int32} {ro0 : Nat → Int32} {ke0 : Nat → Int32} {ik0 : Nat → Int32} {un0 : Nat → Int32} {tb0 : Nat → Int32} {H : Heap} {locs : List Loc} {ls : Array Slot} (hx0 : XS G xX xText xNow xRead xPast xKept xTree xFol xMs xTree2 xMa2 xRun xRan xWo xPa xCo xPr xOd xFi xM0 xM1 xM2 xM3 True tn sg s0 s1 pn pc P K0 K1 Rd n d mg L F V x0) (hm0 : zb_Mo G mA nu0 xt0 ro0 ke0 ik0 un0 tb0 m0) (hR0 : zRL (tn) (sg) (s0) (s1) (pn) (pc) (P) (K0) (K1) (zrow (n) (d) (mg) (L) (F) (V)) (xt0) (tb0) (ik0) (ro0) (un0) (ke0) (nu0)) (hP : va_P G.1 classes (zap [(zo, .inl (G.2 1, 1, .inr (.inl f0)))] (zap x0 (zap m0 []))) H) (hD : va_D (fun q : Nat => s.heap.size ≤ q) (zap [(zo, .inl (G.2 1, 1, .inr (.inl f0)))] (zap x0 (zap m0 [])))) (hS : va_S (fun q : Nat => s.heap.size ≤ q) s.heap H locs) (hl : lv_has ls 7 [(0, .ref b), (1, .ref xX), (2, .ref mA), (3, .ref zo), (4, .int i)]) (kk : ∀ (f1 : Nat → Int64) (x1 m1 : va_W) (nu_1 : Int32) (xt_1 : Int32) (ro_1 : Nat → Int32) (ke_1 : Nat → Int32) (ik_1 : Nat → Int32) (un_1 : Nat → Int32) (tb_1 : Nat → Int32) (tn_1 : Int32) (sg_1 : Nat → Int32) (s0_1 : Bool) (s1_1 : Bool) (pn_1 : Int32) (pc_1 : Int32) (P_1 : Nat → Nat → Int32) (K0_1 : Nat → Int32) (K1_1 : Nat → Int32) (Rd_1 : Nat → Int32) (n_1 : Int32) (d_1 : Int32) (mg_1 : Int32) (L_1 : Nat → Int32) (F_1 : Nat → Int32) (V_1 : Nat → Int32) (H : Heap) (locs : List Loc) (ls : Array Slot), XS G xX xText xNow xRead xPast xKept xTree xFol xMs xTree2 xMa2 xRun xRan xWo xPa xCo xPr xOd xFi xM0 xM1 xM2 xM3 True tn_1 sg_1 s0_1 s1_1 pn_1 pc_1 P_1 K0_1 K1_1 Rd_1 n_1 d_1 mg_1 L_1 F_1 V_1 x1 → zb_Mo G mA nu_1 xt_1 ro_1 ke_1 ik_1 un_1 tb_1 m1 → zRL (tn_1) (sg_1) (s0_1) (s1_1) (pn_1) (pc_1) (P_1) (K0_1) (K1_1) (zrow (n_1) (d_1) (mg_1) (L_1) (F_1) (V_1)) (xt_1) (tb_1) (ik_1) (ro_1) (un_1) (ke_1) (nu_1) → va_P G.1 classes (zap [(zo, .inl (G.2 1, 1, .inr (.inl f1)))] (zap x1 (zap m1 []))) H → va_D (fun q : Nat => s.heap.size ≤ q) (zap [(zo, .inl (G.2 1, 1, .inr (.inl f1)))] (zap x1 (zap m1 []))) → va_S (fun q : Nat => s.heap.size ≤ q) s.heap H locs → lv_has ls 7 [(0, .ref b), (1, .ref xX), (2, .ref mA), (3, .ref zo), (4, .int i)] → W p l e room_1 s m #[Value.ref b] below meth c H locs (cells + 5) (slots + 520) (lw_Z below #[Value.ref b] s) (F0 m 1067 ls [])) : W p l e room_1 s m #[Value.ref b] below meth c H locs cells slots (lw_Z below #[Value.ref b] s) (F0 m 214 ls []) := by
  obtain ⟨hx, hb, hml, hown, hts, hK, hN, hlocks⟩ := id Z
  have hbA : ¬ (fun q : Nat => s.heap.size ≤ q) b := Nat.not_le.mpr hbl
  have hA : ∀ q : Nat, s.heap.size ≤ q → (fun q : Nat => s.heap.size ≤ q) q := fun _ h => h
  refine lv_aload_n hx hb d_law_214 rfl (lv_at hl 1 rfl) ?_
  obtain ⟨fs_1, hat_2⟩ := XS_at hx0
  refine z_callV (index := 29) (As := []) (rest := []) (wr := []) Z ((x_traces l G xX xText xNow xRead xPast xKept xTree xFol xMs xTree2 xMa2 xRun xRan xWo xPa xCo xPr xOd xFi xM0 xM1 xM2 xM3 (tn) (sg) (s0) (s1) (pn) (pc) (P) (K0) (K1) (Rd) (n) (d) (mg) (L) (F) (V) x0 hx0).mid [(zo, .inl (G.2 1, 1, .inr (.inl f0)))] (zap m0 [])) hl.1 q494 q495 q496 q1 q497 ⟨by decide, by decide, by show _ = some 0; decide +kernel⟩ ⟨Nat.le_of_ble_eq_true rfl, Nat.le_of_ble_eq_true rfl⟩ (show cells + 0 ≤ 601024 ∧ slots + 0 ≤ 7293034 from ⟨by omega, by omega⟩) rfl (Nat.le_of_ble_eq_true rfl) d_law_215 hP hD hS hA 1 0 (zw_at1 (a := [(zo, .inl (G.2 1, 1, .inr (.inl f0)))]) (b := zap m0 []) hat_2) rfl rfl (List.range _) [] (zw_range _) rfl (zw_nd _) rfl (by intro i h9; cases h9) (fun v w1 H locs hw_3 hP hD hS => ?_)
  obtain ⟨w_16, ⟨x_4, x_5, x_6, x_7, x_8, x_9, x_10, x_11, x_12, x_13, x_14, x_15, rfl, hx_17, hf_18, hf_19⟩, rfl⟩ := hw_3
  have hP : va_P G.1 classes (zap [(zo, .inl (G.2 1, 1, .inr (.inl f0)))] (zap w_16 (zap m0 []))) H := hP
  have hD : va_D (fun q : Nat => s.heap.size ≤ q) (zap [(zo, .inl (G.2 1, 1, .inr (.inl f0)))] (zap w_16 (zap m0 []))) := hD
  refine W.widen (k := cells + 0) (n := slots + 0) (show cells + 0 ≤ cells + 0 from Nat.le_refl _) (show slots + 0 ≤ slots + 0 from Nat.le_refl _) ?_
  refine lv_pop hx hb d_law_218 rfl ?_
  refine lv_aload_n hx hb d_law_219 rfl (lv_at hl 2 rfl) ?_
  obtain ⟨fs_20, hat_21⟩ := zb_Mo_at hm0
  refine z_callV (index := 33) (As := []) (rest := []) (wr := []) Z ((m_traces l G mA   (nu0) (xt0) (ro0) (ke0) (ik0) (un0) (tb0) m0 hm0).mid2 [(zo, .inl (G.2 1, 1, .inr (.inl f0)))] w_16 []) hl.1 q1284 q1285 q1286 q14 q1287 ⟨by decide, by decide, by show _ = some 0; decide +kernel⟩ ⟨Nat.le_of_ble_eq_true rfl, Nat.le_of_ble_eq_true rfl⟩ (show cells + 0 ≤ 601024 ∧ slots + 0 ≤ 7293034 from ⟨by omega, by omega⟩) rfl (Nat.le_of_ble_eq_true rfl) d_law_220 hP hD hS hA _ 12 (zw_at2 (a := [(zo, .inl (G.2 1, 1, .inr (.inl f0)))]) (x := w_16) (b := []) hat_21) rfl rfl (List.range _) [] (zw_range _) rfl (zw_nd _) rfl (by intro i h9; cases h9) (fun v w1 H locs hw_22 hP hD hS => ?_)
  obtain ⟨w_24, ⟨nu_27, ro_28, un_29, x_23, ⟨rfl, hf_26⟩, hm_25⟩, rfl⟩ := hw_22
  have hP : va_P G.1 classes (zap [(zo, .inl (G.2 1, 1, .inr (.inl f0)))] (zap w_16 (zap w_24 []))) H := hP
  have hD : va_D (fun q : Nat => s.heap.size ≤ q) (zap [(zo, .inl (G.2 1, 1, .inr (.inl f0)))] (zap w_16 (zap w_24 []))) := hD
  refine W.widen (k := cells + 0) (n := slots + 0) (show cells + 0 ≤ cells + 0 from Nat.le_refl _) (show slots + 0 ≤ slots + 0 from Nat.le_refl _) ?_
  have hq9 : (x_4 : Int32).toInt = (x_23 : Int32).toInt ∧ zRL (x_5) (sg) (s0) (s1) (x_7) (x_8) (x_9) (K0) (K1) (zrow (x_10) (x_11) (x_12) (x_13) (x_14) (x_15)) (0) (tb0) (ik0) (ro_28) (un_29) (ke0) (nu_27) := zRL_traces (xt1 := 0) hR0 (zb_Mo_w hm0).1 (zb_Mo_w hm0).2.1 rfl hf_18 li_0 hf_19 hf_26
  refine lv_pop hx hb d_law_223 rfl ?_
  refine lv_goto (tgt := 1067) hx hb d_law_224 (by decide) ?_
  refine W.widen (k := cells + 5) (n := slots + 520) (by omega) (by omega) ?_
  exact kk _ _ _ _ _ _ _ _ _ _ _ _ _ _ _ _ _ _ _ _ _ _ _ _ _ _ _ _ _ hx_17 hm_25 (hq9.2) hP hD hS (lv_sub hl [0, 1, 2, 3, 4] rfl)
set_option maxHeartbeats 4000000 in
set_option maxRecDepth 100000 in
theorem law_3 {p : Program} {e : Env} {s : State} {m : MethodId} {below : List Frame} {meth : Method} {c : Code} (l : Launch) {b L : Nat} {xs : Nat → Int32} {G : zG} (hL : L ≤ 2560) (Z : zC p s m #[Value.ref b] meth c code 7 "TraceMachinesLaw" G) (hr : meth.sig.returnType = ret) (hX : va_X b L xs s s.heap) (hbl : b < s.heap.size)  {i : Int32} {cells slots : Nat} (hroom : cells + 5 ≤ 601024 ∧ slots + 520 ≤ 7293034) (hi : 0 ≤ i.toInt ∧ i.toInt + 5 ≤ (L : Int)) {xX xText xNow xRead xPast xKept xTree xFol xMs xTree2 xMa2 xRun xRan xWo xPa xCo xPr xOd xFi xM0 xM1 xM2 xM3 mA zo : Nat} {tn : Int32} {sg : Nat → Int32} {s0 : Bool} {s1 : Bool} {pn : Int32} {pc : Int32} {P : Nat → Nat → Int32} {K0 : Nat → Int32} {K1 : Nat → Int32} {Rd : Nat → Int32} {n : Int32} {d : Int32} {mg : Int32} {L : Nat → Int32} {F : Nat → Int32} {V : Nat → Int32} {f0 : Nat → Int64} {x0 m0 : va_W} {nu0 : Int32} {xt0 : Int32} {ro0 : Nat → Int32} {ke0 : Nat → Int32} {ik0 : Nat → Int32} {un0 : Nat → Int32} {tb0 : Nat → Int32} {H : Heap} {locs : List Loc} {ls : Array Slot} (hx0 : XS G xX xText xNow xRead xPast xKept xTree xFol xMs xTree2 xMa2 xRun xRan xWo xPa xCo xPr xOd xFi xM0 xM1 xM2 xM3 True tn sg s0 s1 pn pc P K0 K1 Rd n d mg L F V x0) (hm0 : zb_Mo G mA nu0 xt0 ro0 ke0 ik0 un0 tb0 m0) (hR0 : zRL (tn) (sg) (s0) (s1) (pn) (pc) (P) (K0) (K1) (zrow (n) (d) (mg) (L) (F) (V)) (xt0) (tb0) (ik0) (ro0) (un0) (ke0) (nu0)) (hP : va_P G.1 classes (zap [(zo, .inl (G.2 1, 1, .inr (.inl f0)))] (zap x0 (zap m0 []))) H) (hD : va_D (fun q : Nat => s.heap.size ≤ q) (zap [(zo, .inl (G.2 1, 1, .inr (.inl f0)))] (zap x0 (zap m0 [])))) (hS : va_S (fun q : Nat => s.heap.size ≤ q) s.heap H locs) (hl : lv_has ls 7 [(0, .ref b), (1, .ref xX), (2, .ref mA), (3, .ref zo), (4, .int i)]) (kk : ∀ (f1 : Nat → Int64) (x1 m1 : va_W) (nu_1 : Int32) (xt_1 : Int32) (ro_1 : Nat → Int32) (ke_1 : Nat → Int32) (ik_1 : Nat → Int32) (un_1 : Nat → Int32) (tb_1 : Nat → Int32) (tn_1 : Int32) (sg_1 : Nat → Int32) (s0_1 : Bool) (s1_1 : Bool) (pn_1 : Int32) (pc_1 : Int32) (P_1 : Nat → Nat → Int32) (K0_1 : Nat → Int32) (K1_1 : Nat → Int32) (Rd_1 : Nat → Int32) (n_1 : Int32) (d_1 : Int32) (mg_1 : Int32) (L_1 : Nat → Int32) (F_1 : Nat → Int32) (V_1 : Nat → Int32) (H : Heap) (locs : List Loc) (ls : Array Slot), XS G xX xText xNow xRead xPast xKept xTree xFol xMs xTree2 xMa2 xRun xRan xWo xPa xCo xPr xOd xFi xM0 xM1 xM2 xM3 True tn_1 sg_1 s0_1 s1_1 pn_1 pc_1 P_1 K0_1 K1_1 Rd_1 n_1 d_1 mg_1 L_1 F_1 V_1 x1 → zb_Mo G mA nu_1 xt_1 ro_1 ke_1 ik_1 un_1 tb_1 m1 → zRL (tn_1) (sg_1) (s0_1) (s1_1) (pn_1) (pc_1) (P_1) (K0_1) (K1_1) (zrow (n_1) (d_1) (mg_1) (L_1) (F_1) (V_1)) (xt_1) (tb_1) (ik_1) (ro_1) (un_1) (ke_1) (nu_1) → va_P G.1 classes (zap [(zo, .inl (G.2 1, 1, .inr (.inl f1)))] (zap x1 (zap m1 []))) H → va_D (fun q : Nat => s.heap.size ≤ q) (zap [(zo, .inl (G.2 1, 1, .inr (.inl f1)))] (zap x1 (zap m1 []))) → va_S (fun q : Nat => s.heap.size ≤ q) s.heap H locs → lv_has ls 7 [(0, .ref b), (1, .ref xX), (2, .ref mA), (3, .ref zo), (4, .int i)] → W p l e room_1 s m #[Value.ref b] below meth c H locs (cells + 5) (slots + 520) (lw_Z below #[Value.ref b] s) (F0 m 1067 ls [])) : W p l e room_1 s m #[Value.ref b] below meth c H locs cells slots (lw_Z below #[Value.ref b] s) (F0 m 227 ls []) := by
  obtain ⟨hx, hb, hml, hown, hts, hK, hN, hlocks⟩ := id Z
  have hbA : ¬ (fun q : Nat => s.heap.size ≤ q) b := Nat.not_le.mpr hbl
  have hA : ∀ q : Nat, s.heap.size ≤ q → (fun q : Nat => s.heap.size ≤ q) q := fun _ h => h
  refine lv_aload_n hx hb d_law_227 rfl (lv_at hl 1 rfl) ?_
  refine lv_aload_n hx hb d_law_228 rfl (lv_at hl 0 rfl) ?_
  refine lv_iload hx hb d_law_229 (lv_at hl 4 rfl) ?_
  refine lv_iconst (v := 1) hx hb d_law_231 (by decide) ?_
  refine lv_iadd hx hb d_law_232 ?_
  refine lv_topi (fun v_1 ev_1 => ?_)
  have qv_1 := z_idx (k := 1) hi hL ev_1 li_1 (by decide)
  refine va_sld hx hb hX hbl hbA hS (i := v_1) qv_1 d_law_233 ?_
  refine lv_topi (fun v_2 ev_2 => ?_)
  obtain ⟨fs_3, hat_4⟩ := XS_at hx0
  refine z_callV (index := 34) (As := [.int v_2]) (rest := []) (wr := []) Z ((x_drop l G xX xText xNow xRead xPast xKept xTree xFol xMs xTree2 xMa2 xRun xRan xWo xPa xCo xPr xOd xFi xM0 xM1 xM2 xM3 (v_2) (tn) (sg) (s0) (s1) (pn) (pc) (P) (K0) (K1) (Rd) (n) (d) (mg) (L) (F) (V) x0 hx0).mid [(zo, .inl (G.2 1, 1, .inr (.inl f0)))] (zap m0 [])) hl.1 q532 q533 q534 q1 q535 ⟨by decide, by decide, by show _ = some 1; decide +kernel⟩ ⟨Nat.le_of_ble_eq_true rfl, Nat.le_of_ble_eq_true rfl⟩ (show cells + 0 ≤ 601024 ∧ slots + 0 ≤ 7293034 from ⟨by omega, by omega⟩) rfl (Nat.le_of_ble_eq_true rfl) d_law_234 hP hD hS hA 1 0 (zw_at1 (a := [(zo, .inl (G.2 1, 1, .inr (.inl f0)))]) (b := zap m0 []) hat_4) rfl rfl (List.range _) [] (zw_range _) rfl (zw_nd _) rfl (by intro i h9; cases h9) (fun v w1 H locs hw_5 hP hD hS => ?_)
  obtain ⟨w_16, ⟨x_6, x_7, x_8, x_9, x_10, x_11, x_12, x_13, x_14, x_15, rfl, hx_17, hf_18⟩, rfl⟩ := hw_5
  have hP : va_P G.1 classes (zap [(zo, .inl (G.2 1, 1, .inr (.inl f0)))] (zap w_16 (zap m0 []))) H := hP
  have hD : va_D (fun q : Nat => s.heap.size ≤ q) (zap [(zo, .inl (G.2 1, 1, .inr (.inl f0)))] (zap w_16 (zap m0 []))) := hD
  refine W.widen (k := cells + 0) (n := slots + 0) (show cells + 0 ≤ cells + 0 from Nat.le_refl _) (show slots + 0 ≤ slots + 0 from Nat.le_refl _) ?_
  refine lv_aload_n hx hb d_law_237 rfl (lv_at hl 2 rfl) ?_
  refine lv_aload_n hx hb d_law_238 rfl (lv_at hl 0 rfl) ?_
  refine lv_iload hx hb d_law_239 (lv_at hl 4 rfl) ?_
  refine lv_iconst (v := 1) hx hb d_law_241 (by decide) ?_
  refine lv_iadd hx hb d_law_242 ?_
  refine lv_topi (fun v_19 ev_19 => ?_)
  have qv_19 := z_idx (k := 1) hi hL ev_19 li_1 (by decide)
  refine va_sld hx hb hX hbl hbA hS (i := v_19) qv_19 d_law_243 ?_
  refine lv_topi (fun v_20 ev_20 => ?_)
  obtain ⟨fs_21, hat_22⟩ := zb_Mo_at hm0
  refine z_callV (index := 37) (As := [.int v_20]) (rest := [.int x_6]) (wr := []) Z ((m_drop l G mA (v_20)  (nu0) (xt0) (ro0) (ke0) (ik0) (un0) (tb0) m0 hm0).mid2 [(zo, .inl (G.2 1, 1, .inr (.inl f0)))] w_16 []) hl.1 q1324 q1325 q1326 q14 q1327 ⟨by decide, by decide, by show _ = some 1; decide +kernel⟩ ⟨Nat.le_of_ble_eq_true rfl, Nat.le_of_ble_eq_true rfl⟩ (show cells + 0 ≤ 601024 ∧ slots + 0 ≤ 7293034 from ⟨by omega, by omega⟩) rfl (Nat.le_of_ble_eq_true rfl) d_law_244 hP hD hS hA _ 12 (zw_at2 (a := [(zo, .inl (G.2 1, 1, .inr (.inl f0)))]) (x := w_16) (b := []) hat_22) rfl rfl (List.range _) [] (zw_range _) rfl (zw_nd _) rfl (by intro i h9; cases h9) (fun v w1 H locs hw_23 hP hD hS => ?_)
  obtain ⟨w_25, ⟨nu_28, ro_29, un_30, x_24, ⟨rfl, hf_27⟩, hm_26⟩, rfl⟩ := hw_23
  have hP : va_P G.1 classes (zap [(zo, .inl (G.2 1, 1, .inr (.inl f0)))] (zap w_16 (zap w_25 []))) H := hP
  have hD : va_D (fun q : Nat => s.heap.size ≤ q) (zap [(zo, .inl (G.2 1, 1, .inr (.inl f0)))] (zap w_16 (zap w_25 []))) := hD
  refine W.widen (k := cells + 0) (n := slots + 0) (show cells + 0 ≤ cells + 0 from Nat.le_refl _) (show slots + 0 ≤ slots + 0 from Nat.le_refl _) ?_
  have hq9 : (x_6 : Int32).toInt = (x_24 : Int32).toInt ∧ zRL (tn) (sg) (s0) (s1) (x_7) (x_8) (x_9) (K0) (K1) (zrow (x_10) (x_11) (x_12) (x_13) (x_14) (x_15)) (xt0) (tb0) (ik0) (ro_29) (un_30) (ke0) (nu_28) := zRL_drop hR0 (zb_Mo_w hm0).1 (zb_Mo_w hm0).2.1 (ev_2.trans ((congrArg (fun z : Int32 => xs z.toNatClampNeg) (ev_1.trans ev_19.symm)).trans ev_20.symm)) rfl hf_18 hf_27
  refine lv_icmp_eq (tgt := 1067) hx hb d_law_247 (by decide) (fun _ => ?_) (fun hc => (hc ((fa_eq _ _).mpr hq9.1)).elim)
  refine W.widen (k := cells + 5) (n := slots + 520) (by omega) (by omega) ?_
  exact kk _ _ _ _ _ _ _ _ _ _ _ _ _ _ _ _ _ _ _ _ _ _ _ _ _ _ _ _ _ hx_17 hm_26 (hq9.2) hP hD hS (lv_sub hl [0, 1, 2, 3, 4] rfl)
set_option maxHeartbeats 4000000 in
set_option maxRecDepth 100000 in
theorem law_4 {p : Program} {e : Env} {s : State} {m : MethodId} {below : List Frame} {meth : Method} {c : Code} (l : Launch) {b L : Nat} {xs : Nat → Int32} {G : zG} (hL : L ≤ 2560) (Z : zC p s m #[Value.ref b] meth c code 7 "TraceMachinesLaw" G) (hr : meth.sig.returnType = ret) (hX : va_X b L xs s s.heap) (hbl : b < s.heap.size)  {i : Int32} {cells slots : Nat} (hroom : cells + 5 ≤ 601024 ∧ slots + 520 ≤ 7293034) (hi : 0 ≤ i.toInt ∧ i.toInt + 5 ≤ (L : Int)) {xX xText xNow xRead xPast xKept xTree xFol xMs xTree2 xMa2 xRun xRan xWo xPa xCo xPr xOd xFi xM0 xM1 xM2 xM3 mA zo : Nat} {tn : Int32} {sg : Nat → Int32} {s0 : Bool} {s1 : Bool} {pn : Int32} {pc : Int32} {P : Nat → Nat → Int32} {K0 : Nat → Int32} {K1 : Nat → Int32} {Rd : Nat → Int32} {n : Int32} {d : Int32} {mg : Int32} {L : Nat → Int32} {F : Nat → Int32} {V : Nat → Int32} {f0 : Nat → Int64} {x0 m0 : va_W} {nu0 : Int32} {xt0 : Int32} {ro0 : Nat → Int32} {ke0 : Nat → Int32} {ik0 : Nat → Int32} {un0 : Nat → Int32} {tb0 : Nat → Int32} {H : Heap} {locs : List Loc} {ls : Array Slot} (hx0 : XS G xX xText xNow xRead xPast xKept xTree xFol xMs xTree2 xMa2 xRun xRan xWo xPa xCo xPr xOd xFi xM0 xM1 xM2 xM3 True tn sg s0 s1 pn pc P K0 K1 Rd n d mg L F V x0) (hm0 : zb_Mo G mA nu0 xt0 ro0 ke0 ik0 un0 tb0 m0) (hR0 : zRL (tn) (sg) (s0) (s1) (pn) (pc) (P) (K0) (K1) (zrow (n) (d) (mg) (L) (F) (V)) (xt0) (tb0) (ik0) (ro0) (un0) (ke0) (nu0)) (hP : va_P G.1 classes (zap [(zo, .inl (G.2 1, 1, .inr (.inl f0)))] (zap x0 (zap m0 []))) H) (hD : va_D (fun q : Nat => s.heap.size ≤ q) (zap [(zo, .inl (G.2 1, 1, .inr (.inl f0)))] (zap x0 (zap m0 [])))) (hS : va_S (fun q : Nat => s.heap.size ≤ q) s.heap H locs) (hl : lv_has ls 7 [(0, .ref b), (1, .ref xX), (2, .ref mA), (3, .ref zo), (4, .int i)]) (kk : ∀ (f1 : Nat → Int64) (x1 m1 : va_W) (nu_1 : Int32) (xt_1 : Int32) (ro_1 : Nat → Int32) (ke_1 : Nat → Int32) (ik_1 : Nat → Int32) (un_1 : Nat → Int32) (tb_1 : Nat → Int32) (tn_1 : Int32) (sg_1 : Nat → Int32) (s0_1 : Bool) (s1_1 : Bool) (pn_1 : Int32) (pc_1 : Int32) (P_1 : Nat → Nat → Int32) (K0_1 : Nat → Int32) (K1_1 : Nat → Int32) (Rd_1 : Nat → Int32) (n_1 : Int32) (d_1 : Int32) (mg_1 : Int32) (L_1 : Nat → Int32) (F_1 : Nat → Int32) (V_1 : Nat → Int32) (H : Heap) (locs : List Loc) (ls : Array Slot), XS G xX xText xNow xRead xPast xKept xTree xFol xMs xTree2 xMa2 xRun xRan xWo xPa xCo xPr xOd xFi xM0 xM1 xM2 xM3 True tn_1 sg_1 s0_1 s1_1 pn_1 pc_1 P_1 K0_1 K1_1 Rd_1 n_1 d_1 mg_1 L_1 F_1 V_1 x1 → zb_Mo G mA nu_1 xt_1 ro_1 ke_1 ik_1 un_1 tb_1 m1 → zRL (tn_1) (sg_1) (s0_1) (s1_1) (pn_1) (pc_1) (P_1) (K0_1) (K1_1) (zrow (n_1) (d_1) (mg_1) (L_1) (F_1) (V_1)) (xt_1) (tb_1) (ik_1) (ro_1) (un_1) (ke_1) (nu_1) → va_P G.1 classes (zap [(zo, .inl (G.2 1, 1, .inr (.inl f1)))] (zap x1 (zap m1 []))) H → va_D (fun q : Nat => s.heap.size ≤ q) (zap [(zo, .inl (G.2 1, 1, .inr (.inl f1)))] (zap x1 (zap m1 []))) → va_S (fun q : Nat => s.heap.size ≤ q) s.heap H locs → lv_has ls 7 [(0, .ref b), (1, .ref xX), (2, .ref mA), (3, .ref zo), (4, .int i)] → W p l e room_1 s m #[Value.ref b] below meth c H locs (cells + 5) (slots + 520) (lw_Z below #[Value.ref b] s) (F0 m 1067 ls [])) : W p l e room_1 s m #[Value.ref b] below meth c H locs cells slots (lw_Z below #[Value.ref b] s) (F0 m 252 ls []) := by
  obtain ⟨hx, hb, hml, hown, hts, hK, hN, hlocks⟩ := id Z
  have hbA : ¬ (fun q : Nat => s.heap.size ≤ q) b := Nat.not_le.mpr hbl
  have hA : ∀ q : Nat, s.heap.size ≤ q → (fun q : Nat => s.heap.size ≤ q) q := fun _ h => h
  refine lv_aload_n hx hb d_law_252 rfl (lv_at hl 1 rfl) ?_
  refine lv_aload_n hx hb d_law_253 rfl (lv_at hl 0 rfl) ?_
  refine lv_iload hx hb d_law_254 (lv_at hl 4 rfl) ?_
  refine lv_iconst (v := 1) hx hb d_law_256 (by decide) ?_
  refine lv_iadd hx hb d_law_257 ?_
  refine lv_topi (fun v_1 ev_1 => ?_)
  have qv_1 := z_idx (k := 1) hi hL ev_1 li_1 (by decide)
  refine va_sld hx hb hX hbl hbA hS (i := v_1) qv_1 d_law_258 ?_
  refine lv_topi (fun v_2 ev_2 => ?_)
  obtain ⟨fs_3, hat_4⟩ := XS_at hx0
  refine z_callV (index := 38) (As := [.int v_2]) (rest := []) (wr := []) Z ((x_depth l G xX xText xNow xRead xPast xKept xTree xFol xMs xTree2 xMa2 xRun xRan xWo xPa xCo xPr xOd xFi xM0 xM1 xM2 xM3 (v_2) (tn) (sg) (s0) (s1) (pn) (pc) (P) (K0) (K1) (Rd) (n) (d) (mg) (L) (F) (V) x0 hx0).mid [(zo, .inl (G.2 1, 1, .inr (.inl f0)))] (zap m0 [])) hl.1 q544 q545 q546 q1 q547 ⟨by decide, by decide, by show _ = some 1; decide +kernel⟩ ⟨Nat.le_of_ble_eq_true rfl, Nat.le_of_ble_eq_true rfl⟩ (show cells + 0 ≤ 601024 ∧ slots + 0 ≤ 7293034 from ⟨by omega, by omega⟩) rfl (Nat.le_of_ble_eq_true rfl) d_law_259 hP hD hS hA 1 0 (zw_at1 (a := [(zo, .inl (G.2 1, 1, .inr (.inl f0)))]) (b := zap m0 []) hat_4) rfl rfl (List.range _) [] (zw_range _) rfl (zw_nd _) rfl (by intro i h9; cases h9) (fun v w1 H locs hw_5 hP hD hS => ?_)
  obtain ⟨w_16, ⟨x_6, x_7, x_8, x_9, x_10, x_11, x_12, x_13, x_14, x_15, rfl, hx_17, hf_18⟩, rfl⟩ := hw_5
  have hP : va_P G.1 classes (zap [(zo, .inl (G.2 1, 1, .inr (.inl f0)))] (zap w_16 (zap m0 []))) H := hP
  have hD : va_D (fun q : Nat => s.heap.size ≤ q) (zap [(zo, .inl (G.2 1, 1, .inr (.inl f0)))] (zap w_16 (zap m0 []))) := hD
  refine W.widen (k := cells + 0) (n := slots + 0) (show cells + 0 ≤ cells + 0 from Nat.le_refl _) (show slots + 0 ≤ slots + 0 from Nat.le_refl _) ?_
  refine lv_pop hx hb d_law_262 rfl ?_
  refine lv_aload_n hx hb d_law_263 rfl (lv_at hl 2 rfl) ?_
  refine lv_aload_n hx hb d_law_264 rfl (lv_at hl 0 rfl) ?_
  refine lv_iload hx hb d_law_265 (lv_at hl 4 rfl) ?_
  refine lv_iconst (v := 1) hx hb d_law_267 (by decide) ?_
  refine lv_iadd hx hb d_law_268 ?_
  refine lv_topi (fun v_19 ev_19 => ?_)
  have qv_19 := z_idx (k := 1) hi hL ev_19 li_1 (by decide)
  refine va_sld hx hb hX hbl hbA hS (i := v_19) qv_19 d_law_269 ?_
  refine lv_topi (fun v_20 ev_20 => ?_)
  obtain ⟨fs_21, hat_22⟩ := zb_Mo_at hm0
  refine z_callV (index := 41) (As := [.int v_20]) (rest := []) (wr := []) Z ((m_depth l G mA (v_20)  (nu0) (xt0) (ro0) (ke0) (ik0) (un0) (tb0) m0 hm0).mid2 [(zo, .inl (G.2 1, 1, .inr (.inl f0)))] w_16 []) hl.1 q1332 q1333 q1334 q14 q1335 ⟨by decide, by decide, by show _ = some 1; decide +kernel⟩ ⟨Nat.le_of_ble_eq_true rfl, Nat.le_of_ble_eq_true rfl⟩ (show cells + 0 ≤ 601024 ∧ slots + 0 ≤ 7293034 from ⟨by omega, by omega⟩) rfl (Nat.le_of_ble_eq_true rfl) d_law_270 hP hD hS hA _ 12 (zw_at2 (a := [(zo, .inl (G.2 1, 1, .inr (.inl f0)))]) (x := w_16) (b := []) hat_22) rfl rfl (List.range _) [] (zw_range _) rfl (zw_nd _) rfl (by intro i h9; cases h9) (fun v w1 H locs hw_23 hP hD hS => ?_)
  obtain ⟨w_25, ⟨nu_28, ro_29, un_30, x_24, ⟨rfl, hf_27⟩, hm_26⟩, rfl⟩ := hw_23
  have hP : va_P G.1 classes (zap [(zo, .inl (G.2 1, 1, .inr (.inl f0)))] (zap w_16 (zap w_25 []))) H := hP
  have hD : va_D (fun q : Nat => s.heap.size ≤ q) (zap [(zo, .inl (G.2 1, 1, .inr (.inl f0)))] (zap w_16 (zap w_25 []))) := hD
  refine W.widen (k := cells + 0) (n := slots + 0) (show cells + 0 ≤ cells + 0 from Nat.le_refl _) (show slots + 0 ≤ slots + 0 from Nat.le_refl _) ?_
  have hq9 : (x_6 : Int32).toInt = (x_24 : Int32).toInt ∧ zRL (tn) (sg) (s0) (s1) (x_7) (x_8) (x_9) (K0) (K1) (zrow (x_10) (x_11) (x_12) (x_13) (x_14) (x_15)) (xt0) (tb0) (ik0) (ro_29) (un_30) (ke0) (nu_28) := zRL_set (at_ := 501) (hi := 3) hR0 (zb_Mo_w hm0).1 (zb_Mo_w hm0).2.1 (ev_2.trans ((congrArg (fun z : Int32 => xs z.toNatClampNeg) (ev_1.trans ev_19.symm)).trans ev_20.symm)) (Or.inl rfl) hf_18 hf_27
  refine lv_pop hx hb d_law_273 rfl ?_
  refine lv_goto (tgt := 1067) hx hb d_law_274 (by decide) ?_
  refine W.widen (k := cells + 5) (n := slots + 520) (by omega) (by omega) ?_
  exact kk _ _ _ _ _ _ _ _ _ _ _ _ _ _ _ _ _ _ _ _ _ _ _ _ _ _ _ _ _ hx_17 hm_26 (hq9.2) hP hD hS (lv_sub hl [0, 1, 2, 3, 4] rfl)
set_option maxHeartbeats 4000000 in
set_option maxRecDepth 100000 in
theorem law_5 {p : Program} {e : Env} {s : State} {m : MethodId} {below : List Frame} {meth : Method} {c : Code} (l : Launch) {b L : Nat} {xs : Nat → Int32} {G : zG} (hL : L ≤ 2560) (Z : zC p s m #[Value.ref b] meth c code 7 "TraceMachinesLaw" G) (hr : meth.sig.returnType = ret) (hX : va_X b L xs s s.heap) (hbl : b < s.heap.size)  {i : Int32} {cells slots : Nat} (hroom : cells + 5 ≤ 601024 ∧ slots + 520 ≤ 7293034) (hi : 0 ≤ i.toInt ∧ i.toInt + 5 ≤ (L : Int)) {xX xText xNow xRead xPast xKept xTree xFol xMs xTree2 xMa2 xRun xRan xWo xPa xCo xPr xOd xFi xM0 xM1 xM2 xM3 mA zo : Nat} {tn : Int32} {sg : Nat → Int32} {s0 : Bool} {s1 : Bool} {pn : Int32} {pc : Int32} {P : Nat → Nat → Int32} {K0 : Nat → Int32} {K1 : Nat → Int32} {Rd : Nat → Int32} {n : Int32} {d : Int32} {mg : Int32} {L : Nat → Int32} {F : Nat → Int32} {V : Nat → Int32} {f0 : Nat → Int64} {x0 m0 : va_W} {nu0 : Int32} {xt0 : Int32} {ro0 : Nat → Int32} {ke0 : Nat → Int32} {ik0 : Nat → Int32} {un0 : Nat → Int32} {tb0 : Nat → Int32} {H : Heap} {locs : List Loc} {ls : Array Slot} (hx0 : XS G xX xText xNow xRead xPast xKept xTree xFol xMs xTree2 xMa2 xRun xRan xWo xPa xCo xPr xOd xFi xM0 xM1 xM2 xM3 True tn sg s0 s1 pn pc P K0 K1 Rd n d mg L F V x0) (hm0 : zb_Mo G mA nu0 xt0 ro0 ke0 ik0 un0 tb0 m0) (hR0 : zRL (tn) (sg) (s0) (s1) (pn) (pc) (P) (K0) (K1) (zrow (n) (d) (mg) (L) (F) (V)) (xt0) (tb0) (ik0) (ro0) (un0) (ke0) (nu0)) (hP : va_P G.1 classes (zap [(zo, .inl (G.2 1, 1, .inr (.inl f0)))] (zap x0 (zap m0 []))) H) (hD : va_D (fun q : Nat => s.heap.size ≤ q) (zap [(zo, .inl (G.2 1, 1, .inr (.inl f0)))] (zap x0 (zap m0 [])))) (hS : va_S (fun q : Nat => s.heap.size ≤ q) s.heap H locs) (hl : lv_has ls 7 [(0, .ref b), (1, .ref xX), (2, .ref mA), (3, .ref zo), (4, .int i)]) (kk : ∀ (f1 : Nat → Int64) (x1 m1 : va_W) (nu_1 : Int32) (xt_1 : Int32) (ro_1 : Nat → Int32) (ke_1 : Nat → Int32) (ik_1 : Nat → Int32) (un_1 : Nat → Int32) (tb_1 : Nat → Int32) (tn_1 : Int32) (sg_1 : Nat → Int32) (s0_1 : Bool) (s1_1 : Bool) (pn_1 : Int32) (pc_1 : Int32) (P_1 : Nat → Nat → Int32) (K0_1 : Nat → Int32) (K1_1 : Nat → Int32) (Rd_1 : Nat → Int32) (n_1 : Int32) (d_1 : Int32) (mg_1 : Int32) (L_1 : Nat → Int32) (F_1 : Nat → Int32) (V_1 : Nat → Int32) (H : Heap) (locs : List Loc) (ls : Array Slot), XS G xX xText xNow xRead xPast xKept xTree xFol xMs xTree2 xMa2 xRun xRan xWo xPa xCo xPr xOd xFi xM0 xM1 xM2 xM3 True tn_1 sg_1 s0_1 s1_1 pn_1 pc_1 P_1 K0_1 K1_1 Rd_1 n_1 d_1 mg_1 L_1 F_1 V_1 x1 → zb_Mo G mA nu_1 xt_1 ro_1 ke_1 ik_1 un_1 tb_1 m1 → zRL (tn_1) (sg_1) (s0_1) (s1_1) (pn_1) (pc_1) (P_1) (K0_1) (K1_1) (zrow (n_1) (d_1) (mg_1) (L_1) (F_1) (V_1)) (xt_1) (tb_1) (ik_1) (ro_1) (un_1) (ke_1) (nu_1) → va_P G.1 classes (zap [(zo, .inl (G.2 1, 1, .inr (.inl f1)))] (zap x1 (zap m1 []))) H → va_D (fun q : Nat => s.heap.size ≤ q) (zap [(zo, .inl (G.2 1, 1, .inr (.inl f1)))] (zap x1 (zap m1 []))) → va_S (fun q : Nat => s.heap.size ≤ q) s.heap H locs → lv_has ls 7 [(0, .ref b), (1, .ref xX), (2, .ref mA), (3, .ref zo), (4, .int i)] → W p l e room_1 s m #[Value.ref b] below meth c H locs (cells + 5) (slots + 520) (lw_Z below #[Value.ref b] s) (F0 m 1067 ls [])) : W p l e room_1 s m #[Value.ref b] below meth c H locs cells slots (lw_Z below #[Value.ref b] s) (F0 m 277 ls []) := by
  obtain ⟨hx, hb, hml, hown, hts, hK, hN, hlocks⟩ := id Z
  have hbA : ¬ (fun q : Nat => s.heap.size ≤ q) b := Nat.not_le.mpr hbl
  have hA : ∀ q : Nat, s.heap.size ≤ q → (fun q : Nat => s.heap.size ≤ q) q := fun _ h => h
  refine lv_aload_n hx hb d_law_277 rfl (lv_at hl 1 rfl) ?_
  refine lv_aload_n hx hb d_law_278 rfl (lv_at hl 0 rfl) ?_
  refine lv_iload hx hb d_law_279 (lv_at hl 4 rfl) ?_
  refine lv_iconst (v := 1) hx hb d_law_281 (by decide) ?_
  refine lv_iadd hx hb d_law_282 ?_
  refine lv_topi (fun v_1 ev_1 => ?_)
  have qv_1 := z_idx (k := 1) hi hL ev_1 li_1 (by decide)
  refine va_sld hx hb hX hbl hbA hS (i := v_1) qv_1 d_law_283 ?_
  refine lv_topi (fun v_2 ev_2 => ?_)
  obtain ⟨fs_3, hat_4⟩ := XS_at hx0
  refine z_callV (index := 42) (As := [.int v_2]) (rest := []) (wr := []) Z ((x_margin l G xX xText xNow xRead xPast xKept xTree xFol xMs xTree2 xMa2 xRun xRan xWo xPa xCo xPr xOd xFi xM0 xM1 xM2 xM3 (v_2) (tn) (sg) (s0) (s1) (pn) (pc) (P) (K0) (K1) (Rd) (n) (d) (mg) (L) (F) (V) x0 hx0).mid [(zo, .inl (G.2 1, 1, .inr (.inl f0)))] (zap m0 [])) hl.1 q551 q552 q553 q1 q554 ⟨by decide, by decide, by show _ = some 1; decide +kernel⟩ ⟨Nat.le_of_ble_eq_true rfl, Nat.le_of_ble_eq_true rfl⟩ (show cells + 0 ≤ 601024 ∧ slots + 0 ≤ 7293034 from ⟨by omega, by omega⟩) rfl (Nat.le_of_ble_eq_true rfl) d_law_284 hP hD hS hA 1 0 (zw_at1 (a := [(zo, .inl (G.2 1, 1, .inr (.inl f0)))]) (b := zap m0 []) hat_4) rfl rfl (List.range _) [] (zw_range _) rfl (zw_nd _) rfl (by intro i h9; cases h9) (fun v w1 H locs hw_5 hP hD hS => ?_)
  obtain ⟨w_16, ⟨x_6, x_7, x_8, x_9, x_10, x_11, x_12, x_13, x_14, x_15, rfl, hx_17, hf_18⟩, rfl⟩ := hw_5
  have hP : va_P G.1 classes (zap [(zo, .inl (G.2 1, 1, .inr (.inl f0)))] (zap w_16 (zap m0 []))) H := hP
  have hD : va_D (fun q : Nat => s.heap.size ≤ q) (zap [(zo, .inl (G.2 1, 1, .inr (.inl f0)))] (zap w_16 (zap m0 []))) := hD
  refine W.widen (k := cells + 0) (n := slots + 0) (show cells + 0 ≤ cells + 0 from Nat.le_refl _) (show slots + 0 ≤ slots + 0 from Nat.le_refl _) ?_
  refine lv_pop hx hb d_law_287 rfl ?_
  refine lv_aload_n hx hb d_law_288 rfl (lv_at hl 2 rfl) ?_
  refine lv_aload_n hx hb d_law_289 rfl (lv_at hl 0 rfl) ?_
  refine lv_iload hx hb d_law_290 (lv_at hl 4 rfl) ?_
  refine lv_iconst (v := 1) hx hb d_law_292 (by decide) ?_
  refine lv_iadd hx hb d_law_293 ?_
  refine lv_topi (fun v_19 ev_19 => ?_)
  have qv_19 := z_idx (k := 1) hi hL ev_19 li_1 (by decide)
  refine va_sld hx hb hX hbl hbA hS (i := v_19) qv_19 d_law_294 ?_
  refine lv_topi (fun v_20 ev_20 => ?_)
  obtain ⟨fs_21, hat_22⟩ := zb_Mo_at hm0
  refine z_callV (index := 45) (As := [.int v_20]) (rest := []) (wr := []) Z ((m_margin l G mA (v_20)  (nu0) (xt0) (ro0) (ke0) (ik0) (un0) (tb0) m0 hm0).mid2 [(zo, .inl (G.2 1, 1, .inr (.inl f0)))] w_16 []) hl.1 q1340 q1341 q1342 q14 q1343 ⟨by decide, by decide, by show _ = some 1; decide +kernel⟩ ⟨Nat.le_of_ble_eq_true rfl, Nat.le_of_ble_eq_true rfl⟩ (show cells + 0 ≤ 601024 ∧ slots + 0 ≤ 7293034 from ⟨by omega, by omega⟩) rfl (Nat.le_of_ble_eq_true rfl) d_law_295 hP hD hS hA _ 12 (zw_at2 (a := [(zo, .inl (G.2 1, 1, .inr (.inl f0)))]) (x := w_16) (b := []) hat_22) rfl rfl (List.range _) [] (zw_range _) rfl (zw_nd _) rfl (by intro i h9; cases h9) (fun v w1 H locs hw_23 hP hD hS => ?_)
  obtain ⟨w_25, ⟨nu_28, ro_29, un_30, x_24, ⟨rfl, hf_27⟩, hm_26⟩, rfl⟩ := hw_23
  have hP : va_P G.1 classes (zap [(zo, .inl (G.2 1, 1, .inr (.inl f0)))] (zap w_16 (zap w_25 []))) H := hP
  have hD : va_D (fun q : Nat => s.heap.size ≤ q) (zap [(zo, .inl (G.2 1, 1, .inr (.inl f0)))] (zap w_16 (zap w_25 []))) := hD
  refine W.widen (k := cells + 0) (n := slots + 0) (show cells + 0 ≤ cells + 0 from Nat.le_refl _) (show slots + 0 ≤ slots + 0 from Nat.le_refl _) ?_
  have hq9 : (x_6 : Int32).toInt = (x_24 : Int32).toInt ∧ zRL (tn) (sg) (s0) (s1) (x_7) (x_8) (x_9) (K0) (K1) (zrow (x_10) (x_11) (x_12) (x_13) (x_14) (x_15)) (xt0) (tb0) (ik0) (ro_29) (un_30) (ke0) (nu_28) := zRL_set (at_ := 502) (hi := 20) hR0 (zb_Mo_w hm0).1 (zb_Mo_w hm0).2.1 (ev_2.trans ((congrArg (fun z : Int32 => xs z.toNatClampNeg) (ev_1.trans ev_19.symm)).trans ev_20.symm)) (Or.inr rfl) hf_18 hf_27
  refine lv_pop hx hb d_law_298 rfl ?_
  refine lv_goto (tgt := 1067) hx hb d_law_299 (by decide) ?_
  refine W.widen (k := cells + 5) (n := slots + 520) (by omega) (by omega) ?_
  exact kk _ _ _ _ _ _ _ _ _ _ _ _ _ _ _ _ _ _ _ _ _ _ _ _ _ _ _ _ _ hx_17 hm_26 (hq9.2) hP hD hS (lv_sub hl [0, 1, 2, 3, 4] rfl)
set_option maxHeartbeats 4000000 in
set_option maxRecDepth 100000 in
theorem law_6 {p : Program} {e : Env} {s : State} {m : MethodId} {below : List Frame} {meth : Method} {c : Code} (l : Launch) {b L : Nat} {xs : Nat → Int32} {G : zG} (hL : L ≤ 2560) (Z : zC p s m #[Value.ref b] meth c code 7 "TraceMachinesLaw" G) (hr : meth.sig.returnType = ret) (hX : va_X b L xs s s.heap) (hbl : b < s.heap.size)  {i : Int32} {cells slots : Nat} (hroom : cells + 5 ≤ 601024 ∧ slots + 520 ≤ 7293034) (hi : 0 ≤ i.toInt ∧ i.toInt + 5 ≤ (L : Int)) {xX xText xNow xRead xPast xKept xTree xFol xMs xTree2 xMa2 xRun xRan xWo xPa xCo xPr xOd xFi xM0 xM1 xM2 xM3 mA zo : Nat} {tn : Int32} {sg : Nat → Int32} {s0 : Bool} {s1 : Bool} {pn : Int32} {pc : Int32} {P : Nat → Nat → Int32} {K0 : Nat → Int32} {K1 : Nat → Int32} {Rd : Nat → Int32} {n : Int32} {d : Int32} {mg : Int32} {L : Nat → Int32} {F : Nat → Int32} {V : Nat → Int32} {f0 : Nat → Int64} {x0 m0 : va_W} {nu0 : Int32} {xt0 : Int32} {ro0 : Nat → Int32} {ke0 : Nat → Int32} {ik0 : Nat → Int32} {un0 : Nat → Int32} {tb0 : Nat → Int32} {H : Heap} {locs : List Loc} {ls : Array Slot} (hx0 : XS G xX xText xNow xRead xPast xKept xTree xFol xMs xTree2 xMa2 xRun xRan xWo xPa xCo xPr xOd xFi xM0 xM1 xM2 xM3 True tn sg s0 s1 pn pc P K0 K1 Rd n d mg L F V x0) (hm0 : zb_Mo G mA nu0 xt0 ro0 ke0 ik0 un0 tb0 m0) (hR0 : zRL (tn) (sg) (s0) (s1) (pn) (pc) (P) (K0) (K1) (zrow (n) (d) (mg) (L) (F) (V)) (xt0) (tb0) (ik0) (ro0) (un0) (ke0) (nu0)) (hP : va_P G.1 classes (zap [(zo, .inl (G.2 1, 1, .inr (.inl f0)))] (zap x0 (zap m0 []))) H) (hD : va_D (fun q : Nat => s.heap.size ≤ q) (zap [(zo, .inl (G.2 1, 1, .inr (.inl f0)))] (zap x0 (zap m0 [])))) (hS : va_S (fun q : Nat => s.heap.size ≤ q) s.heap H locs) (hl : lv_has ls 7 [(0, .ref b), (1, .ref xX), (2, .ref mA), (3, .ref zo), (4, .int i)]) (kk : ∀ (f1 : Nat → Int64) (x1 m1 : va_W) (nu_1 : Int32) (xt_1 : Int32) (ro_1 : Nat → Int32) (ke_1 : Nat → Int32) (ik_1 : Nat → Int32) (un_1 : Nat → Int32) (tb_1 : Nat → Int32) (tn_1 : Int32) (sg_1 : Nat → Int32) (s0_1 : Bool) (s1_1 : Bool) (pn_1 : Int32) (pc_1 : Int32) (P_1 : Nat → Nat → Int32) (K0_1 : Nat → Int32) (K1_1 : Nat → Int32) (Rd_1 : Nat → Int32) (n_1 : Int32) (d_1 : Int32) (mg_1 : Int32) (L_1 : Nat → Int32) (F_1 : Nat → Int32) (V_1 : Nat → Int32) (H : Heap) (locs : List Loc) (ls : Array Slot), XS G xX xText xNow xRead xPast xKept xTree xFol xMs xTree2 xMa2 xRun xRan xWo xPa xCo xPr xOd xFi xM0 xM1 xM2 xM3 True tn_1 sg_1 s0_1 s1_1 pn_1 pc_1 P_1 K0_1 K1_1 Rd_1 n_1 d_1 mg_1 L_1 F_1 V_1 x1 → zb_Mo G mA nu_1 xt_1 ro_1 ke_1 ik_1 un_1 tb_1 m1 → zRL (tn_1) (sg_1) (s0_1) (s1_1) (pn_1) (pc_1) (P_1) (K0_1) (K1_1) (zrow (n_1) (d_1) (mg_1) (L_1) (F_1) (V_1)) (xt_1) (tb_1) (ik_1) (ro_1) (un_1) (ke_1) (nu_1) → va_P G.1 classes (zap [(zo, .inl (G.2 1, 1, .inr (.inl f1)))] (zap x1 (zap m1 []))) H → va_D (fun q : Nat => s.heap.size ≤ q) (zap [(zo, .inl (G.2 1, 1, .inr (.inl f1)))] (zap x1 (zap m1 []))) → va_S (fun q : Nat => s.heap.size ≤ q) s.heap H locs → lv_has ls 7 [(0, .ref b), (1, .ref xX), (2, .ref mA), (3, .ref zo), (4, .int i)] → W p l e room_1 s m #[Value.ref b] below meth c H locs (cells + 5) (slots + 520) (lw_Z below #[Value.ref b] s) (F0 m 1067 ls [])) : W p l e room_1 s m #[Value.ref b] below meth c H locs cells slots (lw_Z below #[Value.ref b] s) (F0 m 302 ls []) := by
  obtain ⟨hx, hb, hml, hown, hts, hK, hN, hlocks⟩ := id Z
  have hbA : ¬ (fun q : Nat => s.heap.size ≤ q) b := Nat.not_le.mpr hbl
  have hA : ∀ q : Nat, s.heap.size ≤ q → (fun q : Nat => s.heap.size ≤ q) q := fun _ h => h
  refine lv_aload_n hx hb d_law_302 rfl (lv_at hl 1 rfl) ?_
  obtain ⟨fs_1, hat_2⟩ := XS_at hx0
  refine z_callV (index := 46) (As := []) (rest := []) (wr := []) Z ((x_undo l G xX xText xNow xRead xPast xKept xTree xFol xMs xTree2 xMa2 xRun xRan xWo xPa xCo xPr xOd xFi xM0 xM1 xM2 xM3 (tn) (sg) (s0) (s1) (pn) (pc) (P) (K0) (K1) (Rd) (n) (d) (mg) (L) (F) (V) x0 hx0).mid [(zo, .inl (G.2 1, 1, .inr (.inl f0)))] (zap m0 [])) hl.1 q555 q556 q557 q1 q558 ⟨by decide, by decide, by show _ = some 0; decide +kernel⟩ ⟨Nat.le_of_ble_eq_true rfl, Nat.le_of_ble_eq_true rfl⟩ (show cells + 0 ≤ 601024 ∧ slots + 0 ≤ 7293034 from ⟨by omega, by omega⟩) rfl (Nat.le_of_ble_eq_true rfl) d_law_303 hP hD hS hA 1 0 (zw_at1 (a := [(zo, .inl (G.2 1, 1, .inr (.inl f0)))]) (b := zap m0 []) hat_2) rfl rfl (List.range _) [] (zw_range _) rfl (zw_nd _) rfl (by intro i h9; cases h9) (fun v w1 H locs hw_3 hP hD hS => ?_)
  obtain ⟨w_13, ⟨x_4, x_5, x_6, x_7, x_8, x_9, x_10, x_11, x_12, rfl, hx_14, hf_15⟩, rfl⟩ := hw_3
  have hP : va_P G.1 classes (zap [(zo, .inl (G.2 1, 1, .inr (.inl f0)))] (zap w_13 (zap m0 []))) H := hP
  have hD : va_D (fun q : Nat => s.heap.size ≤ q) (zap [(zo, .inl (G.2 1, 1, .inr (.inl f0)))] (zap w_13 (zap m0 []))) := hD
  refine W.widen (k := cells + 0) (n := slots + 0) (show cells + 0 ≤ cells + 0 from Nat.le_refl _) (show slots + 0 ≤ slots + 0 from Nat.le_refl _) ?_
  refine lv_pop hx hb d_law_306 rfl ?_
  refine lv_aload_n hx hb d_law_307 rfl (lv_at hl 2 rfl) ?_
  obtain ⟨fs_16, hat_17⟩ := zb_Mo_at hm0
  refine z_callV (index := 49) (As := []) (rest := []) (wr := []) Z ((m_undo l G mA   (nu0) (xt0) (ro0) (ke0) (ik0) (un0) (tb0) m0 hm0).mid2 [(zo, .inl (G.2 1, 1, .inr (.inl f0)))] w_13 []) hl.1 q1344 q1345 q1346 q14 q1347 ⟨by decide, by decide, by show _ = some 0; decide +kernel⟩ ⟨Nat.le_of_ble_eq_true rfl, Nat.le_of_ble_eq_true rfl⟩ (show cells + 0 ≤ 601024 ∧ slots + 0 ≤ 7293034 from ⟨by omega, by omega⟩) rfl (Nat.le_of_ble_eq_true rfl) d_law_308 hP hD hS hA _ 12 (zw_at2 (a := [(zo, .inl (G.2 1, 1, .inr (.inl f0)))]) (x := w_13) (b := []) hat_17) rfl rfl (List.range _) [] (zw_range _) rfl (zw_nd _) rfl (by intro i h9; cases h9) (fun v w1 H locs hw_18 hP hD hS => ?_)
  obtain ⟨w_20, ⟨nu_23, ro_24, x_19, ⟨rfl, hf_22⟩, hm_21⟩, rfl⟩ := hw_18
  have hP : va_P G.1 classes (zap [(zo, .inl (G.2 1, 1, .inr (.inl f0)))] (zap w_13 (zap w_20 []))) H := hP
  have hD : va_D (fun q : Nat => s.heap.size ≤ q) (zap [(zo, .inl (G.2 1, 1, .inr (.inl f0)))] (zap w_13 (zap w_20 []))) := hD
  refine W.widen (k := cells + 0) (n := slots + 0) (show cells + 0 ≤ cells + 0 from Nat.le_refl _) (show slots + 0 ≤ slots + 0 from Nat.le_refl _) ?_
  have hq9 : (x_4 : Int32).toInt = (x_19 : Int32).toInt ∧ zRL (tn) (sg) (s0) (s1) (x_5) (x_6) (P) (K0) (K1) (zrow (x_7) (x_8) (x_9) (x_10) (x_11) (x_12)) (xt0) (tb0) (ik0) (ro_24) (un0) (ke0) (nu_23) := zRL_undo hR0 (zb_Mo_w hm_21).1 hf_15 hf_22
  refine lv_pop hx hb d_law_311 rfl ?_
  refine lv_goto (tgt := 1067) hx hb d_law_312 (by decide) ?_
  refine W.widen (k := cells + 5) (n := slots + 520) (by omega) (by omega) ?_
  exact kk _ _ _ _ _ _ _ _ _ _ _ _ _ _ _ _ _ _ _ _ _ _ _ _ _ _ _ _ _ hx_14 hm_21 (hq9.2) hP hD hS (lv_sub hl [0, 1, 2, 3, 4] rfl)
set_option maxHeartbeats 4000000 in
set_option maxRecDepth 100000 in
theorem law_7 {p : Program} {e : Env} {s : State} {m : MethodId} {below : List Frame} {meth : Method} {c : Code} (l : Launch) {b L : Nat} {xs : Nat → Int32} {G : zG} (hL : L ≤ 2560) (Z : zC p s m #[Value.ref b] meth c code 7 "TraceMachinesLaw" G) (hr : meth.sig.returnType = ret) (hX : va_X b L xs s s.heap) (hbl : b < s.heap.size) (hfl : l.stackTraces = false) (hT : zTh s) (hU : zU (fun q : Nat => s.heap.size ≤ q) s s.heap) {i : Int32} {cells slots : Nat} (hroom : cells + 5 ≤ 601024 ∧ slots + 520 ≤ 7293034) (hi : 0 ≤ i.toInt ∧ i.toInt + 5 ≤ (L : Int)) {xX xText xNow xRead xPast xKept xTree xFol xMs xTree2 xMa2 xRun xRan xWo xPa xCo xPr xOd xFi xM0 xM1 xM2 xM3 mA zo : Nat} {tn : Int32} {sg : Nat → Int32} {s0 : Bool} {s1 : Bool} {pn : Int32} {pc : Int32} {P : Nat → Nat → Int32} {K0 : Nat → Int32} {K1 : Nat → Int32} {Rd : Nat → Int32} {n : Int32} {d : Int32} {mg : Int32} {L : Nat → Int32} {F : Nat → Int32} {V : Nat → Int32} {f0 : Nat → Int64} {x0 m0 : va_W} {nu0 : Int32} {xt0 : Int32} {ro0 : Nat → Int32} {ke0 : Nat → Int32} {ik0 : Nat → Int32} {un0 : Nat → Int32} {tb0 : Nat → Int32} {H : Heap} {locs : List Loc} {ls : Array Slot} (hx0 : XS G xX xText xNow xRead xPast xKept xTree xFol xMs xTree2 xMa2 xRun xRan xWo xPa xCo xPr xOd xFi xM0 xM1 xM2 xM3 True tn sg s0 s1 pn pc P K0 K1 Rd n d mg L F V x0) (hm0 : zb_Mo G mA nu0 xt0 ro0 ke0 ik0 un0 tb0 m0) (hR0 : zRL (tn) (sg) (s0) (s1) (pn) (pc) (P) (K0) (K1) (zrow (n) (d) (mg) (L) (F) (V)) (xt0) (tb0) (ik0) (ro0) (un0) (ke0) (nu0)) (hP : va_P G.1 classes (zap [(zo, .inl (G.2 1, 1, .inr (.inl f0)))] (zap x0 (zap m0 []))) H) (hD : va_D (fun q : Nat => s.heap.size ≤ q) (zap [(zo, .inl (G.2 1, 1, .inr (.inl f0)))] (zap x0 (zap m0 [])))) (hS : va_S (fun q : Nat => s.heap.size ≤ q) s.heap H locs) (hl : lv_has ls 7 [(0, .ref b), (1, .ref xX), (2, .ref mA), (3, .ref zo), (4, .int i)]) (kk : ∀ (f1 : Nat → Int64) (x1 m1 : va_W) (nu_1 : Int32) (xt_1 : Int32) (ro_1 : Nat → Int32) (ke_1 : Nat → Int32) (ik_1 : Nat → Int32) (un_1 : Nat → Int32) (tb_1 : Nat → Int32) (tn_1 : Int32) (sg_1 : Nat → Int32) (s0_1 : Bool) (s1_1 : Bool) (pn_1 : Int32) (pc_1 : Int32) (P_1 : Nat → Nat → Int32) (K0_1 : Nat → Int32) (K1_1 : Nat → Int32) (Rd_1 : Nat → Int32) (n_1 : Int32) (d_1 : Int32) (mg_1 : Int32) (L_1 : Nat → Int32) (F_1 : Nat → Int32) (V_1 : Nat → Int32) (H : Heap) (locs : List Loc) (ls : Array Slot), XS G xX xText xNow xRead xPast xKept xTree xFol xMs xTree2 xMa2 xRun xRan xWo xPa xCo xPr xOd xFi xM0 xM1 xM2 xM3 True tn_1 sg_1 s0_1 s1_1 pn_1 pc_1 P_1 K0_1 K1_1 Rd_1 n_1 d_1 mg_1 L_1 F_1 V_1 x1 → zb_Mo G mA nu_1 xt_1 ro_1 ke_1 ik_1 un_1 tb_1 m1 → zRL (tn_1) (sg_1) (s0_1) (s1_1) (pn_1) (pc_1) (P_1) (K0_1) (K1_1) (zrow (n_1) (d_1) (mg_1) (L_1) (F_1) (V_1)) (xt_1) (tb_1) (ik_1) (ro_1) (un_1) (ke_1) (nu_1) → va_P G.1 classes (zap [(zo, .inl (G.2 1, 1, .inr (.inl f1)))] (zap x1 (zap m1 []))) H → va_D (fun q : Nat => s.heap.size ≤ q) (zap [(zo, .inl (G.2 1, 1, .inr (.inl f1)))] (zap x1 (zap m1 []))) → va_S (fun q : Nat => s.heap.size ≤ q) s.heap H locs → lv_has ls 7 [(0, .ref b), (1, .ref xX), (2, .ref mA), (3, .ref zo), (4, .int i)] → W p l e room_1 s m #[Value.ref b] below meth c H locs (cells + 5) (slots + 520) (lw_Z below #[Value.ref b] s) (F0 m 1067 ls [])) : W p l e room_1 s m #[Value.ref b] below meth c H locs cells slots (lw_Z below #[Value.ref b] s) (F0 m 315 ls []) := by
  obtain ⟨hx, hb, hml, hown, hts, hK, hN, hlocks⟩ := id Z
  have hbA : ¬ (fun q : Nat => s.heap.size ≤ q) b := Nat.not_le.mpr hbl
  have hA : ∀ q : Nat, s.heap.size ≤ q → (fun q : Nat => s.heap.size ≤ q) q := fun _ h => h
  refine lv_aload_n hx hb d_law_315 rfl (lv_at hl 1 rfl) ?_
  refine lv_aload_n hx hb d_law_316 rfl (lv_at hl 0 rfl) ?_
  refine lv_iload hx hb d_law_317 (lv_at hl 4 rfl) ?_
  refine lv_iconst (v := 1) hx hb d_law_319 (by decide) ?_
  refine lv_iadd hx hb d_law_320 ?_
  refine lv_topi (fun v_1 ev_1 => ?_)
  have qv_1 := z_idx (k := 1) hi hL ev_1 li_1 (by decide)
  refine va_sld hx hb hX hbl hbA hS (i := v_1) qv_1 d_law_321 ?_
  refine lv_topi (fun v_2 ev_2 => ?_)
  refine lv_aload_n hx hb d_law_322 rfl (lv_at hl 0 rfl) ?_
  refine lv_iload hx hb d_law_323 (lv_at hl 4 rfl) ?_
  refine lv_iconst (v := 2) hx hb d_law_325 (by decide) ?_
  refine lv_iadd hx hb d_law_326 ?_
  refine lv_topi (fun v_3 ev_3 => ?_)
  have qv_3 := z_idx (k := 2) hi hL ev_3 li_2 (by decide)
  refine va_sld hx hb hX hbl hbA hS (i := v_3) qv_3 d_law_327 ?_
  refine lv_topi (fun v_4 ev_4 => ?_)
  refine lv_aload_n hx hb d_law_328 rfl (lv_at hl 0 rfl) ?_
  refine lv_iload hx hb d_law_329 (lv_at hl 4 rfl) ?_
  refine lv_iconst (v := 3) hx hb d_law_331 (by decide) ?_
  refine lv_iadd hx hb d_law_332 ?_
  refine lv_topi (fun v_5 ev_5 => ?_)
  have qv_5 := z_idx (k := 3) hi hL ev_5 li_3 (by decide)
  refine va_sld hx hb hX hbl hbA hS (i := v_5) qv_5 d_law_333 ?_
  refine lv_topi (fun v_6 ev_6 => ?_)
  refine lv_aload_n hx hb d_law_334 rfl (lv_at hl 3 rfl) ?_
  have hfree : ∀ q, va_A (zap [(zo, .inl (G.2 1, 1, .inr (.inl f0)))] (zap x0 (zap m0 []))) H.size q → s.heap.size ≤ q := fun q h => by rcases h with ⟨k, e, h⟩ | h; exact hD.2 k (q, e) h; exact Nat.le_trans hS.1 h
  have hpre := zx_pre (av := [.ref xX, .int v_2, .int v_4, .int v_6, .ref zo]) (wc := (zap [(zo, .inl (G.2 1, 1, .inr (.inl f0)))] (zap x0 (zap m0 [])))) hP (hD.weaken (fun _ _ _ _ => trivial)) hK hN hT (hU.to hS hfree)
  have hM := (zl_call l hfl G xX xText xNow xRead xPast xKept xTree xFol xMs xTree2 xMa2 xRun xRan xWo xPa xCo xPr xOd xFi xM0 xM1 xM2 xM3 zo f0 v_2 v_4 v_6 tn sg s0 s1 pn pc P K0 K1 Rd n d mg L F V x0 hx0).re (zap m0 []) (zap [(zo, .inl (G.2 1, 1, .inr (.inl f0)))] (zap x0 (zap m0 []))) (zr_1 _ _ _) (post' := fun v w2 => ∃ (z : Int32) (f1 : Nat → Int64) (w1 : va_W), v = some (.int z) ∧ XS G xX xText xNow xRead xPast xKept xTree xFol xMs xTree2 xMa2 xRun xRan xWo xPa xCo xPr xOd xFi xM0 xM1 xM2 xM3 True tn sg s0 s1 pn pc P K0 K1 Rd n d mg L F V w1 ∧ w2 = (zap [(zo, .inl (G.2 1, 1, .inr (.inl f1)))] (zap w1 (zap m0 [])))) (fun v w1 h => by obtain ⟨z, f1, w3, h1, h2, rfl⟩ := h; exact ⟨_, ⟨z, f1, w3, h1, h2, rfl⟩, zr_1 _ _ _⟩)
  refine z_on (rm := m_zl_call) (wr := []) (av := [.ref xX, .int v_2, .int v_4, .int v_6, .ref zo]) (vx_runSW (As := [.ref xX, .int v_2, .int v_4, .int v_6, .ref zo]) (rest := []) (index := 50) ⟨hx, hb, hml, hown, hts⟩ (hM H.size) (vx_cwSW (Ts := zW) (bytes := method_3_code) (maxL := 6) (ret := some .int) (hh := [(0, 12, 15, 13)]) 5 hts (zW_good _ (fun w hw => ?_)) rfl rfl rfl ⟨by decide, by decide, by decide +kernel⟩ ⟨Nat.le_of_ble_eq_true rfl, Nat.le_of_ble_eq_true rfl⟩) hpre rfl rfl hl.1 rfl (lv_room (Nat.le_of_ble_eq_true rfl)) d_law_335 (show cells + 1 ≤ 601024 ∧ slots + 6 ≤ 7293034 from ⟨by omega, by omega⟩)) hP hD hS hA (List.range _) [] (zw_range _) rfl rfl (by intro i h9; cases h9) (fun v w1 H locs hw_7 hP hD hS => ?_)
  · rcases List.mem_append.mp hw with h | h
    · rcases List.mem_cons.mp h with rfl | h
      · exact q1026
      · rcases List.mem_cons.mp h with rfl | h
        · exact q1027
        · rcases List.mem_cons.mp h with rfl | h
          · exact q0
          · cases h
    · rcases List.mem_cons.mp h with rfl | h
      · exact q_lcall
      · exact h
  obtain ⟨x_8, f_9, w_10, rfl, hx_11, rfl⟩ := hw_7
  have hP : va_P G.1 classes (zap [(zo, .inl (G.2 1, 1, .inr (.inl f_9)))] (zap w_10 (zap m0 []))) H := hP
  have hD : va_D (fun q : Nat => s.heap.size ≤ q) (zap [(zo, .inl (G.2 1, 1, .inr (.inl f_9)))] (zap w_10 (zap m0 []))) := hD
  refine W.widen (k := cells + 1) (n := slots + 6) (show cells + 1 ≤ cells + 1 from Nat.le_refl _) (show slots + 6 ≤ slots + 6 from Nat.le_refl _) ?_
  refine lv_istore (lv' := [(5, .int x_8), (0, .ref b), (1, .ref xX), (2, .ref mA), (3, .ref zo), (4, .int i)]) hx hb d_law_338 hl (by decide) rfl (fun ls hl => ?_)
  refine lv_aload_n hx hb d_law_340 rfl (lv_at hl 3 rfl) ?_
  refine lv_aload_n hx hb d_law_341 rfl (lv_at hl 1 rfl) ?_
  refine lv_iload hx hb d_law_342 (lv_at hl 5 rfl) ?_
  refine lv_iconst (v := 1) hx hb d_law_344 (by decide) ?_
  refine lv_iadd hx hb d_law_345 ?_
  refine lv_topi (fun v_12 ev_12 => ?_)
  have qv_12 := z_idx (k := 1) hi hL ev_12 li_1 (by decide)
  refine va_sld hx hb hX hbl hbA hS (i := v_12) qv_12 d_law_346 ?_
  refine lv_topi (fun v_13 ev_13 => ?_)
  refine lv_aload_n hx hb d_law_347 rfl (lv_at hl 1 rfl) ?_
  refine lv_iload hx hb d_law_348 (lv_at hl 5 rfl) ?_
  refine lv_iconst (v := 2) hx hb d_law_350 (by decide) ?_
  refine lv_iadd hx hb d_law_351 ?_
  refine lv_topi (fun v_14 ev_14 => ?_)
  have qv_14 := z_idx (k := 2) hi hL ev_14 li_2 (by decide)
  refine va_sld hx hb hX hbl hbA hS (i := v_14) qv_14 d_law_352 ?_
  refine lv_topi (fun v_15 ev_15 => ?_)
  refine lv_aload_n hx hb d_law_353 rfl (lv_at hl 1 rfl) ?_
  refine lv_iload hx hb d_law_354 (lv_at hl 5 rfl) ?_
  refine lv_iconst (v := 3) hx hb d_law_356 (by decide) ?_
  refine lv_iadd hx hb d_law_357 ?_
  refine lv_topi (fun v_16 ev_16 => ?_)
  have qv_16 := z_idx (k := 3) hi hL ev_16 li_3 (by decide)
  refine va_sld hx hb hX hbl hbA hS (i := v_16) qv_16 d_law_358 ?_
  refine lv_topi (fun v_17 ev_17 => ?_)
  obtain ⟨fs_18, hat_19⟩ := zb_Mo_at hm0
  refine z_callV (index := 55) (As := [.int v_13, .int v_15, .int v_17]) (rest := []) (wr := []) Z ((m_call l G mA (v_13) (v_15) (v_17)  (nu0) (xt0) (ro0) (ke0) (ik0) (un0) (tb0) m0 hm0).mid2 [(zo, .inl (G.2 1, 1, .inr (.inl f_9)))] w_10 []) hl.1 q1348 q1349 q1350 q14 q1351 ⟨by decide, by decide, by show _ = some 3; decide +kernel⟩ ⟨Nat.le_of_ble_eq_true rfl, Nat.le_of_ble_eq_true rfl⟩ (show cells + 1 ≤ 601024 ∧ slots + 6 ≤ 7293034 from ⟨by omega, by omega⟩) rfl (Nat.le_of_ble_eq_true rfl) d_law_359 hP hD hS hA _ 12 (zw_at2 (a := [(zo, .inl (G.2 1, 1, .inr (.inl f_9)))]) (x := w_10) (b := []) hat_19) rfl rfl (List.range _) [] (zw_range _) rfl (zw_nd _) rfl (by intro i h9; cases h9) (fun v w1 H locs hw_20 hP hD hS => ?_)
  obtain ⟨w_22, ⟨x_21, ⟨rfl⟩, hm_23⟩, rfl⟩ := hw_20
  have hP : va_P G.1 classes (zap [(zo, .inl (G.2 1, 1, .inr (.inl f_9)))] (zap w_10 (zap w_22 []))) H := hP
  have hD : va_D (fun q : Nat => s.heap.size ≤ q) (zap [(zo, .inl (G.2 1, 1, .inr (.inl f_9)))] (zap w_10 (zap w_22 []))) := hD
  refine W.widen (k := cells + 1) (n := slots + 6) (show cells + 1 ≤ cells + 1 from Nat.le_refl _) (show slots + 6 ≤ slots + 6 from Nat.le_refl _) ?_
  refine lv_istore (lv' := [(6, .int x_21), (5, .int x_8), (0, .ref b), (1, .ref xX), (2, .ref mA), (3, .ref zo), (4, .int i)]) hx hb d_law_362 hl (by decide) rfl (fun ls hl => ?_)
  refine lv_goto (tgt := 1067) hx hb d_law_364 (by decide) ?_
  refine W.widen (k := cells + 5) (n := slots + 520) (show cells + 1 ≤ cells + 5 by omega) (show slots + 6 ≤ slots + 520 by omega) ?_
  exact kk _ _ _ _ _ _ _ _ _ _ _ _ _ _ _ _ _ _ _ _ _ _ _ _ _ _ _ _ _ hx_11 hm_23 hR0 hP hD hS (lv_sub hl [2, 3, 4, 5, 6] rfl)
set_option maxHeartbeats 4000000 in
set_option maxRecDepth 100000 in
theorem law_8 {p : Program} {e : Env} {s : State} {m : MethodId} {below : List Frame} {meth : Method} {c : Code} (l : Launch) {b L : Nat} {xs : Nat → Int32} {G : zG} (hL : L ≤ 2560) (Z : zC p s m #[Value.ref b] meth c code 7 "TraceMachinesLaw" G) (hr : meth.sig.returnType = ret) (hX : va_X b L xs s s.heap) (hbl : b < s.heap.size)  {i : Int32} {cells slots : Nat} (hroom : cells + 5 ≤ 601024 ∧ slots + 520 ≤ 7293034) (hi : 0 ≤ i.toInt ∧ i.toInt + 5 ≤ (L : Int)) {xX xText xNow xRead xPast xKept xTree xFol xMs xTree2 xMa2 xRun xRan xWo xPa xCo xPr xOd xFi xM0 xM1 xM2 xM3 mA zo : Nat} {tn : Int32} {sg : Nat → Int32} {s0 : Bool} {s1 : Bool} {pn : Int32} {pc : Int32} {P : Nat → Nat → Int32} {K0 : Nat → Int32} {K1 : Nat → Int32} {Rd : Nat → Int32} {n : Int32} {d : Int32} {mg : Int32} {L : Nat → Int32} {F : Nat → Int32} {V : Nat → Int32} {f0 : Nat → Int64} {x0 m0 : va_W} {nu0 : Int32} {xt0 : Int32} {ro0 : Nat → Int32} {ke0 : Nat → Int32} {ik0 : Nat → Int32} {un0 : Nat → Int32} {tb0 : Nat → Int32} {H : Heap} {locs : List Loc} {ls : Array Slot} (hx0 : XS G xX xText xNow xRead xPast xKept xTree xFol xMs xTree2 xMa2 xRun xRan xWo xPa xCo xPr xOd xFi xM0 xM1 xM2 xM3 True tn sg s0 s1 pn pc P K0 K1 Rd n d mg L F V x0) (hm0 : zb_Mo G mA nu0 xt0 ro0 ke0 ik0 un0 tb0 m0) (hR0 : zRL (tn) (sg) (s0) (s1) (pn) (pc) (P) (K0) (K1) (zrow (n) (d) (mg) (L) (F) (V)) (xt0) (tb0) (ik0) (ro0) (un0) (ke0) (nu0)) (hP : va_P G.1 classes (zap [(zo, .inl (G.2 1, 1, .inr (.inl f0)))] (zap x0 (zap m0 []))) H) (hD : va_D (fun q : Nat => s.heap.size ≤ q) (zap [(zo, .inl (G.2 1, 1, .inr (.inl f0)))] (zap x0 (zap m0 [])))) (hS : va_S (fun q : Nat => s.heap.size ≤ q) s.heap H locs) (hl : lv_has ls 7 [(0, .ref b), (1, .ref xX), (2, .ref mA), (3, .ref zo), (4, .int i)]) (kk : ∀ (f1 : Nat → Int64) (x1 m1 : va_W) (nu_1 : Int32) (xt_1 : Int32) (ro_1 : Nat → Int32) (ke_1 : Nat → Int32) (ik_1 : Nat → Int32) (un_1 : Nat → Int32) (tb_1 : Nat → Int32) (tn_1 : Int32) (sg_1 : Nat → Int32) (s0_1 : Bool) (s1_1 : Bool) (pn_1 : Int32) (pc_1 : Int32) (P_1 : Nat → Nat → Int32) (K0_1 : Nat → Int32) (K1_1 : Nat → Int32) (Rd_1 : Nat → Int32) (n_1 : Int32) (d_1 : Int32) (mg_1 : Int32) (L_1 : Nat → Int32) (F_1 : Nat → Int32) (V_1 : Nat → Int32) (H : Heap) (locs : List Loc) (ls : Array Slot), XS G xX xText xNow xRead xPast xKept xTree xFol xMs xTree2 xMa2 xRun xRan xWo xPa xCo xPr xOd xFi xM0 xM1 xM2 xM3 True tn_1 sg_1 s0_1 s1_1 pn_1 pc_1 P_1 K0_1 K1_1 Rd_1 n_1 d_1 mg_1 L_1 F_1 V_1 x1 → zb_Mo G mA nu_1 xt_1 ro_1 ke_1 ik_1 un_1 tb_1 m1 → zRL (tn_1) (sg_1) (s0_1) (s1_1) (pn_1) (pc_1) (P_1) (K0_1) (K1_1) (zrow (n_1) (d_1) (mg_1) (L_1) (F_1) (V_1)) (xt_1) (tb_1) (ik_1) (ro_1) (un_1) (ke_1) (nu_1) → va_P G.1 classes (zap [(zo, .inl (G.2 1, 1, .inr (.inl f1)))] (zap x1 (zap m1 []))) H → va_D (fun q : Nat => s.heap.size ≤ q) (zap [(zo, .inl (G.2 1, 1, .inr (.inl f1)))] (zap x1 (zap m1 []))) → va_S (fun q : Nat => s.heap.size ≤ q) s.heap H locs → lv_has ls 7 [(0, .ref b), (1, .ref xX), (2, .ref mA), (3, .ref zo), (4, .int i)] → W p l e room_1 s m #[Value.ref b] below meth c H locs (cells + 5) (slots + 520) (lw_Z below #[Value.ref b] s) (F0 m 1067 ls [])) : W p l e room_1 s m #[Value.ref b] below meth c H locs cells slots (lw_Z below #[Value.ref b] s) (F0 m 367 ls []) := by
  obtain ⟨hx, hb, hml, hown, hts, hK, hN, hlocks⟩ := id Z
  have hbA : ¬ (fun q : Nat => s.heap.size ≤ q) b := Nat.not_le.mpr hbl
  have hA : ∀ q : Nat, s.heap.size ≤ q → (fun q : Nat => s.heap.size ≤ q) q := fun _ h => h
  refine lv_aload_n hx hb d_law_367 rfl (lv_at hl 1 rfl) ?_
  refine lv_aload_n hx hb d_law_368 rfl (lv_at hl 0 rfl) ?_
  refine lv_iload hx hb d_law_369 (lv_at hl 4 rfl) ?_
  refine lv_iconst (v := 1) hx hb d_law_371 (by decide) ?_
  refine lv_iadd hx hb d_law_372 ?_
  refine lv_topi (fun v_1 ev_1 => ?_)
  have qv_1 := z_idx (k := 1) hi hL ev_1 li_1 (by decide)
  refine va_sld hx hb hX hbl hbA hS (i := v_1) qv_1 d_law_373 ?_
  refine lv_topi (fun v_2 ev_2 => ?_)
  refine lv_aload_n hx hb d_law_374 rfl (lv_at hl 0 rfl) ?_
  refine lv_iload hx hb d_law_375 (lv_at hl 4 rfl) ?_
  refine lv_iconst (v := 2) hx hb d_law_377 (by decide) ?_
  refine lv_iadd hx hb d_law_378 ?_
  refine lv_topi (fun v_3 ev_3 => ?_)
  have qv_3 := z_idx (k := 2) hi hL ev_3 li_2 (by decide)
  refine va_sld hx hb hX hbl hbA hS (i := v_3) qv_3 d_law_379 ?_
  refine lv_topi (fun v_4 ev_4 => ?_)
  obtain ⟨fs_5, hat_6⟩ := XS_at hx0
  refine z_callV (index := 56) (As := [.int v_2, .int v_4]) (rest := []) (wr := []) Z ((x_state l G xX xText xNow xRead xPast xKept xTree xFol xMs xTree2 xMa2 xRun xRan xWo xPa xCo xPr xOd xFi xM0 xM1 xM2 xM3 (v_2) (v_4) (tn) (sg) (s0) (s1) (pn) (pc) (P) (K0) (K1) (Rd) (n) (d) (mg) (L) (F) (V) x0 hx0).mid [(zo, .inl (G.2 1, 1, .inr (.inl f0)))] (zap m0 [])) hl.1 q559 q560 q561 q1 q562 ⟨by decide, by decide, by show _ = some 2; decide +kernel⟩ ⟨Nat.le_of_ble_eq_true rfl, Nat.le_of_ble_eq_true rfl⟩ (show cells + 0 ≤ 601024 ∧ slots + 0 ≤ 7293034 from ⟨by omega, by omega⟩) rfl (Nat.le_of_ble_eq_true rfl) d_law_380 hP hD hS hA 1 0 (zw_at1 (a := [(zo, .inl (G.2 1, 1, .inr (.inl f0)))]) (b := zap m0 []) hat_6) rfl rfl (List.range _) [] (zw_range _) rfl (zw_nd _) rfl (by intro i h9; cases h9) (fun v w1 H locs hw_7 hP hD hS => ?_)
  obtain ⟨w_9, ⟨x_8, rfl, hx_10⟩, rfl⟩ := hw_7
  have hP : va_P G.1 classes (zap [(zo, .inl (G.2 1, 1, .inr (.inl f0)))] (zap w_9 (zap m0 []))) H := hP
  have hD : va_D (fun q : Nat => s.heap.size ≤ q) (zap [(zo, .inl (G.2 1, 1, .inr (.inl f0)))] (zap w_9 (zap m0 []))) := hD
  refine W.widen (k := cells + 0) (n := slots + 0) (show cells + 0 ≤ cells + 0 from Nat.le_refl _) (show slots + 0 ≤ slots + 0 from Nat.le_refl _) ?_
  refine lv_pop hx hb d_law_383 rfl ?_
  refine lv_aload_n hx hb d_law_384 rfl (lv_at hl 2 rfl) ?_
  refine lv_aload_n hx hb d_law_385 rfl (lv_at hl 0 rfl) ?_
  refine lv_iload hx hb d_law_386 (lv_at hl 4 rfl) ?_
  refine lv_iconst (v := 1) hx hb d_law_388 (by decide) ?_
  refine lv_iadd hx hb d_law_389 ?_
  refine lv_topi (fun v_11 ev_11 => ?_)
  have qv_11 := z_idx (k := 1) hi hL ev_11 li_1 (by decide)
  refine va_sld hx hb hX hbl hbA hS (i := v_11) qv_11 d_law_390 ?_
  refine lv_topi (fun v_12 ev_12 => ?_)
  refine lv_aload_n hx hb d_law_391 rfl (lv_at hl 0 rfl) ?_
  refine lv_iload hx hb d_law_392 (lv_at hl 4 rfl) ?_
  refine lv_iconst (v := 2) hx hb d_law_394 (by decide) ?_
  refine lv_iadd hx hb d_law_395 ?_
  refine lv_topi (fun v_13 ev_13 => ?_)
  have qv_13 := z_idx (k := 2) hi hL ev_13 li_2 (by decide)
  refine va_sld hx hb hX hbl hbA hS (i := v_13) qv_13 d_law_396 ?_
  refine lv_topi (fun v_14 ev_14 => ?_)
  obtain ⟨fs_15, hat_16⟩ := zb_Mo_at hm0
  refine z_callV (index := 60) (As := [.int v_12, .int v_14]) (rest := []) (wr := []) Z ((m_state l G mA (v_12) (v_14)  (nu0) (xt0) (ro0) (ke0) (ik0) (un0) (tb0) m0 hm0).mid2 [(zo, .inl (G.2 1, 1, .inr (.inl f0)))] w_9 []) hl.1 q1416 q1417 q1418 q14 q1419 ⟨by decide, by decide, by show _ = some 2; decide +kernel⟩ ⟨Nat.le_of_ble_eq_true rfl, Nat.le_of_ble_eq_true rfl⟩ (show cells + 0 ≤ 601024 ∧ slots + 0 ≤ 7293034 from ⟨by omega, by omega⟩) rfl (Nat.le_of_ble_eq_true rfl) d_law_397 hP hD hS hA _ 12 (zw_at2 (a := [(zo, .inl (G.2 1, 1, .inr (.inl f0)))]) (x := w_9) (b := []) hat_16) rfl rfl (List.range _) [] (zw_range _) rfl (zw_nd _) rfl (by intro i h9; cases h9) (fun v w1 H locs hw_17 hP hD hS => ?_)
  obtain ⟨w_19, ⟨x_18, ⟨rfl⟩, hm_20⟩, rfl⟩ := hw_17
  have hP : va_P G.1 classes (zap [(zo, .inl (G.2 1, 1, .inr (.inl f0)))] (zap w_9 (zap w_19 []))) H := hP
  have hD : va_D (fun q : Nat => s.heap.size ≤ q) (zap [(zo, .inl (G.2 1, 1, .inr (.inl f0)))] (zap w_9 (zap w_19 []))) := hD
  refine W.widen (k := cells + 0) (n := slots + 0) (show cells + 0 ≤ cells + 0 from Nat.le_refl _) (show slots + 0 ≤ slots + 0 from Nat.le_refl _) ?_
  refine lv_pop hx hb d_law_400 rfl ?_
  refine lv_goto (tgt := 1067) hx hb d_law_401 (by decide) ?_
  refine W.widen (k := cells + 5) (n := slots + 520) (by omega) (by omega) ?_
  exact kk _ _ _ _ _ _ _ _ _ _ _ _ _ _ _ _ _ _ _ _ _ _ _ _ _ _ _ _ _ hx_10 hm_20 hR0 hP hD hS (lv_sub hl [0, 1, 2, 3, 4] rfl)
set_option maxHeartbeats 4000000 in
set_option maxRecDepth 100000 in
theorem law_9 {p : Program} {e : Env} {s : State} {m : MethodId} {below : List Frame} {meth : Method} {c : Code} (l : Launch) {b L : Nat} {xs : Nat → Int32} {G : zG} (hL : L ≤ 2560) (Z : zC p s m #[Value.ref b] meth c code 7 "TraceMachinesLaw" G) (hr : meth.sig.returnType = ret) (hX : va_X b L xs s s.heap) (hbl : b < s.heap.size)  {i : Int32} {cells slots : Nat} (hroom : cells + 5 ≤ 601024 ∧ slots + 520 ≤ 7293034) (hi : 0 ≤ i.toInt ∧ i.toInt + 5 ≤ (L : Int)) {xX xText xNow xRead xPast xKept xTree xFol xMs xTree2 xMa2 xRun xRan xWo xPa xCo xPr xOd xFi xM0 xM1 xM2 xM3 mA zo : Nat} {tn : Int32} {sg : Nat → Int32} {s0 : Bool} {s1 : Bool} {pn : Int32} {pc : Int32} {P : Nat → Nat → Int32} {K0 : Nat → Int32} {K1 : Nat → Int32} {Rd : Nat → Int32} {n : Int32} {d : Int32} {mg : Int32} {L : Nat → Int32} {F : Nat → Int32} {V : Nat → Int32} {f0 : Nat → Int64} {x0 m0 : va_W} {nu0 : Int32} {xt0 : Int32} {ro0 : Nat → Int32} {ke0 : Nat → Int32} {ik0 : Nat → Int32} {un0 : Nat → Int32} {tb0 : Nat → Int32} {H : Heap} {locs : List Loc} {ls : Array Slot} (hx0 : XS G xX xText xNow xRead xPast xKept xTree xFol xMs xTree2 xMa2 xRun xRan xWo xPa xCo xPr xOd xFi xM0 xM1 xM2 xM3 True tn sg s0 s1 pn pc P K0 K1 Rd n d mg L F V x0) (hm0 : zb_Mo G mA nu0 xt0 ro0 ke0 ik0 un0 tb0 m0) (hR0 : zRL (tn) (sg) (s0) (s1) (pn) (pc) (P) (K0) (K1) (zrow (n) (d) (mg) (L) (F) (V)) (xt0) (tb0) (ik0) (ro0) (un0) (ke0) (nu0)) (hP : va_P G.1 classes (zap [(zo, .inl (G.2 1, 1, .inr (.inl f0)))] (zap x0 (zap m0 []))) H) (hD : va_D (fun q : Nat => s.heap.size ≤ q) (zap [(zo, .inl (G.2 1, 1, .inr (.inl f0)))] (zap x0 (zap m0 [])))) (hS : va_S (fun q : Nat => s.heap.size ≤ q) s.heap H locs) (hl : lv_has ls 7 [(0, .ref b), (1, .ref xX), (2, .ref mA), (3, .ref zo), (4, .int i)]) (kk : ∀ (f1 : Nat → Int64) (x1 m1 : va_W) (nu_1 : Int32) (xt_1 : Int32) (ro_1 : Nat → Int32) (ke_1 : Nat → Int32) (ik_1 : Nat → Int32) (un_1 : Nat → Int32) (tb_1 : Nat → Int32) (tn_1 : Int32) (sg_1 : Nat → Int32) (s0_1 : Bool) (s1_1 : Bool) (pn_1 : Int32) (pc_1 : Int32) (P_1 : Nat → Nat → Int32) (K0_1 : Nat → Int32) (K1_1 : Nat → Int32) (Rd_1 : Nat → Int32) (n_1 : Int32) (d_1 : Int32) (mg_1 : Int32) (L_1 : Nat → Int32) (F_1 : Nat → Int32) (V_1 : Nat → Int32) (H : Heap) (locs : List Loc) (ls : Array Slot), XS G xX xText xNow xRead xPast xKept xTree xFol xMs xTree2 xMa2 xRun xRan xWo xPa xCo xPr xOd xFi xM0 xM1 xM2 xM3 True tn_1 sg_1 s0_1 s1_1 pn_1 pc_1 P_1 K0_1 K1_1 Rd_1 n_1 d_1 mg_1 L_1 F_1 V_1 x1 → zb_Mo G mA nu_1 xt_1 ro_1 ke_1 ik_1 un_1 tb_1 m1 → zRL (tn_1) (sg_1) (s0_1) (s1_1) (pn_1) (pc_1) (P_1) (K0_1) (K1_1) (zrow (n_1) (d_1) (mg_1) (L_1) (F_1) (V_1)) (xt_1) (tb_1) (ik_1) (ro_1) (un_1) (ke_1) (nu_1) → va_P G.1 classes (zap [(zo, .inl (G.2 1, 1, .inr (.inl f1)))] (zap x1 (zap m1 []))) H → va_D (fun q : Nat => s.heap.size ≤ q) (zap [(zo, .inl (G.2 1, 1, .inr (.inl f1)))] (zap x1 (zap m1 []))) → va_S (fun q : Nat => s.heap.size ≤ q) s.heap H locs → lv_has ls 7 [(0, .ref b), (1, .ref xX), (2, .ref mA), (3, .ref zo), (4, .int i)] → W p l e room_1 s m #[Value.ref b] below meth c H locs (cells + 5) (slots + 520) (lw_Z below #[Value.ref b] s) (F0 m 1067 ls [])) : W p l e room_1 s m #[Value.ref b] below meth c H locs cells slots (lw_Z below #[Value.ref b] s) (F0 m 404 ls []) := by
  obtain ⟨hx, hb, hml, hown, hts, hK, hN, hlocks⟩ := id Z
  have hbA : ¬ (fun q : Nat => s.heap.size ≤ q) b := Nat.not_le.mpr hbl
  have hA : ∀ q : Nat, s.heap.size ≤ q → (fun q : Nat => s.heap.size ≤ q) q := fun _ h => h
  refine lv_aload_n hx hb d_law_404 rfl (lv_at hl 1 rfl) ?_
  refine lv_aload_n hx hb d_law_405 rfl (lv_at hl 0 rfl) ?_
  refine lv_iload hx hb d_law_406 (lv_at hl 4 rfl) ?_
  refine lv_iconst (v := 1) hx hb d_law_408 (by decide) ?_
  refine lv_iadd hx hb d_law_409 ?_
  refine lv_topi (fun v_1 ev_1 => ?_)
  have qv_1 := z_idx (k := 1) hi hL ev_1 li_1 (by decide)
  refine va_sld hx hb hX hbl hbA hS (i := v_1) qv_1 d_law_410 ?_
  refine lv_topi (fun v_2 ev_2 => ?_)
  refine lv_aload_n hx hb d_law_411 rfl (lv_at hl 0 rfl) ?_
  refine lv_iload hx hb d_law_412 (lv_at hl 4 rfl) ?_
  refine lv_iconst (v := 2) hx hb d_law_414 (by decide) ?_
  refine lv_iadd hx hb d_law_415 ?_
  refine lv_topi (fun v_3 ev_3 => ?_)
  have qv_3 := z_idx (k := 2) hi hL ev_3 li_2 (by decide)
  refine va_sld hx hb hX hbl hbA hS (i := v_3) qv_3 d_law_416 ?_
  refine lv_topi (fun v_4 ev_4 => ?_)
  obtain ⟨fs_5, hat_6⟩ := XS_at hx0
  refine z_callV (index := 61) (As := [.int v_2, .int v_4]) (rest := []) (wr := []) Z ((x_edge l G xX xText xNow xRead xPast xKept xTree xFol xMs xTree2 xMa2 xRun xRan xWo xPa xCo xPr xOd xFi xM0 xM1 xM2 xM3 (v_2) (v_4) (tn) (sg) (s0) (s1) (pn) (pc) (P) (K0) (K1) (Rd) (n) (d) (mg) (L) (F) (V) x0 hx0).mid [(zo, .inl (G.2 1, 1, .inr (.inl f0)))] (zap m0 [])) hl.1 q668 q669 q670 q1 q671 ⟨by decide, by decide, by show _ = some 2; decide +kernel⟩ ⟨Nat.le_of_ble_eq_true rfl, Nat.le_of_ble_eq_true rfl⟩ (show cells + 0 ≤ 601024 ∧ slots + 0 ≤ 7293034 from ⟨by omega, by omega⟩) rfl (Nat.le_of_ble_eq_true rfl) d_law_417 hP hD hS hA 1 0 (zw_at1 (a := [(zo, .inl (G.2 1, 1, .inr (.inl f0)))]) (b := zap m0 []) hat_6) rfl rfl (List.range _) [] (zw_range _) rfl (zw_nd _) rfl (by intro i h9; cases h9) (fun v w1 H locs hw_7 hP hD hS => ?_)
  obtain ⟨w_9, ⟨x_8, rfl, hx_10⟩, rfl⟩ := hw_7
  have hP : va_P G.1 classes (zap [(zo, .inl (G.2 1, 1, .inr (.inl f0)))] (zap w_9 (zap m0 []))) H := hP
  have hD : va_D (fun q : Nat => s.heap.size ≤ q) (zap [(zo, .inl (G.2 1, 1, .inr (.inl f0)))] (zap w_9 (zap m0 []))) := hD
  refine W.widen (k := cells + 0) (n := slots + 0) (show cells + 0 ≤ cells + 0 from Nat.le_refl _) (show slots + 0 ≤ slots + 0 from Nat.le_refl _) ?_
  refine lv_pop hx hb d_law_420 rfl ?_
  refine lv_aload_n hx hb d_law_421 rfl (lv_at hl 2 rfl) ?_
  refine lv_aload_n hx hb d_law_422 rfl (lv_at hl 0 rfl) ?_
  refine lv_iload hx hb d_law_423 (lv_at hl 4 rfl) ?_
  refine lv_iconst (v := 1) hx hb d_law_425 (by decide) ?_
  refine lv_iadd hx hb d_law_426 ?_
  refine lv_topi (fun v_11 ev_11 => ?_)
  have qv_11 := z_idx (k := 1) hi hL ev_11 li_1 (by decide)
  refine va_sld hx hb hX hbl hbA hS (i := v_11) qv_11 d_law_427 ?_
  refine lv_topi (fun v_12 ev_12 => ?_)
  refine lv_aload_n hx hb d_law_428 rfl (lv_at hl 0 rfl) ?_
  refine lv_iload hx hb d_law_429 (lv_at hl 4 rfl) ?_
  refine lv_iconst (v := 2) hx hb d_law_431 (by decide) ?_
  refine lv_iadd hx hb d_law_432 ?_
  refine lv_topi (fun v_13 ev_13 => ?_)
  have qv_13 := z_idx (k := 2) hi hL ev_13 li_2 (by decide)
  refine va_sld hx hb hX hbl hbA hS (i := v_13) qv_13 d_law_433 ?_
  refine lv_topi (fun v_14 ev_14 => ?_)
  obtain ⟨fs_15, hat_16⟩ := zb_Mo_at hm0
  refine z_callV (index := 64) (As := [.int v_12, .int v_14]) (rest := []) (wr := []) Z ((m_edge l G mA (v_12) (v_14)  (nu0) (xt0) (ro0) (ke0) (ik0) (un0) (tb0) m0 hm0).mid2 [(zo, .inl (G.2 1, 1, .inr (.inl f0)))] w_9 []) hl.1 q1428 q1429 q1430 q14 q1431 ⟨by decide, by decide, by show _ = some 2; decide +kernel⟩ ⟨Nat.le_of_ble_eq_true rfl, Nat.le_of_ble_eq_true rfl⟩ (show cells + 0 ≤ 601024 ∧ slots + 0 ≤ 7293034 from ⟨by omega, by omega⟩) rfl (Nat.le_of_ble_eq_true rfl) d_law_434 hP hD hS hA _ 12 (zw_at2 (a := [(zo, .inl (G.2 1, 1, .inr (.inl f0)))]) (x := w_9) (b := []) hat_16) rfl rfl (List.range _) [] (zw_range _) rfl (zw_nd _) rfl (by intro i h9; cases h9) (fun v w1 H locs hw_17 hP hD hS => ?_)
  obtain ⟨w_19, ⟨x_18, ⟨rfl⟩, hm_20⟩, rfl⟩ := hw_17
  have hP : va_P G.1 classes (zap [(zo, .inl (G.2 1, 1, .inr (.inl f0)))] (zap w_9 (zap w_19 []))) H := hP
  have hD : va_D (fun q : Nat => s.heap.size ≤ q) (zap [(zo, .inl (G.2 1, 1, .inr (.inl f0)))] (zap w_9 (zap w_19 []))) := hD
  refine W.widen (k := cells + 0) (n := slots + 0) (show cells + 0 ≤ cells + 0 from Nat.le_refl _) (show slots + 0 ≤ slots + 0 from Nat.le_refl _) ?_
  refine lv_pop hx hb d_law_437 rfl ?_
  refine lv_goto (tgt := 1067) hx hb d_law_438 (by decide) ?_
  refine W.widen (k := cells + 5) (n := slots + 520) (by omega) (by omega) ?_
  exact kk _ _ _ _ _ _ _ _ _ _ _ _ _ _ _ _ _ _ _ _ _ _ _ _ _ _ _ _ _ hx_10 hm_20 hR0 hP hD hS (lv_sub hl [0, 1, 2, 3, 4] rfl)
set_option maxHeartbeats 4000000 in
set_option maxRecDepth 100000 in
theorem law_10 {p : Program} {e : Env} {s : State} {m : MethodId} {below : List Frame} {meth : Method} {c : Code} (l : Launch) {b L : Nat} {xs : Nat → Int32} {G : zG} (hL : L ≤ 2560) (Z : zC p s m #[Value.ref b] meth c code 7 "TraceMachinesLaw" G) (hr : meth.sig.returnType = ret) (hX : va_X b L xs s s.heap) (hbl : b < s.heap.size)  {i : Int32} {cells slots : Nat} (hroom : cells + 5 ≤ 601024 ∧ slots + 520 ≤ 7293034) (hi : 0 ≤ i.toInt ∧ i.toInt + 5 ≤ (L : Int)) {xX xText xNow xRead xPast xKept xTree xFol xMs xTree2 xMa2 xRun xRan xWo xPa xCo xPr xOd xFi xM0 xM1 xM2 xM3 mA zo : Nat} {tn : Int32} {sg : Nat → Int32} {s0 : Bool} {s1 : Bool} {pn : Int32} {pc : Int32} {P : Nat → Nat → Int32} {K0 : Nat → Int32} {K1 : Nat → Int32} {Rd : Nat → Int32} {n : Int32} {d : Int32} {mg : Int32} {L : Nat → Int32} {F : Nat → Int32} {V : Nat → Int32} {f0 : Nat → Int64} {x0 m0 : va_W} {nu0 : Int32} {xt0 : Int32} {ro0 : Nat → Int32} {ke0 : Nat → Int32} {ik0 : Nat → Int32} {un0 : Nat → Int32} {tb0 : Nat → Int32} {H : Heap} {locs : List Loc} {ls : Array Slot} (hx0 : XS G xX xText xNow xRead xPast xKept xTree xFol xMs xTree2 xMa2 xRun xRan xWo xPa xCo xPr xOd xFi xM0 xM1 xM2 xM3 True tn sg s0 s1 pn pc P K0 K1 Rd n d mg L F V x0) (hm0 : zb_Mo G mA nu0 xt0 ro0 ke0 ik0 un0 tb0 m0) (hR0 : zRL (tn) (sg) (s0) (s1) (pn) (pc) (P) (K0) (K1) (zrow (n) (d) (mg) (L) (F) (V)) (xt0) (tb0) (ik0) (ro0) (un0) (ke0) (nu0)) (hP : va_P G.1 classes (zap [(zo, .inl (G.2 1, 1, .inr (.inl f0)))] (zap x0 (zap m0 []))) H) (hD : va_D (fun q : Nat => s.heap.size ≤ q) (zap [(zo, .inl (G.2 1, 1, .inr (.inl f0)))] (zap x0 (zap m0 [])))) (hS : va_S (fun q : Nat => s.heap.size ≤ q) s.heap H locs) (hl : lv_has ls 7 [(0, .ref b), (1, .ref xX), (2, .ref mA), (3, .ref zo), (4, .int i)]) (kk : ∀ (f1 : Nat → Int64) (x1 m1 : va_W) (nu_1 : Int32) (xt_1 : Int32) (ro_1 : Nat → Int32) (ke_1 : Nat → Int32) (ik_1 : Nat → Int32) (un_1 : Nat → Int32) (tb_1 : Nat → Int32) (tn_1 : Int32) (sg_1 : Nat → Int32) (s0_1 : Bool) (s1_1 : Bool) (pn_1 : Int32) (pc_1 : Int32) (P_1 : Nat → Nat → Int32) (K0_1 : Nat → Int32) (K1_1 : Nat → Int32) (Rd_1 : Nat → Int32) (n_1 : Int32) (d_1 : Int32) (mg_1 : Int32) (L_1 : Nat → Int32) (F_1 : Nat → Int32) (V_1 : Nat → Int32) (H : Heap) (locs : List Loc) (ls : Array Slot), XS G xX xText xNow xRead xPast xKept xTree xFol xMs xTree2 xMa2 xRun xRan xWo xPa xCo xPr xOd xFi xM0 xM1 xM2 xM3 True tn_1 sg_1 s0_1 s1_1 pn_1 pc_1 P_1 K0_1 K1_1 Rd_1 n_1 d_1 mg_1 L_1 F_1 V_1 x1 → zb_Mo G mA nu_1 xt_1 ro_1 ke_1 ik_1 un_1 tb_1 m1 → zRL (tn_1) (sg_1) (s0_1) (s1_1) (pn_1) (pc_1) (P_1) (K0_1) (K1_1) (zrow (n_1) (d_1) (mg_1) (L_1) (F_1) (V_1)) (xt_1) (tb_1) (ik_1) (ro_1) (un_1) (ke_1) (nu_1) → va_P G.1 classes (zap [(zo, .inl (G.2 1, 1, .inr (.inl f1)))] (zap x1 (zap m1 []))) H → va_D (fun q : Nat => s.heap.size ≤ q) (zap [(zo, .inl (G.2 1, 1, .inr (.inl f1)))] (zap x1 (zap m1 []))) → va_S (fun q : Nat => s.heap.size ≤ q) s.heap H locs → lv_has ls 7 [(0, .ref b), (1, .ref xX), (2, .ref mA), (3, .ref zo), (4, .int i)] → W p l e room_1 s m #[Value.ref b] below meth c H locs (cells + 5) (slots + 520) (lw_Z below #[Value.ref b] s) (F0 m 1067 ls [])) : W p l e room_1 s m #[Value.ref b] below meth c H locs cells slots (lw_Z below #[Value.ref b] s) (F0 m 441 ls []) := by
  obtain ⟨hx, hb, hml, hown, hts, hK, hN, hlocks⟩ := id Z
  have hbA : ¬ (fun q : Nat => s.heap.size ≤ q) b := Nat.not_le.mpr hbl
  have hA : ∀ q : Nat, s.heap.size ≤ q → (fun q : Nat => s.heap.size ≤ q) q := fun _ h => h
  refine lv_aload_n hx hb d_law_441 rfl (lv_at hl 1 rfl) ?_
  refine lv_aload_n hx hb d_law_442 rfl (lv_at hl 0 rfl) ?_
  refine lv_iload hx hb d_law_443 (lv_at hl 4 rfl) ?_
  refine lv_iconst (v := 1) hx hb d_law_445 (by decide) ?_
  refine lv_iadd hx hb d_law_446 ?_
  refine lv_topi (fun v_1 ev_1 => ?_)
  have qv_1 := z_idx (k := 1) hi hL ev_1 li_1 (by decide)
  refine va_sld hx hb hX hbl hbA hS (i := v_1) qv_1 d_law_447 ?_
  refine lv_topi (fun v_2 ev_2 => ?_)
  obtain ⟨fs_3, hat_4⟩ := XS_at hx0
  refine z_callV (index := 65) (As := [.int v_2]) (rest := []) (wr := []) Z ((x_vague l G xX xText xNow xRead xPast xKept xTree xFol xMs xTree2 xMa2 xRun xRan xWo xPa xCo xPr xOd xFi xM0 xM1 xM2 xM3 (v_2) (tn) (sg) (s0) (s1) (pn) (pc) (P) (K0) (K1) (Rd) (n) (d) (mg) (L) (F) (V) x0 hx0).mid [(zo, .inl (G.2 1, 1, .inr (.inl f0)))] (zap m0 [])) hl.1 q684 q685 q686 q1 q687 ⟨by decide, by decide, by show _ = some 1; decide +kernel⟩ ⟨Nat.le_of_ble_eq_true rfl, Nat.le_of_ble_eq_true rfl⟩ (show cells + 0 ≤ 601024 ∧ slots + 0 ≤ 7293034 from ⟨by omega, by omega⟩) rfl (Nat.le_of_ble_eq_true rfl) d_law_448 hP hD hS hA 1 0 (zw_at1 (a := [(zo, .inl (G.2 1, 1, .inr (.inl f0)))]) (b := zap m0 []) hat_4) rfl rfl (List.range _) [] (zw_range _) rfl (zw_nd _) rfl (by intro i h9; cases h9) (fun v w1 H locs hw_5 hP hD hS => ?_)
  obtain ⟨w_7, ⟨x_6, rfl, hx_8⟩, rfl⟩ := hw_5
  have hP : va_P G.1 classes (zap [(zo, .inl (G.2 1, 1, .inr (.inl f0)))] (zap w_7 (zap m0 []))) H := hP
  have hD : va_D (fun q : Nat => s.heap.size ≤ q) (zap [(zo, .inl (G.2 1, 1, .inr (.inl f0)))] (zap w_7 (zap m0 []))) := hD
  refine W.widen (k := cells + 0) (n := slots + 0) (show cells + 0 ≤ cells + 0 from Nat.le_refl _) (show slots + 0 ≤ slots + 0 from Nat.le_refl _) ?_
  refine lv_pop hx hb d_law_451 rfl ?_
  refine lv_aload_n hx hb d_law_452 rfl (lv_at hl 2 rfl) ?_
  refine lv_aload_n hx hb d_law_453 rfl (lv_at hl 0 rfl) ?_
  refine lv_iload hx hb d_law_454 (lv_at hl 4 rfl) ?_
  refine lv_iconst (v := 1) hx hb d_law_456 (by decide) ?_
  refine lv_iadd hx hb d_law_457 ?_
  refine lv_topi (fun v_9 ev_9 => ?_)
  have qv_9 := z_idx (k := 1) hi hL ev_9 li_1 (by decide)
  refine va_sld hx hb hX hbl hbA hS (i := v_9) qv_9 d_law_458 ?_
  refine lv_topi (fun v_10 ev_10 => ?_)
  obtain ⟨fs_11, hat_12⟩ := zb_Mo_at hm0
  refine z_callV (index := 68) (As := [.int v_10]) (rest := []) (wr := []) Z ((m_vague l G mA (v_10)  (nu0) (xt0) (ro0) (ke0) (ik0) (un0) (tb0) m0 hm0).mid2 [(zo, .inl (G.2 1, 1, .inr (.inl f0)))] w_7 []) hl.1 q1433 q1434 q1435 q14 q1436 ⟨by decide, by decide, by show _ = some 1; decide +kernel⟩ ⟨Nat.le_of_ble_eq_true rfl, Nat.le_of_ble_eq_true rfl⟩ (show cells + 0 ≤ 601024 ∧ slots + 0 ≤ 7293034 from ⟨by omega, by omega⟩) rfl (Nat.le_of_ble_eq_true rfl) d_law_459 hP hD hS hA _ 12 (zw_at2 (a := [(zo, .inl (G.2 1, 1, .inr (.inl f0)))]) (x := w_7) (b := []) hat_12) rfl rfl (List.range _) [] (zw_range _) rfl (zw_nd _) rfl (by intro i h9; cases h9) (fun v w1 H locs hw_13 hP hD hS => ?_)
  obtain ⟨w_15, ⟨x_14, ⟨rfl⟩, hm_16⟩, rfl⟩ := hw_13
  have hP : va_P G.1 classes (zap [(zo, .inl (G.2 1, 1, .inr (.inl f0)))] (zap w_7 (zap w_15 []))) H := hP
  have hD : va_D (fun q : Nat => s.heap.size ≤ q) (zap [(zo, .inl (G.2 1, 1, .inr (.inl f0)))] (zap w_7 (zap w_15 []))) := hD
  refine W.widen (k := cells + 0) (n := slots + 0) (show cells + 0 ≤ cells + 0 from Nat.le_refl _) (show slots + 0 ≤ slots + 0 from Nat.le_refl _) ?_
  refine lv_pop hx hb d_law_462 rfl ?_
  refine lv_goto (tgt := 1067) hx hb d_law_463 (by decide) ?_
  refine W.widen (k := cells + 5) (n := slots + 520) (by omega) (by omega) ?_
  exact kk _ _ _ _ _ _ _ _ _ _ _ _ _ _ _ _ _ _ _ _ _ _ _ _ _ _ _ _ _ hx_8 hm_16 hR0 hP hD hS (lv_sub hl [0, 1, 2, 3, 4] rfl)
set_option maxHeartbeats 4000000 in
set_option maxRecDepth 100000 in
theorem law_11 {p : Program} {e : Env} {s : State} {m : MethodId} {below : List Frame} {meth : Method} {c : Code} (l : Launch) {b L : Nat} {xs : Nat → Int32} {G : zG} (hL : L ≤ 2560) (Z : zC p s m #[Value.ref b] meth c code 7 "TraceMachinesLaw" G) (hr : meth.sig.returnType = ret) (hX : va_X b L xs s s.heap) (hbl : b < s.heap.size)  {i : Int32} {cells slots : Nat} (hroom : cells + 5 ≤ 601024 ∧ slots + 520 ≤ 7293034) (hi : 0 ≤ i.toInt ∧ i.toInt + 5 ≤ (L : Int)) {xX xText xNow xRead xPast xKept xTree xFol xMs xTree2 xMa2 xRun xRan xWo xPa xCo xPr xOd xFi xM0 xM1 xM2 xM3 mA zo : Nat} {tn : Int32} {sg : Nat → Int32} {s0 : Bool} {s1 : Bool} {pn : Int32} {pc : Int32} {P : Nat → Nat → Int32} {K0 : Nat → Int32} {K1 : Nat → Int32} {Rd : Nat → Int32} {n : Int32} {d : Int32} {mg : Int32} {L : Nat → Int32} {F : Nat → Int32} {V : Nat → Int32} {f0 : Nat → Int64} {x0 m0 : va_W} {nu0 : Int32} {xt0 : Int32} {ro0 : Nat → Int32} {ke0 : Nat → Int32} {ik0 : Nat → Int32} {un0 : Nat → Int32} {tb0 : Nat → Int32} {H : Heap} {locs : List Loc} {ls : Array Slot} (hx0 : XS G xX xText xNow xRead xPast xKept xTree xFol xMs xTree2 xMa2 xRun xRan xWo xPa xCo xPr xOd xFi xM0 xM1 xM2 xM3 True tn sg s0 s1 pn pc P K0 K1 Rd n d mg L F V x0) (hm0 : zb_Mo G mA nu0 xt0 ro0 ke0 ik0 un0 tb0 m0) (hR0 : zRL (tn) (sg) (s0) (s1) (pn) (pc) (P) (K0) (K1) (zrow (n) (d) (mg) (L) (F) (V)) (xt0) (tb0) (ik0) (ro0) (un0) (ke0) (nu0)) (hP : va_P G.1 classes (zap [(zo, .inl (G.2 1, 1, .inr (.inl f0)))] (zap x0 (zap m0 []))) H) (hD : va_D (fun q : Nat => s.heap.size ≤ q) (zap [(zo, .inl (G.2 1, 1, .inr (.inl f0)))] (zap x0 (zap m0 [])))) (hS : va_S (fun q : Nat => s.heap.size ≤ q) s.heap H locs) (hl : lv_has ls 7 [(0, .ref b), (1, .ref xX), (2, .ref mA), (3, .ref zo), (4, .int i)]) (kk : ∀ (f1 : Nat → Int64) (x1 m1 : va_W) (nu_1 : Int32) (xt_1 : Int32) (ro_1 : Nat → Int32) (ke_1 : Nat → Int32) (ik_1 : Nat → Int32) (un_1 : Nat → Int32) (tb_1 : Nat → Int32) (tn_1 : Int32) (sg_1 : Nat → Int32) (s0_1 : Bool) (s1_1 : Bool) (pn_1 : Int32) (pc_1 : Int32) (P_1 : Nat → Nat → Int32) (K0_1 : Nat → Int32) (K1_1 : Nat → Int32) (Rd_1 : Nat → Int32) (n_1 : Int32) (d_1 : Int32) (mg_1 : Int32) (L_1 : Nat → Int32) (F_1 : Nat → Int32) (V_1 : Nat → Int32) (H : Heap) (locs : List Loc) (ls : Array Slot), XS G xX xText xNow xRead xPast xKept xTree xFol xMs xTree2 xMa2 xRun xRan xWo xPa xCo xPr xOd xFi xM0 xM1 xM2 xM3 True tn_1 sg_1 s0_1 s1_1 pn_1 pc_1 P_1 K0_1 K1_1 Rd_1 n_1 d_1 mg_1 L_1 F_1 V_1 x1 → zb_Mo G mA nu_1 xt_1 ro_1 ke_1 ik_1 un_1 tb_1 m1 → zRL (tn_1) (sg_1) (s0_1) (s1_1) (pn_1) (pc_1) (P_1) (K0_1) (K1_1) (zrow (n_1) (d_1) (mg_1) (L_1) (F_1) (V_1)) (xt_1) (tb_1) (ik_1) (ro_1) (un_1) (ke_1) (nu_1) → va_P G.1 classes (zap [(zo, .inl (G.2 1, 1, .inr (.inl f1)))] (zap x1 (zap m1 []))) H → va_D (fun q : Nat => s.heap.size ≤ q) (zap [(zo, .inl (G.2 1, 1, .inr (.inl f1)))] (zap x1 (zap m1 []))) → va_S (fun q : Nat => s.heap.size ≤ q) s.heap H locs → lv_has ls 7 [(0, .ref b), (1, .ref xX), (2, .ref mA), (3, .ref zo), (4, .int i)] → W p l e room_1 s m #[Value.ref b] below meth c H locs (cells + 5) (slots + 520) (lw_Z below #[Value.ref b] s) (F0 m 1067 ls [])) : W p l e room_1 s m #[Value.ref b] below meth c H locs cells slots (lw_Z below #[Value.ref b] s) (F0 m 466 ls []) := by
  obtain ⟨hx, hb, hml, hown, hts, hK, hN, hlocks⟩ := id Z
  have hbA : ¬ (fun q : Nat => s.heap.size ≤ q) b := Nat.not_le.mpr hbl
  have hA : ∀ q : Nat, s.heap.size ≤ q → (fun q : Nat => s.heap.size ≤ q) q := fun _ h => h
  refine lv_aload_n hx hb d_law_466 rfl (lv_at hl 1 rfl) ?_
  refine lv_aload_n hx hb d_law_467 rfl (lv_at hl 0 rfl) ?_
  refine lv_iload hx hb d_law_468 (lv_at hl 4 rfl) ?_
  refine lv_iconst (v := 1) hx hb d_law_470 (by decide) ?_
  refine lv_iadd hx hb d_law_471 ?_
  refine lv_topi (fun v_1 ev_1 => ?_)
  have qv_1 := z_idx (k := 1) hi hL ev_1 li_1 (by decide)
  refine va_sld hx hb hX hbl hbA hS (i := v_1) qv_1 d_law_472 ?_
  refine lv_topi (fun v_2 ev_2 => ?_)
  refine lv_if_eq (tgt := 480) hx hb d_law_473 (by decide) (fun _ => ?_) (fun _ => ?_)
  · refine lv_iconst (v := 0) hx hb d_law_480 (by decide) ?_
    obtain ⟨fs_3, hat_4⟩ := XS_at hx0
    refine z_callV (index := 69) (As := [.int 0]) (rest := []) (wr := []) Z ((x_run l G xX xText xNow xRead xPast xKept xTree xFol xMs xTree2 xMa2 xRun xRan xWo xPa xCo xPr xOd xFi xM0 xM1 xM2 xM3 (0) (tn) (sg) (s0) (s1) (pn) (pc) (P) (K0) (K1) (Rd) (n) (d) (mg) (L) (F) (V) x0 (zI.wk (l' := 0) (h' := 1) zc_0 (by decide)) hx0).mid [(zo, .inl (G.2 1, 1, .inr (.inl f0)))] (zap m0 [])) hl.1 q692 q693 q694 q1 q695 ⟨by decide, by decide, by show _ = some 1; decide +kernel⟩ ⟨Nat.le_of_ble_eq_true rfl, Nat.le_of_ble_eq_true rfl⟩ (show cells + 0 ≤ 601024 ∧ slots + 0 ≤ 7293034 from ⟨by omega, by omega⟩) rfl (Nat.le_of_ble_eq_true rfl) d_law_481 hP hD hS hA 1 0 (zw_at1 (a := [(zo, .inl (G.2 1, 1, .inr (.inl f0)))]) (b := zap m0 []) hat_4) rfl rfl (List.range _) [] (zw_range _) rfl (zw_nd _) rfl (by intro i h9; cases h9) (fun v w1 H locs hw_5 hP hD hS => ?_)
    obtain ⟨w_9, ⟨x_6, x_7, x_8, rfl, hx_10, hf_11⟩, rfl⟩ := hw_5
    have hP : va_P G.1 classes (zap [(zo, .inl (G.2 1, 1, .inr (.inl f0)))] (zap w_9 (zap m0 []))) H := hP
    have hD : va_D (fun q : Nat => s.heap.size ≤ q) (zap [(zo, .inl (G.2 1, 1, .inr (.inl f0)))] (zap w_9 (zap m0 []))) := hD
    refine W.widen (k := cells + 0) (n := slots + 0) (show cells + 0 ≤ cells + 0 from Nat.le_refl _) (show slots + 0 ≤ slots + 0 from Nat.le_refl _) ?_
    refine lv_pop hx hb d_law_484 rfl ?_
    refine lv_aload_n hx hb d_law_485 rfl (lv_at hl 2 rfl) ?_
    refine lv_aload_n hx hb d_law_486 rfl (lv_at hl 0 rfl) ?_
    refine lv_iload hx hb d_law_487 (lv_at hl 4 rfl) ?_
    refine lv_iconst (v := 1) hx hb d_law_489 (by decide) ?_
    refine lv_iadd hx hb d_law_490 ?_
    refine lv_topi (fun v_12 ev_12 => ?_)
    have qv_12 := z_idx (k := 1) hi hL ev_12 li_1 (by decide)
    refine va_sld hx hb hX hbl hbA hS (i := v_12) qv_12 d_law_491 ?_
    refine lv_topi (fun v_13 ev_13 => ?_)
    refine lv_if_eq (tgt := 499) hx hb d_law_492 (by decide) (fun _ => ?_) (fun _ => ?_)
    · refine lv_iconst (v := 0) hx hb d_law_499 (by decide) ?_
      obtain ⟨fs_14, hat_15⟩ := zb_Mo_at hm0
      refine z_callV (index := 73) (As := [.int 0]) (rest := []) (wr := []) Z ((m_run l G mA (0) (zI.wk (l' := 0) (h' := 1) zc_0 (by decide)) (nu0) (xt0) (ro0) (ke0) (ik0) (un0) (tb0) m0 hm0).mid2 [(zo, .inl (G.2 1, 1, .inr (.inl f0)))] w_9 []) hl.1 q1445 q1446 q1447 q14 q1448 ⟨by decide, by decide, by show _ = some 1; decide +kernel⟩ ⟨Nat.le_of_ble_eq_true rfl, Nat.le_of_ble_eq_true rfl⟩ (show cells + 0 ≤ 601024 ∧ slots + 0 ≤ 7293034 from ⟨by omega, by omega⟩) rfl (Nat.le_of_ble_eq_true rfl) d_law_500 hP hD hS hA _ 12 (zw_at2 (a := [(zo, .inl (G.2 1, 1, .inr (.inl f0)))]) (x := w_9) (b := []) hat_15) rfl rfl (List.range _) [] (zw_range _) rfl (zw_nd _) rfl (by intro i h9; cases h9) (fun v w1 H locs hw_16 hP hD hS => ?_)
      obtain ⟨w_18, ⟨x_17, ⟨rfl⟩, hm_19⟩, rfl⟩ := hw_16
      have hP : va_P G.1 classes (zap [(zo, .inl (G.2 1, 1, .inr (.inl f0)))] (zap w_9 (zap w_18 []))) H := hP
      have hD : va_D (fun q : Nat => s.heap.size ≤ q) (zap [(zo, .inl (G.2 1, 1, .inr (.inl f0)))] (zap w_9 (zap w_18 []))) := hD
      refine W.widen (k := cells + 0) (n := slots + 0) (show cells + 0 ≤ cells + 0 from Nat.le_refl _) (show slots + 0 ≤ slots + 0 from Nat.le_refl _) ?_
      have hqr := zRL_run (xt1 := 0) hR0 hf_11 li_0
      refine lv_pop hx hb d_law_503 rfl ?_
      refine lv_goto (tgt := 1067) hx hb d_law_504 (by decide) ?_
      refine W.widen (k := cells + 5) (n := slots + 520) (by omega) (by omega) ?_
      exact kk _ _ _ _ _ _ _ _ _ _ _ _ _ _ _ _ _ _ _ _ _ _ _ _ _ _ _ _ _ hx_10 hm_19 (hqr) hP hD hS (lv_sub hl [0, 1, 2, 3, 4] rfl)
    · refine lv_iconst (v := 1) hx hb d_law_495 (by decide) ?_
      refine lv_goto (tgt := 500) hx hb d_law_496 (by decide) ?_
      obtain ⟨fs_20, hat_21⟩ := zb_Mo_at hm0
      refine z_callV (index := 73) (As := [.int 1]) (rest := []) (wr := []) Z ((m_run l G mA (1) (zI.wk (l' := 0) (h' := 1) zc_1 (by decide)) (nu0) (xt0) (ro0) (ke0) (ik0) (un0) (tb0) m0 hm0).mid2 [(zo, .inl (G.2 1, 1, .inr (.inl f0)))] w_9 []) hl.1 q1445 q1446 q1447 q14 q1448 ⟨by decide, by decide, by show _ = some 1; decide +kernel⟩ ⟨Nat.le_of_ble_eq_true rfl, Nat.le_of_ble_eq_true rfl⟩ (show cells + 0 ≤ 601024 ∧ slots + 0 ≤ 7293034 from ⟨by omega, by omega⟩) rfl (Nat.le_of_ble_eq_true rfl) d_law_500 hP hD hS hA _ 12 (zw_at2 (a := [(zo, .inl (G.2 1, 1, .inr (.inl f0)))]) (x := w_9) (b := []) hat_21) rfl rfl (List.range _) [] (zw_range _) rfl (zw_nd _) rfl (by intro i h9; cases h9) (fun v w1 H locs hw_22 hP hD hS => ?_)
      obtain ⟨w_24, ⟨x_23, ⟨rfl⟩, hm_25⟩, rfl⟩ := hw_22
      have hP : va_P G.1 classes (zap [(zo, .inl (G.2 1, 1, .inr (.inl f0)))] (zap w_9 (zap w_24 []))) H := hP
      have hD : va_D (fun q : Nat => s.heap.size ≤ q) (zap [(zo, .inl (G.2 1, 1, .inr (.inl f0)))] (zap w_9 (zap w_24 []))) := hD
      refine W.widen (k := cells + 0) (n := slots + 0) (show cells + 0 ≤ cells + 0 from Nat.le_refl _) (show slots + 0 ≤ slots + 0 from Nat.le_refl _) ?_
      have hqr := zRL_run (xt1 := 0) hR0 hf_11 li_0
      refine lv_pop hx hb d_law_503 rfl ?_
      refine lv_goto (tgt := 1067) hx hb d_law_504 (by decide) ?_
      refine W.widen (k := cells + 5) (n := slots + 520) (by omega) (by omega) ?_
      exact kk _ _ _ _ _ _ _ _ _ _ _ _ _ _ _ _ _ _ _ _ _ _ _ _ _ _ _ _ _ hx_10 hm_25 (hqr) hP hD hS (lv_sub hl [0, 1, 2, 3, 4] rfl)
  · refine lv_iconst (v := 1) hx hb d_law_476 (by decide) ?_
    refine lv_goto (tgt := 481) hx hb d_law_477 (by decide) ?_
    obtain ⟨fs_26, hat_27⟩ := XS_at hx0
    refine z_callV (index := 69) (As := [.int 1]) (rest := []) (wr := []) Z ((x_run l G xX xText xNow xRead xPast xKept xTree xFol xMs xTree2 xMa2 xRun xRan xWo xPa xCo xPr xOd xFi xM0 xM1 xM2 xM3 (1) (tn) (sg) (s0) (s1) (pn) (pc) (P) (K0) (K1) (Rd) (n) (d) (mg) (L) (F) (V) x0 (zI.wk (l' := 0) (h' := 1) zc_1 (by decide)) hx0).mid [(zo, .inl (G.2 1, 1, .inr (.inl f0)))] (zap m0 [])) hl.1 q692 q693 q694 q1 q695 ⟨by decide, by decide, by show _ = some 1; decide +kernel⟩ ⟨Nat.le_of_ble_eq_true rfl, Nat.le_of_ble_eq_true rfl⟩ (show cells + 0 ≤ 601024 ∧ slots + 0 ≤ 7293034 from ⟨by omega, by omega⟩) rfl (Nat.le_of_ble_eq_true rfl) d_law_481 hP hD hS hA 1 0 (zw_at1 (a := [(zo, .inl (G.2 1, 1, .inr (.inl f0)))]) (b := zap m0 []) hat_27) rfl rfl (List.range _) [] (zw_range _) rfl (zw_nd _) rfl (by intro i h9; cases h9) (fun v w1 H locs hw_28 hP hD hS => ?_)
    obtain ⟨w_32, ⟨x_29, x_30, x_31, rfl, hx_33, hf_34⟩, rfl⟩ := hw_28
    have hP : va_P G.1 classes (zap [(zo, .inl (G.2 1, 1, .inr (.inl f0)))] (zap w_32 (zap m0 []))) H := hP
    have hD : va_D (fun q : Nat => s.heap.size ≤ q) (zap [(zo, .inl (G.2 1, 1, .inr (.inl f0)))] (zap w_32 (zap m0 []))) := hD
    refine W.widen (k := cells + 0) (n := slots + 0) (show cells + 0 ≤ cells + 0 from Nat.le_refl _) (show slots + 0 ≤ slots + 0 from Nat.le_refl _) ?_
    refine lv_pop hx hb d_law_484 rfl ?_
    refine lv_aload_n hx hb d_law_485 rfl (lv_at hl 2 rfl) ?_
    refine lv_aload_n hx hb d_law_486 rfl (lv_at hl 0 rfl) ?_
    refine lv_iload hx hb d_law_487 (lv_at hl 4 rfl) ?_
    refine lv_iconst (v := 1) hx hb d_law_489 (by decide) ?_
    refine lv_iadd hx hb d_law_490 ?_
    refine lv_topi (fun v_35 ev_35 => ?_)
    have qv_35 := z_idx (k := 1) hi hL ev_35 li_1 (by decide)
    refine va_sld hx hb hX hbl hbA hS (i := v_35) qv_35 d_law_491 ?_
    refine lv_topi (fun v_36 ev_36 => ?_)
    refine lv_if_eq (tgt := 499) hx hb d_law_492 (by decide) (fun _ => ?_) (fun _ => ?_)
    · refine lv_iconst (v := 0) hx hb d_law_499 (by decide) ?_
      obtain ⟨fs_37, hat_38⟩ := zb_Mo_at hm0
      refine z_callV (index := 73) (As := [.int 0]) (rest := []) (wr := []) Z ((m_run l G mA (0) (zI.wk (l' := 0) (h' := 1) zc_0 (by decide)) (nu0) (xt0) (ro0) (ke0) (ik0) (un0) (tb0) m0 hm0).mid2 [(zo, .inl (G.2 1, 1, .inr (.inl f0)))] w_32 []) hl.1 q1445 q1446 q1447 q14 q1448 ⟨by decide, by decide, by show _ = some 1; decide +kernel⟩ ⟨Nat.le_of_ble_eq_true rfl, Nat.le_of_ble_eq_true rfl⟩ (show cells + 0 ≤ 601024 ∧ slots + 0 ≤ 7293034 from ⟨by omega, by omega⟩) rfl (Nat.le_of_ble_eq_true rfl) d_law_500 hP hD hS hA _ 12 (zw_at2 (a := [(zo, .inl (G.2 1, 1, .inr (.inl f0)))]) (x := w_32) (b := []) hat_38) rfl rfl (List.range _) [] (zw_range _) rfl (zw_nd _) rfl (by intro i h9; cases h9) (fun v w1 H locs hw_39 hP hD hS => ?_)
      obtain ⟨w_41, ⟨x_40, ⟨rfl⟩, hm_42⟩, rfl⟩ := hw_39
      have hP : va_P G.1 classes (zap [(zo, .inl (G.2 1, 1, .inr (.inl f0)))] (zap w_32 (zap w_41 []))) H := hP
      have hD : va_D (fun q : Nat => s.heap.size ≤ q) (zap [(zo, .inl (G.2 1, 1, .inr (.inl f0)))] (zap w_32 (zap w_41 []))) := hD
      refine W.widen (k := cells + 0) (n := slots + 0) (show cells + 0 ≤ cells + 0 from Nat.le_refl _) (show slots + 0 ≤ slots + 0 from Nat.le_refl _) ?_
      have hqr := zRL_run (xt1 := 0) hR0 hf_34 li_0
      refine lv_pop hx hb d_law_503 rfl ?_
      refine lv_goto (tgt := 1067) hx hb d_law_504 (by decide) ?_
      refine W.widen (k := cells + 5) (n := slots + 520) (by omega) (by omega) ?_
      exact kk _ _ _ _ _ _ _ _ _ _ _ _ _ _ _ _ _ _ _ _ _ _ _ _ _ _ _ _ _ hx_33 hm_42 (hqr) hP hD hS (lv_sub hl [0, 1, 2, 3, 4] rfl)
    · refine lv_iconst (v := 1) hx hb d_law_495 (by decide) ?_
      refine lv_goto (tgt := 500) hx hb d_law_496 (by decide) ?_
      obtain ⟨fs_43, hat_44⟩ := zb_Mo_at hm0
      refine z_callV (index := 73) (As := [.int 1]) (rest := []) (wr := []) Z ((m_run l G mA (1) (zI.wk (l' := 0) (h' := 1) zc_1 (by decide)) (nu0) (xt0) (ro0) (ke0) (ik0) (un0) (tb0) m0 hm0).mid2 [(zo, .inl (G.2 1, 1, .inr (.inl f0)))] w_32 []) hl.1 q1445 q1446 q1447 q14 q1448 ⟨by decide, by decide, by show _ = some 1; decide +kernel⟩ ⟨Nat.le_of_ble_eq_true rfl, Nat.le_of_ble_eq_true rfl⟩ (show cells + 0 ≤ 601024 ∧ slots + 0 ≤ 7293034 from ⟨by omega, by omega⟩) rfl (Nat.le_of_ble_eq_true rfl) d_law_500 hP hD hS hA _ 12 (zw_at2 (a := [(zo, .inl (G.2 1, 1, .inr (.inl f0)))]) (x := w_32) (b := []) hat_44) rfl rfl (List.range _) [] (zw_range _) rfl (zw_nd _) rfl (by intro i h9; cases h9) (fun v w1 H locs hw_45 hP hD hS => ?_)
      obtain ⟨w_47, ⟨x_46, ⟨rfl⟩, hm_48⟩, rfl⟩ := hw_45
      have hP : va_P G.1 classes (zap [(zo, .inl (G.2 1, 1, .inr (.inl f0)))] (zap w_32 (zap w_47 []))) H := hP
      have hD : va_D (fun q : Nat => s.heap.size ≤ q) (zap [(zo, .inl (G.2 1, 1, .inr (.inl f0)))] (zap w_32 (zap w_47 []))) := hD
      refine W.widen (k := cells + 0) (n := slots + 0) (show cells + 0 ≤ cells + 0 from Nat.le_refl _) (show slots + 0 ≤ slots + 0 from Nat.le_refl _) ?_
      have hqr := zRL_run (xt1 := 0) hR0 hf_34 li_0
      refine lv_pop hx hb d_law_503 rfl ?_
      refine lv_goto (tgt := 1067) hx hb d_law_504 (by decide) ?_
      refine W.widen (k := cells + 5) (n := slots + 520) (by omega) (by omega) ?_
      exact kk _ _ _ _ _ _ _ _ _ _ _ _ _ _ _ _ _ _ _ _ _ _ _ _ _ _ _ _ _ hx_33 hm_48 (hqr) hP hD hS (lv_sub hl [0, 1, 2, 3, 4] rfl)
set_option maxHeartbeats 4000000 in
set_option maxRecDepth 100000 in
theorem law_12 {p : Program} {e : Env} {s : State} {m : MethodId} {below : List Frame} {meth : Method} {c : Code} (l : Launch) {b L : Nat} {xs : Nat → Int32} {G : zG} (hL : L ≤ 2560) (Z : zC p s m #[Value.ref b] meth c code 7 "TraceMachinesLaw" G) (hr : meth.sig.returnType = ret) (hX : va_X b L xs s s.heap) (hbl : b < s.heap.size)  {i : Int32} {cells slots : Nat} (hroom : cells + 5 ≤ 601024 ∧ slots + 520 ≤ 7293034) (hi : 0 ≤ i.toInt ∧ i.toInt + 5 ≤ (L : Int)) {xX xText xNow xRead xPast xKept xTree xFol xMs xTree2 xMa2 xRun xRan xWo xPa xCo xPr xOd xFi xM0 xM1 xM2 xM3 mA zo : Nat} {tn : Int32} {sg : Nat → Int32} {s0 : Bool} {s1 : Bool} {pn : Int32} {pc : Int32} {P : Nat → Nat → Int32} {K0 : Nat → Int32} {K1 : Nat → Int32} {Rd : Nat → Int32} {n : Int32} {d : Int32} {mg : Int32} {L : Nat → Int32} {F : Nat → Int32} {V : Nat → Int32} {f0 : Nat → Int64} {x0 m0 : va_W} {nu0 : Int32} {xt0 : Int32} {ro0 : Nat → Int32} {ke0 : Nat → Int32} {ik0 : Nat → Int32} {un0 : Nat → Int32} {tb0 : Nat → Int32} {H : Heap} {locs : List Loc} {ls : Array Slot} (hx0 : XS G xX xText xNow xRead xPast xKept xTree xFol xMs xTree2 xMa2 xRun xRan xWo xPa xCo xPr xOd xFi xM0 xM1 xM2 xM3 True tn sg s0 s1 pn pc P K0 K1 Rd n d mg L F V x0) (hm0 : zb_Mo G mA nu0 xt0 ro0 ke0 ik0 un0 tb0 m0) (hR0 : zRL (tn) (sg) (s0) (s1) (pn) (pc) (P) (K0) (K1) (zrow (n) (d) (mg) (L) (F) (V)) (xt0) (tb0) (ik0) (ro0) (un0) (ke0) (nu0)) (hP : va_P G.1 classes (zap [(zo, .inl (G.2 1, 1, .inr (.inl f0)))] (zap x0 (zap m0 []))) H) (hD : va_D (fun q : Nat => s.heap.size ≤ q) (zap [(zo, .inl (G.2 1, 1, .inr (.inl f0)))] (zap x0 (zap m0 [])))) (hS : va_S (fun q : Nat => s.heap.size ≤ q) s.heap H locs) (hl : lv_has ls 7 [(0, .ref b), (1, .ref xX), (2, .ref mA), (3, .ref zo), (4, .int i)]) (kk : ∀ (f1 : Nat → Int64) (x1 m1 : va_W) (nu_1 : Int32) (xt_1 : Int32) (ro_1 : Nat → Int32) (ke_1 : Nat → Int32) (ik_1 : Nat → Int32) (un_1 : Nat → Int32) (tb_1 : Nat → Int32) (tn_1 : Int32) (sg_1 : Nat → Int32) (s0_1 : Bool) (s1_1 : Bool) (pn_1 : Int32) (pc_1 : Int32) (P_1 : Nat → Nat → Int32) (K0_1 : Nat → Int32) (K1_1 : Nat → Int32) (Rd_1 : Nat → Int32) (n_1 : Int32) (d_1 : Int32) (mg_1 : Int32) (L_1 : Nat → Int32) (F_1 : Nat → Int32) (V_1 : Nat → Int32) (H : Heap) (locs : List Loc) (ls : Array Slot), XS G xX xText xNow xRead xPast xKept xTree xFol xMs xTree2 xMa2 xRun xRan xWo xPa xCo xPr xOd xFi xM0 xM1 xM2 xM3 True tn_1 sg_1 s0_1 s1_1 pn_1 pc_1 P_1 K0_1 K1_1 Rd_1 n_1 d_1 mg_1 L_1 F_1 V_1 x1 → zb_Mo G mA nu_1 xt_1 ro_1 ke_1 ik_1 un_1 tb_1 m1 → zRL (tn_1) (sg_1) (s0_1) (s1_1) (pn_1) (pc_1) (P_1) (K0_1) (K1_1) (zrow (n_1) (d_1) (mg_1) (L_1) (F_1) (V_1)) (xt_1) (tb_1) (ik_1) (ro_1) (un_1) (ke_1) (nu_1) → va_P G.1 classes (zap [(zo, .inl (G.2 1, 1, .inr (.inl f1)))] (zap x1 (zap m1 []))) H → va_D (fun q : Nat => s.heap.size ≤ q) (zap [(zo, .inl (G.2 1, 1, .inr (.inl f1)))] (zap x1 (zap m1 []))) → va_S (fun q : Nat => s.heap.size ≤ q) s.heap H locs → lv_has ls 7 [(0, .ref b), (1, .ref xX), (2, .ref mA), (3, .ref zo), (4, .int i)] → W p l e room_1 s m #[Value.ref b] below meth c H locs (cells + 5) (slots + 520) (lw_Z below #[Value.ref b] s) (F0 m 1067 ls [])) : W p l e room_1 s m #[Value.ref b] below meth c H locs cells slots (lw_Z below #[Value.ref b] s) (F0 m 507 ls []) := by
  obtain ⟨hx, hb, hml, hown, hts, hK, hN, hlocks⟩ := id Z
  have hbA : ¬ (fun q : Nat => s.heap.size ≤ q) b := Nat.not_le.mpr hbl
  have hA : ∀ q : Nat, s.heap.size ≤ q → (fun q : Nat => s.heap.size ≤ q) q := fun _ h => h
  refine lv_aload_n hx hb d_law_507 rfl (lv_at hl 1 rfl) ?_
  refine lv_aload_n hx hb d_law_508 rfl (lv_at hl 0 rfl) ?_
  refine lv_iload hx hb d_law_509 (lv_at hl 4 rfl) ?_
  refine lv_iconst (v := 1) hx hb d_law_511 (by decide) ?_
  refine lv_iadd hx hb d_law_512 ?_
  refine lv_topi (fun v_1 ev_1 => ?_)
  have qv_1 := z_idx (k := 1) hi hL ev_1 li_1 (by decide)
  refine va_sld hx hb hX hbl hbA hS (i := v_1) qv_1 d_law_513 ?_
  refine lv_topi (fun v_2 ev_2 => ?_)
  obtain ⟨fs_3, hat_4⟩ := XS_at hx0
  refine z_callV (index := 74) (As := [.int v_2]) (rest := []) (wr := []) Z ((x_ran l G xX xText xNow xRead xPast xKept xTree xFol xMs xTree2 xMa2 xRun xRan xWo xPa xCo xPr xOd xFi xM0 xM1 xM2 xM3 (v_2) (tn) (sg) (s0) (s1) (pn) (pc) (P) (K0) (K1) (Rd) (n) (d) (mg) (L) (F) (V) x0 hx0).mid [(zo, .inl (G.2 1, 1, .inr (.inl f0)))] (zap m0 [])) hl.1 q755 q756 q757 q1 q758 ⟨by decide, by decide, by show _ = some 1; decide +kernel⟩ ⟨Nat.le_of_ble_eq_true rfl, Nat.le_of_ble_eq_true rfl⟩ (show cells + 0 ≤ 601024 ∧ slots + 0 ≤ 7293034 from ⟨by omega, by omega⟩) rfl (Nat.le_of_ble_eq_true rfl) d_law_514 hP hD hS hA 1 0 (zw_at1 (a := [(zo, .inl (G.2 1, 1, .inr (.inl f0)))]) (b := zap m0 []) hat_4) rfl rfl (List.range _) [] (zw_range _) rfl (zw_nd _) rfl (by intro i h9; cases h9) (fun v w1 H locs hw_5 hP hD hS => ?_)
  obtain ⟨w_7, ⟨x_6, rfl, hx_8⟩, rfl⟩ := hw_5
  have hP : va_P G.1 classes (zap [(zo, .inl (G.2 1, 1, .inr (.inl f0)))] (zap w_7 (zap m0 []))) H := hP
  have hD : va_D (fun q : Nat => s.heap.size ≤ q) (zap [(zo, .inl (G.2 1, 1, .inr (.inl f0)))] (zap w_7 (zap m0 []))) := hD
  refine W.widen (k := cells + 0) (n := slots + 0) (show cells + 0 ≤ cells + 0 from Nat.le_refl _) (show slots + 0 ≤ slots + 0 from Nat.le_refl _) ?_
  refine lv_pop hx hb d_law_517 rfl ?_
  refine lv_aload_n hx hb d_law_518 rfl (lv_at hl 2 rfl) ?_
  refine lv_aload_n hx hb d_law_519 rfl (lv_at hl 0 rfl) ?_
  refine lv_iload hx hb d_law_520 (lv_at hl 4 rfl) ?_
  refine lv_iconst (v := 1) hx hb d_law_522 (by decide) ?_
  refine lv_iadd hx hb d_law_523 ?_
  refine lv_topi (fun v_9 ev_9 => ?_)
  have qv_9 := z_idx (k := 1) hi hL ev_9 li_1 (by decide)
  refine va_sld hx hb hX hbl hbA hS (i := v_9) qv_9 d_law_524 ?_
  refine lv_topi (fun v_10 ev_10 => ?_)
  obtain ⟨fs_11, hat_12⟩ := zb_Mo_at hm0
  refine z_callV (index := 77) (As := [.int v_10]) (rest := []) (wr := []) Z ((m_ran l G mA (v_10)  (nu0) (xt0) (ro0) (ke0) (ik0) (un0) (tb0) m0 hm0).mid2 [(zo, .inl (G.2 1, 1, .inr (.inl f0)))] w_7 []) hl.1 q1471 q1472 q1473 q14 q1474 ⟨by decide, by decide, by show _ = some 1; decide +kernel⟩ ⟨Nat.le_of_ble_eq_true rfl, Nat.le_of_ble_eq_true rfl⟩ (show cells + 0 ≤ 601024 ∧ slots + 0 ≤ 7293034 from ⟨by omega, by omega⟩) rfl (Nat.le_of_ble_eq_true rfl) d_law_525 hP hD hS hA _ 12 (zw_at2 (a := [(zo, .inl (G.2 1, 1, .inr (.inl f0)))]) (x := w_7) (b := []) hat_12) rfl rfl (List.range _) [] (zw_range _) rfl (zw_nd _) rfl (by intro i h9; cases h9) (fun v w1 H locs hw_13 hP hD hS => ?_)
  obtain ⟨w_15, ⟨x_14, ⟨rfl⟩, hm_16⟩, rfl⟩ := hw_13
  have hP : va_P G.1 classes (zap [(zo, .inl (G.2 1, 1, .inr (.inl f0)))] (zap w_7 (zap w_15 []))) H := hP
  have hD : va_D (fun q : Nat => s.heap.size ≤ q) (zap [(zo, .inl (G.2 1, 1, .inr (.inl f0)))] (zap w_7 (zap w_15 []))) := hD
  refine W.widen (k := cells + 0) (n := slots + 0) (show cells + 0 ≤ cells + 0 from Nat.le_refl _) (show slots + 0 ≤ slots + 0 from Nat.le_refl _) ?_
  refine lv_pop hx hb d_law_528 rfl ?_
  refine lv_goto (tgt := 1067) hx hb d_law_529 (by decide) ?_
  refine W.widen (k := cells + 5) (n := slots + 520) (by omega) (by omega) ?_
  exact kk _ _ _ _ _ _ _ _ _ _ _ _ _ _ _ _ _ _ _ _ _ _ _ _ _ _ _ _ _ hx_8 hm_16 hR0 hP hD hS (lv_sub hl [0, 1, 2, 3, 4] rfl)
set_option maxHeartbeats 4000000 in
set_option maxRecDepth 100000 in
theorem law_13 {p : Program} {e : Env} {s : State} {m : MethodId} {below : List Frame} {meth : Method} {c : Code} (l : Launch) {b L : Nat} {xs : Nat → Int32} {G : zG} (hL : L ≤ 2560) (Z : zC p s m #[Value.ref b] meth c code 7 "TraceMachinesLaw" G) (hr : meth.sig.returnType = ret) (hX : va_X b L xs s s.heap) (hbl : b < s.heap.size)  {i : Int32} {cells slots : Nat} (hroom : cells + 5 ≤ 601024 ∧ slots + 520 ≤ 7293034) (hi : 0 ≤ i.toInt ∧ i.toInt + 5 ≤ (L : Int)) {xX xText xNow xRead xPast xKept xTree xFol xMs xTree2 xMa2 xRun xRan xWo xPa xCo xPr xOd xFi xM0 xM1 xM2 xM3 mA zo : Nat} {tn : Int32} {sg : Nat → Int32} {s0 : Bool} {s1 : Bool} {pn : Int32} {pc : Int32} {P : Nat → Nat → Int32} {K0 : Nat → Int32} {K1 : Nat → Int32} {Rd : Nat → Int32} {n : Int32} {d : Int32} {mg : Int32} {L : Nat → Int32} {F : Nat → Int32} {V : Nat → Int32} {f0 : Nat → Int64} {x0 m0 : va_W} {nu0 : Int32} {xt0 : Int32} {ro0 : Nat → Int32} {ke0 : Nat → Int32} {ik0 : Nat → Int32} {un0 : Nat → Int32} {tb0 : Nat → Int32} {H : Heap} {locs : List Loc} {ls : Array Slot} (hx0 : XS G xX xText xNow xRead xPast xKept xTree xFol xMs xTree2 xMa2 xRun xRan xWo xPa xCo xPr xOd xFi xM0 xM1 xM2 xM3 True tn sg s0 s1 pn pc P K0 K1 Rd n d mg L F V x0) (hm0 : zb_Mo G mA nu0 xt0 ro0 ke0 ik0 un0 tb0 m0) (hR0 : zRL (tn) (sg) (s0) (s1) (pn) (pc) (P) (K0) (K1) (zrow (n) (d) (mg) (L) (F) (V)) (xt0) (tb0) (ik0) (ro0) (un0) (ke0) (nu0)) (hP : va_P G.1 classes (zap [(zo, .inl (G.2 1, 1, .inr (.inl f0)))] (zap x0 (zap m0 []))) H) (hD : va_D (fun q : Nat => s.heap.size ≤ q) (zap [(zo, .inl (G.2 1, 1, .inr (.inl f0)))] (zap x0 (zap m0 [])))) (hS : va_S (fun q : Nat => s.heap.size ≤ q) s.heap H locs) (hl : lv_has ls 7 [(0, .ref b), (1, .ref xX), (2, .ref mA), (3, .ref zo), (4, .int i)]) (kk : ∀ (f1 : Nat → Int64) (x1 m1 : va_W) (nu_1 : Int32) (xt_1 : Int32) (ro_1 : Nat → Int32) (ke_1 : Nat → Int32) (ik_1 : Nat → Int32) (un_1 : Nat → Int32) (tb_1 : Nat → Int32) (tn_1 : Int32) (sg_1 : Nat → Int32) (s0_1 : Bool) (s1_1 : Bool) (pn_1 : Int32) (pc_1 : Int32) (P_1 : Nat → Nat → Int32) (K0_1 : Nat → Int32) (K1_1 : Nat → Int32) (Rd_1 : Nat → Int32) (n_1 : Int32) (d_1 : Int32) (mg_1 : Int32) (L_1 : Nat → Int32) (F_1 : Nat → Int32) (V_1 : Nat → Int32) (H : Heap) (locs : List Loc) (ls : Array Slot), XS G xX xText xNow xRead xPast xKept xTree xFol xMs xTree2 xMa2 xRun xRan xWo xPa xCo xPr xOd xFi xM0 xM1 xM2 xM3 True tn_1 sg_1 s0_1 s1_1 pn_1 pc_1 P_1 K0_1 K1_1 Rd_1 n_1 d_1 mg_1 L_1 F_1 V_1 x1 → zb_Mo G mA nu_1 xt_1 ro_1 ke_1 ik_1 un_1 tb_1 m1 → zRL (tn_1) (sg_1) (s0_1) (s1_1) (pn_1) (pc_1) (P_1) (K0_1) (K1_1) (zrow (n_1) (d_1) (mg_1) (L_1) (F_1) (V_1)) (xt_1) (tb_1) (ik_1) (ro_1) (un_1) (ke_1) (nu_1) → va_P G.1 classes (zap [(zo, .inl (G.2 1, 1, .inr (.inl f1)))] (zap x1 (zap m1 []))) H → va_D (fun q : Nat => s.heap.size ≤ q) (zap [(zo, .inl (G.2 1, 1, .inr (.inl f1)))] (zap x1 (zap m1 []))) → va_S (fun q : Nat => s.heap.size ≤ q) s.heap H locs → lv_has ls 7 [(0, .ref b), (1, .ref xX), (2, .ref mA), (3, .ref zo), (4, .int i)] → W p l e room_1 s m #[Value.ref b] below meth c H locs (cells + 5) (slots + 520) (lw_Z below #[Value.ref b] s) (F0 m 1067 ls [])) : W p l e room_1 s m #[Value.ref b] below meth c H locs cells slots (lw_Z below #[Value.ref b] s) (F0 m 532 ls []) := by
  obtain ⟨hx, hb, hml, hown, hts, hK, hN, hlocks⟩ := id Z
  have hbA : ¬ (fun q : Nat => s.heap.size ≤ q) b := Nat.not_le.mpr hbl
  have hA : ∀ q : Nat, s.heap.size ≤ q → (fun q : Nat => s.heap.size ≤ q) q := fun _ h => h
  refine lv_aload_n hx hb d_law_532 rfl (lv_at hl 1 rfl) ?_
  refine lv_aload_n hx hb d_law_533 rfl (lv_at hl 0 rfl) ?_
  refine lv_iload hx hb d_law_534 (lv_at hl 4 rfl) ?_
  refine lv_iconst (v := 1) hx hb d_law_536 (by decide) ?_
  refine lv_iadd hx hb d_law_537 ?_
  refine lv_topi (fun v_1 ev_1 => ?_)
  have qv_1 := z_idx (k := 1) hi hL ev_1 li_1 (by decide)
  refine va_sld hx hb hX hbl hbA hS (i := v_1) qv_1 d_law_538 ?_
  refine lv_topi (fun v_2 ev_2 => ?_)
  obtain ⟨fs_3, hat_4⟩ := XS_at hx0
  refine z_callV (index := 78) (As := [.int v_2]) (rest := []) (wr := []) Z ((x_cover l G xX xText xNow xRead xPast xKept xTree xFol xMs xTree2 xMa2 xRun xRan xWo xPa xCo xPr xOd xFi xM0 xM1 xM2 xM3 (v_2) (tn) (sg) (s0) (s1) (pn) (pc) (P) (K0) (K1) (Rd) (n) (d) (mg) (L) (F) (V) x0 hx0).mid [(zo, .inl (G.2 1, 1, .inr (.inl f0)))] (zap m0 [])) hl.1 q759 q760 q761 q1 q762 ⟨by decide, by decide, by show _ = some 1; decide +kernel⟩ ⟨Nat.le_of_ble_eq_true rfl, Nat.le_of_ble_eq_true rfl⟩ (show cells + 0 ≤ 601024 ∧ slots + 0 ≤ 7293034 from ⟨by omega, by omega⟩) rfl (Nat.le_of_ble_eq_true rfl) d_law_539 hP hD hS hA 1 0 (zw_at1 (a := [(zo, .inl (G.2 1, 1, .inr (.inl f0)))]) (b := zap m0 []) hat_4) rfl rfl (List.range _) [] (zw_range _) rfl (zw_nd _) rfl (by intro i h9; cases h9) (fun v w1 H locs hw_5 hP hD hS => ?_)
  obtain ⟨w_7, ⟨x_6, rfl, hx_8⟩, rfl⟩ := hw_5
  have hP : va_P G.1 classes (zap [(zo, .inl (G.2 1, 1, .inr (.inl f0)))] (zap w_7 (zap m0 []))) H := hP
  have hD : va_D (fun q : Nat => s.heap.size ≤ q) (zap [(zo, .inl (G.2 1, 1, .inr (.inl f0)))] (zap w_7 (zap m0 []))) := hD
  refine W.widen (k := cells + 0) (n := slots + 0) (show cells + 0 ≤ cells + 0 from Nat.le_refl _) (show slots + 0 ≤ slots + 0 from Nat.le_refl _) ?_
  refine lv_pop hx hb d_law_542 rfl ?_
  refine lv_aload_n hx hb d_law_543 rfl (lv_at hl 2 rfl) ?_
  refine lv_aload_n hx hb d_law_544 rfl (lv_at hl 0 rfl) ?_
  refine lv_iload hx hb d_law_545 (lv_at hl 4 rfl) ?_
  refine lv_iconst (v := 1) hx hb d_law_547 (by decide) ?_
  refine lv_iadd hx hb d_law_548 ?_
  refine lv_topi (fun v_9 ev_9 => ?_)
  have qv_9 := z_idx (k := 1) hi hL ev_9 li_1 (by decide)
  refine va_sld hx hb hX hbl hbA hS (i := v_9) qv_9 d_law_549 ?_
  refine lv_topi (fun v_10 ev_10 => ?_)
  obtain ⟨fs_11, hat_12⟩ := zb_Mo_at hm0
  refine z_callV (index := 81) (As := [.int v_10]) (rest := []) (wr := []) Z ((m_cover l G mA (v_10)  (nu0) (xt0) (ro0) (ke0) (ik0) (un0) (tb0) m0 hm0).mid2 [(zo, .inl (G.2 1, 1, .inr (.inl f0)))] w_7 []) hl.1 q1475 q1476 q1477 q14 q1478 ⟨by decide, by decide, by show _ = some 1; decide +kernel⟩ ⟨Nat.le_of_ble_eq_true rfl, Nat.le_of_ble_eq_true rfl⟩ (show cells + 0 ≤ 601024 ∧ slots + 0 ≤ 7293034 from ⟨by omega, by omega⟩) rfl (Nat.le_of_ble_eq_true rfl) d_law_550 hP hD hS hA _ 12 (zw_at2 (a := [(zo, .inl (G.2 1, 1, .inr (.inl f0)))]) (x := w_7) (b := []) hat_12) rfl rfl (List.range _) [] (zw_range _) rfl (zw_nd _) rfl (by intro i h9; cases h9) (fun v w1 H locs hw_13 hP hD hS => ?_)
  obtain ⟨w_15, ⟨x_14, ⟨rfl⟩, hm_16⟩, rfl⟩ := hw_13
  have hP : va_P G.1 classes (zap [(zo, .inl (G.2 1, 1, .inr (.inl f0)))] (zap w_7 (zap w_15 []))) H := hP
  have hD : va_D (fun q : Nat => s.heap.size ≤ q) (zap [(zo, .inl (G.2 1, 1, .inr (.inl f0)))] (zap w_7 (zap w_15 []))) := hD
  refine W.widen (k := cells + 0) (n := slots + 0) (show cells + 0 ≤ cells + 0 from Nat.le_refl _) (show slots + 0 ≤ slots + 0 from Nat.le_refl _) ?_
  refine lv_pop hx hb d_law_553 rfl ?_
  refine lv_goto (tgt := 1067) hx hb d_law_554 (by decide) ?_
  refine W.widen (k := cells + 5) (n := slots + 520) (by omega) (by omega) ?_
  exact kk _ _ _ _ _ _ _ _ _ _ _ _ _ _ _ _ _ _ _ _ _ _ _ _ _ _ _ _ _ hx_8 hm_16 hR0 hP hD hS (lv_sub hl [0, 1, 2, 3, 4] rfl)
