/-! THE CLAIM OUT OF ONE WALK OF THE LAW'S BODY. Your part is whole_start (and what it stands on); all else here is the same for every law, but numbers. -/
def R_law : String := "RingGatesLaw"
def lw_P (b : Addr) (xs : List Int32) (args : Array Value) (s : State) : Prop := args = #[.ref b] ∧ s.IntsAt b xs ∧ xs.length ≤ 3072 ∧ (Jvm.Cond.and given_1 narrow_1).before args s = true
def lw_Q (_ : Array Value) (s : State) (o : Outcome) (t : State) : Prop := o = .returned (some (.int 1)) ∧ Framed s o t [] 600000 7302249
def lw_Z (below : List Frame) (a : Array Value) (s : State) : State → Prop := fun t => ∃ o, t.status = .running ∧ Ended t below o ∧ lw_Q a s o t
/-- the law's own end, with 1 on the stack, nothing written that was there before, its room as the claim has it -/
theorem lw_ret {p : Program} {l : Launch} {e : Env} {s : State} {m : MethodId} {below : List Frame} {meth : Method} {c : Code} {b : Nat} (hx : p.tables.exec = Jvm.exec) (hb : c.code = code) (hr : meth.sig.returnType = ret) (hlocks : meth.locks = false) {pc : Nat} {H : Heap} {ls : Array Slot} (hdg : decode code pc = .ok (.ireturn, 1)) : W p l e room_1 s m #[Value.ref b] below meth c H [] 600000 7302249 (lw_Z below #[Value.ref b] s) (F0 m pc ls [.int 1]) := by
  intro T hT X
  obtain ⟨fs, hret, hrun, hended, hW, hframe⟩ := X.leave (v := some (.int 1)) (hlocks := hlocks) (fun h => by rw [hr] at h; cases h)
  have hmeth' : T.vm.method? m = some meth := X.method'
  refine ⟨T.setFrames fs, ?_, .returned (some (.int 1)), hrun, hended, rfl, ⟨_, rfl⟩, hW, hframe⟩
  jvm_step X.here [X.here.top, hx, hb, hdg, hmeth', hr, ret, narrow_b1]
  (try refine ⟨rfl, ?_⟩); (try refine ⟨rfl, ?_⟩)
  first | (intro acts; rw [hret _ acts rfl rfl rfl]) | rw [hret _ _ rfl rfl rfl]
  exact Steps.refl _
/-- what holds at the law's entry: the machine, the code, the tables' words (any of lw_tbl by 'hts w (by decide +kernel)'), the script of L ints xs at the cell b, what the Statement gives of the start (any of its parts by flat_of_before) -/
def lw_At (p : Program) (s : State) (m : MethodId) (meth : Method) (c : Code) (b L : Nat) (xs : Nat → Int32) : Prop :=
  p.tables.exec = Jvm.exec ∧ c.code = code ∧ meth.sig.returnType = ret ∧ c.maxLocals = 4 ∧ s.vm.findClass R_law = some m.cls ∧ (∀ w ∈ lw_tbl, w.before #[Value.ref b] s = true) ∧ va_X b L xs s s.heap ∧ b < s.heap.size ∧ meth.locks = false ∧ (Jvm.Cond.and given_1 narrow_1).before #[Value.ref b] s = true

theorem dL_0 : decode code 0 = .ok (.new 7, 3) := by decide +kernel
theorem dL_3 : decode code 3 = .ok (.dup, 1) := by decide +kernel
theorem dL_4 : decode code 4 = .ok (.invokespecial 9, 3) := by decide +kernel
theorem dL_7 : decode code 7 = .ok (.astore_n 1, 1) := by decide +kernel
theorem dL_8 : decode code 8 = .ok (.new 10, 3) := by decide +kernel
theorem dL_11 : decode code 11 = .ok (.dup, 1) := by decide +kernel
theorem dL_12 : decode code 12 = .ok (.invokespecial 12, 3) := by decide +kernel
theorem dL_15 : decode code 15 = .ok (.astore_n 2, 1) := by decide +kernel
theorem dL_16 : decode code 16 = .ok (.iconst 0, 1) := by decide +kernel
theorem dL_17 : decode code 17 = .ok (.istore_n 3, 1) := by decide +kernel
theorem dL_18 : decode code 18 = .ok (.iload_n 3, 1) := by decide +kernel
theorem dL_19 : decode code 19 = .ok (.aload_n 0, 1) := by decide +kernel
theorem dL_20 : decode code 20 = .ok (.arraylength, 1) := by decide +kernel
theorem dL_21 : decode code 21 = .ok (.bipush 6, 2) := by decide +kernel
theorem dL_23 : decode code 23 = .ok (.isub, 1) := by decide +kernel
theorem dL_24 : decode code 24 = .ok (.if_icmp .gt 1341, 3) := by decide +kernel
theorem dL_27 : decode code 27 = .ok (.aload_n 0, 1) := by decide +kernel
theorem dL_28 : decode code 28 = .ok (.iload_n 3, 1) := by decide +kernel
theorem dL_29 : decode code 29 = .ok (.iaload, 1) := by decide +kernel
theorem dL_30 : decode code 30 = .ok (.bipush 63, 2) := by decide +kernel
theorem dL_32 : decode code 32 = .ok (.iand, 1) := by decide +kernel
theorem dL_33 : decode code 33 = .ok (.tableswitch 1326 0 34 #[155, 178, 221, 244, 277, 310, 343, 386, 419, 452, 485, 508, 541, 584, 653, 706, 769, 812, 835, 868, 891, 934, 957, 970, 993, 1036, 1069, 1122, 1165, 1198, 1231, 1244, 1277, 1290, 1303], 155) := by decide +kernel
theorem dL_188 : decode code 188 = .ok (.aload_n 1, 1) := by decide +kernel
theorem dL_189 : decode code 189 = .ok (.aload_n 0, 1) := by decide +kernel
theorem dL_190 : decode code 190 = .ok (.iload_n 3, 1) := by decide +kernel
theorem dL_191 : decode code 191 = .ok (.iconst 1, 1) := by decide +kernel
theorem dL_192 : decode code 192 = .ok (.iadd, 1) := by decide +kernel
theorem dL_193 : decode code 193 = .ok (.iaload, 1) := by decide +kernel
theorem dL_194 : decode code 194 = .ok (.invokevirtual 13, 3) := by decide +kernel
theorem dL_197 : decode code 197 = .ok (.aload_n 2, 1) := by decide +kernel
theorem dL_198 : decode code 198 = .ok (.aload_n 0, 1) := by decide +kernel
theorem dL_199 : decode code 199 = .ok (.iload_n 3, 1) := by decide +kernel
theorem dL_200 : decode code 200 = .ok (.iconst 1, 1) := by decide +kernel
theorem dL_201 : decode code 201 = .ok (.iadd, 1) := by decide +kernel
theorem dL_202 : decode code 202 = .ok (.iaload, 1) := by decide +kernel
theorem dL_203 : decode code 203 = .ok (.invokevirtual 17, 3) := by decide +kernel
theorem dL_206 : decode code 206 = .ok (.if_icmp .eq 1153, 3) := by decide +kernel
theorem dL_209 : decode code 209 = .ok (.iconst 0, 1) := by decide +kernel
theorem dL_210 : decode code 210 = .ok (.ireturn, 1) := by decide +kernel
theorem dL_211 : decode code 211 = .ok (.aload_n 1, 1) := by decide +kernel
theorem dL_212 : decode code 212 = .ok (.aload_n 0, 1) := by decide +kernel
theorem dL_213 : decode code 213 = .ok (.iload_n 3, 1) := by decide +kernel
theorem dL_214 : decode code 214 = .ok (.iconst 1, 1) := by decide +kernel
theorem dL_215 : decode code 215 = .ok (.iadd, 1) := by decide +kernel
theorem dL_216 : decode code 216 = .ok (.iaload, 1) := by decide +kernel
theorem dL_217 : decode code 217 = .ok (.aload_n 0, 1) := by decide +kernel
theorem dL_218 : decode code 218 = .ok (.iload_n 3, 1) := by decide +kernel
theorem dL_219 : decode code 219 = .ok (.iconst 2, 1) := by decide +kernel
theorem dL_220 : decode code 220 = .ok (.iadd, 1) := by decide +kernel
theorem dL_221 : decode code 221 = .ok (.iaload, 1) := by decide +kernel
theorem dL_222 : decode code 222 = .ok (.aload_n 0, 1) := by decide +kernel
theorem dL_223 : decode code 223 = .ok (.iload_n 3, 1) := by decide +kernel
theorem dL_224 : decode code 224 = .ok (.iconst 3, 1) := by decide +kernel
theorem dL_225 : decode code 225 = .ok (.iadd, 1) := by decide +kernel
theorem dL_226 : decode code 226 = .ok (.iaload, 1) := by decide +kernel
theorem dL_227 : decode code 227 = .ok (.invokevirtual 18, 3) := by decide +kernel
theorem dL_230 : decode code 230 = .ok (.aload_n 2, 1) := by decide +kernel
theorem dL_231 : decode code 231 = .ok (.aload_n 0, 1) := by decide +kernel
theorem dL_232 : decode code 232 = .ok (.iload_n 3, 1) := by decide +kernel
theorem dL_233 : decode code 233 = .ok (.iconst 1, 1) := by decide +kernel
theorem dL_234 : decode code 234 = .ok (.iadd, 1) := by decide +kernel
theorem dL_235 : decode code 235 = .ok (.iaload, 1) := by decide +kernel
theorem dL_236 : decode code 236 = .ok (.aload_n 0, 1) := by decide +kernel
theorem dL_237 : decode code 237 = .ok (.iload_n 3, 1) := by decide +kernel
theorem dL_238 : decode code 238 = .ok (.iconst 2, 1) := by decide +kernel
theorem dL_239 : decode code 239 = .ok (.iadd, 1) := by decide +kernel
theorem dL_240 : decode code 240 = .ok (.iaload, 1) := by decide +kernel
theorem dL_241 : decode code 241 = .ok (.aload_n 0, 1) := by decide +kernel
theorem dL_242 : decode code 242 = .ok (.iload_n 3, 1) := by decide +kernel
theorem dL_243 : decode code 243 = .ok (.iconst 3, 1) := by decide +kernel
theorem dL_244 : decode code 244 = .ok (.iadd, 1) := by decide +kernel
theorem dL_245 : decode code 245 = .ok (.iaload, 1) := by decide +kernel
theorem dL_246 : decode code 246 = .ok (.invokevirtual 22, 3) := by decide +kernel
theorem dL_249 : decode code 249 = .ok (.if_icmp .eq 1110, 3) := by decide +kernel
theorem dL_252 : decode code 252 = .ok (.iconst 0, 1) := by decide +kernel
theorem dL_253 : decode code 253 = .ok (.ireturn, 1) := by decide +kernel
theorem dL_254 : decode code 254 = .ok (.aload_n 1, 1) := by decide +kernel
theorem dL_255 : decode code 255 = .ok (.aload_n 0, 1) := by decide +kernel
theorem dL_256 : decode code 256 = .ok (.iload_n 3, 1) := by decide +kernel
theorem dL_257 : decode code 257 = .ok (.iconst 1, 1) := by decide +kernel
theorem dL_258 : decode code 258 = .ok (.iadd, 1) := by decide +kernel
theorem dL_259 : decode code 259 = .ok (.iaload, 1) := by decide +kernel
theorem dL_260 : decode code 260 = .ok (.invokevirtual 23, 3) := by decide +kernel
theorem dL_263 : decode code 263 = .ok (.aload_n 2, 1) := by decide +kernel
theorem dL_264 : decode code 264 = .ok (.aload_n 0, 1) := by decide +kernel
theorem dL_265 : decode code 265 = .ok (.iload_n 3, 1) := by decide +kernel
theorem dL_266 : decode code 266 = .ok (.iconst 1, 1) := by decide +kernel
theorem dL_267 : decode code 267 = .ok (.iadd, 1) := by decide +kernel
theorem dL_268 : decode code 268 = .ok (.iaload, 1) := by decide +kernel
theorem dL_269 : decode code 269 = .ok (.invokevirtual 26, 3) := by decide +kernel
theorem dL_272 : decode code 272 = .ok (.if_icmp .eq 1087, 3) := by decide +kernel
theorem dL_275 : decode code 275 = .ok (.iconst 0, 1) := by decide +kernel
theorem dL_276 : decode code 276 = .ok (.ireturn, 1) := by decide +kernel
theorem dL_277 : decode code 277 = .ok (.aload_n 1, 1) := by decide +kernel
theorem dL_278 : decode code 278 = .ok (.aload_n 0, 1) := by decide +kernel
theorem dL_279 : decode code 279 = .ok (.iload_n 3, 1) := by decide +kernel
theorem dL_280 : decode code 280 = .ok (.iconst 1, 1) := by decide +kernel
theorem dL_281 : decode code 281 = .ok (.iadd, 1) := by decide +kernel
theorem dL_282 : decode code 282 = .ok (.iaload, 1) := by decide +kernel
theorem dL_283 : decode code 283 = .ok (.aload_n 0, 1) := by decide +kernel
theorem dL_284 : decode code 284 = .ok (.iload_n 3, 1) := by decide +kernel
theorem dL_285 : decode code 285 = .ok (.iconst 2, 1) := by decide +kernel
theorem dL_286 : decode code 286 = .ok (.iadd, 1) := by decide +kernel
theorem dL_287 : decode code 287 = .ok (.iaload, 1) := by decide +kernel
theorem dL_288 : decode code 288 = .ok (.invokevirtual 27, 3) := by decide +kernel
theorem dL_291 : decode code 291 = .ok (.aload_n 2, 1) := by decide +kernel
theorem dL_292 : decode code 292 = .ok (.aload_n 0, 1) := by decide +kernel
theorem dL_293 : decode code 293 = .ok (.iload_n 3, 1) := by decide +kernel
theorem dL_294 : decode code 294 = .ok (.iconst 1, 1) := by decide +kernel
theorem dL_295 : decode code 295 = .ok (.iadd, 1) := by decide +kernel
theorem dL_296 : decode code 296 = .ok (.iaload, 1) := by decide +kernel
theorem dL_297 : decode code 297 = .ok (.aload_n 0, 1) := by decide +kernel
theorem dL_298 : decode code 298 = .ok (.iload_n 3, 1) := by decide +kernel
theorem dL_299 : decode code 299 = .ok (.iconst 2, 1) := by decide +kernel
theorem dL_300 : decode code 300 = .ok (.iadd, 1) := by decide +kernel
theorem dL_301 : decode code 301 = .ok (.iaload, 1) := by decide +kernel
theorem dL_302 : decode code 302 = .ok (.invokevirtual 31, 3) := by decide +kernel
theorem dL_305 : decode code 305 = .ok (.if_icmp .eq 1054, 3) := by decide +kernel
theorem dL_308 : decode code 308 = .ok (.iconst 0, 1) := by decide +kernel
theorem dL_309 : decode code 309 = .ok (.ireturn, 1) := by decide +kernel
theorem dL_310 : decode code 310 = .ok (.aload_n 1, 1) := by decide +kernel
theorem dL_311 : decode code 311 = .ok (.aload_n 0, 1) := by decide +kernel
theorem dL_312 : decode code 312 = .ok (.iload_n 3, 1) := by decide +kernel
theorem dL_313 : decode code 313 = .ok (.iconst 1, 1) := by decide +kernel
theorem dL_314 : decode code 314 = .ok (.iadd, 1) := by decide +kernel
theorem dL_315 : decode code 315 = .ok (.iaload, 1) := by decide +kernel
theorem dL_316 : decode code 316 = .ok (.aload_n 0, 1) := by decide +kernel
theorem dL_317 : decode code 317 = .ok (.iload_n 3, 1) := by decide +kernel
theorem dL_318 : decode code 318 = .ok (.iconst 2, 1) := by decide +kernel
theorem dL_319 : decode code 319 = .ok (.iadd, 1) := by decide +kernel
theorem dL_320 : decode code 320 = .ok (.iaload, 1) := by decide +kernel
theorem dL_321 : decode code 321 = .ok (.invokevirtual 32, 3) := by decide +kernel
theorem dL_324 : decode code 324 = .ok (.aload_n 2, 1) := by decide +kernel
theorem dL_325 : decode code 325 = .ok (.aload_n 0, 1) := by decide +kernel
theorem dL_326 : decode code 326 = .ok (.iload_n 3, 1) := by decide +kernel
theorem dL_327 : decode code 327 = .ok (.iconst 1, 1) := by decide +kernel
theorem dL_328 : decode code 328 = .ok (.iadd, 1) := by decide +kernel
theorem dL_329 : decode code 329 = .ok (.iaload, 1) := by decide +kernel
theorem dL_330 : decode code 330 = .ok (.aload_n 0, 1) := by decide +kernel
theorem dL_331 : decode code 331 = .ok (.iload_n 3, 1) := by decide +kernel
theorem dL_332 : decode code 332 = .ok (.iconst 2, 1) := by decide +kernel
theorem dL_333 : decode code 333 = .ok (.iadd, 1) := by decide +kernel
theorem dL_334 : decode code 334 = .ok (.iaload, 1) := by decide +kernel
theorem dL_335 : decode code 335 = .ok (.invokevirtual 35, 3) := by decide +kernel
theorem dL_338 : decode code 338 = .ok (.if_icmp .eq 1021, 3) := by decide +kernel
theorem dL_341 : decode code 341 = .ok (.iconst 0, 1) := by decide +kernel
theorem dL_342 : decode code 342 = .ok (.ireturn, 1) := by decide +kernel
theorem dL_343 : decode code 343 = .ok (.aload_n 1, 1) := by decide +kernel
theorem dL_344 : decode code 344 = .ok (.aload_n 0, 1) := by decide +kernel
theorem dL_345 : decode code 345 = .ok (.iload_n 3, 1) := by decide +kernel
theorem dL_346 : decode code 346 = .ok (.iconst 1, 1) := by decide +kernel
theorem dL_347 : decode code 347 = .ok (.iadd, 1) := by decide +kernel
theorem dL_348 : decode code 348 = .ok (.iaload, 1) := by decide +kernel
theorem dL_349 : decode code 349 = .ok (.aload_n 0, 1) := by decide +kernel
theorem dL_350 : decode code 350 = .ok (.iload_n 3, 1) := by decide +kernel
theorem dL_351 : decode code 351 = .ok (.iconst 2, 1) := by decide +kernel
theorem dL_352 : decode code 352 = .ok (.iadd, 1) := by decide +kernel
theorem dL_353 : decode code 353 = .ok (.iaload, 1) := by decide +kernel
theorem dL_354 : decode code 354 = .ok (.invokevirtual 36, 3) := by decide +kernel
theorem dL_357 : decode code 357 = .ok (.aload_n 2, 1) := by decide +kernel
theorem dL_358 : decode code 358 = .ok (.aload_n 0, 1) := by decide +kernel
theorem dL_359 : decode code 359 = .ok (.iload_n 3, 1) := by decide +kernel
theorem dL_360 : decode code 360 = .ok (.iconst 1, 1) := by decide +kernel
theorem dL_361 : decode code 361 = .ok (.iadd, 1) := by decide +kernel
theorem dL_362 : decode code 362 = .ok (.iaload, 1) := by decide +kernel
theorem dL_363 : decode code 363 = .ok (.aload_n 0, 1) := by decide +kernel
theorem dL_364 : decode code 364 = .ok (.iload_n 3, 1) := by decide +kernel
theorem dL_365 : decode code 365 = .ok (.iconst 2, 1) := by decide +kernel
theorem dL_366 : decode code 366 = .ok (.iadd, 1) := by decide +kernel
theorem dL_367 : decode code 367 = .ok (.iaload, 1) := by decide +kernel
theorem dL_368 : decode code 368 = .ok (.invokevirtual 39, 3) := by decide +kernel
theorem dL_371 : decode code 371 = .ok (.if_icmp .eq 988, 3) := by decide +kernel
theorem dL_374 : decode code 374 = .ok (.iconst 0, 1) := by decide +kernel
theorem dL_375 : decode code 375 = .ok (.ireturn, 1) := by decide +kernel
theorem dL_376 : decode code 376 = .ok (.aload_n 1, 1) := by decide +kernel
theorem dL_377 : decode code 377 = .ok (.aload_n 0, 1) := by decide +kernel
theorem dL_378 : decode code 378 = .ok (.iload_n 3, 1) := by decide +kernel
theorem dL_379 : decode code 379 = .ok (.iconst 1, 1) := by decide +kernel
theorem dL_380 : decode code 380 = .ok (.iadd, 1) := by decide +kernel
theorem dL_381 : decode code 381 = .ok (.iaload, 1) := by decide +kernel
theorem dL_382 : decode code 382 = .ok (.aload_n 0, 1) := by decide +kernel
theorem dL_383 : decode code 383 = .ok (.iload_n 3, 1) := by decide +kernel
theorem dL_384 : decode code 384 = .ok (.iconst 2, 1) := by decide +kernel
theorem dL_385 : decode code 385 = .ok (.iadd, 1) := by decide +kernel
theorem dL_386 : decode code 386 = .ok (.iaload, 1) := by decide +kernel
theorem dL_387 : decode code 387 = .ok (.aload_n 0, 1) := by decide +kernel
theorem dL_388 : decode code 388 = .ok (.iload_n 3, 1) := by decide +kernel
theorem dL_389 : decode code 389 = .ok (.iconst 3, 1) := by decide +kernel
theorem dL_390 : decode code 390 = .ok (.iadd, 1) := by decide +kernel
theorem dL_391 : decode code 391 = .ok (.iaload, 1) := by decide +kernel
theorem dL_392 : decode code 392 = .ok (.invokevirtual 40, 3) := by decide +kernel
theorem dL_395 : decode code 395 = .ok (.aload_n 2, 1) := by decide +kernel
theorem dL_396 : decode code 396 = .ok (.aload_n 0, 1) := by decide +kernel
theorem dL_397 : decode code 397 = .ok (.iload_n 3, 1) := by decide +kernel
theorem dL_398 : decode code 398 = .ok (.iconst 1, 1) := by decide +kernel
theorem dL_399 : decode code 399 = .ok (.iadd, 1) := by decide +kernel
theorem dL_400 : decode code 400 = .ok (.iaload, 1) := by decide +kernel
theorem dL_401 : decode code 401 = .ok (.aload_n 0, 1) := by decide +kernel
theorem dL_402 : decode code 402 = .ok (.iload_n 3, 1) := by decide +kernel
theorem dL_403 : decode code 403 = .ok (.iconst 2, 1) := by decide +kernel
theorem dL_404 : decode code 404 = .ok (.iadd, 1) := by decide +kernel
theorem dL_405 : decode code 405 = .ok (.iaload, 1) := by decide +kernel
theorem dL_406 : decode code 406 = .ok (.aload_n 0, 1) := by decide +kernel
theorem dL_407 : decode code 407 = .ok (.iload_n 3, 1) := by decide +kernel
theorem dL_408 : decode code 408 = .ok (.iconst 3, 1) := by decide +kernel
theorem dL_409 : decode code 409 = .ok (.iadd, 1) := by decide +kernel
theorem dL_410 : decode code 410 = .ok (.iaload, 1) := by decide +kernel
theorem dL_411 : decode code 411 = .ok (.invokevirtual 43, 3) := by decide +kernel
theorem dL_414 : decode code 414 = .ok (.if_icmp .eq 945, 3) := by decide +kernel
theorem dL_417 : decode code 417 = .ok (.iconst 0, 1) := by decide +kernel
theorem dL_418 : decode code 418 = .ok (.ireturn, 1) := by decide +kernel
theorem dL_419 : decode code 419 = .ok (.aload_n 1, 1) := by decide +kernel
theorem dL_420 : decode code 420 = .ok (.aload_n 0, 1) := by decide +kernel
theorem dL_421 : decode code 421 = .ok (.iload_n 3, 1) := by decide +kernel
theorem dL_422 : decode code 422 = .ok (.iconst 1, 1) := by decide +kernel
theorem dL_423 : decode code 423 = .ok (.iadd, 1) := by decide +kernel
theorem dL_424 : decode code 424 = .ok (.iaload, 1) := by decide +kernel
theorem dL_425 : decode code 425 = .ok (.aload_n 0, 1) := by decide +kernel
theorem dL_426 : decode code 426 = .ok (.iload_n 3, 1) := by decide +kernel
theorem dL_427 : decode code 427 = .ok (.iconst 2, 1) := by decide +kernel
theorem dL_428 : decode code 428 = .ok (.iadd, 1) := by decide +kernel
theorem dL_429 : decode code 429 = .ok (.iaload, 1) := by decide +kernel
theorem dL_430 : decode code 430 = .ok (.invokevirtual 44, 3) := by decide +kernel
theorem dL_433 : decode code 433 = .ok (.aload_n 2, 1) := by decide +kernel
theorem dL_434 : decode code 434 = .ok (.aload_n 0, 1) := by decide +kernel
theorem dL_435 : decode code 435 = .ok (.iload_n 3, 1) := by decide +kernel
theorem dL_436 : decode code 436 = .ok (.iconst 1, 1) := by decide +kernel
theorem dL_437 : decode code 437 = .ok (.iadd, 1) := by decide +kernel
theorem dL_438 : decode code 438 = .ok (.iaload, 1) := by decide +kernel
theorem dL_439 : decode code 439 = .ok (.aload_n 0, 1) := by decide +kernel
theorem dL_440 : decode code 440 = .ok (.iload_n 3, 1) := by decide +kernel
theorem dL_441 : decode code 441 = .ok (.iconst 2, 1) := by decide +kernel
theorem dL_442 : decode code 442 = .ok (.iadd, 1) := by decide +kernel
theorem dL_443 : decode code 443 = .ok (.iaload, 1) := by decide +kernel
theorem dL_444 : decode code 444 = .ok (.invokevirtual 47, 3) := by decide +kernel
theorem dL_447 : decode code 447 = .ok (.if_icmp .eq 912, 3) := by decide +kernel
theorem dL_450 : decode code 450 = .ok (.iconst 0, 1) := by decide +kernel
theorem dL_451 : decode code 451 = .ok (.ireturn, 1) := by decide +kernel
theorem dL_452 : decode code 452 = .ok (.aload_n 1, 1) := by decide +kernel
theorem dL_453 : decode code 453 = .ok (.aload_n 0, 1) := by decide +kernel
theorem dL_454 : decode code 454 = .ok (.iload_n 3, 1) := by decide +kernel
theorem dL_455 : decode code 455 = .ok (.iconst 1, 1) := by decide +kernel
theorem dL_456 : decode code 456 = .ok (.iadd, 1) := by decide +kernel
theorem dL_457 : decode code 457 = .ok (.iaload, 1) := by decide +kernel
theorem dL_458 : decode code 458 = .ok (.aload_n 0, 1) := by decide +kernel
theorem dL_459 : decode code 459 = .ok (.iload_n 3, 1) := by decide +kernel
theorem dL_460 : decode code 460 = .ok (.iconst 2, 1) := by decide +kernel
theorem dL_461 : decode code 461 = .ok (.iadd, 1) := by decide +kernel
theorem dL_462 : decode code 462 = .ok (.iaload, 1) := by decide +kernel
theorem dL_463 : decode code 463 = .ok (.invokevirtual 48, 3) := by decide +kernel
theorem dL_466 : decode code 466 = .ok (.aload_n 2, 1) := by decide +kernel
theorem dL_467 : decode code 467 = .ok (.aload_n 0, 1) := by decide +kernel
theorem dL_468 : decode code 468 = .ok (.iload_n 3, 1) := by decide +kernel
theorem dL_469 : decode code 469 = .ok (.iconst 1, 1) := by decide +kernel
theorem dL_470 : decode code 470 = .ok (.iadd, 1) := by decide +kernel
theorem dL_471 : decode code 471 = .ok (.iaload, 1) := by decide +kernel
theorem dL_472 : decode code 472 = .ok (.aload_n 0, 1) := by decide +kernel
theorem dL_473 : decode code 473 = .ok (.iload_n 3, 1) := by decide +kernel
theorem dL_474 : decode code 474 = .ok (.iconst 2, 1) := by decide +kernel
theorem dL_475 : decode code 475 = .ok (.iadd, 1) := by decide +kernel
theorem dL_476 : decode code 476 = .ok (.iaload, 1) := by decide +kernel
theorem dL_477 : decode code 477 = .ok (.invokevirtual 51, 3) := by decide +kernel
theorem dL_480 : decode code 480 = .ok (.if_icmp .eq 879, 3) := by decide +kernel
theorem dL_483 : decode code 483 = .ok (.iconst 0, 1) := by decide +kernel
theorem dL_484 : decode code 484 = .ok (.ireturn, 1) := by decide +kernel
theorem dL_485 : decode code 485 = .ok (.aload_n 1, 1) := by decide +kernel
theorem dL_486 : decode code 486 = .ok (.aload_n 0, 1) := by decide +kernel
theorem dL_487 : decode code 487 = .ok (.iload_n 3, 1) := by decide +kernel
theorem dL_488 : decode code 488 = .ok (.iconst 1, 1) := by decide +kernel
theorem dL_489 : decode code 489 = .ok (.iadd, 1) := by decide +kernel
theorem dL_490 : decode code 490 = .ok (.iaload, 1) := by decide +kernel
theorem dL_491 : decode code 491 = .ok (.aload_n 0, 1) := by decide +kernel
theorem dL_492 : decode code 492 = .ok (.iload_n 3, 1) := by decide +kernel
theorem dL_493 : decode code 493 = .ok (.iconst 2, 1) := by decide +kernel
theorem dL_494 : decode code 494 = .ok (.iadd, 1) := by decide +kernel
theorem dL_495 : decode code 495 = .ok (.iaload, 1) := by decide +kernel
theorem dL_496 : decode code 496 = .ok (.invokevirtual 52, 3) := by decide +kernel
theorem dL_499 : decode code 499 = .ok (.aload_n 2, 1) := by decide +kernel
theorem dL_500 : decode code 500 = .ok (.aload_n 0, 1) := by decide +kernel
theorem dL_501 : decode code 501 = .ok (.iload_n 3, 1) := by decide +kernel
theorem dL_502 : decode code 502 = .ok (.iconst 1, 1) := by decide +kernel
theorem dL_503 : decode code 503 = .ok (.iadd, 1) := by decide +kernel
theorem dL_504 : decode code 504 = .ok (.iaload, 1) := by decide +kernel
theorem dL_505 : decode code 505 = .ok (.aload_n 0, 1) := by decide +kernel
theorem dL_506 : decode code 506 = .ok (.iload_n 3, 1) := by decide +kernel
theorem dL_507 : decode code 507 = .ok (.iconst 2, 1) := by decide +kernel
theorem dL_508 : decode code 508 = .ok (.iadd, 1) := by decide +kernel
theorem dL_509 : decode code 509 = .ok (.iaload, 1) := by decide +kernel
theorem dL_510 : decode code 510 = .ok (.invokevirtual 55, 3) := by decide +kernel
theorem dL_513 : decode code 513 = .ok (.if_icmp .eq 846, 3) := by decide +kernel
theorem dL_516 : decode code 516 = .ok (.iconst 0, 1) := by decide +kernel
theorem dL_517 : decode code 517 = .ok (.ireturn, 1) := by decide +kernel
theorem dL_518 : decode code 518 = .ok (.aload_n 1, 1) := by decide +kernel
theorem dL_519 : decode code 519 = .ok (.aload_n 0, 1) := by decide +kernel
theorem dL_520 : decode code 520 = .ok (.iload_n 3, 1) := by decide +kernel
theorem dL_521 : decode code 521 = .ok (.iconst 1, 1) := by decide +kernel
theorem dL_522 : decode code 522 = .ok (.iadd, 1) := by decide +kernel
theorem dL_523 : decode code 523 = .ok (.iaload, 1) := by decide +kernel
theorem dL_524 : decode code 524 = .ok (.invokevirtual 56, 3) := by decide +kernel
theorem dL_527 : decode code 527 = .ok (.aload_n 2, 1) := by decide +kernel
theorem dL_528 : decode code 528 = .ok (.aload_n 0, 1) := by decide +kernel
theorem dL_529 : decode code 529 = .ok (.iload_n 3, 1) := by decide +kernel
theorem dL_530 : decode code 530 = .ok (.iconst 1, 1) := by decide +kernel
theorem dL_531 : decode code 531 = .ok (.iadd, 1) := by decide +kernel
theorem dL_532 : decode code 532 = .ok (.iaload, 1) := by decide +kernel
theorem dL_533 : decode code 533 = .ok (.invokevirtual 59, 3) := by decide +kernel
theorem dL_536 : decode code 536 = .ok (.if_icmp .eq 823, 3) := by decide +kernel
theorem dL_539 : decode code 539 = .ok (.iconst 0, 1) := by decide +kernel
theorem dL_540 : decode code 540 = .ok (.ireturn, 1) := by decide +kernel
theorem dL_541 : decode code 541 = .ok (.aload_n 1, 1) := by decide +kernel
theorem dL_542 : decode code 542 = .ok (.aload_n 0, 1) := by decide +kernel
theorem dL_543 : decode code 543 = .ok (.iload_n 3, 1) := by decide +kernel
theorem dL_544 : decode code 544 = .ok (.iconst 1, 1) := by decide +kernel
theorem dL_545 : decode code 545 = .ok (.iadd, 1) := by decide +kernel
theorem dL_546 : decode code 546 = .ok (.iaload, 1) := by decide +kernel
theorem dL_547 : decode code 547 = .ok (.aload_n 0, 1) := by decide +kernel
theorem dL_548 : decode code 548 = .ok (.iload_n 3, 1) := by decide +kernel
theorem dL_549 : decode code 549 = .ok (.iconst 2, 1) := by decide +kernel
theorem dL_550 : decode code 550 = .ok (.iadd, 1) := by decide +kernel
theorem dL_551 : decode code 551 = .ok (.iaload, 1) := by decide +kernel
theorem dL_552 : decode code 552 = .ok (.invokevirtual 60, 3) := by decide +kernel
theorem dL_555 : decode code 555 = .ok (.aload_n 2, 1) := by decide +kernel
theorem dL_556 : decode code 556 = .ok (.aload_n 0, 1) := by decide +kernel
theorem dL_557 : decode code 557 = .ok (.iload_n 3, 1) := by decide +kernel
theorem dL_558 : decode code 558 = .ok (.iconst 1, 1) := by decide +kernel
theorem dL_559 : decode code 559 = .ok (.iadd, 1) := by decide +kernel
theorem dL_560 : decode code 560 = .ok (.iaload, 1) := by decide +kernel
theorem dL_561 : decode code 561 = .ok (.aload_n 0, 1) := by decide +kernel
theorem dL_562 : decode code 562 = .ok (.iload_n 3, 1) := by decide +kernel
theorem dL_563 : decode code 563 = .ok (.iconst 2, 1) := by decide +kernel
theorem dL_564 : decode code 564 = .ok (.iadd, 1) := by decide +kernel
theorem dL_565 : decode code 565 = .ok (.iaload, 1) := by decide +kernel
theorem dL_566 : decode code 566 = .ok (.invokevirtual 63, 3) := by decide +kernel
theorem dL_569 : decode code 569 = .ok (.if_icmp .eq 790, 3) := by decide +kernel
theorem dL_572 : decode code 572 = .ok (.iconst 0, 1) := by decide +kernel
theorem dL_573 : decode code 573 = .ok (.ireturn, 1) := by decide +kernel
theorem dL_574 : decode code 574 = .ok (.aload_n 1, 1) := by decide +kernel
theorem dL_575 : decode code 575 = .ok (.aload_n 0, 1) := by decide +kernel
theorem dL_576 : decode code 576 = .ok (.iload_n 3, 1) := by decide +kernel
theorem dL_577 : decode code 577 = .ok (.iconst 1, 1) := by decide +kernel
theorem dL_578 : decode code 578 = .ok (.iadd, 1) := by decide +kernel
theorem dL_579 : decode code 579 = .ok (.iaload, 1) := by decide +kernel
theorem dL_580 : decode code 580 = .ok (.aload_n 0, 1) := by decide +kernel
theorem dL_581 : decode code 581 = .ok (.iload_n 3, 1) := by decide +kernel
theorem dL_582 : decode code 582 = .ok (.iconst 2, 1) := by decide +kernel
theorem dL_583 : decode code 583 = .ok (.iadd, 1) := by decide +kernel
theorem dL_584 : decode code 584 = .ok (.iaload, 1) := by decide +kernel
theorem dL_585 : decode code 585 = .ok (.aload_n 0, 1) := by decide +kernel
theorem dL_586 : decode code 586 = .ok (.iload_n 3, 1) := by decide +kernel
theorem dL_587 : decode code 587 = .ok (.iconst 3, 1) := by decide +kernel
theorem dL_588 : decode code 588 = .ok (.iadd, 1) := by decide +kernel
theorem dL_589 : decode code 589 = .ok (.iaload, 1) := by decide +kernel
theorem dL_590 : decode code 590 = .ok (.invokevirtual 64, 3) := by decide +kernel
theorem dL_593 : decode code 593 = .ok (.aload_n 2, 1) := by decide +kernel
theorem dL_594 : decode code 594 = .ok (.aload_n 0, 1) := by decide +kernel
theorem dL_595 : decode code 595 = .ok (.iload_n 3, 1) := by decide +kernel
theorem dL_596 : decode code 596 = .ok (.iconst 1, 1) := by decide +kernel
theorem dL_597 : decode code 597 = .ok (.iadd, 1) := by decide +kernel
theorem dL_598 : decode code 598 = .ok (.iaload, 1) := by decide +kernel
theorem dL_599 : decode code 599 = .ok (.aload_n 0, 1) := by decide +kernel
theorem dL_600 : decode code 600 = .ok (.iload_n 3, 1) := by decide +kernel
theorem dL_601 : decode code 601 = .ok (.iconst 2, 1) := by decide +kernel
theorem dL_602 : decode code 602 = .ok (.iadd, 1) := by decide +kernel
theorem dL_603 : decode code 603 = .ok (.iaload, 1) := by decide +kernel
theorem dL_604 : decode code 604 = .ok (.aload_n 0, 1) := by decide +kernel
theorem dL_605 : decode code 605 = .ok (.iload_n 3, 1) := by decide +kernel
theorem dL_606 : decode code 606 = .ok (.iconst 3, 1) := by decide +kernel
theorem dL_607 : decode code 607 = .ok (.iadd, 1) := by decide +kernel
theorem dL_608 : decode code 608 = .ok (.iaload, 1) := by decide +kernel
theorem dL_609 : decode code 609 = .ok (.invokevirtual 67, 3) := by decide +kernel
theorem dL_612 : decode code 612 = .ok (.if_icmp .eq 747, 3) := by decide +kernel
theorem dL_615 : decode code 615 = .ok (.iconst 0, 1) := by decide +kernel
theorem dL_616 : decode code 616 = .ok (.ireturn, 1) := by decide +kernel
theorem dL_617 : decode code 617 = .ok (.aload_n 1, 1) := by decide +kernel
theorem dL_618 : decode code 618 = .ok (.aload_n 0, 1) := by decide +kernel
theorem dL_619 : decode code 619 = .ok (.iload_n 3, 1) := by decide +kernel
theorem dL_620 : decode code 620 = .ok (.iconst 1, 1) := by decide +kernel
theorem dL_621 : decode code 621 = .ok (.iadd, 1) := by decide +kernel
theorem dL_622 : decode code 622 = .ok (.iaload, 1) := by decide +kernel
theorem dL_623 : decode code 623 = .ok (.aload_n 0, 1) := by decide +kernel
theorem dL_624 : decode code 624 = .ok (.iload_n 3, 1) := by decide +kernel
theorem dL_625 : decode code 625 = .ok (.iconst 2, 1) := by decide +kernel
theorem dL_626 : decode code 626 = .ok (.iadd, 1) := by decide +kernel
theorem dL_627 : decode code 627 = .ok (.iaload, 1) := by decide +kernel
theorem dL_628 : decode code 628 = .ok (.aload_n 0, 1) := by decide +kernel
theorem dL_629 : decode code 629 = .ok (.iload_n 3, 1) := by decide +kernel
theorem dL_630 : decode code 630 = .ok (.iconst 3, 1) := by decide +kernel
theorem dL_631 : decode code 631 = .ok (.iadd, 1) := by decide +kernel
theorem dL_632 : decode code 632 = .ok (.iaload, 1) := by decide +kernel
theorem dL_633 : decode code 633 = .ok (.aload_n 0, 1) := by decide +kernel
theorem dL_634 : decode code 634 = .ok (.iload_n 3, 1) := by decide +kernel
theorem dL_635 : decode code 635 = .ok (.iconst 4, 1) := by decide +kernel
theorem dL_636 : decode code 636 = .ok (.iadd, 1) := by decide +kernel
theorem dL_637 : decode code 637 = .ok (.iaload, 1) := by decide +kernel
theorem dL_638 : decode code 638 = .ok (.ifCond .eq 7, 3) := by decide +kernel
theorem dL_641 : decode code 641 = .ok (.iconst 1, 1) := by decide +kernel
theorem dL_642 : decode code 642 = .ok (.goto 4, 3) := by decide +kernel
theorem dL_645 : decode code 645 = .ok (.iconst 0, 1) := by decide +kernel
theorem dL_646 : decode code 646 = .ok (.invokevirtual 68, 3) := by decide +kernel
theorem dL_649 : decode code 649 = .ok (.aload_n 2, 1) := by decide +kernel
theorem dL_650 : decode code 650 = .ok (.aload_n 0, 1) := by decide +kernel
theorem dL_651 : decode code 651 = .ok (.iload_n 3, 1) := by decide +kernel
theorem dL_652 : decode code 652 = .ok (.iconst 1, 1) := by decide +kernel
theorem dL_653 : decode code 653 = .ok (.iadd, 1) := by decide +kernel
theorem dL_654 : decode code 654 = .ok (.iaload, 1) := by decide +kernel
theorem dL_655 : decode code 655 = .ok (.aload_n 0, 1) := by decide +kernel
theorem dL_656 : decode code 656 = .ok (.iload_n 3, 1) := by decide +kernel
theorem dL_657 : decode code 657 = .ok (.iconst 2, 1) := by decide +kernel
theorem dL_658 : decode code 658 = .ok (.iadd, 1) := by decide +kernel
theorem dL_659 : decode code 659 = .ok (.iaload, 1) := by decide +kernel
theorem dL_660 : decode code 660 = .ok (.aload_n 0, 1) := by decide +kernel
theorem dL_661 : decode code 661 = .ok (.iload_n 3, 1) := by decide +kernel
theorem dL_662 : decode code 662 = .ok (.iconst 3, 1) := by decide +kernel
theorem dL_663 : decode code 663 = .ok (.iadd, 1) := by decide +kernel
theorem dL_664 : decode code 664 = .ok (.iaload, 1) := by decide +kernel
theorem dL_665 : decode code 665 = .ok (.aload_n 0, 1) := by decide +kernel
theorem dL_666 : decode code 666 = .ok (.iload_n 3, 1) := by decide +kernel
theorem dL_667 : decode code 667 = .ok (.iconst 4, 1) := by decide +kernel
theorem dL_668 : decode code 668 = .ok (.iadd, 1) := by decide +kernel
theorem dL_669 : decode code 669 = .ok (.iaload, 1) := by decide +kernel
theorem dL_670 : decode code 670 = .ok (.ifCond .eq 7, 3) := by decide +kernel
theorem dL_673 : decode code 673 = .ok (.iconst 1, 1) := by decide +kernel
theorem dL_674 : decode code 674 = .ok (.goto 4, 3) := by decide +kernel
theorem dL_677 : decode code 677 = .ok (.iconst 0, 1) := by decide +kernel
theorem dL_678 : decode code 678 = .ok (.invokevirtual 72, 3) := by decide +kernel
theorem dL_681 : decode code 681 = .ok (.if_icmp .eq 678, 3) := by decide +kernel
theorem dL_684 : decode code 684 = .ok (.iconst 0, 1) := by decide +kernel
theorem dL_685 : decode code 685 = .ok (.ireturn, 1) := by decide +kernel
theorem dL_686 : decode code 686 = .ok (.aload_n 1, 1) := by decide +kernel
theorem dL_687 : decode code 687 = .ok (.aload_n 0, 1) := by decide +kernel
theorem dL_688 : decode code 688 = .ok (.iload_n 3, 1) := by decide +kernel
theorem dL_689 : decode code 689 = .ok (.iconst 1, 1) := by decide +kernel
theorem dL_690 : decode code 690 = .ok (.iadd, 1) := by decide +kernel
theorem dL_691 : decode code 691 = .ok (.iaload, 1) := by decide +kernel
theorem dL_692 : decode code 692 = .ok (.aload_n 0, 1) := by decide +kernel
theorem dL_693 : decode code 693 = .ok (.iload_n 3, 1) := by decide +kernel
theorem dL_694 : decode code 694 = .ok (.iconst 2, 1) := by decide +kernel
theorem dL_695 : decode code 695 = .ok (.iadd, 1) := by decide +kernel
theorem dL_696 : decode code 696 = .ok (.iaload, 1) := by decide +kernel
theorem dL_697 : decode code 697 = .ok (.aload_n 0, 1) := by decide +kernel
theorem dL_698 : decode code 698 = .ok (.iload_n 3, 1) := by decide +kernel
theorem dL_699 : decode code 699 = .ok (.iconst 3, 1) := by decide +kernel
theorem dL_700 : decode code 700 = .ok (.iadd, 1) := by decide +kernel
theorem dL_701 : decode code 701 = .ok (.iaload, 1) := by decide +kernel
theorem dL_702 : decode code 702 = .ok (.aload_n 0, 1) := by decide +kernel
theorem dL_703 : decode code 703 = .ok (.iload_n 3, 1) := by decide +kernel
theorem dL_704 : decode code 704 = .ok (.iconst 4, 1) := by decide +kernel
theorem dL_705 : decode code 705 = .ok (.iadd, 1) := by decide +kernel
theorem dL_706 : decode code 706 = .ok (.iaload, 1) := by decide +kernel
theorem dL_707 : decode code 707 = .ok (.invokevirtual 73, 3) := by decide +kernel
theorem dL_710 : decode code 710 = .ok (.aload_n 2, 1) := by decide +kernel
theorem dL_711 : decode code 711 = .ok (.aload_n 0, 1) := by decide +kernel
theorem dL_712 : decode code 712 = .ok (.iload_n 3, 1) := by decide +kernel
theorem dL_713 : decode code 713 = .ok (.iconst 1, 1) := by decide +kernel
theorem dL_714 : decode code 714 = .ok (.iadd, 1) := by decide +kernel
theorem dL_715 : decode code 715 = .ok (.iaload, 1) := by decide +kernel
theorem dL_716 : decode code 716 = .ok (.aload_n 0, 1) := by decide +kernel
theorem dL_717 : decode code 717 = .ok (.iload_n 3, 1) := by decide +kernel
theorem dL_718 : decode code 718 = .ok (.iconst 2, 1) := by decide +kernel
theorem dL_719 : decode code 719 = .ok (.iadd, 1) := by decide +kernel
theorem dL_720 : decode code 720 = .ok (.iaload, 1) := by decide +kernel
theorem dL_721 : decode code 721 = .ok (.aload_n 0, 1) := by decide +kernel
theorem dL_722 : decode code 722 = .ok (.iload_n 3, 1) := by decide +kernel
theorem dL_723 : decode code 723 = .ok (.iconst 3, 1) := by decide +kernel
theorem dL_724 : decode code 724 = .ok (.iadd, 1) := by decide +kernel
theorem dL_725 : decode code 725 = .ok (.iaload, 1) := by decide +kernel
theorem dL_726 : decode code 726 = .ok (.aload_n 0, 1) := by decide +kernel
theorem dL_727 : decode code 727 = .ok (.iload_n 3, 1) := by decide +kernel
theorem dL_728 : decode code 728 = .ok (.iconst 4, 1) := by decide +kernel
theorem dL_729 : decode code 729 = .ok (.iadd, 1) := by decide +kernel
theorem dL_730 : decode code 730 = .ok (.iaload, 1) := by decide +kernel
theorem dL_731 : decode code 731 = .ok (.invokevirtual 77, 3) := by decide +kernel
theorem dL_734 : decode code 734 = .ok (.if_icmp .eq 625, 3) := by decide +kernel
theorem dL_737 : decode code 737 = .ok (.iconst 0, 1) := by decide +kernel
theorem dL_738 : decode code 738 = .ok (.ireturn, 1) := by decide +kernel
theorem dL_739 : decode code 739 = .ok (.aload_n 1, 1) := by decide +kernel
theorem dL_740 : decode code 740 = .ok (.aload_n 0, 1) := by decide +kernel
theorem dL_741 : decode code 741 = .ok (.iload_n 3, 1) := by decide +kernel
theorem dL_742 : decode code 742 = .ok (.iconst 1, 1) := by decide +kernel
theorem dL_743 : decode code 743 = .ok (.iadd, 1) := by decide +kernel
theorem dL_744 : decode code 744 = .ok (.iaload, 1) := by decide +kernel
theorem dL_745 : decode code 745 = .ok (.aload_n 0, 1) := by decide +kernel
theorem dL_746 : decode code 746 = .ok (.iload_n 3, 1) := by decide +kernel
theorem dL_747 : decode code 747 = .ok (.iconst 2, 1) := by decide +kernel
theorem dL_748 : decode code 748 = .ok (.iadd, 1) := by decide +kernel
theorem dL_749 : decode code 749 = .ok (.iaload, 1) := by decide +kernel
theorem dL_750 : decode code 750 = .ok (.aload_n 0, 1) := by decide +kernel
theorem dL_751 : decode code 751 = .ok (.iload_n 3, 1) := by decide +kernel
theorem dL_752 : decode code 752 = .ok (.iconst 3, 1) := by decide +kernel
theorem dL_753 : decode code 753 = .ok (.iadd, 1) := by decide +kernel
theorem dL_754 : decode code 754 = .ok (.iaload, 1) := by decide +kernel
theorem dL_755 : decode code 755 = .ok (.aload_n 0, 1) := by decide +kernel
theorem dL_756 : decode code 756 = .ok (.iload_n 3, 1) := by decide +kernel
theorem dL_757 : decode code 757 = .ok (.iconst 4, 1) := by decide +kernel
theorem dL_758 : decode code 758 = .ok (.iadd, 1) := by decide +kernel
theorem dL_759 : decode code 759 = .ok (.iaload, 1) := by decide +kernel
theorem dL_760 : decode code 760 = .ok (.aload_n 0, 1) := by decide +kernel
theorem dL_761 : decode code 761 = .ok (.iload_n 3, 1) := by decide +kernel
theorem dL_762 : decode code 762 = .ok (.iconst 5, 1) := by decide +kernel
theorem dL_763 : decode code 763 = .ok (.iadd, 1) := by decide +kernel
theorem dL_764 : decode code 764 = .ok (.iaload, 1) := by decide +kernel
theorem dL_765 : decode code 765 = .ok (.invokevirtual 78, 3) := by decide +kernel
theorem dL_768 : decode code 768 = .ok (.aload_n 2, 1) := by decide +kernel
theorem dL_769 : decode code 769 = .ok (.aload_n 0, 1) := by decide +kernel
theorem dL_770 : decode code 770 = .ok (.iload_n 3, 1) := by decide +kernel
theorem dL_771 : decode code 771 = .ok (.iconst 1, 1) := by decide +kernel
theorem dL_772 : decode code 772 = .ok (.iadd, 1) := by decide +kernel
theorem dL_773 : decode code 773 = .ok (.iaload, 1) := by decide +kernel
theorem dL_774 : decode code 774 = .ok (.aload_n 0, 1) := by decide +kernel
theorem dL_775 : decode code 775 = .ok (.iload_n 3, 1) := by decide +kernel
theorem dL_776 : decode code 776 = .ok (.iconst 2, 1) := by decide +kernel
theorem dL_777 : decode code 777 = .ok (.iadd, 1) := by decide +kernel
theorem dL_778 : decode code 778 = .ok (.iaload, 1) := by decide +kernel
theorem dL_779 : decode code 779 = .ok (.aload_n 0, 1) := by decide +kernel
theorem dL_780 : decode code 780 = .ok (.iload_n 3, 1) := by decide +kernel
theorem dL_781 : decode code 781 = .ok (.iconst 3, 1) := by decide +kernel
theorem dL_782 : decode code 782 = .ok (.iadd, 1) := by decide +kernel
theorem dL_783 : decode code 783 = .ok (.iaload, 1) := by decide +kernel
theorem dL_784 : decode code 784 = .ok (.aload_n 0, 1) := by decide +kernel
theorem dL_785 : decode code 785 = .ok (.iload_n 3, 1) := by decide +kernel
theorem dL_786 : decode code 786 = .ok (.iconst 4, 1) := by decide +kernel
theorem dL_787 : decode code 787 = .ok (.iadd, 1) := by decide +kernel
theorem dL_788 : decode code 788 = .ok (.iaload, 1) := by decide +kernel
theorem dL_789 : decode code 789 = .ok (.aload_n 0, 1) := by decide +kernel
theorem dL_790 : decode code 790 = .ok (.iload_n 3, 1) := by decide +kernel
theorem dL_791 : decode code 791 = .ok (.iconst 5, 1) := by decide +kernel
theorem dL_792 : decode code 792 = .ok (.iadd, 1) := by decide +kernel
theorem dL_793 : decode code 793 = .ok (.iaload, 1) := by decide +kernel
theorem dL_794 : decode code 794 = .ok (.invokevirtual 82, 3) := by decide +kernel
theorem dL_797 : decode code 797 = .ok (.if_icmp .eq 562, 3) := by decide +kernel
theorem dL_800 : decode code 800 = .ok (.iconst 0, 1) := by decide +kernel
theorem dL_801 : decode code 801 = .ok (.ireturn, 1) := by decide +kernel
theorem dL_802 : decode code 802 = .ok (.aload_n 1, 1) := by decide +kernel
theorem dL_803 : decode code 803 = .ok (.aload_n 0, 1) := by decide +kernel
theorem dL_804 : decode code 804 = .ok (.iload_n 3, 1) := by decide +kernel
theorem dL_805 : decode code 805 = .ok (.iconst 1, 1) := by decide +kernel
theorem dL_806 : decode code 806 = .ok (.iadd, 1) := by decide +kernel
theorem dL_807 : decode code 807 = .ok (.iaload, 1) := by decide +kernel
theorem dL_808 : decode code 808 = .ok (.aload_n 0, 1) := by decide +kernel
theorem dL_809 : decode code 809 = .ok (.iload_n 3, 1) := by decide +kernel
theorem dL_810 : decode code 810 = .ok (.iconst 2, 1) := by decide +kernel
theorem dL_811 : decode code 811 = .ok (.iadd, 1) := by decide +kernel
theorem dL_812 : decode code 812 = .ok (.iaload, 1) := by decide +kernel
theorem dL_813 : decode code 813 = .ok (.aload_n 0, 1) := by decide +kernel
theorem dL_814 : decode code 814 = .ok (.iload_n 3, 1) := by decide +kernel
theorem dL_815 : decode code 815 = .ok (.iconst 3, 1) := by decide +kernel
theorem dL_816 : decode code 816 = .ok (.iadd, 1) := by decide +kernel
theorem dL_817 : decode code 817 = .ok (.iaload, 1) := by decide +kernel
theorem dL_818 : decode code 818 = .ok (.invokevirtual 83, 3) := by decide +kernel
theorem dL_821 : decode code 821 = .ok (.aload_n 2, 1) := by decide +kernel
theorem dL_822 : decode code 822 = .ok (.aload_n 0, 1) := by decide +kernel
theorem dL_823 : decode code 823 = .ok (.iload_n 3, 1) := by decide +kernel
theorem dL_824 : decode code 824 = .ok (.iconst 1, 1) := by decide +kernel
theorem dL_825 : decode code 825 = .ok (.iadd, 1) := by decide +kernel
theorem dL_826 : decode code 826 = .ok (.iaload, 1) := by decide +kernel
theorem dL_827 : decode code 827 = .ok (.aload_n 0, 1) := by decide +kernel
theorem dL_828 : decode code 828 = .ok (.iload_n 3, 1) := by decide +kernel
theorem dL_829 : decode code 829 = .ok (.iconst 2, 1) := by decide +kernel
theorem dL_830 : decode code 830 = .ok (.iadd, 1) := by decide +kernel
theorem dL_831 : decode code 831 = .ok (.iaload, 1) := by decide +kernel
theorem dL_832 : decode code 832 = .ok (.aload_n 0, 1) := by decide +kernel
theorem dL_833 : decode code 833 = .ok (.iload_n 3, 1) := by decide +kernel
theorem dL_834 : decode code 834 = .ok (.iconst 3, 1) := by decide +kernel
theorem dL_835 : decode code 835 = .ok (.iadd, 1) := by decide +kernel
theorem dL_836 : decode code 836 = .ok (.iaload, 1) := by decide +kernel
theorem dL_837 : decode code 837 = .ok (.invokevirtual 86, 3) := by decide +kernel
theorem dL_840 : decode code 840 = .ok (.if_icmp .eq 519, 3) := by decide +kernel
theorem dL_843 : decode code 843 = .ok (.iconst 0, 1) := by decide +kernel
theorem dL_844 : decode code 844 = .ok (.ireturn, 1) := by decide +kernel
theorem dL_845 : decode code 845 = .ok (.aload_n 1, 1) := by decide +kernel
theorem dL_846 : decode code 846 = .ok (.aload_n 0, 1) := by decide +kernel
theorem dL_847 : decode code 847 = .ok (.iload_n 3, 1) := by decide +kernel
theorem dL_848 : decode code 848 = .ok (.iconst 1, 1) := by decide +kernel
theorem dL_849 : decode code 849 = .ok (.iadd, 1) := by decide +kernel
theorem dL_850 : decode code 850 = .ok (.iaload, 1) := by decide +kernel
theorem dL_851 : decode code 851 = .ok (.invokevirtual 87, 3) := by decide +kernel
theorem dL_854 : decode code 854 = .ok (.aload_n 2, 1) := by decide +kernel
theorem dL_855 : decode code 855 = .ok (.aload_n 0, 1) := by decide +kernel
theorem dL_856 : decode code 856 = .ok (.iload_n 3, 1) := by decide +kernel
theorem dL_857 : decode code 857 = .ok (.iconst 1, 1) := by decide +kernel
theorem dL_858 : decode code 858 = .ok (.iadd, 1) := by decide +kernel
theorem dL_859 : decode code 859 = .ok (.iaload, 1) := by decide +kernel
theorem dL_860 : decode code 860 = .ok (.invokevirtual 90, 3) := by decide +kernel
theorem dL_863 : decode code 863 = .ok (.if_icmp .eq 496, 3) := by decide +kernel
theorem dL_866 : decode code 866 = .ok (.iconst 0, 1) := by decide +kernel
theorem dL_867 : decode code 867 = .ok (.ireturn, 1) := by decide +kernel
theorem dL_868 : decode code 868 = .ok (.aload_n 1, 1) := by decide +kernel
theorem dL_869 : decode code 869 = .ok (.aload_n 0, 1) := by decide +kernel
theorem dL_870 : decode code 870 = .ok (.iload_n 3, 1) := by decide +kernel
theorem dL_871 : decode code 871 = .ok (.iconst 1, 1) := by decide +kernel
theorem dL_872 : decode code 872 = .ok (.iadd, 1) := by decide +kernel
theorem dL_873 : decode code 873 = .ok (.iaload, 1) := by decide +kernel
theorem dL_874 : decode code 874 = .ok (.aload_n 0, 1) := by decide +kernel
theorem dL_875 : decode code 875 = .ok (.iload_n 3, 1) := by decide +kernel
theorem dL_876 : decode code 876 = .ok (.iconst 2, 1) := by decide +kernel
theorem dL_877 : decode code 877 = .ok (.iadd, 1) := by decide +kernel
theorem dL_878 : decode code 878 = .ok (.iaload, 1) := by decide +kernel
theorem dL_879 : decode code 879 = .ok (.invokevirtual 91, 3) := by decide +kernel
theorem dL_882 : decode code 882 = .ok (.aload_n 2, 1) := by decide +kernel
theorem dL_883 : decode code 883 = .ok (.aload_n 0, 1) := by decide +kernel
theorem dL_884 : decode code 884 = .ok (.iload_n 3, 1) := by decide +kernel
theorem dL_885 : decode code 885 = .ok (.iconst 1, 1) := by decide +kernel
theorem dL_886 : decode code 886 = .ok (.iadd, 1) := by decide +kernel
theorem dL_887 : decode code 887 = .ok (.iaload, 1) := by decide +kernel
theorem dL_888 : decode code 888 = .ok (.aload_n 0, 1) := by decide +kernel
theorem dL_889 : decode code 889 = .ok (.iload_n 3, 1) := by decide +kernel
theorem dL_890 : decode code 890 = .ok (.iconst 2, 1) := by decide +kernel
theorem dL_891 : decode code 891 = .ok (.iadd, 1) := by decide +kernel
theorem dL_892 : decode code 892 = .ok (.iaload, 1) := by decide +kernel
theorem dL_893 : decode code 893 = .ok (.invokevirtual 94, 3) := by decide +kernel
theorem dL_896 : decode code 896 = .ok (.if_icmp .eq 463, 3) := by decide +kernel
theorem dL_899 : decode code 899 = .ok (.iconst 0, 1) := by decide +kernel
theorem dL_900 : decode code 900 = .ok (.ireturn, 1) := by decide +kernel
theorem dL_901 : decode code 901 = .ok (.aload_n 1, 1) := by decide +kernel
theorem dL_902 : decode code 902 = .ok (.aload_n 0, 1) := by decide +kernel
theorem dL_903 : decode code 903 = .ok (.iload_n 3, 1) := by decide +kernel
theorem dL_904 : decode code 904 = .ok (.iconst 1, 1) := by decide +kernel
theorem dL_905 : decode code 905 = .ok (.iadd, 1) := by decide +kernel
theorem dL_906 : decode code 906 = .ok (.iaload, 1) := by decide +kernel
theorem dL_907 : decode code 907 = .ok (.invokevirtual 95, 3) := by decide +kernel
theorem dL_910 : decode code 910 = .ok (.aload_n 2, 1) := by decide +kernel
theorem dL_911 : decode code 911 = .ok (.aload_n 0, 1) := by decide +kernel
theorem dL_912 : decode code 912 = .ok (.iload_n 3, 1) := by decide +kernel
theorem dL_913 : decode code 913 = .ok (.iconst 1, 1) := by decide +kernel
theorem dL_914 : decode code 914 = .ok (.iadd, 1) := by decide +kernel
theorem dL_915 : decode code 915 = .ok (.iaload, 1) := by decide +kernel
theorem dL_916 : decode code 916 = .ok (.invokevirtual 98, 3) := by decide +kernel
theorem dL_919 : decode code 919 = .ok (.if_icmp .eq 440, 3) := by decide +kernel
theorem dL_922 : decode code 922 = .ok (.iconst 0, 1) := by decide +kernel
theorem dL_923 : decode code 923 = .ok (.ireturn, 1) := by decide +kernel
theorem dL_924 : decode code 924 = .ok (.aload_n 1, 1) := by decide +kernel
theorem dL_925 : decode code 925 = .ok (.aload_n 0, 1) := by decide +kernel
theorem dL_926 : decode code 926 = .ok (.iload_n 3, 1) := by decide +kernel
theorem dL_927 : decode code 927 = .ok (.iconst 1, 1) := by decide +kernel
theorem dL_928 : decode code 928 = .ok (.iadd, 1) := by decide +kernel
theorem dL_929 : decode code 929 = .ok (.iaload, 1) := by decide +kernel
theorem dL_930 : decode code 930 = .ok (.aload_n 0, 1) := by decide +kernel
theorem dL_931 : decode code 931 = .ok (.iload_n 3, 1) := by decide +kernel
theorem dL_932 : decode code 932 = .ok (.iconst 2, 1) := by decide +kernel
theorem dL_933 : decode code 933 = .ok (.iadd, 1) := by decide +kernel
theorem dL_934 : decode code 934 = .ok (.iaload, 1) := by decide +kernel
theorem dL_935 : decode code 935 = .ok (.aload_n 0, 1) := by decide +kernel
theorem dL_936 : decode code 936 = .ok (.iload_n 3, 1) := by decide +kernel
theorem dL_937 : decode code 937 = .ok (.iconst 3, 1) := by decide +kernel
theorem dL_938 : decode code 938 = .ok (.iadd, 1) := by decide +kernel
theorem dL_939 : decode code 939 = .ok (.iaload, 1) := by decide +kernel
theorem dL_940 : decode code 940 = .ok (.invokevirtual 99, 3) := by decide +kernel
theorem dL_943 : decode code 943 = .ok (.aload_n 2, 1) := by decide +kernel
theorem dL_944 : decode code 944 = .ok (.aload_n 0, 1) := by decide +kernel
theorem dL_945 : decode code 945 = .ok (.iload_n 3, 1) := by decide +kernel
theorem dL_946 : decode code 946 = .ok (.iconst 1, 1) := by decide +kernel
theorem dL_947 : decode code 947 = .ok (.iadd, 1) := by decide +kernel
theorem dL_948 : decode code 948 = .ok (.iaload, 1) := by decide +kernel
theorem dL_949 : decode code 949 = .ok (.aload_n 0, 1) := by decide +kernel
theorem dL_950 : decode code 950 = .ok (.iload_n 3, 1) := by decide +kernel
theorem dL_951 : decode code 951 = .ok (.iconst 2, 1) := by decide +kernel
theorem dL_952 : decode code 952 = .ok (.iadd, 1) := by decide +kernel
theorem dL_953 : decode code 953 = .ok (.iaload, 1) := by decide +kernel
theorem dL_954 : decode code 954 = .ok (.aload_n 0, 1) := by decide +kernel
theorem dL_955 : decode code 955 = .ok (.iload_n 3, 1) := by decide +kernel
theorem dL_956 : decode code 956 = .ok (.iconst 3, 1) := by decide +kernel
theorem dL_957 : decode code 957 = .ok (.iadd, 1) := by decide +kernel
theorem dL_958 : decode code 958 = .ok (.iaload, 1) := by decide +kernel
theorem dL_959 : decode code 959 = .ok (.invokevirtual 102, 3) := by decide +kernel
theorem dL_962 : decode code 962 = .ok (.if_icmp .eq 397, 3) := by decide +kernel
theorem dL_965 : decode code 965 = .ok (.iconst 0, 1) := by decide +kernel
theorem dL_966 : decode code 966 = .ok (.ireturn, 1) := by decide +kernel
theorem dL_967 : decode code 967 = .ok (.aload_n 1, 1) := by decide +kernel
theorem dL_968 : decode code 968 = .ok (.aload_n 0, 1) := by decide +kernel
theorem dL_969 : decode code 969 = .ok (.iload_n 3, 1) := by decide +kernel
theorem dL_970 : decode code 970 = .ok (.iconst 1, 1) := by decide +kernel
theorem dL_971 : decode code 971 = .ok (.iadd, 1) := by decide +kernel
theorem dL_972 : decode code 972 = .ok (.iaload, 1) := by decide +kernel
theorem dL_973 : decode code 973 = .ok (.invokevirtual 103, 3) := by decide +kernel
theorem dL_976 : decode code 976 = .ok (.aload_n 2, 1) := by decide +kernel
theorem dL_977 : decode code 977 = .ok (.aload_n 0, 1) := by decide +kernel
theorem dL_978 : decode code 978 = .ok (.iload_n 3, 1) := by decide +kernel
theorem dL_979 : decode code 979 = .ok (.iconst 1, 1) := by decide +kernel
theorem dL_980 : decode code 980 = .ok (.iadd, 1) := by decide +kernel
theorem dL_981 : decode code 981 = .ok (.iaload, 1) := by decide +kernel
theorem dL_982 : decode code 982 = .ok (.invokevirtual 106, 3) := by decide +kernel
theorem dL_985 : decode code 985 = .ok (.if_icmp .eq 374, 3) := by decide +kernel
theorem dL_988 : decode code 988 = .ok (.iconst 0, 1) := by decide +kernel
theorem dL_989 : decode code 989 = .ok (.ireturn, 1) := by decide +kernel
theorem dL_990 : decode code 990 = .ok (.aload_n 1, 1) := by decide +kernel
theorem dL_991 : decode code 991 = .ok (.invokevirtual 107, 3) := by decide +kernel
theorem dL_994 : decode code 994 = .ok (.aload_n 2, 1) := by decide +kernel
theorem dL_995 : decode code 995 = .ok (.invokevirtual 111, 3) := by decide +kernel
theorem dL_998 : decode code 998 = .ok (.if_icmp .eq 361, 3) := by decide +kernel
theorem dL_1001 : decode code 1001 = .ok (.iconst 0, 1) := by decide +kernel
theorem dL_1002 : decode code 1002 = .ok (.ireturn, 1) := by decide +kernel
theorem dL_1003 : decode code 1003 = .ok (.aload_n 1, 1) := by decide +kernel
theorem dL_1004 : decode code 1004 = .ok (.aload_n 0, 1) := by decide +kernel
theorem dL_1005 : decode code 1005 = .ok (.iload_n 3, 1) := by decide +kernel
theorem dL_1006 : decode code 1006 = .ok (.iconst 1, 1) := by decide +kernel
theorem dL_1007 : decode code 1007 = .ok (.iadd, 1) := by decide +kernel
theorem dL_1008 : decode code 1008 = .ok (.iaload, 1) := by decide +kernel
theorem dL_1009 : decode code 1009 = .ok (.invokevirtual 112, 3) := by decide +kernel
theorem dL_1012 : decode code 1012 = .ok (.aload_n 2, 1) := by decide +kernel
theorem dL_1013 : decode code 1013 = .ok (.aload_n 0, 1) := by decide +kernel
theorem dL_1014 : decode code 1014 = .ok (.iload_n 3, 1) := by decide +kernel
theorem dL_1015 : decode code 1015 = .ok (.iconst 1, 1) := by decide +kernel
theorem dL_1016 : decode code 1016 = .ok (.iadd, 1) := by decide +kernel
theorem dL_1017 : decode code 1017 = .ok (.iaload, 1) := by decide +kernel
theorem dL_1018 : decode code 1018 = .ok (.invokevirtual 115, 3) := by decide +kernel
theorem dL_1021 : decode code 1021 = .ok (.if_icmp .eq 338, 3) := by decide +kernel
theorem dL_1024 : decode code 1024 = .ok (.iconst 0, 1) := by decide +kernel
theorem dL_1025 : decode code 1025 = .ok (.ireturn, 1) := by decide +kernel
theorem dL_1026 : decode code 1026 = .ok (.aload_n 1, 1) := by decide +kernel
theorem dL_1027 : decode code 1027 = .ok (.aload_n 0, 1) := by decide +kernel
theorem dL_1028 : decode code 1028 = .ok (.iload_n 3, 1) := by decide +kernel
theorem dL_1029 : decode code 1029 = .ok (.iconst 1, 1) := by decide +kernel
theorem dL_1030 : decode code 1030 = .ok (.iadd, 1) := by decide +kernel
theorem dL_1031 : decode code 1031 = .ok (.iaload, 1) := by decide +kernel
theorem dL_1032 : decode code 1032 = .ok (.aload_n 0, 1) := by decide +kernel
theorem dL_1033 : decode code 1033 = .ok (.iload_n 3, 1) := by decide +kernel
theorem dL_1034 : decode code 1034 = .ok (.iconst 2, 1) := by decide +kernel
theorem dL_1035 : decode code 1035 = .ok (.iadd, 1) := by decide +kernel
theorem dL_1036 : decode code 1036 = .ok (.iaload, 1) := by decide +kernel
theorem dL_1037 : decode code 1037 = .ok (.aload_n 0, 1) := by decide +kernel
theorem dL_1038 : decode code 1038 = .ok (.iload_n 3, 1) := by decide +kernel
theorem dL_1039 : decode code 1039 = .ok (.iconst 3, 1) := by decide +kernel
theorem dL_1040 : decode code 1040 = .ok (.iadd, 1) := by decide +kernel
theorem dL_1041 : decode code 1041 = .ok (.iaload, 1) := by decide +kernel
theorem dL_1042 : decode code 1042 = .ok (.invokevirtual 116, 3) := by decide +kernel
theorem dL_1045 : decode code 1045 = .ok (.aload_n 2, 1) := by decide +kernel
theorem dL_1046 : decode code 1046 = .ok (.aload_n 0, 1) := by decide +kernel
theorem dL_1047 : decode code 1047 = .ok (.iload_n 3, 1) := by decide +kernel
theorem dL_1048 : decode code 1048 = .ok (.iconst 1, 1) := by decide +kernel
theorem dL_1049 : decode code 1049 = .ok (.iadd, 1) := by decide +kernel
theorem dL_1050 : decode code 1050 = .ok (.iaload, 1) := by decide +kernel
theorem dL_1051 : decode code 1051 = .ok (.aload_n 0, 1) := by decide +kernel
theorem dL_1052 : decode code 1052 = .ok (.iload_n 3, 1) := by decide +kernel
theorem dL_1053 : decode code 1053 = .ok (.iconst 2, 1) := by decide +kernel
theorem dL_1054 : decode code 1054 = .ok (.iadd, 1) := by decide +kernel
theorem dL_1055 : decode code 1055 = .ok (.iaload, 1) := by decide +kernel
theorem dL_1056 : decode code 1056 = .ok (.aload_n 0, 1) := by decide +kernel
theorem dL_1057 : decode code 1057 = .ok (.iload_n 3, 1) := by decide +kernel
theorem dL_1058 : decode code 1058 = .ok (.iconst 3, 1) := by decide +kernel
theorem dL_1059 : decode code 1059 = .ok (.iadd, 1) := by decide +kernel
theorem dL_1060 : decode code 1060 = .ok (.iaload, 1) := by decide +kernel
theorem dL_1061 : decode code 1061 = .ok (.invokevirtual 119, 3) := by decide +kernel
theorem dL_1064 : decode code 1064 = .ok (.if_icmp .eq 295, 3) := by decide +kernel
theorem dL_1067 : decode code 1067 = .ok (.iconst 0, 1) := by decide +kernel
theorem dL_1068 : decode code 1068 = .ok (.ireturn, 1) := by decide +kernel
theorem dL_1069 : decode code 1069 = .ok (.aload_n 1, 1) := by decide +kernel
theorem dL_1070 : decode code 1070 = .ok (.aload_n 0, 1) := by decide +kernel
theorem dL_1071 : decode code 1071 = .ok (.iload_n 3, 1) := by decide +kernel
theorem dL_1072 : decode code 1072 = .ok (.iconst 1, 1) := by decide +kernel
theorem dL_1073 : decode code 1073 = .ok (.iadd, 1) := by decide +kernel
theorem dL_1074 : decode code 1074 = .ok (.iaload, 1) := by decide +kernel
theorem dL_1075 : decode code 1075 = .ok (.aload_n 0, 1) := by decide +kernel
theorem dL_1076 : decode code 1076 = .ok (.iload_n 3, 1) := by decide +kernel
theorem dL_1077 : decode code 1077 = .ok (.iconst 2, 1) := by decide +kernel
theorem dL_1078 : decode code 1078 = .ok (.iadd, 1) := by decide +kernel
theorem dL_1079 : decode code 1079 = .ok (.iaload, 1) := by decide +kernel
theorem dL_1080 : decode code 1080 = .ok (.invokevirtual 120, 3) := by decide +kernel
theorem dL_1083 : decode code 1083 = .ok (.aload_n 2, 1) := by decide +kernel
theorem dL_1084 : decode code 1084 = .ok (.aload_n 0, 1) := by decide +kernel
theorem dL_1085 : decode code 1085 = .ok (.iload_n 3, 1) := by decide +kernel
theorem dL_1086 : decode code 1086 = .ok (.iconst 1, 1) := by decide +kernel
theorem dL_1087 : decode code 1087 = .ok (.iadd, 1) := by decide +kernel
theorem dL_1088 : decode code 1088 = .ok (.iaload, 1) := by decide +kernel
theorem dL_1089 : decode code 1089 = .ok (.aload_n 0, 1) := by decide +kernel
theorem dL_1090 : decode code 1090 = .ok (.iload_n 3, 1) := by decide +kernel
theorem dL_1091 : decode code 1091 = .ok (.iconst 2, 1) := by decide +kernel
theorem dL_1092 : decode code 1092 = .ok (.iadd, 1) := by decide +kernel
theorem dL_1093 : decode code 1093 = .ok (.iaload, 1) := by decide +kernel
theorem dL_1094 : decode code 1094 = .ok (.invokevirtual 123, 3) := by decide +kernel
theorem dL_1097 : decode code 1097 = .ok (.if_icmp .eq 262, 3) := by decide +kernel
theorem dL_1100 : decode code 1100 = .ok (.iconst 0, 1) := by decide +kernel
theorem dL_1101 : decode code 1101 = .ok (.ireturn, 1) := by decide +kernel
theorem dL_1102 : decode code 1102 = .ok (.aload_n 1, 1) := by decide +kernel
theorem dL_1103 : decode code 1103 = .ok (.aload_n 0, 1) := by decide +kernel
theorem dL_1104 : decode code 1104 = .ok (.iload_n 3, 1) := by decide +kernel
theorem dL_1105 : decode code 1105 = .ok (.iconst 1, 1) := by decide +kernel
theorem dL_1106 : decode code 1106 = .ok (.iadd, 1) := by decide +kernel
theorem dL_1107 : decode code 1107 = .ok (.iaload, 1) := by decide +kernel
theorem dL_1108 : decode code 1108 = .ok (.aload_n 0, 1) := by decide +kernel
theorem dL_1109 : decode code 1109 = .ok (.iload_n 3, 1) := by decide +kernel
theorem dL_1110 : decode code 1110 = .ok (.iconst 2, 1) := by decide +kernel
theorem dL_1111 : decode code 1111 = .ok (.iadd, 1) := by decide +kernel
theorem dL_1112 : decode code 1112 = .ok (.iaload, 1) := by decide +kernel
theorem dL_1113 : decode code 1113 = .ok (.aload_n 0, 1) := by decide +kernel
theorem dL_1114 : decode code 1114 = .ok (.iload_n 3, 1) := by decide +kernel
theorem dL_1115 : decode code 1115 = .ok (.iconst 3, 1) := by decide +kernel
theorem dL_1116 : decode code 1116 = .ok (.iadd, 1) := by decide +kernel
theorem dL_1117 : decode code 1117 = .ok (.iaload, 1) := by decide +kernel
theorem dL_1118 : decode code 1118 = .ok (.aload_n 0, 1) := by decide +kernel
theorem dL_1119 : decode code 1119 = .ok (.iload_n 3, 1) := by decide +kernel
theorem dL_1120 : decode code 1120 = .ok (.iconst 4, 1) := by decide +kernel
theorem dL_1121 : decode code 1121 = .ok (.iadd, 1) := by decide +kernel
theorem dL_1122 : decode code 1122 = .ok (.iaload, 1) := by decide +kernel
theorem dL_1123 : decode code 1123 = .ok (.invokevirtual 124, 3) := by decide +kernel
theorem dL_1126 : decode code 1126 = .ok (.aload_n 2, 1) := by decide +kernel
theorem dL_1127 : decode code 1127 = .ok (.aload_n 0, 1) := by decide +kernel
theorem dL_1128 : decode code 1128 = .ok (.iload_n 3, 1) := by decide +kernel
theorem dL_1129 : decode code 1129 = .ok (.iconst 1, 1) := by decide +kernel
theorem dL_1130 : decode code 1130 = .ok (.iadd, 1) := by decide +kernel
theorem dL_1131 : decode code 1131 = .ok (.iaload, 1) := by decide +kernel
theorem dL_1132 : decode code 1132 = .ok (.aload_n 0, 1) := by decide +kernel
theorem dL_1133 : decode code 1133 = .ok (.iload_n 3, 1) := by decide +kernel
theorem dL_1134 : decode code 1134 = .ok (.iconst 2, 1) := by decide +kernel
theorem dL_1135 : decode code 1135 = .ok (.iadd, 1) := by decide +kernel
theorem dL_1136 : decode code 1136 = .ok (.iaload, 1) := by decide +kernel
theorem dL_1137 : decode code 1137 = .ok (.aload_n 0, 1) := by decide +kernel
theorem dL_1138 : decode code 1138 = .ok (.iload_n 3, 1) := by decide +kernel
theorem dL_1139 : decode code 1139 = .ok (.iconst 3, 1) := by decide +kernel
theorem dL_1140 : decode code 1140 = .ok (.iadd, 1) := by decide +kernel
theorem dL_1141 : decode code 1141 = .ok (.iaload, 1) := by decide +kernel
theorem dL_1142 : decode code 1142 = .ok (.aload_n 0, 1) := by decide +kernel
theorem dL_1143 : decode code 1143 = .ok (.iload_n 3, 1) := by decide +kernel
theorem dL_1144 : decode code 1144 = .ok (.iconst 4, 1) := by decide +kernel
theorem dL_1145 : decode code 1145 = .ok (.iadd, 1) := by decide +kernel
theorem dL_1146 : decode code 1146 = .ok (.iaload, 1) := by decide +kernel
theorem dL_1147 : decode code 1147 = .ok (.invokevirtual 127, 3) := by decide +kernel
theorem dL_1150 : decode code 1150 = .ok (.if_icmp .eq 209, 3) := by decide +kernel
theorem dL_1153 : decode code 1153 = .ok (.iconst 0, 1) := by decide +kernel
theorem dL_1154 : decode code 1154 = .ok (.ireturn, 1) := by decide +kernel
theorem dL_1155 : decode code 1155 = .ok (.aload_n 1, 1) := by decide +kernel
theorem dL_1156 : decode code 1156 = .ok (.aload_n 0, 1) := by decide +kernel
theorem dL_1157 : decode code 1157 = .ok (.iload_n 3, 1) := by decide +kernel
theorem dL_1158 : decode code 1158 = .ok (.iconst 1, 1) := by decide +kernel
theorem dL_1159 : decode code 1159 = .ok (.iadd, 1) := by decide +kernel
theorem dL_1160 : decode code 1160 = .ok (.iaload, 1) := by decide +kernel
theorem dL_1161 : decode code 1161 = .ok (.aload_n 0, 1) := by decide +kernel
theorem dL_1162 : decode code 1162 = .ok (.iload_n 3, 1) := by decide +kernel
theorem dL_1163 : decode code 1163 = .ok (.iconst 2, 1) := by decide +kernel
theorem dL_1164 : decode code 1164 = .ok (.iadd, 1) := by decide +kernel
theorem dL_1165 : decode code 1165 = .ok (.iaload, 1) := by decide +kernel
theorem dL_1166 : decode code 1166 = .ok (.aload_n 0, 1) := by decide +kernel
theorem dL_1167 : decode code 1167 = .ok (.iload_n 3, 1) := by decide +kernel
theorem dL_1168 : decode code 1168 = .ok (.iconst 3, 1) := by decide +kernel
theorem dL_1169 : decode code 1169 = .ok (.iadd, 1) := by decide +kernel
theorem dL_1170 : decode code 1170 = .ok (.iaload, 1) := by decide +kernel
theorem dL_1171 : decode code 1171 = .ok (.invokevirtual 128, 3) := by decide +kernel
theorem dL_1174 : decode code 1174 = .ok (.aload_n 2, 1) := by decide +kernel
theorem dL_1175 : decode code 1175 = .ok (.aload_n 0, 1) := by decide +kernel
theorem dL_1176 : decode code 1176 = .ok (.iload_n 3, 1) := by decide +kernel
theorem dL_1177 : decode code 1177 = .ok (.iconst 1, 1) := by decide +kernel
theorem dL_1178 : decode code 1178 = .ok (.iadd, 1) := by decide +kernel
theorem dL_1179 : decode code 1179 = .ok (.iaload, 1) := by decide +kernel
theorem dL_1180 : decode code 1180 = .ok (.aload_n 0, 1) := by decide +kernel
theorem dL_1181 : decode code 1181 = .ok (.iload_n 3, 1) := by decide +kernel
theorem dL_1182 : decode code 1182 = .ok (.iconst 2, 1) := by decide +kernel
theorem dL_1183 : decode code 1183 = .ok (.iadd, 1) := by decide +kernel
theorem dL_1184 : decode code 1184 = .ok (.iaload, 1) := by decide +kernel
theorem dL_1185 : decode code 1185 = .ok (.aload_n 0, 1) := by decide +kernel
theorem dL_1186 : decode code 1186 = .ok (.iload_n 3, 1) := by decide +kernel
theorem dL_1187 : decode code 1187 = .ok (.iconst 3, 1) := by decide +kernel
theorem dL_1188 : decode code 1188 = .ok (.iadd, 1) := by decide +kernel
theorem dL_1189 : decode code 1189 = .ok (.iaload, 1) := by decide +kernel
theorem dL_1190 : decode code 1190 = .ok (.invokevirtual 131, 3) := by decide +kernel
theorem dL_1193 : decode code 1193 = .ok (.if_icmp .eq 166, 3) := by decide +kernel
theorem dL_1196 : decode code 1196 = .ok (.iconst 0, 1) := by decide +kernel
theorem dL_1197 : decode code 1197 = .ok (.ireturn, 1) := by decide +kernel
theorem dL_1198 : decode code 1198 = .ok (.aload_n 1, 1) := by decide +kernel
theorem dL_1199 : decode code 1199 = .ok (.aload_n 0, 1) := by decide +kernel
theorem dL_1200 : decode code 1200 = .ok (.iload_n 3, 1) := by decide +kernel
theorem dL_1201 : decode code 1201 = .ok (.iconst 1, 1) := by decide +kernel
theorem dL_1202 : decode code 1202 = .ok (.iadd, 1) := by decide +kernel
theorem dL_1203 : decode code 1203 = .ok (.iaload, 1) := by decide +kernel
theorem dL_1204 : decode code 1204 = .ok (.aload_n 0, 1) := by decide +kernel
theorem dL_1205 : decode code 1205 = .ok (.iload_n 3, 1) := by decide +kernel
theorem dL_1206 : decode code 1206 = .ok (.iconst 2, 1) := by decide +kernel
theorem dL_1207 : decode code 1207 = .ok (.iadd, 1) := by decide +kernel
theorem dL_1208 : decode code 1208 = .ok (.iaload, 1) := by decide +kernel
theorem dL_1209 : decode code 1209 = .ok (.invokevirtual 132, 3) := by decide +kernel
theorem dL_1212 : decode code 1212 = .ok (.aload_n 2, 1) := by decide +kernel
theorem dL_1213 : decode code 1213 = .ok (.aload_n 0, 1) := by decide +kernel
theorem dL_1214 : decode code 1214 = .ok (.iload_n 3, 1) := by decide +kernel
theorem dL_1215 : decode code 1215 = .ok (.iconst 1, 1) := by decide +kernel
theorem dL_1216 : decode code 1216 = .ok (.iadd, 1) := by decide +kernel
theorem dL_1217 : decode code 1217 = .ok (.iaload, 1) := by decide +kernel
theorem dL_1218 : decode code 1218 = .ok (.aload_n 0, 1) := by decide +kernel
theorem dL_1219 : decode code 1219 = .ok (.iload_n 3, 1) := by decide +kernel
theorem dL_1220 : decode code 1220 = .ok (.iconst 2, 1) := by decide +kernel
theorem dL_1221 : decode code 1221 = .ok (.iadd, 1) := by decide +kernel
theorem dL_1222 : decode code 1222 = .ok (.iaload, 1) := by decide +kernel
theorem dL_1223 : decode code 1223 = .ok (.invokevirtual 135, 3) := by decide +kernel
theorem dL_1226 : decode code 1226 = .ok (.if_icmp .eq 133, 3) := by decide +kernel
theorem dL_1229 : decode code 1229 = .ok (.iconst 0, 1) := by decide +kernel
theorem dL_1230 : decode code 1230 = .ok (.ireturn, 1) := by decide +kernel
theorem dL_1231 : decode code 1231 = .ok (.aload_n 1, 1) := by decide +kernel
theorem dL_1232 : decode code 1232 = .ok (.aload_n 0, 1) := by decide +kernel
theorem dL_1233 : decode code 1233 = .ok (.iload_n 3, 1) := by decide +kernel
theorem dL_1234 : decode code 1234 = .ok (.iconst 1, 1) := by decide +kernel
theorem dL_1235 : decode code 1235 = .ok (.iadd, 1) := by decide +kernel
theorem dL_1236 : decode code 1236 = .ok (.iaload, 1) := by decide +kernel
theorem dL_1237 : decode code 1237 = .ok (.aload_n 0, 1) := by decide +kernel
theorem dL_1238 : decode code 1238 = .ok (.iload_n 3, 1) := by decide +kernel
theorem dL_1239 : decode code 1239 = .ok (.iconst 2, 1) := by decide +kernel
theorem dL_1240 : decode code 1240 = .ok (.iadd, 1) := by decide +kernel
theorem dL_1241 : decode code 1241 = .ok (.iaload, 1) := by decide +kernel
theorem dL_1242 : decode code 1242 = .ok (.invokevirtual 136, 3) := by decide +kernel
theorem dL_1245 : decode code 1245 = .ok (.aload_n 2, 1) := by decide +kernel
theorem dL_1246 : decode code 1246 = .ok (.aload_n 0, 1) := by decide +kernel
theorem dL_1247 : decode code 1247 = .ok (.iload_n 3, 1) := by decide +kernel
theorem dL_1248 : decode code 1248 = .ok (.iconst 1, 1) := by decide +kernel
theorem dL_1249 : decode code 1249 = .ok (.iadd, 1) := by decide +kernel
theorem dL_1250 : decode code 1250 = .ok (.iaload, 1) := by decide +kernel
theorem dL_1251 : decode code 1251 = .ok (.aload_n 0, 1) := by decide +kernel
theorem dL_1252 : decode code 1252 = .ok (.iload_n 3, 1) := by decide +kernel
theorem dL_1253 : decode code 1253 = .ok (.iconst 2, 1) := by decide +kernel
theorem dL_1254 : decode code 1254 = .ok (.iadd, 1) := by decide +kernel
theorem dL_1255 : decode code 1255 = .ok (.iaload, 1) := by decide +kernel
theorem dL_1256 : decode code 1256 = .ok (.invokevirtual 139, 3) := by decide +kernel
theorem dL_1259 : decode code 1259 = .ok (.if_icmp .eq 100, 3) := by decide +kernel
theorem dL_1262 : decode code 1262 = .ok (.iconst 0, 1) := by decide +kernel
theorem dL_1263 : decode code 1263 = .ok (.ireturn, 1) := by decide +kernel
theorem dL_1264 : decode code 1264 = .ok (.aload_n 1, 1) := by decide +kernel
theorem dL_1265 : decode code 1265 = .ok (.invokevirtual 140, 3) := by decide +kernel
theorem dL_1268 : decode code 1268 = .ok (.aload_n 2, 1) := by decide +kernel
theorem dL_1269 : decode code 1269 = .ok (.invokevirtual 143, 3) := by decide +kernel
theorem dL_1272 : decode code 1272 = .ok (.if_icmp .eq 87, 3) := by decide +kernel
theorem dL_1275 : decode code 1275 = .ok (.iconst 0, 1) := by decide +kernel
theorem dL_1276 : decode code 1276 = .ok (.ireturn, 1) := by decide +kernel
theorem dL_1277 : decode code 1277 = .ok (.aload_n 1, 1) := by decide +kernel
theorem dL_1278 : decode code 1278 = .ok (.aload_n 0, 1) := by decide +kernel
theorem dL_1279 : decode code 1279 = .ok (.iload_n 3, 1) := by decide +kernel
theorem dL_1280 : decode code 1280 = .ok (.iconst 1, 1) := by decide +kernel
theorem dL_1281 : decode code 1281 = .ok (.iadd, 1) := by decide +kernel
theorem dL_1282 : decode code 1282 = .ok (.iaload, 1) := by decide +kernel
theorem dL_1283 : decode code 1283 = .ok (.aload_n 0, 1) := by decide +kernel
theorem dL_1284 : decode code 1284 = .ok (.iload_n 3, 1) := by decide +kernel
theorem dL_1285 : decode code 1285 = .ok (.iconst 2, 1) := by decide +kernel
theorem dL_1286 : decode code 1286 = .ok (.iadd, 1) := by decide +kernel
theorem dL_1287 : decode code 1287 = .ok (.iaload, 1) := by decide +kernel
theorem dL_1288 : decode code 1288 = .ok (.invokevirtual 144, 3) := by decide +kernel
theorem dL_1291 : decode code 1291 = .ok (.aload_n 2, 1) := by decide +kernel
theorem dL_1292 : decode code 1292 = .ok (.aload_n 0, 1) := by decide +kernel
theorem dL_1293 : decode code 1293 = .ok (.iload_n 3, 1) := by decide +kernel
theorem dL_1294 : decode code 1294 = .ok (.iconst 1, 1) := by decide +kernel
theorem dL_1295 : decode code 1295 = .ok (.iadd, 1) := by decide +kernel
theorem dL_1296 : decode code 1296 = .ok (.iaload, 1) := by decide +kernel
theorem dL_1297 : decode code 1297 = .ok (.aload_n 0, 1) := by decide +kernel
theorem dL_1298 : decode code 1298 = .ok (.iload_n 3, 1) := by decide +kernel
theorem dL_1299 : decode code 1299 = .ok (.iconst 2, 1) := by decide +kernel
theorem dL_1300 : decode code 1300 = .ok (.iadd, 1) := by decide +kernel
theorem dL_1301 : decode code 1301 = .ok (.iaload, 1) := by decide +kernel
theorem dL_1302 : decode code 1302 = .ok (.invokevirtual 147, 3) := by decide +kernel
theorem dL_1305 : decode code 1305 = .ok (.if_icmp .eq 54, 3) := by decide +kernel
theorem dL_1308 : decode code 1308 = .ok (.iconst 0, 1) := by decide +kernel
theorem dL_1309 : decode code 1309 = .ok (.ireturn, 1) := by decide +kernel
theorem dL_1310 : decode code 1310 = .ok (.aload_n 1, 1) := by decide +kernel
theorem dL_1311 : decode code 1311 = .ok (.invokevirtual 148, 3) := by decide +kernel
theorem dL_1314 : decode code 1314 = .ok (.aload_n 2, 1) := by decide +kernel
theorem dL_1315 : decode code 1315 = .ok (.invokevirtual 151, 3) := by decide +kernel
theorem dL_1318 : decode code 1318 = .ok (.if_icmp .eq 41, 3) := by decide +kernel
theorem dL_1321 : decode code 1321 = .ok (.iconst 0, 1) := by decide +kernel
theorem dL_1322 : decode code 1322 = .ok (.ireturn, 1) := by decide +kernel
theorem dL_1323 : decode code 1323 = .ok (.aload_n 1, 1) := by decide +kernel
theorem dL_1324 : decode code 1324 = .ok (.invokevirtual 152, 3) := by decide +kernel
theorem dL_1327 : decode code 1327 = .ok (.aload_n 2, 1) := by decide +kernel
theorem dL_1328 : decode code 1328 = .ok (.invokevirtual 155, 3) := by decide +kernel
theorem dL_1331 : decode code 1331 = .ok (.if_icmp .eq 28, 3) := by decide +kernel
theorem dL_1334 : decode code 1334 = .ok (.iconst 0, 1) := by decide +kernel
theorem dL_1335 : decode code 1335 = .ok (.ireturn, 1) := by decide +kernel
theorem dL_1336 : decode code 1336 = .ok (.aload_n 1, 1) := by decide +kernel
theorem dL_1337 : decode code 1337 = .ok (.aload_n 0, 1) := by decide +kernel
theorem dL_1338 : decode code 1338 = .ok (.iload_n 3, 1) := by decide +kernel
theorem dL_1339 : decode code 1339 = .ok (.iconst 1, 1) := by decide +kernel
theorem dL_1340 : decode code 1340 = .ok (.iadd, 1) := by decide +kernel
theorem dL_1341 : decode code 1341 = .ok (.iaload, 1) := by decide +kernel
theorem dL_1342 : decode code 1342 = .ok (.invokevirtual 156, 3) := by decide +kernel
theorem dL_1345 : decode code 1345 = .ok (.aload_n 2, 1) := by decide +kernel
theorem dL_1346 : decode code 1346 = .ok (.aload_n 0, 1) := by decide +kernel
theorem dL_1347 : decode code 1347 = .ok (.iload_n 3, 1) := by decide +kernel
theorem dL_1348 : decode code 1348 = .ok (.iconst 1, 1) := by decide +kernel
theorem dL_1349 : decode code 1349 = .ok (.iadd, 1) := by decide +kernel
theorem dL_1350 : decode code 1350 = .ok (.iaload, 1) := by decide +kernel
theorem dL_1351 : decode code 1351 = .ok (.invokevirtual 159, 3) := by decide +kernel
theorem dL_1354 : decode code 1354 = .ok (.if_icmp .eq 5, 3) := by decide +kernel
theorem dL_1357 : decode code 1357 = .ok (.iconst 0, 1) := by decide +kernel
theorem dL_1358 : decode code 1358 = .ok (.ireturn, 1) := by decide +kernel
theorem dL_1359 : decode code 1359 = .ok (.iinc 3 6, 3) := by decide +kernel
theorem dL_1362 : decode code 1362 = .ok (.goto (-1344), 3) := by decide +kernel
theorem dL_1365 : decode code 1365 = .ok (.iconst 1, 1) := by decide +kernel
theorem dL_1366 : decode code 1366 = .ok (.ireturn, 1) := by decide +kernel
def lE (g : vG) (b L : Nat) (xs : Nat → Int32) : Array Value → State → Prop := fun args s => args = #[.ref b] ∧ va_X b L xs s s.heap ∧ b < s.heap.size ∧ g.2.2.2.2 = s.heap.size
def LLs (i : Int32) : List (Nat × vV) := [(3, vI i), (2, vR 22 0), (1, vR 0 0), (0, vT 45)]
abbrev LB (l : Launch) (g : vG) (b L : Nat) (xs : Nat → Int32) (pc : Nat) (i : Int32) (st : List vV) (J : VP) : Prop := VB l g RL code 4 ret room_1 968 19358 (lE g b L xs) lw_Z pc (LLs i) st J
section LROWS
variable {l : Launch} {g : vG} {b L : Nat} {xs : Nat → Int32} {pc : Nat} {i : Int32} {st : List vV} {J : VP}
theorem lr_sld {n : Int32} (hg : g.2.2.2.1 45 = b) (hin : vp_in n L) (hd : decode code pc = .ok (.iaload, 1)) (h : LB l g b L xs (pc + 1) i (vI (xs (ix n)) :: st) J) : LB l g b L xs pc i (vI n :: vT 45 :: st) J := fun p e s m args below meth c H locs ls C0 w S LL => by
  obtain ⟨-, hX, hbl, hbase⟩ := C0.2.2.2.2.2.2.2.2
  show W p l e room_1 s m args below meth c H locs 968 19358 _ (F0 m pc ls (.int n :: .ref (g.2.2.2.1 45) :: st.map (vv g)))
  rw [hg]
  exact va_sld C0.1 C0.2.1 hX hbl (fun (z : g.2.2.2.2 ≤ b) => by omega) S hin hd (h p e s m args below meth c H locs ls C0 w S LL)
theorem lr_slen (hg : g.2.2.2.1 45 = b) (hd : decode code pc = .ok (.arraylength, 1)) (h : LB l g b L xs (pc + 1) i (vI (Int32.ofNat L) :: st) J) : LB l g b L xs pc i (vT 45 :: st) J := fun p e s m args below meth c H locs ls C0 w S LL => by
  obtain ⟨-, hX, hbl, hbase⟩ := C0.2.2.2.2.2.2.2.2
  show W p l e room_1 s m args below meth c H locs 968 19358 _ (F0 m pc ls (.ref (g.2.2.2.1 45) :: st.map (vv g)))
  rw [hg]
  exact va_slen C0.1 C0.2.1 hX hbl (fun (z : g.2.2.2.2 ≤ b) => by omega) S hd (h p e s m args below meth c H locs ls C0 w S LL)
theorem lr_arg {k : Int} (v : Int32) (hg : g.2.2.2.1 45 = b) (hk : Int32.ofInt k = v) (hin : vp_in (i + v) L) (d0 : decode code pc = .ok (.aload_n 0, 1)) (d1 : decode code (pc + 1) = .ok (.iload_n 3, 1)) (d2 : decode code (pc + 2) = .ok (.iconst k, 1)) (d3 : decode code (pc + 3) = .ok (.iadd, 1)) (d4 : decode code (pc + 4) = .ok (.iaload, 1)) (h : LB l g b L xs (pc + 5) i (vI (xs (ix (i + v))) :: st) J) : LB l g b L xs pc i st J := by
  refine vr_aload_n 0 3 d0 rfl rfl ?_
  refine vr_iload_n 3 0 d1 rfl rfl ?_
  refine vr_iconst v d2 hk ?_
  refine vr_iadd d3 ?_
  exact lr_sld hg hin d4 h
/-- the end: what the law's own frame leaves -/
theorem lr_ret (hd1 : decode code pc = .ok (.ireturn, 1)) : LB l g b L xs pc i [vI 1] J := fun p e s m args below meth c H locs ls C0 w S LL => by
  obtain ⟨hx, hb, hml, hr, hlk, -, -, -, rfl, -, -, hbase⟩ := id C0
  refine va_forget (fun q hq => hbase ▸ S.2.2 q hq) ?_
  refine W.widen (k := 600000) (n := 7302249) (by decide) (by decide) ?_
  exact lw_ret hx hb hr hlk hd1
end LROWS
