/-! the cases of the law -/
theorem lc_0 {l : Launch} {g : vG} {b L : Nat} {xs : Nat → Int32} {i : Int32} {P Q : VP} (hg : g.2.2.2.1 45 = b) (hR : RR P Q) (hin : ∀ v : Int32, 0 ≤ v → v ≤ 5 → vp_in (i + v) L) (K : ∀ P1 Q1 : VP, RR P1 Q1 → LB l g b L xs 1359 i [] (vjn P1 Q1)) : LB l g b L xs 188 i [] (vjn P Q) := by
  obtain ⟨r, P1, Q1, hR1, hA, hB⟩ := D_directory hR (xs (ix (i + 1)))
  refine vr_aload_n 1 2 dL_188 rfl rfl ?_
  refine lr_arg 1 hg rfl (hin 1 (by decide) (by decide)) dL_189 dL_190 dL_191 dL_192 dL_193 ?_
  refine vr_callV RL (k := 0) (x := 0) (As := [vI (xs (ix (i + 1)))]) (st := []) (s_X7_directory (post := fun r' P' => r' = r ∧ P' = P1) (hA _ ⟨rfl, rfl⟩)) rfl (by decide) rfl rfl rfl ml_L_13 rfl yh_X7_directory rfl ⟨Nat.le_of_ble_eq_true rfl, Nat.le_of_ble_eq_true rfl⟩ (Nat.le_of_ble_eq_true rfl) ⟨Nat.le_of_ble_eq_true rfl, Nat.le_of_ble_eq_true rfl⟩ dL_194 (fun v J hp => ?_)
  obtain ⟨P7, r7, rfl, rfl, rfl, rfl⟩ := hp
  refine vr_aload_n 2 1 dL_197 rfl rfl ?_
  refine lr_arg 1 hg rfl (hin 1 (by decide) (by decide)) dL_198 dL_199 dL_200 dL_201 dL_202 ?_
  refine vr_callV RL (k := 22) (x := 0) (As := [vI (xs (ix (i + 1)))]) (st := [vI r7]) (s_X8_directory (post := fun r' P' => r' = r7 ∧ P' = Q1) (hB _ ⟨rfl, rfl⟩)) rfl (by decide) rfl rfl rfl ml_L_17 rfl yh_X8_directory rfl ⟨Nat.le_of_ble_eq_true rfl, Nat.le_of_ble_eq_true rfl⟩ (Nat.le_of_ble_eq_true rfl) ⟨Nat.le_of_ble_eq_true rfl, Nat.le_of_ble_eq_true rfl⟩ dL_203 (fun v J hp => ?_)
  obtain ⟨P8, r8, rfl, rfl, rfl, rfl⟩ := hp
  refine vr_icmpeq 1359 dL_206 rfl (fun _ => ?_) (fun hn => absurd rfl hn)
  exact K _ _ hR1
theorem lc_1 {l : Launch} {g : vG} {b L : Nat} {xs : Nat → Int32} {i : Int32} {P Q : VP} (hg : g.2.2.2.1 45 = b) (hR : RR P Q) (hin : ∀ v : Int32, 0 ≤ v → v ≤ 5 → vp_in (i + v) L) (K : ∀ P1 Q1 : VP, RR P1 Q1 → LB l g b L xs 1359 i [] (vjn P1 Q1)) : LB l g b L xs 211 i [] (vjn P Q) := by
  obtain ⟨r, P1, Q1, hR1, hA, hB⟩ := D_segment hR (xs (ix (i + 1))) (xs (ix (i + 2))) (xs (ix (i + 3)))
  refine vr_aload_n 1 2 dL_211 rfl rfl ?_
  refine lr_arg 1 hg rfl (hin 1 (by decide) (by decide)) dL_212 dL_213 dL_214 dL_215 dL_216 ?_
  refine lr_arg 2 hg rfl (hin 2 (by decide) (by decide)) dL_217 dL_218 dL_219 dL_220 dL_221 ?_
  refine lr_arg 3 hg rfl (hin 3 (by decide) (by decide)) dL_222 dL_223 dL_224 dL_225 dL_226 ?_
  refine vr_callV RL (k := 0) (x := 0) (As := [vI (xs (ix (i + 1))), vI (xs (ix (i + 2))), vI (xs (ix (i + 3)))]) (st := []) (s_X7_segment (post := fun r' P' => r' = r ∧ P' = P1) (hA _ ⟨rfl, rfl⟩)) rfl (by decide) rfl rfl rfl ml_L_18 rfl yh_X7_segment rfl ⟨Nat.le_of_ble_eq_true rfl, Nat.le_of_ble_eq_true rfl⟩ (Nat.le_of_ble_eq_true rfl) ⟨Nat.le_of_ble_eq_true rfl, Nat.le_of_ble_eq_true rfl⟩ dL_227 (fun v J hp => ?_)
  obtain ⟨P7, r7, rfl, rfl, rfl, rfl⟩ := hp
  refine vr_aload_n 2 1 dL_230 rfl rfl ?_
  refine lr_arg 1 hg rfl (hin 1 (by decide) (by decide)) dL_231 dL_232 dL_233 dL_234 dL_235 ?_
  refine lr_arg 2 hg rfl (hin 2 (by decide) (by decide)) dL_236 dL_237 dL_238 dL_239 dL_240 ?_
  refine lr_arg 3 hg rfl (hin 3 (by decide) (by decide)) dL_241 dL_242 dL_243 dL_244 dL_245 ?_
  refine vr_callV RL (k := 22) (x := 0) (As := [vI (xs (ix (i + 1))), vI (xs (ix (i + 2))), vI (xs (ix (i + 3)))]) (st := [vI r7]) (s_X8_segment (post := fun r' P' => r' = r7 ∧ P' = Q1) (hB _ ⟨rfl, rfl⟩)) rfl (by decide) rfl rfl rfl ml_L_22 rfl yh_X8_segment rfl ⟨Nat.le_of_ble_eq_true rfl, Nat.le_of_ble_eq_true rfl⟩ (Nat.le_of_ble_eq_true rfl) ⟨Nat.le_of_ble_eq_true rfl, Nat.le_of_ble_eq_true rfl⟩ dL_246 (fun v J hp => ?_)
  obtain ⟨P8, r8, rfl, rfl, rfl, rfl⟩ := hp
  refine vr_icmpeq 1359 dL_249 rfl (fun _ => ?_) (fun hn => absurd rfl hn)
  exact K _ _ hR1
theorem lc_2 {l : Launch} {g : vG} {b L : Nat} {xs : Nat → Int32} {i : Int32} {P Q : VP} (hg : g.2.2.2.1 45 = b) (hR : RR P Q) (hin : ∀ v : Int32, 0 ≤ v → v ≤ 5 → vp_in (i + v) L) (K : ∀ P1 Q1 : VP, RR P1 Q1 → LB l g b L xs 1359 i [] (vjn P1 Q1)) : LB l g b L xs 254 i [] (vjn P Q) := by
  obtain ⟨r, P1, Q1, hR1, hA, hB⟩ := D_drop hR (xs (ix (i + 1)))
  refine vr_aload_n 1 2 dL_254 rfl rfl ?_
  refine lr_arg 1 hg rfl (hin 1 (by decide) (by decide)) dL_255 dL_256 dL_257 dL_258 dL_259 ?_
  refine vr_callV RL (k := 0) (x := 0) (As := [vI (xs (ix (i + 1)))]) (st := []) (s_X7_drop (post := fun r' P' => r' = r ∧ P' = P1) (hA _ ⟨rfl, rfl⟩)) rfl (by decide) rfl rfl rfl ml_L_23 rfl yh_X7_drop rfl ⟨Nat.le_of_ble_eq_true rfl, Nat.le_of_ble_eq_true rfl⟩ (Nat.le_of_ble_eq_true rfl) ⟨Nat.le_of_ble_eq_true rfl, Nat.le_of_ble_eq_true rfl⟩ dL_260 (fun v J hp => ?_)
  obtain ⟨P7, r7, rfl, rfl, rfl, rfl⟩ := hp
  refine vr_aload_n 2 1 dL_263 rfl rfl ?_
  refine lr_arg 1 hg rfl (hin 1 (by decide) (by decide)) dL_264 dL_265 dL_266 dL_267 dL_268 ?_
  refine vr_callV RL (k := 22) (x := 0) (As := [vI (xs (ix (i + 1)))]) (st := [vI r7]) (s_X8_drop (post := fun r' P' => r' = r7 ∧ P' = Q1) (hB _ ⟨rfl, rfl⟩)) rfl (by decide) rfl rfl rfl ml_L_26 rfl yh_X8_drop rfl ⟨Nat.le_of_ble_eq_true rfl, Nat.le_of_ble_eq_true rfl⟩ (Nat.le_of_ble_eq_true rfl) ⟨Nat.le_of_ble_eq_true rfl, Nat.le_of_ble_eq_true rfl⟩ dL_269 (fun v J hp => ?_)
  obtain ⟨P8, r8, rfl, rfl, rfl, rfl⟩ := hp
  refine vr_icmpeq 1359 dL_272 rfl (fun _ => ?_) (fun hn => absurd rfl hn)
  exact K _ _ hR1
theorem lc_3 {l : Launch} {g : vG} {b L : Nat} {xs : Nat → Int32} {i : Int32} {P Q : VP} (hg : g.2.2.2.1 45 = b) (hR : RR P Q) (hin : ∀ v : Int32, 0 ≤ v → v ≤ 5 → vp_in (i + v) L) (K : ∀ P1 Q1 : VP, RR P1 Q1 → LB l g b L xs 1359 i [] (vjn P1 Q1)) : LB l g b L xs 277 i [] (vjn P Q) := by
  obtain ⟨r, P1, Q1, hR1, hA, hB⟩ := D_resize hR (xs (ix (i + 1))) (xs (ix (i + 2)))
  refine vr_aload_n 1 2 dL_277 rfl rfl ?_
  refine lr_arg 1 hg rfl (hin 1 (by decide) (by decide)) dL_278 dL_279 dL_280 dL_281 dL_282 ?_
  refine lr_arg 2 hg rfl (hin 2 (by decide) (by decide)) dL_283 dL_284 dL_285 dL_286 dL_287 ?_
  refine vr_callV RL (k := 0) (x := 0) (As := [vI (xs (ix (i + 1))), vI (xs (ix (i + 2)))]) (st := []) (s_X7_resize (post := fun r' P' => r' = r ∧ P' = P1) (hA _ ⟨rfl, rfl⟩)) rfl (by decide) rfl rfl rfl ml_L_27 rfl yh_X7_resize rfl ⟨Nat.le_of_ble_eq_true rfl, Nat.le_of_ble_eq_true rfl⟩ (Nat.le_of_ble_eq_true rfl) ⟨Nat.le_of_ble_eq_true rfl, Nat.le_of_ble_eq_true rfl⟩ dL_288 (fun v J hp => ?_)
  obtain ⟨P7, r7, rfl, rfl, rfl, rfl⟩ := hp
  refine vr_aload_n 2 1 dL_291 rfl rfl ?_
  refine lr_arg 1 hg rfl (hin 1 (by decide) (by decide)) dL_292 dL_293 dL_294 dL_295 dL_296 ?_
  refine lr_arg 2 hg rfl (hin 2 (by decide) (by decide)) dL_297 dL_298 dL_299 dL_300 dL_301 ?_
  refine vr_callV RL (k := 22) (x := 0) (As := [vI (xs (ix (i + 1))), vI (xs (ix (i + 2)))]) (st := [vI r7]) (s_X8_resize (post := fun r' P' => r' = r7 ∧ P' = Q1) (hB _ ⟨rfl, rfl⟩)) rfl (by decide) rfl rfl rfl ml_L_31 rfl yh_X8_resize rfl ⟨Nat.le_of_ble_eq_true rfl, Nat.le_of_ble_eq_true rfl⟩ (Nat.le_of_ble_eq_true rfl) ⟨Nat.le_of_ble_eq_true rfl, Nat.le_of_ble_eq_true rfl⟩ dL_302 (fun v J hp => ?_)
  obtain ⟨P8, r8, rfl, rfl, rfl, rfl⟩ := hp
  refine vr_icmpeq 1359 dL_305 rfl (fun _ => ?_) (fun hn => absurd rfl hn)
  exact K _ _ hR1
theorem lc_4 {l : Launch} {g : vG} {b L : Nat} {xs : Nat → Int32} {i : Int32} {P Q : VP} (hg : g.2.2.2.1 45 = b) (hR : RR P Q) (hin : ∀ v : Int32, 0 ≤ v → v ≤ 5 → vp_in (i + v) L) (K : ∀ P1 Q1 : VP, RR P1 Q1 → LB l g b L xs 1359 i [] (vjn P1 Q1)) : LB l g b L xs 310 i [] (vjn P Q) := by
  obtain ⟨r, P1, Q1, hR1, hA, hB⟩ := D_rename hR (xs (ix (i + 1))) (xs (ix (i + 2)))
  refine vr_aload_n 1 2 dL_310 rfl rfl ?_
  refine lr_arg 1 hg rfl (hin 1 (by decide) (by decide)) dL_311 dL_312 dL_313 dL_314 dL_315 ?_
  refine lr_arg 2 hg rfl (hin 2 (by decide) (by decide)) dL_316 dL_317 dL_318 dL_319 dL_320 ?_
  refine vr_callV RL (k := 0) (x := 0) (As := [vI (xs (ix (i + 1))), vI (xs (ix (i + 2)))]) (st := []) (s_X7_rename (post := fun r' P' => r' = r ∧ P' = P1) (hA _ ⟨rfl, rfl⟩)) rfl (by decide) rfl rfl rfl ml_L_32 rfl yh_X7_rename rfl ⟨Nat.le_of_ble_eq_true rfl, Nat.le_of_ble_eq_true rfl⟩ (Nat.le_of_ble_eq_true rfl) ⟨Nat.le_of_ble_eq_true rfl, Nat.le_of_ble_eq_true rfl⟩ dL_321 (fun v J hp => ?_)
  obtain ⟨P7, r7, rfl, rfl, rfl, rfl⟩ := hp
  refine vr_aload_n 2 1 dL_324 rfl rfl ?_
  refine lr_arg 1 hg rfl (hin 1 (by decide) (by decide)) dL_325 dL_326 dL_327 dL_328 dL_329 ?_
  refine lr_arg 2 hg rfl (hin 2 (by decide) (by decide)) dL_330 dL_331 dL_332 dL_333 dL_334 ?_
  refine vr_callV RL (k := 22) (x := 0) (As := [vI (xs (ix (i + 1))), vI (xs (ix (i + 2)))]) (st := [vI r7]) (s_X8_rename (post := fun r' P' => r' = r7 ∧ P' = Q1) (hB _ ⟨rfl, rfl⟩)) rfl (by decide) rfl rfl rfl ml_L_35 rfl yh_X8_rename rfl ⟨Nat.le_of_ble_eq_true rfl, Nat.le_of_ble_eq_true rfl⟩ (Nat.le_of_ble_eq_true rfl) ⟨Nat.le_of_ble_eq_true rfl, Nat.le_of_ble_eq_true rfl⟩ dL_335 (fun v J hp => ?_)
  obtain ⟨P8, r8, rfl, rfl, rfl, rfl⟩ := hp
  refine vr_icmpeq 1359 dL_338 rfl (fun _ => ?_) (fun hn => absurd rfl hn)
  exact K _ _ hR1
theorem lc_5 {l : Launch} {g : vG} {b L : Nat} {xs : Nat → Int32} {i : Int32} {P Q : VP} (hg : g.2.2.2.1 45 = b) (hR : RR P Q) (hin : ∀ v : Int32, 0 ≤ v → v ≤ 5 → vp_in (i + v) L) (K : ∀ P1 Q1 : VP, RR P1 Q1 → LB l g b L xs 1359 i [] (vjn P1 Q1)) : LB l g b L xs 343 i [] (vjn P Q) := by
  obtain ⟨r, P1, Q1, hR1, hA, hB⟩ := D_brackets hR (xs (ix (i + 1))) (xs (ix (i + 2)))
  refine vr_aload_n 1 2 dL_343 rfl rfl ?_
  refine lr_arg 1 hg rfl (hin 1 (by decide) (by decide)) dL_344 dL_345 dL_346 dL_347 dL_348 ?_
  refine lr_arg 2 hg rfl (hin 2 (by decide) (by decide)) dL_349 dL_350 dL_351 dL_352 dL_353 ?_
  refine vr_callV RL (k := 0) (x := 0) (As := [vI (xs (ix (i + 1))), vI (xs (ix (i + 2)))]) (st := []) (s_X7_brackets (post := fun r' P' => r' = r ∧ P' = P1) (hA _ ⟨rfl, rfl⟩)) rfl (by decide) rfl rfl rfl ml_L_36 rfl yh_X7_brackets rfl ⟨Nat.le_of_ble_eq_true rfl, Nat.le_of_ble_eq_true rfl⟩ (Nat.le_of_ble_eq_true rfl) ⟨Nat.le_of_ble_eq_true rfl, Nat.le_of_ble_eq_true rfl⟩ dL_354 (fun v J hp => ?_)
  obtain ⟨P7, r7, rfl, rfl, rfl, rfl⟩ := hp
  refine vr_aload_n 2 1 dL_357 rfl rfl ?_
  refine lr_arg 1 hg rfl (hin 1 (by decide) (by decide)) dL_358 dL_359 dL_360 dL_361 dL_362 ?_
  refine lr_arg 2 hg rfl (hin 2 (by decide) (by decide)) dL_363 dL_364 dL_365 dL_366 dL_367 ?_
  refine vr_callV RL (k := 22) (x := 0) (As := [vI (xs (ix (i + 1))), vI (xs (ix (i + 2)))]) (st := [vI r7]) (s_X8_brackets (post := fun r' P' => r' = r7 ∧ P' = Q1) (hB _ ⟨rfl, rfl⟩)) rfl (by decide) rfl rfl rfl ml_L_39 rfl yh_X8_brackets rfl ⟨Nat.le_of_ble_eq_true rfl, Nat.le_of_ble_eq_true rfl⟩ (Nat.le_of_ble_eq_true rfl) ⟨Nat.le_of_ble_eq_true rfl, Nat.le_of_ble_eq_true rfl⟩ dL_368 (fun v J hp => ?_)
  obtain ⟨P8, r8, rfl, rfl, rfl, rfl⟩ := hp
  refine vr_icmpeq 1359 dL_371 rfl (fun _ => ?_) (fun hn => absurd rfl hn)
  exact K _ _ hR1
theorem lc_6 {l : Launch} {g : vG} {b L : Nat} {xs : Nat → Int32} {i : Int32} {P Q : VP} (hg : g.2.2.2.1 45 = b) (hR : RR P Q) (hin : ∀ v : Int32, 0 ≤ v → v ≤ 5 → vp_in (i + v) L) (K : ∀ P1 Q1 : VP, RR P1 Q1 → LB l g b L xs 1359 i [] (vjn P1 Q1)) : LB l g b L xs 376 i [] (vjn P Q) := by
  obtain ⟨r, P1, Q1, hR1, hA, hB⟩ := D_set hR (xs (ix (i + 1))) (xs (ix (i + 2))) (xs (ix (i + 3)))
  refine vr_aload_n 1 2 dL_376 rfl rfl ?_
  refine lr_arg 1 hg rfl (hin 1 (by decide) (by decide)) dL_377 dL_378 dL_379 dL_380 dL_381 ?_
  refine lr_arg 2 hg rfl (hin 2 (by decide) (by decide)) dL_382 dL_383 dL_384 dL_385 dL_386 ?_
  refine lr_arg 3 hg rfl (hin 3 (by decide) (by decide)) dL_387 dL_388 dL_389 dL_390 dL_391 ?_
  refine vr_callV RL (k := 0) (x := 0) (As := [vI (xs (ix (i + 1))), vI (xs (ix (i + 2))), vI (xs (ix (i + 3)))]) (st := []) (s_X7_set (post := fun r' P' => r' = r ∧ P' = P1) (hA _ ⟨rfl, rfl⟩)) rfl (by decide) rfl rfl rfl ml_L_40 rfl yh_X7_set rfl ⟨Nat.le_of_ble_eq_true rfl, Nat.le_of_ble_eq_true rfl⟩ (Nat.le_of_ble_eq_true rfl) ⟨Nat.le_of_ble_eq_true rfl, Nat.le_of_ble_eq_true rfl⟩ dL_392 (fun v J hp => ?_)
  obtain ⟨P7, r7, rfl, rfl, rfl, rfl⟩ := hp
  refine vr_aload_n 2 1 dL_395 rfl rfl ?_
  refine lr_arg 1 hg rfl (hin 1 (by decide) (by decide)) dL_396 dL_397 dL_398 dL_399 dL_400 ?_
  refine lr_arg 2 hg rfl (hin 2 (by decide) (by decide)) dL_401 dL_402 dL_403 dL_404 dL_405 ?_
  refine lr_arg 3 hg rfl (hin 3 (by decide) (by decide)) dL_406 dL_407 dL_408 dL_409 dL_410 ?_
  refine vr_callV RL (k := 22) (x := 0) (As := [vI (xs (ix (i + 1))), vI (xs (ix (i + 2))), vI (xs (ix (i + 3)))]) (st := [vI r7]) (s_X8_set (post := fun r' P' => r' = r7 ∧ P' = Q1) (hB _ ⟨rfl, rfl⟩)) rfl (by decide) rfl rfl rfl ml_L_43 rfl yh_X8_set rfl ⟨Nat.le_of_ble_eq_true rfl, Nat.le_of_ble_eq_true rfl⟩ (Nat.le_of_ble_eq_true rfl) ⟨Nat.le_of_ble_eq_true rfl, Nat.le_of_ble_eq_true rfl⟩ dL_411 (fun v J hp => ?_)
  obtain ⟨P8, r8, rfl, rfl, rfl, rfl⟩ := hp
  refine vr_icmpeq 1359 dL_414 rfl (fun _ => ?_) (fun hn => absurd rfl hn)
  exact K _ _ hR1
theorem lc_7 {l : Launch} {g : vG} {b L : Nat} {xs : Nat → Int32} {i : Int32} {P Q : VP} (hg : g.2.2.2.1 45 = b) (hR : RR P Q) (hin : ∀ v : Int32, 0 ≤ v → v ≤ 5 → vp_in (i + v) L) (K : ∀ P1 Q1 : VP, RR P1 Q1 → LB l g b L xs 1359 i [] (vjn P1 Q1)) : LB l g b L xs 419 i [] (vjn P Q) := by
  obtain ⟨r, P1, Q1, hR1, hA, hB⟩ := D_quota hR (xs (ix (i + 1))) (xs (ix (i + 2)))
  refine vr_aload_n 1 2 dL_419 rfl rfl ?_
  refine lr_arg 1 hg rfl (hin 1 (by decide) (by decide)) dL_420 dL_421 dL_422 dL_423 dL_424 ?_
  refine lr_arg 2 hg rfl (hin 2 (by decide) (by decide)) dL_425 dL_426 dL_427 dL_428 dL_429 ?_
  refine vr_callV RL (k := 0) (x := 0) (As := [vI (xs (ix (i + 1))), vI (xs (ix (i + 2)))]) (st := []) (s_X7_quota (post := fun r' P' => r' = r ∧ P' = P1) (hA _ ⟨rfl, rfl⟩)) rfl (by decide) rfl rfl rfl ml_L_44 rfl yh_X7_quota rfl ⟨Nat.le_of_ble_eq_true rfl, Nat.le_of_ble_eq_true rfl⟩ (Nat.le_of_ble_eq_true rfl) ⟨Nat.le_of_ble_eq_true rfl, Nat.le_of_ble_eq_true rfl⟩ dL_430 (fun v J hp => ?_)
  obtain ⟨P7, r7, rfl, rfl, rfl, rfl⟩ := hp
  refine vr_aload_n 2 1 dL_433 rfl rfl ?_
  refine lr_arg 1 hg rfl (hin 1 (by decide) (by decide)) dL_434 dL_435 dL_436 dL_437 dL_438 ?_
  refine lr_arg 2 hg rfl (hin 2 (by decide) (by decide)) dL_439 dL_440 dL_441 dL_442 dL_443 ?_
  refine vr_callV RL (k := 22) (x := 0) (As := [vI (xs (ix (i + 1))), vI (xs (ix (i + 2)))]) (st := [vI r7]) (s_X8_quota (post := fun r' P' => r' = r7 ∧ P' = Q1) (hB _ ⟨rfl, rfl⟩)) rfl (by decide) rfl rfl rfl ml_L_47 rfl yh_X8_quota rfl ⟨Nat.le_of_ble_eq_true rfl, Nat.le_of_ble_eq_true rfl⟩ (Nat.le_of_ble_eq_true rfl) ⟨Nat.le_of_ble_eq_true rfl, Nat.le_of_ble_eq_true rfl⟩ dL_444 (fun v J hp => ?_)
  obtain ⟨P8, r8, rfl, rfl, rfl, rfl⟩ := hp
  refine vr_icmpeq 1359 dL_447 rfl (fun _ => ?_) (fun hn => absurd rfl hn)
  exact K _ _ hR1
theorem lc_8 {l : Launch} {g : vG} {b L : Nat} {xs : Nat → Int32} {i : Int32} {P Q : VP} (hg : g.2.2.2.1 45 = b) (hR : RR P Q) (hin : ∀ v : Int32, 0 ≤ v → v ≤ 5 → vp_in (i + v) L) (K : ∀ P1 Q1 : VP, RR P1 Q1 → LB l g b L xs 1359 i [] (vjn P1 Q1)) : LB l g b L xs 452 i [] (vjn P Q) := by
  obtain ⟨r, hA, hB⟩ := D_cell hR (xs (ix (i + 1))) (xs (ix (i + 2)))
  refine vr_aload_n 1 2 dL_452 rfl rfl ?_
  refine lr_arg 1 hg rfl (hin 1 (by decide) (by decide)) dL_453 dL_454 dL_455 dL_456 dL_457 ?_
  refine lr_arg 2 hg rfl (hin 2 (by decide) (by decide)) dL_458 dL_459 dL_460 dL_461 dL_462 ?_
  refine vr_callV RL (k := 0) (x := 0) (As := [vI (xs (ix (i + 1))), vI (xs (ix (i + 2)))]) (st := []) (s_X7_cell (post := fun r' => r' = r) (hA _ rfl)) rfl (by decide) rfl rfl rfl ml_L_48 rfl yh_X7_cell rfl ⟨Nat.le_of_ble_eq_true rfl, Nat.le_of_ble_eq_true rfl⟩ (Nat.le_of_ble_eq_true rfl) ⟨Nat.le_of_ble_eq_true rfl, Nat.le_of_ble_eq_true rfl⟩ dL_463 (fun v J hp => ?_)
  obtain ⟨rfl, r7, rfl, rfl⟩ := hp
  refine vr_aload_n 2 1 dL_466 rfl rfl ?_
  refine lr_arg 1 hg rfl (hin 1 (by decide) (by decide)) dL_467 dL_468 dL_469 dL_470 dL_471 ?_
  refine lr_arg 2 hg rfl (hin 2 (by decide) (by decide)) dL_472 dL_473 dL_474 dL_475 dL_476 ?_
  refine vr_callV RL (k := 22) (x := 0) (As := [vI (xs (ix (i + 1))), vI (xs (ix (i + 2)))]) (st := [vI r7]) (s_X8_cell (post := fun r' => r' = r7) (hB _ rfl)) rfl (by decide) rfl rfl rfl ml_L_51 rfl yh_X8_cell rfl ⟨Nat.le_of_ble_eq_true rfl, Nat.le_of_ble_eq_true rfl⟩ (Nat.le_of_ble_eq_true rfl) ⟨Nat.le_of_ble_eq_true rfl, Nat.le_of_ble_eq_true rfl⟩ dL_477 (fun v J hp => ?_)
  obtain ⟨rfl, r8, rfl, rfl⟩ := hp
  refine vr_icmpeq 1359 dL_480 rfl (fun _ => ?_) (fun hn => absurd rfl hn)
  exact K _ _ hR
theorem lc_9 {l : Launch} {g : vG} {b L : Nat} {xs : Nat → Int32} {i : Int32} {P Q : VP} (hg : g.2.2.2.1 45 = b) (hR : RR P Q) (hin : ∀ v : Int32, 0 ≤ v → v ≤ 5 → vp_in (i + v) L) (K : ∀ P1 Q1 : VP, RR P1 Q1 → LB l g b L xs 1359 i [] (vjn P1 Q1)) : LB l g b L xs 485 i [] (vjn P Q) := by
  obtain ⟨r, hA, hB⟩ := D_of hR (xs (ix (i + 1))) (xs (ix (i + 2)))
  refine vr_aload_n 1 2 dL_485 rfl rfl ?_
  refine lr_arg 1 hg rfl (hin 1 (by decide) (by decide)) dL_486 dL_487 dL_488 dL_489 dL_490 ?_
  refine lr_arg 2 hg rfl (hin 2 (by decide) (by decide)) dL_491 dL_492 dL_493 dL_494 dL_495 ?_
  refine vr_callV RL (k := 0) (x := 0) (As := [vI (xs (ix (i + 1))), vI (xs (ix (i + 2)))]) (st := []) (s_X7_of (post := fun r' => r' = r) (hA _ rfl)) rfl (by decide) rfl rfl rfl ml_L_52 rfl yh_X7_of rfl ⟨Nat.le_of_ble_eq_true rfl, Nat.le_of_ble_eq_true rfl⟩ (Nat.le_of_ble_eq_true rfl) ⟨Nat.le_of_ble_eq_true rfl, Nat.le_of_ble_eq_true rfl⟩ dL_496 (fun v J hp => ?_)
  obtain ⟨rfl, r7, rfl, rfl⟩ := hp
  refine vr_aload_n 2 1 dL_499 rfl rfl ?_
  refine lr_arg 1 hg rfl (hin 1 (by decide) (by decide)) dL_500 dL_501 dL_502 dL_503 dL_504 ?_
  refine lr_arg 2 hg rfl (hin 2 (by decide) (by decide)) dL_505 dL_506 dL_507 dL_508 dL_509 ?_
  refine vr_callV RL (k := 22) (x := 0) (As := [vI (xs (ix (i + 1))), vI (xs (ix (i + 2)))]) (st := [vI r7]) (s_X8_of (post := fun r' => r' = r7) (hB _ rfl)) rfl (by decide) rfl rfl rfl ml_L_55 rfl yh_X8_of rfl ⟨Nat.le_of_ble_eq_true rfl, Nat.le_of_ble_eq_true rfl⟩ (Nat.le_of_ble_eq_true rfl) ⟨Nat.le_of_ble_eq_true rfl, Nat.le_of_ble_eq_true rfl⟩ dL_510 (fun v J hp => ?_)
  obtain ⟨rfl, r8, rfl, rfl⟩ := hp
  refine vr_icmpeq 1359 dL_513 rfl (fun _ => ?_) (fun hn => absurd rfl hn)
  exact K _ _ hR
theorem lc_10 {l : Launch} {g : vG} {b L : Nat} {xs : Nat → Int32} {i : Int32} {P Q : VP} (hg : g.2.2.2.1 45 = b) (hR : RR P Q) (hin : ∀ v : Int32, 0 ≤ v → v ≤ 5 → vp_in (i + v) L) (K : ∀ P1 Q1 : VP, RR P1 Q1 → LB l g b L xs 1359 i [] (vjn P1 Q1)) : LB l g b L xs 518 i [] (vjn P Q) := by
  obtain ⟨r, P1, Q1, hR1, hA, hB⟩ := D_rule hR (xs (ix (i + 1)))
  refine vr_aload_n 1 2 dL_518 rfl rfl ?_
  refine lr_arg 1 hg rfl (hin 1 (by decide) (by decide)) dL_519 dL_520 dL_521 dL_522 dL_523 ?_
  refine vr_callV RL (k := 0) (x := 0) (As := [vI (xs (ix (i + 1)))]) (st := []) (s_X7_rule (post := fun r' P' => r' = r ∧ P' = P1) (hA _ ⟨rfl, rfl⟩)) rfl (by decide) rfl rfl rfl ml_L_56 rfl yh_X7_rule rfl ⟨Nat.le_of_ble_eq_true rfl, Nat.le_of_ble_eq_true rfl⟩ (Nat.le_of_ble_eq_true rfl) ⟨Nat.le_of_ble_eq_true rfl, Nat.le_of_ble_eq_true rfl⟩ dL_524 (fun v J hp => ?_)
  obtain ⟨P7, r7, rfl, rfl, rfl, rfl⟩ := hp
  refine vr_aload_n 2 1 dL_527 rfl rfl ?_
  refine lr_arg 1 hg rfl (hin 1 (by decide) (by decide)) dL_528 dL_529 dL_530 dL_531 dL_532 ?_
  refine vr_callV RL (k := 22) (x := 0) (As := [vI (xs (ix (i + 1)))]) (st := [vI r7]) (s_X8_rule (post := fun r' P' => r' = r7 ∧ P' = Q1) (hB _ ⟨rfl, rfl⟩)) rfl (by decide) rfl rfl rfl ml_L_59 rfl yh_X8_rule rfl ⟨Nat.le_of_ble_eq_true rfl, Nat.le_of_ble_eq_true rfl⟩ (Nat.le_of_ble_eq_true rfl) ⟨Nat.le_of_ble_eq_true rfl, Nat.le_of_ble_eq_true rfl⟩ dL_533 (fun v J hp => ?_)
  obtain ⟨P8, r8, rfl, rfl, rfl, rfl⟩ := hp
  refine vr_icmpeq 1359 dL_536 rfl (fun _ => ?_) (fun hn => absurd rfl hn)
  exact K _ _ hR1
theorem lc_11 {l : Launch} {g : vG} {b L : Nat} {xs : Nat → Int32} {i : Int32} {P Q : VP} (hg : g.2.2.2.1 45 = b) (hR : RR P Q) (hin : ∀ v : Int32, 0 ≤ v → v ≤ 5 → vp_in (i + v) L) (K : ∀ P1 Q1 : VP, RR P1 Q1 → LB l g b L xs 1359 i [] (vjn P1 Q1)) : LB l g b L xs 541 i [] (vjn P Q) := by
  obtain ⟨r, hA, hB⟩ := D_lookup hR (xs (ix (i + 1))) (xs (ix (i + 2)))
  refine vr_aload_n 1 2 dL_541 rfl rfl ?_
  refine lr_arg 1 hg rfl (hin 1 (by decide) (by decide)) dL_542 dL_543 dL_544 dL_545 dL_546 ?_
  refine lr_arg 2 hg rfl (hin 2 (by decide) (by decide)) dL_547 dL_548 dL_549 dL_550 dL_551 ?_
  refine vr_callV RL (k := 0) (x := 0) (As := [vI (xs (ix (i + 1))), vI (xs (ix (i + 2)))]) (st := []) (s_X7_lookup (post := fun r' => r' = r) (hA _ rfl)) rfl (by decide) rfl rfl rfl ml_L_60 rfl yh_X7_lookup rfl ⟨Nat.le_of_ble_eq_true rfl, Nat.le_of_ble_eq_true rfl⟩ (Nat.le_of_ble_eq_true rfl) ⟨Nat.le_of_ble_eq_true rfl, Nat.le_of_ble_eq_true rfl⟩ dL_552 (fun v J hp => ?_)
  obtain ⟨rfl, r7, rfl, rfl⟩ := hp
  refine vr_aload_n 2 1 dL_555 rfl rfl ?_
  refine lr_arg 1 hg rfl (hin 1 (by decide) (by decide)) dL_556 dL_557 dL_558 dL_559 dL_560 ?_
  refine lr_arg 2 hg rfl (hin 2 (by decide) (by decide)) dL_561 dL_562 dL_563 dL_564 dL_565 ?_
  refine vr_callV RL (k := 22) (x := 0) (As := [vI (xs (ix (i + 1))), vI (xs (ix (i + 2)))]) (st := [vI r7]) (s_X8_lookup (post := fun r' => r' = r7) (hB _ rfl)) rfl (by decide) rfl rfl rfl ml_L_63 rfl yh_X8_lookup rfl ⟨Nat.le_of_ble_eq_true rfl, Nat.le_of_ble_eq_true rfl⟩ (Nat.le_of_ble_eq_true rfl) ⟨Nat.le_of_ble_eq_true rfl, Nat.le_of_ble_eq_true rfl⟩ dL_566 (fun v J hp => ?_)
  obtain ⟨rfl, r8, rfl, rfl⟩ := hp
  refine vr_icmpeq 1359 dL_569 rfl (fun _ => ?_) (fun hn => absurd rfl hn)
  exact K _ _ hR
theorem lc_12 {l : Launch} {g : vG} {b L : Nat} {xs : Nat → Int32} {i : Int32} {P Q : VP} (hg : g.2.2.2.1 45 = b) (hR : RR P Q) (hin : ∀ v : Int32, 0 ≤ v → v ≤ 5 → vp_in (i + v) L) (K : ∀ P1 Q1 : VP, RR P1 Q1 → LB l g b L xs 1359 i [] (vjn P1 Q1)) : LB l g b L xs 574 i [] (vjn P Q) := by
  obtain ⟨r, P1, Q1, hR1, hA, hB⟩ := D_number hR (xs (ix (i + 1))) (xs (ix (i + 2))) (xs (ix (i + 3)))
  refine vr_aload_n 1 2 dL_574 rfl rfl ?_
  refine lr_arg 1 hg rfl (hin 1 (by decide) (by decide)) dL_575 dL_576 dL_577 dL_578 dL_579 ?_
  refine lr_arg 2 hg rfl (hin 2 (by decide) (by decide)) dL_580 dL_581 dL_582 dL_583 dL_584 ?_
  refine lr_arg 3 hg rfl (hin 3 (by decide) (by decide)) dL_585 dL_586 dL_587 dL_588 dL_589 ?_
  refine vr_callV RL (k := 0) (x := 0) (As := [vI (xs (ix (i + 1))), vI (xs (ix (i + 2))), vI (xs (ix (i + 3)))]) (st := []) (s_X7_number (post := fun r' P' => r' = r ∧ P' = P1) (hA _ ⟨rfl, rfl⟩)) rfl (by decide) rfl rfl rfl ml_L_64 rfl yh_X7_number rfl ⟨Nat.le_of_ble_eq_true rfl, Nat.le_of_ble_eq_true rfl⟩ (Nat.le_of_ble_eq_true rfl) ⟨Nat.le_of_ble_eq_true rfl, Nat.le_of_ble_eq_true rfl⟩ dL_590 (fun v J hp => ?_)
  obtain ⟨P7, r7, rfl, rfl, rfl, rfl⟩ := hp
  refine vr_aload_n 2 1 dL_593 rfl rfl ?_
  refine lr_arg 1 hg rfl (hin 1 (by decide) (by decide)) dL_594 dL_595 dL_596 dL_597 dL_598 ?_
  refine lr_arg 2 hg rfl (hin 2 (by decide) (by decide)) dL_599 dL_600 dL_601 dL_602 dL_603 ?_
  refine lr_arg 3 hg rfl (hin 3 (by decide) (by decide)) dL_604 dL_605 dL_606 dL_607 dL_608 ?_
  refine vr_callV RL (k := 22) (x := 0) (As := [vI (xs (ix (i + 1))), vI (xs (ix (i + 2))), vI (xs (ix (i + 3)))]) (st := [vI r7]) (s_X8_number (post := fun r' P' => r' = r7 ∧ P' = Q1) (hB _ ⟨rfl, rfl⟩)) rfl (by decide) rfl rfl rfl ml_L_67 rfl yh_X8_number rfl ⟨Nat.le_of_ble_eq_true rfl, Nat.le_of_ble_eq_true rfl⟩ (Nat.le_of_ble_eq_true rfl) ⟨Nat.le_of_ble_eq_true rfl, Nat.le_of_ble_eq_true rfl⟩ dL_609 (fun v J hp => ?_)
  obtain ⟨P8, r8, rfl, rfl, rfl, rfl⟩ := hp
  refine vr_icmpeq 1359 dL_612 rfl (fun _ => ?_) (fun hn => absurd rfl hn)
  exact K _ _ hR1
theorem lc_13 {l : Launch} {g : vG} {b L : Nat} {xs : Nat → Int32} {i : Int32} {P Q : VP} (hg : g.2.2.2.1 45 = b) (hR : RR P Q) (hin : ∀ v : Int32, 0 ≤ v → v ≤ 5 → vp_in (i + v) L) (K : ∀ P1 Q1 : VP, RR P1 Q1 → LB l g b L xs 1359 i [] (vjn P1 Q1)) : LB l g b L xs 617 i [] (vjn P Q) := by
  by_cases hv : xs (ix (i + 4)) = 0
  · obtain ⟨r, P1, Q1, hR1, hA, hB⟩ := D_pointer hR (xs (ix (i + 1))) (xs (ix (i + 2))) (xs (ix (i + 3))) 0
    refine vr_aload_n 1 2 dL_617 rfl rfl ?_
    refine lr_arg 1 hg rfl (hin 1 (by decide) (by decide)) dL_618 dL_619 dL_620 dL_621 dL_622 ?_
    refine lr_arg 2 hg rfl (hin 2 (by decide) (by decide)) dL_623 dL_624 dL_625 dL_626 dL_627 ?_
    refine lr_arg 3 hg rfl (hin 3 (by decide) (by decide)) dL_628 dL_629 dL_630 dL_631 dL_632 ?_
    refine lr_arg 4 hg rfl (hin 4 (by decide) (by decide)) dL_633 dL_634 dL_635 dL_636 dL_637 ?_
    refine vr_ifeq 645 dL_638 rfl (fun _ => ?_) (fun hn => absurd hv hn)
    refine vr_iconst 0 dL_645 rfl ?_
    refine vr_callV RL (k := 0) (x := 0) (As := [vI (xs (ix (i + 1))), vI (xs (ix (i + 2))), vI (xs (ix (i + 3))), vI 0]) (st := []) (s_X7_pointer (post := fun r' P' => r' = r ∧ P' = P1) (hA _ ⟨rfl, rfl⟩)) rfl (by decide) rfl rfl rfl ml_L_68 rfl yh_X7_pointer rfl ⟨Nat.le_of_ble_eq_true rfl, Nat.le_of_ble_eq_true rfl⟩ (Nat.le_of_ble_eq_true rfl) ⟨Nat.le_of_ble_eq_true rfl, Nat.le_of_ble_eq_true rfl⟩ dL_646 (fun v J hp => ?_)
    obtain ⟨P7, r7, rfl, rfl, rfl, rfl⟩ := hp
    refine vr_aload_n 2 1 dL_649 rfl rfl ?_
    refine lr_arg 1 hg rfl (hin 1 (by decide) (by decide)) dL_650 dL_651 dL_652 dL_653 dL_654 ?_
    refine lr_arg 2 hg rfl (hin 2 (by decide) (by decide)) dL_655 dL_656 dL_657 dL_658 dL_659 ?_
    refine lr_arg 3 hg rfl (hin 3 (by decide) (by decide)) dL_660 dL_661 dL_662 dL_663 dL_664 ?_
    refine lr_arg 4 hg rfl (hin 4 (by decide) (by decide)) dL_665 dL_666 dL_667 dL_668 dL_669 ?_
    refine vr_ifeq 677 dL_670 rfl (fun _ => ?_) (fun hn => absurd hv hn)
    refine vr_iconst 0 dL_677 rfl ?_
    refine vr_callV RL (k := 22) (x := 0) (As := [vI (xs (ix (i + 1))), vI (xs (ix (i + 2))), vI (xs (ix (i + 3))), vI 0]) (st := [vI r7]) (s_X8_pointer (post := fun r' P' => r' = r7 ∧ P' = Q1) (hB _ ⟨rfl, rfl⟩)) rfl (by decide) rfl rfl rfl ml_L_72 rfl yh_X8_pointer rfl ⟨Nat.le_of_ble_eq_true rfl, Nat.le_of_ble_eq_true rfl⟩ (Nat.le_of_ble_eq_true rfl) ⟨Nat.le_of_ble_eq_true rfl, Nat.le_of_ble_eq_true rfl⟩ dL_678 (fun v J hp => ?_)
    obtain ⟨P8, r8, rfl, rfl, rfl, rfl⟩ := hp
    refine vr_icmpeq 1359 dL_681 rfl (fun _ => ?_) (fun hn => absurd rfl hn)
    exact K _ _ hR1
  · obtain ⟨r, P1, Q1, hR1, hA, hB⟩ := D_pointer hR (xs (ix (i + 1))) (xs (ix (i + 2))) (xs (ix (i + 3))) 1
    refine vr_aload_n 1 2 dL_617 rfl rfl ?_
    refine lr_arg 1 hg rfl (hin 1 (by decide) (by decide)) dL_618 dL_619 dL_620 dL_621 dL_622 ?_
    refine lr_arg 2 hg rfl (hin 2 (by decide) (by decide)) dL_623 dL_624 dL_625 dL_626 dL_627 ?_
    refine lr_arg 3 hg rfl (hin 3 (by decide) (by decide)) dL_628 dL_629 dL_630 dL_631 dL_632 ?_
    refine lr_arg 4 hg rfl (hin 4 (by decide) (by decide)) dL_633 dL_634 dL_635 dL_636 dL_637 ?_
    refine vr_ifeq 645 dL_638 rfl (fun hn => absurd hn hv) (fun _ => ?_)
    refine vr_iconst 1 dL_641 rfl ?_
    refine vr_goto 646 dL_642 rfl ?_
    refine vr_callV RL (k := 0) (x := 0) (As := [vI (xs (ix (i + 1))), vI (xs (ix (i + 2))), vI (xs (ix (i + 3))), vI 1]) (st := []) (s_X7_pointer (post := fun r' P' => r' = r ∧ P' = P1) (hA _ ⟨rfl, rfl⟩)) rfl (by decide) rfl rfl rfl ml_L_68 rfl yh_X7_pointer rfl ⟨Nat.le_of_ble_eq_true rfl, Nat.le_of_ble_eq_true rfl⟩ (Nat.le_of_ble_eq_true rfl) ⟨Nat.le_of_ble_eq_true rfl, Nat.le_of_ble_eq_true rfl⟩ dL_646 (fun v J hp => ?_)
    obtain ⟨P7, r7, rfl, rfl, rfl, rfl⟩ := hp
    refine vr_aload_n 2 1 dL_649 rfl rfl ?_
    refine lr_arg 1 hg rfl (hin 1 (by decide) (by decide)) dL_650 dL_651 dL_652 dL_653 dL_654 ?_
    refine lr_arg 2 hg rfl (hin 2 (by decide) (by decide)) dL_655 dL_656 dL_657 dL_658 dL_659 ?_
    refine lr_arg 3 hg rfl (hin 3 (by decide) (by decide)) dL_660 dL_661 dL_662 dL_663 dL_664 ?_
    refine lr_arg 4 hg rfl (hin 4 (by decide) (by decide)) dL_665 dL_666 dL_667 dL_668 dL_669 ?_
    refine vr_ifeq 677 dL_670 rfl (fun hn => absurd hn hv) (fun _ => ?_)
    refine vr_iconst 1 dL_673 rfl ?_
    refine vr_goto 678 dL_674 rfl ?_
    refine vr_callV RL (k := 22) (x := 0) (As := [vI (xs (ix (i + 1))), vI (xs (ix (i + 2))), vI (xs (ix (i + 3))), vI 1]) (st := [vI r7]) (s_X8_pointer (post := fun r' P' => r' = r7 ∧ P' = Q1) (hB _ ⟨rfl, rfl⟩)) rfl (by decide) rfl rfl rfl ml_L_72 rfl yh_X8_pointer rfl ⟨Nat.le_of_ble_eq_true rfl, Nat.le_of_ble_eq_true rfl⟩ (Nat.le_of_ble_eq_true rfl) ⟨Nat.le_of_ble_eq_true rfl, Nat.le_of_ble_eq_true rfl⟩ dL_678 (fun v J hp => ?_)
    obtain ⟨P8, r8, rfl, rfl, rfl, rfl⟩ := hp
    refine vr_icmpeq 1359 dL_681 rfl (fun _ => ?_) (fun hn => absurd rfl hn)
    exact K _ _ hR1
theorem lc_14 {l : Launch} {g : vG} {b L : Nat} {xs : Nat → Int32} {i : Int32} {P Q : VP} (hg : g.2.2.2.1 45 = b) (hR : RR P Q) (hin : ∀ v : Int32, 0 ≤ v → v ≤ 5 → vp_in (i + v) L) (K : ∀ P1 Q1 : VP, RR P1 Q1 → LB l g b L xs 1359 i [] (vjn P1 Q1)) : LB l g b L xs 686 i [] (vjn P Q) := by
  obtain ⟨r, P1, Q1, hR1, hA, hB⟩ := D_link hR (xs (ix (i + 1))) (xs (ix (i + 2))) (xs (ix (i + 3))) (xs (ix (i + 4)))
  refine vr_aload_n 1 2 dL_686 rfl rfl ?_
  refine lr_arg 1 hg rfl (hin 1 (by decide) (by decide)) dL_687 dL_688 dL_689 dL_690 dL_691 ?_
  refine lr_arg 2 hg rfl (hin 2 (by decide) (by decide)) dL_692 dL_693 dL_694 dL_695 dL_696 ?_
  refine lr_arg 3 hg rfl (hin 3 (by decide) (by decide)) dL_697 dL_698 dL_699 dL_700 dL_701 ?_
  refine lr_arg 4 hg rfl (hin 4 (by decide) (by decide)) dL_702 dL_703 dL_704 dL_705 dL_706 ?_
  refine vr_callV RL (k := 0) (x := 0) (As := [vI (xs (ix (i + 1))), vI (xs (ix (i + 2))), vI (xs (ix (i + 3))), vI (xs (ix (i + 4)))]) (st := []) (s_X7_link (post := fun r' P' => r' = r ∧ P' = P1) (hA _ ⟨rfl, rfl⟩)) rfl (by decide) rfl rfl rfl ml_L_73 rfl yh_X7_link rfl ⟨Nat.le_of_ble_eq_true rfl, Nat.le_of_ble_eq_true rfl⟩ (Nat.le_of_ble_eq_true rfl) ⟨Nat.le_of_ble_eq_true rfl, Nat.le_of_ble_eq_true rfl⟩ dL_707 (fun v J hp => ?_)
  obtain ⟨P7, r7, rfl, rfl, rfl, rfl⟩ := hp
  refine vr_aload_n 2 1 dL_710 rfl rfl ?_
  refine lr_arg 1 hg rfl (hin 1 (by decide) (by decide)) dL_711 dL_712 dL_713 dL_714 dL_715 ?_
  refine lr_arg 2 hg rfl (hin 2 (by decide) (by decide)) dL_716 dL_717 dL_718 dL_719 dL_720 ?_
  refine lr_arg 3 hg rfl (hin 3 (by decide) (by decide)) dL_721 dL_722 dL_723 dL_724 dL_725 ?_
  refine lr_arg 4 hg rfl (hin 4 (by decide) (by decide)) dL_726 dL_727 dL_728 dL_729 dL_730 ?_
  refine vr_callV RL (k := 22) (x := 0) (As := [vI (xs (ix (i + 1))), vI (xs (ix (i + 2))), vI (xs (ix (i + 3))), vI (xs (ix (i + 4)))]) (st := [vI r7]) (s_X8_link (post := fun r' P' => r' = r7 ∧ P' = Q1) (hB _ ⟨rfl, rfl⟩)) rfl (by decide) rfl rfl rfl ml_L_77 rfl yh_X8_link rfl ⟨Nat.le_of_ble_eq_true rfl, Nat.le_of_ble_eq_true rfl⟩ (Nat.le_of_ble_eq_true rfl) ⟨Nat.le_of_ble_eq_true rfl, Nat.le_of_ble_eq_true rfl⟩ dL_731 (fun v J hp => ?_)
  obtain ⟨P8, r8, rfl, rfl, rfl, rfl⟩ := hp
  refine vr_icmpeq 1359 dL_734 rfl (fun _ => ?_) (fun hn => absurd rfl hn)
  exact K _ _ hR1
theorem lc_15 {l : Launch} {g : vG} {b L : Nat} {xs : Nat → Int32} {i : Int32} {P Q : VP} (hg : g.2.2.2.1 45 = b) (hR : RR P Q) (hin : ∀ v : Int32, 0 ≤ v → v ≤ 5 → vp_in (i + v) L) (K : ∀ P1 Q1 : VP, RR P1 Q1 → LB l g b L xs 1359 i [] (vjn P1 Q1)) : LB l g b L xs 739 i [] (vjn P Q) := by
  obtain ⟨r, P1, Q1, hR1, hA, hB⟩ := D_act hR (xs (ix (i + 1))) (xs (ix (i + 2))) (xs (ix (i + 3))) (xs (ix (i + 4))) (xs (ix (i + 5)))
  refine vr_aload_n 1 2 dL_739 rfl rfl ?_
  refine lr_arg 1 hg rfl (hin 1 (by decide) (by decide)) dL_740 dL_741 dL_742 dL_743 dL_744 ?_
  refine lr_arg 2 hg rfl (hin 2 (by decide) (by decide)) dL_745 dL_746 dL_747 dL_748 dL_749 ?_
  refine lr_arg 3 hg rfl (hin 3 (by decide) (by decide)) dL_750 dL_751 dL_752 dL_753 dL_754 ?_
  refine lr_arg 4 hg rfl (hin 4 (by decide) (by decide)) dL_755 dL_756 dL_757 dL_758 dL_759 ?_
  refine lr_arg 5 hg rfl (hin 5 (by decide) (by decide)) dL_760 dL_761 dL_762 dL_763 dL_764 ?_
  refine vr_callV RL (k := 0) (x := 0) (As := [vI (xs (ix (i + 1))), vI (xs (ix (i + 2))), vI (xs (ix (i + 3))), vI (xs (ix (i + 4))), vI (xs (ix (i + 5)))]) (st := []) (s_X7_act (post := fun r' P' => r' = r ∧ P' = P1) (hA _ ⟨rfl, rfl⟩)) rfl (by decide) rfl rfl rfl ml_L_78 rfl yh_X7_act rfl ⟨Nat.le_of_ble_eq_true rfl, Nat.le_of_ble_eq_true rfl⟩ (Nat.le_of_ble_eq_true rfl) ⟨Nat.le_of_ble_eq_true rfl, Nat.le_of_ble_eq_true rfl⟩ dL_765 (fun v J hp => ?_)
  obtain ⟨P7, r7, rfl, rfl, rfl, rfl⟩ := hp
  refine vr_aload_n 2 1 dL_768 rfl rfl ?_
  refine lr_arg 1 hg rfl (hin 1 (by decide) (by decide)) dL_769 dL_770 dL_771 dL_772 dL_773 ?_
  refine lr_arg 2 hg rfl (hin 2 (by decide) (by decide)) dL_774 dL_775 dL_776 dL_777 dL_778 ?_
  refine lr_arg 3 hg rfl (hin 3 (by decide) (by decide)) dL_779 dL_780 dL_781 dL_782 dL_783 ?_
  refine lr_arg 4 hg rfl (hin 4 (by decide) (by decide)) dL_784 dL_785 dL_786 dL_787 dL_788 ?_
  refine lr_arg 5 hg rfl (hin 5 (by decide) (by decide)) dL_789 dL_790 dL_791 dL_792 dL_793 ?_
  refine vr_callV RL (k := 22) (x := 0) (As := [vI (xs (ix (i + 1))), vI (xs (ix (i + 2))), vI (xs (ix (i + 3))), vI (xs (ix (i + 4))), vI (xs (ix (i + 5)))]) (st := [vI r7]) (s_X8_act (post := fun r' P' => r' = r7 ∧ P' = Q1) (hB _ ⟨rfl, rfl⟩)) rfl (by decide) rfl rfl rfl ml_L_82 rfl yh_X8_act rfl ⟨Nat.le_of_ble_eq_true rfl, Nat.le_of_ble_eq_true rfl⟩ (Nat.le_of_ble_eq_true rfl) ⟨Nat.le_of_ble_eq_true rfl, Nat.le_of_ble_eq_true rfl⟩ dL_794 (fun v J hp => ?_)
  obtain ⟨P8, r8, rfl, rfl, rfl, rfl⟩ := hp
  refine vr_icmpeq 1359 dL_797 rfl (fun _ => ?_) (fun hn => absurd rfl hn)
  exact K _ _ hR1
theorem lc_16 {l : Launch} {g : vG} {b L : Nat} {xs : Nat → Int32} {i : Int32} {P Q : VP} (hg : g.2.2.2.1 45 = b) (hR : RR P Q) (hin : ∀ v : Int32, 0 ≤ v → v ≤ 5 → vp_in (i + v) L) (K : ∀ P1 Q1 : VP, RR P1 Q1 → LB l g b L xs 1359 i [] (vjn P1 Q1)) : LB l g b L xs 802 i [] (vjn P Q) := by
  obtain ⟨r, hA, hB⟩ := D_word hR (xs (ix (i + 1))) (xs (ix (i + 2))) (xs (ix (i + 3)))
  refine vr_aload_n 1 2 dL_802 rfl rfl ?_
  refine lr_arg 1 hg rfl (hin 1 (by decide) (by decide)) dL_803 dL_804 dL_805 dL_806 dL_807 ?_
  refine lr_arg 2 hg rfl (hin 2 (by decide) (by decide)) dL_808 dL_809 dL_810 dL_811 dL_812 ?_
  refine lr_arg 3 hg rfl (hin 3 (by decide) (by decide)) dL_813 dL_814 dL_815 dL_816 dL_817 ?_
  refine vr_callV RL (k := 0) (x := 0) (As := [vI (xs (ix (i + 1))), vI (xs (ix (i + 2))), vI (xs (ix (i + 3)))]) (st := []) (s_X7_word (post := fun r' => r' = r) (hA _ rfl)) rfl (by decide) rfl rfl rfl ml_L_83 rfl yh_X7_word rfl ⟨Nat.le_of_ble_eq_true rfl, Nat.le_of_ble_eq_true rfl⟩ (Nat.le_of_ble_eq_true rfl) ⟨Nat.le_of_ble_eq_true rfl, Nat.le_of_ble_eq_true rfl⟩ dL_818 (fun v J hp => ?_)
  obtain ⟨rfl, r7, rfl, rfl⟩ := hp
  refine vr_aload_n 2 1 dL_821 rfl rfl ?_
  refine lr_arg 1 hg rfl (hin 1 (by decide) (by decide)) dL_822 dL_823 dL_824 dL_825 dL_826 ?_
  refine lr_arg 2 hg rfl (hin 2 (by decide) (by decide)) dL_827 dL_828 dL_829 dL_830 dL_831 ?_
  refine lr_arg 3 hg rfl (hin 3 (by decide) (by decide)) dL_832 dL_833 dL_834 dL_835 dL_836 ?_
  refine vr_callV RL (k := 22) (x := 0) (As := [vI (xs (ix (i + 1))), vI (xs (ix (i + 2))), vI (xs (ix (i + 3)))]) (st := [vI r7]) (s_X8_word (post := fun r' => r' = r7) (hB _ rfl)) rfl (by decide) rfl rfl rfl ml_L_86 rfl yh_X8_word rfl ⟨Nat.le_of_ble_eq_true rfl, Nat.le_of_ble_eq_true rfl⟩ (Nat.le_of_ble_eq_true rfl) ⟨Nat.le_of_ble_eq_true rfl, Nat.le_of_ble_eq_true rfl⟩ dL_837 (fun v J hp => ?_)
  obtain ⟨rfl, r8, rfl, rfl⟩ := hp
  refine vr_icmpeq 1359 dL_840 rfl (fun _ => ?_) (fun hn => absurd rfl hn)
  exact K _ _ hR
theorem lc_17 {l : Launch} {g : vG} {b L : Nat} {xs : Nat → Int32} {i : Int32} {P Q : VP} (hg : g.2.2.2.1 45 = b) (hR : RR P Q) (hin : ∀ v : Int32, 0 ≤ v → v ≤ 5 → vp_in (i + v) L) (K : ∀ P1 Q1 : VP, RR P1 Q1 → LB l g b L xs 1359 i [] (vjn P1 Q1)) : LB l g b L xs 845 i [] (vjn P Q) := by
  obtain ⟨r, P1, Q1, hR1, hA, hB⟩ := D_feed hR (xs (ix (i + 1)))
  refine vr_aload_n 1 2 dL_845 rfl rfl ?_
  refine lr_arg 1 hg rfl (hin 1 (by decide) (by decide)) dL_846 dL_847 dL_848 dL_849 dL_850 ?_
  refine vr_callV RL (k := 0) (x := 0) (As := [vI (xs (ix (i + 1)))]) (st := []) (s_X7_feed (post := fun r' P' => r' = r ∧ P' = P1) (hA _ ⟨rfl, rfl⟩)) rfl (by decide) rfl rfl rfl ml_L_87 rfl yh_X7_feed rfl ⟨Nat.le_of_ble_eq_true rfl, Nat.le_of_ble_eq_true rfl⟩ (Nat.le_of_ble_eq_true rfl) ⟨Nat.le_of_ble_eq_true rfl, Nat.le_of_ble_eq_true rfl⟩ dL_851 (fun v J hp => ?_)
  obtain ⟨P7, r7, rfl, rfl, rfl, rfl⟩ := hp
  refine vr_aload_n 2 1 dL_854 rfl rfl ?_
  refine lr_arg 1 hg rfl (hin 1 (by decide) (by decide)) dL_855 dL_856 dL_857 dL_858 dL_859 ?_
  refine vr_callV RL (k := 22) (x := 0) (As := [vI (xs (ix (i + 1)))]) (st := [vI r7]) (s_X8_feed (post := fun r' P' => r' = r7 ∧ P' = Q1) (hB _ ⟨rfl, rfl⟩)) rfl (by decide) rfl rfl rfl ml_L_90 rfl yh_X8_feed rfl ⟨Nat.le_of_ble_eq_true rfl, Nat.le_of_ble_eq_true rfl⟩ (Nat.le_of_ble_eq_true rfl) ⟨Nat.le_of_ble_eq_true rfl, Nat.le_of_ble_eq_true rfl⟩ dL_860 (fun v J hp => ?_)
  obtain ⟨P8, r8, rfl, rfl, rfl, rfl⟩ := hp
  refine vr_icmpeq 1359 dL_863 rfl (fun _ => ?_) (fun hn => absurd rfl hn)
  exact K _ _ hR1
theorem lc_18 {l : Launch} {g : vG} {b L : Nat} {xs : Nat → Int32} {i : Int32} {P Q : VP} (hg : g.2.2.2.1 45 = b) (hR : RR P Q) (hin : ∀ v : Int32, 0 ≤ v → v ≤ 5 → vp_in (i + v) L) (K : ∀ P1 Q1 : VP, RR P1 Q1 → LB l g b L xs 1359 i [] (vjn P1 Q1)) : LB l g b L xs 868 i [] (vjn P Q) := by
  obtain ⟨r, P1, Q1, hR1, hA, hB⟩ := D_load hR (xs (ix (i + 1))) (xs (ix (i + 2)))
  refine vr_aload_n 1 2 dL_868 rfl rfl ?_
  refine lr_arg 1 hg rfl (hin 1 (by decide) (by decide)) dL_869 dL_870 dL_871 dL_872 dL_873 ?_
  refine lr_arg 2 hg rfl (hin 2 (by decide) (by decide)) dL_874 dL_875 dL_876 dL_877 dL_878 ?_
  refine vr_callV RL (k := 0) (x := 0) (As := [vI (xs (ix (i + 1))), vI (xs (ix (i + 2)))]) (st := []) (s_X7_load (post := fun r' P' => r' = r ∧ P' = P1) (hA _ ⟨rfl, rfl⟩)) rfl (by decide) rfl rfl rfl ml_L_91 rfl yh_X7_load rfl ⟨Nat.le_of_ble_eq_true rfl, Nat.le_of_ble_eq_true rfl⟩ (Nat.le_of_ble_eq_true rfl) ⟨Nat.le_of_ble_eq_true rfl, Nat.le_of_ble_eq_true rfl⟩ dL_879 (fun v J hp => ?_)
  obtain ⟨P7, r7, rfl, rfl, rfl, rfl⟩ := hp
  refine vr_aload_n 2 1 dL_882 rfl rfl ?_
  refine lr_arg 1 hg rfl (hin 1 (by decide) (by decide)) dL_883 dL_884 dL_885 dL_886 dL_887 ?_
  refine lr_arg 2 hg rfl (hin 2 (by decide) (by decide)) dL_888 dL_889 dL_890 dL_891 dL_892 ?_
  refine vr_callV RL (k := 22) (x := 0) (As := [vI (xs (ix (i + 1))), vI (xs (ix (i + 2)))]) (st := [vI r7]) (s_X8_load (post := fun r' P' => r' = r7 ∧ P' = Q1) (hB _ ⟨rfl, rfl⟩)) rfl (by decide) rfl rfl rfl ml_L_94 rfl yh_X8_load rfl ⟨Nat.le_of_ble_eq_true rfl, Nat.le_of_ble_eq_true rfl⟩ (Nat.le_of_ble_eq_true rfl) ⟨Nat.le_of_ble_eq_true rfl, Nat.le_of_ble_eq_true rfl⟩ dL_893 (fun v J hp => ?_)
  obtain ⟨P8, r8, rfl, rfl, rfl, rfl⟩ := hp
  refine vr_icmpeq 1359 dL_896 rfl (fun _ => ?_) (fun hn => absurd rfl hn)
  exact K _ _ hR1
theorem lc_19 {l : Launch} {g : vG} {b L : Nat} {xs : Nat → Int32} {i : Int32} {P Q : VP} (hg : g.2.2.2.1 45 = b) (hR : RR P Q) (hin : ∀ v : Int32, 0 ≤ v → v ≤ 5 → vp_in (i + v) L) (K : ∀ P1 Q1 : VP, RR P1 Q1 → LB l g b L xs 1359 i [] (vjn P1 Q1)) : LB l g b L xs 901 i [] (vjn P Q) := by
  obtain ⟨r, P1, Q1, hR1, hA, hB⟩ := D_unsnap hR (xs (ix (i + 1)))
  refine vr_aload_n 1 2 dL_901 rfl rfl ?_
  refine lr_arg 1 hg rfl (hin 1 (by decide) (by decide)) dL_902 dL_903 dL_904 dL_905 dL_906 ?_
  refine vr_callV RL (k := 0) (x := 0) (As := [vI (xs (ix (i + 1)))]) (st := []) (s_X7_unsnap (post := fun r' P' => r' = r ∧ P' = P1) (hA _ ⟨rfl, rfl⟩)) rfl (by decide) rfl rfl rfl ml_L_95 rfl yh_X7_unsnap rfl ⟨Nat.le_of_ble_eq_true rfl, Nat.le_of_ble_eq_true rfl⟩ (Nat.le_of_ble_eq_true rfl) ⟨Nat.le_of_ble_eq_true rfl, Nat.le_of_ble_eq_true rfl⟩ dL_907 (fun v J hp => ?_)
  obtain ⟨P7, r7, rfl, rfl, rfl, rfl⟩ := hp
  refine vr_aload_n 2 1 dL_910 rfl rfl ?_
  refine lr_arg 1 hg rfl (hin 1 (by decide) (by decide)) dL_911 dL_912 dL_913 dL_914 dL_915 ?_
  refine vr_callV RL (k := 22) (x := 0) (As := [vI (xs (ix (i + 1)))]) (st := [vI r7]) (s_X8_unsnap (post := fun r' P' => r' = r7 ∧ P' = Q1) (hB _ ⟨rfl, rfl⟩)) rfl (by decide) rfl rfl rfl ml_L_98 rfl yh_X8_unsnap rfl ⟨Nat.le_of_ble_eq_true rfl, Nat.le_of_ble_eq_true rfl⟩ (Nat.le_of_ble_eq_true rfl) ⟨Nat.le_of_ble_eq_true rfl, Nat.le_of_ble_eq_true rfl⟩ dL_916 (fun v J hp => ?_)
  obtain ⟨P8, r8, rfl, rfl, rfl, rfl⟩ := hp
  refine vr_icmpeq 1359 dL_919 rfl (fun _ => ?_) (fun hn => absurd rfl hn)
  exact K _ _ hR1
theorem lc_20 {l : Launch} {g : vG} {b L : Nat} {xs : Nat → Int32} {i : Int32} {P Q : VP} (hg : g.2.2.2.1 45 = b) (hR : RR P Q) (hin : ∀ v : Int32, 0 ≤ v → v ≤ 5 → vp_in (i + v) L) (K : ∀ P1 Q1 : VP, RR P1 Q1 → LB l g b L xs 1359 i [] (vjn P1 Q1)) : LB l g b L xs 924 i [] (vjn P Q) := by
  obtain ⟨r, P1, Q1, hR1, hA, hB⟩ := D_start hR (xs (ix (i + 1))) (xs (ix (i + 2))) (xs (ix (i + 3)))
  refine vr_aload_n 1 2 dL_924 rfl rfl ?_
  refine lr_arg 1 hg rfl (hin 1 (by decide) (by decide)) dL_925 dL_926 dL_927 dL_928 dL_929 ?_
  refine lr_arg 2 hg rfl (hin 2 (by decide) (by decide)) dL_930 dL_931 dL_932 dL_933 dL_934 ?_
  refine lr_arg 3 hg rfl (hin 3 (by decide) (by decide)) dL_935 dL_936 dL_937 dL_938 dL_939 ?_
  refine vr_callV RL (k := 0) (x := 0) (As := [vI (xs (ix (i + 1))), vI (xs (ix (i + 2))), vI (xs (ix (i + 3)))]) (st := []) (s_X7_start (post := fun r' P' => r' = r ∧ P' = P1) (hA _ ⟨rfl, rfl⟩)) rfl (by decide) rfl rfl rfl ml_L_99 rfl yh_X7_start rfl ⟨Nat.le_of_ble_eq_true rfl, Nat.le_of_ble_eq_true rfl⟩ (Nat.le_of_ble_eq_true rfl) ⟨Nat.le_of_ble_eq_true rfl, Nat.le_of_ble_eq_true rfl⟩ dL_940 (fun v J hp => ?_)
  obtain ⟨P7, r7, rfl, rfl, rfl, rfl⟩ := hp
  refine vr_aload_n 2 1 dL_943 rfl rfl ?_
  refine lr_arg 1 hg rfl (hin 1 (by decide) (by decide)) dL_944 dL_945 dL_946 dL_947 dL_948 ?_
  refine lr_arg 2 hg rfl (hin 2 (by decide) (by decide)) dL_949 dL_950 dL_951 dL_952 dL_953 ?_
  refine lr_arg 3 hg rfl (hin 3 (by decide) (by decide)) dL_954 dL_955 dL_956 dL_957 dL_958 ?_
  refine vr_callV RL (k := 22) (x := 0) (As := [vI (xs (ix (i + 1))), vI (xs (ix (i + 2))), vI (xs (ix (i + 3)))]) (st := [vI r7]) (s_X8_start (post := fun r' P' => r' = r7 ∧ P' = Q1) (hB _ ⟨rfl, rfl⟩)) rfl (by decide) rfl rfl rfl ml_L_102 rfl yh_X8_start rfl ⟨Nat.le_of_ble_eq_true rfl, Nat.le_of_ble_eq_true rfl⟩ (Nat.le_of_ble_eq_true rfl) ⟨Nat.le_of_ble_eq_true rfl, Nat.le_of_ble_eq_true rfl⟩ dL_959 (fun v J hp => ?_)
  obtain ⟨P8, r8, rfl, rfl, rfl, rfl⟩ := hp
  refine vr_icmpeq 1359 dL_962 rfl (fun _ => ?_) (fun hn => absurd rfl hn)
  exact K _ _ hR1
theorem lc_21 {l : Launch} {g : vG} {b L : Nat} {xs : Nat → Int32} {i : Int32} {P Q : VP} (hg : g.2.2.2.1 45 = b) (hR : RR P Q) (hin : ∀ v : Int32, 0 ≤ v → v ≤ 5 → vp_in (i + v) L) (K : ∀ P1 Q1 : VP, RR P1 Q1 → LB l g b L xs 1359 i [] (vjn P1 Q1)) : LB l g b L xs 967 i [] (vjn P Q) := by
  obtain ⟨r, P1, Q1, hR1, hA, hB⟩ := D_run hR (xs (ix (i + 1)))
  refine vr_aload_n 1 2 dL_967 rfl rfl ?_
  refine lr_arg 1 hg rfl (hin 1 (by decide) (by decide)) dL_968 dL_969 dL_970 dL_971 dL_972 ?_
  refine vr_callV RL (k := 0) (x := 0) (As := [vI (xs (ix (i + 1)))]) (st := []) (s_X7_run (post := fun r' P' => r' = r ∧ P' = P1) (hA _ ⟨rfl, rfl⟩)) rfl (by decide) rfl rfl rfl ml_L_103 rfl yh_X7_run rfl ⟨Nat.le_of_ble_eq_true rfl, Nat.le_of_ble_eq_true rfl⟩ (Nat.le_of_ble_eq_true rfl) ⟨Nat.le_of_ble_eq_true rfl, Nat.le_of_ble_eq_true rfl⟩ dL_973 (fun v J hp => ?_)
  obtain ⟨P7, r7, rfl, rfl, rfl, rfl⟩ := hp
  refine vr_aload_n 2 1 dL_976 rfl rfl ?_
  refine lr_arg 1 hg rfl (hin 1 (by decide) (by decide)) dL_977 dL_978 dL_979 dL_980 dL_981 ?_
  refine vr_callV RL (k := 22) (x := 0) (As := [vI (xs (ix (i + 1)))]) (st := [vI r7]) (s_X8_run (post := fun r' P' => r' = r7 ∧ P' = Q1) (hB _ ⟨rfl, rfl⟩)) rfl (by decide) rfl rfl rfl ml_L_106 rfl yh_X8_run rfl ⟨Nat.le_of_ble_eq_true rfl, Nat.le_of_ble_eq_true rfl⟩ (Nat.le_of_ble_eq_true rfl) ⟨Nat.le_of_ble_eq_true rfl, Nat.le_of_ble_eq_true rfl⟩ dL_982 (fun v J hp => ?_)
  obtain ⟨P8, r8, rfl, rfl, rfl, rfl⟩ := hp
  refine vr_icmpeq 1359 dL_985 rfl (fun _ => ?_) (fun hn => absurd rfl hn)
  exact K _ _ hR1
theorem lc_22 {l : Launch} {g : vG} {b L : Nat} {xs : Nat → Int32} {i : Int32} {P Q : VP} (hg : g.2.2.2.1 45 = b) (hR : RR P Q) (hin : ∀ v : Int32, 0 ≤ v → v ≤ 5 → vp_in (i + v) L) (K : ∀ P1 Q1 : VP, RR P1 Q1 → LB l g b L xs 1359 i [] (vjn P1 Q1)) : LB l g b L xs 990 i [] (vjn P Q) := by
  obtain ⟨r, hA, hB⟩ := D_why hR 
  refine vr_aload_n 1 2 dL_990 rfl rfl ?_
  refine vr_callV RL (k := 0) (x := 0) (As := []) (st := []) (s_X7_why (post := fun r' => r' = r) (hA _ rfl)) rfl (by decide) rfl rfl rfl ml_L_107 rfl yh_X7_why rfl ⟨Nat.le_of_ble_eq_true rfl, Nat.le_of_ble_eq_true rfl⟩ (Nat.le_of_ble_eq_true rfl) ⟨Nat.le_of_ble_eq_true rfl, Nat.le_of_ble_eq_true rfl⟩ dL_991 (fun v J hp => ?_)
  obtain ⟨rfl, r7, rfl, rfl⟩ := hp
  refine vr_aload_n 2 1 dL_994 rfl rfl ?_
  refine vr_callV RL (k := 22) (x := 0) (As := []) (st := [vI r7]) (s_X8_why (post := fun r' => r' = r7) (hB _ rfl)) rfl (by decide) rfl rfl rfl ml_L_111 rfl yh_X8_why rfl ⟨Nat.le_of_ble_eq_true rfl, Nat.le_of_ble_eq_true rfl⟩ (Nat.le_of_ble_eq_true rfl) ⟨Nat.le_of_ble_eq_true rfl, Nat.le_of_ble_eq_true rfl⟩ dL_995 (fun v J hp => ?_)
  obtain ⟨rfl, r8, rfl, rfl⟩ := hp
  refine vr_icmpeq 1359 dL_998 rfl (fun _ => ?_) (fun hn => absurd rfl hn)
  exact K _ _ hR
theorem lc_23 {l : Launch} {g : vG} {b L : Nat} {xs : Nat → Int32} {i : Int32} {P Q : VP} (hg : g.2.2.2.1 45 = b) (hR : RR P Q) (hin : ∀ v : Int32, 0 ≤ v → v ≤ 5 → vp_in (i + v) L) (K : ∀ P1 Q1 : VP, RR P1 Q1 → LB l g b L xs 1359 i [] (vjn P1 Q1)) : LB l g b L xs 1003 i [] (vjn P Q) := by
  obtain ⟨r, hA, hB⟩ := D_machine hR (xs (ix (i + 1)))
  refine vr_aload_n 1 2 dL_1003 rfl rfl ?_
  refine lr_arg 1 hg rfl (hin 1 (by decide) (by decide)) dL_1004 dL_1005 dL_1006 dL_1007 dL_1008 ?_
  refine vr_callV RL (k := 0) (x := 0) (As := [vI (xs (ix (i + 1)))]) (st := []) (s_X7_machine (post := fun r' => r' = r) (hA _ rfl)) rfl (by decide) rfl rfl rfl ml_L_112 rfl yh_X7_machine rfl ⟨Nat.le_of_ble_eq_true rfl, Nat.le_of_ble_eq_true rfl⟩ (Nat.le_of_ble_eq_true rfl) ⟨Nat.le_of_ble_eq_true rfl, Nat.le_of_ble_eq_true rfl⟩ dL_1009 (fun v J hp => ?_)
  obtain ⟨rfl, r7, rfl, rfl⟩ := hp
  refine vr_aload_n 2 1 dL_1012 rfl rfl ?_
  refine lr_arg 1 hg rfl (hin 1 (by decide) (by decide)) dL_1013 dL_1014 dL_1015 dL_1016 dL_1017 ?_
  refine vr_callV RL (k := 22) (x := 0) (As := [vI (xs (ix (i + 1)))]) (st := [vI r7]) (s_X8_machine (post := fun r' => r' = r7) (hB _ rfl)) rfl (by decide) rfl rfl rfl ml_L_115 rfl yh_X8_machine rfl ⟨Nat.le_of_ble_eq_true rfl, Nat.le_of_ble_eq_true rfl⟩ (Nat.le_of_ble_eq_true rfl) ⟨Nat.le_of_ble_eq_true rfl, Nat.le_of_ble_eq_true rfl⟩ dL_1018 (fun v J hp => ?_)
  obtain ⟨rfl, r8, rfl, rfl⟩ := hp
  refine vr_icmpeq 1359 dL_1021 rfl (fun _ => ?_) (fun hn => absurd rfl hn)
  exact K _ _ hR
theorem lc_24 {l : Launch} {g : vG} {b L : Nat} {xs : Nat → Int32} {i : Int32} {P Q : VP} (hg : g.2.2.2.1 45 = b) (hR : RR P Q) (hin : ∀ v : Int32, 0 ≤ v → v ≤ 5 → vp_in (i + v) L) (K : ∀ P1 Q1 : VP, RR P1 Q1 → LB l g b L xs 1359 i [] (vjn P1 Q1)) : LB l g b L xs 1026 i [] (vjn P Q) := by
  obtain ⟨r, hA, hB⟩ := D_frame hR (xs (ix (i + 1))) (xs (ix (i + 2))) (xs (ix (i + 3)))
  refine vr_aload_n 1 2 dL_1026 rfl rfl ?_
  refine lr_arg 1 hg rfl (hin 1 (by decide) (by decide)) dL_1027 dL_1028 dL_1029 dL_1030 dL_1031 ?_
  refine lr_arg 2 hg rfl (hin 2 (by decide) (by decide)) dL_1032 dL_1033 dL_1034 dL_1035 dL_1036 ?_
  refine lr_arg 3 hg rfl (hin 3 (by decide) (by decide)) dL_1037 dL_1038 dL_1039 dL_1040 dL_1041 ?_
  refine vr_callV RL (k := 0) (x := 0) (As := [vI (xs (ix (i + 1))), vI (xs (ix (i + 2))), vI (xs (ix (i + 3)))]) (st := []) (s_X7_frame (post := fun r' => r' = r) (hA _ rfl)) rfl (by decide) rfl rfl rfl ml_L_116 rfl yh_X7_frame rfl ⟨Nat.le_of_ble_eq_true rfl, Nat.le_of_ble_eq_true rfl⟩ (Nat.le_of_ble_eq_true rfl) ⟨Nat.le_of_ble_eq_true rfl, Nat.le_of_ble_eq_true rfl⟩ dL_1042 (fun v J hp => ?_)
  obtain ⟨rfl, r7, rfl, rfl⟩ := hp
  refine vr_aload_n 2 1 dL_1045 rfl rfl ?_
  refine lr_arg 1 hg rfl (hin 1 (by decide) (by decide)) dL_1046 dL_1047 dL_1048 dL_1049 dL_1050 ?_
  refine lr_arg 2 hg rfl (hin 2 (by decide) (by decide)) dL_1051 dL_1052 dL_1053 dL_1054 dL_1055 ?_
  refine lr_arg 3 hg rfl (hin 3 (by decide) (by decide)) dL_1056 dL_1057 dL_1058 dL_1059 dL_1060 ?_
  refine vr_callV RL (k := 22) (x := 0) (As := [vI (xs (ix (i + 1))), vI (xs (ix (i + 2))), vI (xs (ix (i + 3)))]) (st := [vI r7]) (s_X8_frame (post := fun r' => r' = r7) (hB _ rfl)) rfl (by decide) rfl rfl rfl ml_L_119 rfl yh_X8_frame rfl ⟨Nat.le_of_ble_eq_true rfl, Nat.le_of_ble_eq_true rfl⟩ (Nat.le_of_ble_eq_true rfl) ⟨Nat.le_of_ble_eq_true rfl, Nat.le_of_ble_eq_true rfl⟩ dL_1061 (fun v J hp => ?_)
  obtain ⟨rfl, r8, rfl, rfl⟩ := hp
  refine vr_icmpeq 1359 dL_1064 rfl (fun _ => ?_) (fun hn => absurd rfl hn)
  exact K _ _ hR
theorem lc_25 {l : Launch} {g : vG} {b L : Nat} {xs : Nat → Int32} {i : Int32} {P Q : VP} (hg : g.2.2.2.1 45 = b) (hR : RR P Q) (hin : ∀ v : Int32, 0 ≤ v → v ≤ 5 → vp_in (i + v) L) (K : ∀ P1 Q1 : VP, RR P1 Q1 → LB l g b L xs 1359 i [] (vjn P1 Q1)) : LB l g b L xs 1069 i [] (vjn P Q) := by
  obtain ⟨r, P1, Q1, hR1, hA, hB⟩ := D_dry hR (xs (ix (i + 1))) (xs (ix (i + 2)))
  refine vr_aload_n 1 2 dL_1069 rfl rfl ?_
  refine lr_arg 1 hg rfl (hin 1 (by decide) (by decide)) dL_1070 dL_1071 dL_1072 dL_1073 dL_1074 ?_
  refine lr_arg 2 hg rfl (hin 2 (by decide) (by decide)) dL_1075 dL_1076 dL_1077 dL_1078 dL_1079 ?_
  refine vr_callV RL (k := 0) (x := 0) (As := [vI (xs (ix (i + 1))), vI (xs (ix (i + 2)))]) (st := []) (s_X7_dry (post := fun r' P' => r' = r ∧ P' = P1) (hA _ ⟨rfl, rfl⟩)) rfl (by decide) rfl rfl rfl ml_L_120 rfl yh_X7_dry rfl ⟨Nat.le_of_ble_eq_true rfl, Nat.le_of_ble_eq_true rfl⟩ (Nat.le_of_ble_eq_true rfl) ⟨Nat.le_of_ble_eq_true rfl, Nat.le_of_ble_eq_true rfl⟩ dL_1080 (fun v J hp => ?_)
  obtain ⟨P7, r7, rfl, rfl, rfl, rfl⟩ := hp
  refine vr_aload_n 2 1 dL_1083 rfl rfl ?_
  refine lr_arg 1 hg rfl (hin 1 (by decide) (by decide)) dL_1084 dL_1085 dL_1086 dL_1087 dL_1088 ?_
  refine lr_arg 2 hg rfl (hin 2 (by decide) (by decide)) dL_1089 dL_1090 dL_1091 dL_1092 dL_1093 ?_
  refine vr_callV RL (k := 22) (x := 0) (As := [vI (xs (ix (i + 1))), vI (xs (ix (i + 2)))]) (st := [vI r7]) (s_X8_dry (post := fun r' P' => r' = r7 ∧ P' = Q1) (hB _ ⟨rfl, rfl⟩)) rfl (by decide) rfl rfl rfl ml_L_123 rfl yh_X8_dry rfl ⟨Nat.le_of_ble_eq_true rfl, Nat.le_of_ble_eq_true rfl⟩ (Nat.le_of_ble_eq_true rfl) ⟨Nat.le_of_ble_eq_true rfl, Nat.le_of_ble_eq_true rfl⟩ dL_1094 (fun v J hp => ?_)
  obtain ⟨P8, r8, rfl, rfl, rfl, rfl⟩ := hp
  refine vr_icmpeq 1359 dL_1097 rfl (fun _ => ?_) (fun hn => absurd rfl hn)
  exact K _ _ hR1
theorem lc_26 {l : Launch} {g : vG} {b L : Nat} {xs : Nat → Int32} {i : Int32} {P Q : VP} (hg : g.2.2.2.1 45 = b) (hR : RR P Q) (hin : ∀ v : Int32, 0 ≤ v → v ≤ 5 → vp_in (i + v) L) (K : ∀ P1 Q1 : VP, RR P1 Q1 → LB l g b L xs 1359 i [] (vjn P1 Q1)) : LB l g b L xs 1102 i [] (vjn P Q) := by
  obtain ⟨r, P1, Q1, hR1, hA, hB⟩ := D_operand hR (xs (ix (i + 1))) (xs (ix (i + 2))) (xs (ix (i + 3))) (xs (ix (i + 4)))
  refine vr_aload_n 1 2 dL_1102 rfl rfl ?_
  refine lr_arg 1 hg rfl (hin 1 (by decide) (by decide)) dL_1103 dL_1104 dL_1105 dL_1106 dL_1107 ?_
  refine lr_arg 2 hg rfl (hin 2 (by decide) (by decide)) dL_1108 dL_1109 dL_1110 dL_1111 dL_1112 ?_
  refine lr_arg 3 hg rfl (hin 3 (by decide) (by decide)) dL_1113 dL_1114 dL_1115 dL_1116 dL_1117 ?_
  refine lr_arg 4 hg rfl (hin 4 (by decide) (by decide)) dL_1118 dL_1119 dL_1120 dL_1121 dL_1122 ?_
  refine vr_callV RL (k := 0) (x := 0) (As := [vI (xs (ix (i + 1))), vI (xs (ix (i + 2))), vI (xs (ix (i + 3))), vI (xs (ix (i + 4)))]) (st := []) (s_X7_operand (post := fun r' P' => r' = r ∧ P' = P1) (hA _ ⟨rfl, rfl⟩)) rfl (by decide) rfl rfl rfl ml_L_124 rfl yh_X7_operand rfl ⟨Nat.le_of_ble_eq_true rfl, Nat.le_of_ble_eq_true rfl⟩ (Nat.le_of_ble_eq_true rfl) ⟨Nat.le_of_ble_eq_true rfl, Nat.le_of_ble_eq_true rfl⟩ dL_1123 (fun v J hp => ?_)
  obtain ⟨P7, r7, rfl, rfl, rfl, rfl⟩ := hp
  refine vr_aload_n 2 1 dL_1126 rfl rfl ?_
  refine lr_arg 1 hg rfl (hin 1 (by decide) (by decide)) dL_1127 dL_1128 dL_1129 dL_1130 dL_1131 ?_
  refine lr_arg 2 hg rfl (hin 2 (by decide) (by decide)) dL_1132 dL_1133 dL_1134 dL_1135 dL_1136 ?_
  refine lr_arg 3 hg rfl (hin 3 (by decide) (by decide)) dL_1137 dL_1138 dL_1139 dL_1140 dL_1141 ?_
  refine lr_arg 4 hg rfl (hin 4 (by decide) (by decide)) dL_1142 dL_1143 dL_1144 dL_1145 dL_1146 ?_
  refine vr_callV RL (k := 22) (x := 0) (As := [vI (xs (ix (i + 1))), vI (xs (ix (i + 2))), vI (xs (ix (i + 3))), vI (xs (ix (i + 4)))]) (st := [vI r7]) (s_X8_operand (post := fun r' P' => r' = r7 ∧ P' = Q1) (hB _ ⟨rfl, rfl⟩)) rfl (by decide) rfl rfl rfl ml_L_127 rfl yh_X8_operand rfl ⟨Nat.le_of_ble_eq_true rfl, Nat.le_of_ble_eq_true rfl⟩ (Nat.le_of_ble_eq_true rfl) ⟨Nat.le_of_ble_eq_true rfl, Nat.le_of_ble_eq_true rfl⟩ dL_1147 (fun v J hp => ?_)
  obtain ⟨P8, r8, rfl, rfl, rfl, rfl⟩ := hp
  refine vr_icmpeq 1359 dL_1150 rfl (fun _ => ?_) (fun hn => absurd rfl hn)
  exact K _ _ hR1
theorem lc_27 {l : Launch} {g : vG} {b L : Nat} {xs : Nat → Int32} {i : Int32} {P Q : VP} (hg : g.2.2.2.1 45 = b) (hR : RR P Q) (hin : ∀ v : Int32, 0 ≤ v → v ≤ 5 → vp_in (i + v) L) (K : ∀ P1 Q1 : VP, RR P1 Q1 → LB l g b L xs 1359 i [] (vjn P1 Q1)) : LB l g b L xs 1155 i [] (vjn P Q) := by
  obtain ⟨r, hA, hB⟩ := D_enters hR (xs (ix (i + 1))) (xs (ix (i + 2))) (xs (ix (i + 3)))
  refine vr_aload_n 1 2 dL_1155 rfl rfl ?_
  refine lr_arg 1 hg rfl (hin 1 (by decide) (by decide)) dL_1156 dL_1157 dL_1158 dL_1159 dL_1160 ?_
  refine lr_arg 2 hg rfl (hin 2 (by decide) (by decide)) dL_1161 dL_1162 dL_1163 dL_1164 dL_1165 ?_
  refine lr_arg 3 hg rfl (hin 3 (by decide) (by decide)) dL_1166 dL_1167 dL_1168 dL_1169 dL_1170 ?_
  refine vr_callV RL (k := 0) (x := 0) (As := [vI (xs (ix (i + 1))), vI (xs (ix (i + 2))), vI (xs (ix (i + 3)))]) (st := []) (s_X7_enters (post := fun r' => r' = r) (hA _ rfl)) rfl (by decide) rfl rfl rfl ml_L_128 rfl yh_X7_enters rfl ⟨Nat.le_of_ble_eq_true rfl, Nat.le_of_ble_eq_true rfl⟩ (Nat.le_of_ble_eq_true rfl) ⟨Nat.le_of_ble_eq_true rfl, Nat.le_of_ble_eq_true rfl⟩ dL_1171 (fun v J hp => ?_)
  obtain ⟨rfl, r7, rfl, rfl⟩ := hp
  refine vr_aload_n 2 1 dL_1174 rfl rfl ?_
  refine lr_arg 1 hg rfl (hin 1 (by decide) (by decide)) dL_1175 dL_1176 dL_1177 dL_1178 dL_1179 ?_
  refine lr_arg 2 hg rfl (hin 2 (by decide) (by decide)) dL_1180 dL_1181 dL_1182 dL_1183 dL_1184 ?_
  refine lr_arg 3 hg rfl (hin 3 (by decide) (by decide)) dL_1185 dL_1186 dL_1187 dL_1188 dL_1189 ?_
  refine vr_callV RL (k := 22) (x := 0) (As := [vI (xs (ix (i + 1))), vI (xs (ix (i + 2))), vI (xs (ix (i + 3)))]) (st := [vI r7]) (s_X8_enters (post := fun r' => r' = r7) (hB _ rfl)) rfl (by decide) rfl rfl rfl ml_L_131 rfl yh_X8_enters rfl ⟨Nat.le_of_ble_eq_true rfl, Nat.le_of_ble_eq_true rfl⟩ (Nat.le_of_ble_eq_true rfl) ⟨Nat.le_of_ble_eq_true rfl, Nat.le_of_ble_eq_true rfl⟩ dL_1190 (fun v J hp => ?_)
  obtain ⟨rfl, r8, rfl, rfl⟩ := hp
  refine vr_icmpeq 1359 dL_1193 rfl (fun _ => ?_) (fun hn => absurd rfl hn)
  exact K _ _ hR
theorem lc_28 {l : Launch} {g : vG} {b L : Nat} {xs : Nat → Int32} {i : Int32} {P Q : VP} (hg : g.2.2.2.1 45 = b) (hR : RR P Q) (hin : ∀ v : Int32, 0 ≤ v → v ≤ 5 → vp_in (i + v) L) (K : ∀ P1 Q1 : VP, RR P1 Q1 → LB l g b L xs 1359 i [] (vjn P1 Q1)) : LB l g b L xs 1198 i [] (vjn P Q) := by
  obtain ⟨r, hA, hB⟩ := D_access hR (xs (ix (i + 1))) (xs (ix (i + 2)))
  refine vr_aload_n 1 2 dL_1198 rfl rfl ?_
  refine lr_arg 1 hg rfl (hin 1 (by decide) (by decide)) dL_1199 dL_1200 dL_1201 dL_1202 dL_1203 ?_
  refine lr_arg 2 hg rfl (hin 2 (by decide) (by decide)) dL_1204 dL_1205 dL_1206 dL_1207 dL_1208 ?_
  refine vr_callV RL (k := 0) (x := 0) (As := [vI (xs (ix (i + 1))), vI (xs (ix (i + 2)))]) (st := []) (s_X7_access (post := fun r' => r' = r) (hA _ rfl)) rfl (by decide) rfl rfl rfl ml_L_132 rfl yh_X7_access rfl ⟨Nat.le_of_ble_eq_true rfl, Nat.le_of_ble_eq_true rfl⟩ (Nat.le_of_ble_eq_true rfl) ⟨Nat.le_of_ble_eq_true rfl, Nat.le_of_ble_eq_true rfl⟩ dL_1209 (fun v J hp => ?_)
  obtain ⟨rfl, r7, rfl, rfl⟩ := hp
  refine vr_aload_n 2 1 dL_1212 rfl rfl ?_
  refine lr_arg 1 hg rfl (hin 1 (by decide) (by decide)) dL_1213 dL_1214 dL_1215 dL_1216 dL_1217 ?_
  refine lr_arg 2 hg rfl (hin 2 (by decide) (by decide)) dL_1218 dL_1219 dL_1220 dL_1221 dL_1222 ?_
  refine vr_callV RL (k := 22) (x := 0) (As := [vI (xs (ix (i + 1))), vI (xs (ix (i + 2)))]) (st := [vI r7]) (s_X8_access (post := fun r' => r' = r7) (hB _ rfl)) rfl (by decide) rfl rfl rfl ml_L_135 rfl yh_X8_access rfl ⟨Nat.le_of_ble_eq_true rfl, Nat.le_of_ble_eq_true rfl⟩ (Nat.le_of_ble_eq_true rfl) ⟨Nat.le_of_ble_eq_true rfl, Nat.le_of_ble_eq_true rfl⟩ dL_1223 (fun v J hp => ?_)
  obtain ⟨rfl, r8, rfl, rfl⟩ := hp
  refine vr_icmpeq 1359 dL_1226 rfl (fun _ => ?_) (fun hn => absurd rfl hn)
  exact K _ _ hR
theorem lc_29 {l : Launch} {g : vG} {b L : Nat} {xs : Nat → Int32} {i : Int32} {P Q : VP} (hg : g.2.2.2.1 45 = b) (hR : RR P Q) (hin : ∀ v : Int32, 0 ≤ v → v ≤ 5 → vp_in (i + v) L) (K : ∀ P1 Q1 : VP, RR P1 Q1 → LB l g b L xs 1359 i [] (vjn P1 Q1)) : LB l g b L xs 1231 i [] (vjn P Q) := by
  obtain ⟨r, hA, hB⟩ := D_ways hR (xs (ix (i + 1))) (xs (ix (i + 2)))
  refine vr_aload_n 1 2 dL_1231 rfl rfl ?_
  refine lr_arg 1 hg rfl (hin 1 (by decide) (by decide)) dL_1232 dL_1233 dL_1234 dL_1235 dL_1236 ?_
  refine lr_arg 2 hg rfl (hin 2 (by decide) (by decide)) dL_1237 dL_1238 dL_1239 dL_1240 dL_1241 ?_
  refine vr_callV RL (k := 0) (x := 0) (As := [vI (xs (ix (i + 1))), vI (xs (ix (i + 2)))]) (st := []) (s_X7_ways (post := fun r' => r' = r) (hA _ rfl)) rfl (by decide) rfl rfl rfl ml_L_136 rfl yh_X7_ways rfl ⟨Nat.le_of_ble_eq_true rfl, Nat.le_of_ble_eq_true rfl⟩ (Nat.le_of_ble_eq_true rfl) ⟨Nat.le_of_ble_eq_true rfl, Nat.le_of_ble_eq_true rfl⟩ dL_1242 (fun v J hp => ?_)
  obtain ⟨rfl, r7, rfl, rfl⟩ := hp
  refine vr_aload_n 2 1 dL_1245 rfl rfl ?_
  refine lr_arg 1 hg rfl (hin 1 (by decide) (by decide)) dL_1246 dL_1247 dL_1248 dL_1249 dL_1250 ?_
  refine lr_arg 2 hg rfl (hin 2 (by decide) (by decide)) dL_1251 dL_1252 dL_1253 dL_1254 dL_1255 ?_
  refine vr_callV RL (k := 22) (x := 0) (As := [vI (xs (ix (i + 1))), vI (xs (ix (i + 2)))]) (st := [vI r7]) (s_X8_ways (post := fun r' => r' = r7) (hB _ rfl)) rfl (by decide) rfl rfl rfl ml_L_139 rfl yh_X8_ways rfl ⟨Nat.le_of_ble_eq_true rfl, Nat.le_of_ble_eq_true rfl⟩ (Nat.le_of_ble_eq_true rfl) ⟨Nat.le_of_ble_eq_true rfl, Nat.le_of_ble_eq_true rfl⟩ dL_1256 (fun v J hp => ?_)
  obtain ⟨rfl, r8, rfl, rfl⟩ := hp
  refine vr_icmpeq 1359 dL_1259 rfl (fun _ => ?_) (fun hn => absurd rfl hn)
  exact K _ _ hR
theorem lc_30 {l : Launch} {g : vG} {b L : Nat} {xs : Nat → Int32} {i : Int32} {P Q : VP} (hg : g.2.2.2.1 45 = b) (hR : RR P Q) (hin : ∀ v : Int32, 0 ≤ v → v ≤ 5 → vp_in (i + v) L) (K : ∀ P1 Q1 : VP, RR P1 Q1 → LB l g b L xs 1359 i [] (vjn P1 Q1)) : LB l g b L xs 1264 i [] (vjn P Q) := by
  obtain ⟨r, hA, hB⟩ := D_stale hR 
  refine vr_aload_n 1 2 dL_1264 rfl rfl ?_
  refine vr_callV RL (k := 0) (x := 0) (As := []) (st := []) (s_X7_stale (post := fun r' => r' = r) (hA _ rfl)) rfl (by decide) rfl rfl rfl ml_L_140 rfl yh_X7_stale rfl ⟨Nat.le_of_ble_eq_true rfl, Nat.le_of_ble_eq_true rfl⟩ (Nat.le_of_ble_eq_true rfl) ⟨Nat.le_of_ble_eq_true rfl, Nat.le_of_ble_eq_true rfl⟩ dL_1265 (fun v J hp => ?_)
  obtain ⟨rfl, r7, rfl, rfl⟩ := hp
  refine vr_aload_n 2 1 dL_1268 rfl rfl ?_
  refine vr_callV RL (k := 22) (x := 0) (As := []) (st := [vI r7]) (s_X8_stale (post := fun r' => r' = r7) (hB _ rfl)) rfl (by decide) rfl rfl rfl ml_L_143 rfl yh_X8_stale rfl ⟨Nat.le_of_ble_eq_true rfl, Nat.le_of_ble_eq_true rfl⟩ (Nat.le_of_ble_eq_true rfl) ⟨Nat.le_of_ble_eq_true rfl, Nat.le_of_ble_eq_true rfl⟩ dL_1269 (fun v J hp => ?_)
  obtain ⟨rfl, r8, rfl, rfl⟩ := hp
  refine vr_icmpeq 1359 dL_1272 rfl (fun _ => ?_) (fun hn => absurd rfl hn)
  exact K _ _ hR
theorem lc_31 {l : Launch} {g : vG} {b L : Nat} {xs : Nat → Int32} {i : Int32} {P Q : VP} (hg : g.2.2.2.1 45 = b) (hR : RR P Q) (hin : ∀ v : Int32, 0 ≤ v → v ≤ 5 → vp_in (i + v) L) (K : ∀ P1 Q1 : VP, RR P1 Q1 → LB l g b L xs 1359 i [] (vjn P1 Q1)) : LB l g b L xs 1277 i [] (vjn P Q) := by
  obtain ⟨r, hA, hB⟩ := D_drawn hR (xs (ix (i + 1))) (xs (ix (i + 2)))
  refine vr_aload_n 1 2 dL_1277 rfl rfl ?_
  refine lr_arg 1 hg rfl (hin 1 (by decide) (by decide)) dL_1278 dL_1279 dL_1280 dL_1281 dL_1282 ?_
  refine lr_arg 2 hg rfl (hin 2 (by decide) (by decide)) dL_1283 dL_1284 dL_1285 dL_1286 dL_1287 ?_
  refine vr_callV RL (k := 0) (x := 0) (As := [vI (xs (ix (i + 1))), vI (xs (ix (i + 2)))]) (st := []) (s_X7_drawn (post := fun r' => r' = r) (hA _ rfl)) rfl (by decide) rfl rfl rfl ml_L_144 rfl yh_X7_drawn rfl ⟨Nat.le_of_ble_eq_true rfl, Nat.le_of_ble_eq_true rfl⟩ (Nat.le_of_ble_eq_true rfl) ⟨Nat.le_of_ble_eq_true rfl, Nat.le_of_ble_eq_true rfl⟩ dL_1288 (fun v J hp => ?_)
  obtain ⟨rfl, r7, rfl, rfl⟩ := hp
  refine vr_aload_n 2 1 dL_1291 rfl rfl ?_
  refine lr_arg 1 hg rfl (hin 1 (by decide) (by decide)) dL_1292 dL_1293 dL_1294 dL_1295 dL_1296 ?_
  refine lr_arg 2 hg rfl (hin 2 (by decide) (by decide)) dL_1297 dL_1298 dL_1299 dL_1300 dL_1301 ?_
  refine vr_callV RL (k := 22) (x := 0) (As := [vI (xs (ix (i + 1))), vI (xs (ix (i + 2)))]) (st := [vI r7]) (s_X8_drawn (post := fun r' => r' = r7) (hB _ rfl)) rfl (by decide) rfl rfl rfl ml_L_147 rfl yh_X8_drawn rfl ⟨Nat.le_of_ble_eq_true rfl, Nat.le_of_ble_eq_true rfl⟩ (Nat.le_of_ble_eq_true rfl) ⟨Nat.le_of_ble_eq_true rfl, Nat.le_of_ble_eq_true rfl⟩ dL_1302 (fun v J hp => ?_)
  obtain ⟨rfl, r8, rfl, rfl⟩ := hp
  refine vr_icmpeq 1359 dL_1305 rfl (fun _ => ?_) (fun hn => absurd rfl hn)
  exact K _ _ hR
theorem lc_32 {l : Launch} {g : vG} {b L : Nat} {xs : Nat → Int32} {i : Int32} {P Q : VP} (hg : g.2.2.2.1 45 = b) (hR : RR P Q) (hin : ∀ v : Int32, 0 ≤ v → v ≤ 5 → vp_in (i + v) L) (K : ∀ P1 Q1 : VP, RR P1 Q1 → LB l g b L xs 1359 i [] (vjn P1 Q1)) : LB l g b L xs 1310 i [] (vjn P Q) := by
  obtain ⟨r, P1, Q1, hR1, hA, hB⟩ := D_image hR 
  refine vr_aload_n 1 2 dL_1310 rfl rfl ?_
  refine vr_callV RL (k := 0) (x := 0) (As := []) (st := []) (s_X7_image (post := fun r' P' => r' = r ∧ P' = P1) (hA _ ⟨rfl, rfl⟩)) rfl (by decide) rfl rfl rfl ml_L_148 rfl yh_X7_image rfl ⟨Nat.le_of_ble_eq_true rfl, Nat.le_of_ble_eq_true rfl⟩ (Nat.le_of_ble_eq_true rfl) ⟨Nat.le_of_ble_eq_true rfl, Nat.le_of_ble_eq_true rfl⟩ dL_1311 (fun v J hp => ?_)
  obtain ⟨P7, r7, rfl, rfl, rfl, rfl⟩ := hp
  refine vr_aload_n 2 1 dL_1314 rfl rfl ?_
  refine vr_callV RL (k := 22) (x := 0) (As := []) (st := [vI r7]) (s_X8_image (post := fun r' P' => r' = r7 ∧ P' = Q1) (hB _ ⟨rfl, rfl⟩)) rfl (by decide) rfl rfl rfl ml_L_151 rfl yh_X8_image rfl ⟨Nat.le_of_ble_eq_true rfl, Nat.le_of_ble_eq_true rfl⟩ (Nat.le_of_ble_eq_true rfl) ⟨Nat.le_of_ble_eq_true rfl, Nat.le_of_ble_eq_true rfl⟩ dL_1315 (fun v J hp => ?_)
  obtain ⟨P8, r8, rfl, rfl, rfl, rfl⟩ := hp
  refine vr_icmpeq 1359 dL_1318 rfl (fun _ => ?_) (fun hn => absurd rfl hn)
  exact K _ _ hR1
theorem lc_33 {l : Launch} {g : vG} {b L : Nat} {xs : Nat → Int32} {i : Int32} {P Q : VP} (hg : g.2.2.2.1 45 = b) (hR : RR P Q) (hin : ∀ v : Int32, 0 ≤ v → v ≤ 5 → vp_in (i + v) L) (K : ∀ P1 Q1 : VP, RR P1 Q1 → LB l g b L xs 1359 i [] (vjn P1 Q1)) : LB l g b L xs 1323 i [] (vjn P Q) := by
  obtain ⟨r, P1, Q1, hR1, hA, hB⟩ := D_back hR 
  refine vr_aload_n 1 2 dL_1323 rfl rfl ?_
  refine vr_callV RL (k := 0) (x := 0) (As := []) (st := []) (s_X7_back (post := fun r' P' => r' = r ∧ P' = P1) (hA _ ⟨rfl, rfl⟩)) rfl (by decide) rfl rfl rfl ml_L_152 rfl yh_X7_back rfl ⟨Nat.le_of_ble_eq_true rfl, Nat.le_of_ble_eq_true rfl⟩ (Nat.le_of_ble_eq_true rfl) ⟨Nat.le_of_ble_eq_true rfl, Nat.le_of_ble_eq_true rfl⟩ dL_1324 (fun v J hp => ?_)
  obtain ⟨P7, r7, rfl, rfl, rfl, rfl⟩ := hp
  refine vr_aload_n 2 1 dL_1327 rfl rfl ?_
  refine vr_callV RL (k := 22) (x := 0) (As := []) (st := [vI r7]) (s_X8_back (post := fun r' P' => r' = r7 ∧ P' = Q1) (hB _ ⟨rfl, rfl⟩)) rfl (by decide) rfl rfl rfl ml_L_155 rfl yh_X8_back rfl ⟨Nat.le_of_ble_eq_true rfl, Nat.le_of_ble_eq_true rfl⟩ (Nat.le_of_ble_eq_true rfl) ⟨Nat.le_of_ble_eq_true rfl, Nat.le_of_ble_eq_true rfl⟩ dL_1328 (fun v J hp => ?_)
  obtain ⟨P8, r8, rfl, rfl, rfl, rfl⟩ := hp
  refine vr_icmpeq 1359 dL_1331 rfl (fun _ => ?_) (fun hn => absurd rfl hn)
  exact K _ _ hR1
theorem lc_34 {l : Launch} {g : vG} {b L : Nat} {xs : Nat → Int32} {i : Int32} {P Q : VP} (hg : g.2.2.2.1 45 = b) (hR : RR P Q) (hin : ∀ v : Int32, 0 ≤ v → v ≤ 5 → vp_in (i + v) L) (K : ∀ P1 Q1 : VP, RR P1 Q1 → LB l g b L xs 1359 i [] (vjn P1 Q1)) : LB l g b L xs 1336 i [] (vjn P Q) := by
  obtain ⟨r, hA, hB⟩ := D_count hR (xs (ix (i + 1)))
  refine vr_aload_n 1 2 dL_1336 rfl rfl ?_
  refine lr_arg 1 hg rfl (hin 1 (by decide) (by decide)) dL_1337 dL_1338 dL_1339 dL_1340 dL_1341 ?_
  refine vr_callV RL (k := 0) (x := 0) (As := [vI (xs (ix (i + 1)))]) (st := []) (s_X7_count (post := fun r' => r' = r) (hA _ rfl)) rfl (by decide) rfl rfl rfl ml_L_156 rfl yh_X7_count rfl ⟨Nat.le_of_ble_eq_true rfl, Nat.le_of_ble_eq_true rfl⟩ (Nat.le_of_ble_eq_true rfl) ⟨Nat.le_of_ble_eq_true rfl, Nat.le_of_ble_eq_true rfl⟩ dL_1342 (fun v J hp => ?_)
  obtain ⟨rfl, r7, rfl, rfl⟩ := hp
  refine vr_aload_n 2 1 dL_1345 rfl rfl ?_
  refine lr_arg 1 hg rfl (hin 1 (by decide) (by decide)) dL_1346 dL_1347 dL_1348 dL_1349 dL_1350 ?_
  refine vr_callV RL (k := 22) (x := 0) (As := [vI (xs (ix (i + 1)))]) (st := [vI r7]) (s_X8_count (post := fun r' => r' = r7) (hB _ rfl)) rfl (by decide) rfl rfl rfl ml_L_159 rfl yh_X8_count rfl ⟨Nat.le_of_ble_eq_true rfl, Nat.le_of_ble_eq_true rfl⟩ (Nat.le_of_ble_eq_true rfl) ⟨Nat.le_of_ble_eq_true rfl, Nat.le_of_ble_eq_true rfl⟩ dL_1351 (fun v J hp => ?_)
  obtain ⟨rfl, r8, rfl, rfl⟩ := hp
  refine vr_icmpeq 1359 dL_1354 rfl (fun _ => ?_) (fun hn => absurd rfl hn)
  exact K _ _ hR
