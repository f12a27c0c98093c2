section LC
variable {l : Launch} {K : Nat → ClassId} {D : va_G} {ad bd : Int → Nat} {P : cP} {b L : Nat} {xs : Nat → Int32} {M : GM} {kc ks : Nat} {σ τ : Mem}
theorem lc_row {n i : Int} (C : LGood l K D ad bd P b L xs M) (h : RR n σ τ) (hR : kc ≤ 600000 ∧ ks ≤ 7302250) (h0 : 0 ≤ i) (h5 : i + 6 ≤ (L : Int)) (k : ∀ σ' τ' : Mem, RR (n + 1) σ' τ' → LG M K ad bd kc ks 1148 [(3, .int (iI i)), (2, .ref (bd 0)), (1, .ref (ad 0)), (0, .ref b)] [] σ' τ') : LG M K ad bd kc ks 168 [(3, .int (iI i)), (2, .ref (bd 0)), (1, .ref (ad 0)), (0, .ref b)] [] σ τ := by
  have ha := a_row (r := sx xs (i + 1)) (ln := sx xs (i + 2)) (m := sx xs (i + 3)) (σ := σ) (τ := τ) h
  refine l_aload_n C dL_law_168 (p := 2) rfl rfl ?_
  refine l_arg C rfl dL_law_169 rfl dL_law_170 rfl dL_law_171 dL_law_172 dL_law_173 (by omega) (by omega) ?_
  refine l_arg C rfl dL_law_174 rfl dL_law_175 rfl dL_law_176 dL_law_177 dL_law_178 (by omega) (by omega) ?_
  refine l_arg C rfl dL_law_179 rfl dL_law_180 rfl dL_law_181 dL_law_182 dL_law_183 (by omega) (by omega) ?_
  refine l_callC C dL_law_184 (kX8_row (σ := σ) (r := sx xs (i + 1)) (ln := sx xs (i + 2)) (n := sx xs (i + 3)) C.2.1.1 (cEok P) (sx_R _ _) (sx_R _ _) (sx_R _ _)) mw_X8_row wl_L_13 hR (by decide) (by decide) rfl rfl (by simp [Value.category]) ?_
  refine l_aload_n C dL_law_187 (p := 1) rfl rfl ?_
  refine l_arg C rfl dL_law_188 rfl dL_law_189 rfl dL_law_190 dL_law_191 dL_law_192 (by omega) (by omega) ?_
  refine l_arg C rfl dL_law_193 rfl dL_law_194 rfl dL_law_195 dL_law_196 dL_law_197 (by omega) (by omega) ?_
  refine l_arg C rfl dL_law_198 rfl dL_law_199 rfl dL_law_200 dL_law_201 dL_law_202 (by omega) (by omega) ?_
  refine l_callM C dL_law_203 (kX9_row (σ := τ) (r := sx xs (i + 1)) (ln := sx xs (i + 2)) (n := sx xs (i + 3)) C.2.1.2.1 (cEok P) (sx_R _ _) (sx_R _ _) (sx_R _ _)) mw_X9_row wl_L_17 hR (by decide) (by decide) rfl rfl (by simp [Value.category]) ?_
  refine l_eq C (tgt := 1148) dL_law_206 (by decide) ha.1 ?_
  exact k _ _ ha.2
theorem lc_set {n i : Int} (C : LGood l K D ad bd P b L xs M) (h : RR n σ τ) (hR : kc ≤ 600000 ∧ ks ≤ 7302250) (h0 : 0 ≤ i) (h5 : i + 6 ≤ (L : Int)) (k : ∀ σ' τ' : Mem, RR (n + 1) σ' τ' → LG M K ad bd kc ks 1148 [(3, .int (iI i)), (2, .ref (bd 0)), (1, .ref (ad 0)), (0, .ref b)] [] σ' τ') : LG M K ad bd kc ks 211 [(3, .int (iI i)), (2, .ref (bd 0)), (1, .ref (ad 0)), (0, .ref b)] [] σ τ := by
  have ha := a_set (r := sx xs (i + 1)) (i := sx xs (i + 2)) (v := sx xs (i + 3)) (σ := σ) (τ := τ) h (sx_R _ _)
  refine l_aload_n C dL_law_211 (p := 2) rfl rfl ?_
  refine l_arg C rfl dL_law_212 rfl dL_law_213 rfl dL_law_214 dL_law_215 dL_law_216 (by omega) (by omega) ?_
  refine l_arg C rfl dL_law_217 rfl dL_law_218 rfl dL_law_219 dL_law_220 dL_law_221 (by omega) (by omega) ?_
  refine l_arg C rfl dL_law_222 rfl dL_law_223 rfl dL_law_224 dL_law_225 dL_law_226 (by omega) (by omega) ?_
  refine l_callC C dL_law_227 (kX8_set (σ := σ) (r := sx xs (i + 1)) (i := sx xs (i + 2)) (v := sx xs (i + 3)) C.2.1.1 (cEok P) (q_hrw h) (sx_R _ _) (sx_R _ _) (sx_R _ _)) mw_X8_set wl_L_18 hR (by decide) (by decide) rfl rfl (by simp [Value.category]) ?_
  refine l_aload_n C dL_law_230 (p := 1) rfl rfl ?_
  refine l_arg C rfl dL_law_231 rfl dL_law_232 rfl dL_law_233 dL_law_234 dL_law_235 (by omega) (by omega) ?_
  refine l_arg C rfl dL_law_236 rfl dL_law_237 rfl dL_law_238 dL_law_239 dL_law_240 (by omega) (by omega) ?_
  refine l_arg C rfl dL_law_241 rfl dL_law_242 rfl dL_law_243 dL_law_244 dL_law_245 (by omega) (by omega) ?_
  refine l_callM C dL_law_246 (kX9_set (σ := τ) (r := sx xs (i + 1)) (i := sx xs (i + 2)) (v := sx xs (i + 3)) C.2.1.2.1 (cEok P) (p_hm h) (sx_R _ _) (sx_R _ _) (sx_R _ _)) mw_X9_set wl_L_21 hR (by decide) (by decide) rfl rfl (by simp [Value.category]) ?_
  refine l_eq C (tgt := 1148) dL_law_249 (by decide) ha.1 ?_
  exact k _ _ ha.2
theorem lc_copy {n i : Int} (C : LGood l K D ad bd P b L xs M) (h : RR n σ τ) (hR : kc ≤ 600000 ∧ ks ≤ 7302250) (h0 : 0 ≤ i) (h5 : i + 6 ≤ (L : Int)) (k : ∀ σ' τ' : Mem, RR (n + 1) σ' τ' → LG M K ad bd kc ks 1148 [(3, .int (iI i)), (2, .ref (bd 0)), (1, .ref (ad 0)), (0, .ref b)] [] σ' τ') : LG M K ad bd kc ks 254 [(3, .int (iI i)), (2, .ref (bd 0)), (1, .ref (ad 0)), (0, .ref b)] [] σ τ := by
  have ha := a_copy (a := sx xs (i + 1)) (i := sx xs (i + 2)) (b := sx xs (i + 3)) (j := sx xs (i + 4)) (m := sx xs (i + 5)) (σ := σ) (τ := τ) h
  refine l_aload_n C dL_law_254 (p := 2) rfl rfl ?_
  refine l_arg C rfl dL_law_255 rfl dL_law_256 rfl dL_law_257 dL_law_258 dL_law_259 (by omega) (by omega) ?_
  refine l_arg C rfl dL_law_260 rfl dL_law_261 rfl dL_law_262 dL_law_263 dL_law_264 (by omega) (by omega) ?_
  refine l_arg C rfl dL_law_265 rfl dL_law_266 rfl dL_law_267 dL_law_268 dL_law_269 (by omega) (by omega) ?_
  refine l_arg C rfl dL_law_270 rfl dL_law_271 rfl dL_law_272 dL_law_273 dL_law_274 (by omega) (by omega) ?_
  refine l_arg C rfl dL_law_275 rfl dL_law_276 rfl dL_law_277 dL_law_278 dL_law_279 (by omega) (by omega) ?_
  refine l_callC C dL_law_280 (kX8_copy (σ := σ) (a := sx xs (i + 1)) (i := sx xs (i + 2)) (b := sx xs (i + 3)) (j := sx xs (i + 4)) (n := sx xs (i + 5)) C.2.1.1 (cEok P) (q_hrw h) (sx_R _ _) (sx_R _ _) (sx_R _ _) (sx_R _ _) (sx_R _ _)) mw_X8_copy wl_L_22 hR (by decide) (by decide) rfl rfl (by simp [Value.category]) ?_
  refine l_aload_n C dL_law_283 (p := 1) rfl rfl ?_
  refine l_arg C rfl dL_law_284 rfl dL_law_285 rfl dL_law_286 dL_law_287 dL_law_288 (by omega) (by omega) ?_
  refine l_arg C rfl dL_law_289 rfl dL_law_290 rfl dL_law_291 dL_law_292 dL_law_293 (by omega) (by omega) ?_
  refine l_arg C rfl dL_law_294 rfl dL_law_295 rfl dL_law_296 dL_law_297 dL_law_298 (by omega) (by omega) ?_
  refine l_arg C rfl dL_law_299 rfl dL_law_300 rfl dL_law_301 dL_law_302 dL_law_303 (by omega) (by omega) ?_
  refine l_arg C rfl dL_law_304 rfl dL_law_305 rfl dL_law_306 dL_law_307 dL_law_308 (by omega) (by omega) ?_
  refine l_callM C dL_law_309 (kX9_copy (σ := τ) (a := sx xs (i + 1)) (i := sx xs (i + 2)) (b := sx xs (i + 3)) (j := sx xs (i + 4)) (n := sx xs (i + 5)) C.2.1.2.1 (cEok P) (p_hm h) (sx_R _ _) (sx_R _ _) (sx_R _ _) (sx_R _ _) (sx_R _ _)) mw_X9_copy wl_L_26 hR (by decide) (by decide) rfl rfl (by simp [Value.category]) ?_
  refine l_eq C (tgt := 1148) dL_law_312 (by decide) ha.1 ?_
  exact k _ _ ha.2
theorem lc_drop {n i : Int} (C : LGood l K D ad bd P b L xs M) (h : RR n σ τ) (hR : kc ≤ 600000 ∧ ks ≤ 7302250) (h0 : 0 ≤ i) (h5 : i + 6 ≤ (L : Int)) (k : ∀ σ' τ' : Mem, RR (n + 1) σ' τ' → LG M K ad bd kc ks 1148 [(3, .int (iI i)), (2, .ref (bd 0)), (1, .ref (ad 0)), (0, .ref b)] [] σ' τ') : LG M K ad bd kc ks 317 [(3, .int (iI i)), (2, .ref (bd 0)), (1, .ref (ad 0)), (0, .ref b)] [] σ τ := by
  have ha := a_drop (r := sx xs (i + 1)) (σ := σ) (τ := τ) h
  refine l_aload_n C dL_law_317 (p := 2) rfl rfl ?_
  refine l_arg C rfl dL_law_318 rfl dL_law_319 rfl dL_law_320 dL_law_321 dL_law_322 (by omega) (by omega) ?_
  refine l_callC C dL_law_323 (kX8_drop (σ := σ) (r := sx xs (i + 1)) C.2.1.1 (cEok P) (q_hrw h) (sx_R _ _)) mw_X8_drop wl_L_27 hR (by decide) (by decide) rfl rfl (by simp [Value.category]) ?_
  refine l_aload_n C dL_law_326 (p := 1) rfl rfl ?_
  refine l_arg C rfl dL_law_327 rfl dL_law_328 rfl dL_law_329 dL_law_330 dL_law_331 (by omega) (by omega) ?_
  refine l_callM C dL_law_332 (kX9_drop (σ := τ) (r := sx xs (i + 1)) C.2.1.2.1 (cEok P) (p_hm h) (sx_R _ _)) mw_X9_drop wl_L_31 hR (by decide) (by decide) rfl rfl (by simp [Value.category]) ?_
  refine l_eq C (tgt := 1148) dL_law_335 (by decide) ha.1 ?_
  exact k _ _ ha.2
theorem lc_feed {n i : Int} (C : LGood l K D ad bd P b L xs M) (h : RR n σ τ) (hR : kc ≤ 600000 ∧ ks ≤ 7302250) (h0 : 0 ≤ i) (h5 : i + 6 ≤ (L : Int)) (k : ∀ σ' τ' : Mem, RR (n + 1) σ' τ' → LG M K ad bd kc ks 1148 [(3, .int (iI i)), (2, .ref (bd 0)), (1, .ref (ad 0)), (0, .ref b)] [] σ' τ') : LG M K ad bd kc ks 340 [(3, .int (iI i)), (2, .ref (bd 0)), (1, .ref (ad 0)), (0, .ref b)] [] σ τ := by
  have ha := a_feed (w := oOrL (oShlL (sx xs (i + 1)) 32) (oAndL (sx xs (i + 2)) 4294967295)) (m := sx xs (i + 3)) (σ := σ) (τ := τ) h
  refine l_aload_n C dL_law_340 (p := 2) rfl rfl ?_
  refine l_arg C rfl dL_law_341 rfl dL_law_342 rfl dL_law_343 dL_law_344 dL_law_345 (by omega) (by omega) ?_
  refine l_i2l C (sx_R _ _) dL_law_346 ?_
  refine l_bipush C dL_law_347 (by decide) ?_
  refine l_lshl C dL_law_349 ?_
  refine l_arg C rfl dL_law_350 rfl dL_law_351 rfl dL_law_352 dL_law_353 dL_law_354 (by omega) (by omega) ?_
  refine l_i2l C (sx_R _ _) dL_law_355 ?_
  refine l_ldc2 C wk_L_32 (n := 4294967295) (by decide) dL_law_356 ?_
  refine l_land C dL_law_359 ?_
  refine l_lor C dL_law_360 ?_
  refine l_arg C rfl dL_law_361 rfl dL_law_362 rfl dL_law_363 dL_law_364 dL_law_365 (by omega) (by omega) ?_
  refine l_callC C dL_law_366 (kX8_feed (σ := σ) (w := oOrL (oShlL (sx xs (i + 1)) 32) (oAndL (sx xs (i + 2)) 4294967295)) (n := sx xs (i + 3)) C.2.1.1 (cEok P) (q_h31 h) (sx_R _ _)) mw_X8_feed wl_L_34 hR (by decide) (by decide) rfl rfl (by simp [Value.category]) ?_
  refine l_aload_n C dL_law_369 (p := 1) rfl rfl ?_
  refine l_arg C rfl dL_law_370 rfl dL_law_371 rfl dL_law_372 dL_law_373 dL_law_374 (by omega) (by omega) ?_
  refine l_i2l C (sx_R _ _) dL_law_375 ?_
  refine l_bipush C dL_law_376 (by decide) ?_
  refine l_lshl C dL_law_378 ?_
  refine l_arg C rfl dL_law_379 rfl dL_law_380 rfl dL_law_381 dL_law_382 dL_law_383 (by omega) (by omega) ?_
  refine l_i2l C (sx_R _ _) dL_law_384 ?_
  refine l_ldc2 C wk_L_32 (n := 4294967295) (by decide) dL_law_385 ?_
  refine l_land C dL_law_388 ?_
  refine l_lor C dL_law_389 ?_
  refine l_arg C rfl dL_law_390 rfl dL_law_391 rfl dL_law_392 dL_law_393 dL_law_394 (by omega) (by omega) ?_
  refine l_callM C dL_law_395 (kX9_feed (σ := τ) (w := oOrL (oShlL (sx xs (i + 1)) 32) (oAndL (sx xs (i + 2)) 4294967295)) (n := sx xs (i + 3)) C.2.1.2.1 (cEok P) (p_hta h) (sx_R _ _)) mw_X9_feed wl_L_38 hR (by decide) (by decide) rfl rfl (by simp [Value.category]) ?_
  refine l_eq C (tgt := 1148) dL_law_398 (by decide) ha.1 ?_
  exact k _ _ ha.2
theorem lc_town {n i : Int} (C : LGood l K D ad bd P b L xs M) (h : RR n σ τ) (hR : kc ≤ 600000 ∧ ks ≤ 7302250) (h0 : 0 ≤ i) (h5 : i + 6 ≤ (L : Int)) (k : ∀ σ' τ' : Mem, RR (n + 1) σ' τ' → LG M K ad bd kc ks 1148 [(3, .int (iI i)), (2, .ref (bd 0)), (1, .ref (ad 0)), (0, .ref b)] [] σ' τ') : LG M K ad bd kc ks 403 [(3, .int (iI i)), (2, .ref (bd 0)), (1, .ref (ad 0)), (0, .ref b)] [] σ τ := by
  have ha := a_town (σ := σ) (τ := τ) h
  refine l_aload_n C dL_law_403 (p := 2) rfl rfl ?_
  refine l_callC C dL_law_404 (kX8_town (σ := σ)  (P := P) C.2.1.1 (cEok P) (fun _ _ _ z => z) (q_hH h) (q_hH9 h) (q_hb4 h) (q_h31 h)) mw_X8_town wl_L_39 hR (by decide) (by decide) rfl rfl (by simp [Value.category]) ?_
  refine l_aload_n C dL_law_407 (p := 1) rfl rfl ?_
  refine l_callM C dL_law_408 (kX9_town (σ := τ)  C.2.1.2.1 (cEok P) (p_hb7 h) (p_hta h) (p_hfr h)) mw_X9_town wl_L_43 hR (by decide) (by decide) rfl rfl (by simp [Value.category]) ?_
  refine l_eq C (tgt := 1148) dL_law_411 (by decide) ha.1 ?_
  exact k _ _ ha.2
theorem lc_fault {n i : Int} (C : LGood l K D ad bd P b L xs M) (h : RR n σ τ) (hR : kc ≤ 600000 ∧ ks ≤ 7302250) (h0 : 0 ≤ i) (h5 : i + 6 ≤ (L : Int)) (k : ∀ σ' τ' : Mem, RR (n + 1) σ' τ' → LG M K ad bd kc ks 1148 [(3, .int (iI i)), (2, .ref (bd 0)), (1, .ref (ad 0)), (0, .ref b)] [] σ' τ') : LG M K ad bd kc ks 416 [(3, .int (iI i)), (2, .ref (bd 0)), (1, .ref (ad 0)), (0, .ref b)] [] σ τ := by
  have ha := a_fault (σ := σ) (τ := τ) h
  refine l_aload_n C dL_law_416 (p := 2) rfl rfl ?_
  refine l_callC C dL_law_417 (kX8_fault (σ := σ)  C.2.1.1 (cEok P) ) mw_X8_fault wl_L_44 hR (by decide) (by decide) rfl rfl (by simp [Value.category]) ?_
  refine l_aload_n C dL_law_420 (p := 1) rfl rfl ?_
  refine l_callM C dL_law_421 (kX9_fault (σ := τ)  C.2.1.2.1 (cEok P) ) mw_X9_fault wl_L_47 hR (by decide) (by decide) rfl rfl (by simp [Value.category]) ?_
  refine l_eq C (tgt := 1148) dL_law_424 (by decide) ha.1 ?_
  exact k _ _ ha.2
theorem lc_give {n i : Int} (C : LGood l K D ad bd P b L xs M) (h : RR n σ τ) (hR : kc ≤ 600000 ∧ ks ≤ 7302250) (h0 : 0 ≤ i) (h5 : i + 6 ≤ (L : Int)) (k : ∀ σ' τ' : Mem, RR (n + 1) σ' τ' → LG M K ad bd kc ks 1148 [(3, .int (iI i)), (2, .ref (bd 0)), (1, .ref (ad 0)), (0, .ref b)] [] σ' τ') : LG M K ad bd kc ks 429 [(3, .int (iI i)), (2, .ref (bd 0)), (1, .ref (ad 0)), (0, .ref b)] [] σ τ := by
  have ha := a_give (t := sx xs (i + 1)) (r := sx xs (i + 2)) (seed := sx xs (i + 3)) (σ := σ) (τ := τ) h
  refine l_aload_n C dL_law_429 (p := 2) rfl rfl ?_
  refine l_arg C rfl dL_law_430 rfl dL_law_431 rfl dL_law_432 dL_law_433 dL_law_434 (by omega) (by omega) ?_
  refine l_arg C rfl dL_law_435 rfl dL_law_436 rfl dL_law_437 dL_law_438 dL_law_439 (by omega) (by omega) ?_
  refine l_arg C rfl dL_law_440 rfl dL_law_441 rfl dL_law_442 dL_law_443 dL_law_444 (by omega) (by omega) ?_
  refine l_callC C dL_law_445 (kX8_give (σ := σ) (t := sx xs (i + 1)) (r := sx xs (i + 2)) (seed := sx xs (i + 3)) C.2.1.1 (cEok P) (q_hH2 h) (q_hT h) (q_hrw h) (q_hit h) (q_hho h) (q_hl h) (q_hm h) (sx_R _ _) (sx_R _ _) (sx_R _ _)) mw_X8_give wl_L_48 hR (by decide) (by decide) rfl rfl (by simp [Value.category]) ?_
  refine l_aload_n C dL_law_448 (p := 1) rfl rfl ?_
  refine l_arg C rfl dL_law_449 rfl dL_law_450 rfl dL_law_451 dL_law_452 dL_law_453 (by omega) (by omega) ?_
  refine l_arg C rfl dL_law_454 rfl dL_law_455 rfl dL_law_456 dL_law_457 dL_law_458 (by omega) (by omega) ?_
  refine l_arg C rfl dL_law_459 rfl dL_law_460 rfl dL_law_461 dL_law_462 dL_law_463 (by omega) (by omega) ?_
  refine l_callM C dL_law_464 (kX9_give (σ := τ) (t := sx xs (i + 1)) (r := sx xs (i + 2)) (seed := sx xs (i + 3)) C.2.1.2.1 (cEok P) (p_hT h) (p_hpe h) (p_hm h) (p_hit h) (p_hac h) (sx_R _ _) (sx_R _ _) (sx_R _ _)) mw_X9_give wl_L_51 hR (by decide) (by decide) rfl rfl (by simp [Value.category]) ?_
  refine l_eq C (tgt := 1148) dL_law_467 (by decide) ha.1 ?_
  exact k _ _ ha.2
theorem lc_offer {n i : Int} (C : LGood l K D ad bd P b L xs M) (h : RR n σ τ) (hR : kc ≤ 600000 ∧ ks ≤ 7302250) (h0 : 0 ≤ i) (h5 : i + 6 ≤ (L : Int)) (k : ∀ σ' τ' : Mem, RR (n + 1) σ' τ' → LG M K ad bd kc ks 1148 [(3, .int (iI i)), (2, .ref (bd 0)), (1, .ref (ad 0)), (0, .ref b)] [] σ' τ') : LG M K ad bd kc ks 472 [(3, .int (iI i)), (2, .ref (bd 0)), (1, .ref (ad 0)), (0, .ref b)] [] σ τ := by
  have ha := a_offer (t := sx xs (i + 1)) (seed := sx xs (i + 2)) (σ := σ) (τ := τ) h
  refine l_aload_n C dL_law_472 (p := 2) rfl rfl ?_
  refine l_arg C rfl dL_law_473 rfl dL_law_474 rfl dL_law_475 dL_law_476 dL_law_477 (by omega) (by omega) ?_
  refine l_arg C rfl dL_law_478 rfl dL_law_479 rfl dL_law_480 dL_law_481 dL_law_482 (by omega) (by omega) ?_
  refine l_callC C dL_law_483 (kX8_offer (σ := σ) (t := sx xs (i + 1)) (seed := sx xs (i + 2)) C.2.1.1 (cEok P) (q_hH2 h) (q_hT h) (q_hho h) (q_hl h) (q_hm h) (sx_R _ _) (sx_R _ _)) mw_X8_offer wl_L_52 hR (by decide) (by decide) rfl rfl (by simp [Value.category]) ?_
  refine l_aload_n C dL_law_486 (p := 1) rfl rfl ?_
  refine l_arg C rfl dL_law_487 rfl dL_law_488 rfl dL_law_489 dL_law_490 dL_law_491 (by omega) (by omega) ?_
  refine l_arg C rfl dL_law_492 rfl dL_law_493 rfl dL_law_494 dL_law_495 dL_law_496 (by omega) (by omega) ?_
  refine l_callM C dL_law_497 (kX9_offer (σ := τ) (t := sx xs (i + 1)) (seed := sx xs (i + 2)) C.2.1.2.1 (cEok P) (p_hT h) (p_hpe h) (p_hac h) (sx_R _ _) (sx_R _ _)) mw_X9_offer wl_L_56 hR (by decide) (by decide) rfl rfl (by simp [Value.category]) ?_
  refine l_eq C (tgt := 1148) dL_law_500 (by decide) ha.1 ?_
  exact k _ _ ha.2
theorem lc_back {n i : Int} (C : LGood l K D ad bd P b L xs M) (h : RR n σ τ) (hR : kc ≤ 600000 ∧ ks ≤ 7302250) (hn : n < 600) (h0 : 0 ≤ i) (h5 : i + 6 ≤ (L : Int)) (k : ∀ σ' τ' : Mem, RR (n + 1) σ' τ' → LG M K ad bd kc ks 1148 [(3, .int (iI i)), (2, .ref (bd 0)), (1, .ref (ad 0)), (0, .ref b)] [] σ' τ') : LG M K ad bd kc ks 505 [(3, .int (iI i)), (2, .ref (bd 0)), (1, .ref (ad 0)), (0, .ref b)] [] σ τ := by
  have ha := a_back (t := sx xs (i + 1)) (σ := σ) (τ := τ) h hn
  refine l_aload_n C dL_law_505 (p := 2) rfl rfl ?_
  refine l_arg C rfl dL_law_506 rfl dL_law_507 rfl dL_law_508 dL_law_509 dL_law_510 (by omega) (by omega) ?_
  refine l_callC C dL_law_511 (kX8_back (σ := σ) (t := sx xs (i + 1)) C.2.1.1 (cEok P) (q_hH2 h) (q_hT h) (q_hho h) (q_hl h) (q_hm h) (sx_R _ _)) mw_X8_back wl_L_57 hR (by decide) (by decide) rfl rfl (by simp [Value.category]) ?_
  refine l_aload_n C dL_law_514 (p := 1) rfl rfl ?_
  refine l_arg C rfl dL_law_515 rfl dL_law_516 rfl dL_law_517 dL_law_518 dL_law_519 (by omega) (by omega) ?_
  refine l_callM C dL_law_520 (kX9_back (σ := τ) (t := sx xs (i + 1)) C.2.1.2.1 (cEok P) (p_hT h) (p_hac h) (sx_R _ _)) mw_X9_back wl_L_60 hR (by decide) (by decide) rfl rfl (by simp [Value.category]) ?_
  refine l_eq C (tgt := 1148) dL_law_523 (by decide) ha.1 ?_
  exact k _ _ ha.2
end LC
