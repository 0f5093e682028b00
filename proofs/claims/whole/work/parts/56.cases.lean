/-! THE LAW'S CASES -/
section CASES
variable {X : CX} {G : Ge} {n0 n1 : Nat} {Q : State → Prop} {b L : Nat} {xs : Nat → Int32} {σ : St}
theorem lc_type (hO : LO X G b L xs) (hc : n0 ≤ 600000 ∧ n1 ≤ 7302249) (hL : L ≤ 3584) (hI : Inv σ) {i : Nat} (hi : i + 7 ≤ L) (kk : ∀ σ', Inv σ' → LA X G n0 n1 Q 1425 (lvs G b i) [] σ') : LA X G n0 n1 Q 192 (lvs G b i) [] σ := by
  obtain ⟨r, σ1, σ2, e1, e2, hI2⟩ := b_type hI (xz_32 (xs := xs) (i := i + 1)) (xz_32 (xs := xs) (i := i + 2))
  refine la_obj hO 2 (i := 1) rfl rfl dL_law_192 ?_
  refine la_arg hO hL 1 (by omega) dL_law_193 dL_law_194 dL_law_195 dL_law_196 dL_law_197 ?_
  refine la_arg hO hL 2 (by omega) dL_law_198 dL_law_199 dL_law_200 dL_law_201 dL_law_202 ?_
  refine la_call hO hc (c_X8_type X.2.1 G hO.g σ (xz xs (i + 1)) (xz xs (i + 2))) mb_X8_type mi_X8_type lk_L_13 (k0 := 0) rfl ⟨_, rfl, rfl⟩ rfl (by decide) (by decide) rfl dL_law_203 e1 ?_
  refine la_obj hO 1 (i := 2) rfl rfl dL_law_206 ?_
  refine la_arg hO hL 1 (by omega) dL_law_207 dL_law_208 dL_law_209 dL_law_210 dL_law_211 ?_
  refine la_arg hO hL 2 (by omega) dL_law_212 dL_law_213 dL_law_214 dL_law_215 dL_law_216 ?_
  refine la_call hO hc (c_X9_type X.2.1 G hO.g σ1 (xz xs (i + 1)) (xz xs (i + 2))) mb_X9_type mi_X9_type lk_L_17 (k0 := 58) rfl ⟨_, rfl, rfl⟩ rfl (by decide) (by first | decide | simp [rr_rv, Value.category]) rfl dL_law_217 e2 ?_
  exact la_eqI hO dL_law_220 1425 rfl (kk σ2 hI2)
theorem lc_undo (hO : LO X G b L xs) (hc : n0 ≤ 600000 ∧ n1 ≤ 7302249) (hL : L ≤ 3584) (hI : Inv σ) {i : Nat} (hi : i + 7 ≤ L) (kk : ∀ σ', Inv σ' → LA X G n0 n1 Q 1425 (lvs G b i) [] σ') : LA X G n0 n1 Q 225 (lvs G b i) [] σ := by
  obtain ⟨r, σ1, σ2, e1, e2, hI2⟩ := b_undo hI (xz_32 (xs := xs) (i := i + 1))
  refine la_obj hO 2 (i := 1) rfl rfl dL_law_225 ?_
  refine la_arg hO hL 1 (by omega) dL_law_226 dL_law_227 dL_law_228 dL_law_229 dL_law_230 ?_
  refine la_call hO hc (c_X8_undo X.2.1 G hO.g σ (xz xs (i + 1))) mb_X8_undo mi_X8_undo lk_L_18 (k0 := 0) rfl ⟨_, rfl, rfl⟩ rfl (by decide) (by decide) rfl dL_law_231 e1 ?_
  refine la_obj hO 1 (i := 2) rfl rfl dL_law_234 ?_
  refine la_arg hO hL 1 (by omega) dL_law_235 dL_law_236 dL_law_237 dL_law_238 dL_law_239 ?_
  refine la_call hO hc (c_X9_undo X.2.1 G hO.g σ1 (xz xs (i + 1))) mb_X9_undo mi_X9_undo lk_L_22 (k0 := 58) rfl ⟨_, rfl, rfl⟩ rfl (by decide) (by first | decide | simp [rr_rv, Value.category]) rfl dL_law_240 e2 ?_
  exact la_eqI hO dL_law_243 1425 rfl (kk σ2 hI2)
theorem lc_wipe (hO : LO X G b L xs) (hc : n0 ≤ 600000 ∧ n1 ≤ 7302249) (hL : L ≤ 3584) (hI : Inv σ) {i : Nat} (hi : i + 7 ≤ L) (kk : ∀ σ', Inv σ' → LA X G n0 n1 Q 1425 (lvs G b i) [] σ') : LA X G n0 n1 Q 248 (lvs G b i) [] σ := by
  obtain ⟨r, σ1, σ2, e1, e2, hI2⟩ := b_wipe hI (xz_32 (xs := xs) (i := i + 1))
  refine la_obj hO 2 (i := 1) rfl rfl dL_law_248 ?_
  refine la_arg hO hL 1 (by omega) dL_law_249 dL_law_250 dL_law_251 dL_law_252 dL_law_253 ?_
  refine la_call hO hc (c_X8_wipe X.2.1 G hO.g σ (xz xs (i + 1))) mb_X8_wipe mi_X8_wipe lk_L_23 (k0 := 0) rfl ⟨_, rfl, rfl⟩ rfl (by decide) (by decide) rfl dL_law_254 e1 ?_
  refine la_obj hO 1 (i := 2) rfl rfl dL_law_257 ?_
  refine la_arg hO hL 1 (by omega) dL_law_258 dL_law_259 dL_law_260 dL_law_261 dL_law_262 ?_
  refine la_call hO hc (c_X9_wipe X.2.1 G hO.g σ1 (xz xs (i + 1))) mb_X9_wipe mi_X9_wipe lk_L_26 (k0 := 58) rfl ⟨_, rfl, rfl⟩ rfl (by decide) (by first | decide | simp [rr_rv, Value.category]) rfl dL_law_263 e2 ?_
  exact la_eqI hO dL_law_266 1425 rfl (kk σ2 hI2)
theorem lc_fault (hO : LO X G b L xs) (hc : n0 ≤ 600000 ∧ n1 ≤ 7302249) (hL : L ≤ 3584) (hI : Inv σ) {i : Nat} (hi : i + 7 ≤ L) (kk : ∀ σ', Inv σ' → LA X G n0 n1 Q 1425 (lvs G b i) [] σ') : LA X G n0 n1 Q 271 (lvs G b i) [] σ := by
  obtain ⟨r, σ1, σ2, e1, e2, hI2⟩ := b_fault hI (xz_32 (xs := xs) (i := i + 1))
  refine la_obj hO 2 (i := 1) rfl rfl dL_law_271 ?_
  refine la_arg hO hL 1 (by omega) dL_law_272 dL_law_273 dL_law_274 dL_law_275 dL_law_276 ?_
  refine la_call hO hc (c_X8_fault X.2.1 G hO.g σ (xz xs (i + 1))) mb_X8_fault mi_X8_fault lk_L_27 (k0 := 0) rfl ⟨_, rfl, rfl⟩ rfl (by decide) (by decide) rfl dL_law_277 e1 ?_
  refine la_obj hO 1 (i := 2) rfl rfl dL_law_280 ?_
  refine la_arg hO hL 1 (by omega) dL_law_281 dL_law_282 dL_law_283 dL_law_284 dL_law_285 ?_
  refine la_call hO hc (c_X9_fault X.2.1 G hO.g σ1 (xz xs (i + 1))) mb_X9_fault mi_X9_fault lk_L_30 (k0 := 58) rfl ⟨_, rfl, rfl⟩ rfl (by decide) (by first | decide | simp [rr_rv, Value.category]) rfl dL_law_286 e2 ?_
  exact la_eqI hO dL_law_289 1425 rfl (kk σ2 hI2)
theorem lc_height (hO : LO X G b L xs) (hc : n0 ≤ 600000 ∧ n1 ≤ 7302249) (hL : L ≤ 3584) (hI : Inv σ) {i : Nat} (hi : i + 7 ≤ L) (kk : ∀ σ', Inv σ' → LA X G n0 n1 Q 1425 (lvs G b i) [] σ') : LA X G n0 n1 Q 294 (lvs G b i) [] σ := by
  obtain ⟨r, σ1, σ2, e1, e2, hI2⟩ := b_height hI (xz_32 (xs := xs) (i := i + 1))
  refine la_obj hO 2 (i := 1) rfl rfl dL_law_294 ?_
  refine la_arg hO hL 1 (by omega) dL_law_295 dL_law_296 dL_law_297 dL_law_298 dL_law_299 ?_
  refine la_call hO hc (c_X8_height X.2.1 G hO.g σ (xz xs (i + 1))) mb_X8_height mi_X8_height lk_L_31 (k0 := 0) rfl ⟨_, rfl, rfl⟩ rfl (by decide) (by decide) rfl dL_law_300 e1 ?_
  refine la_obj hO 1 (i := 2) rfl rfl dL_law_303 ?_
  refine la_arg hO hL 1 (by omega) dL_law_304 dL_law_305 dL_law_306 dL_law_307 dL_law_308 ?_
  refine la_call hO hc (c_X9_height X.2.1 G hO.g σ1 (xz xs (i + 1))) mb_X9_height mi_X9_height lk_L_34 (k0 := 58) rfl ⟨_, rfl, rfl⟩ rfl (by decide) (by first | decide | simp [rr_rv, Value.category]) rfl dL_law_309 e2 ?_
  exact la_eqI hO dL_law_312 1425 rfl (kk σ2 hI2)
theorem lc_level (hO : LO X G b L xs) (hc : n0 ≤ 600000 ∧ n1 ≤ 7302249) (hL : L ≤ 3584) (hI : Inv σ) {i : Nat} (hi : i + 7 ≤ L) (kk : ∀ σ', Inv σ' → LA X G n0 n1 Q 1425 (lvs G b i) [] σ') : LA X G n0 n1 Q 317 (lvs G b i) [] σ := by
  obtain ⟨r, σ1, σ2, e1, e2, hI2⟩ := b_level hI (xz_32 (xs := xs) (i := i + 1)) (xz_32 (xs := xs) (i := i + 2))
  refine la_obj hO 2 (i := 1) rfl rfl dL_law_317 ?_
  refine la_arg hO hL 1 (by omega) dL_law_318 dL_law_319 dL_law_320 dL_law_321 dL_law_322 ?_
  refine la_arg hO hL 2 (by omega) dL_law_323 dL_law_324 dL_law_325 dL_law_326 dL_law_327 ?_
  refine la_call hO hc (c_X8_level X.2.1 G hO.g σ (xz xs (i + 1)) (xz xs (i + 2))) mb_X8_level mi_X8_level lk_L_35 (k0 := 0) rfl ⟨_, rfl, rfl⟩ rfl (by decide) (by decide) rfl dL_law_328 e1 ?_
  refine la_obj hO 1 (i := 2) rfl rfl dL_law_331 ?_
  refine la_arg hO hL 1 (by omega) dL_law_332 dL_law_333 dL_law_334 dL_law_335 dL_law_336 ?_
  refine la_arg hO hL 2 (by omega) dL_law_337 dL_law_338 dL_law_339 dL_law_340 dL_law_341 ?_
  refine la_call hO hc (c_X9_level X.2.1 G hO.g σ1 (xz xs (i + 1)) (xz xs (i + 2))) mb_X9_level mi_X9_level lk_L_38 (k0 := 58) rfl ⟨_, rfl, rfl⟩ rfl (by decide) (by first | decide | simp [rr_rv, Value.category]) rfl dL_law_342 e2 ?_
  exact la_eqI hO dL_law_345 1425 rfl (kk σ2 hI2)
theorem lc_set (hO : LO X G b L xs) (hc : n0 ≤ 600000 ∧ n1 ≤ 7302249) (hL : L ≤ 3584) (hI : Inv σ) {i : Nat} (hi : i + 7 ≤ L) (kk : ∀ σ', Inv σ' → LA X G n0 n1 Q 1425 (lvs G b i) [] σ') : LA X G n0 n1 Q 350 (lvs G b i) [] σ := by
  obtain ⟨r, σ1, σ2, e1, e2, hI2⟩ := b_set hI (xz_32 (xs := xs) (i := i + 1)) (xz_32 (xs := xs) (i := i + 2))
  refine la_obj hO 2 (i := 1) rfl rfl dL_law_350 ?_
  refine la_arg hO hL 1 (by omega) dL_law_351 dL_law_352 dL_law_353 dL_law_354 dL_law_355 ?_
  refine la_arg hO hL 2 (by omega) dL_law_356 dL_law_357 dL_law_358 dL_law_359 dL_law_360 ?_
  refine la_call hO hc (c_X8_set X.2.1 G hO.g σ (xz xs (i + 1)) (xz xs (i + 2))) mb_X8_set mi_X8_set lk_L_39 (k0 := 0) rfl ⟨_, rfl, rfl⟩ rfl (by decide) (by decide) rfl dL_law_361 e1 ?_
  refine la_obj hO 1 (i := 2) rfl rfl dL_law_364 ?_
  refine la_arg hO hL 1 (by omega) dL_law_365 dL_law_366 dL_law_367 dL_law_368 dL_law_369 ?_
  refine la_arg hO hL 2 (by omega) dL_law_370 dL_law_371 dL_law_372 dL_law_373 dL_law_374 ?_
  refine la_call hO hc (c_X9_set X.2.1 G hO.g σ1 (xz xs (i + 1)) (xz xs (i + 2))) mb_X9_set mi_X9_set lk_L_42 (k0 := 58) rfl ⟨_, rfl, rfl⟩ rfl (by decide) (by first | decide | simp [rr_rv, Value.category]) rfl dL_law_375 e2 ?_
  exact la_eqI hO dL_law_378 1425 rfl (kk σ2 hI2)
theorem lc_odds (hO : LO X G b L xs) (hc : n0 ≤ 600000 ∧ n1 ≤ 7302249) (hL : L ≤ 3584) (hI : Inv σ) {i : Nat} (hi : i + 7 ≤ L) (kk : ∀ σ', Inv σ' → LA X G n0 n1 Q 1425 (lvs G b i) [] σ') : LA X G n0 n1 Q 383 (lvs G b i) [] σ := by
  obtain ⟨r, σ1, σ2, e1, e2, hI2⟩ := b_odds hI (xz_32 (xs := xs) (i := i + 1)) (xz_32 (xs := xs) (i := i + 2))
  refine la_obj hO 2 (i := 1) rfl rfl dL_law_383 ?_
  refine la_arg hO hL 1 (by omega) dL_law_384 dL_law_385 dL_law_386 dL_law_387 dL_law_388 ?_
  refine la_arg hO hL 2 (by omega) dL_law_389 dL_law_390 dL_law_391 dL_law_392 dL_law_393 ?_
  refine la_call hO hc (c_X8_odds X.2.1 G hO.g σ (xz xs (i + 1)) (xz xs (i + 2))) mb_X8_odds mi_X8_odds lk_L_43 (k0 := 0) rfl ⟨_, rfl, rfl⟩ rfl (by decide) (by decide) rfl dL_law_394 e1 ?_
  refine la_obj hO 1 (i := 2) rfl rfl dL_law_397 ?_
  refine la_arg hO hL 1 (by omega) dL_law_398 dL_law_399 dL_law_400 dL_law_401 dL_law_402 ?_
  refine la_arg hO hL 2 (by omega) dL_law_403 dL_law_404 dL_law_405 dL_law_406 dL_law_407 ?_
  refine la_call hO hc (c_X9_odds X.2.1 G hO.g σ1 (xz xs (i + 1)) (xz xs (i + 2))) mb_X9_odds mi_X9_odds lk_L_46 (k0 := 58) rfl ⟨_, rfl, rfl⟩ rfl (by decide) (by first | decide | simp [rr_rv, Value.category]) rfl dL_law_408 e2 ?_
  exact la_eqI hO dL_law_411 1425 rfl (kk σ2 hI2)
theorem lc_dike (hO : LO X G b L xs) (hc : n0 ≤ 600000 ∧ n1 ≤ 7302249) (hL : L ≤ 3584) (hI : Inv σ) {i : Nat} (hi : i + 7 ≤ L) (kk : ∀ σ', Inv σ' → LA X G n0 n1 Q 1425 (lvs G b i) [] σ') : LA X G n0 n1 Q 416 (lvs G b i) [] σ := by
  obtain ⟨r, σ1, σ2, e1, e2, hI2⟩ := b_dike hI (xz_32 (xs := xs) (i := i + 1)) (xz_32 (xs := xs) (i := i + 2)) (xz_32 (xs := xs) (i := i + 3))
  refine la_obj hO 2 (i := 1) rfl rfl dL_law_416 ?_
  refine la_arg hO hL 1 (by omega) dL_law_417 dL_law_418 dL_law_419 dL_law_420 dL_law_421 ?_
  refine la_arg hO hL 2 (by omega) dL_law_422 dL_law_423 dL_law_424 dL_law_425 dL_law_426 ?_
  refine la_arg hO hL 3 (by omega) dL_law_427 dL_law_428 dL_law_429 dL_law_430 dL_law_431 ?_
  refine la_call hO hc (c_X8_dike X.2.1 G hO.g σ (xz xs (i + 1)) (xz xs (i + 2)) (xz xs (i + 3))) mb_X8_dike mi_X8_dike lk_L_47 (k0 := 0) rfl ⟨_, rfl, rfl⟩ rfl (by decide) (by decide) rfl dL_law_432 e1 ?_
  refine la_obj hO 1 (i := 2) rfl rfl dL_law_435 ?_
  refine la_arg hO hL 1 (by omega) dL_law_436 dL_law_437 dL_law_438 dL_law_439 dL_law_440 ?_
  refine la_arg hO hL 2 (by omega) dL_law_441 dL_law_442 dL_law_443 dL_law_444 dL_law_445 ?_
  refine la_arg hO hL 3 (by omega) dL_law_446 dL_law_447 dL_law_448 dL_law_449 dL_law_450 ?_
  refine la_call hO hc (c_X9_dike X.2.1 G hO.g σ1 (xz xs (i + 1)) (xz xs (i + 2)) (xz xs (i + 3))) mb_X9_dike mi_X9_dike lk_L_51 (k0 := 58) rfl ⟨_, rfl, rfl⟩ rfl (by decide) (by first | decide | simp [rr_rv, Value.category]) rfl dL_law_451 e2 ?_
  exact la_eqI hO dL_law_454 1425 rfl (kk σ2 hI2)
theorem lc_read (hO : LO X G b L xs) (hc : n0 ≤ 600000 ∧ n1 ≤ 7302249) (hL : L ≤ 3584) (hI : Inv σ) {i : Nat} (hi : i + 7 ≤ L) (kk : ∀ σ', Inv σ' → LA X G n0 n1 Q 1425 (lvs G b i) [] σ') : LA X G n0 n1 Q 459 (lvs G b i) [] σ := by
  obtain ⟨r, σ1, σ2, e1, e2, hI2⟩ := b_read hI (xz_32 (xs := xs) (i := i + 1))
  refine la_obj hO 2 (i := 1) rfl rfl dL_law_459 ?_
  refine la_arg hO hL 1 (by omega) dL_law_460 dL_law_461 dL_law_462 dL_law_463 dL_law_464 ?_
  refine la_call hO hc (c_X8_read X.2.1 G hO.g σ (xz xs (i + 1))) mb_X8_read mi_X8_read lk_L_52 (k0 := 0) rfl ⟨_, rfl, rfl⟩ rfl (by decide) (by decide) rfl dL_law_465 e1 ?_
  refine la_obj hO 1 (i := 2) rfl rfl dL_law_468 ?_
  refine la_arg hO hL 1 (by omega) dL_law_469 dL_law_470 dL_law_471 dL_law_472 dL_law_473 ?_
  refine la_call hO hc (c_X9_read X.2.1 G hO.g σ1 (xz xs (i + 1))) mb_X9_read mi_X9_read lk_L_55 (k0 := 58) rfl ⟨_, rfl, rfl⟩ rfl (by decide) (by first | decide | simp [rr_rv, Value.category]) rfl dL_law_474 e2 ?_
  exact la_eqI hO dL_law_477 1425 rfl (kk σ2 hI2)
theorem lc_breaks (hO : LO X G b L xs) (hc : n0 ≤ 600000 ∧ n1 ≤ 7302249) (hL : L ≤ 3584) (hI : Inv σ) {i : Nat} (hi : i + 7 ≤ L) (kk : ∀ σ', Inv σ' → LA X G n0 n1 Q 1425 (lvs G b i) [] σ') : LA X G n0 n1 Q 482 (lvs G b i) [] σ := by
  obtain ⟨r, σ1, σ2, e1, e2, hI2⟩ := b_breaks hI 
  refine la_obj hO 2 (i := 1) rfl rfl dL_law_482 ?_
  refine la_call hO hc (c_X8_breaks X.2.1 G hO.g σ ) mb_X8_breaks mi_X8_breaks lk_L_56 (k0 := 0) rfl ⟨_, rfl, rfl⟩ rfl (by decide) (by decide) rfl dL_law_483 e1 ?_
  refine la_obj hO 1 (i := 2) rfl rfl dL_law_486 ?_
  refine la_call hO hc (c_X9_breaks X.2.1 G hO.g σ1 ) mb_X9_breaks mi_X9_breaks lk_L_60 (k0 := 58) rfl ⟨_, rfl, rfl⟩ rfl (by decide) (by first | decide | simp [rr_rv, Value.category]) rfl dL_law_487 e2 ?_
  exact la_eqI hO dL_law_490 1425 rfl (kk σ2 hI2)
theorem lc_possession (hO : LO X G b L xs) (hc : n0 ≤ 600000 ∧ n1 ≤ 7302249) (hL : L ≤ 3584) (hI : Inv σ) {i : Nat} (hi : i + 7 ≤ L) (kk : ∀ σ', Inv σ' → LA X G n0 n1 Q 1425 (lvs G b i) [] σ') : LA X G n0 n1 Q 495 (lvs G b i) [] σ := by
  obtain ⟨r, σ1, σ2, e1, e2, hI2⟩ := b_possession hI (xz_32 (xs := xs) (i := i + 1))
  refine la_obj hO 2 (i := 1) rfl rfl dL_law_495 ?_
  refine la_arg hO hL 1 (by omega) dL_law_496 dL_law_497 dL_law_498 dL_law_499 dL_law_500 ?_
  refine la_call hO hc (c_X8_possession X.2.1 G hO.g σ (xz xs (i + 1))) mb_X8_possession mi_X8_possession lk_L_61 (k0 := 0) rfl ⟨_, rfl, rfl⟩ rfl (by decide) (by decide) rfl dL_law_501 e1 ?_
  refine la_obj hO 1 (i := 2) rfl rfl dL_law_504 ?_
  refine la_arg hO hL 1 (by omega) dL_law_505 dL_law_506 dL_law_507 dL_law_508 dL_law_509 ?_
  refine la_call hO hc (c_X9_possession X.2.1 G hO.g σ1 (xz xs (i + 1))) mb_X9_possession mi_X9_possession lk_L_64 (k0 := 58) rfl ⟨_, rfl, rfl⟩ rfl (by decide) (by first | decide | simp [rr_rv, Value.category]) rfl dL_law_510 e2 ?_
  exact la_eqI hO dL_law_513 1425 rfl (kk σ2 hI2)
theorem lc_wet (hO : LO X G b L xs) (hc : n0 ≤ 600000 ∧ n1 ≤ 7302249) (hL : L ≤ 3584) (hI : Inv σ) {i : Nat} (hi : i + 7 ≤ L) (kk : ∀ σ', Inv σ' → LA X G n0 n1 Q 1425 (lvs G b i) [] σ') : LA X G n0 n1 Q 518 (lvs G b i) [] σ := by
  obtain ⟨r, σ1, σ2, e1, e2, hI2⟩ := b_wet hI (xz_32 (xs := xs) (i := i + 1)) (xz_32 (xs := xs) (i := i + 2)) (xz_32 (xs := xs) (i := i + 3))
  refine la_obj hO 2 (i := 1) rfl rfl dL_law_518 ?_
  refine la_arg hO hL 1 (by omega) dL_law_519 dL_law_520 dL_law_521 dL_law_522 dL_law_523 ?_
  refine la_arg hO hL 2 (by omega) dL_law_524 dL_law_525 dL_law_526 dL_law_527 dL_law_528 ?_
  refine la_arg hO hL 3 (by omega) dL_law_529 dL_law_530 dL_law_531 dL_law_532 dL_law_533 ?_
  refine la_call hO hc (c_X8_wet X.2.1 G hO.g σ (xz xs (i + 1)) (xz xs (i + 2)) (xz xs (i + 3))) mb_X8_wet mi_X8_wet lk_L_65 (k0 := 0) rfl ⟨_, rfl, rfl⟩ rfl (by decide) (by decide) rfl dL_law_534 e1 ?_
  refine la_obj hO 1 (i := 2) rfl rfl dL_law_537 ?_
  refine la_arg hO hL 1 (by omega) dL_law_538 dL_law_539 dL_law_540 dL_law_541 dL_law_542 ?_
  refine la_arg hO hL 2 (by omega) dL_law_543 dL_law_544 dL_law_545 dL_law_546 dL_law_547 ?_
  refine la_arg hO hL 3 (by omega) dL_law_548 dL_law_549 dL_law_550 dL_law_551 dL_law_552 ?_
  refine la_call hO hc (c_X9_wet X.2.1 G hO.g σ1 (xz xs (i + 1)) (xz xs (i + 2)) (xz xs (i + 3))) mb_X9_wet mi_X9_wet lk_L_68 (k0 := 58) rfl ⟨_, rfl, rfl⟩ rfl (by decide) (by first | decide | simp [rr_rv, Value.category]) rfl dL_law_553 e2 ?_
  exact la_eqI hO dL_law_556 1425 rfl (kk σ2 hI2)
theorem lc_water (hO : LO X G b L xs) (hc : n0 ≤ 600000 ∧ n1 ≤ 7302249) (hL : L ≤ 3584) (hI : Inv σ) {i : Nat} (hi : i + 7 ≤ L) (kk : ∀ σ', Inv σ' → LA X G n0 n1 Q 1425 (lvs G b i) [] σ') : LA X G n0 n1 Q 561 (lvs G b i) [] σ := by
  obtain ⟨r, σ1, σ2, e1, e2, hI2⟩ := b_water hI (xz_32 (xs := xs) (i := i + 1)) (xz_32 (xs := xs) (i := i + 2)) (xz_32 (xs := xs) (i := i + 3))
  refine la_obj hO 2 (i := 1) rfl rfl dL_law_561 ?_
  refine la_arg hO hL 1 (by omega) dL_law_562 dL_law_563 dL_law_564 dL_law_565 dL_law_566 ?_
  refine la_arg hO hL 2 (by omega) dL_law_567 dL_law_568 dL_law_569 dL_law_570 dL_law_571 ?_
  refine la_arg hO hL 3 (by omega) dL_law_572 dL_law_573 dL_law_574 dL_law_575 dL_law_576 ?_
  refine la_call hO hc (c_X8_water X.2.1 G hO.g σ (xz xs (i + 1)) (xz xs (i + 2)) (xz xs (i + 3))) mb_X8_water mi_X8_water lk_L_69 (k0 := 0) rfl ⟨_, rfl, rfl⟩ rfl (by decide) (by decide) rfl dL_law_577 e1 ?_
  refine la_obj hO 1 (i := 2) rfl rfl dL_law_580 ?_
  refine la_arg hO hL 1 (by omega) dL_law_581 dL_law_582 dL_law_583 dL_law_584 dL_law_585 ?_
  refine la_arg hO hL 2 (by omega) dL_law_586 dL_law_587 dL_law_588 dL_law_589 dL_law_590 ?_
  refine la_arg hO hL 3 (by omega) dL_law_591 dL_law_592 dL_law_593 dL_law_594 dL_law_595 ?_
  refine la_call hO hc (c_X9_water X.2.1 G hO.g σ1 (xz xs (i + 1)) (xz xs (i + 2)) (xz xs (i + 3))) mb_X9_water mi_X9_water lk_L_72 (k0 := 58) rfl ⟨_, rfl, rfl⟩ rfl (by decide) (by first | decide | simp [rr_rv, Value.category]) rfl dL_law_596 e2 ?_
  exact la_eqI hO dL_law_599 1425 rfl (kk σ2 hI2)
theorem lc_cost (hO : LO X G b L xs) (hc : n0 ≤ 600000 ∧ n1 ≤ 7302249) (hL : L ≤ 3584) (hI : Inv σ) {i : Nat} (hi : i + 7 ≤ L) (kk : ∀ σ', Inv σ' → LA X G n0 n1 Q 1425 (lvs G b i) [] σ') : LA X G n0 n1 Q 604 (lvs G b i) [] σ := by
  obtain ⟨r, σ1, σ2, e1, e2, hI2⟩ := b_cost hI (xz_32 (xs := xs) (i := i + 1)) (xz_32 (xs := xs) (i := i + 2)) (xz_32 (xs := xs) (i := i + 3)) (xz_32 (xs := xs) (i := i + 4)) (xz_32 (xs := xs) (i := i + 5))
  refine la_obj hO 2 (i := 1) rfl rfl dL_law_604 ?_
  refine la_arg hO hL 1 (by omega) dL_law_605 dL_law_606 dL_law_607 dL_law_608 dL_law_609 ?_
  refine la_arg hO hL 2 (by omega) dL_law_610 dL_law_611 dL_law_612 dL_law_613 dL_law_614 ?_
  refine la_arg hO hL 3 (by omega) dL_law_615 dL_law_616 dL_law_617 dL_law_618 dL_law_619 ?_
  refine la_arg hO hL 4 (by omega) dL_law_620 dL_law_621 dL_law_622 dL_law_623 dL_law_624 ?_
  refine la_arg hO hL 5 (by omega) dL_law_625 dL_law_626 dL_law_627 dL_law_628 dL_law_629 ?_
  refine la_call hO hc (c_X8_cost X.2.1 G hO.g σ (xz xs (i + 1)) (xz xs (i + 2)) (xz xs (i + 3)) (xz xs (i + 4)) (xz xs (i + 5))) mb_X8_cost mi_X8_cost lk_L_73 (k0 := 0) rfl ⟨_, rfl, rfl⟩ rfl (by decide) (by decide) rfl dL_law_630 e1 ?_
  refine la_obj hO 1 (i := 2) rfl rfl dL_law_633 ?_
  refine la_arg hO hL 1 (by omega) dL_law_634 dL_law_635 dL_law_636 dL_law_637 dL_law_638 ?_
  refine la_arg hO hL 2 (by omega) dL_law_639 dL_law_640 dL_law_641 dL_law_642 dL_law_643 ?_
  refine la_arg hO hL 3 (by omega) dL_law_644 dL_law_645 dL_law_646 dL_law_647 dL_law_648 ?_
  refine la_arg hO hL 4 (by omega) dL_law_649 dL_law_650 dL_law_651 dL_law_652 dL_law_653 ?_
  refine la_arg hO hL 5 (by omega) dL_law_654 dL_law_655 dL_law_656 dL_law_657 dL_law_658 ?_
  refine la_call hO hc (c_X9_cost X.2.1 G hO.g σ1 (xz xs (i + 1)) (xz xs (i + 2)) (xz xs (i + 3)) (xz xs (i + 4)) (xz xs (i + 5))) mb_X9_cost mi_X9_cost lk_L_77 (k0 := 58) rfl ⟨_, rfl, rfl⟩ rfl (by decide) (by first | decide | simp [rr_rv, Value.category]) rfl dL_law_659 e2 ?_
  exact la_eqI hO dL_law_662 1425 rfl (kk σ2 hI2)
theorem lc_closed (hO : LO X G b L xs) (hc : n0 ≤ 600000 ∧ n1 ≤ 7302249) (hL : L ≤ 3584) (hI : Inv σ) {i : Nat} (hi : i + 7 ≤ L) (kk : ∀ σ', Inv σ' → LA X G n0 n1 Q 1425 (lvs G b i) [] σ') : LA X G n0 n1 Q 667 (lvs G b i) [] σ := by
  obtain ⟨r, σ1, σ2, e1, e2, hI2⟩ := b_closed hI (xz_32 (xs := xs) (i := i + 1)) (xz_32 (xs := xs) (i := i + 2))
  refine la_obj hO 2 (i := 1) rfl rfl dL_law_667 ?_
  refine la_arg hO hL 1 (by omega) dL_law_668 dL_law_669 dL_law_670 dL_law_671 dL_law_672 ?_
  refine la_arg hO hL 2 (by omega) dL_law_673 dL_law_674 dL_law_675 dL_law_676 dL_law_677 ?_
  refine la_call hO hc (c_X8_closed X.2.1 G hO.g σ (xz xs (i + 1)) (xz xs (i + 2))) mb_X8_closed mi_X8_closed lk_L_78 (k0 := 0) rfl ⟨_, rfl, rfl⟩ rfl (by decide) (by decide) rfl dL_law_678 e1 ?_
  refine la_obj hO 1 (i := 2) rfl rfl dL_law_681 ?_
  refine la_arg hO hL 1 (by omega) dL_law_682 dL_law_683 dL_law_684 dL_law_685 dL_law_686 ?_
  refine la_arg hO hL 2 (by omega) dL_law_687 dL_law_688 dL_law_689 dL_law_690 dL_law_691 ?_
  refine la_call hO hc (c_X9_closed X.2.1 G hO.g σ1 (xz xs (i + 1)) (xz xs (i + 2))) mb_X9_closed mi_X9_closed lk_L_81 (k0 := 58) rfl ⟨_, rfl, rfl⟩ rfl (by decide) (by first | decide | simp [rr_rv, Value.category]) rfl dL_law_692 e2 ?_
  exact la_eqI hO dL_law_695 1425 rfl (kk σ2 hI2)
theorem lc_deed (hO : LO X G b L xs) (hc : n0 ≤ 600000 ∧ n1 ≤ 7302249) (hL : L ≤ 3584) (hI : Inv σ) {i : Nat} (hi : i + 7 ≤ L) (kk : ∀ σ', Inv σ' → LA X G n0 n1 Q 1425 (lvs G b i) [] σ') : LA X G n0 n1 Q 700 (lvs G b i) [] σ := by
  obtain ⟨r, σ1, σ2, e1, e2, hI2⟩ := b_deed hI (xz_32 (xs := xs) (i := i + 1)) (xz_32 (xs := xs) (i := i + 2))
  refine la_obj hO 2 (i := 1) rfl rfl dL_law_700 ?_
  refine la_arg hO hL 1 (by omega) dL_law_701 dL_law_702 dL_law_703 dL_law_704 dL_law_705 ?_
  refine la_arg hO hL 2 (by omega) dL_law_706 dL_law_707 dL_law_708 dL_law_709 dL_law_710 ?_
  refine la_call hO hc (c_X8_deed X.2.1 G hO.g σ (xz xs (i + 1)) (xz xs (i + 2))) mb_X8_deed mi_X8_deed lk_L_82 (k0 := 0) rfl ⟨_, rfl, rfl⟩ rfl (by decide) (by decide) rfl dL_law_711 e1 ?_
  refine la_obj hO 1 (i := 2) rfl rfl dL_law_714 ?_
  refine la_arg hO hL 1 (by omega) dL_law_715 dL_law_716 dL_law_717 dL_law_718 dL_law_719 ?_
  refine la_arg hO hL 2 (by omega) dL_law_720 dL_law_721 dL_law_722 dL_law_723 dL_law_724 ?_
  refine la_call hO hc (c_X9_deed X.2.1 G hO.g σ1 (xz xs (i + 1)) (xz xs (i + 2))) mb_X9_deed mi_X9_deed lk_L_85 (k0 := 58) rfl ⟨_, rfl, rfl⟩ rfl (by decide) (by first | decide | simp [rr_rv, Value.category]) rfl dL_law_725 e2 ?_
  exact la_eqI hO dL_law_728 1425 rfl (kk σ2 hI2)
theorem lc_waits (hO : LO X G b L xs) (hc : n0 ≤ 600000 ∧ n1 ≤ 7302249) (hL : L ≤ 3584) (hI : Inv σ) {i : Nat} (hi : i + 7 ≤ L) (kk : ∀ σ', Inv σ' → LA X G n0 n1 Q 1425 (lvs G b i) [] σ') : LA X G n0 n1 Q 733 (lvs G b i) [] σ := by
  obtain ⟨r, σ1, σ2, e1, e2, hI2⟩ := b_waits hI (xz_32 (xs := xs) (i := i + 1)) (xz_32 (xs := xs) (i := i + 2)) (xz_32 (xs := xs) (i := i + 3)) (xz_32 (xs := xs) (i := i + 4)) (xz_32 (xs := xs) (i := i + 5))
  refine la_obj hO 2 (i := 1) rfl rfl dL_law_733 ?_
  refine la_arg hO hL 1 (by omega) dL_law_734 dL_law_735 dL_law_736 dL_law_737 dL_law_738 ?_
  refine la_arg hO hL 2 (by omega) dL_law_739 dL_law_740 dL_law_741 dL_law_742 dL_law_743 ?_
  refine la_arg hO hL 3 (by omega) dL_law_744 dL_law_745 dL_law_746 dL_law_747 dL_law_748 ?_
  refine la_arg hO hL 4 (by omega) dL_law_749 dL_law_750 dL_law_751 dL_law_752 dL_law_753 ?_
  refine la_arg hO hL 5 (by omega) dL_law_754 dL_law_755 dL_law_756 dL_law_757 dL_law_758 ?_
  refine la_call hO hc (c_X8_waits X.2.1 G hO.g σ (xz xs (i + 1)) (xz xs (i + 2)) (xz xs (i + 3)) (xz xs (i + 4)) (xz xs (i + 5))) mb_X8_waits mi_X8_waits lk_L_86 (k0 := 0) rfl ⟨_, rfl, rfl⟩ rfl (by decide) (by decide) rfl dL_law_759 e1 ?_
  refine la_obj hO 1 (i := 2) rfl rfl dL_law_762 ?_
  refine la_arg hO hL 1 (by omega) dL_law_763 dL_law_764 dL_law_765 dL_law_766 dL_law_767 ?_
  refine la_arg hO hL 2 (by omega) dL_law_768 dL_law_769 dL_law_770 dL_law_771 dL_law_772 ?_
  refine la_arg hO hL 3 (by omega) dL_law_773 dL_law_774 dL_law_775 dL_law_776 dL_law_777 ?_
  refine la_arg hO hL 4 (by omega) dL_law_778 dL_law_779 dL_law_780 dL_law_781 dL_law_782 ?_
  refine la_arg hO hL 5 (by omega) dL_law_783 dL_law_784 dL_law_785 dL_law_786 dL_law_787 ?_
  refine la_call hO hc (c_X9_waits X.2.1 G hO.g σ1 (xz xs (i + 1)) (xz xs (i + 2)) (xz xs (i + 3)) (xz xs (i + 4)) (xz xs (i + 5))) mb_X9_waits mi_X9_waits lk_L_90 (k0 := 58) rfl ⟨_, rfl, rfl⟩ rfl (by decide) (by first | decide | simp [rr_rv, Value.category]) rfl dL_law_788 e2 ?_
  exact la_eqL hO dL_law_791 dL_law_792 1425 rfl (kk σ2 hI2)
theorem lc_goes (hO : LO X G b L xs) (hc : n0 ≤ 600000 ∧ n1 ≤ 7302249) (hL : L ≤ 3584) (hI : Inv σ) {i : Nat} (hi : i + 7 ≤ L) (kk : ∀ σ', Inv σ' → LA X G n0 n1 Q 1425 (lvs G b i) [] σ') : LA X G n0 n1 Q 797 (lvs G b i) [] σ := by
  obtain ⟨r, σ1, σ2, e1, e2, hI2⟩ := b_goes hI (xz_32 (xs := xs) (i := i + 1)) (xz_32 (xs := xs) (i := i + 2)) (xz_32 (xs := xs) (i := i + 3)) (xz_32 (xs := xs) (i := i + 4))
  refine la_obj hO 2 (i := 1) rfl rfl dL_law_797 ?_
  refine la_arg hO hL 1 (by omega) dL_law_798 dL_law_799 dL_law_800 dL_law_801 dL_law_802 ?_
  refine la_arg hO hL 2 (by omega) dL_law_803 dL_law_804 dL_law_805 dL_law_806 dL_law_807 ?_
  refine la_arg hO hL 3 (by omega) dL_law_808 dL_law_809 dL_law_810 dL_law_811 dL_law_812 ?_
  refine la_arg hO hL 4 (by omega) dL_law_813 dL_law_814 dL_law_815 dL_law_816 dL_law_817 ?_
  refine la_call hO hc (c_X8_goes X.2.1 G hO.g σ (xz xs (i + 1)) (xz xs (i + 2)) (xz xs (i + 3)) (xz xs (i + 4))) mb_X8_goes mi_X8_goes lk_L_91 (k0 := 0) rfl ⟨_, rfl, rfl⟩ rfl (by decide) (by decide) rfl dL_law_818 e1 ?_
  refine la_obj hO 1 (i := 2) rfl rfl dL_law_821 ?_
  refine la_arg hO hL 1 (by omega) dL_law_822 dL_law_823 dL_law_824 dL_law_825 dL_law_826 ?_
  refine la_arg hO hL 2 (by omega) dL_law_827 dL_law_828 dL_law_829 dL_law_830 dL_law_831 ?_
  refine la_arg hO hL 3 (by omega) dL_law_832 dL_law_833 dL_law_834 dL_law_835 dL_law_836 ?_
  refine la_arg hO hL 4 (by omega) dL_law_837 dL_law_838 dL_law_839 dL_law_840 dL_law_841 ?_
  refine la_call hO hc (c_X9_goes X.2.1 G hO.g σ1 (xz xs (i + 1)) (xz xs (i + 2)) (xz xs (i + 3)) (xz xs (i + 4))) mb_X9_goes mi_X9_goes lk_L_95 (k0 := 58) rfl ⟨_, rfl, rfl⟩ rfl (by decide) (by first | decide | simp [rr_rv, Value.category]) rfl dL_law_842 e2 ?_
  exact la_eqI hO dL_law_845 1425 rfl (kk σ2 hI2)
theorem lc_keep (hO : LO X G b L xs) (hc : n0 ≤ 600000 ∧ n1 ≤ 7302249) (hL : L ≤ 3584) (hI : Inv σ) {i : Nat} (hi : i + 7 ≤ L) (kk : ∀ σ', Inv σ' → LA X G n0 n1 Q 1425 (lvs G b i) [] σ') : LA X G n0 n1 Q 850 (lvs G b i) [] σ := by
  obtain ⟨r, σ1, σ2, e1, e2, hI2⟩ := b_keep hI (xz_32 (xs := xs) (i := i + 1)) (xz_32 (xs := xs) (i := i + 2)) (xz_32 (xs := xs) (i := i + 3)) (xz_32 (xs := xs) (i := i + 4)) (xz_32 (xs := xs) (i := i + 5)) (xz_32 (xs := xs) (i := i + 6))
  refine la_obj hO 2 (i := 1) rfl rfl dL_law_850 ?_
  refine la_arg hO hL 1 (by omega) dL_law_851 dL_law_852 dL_law_853 dL_law_854 dL_law_855 ?_
  refine la_arg hO hL 2 (by omega) dL_law_856 dL_law_857 dL_law_858 dL_law_859 dL_law_860 ?_
  refine la_arg hO hL 3 (by omega) dL_law_861 dL_law_862 dL_law_863 dL_law_864 dL_law_865 ?_
  refine la_arg hO hL 4 (by omega) dL_law_866 dL_law_867 dL_law_868 dL_law_869 dL_law_870 ?_
  refine la_arg hO hL 5 (by omega) dL_law_871 dL_law_872 dL_law_873 dL_law_874 dL_law_875 ?_
  refine la_arg6 hO hL (by omega) dL_law_876 dL_law_877 dL_law_878 dL_law_880 dL_law_881 ?_
  refine la_call hO hc (c_X8_keep X.2.1 G hO.g σ (xz xs (i + 1)) (xz xs (i + 2)) (xz xs (i + 3)) (xz xs (i + 4)) (xz xs (i + 5)) (xz xs (i + 6))) mb_X8_keep mi_X8_keep lk_L_96 (k0 := 0) rfl ⟨_, rfl, rfl⟩ rfl (by decide) (by decide) rfl dL_law_882 e1 ?_
  refine la_obj hO 1 (i := 2) rfl rfl dL_law_885 ?_
  refine la_arg hO hL 1 (by omega) dL_law_886 dL_law_887 dL_law_888 dL_law_889 dL_law_890 ?_
  refine la_arg hO hL 2 (by omega) dL_law_891 dL_law_892 dL_law_893 dL_law_894 dL_law_895 ?_
  refine la_arg hO hL 3 (by omega) dL_law_896 dL_law_897 dL_law_898 dL_law_899 dL_law_900 ?_
  refine la_arg hO hL 4 (by omega) dL_law_901 dL_law_902 dL_law_903 dL_law_904 dL_law_905 ?_
  refine la_arg hO hL 5 (by omega) dL_law_906 dL_law_907 dL_law_908 dL_law_909 dL_law_910 ?_
  refine la_arg6 hO hL (by omega) dL_law_911 dL_law_912 dL_law_913 dL_law_915 dL_law_916 ?_
  refine la_call hO hc (c_X9_keep X.2.1 G hO.g σ1 (xz xs (i + 1)) (xz xs (i + 2)) (xz xs (i + 3)) (xz xs (i + 4)) (xz xs (i + 5)) (xz xs (i + 6))) mb_X9_keep mi_X9_keep lk_L_100 (k0 := 58) rfl ⟨_, rfl, rfl⟩ rfl (by decide) (by first | decide | simp [rr_rv, Value.category]) rfl dL_law_917 e2 ?_
  exact la_eqI hO dL_law_920 1425 rfl (kk σ2 hI2)
theorem lc_contract (hO : LO X G b L xs) (hc : n0 ≤ 600000 ∧ n1 ≤ 7302249) (hL : L ≤ 3584) (hI : Inv σ) {i : Nat} (hi : i + 7 ≤ L) (kk : ∀ σ', Inv σ' → LA X G n0 n1 Q 1425 (lvs G b i) [] σ') : LA X G n0 n1 Q 925 (lvs G b i) [] σ := by
  obtain ⟨r, σ1, σ2, e1, e2, hI2⟩ := b_contract hI (xz_32 (xs := xs) (i := i + 1)) (xz_32 (xs := xs) (i := i + 2)) (xz_32 (xs := xs) (i := i + 3)) (xz_32 (xs := xs) (i := i + 4))
  refine la_obj hO 2 (i := 1) rfl rfl dL_law_925 ?_
  refine la_arg hO hL 1 (by omega) dL_law_926 dL_law_927 dL_law_928 dL_law_929 dL_law_930 ?_
  refine la_arg hO hL 2 (by omega) dL_law_931 dL_law_932 dL_law_933 dL_law_934 dL_law_935 ?_
  refine la_arg hO hL 3 (by omega) dL_law_936 dL_law_937 dL_law_938 dL_law_939 dL_law_940 ?_
  refine la_arg hO hL 4 (by omega) dL_law_941 dL_law_942 dL_law_943 dL_law_944 dL_law_945 ?_
  refine la_call hO hc (c_X8_contract X.2.1 G hO.g σ (xz xs (i + 1)) (xz xs (i + 2)) (xz xs (i + 3)) (xz xs (i + 4))) mb_X8_contract mi_X8_contract lk_L_101 (k0 := 0) rfl ⟨_, rfl, rfl⟩ rfl (by decide) (by decide) rfl dL_law_946 e1 ?_
  refine la_obj hO 1 (i := 2) rfl rfl dL_law_949 ?_
  refine la_arg hO hL 1 (by omega) dL_law_950 dL_law_951 dL_law_952 dL_law_953 dL_law_954 ?_
  refine la_arg hO hL 2 (by omega) dL_law_955 dL_law_956 dL_law_957 dL_law_958 dL_law_959 ?_
  refine la_arg hO hL 3 (by omega) dL_law_960 dL_law_961 dL_law_962 dL_law_963 dL_law_964 ?_
  refine la_arg hO hL 4 (by omega) dL_law_965 dL_law_966 dL_law_967 dL_law_968 dL_law_969 ?_
  refine la_call hO hc (c_X9_contract X.2.1 G hO.g σ1 (xz xs (i + 1)) (xz xs (i + 2)) (xz xs (i + 3)) (xz xs (i + 4))) mb_X9_contract mi_X9_contract lk_L_104 (k0 := 58) rfl ⟨_, rfl, rfl⟩ rfl (by decide) (by first | decide | simp [rr_rv, Value.category]) rfl dL_law_970 e2 ?_
  exact la_eqI hO dL_law_973 1425 rfl (kk σ2 hI2)
theorem lc_tears (hO : LO X G b L xs) (hc : n0 ≤ 600000 ∧ n1 ≤ 7302249) (hL : L ≤ 3584) (hI : Inv σ) {i : Nat} (hi : i + 7 ≤ L) (kk : ∀ σ', Inv σ' → LA X G n0 n1 Q 1425 (lvs G b i) [] σ') : LA X G n0 n1 Q 978 (lvs G b i) [] σ := by
  obtain ⟨r, σ1, σ2, e1, e2, hI2⟩ := b_tears hI (xz_32 (xs := xs) (i := i + 1))
  refine la_obj hO 2 (i := 1) rfl rfl dL_law_978 ?_
  refine la_arg hO hL 1 (by omega) dL_law_979 dL_law_980 dL_law_981 dL_law_982 dL_law_983 ?_
  refine la_call hO hc (c_X8_tears X.2.1 G hO.g σ (xz xs (i + 1))) mb_X8_tears mi_X8_tears lk_L_105 (k0 := 0) rfl ⟨_, rfl, rfl⟩ rfl (by decide) (by decide) rfl dL_law_984 e1 ?_
  refine la_obj hO 1 (i := 2) rfl rfl dL_law_987 ?_
  refine la_arg hO hL 1 (by omega) dL_law_988 dL_law_989 dL_law_990 dL_law_991 dL_law_992 ?_
  refine la_call hO hc (c_X9_tears X.2.1 G hO.g σ1 (xz xs (i + 1))) mb_X9_tears mi_X9_tears lk_L_108 (k0 := 58) rfl ⟨_, rfl, rfl⟩ rfl (by decide) (by first | decide | simp [rr_rv, Value.category]) rfl dL_law_993 e2 ?_
  exact la_eqI hO dL_law_996 1425 rfl (kk σ2 hI2)
theorem lc_never (hO : LO X G b L xs) (hc : n0 ≤ 600000 ∧ n1 ≤ 7302249) (hL : L ≤ 3584) (hI : Inv σ) {i : Nat} (hi : i + 7 ≤ L) (kk : ∀ σ', Inv σ' → LA X G n0 n1 Q 1425 (lvs G b i) [] σ') : LA X G n0 n1 Q 1001 (lvs G b i) [] σ := by
  obtain ⟨r, σ1, σ2, e1, e2, hI2⟩ := b_never hI (xz_32 (xs := xs) (i := i + 1))
  refine la_obj hO 2 (i := 1) rfl rfl dL_law_1001 ?_
  refine la_arg hO hL 1 (by omega) dL_law_1002 dL_law_1003 dL_law_1004 dL_law_1005 dL_law_1006 ?_
  refine la_call hO hc (c_X8_never X.2.1 G hO.g σ (xz xs (i + 1))) mb_X8_never mi_X8_never lk_L_109 (k0 := 0) rfl ⟨_, rfl, rfl⟩ rfl (by decide) (by decide) rfl dL_law_1007 e1 ?_
  refine la_obj hO 1 (i := 2) rfl rfl dL_law_1010 ?_
  refine la_arg hO hL 1 (by omega) dL_law_1011 dL_law_1012 dL_law_1013 dL_law_1014 dL_law_1015 ?_
  refine la_call hO hc (c_X9_never X.2.1 G hO.g σ1 (xz xs (i + 1))) mb_X9_never mi_X9_never lk_L_112 (k0 := 58) rfl ⟨_, rfl, rfl⟩ rfl (by decide) (by first | decide | simp [rr_rv, Value.category]) rfl dL_law_1016 e2 ?_
  exact la_eqI hO dL_law_1019 1425 rfl (kk σ2 hI2)
theorem lc_gain (hO : LO X G b L xs) (hc : n0 ≤ 600000 ∧ n1 ≤ 7302249) (hL : L ≤ 3584) (hI : Inv σ) {i : Nat} (hi : i + 7 ≤ L) (kk : ∀ σ', Inv σ' → LA X G n0 n1 Q 1425 (lvs G b i) [] σ') : LA X G n0 n1 Q 1024 (lvs G b i) [] σ := by
  obtain ⟨r, σ1, σ2, e1, e2, hI2⟩ := b_gain hI (xz_32 (xs := xs) (i := i + 1))
  refine la_obj hO 2 (i := 1) rfl rfl dL_law_1024 ?_
  refine la_arg hO hL 1 (by omega) dL_law_1025 dL_law_1026 dL_law_1027 dL_law_1028 dL_law_1029 ?_
  refine la_call hO hc (c_X8_gain X.2.1 G hO.g σ (xz xs (i + 1))) mb_X8_gain mi_X8_gain lk_L_113 (k0 := 0) rfl ⟨_, rfl, rfl⟩ rfl (by decide) (by decide) rfl dL_law_1030 e1 ?_
  refine la_obj hO 1 (i := 2) rfl rfl dL_law_1033 ?_
  refine la_arg hO hL 1 (by omega) dL_law_1034 dL_law_1035 dL_law_1036 dL_law_1037 dL_law_1038 ?_
  refine la_call hO hc (c_X9_gain X.2.1 G hO.g σ1 (xz xs (i + 1))) mb_X9_gain mi_X9_gain lk_L_117 (k0 := 58) rfl ⟨_, rfl, rfl⟩ rfl (by decide) (by first | decide | simp [rr_rv, Value.category]) rfl dL_law_1039 e2 ?_
  exact la_eqL hO dL_law_1042 dL_law_1043 1425 rfl (kk σ2 hI2)
theorem lc_watch (hO : LO X G b L xs) (hc : n0 ≤ 600000 ∧ n1 ≤ 7302249) (hL : L ≤ 3584) (hI : Inv σ) {i : Nat} (hi : i + 7 ≤ L) (kk : ∀ σ', Inv σ' → LA X G n0 n1 Q 1425 (lvs G b i) [] σ') : LA X G n0 n1 Q 1048 (lvs G b i) [] σ := by
  obtain ⟨r, σ1, σ2, e1, e2, hI2⟩ := b_watch hI 
  refine la_obj hO 2 (i := 1) rfl rfl dL_law_1048 ?_
  refine la_call hO hc (c_X8_watch X.2.1 G hO.g σ ) mb_X8_watch mi_X8_watch lk_L_118 (k0 := 0) rfl ⟨_, rfl, rfl⟩ rfl (by decide) (by decide) rfl dL_law_1049 e1 ?_
  refine la_obj hO 1 (i := 2) rfl rfl dL_law_1052 ?_
  refine la_call hO hc (c_X9_watch X.2.1 G hO.g σ1 ) mb_X9_watch mi_X9_watch lk_L_121 (k0 := 58) rfl ⟨_, rfl, rfl⟩ rfl (by decide) (by first | decide | simp [rr_rv, Value.category]) rfl dL_law_1053 e2 ?_
  exact la_eqI hO dL_law_1056 1425 rfl (kk σ2 hI2)
theorem lc_fact (hO : LO X G b L xs) (hc : n0 ≤ 600000 ∧ n1 ≤ 7302249) (hL : L ≤ 3584) (hI : Inv σ) {i : Nat} (hi : i + 7 ≤ L) (kk : ∀ σ', Inv σ' → LA X G n0 n1 Q 1425 (lvs G b i) [] σ') : LA X G n0 n1 Q 1061 (lvs G b i) [] σ := by
  obtain ⟨r, σ1, σ2, e1, e2, hI2⟩ := b_fact hI (xz_32 (xs := xs) (i := i + 1)) (xz_32 (xs := xs) (i := i + 2)) (xz_32 (xs := xs) (i := i + 3))
  refine la_obj hO 2 (i := 1) rfl rfl dL_law_1061 ?_
  refine la_arg hO hL 1 (by omega) dL_law_1062 dL_law_1063 dL_law_1064 dL_law_1065 dL_law_1066 ?_
  refine la_arg hO hL 2 (by omega) dL_law_1067 dL_law_1068 dL_law_1069 dL_law_1070 dL_law_1071 ?_
  refine la_arg hO hL 3 (by omega) dL_law_1072 dL_law_1073 dL_law_1074 dL_law_1075 dL_law_1076 ?_
  refine la_call hO hc (c_X8_fact X.2.1 G hO.g σ (xz xs (i + 1)) (xz xs (i + 2)) (xz xs (i + 3))) mb_X8_fact mi_X8_fact lk_L_122 (k0 := 0) rfl ⟨_, rfl, rfl⟩ rfl (by decide) (by decide) rfl dL_law_1077 e1 ?_
  refine la_obj hO 1 (i := 2) rfl rfl dL_law_1080 ?_
  refine la_arg hO hL 1 (by omega) dL_law_1081 dL_law_1082 dL_law_1083 dL_law_1084 dL_law_1085 ?_
  refine la_arg hO hL 2 (by omega) dL_law_1086 dL_law_1087 dL_law_1088 dL_law_1089 dL_law_1090 ?_
  refine la_arg hO hL 3 (by omega) dL_law_1091 dL_law_1092 dL_law_1093 dL_law_1094 dL_law_1095 ?_
  refine la_call hO hc (c_X9_fact X.2.1 G hO.g σ1 (xz xs (i + 1)) (xz xs (i + 2)) (xz xs (i + 3))) mb_X9_fact mi_X9_fact lk_L_125 (k0 := 58) rfl ⟨_, rfl, rfl⟩ rfl (by decide) (by first | decide | simp [rr_rv, Value.category]) rfl dL_law_1096 e2 ?_
  exact la_eqI hO dL_law_1099 1425 rfl (kk σ2 hI2)
theorem lc_forget (hO : LO X G b L xs) (hc : n0 ≤ 600000 ∧ n1 ≤ 7302249) (hL : L ≤ 3584) (hI : Inv σ) {i : Nat} (hi : i + 7 ≤ L) (kk : ∀ σ', Inv σ' → LA X G n0 n1 Q 1425 (lvs G b i) [] σ') : LA X G n0 n1 Q 1104 (lvs G b i) [] σ := by
  obtain ⟨r, σ1, σ2, e1, e2, hI2⟩ := b_forget hI 
  refine la_obj hO 2 (i := 1) rfl rfl dL_law_1104 ?_
  refine la_call hO hc (c_X8_forget X.2.1 G hO.g σ ) mb_X8_forget mi_X8_forget lk_L_126 (k0 := 0) rfl ⟨_, rfl, rfl⟩ rfl (by decide) (by decide) rfl dL_law_1105 e1 ?_
  refine la_obj hO 1 (i := 2) rfl rfl dL_law_1108 ?_
  refine la_call hO hc (c_X9_forget X.2.1 G hO.g σ1 ) mb_X9_forget mi_X9_forget lk_L_129 (k0 := 58) rfl ⟨_, rfl, rfl⟩ rfl (by decide) (by first | decide | simp [rr_rv, Value.category]) rfl dL_law_1109 e2 ?_
  exact la_eqI hO dL_law_1112 1425 rfl (kk σ2 hI2)
theorem lc_fit (hO : LO X G b L xs) (hc : n0 ≤ 600000 ∧ n1 ≤ 7302249) (hL : L ≤ 3584) (hI : Inv σ) {i : Nat} (hi : i + 7 ≤ L) (kk : ∀ σ', Inv σ' → LA X G n0 n1 Q 1425 (lvs G b i) [] σ') : LA X G n0 n1 Q 1117 (lvs G b i) [] σ := by
  obtain ⟨r, σ1, σ2, e1, e2, hI2⟩ := b_fit hI 
  refine la_obj hO 2 (i := 1) rfl rfl dL_law_1117 ?_
  refine la_call hO hc (c_X8_fit X.2.1 G hO.g σ ) mb_X8_fit mi_X8_fit lk_L_130 (k0 := 0) rfl ⟨_, rfl, rfl⟩ rfl (by decide) (by decide) rfl dL_law_1118 e1 ?_
  refine la_obj hO 1 (i := 2) rfl rfl dL_law_1121 ?_
  refine la_call hO hc (c_X9_fit X.2.1 G hO.g σ1 ) mb_X9_fit mi_X9_fit lk_L_133 (k0 := 58) rfl ⟨_, rfl, rfl⟩ rfl (by decide) (by first | decide | simp [rr_rv, Value.category]) rfl dL_law_1122 e2 ?_
  exact la_eqI hO dL_law_1125 1425 rfl (kk σ2 hI2)
theorem lc_sheet (hO : LO X G b L xs) (hc : n0 ≤ 600000 ∧ n1 ≤ 7302249) (hL : L ≤ 3584) (hI : Inv σ) {i : Nat} (hi : i + 7 ≤ L) (kk : ∀ σ', Inv σ' → LA X G n0 n1 Q 1425 (lvs G b i) [] σ') : LA X G n0 n1 Q 1130 (lvs G b i) [] σ := by
  obtain ⟨r, σ1, σ2, e1, e2, hI2⟩ := b_sheet hI (xz_32 (xs := xs) (i := i + 1)) (xz_32 (xs := xs) (i := i + 2)) (xz_32 (xs := xs) (i := i + 3))
  refine la_obj hO 2 (i := 1) rfl rfl dL_law_1130 ?_
  refine la_arg hO hL 1 (by omega) dL_law_1131 dL_law_1132 dL_law_1133 dL_law_1134 dL_law_1135 ?_
  refine la_arg hO hL 2 (by omega) dL_law_1136 dL_law_1137 dL_law_1138 dL_law_1139 dL_law_1140 ?_
  refine la_arg hO hL 3 (by omega) dL_law_1141 dL_law_1142 dL_law_1143 dL_law_1144 dL_law_1145 ?_
  refine la_call hO hc (c_X8_sheet X.2.1 G hO.g σ (xz xs (i + 1)) (xz xs (i + 2)) (xz xs (i + 3))) mb_X8_sheet mi_X8_sheet lk_L_134 (k0 := 0) rfl ⟨_, rfl, rfl⟩ rfl (by decide) (by decide) rfl dL_law_1146 e1 ?_
  refine la_obj hO 1 (i := 2) rfl rfl dL_law_1149 ?_
  refine la_arg hO hL 1 (by omega) dL_law_1150 dL_law_1151 dL_law_1152 dL_law_1153 dL_law_1154 ?_
  refine la_arg hO hL 2 (by omega) dL_law_1155 dL_law_1156 dL_law_1157 dL_law_1158 dL_law_1159 ?_
  refine la_arg hO hL 3 (by omega) dL_law_1160 dL_law_1161 dL_law_1162 dL_law_1163 dL_law_1164 ?_
  refine la_call hO hc (c_X9_sheet X.2.1 G hO.g σ1 (xz xs (i + 1)) (xz xs (i + 2)) (xz xs (i + 3))) mb_X9_sheet mi_X9_sheet lk_L_137 (k0 := 58) rfl ⟨_, rfl, rfl⟩ rfl (by decide) (by first | decide | simp [rr_rv, Value.category]) rfl dL_law_1165 e2 ?_
  exact la_eqI hO dL_law_1168 1425 rfl (kk σ2 hI2)
theorem lc_lose (hO : LO X G b L xs) (hc : n0 ≤ 600000 ∧ n1 ≤ 7302249) (hL : L ≤ 3584) (hI : Inv σ) {i : Nat} (hi : i + 7 ≤ L) (kk : ∀ σ', Inv σ' → LA X G n0 n1 Q 1425 (lvs G b i) [] σ') : LA X G n0 n1 Q 1173 (lvs G b i) [] σ := by
  obtain ⟨r, σ1, σ2, e1, e2, hI2⟩ := b_lose hI (xz_32 (xs := xs) (i := i + 1))
  refine la_obj hO 2 (i := 1) rfl rfl dL_law_1173 ?_
  refine la_arg hO hL 1 (by omega) dL_law_1174 dL_law_1175 dL_law_1176 dL_law_1177 dL_law_1178 ?_
  refine la_call hO hc (c_X8_lose X.2.1 G hO.g σ (xz xs (i + 1))) mb_X8_lose mi_X8_lose lk_L_138 (k0 := 0) rfl ⟨_, rfl, rfl⟩ rfl (by decide) (by decide) rfl dL_law_1179 e1 ?_
  refine la_obj hO 1 (i := 2) rfl rfl dL_law_1182 ?_
  refine la_arg hO hL 1 (by omega) dL_law_1183 dL_law_1184 dL_law_1185 dL_law_1186 dL_law_1187 ?_
  refine la_call hO hc (c_X9_lose X.2.1 G hO.g σ1 (xz xs (i + 1))) mb_X9_lose mi_X9_lose lk_L_141 (k0 := 58) rfl ⟨_, rfl, rfl⟩ rfl (by decide) (by first | decide | simp [rr_rv, Value.category]) rfl dL_law_1188 e2 ?_
  exact la_eqI hO dL_law_1191 1425 rfl (kk σ2 hI2)
theorem lc_lay (hO : LO X G b L xs) (hc : n0 ≤ 600000 ∧ n1 ≤ 7302249) (hL : L ≤ 3584) (hI : Inv σ) {i : Nat} (hi : i + 7 ≤ L) (kk : ∀ σ', Inv σ' → LA X G n0 n1 Q 1425 (lvs G b i) [] σ') : LA X G n0 n1 Q 1196 (lvs G b i) [] σ := by
  obtain ⟨r, σ1, σ2, e1, e2, hI2⟩ := b_lay hI (xz_32 (xs := xs) (i := i + 1)) (xz_32 (xs := xs) (i := i + 2)) (xz_32 (xs := xs) (i := i + 3)) (xz_32 (xs := xs) (i := i + 4))
  refine la_obj hO 2 (i := 1) rfl rfl dL_law_1196 ?_
  refine la_arg hO hL 1 (by omega) dL_law_1197 dL_law_1198 dL_law_1199 dL_law_1200 dL_law_1201 ?_
  refine la_arg hO hL 2 (by omega) dL_law_1202 dL_law_1203 dL_law_1204 dL_law_1205 dL_law_1206 ?_
  refine la_arg hO hL 3 (by omega) dL_law_1207 dL_law_1208 dL_law_1209 dL_law_1210 dL_law_1211 ?_
  refine la_arg hO hL 4 (by omega) dL_law_1212 dL_law_1213 dL_law_1214 dL_law_1215 dL_law_1216 ?_
  refine la_call hO hc (c_X8_lay X.2.1 G hO.g σ (xz xs (i + 1)) (xz xs (i + 2)) (xz xs (i + 3)) (xz xs (i + 4))) mb_X8_lay mi_X8_lay lk_L_142 (k0 := 0) rfl ⟨_, rfl, rfl⟩ rfl (by decide) (by decide) rfl dL_law_1217 e1 ?_
  refine la_obj hO 1 (i := 2) rfl rfl dL_law_1220 ?_
  refine la_arg hO hL 1 (by omega) dL_law_1221 dL_law_1222 dL_law_1223 dL_law_1224 dL_law_1225 ?_
  refine la_arg hO hL 2 (by omega) dL_law_1226 dL_law_1227 dL_law_1228 dL_law_1229 dL_law_1230 ?_
  refine la_arg hO hL 3 (by omega) dL_law_1231 dL_law_1232 dL_law_1233 dL_law_1234 dL_law_1235 ?_
  refine la_arg hO hL 4 (by omega) dL_law_1236 dL_law_1237 dL_law_1238 dL_law_1239 dL_law_1240 ?_
  refine la_call hO hc (c_X9_lay X.2.1 G hO.g σ1 (xz xs (i + 1)) (xz xs (i + 2)) (xz xs (i + 3)) (xz xs (i + 4))) mb_X9_lay mi_X9_lay lk_L_145 (k0 := 58) rfl ⟨_, rfl, rfl⟩ rfl (by decide) (by first | decide | simp [rr_rv, Value.category]) rfl dL_law_1241 e2 ?_
  exact la_eqI hO dL_law_1244 1425 rfl (kk σ2 hI2)
theorem lc_get (hO : LO X G b L xs) (hc : n0 ≤ 600000 ∧ n1 ≤ 7302249) (hL : L ≤ 3584) (hI : Inv σ) {i : Nat} (hi : i + 7 ≤ L) (kk : ∀ σ', Inv σ' → LA X G n0 n1 Q 1425 (lvs G b i) [] σ') : LA X G n0 n1 Q 1249 (lvs G b i) [] σ := by
  obtain ⟨r, σ1, σ2, e1, e2, hI2⟩ := b_get hI (xz_32 (xs := xs) (i := i + 1)) (xz_32 (xs := xs) (i := i + 2)) (xz_32 (xs := xs) (i := i + 3))
  refine la_obj hO 2 (i := 1) rfl rfl dL_law_1249 ?_
  refine la_arg hO hL 1 (by omega) dL_law_1250 dL_law_1251 dL_law_1252 dL_law_1253 dL_law_1254 ?_
  refine la_arg hO hL 2 (by omega) dL_law_1255 dL_law_1256 dL_law_1257 dL_law_1258 dL_law_1259 ?_
  refine la_arg hO hL 3 (by omega) dL_law_1260 dL_law_1261 dL_law_1262 dL_law_1263 dL_law_1264 ?_
  refine la_call hO hc (c_X8_get X.2.1 G hO.g σ (xz xs (i + 1)) (xz xs (i + 2)) (xz xs (i + 3))) mb_X8_get mi_X8_get lk_L_146 (k0 := 0) rfl ⟨_, rfl, rfl⟩ rfl (by decide) (by decide) rfl dL_law_1265 e1 ?_
  refine la_obj hO 1 (i := 2) rfl rfl dL_law_1268 ?_
  refine la_arg hO hL 1 (by omega) dL_law_1269 dL_law_1270 dL_law_1271 dL_law_1272 dL_law_1273 ?_
  refine la_arg hO hL 2 (by omega) dL_law_1274 dL_law_1275 dL_law_1276 dL_law_1277 dL_law_1278 ?_
  refine la_arg hO hL 3 (by omega) dL_law_1279 dL_law_1280 dL_law_1281 dL_law_1282 dL_law_1283 ?_
  refine la_call hO hc (c_X9_get X.2.1 G hO.g σ1 (xz xs (i + 1)) (xz xs (i + 2)) (xz xs (i + 3))) mb_X9_get mi_X9_get lk_L_149 (k0 := 58) rfl ⟨_, rfl, rfl⟩ rfl (by decide) (by first | decide | simp [rr_rv, Value.category]) rfl dL_law_1284 e2 ?_
  exact la_eqI hO dL_law_1287 1425 rfl (kk σ2 hI2)
theorem lc_copy (hO : LO X G b L xs) (hc : n0 ≤ 600000 ∧ n1 ≤ 7302249) (hL : L ≤ 3584) (hI : Inv σ) {i : Nat} (hi : i + 7 ≤ L) (kk : ∀ σ', Inv σ' → LA X G n0 n1 Q 1425 (lvs G b i) [] σ') : LA X G n0 n1 Q 1292 (lvs G b i) [] σ := by
  obtain ⟨r, σ1, σ2, e1, e2, hI2⟩ := b_copy hI (xz_32 (xs := xs) (i := i + 1)) (xz_32 (xs := xs) (i := i + 2)) (xz_32 (xs := xs) (i := i + 3)) (xz_32 (xs := xs) (i := i + 4)) (xz_32 (xs := xs) (i := i + 5))
  refine la_obj hO 2 (i := 1) rfl rfl dL_law_1292 ?_
  refine la_arg hO hL 1 (by omega) dL_law_1293 dL_law_1294 dL_law_1295 dL_law_1296 dL_law_1297 ?_
  refine la_arg hO hL 2 (by omega) dL_law_1298 dL_law_1299 dL_law_1300 dL_law_1301 dL_law_1302 ?_
  refine la_arg hO hL 3 (by omega) dL_law_1303 dL_law_1304 dL_law_1305 dL_law_1306 dL_law_1307 ?_
  refine la_arg hO hL 4 (by omega) dL_law_1308 dL_law_1309 dL_law_1310 dL_law_1311 dL_law_1312 ?_
  refine la_arg hO hL 5 (by omega) dL_law_1313 dL_law_1314 dL_law_1315 dL_law_1316 dL_law_1317 ?_
  refine la_call hO hc (c_X8_copy X.2.1 G hO.g σ (xz xs (i + 1)) (xz xs (i + 2)) (xz xs (i + 3)) (xz xs (i + 4)) (xz xs (i + 5))) mb_X8_copy mi_X8_copy lk_L_150 (k0 := 0) rfl ⟨_, rfl, rfl⟩ rfl (by decide) (by decide) rfl dL_law_1318 e1 ?_
  refine la_obj hO 1 (i := 2) rfl rfl dL_law_1321 ?_
  refine la_arg hO hL 1 (by omega) dL_law_1322 dL_law_1323 dL_law_1324 dL_law_1325 dL_law_1326 ?_
  refine la_arg hO hL 2 (by omega) dL_law_1327 dL_law_1328 dL_law_1329 dL_law_1330 dL_law_1331 ?_
  refine la_arg hO hL 3 (by omega) dL_law_1332 dL_law_1333 dL_law_1334 dL_law_1335 dL_law_1336 ?_
  refine la_arg hO hL 4 (by omega) dL_law_1337 dL_law_1338 dL_law_1339 dL_law_1340 dL_law_1341 ?_
  refine la_arg hO hL 5 (by omega) dL_law_1342 dL_law_1343 dL_law_1344 dL_law_1345 dL_law_1346 ?_
  refine la_call hO hc (c_X9_copy X.2.1 G hO.g σ1 (xz xs (i + 1)) (xz xs (i + 2)) (xz xs (i + 3)) (xz xs (i + 4)) (xz xs (i + 5))) mb_X9_copy mi_X9_copy lk_L_153 (k0 := 58) rfl ⟨_, rfl, rfl⟩ rfl (by decide) (by first | decide | simp [rr_rv, Value.category]) rfl dL_law_1347 e2 ?_
  exact la_eqI hO dL_law_1350 1425 rfl (kk σ2 hI2)
theorem lc_write (hO : LO X G b L xs) (hc : n0 ≤ 600000 ∧ n1 ≤ 7302249) (hL : L ≤ 3584) (hI : Inv σ) {i : Nat} (hi : i + 7 ≤ L) (kk : ∀ σ', Inv σ' → LA X G n0 n1 Q 1425 (lvs G b i) [] σ') : LA X G n0 n1 Q 1355 (lvs G b i) [] σ := by
  obtain ⟨r, σ1, σ2, e1, e2, hI2⟩ := b_write hI (xz_32 (xs := xs) (i := i + 1)) (xz_32 (xs := xs) (i := i + 2))
  refine la_obj hO 2 (i := 1) rfl rfl dL_law_1355 ?_
  refine la_arg hO hL 1 (by omega) dL_law_1356 dL_law_1357 dL_law_1358 dL_law_1359 dL_law_1360 ?_
  refine la_arg hO hL 2 (by omega) dL_law_1361 dL_law_1362 dL_law_1363 dL_law_1364 dL_law_1365 ?_
  refine la_call hO hc (c_X8_write X.2.1 G hO.g σ (xz xs (i + 1)) (xz xs (i + 2))) mb_X8_write mi_X8_write lk_L_154 (k0 := 0) rfl ⟨_, rfl, rfl⟩ rfl (by decide) (by decide) rfl dL_law_1366 e1 ?_
  refine la_obj hO 1 (i := 2) rfl rfl dL_law_1369 ?_
  refine la_arg hO hL 1 (by omega) dL_law_1370 dL_law_1371 dL_law_1372 dL_law_1373 dL_law_1374 ?_
  refine la_arg hO hL 2 (by omega) dL_law_1375 dL_law_1376 dL_law_1377 dL_law_1378 dL_law_1379 ?_
  refine la_call hO hc (c_X9_write X.2.1 G hO.g σ1 (xz xs (i + 1)) (xz xs (i + 2))) mb_X9_write mi_X9_write lk_L_157 (k0 := 58) rfl ⟨_, rfl, rfl⟩ rfl (by decide) (by first | decide | simp [rr_rv, Value.category]) rfl dL_law_1380 e2 ?_
  exact la_eqI hO dL_law_1383 1425 rfl (kk σ2 hI2)
theorem lc_count (hO : LO X G b L xs) (hc : n0 ≤ 600000 ∧ n1 ≤ 7302249) (hL : L ≤ 3584) (hI : Inv σ) {i : Nat} (hi : i + 7 ≤ L) (kk : ∀ σ', Inv σ' → LA X G n0 n1 Q 1425 (lvs G b i) [] σ') : LA X G n0 n1 Q 1388 (lvs G b i) [] σ := by
  obtain ⟨r, σ1, σ2, e1, e2, hI2⟩ := b_count hI (xz_32 (xs := xs) (i := i + 1))
  refine la_obj hO 2 (i := 1) rfl rfl dL_law_1388 ?_
  refine la_arg hO hL 1 (by omega) dL_law_1389 dL_law_1390 dL_law_1391 dL_law_1392 dL_law_1393 ?_
  refine la_call hO hc (c_X8_count X.2.1 G hO.g σ (xz xs (i + 1))) mb_X8_count mi_X8_count lk_L_158 (k0 := 0) rfl ⟨_, rfl, rfl⟩ rfl (by decide) (by decide) rfl dL_law_1394 e1 ?_
  refine la_obj hO 1 (i := 2) rfl rfl dL_law_1397 ?_
  refine la_arg hO hL 1 (by omega) dL_law_1398 dL_law_1399 dL_law_1400 dL_law_1401 dL_law_1402 ?_
  refine la_call hO hc (c_X9_count X.2.1 G hO.g σ1 (xz xs (i + 1))) mb_X9_count mi_X9_count lk_L_161 (k0 := 58) rfl ⟨_, rfl, rfl⟩ rfl (by decide) (by first | decide | simp [rr_rv, Value.category]) rfl dL_law_1403 e2 ?_
  exact la_eqI hO dL_law_1406 1425 rfl (kk σ2 hI2)
theorem lc_digest (hO : LO X G b L xs) (hc : n0 ≤ 600000 ∧ n1 ≤ 7302249) (hL : L ≤ 3584) (hI : Inv σ) {i : Nat} (hi : i + 7 ≤ L) (kk : ∀ σ', Inv σ' → LA X G n0 n1 Q 1425 (lvs G b i) [] σ') : LA X G n0 n1 Q 1411 (lvs G b i) [] σ := by
  obtain ⟨r, σ1, σ2, e1, e2, hI2⟩ := b_digest hI 
  refine la_obj hO 2 (i := 1) rfl rfl dL_law_1411 ?_
  refine la_call hO hc (c_X8_digest X.2.1 G hO.g σ ) mb_X8_digest mi_X8_digest lk_L_162 (k0 := 0) rfl ⟨_, rfl, rfl⟩ rfl (by decide) (by decide) rfl dL_law_1412 e1 ?_
  refine la_obj hO 1 (i := 2) rfl rfl dL_law_1415 ?_
  refine la_call hO hc (c_X9_digest X.2.1 G hO.g σ1 ) mb_X9_digest mi_X9_digest lk_L_166 (k0 := 58) rfl ⟨_, rfl, rfl⟩ rfl (by decide) (by first | decide | simp [rr_rv, Value.category]) rfl dL_law_1416 e2 ?_
  exact la_eqL hO dL_law_1419 dL_law_1420 1425 rfl (kk σ2 hI2)
end CASES
