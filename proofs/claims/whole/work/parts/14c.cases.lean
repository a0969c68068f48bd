theorem law_row {G : Gx} {b L i : Nat} {xs : Nat → Int32} {σ : Sg} (hI : Inv σ) (hi : i + 6 ≤ L) (hL : L ≤ 384) (kk : ∀ σ2, Inv σ2 → LV G b L xs 1122 i [] σ2) : LV G b L xs 176 i [] σ := by
  obtain ⟨v, σ1, σ2, e1, e2, hI2⟩ := T_row hI (xs (i + 1)) (xs (i + 2)) (xs (i + 3))
  refine l_ald dL_law_176 2 rfl rfl ?_
  refine l_arg (k := 1) dL_law_177 dL_law_178 dL_law_179 (by decide) dL_law_180 dL_law_181 (by omega) hL ?_
  refine l_arg (k := 2) dL_law_182 dL_law_183 dL_law_184 (by decide) dL_law_185 dL_law_186 (by omega) hL ?_
  refine l_arg (k := 3) dL_law_187 dL_law_188 dL_law_189 (by decide) dL_law_190 dL_law_191 (by omega) hL ?_
  refine l_call (k := 0) (As := [.int (xs (i + 1)), .int (xs (i + 2)), .int (xs (i + 3))]) dL_law_192 tw287 tw288 tw289 ykX11_row (by decide) rfl (by decide) ok_10 rfl ⟨rfl, rfl, by decide, by decide⟩ rfl rfl (Nat.le_of_ble_eq_true rfl) (eX_row (xs (i + 1)) (xs (i + 2)) (xs (i + 3)) σ (v, σ1) e1) ?_
  refine l_ald dL_law_195 1 rfl rfl ?_
  refine l_arg (k := 1) dL_law_196 dL_law_197 dL_law_198 (by decide) dL_law_199 dL_law_200 (by omega) hL ?_
  refine l_arg (k := 2) dL_law_201 dL_law_202 dL_law_203 (by decide) dL_law_204 dL_law_205 (by omega) hL ?_
  refine l_arg (k := 3) dL_law_206 dL_law_207 dL_law_208 (by decide) dL_law_209 dL_law_210 (by omega) hL ?_
  refine l_call (k := 200) (As := [.int (xs (i + 1)), .int (xs (i + 2)), .int (xs (i + 3))]) dL_law_211 tw754 tw755 tw756 ykX12_row (by decide) rfl (by decide) ok_11 rfl ⟨rfl, rfl, by decide, by decide⟩ rfl rfl (Nat.le_of_ble_eq_true rfl) (eM_row (xs (i + 1)) (xs (i + 2)) (xs (i + 3)) σ1 (v, σ2) e2) ?_
  refine l_eq dL_law_214 (tgt := 1122) (by decide) ?_
  exact kk _ hI2
theorem law_set {G : Gx} {b L i : Nat} {xs : Nat → Int32} {σ : Sg} (hI : Inv σ) (hi : i + 6 ≤ L) (hL : L ≤ 384) (kk : ∀ σ2, Inv σ2 → LV G b L xs 1122 i [] σ2) : LV G b L xs 219 i [] σ := by
  obtain ⟨v, σ1, σ2, e1, e2, hI2⟩ := T_set hI (xs (i + 1)) (xs (i + 2)) (xs (i + 3))
  refine l_ald dL_law_219 2 rfl rfl ?_
  refine l_arg (k := 1) dL_law_220 dL_law_221 dL_law_222 (by decide) dL_law_223 dL_law_224 (by omega) hL ?_
  refine l_arg (k := 2) dL_law_225 dL_law_226 dL_law_227 (by decide) dL_law_228 dL_law_229 (by omega) hL ?_
  refine l_arg (k := 3) dL_law_230 dL_law_231 dL_law_232 (by decide) dL_law_233 dL_law_234 (by omega) hL ?_
  refine l_call (k := 0) (As := [.int (xs (i + 1)), .int (xs (i + 2)), .int (xs (i + 3))]) dL_law_235 tw311 tw312 tw313 ykX11_set (by decide) rfl (by decide) ok_10 rfl ⟨rfl, rfl, by decide, by decide⟩ rfl rfl (Nat.le_of_ble_eq_true rfl) (eX_set (xs (i + 1)) (xs (i + 2)) (xs (i + 3)) σ (v, σ1) e1) ?_
  refine l_ald dL_law_238 1 rfl rfl ?_
  refine l_arg (k := 1) dL_law_239 dL_law_240 dL_law_241 (by decide) dL_law_242 dL_law_243 (by omega) hL ?_
  refine l_arg (k := 2) dL_law_244 dL_law_245 dL_law_246 (by decide) dL_law_247 dL_law_248 (by omega) hL ?_
  refine l_arg (k := 3) dL_law_249 dL_law_250 dL_law_251 (by decide) dL_law_252 dL_law_253 (by omega) hL ?_
  refine l_call (k := 200) (As := [.int (xs (i + 1)), .int (xs (i + 2)), .int (xs (i + 3))]) dL_law_254 tw774 tw775 tw776 ykX12_set (by decide) rfl (by decide) ok_11 rfl ⟨rfl, rfl, by decide, by decide⟩ rfl rfl (Nat.le_of_ble_eq_true rfl) (eM_set (xs (i + 1)) (xs (i + 2)) (xs (i + 3)) σ1 (v, σ2) e2) ?_
  refine l_eq dL_law_257 (tgt := 1122) (by decide) ?_
  exact kk _ hI2
theorem law_copy {G : Gx} {b L i : Nat} {xs : Nat → Int32} {σ : Sg} (hI : Inv σ) (hi : i + 6 ≤ L) (hL : L ≤ 384) (kk : ∀ σ2, Inv σ2 → LV G b L xs 1122 i [] σ2) : LV G b L xs 262 i [] σ := by
  obtain ⟨v, σ1, σ2, e1, e2, hI2⟩ := T_copy hI (xs (i + 1)) (xs (i + 2)) (xs (i + 3)) (xs (i + 4)) (xs (i + 5))
  refine l_ald dL_law_262 2 rfl rfl ?_
  refine l_arg (k := 1) dL_law_263 dL_law_264 dL_law_265 (by decide) dL_law_266 dL_law_267 (by omega) hL ?_
  refine l_arg (k := 2) dL_law_268 dL_law_269 dL_law_270 (by decide) dL_law_271 dL_law_272 (by omega) hL ?_
  refine l_arg (k := 3) dL_law_273 dL_law_274 dL_law_275 (by decide) dL_law_276 dL_law_277 (by omega) hL ?_
  refine l_arg (k := 4) dL_law_278 dL_law_279 dL_law_280 (by decide) dL_law_281 dL_law_282 (by omega) hL ?_
  refine l_arg (k := 5) dL_law_283 dL_law_284 dL_law_285 (by decide) dL_law_286 dL_law_287 (by omega) hL ?_
  refine l_call (k := 0) (As := [.int (xs (i + 1)), .int (xs (i + 2)), .int (xs (i + 3)), .int (xs (i + 4)), .int (xs (i + 5))]) dL_law_288 tw327 tw328 tw329 ykX11_copy (by decide) rfl (by decide) ok_10 rfl ⟨rfl, rfl, by decide, by decide⟩ rfl rfl (Nat.le_of_ble_eq_true rfl) (eX_copy (xs (i + 1)) (xs (i + 2)) (xs (i + 3)) (xs (i + 4)) (xs (i + 5)) σ (v, σ1) e1) ?_
  refine l_ald dL_law_291 1 rfl rfl ?_
  refine l_arg (k := 1) dL_law_292 dL_law_293 dL_law_294 (by decide) dL_law_295 dL_law_296 (by omega) hL ?_
  refine l_arg (k := 2) dL_law_297 dL_law_298 dL_law_299 (by decide) dL_law_300 dL_law_301 (by omega) hL ?_
  refine l_arg (k := 3) dL_law_302 dL_law_303 dL_law_304 (by decide) dL_law_305 dL_law_306 (by omega) hL ?_
  refine l_arg (k := 4) dL_law_307 dL_law_308 dL_law_309 (by decide) dL_law_310 dL_law_311 (by omega) hL ?_
  refine l_arg (k := 5) dL_law_312 dL_law_313 dL_law_314 (by decide) dL_law_315 dL_law_316 (by omega) hL ?_
  refine l_call (k := 200) (As := [.int (xs (i + 1)), .int (xs (i + 2)), .int (xs (i + 3)), .int (xs (i + 4)), .int (xs (i + 5))]) dL_law_317 tw785 tw786 tw787 ykX12_copy (by decide) rfl (by decide) ok_11 rfl ⟨rfl, rfl, by decide, by decide⟩ rfl rfl (Nat.le_of_ble_eq_true rfl) (eM_copy (xs (i + 1)) (xs (i + 2)) (xs (i + 3)) (xs (i + 4)) (xs (i + 5)) σ1 (v, σ2) e2) ?_
  refine l_eq dL_law_320 (tgt := 1122) (by decide) ?_
  exact kk _ hI2
theorem law_drop {G : Gx} {b L i : Nat} {xs : Nat → Int32} {σ : Sg} (hI : Inv σ) (hi : i + 6 ≤ L) (hL : L ≤ 384) (kk : ∀ σ2, Inv σ2 → LV G b L xs 1122 i [] σ2) : LV G b L xs 325 i [] σ := by
  obtain ⟨v, σ1, σ2, e1, e2, hI2⟩ := T_drop hI (xs (i + 1))
  refine l_ald dL_law_325 2 rfl rfl ?_
  refine l_arg (k := 1) dL_law_326 dL_law_327 dL_law_328 (by decide) dL_law_329 dL_law_330 (by omega) hL ?_
  refine l_call (k := 0) (As := [.int (xs (i + 1))]) dL_law_331 tw334 tw335 tw336 ykX11_drop (by decide) rfl (by decide) ok_10 rfl ⟨rfl, rfl, by decide, by decide⟩ rfl rfl (Nat.le_of_ble_eq_true rfl) (eX_drop (xs (i + 1)) σ (v, σ1) e1) ?_
  refine l_ald dL_law_334 1 rfl rfl ?_
  refine l_arg (k := 1) dL_law_335 dL_law_336 dL_law_337 (by decide) dL_law_338 dL_law_339 (by omega) hL ?_
  refine l_call (k := 200) (As := [.int (xs (i + 1))]) dL_law_340 tw793 tw794 tw795 ykX12_drop (by decide) rfl (by decide) ok_11 rfl ⟨rfl, rfl, by decide, by decide⟩ rfl rfl (Nat.le_of_ble_eq_true rfl) (eM_drop (xs (i + 1)) σ1 (v, σ2) e2) ?_
  refine l_eq dL_law_343 (tgt := 1122) (by decide) ?_
  exact kk _ hI2
theorem law_feed {G : Gx} {b L i : Nat} {xs : Nat → Int32} {σ : Sg} (hI : Inv σ) (hi : i + 6 ≤ L) (hL : L ≤ 384) (kk : ∀ σ2, Inv σ2 → LV G b L xs 1122 i [] σ2) : LV G b L xs 348 i [] σ := by
  obtain ⟨v, σ1, σ2, e1, e2, hI2⟩ := T_feed hI (xs (i + 1))
  refine l_ald dL_law_348 2 rfl rfl ?_
  refine l_arg (k := 1) dL_law_349 dL_law_350 dL_law_351 (by decide) dL_law_352 dL_law_353 (by omega) hL ?_
  refine l_call (k := 0) (As := [.int (xs (i + 1))]) dL_law_354 tw338 tw339 tw340 ykX11_feed (by decide) rfl (by decide) ok_10 rfl ⟨rfl, rfl, by decide, by decide⟩ rfl rfl (Nat.le_of_ble_eq_true rfl) (eX_feed (xs (i + 1)) σ (v, σ1) e1) ?_
  refine l_ald dL_law_357 1 rfl rfl ?_
  refine l_arg (k := 1) dL_law_358 dL_law_359 dL_law_360 (by decide) dL_law_361 dL_law_362 (by omega) hL ?_
  refine l_call (k := 200) (As := [.int (xs (i + 1))]) dL_law_363 tw797 tw798 tw799 ykX12_feed (by decide) rfl (by decide) ok_11 rfl ⟨rfl, rfl, by decide, by decide⟩ rfl rfl (Nat.le_of_ble_eq_true rfl) (eM_feed (xs (i + 1)) σ1 (v, σ2) e2) ?_
  refine l_eq dL_law_366 (tgt := 1122) (by decide) ?_
  exact kk _ hI2
theorem law_house {G : Gx} {b L i : Nat} {xs : Nat → Int32} {σ : Sg} (hI : Inv σ) (hi : i + 6 ≤ L) (hL : L ≤ 384) (kk : ∀ σ2, Inv σ2 → LV G b L xs 1122 i [] σ2) : LV G b L xs 371 i [] σ := by
  obtain ⟨v, σ1, σ2, e1, e2, hI2⟩ := T_house hI
  refine l_ald dL_law_371 2 rfl rfl ?_
  refine l_call (k := 0) (As := []) dL_law_372 tw343 tw344 tw345 ykX11_house (by decide) rfl (by decide) ok_10 rfl ⟨rfl, rfl, by decide, by decide⟩ rfl rfl (Nat.le_of_ble_eq_true rfl) (eX_house σ (v, σ1) e1) ?_
  refine l_ald dL_law_375 1 rfl rfl ?_
  refine l_call (k := 200) (As := []) dL_law_376 tw802 tw803 tw804 ykX12_house (by decide) rfl (by decide) ok_11 rfl ⟨rfl, rfl, by decide, by decide⟩ rfl rfl (Nat.le_of_ble_eq_true rfl) (eM_house σ1 (v, σ2) e2) ?_
  refine l_eq dL_law_379 (tgt := 1122) (by decide) ?_
  exact kk _ hI2
theorem law_fault {G : Gx} {b L i : Nat} {xs : Nat → Int32} {σ : Sg} (hI : Inv σ) (hi : i + 6 ≤ L) (hL : L ≤ 384) (kk : ∀ σ2, Inv σ2 → LV G b L xs 1122 i [] σ2) : LV G b L xs 384 i [] σ := by
  obtain ⟨v, e1, e2⟩ := T_fault hI
  refine l_ald dL_law_384 2 rfl rfl ?_
  refine l_call (k := 0) (As := []) dL_law_385 tw392 tw393 tw394 ykX11_fault (by decide) rfl (by decide) ok_10 rfl ⟨rfl, rfl, by decide, by decide⟩ rfl rfl (Nat.le_of_ble_eq_true rfl) (eX_fault σ v e1) ?_
  refine l_ald dL_law_388 1 rfl rfl ?_
  refine l_call (k := 200) (As := []) dL_law_389 tw841 tw842 tw843 ykX12_fault (by decide) rfl (by decide) ok_11 rfl ⟨rfl, rfl, by decide, by decide⟩ rfl rfl (Nat.le_of_ble_eq_true rfl) (eM_fault σ v e2) ?_
  refine l_eq dL_law_392 (tgt := 1122) (by decide) ?_
  exact kk _ hI
theorem law_steps {G : Gx} {b L i : Nat} {xs : Nat → Int32} {σ : Sg} (hI : Inv σ) (hi : i + 6 ≤ L) (hL : L ≤ 384) (kk : ∀ σ2, Inv σ2 → LV G b L xs 1122 i [] σ2) : LV G b L xs 397 i [] σ := by
  obtain ⟨v, σ1, σ2, e1, e2, hI2⟩ := T_steps hI (xs (i + 1))
  refine l_ald dL_law_397 2 rfl rfl ?_
  refine l_arg (k := 1) dL_law_398 dL_law_399 dL_law_400 (by decide) dL_law_401 dL_law_402 (by omega) hL ?_
  refine l_call (k := 0) (As := [.int (xs (i + 1))]) dL_law_403 tw396 tw397 tw398 ykX11_steps (by decide) rfl (by decide) ok_10 rfl ⟨rfl, rfl, by decide, by decide⟩ rfl rfl (Nat.le_of_ble_eq_true rfl) (eX_steps (xs (i + 1)) σ (v, σ1) e1) ?_
  refine l_ald dL_law_406 1 rfl rfl ?_
  refine l_arg (k := 1) dL_law_407 dL_law_408 dL_law_409 (by decide) dL_law_410 dL_law_411 (by omega) hL ?_
  refine l_call (k := 200) (As := [.int (xs (i + 1))]) dL_law_412 tw845 tw846 tw847 ykX12_steps (by decide) rfl (by decide) ok_11 rfl ⟨rfl, rfl, by decide, by decide⟩ rfl rfl (Nat.le_of_ble_eq_true rfl) (eM_steps (xs (i + 1)) σ1 (v, σ2) e2) ?_
  refine l_eq dL_law_415 (tgt := 1122) (by decide) ?_
  exact kk _ hI2
theorem law_show {G : Gx} {b L i : Nat} {xs : Nat → Int32} {σ : Sg} (hI : Inv σ) (hi : i + 6 ≤ L) (hL : L ≤ 384) (kk : ∀ σ2, Inv σ2 → LV G b L xs 1122 i [] σ2) : LV G b L xs 420 i [] σ := by
  obtain ⟨v, σ1, σ2, e1, e2, hI2⟩ := T_show hI (xs (i + 1)) (xs (i + 2))
  refine l_ald dL_law_420 2 rfl rfl ?_
  refine l_arg (k := 1) dL_law_421 dL_law_422 dL_law_423 (by decide) dL_law_424 dL_law_425 (by omega) hL ?_
  refine l_arg (k := 2) dL_law_426 dL_law_427 dL_law_428 (by decide) dL_law_429 dL_law_430 (by omega) hL ?_
  refine l_call (k := 0) (As := [.int (xs (i + 1)), .int (xs (i + 2))]) dL_law_431 tw436 tw437 tw438 ykX11_show (by decide) rfl (by decide) ok_10 rfl ⟨rfl, rfl, by decide, by decide⟩ rfl rfl (Nat.le_of_ble_eq_true rfl) (eX_show (xs (i + 1)) (xs (i + 2)) σ (v, σ1) e1) ?_
  refine l_ald dL_law_434 1 rfl rfl ?_
  refine l_arg (k := 1) dL_law_435 dL_law_436 dL_law_437 (by decide) dL_law_438 dL_law_439 (by omega) hL ?_
  refine l_arg (k := 2) dL_law_440 dL_law_441 dL_law_442 (by decide) dL_law_443 dL_law_444 (by omega) hL ?_
  refine l_call (k := 200) (As := [.int (xs (i + 1)), .int (xs (i + 2))]) dL_law_445 tw876 tw877 tw878 ykX12_show (by decide) rfl (by decide) ok_11 rfl ⟨rfl, rfl, by decide, by decide⟩ rfl rfl (Nat.le_of_ble_eq_true rfl) (eM_show (xs (i + 1)) (xs (i + 2)) σ1 (v, σ2) e2) ?_
  refine l_eq dL_law_448 (tgt := 1122) (by decide) ?_
  exact kk _ hI2
theorem law_walk {G : Gx} {b L i : Nat} {xs : Nat → Int32} {σ : Sg} (hI : Inv σ) (hi : i + 6 ≤ L) (hL : L ≤ 384) (kk : ∀ σ2, Inv σ2 → LV G b L xs 1122 i [] σ2) : LV G b L xs 453 i [] σ := by
  obtain ⟨v, σ1, σ2, e1, e2, hI2⟩ := T_walk hI (xs (i + 1)) (xs (i + 2))
  refine l_ald dL_law_453 2 rfl rfl ?_
  refine l_arg (k := 1) dL_law_454 dL_law_455 dL_law_456 (by decide) dL_law_457 dL_law_458 (by omega) hL ?_
  refine l_arg (k := 2) dL_law_459 dL_law_460 dL_law_461 (by decide) dL_law_462 dL_law_463 (by omega) hL ?_
  refine l_call (k := 0) (As := [.int (xs (i + 1)), .int (xs (i + 2))]) dL_law_464 tw448 tw449 tw450 ykX11_walk (by decide) rfl (by decide) ok_10 rfl ⟨rfl, rfl, by decide, by decide⟩ rfl rfl (Nat.le_of_ble_eq_true rfl) (eX_walk (xs (i + 1)) (xs (i + 2)) σ (v, σ1) e1) ?_
  refine l_ald dL_law_467 1 rfl rfl ?_
  refine l_arg (k := 1) dL_law_468 dL_law_469 dL_law_470 (by decide) dL_law_471 dL_law_472 (by omega) hL ?_
  refine l_arg (k := 2) dL_law_473 dL_law_474 dL_law_475 (by decide) dL_law_476 dL_law_477 (by omega) hL ?_
  refine l_call (k := 200) (As := [.int (xs (i + 1)), .int (xs (i + 2))]) dL_law_478 tw884 tw885 tw886 ykX12_walk (by decide) rfl (by decide) ok_11 rfl ⟨rfl, rfl, by decide, by decide⟩ rfl rfl (Nat.le_of_ble_eq_true rfl) (eM_walk (xs (i + 1)) (xs (i + 2)) σ1 (v, σ2) e2) ?_
  refine l_eq dL_law_481 (tgt := 1122) (by decide) ?_
  exact kk _ hI2
theorem law_undo {G : Gx} {b L i : Nat} {xs : Nat → Int32} {σ : Sg} (hI : Inv σ) (hi : i + 6 ≤ L) (hL : L ≤ 384) (kk : ∀ σ2, Inv σ2 → LV G b L xs 1122 i [] σ2) : LV G b L xs 486 i [] σ := by
  obtain ⟨v, σ1, σ2, e1, e2, hI2⟩ := T_undo hI
  refine l_ald dL_law_486 2 rfl rfl ?_
  refine l_call (k := 0) (As := []) dL_law_487 tw452 tw453 tw454 ykX11_undo (by decide) rfl (by decide) ok_10 rfl ⟨rfl, rfl, by decide, by decide⟩ rfl rfl (Nat.le_of_ble_eq_true rfl) (eX_undo σ (v, σ1) e1) ?_
  refine l_ald dL_law_490 1 rfl rfl ?_
  refine l_call (k := 200) (As := []) dL_law_491 tw888 tw889 tw890 ykX12_undo (by decide) rfl (by decide) ok_11 rfl ⟨rfl, rfl, by decide, by decide⟩ rfl rfl (Nat.le_of_ble_eq_true rfl) (eM_undo σ1 (v, σ2) e2) ?_
  refine l_eq dL_law_494 (tgt := 1122) (by decide) ?_
  exact kk _ hI2
theorem law_person {G : Gx} {b L i : Nat} {xs : Nat → Int32} {σ : Sg} (hI : Inv σ) (hi : i + 6 ≤ L) (hL : L ≤ 384) (kk : ∀ σ2, Inv σ2 → LV G b L xs 1122 i [] σ2) : LV G b L xs 499 i [] σ := by
  obtain ⟨v, e1, e2⟩ := T_person hI (xs (i + 1)) (xs (i + 2))
  refine l_ald dL_law_499 2 rfl rfl ?_
  refine l_arg (k := 1) dL_law_500 dL_law_501 dL_law_502 (by decide) dL_law_503 dL_law_504 (by omega) hL ?_
  refine l_arg (k := 2) dL_law_505 dL_law_506 dL_law_507 (by decide) dL_law_508 dL_law_509 (by omega) hL ?_
  refine l_call (k := 0) (As := [.int (xs (i + 1)), .int (xs (i + 2))]) dL_law_510 tw460 tw461 tw462 ykX11_person (by decide) rfl (by decide) ok_10 rfl ⟨rfl, rfl, by decide, by decide⟩ rfl rfl (Nat.le_of_ble_eq_true rfl) (eX_person (xs (i + 1)) (xs (i + 2)) σ v e1) ?_
  refine l_ald dL_law_513 1 rfl rfl ?_
  refine l_arg (k := 1) dL_law_514 dL_law_515 dL_law_516 (by decide) dL_law_517 dL_law_518 (by omega) hL ?_
  refine l_arg (k := 2) dL_law_519 dL_law_520 dL_law_521 (by decide) dL_law_522 dL_law_523 (by omega) hL ?_
  refine l_call (k := 200) (As := [.int (xs (i + 1)), .int (xs (i + 2))]) dL_law_524 tw892 tw893 tw894 ykX12_person (by decide) rfl (by decide) ok_11 rfl ⟨rfl, rfl, by decide, by decide⟩ rfl rfl (Nat.le_of_ble_eq_true rfl) (eM_person (xs (i + 1)) (xs (i + 2)) σ v e2) ?_
  refine l_eq dL_law_527 (tgt := 1122) (by decide) ?_
  exact kk _ hI
theorem law_minds {G : Gx} {b L i : Nat} {xs : Nat → Int32} {σ : Sg} (hI : Inv σ) (hi : i + 6 ≤ L) (hL : L ≤ 384) (kk : ∀ σ2, Inv σ2 → LV G b L xs 1122 i [] σ2) : LV G b L xs 532 i [] σ := by
  obtain ⟨v, e1, e2⟩ := T_minds hI (xs (i + 1)) (xs (i + 2))
  refine l_ald dL_law_532 2 rfl rfl ?_
  refine l_arg (k := 1) dL_law_533 dL_law_534 dL_law_535 (by decide) dL_law_536 dL_law_537 (by omega) hL ?_
  refine l_arg (k := 2) dL_law_538 dL_law_539 dL_law_540 (by decide) dL_law_541 dL_law_542 (by omega) hL ?_
  refine l_call (k := 0) (As := [.int (xs (i + 1)), .int (xs (i + 2))]) dL_law_543 tw466 tw467 tw468 ykX11_minds (by decide) rfl (by decide) ok_10 rfl ⟨rfl, rfl, by decide, by decide⟩ rfl rfl (Nat.le_of_ble_eq_true rfl) (eX_minds (xs (i + 1)) (xs (i + 2)) σ v e1) ?_
  refine l_ald dL_law_546 1 rfl rfl ?_
  refine l_arg (k := 1) dL_law_547 dL_law_548 dL_law_549 (by decide) dL_law_550 dL_law_551 (by omega) hL ?_
  refine l_arg (k := 2) dL_law_552 dL_law_553 dL_law_554 (by decide) dL_law_555 dL_law_556 (by omega) hL ?_
  refine l_call (k := 200) (As := [.int (xs (i + 1)), .int (xs (i + 2))]) dL_law_557 tw896 tw897 tw898 ykX12_minds (by decide) rfl (by decide) ok_11 rfl ⟨rfl, rfl, by decide, by decide⟩ rfl rfl (Nat.le_of_ble_eq_true rfl) (eM_minds (xs (i + 1)) (xs (i + 2)) σ v e2) ?_
  refine l_eq dL_law_560 (tgt := 1122) (by decide) ?_
  exact kk _ hI
theorem law_car {G : Gx} {b L i : Nat} {xs : Nat → Int32} {σ : Sg} (hI : Inv σ) (hi : i + 6 ≤ L) (hL : L ≤ 384) (kk : ∀ σ2, Inv σ2 → LV G b L xs 1122 i [] σ2) : LV G b L xs 565 i [] σ := by
  obtain ⟨v, σ1, e1, e2, hI2⟩ := T_car hI (xs (i + 1))
  refine l_ald dL_law_565 2 rfl rfl ?_
  refine l_arg (k := 1) dL_law_566 dL_law_567 dL_law_568 (by decide) dL_law_569 dL_law_570 (by omega) hL ?_
  refine l_call (k := 0) (As := [.int (xs (i + 1))]) dL_law_571 tw471 tw472 tw473 ykX11_car (by decide) rfl (by decide) ok_10 rfl ⟨rfl, rfl, by decide, by decide⟩ rfl rfl (Nat.le_of_ble_eq_true rfl) (eX_car (xs (i + 1)) σ (v, σ1) e1) ?_
  refine l_ald dL_law_574 1 rfl rfl ?_
  refine l_arg (k := 1) dL_law_575 dL_law_576 dL_law_577 (by decide) dL_law_578 dL_law_579 (by omega) hL ?_
  refine l_call (k := 200) (As := [.int (xs (i + 1))]) dL_law_580 tw900 tw901 tw902 ykX12_car (by decide) rfl (by decide) ok_11 rfl ⟨rfl, rfl, by decide, by decide⟩ rfl rfl (Nat.le_of_ble_eq_true rfl) (eM_car (xs (i + 1)) σ1 v e2) ?_
  refine l_eq dL_law_583 (tgt := 1122) (by decide) ?_
  exact kk _ hI2
theorem law_ahead {G : Gx} {b L i : Nat} {xs : Nat → Int32} {σ : Sg} (hI : Inv σ) (hi : i + 6 ≤ L) (hL : L ≤ 384) (kk : ∀ σ2, Inv σ2 → LV G b L xs 1122 i [] σ2) : LV G b L xs 588 i [] σ := by
  obtain ⟨v, σ1, σ2, e1, e2, hI2⟩ := T_ahead hI (xs (i + 1)) (xs (i + 2))
  refine l_ald dL_law_588 2 rfl rfl ?_
  refine l_arg (k := 1) dL_law_589 dL_law_590 dL_law_591 (by decide) dL_law_592 dL_law_593 (by omega) hL ?_
  refine l_arg (k := 2) dL_law_594 dL_law_595 dL_law_596 (by decide) dL_law_597 dL_law_598 (by omega) hL ?_
  refine l_call (k := 0) (As := [.int (xs (i + 1)), .int (xs (i + 2))]) dL_law_599 tw480 tw481 tw482 ykX11_ahead (by decide) rfl (by decide) ok_10 rfl ⟨rfl, rfl, by decide, by decide⟩ rfl rfl (Nat.le_of_ble_eq_true rfl) (eX_ahead (xs (i + 1)) (xs (i + 2)) σ (v, σ1) e1) ?_
  refine l_ald dL_law_602 1 rfl rfl ?_
  refine l_arg (k := 1) dL_law_603 dL_law_604 dL_law_605 (by decide) dL_law_606 dL_law_607 (by omega) hL ?_
  refine l_arg (k := 2) dL_law_608 dL_law_609 dL_law_610 (by decide) dL_law_611 dL_law_612 (by omega) hL ?_
  refine l_call (k := 200) (As := [.int (xs (i + 1)), .int (xs (i + 2))]) dL_law_613 tw910 tw911 tw912 ykX12_ahead (by decide) rfl (by decide) ok_11 rfl ⟨rfl, rfl, by decide, by decide⟩ rfl rfl (Nat.le_of_ble_eq_true rfl) (eM_ahead (xs (i + 1)) (xs (i + 2)) σ1 (v, σ2) e2) ?_
  refine l_eq dL_law_616 (tgt := 1122) (by decide) ?_
  exact kk _ hI2
theorem law_when {G : Gx} {b L i : Nat} {xs : Nat → Int32} {σ : Sg} (hI : Inv σ) (hi : i + 6 ≤ L) (hL : L ≤ 384) (kk : ∀ σ2, Inv σ2 → LV G b L xs 1122 i [] σ2) : LV G b L xs 621 i [] σ := by
  obtain ⟨v, σ1, σ2, e1, e2, hI2⟩ := T_when hI (xs (i + 1))
  refine l_ald dL_law_621 2 rfl rfl ?_
  refine l_arg (k := 1) dL_law_622 dL_law_623 dL_law_624 (by decide) dL_law_625 dL_law_626 (by omega) hL ?_
  refine l_call (k := 0) (As := [.int (xs (i + 1))]) dL_law_627 tw493 tw494 tw495 ykX11_when (by decide) rfl (by decide) ok_10 rfl ⟨rfl, rfl, by decide, by decide⟩ rfl rfl (Nat.le_of_ble_eq_true rfl) (eX_when (xs (i + 1)) σ (v, σ1) e1) ?_
  refine l_ald dL_law_630 1 rfl rfl ?_
  refine l_arg (k := 1) dL_law_631 dL_law_632 dL_law_633 (by decide) dL_law_634 dL_law_635 (by omega) hL ?_
  refine l_call (k := 200) (As := [.int (xs (i + 1))]) dL_law_636 tw921 tw922 tw923 ykX12_when (by decide) rfl (by decide) ok_11 rfl ⟨rfl, rfl, by decide, by decide⟩ rfl rfl (Nat.le_of_ble_eq_true rfl) (eM_when (xs (i + 1)) σ1 (v, σ2) e2) ?_
  refine l_eq dL_law_639 (tgt := 1122) (by decide) ?_
  exact kk _ hI2
theorem law_first {G : Gx} {b L i : Nat} {xs : Nat → Int32} {σ : Sg} (hI : Inv σ) (hi : i + 6 ≤ L) (hL : L ≤ 384) (kk : ∀ σ2, Inv σ2 → LV G b L xs 1122 i [] σ2) : LV G b L xs 644 i [] σ := by
  obtain ⟨v, σ1, σ2, e1, e2, hI2⟩ := T_first hI (xs (i + 1))
  refine l_ald dL_law_644 2 rfl rfl ?_
  refine l_arg (k := 1) dL_law_645 dL_law_646 dL_law_647 (by decide) dL_law_648 dL_law_649 (by omega) hL ?_
  refine l_call (k := 0) (As := [.int (xs (i + 1))]) dL_law_650 tw501 tw502 tw503 ykX11_first (by decide) rfl (by decide) ok_10 rfl ⟨rfl, rfl, by decide, by decide⟩ rfl rfl (Nat.le_of_ble_eq_true rfl) (eX_first (xs (i + 1)) σ (v, σ1) e1) ?_
  refine l_ald dL_law_653 1 rfl rfl ?_
  refine l_arg (k := 1) dL_law_654 dL_law_655 dL_law_656 (by decide) dL_law_657 dL_law_658 (by omega) hL ?_
  refine l_call (k := 200) (As := [.int (xs (i + 1))]) dL_law_659 tw929 tw930 tw931 ykX12_first (by decide) rfl (by decide) ok_11 rfl ⟨rfl, rfl, by decide, by decide⟩ rfl rfl (Nat.le_of_ble_eq_true rfl) (eM_first (xs (i + 1)) σ1 (v, σ2) e2) ?_
  refine l_eq dL_law_662 (tgt := 1122) (by decide) ?_
  exact kk _ hI2
theorem law_never {G : Gx} {b L i : Nat} {xs : Nat → Int32} {σ : Sg} (hI : Inv σ) (hi : i + 6 ≤ L) (hL : L ≤ 384) (kk : ∀ σ2, Inv σ2 → LV G b L xs 1122 i [] σ2) : LV G b L xs 667 i [] σ := by
  obtain ⟨v, σ1, σ2, e1, e2, hI2⟩ := T_never hI
  refine l_ald dL_law_667 2 rfl rfl ?_
  refine l_call (k := 0) (As := []) dL_law_668 tw505 tw506 tw507 ykX11_never (by decide) rfl (by decide) ok_10 rfl ⟨rfl, rfl, by decide, by decide⟩ rfl rfl (Nat.le_of_ble_eq_true rfl) (eX_never σ (v, σ1) e1) ?_
  refine l_ald dL_law_671 1 rfl rfl ?_
  refine l_call (k := 200) (As := []) dL_law_672 tw936 tw937 tw938 ykX12_never (by decide) rfl (by decide) ok_11 rfl ⟨rfl, rfl, by decide, by decide⟩ rfl rfl (Nat.le_of_ble_eq_true rfl) (eM_never σ1 (v, σ2) e2) ?_
  refine l_eq dL_law_675 (tgt := 1122) (by decide) ?_
  exact kk _ hI2
theorem law_least {G : Gx} {b L i : Nat} {xs : Nat → Int32} {σ : Sg} (hI : Inv σ) (hi : i + 6 ≤ L) (hL : L ≤ 384) (kk : ∀ σ2, Inv σ2 → LV G b L xs 1122 i [] σ2) : LV G b L xs 680 i [] σ := by
  obtain ⟨v, σ1, σ2, e1, e2, hI2⟩ := T_least hI (xs (i + 1)) (xs (i + 2))
  refine l_ald dL_law_680 2 rfl rfl ?_
  refine l_arg (k := 1) dL_law_681 dL_law_682 dL_law_683 (by decide) dL_law_684 dL_law_685 (by omega) hL ?_
  refine l_arg (k := 2) dL_law_686 dL_law_687 dL_law_688 (by decide) dL_law_689 dL_law_690 (by omega) hL ?_
  refine l_call (k := 0) (As := [.int (xs (i + 1)), .int (xs (i + 2))]) dL_law_691 tw509 tw510 tw511 ykX11_least (by decide) rfl (by decide) ok_10 rfl ⟨rfl, rfl, by decide, by decide⟩ rfl rfl (Nat.le_of_ble_eq_true rfl) (eX_least (xs (i + 1)) (xs (i + 2)) σ (v, σ1) e1) ?_
  refine l_ald dL_law_694 1 rfl rfl ?_
  refine l_arg (k := 1) dL_law_695 dL_law_696 dL_law_697 (by decide) dL_law_698 dL_law_699 (by omega) hL ?_
  refine l_arg (k := 2) dL_law_700 dL_law_701 dL_law_702 (by decide) dL_law_703 dL_law_704 (by omega) hL ?_
  refine l_call (k := 200) (As := [.int (xs (i + 1)), .int (xs (i + 2))]) dL_law_705 tw940 tw941 tw942 ykX12_least (by decide) rfl (by decide) ok_11 rfl ⟨rfl, rfl, by decide, by decide⟩ rfl rfl (Nat.le_of_ble_eq_true rfl) (eM_least (xs (i + 1)) (xs (i + 2)) σ1 (v, σ2) e2) ?_
  refine l_eq dL_law_708 (tgt := 1122) (by decide) ?_
  exact kk _ hI2
theorem law_hide {G : Gx} {b L i : Nat} {xs : Nat → Int32} {σ : Sg} (hI : Inv σ) (hi : i + 6 ≤ L) (hL : L ≤ 384) (kk : ∀ σ2, Inv σ2 → LV G b L xs 1122 i [] σ2) : LV G b L xs 713 i [] σ := by
  obtain ⟨v, σ1, σ2, e1, e2, hI2⟩ := T_hide hI (xs (i + 1))
  refine l_ald dL_law_713 2 rfl rfl ?_
  refine l_arg (k := 1) dL_law_714 dL_law_715 dL_law_716 (by decide) dL_law_717 dL_law_718 (by omega) hL ?_
  refine l_call (k := 0) (As := [.int (xs (i + 1))]) dL_law_719 tw513 tw514 tw515 ykX11_hide (by decide) rfl (by decide) ok_10 rfl ⟨rfl, rfl, by decide, by decide⟩ rfl rfl (Nat.le_of_ble_eq_true rfl) (eX_hide (xs (i + 1)) σ (v, σ1) e1) ?_
  refine l_ald dL_law_722 1 rfl rfl ?_
  refine l_arg (k := 1) dL_law_723 dL_law_724 dL_law_725 (by decide) dL_law_726 dL_law_727 (by omega) hL ?_
  refine l_call (k := 200) (As := [.int (xs (i + 1))]) dL_law_728 tw944 tw945 tw946 ykX12_hide (by decide) rfl (by decide) ok_11 rfl ⟨rfl, rfl, by decide, by decide⟩ rfl rfl (Nat.le_of_ble_eq_true rfl) (eM_hide (xs (i + 1)) σ1 (v, σ2) e2) ?_
  refine l_eq dL_law_731 (tgt := 1122) (by decide) ?_
  exact kk _ hI2
theorem law_beside {G : Gx} {b L i : Nat} {xs : Nat → Int32} {σ : Sg} (hI : Inv σ) (hi : i + 6 ≤ L) (hL : L ≤ 384) (kk : ∀ σ2, Inv σ2 → LV G b L xs 1122 i [] σ2) : LV G b L xs 736 i [] σ := by
  obtain ⟨v, σ1, σ2, e1, e2, hI2⟩ := T_beside hI (xs (i + 1)) (xs (i + 2))
  refine l_ald dL_law_736 2 rfl rfl ?_
  refine l_arg (k := 1) dL_law_737 dL_law_738 dL_law_739 (by decide) dL_law_740 dL_law_741 (by omega) hL ?_
  refine l_arg (k := 2) dL_law_742 dL_law_743 dL_law_744 (by decide) dL_law_745 dL_law_746 (by omega) hL ?_
  refine l_call (k := 0) (As := [.int (xs (i + 1)), .int (xs (i + 2))]) dL_law_747 tw532 tw533 tw534 ykX11_beside (by decide) rfl (by decide) ok_10 rfl ⟨rfl, rfl, by decide, by decide⟩ rfl rfl (Nat.le_of_ble_eq_true rfl) (eX_beside (xs (i + 1)) (xs (i + 2)) σ (v, σ1) e1) ?_
  refine l_ald dL_law_750 1 rfl rfl ?_
  refine l_arg (k := 1) dL_law_751 dL_law_752 dL_law_753 (by decide) dL_law_754 dL_law_755 (by omega) hL ?_
  refine l_arg (k := 2) dL_law_756 dL_law_757 dL_law_758 (by decide) dL_law_759 dL_law_760 (by omega) hL ?_
  refine l_call (k := 200) (As := [.int (xs (i + 1)), .int (xs (i + 2))]) dL_law_761 tw955 tw956 tw957 ykX12_beside (by decide) rfl (by decide) ok_11 rfl ⟨rfl, rfl, by decide, by decide⟩ rfl rfl (Nat.le_of_ble_eq_true rfl) (eM_beside (xs (i + 1)) (xs (i + 2)) σ1 (v, σ2) e2) ?_
  refine l_eq dL_law_764 (tgt := 1122) (by decide) ?_
  exact kk _ hI2
theorem law_fits {G : Gx} {b L i : Nat} {xs : Nat → Int32} {σ : Sg} (hI : Inv σ) (hi : i + 6 ≤ L) (hL : L ≤ 384) (kk : ∀ σ2, Inv σ2 → LV G b L xs 1122 i [] σ2) : LV G b L xs 769 i [] σ := by
  obtain ⟨v, σ1, σ2, e1, e2, hI2⟩ := T_fits hI (xs (i + 1)) (xs (i + 2)) (xs (i + 3)) (xs (i + 4)) (xs (i + 5))
  refine l_ald dL_law_769 2 rfl rfl ?_
  refine l_arg (k := 1) dL_law_770 dL_law_771 dL_law_772 (by decide) dL_law_773 dL_law_774 (by omega) hL ?_
  refine l_arg (k := 2) dL_law_775 dL_law_776 dL_law_777 (by decide) dL_law_778 dL_law_779 (by omega) hL ?_
  refine l_arg (k := 3) dL_law_780 dL_law_781 dL_law_782 (by decide) dL_law_783 dL_law_784 (by omega) hL ?_
  refine l_arg (k := 4) dL_law_785 dL_law_786 dL_law_787 (by decide) dL_law_788 dL_law_789 (by omega) hL ?_
  refine l_arg (k := 5) dL_law_790 dL_law_791 dL_law_792 (by decide) dL_law_793 dL_law_794 (by omega) hL ?_
  refine l_call (k := 0) (As := [.int (xs (i + 1)), .int (xs (i + 2)), .int (xs (i + 3)), .int (xs (i + 4)), .int (xs (i + 5))]) dL_law_795 tw536 tw537 tw538 ykX11_fits (by decide) rfl (by decide) ok_10 rfl ⟨rfl, rfl, by decide, by decide⟩ rfl rfl (Nat.le_of_ble_eq_true rfl) (eX_fits (xs (i + 1)) (xs (i + 2)) (xs (i + 3)) (xs (i + 4)) (xs (i + 5)) σ (v, σ1) e1) ?_
  refine l_ald dL_law_798 1 rfl rfl ?_
  refine l_arg (k := 1) dL_law_799 dL_law_800 dL_law_801 (by decide) dL_law_802 dL_law_803 (by omega) hL ?_
  refine l_arg (k := 2) dL_law_804 dL_law_805 dL_law_806 (by decide) dL_law_807 dL_law_808 (by omega) hL ?_
  refine l_arg (k := 3) dL_law_809 dL_law_810 dL_law_811 (by decide) dL_law_812 dL_law_813 (by omega) hL ?_
  refine l_arg (k := 4) dL_law_814 dL_law_815 dL_law_816 (by decide) dL_law_817 dL_law_818 (by omega) hL ?_
  refine l_arg (k := 5) dL_law_819 dL_law_820 dL_law_821 (by decide) dL_law_822 dL_law_823 (by omega) hL ?_
  refine l_call (k := 200) (As := [.int (xs (i + 1)), .int (xs (i + 2)), .int (xs (i + 3)), .int (xs (i + 4)), .int (xs (i + 5))]) dL_law_824 tw959 tw960 tw961 ykX12_fits (by decide) rfl (by decide) ok_11 rfl ⟨rfl, rfl, by decide, by decide⟩ rfl rfl (Nat.le_of_ble_eq_true rfl) (eM_fits (xs (i + 1)) (xs (i + 2)) (xs (i + 3)) (xs (i + 4)) (xs (i + 5)) σ1 (v, σ2) e2) ?_
  refine l_eq dL_law_827 (tgt := 1122) (by decide) ?_
  exact kk _ hI2
theorem law_hidden {G : Gx} {b L i : Nat} {xs : Nat → Int32} {σ : Sg} (hI : Inv σ) (hi : i + 6 ≤ L) (hL : L ≤ 384) (kk : ∀ σ2, Inv σ2 → LV G b L xs 1122 i [] σ2) : LV G b L xs 832 i [] σ := by
  obtain ⟨v, σ1, σ2, e1, e2, hI2⟩ := T_hidden hI (xs (i + 1)) (xs (i + 2)) (xs (i + 3)) (xs (i + 4))
  refine l_ald dL_law_832 2 rfl rfl ?_
  refine l_arg (k := 1) dL_law_833 dL_law_834 dL_law_835 (by decide) dL_law_836 dL_law_837 (by omega) hL ?_
  refine l_arg (k := 2) dL_law_838 dL_law_839 dL_law_840 (by decide) dL_law_841 dL_law_842 (by omega) hL ?_
  refine l_arg (k := 3) dL_law_843 dL_law_844 dL_law_845 (by decide) dL_law_846 dL_law_847 (by omega) hL ?_
  refine l_arg (k := 4) dL_law_848 dL_law_849 dL_law_850 (by decide) dL_law_851 dL_law_852 (by omega) hL ?_
  refine l_call (k := 0) (As := [.int (xs (i + 1)), .int (xs (i + 2)), .int (xs (i + 3)), .int (xs (i + 4))]) dL_law_853 tw552 tw553 tw554 ykX11_hidden (by decide) rfl (by decide) ok_10 rfl ⟨rfl, rfl, by decide, by decide⟩ rfl rfl (Nat.le_of_ble_eq_true rfl) (eX_hidden (xs (i + 1)) (xs (i + 2)) (xs (i + 3)) (xs (i + 4)) σ (v, σ1) e1) ?_
  refine l_ald dL_law_856 1 rfl rfl ?_
  refine l_arg (k := 1) dL_law_857 dL_law_858 dL_law_859 (by decide) dL_law_860 dL_law_861 (by omega) hL ?_
  refine l_arg (k := 2) dL_law_862 dL_law_863 dL_law_864 (by decide) dL_law_865 dL_law_866 (by omega) hL ?_
  refine l_arg (k := 3) dL_law_867 dL_law_868 dL_law_869 (by decide) dL_law_870 dL_law_871 (by omega) hL ?_
  refine l_arg (k := 4) dL_law_872 dL_law_873 dL_law_874 (by decide) dL_law_875 dL_law_876 (by omega) hL ?_
  refine l_call (k := 200) (As := [.int (xs (i + 1)), .int (xs (i + 2)), .int (xs (i + 3)), .int (xs (i + 4))]) dL_law_877 tw967 tw968 tw969 ykX12_hidden (by decide) rfl (by decide) ok_11 rfl ⟨rfl, rfl, by decide, by decide⟩ rfl rfl (Nat.le_of_ble_eq_true rfl) (eM_hidden (xs (i + 1)) (xs (i + 2)) (xs (i + 3)) (xs (i + 4)) σ1 (v, σ2) e2) ?_
  refine l_eq dL_law_880 (tgt := 1122) (by decide) ?_
  exact kk _ hI2
theorem law_drawn {G : Gx} {b L i : Nat} {xs : Nat → Int32} {σ : Sg} (hI : Inv σ) (hi : i + 6 ≤ L) (hL : L ≤ 384) (kk : ∀ σ2, Inv σ2 → LV G b L xs 1122 i [] σ2) : LV G b L xs 885 i [] σ := by
  obtain ⟨v, σ1, σ2, e1, e2, hI2⟩ := T_drawn hI (xs (i + 1)) (xs (i + 2)) (xs (i + 3))
  refine l_ald dL_law_885 2 rfl rfl ?_
  refine l_arg (k := 1) dL_law_886 dL_law_887 dL_law_888 (by decide) dL_law_889 dL_law_890 (by omega) hL ?_
  refine l_arg (k := 2) dL_law_891 dL_law_892 dL_law_893 (by decide) dL_law_894 dL_law_895 (by omega) hL ?_
  refine l_arg (k := 3) dL_law_896 dL_law_897 dL_law_898 (by decide) dL_law_899 dL_law_900 (by omega) hL ?_
  refine l_call (k := 0) (As := [.int (xs (i + 1)), .int (xs (i + 2)), .int (xs (i + 3))]) dL_law_901 tw573 tw574 tw575 ykX11_drawn (by decide) rfl (by decide) ok_10 rfl ⟨rfl, rfl, by decide, by decide⟩ rfl rfl (Nat.le_of_ble_eq_true rfl) (eX_drawn (xs (i + 1)) (xs (i + 2)) (xs (i + 3)) σ (v, σ1) e1) ?_
  refine l_ald dL_law_904 1 rfl rfl ?_
  refine l_arg (k := 1) dL_law_905 dL_law_906 dL_law_907 (by decide) dL_law_908 dL_law_909 (by omega) hL ?_
  refine l_arg (k := 2) dL_law_910 dL_law_911 dL_law_912 (by decide) dL_law_913 dL_law_914 (by omega) hL ?_
  refine l_arg (k := 3) dL_law_915 dL_law_916 dL_law_917 (by decide) dL_law_918 dL_law_919 (by omega) hL ?_
  refine l_call (k := 200) (As := [.int (xs (i + 1)), .int (xs (i + 2)), .int (xs (i + 3))]) dL_law_920 tw971 tw972 tw973 ykX12_drawn (by decide) rfl (by decide) ok_11 rfl ⟨rfl, rfl, by decide, by decide⟩ rfl rfl (Nat.le_of_ble_eq_true rfl) (eM_drawn (xs (i + 1)) (xs (i + 2)) (xs (i + 3)) σ1 (v, σ2) e2) ?_
  refine l_eq dL_law_923 (tgt := 1122) (by decide) ?_
  exact kk _ hI2
theorem law_image {G : Gx} {b L i : Nat} {xs : Nat → Int32} {σ : Sg} (hI : Inv σ) (hi : i + 6 ≤ L) (hL : L ≤ 384) (kk : ∀ σ2, Inv σ2 → LV G b L xs 1122 i [] σ2) : LV G b L xs 928 i [] σ := by
  obtain ⟨v, σ1, σ2, e1, e2, hI2⟩ := T_image hI (xs (i + 1))
  refine l_ald dL_law_928 2 rfl rfl ?_
  refine l_arg (k := 1) dL_law_929 dL_law_930 dL_law_931 (by decide) dL_law_932 dL_law_933 (by omega) hL ?_
  refine l_call (k := 0) (As := [.int (xs (i + 1))]) dL_law_934 tw585 tw586 tw587 ykX11_image (by decide) rfl (by decide) ok_10 rfl ⟨rfl, rfl, by decide, by decide⟩ rfl rfl (Nat.le_of_ble_eq_true rfl) (eX_image (xs (i + 1)) σ (v, σ1) e1) ?_
  refine l_ald dL_law_937 1 rfl rfl ?_
  refine l_arg (k := 1) dL_law_938 dL_law_939 dL_law_940 (by decide) dL_law_941 dL_law_942 (by omega) hL ?_
  refine l_call (k := 200) (As := [.int (xs (i + 1))]) dL_law_943 tw979 tw980 tw981 ykX12_image (by decide) rfl (by decide) ok_11 rfl ⟨rfl, rfl, by decide, by decide⟩ rfl rfl (Nat.le_of_ble_eq_true rfl) (eM_image (xs (i + 1)) σ1 (v, σ2) e2) ?_
  refine l_eq dL_law_946 (tgt := 1122) (by decide) ?_
  exact kk _ hI2
theorem law_restore {G : Gx} {b L i : Nat} {xs : Nat → Int32} {σ : Sg} (hI : Inv σ) (hi : i + 6 ≤ L) (hL : L ≤ 384) (kk : ∀ σ2, Inv σ2 → LV G b L xs 1122 i [] σ2) : LV G b L xs 951 i [] σ := by
  obtain ⟨v, σ1, σ2, e1, e2, hI2⟩ := T_restore hI (xs (i + 1))
  refine l_ald dL_law_951 2 rfl rfl ?_
  refine l_arg (k := 1) dL_law_952 dL_law_953 dL_law_954 (by decide) dL_law_955 dL_law_956 (by omega) hL ?_
  refine l_call (k := 0) (As := [.int (xs (i + 1))]) dL_law_957 tw589 tw590 tw591 ykX11_restore (by decide) rfl (by decide) ok_10 rfl ⟨rfl, rfl, by decide, by decide⟩ rfl rfl (Nat.le_of_ble_eq_true rfl) (eX_restore (xs (i + 1)) σ (v, σ1) e1) ?_
  refine l_ald dL_law_960 1 rfl rfl ?_
  refine l_arg (k := 1) dL_law_961 dL_law_962 dL_law_963 (by decide) dL_law_964 dL_law_965 (by omega) hL ?_
  refine l_call (k := 200) (As := [.int (xs (i + 1))]) dL_law_966 tw983 tw984 tw985 ykX12_restore (by decide) rfl (by decide) ok_11 rfl ⟨rfl, rfl, by decide, by decide⟩ rfl rfl (Nat.le_of_ble_eq_true rfl) (eM_restore (xs (i + 1)) σ1 (v, σ2) e2) ?_
  refine l_eq dL_law_969 (tgt := 1122) (by decide) ?_
  exact kk _ hI2
theorem law_kind {G : Gx} {b L i : Nat} {xs : Nat → Int32} {σ : Sg} (hI : Inv σ) (hi : i + 6 ≤ L) (hL : L ≤ 384) (kk : ∀ σ2, Inv σ2 → LV G b L xs 1122 i [] σ2) : LV G b L xs 974 i [] σ := by
  obtain ⟨v, e1, e2⟩ := T_kind hI (xs (i + 1))
  refine l_ald dL_law_974 2 rfl rfl ?_
  refine l_arg (k := 1) dL_law_975 dL_law_976 dL_law_977 (by decide) dL_law_978 dL_law_979 (by omega) hL ?_
  refine l_call (k := 0) (As := [.int (xs (i + 1))]) dL_law_980 tw593 tw594 tw595 ykX11_kind (by decide) rfl (by decide) ok_10 rfl ⟨rfl, rfl, by decide, by decide⟩ rfl rfl (Nat.le_of_ble_eq_true rfl) (eX_kind (xs (i + 1)) σ v e1) ?_
  refine l_ald dL_law_983 1 rfl rfl ?_
  refine l_arg (k := 1) dL_law_984 dL_law_985 dL_law_986 (by decide) dL_law_987 dL_law_988 (by omega) hL ?_
  refine l_call (k := 200) (As := [.int (xs (i + 1))]) dL_law_989 tw987 tw988 tw989 ykX12_kind (by decide) rfl (by decide) ok_11 rfl ⟨rfl, rfl, by decide, by decide⟩ rfl rfl (Nat.le_of_ble_eq_true rfl) (eM_kind (xs (i + 1)) σ v e2) ?_
  refine l_eq dL_law_992 (tgt := 1122) (by decide) ?_
  exact kk _ hI
theorem law_as {G : Gx} {b L i : Nat} {xs : Nat → Int32} {σ : Sg} (hI : Inv σ) (hi : i + 6 ≤ L) (hL : L ≤ 384) (kk : ∀ σ2, Inv σ2 → LV G b L xs 1122 i [] σ2) : LV G b L xs 997 i [] σ := by
  obtain ⟨v, σ1, σ2, e1, e2, hI2⟩ := T_as hI (xs (i + 1)) (xs (i + 2))
  refine l_ald dL_law_997 2 rfl rfl ?_
  refine l_arg (k := 1) dL_law_998 dL_law_999 dL_law_1000 (by decide) dL_law_1001 dL_law_1002 (by omega) hL ?_
  refine l_arg (k := 2) dL_law_1003 dL_law_1004 dL_law_1005 (by decide) dL_law_1006 dL_law_1007 (by omega) hL ?_
  refine l_call (k := 0) (As := [.int (xs (i + 1)), .int (xs (i + 2))]) dL_law_1008 tw597 tw598 tw599 ykX11_as (by decide) rfl (by decide) ok_10 rfl ⟨rfl, rfl, by decide, by decide⟩ rfl rfl (Nat.le_of_ble_eq_true rfl) (eX_as (xs (i + 1)) (xs (i + 2)) σ (v, σ1) e1) ?_
  refine l_ald dL_law_1011 1 rfl rfl ?_
  refine l_arg (k := 1) dL_law_1012 dL_law_1013 dL_law_1014 (by decide) dL_law_1015 dL_law_1016 (by omega) hL ?_
  refine l_arg (k := 2) dL_law_1017 dL_law_1018 dL_law_1019 (by decide) dL_law_1020 dL_law_1021 (by omega) hL ?_
  refine l_call (k := 200) (As := [.int (xs (i + 1)), .int (xs (i + 2))]) dL_law_1022 tw995 tw996 tw997 ykX12_as (by decide) rfl (by decide) ok_11 rfl ⟨rfl, rfl, by decide, by decide⟩ rfl rfl (Nat.le_of_ble_eq_true rfl) (eM_as (xs (i + 1)) (xs (i + 2)) σ1 (v, σ2) e2) ?_
  refine l_eq dL_law_1025 (tgt := 1122) (by decide) ?_
  exact kk _ hI2
theorem law_ask {G : Gx} {b L i : Nat} {xs : Nat → Int32} {σ : Sg} (hI : Inv σ) (hi : i + 6 ≤ L) (hL : L ≤ 384) (kk : ∀ σ2, Inv σ2 → LV G b L xs 1122 i [] σ2) : LV G b L xs 1030 i [] σ := by
  obtain ⟨v, σ1, σ2, e1, e2, hI2⟩ := T_ask hI (xs (i + 1)) (xs (i + 2))
  refine l_ald dL_law_1030 2 rfl rfl ?_
  refine l_arg (k := 1) dL_law_1031 dL_law_1032 dL_law_1033 (by decide) dL_law_1034 dL_law_1035 (by omega) hL ?_
  refine l_arg (k := 2) dL_law_1036 dL_law_1037 dL_law_1038 (by decide) dL_law_1039 dL_law_1040 (by omega) hL ?_
  refine l_call (k := 0) (As := [.int (xs (i + 1)), .int (xs (i + 2))]) dL_law_1041 tw608 tw609 tw610 ykX11_ask (by decide) rfl (by decide) ok_10 rfl ⟨rfl, rfl, by decide, by decide⟩ rfl rfl (Nat.le_of_ble_eq_true rfl) (eX_ask (xs (i + 1)) (xs (i + 2)) σ (v, σ1) e1) ?_
  refine l_ald dL_law_1044 1 rfl rfl ?_
  refine l_arg (k := 1) dL_law_1045 dL_law_1046 dL_law_1047 (by decide) dL_law_1048 dL_law_1049 (by omega) hL ?_
  refine l_arg (k := 2) dL_law_1050 dL_law_1051 dL_law_1052 (by decide) dL_law_1053 dL_law_1054 (by omega) hL ?_
  refine l_call (k := 200) (As := [.int (xs (i + 1)), .int (xs (i + 2))]) dL_law_1055 tw999 tw1000 tw1001 ykX12_ask (by decide) rfl (by decide) ok_11 rfl ⟨rfl, rfl, by decide, by decide⟩ rfl rfl (Nat.le_of_ble_eq_true rfl) (eM_ask (xs (i + 1)) (xs (i + 2)) σ1 (v, σ2) e2) ?_
  refine l_eq dL_law_1058 (tgt := 1122) (by decide) ?_
  exact kk _ hI2
theorem law_trace {G : Gx} {b L i : Nat} {xs : Nat → Int32} {σ : Sg} (hI : Inv σ) (hi : i + 6 ≤ L) (hL : L ≤ 384) (kk : ∀ σ2, Inv σ2 → LV G b L xs 1122 i [] σ2) : LV G b L xs 1063 i [] σ := by
  obtain ⟨v, e1, e2⟩ := T_trace hI (xs (i + 1))
  refine l_ald dL_law_1063 2 rfl rfl ?_
  refine l_arg (k := 1) dL_law_1064 dL_law_1065 dL_law_1066 (by decide) dL_law_1067 dL_law_1068 (by omega) hL ?_
  refine l_call (k := 0) (As := [.int (xs (i + 1))]) dL_law_1069 tw664 tw665 tw666 ykX11_trace (by decide) rfl (by decide) ok_10 rfl ⟨rfl, rfl, by decide, by decide⟩ rfl rfl (Nat.le_of_ble_eq_true rfl) (eX_trace (xs (i + 1)) σ v e1) ?_
  refine l_ald dL_law_1072 1 rfl rfl ?_
  refine l_arg (k := 1) dL_law_1073 dL_law_1074 dL_law_1075 (by decide) dL_law_1076 dL_law_1077 (by omega) hL ?_
  refine l_call (k := 200) (As := [.int (xs (i + 1))]) dL_law_1078 tw1023 tw1024 tw1025 ykX12_trace (by decide) rfl (by decide) ok_11 rfl ⟨rfl, rfl, by decide, by decide⟩ rfl rfl (Nat.le_of_ble_eq_true rfl) (eM_trace (xs (i + 1)) σ v e2) ?_
  refine l_eq dL_law_1081 (tgt := 1122) (by decide) ?_
  exact kk _ hI
theorem law_count {G : Gx} {b L i : Nat} {xs : Nat → Int32} {σ : Sg} (hI : Inv σ) (hi : i + 6 ≤ L) (hL : L ≤ 384) (kk : ∀ σ2, Inv σ2 → LV G b L xs 1122 i [] σ2) : LV G b L xs 1086 i [] σ := by
  obtain ⟨v, e1, e2⟩ := T_count hI (xs (i + 1))
  refine l_ald dL_law_1086 2 rfl rfl ?_
  refine l_arg (k := 1) dL_law_1087 dL_law_1088 dL_law_1089 (by decide) dL_law_1090 dL_law_1091 (by omega) hL ?_
  refine l_call (k := 0) (As := [.int (xs (i + 1))]) dL_law_1092 tw668 tw669 tw670 ykX11_count (by decide) rfl (by decide) ok_10 rfl ⟨rfl, rfl, by decide, by decide⟩ rfl rfl (Nat.le_of_ble_eq_true rfl) (eX_count (xs (i + 1)) σ v e1) ?_
  refine l_ald dL_law_1095 1 rfl rfl ?_
  refine l_arg (k := 1) dL_law_1096 dL_law_1097 dL_law_1098 (by decide) dL_law_1099 dL_law_1100 (by omega) hL ?_
  refine l_call (k := 200) (As := [.int (xs (i + 1))]) dL_law_1101 tw1027 tw1028 tw1029 ykX12_count (by decide) rfl (by decide) ok_11 rfl ⟨rfl, rfl, by decide, by decide⟩ rfl rfl (Nat.le_of_ble_eq_true rfl) (eM_count (xs (i + 1)) σ v e2) ?_
  refine l_eq dL_law_1104 (tgt := 1122) (by decide) ?_
  exact kk _ hI
theorem law_status {G : Gx} {b L i : Nat} {xs : Nat → Int32} {σ : Sg} (hI : Inv σ) (hi : i + 6 ≤ L) (hL : L ≤ 384) (kk : ∀ σ2, Inv σ2 → LV G b L xs 1122 i [] σ2) : LV G b L xs 1109 i [] σ := by
  obtain ⟨v, e1, e2⟩ := T_status hI
  refine l_ald dL_law_1109 2 rfl rfl ?_
  refine l_call (k := 0) (As := []) dL_law_1110 tw676 tw677 tw678 ykX11_status (by decide) rfl (by decide) ok_10 rfl ⟨rfl, rfl, by decide, by decide⟩ rfl rfl (Nat.le_of_ble_eq_true rfl) (eX_status σ v e1) ?_
  refine l_ald dL_law_1113 1 rfl rfl ?_
  refine l_call (k := 200) (As := []) dL_law_1114 tw1031 tw1032 tw1033 ykX12_status (by decide) rfl (by decide) ok_11 rfl ⟨rfl, rfl, by decide, by decide⟩ rfl rfl (Nat.le_of_ble_eq_true rfl) (eM_status σ v e2) ?_
  refine l_eq dL_law_1117 (tgt := 1122) (by decide) ?_
  exact kk _ hI
theorem and31 (x : Int32) : ∃ k, k < 32 ∧ x &&& 31 = nI k := by
  refine ⟨(x &&& 31).toUInt32.toNat, ?_, ?_⟩
  · have h : (x &&& 31).toUInt32.toNat = x.toUInt32.toNat &&& 31 := rfl
    rw [h]
    exact Nat.lt_succ_of_le Nat.and_le_right
  · have h : UInt32.ofNat (x &&& 31).toUInt32.toNat = (x &&& 31).toUInt32 := UInt32.ofNat_toNat
    exact congrArg Int32.ofUInt32 h.symm
theorem nI_int {k : Nat} (h : k < 32) : (nI k).toInt = (k : Int) := by
  have q : ∀ k, k < 32 → (nI k).toInt = (k : Int) := by decide +kernel
  exact q k h
theorem l_sw {G : Gx} {b L i k : Nat} {xs : Nat → Int32} {σ : Sg} {off : Int} {tgt : Nat} (hk : k < 32) (ho : (#[143, 186, 229, 292, 315, 338, 351, 364, 387, 420, 453, 466, 499, 532, 555, 588, 611, 634, 647, 680, 703, 736, 799, 852, 895, 918, 941, 964, 997, 1030, 1053, 1076] : Array Int)[k]? = some off) (ht : (33 : Int) + off = (tgt : Int)) (kk : LV G b L xs tgt i [] σ) : LV G b L xs 33 i [.int (nI k)] σ := by
  intro p e s m below meth c H locs ls C hP hS hl
  refine lv_tableIn C.1.1 C.1.2.1 dL_law_33 (by rw [nI_int hk]; omega) (by rw [nI_int hk]; omega) (by rw [nI_int hk, show ((k : Int) - 0).toNat = k by omega]; exact ho) ht ?_
  exact kk p e s m below meth c H locs ls C hP hS hl
theorem l_body {G : Gx} {b L i : Nat} {xs : Nat → Int32} {σ : Sg} (hI : Inv σ) (hi : i + 6 ≤ L) (hL : L ≤ 384) (kk : ∀ σ2, Inv σ2 → LV G b L xs 1122 i [] σ2) : LV G b L xs 27 i [] σ := by
  obtain ⟨k, hk, hx⟩ := and31 (xs i)
  have h33 : LV G b L xs 33 i [.int (nI k)] σ := by
    have hc : k = 0 ∨ k = 1 ∨ k = 2 ∨ k = 3 ∨ k = 4 ∨ k = 5 ∨ k = 6 ∨ k = 7 ∨ k = 8 ∨ k = 9 ∨ k = 10 ∨ k = 11 ∨ k = 12 ∨ k = 13 ∨ k = 14 ∨ k = 15 ∨ k = 16 ∨ k = 17 ∨ k = 18 ∨ k = 19 ∨ k = 20 ∨ k = 21 ∨ k = 22 ∨ k = 23 ∨ k = 24 ∨ k = 25 ∨ k = 26 ∨ k = 27 ∨ k = 28 ∨ k = 29 ∨ k = 30 ∨ k = 31 := by omega
    rcases hc with h | h | h | h | h | h | h | h | h | h | h | h | h | h | h | h | h | h | h | h | h | h | h | h | h | h | h | h | h | h | h | h <;> subst h
    · exact l_sw (tgt := 176) hk rfl (by decide) (law_row hI hi hL kk)
    · exact l_sw (tgt := 219) hk rfl (by decide) (law_set hI hi hL kk)
    · exact l_sw (tgt := 262) hk rfl (by decide) (law_copy hI hi hL kk)
    · exact l_sw (tgt := 325) hk rfl (by decide) (law_drop hI hi hL kk)
    · exact l_sw (tgt := 348) hk rfl (by decide) (law_feed hI hi hL kk)
    · exact l_sw (tgt := 371) hk rfl (by decide) (law_house hI hi hL kk)
    · exact l_sw (tgt := 384) hk rfl (by decide) (law_fault hI hi hL kk)
    · exact l_sw (tgt := 397) hk rfl (by decide) (law_steps hI hi hL kk)
    · exact l_sw (tgt := 420) hk rfl (by decide) (law_show hI hi hL kk)
    · exact l_sw (tgt := 453) hk rfl (by decide) (law_walk hI hi hL kk)
    · exact l_sw (tgt := 486) hk rfl (by decide) (law_undo hI hi hL kk)
    · exact l_sw (tgt := 499) hk rfl (by decide) (law_person hI hi hL kk)
    · exact l_sw (tgt := 532) hk rfl (by decide) (law_minds hI hi hL kk)
    · exact l_sw (tgt := 565) hk rfl (by decide) (law_car hI hi hL kk)
    · exact l_sw (tgt := 588) hk rfl (by decide) (law_ahead hI hi hL kk)
    · exact l_sw (tgt := 621) hk rfl (by decide) (law_when hI hi hL kk)
    · exact l_sw (tgt := 644) hk rfl (by decide) (law_first hI hi hL kk)
    · exact l_sw (tgt := 667) hk rfl (by decide) (law_never hI hi hL kk)
    · exact l_sw (tgt := 680) hk rfl (by decide) (law_least hI hi hL kk)
    · exact l_sw (tgt := 713) hk rfl (by decide) (law_hide hI hi hL kk)
    · exact l_sw (tgt := 736) hk rfl (by decide) (law_beside hI hi hL kk)
    · exact l_sw (tgt := 769) hk rfl (by decide) (law_fits hI hi hL kk)
    · exact l_sw (tgt := 832) hk rfl (by decide) (law_hidden hI hi hL kk)
    · exact l_sw (tgt := 885) hk rfl (by decide) (law_drawn hI hi hL kk)
    · exact l_sw (tgt := 928) hk rfl (by decide) (law_image hI hi hL kk)
    · exact l_sw (tgt := 951) hk rfl (by decide) (law_restore hI hi hL kk)
    · exact l_sw (tgt := 974) hk rfl (by decide) (law_kind hI hi hL kk)
    · exact l_sw (tgt := 997) hk rfl (by decide) (law_as hI hi hL kk)
    · exact l_sw (tgt := 1030) hk rfl (by decide) (law_ask hI hi hL kk)
    · exact l_sw (tgt := 1063) hk rfl (by decide) (law_trace hI hi hL kk)
    · exact l_sw (tgt := 1086) hk rfl (by decide) (law_count hI hi hL kk)
    · exact l_sw (tgt := 1109) hk rfl (by decide) (law_status hI hi hL kk)
  intro p e s m below meth c H locs ls C hP hS hl
  refine lv_aload_n C.1.1 C.1.2.1 dL_law_27 rfl (lv_at hl 3 rfl) ?_
  refine lv_iload_n C.1.1 C.1.2.1 dL_law_28 rfl (lv_at hl 0 rfl) ?_
  refine va_sld C.1.1 C.1.2.1 C.1.2.2.2.2.2.2.1 C.1.2.2.2.2.2.2.2.1 (by rw [C.2.2]; exact Nat.not_le.mpr C.1.2.2.2.2.2.2.2.1) hS (nI_in (show i < L by omega) (by omega)) dL_law_29 ?_
  rw [show (nI i).toNatClampNeg = i from zix (by omega)]
  refine lv_bipush (v := 31) C.1.1 C.1.2.1 dL_law_30 (by decide) ?_
  refine lv_iand C.1.1 C.1.2.1 dL_law_32 ?_
  rw [hx]
  exact h33 p e s m below meth c H locs ls C hP hS hl
theorem l_len {L : Nat} (hL : L ≤ 384) : (L < 6 ∧ ∀ i, i ≤ 400 → Int32.ofNat L - 6 < nI i) ∨ (6 ≤ L ∧ Int32.ofNat L - 6 = nI (L - 6)) := by
  have q : ∀ L, L < 6 → Int32.ofNat L - 6 < 0 := by decide +kernel
  by_cases h : L < 6
  · refine Or.inl ⟨h, fun i hi => Int32.lt_of_lt_of_le (q L h) ?_⟩
    exact nI_le (Nat.zero_le i) (by omega)
  · refine Or.inr ⟨by omega, ?_⟩
    have e : nI (L - 6) + nI 6 = nI L := by rw [nI_add, show L - 6 + 6 = L by omega]
    show nI L - nI 6 = _
    rw [← e]
    exact Int32.add_sub_cancel _ _
theorem l_loop {G : Gx} {b L : Nat} {xs : Nat → Int32} (hL : L ≤ 384) : ∀ (n i : Nat) (σ : Sg), Inv σ → i ≤ 390 → L < i + 6 + 6 * n → LV G b L xs 18 i [] σ := by
  intro n
  induction n with
  | zero =>
    intro i σ hI h1 h2 p e s m below meth c H locs ls C hP hS hl
    refine lv_iload_n C.1.1 C.1.2.1 dL_law_18 rfl (lv_at hl 0 rfl) ?_
    refine lv_aload_n C.1.1 C.1.2.1 dL_law_19 rfl (lv_at hl 3 rfl) ?_
    refine va_slen C.1.1 C.1.2.1 C.1.2.2.2.2.2.2.1 C.1.2.2.2.2.2.2.2.1 (by rw [C.2.2]; exact Nat.not_le.mpr C.1.2.2.2.2.2.2.2.1) hS dL_law_20 ?_
    refine lv_bipush (v := 6) C.1.1 C.1.2.1 dL_law_21 (by decide) ?_
    refine lv_isub C.1.1 C.1.2.1 dL_law_23 ?_
    refine lv_icmp_gt (tgt := 1128) C.1.1 C.1.2.1 dL_law_24 (by decide) (fun _ => l_done p e s m below meth c H locs ls C hP hS hl) (fun h => absurd ?_ h)
    rcases l_len hL with ⟨h3, h4⟩ | ⟨h3, h4⟩
    · exact h4 i (by omega)
    · rw [h4]
      exact nI_lt (by omega) (by omega)
  | succ n ih =>
    intro i σ hI h1 h2 p e s m below meth c H locs ls C hP hS hl
    refine lv_iload_n C.1.1 C.1.2.1 dL_law_18 rfl (lv_at hl 0 rfl) ?_
    refine lv_aload_n C.1.1 C.1.2.1 dL_law_19 rfl (lv_at hl 3 rfl) ?_
    refine va_slen C.1.1 C.1.2.1 C.1.2.2.2.2.2.2.1 C.1.2.2.2.2.2.2.2.1 (by rw [C.2.2]; exact Nat.not_le.mpr C.1.2.2.2.2.2.2.2.1) hS dL_law_20 ?_
    refine lv_bipush (v := 6) C.1.1 C.1.2.1 dL_law_21 (by decide) ?_
    refine lv_isub C.1.1 C.1.2.1 dL_law_23 ?_
    refine lv_icmp_gt (tgt := 1128) C.1.1 C.1.2.1 dL_law_24 (by decide) (fun _ => l_done p e s m below meth c H locs ls C hP hS hl) (fun h => ?_)
    have h6 : i + 6 ≤ L := by
      rcases l_len hL with ⟨h3, h4⟩ | ⟨h3, h4⟩
      · exact absurd (h4 i (by omega)) h
      · rw [h4] at h
        refine Nat.le_of_not_lt fun q => h (nI_lt (by omega) (by omega))
    exact l_body hI h6 hL (fun σ2 hI2 => l_next (ih (i + 6) σ2 hI2 (by omega) (by omega))) p e s m below meth c H locs ls C hP hS hl
