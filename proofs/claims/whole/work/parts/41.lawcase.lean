
theorem sh_and63 (x : Int32) : ∃ n : Nat, n < 64 ∧ x &&& 63 = nI n := pk_andE x 6 rfl
section
variable {l : Launch} {B : Nat} {D : va_G} {ca : Nat → ClassId} {b L : Nat} {xs : Nat → Int32}
theorem lc_0 {Sim : sh_Mem → Prop} (hSG : ∀ μ, Sim μ → sh_G μ) (p0 : ∀ (μ : sh_Mem) (b1 b2 b3 b4 b5 : Int32), Sim μ → ∃ (v : Int32) (μ1 μ2 : sh_Mem), f_X11_feed b1 b2 b3 b4 b5 μ = some (v, μ1) ∧ f_X12_feed b1 b2 b3 b4 b5 μ1 = some (v, μ2) ∧ Sim μ2) {i : Nat} {μ : sh_Mem} (hL : L ≤ 3072) (hi : i + 6 ≤ L) (hS : Sim μ) (ih : ∀ μ, Sim μ → sh_U l B D ca b L xs 18 (i + 6) [] μ) : sh_U l B D ca b L xs 188 i [] μ := by
  obtain ⟨v, μ1, μ2, e1, e2, hS2⟩ := p0 μ (xs (i + 1)) (xs (i + 2)) (xs (i + 3)) (xs (i + 4)) (xs (i + 5)) hS
  have hG := hSG μ hS
  have hG1 : sh_G μ1 := gp_X11_feed hG e1
  refine lu_x 188 dL_188 ?_
  refine lu_arg 1 189 dL_189 dL_190 dL_191 (by decide) dL_192 dL_193 (by omega) hL ?_
  refine lu_arg 2 194 dL_194 dL_195 dL_196 (by decide) dL_197 dL_198 (by omega) hL ?_
  refine lu_arg 3 199 dL_199 dL_200 dL_201 (by decide) dL_202 dL_203 (by omega) hL ?_
  refine lu_arg 4 204 dL_204 dL_205 dL_206 (by decide) dL_207 dL_208 (by omega) hL ?_
  refine lu_arg 5 209 dL_209 dL_210 dL_211 (by decide) dL_212 dL_213 (by omega) hL ?_
  refine lu_call [_, _, _, _, _] 214 dL_214 ckL_13 (g_l_0 hG) ⟨by decide, rfl⟩ (t_X11_feed hG e1) (Nat.le_of_ble_eq_true rfl) ⟨Nat.le_of_ble_eq_true rfl, Nat.le_of_ble_eq_true rfl⟩ rfl (Nat.le_of_ble_eq_true rfl) ?_
  refine lu_m 217 dL_217 ?_
  refine lu_arg 1 218 dL_218 dL_219 dL_220 (by decide) dL_221 dL_222 (by omega) hL ?_
  refine lu_arg 2 223 dL_223 dL_224 dL_225 (by decide) dL_226 dL_227 (by omega) hL ?_
  refine lu_arg 3 228 dL_228 dL_229 dL_230 (by decide) dL_231 dL_232 (by omega) hL ?_
  refine lu_arg 4 233 dL_233 dL_234 dL_235 (by decide) dL_236 dL_237 (by omega) hL ?_
  refine lu_arg 5 238 dL_238 dL_239 dL_240 (by decide) dL_241 dL_242 (by omega) hL ?_
  refine lu_call [_, _, _, _, _] 243 dL_243 ckL_17 (g_l_291 hG1) ⟨by decide, rfl⟩ (t_X12_feed hG1 e2) (Nat.le_of_ble_eq_true rfl) ⟨Nat.le_of_ble_eq_true rfl, Nat.le_of_ble_eq_true rfl⟩ rfl (Nat.le_of_ble_eq_true rfl) ?_
  refine lu_eqi 246 dL_246 (by decide) rfl ?_
  exact lu_next (ih μ2 hS2)
theorem lc_1 {Sim : sh_Mem → Prop} (hSG : ∀ μ, Sim μ → sh_G μ) (p1 : ∀ (μ : sh_Mem) (b1 : Int32), Sim μ → ∃ (v : Int32) (μ1 μ2 : sh_Mem), f_X11_end b1 μ = some (v, μ1) ∧ f_X12_end b1 μ1 = some (v, μ2) ∧ Sim μ2) {i : Nat} {μ : sh_Mem} (hL : L ≤ 3072) (hi : i + 6 ≤ L) (hS : Sim μ) (ih : ∀ μ, Sim μ → sh_U l B D ca b L xs 18 (i + 6) [] μ) : sh_U l B D ca b L xs 251 i [] μ := by
  obtain ⟨v, μ1, μ2, e1, e2, hS2⟩ := p1 μ (xs (i + 1)) hS
  have hG := hSG μ hS
  have hG1 : sh_G μ1 := gp_X11_end hG e1
  refine lu_x 251 dL_251 ?_
  refine lu_arg 1 252 dL_252 dL_253 dL_254 (by decide) dL_255 dL_256 (by omega) hL ?_
  refine lu_call [_] 257 dL_257 ckL_18 (g_l_0 hG) ⟨by decide, rfl⟩ (t_X11_end hG e1) (Nat.le_of_ble_eq_true rfl) ⟨Nat.le_of_ble_eq_true rfl, Nat.le_of_ble_eq_true rfl⟩ rfl (Nat.le_of_ble_eq_true rfl) ?_
  refine lu_m 260 dL_260 ?_
  refine lu_arg 1 261 dL_261 dL_262 dL_263 (by decide) dL_264 dL_265 (by omega) hL ?_
  refine lu_call [_] 266 dL_266 ckL_22 (g_l_291 hG1) ⟨by decide, rfl⟩ (t_X12_end hG1 e2) (Nat.le_of_ble_eq_true rfl) ⟨Nat.le_of_ble_eq_true rfl, Nat.le_of_ble_eq_true rfl⟩ rfl (Nat.le_of_ble_eq_true rfl) ?_
  refine lu_eqi 269 dL_269 (by decide) rfl ?_
  exact lu_next (ih μ2 hS2)
theorem lc_2 {Sim : sh_Mem → Prop} (hSG : ∀ μ, Sim μ → sh_G μ) (p2 : ∀ (μ : sh_Mem), Sim μ → ∃ (v : Int32) (μ1 μ2 : sh_Mem), f_X11_plain μ = some (v, μ1) ∧ f_X12_plain μ1 = some (v, μ2) ∧ Sim μ2) {i : Nat} {μ : sh_Mem} (hL : L ≤ 3072) (hi : i + 6 ≤ L) (hS : Sim μ) (ih : ∀ μ, Sim μ → sh_U l B D ca b L xs 18 (i + 6) [] μ) : sh_U l B D ca b L xs 274 i [] μ := by
  obtain ⟨v, μ1, μ2, e1, e2, hS2⟩ := p2 μ  hS
  have hG := hSG μ hS
  have hG1 : sh_G μ1 := gp_X11_plain hG e1
  refine lu_x 274 dL_274 ?_
  refine lu_call [] 275 dL_275 ckL_23 (g_l_0 hG) ⟨by decide, rfl⟩ (t_X11_plain hG e1) (Nat.le_of_ble_eq_true rfl) ⟨Nat.le_of_ble_eq_true rfl, Nat.le_of_ble_eq_true rfl⟩ rfl (Nat.le_of_ble_eq_true rfl) ?_
  refine lu_m 278 dL_278 ?_
  refine lu_call [] 279 dL_279 ckL_27 (g_l_291 hG1) ⟨by decide, rfl⟩ (t_X12_plain hG1 e2) (Nat.le_of_ble_eq_true rfl) ⟨Nat.le_of_ble_eq_true rfl, Nat.le_of_ble_eq_true rfl⟩ rfl (Nat.le_of_ble_eq_true rfl) ?_
  refine lu_eqi 282 dL_282 (by decide) rfl ?_
  exact lu_next (ih μ2 hS2)
theorem lc_3 {Sim : sh_Mem → Prop} (hSG : ∀ μ, Sim μ → sh_G μ) (p3 : ∀ (μ : sh_Mem) (b1 : Int32), Sim μ → ∃ (v : Int32) (μ1 μ2 : sh_Mem), f_X11_fault μ b1 = v ∧ μ1 = μ ∧ f_X12_fault μ1 b1 = v ∧ μ2 = μ1 ∧ Sim μ2) {i : Nat} {μ : sh_Mem} (hL : L ≤ 3072) (hi : i + 6 ≤ L) (hS : Sim μ) (ih : ∀ μ, Sim μ → sh_U l B D ca b L xs 18 (i + 6) [] μ) : sh_U l B D ca b L xs 287 i [] μ := by
  obtain ⟨v, μ1, μ2, e1, f1, e2, f2, hS2⟩ := p3 μ (xs (i + 1)) hS
  have hG := hSG μ hS
  have hG1 : sh_G μ1 := by rw [f1]; exact hG
  refine lu_x 287 dL_287 ?_
  refine lu_arg 1 288 dL_288 dL_289 dL_290 (by decide) dL_291 dL_292 (by omega) hL ?_
  refine lu_call [_] 293 dL_293 ckL_28 (g_l_0 hG) ⟨by decide, rfl⟩ (c_X11_fault hG) (Nat.le_of_ble_eq_true rfl) ⟨Nat.le_of_ble_eq_true rfl, Nat.le_of_ble_eq_true rfl⟩ rfl (Nat.le_of_ble_eq_true rfl) ?_
  rw [e1]
  rw [show μ = μ1 from f1.symm]
  refine lu_m 296 dL_296 ?_
  refine lu_arg 1 297 dL_297 dL_298 dL_299 (by decide) dL_300 dL_301 (by omega) hL ?_
  refine lu_call [_] 302 dL_302 ckL_32 (g_l_291 hG1) ⟨by decide, rfl⟩ (c_X12_fault hG1) (Nat.le_of_ble_eq_true rfl) ⟨Nat.le_of_ble_eq_true rfl, Nat.le_of_ble_eq_true rfl⟩ rfl (Nat.le_of_ble_eq_true rfl) ?_
  rw [e2]
  rw [show μ1 = μ2 from f2.symm]
  refine lu_eqi 305 dL_305 (by decide) rfl ?_
  exact lu_next (ih μ2 hS2)
theorem lc_4 {Sim : sh_Mem → Prop} (hSG : ∀ μ, Sim μ → sh_G μ) (p4 : ∀ (μ : sh_Mem) (b1 : Int32), Sim μ → ∃ (v : Int32) (μ1 μ2 : sh_Mem), f_X11_has b1 μ = some (v, μ1) ∧ f_X12_has b1 μ1 = some (v, μ2) ∧ Sim μ2) {i : Nat} {μ : sh_Mem} (hL : L ≤ 3072) (hi : i + 6 ≤ L) (hS : Sim μ) (ih : ∀ μ, Sim μ → sh_U l B D ca b L xs 18 (i + 6) [] μ) : sh_U l B D ca b L xs 310 i [] μ := by
  obtain ⟨v, μ1, μ2, e1, e2, hS2⟩ := p4 μ (xs (i + 1)) hS
  have hG := hSG μ hS
  have hG1 : sh_G μ1 := gp_X11_has hG e1
  refine lu_x 310 dL_310 ?_
  refine lu_arg 1 311 dL_311 dL_312 dL_313 (by decide) dL_314 dL_315 (by omega) hL ?_
  refine lu_call [_] 316 dL_316 ckL_33 (g_l_0 hG) ⟨by decide, rfl⟩ (t_X11_has hG e1) (Nat.le_of_ble_eq_true rfl) ⟨Nat.le_of_ble_eq_true rfl, Nat.le_of_ble_eq_true rfl⟩ rfl (Nat.le_of_ble_eq_true rfl) ?_
  refine lu_m 319 dL_319 ?_
  refine lu_arg 1 320 dL_320 dL_321 dL_322 (by decide) dL_323 dL_324 (by omega) hL ?_
  refine lu_call [_] 325 dL_325 ckL_36 (g_l_291 hG1) ⟨by decide, rfl⟩ (t_X12_has hG1 e2) (Nat.le_of_ble_eq_true rfl) ⟨Nat.le_of_ble_eq_true rfl, Nat.le_of_ble_eq_true rfl⟩ rfl (Nat.le_of_ble_eq_true rfl) ?_
  refine lu_eqi 328 dL_328 (by decide) rfl ?_
  exact lu_next (ih μ2 hS2)
theorem lc_5 {Sim : sh_Mem → Prop} (hSG : ∀ μ, Sim μ → sh_G μ) (p5 : ∀ (μ : sh_Mem) (b1 b2 b3 : Int32), Sim μ → ∃ (v : Int32) (μ1 μ2 : sh_Mem), f_X11_letter b1 b2 b3 μ = some (v, μ1) ∧ f_X12_letter b1 b2 b3 μ1 = some (v, μ2) ∧ Sim μ2) {i : Nat} {μ : sh_Mem} (hL : L ≤ 3072) (hi : i + 6 ≤ L) (hS : Sim μ) (ih : ∀ μ, Sim μ → sh_U l B D ca b L xs 18 (i + 6) [] μ) : sh_U l B D ca b L xs 333 i [] μ := by
  obtain ⟨v, μ1, μ2, e1, e2, hS2⟩ := p5 μ (xs (i + 1)) (xs (i + 2)) (xs (i + 3)) hS
  have hG := hSG μ hS
  have hG1 : sh_G μ1 := gp_X11_letter hG e1
  refine lu_x 333 dL_333 ?_
  refine lu_arg 1 334 dL_334 dL_335 dL_336 (by decide) dL_337 dL_338 (by omega) hL ?_
  refine lu_arg 2 339 dL_339 dL_340 dL_341 (by decide) dL_342 dL_343 (by omega) hL ?_
  refine lu_arg 3 344 dL_344 dL_345 dL_346 (by decide) dL_347 dL_348 (by omega) hL ?_
  refine lu_call [_, _, _] 349 dL_349 ckL_37 (g_l_0 hG) ⟨by decide, rfl⟩ (t_X11_letter hG e1) (Nat.le_of_ble_eq_true rfl) ⟨Nat.le_of_ble_eq_true rfl, Nat.le_of_ble_eq_true rfl⟩ rfl (Nat.le_of_ble_eq_true rfl) ?_
  refine lu_m 352 dL_352 ?_
  refine lu_arg 1 353 dL_353 dL_354 dL_355 (by decide) dL_356 dL_357 (by omega) hL ?_
  refine lu_arg 2 358 dL_358 dL_359 dL_360 (by decide) dL_361 dL_362 (by omega) hL ?_
  refine lu_arg 3 363 dL_363 dL_364 dL_365 (by decide) dL_366 dL_367 (by omega) hL ?_
  refine lu_call [_, _, _] 368 dL_368 ckL_41 (g_l_291 hG1) ⟨by decide, rfl⟩ (t_X12_letter hG1 e2) (Nat.le_of_ble_eq_true rfl) ⟨Nat.le_of_ble_eq_true rfl, Nat.le_of_ble_eq_true rfl⟩ rfl (Nat.le_of_ble_eq_true rfl) ?_
  refine lu_eqi 371 dL_371 (by decide) rfl ?_
  exact lu_next (ih μ2 hS2)
theorem lc_6 {Sim : sh_Mem → Prop} (hSG : ∀ μ, Sim μ → sh_G μ) (p6 : ∀ (μ : sh_Mem) (b1 b2 : Int32), Sim μ → ∃ (v : Int32) (μ1 μ2 : sh_Mem), f_X11_height b1 b2 μ = some (v, μ1) ∧ f_X12_height b1 b2 μ1 = some (v, μ2) ∧ Sim μ2) {i : Nat} {μ : sh_Mem} (hL : L ≤ 3072) (hi : i + 6 ≤ L) (hS : Sim μ) (ih : ∀ μ, Sim μ → sh_U l B D ca b L xs 18 (i + 6) [] μ) : sh_U l B D ca b L xs 376 i [] μ := by
  obtain ⟨v, μ1, μ2, e1, e2, hS2⟩ := p6 μ (xs (i + 1)) (xs (i + 2)) hS
  have hG := hSG μ hS
  have hG1 : sh_G μ1 := gp_X11_height hG e1
  refine lu_x 376 dL_376 ?_
  refine lu_arg 1 377 dL_377 dL_378 dL_379 (by decide) dL_380 dL_381 (by omega) hL ?_
  refine lu_arg 2 382 dL_382 dL_383 dL_384 (by decide) dL_385 dL_386 (by omega) hL ?_
  refine lu_call [_, _] 387 dL_387 ckL_42 (g_l_0 hG) ⟨by decide, rfl⟩ (t_X11_height hG e1) (Nat.le_of_ble_eq_true rfl) ⟨Nat.le_of_ble_eq_true rfl, Nat.le_of_ble_eq_true rfl⟩ rfl (Nat.le_of_ble_eq_true rfl) ?_
  refine lu_m 390 dL_390 ?_
  refine lu_arg 1 391 dL_391 dL_392 dL_393 (by decide) dL_394 dL_395 (by omega) hL ?_
  refine lu_arg 2 396 dL_396 dL_397 dL_398 (by decide) dL_399 dL_400 (by omega) hL ?_
  refine lu_call [_, _] 401 dL_401 ckL_46 (g_l_291 hG1) ⟨by decide, rfl⟩ (t_X12_height hG1 e2) (Nat.le_of_ble_eq_true rfl) ⟨Nat.le_of_ble_eq_true rfl, Nat.le_of_ble_eq_true rfl⟩ rfl (Nat.le_of_ble_eq_true rfl) ?_
  refine lu_eqi 404 dL_404 (by decide) rfl ?_
  exact lu_next (ih μ2 hS2)
theorem lc_7 {Sim : sh_Mem → Prop} (hSG : ∀ μ, Sim μ → sh_G μ) (p7 : ∀ (μ : sh_Mem) (b1 b2 : Int32), Sim μ → ∃ (v : Int32) (μ1 μ2 : sh_Mem), f_X11_person b1 b2 μ = some (v, μ1) ∧ f_X12_person b1 b2 μ1 = some (v, μ2) ∧ Sim μ2) {i : Nat} {μ : sh_Mem} (hL : L ≤ 3072) (hi : i + 6 ≤ L) (hS : Sim μ) (ih : ∀ μ, Sim μ → sh_U l B D ca b L xs 18 (i + 6) [] μ) : sh_U l B D ca b L xs 409 i [] μ := by
  obtain ⟨v, μ1, μ2, e1, e2, hS2⟩ := p7 μ (xs (i + 1)) (xs (i + 2)) hS
  have hG := hSG μ hS
  have hG1 : sh_G μ1 := gp_X11_person hG e1
  refine lu_x 409 dL_409 ?_
  refine lu_arg 1 410 dL_410 dL_411 dL_412 (by decide) dL_413 dL_414 (by omega) hL ?_
  refine lu_arg 2 415 dL_415 dL_416 dL_417 (by decide) dL_418 dL_419 (by omega) hL ?_
  refine lu_call [_, _] 420 dL_420 ckL_47 (g_l_0 hG) ⟨by decide, rfl⟩ (t_X11_person hG e1) (Nat.le_of_ble_eq_true rfl) ⟨Nat.le_of_ble_eq_true rfl, Nat.le_of_ble_eq_true rfl⟩ rfl (Nat.le_of_ble_eq_true rfl) ?_
  refine lu_m 423 dL_423 ?_
  refine lu_arg 1 424 dL_424 dL_425 dL_426 (by decide) dL_427 dL_428 (by omega) hL ?_
  refine lu_arg 2 429 dL_429 dL_430 dL_431 (by decide) dL_432 dL_433 (by omega) hL ?_
  refine lu_call [_, _] 434 dL_434 ckL_50 (g_l_291 hG1) ⟨by decide, rfl⟩ (t_X12_person hG1 e2) (Nat.le_of_ble_eq_true rfl) ⟨Nat.le_of_ble_eq_true rfl, Nat.le_of_ble_eq_true rfl⟩ rfl (Nat.le_of_ble_eq_true rfl) ?_
  refine lu_eqi 437 dL_437 (by decide) rfl ?_
  exact lu_next (ih μ2 hS2)
theorem lc_8 {Sim : sh_Mem → Prop} (hSG : ∀ μ, Sim μ → sh_G μ) (p8 : ∀ (μ : sh_Mem) (b1 b2 : Int32), Sim μ → ∃ (v : Int32) (μ1 μ2 : sh_Mem), f_X11_list b1 b2 μ = some (v, μ1) ∧ f_X12_list b1 b2 μ1 = some (v, μ2) ∧ Sim μ2) {i : Nat} {μ : sh_Mem} (hL : L ≤ 3072) (hi : i + 6 ≤ L) (hS : Sim μ) (ih : ∀ μ, Sim μ → sh_U l B D ca b L xs 18 (i + 6) [] μ) : sh_U l B D ca b L xs 442 i [] μ := by
  obtain ⟨v, μ1, μ2, e1, e2, hS2⟩ := p8 μ (xs (i + 1)) (xs (i + 2)) hS
  have hG := hSG μ hS
  have hG1 : sh_G μ1 := gp_X11_list hG e1
  refine lu_x 442 dL_442 ?_
  refine lu_arg 1 443 dL_443 dL_444 dL_445 (by decide) dL_446 dL_447 (by omega) hL ?_
  refine lu_arg 2 448 dL_448 dL_449 dL_450 (by decide) dL_451 dL_452 (by omega) hL ?_
  refine lu_call [_, _] 453 dL_453 ckL_51 (g_l_0 hG) ⟨by decide, rfl⟩ (t_X11_list hG e1) (Nat.le_of_ble_eq_true rfl) ⟨Nat.le_of_ble_eq_true rfl, Nat.le_of_ble_eq_true rfl⟩ rfl (Nat.le_of_ble_eq_true rfl) ?_
  refine lu_m 456 dL_456 ?_
  refine lu_arg 1 457 dL_457 dL_458 dL_459 (by decide) dL_460 dL_461 (by omega) hL ?_
  refine lu_arg 2 462 dL_462 dL_463 dL_464 (by decide) dL_465 dL_466 (by omega) hL ?_
  refine lu_call [_, _] 467 dL_467 ckL_54 (g_l_291 hG1) ⟨by decide, rfl⟩ (t_X12_list hG1 e2) (Nat.le_of_ble_eq_true rfl) ⟨Nat.le_of_ble_eq_true rfl, Nat.le_of_ble_eq_true rfl⟩ rfl (Nat.le_of_ble_eq_true rfl) ?_
  refine lu_eqi 470 dL_470 (by decide) rfl ?_
  exact lu_next (ih μ2 hS2)
theorem lc_9 {Sim : sh_Mem → Prop} (hSG : ∀ μ, Sim μ → sh_G μ) (p9 : ∀ (μ : sh_Mem) (b1 b2 : Int32), Sim μ → ∃ (v : Int32) (μ1 μ2 : sh_Mem), f_X11_would b1 b2 μ = some (v, μ1) ∧ f_X12_would b1 b2 μ1 = some (v, μ2) ∧ Sim μ2) {i : Nat} {μ : sh_Mem} (hL : L ≤ 3072) (hi : i + 6 ≤ L) (hS : Sim μ) (ih : ∀ μ, Sim μ → sh_U l B D ca b L xs 18 (i + 6) [] μ) : sh_U l B D ca b L xs 475 i [] μ := by
  obtain ⟨v, μ1, μ2, e1, e2, hS2⟩ := p9 μ (xs (i + 1)) (xs (i + 2)) hS
  have hG := hSG μ hS
  have hG1 : sh_G μ1 := gp_X11_would hG e1
  refine lu_x 475 dL_475 ?_
  refine lu_arg 1 476 dL_476 dL_477 dL_478 (by decide) dL_479 dL_480 (by omega) hL ?_
  refine lu_arg 2 481 dL_481 dL_482 dL_483 (by decide) dL_484 dL_485 (by omega) hL ?_
  refine lu_call [_, _] 486 dL_486 ckL_55 (g_l_0 hG) ⟨by decide, rfl⟩ (t_X11_would hG e1) (Nat.le_of_ble_eq_true rfl) ⟨Nat.le_of_ble_eq_true rfl, Nat.le_of_ble_eq_true rfl⟩ rfl (Nat.le_of_ble_eq_true rfl) ?_
  refine lu_m 489 dL_489 ?_
  refine lu_arg 1 490 dL_490 dL_491 dL_492 (by decide) dL_493 dL_494 (by omega) hL ?_
  refine lu_arg 2 495 dL_495 dL_496 dL_497 (by decide) dL_498 dL_499 (by omega) hL ?_
  refine lu_call [_, _] 500 dL_500 ckL_58 (g_l_291 hG1) ⟨by decide, rfl⟩ (t_X12_would hG1 e2) (Nat.le_of_ble_eq_true rfl) ⟨Nat.le_of_ble_eq_true rfl, Nat.le_of_ble_eq_true rfl⟩ rfl (Nat.le_of_ble_eq_true rfl) ?_
  refine lu_eqi 503 dL_503 (by decide) rfl ?_
  exact lu_next (ih μ2 hS2)
theorem lc_10 {Sim : sh_Mem → Prop} (hSG : ∀ μ, Sim μ → sh_G μ) (p10 : ∀ (μ : sh_Mem) (b1 b2 : Int32), Sim μ → ∃ (v : Int32) (μ1 μ2 : sh_Mem), f_X11_kept b1 b2 μ = some (v, μ1) ∧ f_X12_kept b1 b2 μ1 = some (v, μ2) ∧ Sim μ2) {i : Nat} {μ : sh_Mem} (hL : L ≤ 3072) (hi : i + 6 ≤ L) (hS : Sim μ) (ih : ∀ μ, Sim μ → sh_U l B D ca b L xs 18 (i + 6) [] μ) : sh_U l B D ca b L xs 508 i [] μ := by
  obtain ⟨v, μ1, μ2, e1, e2, hS2⟩ := p10 μ (xs (i + 1)) (xs (i + 2)) hS
  have hG := hSG μ hS
  have hG1 : sh_G μ1 := gp_X11_kept hG e1
  refine lu_x 508 dL_508 ?_
  refine lu_arg 1 509 dL_509 dL_510 dL_511 (by decide) dL_512 dL_513 (by omega) hL ?_
  refine lu_arg 2 514 dL_514 dL_515 dL_516 (by decide) dL_517 dL_518 (by omega) hL ?_
  refine lu_call [_, _] 519 dL_519 ckL_59 (g_l_0 hG) ⟨by decide, rfl⟩ (t_X11_kept hG e1) (Nat.le_of_ble_eq_true rfl) ⟨Nat.le_of_ble_eq_true rfl, Nat.le_of_ble_eq_true rfl⟩ rfl (Nat.le_of_ble_eq_true rfl) ?_
  refine lu_m 522 dL_522 ?_
  refine lu_arg 1 523 dL_523 dL_524 dL_525 (by decide) dL_526 dL_527 (by omega) hL ?_
  refine lu_arg 2 528 dL_528 dL_529 dL_530 (by decide) dL_531 dL_532 (by omega) hL ?_
  refine lu_call [_, _] 533 dL_533 ckL_62 (g_l_291 hG1) ⟨by decide, rfl⟩ (t_X12_kept hG1 e2) (Nat.le_of_ble_eq_true rfl) ⟨Nat.le_of_ble_eq_true rfl, Nat.le_of_ble_eq_true rfl⟩ rfl (Nat.le_of_ble_eq_true rfl) ?_
  refine lu_eqi 536 dL_536 (by decide) rfl ?_
  exact lu_next (ih μ2 hS2)
theorem lc_11 {Sim : sh_Mem → Prop} (hSG : ∀ μ, Sim μ → sh_G μ) (p11 : ∀ (μ : sh_Mem) (b1 b2 b3 : Int32), Sim μ → ∃ (v : Int32) (μ1 μ2 : sh_Mem), f_X11_later b1 b2 b3 μ = some (v, μ1) ∧ f_X12_later b1 b2 b3 μ1 = some (v, μ2) ∧ Sim μ2) {i : Nat} {μ : sh_Mem} (hL : L ≤ 3072) (hi : i + 6 ≤ L) (hS : Sim μ) (ih : ∀ μ, Sim μ → sh_U l B D ca b L xs 18 (i + 6) [] μ) : sh_U l B D ca b L xs 541 i [] μ := by
  obtain ⟨v, μ1, μ2, e1, e2, hS2⟩ := p11 μ (xs (i + 1)) (xs (i + 2)) (xs (i + 3)) hS
  have hG := hSG μ hS
  have hG1 : sh_G μ1 := gp_X11_later hG e1
  refine lu_x 541 dL_541 ?_
  refine lu_arg 1 542 dL_542 dL_543 dL_544 (by decide) dL_545 dL_546 (by omega) hL ?_
  refine lu_arg 2 547 dL_547 dL_548 dL_549 (by decide) dL_550 dL_551 (by omega) hL ?_
  refine lu_arg 3 552 dL_552 dL_553 dL_554 (by decide) dL_555 dL_556 (by omega) hL ?_
  refine lu_call [_, _, _] 557 dL_557 ckL_63 (g_l_0 hG) ⟨by decide, rfl⟩ (t_X11_later hG e1) (Nat.le_of_ble_eq_true rfl) ⟨Nat.le_of_ble_eq_true rfl, Nat.le_of_ble_eq_true rfl⟩ rfl (Nat.le_of_ble_eq_true rfl) ?_
  refine lu_m 560 dL_560 ?_
  refine lu_arg 1 561 dL_561 dL_562 dL_563 (by decide) dL_564 dL_565 (by omega) hL ?_
  refine lu_arg 2 566 dL_566 dL_567 dL_568 (by decide) dL_569 dL_570 (by omega) hL ?_
  refine lu_arg 3 571 dL_571 dL_572 dL_573 (by decide) dL_574 dL_575 (by omega) hL ?_
  refine lu_call [_, _, _] 576 dL_576 ckL_66 (g_l_291 hG1) ⟨by decide, rfl⟩ (t_X12_later hG1 e2) (Nat.le_of_ble_eq_true rfl) ⟨Nat.le_of_ble_eq_true rfl, Nat.le_of_ble_eq_true rfl⟩ rfl (Nat.le_of_ble_eq_true rfl) ?_
  refine lu_eqi 579 dL_579 (by decide) rfl ?_
  exact lu_next (ih μ2 hS2)
theorem lc_12 {Sim : sh_Mem → Prop} (hSG : ∀ μ, Sim μ → sh_G μ) (p12 : ∀ (μ : sh_Mem) (b1 b2 : Int32), Sim μ → ∃ (v : Int32) (μ1 μ2 : sh_Mem), f_X11_tired b1 b2 μ = some (v, μ1) ∧ f_X12_tired b1 b2 μ1 = some (v, μ2) ∧ Sim μ2) {i : Nat} {μ : sh_Mem} (hL : L ≤ 3072) (hi : i + 6 ≤ L) (hS : Sim μ) (ih : ∀ μ, Sim μ → sh_U l B D ca b L xs 18 (i + 6) [] μ) : sh_U l B D ca b L xs 584 i [] μ := by
  obtain ⟨v, μ1, μ2, e1, e2, hS2⟩ := p12 μ (xs (i + 1)) (xs (i + 2)) hS
  have hG := hSG μ hS
  have hG1 : sh_G μ1 := gp_X11_tired hG e1
  refine lu_x 584 dL_584 ?_
  refine lu_arg 1 585 dL_585 dL_586 dL_587 (by decide) dL_588 dL_589 (by omega) hL ?_
  refine lu_arg 2 590 dL_590 dL_591 dL_592 (by decide) dL_593 dL_594 (by omega) hL ?_
  refine lu_call [_, _] 595 dL_595 ckL_67 (g_l_0 hG) ⟨by decide, rfl⟩ (t_X11_tired hG e1) (Nat.le_of_ble_eq_true rfl) ⟨Nat.le_of_ble_eq_true rfl, Nat.le_of_ble_eq_true rfl⟩ rfl (Nat.le_of_ble_eq_true rfl) ?_
  refine lu_m 598 dL_598 ?_
  refine lu_arg 1 599 dL_599 dL_600 dL_601 (by decide) dL_602 dL_603 (by omega) hL ?_
  refine lu_arg 2 604 dL_604 dL_605 dL_606 (by decide) dL_607 dL_608 (by omega) hL ?_
  refine lu_call [_, _] 609 dL_609 ckL_70 (g_l_291 hG1) ⟨by decide, rfl⟩ (t_X12_tired hG1 e2) (Nat.le_of_ble_eq_true rfl) ⟨Nat.le_of_ble_eq_true rfl, Nat.le_of_ble_eq_true rfl⟩ rfl (Nat.le_of_ble_eq_true rfl) ?_
  refine lu_eqi 612 dL_612 (by decide) rfl ?_
  exact lu_next (ih μ2 hS2)
theorem lc_13 {Sim : sh_Mem → Prop} (hSG : ∀ μ, Sim μ → sh_G μ) (p13 : ∀ (μ : sh_Mem) (b1 b2 b3 : Int32), Sim μ → ∃ (v : Int32) (μ1 μ2 : sh_Mem), f_X11_rises b1 b2 b3 μ = some (v, μ1) ∧ f_X12_rises b1 b2 b3 μ1 = some (v, μ2) ∧ Sim μ2) {i : Nat} {μ : sh_Mem} (hL : L ≤ 3072) (hi : i + 6 ≤ L) (hS : Sim μ) (ih : ∀ μ, Sim μ → sh_U l B D ca b L xs 18 (i + 6) [] μ) : sh_U l B D ca b L xs 617 i [] μ := by
  obtain ⟨v, μ1, μ2, e1, e2, hS2⟩ := p13 μ (xs (i + 1)) (xs (i + 2)) (xs (i + 3)) hS
  have hG := hSG μ hS
  have hG1 : sh_G μ1 := gp_X11_rises hG e1
  refine lu_x 617 dL_617 ?_
  refine lu_arg 1 618 dL_618 dL_619 dL_620 (by decide) dL_621 dL_622 (by omega) hL ?_
  refine lu_arg 2 623 dL_623 dL_624 dL_625 (by decide) dL_626 dL_627 (by omega) hL ?_
  refine lu_arg 3 628 dL_628 dL_629 dL_630 (by decide) dL_631 dL_632 (by omega) hL ?_
  refine lu_call [_, _, _] 633 dL_633 ckL_71 (g_l_0 hG) ⟨by decide, rfl⟩ (t_X11_rises hG e1) (Nat.le_of_ble_eq_true rfl) ⟨Nat.le_of_ble_eq_true rfl, Nat.le_of_ble_eq_true rfl⟩ rfl (Nat.le_of_ble_eq_true rfl) ?_
  refine lu_m 636 dL_636 ?_
  refine lu_arg 1 637 dL_637 dL_638 dL_639 (by decide) dL_640 dL_641 (by omega) hL ?_
  refine lu_arg 2 642 dL_642 dL_643 dL_644 (by decide) dL_645 dL_646 (by omega) hL ?_
  refine lu_arg 3 647 dL_647 dL_648 dL_649 (by decide) dL_650 dL_651 (by omega) hL ?_
  refine lu_call [_, _, _] 652 dL_652 ckL_74 (g_l_291 hG1) ⟨by decide, rfl⟩ (t_X12_rises hG1 e2) (Nat.le_of_ble_eq_true rfl) ⟨Nat.le_of_ble_eq_true rfl, Nat.le_of_ble_eq_true rfl⟩ rfl (Nat.le_of_ble_eq_true rfl) ?_
  refine lu_eqi 655 dL_655 (by decide) rfl ?_
  exact lu_next (ih μ2 hS2)
theorem lc_14 {Sim : sh_Mem → Prop} (hSG : ∀ μ, Sim μ → sh_G μ) (p14 : ∀ (μ : sh_Mem) (b1 b2 b3 b4 : Int32), Sim μ → ∃ (v : Int32) (μ1 μ2 : sh_Mem), f_X11_plan b1 b2 b3 b4 μ = some (v, μ1) ∧ f_X12_plan b1 b2 b3 b4 μ1 = some (v, μ2) ∧ Sim μ2) {i : Nat} {μ : sh_Mem} (hL : L ≤ 3072) (hi : i + 6 ≤ L) (hS : Sim μ) (ih : ∀ μ, Sim μ → sh_U l B D ca b L xs 18 (i + 6) [] μ) : sh_U l B D ca b L xs 660 i [] μ := by
  obtain ⟨v, μ1, μ2, e1, e2, hS2⟩ := p14 μ (xs (i + 1)) (xs (i + 2)) (xs (i + 3)) (xs (i + 4)) hS
  have hG := hSG μ hS
  have hG1 : sh_G μ1 := gp_X11_plan hG e1
  refine lu_x 660 dL_660 ?_
  refine lu_arg 1 661 dL_661 dL_662 dL_663 (by decide) dL_664 dL_665 (by omega) hL ?_
  refine lu_arg 2 666 dL_666 dL_667 dL_668 (by decide) dL_669 dL_670 (by omega) hL ?_
  refine lu_arg 3 671 dL_671 dL_672 dL_673 (by decide) dL_674 dL_675 (by omega) hL ?_
  refine lu_arg 4 676 dL_676 dL_677 dL_678 (by decide) dL_679 dL_680 (by omega) hL ?_
  refine lu_call [_, _, _, _] 681 dL_681 ckL_75 (g_l_0 hG) ⟨by decide, rfl⟩ (t_X11_plan hG e1) (Nat.le_of_ble_eq_true rfl) ⟨Nat.le_of_ble_eq_true rfl, Nat.le_of_ble_eq_true rfl⟩ rfl (Nat.le_of_ble_eq_true rfl) ?_
  refine lu_m 684 dL_684 ?_
  refine lu_arg 1 685 dL_685 dL_686 dL_687 (by decide) dL_688 dL_689 (by omega) hL ?_
  refine lu_arg 2 690 dL_690 dL_691 dL_692 (by decide) dL_693 dL_694 (by omega) hL ?_
  refine lu_arg 3 695 dL_695 dL_696 dL_697 (by decide) dL_698 dL_699 (by omega) hL ?_
  refine lu_arg 4 700 dL_700 dL_701 dL_702 (by decide) dL_703 dL_704 (by omega) hL ?_
  refine lu_call [_, _, _, _] 705 dL_705 ckL_79 (g_l_291 hG1) ⟨by decide, rfl⟩ (t_X12_plan hG1 e2) (Nat.le_of_ble_eq_true rfl) ⟨Nat.le_of_ble_eq_true rfl, Nat.le_of_ble_eq_true rfl⟩ rfl (Nat.le_of_ble_eq_true rfl) ?_
  refine lu_eqi 708 dL_708 (by decide) rfl ?_
  exact lu_next (ih μ2 hS2)
theorem lc_15 {Sim : sh_Mem → Prop} (hSG : ∀ μ, Sim μ → sh_G μ) (p15 : ∀ (μ : sh_Mem) (b1 b2 : Int32), Sim μ → ∃ (v : Int32) (μ1 μ2 : sh_Mem), f_X11_way b1 b2 μ = some (v, μ1) ∧ f_X12_way b1 b2 μ1 = some (v, μ2) ∧ Sim μ2) {i : Nat} {μ : sh_Mem} (hL : L ≤ 3072) (hi : i + 6 ≤ L) (hS : Sim μ) (ih : ∀ μ, Sim μ → sh_U l B D ca b L xs 18 (i + 6) [] μ) : sh_U l B D ca b L xs 713 i [] μ := by
  obtain ⟨v, μ1, μ2, e1, e2, hS2⟩ := p15 μ (xs (i + 1)) (xs (i + 2)) hS
  have hG := hSG μ hS
  have hG1 : sh_G μ1 := gp_X11_way hG e1
  refine lu_x 713 dL_713 ?_
  refine lu_arg 1 714 dL_714 dL_715 dL_716 (by decide) dL_717 dL_718 (by omega) hL ?_
  refine lu_arg 2 719 dL_719 dL_720 dL_721 (by decide) dL_722 dL_723 (by omega) hL ?_
  refine lu_call [_, _] 724 dL_724 ckL_80 (g_l_0 hG) ⟨by decide, rfl⟩ (t_X11_way hG e1) (Nat.le_of_ble_eq_true rfl) ⟨Nat.le_of_ble_eq_true rfl, Nat.le_of_ble_eq_true rfl⟩ rfl (Nat.le_of_ble_eq_true rfl) ?_
  refine lu_m 727 dL_727 ?_
  refine lu_arg 1 728 dL_728 dL_729 dL_730 (by decide) dL_731 dL_732 (by omega) hL ?_
  refine lu_arg 2 733 dL_733 dL_734 dL_735 (by decide) dL_736 dL_737 (by omega) hL ?_
  refine lu_call [_, _] 738 dL_738 ckL_83 (g_l_291 hG1) ⟨by decide, rfl⟩ (t_X12_way hG1 e2) (Nat.le_of_ble_eq_true rfl) ⟨Nat.le_of_ble_eq_true rfl, Nat.le_of_ble_eq_true rfl⟩ rfl (Nat.le_of_ble_eq_true rfl) ?_
  refine lu_eqi 741 dL_741 (by decide) rfl ?_
  exact lu_next (ih μ2 hS2)
theorem lc_16 {Sim : sh_Mem → Prop} (hSG : ∀ μ, Sim μ → sh_G μ) (p16 : ∀ (μ : sh_Mem) (b1 b2 : Int32), Sim μ → ∃ (v : Int32) (μ1 μ2 : sh_Mem), f_X11_pond b1 b2 μ = some (v, μ1) ∧ f_X12_pond b1 b2 μ1 = some (v, μ2) ∧ Sim μ2) {i : Nat} {μ : sh_Mem} (hL : L ≤ 3072) (hi : i + 6 ≤ L) (hS : Sim μ) (ih : ∀ μ, Sim μ → sh_U l B D ca b L xs 18 (i + 6) [] μ) : sh_U l B D ca b L xs 746 i [] μ := by
  obtain ⟨v, μ1, μ2, e1, e2, hS2⟩ := p16 μ (xs (i + 1)) (xs (i + 2)) hS
  have hG := hSG μ hS
  have hG1 : sh_G μ1 := gp_X11_pond hG e1
  refine lu_x 746 dL_746 ?_
  refine lu_arg 1 747 dL_747 dL_748 dL_749 (by decide) dL_750 dL_751 (by omega) hL ?_
  refine lu_arg 2 752 dL_752 dL_753 dL_754 (by decide) dL_755 dL_756 (by omega) hL ?_
  refine lu_call [_, _] 757 dL_757 ckL_84 (g_l_0 hG) ⟨by decide, rfl⟩ (t_X11_pond hG e1) (Nat.le_of_ble_eq_true rfl) ⟨Nat.le_of_ble_eq_true rfl, Nat.le_of_ble_eq_true rfl⟩ rfl (Nat.le_of_ble_eq_true rfl) ?_
  refine lu_m 760 dL_760 ?_
  refine lu_arg 1 761 dL_761 dL_762 dL_763 (by decide) dL_764 dL_765 (by omega) hL ?_
  refine lu_arg 2 766 dL_766 dL_767 dL_768 (by decide) dL_769 dL_770 (by omega) hL ?_
  refine lu_call [_, _] 771 dL_771 ckL_87 (g_l_291 hG1) ⟨by decide, rfl⟩ (t_X12_pond hG1 e2) (Nat.le_of_ble_eq_true rfl) ⟨Nat.le_of_ble_eq_true rfl, Nat.le_of_ble_eq_true rfl⟩ rfl (Nat.le_of_ble_eq_true rfl) ?_
  refine lu_eqi 774 dL_774 (by decide) rfl ?_
  exact lu_next (ih μ2 hS2)
theorem lc_17 {Sim : sh_Mem → Prop} (hSG : ∀ μ, Sim μ → sh_G μ) (p17 : ∀ (μ : sh_Mem) (b1 b2 b3 : Int32), Sim μ → ∃ (v : Int32) (μ1 μ2 : sh_Mem), f_X11_keeps b1 b2 b3 μ = some (v, μ1) ∧ f_X12_keeps b1 b2 b3 μ1 = some (v, μ2) ∧ Sim μ2) {i : Nat} {μ : sh_Mem} (hL : L ≤ 3072) (hi : i + 6 ≤ L) (hS : Sim μ) (ih : ∀ μ, Sim μ → sh_U l B D ca b L xs 18 (i + 6) [] μ) : sh_U l B D ca b L xs 779 i [] μ := by
  obtain ⟨v, μ1, μ2, e1, e2, hS2⟩ := p17 μ (xs (i + 1)) (xs (i + 2)) (xs (i + 3)) hS
  have hG := hSG μ hS
  have hG1 : sh_G μ1 := gp_X11_keeps hG e1
  refine lu_x 779 dL_779 ?_
  refine lu_arg 1 780 dL_780 dL_781 dL_782 (by decide) dL_783 dL_784 (by omega) hL ?_
  refine lu_arg 2 785 dL_785 dL_786 dL_787 (by decide) dL_788 dL_789 (by omega) hL ?_
  refine lu_arg 3 790 dL_790 dL_791 dL_792 (by decide) dL_793 dL_794 (by omega) hL ?_
  refine lu_call [_, _, _] 795 dL_795 ckL_88 (g_l_0 hG) ⟨by decide, rfl⟩ (t_X11_keeps hG e1) (Nat.le_of_ble_eq_true rfl) ⟨Nat.le_of_ble_eq_true rfl, Nat.le_of_ble_eq_true rfl⟩ rfl (Nat.le_of_ble_eq_true rfl) ?_
  refine lu_m 798 dL_798 ?_
  refine lu_arg 1 799 dL_799 dL_800 dL_801 (by decide) dL_802 dL_803 (by omega) hL ?_
  refine lu_arg 2 804 dL_804 dL_805 dL_806 (by decide) dL_807 dL_808 (by omega) hL ?_
  refine lu_arg 3 809 dL_809 dL_810 dL_811 (by decide) dL_812 dL_813 (by omega) hL ?_
  refine lu_call [_, _, _] 814 dL_814 ckL_91 (g_l_291 hG1) ⟨by decide, rfl⟩ (t_X12_keeps hG1 e2) (Nat.le_of_ble_eq_true rfl) ⟨Nat.le_of_ble_eq_true rfl, Nat.le_of_ble_eq_true rfl⟩ rfl (Nat.le_of_ble_eq_true rfl) ?_
  refine lu_eqi 817 dL_817 (by decide) rfl ?_
  exact lu_next (ih μ2 hS2)
theorem lc_18 {Sim : sh_Mem → Prop} (hSG : ∀ μ, Sim μ → sh_G μ) (p18 : ∀ (μ : sh_Mem) (b1 : Int32), Sim μ → ∃ (v : Int32) (μ1 μ2 : sh_Mem), f_X11_rest b1 μ = some (v, μ1) ∧ f_X12_rest b1 μ1 = some (v, μ2) ∧ Sim μ2) {i : Nat} {μ : sh_Mem} (hL : L ≤ 3072) (hi : i + 6 ≤ L) (hS : Sim μ) (ih : ∀ μ, Sim μ → sh_U l B D ca b L xs 18 (i + 6) [] μ) : sh_U l B D ca b L xs 822 i [] μ := by
  obtain ⟨v, μ1, μ2, e1, e2, hS2⟩ := p18 μ (xs (i + 1)) hS
  have hG := hSG μ hS
  have hG1 : sh_G μ1 := gp_X11_rest hG e1
  refine lu_x 822 dL_822 ?_
  refine lu_arg 1 823 dL_823 dL_824 dL_825 (by decide) dL_826 dL_827 (by omega) hL ?_
  refine lu_call [_] 828 dL_828 ckL_92 (g_l_0 hG) ⟨by decide, rfl⟩ (t_X11_rest hG e1) (Nat.le_of_ble_eq_true rfl) ⟨Nat.le_of_ble_eq_true rfl, Nat.le_of_ble_eq_true rfl⟩ rfl (Nat.le_of_ble_eq_true rfl) ?_
  refine lu_m 831 dL_831 ?_
  refine lu_arg 1 832 dL_832 dL_833 dL_834 (by decide) dL_835 dL_836 (by omega) hL ?_
  refine lu_call [_] 837 dL_837 ckL_95 (g_l_291 hG1) ⟨by decide, rfl⟩ (t_X12_rest hG1 e2) (Nat.le_of_ble_eq_true rfl) ⟨Nat.le_of_ble_eq_true rfl, Nat.le_of_ble_eq_true rfl⟩ rfl (Nat.le_of_ble_eq_true rfl) ?_
  refine lu_eqi 840 dL_840 (by decide) rfl ?_
  exact lu_next (ih μ2 hS2)
theorem lc_19 {Sim : sh_Mem → Prop} (hSG : ∀ μ, Sim μ → sh_G μ) (p19 : ∀ (μ : sh_Mem), Sim μ → ∃ (v : Int32) (μ1 μ2 : sh_Mem), f_X11_see μ = some (v, μ1) ∧ f_X12_see μ1 = some (v, μ2) ∧ Sim μ2) {i : Nat} {μ : sh_Mem} (hL : L ≤ 3072) (hi : i + 6 ≤ L) (hS : Sim μ) (ih : ∀ μ, Sim μ → sh_U l B D ca b L xs 18 (i + 6) [] μ) : sh_U l B D ca b L xs 845 i [] μ := by
  obtain ⟨v, μ1, μ2, e1, e2, hS2⟩ := p19 μ  hS
  have hG := hSG μ hS
  have hG1 : sh_G μ1 := gp_X11_see hG e1
  refine lu_x 845 dL_845 ?_
  refine lu_call [] 846 dL_846 ckL_96 (g_l_0 hG) ⟨by decide, rfl⟩ (t_X11_see hG e1) (Nat.le_of_ble_eq_true rfl) ⟨Nat.le_of_ble_eq_true rfl, Nat.le_of_ble_eq_true rfl⟩ rfl (Nat.le_of_ble_eq_true rfl) ?_
  refine lu_m 849 dL_849 ?_
  refine lu_call [] 850 dL_850 ckL_99 (g_l_291 hG1) ⟨by decide, rfl⟩ (t_X12_see hG1 e2) (Nat.le_of_ble_eq_true rfl) ⟨Nat.le_of_ble_eq_true rfl, Nat.le_of_ble_eq_true rfl⟩ rfl (Nat.le_of_ble_eq_true rfl) ?_
  refine lu_eqi 853 dL_853 (by decide) rfl ?_
  exact lu_next (ih μ2 hS2)
theorem lc_20 {Sim : sh_Mem → Prop} (hSG : ∀ μ, Sim μ → sh_G μ) (p20 : ∀ (μ : sh_Mem) (b1 : Int32), Sim μ → ∃ (v : Int32) (μ1 μ2 : sh_Mem), f_X11_who b1 μ = some (v, μ1) ∧ f_X12_who b1 μ1 = some (v, μ2) ∧ Sim μ2) {i : Nat} {μ : sh_Mem} (hL : L ≤ 3072) (hi : i + 6 ≤ L) (hS : Sim μ) (ih : ∀ μ, Sim μ → sh_U l B D ca b L xs 18 (i + 6) [] μ) : sh_U l B D ca b L xs 858 i [] μ := by
  obtain ⟨v, μ1, μ2, e1, e2, hS2⟩ := p20 μ (xs (i + 1)) hS
  have hG := hSG μ hS
  have hG1 : sh_G μ1 := gp_X11_who hG e1
  refine lu_x 858 dL_858 ?_
  refine lu_arg 1 859 dL_859 dL_860 dL_861 (by decide) dL_862 dL_863 (by omega) hL ?_
  refine lu_call [_] 864 dL_864 ckL_100 (g_l_0 hG) ⟨by decide, rfl⟩ (t_X11_who hG e1) (Nat.le_of_ble_eq_true rfl) ⟨Nat.le_of_ble_eq_true rfl, Nat.le_of_ble_eq_true rfl⟩ rfl (Nat.le_of_ble_eq_true rfl) ?_
  refine lu_m 867 dL_867 ?_
  refine lu_arg 1 868 dL_868 dL_869 dL_870 (by decide) dL_871 dL_872 (by omega) hL ?_
  refine lu_call [_] 873 dL_873 ckL_103 (g_l_291 hG1) ⟨by decide, rfl⟩ (t_X12_who hG1 e2) (Nat.le_of_ble_eq_true rfl) ⟨Nat.le_of_ble_eq_true rfl, Nat.le_of_ble_eq_true rfl⟩ rfl (Nat.le_of_ble_eq_true rfl) ?_
  refine lu_eqi 876 dL_876 (by decide) rfl ?_
  exact lu_next (ih μ2 hS2)
theorem lc_21 {Sim : sh_Mem → Prop} (hSG : ∀ μ, Sim μ → sh_G μ) (p21 : ∀ (μ : sh_Mem) (b1 b2 : Int32), Sim μ → ∃ (v : Int32) (μ1 μ2 : sh_Mem), f_X11_tells b1 b2 μ = some (v, μ1) ∧ f_X12_tells b1 b2 μ1 = some (v, μ2) ∧ Sim μ2) {i : Nat} {μ : sh_Mem} (hL : L ≤ 3072) (hi : i + 6 ≤ L) (hS : Sim μ) (ih : ∀ μ, Sim μ → sh_U l B D ca b L xs 18 (i + 6) [] μ) : sh_U l B D ca b L xs 881 i [] μ := by
  obtain ⟨v, μ1, μ2, e1, e2, hS2⟩ := p21 μ (xs (i + 1)) (xs (i + 2)) hS
  have hG := hSG μ hS
  have hG1 : sh_G μ1 := gp_X11_tells hG e1
  refine lu_x 881 dL_881 ?_
  refine lu_arg 1 882 dL_882 dL_883 dL_884 (by decide) dL_885 dL_886 (by omega) hL ?_
  refine lu_arg 2 887 dL_887 dL_888 dL_889 (by decide) dL_890 dL_891 (by omega) hL ?_
  refine lu_call [_, _] 892 dL_892 ckL_104 (g_l_0 hG) ⟨by decide, rfl⟩ (t_X11_tells hG e1) (Nat.le_of_ble_eq_true rfl) ⟨Nat.le_of_ble_eq_true rfl, Nat.le_of_ble_eq_true rfl⟩ rfl (Nat.le_of_ble_eq_true rfl) ?_
  refine lu_m 895 dL_895 ?_
  refine lu_arg 1 896 dL_896 dL_897 dL_898 (by decide) dL_899 dL_900 (by omega) hL ?_
  refine lu_arg 2 901 dL_901 dL_902 dL_903 (by decide) dL_904 dL_905 (by omega) hL ?_
  refine lu_call [_, _] 906 dL_906 ckL_107 (g_l_291 hG1) ⟨by decide, rfl⟩ (t_X12_tells hG1 e2) (Nat.le_of_ble_eq_true rfl) ⟨Nat.le_of_ble_eq_true rfl, Nat.le_of_ble_eq_true rfl⟩ rfl (Nat.le_of_ble_eq_true rfl) ?_
  refine lu_eqi 909 dL_909 (by decide) rfl ?_
  exact lu_next (ih μ2 hS2)
theorem lc_22 {Sim : sh_Mem → Prop} (hSG : ∀ μ, Sim μ → sh_G μ) (p22 : ∀ (μ : sh_Mem) (b1 b2 : Int32), Sim μ → ∃ (v : Int32) (μ1 μ2 : sh_Mem), f_X11_asks b1 b2 μ = some (v, μ1) ∧ f_X12_asks b1 b2 μ1 = some (v, μ2) ∧ Sim μ2) {i : Nat} {μ : sh_Mem} (hL : L ≤ 3072) (hi : i + 6 ≤ L) (hS : Sim μ) (ih : ∀ μ, Sim μ → sh_U l B D ca b L xs 18 (i + 6) [] μ) : sh_U l B D ca b L xs 914 i [] μ := by
  obtain ⟨v, μ1, μ2, e1, e2, hS2⟩ := p22 μ (xs (i + 1)) (xs (i + 2)) hS
  have hG := hSG μ hS
  have hG1 : sh_G μ1 := gp_X11_asks hG e1
  refine lu_x 914 dL_914 ?_
  refine lu_arg 1 915 dL_915 dL_916 dL_917 (by decide) dL_918 dL_919 (by omega) hL ?_
  refine lu_arg 2 920 dL_920 dL_921 dL_922 (by decide) dL_923 dL_924 (by omega) hL ?_
  refine lu_call [_, _] 925 dL_925 ckL_108 (g_l_0 hG) ⟨by decide, rfl⟩ (t_X11_asks hG e1) (Nat.le_of_ble_eq_true rfl) ⟨Nat.le_of_ble_eq_true rfl, Nat.le_of_ble_eq_true rfl⟩ rfl (Nat.le_of_ble_eq_true rfl) ?_
  refine lu_m 928 dL_928 ?_
  refine lu_arg 1 929 dL_929 dL_930 dL_931 (by decide) dL_932 dL_933 (by omega) hL ?_
  refine lu_arg 2 934 dL_934 dL_935 dL_936 (by decide) dL_937 dL_938 (by omega) hL ?_
  refine lu_call [_, _] 939 dL_939 ckL_111 (g_l_291 hG1) ⟨by decide, rfl⟩ (t_X12_asks hG1 e2) (Nat.le_of_ble_eq_true rfl) ⟨Nat.le_of_ble_eq_true rfl, Nat.le_of_ble_eq_true rfl⟩ rfl (Nat.le_of_ble_eq_true rfl) ?_
  refine lu_eqi 942 dL_942 (by decide) rfl ?_
  exact lu_next (ih μ2 hS2)
theorem lc_23 {Sim : sh_Mem → Prop} (hSG : ∀ μ, Sim μ → sh_G μ) (p23 : ∀ (μ : sh_Mem) (b1 b2 b3 : Int32), Sim μ → ∃ (v : Int32) (μ1 μ2 : sh_Mem), f_X11_teach b1 b2 b3 μ = some (v, μ1) ∧ f_X12_teach b1 b2 b3 μ1 = some (v, μ2) ∧ Sim μ2) {i : Nat} {μ : sh_Mem} (hL : L ≤ 3072) (hi : i + 6 ≤ L) (hS : Sim μ) (ih : ∀ μ, Sim μ → sh_U l B D ca b L xs 18 (i + 6) [] μ) : sh_U l B D ca b L xs 947 i [] μ := by
  obtain ⟨v, μ1, μ2, e1, e2, hS2⟩ := p23 μ (xs (i + 1)) (xs (i + 2)) (xs (i + 3)) hS
  have hG := hSG μ hS
  have hG1 : sh_G μ1 := gp_X11_teach hG e1
  refine lu_x 947 dL_947 ?_
  refine lu_arg 1 948 dL_948 dL_949 dL_950 (by decide) dL_951 dL_952 (by omega) hL ?_
  refine lu_arg 2 953 dL_953 dL_954 dL_955 (by decide) dL_956 dL_957 (by omega) hL ?_
  refine lu_arg 3 958 dL_958 dL_959 dL_960 (by decide) dL_961 dL_962 (by omega) hL ?_
  refine lu_call [_, _, _] 963 dL_963 ckL_112 (g_l_0 hG) ⟨by decide, rfl⟩ (t_X11_teach hG e1) (Nat.le_of_ble_eq_true rfl) ⟨Nat.le_of_ble_eq_true rfl, Nat.le_of_ble_eq_true rfl⟩ rfl (Nat.le_of_ble_eq_true rfl) ?_
  refine lu_m 966 dL_966 ?_
  refine lu_arg 1 967 dL_967 dL_968 dL_969 (by decide) dL_970 dL_971 (by omega) hL ?_
  refine lu_arg 2 972 dL_972 dL_973 dL_974 (by decide) dL_975 dL_976 (by omega) hL ?_
  refine lu_arg 3 977 dL_977 dL_978 dL_979 (by decide) dL_980 dL_981 (by omega) hL ?_
  refine lu_call [_, _, _] 982 dL_982 ckL_116 (g_l_291 hG1) ⟨by decide, rfl⟩ (t_X12_teach hG1 e2) (Nat.le_of_ble_eq_true rfl) ⟨Nat.le_of_ble_eq_true rfl, Nat.le_of_ble_eq_true rfl⟩ rfl (Nat.le_of_ble_eq_true rfl) ?_
  refine lu_eqi 985 dL_985 (by decide) rfl ?_
  exact lu_next (ih μ2 hS2)
theorem lc_24 {Sim : sh_Mem → Prop} (hSG : ∀ μ, Sim μ → sh_G μ) (p24 : ∀ (μ : sh_Mem) (b1 b2 b3 : Int32), Sim μ → ∃ (v : Int32) (μ1 μ2 : sh_Mem), f_X11_go b1 b2 b3 μ = some (v, μ1) ∧ f_X12_go b1 b2 b3 μ1 = some (v, μ2) ∧ Sim μ2) {i : Nat} {μ : sh_Mem} (hL : L ≤ 3072) (hi : i + 6 ≤ L) (hS : Sim μ) (ih : ∀ μ, Sim μ → sh_U l B D ca b L xs 18 (i + 6) [] μ) : sh_U l B D ca b L xs 990 i [] μ := by
  obtain ⟨v, μ1, μ2, e1, e2, hS2⟩ := p24 μ (xs (i + 1)) (xs (i + 2)) (xs (i + 3)) hS
  have hG := hSG μ hS
  have hG1 : sh_G μ1 := gp_X11_go hG e1
  refine lu_x 990 dL_990 ?_
  refine lu_arg 1 991 dL_991 dL_992 dL_993 (by decide) dL_994 dL_995 (by omega) hL ?_
  refine lu_arg 2 996 dL_996 dL_997 dL_998 (by decide) dL_999 dL_1000 (by omega) hL ?_
  refine lu_arg 3 1001 dL_1001 dL_1002 dL_1003 (by decide) dL_1004 dL_1005 (by omega) hL ?_
  refine lu_call [_, _, _] 1006 dL_1006 ckL_117 (g_l_0 hG) ⟨by decide, rfl⟩ (t_X11_go hG e1) (Nat.le_of_ble_eq_true rfl) ⟨Nat.le_of_ble_eq_true rfl, Nat.le_of_ble_eq_true rfl⟩ rfl (Nat.le_of_ble_eq_true rfl) ?_
  refine lu_m 1009 dL_1009 ?_
  refine lu_arg 1 1010 dL_1010 dL_1011 dL_1012 (by decide) dL_1013 dL_1014 (by omega) hL ?_
  refine lu_arg 2 1015 dL_1015 dL_1016 dL_1017 (by decide) dL_1018 dL_1019 (by omega) hL ?_
  refine lu_arg 3 1020 dL_1020 dL_1021 dL_1022 (by decide) dL_1023 dL_1024 (by omega) hL ?_
  refine lu_call [_, _, _] 1025 dL_1025 ckL_120 (g_l_291 hG1) ⟨by decide, rfl⟩ (t_X12_go hG1 e2) (Nat.le_of_ble_eq_true rfl) ⟨Nat.le_of_ble_eq_true rfl, Nat.le_of_ble_eq_true rfl⟩ rfl (Nat.le_of_ble_eq_true rfl) ?_
  refine lu_eqi 1028 dL_1028 (by decide) rfl ?_
  exact lu_next (ih μ2 hS2)
theorem lc_25 {Sim : sh_Mem → Prop} (hSG : ∀ μ, Sim μ → sh_G μ) (p25 : ∀ (μ : sh_Mem) (b1 : Int32), Sim μ → ∃ (v : Int32) (μ1 μ2 : sh_Mem), f_X11_ease b1 μ = some (v, μ1) ∧ f_X12_ease b1 μ1 = some (v, μ2) ∧ Sim μ2) {i : Nat} {μ : sh_Mem} (hL : L ≤ 3072) (hi : i + 6 ≤ L) (hS : Sim μ) (ih : ∀ μ, Sim μ → sh_U l B D ca b L xs 18 (i + 6) [] μ) : sh_U l B D ca b L xs 1033 i [] μ := by
  obtain ⟨v, μ1, μ2, e1, e2, hS2⟩ := p25 μ (xs (i + 1)) hS
  have hG := hSG μ hS
  have hG1 : sh_G μ1 := gp_X11_ease hG e1
  refine lu_x 1033 dL_1033 ?_
  refine lu_arg 1 1034 dL_1034 dL_1035 dL_1036 (by decide) dL_1037 dL_1038 (by omega) hL ?_
  refine lu_call [_] 1039 dL_1039 ckL_121 (g_l_0 hG) ⟨by decide, rfl⟩ (t_X11_ease hG e1) (Nat.le_of_ble_eq_true rfl) ⟨Nat.le_of_ble_eq_true rfl, Nat.le_of_ble_eq_true rfl⟩ rfl (Nat.le_of_ble_eq_true rfl) ?_
  refine lu_m 1042 dL_1042 ?_
  refine lu_arg 1 1043 dL_1043 dL_1044 dL_1045 (by decide) dL_1046 dL_1047 (by omega) hL ?_
  refine lu_call [_] 1048 dL_1048 ckL_124 (g_l_291 hG1) ⟨by decide, rfl⟩ (t_X12_ease hG1 e2) (Nat.le_of_ble_eq_true rfl) ⟨Nat.le_of_ble_eq_true rfl, Nat.le_of_ble_eq_true rfl⟩ rfl (Nat.le_of_ble_eq_true rfl) ?_
  refine lu_eqi 1051 dL_1051 (by decide) rfl ?_
  exact lu_next (ih μ2 hS2)
theorem lc_26 {Sim : sh_Mem → Prop} (hSG : ∀ μ, Sim μ → sh_G μ) (p26 : ∀ (μ : sh_Mem) (b1 : Int32), Sim μ → ∃ (v : Int32) (μ1 μ2 : sh_Mem), f_X11_days b1 μ = some (v, μ1) ∧ f_X12_days b1 μ1 = some (v, μ2) ∧ Sim μ2) {i : Nat} {μ : sh_Mem} (hL : L ≤ 3072) (hi : i + 6 ≤ L) (hS : Sim μ) (ih : ∀ μ, Sim μ → sh_U l B D ca b L xs 18 (i + 6) [] μ) : sh_U l B D ca b L xs 1056 i [] μ := by
  obtain ⟨v, μ1, μ2, e1, e2, hS2⟩ := p26 μ (xs (i + 1)) hS
  have hG := hSG μ hS
  have hG1 : sh_G μ1 := gp_X11_days hG e1
  refine lu_x 1056 dL_1056 ?_
  refine lu_arg 1 1057 dL_1057 dL_1058 dL_1059 (by decide) dL_1060 dL_1061 (by omega) hL ?_
  refine lu_call [_] 1062 dL_1062 ckL_125 (g_l_0 hG) ⟨by decide, rfl⟩ (t_X11_days hG e1) (Nat.le_of_ble_eq_true rfl) ⟨Nat.le_of_ble_eq_true rfl, Nat.le_of_ble_eq_true rfl⟩ rfl (Nat.le_of_ble_eq_true rfl) ?_
  refine lu_m 1065 dL_1065 ?_
  refine lu_arg 1 1066 dL_1066 dL_1067 dL_1068 (by decide) dL_1069 dL_1070 (by omega) hL ?_
  refine lu_call [_] 1071 dL_1071 ckL_128 (g_l_291 hG1) ⟨by decide, rfl⟩ (t_X12_days hG1 e2) (Nat.le_of_ble_eq_true rfl) ⟨Nat.le_of_ble_eq_true rfl, Nat.le_of_ble_eq_true rfl⟩ rfl (Nat.le_of_ble_eq_true rfl) ?_
  refine lu_eqi 1074 dL_1074 (by decide) rfl ?_
  exact lu_next (ih μ2 hS2)
theorem lc_27 {Sim : sh_Mem → Prop} (hSG : ∀ μ, Sim μ → sh_G μ) (p27 : ∀ (μ : sh_Mem) (b1 : Int32), Sim μ → ∃ (v : Int32) (μ1 μ2 : sh_Mem), f_X11_chance b1 μ = some (v, μ1) ∧ f_X12_chance b1 μ1 = some (v, μ2) ∧ Sim μ2) {i : Nat} {μ : sh_Mem} (hL : L ≤ 3072) (hi : i + 6 ≤ L) (hS : Sim μ) (ih : ∀ μ, Sim μ → sh_U l B D ca b L xs 18 (i + 6) [] μ) : sh_U l B D ca b L xs 1079 i [] μ := by
  obtain ⟨v, μ1, μ2, e1, e2, hS2⟩ := p27 μ (xs (i + 1)) hS
  have hG := hSG μ hS
  have hG1 : sh_G μ1 := gp_X11_chance hG e1
  refine lu_x 1079 dL_1079 ?_
  refine lu_arg 1 1080 dL_1080 dL_1081 dL_1082 (by decide) dL_1083 dL_1084 (by omega) hL ?_
  refine lu_call [_] 1085 dL_1085 ckL_129 (g_l_0 hG) ⟨by decide, rfl⟩ (t_X11_chance hG e1) (Nat.le_of_ble_eq_true rfl) ⟨Nat.le_of_ble_eq_true rfl, Nat.le_of_ble_eq_true rfl⟩ rfl (Nat.le_of_ble_eq_true rfl) ?_
  refine lu_m 1088 dL_1088 ?_
  refine lu_arg 1 1089 dL_1089 dL_1090 dL_1091 (by decide) dL_1092 dL_1093 (by omega) hL ?_
  refine lu_call [_] 1094 dL_1094 ckL_132 (g_l_291 hG1) ⟨by decide, rfl⟩ (t_X12_chance hG1 e2) (Nat.le_of_ble_eq_true rfl) ⟨Nat.le_of_ble_eq_true rfl, Nat.le_of_ble_eq_true rfl⟩ rfl (Nat.le_of_ble_eq_true rfl) ?_
  refine lu_eqi 1097 dL_1097 (by decide) rfl ?_
  exact lu_next (ih μ2 hS2)
theorem lc_28 {Sim : sh_Mem → Prop} (hSG : ∀ μ, Sim μ → sh_G μ) (p28 : ∀ (μ : sh_Mem), Sim μ → ∃ (v : Int32) (μ1 μ2 : sh_Mem), f_X11_undo μ = some (v, μ1) ∧ f_X12_undo μ1 = some (v, μ2) ∧ Sim μ2) {i : Nat} {μ : sh_Mem} (hL : L ≤ 3072) (hi : i + 6 ≤ L) (hS : Sim μ) (ih : ∀ μ, Sim μ → sh_U l B D ca b L xs 18 (i + 6) [] μ) : sh_U l B D ca b L xs 1102 i [] μ := by
  obtain ⟨v, μ1, μ2, e1, e2, hS2⟩ := p28 μ  hS
  have hG := hSG μ hS
  have hG1 : sh_G μ1 := gp_X11_undo hG e1
  refine lu_x 1102 dL_1102 ?_
  refine lu_call [] 1103 dL_1103 ckL_133 (g_l_0 hG) ⟨by decide, rfl⟩ (t_X11_undo hG e1) (Nat.le_of_ble_eq_true rfl) ⟨Nat.le_of_ble_eq_true rfl, Nat.le_of_ble_eq_true rfl⟩ rfl (Nat.le_of_ble_eq_true rfl) ?_
  refine lu_m 1106 dL_1106 ?_
  refine lu_call [] 1107 dL_1107 ckL_137 (g_l_291 hG1) ⟨by decide, rfl⟩ (t_X12_undo hG1 e2) (Nat.le_of_ble_eq_true rfl) ⟨Nat.le_of_ble_eq_true rfl, Nat.le_of_ble_eq_true rfl⟩ rfl (Nat.le_of_ble_eq_true rfl) ?_
  refine lu_eqi 1110 dL_1110 (by decide) rfl ?_
  exact lu_next (ih μ2 hS2)
theorem lc_29 {Sim : sh_Mem → Prop} (hSG : ∀ μ, Sim μ → sh_G μ) (p29 : ∀ (μ : sh_Mem) (b1 : Int32), Sim μ → ∃ (v : Int32) (μ1 μ2 : sh_Mem), f_X11_seed b1 μ = some (v, μ1) ∧ f_X12_seed b1 μ1 = some (v, μ2) ∧ Sim μ2) {i : Nat} {μ : sh_Mem} (hL : L ≤ 3072) (hi : i + 6 ≤ L) (hS : Sim μ) (ih : ∀ μ, Sim μ → sh_U l B D ca b L xs 18 (i + 6) [] μ) : sh_U l B D ca b L xs 1115 i [] μ := by
  obtain ⟨v, μ1, μ2, e1, e2, hS2⟩ := p29 μ (xs (i + 1)) hS
  have hG := hSG μ hS
  have hG1 : sh_G μ1 := gp_X11_seed hG e1
  refine lu_x 1115 dL_1115 ?_
  refine lu_arg 1 1116 dL_1116 dL_1117 dL_1118 (by decide) dL_1119 dL_1120 (by omega) hL ?_
  refine lu_call [_] 1121 dL_1121 ckL_138 (g_l_0 hG) ⟨by decide, rfl⟩ (t_X11_seed hG e1) (Nat.le_of_ble_eq_true rfl) ⟨Nat.le_of_ble_eq_true rfl, Nat.le_of_ble_eq_true rfl⟩ rfl (Nat.le_of_ble_eq_true rfl) ?_
  refine lu_m 1124 dL_1124 ?_
  refine lu_arg 1 1125 dL_1125 dL_1126 dL_1127 (by decide) dL_1128 dL_1129 (by omega) hL ?_
  refine lu_call [_] 1130 dL_1130 ckL_141 (g_l_291 hG1) ⟨by decide, rfl⟩ (t_X12_seed hG1 e2) (Nat.le_of_ble_eq_true rfl) ⟨Nat.le_of_ble_eq_true rfl, Nat.le_of_ble_eq_true rfl⟩ rfl (Nat.le_of_ble_eq_true rfl) ?_
  refine lu_eqi 1133 dL_1133 (by decide) rfl ?_
  exact lu_next (ih μ2 hS2)
theorem lc_30 {Sim : sh_Mem → Prop} (hSG : ∀ μ, Sim μ → sh_G μ) (p30 : ∀ (μ : sh_Mem), Sim μ → ∃ (v : Int64) (μ1 μ2 : sh_Mem), f_X11_ask μ = some (v, μ1) ∧ f_X12_ask μ1 = some (v, μ2) ∧ Sim μ2) {i : Nat} {μ : sh_Mem} (hL : L ≤ 3072) (hi : i + 6 ≤ L) (hS : Sim μ) (ih : ∀ μ, Sim μ → sh_U l B D ca b L xs 18 (i + 6) [] μ) : sh_U l B D ca b L xs 1138 i [] μ := by
  obtain ⟨v, μ1, μ2, e1, e2, hS2⟩ := p30 μ  hS
  have hG := hSG μ hS
  have hG1 : sh_G μ1 := gp_X11_ask hG e1
  refine lu_x 1138 dL_1138 ?_
  refine lu_call [] 1139 dL_1139 ckL_142 (g_l_0 hG) ⟨by decide, rfl⟩ (t_X11_ask hG e1) (Nat.le_of_ble_eq_true rfl) ⟨Nat.le_of_ble_eq_true rfl, Nat.le_of_ble_eq_true rfl⟩ rfl (Nat.le_of_ble_eq_true rfl) ?_
  refine lu_m 1142 dL_1142 ?_
  refine lu_call [] 1143 dL_1143 ckL_146 (g_l_291 hG1) ⟨by decide, rfl⟩ (t_X12_ask hG1 e2) (Nat.le_of_ble_eq_true rfl) ⟨Nat.le_of_ble_eq_true rfl, Nat.le_of_ble_eq_true rfl⟩ rfl (Nat.le_of_ble_eq_true rfl) ?_
  refine lu_eql 1146 dL_1146 dL_1147 (by decide) rfl ?_
  exact lu_next (ih μ2 hS2)
theorem lc_31 {Sim : sh_Mem → Prop} (hSG : ∀ μ, Sim μ → sh_G μ) (p31 : ∀ (μ : sh_Mem), Sim μ → ∃ (v : Int32) (μ1 μ2 : sh_Mem), f_X11_image μ = some (v, μ1) ∧ f_X12_image μ1 = some (v, μ2) ∧ Sim μ2) {i : Nat} {μ : sh_Mem} (hL : L ≤ 3072) (hi : i + 6 ≤ L) (hS : Sim μ) (ih : ∀ μ, Sim μ → sh_U l B D ca b L xs 18 (i + 6) [] μ) : sh_U l B D ca b L xs 1152 i [] μ := by
  obtain ⟨v, μ1, μ2, e1, e2, hS2⟩ := p31 μ  hS
  have hG := hSG μ hS
  have hG1 : sh_G μ1 := gp_X11_image hG e1
  refine lu_x 1152 dL_1152 ?_
  refine lu_call [] 1153 dL_1153 ckL_147 (g_l_0 hG) ⟨by decide, rfl⟩ (t_X11_image hG e1) (Nat.le_of_ble_eq_true rfl) ⟨Nat.le_of_ble_eq_true rfl, Nat.le_of_ble_eq_true rfl⟩ rfl (Nat.le_of_ble_eq_true rfl) ?_
  refine lu_m 1156 dL_1156 ?_
  refine lu_call [] 1157 dL_1157 ckL_150 (g_l_291 hG1) ⟨by decide, rfl⟩ (t_X12_image hG1 e2) (Nat.le_of_ble_eq_true rfl) ⟨Nat.le_of_ble_eq_true rfl, Nat.le_of_ble_eq_true rfl⟩ rfl (Nat.le_of_ble_eq_true rfl) ?_
  refine lu_eqi 1160 dL_1160 (by decide) rfl ?_
  exact lu_next (ih μ2 hS2)
theorem lc_32 {Sim : sh_Mem → Prop} (hSG : ∀ μ, Sim μ → sh_G μ) (p32 : ∀ (μ : sh_Mem) (b1 : Int32), Sim μ → ∃ (v : Int32) (μ1 μ2 : sh_Mem), f_X11_octet b1 μ = some (v, μ1) ∧ f_X12_octet b1 μ1 = some (v, μ2) ∧ Sim μ2) {i : Nat} {μ : sh_Mem} (hL : L ≤ 3072) (hi : i + 6 ≤ L) (hS : Sim μ) (ih : ∀ μ, Sim μ → sh_U l B D ca b L xs 18 (i + 6) [] μ) : sh_U l B D ca b L xs 1165 i [] μ := by
  obtain ⟨v, μ1, μ2, e1, e2, hS2⟩ := p32 μ (xs (i + 1)) hS
  have hG := hSG μ hS
  have hG1 : sh_G μ1 := gp_X11_octet hG e1
  refine lu_x 1165 dL_1165 ?_
  refine lu_arg 1 1166 dL_1166 dL_1167 dL_1168 (by decide) dL_1169 dL_1170 (by omega) hL ?_
  refine lu_call [_] 1171 dL_1171 ckL_151 (g_l_0 hG) ⟨by decide, rfl⟩ (t_X11_octet hG e1) (Nat.le_of_ble_eq_true rfl) ⟨Nat.le_of_ble_eq_true rfl, Nat.le_of_ble_eq_true rfl⟩ rfl (Nat.le_of_ble_eq_true rfl) ?_
  refine lu_m 1174 dL_1174 ?_
  refine lu_arg 1 1175 dL_1175 dL_1176 dL_1177 (by decide) dL_1178 dL_1179 (by omega) hL ?_
  refine lu_call [_] 1180 dL_1180 ckL_154 (g_l_291 hG1) ⟨by decide, rfl⟩ (t_X12_octet hG1 e2) (Nat.le_of_ble_eq_true rfl) ⟨Nat.le_of_ble_eq_true rfl, Nat.le_of_ble_eq_true rfl⟩ rfl (Nat.le_of_ble_eq_true rfl) ?_
  refine lu_eqi 1183 dL_1183 (by decide) rfl ?_
  exact lu_next (ih μ2 hS2)
theorem lc_33 {Sim : sh_Mem → Prop} (hSG : ∀ μ, Sim μ → sh_G μ) (p33 : ∀ (μ : sh_Mem), Sim μ → ∃ (v : Int32) (μ1 μ2 : sh_Mem), f_X11_on μ = some (v, μ1) ∧ f_X12_on μ1 = some (v, μ2) ∧ Sim μ2) {i : Nat} {μ : sh_Mem} (hL : L ≤ 3072) (hi : i + 6 ≤ L) (hS : Sim μ) (ih : ∀ μ, Sim μ → sh_U l B D ca b L xs 18 (i + 6) [] μ) : sh_U l B D ca b L xs 1188 i [] μ := by
  obtain ⟨v, μ1, μ2, e1, e2, hS2⟩ := p33 μ  hS
  have hG := hSG μ hS
  have hG1 : sh_G μ1 := gp_X11_on hG e1
  refine lu_x 1188 dL_1188 ?_
  refine lu_call [] 1189 dL_1189 ckL_155 (g_l_0 hG) ⟨by decide, rfl⟩ (t_X11_on hG e1) (Nat.le_of_ble_eq_true rfl) ⟨Nat.le_of_ble_eq_true rfl, Nat.le_of_ble_eq_true rfl⟩ rfl (Nat.le_of_ble_eq_true rfl) ?_
  refine lu_m 1192 dL_1192 ?_
  refine lu_call [] 1193 dL_1193 ckL_158 (g_l_291 hG1) ⟨by decide, rfl⟩ (t_X12_on hG1 e2) (Nat.le_of_ble_eq_true rfl) ⟨Nat.le_of_ble_eq_true rfl, Nat.le_of_ble_eq_true rfl⟩ rfl (Nat.le_of_ble_eq_true rfl) ?_
  refine lu_eqi 1196 dL_1196 (by decide) rfl ?_
  exact lu_next (ih μ2 hS2)
theorem lc_34 {Sim : sh_Mem → Prop} (hSG : ∀ μ, Sim μ → sh_G μ) (p34 : ∀ (μ : sh_Mem) (b1 : Int32), Sim μ → ∃ (v : Int32) (μ1 μ2 : sh_Mem), f_X11_status b1 μ = some (v, μ1) ∧ f_X12_status b1 μ1 = some (v, μ2) ∧ Sim μ2) {i : Nat} {μ : sh_Mem} (hL : L ≤ 3072) (hi : i + 6 ≤ L) (hS : Sim μ) (ih : ∀ μ, Sim μ → sh_U l B D ca b L xs 18 (i + 6) [] μ) : sh_U l B D ca b L xs 1201 i [] μ := by
  obtain ⟨v, μ1, μ2, e1, e2, hS2⟩ := p34 μ (xs (i + 1)) hS
  have hG := hSG μ hS
  have hG1 : sh_G μ1 := gp_X11_status hG e1
  refine lu_x 1201 dL_1201 ?_
  refine lu_arg 1 1202 dL_1202 dL_1203 dL_1204 (by decide) dL_1205 dL_1206 (by omega) hL ?_
  refine lu_call [_] 1207 dL_1207 ckL_159 (g_l_0 hG) ⟨by decide, rfl⟩ (t_X11_status hG e1) (Nat.le_of_ble_eq_true rfl) ⟨Nat.le_of_ble_eq_true rfl, Nat.le_of_ble_eq_true rfl⟩ rfl (Nat.le_of_ble_eq_true rfl) ?_
  refine lu_m 1210 dL_1210 ?_
  refine lu_arg 1 1211 dL_1211 dL_1212 dL_1213 (by decide) dL_1214 dL_1215 (by omega) hL ?_
  refine lu_call [_] 1216 dL_1216 ckL_162 (g_l_291 hG1) ⟨by decide, rfl⟩ (t_X12_status hG1 e2) (Nat.le_of_ble_eq_true rfl) ⟨Nat.le_of_ble_eq_true rfl, Nat.le_of_ble_eq_true rfl⟩ rfl (Nat.le_of_ble_eq_true rfl) ?_
  refine lu_eqi 1219 dL_1219 (by decide) rfl ?_
  exact lu_next (ih μ2 hS2)
/-- the law's loop, over a relation that each pair of calls keeps -/
theorem law_loop {Sim : sh_Mem → Prop} (hSG : ∀ μ, Sim μ → sh_G μ) (p0 : ∀ (μ : sh_Mem) (b1 b2 b3 b4 b5 : Int32), Sim μ → ∃ (v : Int32) (μ1 μ2 : sh_Mem), f_X11_feed b1 b2 b3 b4 b5 μ = some (v, μ1) ∧ f_X12_feed b1 b2 b3 b4 b5 μ1 = some (v, μ2) ∧ Sim μ2) (p1 : ∀ (μ : sh_Mem) (b1 : Int32), Sim μ → ∃ (v : Int32) (μ1 μ2 : sh_Mem), f_X11_end b1 μ = some (v, μ1) ∧ f_X12_end b1 μ1 = some (v, μ2) ∧ Sim μ2) (p2 : ∀ (μ : sh_Mem), Sim μ → ∃ (v : Int32) (μ1 μ2 : sh_Mem), f_X11_plain μ = some (v, μ1) ∧ f_X12_plain μ1 = some (v, μ2) ∧ Sim μ2) (p3 : ∀ (μ : sh_Mem) (b1 : Int32), Sim μ → ∃ (v : Int32) (μ1 μ2 : sh_Mem), f_X11_fault μ b1 = v ∧ μ1 = μ ∧ f_X12_fault μ1 b1 = v ∧ μ2 = μ1 ∧ Sim μ2) (p4 : ∀ (μ : sh_Mem) (b1 : Int32), Sim μ → ∃ (v : Int32) (μ1 μ2 : sh_Mem), f_X11_has b1 μ = some (v, μ1) ∧ f_X12_has b1 μ1 = some (v, μ2) ∧ Sim μ2) (p5 : ∀ (μ : sh_Mem) (b1 b2 b3 : Int32), Sim μ → ∃ (v : Int32) (μ1 μ2 : sh_Mem), f_X11_letter b1 b2 b3 μ = some (v, μ1) ∧ f_X12_letter b1 b2 b3 μ1 = some (v, μ2) ∧ Sim μ2) (p6 : ∀ (μ : sh_Mem) (b1 b2 : Int32), Sim μ → ∃ (v : Int32) (μ1 μ2 : sh_Mem), f_X11_height b1 b2 μ = some (v, μ1) ∧ f_X12_height b1 b2 μ1 = some (v, μ2) ∧ Sim μ2) (p7 : ∀ (μ : sh_Mem) (b1 b2 : Int32), Sim μ → ∃ (v : Int32) (μ1 μ2 : sh_Mem), f_X11_person b1 b2 μ = some (v, μ1) ∧ f_X12_person b1 b2 μ1 = some (v, μ2) ∧ Sim μ2) (p8 : ∀ (μ : sh_Mem) (b1 b2 : Int32), Sim μ → ∃ (v : Int32) (μ1 μ2 : sh_Mem), f_X11_list b1 b2 μ = some (v, μ1) ∧ f_X12_list b1 b2 μ1 = some (v, μ2) ∧ Sim μ2) (p9 : ∀ (μ : sh_Mem) (b1 b2 : Int32), Sim μ → ∃ (v : Int32) (μ1 μ2 : sh_Mem), f_X11_would b1 b2 μ = some (v, μ1) ∧ f_X12_would b1 b2 μ1 = some (v, μ2) ∧ Sim μ2) (p10 : ∀ (μ : sh_Mem) (b1 b2 : Int32), Sim μ → ∃ (v : Int32) (μ1 μ2 : sh_Mem), f_X11_kept b1 b2 μ = some (v, μ1) ∧ f_X12_kept b1 b2 μ1 = some (v, μ2) ∧ Sim μ2) (p11 : ∀ (μ : sh_Mem) (b1 b2 b3 : Int32), Sim μ → ∃ (v : Int32) (μ1 μ2 : sh_Mem), f_X11_later b1 b2 b3 μ = some (v, μ1) ∧ f_X12_later b1 b2 b3 μ1 = some (v, μ2) ∧ Sim μ2) (p12 : ∀ (μ : sh_Mem) (b1 b2 : Int32), Sim μ → ∃ (v : Int32) (μ1 μ2 : sh_Mem), f_X11_tired b1 b2 μ = some (v, μ1) ∧ f_X12_tired b1 b2 μ1 = some (v, μ2) ∧ Sim μ2) (p13 : ∀ (μ : sh_Mem) (b1 b2 b3 : Int32), Sim μ → ∃ (v : Int32) (μ1 μ2 : sh_Mem), f_X11_rises b1 b2 b3 μ = some (v, μ1) ∧ f_X12_rises b1 b2 b3 μ1 = some (v, μ2) ∧ Sim μ2) (p14 : ∀ (μ : sh_Mem) (b1 b2 b3 b4 : Int32), Sim μ → ∃ (v : Int32) (μ1 μ2 : sh_Mem), f_X11_plan b1 b2 b3 b4 μ = some (v, μ1) ∧ f_X12_plan b1 b2 b3 b4 μ1 = some (v, μ2) ∧ Sim μ2) (p15 : ∀ (μ : sh_Mem) (b1 b2 : Int32), Sim μ → ∃ (v : Int32) (μ1 μ2 : sh_Mem), f_X11_way b1 b2 μ = some (v, μ1) ∧ f_X12_way b1 b2 μ1 = some (v, μ2) ∧ Sim μ2) (p16 : ∀ (μ : sh_Mem) (b1 b2 : Int32), Sim μ → ∃ (v : Int32) (μ1 μ2 : sh_Mem), f_X11_pond b1 b2 μ = some (v, μ1) ∧ f_X12_pond b1 b2 μ1 = some (v, μ2) ∧ Sim μ2) (p17 : ∀ (μ : sh_Mem) (b1 b2 b3 : Int32), Sim μ → ∃ (v : Int32) (μ1 μ2 : sh_Mem), f_X11_keeps b1 b2 b3 μ = some (v, μ1) ∧ f_X12_keeps b1 b2 b3 μ1 = some (v, μ2) ∧ Sim μ2) (p18 : ∀ (μ : sh_Mem) (b1 : Int32), Sim μ → ∃ (v : Int32) (μ1 μ2 : sh_Mem), f_X11_rest b1 μ = some (v, μ1) ∧ f_X12_rest b1 μ1 = some (v, μ2) ∧ Sim μ2) (p19 : ∀ (μ : sh_Mem), Sim μ → ∃ (v : Int32) (μ1 μ2 : sh_Mem), f_X11_see μ = some (v, μ1) ∧ f_X12_see μ1 = some (v, μ2) ∧ Sim μ2) (p20 : ∀ (μ : sh_Mem) (b1 : Int32), Sim μ → ∃ (v : Int32) (μ1 μ2 : sh_Mem), f_X11_who b1 μ = some (v, μ1) ∧ f_X12_who b1 μ1 = some (v, μ2) ∧ Sim μ2) (p21 : ∀ (μ : sh_Mem) (b1 b2 : Int32), Sim μ → ∃ (v : Int32) (μ1 μ2 : sh_Mem), f_X11_tells b1 b2 μ = some (v, μ1) ∧ f_X12_tells b1 b2 μ1 = some (v, μ2) ∧ Sim μ2) (p22 : ∀ (μ : sh_Mem) (b1 b2 : Int32), Sim μ → ∃ (v : Int32) (μ1 μ2 : sh_Mem), f_X11_asks b1 b2 μ = some (v, μ1) ∧ f_X12_asks b1 b2 μ1 = some (v, μ2) ∧ Sim μ2) (p23 : ∀ (μ : sh_Mem) (b1 b2 b3 : Int32), Sim μ → ∃ (v : Int32) (μ1 μ2 : sh_Mem), f_X11_teach b1 b2 b3 μ = some (v, μ1) ∧ f_X12_teach b1 b2 b3 μ1 = some (v, μ2) ∧ Sim μ2) (p24 : ∀ (μ : sh_Mem) (b1 b2 b3 : Int32), Sim μ → ∃ (v : Int32) (μ1 μ2 : sh_Mem), f_X11_go b1 b2 b3 μ = some (v, μ1) ∧ f_X12_go b1 b2 b3 μ1 = some (v, μ2) ∧ Sim μ2) (p25 : ∀ (μ : sh_Mem) (b1 : Int32), Sim μ → ∃ (v : Int32) (μ1 μ2 : sh_Mem), f_X11_ease b1 μ = some (v, μ1) ∧ f_X12_ease b1 μ1 = some (v, μ2) ∧ Sim μ2) (p26 : ∀ (μ : sh_Mem) (b1 : Int32), Sim μ → ∃ (v : Int32) (μ1 μ2 : sh_Mem), f_X11_days b1 μ = some (v, μ1) ∧ f_X12_days b1 μ1 = some (v, μ2) ∧ Sim μ2) (p27 : ∀ (μ : sh_Mem) (b1 : Int32), Sim μ → ∃ (v : Int32) (μ1 μ2 : sh_Mem), f_X11_chance b1 μ = some (v, μ1) ∧ f_X12_chance b1 μ1 = some (v, μ2) ∧ Sim μ2) (p28 : ∀ (μ : sh_Mem), Sim μ → ∃ (v : Int32) (μ1 μ2 : sh_Mem), f_X11_undo μ = some (v, μ1) ∧ f_X12_undo μ1 = some (v, μ2) ∧ Sim μ2) (p29 : ∀ (μ : sh_Mem) (b1 : Int32), Sim μ → ∃ (v : Int32) (μ1 μ2 : sh_Mem), f_X11_seed b1 μ = some (v, μ1) ∧ f_X12_seed b1 μ1 = some (v, μ2) ∧ Sim μ2) (p30 : ∀ (μ : sh_Mem), Sim μ → ∃ (v : Int64) (μ1 μ2 : sh_Mem), f_X11_ask μ = some (v, μ1) ∧ f_X12_ask μ1 = some (v, μ2) ∧ Sim μ2) (p31 : ∀ (μ : sh_Mem), Sim μ → ∃ (v : Int32) (μ1 μ2 : sh_Mem), f_X11_image μ = some (v, μ1) ∧ f_X12_image μ1 = some (v, μ2) ∧ Sim μ2) (p32 : ∀ (μ : sh_Mem) (b1 : Int32), Sim μ → ∃ (v : Int32) (μ1 μ2 : sh_Mem), f_X11_octet b1 μ = some (v, μ1) ∧ f_X12_octet b1 μ1 = some (v, μ2) ∧ Sim μ2) (p33 : ∀ (μ : sh_Mem), Sim μ → ∃ (v : Int32) (μ1 μ2 : sh_Mem), f_X11_on μ = some (v, μ1) ∧ f_X12_on μ1 = some (v, μ2) ∧ Sim μ2) (p34 : ∀ (μ : sh_Mem) (b1 : Int32), Sim μ → ∃ (v : Int32) (μ1 μ2 : sh_Mem), f_X11_status b1 μ = some (v, μ1) ∧ f_X12_status b1 μ1 = some (v, μ2) ∧ Sim μ2) (hL : L ≤ 3072) : ∀ (k i : Nat), L - i = k → i ≤ L → ∀ μ, Sim μ → sh_U l B D ca b L xs 18 i [] μ := by
  refine sh_ind ?_
  intro k ih i hk hi μ hS
  refine lu_head hL hi (fun h6 => ?_)
  have ih2 : ∀ μ, Sim μ → sh_U l B D ca b L xs 18 (i + 6) [] μ := ih (L - (i + 6)) (by omega) (i + 6) rfl h6
  obtain ⟨n, hn, hx⟩ : ∃ n : Nat, n < 64 ∧ xs i &&& 63 = nI n := sh_and63 (xs i)
  by_cases hn2 : 34 < n
  · exact lu_swd hL h6 hn2 hn hx (lu_next (ih2 μ hS))
  rcases (show n = 0 ∨ n = 1 ∨ n = 2 ∨ n = 3 ∨ n = 4 ∨ n = 5 ∨ n = 6 ∨ n = 7 ∨ n = 8 ∨ n = 9 ∨ n = 10 ∨ n = 11 ∨ n = 12 ∨ n = 13 ∨ n = 14 ∨ n = 15 ∨ n = 16 ∨ n = 17 ∨ n = 18 ∨ n = 19 ∨ n = 20 ∨ n = 21 ∨ n = 22 ∨ n = 23 ∨ n = 24 ∨ n = 25 ∨ n = 26 ∨ n = 27 ∨ n = 28 ∨ n = 29 ∨ n = 30 ∨ n = 31 ∨ n = 32 ∨ n = 33 ∨ n = 34 by omega) with rfl | rfl | rfl | rfl | rfl | rfl | rfl | rfl | rfl | rfl | rfl | rfl | rfl | rfl | rfl | rfl | rfl | rfl | rfl | rfl | rfl | rfl | rfl | rfl | rfl | rfl | rfl | rfl | rfl | rfl | rfl | rfl | rfl | rfl | rfl
  · exact lu_sw 188 hL h6 (by decide) hx rfl (by decide) (lc_0 hSG p0 hL h6 hS ih2)
  · exact lu_sw 251 hL h6 (by decide) hx rfl (by decide) (lc_1 hSG p1 hL h6 hS ih2)
  · exact lu_sw 274 hL h6 (by decide) hx rfl (by decide) (lc_2 hSG p2 hL h6 hS ih2)
  · exact lu_sw 287 hL h6 (by decide) hx rfl (by decide) (lc_3 hSG p3 hL h6 hS ih2)
  · exact lu_sw 310 hL h6 (by decide) hx rfl (by decide) (lc_4 hSG p4 hL h6 hS ih2)
  · exact lu_sw 333 hL h6 (by decide) hx rfl (by decide) (lc_5 hSG p5 hL h6 hS ih2)
  · exact lu_sw 376 hL h6 (by decide) hx rfl (by decide) (lc_6 hSG p6 hL h6 hS ih2)
  · exact lu_sw 409 hL h6 (by decide) hx rfl (by decide) (lc_7 hSG p7 hL h6 hS ih2)
  · exact lu_sw 442 hL h6 (by decide) hx rfl (by decide) (lc_8 hSG p8 hL h6 hS ih2)
  · exact lu_sw 475 hL h6 (by decide) hx rfl (by decide) (lc_9 hSG p9 hL h6 hS ih2)
  · exact lu_sw 508 hL h6 (by decide) hx rfl (by decide) (lc_10 hSG p10 hL h6 hS ih2)
  · exact lu_sw 541 hL h6 (by decide) hx rfl (by decide) (lc_11 hSG p11 hL h6 hS ih2)
  · exact lu_sw 584 hL h6 (by decide) hx rfl (by decide) (lc_12 hSG p12 hL h6 hS ih2)
  · exact lu_sw 617 hL h6 (by decide) hx rfl (by decide) (lc_13 hSG p13 hL h6 hS ih2)
  · exact lu_sw 660 hL h6 (by decide) hx rfl (by decide) (lc_14 hSG p14 hL h6 hS ih2)
  · exact lu_sw 713 hL h6 (by decide) hx rfl (by decide) (lc_15 hSG p15 hL h6 hS ih2)
  · exact lu_sw 746 hL h6 (by decide) hx rfl (by decide) (lc_16 hSG p16 hL h6 hS ih2)
  · exact lu_sw 779 hL h6 (by decide) hx rfl (by decide) (lc_17 hSG p17 hL h6 hS ih2)
  · exact lu_sw 822 hL h6 (by decide) hx rfl (by decide) (lc_18 hSG p18 hL h6 hS ih2)
  · exact lu_sw 845 hL h6 (by decide) hx rfl (by decide) (lc_19 hSG p19 hL h6 hS ih2)
  · exact lu_sw 858 hL h6 (by decide) hx rfl (by decide) (lc_20 hSG p20 hL h6 hS ih2)
  · exact lu_sw 881 hL h6 (by decide) hx rfl (by decide) (lc_21 hSG p21 hL h6 hS ih2)
  · exact lu_sw 914 hL h6 (by decide) hx rfl (by decide) (lc_22 hSG p22 hL h6 hS ih2)
  · exact lu_sw 947 hL h6 (by decide) hx rfl (by decide) (lc_23 hSG p23 hL h6 hS ih2)
  · exact lu_sw 990 hL h6 (by decide) hx rfl (by decide) (lc_24 hSG p24 hL h6 hS ih2)
  · exact lu_sw 1033 hL h6 (by decide) hx rfl (by decide) (lc_25 hSG p25 hL h6 hS ih2)
  · exact lu_sw 1056 hL h6 (by decide) hx rfl (by decide) (lc_26 hSG p26 hL h6 hS ih2)
  · exact lu_sw 1079 hL h6 (by decide) hx rfl (by decide) (lc_27 hSG p27 hL h6 hS ih2)
  · exact lu_sw 1102 hL h6 (by decide) hx rfl (by decide) (lc_28 hSG p28 hL h6 hS ih2)
  · exact lu_sw 1115 hL h6 (by decide) hx rfl (by decide) (lc_29 hSG p29 hL h6 hS ih2)
  · exact lu_sw 1138 hL h6 (by decide) hx rfl (by decide) (lc_30 hSG p30 hL h6 hS ih2)
  · exact lu_sw 1152 hL h6 (by decide) hx rfl (by decide) (lc_31 hSG p31 hL h6 hS ih2)
  · exact lu_sw 1165 hL h6 (by decide) hx rfl (by decide) (lc_32 hSG p32 hL h6 hS ih2)
  · exact lu_sw 1188 hL h6 (by decide) hx rfl (by decide) (lc_33 hSG p33 hL h6 hS ih2)
  · exact lu_sw 1201 hL h6 (by decide) hx rfl (by decide) (lc_34 hSG p34 hL h6 hS ih2)
end
