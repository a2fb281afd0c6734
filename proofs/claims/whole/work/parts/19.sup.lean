/-! what the functions of the methods are made of -/
def sh_let {α β : Type} (e : α) (f : α → β) : β := f e
/-- how often a loop may go round: a number that nothing unfolds -/
theorem sh_fuel_ex : ∃ n : Nat, n = 1000000 := ⟨_, rfl⟩
noncomputable def sh_fuel : Nat := Classical.choose sh_fuel_ex
theorem sh_fuel_eq : sh_fuel = 1000000 := Classical.choose_spec sh_fuel_ex
theorem sh_let_eq {α β : Type} {e y : α} {f : α → β} (h : y = e) : sh_let e f = f y := by rw [h]; rfl
theorem sh_chk {α : Type} {c : Prop} {dc : Decidable c} {t : Option α} {x : α} (h : (@ite (Option α) c dc t none) = some x) : c ∧ t = some x := by
  by_cases hc : c
  · rw [if_pos hc] at h; exact ⟨hc, h⟩
  · rw [if_neg hc] at h; cases h
theorem sh_some2 {α : Type} {v v' : α} {μ μ' : sh_Mem} (h : some (v, μ) = some (v', μ')) : v = v' ∧ μ = μ' := by
  have := Option.some.inj h
  exact ⟨congrArg Prod.fst this, congrArg Prod.snd this⟩
def sh_bind {α β : Type} (o : Option (α × sh_Mem)) (f : α → sh_Mem → Option β) : Option β := match o with
  | none => none
  | some q => f q.1 q.2
def sh_bindv {β : Type} (o : Option sh_Mem) (f : sh_Mem → Option β) : Option β := match o with
  | none => none
  | some q => f q
theorem sh_bind_e {α β : Type} {o : Option (α × sh_Mem)} {f : α → sh_Mem → Option β} {x : β} (h : sh_bind o f = some x) : ∃ r μ1, o = some (r, μ1) ∧ f r μ1 = some x := by
  cases o with
  | none => cases h
  | some q => exact ⟨q.1, q.2, rfl, h⟩
theorem sh_bindv_e {β : Type} {o : Option sh_Mem} {f : sh_Mem → Option β} {x : β} (h : sh_bindv o f = some x) : ∃ μ1, o = some μ1 ∧ f μ1 = some x := by
  cases o with
  | none => cases h
  | some q => exact ⟨q, rfl, h⟩
abbrev sh_in (i : Int32) (n : Nat) : Prop := ¬ (i < 0 ∨ n ≤ i.toNatClampNeg)
def sh_ref (μ : sh_Mem) (r k : Nat) : Nat := (sh_r μ r k).getD 0
theorem sh_nb {x : Int32} (h : x = 0 ∨ x = 1) : narrow .boolean (.int x) = .int x := by rcases h with rfl | rfl <;> rfl
theorem sh_lne {x c : Int32} {z : Int} (h : ¬ x = c) (hz : c.toInt = z) : ¬ x.toInt = z := fun e => h (Int32.toInt_inj.mp (e.trans hz.symm))
theorem sh_lnf {x c : Int32} {z : Int} (h : ¬ x = c) (hz : c.toInt = z) : ¬ z = x.toInt := fun e => sh_lne h hz e.symm
theorem sh_tout {x : Int32} (lo hi : Int) (h : ∀ j : Int, lo ≤ j → j ≤ hi → ¬ x.toInt = j) : x.toInt < lo ∨ hi < x.toInt := by
  by_cases h1 : x.toInt < lo
  · exact Or.inl h1
  · by_cases h2 : hi < x.toInt
    · exact Or.inr h2
    · exact absurd rfl (h x.toInt (by omega) (by omega))
theorem gA_l {μ : sh_Mem} {r ty n : Nat} (h : sh_G μ) (hr : sh_LAY[r]? = some (ty, n)) : (sh_lay μ)[r]? = some (ty, n) := by rw [h.1]; exact hr
theorem gLA1 {r : Nat} (hr : sh_isL r) : sh_LAY[r + 1]? = some (13, 49) := (sh_L1 r hr).2.1
theorem gLA2 {r : Nat} (hr : sh_isL r) : sh_LAY[r + 2]? = some (13, 7) := (sh_L1 r hr).2.2.1
theorem gLA3 {r : Nat} (hr : sh_isL r) : sh_LAY[r + 3]? = some (13, 7) := (sh_L1 r hr).2.2.2.1
theorem gLA4 {r : Nat} (hr : sh_isL r) : sh_LAY[r + 4]? = some (13, 7) := (sh_L1 r hr).2.2.2.2.1
theorem gLA5 {r : Nat} (hr : sh_isL r) : sh_LAY[r + 5]? = some (13, 7) := (sh_L1 r hr).2.2.2.2.2
theorem gFA0 {r : Nat} (hr : sh_isF r) : sh_LAY[r + 1]? = some (13, 1600) := (sh_F1 r hr).2.1
theorem gFA2 {r : Nat} (hr : sh_isF r) : sh_LAY[r + 2]? = some (14, 64) := (sh_F1 r hr).2.2.1
theorem gPA6 {r : Nat} (hr : sh_isP r) : sh_LAY[r + 1]? = some (13, 5) := by rcases hr with rfl | rfl <;> decide +kernel
theorem gPA7 {r : Nat} (hr : sh_isP r) : sh_LAY[r + 2]? = some (13, 7) := by rcases hr with rfl | rfl <;> decide +kernel
theorem gPA8 {r : Nat} (hr : sh_isP r) : sh_LAY[r + 3]? = some (13, 12) := by rcases hr with rfl | rfl <;> decide +kernel
theorem gPA9 {r : Nat} (hr : sh_isP r) : sh_LAY[r + 4]? = some (13, 12) := by rcases hr with rfl | rfl <;> decide +kernel
theorem sh_LAYat_1 : sh_LAY[1]? = some (13, 1600) := by decide +kernel
theorem sh_LAYat_4 : sh_LAY[4]? = some (13, 1600) := by decide +kernel
theorem sh_LAYat_5 : sh_LAY[5]? = some (14, 64) := by decide +kernel
theorem sh_LAYat_9 : sh_LAY[9]? = some (13, 5) := by decide +kernel
theorem sh_LAYat_10 : sh_LAY[10]? = some (13, 7) := by decide +kernel
theorem sh_LAYat_11 : sh_LAY[11]? = some (13, 12) := by decide +kernel
theorem sh_LAYat_12 : sh_LAY[12]? = some (13, 12) := by decide +kernel
theorem sh_LAYat_14 : sh_LAY[14]? = some (13, 1600) := by decide +kernel
theorem sh_LAYat_15 : sh_LAY[15]? = some (14, 64) := by decide +kernel
theorem sh_LAYat_17 : sh_LAY[17]? = some (13, 1600) := by decide +kernel
theorem sh_LAYat_18 : sh_LAY[18]? = some (14, 64) := by decide +kernel
theorem sh_LAYat_20 : sh_LAY[20]? = some (13, 1600) := by decide +kernel
theorem sh_LAYat_21 : sh_LAY[21]? = some (14, 64) := by decide +kernel
theorem sh_LAYat_23 : sh_LAY[23]? = some (13, 49) := by decide +kernel
theorem sh_LAYat_24 : sh_LAY[24]? = some (13, 7) := by decide +kernel
theorem sh_LAYat_25 : sh_LAY[25]? = some (13, 7) := by decide +kernel
theorem sh_LAYat_26 : sh_LAY[26]? = some (13, 7) := by decide +kernel
theorem sh_LAYat_27 : sh_LAY[27]? = some (13, 7) := by decide +kernel
theorem sh_LAYat_28 : sh_LAY[28]? = some (13, 38) := by decide +kernel
theorem sh_LAYat_30 : sh_LAY[30]? = some (13, 5) := by decide +kernel
theorem sh_LAYat_31 : sh_LAY[31]? = some (13, 7) := by decide +kernel
theorem sh_LAYat_32 : sh_LAY[32]? = some (13, 12) := by decide +kernel
theorem sh_LAYat_33 : sh_LAY[33]? = some (13, 12) := by decide +kernel
theorem sh_LAYat_35 : sh_LAY[35]? = some (13, 1600) := by decide +kernel
theorem sh_LAYat_36 : sh_LAY[36]? = some (14, 64) := by decide +kernel
theorem sh_LAYat_38 : sh_LAY[38]? = some (13, 1600) := by decide +kernel
theorem sh_LAYat_39 : sh_LAY[39]? = some (14, 64) := by decide +kernel
theorem sh_LAYat_41 : sh_LAY[41]? = some (13, 1600) := by decide +kernel
theorem sh_LAYat_42 : sh_LAY[42]? = some (14, 64) := by decide +kernel
theorem sh_LAYat_44 : sh_LAY[44]? = some (13, 49) := by decide +kernel
theorem sh_LAYat_45 : sh_LAY[45]? = some (13, 7) := by decide +kernel
theorem sh_LAYat_46 : sh_LAY[46]? = some (13, 7) := by decide +kernel
theorem sh_LAYat_47 : sh_LAY[47]? = some (13, 7) := by decide +kernel
theorem sh_LAYat_48 : sh_LAY[48]? = some (13, 7) := by decide +kernel
theorem sh_LAYat_50 : sh_LAY[50]? = some (13, 49) := by decide +kernel
theorem sh_LAYat_51 : sh_LAY[51]? = some (13, 7) := by decide +kernel
theorem sh_LAYat_52 : sh_LAY[52]? = some (13, 7) := by decide +kernel
theorem sh_LAYat_53 : sh_LAY[53]? = some (13, 7) := by decide +kernel
theorem sh_LAYat_54 : sh_LAY[54]? = some (13, 7) := by decide +kernel
theorem sh_LAYat_56 : sh_LAY[56]? = some (13, 38) := by decide +kernel
theorem sh_LAYat_58 : sh_LAY[58]? = some (13, 49) := by decide +kernel
theorem sh_LAYat_59 : sh_LAY[59]? = some (13, 7) := by decide +kernel
theorem sh_LAYat_60 : sh_LAY[60]? = some (13, 7) := by decide +kernel
theorem sh_LAYat_61 : sh_LAY[61]? = some (13, 7) := by decide +kernel
theorem sh_LAYat_62 : sh_LAY[62]? = some (13, 7) := by decide +kernel
theorem sh_LAYat_64 : sh_LAY[64]? = some (13, 160) := by decide +kernel
theorem sh_LAYat_87 : sh_LAY[87]? = some (13, 20) := by decide +kernel
theorem sh_LAYat_210 : sh_LAY[210]? = some (13, 49) := by decide +kernel
theorem sh_LAYat_211 : sh_LAY[211]? = some (13, 7) := by decide +kernel
theorem sh_LAYat_212 : sh_LAY[212]? = some (13, 7) := by decide +kernel
theorem sh_LAYat_213 : sh_LAY[213]? = some (13, 7) := by decide +kernel
theorem sh_LAYat_214 : sh_LAY[214]? = some (13, 7) := by decide +kernel
theorem sh_LAYat_216 : sh_LAY[216]? = some (13, 64) := by decide +kernel
theorem sh_LAYat_217 : sh_LAY[217]? = some (13, 896) := by decide +kernel
theorem sh_LAYat_219 : sh_LAY[219]? = some (13, 49) := by decide +kernel
theorem sh_LAYat_220 : sh_LAY[220]? = some (13, 7) := by decide +kernel
theorem sh_LAYat_221 : sh_LAY[221]? = some (13, 7) := by decide +kernel
theorem sh_LAYat_222 : sh_LAY[222]? = some (13, 7) := by decide +kernel
theorem sh_LAYat_223 : sh_LAY[223]? = some (13, 7) := by decide +kernel
theorem sh_LAYat_225 : sh_LAY[225]? = some (13, 49) := by decide +kernel
theorem sh_LAYat_226 : sh_LAY[226]? = some (13, 7) := by decide +kernel
theorem sh_LAYat_227 : sh_LAY[227]? = some (13, 7) := by decide +kernel
theorem sh_LAYat_228 : sh_LAY[228]? = some (13, 7) := by decide +kernel
theorem sh_LAYat_229 : sh_LAY[229]? = some (13, 7) := by decide +kernel
theorem sh_LAYat_231 : sh_LAY[231]? = some (13, 49) := by decide +kernel
theorem sh_LAYat_232 : sh_LAY[232]? = some (13, 7) := by decide +kernel
theorem sh_LAYat_233 : sh_LAY[233]? = some (13, 7) := by decide +kernel
theorem sh_LAYat_234 : sh_LAY[234]? = some (13, 7) := by decide +kernel
theorem sh_LAYat_235 : sh_LAY[235]? = some (13, 7) := by decide +kernel
theorem sh_LAYat_237 : sh_LAY[237]? = some (13, 49) := by decide +kernel
theorem sh_LAYat_238 : sh_LAY[238]? = some (13, 7) := by decide +kernel
theorem sh_LAYat_239 : sh_LAY[239]? = some (13, 7) := by decide +kernel
theorem sh_LAYat_240 : sh_LAY[240]? = some (13, 7) := by decide +kernel
theorem sh_LAYat_241 : sh_LAY[241]? = some (13, 7) := by decide +kernel
theorem sh_LAYat_243 : sh_LAY[243]? = some (13, 49) := by decide +kernel
theorem sh_LAYat_244 : sh_LAY[244]? = some (13, 7) := by decide +kernel
theorem sh_LAYat_245 : sh_LAY[245]? = some (13, 7) := by decide +kernel
theorem sh_LAYat_246 : sh_LAY[246]? = some (13, 7) := by decide +kernel
theorem sh_LAYat_247 : sh_LAY[247]? = some (13, 7) := by decide +kernel
theorem sh_LAYat_249 : sh_LAY[249]? = some (13, 49) := by decide +kernel
theorem sh_LAYat_250 : sh_LAY[250]? = some (13, 7) := by decide +kernel
theorem sh_LAYat_251 : sh_LAY[251]? = some (13, 7) := by decide +kernel
theorem sh_LAYat_252 : sh_LAY[252]? = some (13, 7) := by decide +kernel
theorem sh_LAYat_253 : sh_LAY[253]? = some (13, 7) := by decide +kernel
theorem sh_LAYat_255 : sh_LAY[255]? = some (13, 49) := by decide +kernel
theorem sh_LAYat_256 : sh_LAY[256]? = some (13, 7) := by decide +kernel
theorem sh_LAYat_257 : sh_LAY[257]? = some (13, 7) := by decide +kernel
theorem sh_LAYat_258 : sh_LAY[258]? = some (13, 7) := by decide +kernel
theorem sh_LAYat_259 : sh_LAY[259]? = some (13, 7) := by decide +kernel
theorem sh_LAYat_262 : sh_LAY[262]? = some (13, 3) := by decide +kernel
theorem sh_LAYat_264 : sh_LAY[264]? = some (13, 49) := by decide +kernel
theorem sh_LAYat_265 : sh_LAY[265]? = some (13, 7) := by decide +kernel
theorem sh_LAYat_266 : sh_LAY[266]? = some (13, 7) := by decide +kernel
theorem sh_LAYat_267 : sh_LAY[267]? = some (13, 7) := by decide +kernel
theorem sh_LAYat_268 : sh_LAY[268]? = some (13, 7) := by decide +kernel
theorem sh_LAYat_270 : sh_LAY[270]? = some (13, 49) := by decide +kernel
theorem sh_LAYat_271 : sh_LAY[271]? = some (13, 7) := by decide +kernel
theorem sh_LAYat_272 : sh_LAY[272]? = some (13, 7) := by decide +kernel
theorem sh_LAYat_273 : sh_LAY[273]? = some (13, 7) := by decide +kernel
theorem sh_LAYat_274 : sh_LAY[274]? = some (13, 7) := by decide +kernel
theorem sh_LAYat_276 : sh_LAY[276]? = some (13, 49) := by decide +kernel
theorem sh_LAYat_277 : sh_LAY[277]? = some (13, 7) := by decide +kernel
theorem sh_LAYat_278 : sh_LAY[278]? = some (13, 7) := by decide +kernel
theorem sh_LAYat_279 : sh_LAY[279]? = some (13, 7) := by decide +kernel
theorem sh_LAYat_280 : sh_LAY[280]? = some (13, 7) := by decide +kernel
theorem sh_LAYat_282 : sh_LAY[282]? = some (13, 49) := by decide +kernel
theorem sh_LAYat_283 : sh_LAY[283]? = some (13, 7) := by decide +kernel
theorem sh_LAYat_284 : sh_LAY[284]? = some (13, 7) := by decide +kernel
theorem sh_LAYat_285 : sh_LAY[285]? = some (13, 7) := by decide +kernel
theorem sh_LAYat_286 : sh_LAY[286]? = some (13, 7) := by decide +kernel
theorem sh_LAYat_288 : sh_LAY[288]? = some (13, 49) := by decide +kernel
theorem sh_LAYat_289 : sh_LAY[289]? = some (13, 80) := by decide +kernel
theorem sh_LAYat_290 : sh_LAY[290]? = some (13, 6) := by decide +kernel
theorem sh_LAYat_292 : sh_LAY[292]? = some (13, 1600) := by decide +kernel
theorem sh_LAYat_293 : sh_LAY[293]? = some (13, 6) := by decide +kernel
theorem sh_LAYat_294 : sh_LAY[294]? = some (15, 5) := by decide +kernel
theorem sh_LAYat_295 : sh_LAY[295]? = some (15, 2) := by decide +kernel
theorem sh_LAYat_296 : sh_LAY[296]? = some (15, 4) := by decide +kernel
theorem sh_LAYat_297 : sh_LAY[297]? = some (15, 5) := by decide +kernel
theorem sh_LAYat_298 : sh_LAY[298]? = some (15, 6) := by decide +kernel
theorem sh_LAYat_299 : sh_LAY[299]? = some (15, 2) := by decide +kernel
theorem sh_LAYat_300 : sh_LAY[300]? = some (15, 5) := by decide +kernel
theorem sh_LAYat_301 : sh_LAY[301]? = some (15, 5) := by decide +kernel
theorem sh_LAYat_302 : sh_LAY[302]? = some (15, 2) := by decide +kernel
theorem sh_LAYat_303 : sh_LAY[303]? = some (15, 4) := by decide +kernel
theorem sh_LAYat_304 : sh_LAY[304]? = some (15, 5) := by decide +kernel
theorem sh_LAYat_305 : sh_LAY[305]? = some (15, 5) := by decide +kernel
theorem sh_LAYat_306 : sh_LAY[306]? = some (15, 5) := by decide +kernel
theorem sh_LAYat_307 : sh_LAY[307]? = some (15, 5) := by decide +kernel
theorem sh_LAYat_308 : sh_LAY[308]? = some (15, 6) := by decide +kernel
theorem sh_LAYat_309 : sh_LAY[309]? = some (15, 5) := by decide +kernel
theorem sh_LAYat_310 : sh_LAY[310]? = some (15, 3) := by decide +kernel
theorem sh_LAYat_311 : sh_LAY[311]? = some (15, 4) := by decide +kernel
theorem sh_LAYat_312 : sh_LAY[312]? = some (15, 6) := by decide +kernel
theorem sh_LAYat_313 : sh_LAY[313]? = some (15, 6) := by decide +kernel
theorem sh_LAYat_314 : sh_LAY[314]? = some (15, 3) := by decide +kernel
theorem sh_LAYat_315 : sh_LAY[315]? = some (15, 2) := by decide +kernel
theorem sh_LAYat_316 : sh_LAY[316]? = some (15, 3) := by decide +kernel
theorem sh_LAYat_317 : sh_LAY[317]? = some (15, 3) := by decide +kernel
theorem sh_LAYat_318 : sh_LAY[318]? = some (15, 3) := by decide +kernel
theorem sh_LAYat_319 : sh_LAY[319]? = some (15, 3) := by decide +kernel
theorem sh_LAYat_320 : sh_LAY[320]? = some (15, 3) := by decide +kernel
theorem sh_LAYat_321 : sh_LAY[321]? = some (13, 6) := by decide +kernel
theorem sh_LAYat_322 : sh_LAY[322]? = some (13, 6) := by decide +kernel
theorem sh_LAYat_323 : sh_LAY[323]? = some (14, 32) := by decide +kernel
theorem sh_LAYat_324 : sh_LAY[324]? = some (13, 49) := by decide +kernel
theorem sh_LAYat_325 : sh_LAY[325]? = some (13, 21) := by decide +kernel
theorem sh_LAYat_326 : sh_LAY[326]? = some (13, 48) := by decide +kernel
theorem sh_LAYat_327 : sh_LAY[327]? = some (13, 6) := by decide +kernel
theorem sh_LAYat_328 : sh_LAY[328]? = some (13, 6) := by decide +kernel
theorem sh_LAYat_329 : sh_LAY[329]? = some (13, 3200) := by decide +kernel
theorem sh_LAYat_330 : sh_LAY[330]? = some (13, 232) := by decide +kernel
theorem sh_LAYat_331 : sh_LAY[331]? = some (13, 71) := by decide +kernel
theorem sh_LAYat_332 : sh_LAY[332]? = some (13, 35) := by decide +kernel
theorem sh_LAYat_333 : sh_LAY[333]? = some (13, 3) := by decide +kernel
theorem sh_LAYat_334 : sh_LAY[334]? = some (13, 71) := by decide +kernel
theorem sh_LAYat_335 : sh_LAY[335]? = some (13, 71) := by decide +kernel
theorem sh_LAYat_336 : sh_LAY[336]? = some (13, 49) := by decide +kernel
theorem sh_LAYat_337 : sh_LAY[337]? = some (13, 896) := by decide +kernel
theorem sh_LAYat_338 : sh_LAY[338]? = some (13, 48) := by decide +kernel
theorem sh_LAYat_339 : sh_LAY[339]? = some (13, 10633) := by decide +kernel
theorem sh_LAYat_340 : sh_LAY[340]? = some (13, 4640) := by decide +kernel
theorem sh_LAYat_341 : sh_LAY[341]? = some (15, 5) := by decide +kernel
theorem sh_LAYat_342 : sh_LAY[342]? = some (15, 4) := by decide +kernel
theorem sh_LAYat_343 : sh_LAY[343]? = some (15, 5) := by decide +kernel
theorem sh_LAYat_344 : sh_LAY[344]? = some (15, 5) := by decide +kernel
theorem sh_LAYat_345 : sh_LAY[345]? = some (15, 4) := by decide +kernel
theorem sh_LAYat_346 : sh_LAY[346]? = some (15, 5) := by decide +kernel
theorem sh_LAYat_347 : sh_LAY[347]? = some (15, 3) := by decide +kernel
theorem sh_LAYat_348 : sh_LAY[348]? = some (15, 3) := by decide +kernel
theorem sh_LAYat_349 : sh_LAY[349]? = some (15, 2) := by decide +kernel
theorem sh_LAYat_350 : sh_LAY[350]? = some (15, 3) := by decide +kernel
theorem sh_LAYat_351 : sh_LAY[351]? = some (15, 3) := by decide +kernel
theorem sh_LAYat_352 : sh_LAY[352]? = some (15, 3) := by decide +kernel
theorem sh_LAYat_353 : sh_LAY[353]? = some (15, 5) := by decide +kernel
theorem sh_LAYat_354 : sh_LAY[354]? = some (15, 6) := by decide +kernel
theorem sh_LAYat_355 : sh_LAY[355]? = some (15, 5) := by decide +kernel
theorem sh_LAYat_356 : sh_LAY[356]? = some (15, 3) := by decide +kernel
theorem sh_LAYat_357 : sh_LAY[357]? = some (15, 5) := by decide +kernel
theorem sh_LAYat_358 : sh_LAY[358]? = some (15, 4) := by decide +kernel
theorem sh_LAYat_359 : sh_LAY[359]? = some (15, 6) := by decide +kernel
theorem sh_LAYat_360 : sh_LAY[360]? = some (15, 6) := by decide +kernel
theorem sh_LAYat_361 : sh_LAY[361]? = some (15, 3) := by decide +kernel
theorem sh_LAYat_362 : sh_LAY[362]? = some (15, 5) := by decide +kernel
theorem sh_LAYat_363 : sh_LAY[363]? = some (15, 5) := by decide +kernel
theorem sh_LAYat_364 : sh_LAY[364]? = some (13, 1700) := by decide +kernel
theorem sh_LAYat_365 : sh_LAY[365]? = some (13, 1700) := by decide +kernel
theorem sh_LAYat_366 : sh_LAY[366]? = some (14, 1700) := by decide +kernel
theorem sh_LAYat_367 : sh_LAY[367]? = some (13, 80) := by decide +kernel
theorem gRx_65 : ∀ i, i < 20 → (65, i, 88 + 6 * i) ∈ sh_HRL := by decide +kernel
theorem gR_65 {μ : sh_Mem} {i : Int32} (h : sh_G μ) (hi : sh_in i 20) : sh_r μ 65 i.toNatClampNeg = some (88 + 6 * i.toNatClampNeg) := h.2 (65, i.toNatClampNeg, 88 + 6 * i.toNatClampNeg) (gRx_65 _ (Nat.lt_of_not_le fun q => hi (Or.inr q)))
theorem gRy_65 : ∀ i, i < 20 → 88 + 6 * i ∈ sh_LANDS := by decide +kernel
theorem gRL_65 {i : Int32} (hi : sh_in i 20) : sh_isL (88 + 6 * i.toNatClampNeg) := gRy_65 _ (Nat.lt_of_not_le fun q => hi (Or.inr q))
theorem gRx_66 : ∀ i, i < 20 → (66, i, 67 + i) ∈ sh_HRL := by decide +kernel
theorem gR_66 {μ : sh_Mem} {i : Int32} (h : sh_G μ) (hi : sh_in i 20) : sh_r μ 66 i.toNatClampNeg = some (67 + i.toNatClampNeg) := h.2 (66, i.toNatClampNeg, 67 + i.toNatClampNeg) (gRx_66 _ (Nat.lt_of_not_le fun q => hi (Or.inr q)))
theorem gRy_66 : ∀ i, i < 20 → sh_LAY[67 + i]? = some (13, 160) := by decide +kernel
theorem gRL_66 {i : Int32} (hi : sh_in i 20) : sh_LAY[67 + i.toNatClampNeg]? = some (13, 160) := gRy_66 _ (Nat.lt_of_not_le fun q => hi (Or.inr q))
theorem gRx_215 : ∀ i, i < 7 → (215, i, 218 + 6 * i) ∈ sh_HRL := by decide +kernel
theorem gR_215 {μ : sh_Mem} {i : Int32} (h : sh_G μ) (hi : sh_in i 7) : sh_r μ 215 i.toNatClampNeg = some (218 + 6 * i.toNatClampNeg) := h.2 (215, i.toNatClampNeg, 218 + 6 * i.toNatClampNeg) (gRx_215 _ (Nat.lt_of_not_le fun q => hi (Or.inr q)))
theorem gRy_215 : ∀ i, i < 7 → 218 + 6 * i ∈ sh_LANDS := by decide +kernel
theorem gRL_215 {i : Int32} (hi : sh_in i 7) : sh_isL (218 + 6 * i.toNatClampNeg) := gRy_215 _ (Nat.lt_of_not_le fun q => hi (Or.inr q))
theorem gRx_261 : ∀ i, i < 4 → (261, i, 263 + 6 * i) ∈ sh_HRL := by decide +kernel
theorem gR_261 {μ : sh_Mem} {i : Int32} (h : sh_G μ) (hi : sh_in i 4) : sh_r μ 261 i.toNatClampNeg = some (263 + 6 * i.toNatClampNeg) := h.2 (261, i.toNatClampNeg, 263 + 6 * i.toNatClampNeg) (gRx_261 _ (Nat.lt_of_not_le fun q => hi (Or.inr q)))
theorem gRy_261 : ∀ i, i < 4 → 263 + 6 * i ∈ sh_LANDS := by decide +kernel
theorem gRL_261 {i : Int32} (hi : sh_in i 4) : sh_isL (263 + 6 * i.toNatClampNeg) := gRy_261 _ (Nat.lt_of_not_le fun q => hi (Or.inr q))
theorem g_l_209 {μ : sh_Mem} (h : sh_G μ) : (sh_lay μ)[209]? = some (3, 0) := by rw [h.1]; decide +kernel
theorem g_l_210 {μ : sh_Mem} (h : sh_G μ) : (sh_lay μ)[210]? = some (13, 49) := by rw [h.1]; decide +kernel
theorem g_l_211 {μ : sh_Mem} (h : sh_G μ) : (sh_lay μ)[211]? = some (13, 7) := by rw [h.1]; decide +kernel
theorem g_l_212 {μ : sh_Mem} (h : sh_G μ) : (sh_lay μ)[212]? = some (13, 7) := by rw [h.1]; decide +kernel
theorem g_l_213 {μ : sh_Mem} (h : sh_G μ) : (sh_lay μ)[213]? = some (13, 7) := by rw [h.1]; decide +kernel
theorem g_l_214 {μ : sh_Mem} (h : sh_G μ) : (sh_lay μ)[214]? = some (13, 7) := by rw [h.1]; decide +kernel
theorem g_r_209_1 {μ : sh_Mem} (h : sh_G μ) : sh_r μ 209 1 = some 210 := h.2 (209, 1, 210) (by decide +kernel)
theorem g_r_209_2 {μ : sh_Mem} (h : sh_G μ) : sh_r μ 209 2 = some 211 := h.2 (209, 2, 211) (by decide +kernel)
theorem g_r_209_3 {μ : sh_Mem} (h : sh_G μ) : sh_r μ 209 3 = some 212 := h.2 (209, 3, 212) (by decide +kernel)
theorem g_r_209_4 {μ : sh_Mem} (h : sh_G μ) : sh_r μ 209 4 = some 213 := h.2 (209, 4, 213) (by decide +kernel)
theorem g_r_209_5 {μ : sh_Mem} (h : sh_G μ) : sh_r μ 209 5 = some 214 := h.2 (209, 5, 214) (by decide +kernel)
section VNew
variable {l : Launch} {B : Nat} {D : va_G} {ca : Nat → ClassId} {d d' mc ms : Nat} {M M' : sh_M} {lv : List (Nat × Value)} {st : List Value} {μ μ1 : sh_Mem} {cells slots : Nat} {Q : Option Value → sh_Mem → Prop} {v1 : Option Value}
theorem vv_topi {pc : Nat} {x : Int32} (k : ∀ y : Int32, y = x → sh_V l B D ca d mc ms M pc lv (.int y :: st) μ cells slots Q) : sh_V l B D ca d mc ms M pc lv (.int x :: st) μ cells slots Q := k x rfl
theorem vv_topr {pc x : Nat} (k : ∀ y : Nat, y = x → sh_V l B D ca d mc ms M pc lv (.ref y :: st) μ cells slots Q) : sh_V l B D ca d mc ms M pc lv (.ref x :: st) μ cells slots Q := k x rfl
theorem vv_topl {pc : Nat} {x : Int64} (k : ∀ y : Int64, y = x → sh_V l B D ca d mc ms M pc lv (.long y :: st) μ cells slots Q) : sh_V l B D ca d mc ms M pc lv (.long x :: st) μ cells slots Q := k x rfl
theorem vn_putI {idx ci k n r : Nat} {x : Int32} (pc : Nat) (hd : decode M.2.1 pc = .ok (.putfield idx, 3)) (hf : sh_FL M.1.cls idx ci k) (hfin : (sh_T ci k).2.2.2 = false ∨ ((sh_T ci k).2.2.2 = true ∧ M.1.name = "<init>" ∧ (sh_T ci k).1 = M.1.cls)) (ht : sh_ty ci k = .int) (hl : (sh_lay μ)[r]? = some (ci, n)) (kk : ∀ y : sh_Mem, y = sh_setI μ r k x → sh_V l B D ca d mc ms M (pc + 3) lv st y cells slots Q) : sh_V l B D ca d mc ms M pc lv (.int x :: .ref r :: st) μ cells slots Q := vv_putI pc hd hf hfin ht hl (kk _ rfl)
theorem vn_putZ {idx ci k n r : Nat} {x : Int32} (pc : Nat) (hd : decode M.2.1 pc = .ok (.putfield idx, 3)) (hf : sh_FL M.1.cls idx ci k) (hfin : (sh_T ci k).2.2.2 = false ∨ ((sh_T ci k).2.2.2 = true ∧ M.1.name = "<init>" ∧ (sh_T ci k).1 = M.1.cls)) (ht : sh_ty ci k = .boolean) (hx : x = 0 ∨ x = 1) (hl : (sh_lay μ)[r]? = some (ci, n)) (kk : ∀ y : sh_Mem, y = sh_setI μ r k x → sh_V l B D ca d mc ms M (pc + 3) lv st y cells slots Q) : sh_V l B D ca d mc ms M pc lv (.int x :: .ref r :: st) μ cells slots Q := vv_putZ pc hd hf hfin ht hx hl (kk _ rfl)
theorem vn_putL {idx ci k n r : Nat} {x : Int64} (pc : Nat) (hd : decode M.2.1 pc = .ok (.putfield idx, 3)) (hf : sh_FL M.1.cls idx ci k) (hfin : (sh_T ci k).2.2.2 = false ∨ ((sh_T ci k).2.2.2 = true ∧ M.1.name = "<init>" ∧ (sh_T ci k).1 = M.1.cls)) (ht : sh_ty ci k = .long) (hl : (sh_lay μ)[r]? = some (ci, n)) (kk : ∀ y : sh_Mem, y = sh_setL μ r k x → sh_V l B D ca d mc ms M (pc + 3) lv st y cells slots Q) : sh_V l B D ca d mc ms M pc lv (.long x :: .ref r :: st) μ cells slots Q := vv_putL pc hd hf hfin ht hl (kk _ rfl)
theorem vn_putR {idx ci k n r : Nat} {x : Nat} (pc : Nat) (hd : decode M.2.1 pc = .ok (.putfield idx, 3)) (hf : sh_FL M.1.cls idx ci k) (hfin : (sh_T ci k).2.2.2 = false ∨ ((sh_T ci k).2.2.2 = true ∧ M.1.name = "<init>" ∧ (sh_T ci k).1 = M.1.cls)) (ht : sh_isq (sh_ty ci k) = true) (hl : (sh_lay μ)[r]? = some (ci, n)) (kk : ∀ y : sh_Mem, y = sh_setR μ r k (some x) → sh_V l B D ca d mc ms M (pc + 3) lv st y cells slots Q) : sh_V l B D ca d mc ms M pc lv (.ref x :: .ref r :: st) μ cells slots Q := vv_putR pc hd hf hfin ht hl (kk _ rfl)
theorem vn_iast {r n : Nat} {i : Int32} {x : Int32} (pc : Nat) (hd : decode M.2.1 pc = .ok (.iastore, 1)) (hl : (sh_lay μ)[r]? = some (13, n)) (hi : vp_in i n) (kk : ∀ y : sh_Mem, y = sh_setI μ r i.toNatClampNeg x → sh_V l B D ca d mc ms M (pc + 1) lv st y cells slots Q) : sh_V l B D ca d mc ms M pc lv (.int x :: .int i :: .ref r :: st) μ cells slots Q := vv_iast pc hd hl hi (kk _ rfl)
theorem vn_last {r n : Nat} {i : Int32} {x : Int64} (pc : Nat) (hd : decode M.2.1 pc = .ok (.lastore, 1)) (hl : (sh_lay μ)[r]? = some (14, n)) (hi : vp_in i n) (kk : ∀ y : sh_Mem, y = sh_setL μ r i.toNatClampNeg x → sh_V l B D ca d mc ms M (pc + 1) lv st y cells slots Q) : sh_V l B D ca d mc ms M pc lv (.long x :: .int i :: .ref r :: st) μ cells slots Q := vv_last pc hd hl hi (kk _ rfl)
theorem vn_copy {idx r0 r1 n0 n1 : Nat} {sp dp n : Int32} (pc : Nat) (hd : decode M.2.1 pc = .ok (.invokestatic idx, 3)) (hc : sh_CP M.1.cls idx) (hl0 : (sh_lay μ)[r0]? = some (13, n0)) (hl1 : (sh_lay μ)[r1]? = some (13, n1)) (h1 : ¬ sp < 0) (h2 : ¬ dp < 0) (h3 : ¬ n < 0) (h4 : sp.toNatClampNeg + n.toNatClampNeg ≤ n0) (h5 : dp.toNatClampNeg + n.toNatClampNeg ≤ n1) (hdd : 1 ≤ d) (hst : (st.map fun v => v.category).sum ≤ 8) (kk : ∀ y : sh_Mem, y = sh_rowI μ r1 (va_cpy (sh_i μ r0) (sh_i μ r1) sp.toNatClampNeg dp.toNatClampNeg n.toNatClampNeg) → sh_V l B D ca d mc ms M (pc + 3) lv st y cells slots Q) : sh_V l B D ca d mc ms M pc lv (.int n :: .int dp :: .ref r1 :: .int sp :: .ref r0 :: st) μ cells slots Q := vv_copy pc hd hc hl0 hl1 h1 h2 h3 h4 h5 hdd hst (kk _ rfl)
theorem v1_callV {idx n ci nn r : Nat} (as : List Value) (pc : Nat) (hd : decode M.2.1 pc = .ok (.invokevirtual idx, 3)) (hc : sh_CV M.1.cls idx M' n) (hl : (sh_lay μ)[r]? = some (ci, nn)) (hci : ci < 13 ∧ sh_R ci = M'.1.cls) (hcon : sh_C0 l B D ca d' M' (.ref r :: as) μ (fun v μ' => v = v1 ∧ μ' = μ1)) (hdd : d' + 1 ≤ d) (hL : (lg_sl (.ref r :: as)).length ≤ M'.2.2.1 ∧ M'.2.2.1 ≤ 81) (hn : as.length = n) (hst : (st.map fun v => v.category).sum ≤ 8) (kk : sh_V0 l B D ca d M (pc + 3) lv (sh_psh v1 st) μ1 Q) : sh_V0 l B D ca d M pc lv (as.reverse ++ .ref r :: st) μ Q := v0_callV as pc hd hc hl hci hcon hdd hL hn hst (fun v μ' hq => by rw [hq.1, hq.2]; exact kk)
theorem v1_callVN {idx n ci nn r : Nat} (as : List Value) (pc : Nat) (hd : decode M.2.1 pc = .ok (.invokevirtual idx, 3)) (hc : sh_CVN M.1.cls idx M' n) (hl : (sh_lay μ)[r]? = some (ci, nn)) (hci : ci < 13 ∧ sh_R ci = M'.1.cls) (hcon : sh_C0 l B D ca d' M' (.ref r :: as) μ (fun v μ' => v = v1 ∧ μ' = μ1)) (hdd : d' + 1 ≤ d) (hL : (lg_sl (.ref r :: as)).length ≤ M'.2.2.1 ∧ M'.2.2.1 ≤ 81) (hn : as.length = n) (hst : (st.map fun v => v.category).sum ≤ 8) (kk : sh_V0 l B D ca d M (pc + 3) lv (sh_psh v1 st) μ1 Q) : sh_V0 l B D ca d M pc lv (as.reverse ++ .ref r :: st) μ Q := v0_callVN as pc hd hc hl hci hcon hdd hL hn hst (fun v μ' hq => by rw [hq.1, hq.2]; exact kk)
theorem v1_callS {idx n : Nat} (as : List Value) (pc : Nat) (hd : decode M.2.1 pc = .ok (.invokestatic idx, 3)) (hc : sh_CS M.1.cls idx M' n) (hcon : sh_C0 l B D ca d' M' as μ (fun v μ' => v = v1 ∧ μ' = μ1)) (hdd : d' + 1 ≤ d) (hL : (lg_sl as).length ≤ M'.2.2.1 ∧ M'.2.2.1 ≤ 81) (hn : as.length = n) (hst : (st.map fun v => v.category).sum ≤ 8) (kk : sh_V0 l B D ca d M (pc + 3) lv (sh_psh v1 st) μ1 Q) : sh_V0 l B D ca d M pc lv (as.reverse ++ st) μ Q := v0_callS as pc hd hc hcon hdd hL hn hst (fun v μ' hq => by rw [hq.1, hq.2]; exact kk)
end VNew
