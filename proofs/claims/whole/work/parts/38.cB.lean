section
variable {l : Launch} {B : Nat} {D : va_G} {ca : Nat → ClassId}
set_option maxHeartbeats 40000000 in
theorem kc_29 : sh_Con l B D ca 1 5 77 M_X3_init [.ref 154] km_273 (fun v μ' => v = none ∧ μ' = km_283) := by
  have hn : (sh_lay km_273).length = 155 := by decide +kernel
  refine vv_aload_n 0 0 dX3_init_0 rfl rfl ?_
  refine vv_objInit 1 dX3_init_1 ck_X3_3 (Nat.le_of_ble_eq_true rfl) (Nat.le_of_ble_eq_true rfl) ?_
  refine vv_aload_n 4 0 dX3_init_4 rfl rfl ?_
  refine vv_bipush 5 dX3_init_5 bk_49 ?_
  refine vk_newa (N := 49) (c1 := 1) (s1 := 49) 13 .int (Or.inl ⟨rfl, rfl⟩) 7 dX3_init_7 ac_13 (by decide) (by decide) (Nat.le_of_ble_eq_true rfl) (n := 155) hn (μ1 := km_274) rfl rfl rfl (Nat.le_of_ble_eq_true rfl) (Nat.le_of_ble_eq_true rfl) ?_
  have el : km_274 = sh_add km_273 (13, 49) := rfl
  have hl155 : (sh_lay km_274)[155]? = some (13, 49) := by rw [el]; exact sh_lay_new hn
  have hn : (sh_lay km_274).length = 156 := by rw [el]; exact sh_len_add hn
  have hl154 : (sh_lay km_274)[154]? = some (3, 0) := by decide +kernel
  refine vn_putR 9 dX3_init_9 fl_3_9 (Or.inr ⟨rfl, rfl, rfl⟩) rfl hl154 (fun y ey => ?_)
  obtain rfl : y = km_275 := ey
  have el : sh_lay km_275 = sh_lay km_274 := by rw [show km_275 = sh_setR km_274 154 1 (some 155) from rfl]; exact sh_lyR
  have hl154 : (sh_lay km_275)[154]? = some (3, 0) := by rw [el]; exact hl154
  have hn : (sh_lay km_275).length = 156 := by rw [el]; exact hn
  refine vv_aload_n 12 0 dX3_init_12 rfl rfl ?_
  refine vv_bipush 13 dX3_init_13 bk_7 ?_
  refine vk_newa (N := 7) (c1 := 2) (s1 := 56) 13 .int (Or.inl ⟨rfl, rfl⟩) 15 dX3_init_15 ac_13 (by decide) (by decide) (Nat.le_of_ble_eq_true rfl) (n := 156) hn (μ1 := km_276) rfl rfl rfl (Nat.le_of_ble_eq_true rfl) (Nat.le_of_ble_eq_true rfl) ?_
  have el : km_276 = sh_add km_275 (13, 7) := rfl
  have hl154 : (sh_lay km_276)[154]? = some (3, 0) := by rw [el]; exact sh_lay_add hl154
  have hl156 : (sh_lay km_276)[156]? = some (13, 7) := by rw [el]; exact sh_lay_new hn
  have hn : (sh_lay km_276).length = 157 := by rw [el]; exact sh_len_add hn
  refine vn_putR 17 dX3_init_17 fl_3_15 (Or.inr ⟨rfl, rfl, rfl⟩) rfl hl154 (fun y ey => ?_)
  obtain rfl : y = km_277 := ey
  have el : sh_lay km_277 = sh_lay km_276 := by rw [show km_277 = sh_setR km_276 154 2 (some 156) from rfl]; exact sh_lyR
  have hl154 : (sh_lay km_277)[154]? = some (3, 0) := by rw [el]; exact hl154
  have hn : (sh_lay km_277).length = 157 := by rw [el]; exact hn
  refine vv_aload_n 20 0 dX3_init_20 rfl rfl ?_
  refine vv_bipush 21 dX3_init_21 bk_7 ?_
  refine vk_newa (N := 7) (c1 := 3) (s1 := 63) 13 .int (Or.inl ⟨rfl, rfl⟩) 23 dX3_init_23 ac_13 (by decide) (by decide) (Nat.le_of_ble_eq_true rfl) (n := 157) hn (μ1 := km_278) rfl rfl rfl (Nat.le_of_ble_eq_true rfl) (Nat.le_of_ble_eq_true rfl) ?_
  have el : km_278 = sh_add km_277 (13, 7) := rfl
  have hl154 : (sh_lay km_278)[154]? = some (3, 0) := by rw [el]; exact sh_lay_add hl154
  have hl157 : (sh_lay km_278)[157]? = some (13, 7) := by rw [el]; exact sh_lay_new hn
  have hn : (sh_lay km_278).length = 158 := by rw [el]; exact sh_len_add hn
  refine vn_putR 25 dX3_init_25 fl_3_18 (Or.inr ⟨rfl, rfl, rfl⟩) rfl hl154 (fun y ey => ?_)
  obtain rfl : y = km_279 := ey
  have el : sh_lay km_279 = sh_lay km_278 := by rw [show km_279 = sh_setR km_278 154 3 (some 157) from rfl]; exact sh_lyR
  have hl154 : (sh_lay km_279)[154]? = some (3, 0) := by rw [el]; exact hl154
  have hn : (sh_lay km_279).length = 158 := by rw [el]; exact hn
  refine vv_aload_n 28 0 dX3_init_28 rfl rfl ?_
  refine vv_bipush 29 dX3_init_29 bk_7 ?_
  refine vk_newa (N := 7) (c1 := 4) (s1 := 70) 13 .int (Or.inl ⟨rfl, rfl⟩) 31 dX3_init_31 ac_13 (by decide) (by decide) (Nat.le_of_ble_eq_true rfl) (n := 158) hn (μ1 := km_280) rfl rfl rfl (Nat.le_of_ble_eq_true rfl) (Nat.le_of_ble_eq_true rfl) ?_
  have el : km_280 = sh_add km_279 (13, 7) := rfl
  have hl154 : (sh_lay km_280)[154]? = some (3, 0) := by rw [el]; exact sh_lay_add hl154
  have hl158 : (sh_lay km_280)[158]? = some (13, 7) := by rw [el]; exact sh_lay_new hn
  have hn : (sh_lay km_280).length = 159 := by rw [el]; exact sh_len_add hn
  refine vn_putR 33 dX3_init_33 fl_3_21 (Or.inr ⟨rfl, rfl, rfl⟩) rfl hl154 (fun y ey => ?_)
  obtain rfl : y = km_281 := ey
  have el : sh_lay km_281 = sh_lay km_280 := by rw [show km_281 = sh_setR km_280 154 4 (some 158) from rfl]; exact sh_lyR
  have hl154 : (sh_lay km_281)[154]? = some (3, 0) := by rw [el]; exact hl154
  have hn : (sh_lay km_281).length = 159 := by rw [el]; exact hn
  refine vv_aload_n 36 0 dX3_init_36 rfl rfl ?_
  refine vv_bipush 37 dX3_init_37 bk_7 ?_
  refine vk_newa (N := 7) (c1 := 5) (s1 := 77) 13 .int (Or.inl ⟨rfl, rfl⟩) 39 dX3_init_39 ac_13 (by decide) (by decide) (Nat.le_of_ble_eq_true rfl) (n := 159) hn (μ1 := km_282) rfl rfl rfl (Nat.le_of_ble_eq_true rfl) (Nat.le_of_ble_eq_true rfl) ?_
  have el : km_282 = sh_add km_281 (13, 7) := rfl
  have hl154 : (sh_lay km_282)[154]? = some (3, 0) := by rw [el]; exact sh_lay_add hl154
  have hl159 : (sh_lay km_282)[159]? = some (13, 7) := by rw [el]; exact sh_lay_new hn
  have hn : (sh_lay km_282).length = 160 := by rw [el]; exact sh_len_add hn
  refine vn_putR 41 dX3_init_41 fl_3_24 (Or.inr ⟨rfl, rfl, rfl⟩) rfl hl154 (fun y ey => ?_)
  obtain rfl : y = km_283 := ey
  have el : sh_lay km_283 = sh_lay km_282 := by rw [show km_283 = sh_setR km_282 154 5 (some 159) from rfl]; exact sh_lyR
  have hl154 : (sh_lay km_283)[154]? = some (3, 0) := by rw [el]; exact hl154
  have hn : (sh_lay km_283).length = 160 := by rw [el]; exact hn
  refine vv_vret 44 dX3_init_44 rfl (Nat.le_of_ble_eq_true rfl) (Nat.le_of_ble_eq_true rfl) ⟨rfl, rfl⟩
set_option maxHeartbeats 40000000 in
theorem kc_30 : sh_Con l B D ca 1 5 77 M_X3_init [.ref 160] km_285 (fun v μ' => v = none ∧ μ' = km_295) := by
  have hn : (sh_lay km_285).length = 161 := by decide +kernel
  refine vv_aload_n 0 0 dX3_init_0 rfl rfl ?_
  refine vv_objInit 1 dX3_init_1 ck_X3_3 (Nat.le_of_ble_eq_true rfl) (Nat.le_of_ble_eq_true rfl) ?_
  refine vv_aload_n 4 0 dX3_init_4 rfl rfl ?_
  refine vv_bipush 5 dX3_init_5 bk_49 ?_
  refine vk_newa (N := 49) (c1 := 1) (s1 := 49) 13 .int (Or.inl ⟨rfl, rfl⟩) 7 dX3_init_7 ac_13 (by decide) (by decide) (Nat.le_of_ble_eq_true rfl) (n := 161) hn (μ1 := km_286) rfl rfl rfl (Nat.le_of_ble_eq_true rfl) (Nat.le_of_ble_eq_true rfl) ?_
  have el : km_286 = sh_add km_285 (13, 49) := rfl
  have hl161 : (sh_lay km_286)[161]? = some (13, 49) := by rw [el]; exact sh_lay_new hn
  have hn : (sh_lay km_286).length = 162 := by rw [el]; exact sh_len_add hn
  have hl160 : (sh_lay km_286)[160]? = some (3, 0) := by decide +kernel
  refine vn_putR 9 dX3_init_9 fl_3_9 (Or.inr ⟨rfl, rfl, rfl⟩) rfl hl160 (fun y ey => ?_)
  obtain rfl : y = km_287 := ey
  have el : sh_lay km_287 = sh_lay km_286 := by rw [show km_287 = sh_setR km_286 160 1 (some 161) from rfl]; exact sh_lyR
  have hl160 : (sh_lay km_287)[160]? = some (3, 0) := by rw [el]; exact hl160
  have hn : (sh_lay km_287).length = 162 := by rw [el]; exact hn
  refine vv_aload_n 12 0 dX3_init_12 rfl rfl ?_
  refine vv_bipush 13 dX3_init_13 bk_7 ?_
  refine vk_newa (N := 7) (c1 := 2) (s1 := 56) 13 .int (Or.inl ⟨rfl, rfl⟩) 15 dX3_init_15 ac_13 (by decide) (by decide) (Nat.le_of_ble_eq_true rfl) (n := 162) hn (μ1 := km_288) rfl rfl rfl (Nat.le_of_ble_eq_true rfl) (Nat.le_of_ble_eq_true rfl) ?_
  have el : km_288 = sh_add km_287 (13, 7) := rfl
  have hl160 : (sh_lay km_288)[160]? = some (3, 0) := by rw [el]; exact sh_lay_add hl160
  have hl162 : (sh_lay km_288)[162]? = some (13, 7) := by rw [el]; exact sh_lay_new hn
  have hn : (sh_lay km_288).length = 163 := by rw [el]; exact sh_len_add hn
  refine vn_putR 17 dX3_init_17 fl_3_15 (Or.inr ⟨rfl, rfl, rfl⟩) rfl hl160 (fun y ey => ?_)
  obtain rfl : y = km_289 := ey
  have el : sh_lay km_289 = sh_lay km_288 := by rw [show km_289 = sh_setR km_288 160 2 (some 162) from rfl]; exact sh_lyR
  have hl160 : (sh_lay km_289)[160]? = some (3, 0) := by rw [el]; exact hl160
  have hn : (sh_lay km_289).length = 163 := by rw [el]; exact hn
  refine vv_aload_n 20 0 dX3_init_20 rfl rfl ?_
  refine vv_bipush 21 dX3_init_21 bk_7 ?_
  refine vk_newa (N := 7) (c1 := 3) (s1 := 63) 13 .int (Or.inl ⟨rfl, rfl⟩) 23 dX3_init_23 ac_13 (by decide) (by decide) (Nat.le_of_ble_eq_true rfl) (n := 163) hn (μ1 := km_290) rfl rfl rfl (Nat.le_of_ble_eq_true rfl) (Nat.le_of_ble_eq_true rfl) ?_
  have el : km_290 = sh_add km_289 (13, 7) := rfl
  have hl160 : (sh_lay km_290)[160]? = some (3, 0) := by rw [el]; exact sh_lay_add hl160
  have hl163 : (sh_lay km_290)[163]? = some (13, 7) := by rw [el]; exact sh_lay_new hn
  have hn : (sh_lay km_290).length = 164 := by rw [el]; exact sh_len_add hn
  refine vn_putR 25 dX3_init_25 fl_3_18 (Or.inr ⟨rfl, rfl, rfl⟩) rfl hl160 (fun y ey => ?_)
  obtain rfl : y = km_291 := ey
  have el : sh_lay km_291 = sh_lay km_290 := by rw [show km_291 = sh_setR km_290 160 3 (some 163) from rfl]; exact sh_lyR
  have hl160 : (sh_lay km_291)[160]? = some (3, 0) := by rw [el]; exact hl160
  have hn : (sh_lay km_291).length = 164 := by rw [el]; exact hn
  refine vv_aload_n 28 0 dX3_init_28 rfl rfl ?_
  refine vv_bipush 29 dX3_init_29 bk_7 ?_
  refine vk_newa (N := 7) (c1 := 4) (s1 := 70) 13 .int (Or.inl ⟨rfl, rfl⟩) 31 dX3_init_31 ac_13 (by decide) (by decide) (Nat.le_of_ble_eq_true rfl) (n := 164) hn (μ1 := km_292) rfl rfl rfl (Nat.le_of_ble_eq_true rfl) (Nat.le_of_ble_eq_true rfl) ?_
  have el : km_292 = sh_add km_291 (13, 7) := rfl
  have hl160 : (sh_lay km_292)[160]? = some (3, 0) := by rw [el]; exact sh_lay_add hl160
  have hl164 : (sh_lay km_292)[164]? = some (13, 7) := by rw [el]; exact sh_lay_new hn
  have hn : (sh_lay km_292).length = 165 := by rw [el]; exact sh_len_add hn
  refine vn_putR 33 dX3_init_33 fl_3_21 (Or.inr ⟨rfl, rfl, rfl⟩) rfl hl160 (fun y ey => ?_)
  obtain rfl : y = km_293 := ey
  have el : sh_lay km_293 = sh_lay km_292 := by rw [show km_293 = sh_setR km_292 160 4 (some 164) from rfl]; exact sh_lyR
  have hl160 : (sh_lay km_293)[160]? = some (3, 0) := by rw [el]; exact hl160
  have hn : (sh_lay km_293).length = 165 := by rw [el]; exact hn
  refine vv_aload_n 36 0 dX3_init_36 rfl rfl ?_
  refine vv_bipush 37 dX3_init_37 bk_7 ?_
  refine vk_newa (N := 7) (c1 := 5) (s1 := 77) 13 .int (Or.inl ⟨rfl, rfl⟩) 39 dX3_init_39 ac_13 (by decide) (by decide) (Nat.le_of_ble_eq_true rfl) (n := 165) hn (μ1 := km_294) rfl rfl rfl (Nat.le_of_ble_eq_true rfl) (Nat.le_of_ble_eq_true rfl) ?_
  have el : km_294 = sh_add km_293 (13, 7) := rfl
  have hl160 : (sh_lay km_294)[160]? = some (3, 0) := by rw [el]; exact sh_lay_add hl160
  have hl165 : (sh_lay km_294)[165]? = some (13, 7) := by rw [el]; exact sh_lay_new hn
  have hn : (sh_lay km_294).length = 166 := by rw [el]; exact sh_len_add hn
  refine vn_putR 41 dX3_init_41 fl_3_24 (Or.inr ⟨rfl, rfl, rfl⟩) rfl hl160 (fun y ey => ?_)
  obtain rfl : y = km_295 := ey
  have el : sh_lay km_295 = sh_lay km_294 := by rw [show km_295 = sh_setR km_294 160 5 (some 165) from rfl]; exact sh_lyR
  have hl160 : (sh_lay km_295)[160]? = some (3, 0) := by rw [el]; exact hl160
  have hn : (sh_lay km_295).length = 166 := by rw [el]; exact hn
  refine vv_vret 44 dX3_init_44 rfl (Nat.le_of_ble_eq_true rfl) (Nat.le_of_ble_eq_true rfl) ⟨rfl, rfl⟩
set_option maxHeartbeats 40000000 in
theorem kc_31 : sh_Con l B D ca 1 5 77 M_X3_init [.ref 166] km_297 (fun v μ' => v = none ∧ μ' = km_307) := by
  have hn : (sh_lay km_297).length = 167 := by decide +kernel
  refine vv_aload_n 0 0 dX3_init_0 rfl rfl ?_
  refine vv_objInit 1 dX3_init_1 ck_X3_3 (Nat.le_of_ble_eq_true rfl) (Nat.le_of_ble_eq_true rfl) ?_
  refine vv_aload_n 4 0 dX3_init_4 rfl rfl ?_
  refine vv_bipush 5 dX3_init_5 bk_49 ?_
  refine vk_newa (N := 49) (c1 := 1) (s1 := 49) 13 .int (Or.inl ⟨rfl, rfl⟩) 7 dX3_init_7 ac_13 (by decide) (by decide) (Nat.le_of_ble_eq_true rfl) (n := 167) hn (μ1 := km_298) rfl rfl rfl (Nat.le_of_ble_eq_true rfl) (Nat.le_of_ble_eq_true rfl) ?_
  have el : km_298 = sh_add km_297 (13, 49) := rfl
  have hl167 : (sh_lay km_298)[167]? = some (13, 49) := by rw [el]; exact sh_lay_new hn
  have hn : (sh_lay km_298).length = 168 := by rw [el]; exact sh_len_add hn
  have hl166 : (sh_lay km_298)[166]? = some (3, 0) := by decide +kernel
  refine vn_putR 9 dX3_init_9 fl_3_9 (Or.inr ⟨rfl, rfl, rfl⟩) rfl hl166 (fun y ey => ?_)
  obtain rfl : y = km_299 := ey
  have el : sh_lay km_299 = sh_lay km_298 := by rw [show km_299 = sh_setR km_298 166 1 (some 167) from rfl]; exact sh_lyR
  have hl166 : (sh_lay km_299)[166]? = some (3, 0) := by rw [el]; exact hl166
  have hn : (sh_lay km_299).length = 168 := by rw [el]; exact hn
  refine vv_aload_n 12 0 dX3_init_12 rfl rfl ?_
  refine vv_bipush 13 dX3_init_13 bk_7 ?_
  refine vk_newa (N := 7) (c1 := 2) (s1 := 56) 13 .int (Or.inl ⟨rfl, rfl⟩) 15 dX3_init_15 ac_13 (by decide) (by decide) (Nat.le_of_ble_eq_true rfl) (n := 168) hn (μ1 := km_300) rfl rfl rfl (Nat.le_of_ble_eq_true rfl) (Nat.le_of_ble_eq_true rfl) ?_
  have el : km_300 = sh_add km_299 (13, 7) := rfl
  have hl166 : (sh_lay km_300)[166]? = some (3, 0) := by rw [el]; exact sh_lay_add hl166
  have hl168 : (sh_lay km_300)[168]? = some (13, 7) := by rw [el]; exact sh_lay_new hn
  have hn : (sh_lay km_300).length = 169 := by rw [el]; exact sh_len_add hn
  refine vn_putR 17 dX3_init_17 fl_3_15 (Or.inr ⟨rfl, rfl, rfl⟩) rfl hl166 (fun y ey => ?_)
  obtain rfl : y = km_301 := ey
  have el : sh_lay km_301 = sh_lay km_300 := by rw [show km_301 = sh_setR km_300 166 2 (some 168) from rfl]; exact sh_lyR
  have hl166 : (sh_lay km_301)[166]? = some (3, 0) := by rw [el]; exact hl166
  have hn : (sh_lay km_301).length = 169 := by rw [el]; exact hn
  refine vv_aload_n 20 0 dX3_init_20 rfl rfl ?_
  refine vv_bipush 21 dX3_init_21 bk_7 ?_
  refine vk_newa (N := 7) (c1 := 3) (s1 := 63) 13 .int (Or.inl ⟨rfl, rfl⟩) 23 dX3_init_23 ac_13 (by decide) (by decide) (Nat.le_of_ble_eq_true rfl) (n := 169) hn (μ1 := km_302) rfl rfl rfl (Nat.le_of_ble_eq_true rfl) (Nat.le_of_ble_eq_true rfl) ?_
  have el : km_302 = sh_add km_301 (13, 7) := rfl
  have hl166 : (sh_lay km_302)[166]? = some (3, 0) := by rw [el]; exact sh_lay_add hl166
  have hl169 : (sh_lay km_302)[169]? = some (13, 7) := by rw [el]; exact sh_lay_new hn
  have hn : (sh_lay km_302).length = 170 := by rw [el]; exact sh_len_add hn
  refine vn_putR 25 dX3_init_25 fl_3_18 (Or.inr ⟨rfl, rfl, rfl⟩) rfl hl166 (fun y ey => ?_)
  obtain rfl : y = km_303 := ey
  have el : sh_lay km_303 = sh_lay km_302 := by rw [show km_303 = sh_setR km_302 166 3 (some 169) from rfl]; exact sh_lyR
  have hl166 : (sh_lay km_303)[166]? = some (3, 0) := by rw [el]; exact hl166
  have hn : (sh_lay km_303).length = 170 := by rw [el]; exact hn
  refine vv_aload_n 28 0 dX3_init_28 rfl rfl ?_
  refine vv_bipush 29 dX3_init_29 bk_7 ?_
  refine vk_newa (N := 7) (c1 := 4) (s1 := 70) 13 .int (Or.inl ⟨rfl, rfl⟩) 31 dX3_init_31 ac_13 (by decide) (by decide) (Nat.le_of_ble_eq_true rfl) (n := 170) hn (μ1 := km_304) rfl rfl rfl (Nat.le_of_ble_eq_true rfl) (Nat.le_of_ble_eq_true rfl) ?_
  have el : km_304 = sh_add km_303 (13, 7) := rfl
  have hl166 : (sh_lay km_304)[166]? = some (3, 0) := by rw [el]; exact sh_lay_add hl166
  have hl170 : (sh_lay km_304)[170]? = some (13, 7) := by rw [el]; exact sh_lay_new hn
  have hn : (sh_lay km_304).length = 171 := by rw [el]; exact sh_len_add hn
  refine vn_putR 33 dX3_init_33 fl_3_21 (Or.inr ⟨rfl, rfl, rfl⟩) rfl hl166 (fun y ey => ?_)
  obtain rfl : y = km_305 := ey
  have el : sh_lay km_305 = sh_lay km_304 := by rw [show km_305 = sh_setR km_304 166 4 (some 170) from rfl]; exact sh_lyR
  have hl166 : (sh_lay km_305)[166]? = some (3, 0) := by rw [el]; exact hl166
  have hn : (sh_lay km_305).length = 171 := by rw [el]; exact hn
  refine vv_aload_n 36 0 dX3_init_36 rfl rfl ?_
  refine vv_bipush 37 dX3_init_37 bk_7 ?_
  refine vk_newa (N := 7) (c1 := 5) (s1 := 77) 13 .int (Or.inl ⟨rfl, rfl⟩) 39 dX3_init_39 ac_13 (by decide) (by decide) (Nat.le_of_ble_eq_true rfl) (n := 171) hn (μ1 := km_306) rfl rfl rfl (Nat.le_of_ble_eq_true rfl) (Nat.le_of_ble_eq_true rfl) ?_
  have el : km_306 = sh_add km_305 (13, 7) := rfl
  have hl166 : (sh_lay km_306)[166]? = some (3, 0) := by rw [el]; exact sh_lay_add hl166
  have hl171 : (sh_lay km_306)[171]? = some (13, 7) := by rw [el]; exact sh_lay_new hn
  have hn : (sh_lay km_306).length = 172 := by rw [el]; exact sh_len_add hn
  refine vn_putR 41 dX3_init_41 fl_3_24 (Or.inr ⟨rfl, rfl, rfl⟩) rfl hl166 (fun y ey => ?_)
  obtain rfl : y = km_307 := ey
  have el : sh_lay km_307 = sh_lay km_306 := by rw [show km_307 = sh_setR km_306 166 5 (some 171) from rfl]; exact sh_lyR
  have hl166 : (sh_lay km_307)[166]? = some (3, 0) := by rw [el]; exact hl166
  have hn : (sh_lay km_307).length = 172 := by rw [el]; exact hn
  refine vv_vret 44 dX3_init_44 rfl (Nat.le_of_ble_eq_true rfl) (Nat.le_of_ble_eq_true rfl) ⟨rfl, rfl⟩
set_option maxHeartbeats 40000000 in
theorem kc_32 : sh_Con l B D ca 1 5 77 M_X3_init [.ref 172] km_309 (fun v μ' => v = none ∧ μ' = km_319) := by
  have hn : (sh_lay km_309).length = 173 := by decide +kernel
  refine vv_aload_n 0 0 dX3_init_0 rfl rfl ?_
  refine vv_objInit 1 dX3_init_1 ck_X3_3 (Nat.le_of_ble_eq_true rfl) (Nat.le_of_ble_eq_true rfl) ?_
  refine vv_aload_n 4 0 dX3_init_4 rfl rfl ?_
  refine vv_bipush 5 dX3_init_5 bk_49 ?_
  refine vk_newa (N := 49) (c1 := 1) (s1 := 49) 13 .int (Or.inl ⟨rfl, rfl⟩) 7 dX3_init_7 ac_13 (by decide) (by decide) (Nat.le_of_ble_eq_true rfl) (n := 173) hn (μ1 := km_310) rfl rfl rfl (Nat.le_of_ble_eq_true rfl) (Nat.le_of_ble_eq_true rfl) ?_
  have el : km_310 = sh_add km_309 (13, 49) := rfl
  have hl173 : (sh_lay km_310)[173]? = some (13, 49) := by rw [el]; exact sh_lay_new hn
  have hn : (sh_lay km_310).length = 174 := by rw [el]; exact sh_len_add hn
  have hl172 : (sh_lay km_310)[172]? = some (3, 0) := by decide +kernel
  refine vn_putR 9 dX3_init_9 fl_3_9 (Or.inr ⟨rfl, rfl, rfl⟩) rfl hl172 (fun y ey => ?_)
  obtain rfl : y = km_311 := ey
  have el : sh_lay km_311 = sh_lay km_310 := by rw [show km_311 = sh_setR km_310 172 1 (some 173) from rfl]; exact sh_lyR
  have hl172 : (sh_lay km_311)[172]? = some (3, 0) := by rw [el]; exact hl172
  have hn : (sh_lay km_311).length = 174 := by rw [el]; exact hn
  refine vv_aload_n 12 0 dX3_init_12 rfl rfl ?_
  refine vv_bipush 13 dX3_init_13 bk_7 ?_
  refine vk_newa (N := 7) (c1 := 2) (s1 := 56) 13 .int (Or.inl ⟨rfl, rfl⟩) 15 dX3_init_15 ac_13 (by decide) (by decide) (Nat.le_of_ble_eq_true rfl) (n := 174) hn (μ1 := km_312) rfl rfl rfl (Nat.le_of_ble_eq_true rfl) (Nat.le_of_ble_eq_true rfl) ?_
  have el : km_312 = sh_add km_311 (13, 7) := rfl
  have hl172 : (sh_lay km_312)[172]? = some (3, 0) := by rw [el]; exact sh_lay_add hl172
  have hl174 : (sh_lay km_312)[174]? = some (13, 7) := by rw [el]; exact sh_lay_new hn
  have hn : (sh_lay km_312).length = 175 := by rw [el]; exact sh_len_add hn
  refine vn_putR 17 dX3_init_17 fl_3_15 (Or.inr ⟨rfl, rfl, rfl⟩) rfl hl172 (fun y ey => ?_)
  obtain rfl : y = km_313 := ey
  have el : sh_lay km_313 = sh_lay km_312 := by rw [show km_313 = sh_setR km_312 172 2 (some 174) from rfl]; exact sh_lyR
  have hl172 : (sh_lay km_313)[172]? = some (3, 0) := by rw [el]; exact hl172
  have hn : (sh_lay km_313).length = 175 := by rw [el]; exact hn
  refine vv_aload_n 20 0 dX3_init_20 rfl rfl ?_
  refine vv_bipush 21 dX3_init_21 bk_7 ?_
  refine vk_newa (N := 7) (c1 := 3) (s1 := 63) 13 .int (Or.inl ⟨rfl, rfl⟩) 23 dX3_init_23 ac_13 (by decide) (by decide) (Nat.le_of_ble_eq_true rfl) (n := 175) hn (μ1 := km_314) rfl rfl rfl (Nat.le_of_ble_eq_true rfl) (Nat.le_of_ble_eq_true rfl) ?_
  have el : km_314 = sh_add km_313 (13, 7) := rfl
  have hl172 : (sh_lay km_314)[172]? = some (3, 0) := by rw [el]; exact sh_lay_add hl172
  have hl175 : (sh_lay km_314)[175]? = some (13, 7) := by rw [el]; exact sh_lay_new hn
  have hn : (sh_lay km_314).length = 176 := by rw [el]; exact sh_len_add hn
  refine vn_putR 25 dX3_init_25 fl_3_18 (Or.inr ⟨rfl, rfl, rfl⟩) rfl hl172 (fun y ey => ?_)
  obtain rfl : y = km_315 := ey
  have el : sh_lay km_315 = sh_lay km_314 := by rw [show km_315 = sh_setR km_314 172 3 (some 175) from rfl]; exact sh_lyR
  have hl172 : (sh_lay km_315)[172]? = some (3, 0) := by rw [el]; exact hl172
  have hn : (sh_lay km_315).length = 176 := by rw [el]; exact hn
  refine vv_aload_n 28 0 dX3_init_28 rfl rfl ?_
  refine vv_bipush 29 dX3_init_29 bk_7 ?_
  refine vk_newa (N := 7) (c1 := 4) (s1 := 70) 13 .int (Or.inl ⟨rfl, rfl⟩) 31 dX3_init_31 ac_13 (by decide) (by decide) (Nat.le_of_ble_eq_true rfl) (n := 176) hn (μ1 := km_316) rfl rfl rfl (Nat.le_of_ble_eq_true rfl) (Nat.le_of_ble_eq_true rfl) ?_
  have el : km_316 = sh_add km_315 (13, 7) := rfl
  have hl172 : (sh_lay km_316)[172]? = some (3, 0) := by rw [el]; exact sh_lay_add hl172
  have hl176 : (sh_lay km_316)[176]? = some (13, 7) := by rw [el]; exact sh_lay_new hn
  have hn : (sh_lay km_316).length = 177 := by rw [el]; exact sh_len_add hn
  refine vn_putR 33 dX3_init_33 fl_3_21 (Or.inr ⟨rfl, rfl, rfl⟩) rfl hl172 (fun y ey => ?_)
  obtain rfl : y = km_317 := ey
  have el : sh_lay km_317 = sh_lay km_316 := by rw [show km_317 = sh_setR km_316 172 4 (some 176) from rfl]; exact sh_lyR
  have hl172 : (sh_lay km_317)[172]? = some (3, 0) := by rw [el]; exact hl172
  have hn : (sh_lay km_317).length = 177 := by rw [el]; exact hn
  refine vv_aload_n 36 0 dX3_init_36 rfl rfl ?_
  refine vv_bipush 37 dX3_init_37 bk_7 ?_
  refine vk_newa (N := 7) (c1 := 5) (s1 := 77) 13 .int (Or.inl ⟨rfl, rfl⟩) 39 dX3_init_39 ac_13 (by decide) (by decide) (Nat.le_of_ble_eq_true rfl) (n := 177) hn (μ1 := km_318) rfl rfl rfl (Nat.le_of_ble_eq_true rfl) (Nat.le_of_ble_eq_true rfl) ?_
  have el : km_318 = sh_add km_317 (13, 7) := rfl
  have hl172 : (sh_lay km_318)[172]? = some (3, 0) := by rw [el]; exact sh_lay_add hl172
  have hl177 : (sh_lay km_318)[177]? = some (13, 7) := by rw [el]; exact sh_lay_new hn
  have hn : (sh_lay km_318).length = 178 := by rw [el]; exact sh_len_add hn
  refine vn_putR 41 dX3_init_41 fl_3_24 (Or.inr ⟨rfl, rfl, rfl⟩) rfl hl172 (fun y ey => ?_)
  obtain rfl : y = km_319 := ey
  have el : sh_lay km_319 = sh_lay km_318 := by rw [show km_319 = sh_setR km_318 172 5 (some 177) from rfl]; exact sh_lyR
  have hl172 : (sh_lay km_319)[172]? = some (3, 0) := by rw [el]; exact hl172
  have hn : (sh_lay km_319).length = 178 := by rw [el]; exact hn
  refine vv_vret 44 dX3_init_44 rfl (Nat.le_of_ble_eq_true rfl) (Nat.le_of_ble_eq_true rfl) ⟨rfl, rfl⟩
set_option maxHeartbeats 40000000 in
theorem kc_33 : sh_Con l B D ca 1 5 77 M_X3_init [.ref 178] km_321 (fun v μ' => v = none ∧ μ' = km_331) := by
  have hn : (sh_lay km_321).length = 179 := by decide +kernel
  refine vv_aload_n 0 0 dX3_init_0 rfl rfl ?_
  refine vv_objInit 1 dX3_init_1 ck_X3_3 (Nat.le_of_ble_eq_true rfl) (Nat.le_of_ble_eq_true rfl) ?_
  refine vv_aload_n 4 0 dX3_init_4 rfl rfl ?_
  refine vv_bipush 5 dX3_init_5 bk_49 ?_
  refine vk_newa (N := 49) (c1 := 1) (s1 := 49) 13 .int (Or.inl ⟨rfl, rfl⟩) 7 dX3_init_7 ac_13 (by decide) (by decide) (Nat.le_of_ble_eq_true rfl) (n := 179) hn (μ1 := km_322) rfl rfl rfl (Nat.le_of_ble_eq_true rfl) (Nat.le_of_ble_eq_true rfl) ?_
  have el : km_322 = sh_add km_321 (13, 49) := rfl
  have hl179 : (sh_lay km_322)[179]? = some (13, 49) := by rw [el]; exact sh_lay_new hn
  have hn : (sh_lay km_322).length = 180 := by rw [el]; exact sh_len_add hn
  have hl178 : (sh_lay km_322)[178]? = some (3, 0) := by decide +kernel
  refine vn_putR 9 dX3_init_9 fl_3_9 (Or.inr ⟨rfl, rfl, rfl⟩) rfl hl178 (fun y ey => ?_)
  obtain rfl : y = km_323 := ey
  have el : sh_lay km_323 = sh_lay km_322 := by rw [show km_323 = sh_setR km_322 178 1 (some 179) from rfl]; exact sh_lyR
  have hl178 : (sh_lay km_323)[178]? = some (3, 0) := by rw [el]; exact hl178
  have hn : (sh_lay km_323).length = 180 := by rw [el]; exact hn
  refine vv_aload_n 12 0 dX3_init_12 rfl rfl ?_
  refine vv_bipush 13 dX3_init_13 bk_7 ?_
  refine vk_newa (N := 7) (c1 := 2) (s1 := 56) 13 .int (Or.inl ⟨rfl, rfl⟩) 15 dX3_init_15 ac_13 (by decide) (by decide) (Nat.le_of_ble_eq_true rfl) (n := 180) hn (μ1 := km_324) rfl rfl rfl (Nat.le_of_ble_eq_true rfl) (Nat.le_of_ble_eq_true rfl) ?_
  have el : km_324 = sh_add km_323 (13, 7) := rfl
  have hl178 : (sh_lay km_324)[178]? = some (3, 0) := by rw [el]; exact sh_lay_add hl178
  have hl180 : (sh_lay km_324)[180]? = some (13, 7) := by rw [el]; exact sh_lay_new hn
  have hn : (sh_lay km_324).length = 181 := by rw [el]; exact sh_len_add hn
  refine vn_putR 17 dX3_init_17 fl_3_15 (Or.inr ⟨rfl, rfl, rfl⟩) rfl hl178 (fun y ey => ?_)
  obtain rfl : y = km_325 := ey
  have el : sh_lay km_325 = sh_lay km_324 := by rw [show km_325 = sh_setR km_324 178 2 (some 180) from rfl]; exact sh_lyR
  have hl178 : (sh_lay km_325)[178]? = some (3, 0) := by rw [el]; exact hl178
  have hn : (sh_lay km_325).length = 181 := by rw [el]; exact hn
  refine vv_aload_n 20 0 dX3_init_20 rfl rfl ?_
  refine vv_bipush 21 dX3_init_21 bk_7 ?_
  refine vk_newa (N := 7) (c1 := 3) (s1 := 63) 13 .int (Or.inl ⟨rfl, rfl⟩) 23 dX3_init_23 ac_13 (by decide) (by decide) (Nat.le_of_ble_eq_true rfl) (n := 181) hn (μ1 := km_326) rfl rfl rfl (Nat.le_of_ble_eq_true rfl) (Nat.le_of_ble_eq_true rfl) ?_
  have el : km_326 = sh_add km_325 (13, 7) := rfl
  have hl178 : (sh_lay km_326)[178]? = some (3, 0) := by rw [el]; exact sh_lay_add hl178
  have hl181 : (sh_lay km_326)[181]? = some (13, 7) := by rw [el]; exact sh_lay_new hn
  have hn : (sh_lay km_326).length = 182 := by rw [el]; exact sh_len_add hn
  refine vn_putR 25 dX3_init_25 fl_3_18 (Or.inr ⟨rfl, rfl, rfl⟩) rfl hl178 (fun y ey => ?_)
  obtain rfl : y = km_327 := ey
  have el : sh_lay km_327 = sh_lay km_326 := by rw [show km_327 = sh_setR km_326 178 3 (some 181) from rfl]; exact sh_lyR
  have hl178 : (sh_lay km_327)[178]? = some (3, 0) := by rw [el]; exact hl178
  have hn : (sh_lay km_327).length = 182 := by rw [el]; exact hn
  refine vv_aload_n 28 0 dX3_init_28 rfl rfl ?_
  refine vv_bipush 29 dX3_init_29 bk_7 ?_
  refine vk_newa (N := 7) (c1 := 4) (s1 := 70) 13 .int (Or.inl ⟨rfl, rfl⟩) 31 dX3_init_31 ac_13 (by decide) (by decide) (Nat.le_of_ble_eq_true rfl) (n := 182) hn (μ1 := km_328) rfl rfl rfl (Nat.le_of_ble_eq_true rfl) (Nat.le_of_ble_eq_true rfl) ?_
  have el : km_328 = sh_add km_327 (13, 7) := rfl
  have hl178 : (sh_lay km_328)[178]? = some (3, 0) := by rw [el]; exact sh_lay_add hl178
  have hl182 : (sh_lay km_328)[182]? = some (13, 7) := by rw [el]; exact sh_lay_new hn
  have hn : (sh_lay km_328).length = 183 := by rw [el]; exact sh_len_add hn
  refine vn_putR 33 dX3_init_33 fl_3_21 (Or.inr ⟨rfl, rfl, rfl⟩) rfl hl178 (fun y ey => ?_)
  obtain rfl : y = km_329 := ey
  have el : sh_lay km_329 = sh_lay km_328 := by rw [show km_329 = sh_setR km_328 178 4 (some 182) from rfl]; exact sh_lyR
  have hl178 : (sh_lay km_329)[178]? = some (3, 0) := by rw [el]; exact hl178
  have hn : (sh_lay km_329).length = 183 := by rw [el]; exact hn
  refine vv_aload_n 36 0 dX3_init_36 rfl rfl ?_
  refine vv_bipush 37 dX3_init_37 bk_7 ?_
  refine vk_newa (N := 7) (c1 := 5) (s1 := 77) 13 .int (Or.inl ⟨rfl, rfl⟩) 39 dX3_init_39 ac_13 (by decide) (by decide) (Nat.le_of_ble_eq_true rfl) (n := 183) hn (μ1 := km_330) rfl rfl rfl (Nat.le_of_ble_eq_true rfl) (Nat.le_of_ble_eq_true rfl) ?_
  have el : km_330 = sh_add km_329 (13, 7) := rfl
  have hl178 : (sh_lay km_330)[178]? = some (3, 0) := by rw [el]; exact sh_lay_add hl178
  have hl183 : (sh_lay km_330)[183]? = some (13, 7) := by rw [el]; exact sh_lay_new hn
  have hn : (sh_lay km_330).length = 184 := by rw [el]; exact sh_len_add hn
  refine vn_putR 41 dX3_init_41 fl_3_24 (Or.inr ⟨rfl, rfl, rfl⟩) rfl hl178 (fun y ey => ?_)
  obtain rfl : y = km_331 := ey
  have el : sh_lay km_331 = sh_lay km_330 := by rw [show km_331 = sh_setR km_330 178 5 (some 183) from rfl]; exact sh_lyR
  have hl178 : (sh_lay km_331)[178]? = some (3, 0) := by rw [el]; exact hl178
  have hn : (sh_lay km_331).length = 184 := by rw [el]; exact hn
  refine vv_vret 44 dX3_init_44 rfl (Nat.le_of_ble_eq_true rfl) (Nat.le_of_ble_eq_true rfl) ⟨rfl, rfl⟩
set_option maxHeartbeats 40000000 in
theorem kc_34 : sh_Con l B D ca 1 5 77 M_X3_init [.ref 184] km_333 (fun v μ' => v = none ∧ μ' = km_343) := by
  have hn : (sh_lay km_333).length = 185 := by decide +kernel
  refine vv_aload_n 0 0 dX3_init_0 rfl rfl ?_
  refine vv_objInit 1 dX3_init_1 ck_X3_3 (Nat.le_of_ble_eq_true rfl) (Nat.le_of_ble_eq_true rfl) ?_
  refine vv_aload_n 4 0 dX3_init_4 rfl rfl ?_
  refine vv_bipush 5 dX3_init_5 bk_49 ?_
  refine vk_newa (N := 49) (c1 := 1) (s1 := 49) 13 .int (Or.inl ⟨rfl, rfl⟩) 7 dX3_init_7 ac_13 (by decide) (by decide) (Nat.le_of_ble_eq_true rfl) (n := 185) hn (μ1 := km_334) rfl rfl rfl (Nat.le_of_ble_eq_true rfl) (Nat.le_of_ble_eq_true rfl) ?_
  have el : km_334 = sh_add km_333 (13, 49) := rfl
  have hl185 : (sh_lay km_334)[185]? = some (13, 49) := by rw [el]; exact sh_lay_new hn
  have hn : (sh_lay km_334).length = 186 := by rw [el]; exact sh_len_add hn
  have hl184 : (sh_lay km_334)[184]? = some (3, 0) := by decide +kernel
  refine vn_putR 9 dX3_init_9 fl_3_9 (Or.inr ⟨rfl, rfl, rfl⟩) rfl hl184 (fun y ey => ?_)
  obtain rfl : y = km_335 := ey
  have el : sh_lay km_335 = sh_lay km_334 := by rw [show km_335 = sh_setR km_334 184 1 (some 185) from rfl]; exact sh_lyR
  have hl184 : (sh_lay km_335)[184]? = some (3, 0) := by rw [el]; exact hl184
  have hn : (sh_lay km_335).length = 186 := by rw [el]; exact hn
  refine vv_aload_n 12 0 dX3_init_12 rfl rfl ?_
  refine vv_bipush 13 dX3_init_13 bk_7 ?_
  refine vk_newa (N := 7) (c1 := 2) (s1 := 56) 13 .int (Or.inl ⟨rfl, rfl⟩) 15 dX3_init_15 ac_13 (by decide) (by decide) (Nat.le_of_ble_eq_true rfl) (n := 186) hn (μ1 := km_336) rfl rfl rfl (Nat.le_of_ble_eq_true rfl) (Nat.le_of_ble_eq_true rfl) ?_
  have el : km_336 = sh_add km_335 (13, 7) := rfl
  have hl184 : (sh_lay km_336)[184]? = some (3, 0) := by rw [el]; exact sh_lay_add hl184
  have hl186 : (sh_lay km_336)[186]? = some (13, 7) := by rw [el]; exact sh_lay_new hn
  have hn : (sh_lay km_336).length = 187 := by rw [el]; exact sh_len_add hn
  refine vn_putR 17 dX3_init_17 fl_3_15 (Or.inr ⟨rfl, rfl, rfl⟩) rfl hl184 (fun y ey => ?_)
  obtain rfl : y = km_337 := ey
  have el : sh_lay km_337 = sh_lay km_336 := by rw [show km_337 = sh_setR km_336 184 2 (some 186) from rfl]; exact sh_lyR
  have hl184 : (sh_lay km_337)[184]? = some (3, 0) := by rw [el]; exact hl184
  have hn : (sh_lay km_337).length = 187 := by rw [el]; exact hn
  refine vv_aload_n 20 0 dX3_init_20 rfl rfl ?_
  refine vv_bipush 21 dX3_init_21 bk_7 ?_
  refine vk_newa (N := 7) (c1 := 3) (s1 := 63) 13 .int (Or.inl ⟨rfl, rfl⟩) 23 dX3_init_23 ac_13 (by decide) (by decide) (Nat.le_of_ble_eq_true rfl) (n := 187) hn (μ1 := km_338) rfl rfl rfl (Nat.le_of_ble_eq_true rfl) (Nat.le_of_ble_eq_true rfl) ?_
  have el : km_338 = sh_add km_337 (13, 7) := rfl
  have hl184 : (sh_lay km_338)[184]? = some (3, 0) := by rw [el]; exact sh_lay_add hl184
  have hl187 : (sh_lay km_338)[187]? = some (13, 7) := by rw [el]; exact sh_lay_new hn
  have hn : (sh_lay km_338).length = 188 := by rw [el]; exact sh_len_add hn
  refine vn_putR 25 dX3_init_25 fl_3_18 (Or.inr ⟨rfl, rfl, rfl⟩) rfl hl184 (fun y ey => ?_)
  obtain rfl : y = km_339 := ey
  have el : sh_lay km_339 = sh_lay km_338 := by rw [show km_339 = sh_setR km_338 184 3 (some 187) from rfl]; exact sh_lyR
  have hl184 : (sh_lay km_339)[184]? = some (3, 0) := by rw [el]; exact hl184
  have hn : (sh_lay km_339).length = 188 := by rw [el]; exact hn
  refine vv_aload_n 28 0 dX3_init_28 rfl rfl ?_
  refine vv_bipush 29 dX3_init_29 bk_7 ?_
  refine vk_newa (N := 7) (c1 := 4) (s1 := 70) 13 .int (Or.inl ⟨rfl, rfl⟩) 31 dX3_init_31 ac_13 (by decide) (by decide) (Nat.le_of_ble_eq_true rfl) (n := 188) hn (μ1 := km_340) rfl rfl rfl (Nat.le_of_ble_eq_true rfl) (Nat.le_of_ble_eq_true rfl) ?_
  have el : km_340 = sh_add km_339 (13, 7) := rfl
  have hl184 : (sh_lay km_340)[184]? = some (3, 0) := by rw [el]; exact sh_lay_add hl184
  have hl188 : (sh_lay km_340)[188]? = some (13, 7) := by rw [el]; exact sh_lay_new hn
  have hn : (sh_lay km_340).length = 189 := by rw [el]; exact sh_len_add hn
  refine vn_putR 33 dX3_init_33 fl_3_21 (Or.inr ⟨rfl, rfl, rfl⟩) rfl hl184 (fun y ey => ?_)
  obtain rfl : y = km_341 := ey
  have el : sh_lay km_341 = sh_lay km_340 := by rw [show km_341 = sh_setR km_340 184 4 (some 188) from rfl]; exact sh_lyR
  have hl184 : (sh_lay km_341)[184]? = some (3, 0) := by rw [el]; exact hl184
  have hn : (sh_lay km_341).length = 189 := by rw [el]; exact hn
  refine vv_aload_n 36 0 dX3_init_36 rfl rfl ?_
  refine vv_bipush 37 dX3_init_37 bk_7 ?_
  refine vk_newa (N := 7) (c1 := 5) (s1 := 77) 13 .int (Or.inl ⟨rfl, rfl⟩) 39 dX3_init_39 ac_13 (by decide) (by decide) (Nat.le_of_ble_eq_true rfl) (n := 189) hn (μ1 := km_342) rfl rfl rfl (Nat.le_of_ble_eq_true rfl) (Nat.le_of_ble_eq_true rfl) ?_
  have el : km_342 = sh_add km_341 (13, 7) := rfl
  have hl184 : (sh_lay km_342)[184]? = some (3, 0) := by rw [el]; exact sh_lay_add hl184
  have hl189 : (sh_lay km_342)[189]? = some (13, 7) := by rw [el]; exact sh_lay_new hn
  have hn : (sh_lay km_342).length = 190 := by rw [el]; exact sh_len_add hn
  refine vn_putR 41 dX3_init_41 fl_3_24 (Or.inr ⟨rfl, rfl, rfl⟩) rfl hl184 (fun y ey => ?_)
  obtain rfl : y = km_343 := ey
  have el : sh_lay km_343 = sh_lay km_342 := by rw [show km_343 = sh_setR km_342 184 5 (some 189) from rfl]; exact sh_lyR
  have hl184 : (sh_lay km_343)[184]? = some (3, 0) := by rw [el]; exact hl184
  have hn : (sh_lay km_343).length = 190 := by rw [el]; exact hn
  refine vv_vret 44 dX3_init_44 rfl (Nat.le_of_ble_eq_true rfl) (Nat.le_of_ble_eq_true rfl) ⟨rfl, rfl⟩
set_option maxHeartbeats 40000000 in
theorem kc_35 : sh_Con l B D ca 1 5 77 M_X3_init [.ref 190] km_345 (fun v μ' => v = none ∧ μ' = km_355) := by
  have hn : (sh_lay km_345).length = 191 := by decide +kernel
  refine vv_aload_n 0 0 dX3_init_0 rfl rfl ?_
  refine vv_objInit 1 dX3_init_1 ck_X3_3 (Nat.le_of_ble_eq_true rfl) (Nat.le_of_ble_eq_true rfl) ?_
  refine vv_aload_n 4 0 dX3_init_4 rfl rfl ?_
  refine vv_bipush 5 dX3_init_5 bk_49 ?_
  refine vk_newa (N := 49) (c1 := 1) (s1 := 49) 13 .int (Or.inl ⟨rfl, rfl⟩) 7 dX3_init_7 ac_13 (by decide) (by decide) (Nat.le_of_ble_eq_true rfl) (n := 191) hn (μ1 := km_346) rfl rfl rfl (Nat.le_of_ble_eq_true rfl) (Nat.le_of_ble_eq_true rfl) ?_
  have el : km_346 = sh_add km_345 (13, 49) := rfl
  have hl191 : (sh_lay km_346)[191]? = some (13, 49) := by rw [el]; exact sh_lay_new hn
  have hn : (sh_lay km_346).length = 192 := by rw [el]; exact sh_len_add hn
  have hl190 : (sh_lay km_346)[190]? = some (3, 0) := by decide +kernel
  refine vn_putR 9 dX3_init_9 fl_3_9 (Or.inr ⟨rfl, rfl, rfl⟩) rfl hl190 (fun y ey => ?_)
  obtain rfl : y = km_347 := ey
  have el : sh_lay km_347 = sh_lay km_346 := by rw [show km_347 = sh_setR km_346 190 1 (some 191) from rfl]; exact sh_lyR
  have hl190 : (sh_lay km_347)[190]? = some (3, 0) := by rw [el]; exact hl190
  have hn : (sh_lay km_347).length = 192 := by rw [el]; exact hn
  refine vv_aload_n 12 0 dX3_init_12 rfl rfl ?_
  refine vv_bipush 13 dX3_init_13 bk_7 ?_
  refine vk_newa (N := 7) (c1 := 2) (s1 := 56) 13 .int (Or.inl ⟨rfl, rfl⟩) 15 dX3_init_15 ac_13 (by decide) (by decide) (Nat.le_of_ble_eq_true rfl) (n := 192) hn (μ1 := km_348) rfl rfl rfl (Nat.le_of_ble_eq_true rfl) (Nat.le_of_ble_eq_true rfl) ?_
  have el : km_348 = sh_add km_347 (13, 7) := rfl
  have hl190 : (sh_lay km_348)[190]? = some (3, 0) := by rw [el]; exact sh_lay_add hl190
  have hl192 : (sh_lay km_348)[192]? = some (13, 7) := by rw [el]; exact sh_lay_new hn
  have hn : (sh_lay km_348).length = 193 := by rw [el]; exact sh_len_add hn
  refine vn_putR 17 dX3_init_17 fl_3_15 (Or.inr ⟨rfl, rfl, rfl⟩) rfl hl190 (fun y ey => ?_)
  obtain rfl : y = km_349 := ey
  have el : sh_lay km_349 = sh_lay km_348 := by rw [show km_349 = sh_setR km_348 190 2 (some 192) from rfl]; exact sh_lyR
  have hl190 : (sh_lay km_349)[190]? = some (3, 0) := by rw [el]; exact hl190
  have hn : (sh_lay km_349).length = 193 := by rw [el]; exact hn
  refine vv_aload_n 20 0 dX3_init_20 rfl rfl ?_
  refine vv_bipush 21 dX3_init_21 bk_7 ?_
  refine vk_newa (N := 7) (c1 := 3) (s1 := 63) 13 .int (Or.inl ⟨rfl, rfl⟩) 23 dX3_init_23 ac_13 (by decide) (by decide) (Nat.le_of_ble_eq_true rfl) (n := 193) hn (μ1 := km_350) rfl rfl rfl (Nat.le_of_ble_eq_true rfl) (Nat.le_of_ble_eq_true rfl) ?_
  have el : km_350 = sh_add km_349 (13, 7) := rfl
  have hl190 : (sh_lay km_350)[190]? = some (3, 0) := by rw [el]; exact sh_lay_add hl190
  have hl193 : (sh_lay km_350)[193]? = some (13, 7) := by rw [el]; exact sh_lay_new hn
  have hn : (sh_lay km_350).length = 194 := by rw [el]; exact sh_len_add hn
  refine vn_putR 25 dX3_init_25 fl_3_18 (Or.inr ⟨rfl, rfl, rfl⟩) rfl hl190 (fun y ey => ?_)
  obtain rfl : y = km_351 := ey
  have el : sh_lay km_351 = sh_lay km_350 := by rw [show km_351 = sh_setR km_350 190 3 (some 193) from rfl]; exact sh_lyR
  have hl190 : (sh_lay km_351)[190]? = some (3, 0) := by rw [el]; exact hl190
  have hn : (sh_lay km_351).length = 194 := by rw [el]; exact hn
  refine vv_aload_n 28 0 dX3_init_28 rfl rfl ?_
  refine vv_bipush 29 dX3_init_29 bk_7 ?_
  refine vk_newa (N := 7) (c1 := 4) (s1 := 70) 13 .int (Or.inl ⟨rfl, rfl⟩) 31 dX3_init_31 ac_13 (by decide) (by decide) (Nat.le_of_ble_eq_true rfl) (n := 194) hn (μ1 := km_352) rfl rfl rfl (Nat.le_of_ble_eq_true rfl) (Nat.le_of_ble_eq_true rfl) ?_
  have el : km_352 = sh_add km_351 (13, 7) := rfl
  have hl190 : (sh_lay km_352)[190]? = some (3, 0) := by rw [el]; exact sh_lay_add hl190
  have hl194 : (sh_lay km_352)[194]? = some (13, 7) := by rw [el]; exact sh_lay_new hn
  have hn : (sh_lay km_352).length = 195 := by rw [el]; exact sh_len_add hn
  refine vn_putR 33 dX3_init_33 fl_3_21 (Or.inr ⟨rfl, rfl, rfl⟩) rfl hl190 (fun y ey => ?_)
  obtain rfl : y = km_353 := ey
  have el : sh_lay km_353 = sh_lay km_352 := by rw [show km_353 = sh_setR km_352 190 4 (some 194) from rfl]; exact sh_lyR
  have hl190 : (sh_lay km_353)[190]? = some (3, 0) := by rw [el]; exact hl190
  have hn : (sh_lay km_353).length = 195 := by rw [el]; exact hn
  refine vv_aload_n 36 0 dX3_init_36 rfl rfl ?_
  refine vv_bipush 37 dX3_init_37 bk_7 ?_
  refine vk_newa (N := 7) (c1 := 5) (s1 := 77) 13 .int (Or.inl ⟨rfl, rfl⟩) 39 dX3_init_39 ac_13 (by decide) (by decide) (Nat.le_of_ble_eq_true rfl) (n := 195) hn (μ1 := km_354) rfl rfl rfl (Nat.le_of_ble_eq_true rfl) (Nat.le_of_ble_eq_true rfl) ?_
  have el : km_354 = sh_add km_353 (13, 7) := rfl
  have hl190 : (sh_lay km_354)[190]? = some (3, 0) := by rw [el]; exact sh_lay_add hl190
  have hl195 : (sh_lay km_354)[195]? = some (13, 7) := by rw [el]; exact sh_lay_new hn
  have hn : (sh_lay km_354).length = 196 := by rw [el]; exact sh_len_add hn
  refine vn_putR 41 dX3_init_41 fl_3_24 (Or.inr ⟨rfl, rfl, rfl⟩) rfl hl190 (fun y ey => ?_)
  obtain rfl : y = km_355 := ey
  have el : sh_lay km_355 = sh_lay km_354 := by rw [show km_355 = sh_setR km_354 190 5 (some 195) from rfl]; exact sh_lyR
  have hl190 : (sh_lay km_355)[190]? = some (3, 0) := by rw [el]; exact hl190
  have hn : (sh_lay km_355).length = 196 := by rw [el]; exact hn
  refine vv_vret 44 dX3_init_44 rfl (Nat.le_of_ble_eq_true rfl) (Nat.le_of_ble_eq_true rfl) ⟨rfl, rfl⟩
set_option maxHeartbeats 40000000 in
theorem kc_36 : sh_Con l B D ca 1 5 77 M_X3_init [.ref 196] km_357 (fun v μ' => v = none ∧ μ' = km_367) := by
  have hn : (sh_lay km_357).length = 197 := by decide +kernel
  refine vv_aload_n 0 0 dX3_init_0 rfl rfl ?_
  refine vv_objInit 1 dX3_init_1 ck_X3_3 (Nat.le_of_ble_eq_true rfl) (Nat.le_of_ble_eq_true rfl) ?_
  refine vv_aload_n 4 0 dX3_init_4 rfl rfl ?_
  refine vv_bipush 5 dX3_init_5 bk_49 ?_
  refine vk_newa (N := 49) (c1 := 1) (s1 := 49) 13 .int (Or.inl ⟨rfl, rfl⟩) 7 dX3_init_7 ac_13 (by decide) (by decide) (Nat.le_of_ble_eq_true rfl) (n := 197) hn (μ1 := km_358) rfl rfl rfl (Nat.le_of_ble_eq_true rfl) (Nat.le_of_ble_eq_true rfl) ?_
  have el : km_358 = sh_add km_357 (13, 49) := rfl
  have hl197 : (sh_lay km_358)[197]? = some (13, 49) := by rw [el]; exact sh_lay_new hn
  have hn : (sh_lay km_358).length = 198 := by rw [el]; exact sh_len_add hn
  have hl196 : (sh_lay km_358)[196]? = some (3, 0) := by decide +kernel
  refine vn_putR 9 dX3_init_9 fl_3_9 (Or.inr ⟨rfl, rfl, rfl⟩) rfl hl196 (fun y ey => ?_)
  obtain rfl : y = km_359 := ey
  have el : sh_lay km_359 = sh_lay km_358 := by rw [show km_359 = sh_setR km_358 196 1 (some 197) from rfl]; exact sh_lyR
  have hl196 : (sh_lay km_359)[196]? = some (3, 0) := by rw [el]; exact hl196
  have hn : (sh_lay km_359).length = 198 := by rw [el]; exact hn
  refine vv_aload_n 12 0 dX3_init_12 rfl rfl ?_
  refine vv_bipush 13 dX3_init_13 bk_7 ?_
  refine vk_newa (N := 7) (c1 := 2) (s1 := 56) 13 .int (Or.inl ⟨rfl, rfl⟩) 15 dX3_init_15 ac_13 (by decide) (by decide) (Nat.le_of_ble_eq_true rfl) (n := 198) hn (μ1 := km_360) rfl rfl rfl (Nat.le_of_ble_eq_true rfl) (Nat.le_of_ble_eq_true rfl) ?_
  have el : km_360 = sh_add km_359 (13, 7) := rfl
  have hl196 : (sh_lay km_360)[196]? = some (3, 0) := by rw [el]; exact sh_lay_add hl196
  have hl198 : (sh_lay km_360)[198]? = some (13, 7) := by rw [el]; exact sh_lay_new hn
  have hn : (sh_lay km_360).length = 199 := by rw [el]; exact sh_len_add hn
  refine vn_putR 17 dX3_init_17 fl_3_15 (Or.inr ⟨rfl, rfl, rfl⟩) rfl hl196 (fun y ey => ?_)
  obtain rfl : y = km_361 := ey
  have el : sh_lay km_361 = sh_lay km_360 := by rw [show km_361 = sh_setR km_360 196 2 (some 198) from rfl]; exact sh_lyR
  have hl196 : (sh_lay km_361)[196]? = some (3, 0) := by rw [el]; exact hl196
  have hn : (sh_lay km_361).length = 199 := by rw [el]; exact hn
  refine vv_aload_n 20 0 dX3_init_20 rfl rfl ?_
  refine vv_bipush 21 dX3_init_21 bk_7 ?_
  refine vk_newa (N := 7) (c1 := 3) (s1 := 63) 13 .int (Or.inl ⟨rfl, rfl⟩) 23 dX3_init_23 ac_13 (by decide) (by decide) (Nat.le_of_ble_eq_true rfl) (n := 199) hn (μ1 := km_362) rfl rfl rfl (Nat.le_of_ble_eq_true rfl) (Nat.le_of_ble_eq_true rfl) ?_
  have el : km_362 = sh_add km_361 (13, 7) := rfl
  have hl196 : (sh_lay km_362)[196]? = some (3, 0) := by rw [el]; exact sh_lay_add hl196
  have hl199 : (sh_lay km_362)[199]? = some (13, 7) := by rw [el]; exact sh_lay_new hn
  have hn : (sh_lay km_362).length = 200 := by rw [el]; exact sh_len_add hn
  refine vn_putR 25 dX3_init_25 fl_3_18 (Or.inr ⟨rfl, rfl, rfl⟩) rfl hl196 (fun y ey => ?_)
  obtain rfl : y = km_363 := ey
  have el : sh_lay km_363 = sh_lay km_362 := by rw [show km_363 = sh_setR km_362 196 3 (some 199) from rfl]; exact sh_lyR
  have hl196 : (sh_lay km_363)[196]? = some (3, 0) := by rw [el]; exact hl196
  have hn : (sh_lay km_363).length = 200 := by rw [el]; exact hn
  refine vv_aload_n 28 0 dX3_init_28 rfl rfl ?_
  refine vv_bipush 29 dX3_init_29 bk_7 ?_
  refine vk_newa (N := 7) (c1 := 4) (s1 := 70) 13 .int (Or.inl ⟨rfl, rfl⟩) 31 dX3_init_31 ac_13 (by decide) (by decide) (Nat.le_of_ble_eq_true rfl) (n := 200) hn (μ1 := km_364) rfl rfl rfl (Nat.le_of_ble_eq_true rfl) (Nat.le_of_ble_eq_true rfl) ?_
  have el : km_364 = sh_add km_363 (13, 7) := rfl
  have hl196 : (sh_lay km_364)[196]? = some (3, 0) := by rw [el]; exact sh_lay_add hl196
  have hl200 : (sh_lay km_364)[200]? = some (13, 7) := by rw [el]; exact sh_lay_new hn
  have hn : (sh_lay km_364).length = 201 := by rw [el]; exact sh_len_add hn
  refine vn_putR 33 dX3_init_33 fl_3_21 (Or.inr ⟨rfl, rfl, rfl⟩) rfl hl196 (fun y ey => ?_)
  obtain rfl : y = km_365 := ey
  have el : sh_lay km_365 = sh_lay km_364 := by rw [show km_365 = sh_setR km_364 196 4 (some 200) from rfl]; exact sh_lyR
  have hl196 : (sh_lay km_365)[196]? = some (3, 0) := by rw [el]; exact hl196
  have hn : (sh_lay km_365).length = 201 := by rw [el]; exact hn
  refine vv_aload_n 36 0 dX3_init_36 rfl rfl ?_
  refine vv_bipush 37 dX3_init_37 bk_7 ?_
  refine vk_newa (N := 7) (c1 := 5) (s1 := 77) 13 .int (Or.inl ⟨rfl, rfl⟩) 39 dX3_init_39 ac_13 (by decide) (by decide) (Nat.le_of_ble_eq_true rfl) (n := 201) hn (μ1 := km_366) rfl rfl rfl (Nat.le_of_ble_eq_true rfl) (Nat.le_of_ble_eq_true rfl) ?_
  have el : km_366 = sh_add km_365 (13, 7) := rfl
  have hl196 : (sh_lay km_366)[196]? = some (3, 0) := by rw [el]; exact sh_lay_add hl196
  have hl201 : (sh_lay km_366)[201]? = some (13, 7) := by rw [el]; exact sh_lay_new hn
  have hn : (sh_lay km_366).length = 202 := by rw [el]; exact sh_len_add hn
  refine vn_putR 41 dX3_init_41 fl_3_24 (Or.inr ⟨rfl, rfl, rfl⟩) rfl hl196 (fun y ey => ?_)
  obtain rfl : y = km_367 := ey
  have el : sh_lay km_367 = sh_lay km_366 := by rw [show km_367 = sh_setR km_366 196 5 (some 201) from rfl]; exact sh_lyR
  have hl196 : (sh_lay km_367)[196]? = some (3, 0) := by rw [el]; exact hl196
  have hn : (sh_lay km_367).length = 202 := by rw [el]; exact hn
  refine vv_vret 44 dX3_init_44 rfl (Nat.le_of_ble_eq_true rfl) (Nat.le_of_ble_eq_true rfl) ⟨rfl, rfl⟩
set_option maxHeartbeats 40000000 in
theorem kc_37 : sh_Con l B D ca 1 5 77 M_X3_init [.ref 202] km_369 (fun v μ' => v = none ∧ μ' = km_379) := by
  have hn : (sh_lay km_369).length = 203 := by decide +kernel
  refine vv_aload_n 0 0 dX3_init_0 rfl rfl ?_
  refine vv_objInit 1 dX3_init_1 ck_X3_3 (Nat.le_of_ble_eq_true rfl) (Nat.le_of_ble_eq_true rfl) ?_
  refine vv_aload_n 4 0 dX3_init_4 rfl rfl ?_
  refine vv_bipush 5 dX3_init_5 bk_49 ?_
  refine vk_newa (N := 49) (c1 := 1) (s1 := 49) 13 .int (Or.inl ⟨rfl, rfl⟩) 7 dX3_init_7 ac_13 (by decide) (by decide) (Nat.le_of_ble_eq_true rfl) (n := 203) hn (μ1 := km_370) rfl rfl rfl (Nat.le_of_ble_eq_true rfl) (Nat.le_of_ble_eq_true rfl) ?_
  have el : km_370 = sh_add km_369 (13, 49) := rfl
  have hl203 : (sh_lay km_370)[203]? = some (13, 49) := by rw [el]; exact sh_lay_new hn
  have hn : (sh_lay km_370).length = 204 := by rw [el]; exact sh_len_add hn
  have hl202 : (sh_lay km_370)[202]? = some (3, 0) := by decide +kernel
  refine vn_putR 9 dX3_init_9 fl_3_9 (Or.inr ⟨rfl, rfl, rfl⟩) rfl hl202 (fun y ey => ?_)
  obtain rfl : y = km_371 := ey
  have el : sh_lay km_371 = sh_lay km_370 := by rw [show km_371 = sh_setR km_370 202 1 (some 203) from rfl]; exact sh_lyR
  have hl202 : (sh_lay km_371)[202]? = some (3, 0) := by rw [el]; exact hl202
  have hn : (sh_lay km_371).length = 204 := by rw [el]; exact hn
  refine vv_aload_n 12 0 dX3_init_12 rfl rfl ?_
  refine vv_bipush 13 dX3_init_13 bk_7 ?_
  refine vk_newa (N := 7) (c1 := 2) (s1 := 56) 13 .int (Or.inl ⟨rfl, rfl⟩) 15 dX3_init_15 ac_13 (by decide) (by decide) (Nat.le_of_ble_eq_true rfl) (n := 204) hn (μ1 := km_372) rfl rfl rfl (Nat.le_of_ble_eq_true rfl) (Nat.le_of_ble_eq_true rfl) ?_
  have el : km_372 = sh_add km_371 (13, 7) := rfl
  have hl202 : (sh_lay km_372)[202]? = some (3, 0) := by rw [el]; exact sh_lay_add hl202
  have hl204 : (sh_lay km_372)[204]? = some (13, 7) := by rw [el]; exact sh_lay_new hn
  have hn : (sh_lay km_372).length = 205 := by rw [el]; exact sh_len_add hn
  refine vn_putR 17 dX3_init_17 fl_3_15 (Or.inr ⟨rfl, rfl, rfl⟩) rfl hl202 (fun y ey => ?_)
  obtain rfl : y = km_373 := ey
  have el : sh_lay km_373 = sh_lay km_372 := by rw [show km_373 = sh_setR km_372 202 2 (some 204) from rfl]; exact sh_lyR
  have hl202 : (sh_lay km_373)[202]? = some (3, 0) := by rw [el]; exact hl202
  have hn : (sh_lay km_373).length = 205 := by rw [el]; exact hn
  refine vv_aload_n 20 0 dX3_init_20 rfl rfl ?_
  refine vv_bipush 21 dX3_init_21 bk_7 ?_
  refine vk_newa (N := 7) (c1 := 3) (s1 := 63) 13 .int (Or.inl ⟨rfl, rfl⟩) 23 dX3_init_23 ac_13 (by decide) (by decide) (Nat.le_of_ble_eq_true rfl) (n := 205) hn (μ1 := km_374) rfl rfl rfl (Nat.le_of_ble_eq_true rfl) (Nat.le_of_ble_eq_true rfl) ?_
  have el : km_374 = sh_add km_373 (13, 7) := rfl
  have hl202 : (sh_lay km_374)[202]? = some (3, 0) := by rw [el]; exact sh_lay_add hl202
  have hl205 : (sh_lay km_374)[205]? = some (13, 7) := by rw [el]; exact sh_lay_new hn
  have hn : (sh_lay km_374).length = 206 := by rw [el]; exact sh_len_add hn
  refine vn_putR 25 dX3_init_25 fl_3_18 (Or.inr ⟨rfl, rfl, rfl⟩) rfl hl202 (fun y ey => ?_)
  obtain rfl : y = km_375 := ey
  have el : sh_lay km_375 = sh_lay km_374 := by rw [show km_375 = sh_setR km_374 202 3 (some 205) from rfl]; exact sh_lyR
  have hl202 : (sh_lay km_375)[202]? = some (3, 0) := by rw [el]; exact hl202
  have hn : (sh_lay km_375).length = 206 := by rw [el]; exact hn
  refine vv_aload_n 28 0 dX3_init_28 rfl rfl ?_
  refine vv_bipush 29 dX3_init_29 bk_7 ?_
  refine vk_newa (N := 7) (c1 := 4) (s1 := 70) 13 .int (Or.inl ⟨rfl, rfl⟩) 31 dX3_init_31 ac_13 (by decide) (by decide) (Nat.le_of_ble_eq_true rfl) (n := 206) hn (μ1 := km_376) rfl rfl rfl (Nat.le_of_ble_eq_true rfl) (Nat.le_of_ble_eq_true rfl) ?_
  have el : km_376 = sh_add km_375 (13, 7) := rfl
  have hl202 : (sh_lay km_376)[202]? = some (3, 0) := by rw [el]; exact sh_lay_add hl202
  have hl206 : (sh_lay km_376)[206]? = some (13, 7) := by rw [el]; exact sh_lay_new hn
  have hn : (sh_lay km_376).length = 207 := by rw [el]; exact sh_len_add hn
  refine vn_putR 33 dX3_init_33 fl_3_21 (Or.inr ⟨rfl, rfl, rfl⟩) rfl hl202 (fun y ey => ?_)
  obtain rfl : y = km_377 := ey
  have el : sh_lay km_377 = sh_lay km_376 := by rw [show km_377 = sh_setR km_376 202 4 (some 206) from rfl]; exact sh_lyR
  have hl202 : (sh_lay km_377)[202]? = some (3, 0) := by rw [el]; exact hl202
  have hn : (sh_lay km_377).length = 207 := by rw [el]; exact hn
  refine vv_aload_n 36 0 dX3_init_36 rfl rfl ?_
  refine vv_bipush 37 dX3_init_37 bk_7 ?_
  refine vk_newa (N := 7) (c1 := 5) (s1 := 77) 13 .int (Or.inl ⟨rfl, rfl⟩) 39 dX3_init_39 ac_13 (by decide) (by decide) (Nat.le_of_ble_eq_true rfl) (n := 207) hn (μ1 := km_378) rfl rfl rfl (Nat.le_of_ble_eq_true rfl) (Nat.le_of_ble_eq_true rfl) ?_
  have el : km_378 = sh_add km_377 (13, 7) := rfl
  have hl202 : (sh_lay km_378)[202]? = some (3, 0) := by rw [el]; exact sh_lay_add hl202
  have hl207 : (sh_lay km_378)[207]? = some (13, 7) := by rw [el]; exact sh_lay_new hn
  have hn : (sh_lay km_378).length = 208 := by rw [el]; exact sh_len_add hn
  refine vn_putR 41 dX3_init_41 fl_3_24 (Or.inr ⟨rfl, rfl, rfl⟩) rfl hl202 (fun y ey => ?_)
  obtain rfl : y = km_379 := ey
  have el : sh_lay km_379 = sh_lay km_378 := by rw [show km_379 = sh_setR km_378 202 5 (some 207) from rfl]; exact sh_lyR
  have hl202 : (sh_lay km_379)[202]? = some (3, 0) := by rw [el]; exact hl202
  have hn : (sh_lay km_379).length = 208 := by rw [el]; exact hn
  refine vv_vret 44 dX3_init_44 rfl (Nat.le_of_ble_eq_true rfl) (Nat.le_of_ble_eq_true rfl) ⟨rfl, rfl⟩
set_option maxHeartbeats 40000000 in
theorem kc_38 : sh_Con l B D ca 2 144 5080 M_X4_init [.ref 63] km_132 (fun v μ' => v = none ∧ μ' = km_380) := by
  have hn : (sh_lay km_132).length = 64 := by decide +kernel
  refine vv_aload_n 0 0 dX4_init_0 rfl rfl ?_
  refine vv_objInit 1 dX4_init_1 ck_X4_3 (Nat.le_of_ble_eq_true rfl) (Nat.le_of_ble_eq_true rfl) ?_
  refine vv_aload_n 4 0 dX4_init_4 rfl rfl ?_
  refine vv_sipush 5 dX4_init_5 sk_160 ?_
  refine vk_newa (N := 160) (c1 := 1) (s1 := 160) 13 .int (Or.inl ⟨rfl, rfl⟩) 8 dX4_init_8 ac_13 (by decide) (by decide) (Nat.le_of_ble_eq_true rfl) (n := 64) hn (μ1 := km_133) rfl rfl rfl (Nat.le_of_ble_eq_true rfl) (Nat.le_of_ble_eq_true rfl) ?_
  have el : km_133 = sh_add km_132 (13, 160) := rfl
  have hl64 : (sh_lay km_133)[64]? = some (13, 160) := by rw [el]; exact sh_lay_new hn
  have hn : (sh_lay km_133).length = 65 := by rw [el]; exact sh_len_add hn
  have hl63 : (sh_lay km_133)[63]? = some (4, 0) := by decide +kernel
  refine vn_putR 10 dX4_init_10 fl_4_9 (Or.inr ⟨rfl, rfl, rfl⟩) rfl hl63 (fun y ey => ?_)
  obtain rfl : y = km_134 := ey
  have el : sh_lay km_134 = sh_lay km_133 := by rw [show km_134 = sh_setR km_133 63 0 (some 64) from rfl]; exact sh_lyR
  have hl63 : (sh_lay km_134)[63]? = some (4, 0) := by rw [el]; exact hl63
  have hn : (sh_lay km_134).length = 65 := by rw [el]; exact hn
  refine vv_aload_n 13 0 dX4_init_13 rfl rfl ?_
  refine vv_bipush 14 dX4_init_14 bk_20 ?_
  refine vk_anew (N := 20) (c1 := 2) (s1 := 180) 16 dX4_init_16 nw_4_15 (by decide) (by decide) (Nat.le_of_ble_eq_true rfl) (n := 65) hn (μ1 := km_135) rfl rfl rfl (Nat.le_of_ble_eq_true rfl) (Nat.le_of_ble_eq_true rfl) ?_
  have el : km_135 = sh_add km_134 (16, 20) := rfl
  have hl63 : (sh_lay km_135)[63]? = some (4, 0) := by rw [el]; exact sh_lay_add hl63
  have hl65 : (sh_lay km_135)[65]? = some (16, 20) := by rw [el]; exact sh_lay_new hn
  have hn : (sh_lay km_135).length = 66 := by rw [el]; exact sh_len_add hn
  refine vn_putR 19 dX4_init_19 fl_4_17 (Or.inr ⟨rfl, rfl, rfl⟩) rfl hl63 (fun y ey => ?_)
  obtain rfl : y = km_136 := ey
  have el : sh_lay km_136 = sh_lay km_135 := by rw [show km_136 = sh_setR km_135 63 4 (some 65) from rfl]; exact sh_lyR
  have hl63 : (sh_lay km_136)[63]? = some (4, 0) := by rw [el]; exact hl63
  have hn : (sh_lay km_136).length = 66 := by rw [el]; exact hn
  refine vv_aload_n 22 0 dX4_init_22 rfl rfl ?_
  refine vv_bipush 23 dX4_init_23 bk_20 ?_
  refine vv_sipush 25 dX4_init_25 sk_160 ?_
  refine vk_mna (N := 20) (K := 160) (c1 := 23) (s1 := 3400) 28 dX4_init_28 cl_4_21 ac_13 (by decide) (by decide) (by decide) (by decide) (by decide) (n := 66) hn (μ1 := km_137) rfl rfl rfl (Nat.le_of_ble_eq_true rfl) (Nat.le_of_ble_eq_true rfl) ?_
  have hn : (sh_lay km_137).length = 87 := by decide +kernel
  have hl63 : (sh_lay km_137)[63]? = some (4, 0) := by decide +kernel
  refine vn_putR 32 dX4_init_32 fl_4_23 (Or.inr ⟨rfl, rfl, rfl⟩) rfl hl63 (fun y ey => ?_)
  obtain rfl : y = km_138 := ey
  have el : sh_lay km_138 = sh_lay km_137 := by rw [show km_138 = sh_setR km_137 63 5 (some 66) from rfl]; exact sh_lyR
  have hl63 : (sh_lay km_138)[63]? = some (4, 0) := by rw [el]; exact hl63
  have hn : (sh_lay km_138).length = 87 := by rw [el]; exact hn
  refine vv_aload_n 35 0 dX4_init_35 rfl rfl ?_
  refine vv_bipush 36 dX4_init_36 bk_20 ?_
  refine vk_newa (N := 20) (c1 := 24) (s1 := 3420) 13 .int (Or.inl ⟨rfl, rfl⟩) 38 dX4_init_38 ac_13 (by decide) (by decide) (Nat.le_of_ble_eq_true rfl) (n := 87) hn (μ1 := km_139) rfl rfl rfl (Nat.le_of_ble_eq_true rfl) (Nat.le_of_ble_eq_true rfl) ?_
  have el : km_139 = sh_add km_138 (13, 20) := rfl
  have hl63 : (sh_lay km_139)[63]? = some (4, 0) := by rw [el]; exact sh_lay_add hl63
  have hl87 : (sh_lay km_139)[87]? = some (13, 20) := by rw [el]; exact sh_lay_new hn
  have hn : (sh_lay km_139).length = 88 := by rw [el]; exact sh_len_add hn
  refine vn_putR 40 dX4_init_40 fl_4_26 (Or.inr ⟨rfl, rfl, rfl⟩) rfl hl63 (fun y ey => ?_)
  obtain rfl : y = km_140 := ey
  have el : sh_lay km_140 = sh_lay km_139 := by rw [show km_140 = sh_setR km_139 63 6 (some 87) from rfl]; exact sh_lyR
  have hl63 : (sh_lay km_140)[63]? = some (4, 0) := by rw [el]; exact hl63
  have hn : (sh_lay km_140).length = 88 := by rw [el]; exact hn
  refine vv_iconst 43 dX4_init_43 ik_0 ?_
  refine vv_istore_n (lv' := [(1, _), (0, _)]) 44 1 dX4_init_44 rfl (by decide) rfl ?_
  refine vv_iload_n 45 1 dX4_init_45 rfl rfl ?_
  refine vv_bipush 46 dX4_init_46 bk_20 ?_
  refine vv_icmp_ge 48 70 dX4_init_48 (by decide) (fun h => absurd h (by decide)) (fun _ => ?_)
  refine vv_aload_n 51 0 dX4_init_51 rfl rfl ?_
  refine vv_getR 52 dX4_init_52 fl_4_17 rfl hl63 (show sh_r km_140 63 4 = some 65 by decide +kernel) ?_
  refine vv_iload_n 55 1 dX4_init_55 rfl rfl ?_
  refine vk_new (c1 := 25) (s1 := 3426) 56 dX4_init_56 nw_4_15 (n := 88) hn (μ1 := km_141) rfl rfl rfl (Nat.le_of_ble_eq_true rfl) (Nat.le_of_ble_eq_true rfl) ?_
  have el : km_141 = sh_add km_140 (3, 0) := rfl
  have hl63 : (sh_lay km_141)[63]? = some (4, 0) := by rw [el]; exact sh_lay_add hl63
  have hl88 : (sh_lay km_141)[88]? = some (3, 0) := by rw [el]; exact sh_lay_new hn
  have hn : (sh_lay km_141).length = 89 := by rw [el]; exact sh_len_add hn
  refine vv_dup_ref 59 dX4_init_59 ?_
  refine vk_callIN (c1 := 30) (s1 := 3503) [] 60 dX4_init_60 ck_X4_29 kc_18 (Nat.le_of_ble_eq_true rfl) ⟨Nat.le_of_ble_eq_true rfl, Nat.le_of_ble_eq_true rfl⟩ rfl (Nat.le_of_ble_eq_true rfl) rfl rfl (Nat.le_of_ble_eq_true rfl) (Nat.le_of_ble_eq_true rfl) ?_
  have hn : (sh_lay km_151).length = 94 := by decide +kernel
  have hl65 : (sh_lay km_151)[65]? = some (16, 20) := by decide +kernel
  have hl88 : (sh_lay km_151)[88]? = some (3, 0) := by decide +kernel
  refine vk_aast 63 dX4_init_63 hl65 hl88 (by unfold vp_in; decide) (μ1 := km_152) rfl ?_
  have el : sh_lay km_152 = sh_lay km_151 := by rw [show km_152 = sh_setR km_151 65 (Int32.toNatClampNeg 0) (some 88) from rfl]; exact sh_lyR
  have hn : (sh_lay km_152).length = 94 := by rw [el]; exact hn
  refine vv_iinc (v := 1) (lv' := [(1, _), (0, _)]) 64 1 dX4_init_64 rfl (by decide) (by decide) rfl ?_
  refine vv_goto 67 45 dX4_init_67 (by decide) ?_
  refine vv_iload_n 45 1 dX4_init_45 rfl rfl ?_
  refine vv_bipush 46 dX4_init_46 bk_20 ?_
  refine vv_icmp_ge 48 70 dX4_init_48 (by decide) (fun h => absurd h (by decide)) (fun _ => ?_)
  refine vv_aload_n 51 0 dX4_init_51 rfl rfl ?_
  have hl63 : (sh_lay km_152)[63]? = some (4, 0) := by decide +kernel
  refine vv_getR 52 dX4_init_52 fl_4_17 rfl hl63 (show sh_r km_152 63 4 = some 65 by decide +kernel) ?_
  refine vv_iload_n 55 1 dX4_init_55 rfl rfl ?_
  refine vk_new (c1 := 31) (s1 := 3509) 56 dX4_init_56 nw_4_15 (n := 94) hn (μ1 := km_153) rfl rfl rfl (Nat.le_of_ble_eq_true rfl) (Nat.le_of_ble_eq_true rfl) ?_
  have el : km_153 = sh_add km_152 (3, 0) := rfl
  have hl63 : (sh_lay km_153)[63]? = some (4, 0) := by rw [el]; exact sh_lay_add hl63
  have hl94 : (sh_lay km_153)[94]? = some (3, 0) := by rw [el]; exact sh_lay_new hn
  have hn : (sh_lay km_153).length = 95 := by rw [el]; exact sh_len_add hn
  refine vv_dup_ref 59 dX4_init_59 ?_
  refine vk_callIN (c1 := 36) (s1 := 3586) [] 60 dX4_init_60 ck_X4_29 kc_19 (Nat.le_of_ble_eq_true rfl) ⟨Nat.le_of_ble_eq_true rfl, Nat.le_of_ble_eq_true rfl⟩ rfl (Nat.le_of_ble_eq_true rfl) rfl rfl (Nat.le_of_ble_eq_true rfl) (Nat.le_of_ble_eq_true rfl) ?_
  have hn : (sh_lay km_163).length = 100 := by decide +kernel
  have hl65 : (sh_lay km_163)[65]? = some (16, 20) := by decide +kernel
  have hl94 : (sh_lay km_163)[94]? = some (3, 0) := by decide +kernel
  refine vk_aast 63 dX4_init_63 hl65 hl94 (by unfold vp_in; decide) (μ1 := km_164) rfl ?_
  have el : sh_lay km_164 = sh_lay km_163 := by rw [show km_164 = sh_setR km_163 65 (Int32.toNatClampNeg 1) (some 94) from rfl]; exact sh_lyR
  have hn : (sh_lay km_164).length = 100 := by rw [el]; exact hn
  refine vv_iinc (v := 2) (lv' := [(1, _), (0, _)]) 64 1 dX4_init_64 rfl (by decide) (by decide) rfl ?_
  refine vv_goto 67 45 dX4_init_67 (by decide) ?_
  refine vv_iload_n 45 1 dX4_init_45 rfl rfl ?_
  refine vv_bipush 46 dX4_init_46 bk_20 ?_
  refine vv_icmp_ge 48 70 dX4_init_48 (by decide) (fun h => absurd h (by decide)) (fun _ => ?_)
  refine vv_aload_n 51 0 dX4_init_51 rfl rfl ?_
  have hl63 : (sh_lay km_164)[63]? = some (4, 0) := by decide +kernel
  refine vv_getR 52 dX4_init_52 fl_4_17 rfl hl63 (show sh_r km_164 63 4 = some 65 by decide +kernel) ?_
  refine vv_iload_n 55 1 dX4_init_55 rfl rfl ?_
  refine vk_new (c1 := 37) (s1 := 3592) 56 dX4_init_56 nw_4_15 (n := 100) hn (μ1 := km_165) rfl rfl rfl (Nat.le_of_ble_eq_true rfl) (Nat.le_of_ble_eq_true rfl) ?_
  have el : km_165 = sh_add km_164 (3, 0) := rfl
  have hl63 : (sh_lay km_165)[63]? = some (4, 0) := by rw [el]; exact sh_lay_add hl63
  have hl100 : (sh_lay km_165)[100]? = some (3, 0) := by rw [el]; exact sh_lay_new hn
  have hn : (sh_lay km_165).length = 101 := by rw [el]; exact sh_len_add hn
  refine vv_dup_ref 59 dX4_init_59 ?_
  refine vk_callIN (c1 := 42) (s1 := 3669) [] 60 dX4_init_60 ck_X4_29 kc_20 (Nat.le_of_ble_eq_true rfl) ⟨Nat.le_of_ble_eq_true rfl, Nat.le_of_ble_eq_true rfl⟩ rfl (Nat.le_of_ble_eq_true rfl) rfl rfl (Nat.le_of_ble_eq_true rfl) (Nat.le_of_ble_eq_true rfl) ?_
  have hn : (sh_lay km_175).length = 106 := by decide +kernel
  have hl65 : (sh_lay km_175)[65]? = some (16, 20) := by decide +kernel
  have hl100 : (sh_lay km_175)[100]? = some (3, 0) := by decide +kernel
  refine vk_aast 63 dX4_init_63 hl65 hl100 (by unfold vp_in; decide) (μ1 := km_176) rfl ?_
  have el : sh_lay km_176 = sh_lay km_175 := by rw [show km_176 = sh_setR km_175 65 (Int32.toNatClampNeg 2) (some 100) from rfl]; exact sh_lyR
  have hn : (sh_lay km_176).length = 106 := by rw [el]; exact hn
  refine vv_iinc (v := 3) (lv' := [(1, _), (0, _)]) 64 1 dX4_init_64 rfl (by decide) (by decide) rfl ?_
  refine vv_goto 67 45 dX4_init_67 (by decide) ?_
  refine vv_iload_n 45 1 dX4_init_45 rfl rfl ?_
  refine vv_bipush 46 dX4_init_46 bk_20 ?_
  refine vv_icmp_ge 48 70 dX4_init_48 (by decide) (fun h => absurd h (by decide)) (fun _ => ?_)
  refine vv_aload_n 51 0 dX4_init_51 rfl rfl ?_
  have hl63 : (sh_lay km_176)[63]? = some (4, 0) := by decide +kernel
  refine vv_getR 52 dX4_init_52 fl_4_17 rfl hl63 (show sh_r km_176 63 4 = some 65 by decide +kernel) ?_
  refine vv_iload_n 55 1 dX4_init_55 rfl rfl ?_
  refine vk_new (c1 := 43) (s1 := 3675) 56 dX4_init_56 nw_4_15 (n := 106) hn (μ1 := km_177) rfl rfl rfl (Nat.le_of_ble_eq_true rfl) (Nat.le_of_ble_eq_true rfl) ?_
  have el : km_177 = sh_add km_176 (3, 0) := rfl
  have hl63 : (sh_lay km_177)[63]? = some (4, 0) := by rw [el]; exact sh_lay_add hl63
  have hl106 : (sh_lay km_177)[106]? = some (3, 0) := by rw [el]; exact sh_lay_new hn
  have hn : (sh_lay km_177).length = 107 := by rw [el]; exact sh_len_add hn
  refine vv_dup_ref 59 dX4_init_59 ?_
  refine vk_callIN (c1 := 48) (s1 := 3752) [] 60 dX4_init_60 ck_X4_29 kc_21 (Nat.le_of_ble_eq_true rfl) ⟨Nat.le_of_ble_eq_true rfl, Nat.le_of_ble_eq_true rfl⟩ rfl (Nat.le_of_ble_eq_true rfl) rfl rfl (Nat.le_of_ble_eq_true rfl) (Nat.le_of_ble_eq_true rfl) ?_
  have hn : (sh_lay km_187).length = 112 := by decide +kernel
  have hl65 : (sh_lay km_187)[65]? = some (16, 20) := by decide +kernel
  have hl106 : (sh_lay km_187)[106]? = some (3, 0) := by decide +kernel
  refine vk_aast 63 dX4_init_63 hl65 hl106 (by unfold vp_in; decide) (μ1 := km_188) rfl ?_
  have el : sh_lay km_188 = sh_lay km_187 := by rw [show km_188 = sh_setR km_187 65 (Int32.toNatClampNeg 3) (some 106) from rfl]; exact sh_lyR
  have hn : (sh_lay km_188).length = 112 := by rw [el]; exact hn
  refine vv_iinc (v := 4) (lv' := [(1, _), (0, _)]) 64 1 dX4_init_64 rfl (by decide) (by decide) rfl ?_
  refine vv_goto 67 45 dX4_init_67 (by decide) ?_
  refine vv_iload_n 45 1 dX4_init_45 rfl rfl ?_
  refine vv_bipush 46 dX4_init_46 bk_20 ?_
  refine vv_icmp_ge 48 70 dX4_init_48 (by decide) (fun h => absurd h (by decide)) (fun _ => ?_)
  refine vv_aload_n 51 0 dX4_init_51 rfl rfl ?_
  have hl63 : (sh_lay km_188)[63]? = some (4, 0) := by decide +kernel
  refine vv_getR 52 dX4_init_52 fl_4_17 rfl hl63 (show sh_r km_188 63 4 = some 65 by decide +kernel) ?_
  refine vv_iload_n 55 1 dX4_init_55 rfl rfl ?_
  refine vk_new (c1 := 49) (s1 := 3758) 56 dX4_init_56 nw_4_15 (n := 112) hn (μ1 := km_189) rfl rfl rfl (Nat.le_of_ble_eq_true rfl) (Nat.le_of_ble_eq_true rfl) ?_
  have el : km_189 = sh_add km_188 (3, 0) := rfl
  have hl63 : (sh_lay km_189)[63]? = some (4, 0) := by rw [el]; exact sh_lay_add hl63
  have hl112 : (sh_lay km_189)[112]? = some (3, 0) := by rw [el]; exact sh_lay_new hn
  have hn : (sh_lay km_189).length = 113 := by rw [el]; exact sh_len_add hn
  refine vv_dup_ref 59 dX4_init_59 ?_
  refine vk_callIN (c1 := 54) (s1 := 3835) [] 60 dX4_init_60 ck_X4_29 kc_22 (Nat.le_of_ble_eq_true rfl) ⟨Nat.le_of_ble_eq_true rfl, Nat.le_of_ble_eq_true rfl⟩ rfl (Nat.le_of_ble_eq_true rfl) rfl rfl (Nat.le_of_ble_eq_true rfl) (Nat.le_of_ble_eq_true rfl) ?_
  have hn : (sh_lay km_199).length = 118 := by decide +kernel
  have hl65 : (sh_lay km_199)[65]? = some (16, 20) := by decide +kernel
  have hl112 : (sh_lay km_199)[112]? = some (3, 0) := by decide +kernel
  refine vk_aast 63 dX4_init_63 hl65 hl112 (by unfold vp_in; decide) (μ1 := km_200) rfl ?_
  have el : sh_lay km_200 = sh_lay km_199 := by rw [show km_200 = sh_setR km_199 65 (Int32.toNatClampNeg 4) (some 112) from rfl]; exact sh_lyR
  have hn : (sh_lay km_200).length = 118 := by rw [el]; exact hn
  refine vv_iinc (v := 5) (lv' := [(1, _), (0, _)]) 64 1 dX4_init_64 rfl (by decide) (by decide) rfl ?_
  refine vv_goto 67 45 dX4_init_67 (by decide) ?_
  refine vv_iload_n 45 1 dX4_init_45 rfl rfl ?_
  refine vv_bipush 46 dX4_init_46 bk_20 ?_
  refine vv_icmp_ge 48 70 dX4_init_48 (by decide) (fun h => absurd h (by decide)) (fun _ => ?_)
  refine vv_aload_n 51 0 dX4_init_51 rfl rfl ?_
  have hl63 : (sh_lay km_200)[63]? = some (4, 0) := by decide +kernel
  refine vv_getR 52 dX4_init_52 fl_4_17 rfl hl63 (show sh_r km_200 63 4 = some 65 by decide +kernel) ?_
  refine vv_iload_n 55 1 dX4_init_55 rfl rfl ?_
  refine vk_new (c1 := 55) (s1 := 3841) 56 dX4_init_56 nw_4_15 (n := 118) hn (μ1 := km_201) rfl rfl rfl (Nat.le_of_ble_eq_true rfl) (Nat.le_of_ble_eq_true rfl) ?_
  have el : km_201 = sh_add km_200 (3, 0) := rfl
  have hl63 : (sh_lay km_201)[63]? = some (4, 0) := by rw [el]; exact sh_lay_add hl63
  have hl118 : (sh_lay km_201)[118]? = some (3, 0) := by rw [el]; exact sh_lay_new hn
  have hn : (sh_lay km_201).length = 119 := by rw [el]; exact sh_len_add hn
  refine vv_dup_ref 59 dX4_init_59 ?_
  refine vk_callIN (c1 := 60) (s1 := 3918) [] 60 dX4_init_60 ck_X4_29 kc_23 (Nat.le_of_ble_eq_true rfl) ⟨Nat.le_of_ble_eq_true rfl, Nat.le_of_ble_eq_true rfl⟩ rfl (Nat.le_of_ble_eq_true rfl) rfl rfl (Nat.le_of_ble_eq_true rfl) (Nat.le_of_ble_eq_true rfl) ?_
  have hn : (sh_lay km_211).length = 124 := by decide +kernel
  have hl65 : (sh_lay km_211)[65]? = some (16, 20) := by decide +kernel
  have hl118 : (sh_lay km_211)[118]? = some (3, 0) := by decide +kernel
  refine vk_aast 63 dX4_init_63 hl65 hl118 (by unfold vp_in; decide) (μ1 := km_212) rfl ?_
  have el : sh_lay km_212 = sh_lay km_211 := by rw [show km_212 = sh_setR km_211 65 (Int32.toNatClampNeg 5) (some 118) from rfl]; exact sh_lyR
  have hn : (sh_lay km_212).length = 124 := by rw [el]; exact hn
  refine vv_iinc (v := 6) (lv' := [(1, _), (0, _)]) 64 1 dX4_init_64 rfl (by decide) (by decide) rfl ?_
  refine vv_goto 67 45 dX4_init_67 (by decide) ?_
  refine vv_iload_n 45 1 dX4_init_45 rfl rfl ?_
  refine vv_bipush 46 dX4_init_46 bk_20 ?_
  refine vv_icmp_ge 48 70 dX4_init_48 (by decide) (fun h => absurd h (by decide)) (fun _ => ?_)
  refine vv_aload_n 51 0 dX4_init_51 rfl rfl ?_
  have hl63 : (sh_lay km_212)[63]? = some (4, 0) := by decide +kernel
  refine vv_getR 52 dX4_init_52 fl_4_17 rfl hl63 (show sh_r km_212 63 4 = some 65 by decide +kernel) ?_
  refine vv_iload_n 55 1 dX4_init_55 rfl rfl ?_
  refine vk_new (c1 := 61) (s1 := 3924) 56 dX4_init_56 nw_4_15 (n := 124) hn (μ1 := km_213) rfl rfl rfl (Nat.le_of_ble_eq_true rfl) (Nat.le_of_ble_eq_true rfl) ?_
  have el : km_213 = sh_add km_212 (3, 0) := rfl
  have hl63 : (sh_lay km_213)[63]? = some (4, 0) := by rw [el]; exact sh_lay_add hl63
  have hl124 : (sh_lay km_213)[124]? = some (3, 0) := by rw [el]; exact sh_lay_new hn
  have hn : (sh_lay km_213).length = 125 := by rw [el]; exact sh_len_add hn
  refine vv_dup_ref 59 dX4_init_59 ?_
  refine vk_callIN (c1 := 66) (s1 := 4001) [] 60 dX4_init_60 ck_X4_29 kc_24 (Nat.le_of_ble_eq_true rfl) ⟨Nat.le_of_ble_eq_true rfl, Nat.le_of_ble_eq_true rfl⟩ rfl (Nat.le_of_ble_eq_true rfl) rfl rfl (Nat.le_of_ble_eq_true rfl) (Nat.le_of_ble_eq_true rfl) ?_
  have hn : (sh_lay km_223).length = 130 := by decide +kernel
  have hl65 : (sh_lay km_223)[65]? = some (16, 20) := by decide +kernel
  have hl124 : (sh_lay km_223)[124]? = some (3, 0) := by decide +kernel
  refine vk_aast 63 dX4_init_63 hl65 hl124 (by unfold vp_in; decide) (μ1 := km_224) rfl ?_
  have el : sh_lay km_224 = sh_lay km_223 := by rw [show km_224 = sh_setR km_223 65 (Int32.toNatClampNeg 6) (some 124) from rfl]; exact sh_lyR
  have hn : (sh_lay km_224).length = 130 := by rw [el]; exact hn
  refine vv_iinc (v := 7) (lv' := [(1, _), (0, _)]) 64 1 dX4_init_64 rfl (by decide) (by decide) rfl ?_
  refine vv_goto 67 45 dX4_init_67 (by decide) ?_
  refine vv_iload_n 45 1 dX4_init_45 rfl rfl ?_
  refine vv_bipush 46 dX4_init_46 bk_20 ?_
  refine vv_icmp_ge 48 70 dX4_init_48 (by decide) (fun h => absurd h (by decide)) (fun _ => ?_)
  refine vv_aload_n 51 0 dX4_init_51 rfl rfl ?_
  have hl63 : (sh_lay km_224)[63]? = some (4, 0) := by decide +kernel
  refine vv_getR 52 dX4_init_52 fl_4_17 rfl hl63 (show sh_r km_224 63 4 = some 65 by decide +kernel) ?_
  refine vv_iload_n 55 1 dX4_init_55 rfl rfl ?_
  refine vk_new (c1 := 67) (s1 := 4007) 56 dX4_init_56 nw_4_15 (n := 130) hn (μ1 := km_225) rfl rfl rfl (Nat.le_of_ble_eq_true rfl) (Nat.le_of_ble_eq_true rfl) ?_
  have el : km_225 = sh_add km_224 (3, 0) := rfl
  have hl63 : (sh_lay km_225)[63]? = some (4, 0) := by rw [el]; exact sh_lay_add hl63
  have hl130 : (sh_lay km_225)[130]? = some (3, 0) := by rw [el]; exact sh_lay_new hn
  have hn : (sh_lay km_225).length = 131 := by rw [el]; exact sh_len_add hn
  refine vv_dup_ref 59 dX4_init_59 ?_
  refine vk_callIN (c1 := 72) (s1 := 4084) [] 60 dX4_init_60 ck_X4_29 kc_25 (Nat.le_of_ble_eq_true rfl) ⟨Nat.le_of_ble_eq_true rfl, Nat.le_of_ble_eq_true rfl⟩ rfl (Nat.le_of_ble_eq_true rfl) rfl rfl (Nat.le_of_ble_eq_true rfl) (Nat.le_of_ble_eq_true rfl) ?_
  have hn : (sh_lay km_235).length = 136 := by decide +kernel
  have hl65 : (sh_lay km_235)[65]? = some (16, 20) := by decide +kernel
  have hl130 : (sh_lay km_235)[130]? = some (3, 0) := by decide +kernel
  refine vk_aast 63 dX4_init_63 hl65 hl130 (by unfold vp_in; decide) (μ1 := km_236) rfl ?_
  have el : sh_lay km_236 = sh_lay km_235 := by rw [show km_236 = sh_setR km_235 65 (Int32.toNatClampNeg 7) (some 130) from rfl]; exact sh_lyR
  have hn : (sh_lay km_236).length = 136 := by rw [el]; exact hn
  refine vv_iinc (v := 8) (lv' := [(1, _), (0, _)]) 64 1 dX4_init_64 rfl (by decide) (by decide) rfl ?_
  refine vv_goto 67 45 dX4_init_67 (by decide) ?_
  refine vv_iload_n 45 1 dX4_init_45 rfl rfl ?_
  refine vv_bipush 46 dX4_init_46 bk_20 ?_
  refine vv_icmp_ge 48 70 dX4_init_48 (by decide) (fun h => absurd h (by decide)) (fun _ => ?_)
  refine vv_aload_n 51 0 dX4_init_51 rfl rfl ?_
  have hl63 : (sh_lay km_236)[63]? = some (4, 0) := by decide +kernel
  refine vv_getR 52 dX4_init_52 fl_4_17 rfl hl63 (show sh_r km_236 63 4 = some 65 by decide +kernel) ?_
  refine vv_iload_n 55 1 dX4_init_55 rfl rfl ?_
  refine vk_new (c1 := 73) (s1 := 4090) 56 dX4_init_56 nw_4_15 (n := 136) hn (μ1 := km_237) rfl rfl rfl (Nat.le_of_ble_eq_true rfl) (Nat.le_of_ble_eq_true rfl) ?_
  have el : km_237 = sh_add km_236 (3, 0) := rfl
  have hl63 : (sh_lay km_237)[63]? = some (4, 0) := by rw [el]; exact sh_lay_add hl63
  have hl136 : (sh_lay km_237)[136]? = some (3, 0) := by rw [el]; exact sh_lay_new hn
  have hn : (sh_lay km_237).length = 137 := by rw [el]; exact sh_len_add hn
  refine vv_dup_ref 59 dX4_init_59 ?_
  refine vk_callIN (c1 := 78) (s1 := 4167) [] 60 dX4_init_60 ck_X4_29 kc_26 (Nat.le_of_ble_eq_true rfl) ⟨Nat.le_of_ble_eq_true rfl, Nat.le_of_ble_eq_true rfl⟩ rfl (Nat.le_of_ble_eq_true rfl) rfl rfl (Nat.le_of_ble_eq_true rfl) (Nat.le_of_ble_eq_true rfl) ?_
  have hn : (sh_lay km_247).length = 142 := by decide +kernel
  have hl65 : (sh_lay km_247)[65]? = some (16, 20) := by decide +kernel
  have hl136 : (sh_lay km_247)[136]? = some (3, 0) := by decide +kernel
  refine vk_aast 63 dX4_init_63 hl65 hl136 (by unfold vp_in; decide) (μ1 := km_248) rfl ?_
  have el : sh_lay km_248 = sh_lay km_247 := by rw [show km_248 = sh_setR km_247 65 (Int32.toNatClampNeg 8) (some 136) from rfl]; exact sh_lyR
  have hn : (sh_lay km_248).length = 142 := by rw [el]; exact hn
  refine vv_iinc (v := 9) (lv' := [(1, _), (0, _)]) 64 1 dX4_init_64 rfl (by decide) (by decide) rfl ?_
  refine vv_goto 67 45 dX4_init_67 (by decide) ?_
  refine vv_iload_n 45 1 dX4_init_45 rfl rfl ?_
  refine vv_bipush 46 dX4_init_46 bk_20 ?_
  refine vv_icmp_ge 48 70 dX4_init_48 (by decide) (fun h => absurd h (by decide)) (fun _ => ?_)
  refine vv_aload_n 51 0 dX4_init_51 rfl rfl ?_
  have hl63 : (sh_lay km_248)[63]? = some (4, 0) := by decide +kernel
  refine vv_getR 52 dX4_init_52 fl_4_17 rfl hl63 (show sh_r km_248 63 4 = some 65 by decide +kernel) ?_
  refine vv_iload_n 55 1 dX4_init_55 rfl rfl ?_
  refine vk_new (c1 := 79) (s1 := 4173) 56 dX4_init_56 nw_4_15 (n := 142) hn (μ1 := km_249) rfl rfl rfl (Nat.le_of_ble_eq_true rfl) (Nat.le_of_ble_eq_true rfl) ?_
  have el : km_249 = sh_add km_248 (3, 0) := rfl
  have hl63 : (sh_lay km_249)[63]? = some (4, 0) := by rw [el]; exact sh_lay_add hl63
  have hl142 : (sh_lay km_249)[142]? = some (3, 0) := by rw [el]; exact sh_lay_new hn
  have hn : (sh_lay km_249).length = 143 := by rw [el]; exact sh_len_add hn
  refine vv_dup_ref 59 dX4_init_59 ?_
  refine vk_callIN (c1 := 84) (s1 := 4250) [] 60 dX4_init_60 ck_X4_29 kc_27 (Nat.le_of_ble_eq_true rfl) ⟨Nat.le_of_ble_eq_true rfl, Nat.le_of_ble_eq_true rfl⟩ rfl (Nat.le_of_ble_eq_true rfl) rfl rfl (Nat.le_of_ble_eq_true rfl) (Nat.le_of_ble_eq_true rfl) ?_
  have hn : (sh_lay km_259).length = 148 := by decide +kernel
  have hl65 : (sh_lay km_259)[65]? = some (16, 20) := by decide +kernel
  have hl142 : (sh_lay km_259)[142]? = some (3, 0) := by decide +kernel
  refine vk_aast 63 dX4_init_63 hl65 hl142 (by unfold vp_in; decide) (μ1 := km_260) rfl ?_
  have el : sh_lay km_260 = sh_lay km_259 := by rw [show km_260 = sh_setR km_259 65 (Int32.toNatClampNeg 9) (some 142) from rfl]; exact sh_lyR
  have hn : (sh_lay km_260).length = 148 := by rw [el]; exact hn
  refine vv_iinc (v := 10) (lv' := [(1, _), (0, _)]) 64 1 dX4_init_64 rfl (by decide) (by decide) rfl ?_
  refine vv_goto 67 45 dX4_init_67 (by decide) ?_
  refine vv_iload_n 45 1 dX4_init_45 rfl rfl ?_
  refine vv_bipush 46 dX4_init_46 bk_20 ?_
  refine vv_icmp_ge 48 70 dX4_init_48 (by decide) (fun h => absurd h (by decide)) (fun _ => ?_)
  refine vv_aload_n 51 0 dX4_init_51 rfl rfl ?_
  have hl63 : (sh_lay km_260)[63]? = some (4, 0) := by decide +kernel
  refine vv_getR 52 dX4_init_52 fl_4_17 rfl hl63 (show sh_r km_260 63 4 = some 65 by decide +kernel) ?_
  refine vv_iload_n 55 1 dX4_init_55 rfl rfl ?_
  refine vk_new (c1 := 85) (s1 := 4256) 56 dX4_init_56 nw_4_15 (n := 148) hn (μ1 := km_261) rfl rfl rfl (Nat.le_of_ble_eq_true rfl) (Nat.le_of_ble_eq_true rfl) ?_
  have el : km_261 = sh_add km_260 (3, 0) := rfl
  have hl63 : (sh_lay km_261)[63]? = some (4, 0) := by rw [el]; exact sh_lay_add hl63
  have hl148 : (sh_lay km_261)[148]? = some (3, 0) := by rw [el]; exact sh_lay_new hn
  have hn : (sh_lay km_261).length = 149 := by rw [el]; exact sh_len_add hn
  refine vv_dup_ref 59 dX4_init_59 ?_
  refine vk_callIN (c1 := 90) (s1 := 4333) [] 60 dX4_init_60 ck_X4_29 kc_28 (Nat.le_of_ble_eq_true rfl) ⟨Nat.le_of_ble_eq_true rfl, Nat.le_of_ble_eq_true rfl⟩ rfl (Nat.le_of_ble_eq_true rfl) rfl rfl (Nat.le_of_ble_eq_true rfl) (Nat.le_of_ble_eq_true rfl) ?_
  have hn : (sh_lay km_271).length = 154 := by decide +kernel
  have hl65 : (sh_lay km_271)[65]? = some (16, 20) := by decide +kernel
  have hl148 : (sh_lay km_271)[148]? = some (3, 0) := by decide +kernel
  refine vk_aast 63 dX4_init_63 hl65 hl148 (by unfold vp_in; decide) (μ1 := km_272) rfl ?_
  have el : sh_lay km_272 = sh_lay km_271 := by rw [show km_272 = sh_setR km_271 65 (Int32.toNatClampNeg 10) (some 148) from rfl]; exact sh_lyR
  have hn : (sh_lay km_272).length = 154 := by rw [el]; exact hn
  refine vv_iinc (v := 11) (lv' := [(1, _), (0, _)]) 64 1 dX4_init_64 rfl (by decide) (by decide) rfl ?_
  refine vv_goto 67 45 dX4_init_67 (by decide) ?_
  refine vv_iload_n 45 1 dX4_init_45 rfl rfl ?_
  refine vv_bipush 46 dX4_init_46 bk_20 ?_
  refine vv_icmp_ge 48 70 dX4_init_48 (by decide) (fun h => absurd h (by decide)) (fun _ => ?_)
  refine vv_aload_n 51 0 dX4_init_51 rfl rfl ?_
  have hl63 : (sh_lay km_272)[63]? = some (4, 0) := by decide +kernel
  refine vv_getR 52 dX4_init_52 fl_4_17 rfl hl63 (show sh_r km_272 63 4 = some 65 by decide +kernel) ?_
  refine vv_iload_n 55 1 dX4_init_55 rfl rfl ?_
  refine vk_new (c1 := 91) (s1 := 4339) 56 dX4_init_56 nw_4_15 (n := 154) hn (μ1 := km_273) rfl rfl rfl (Nat.le_of_ble_eq_true rfl) (Nat.le_of_ble_eq_true rfl) ?_
  have el : km_273 = sh_add km_272 (3, 0) := rfl
  have hl63 : (sh_lay km_273)[63]? = some (4, 0) := by rw [el]; exact sh_lay_add hl63
  have hl154 : (sh_lay km_273)[154]? = some (3, 0) := by rw [el]; exact sh_lay_new hn
  have hn : (sh_lay km_273).length = 155 := by rw [el]; exact sh_len_add hn
  refine vv_dup_ref 59 dX4_init_59 ?_
  refine vk_callIN (c1 := 96) (s1 := 4416) [] 60 dX4_init_60 ck_X4_29 kc_29 (Nat.le_of_ble_eq_true rfl) ⟨Nat.le_of_ble_eq_true rfl, Nat.le_of_ble_eq_true rfl⟩ rfl (Nat.le_of_ble_eq_true rfl) rfl rfl (Nat.le_of_ble_eq_true rfl) (Nat.le_of_ble_eq_true rfl) ?_
  have hn : (sh_lay km_283).length = 160 := by decide +kernel
  have hl65 : (sh_lay km_283)[65]? = some (16, 20) := by decide +kernel
  have hl154 : (sh_lay km_283)[154]? = some (3, 0) := by decide +kernel
  refine vk_aast 63 dX4_init_63 hl65 hl154 (by unfold vp_in; decide) (μ1 := km_284) rfl ?_
  have el : sh_lay km_284 = sh_lay km_283 := by rw [show km_284 = sh_setR km_283 65 (Int32.toNatClampNeg 11) (some 154) from rfl]; exact sh_lyR
  have hn : (sh_lay km_284).length = 160 := by rw [el]; exact hn
  refine vv_iinc (v := 12) (lv' := [(1, _), (0, _)]) 64 1 dX4_init_64 rfl (by decide) (by decide) rfl ?_
  refine vv_goto 67 45 dX4_init_67 (by decide) ?_
  refine vv_iload_n 45 1 dX4_init_45 rfl rfl ?_
  refine vv_bipush 46 dX4_init_46 bk_20 ?_
  refine vv_icmp_ge 48 70 dX4_init_48 (by decide) (fun h => absurd h (by decide)) (fun _ => ?_)
  refine vv_aload_n 51 0 dX4_init_51 rfl rfl ?_
  have hl63 : (sh_lay km_284)[63]? = some (4, 0) := by decide +kernel
  refine vv_getR 52 dX4_init_52 fl_4_17 rfl hl63 (show sh_r km_284 63 4 = some 65 by decide +kernel) ?_
  refine vv_iload_n 55 1 dX4_init_55 rfl rfl ?_
  refine vk_new (c1 := 97) (s1 := 4422) 56 dX4_init_56 nw_4_15 (n := 160) hn (μ1 := km_285) rfl rfl rfl (Nat.le_of_ble_eq_true rfl) (Nat.le_of_ble_eq_true rfl) ?_
  have el : km_285 = sh_add km_284 (3, 0) := rfl
  have hl63 : (sh_lay km_285)[63]? = some (4, 0) := by rw [el]; exact sh_lay_add hl63
  have hl160 : (sh_lay km_285)[160]? = some (3, 0) := by rw [el]; exact sh_lay_new hn
  have hn : (sh_lay km_285).length = 161 := by rw [el]; exact sh_len_add hn
  refine vv_dup_ref 59 dX4_init_59 ?_
  refine vk_callIN (c1 := 102) (s1 := 4499) [] 60 dX4_init_60 ck_X4_29 kc_30 (Nat.le_of_ble_eq_true rfl) ⟨Nat.le_of_ble_eq_true rfl, Nat.le_of_ble_eq_true rfl⟩ rfl (Nat.le_of_ble_eq_true rfl) rfl rfl (Nat.le_of_ble_eq_true rfl) (Nat.le_of_ble_eq_true rfl) ?_
  have hn : (sh_lay km_295).length = 166 := by decide +kernel
  have hl65 : (sh_lay km_295)[65]? = some (16, 20) := by decide +kernel
  have hl160 : (sh_lay km_295)[160]? = some (3, 0) := by decide +kernel
  refine vk_aast 63 dX4_init_63 hl65 hl160 (by unfold vp_in; decide) (μ1 := km_296) rfl ?_
  have el : sh_lay km_296 = sh_lay km_295 := by rw [show km_296 = sh_setR km_295 65 (Int32.toNatClampNeg 12) (some 160) from rfl]; exact sh_lyR
  have hn : (sh_lay km_296).length = 166 := by rw [el]; exact hn
  refine vv_iinc (v := 13) (lv' := [(1, _), (0, _)]) 64 1 dX4_init_64 rfl (by decide) (by decide) rfl ?_
  refine vv_goto 67 45 dX4_init_67 (by decide) ?_
  refine vv_iload_n 45 1 dX4_init_45 rfl rfl ?_
  refine vv_bipush 46 dX4_init_46 bk_20 ?_
  refine vv_icmp_ge 48 70 dX4_init_48 (by decide) (fun h => absurd h (by decide)) (fun _ => ?_)
  refine vv_aload_n 51 0 dX4_init_51 rfl rfl ?_
  have hl63 : (sh_lay km_296)[63]? = some (4, 0) := by decide +kernel
  refine vv_getR 52 dX4_init_52 fl_4_17 rfl hl63 (show sh_r km_296 63 4 = some 65 by decide +kernel) ?_
  refine vv_iload_n 55 1 dX4_init_55 rfl rfl ?_
  refine vk_new (c1 := 103) (s1 := 4505) 56 dX4_init_56 nw_4_15 (n := 166) hn (μ1 := km_297) rfl rfl rfl (Nat.le_of_ble_eq_true rfl) (Nat.le_of_ble_eq_true rfl) ?_
  have el : km_297 = sh_add km_296 (3, 0) := rfl
  have hl63 : (sh_lay km_297)[63]? = some (4, 0) := by rw [el]; exact sh_lay_add hl63
  have hl166 : (sh_lay km_297)[166]? = some (3, 0) := by rw [el]; exact sh_lay_new hn
  have hn : (sh_lay km_297).length = 167 := by rw [el]; exact sh_len_add hn
  refine vv_dup_ref 59 dX4_init_59 ?_
  refine vk_callIN (c1 := 108) (s1 := 4582) [] 60 dX4_init_60 ck_X4_29 kc_31 (Nat.le_of_ble_eq_true rfl) ⟨Nat.le_of_ble_eq_true rfl, Nat.le_of_ble_eq_true rfl⟩ rfl (Nat.le_of_ble_eq_true rfl) rfl rfl (Nat.le_of_ble_eq_true rfl) (Nat.le_of_ble_eq_true rfl) ?_
  have hn : (sh_lay km_307).length = 172 := by decide +kernel
  have hl65 : (sh_lay km_307)[65]? = some (16, 20) := by decide +kernel
  have hl166 : (sh_lay km_307)[166]? = some (3, 0) := by decide +kernel
  refine vk_aast 63 dX4_init_63 hl65 hl166 (by unfold vp_in; decide) (μ1 := km_308) rfl ?_
  have el : sh_lay km_308 = sh_lay km_307 := by rw [show km_308 = sh_setR km_307 65 (Int32.toNatClampNeg 13) (some 166) from rfl]; exact sh_lyR
  have hn : (sh_lay km_308).length = 172 := by rw [el]; exact hn
  refine vv_iinc (v := 14) (lv' := [(1, _), (0, _)]) 64 1 dX4_init_64 rfl (by decide) (by decide) rfl ?_
  refine vv_goto 67 45 dX4_init_67 (by decide) ?_
  refine vv_iload_n 45 1 dX4_init_45 rfl rfl ?_
  refine vv_bipush 46 dX4_init_46 bk_20 ?_
  refine vv_icmp_ge 48 70 dX4_init_48 (by decide) (fun h => absurd h (by decide)) (fun _ => ?_)
  refine vv_aload_n 51 0 dX4_init_51 rfl rfl ?_
  have hl63 : (sh_lay km_308)[63]? = some (4, 0) := by decide +kernel
  refine vv_getR 52 dX4_init_52 fl_4_17 rfl hl63 (show sh_r km_308 63 4 = some 65 by decide +kernel) ?_
  refine vv_iload_n 55 1 dX4_init_55 rfl rfl ?_
  refine vk_new (c1 := 109) (s1 := 4588) 56 dX4_init_56 nw_4_15 (n := 172) hn (μ1 := km_309) rfl rfl rfl (Nat.le_of_ble_eq_true rfl) (Nat.le_of_ble_eq_true rfl) ?_
  have el : km_309 = sh_add km_308 (3, 0) := rfl
  have hl63 : (sh_lay km_309)[63]? = some (4, 0) := by rw [el]; exact sh_lay_add hl63
  have hl172 : (sh_lay km_309)[172]? = some (3, 0) := by rw [el]; exact sh_lay_new hn
  have hn : (sh_lay km_309).length = 173 := by rw [el]; exact sh_len_add hn
  refine vv_dup_ref 59 dX4_init_59 ?_
  refine vk_callIN (c1 := 114) (s1 := 4665) [] 60 dX4_init_60 ck_X4_29 kc_32 (Nat.le_of_ble_eq_true rfl) ⟨Nat.le_of_ble_eq_true rfl, Nat.le_of_ble_eq_true rfl⟩ rfl (Nat.le_of_ble_eq_true rfl) rfl rfl (Nat.le_of_ble_eq_true rfl) (Nat.le_of_ble_eq_true rfl) ?_
  have hn : (sh_lay km_319).length = 178 := by decide +kernel
  have hl65 : (sh_lay km_319)[65]? = some (16, 20) := by decide +kernel
  have hl172 : (sh_lay km_319)[172]? = some (3, 0) := by decide +kernel
  refine vk_aast 63 dX4_init_63 hl65 hl172 (by unfold vp_in; decide) (μ1 := km_320) rfl ?_
  have el : sh_lay km_320 = sh_lay km_319 := by rw [show km_320 = sh_setR km_319 65 (Int32.toNatClampNeg 14) (some 172) from rfl]; exact sh_lyR
  have hn : (sh_lay km_320).length = 178 := by rw [el]; exact hn
  refine vv_iinc (v := 15) (lv' := [(1, _), (0, _)]) 64 1 dX4_init_64 rfl (by decide) (by decide) rfl ?_
  refine vv_goto 67 45 dX4_init_67 (by decide) ?_
  refine vv_iload_n 45 1 dX4_init_45 rfl rfl ?_
  refine vv_bipush 46 dX4_init_46 bk_20 ?_
  refine vv_icmp_ge 48 70 dX4_init_48 (by decide) (fun h => absurd h (by decide)) (fun _ => ?_)
  refine vv_aload_n 51 0 dX4_init_51 rfl rfl ?_
  have hl63 : (sh_lay km_320)[63]? = some (4, 0) := by decide +kernel
  refine vv_getR 52 dX4_init_52 fl_4_17 rfl hl63 (show sh_r km_320 63 4 = some 65 by decide +kernel) ?_
  refine vv_iload_n 55 1 dX4_init_55 rfl rfl ?_
  refine vk_new (c1 := 115) (s1 := 4671) 56 dX4_init_56 nw_4_15 (n := 178) hn (μ1 := km_321) rfl rfl rfl (Nat.le_of_ble_eq_true rfl) (Nat.le_of_ble_eq_true rfl) ?_
  have el : km_321 = sh_add km_320 (3, 0) := rfl
  have hl63 : (sh_lay km_321)[63]? = some (4, 0) := by rw [el]; exact sh_lay_add hl63
  have hl178 : (sh_lay km_321)[178]? = some (3, 0) := by rw [el]; exact sh_lay_new hn
  have hn : (sh_lay km_321).length = 179 := by rw [el]; exact sh_len_add hn
  refine vv_dup_ref 59 dX4_init_59 ?_
  refine vk_callIN (c1 := 120) (s1 := 4748) [] 60 dX4_init_60 ck_X4_29 kc_33 (Nat.le_of_ble_eq_true rfl) ⟨Nat.le_of_ble_eq_true rfl, Nat.le_of_ble_eq_true rfl⟩ rfl (Nat.le_of_ble_eq_true rfl) rfl rfl (Nat.le_of_ble_eq_true rfl) (Nat.le_of_ble_eq_true rfl) ?_
  have hn : (sh_lay km_331).length = 184 := by decide +kernel
  have hl65 : (sh_lay km_331)[65]? = some (16, 20) := by decide +kernel
  have hl178 : (sh_lay km_331)[178]? = some (3, 0) := by decide +kernel
  refine vk_aast 63 dX4_init_63 hl65 hl178 (by unfold vp_in; decide) (μ1 := km_332) rfl ?_
  have el : sh_lay km_332 = sh_lay km_331 := by rw [show km_332 = sh_setR km_331 65 (Int32.toNatClampNeg 15) (some 178) from rfl]; exact sh_lyR
  have hn : (sh_lay km_332).length = 184 := by rw [el]; exact hn
  refine vv_iinc (v := 16) (lv' := [(1, _), (0, _)]) 64 1 dX4_init_64 rfl (by decide) (by decide) rfl ?_
  refine vv_goto 67 45 dX4_init_67 (by decide) ?_
  refine vv_iload_n 45 1 dX4_init_45 rfl rfl ?_
  refine vv_bipush 46 dX4_init_46 bk_20 ?_
  refine vv_icmp_ge 48 70 dX4_init_48 (by decide) (fun h => absurd h (by decide)) (fun _ => ?_)
  refine vv_aload_n 51 0 dX4_init_51 rfl rfl ?_
  have hl63 : (sh_lay km_332)[63]? = some (4, 0) := by decide +kernel
  refine vv_getR 52 dX4_init_52 fl_4_17 rfl hl63 (show sh_r km_332 63 4 = some 65 by decide +kernel) ?_
  refine vv_iload_n 55 1 dX4_init_55 rfl rfl ?_
  refine vk_new (c1 := 121) (s1 := 4754) 56 dX4_init_56 nw_4_15 (n := 184) hn (μ1 := km_333) rfl rfl rfl (Nat.le_of_ble_eq_true rfl) (Nat.le_of_ble_eq_true rfl) ?_
  have el : km_333 = sh_add km_332 (3, 0) := rfl
  have hl63 : (sh_lay km_333)[63]? = some (4, 0) := by rw [el]; exact sh_lay_add hl63
  have hl184 : (sh_lay km_333)[184]? = some (3, 0) := by rw [el]; exact sh_lay_new hn
  have hn : (sh_lay km_333).length = 185 := by rw [el]; exact sh_len_add hn
  refine vv_dup_ref 59 dX4_init_59 ?_
  refine vk_callIN (c1 := 126) (s1 := 4831) [] 60 dX4_init_60 ck_X4_29 kc_34 (Nat.le_of_ble_eq_true rfl) ⟨Nat.le_of_ble_eq_true rfl, Nat.le_of_ble_eq_true rfl⟩ rfl (Nat.le_of_ble_eq_true rfl) rfl rfl (Nat.le_of_ble_eq_true rfl) (Nat.le_of_ble_eq_true rfl) ?_
  have hn : (sh_lay km_343).length = 190 := by decide +kernel
  have hl65 : (sh_lay km_343)[65]? = some (16, 20) := by decide +kernel
  have hl184 : (sh_lay km_343)[184]? = some (3, 0) := by decide +kernel
  refine vk_aast 63 dX4_init_63 hl65 hl184 (by unfold vp_in; decide) (μ1 := km_344) rfl ?_
  have el : sh_lay km_344 = sh_lay km_343 := by rw [show km_344 = sh_setR km_343 65 (Int32.toNatClampNeg 16) (some 184) from rfl]; exact sh_lyR
  have hn : (sh_lay km_344).length = 190 := by rw [el]; exact hn
  refine vv_iinc (v := 17) (lv' := [(1, _), (0, _)]) 64 1 dX4_init_64 rfl (by decide) (by decide) rfl ?_
  refine vv_goto 67 45 dX4_init_67 (by decide) ?_
  refine vv_iload_n 45 1 dX4_init_45 rfl rfl ?_
  refine vv_bipush 46 dX4_init_46 bk_20 ?_
  refine vv_icmp_ge 48 70 dX4_init_48 (by decide) (fun h => absurd h (by decide)) (fun _ => ?_)
  refine vv_aload_n 51 0 dX4_init_51 rfl rfl ?_
  have hl63 : (sh_lay km_344)[63]? = some (4, 0) := by decide +kernel
  refine vv_getR 52 dX4_init_52 fl_4_17 rfl hl63 (show sh_r km_344 63 4 = some 65 by decide +kernel) ?_
  refine vv_iload_n 55 1 dX4_init_55 rfl rfl ?_
  refine vk_new (c1 := 127) (s1 := 4837) 56 dX4_init_56 nw_4_15 (n := 190) hn (μ1 := km_345) rfl rfl rfl (Nat.le_of_ble_eq_true rfl) (Nat.le_of_ble_eq_true rfl) ?_
  have el : km_345 = sh_add km_344 (3, 0) := rfl
  have hl63 : (sh_lay km_345)[63]? = some (4, 0) := by rw [el]; exact sh_lay_add hl63
  have hl190 : (sh_lay km_345)[190]? = some (3, 0) := by rw [el]; exact sh_lay_new hn
  have hn : (sh_lay km_345).length = 191 := by rw [el]; exact sh_len_add hn
  refine vv_dup_ref 59 dX4_init_59 ?_
  refine vk_callIN (c1 := 132) (s1 := 4914) [] 60 dX4_init_60 ck_X4_29 kc_35 (Nat.le_of_ble_eq_true rfl) ⟨Nat.le_of_ble_eq_true rfl, Nat.le_of_ble_eq_true rfl⟩ rfl (Nat.le_of_ble_eq_true rfl) rfl rfl (Nat.le_of_ble_eq_true rfl) (Nat.le_of_ble_eq_true rfl) ?_
  have hn : (sh_lay km_355).length = 196 := by decide +kernel
  have hl65 : (sh_lay km_355)[65]? = some (16, 20) := by decide +kernel
  have hl190 : (sh_lay km_355)[190]? = some (3, 0) := by decide +kernel
  refine vk_aast 63 dX4_init_63 hl65 hl190 (by unfold vp_in; decide) (μ1 := km_356) rfl ?_
  have el : sh_lay km_356 = sh_lay km_355 := by rw [show km_356 = sh_setR km_355 65 (Int32.toNatClampNeg 17) (some 190) from rfl]; exact sh_lyR
  have hn : (sh_lay km_356).length = 196 := by rw [el]; exact hn
  refine vv_iinc (v := 18) (lv' := [(1, _), (0, _)]) 64 1 dX4_init_64 rfl (by decide) (by decide) rfl ?_
  refine vv_goto 67 45 dX4_init_67 (by decide) ?_
  refine vv_iload_n 45 1 dX4_init_45 rfl rfl ?_
  refine vv_bipush 46 dX4_init_46 bk_20 ?_
  refine vv_icmp_ge 48 70 dX4_init_48 (by decide) (fun h => absurd h (by decide)) (fun _ => ?_)
  refine vv_aload_n 51 0 dX4_init_51 rfl rfl ?_
  have hl63 : (sh_lay km_356)[63]? = some (4, 0) := by decide +kernel
  refine vv_getR 52 dX4_init_52 fl_4_17 rfl hl63 (show sh_r km_356 63 4 = some 65 by decide +kernel) ?_
  refine vv_iload_n 55 1 dX4_init_55 rfl rfl ?_
  refine vk_new (c1 := 133) (s1 := 4920) 56 dX4_init_56 nw_4_15 (n := 196) hn (μ1 := km_357) rfl rfl rfl (Nat.le_of_ble_eq_true rfl) (Nat.le_of_ble_eq_true rfl) ?_
  have el : km_357 = sh_add km_356 (3, 0) := rfl
  have hl63 : (sh_lay km_357)[63]? = some (4, 0) := by rw [el]; exact sh_lay_add hl63
  have hl196 : (sh_lay km_357)[196]? = some (3, 0) := by rw [el]; exact sh_lay_new hn
  have hn : (sh_lay km_357).length = 197 := by rw [el]; exact sh_len_add hn
  refine vv_dup_ref 59 dX4_init_59 ?_
  refine vk_callIN (c1 := 138) (s1 := 4997) [] 60 dX4_init_60 ck_X4_29 kc_36 (Nat.le_of_ble_eq_true rfl) ⟨Nat.le_of_ble_eq_true rfl, Nat.le_of_ble_eq_true rfl⟩ rfl (Nat.le_of_ble_eq_true rfl) rfl rfl (Nat.le_of_ble_eq_true rfl) (Nat.le_of_ble_eq_true rfl) ?_
  have hn : (sh_lay km_367).length = 202 := by decide +kernel
  have hl65 : (sh_lay km_367)[65]? = some (16, 20) := by decide +kernel
  have hl196 : (sh_lay km_367)[196]? = some (3, 0) := by decide +kernel
  refine vk_aast 63 dX4_init_63 hl65 hl196 (by unfold vp_in; decide) (μ1 := km_368) rfl ?_
  have el : sh_lay km_368 = sh_lay km_367 := by rw [show km_368 = sh_setR km_367 65 (Int32.toNatClampNeg 18) (some 196) from rfl]; exact sh_lyR
  have hn : (sh_lay km_368).length = 202 := by rw [el]; exact hn
  refine vv_iinc (v := 19) (lv' := [(1, _), (0, _)]) 64 1 dX4_init_64 rfl (by decide) (by decide) rfl ?_
  refine vv_goto 67 45 dX4_init_67 (by decide) ?_
  refine vv_iload_n 45 1 dX4_init_45 rfl rfl ?_
  refine vv_bipush 46 dX4_init_46 bk_20 ?_
  refine vv_icmp_ge 48 70 dX4_init_48 (by decide) (fun h => absurd h (by decide)) (fun _ => ?_)
  refine vv_aload_n 51 0 dX4_init_51 rfl rfl ?_
  have hl63 : (sh_lay km_368)[63]? = some (4, 0) := by decide +kernel
  refine vv_getR 52 dX4_init_52 fl_4_17 rfl hl63 (show sh_r km_368 63 4 = some 65 by decide +kernel) ?_
  refine vv_iload_n 55 1 dX4_init_55 rfl rfl ?_
  refine vk_new (c1 := 139) (s1 := 5003) 56 dX4_init_56 nw_4_15 (n := 202) hn (μ1 := km_369) rfl rfl rfl (Nat.le_of_ble_eq_true rfl) (Nat.le_of_ble_eq_true rfl) ?_
  have el : km_369 = sh_add km_368 (3, 0) := rfl
  have hl63 : (sh_lay km_369)[63]? = some (4, 0) := by rw [el]; exact sh_lay_add hl63
  have hl202 : (sh_lay km_369)[202]? = some (3, 0) := by rw [el]; exact sh_lay_new hn
  have hn : (sh_lay km_369).length = 203 := by rw [el]; exact sh_len_add hn
  refine vv_dup_ref 59 dX4_init_59 ?_
  refine vk_callIN (c1 := 144) (s1 := 5080) [] 60 dX4_init_60 ck_X4_29 kc_37 (Nat.le_of_ble_eq_true rfl) ⟨Nat.le_of_ble_eq_true rfl, Nat.le_of_ble_eq_true rfl⟩ rfl (Nat.le_of_ble_eq_true rfl) rfl rfl (Nat.le_of_ble_eq_true rfl) (Nat.le_of_ble_eq_true rfl) ?_
  have hn : (sh_lay km_379).length = 208 := by decide +kernel
  have hl65 : (sh_lay km_379)[65]? = some (16, 20) := by decide +kernel
  have hl202 : (sh_lay km_379)[202]? = some (3, 0) := by decide +kernel
  refine vk_aast 63 dX4_init_63 hl65 hl202 (by unfold vp_in; decide) (μ1 := km_380) rfl ?_
  have el : sh_lay km_380 = sh_lay km_379 := by rw [show km_380 = sh_setR km_379 65 (Int32.toNatClampNeg 19) (some 202) from rfl]; exact sh_lyR
  have hn : (sh_lay km_380).length = 208 := by rw [el]; exact hn
  refine vv_iinc (v := 20) (lv' := [(1, _), (0, _)]) 64 1 dX4_init_64 rfl (by decide) (by decide) rfl ?_
  refine vv_goto 67 45 dX4_init_67 (by decide) ?_
  refine vv_iload_n 45 1 dX4_init_45 rfl rfl ?_
  refine vv_bipush 46 dX4_init_46 bk_20 ?_
  refine vv_icmp_ge 48 70 dX4_init_48 (by decide) (fun _ => ?_) (fun h => absurd (by decide) h)
  refine vv_vret 70 dX4_init_70 rfl (Nat.le_of_ble_eq_true rfl) (Nat.le_of_ble_eq_true rfl) ⟨rfl, rfl⟩
set_option maxHeartbeats 40000000 in
theorem kc_39 : sh_Con l B D ca 1 5 77 M_X3_init [.ref 209] km_383 (fun v μ' => v = none ∧ μ' = km_393) := by
  have hn : (sh_lay km_383).length = 210 := by decide +kernel
  refine vv_aload_n 0 0 dX3_init_0 rfl rfl ?_
  refine vv_objInit 1 dX3_init_1 ck_X3_3 (Nat.le_of_ble_eq_true rfl) (Nat.le_of_ble_eq_true rfl) ?_
  refine vv_aload_n 4 0 dX3_init_4 rfl rfl ?_
  refine vv_bipush 5 dX3_init_5 bk_49 ?_
  refine vk_newa (N := 49) (c1 := 1) (s1 := 49) 13 .int (Or.inl ⟨rfl, rfl⟩) 7 dX3_init_7 ac_13 (by decide) (by decide) (Nat.le_of_ble_eq_true rfl) (n := 210) hn (μ1 := km_384) rfl rfl rfl (Nat.le_of_ble_eq_true rfl) (Nat.le_of_ble_eq_true rfl) ?_
  have el : km_384 = sh_add km_383 (13, 49) := rfl
  have hl210 : (sh_lay km_384)[210]? = some (13, 49) := by rw [el]; exact sh_lay_new hn
  have hn : (sh_lay km_384).length = 211 := by rw [el]; exact sh_len_add hn
  have hl209 : (sh_lay km_384)[209]? = some (3, 0) := by decide +kernel
  refine vn_putR 9 dX3_init_9 fl_3_9 (Or.inr ⟨rfl, rfl, rfl⟩) rfl hl209 (fun y ey => ?_)
  obtain rfl : y = km_385 := ey
  have el : sh_lay km_385 = sh_lay km_384 := by rw [show km_385 = sh_setR km_384 209 1 (some 210) from rfl]; exact sh_lyR
  have hl209 : (sh_lay km_385)[209]? = some (3, 0) := by rw [el]; exact hl209
  have hn : (sh_lay km_385).length = 211 := by rw [el]; exact hn
  refine vv_aload_n 12 0 dX3_init_12 rfl rfl ?_
  refine vv_bipush 13 dX3_init_13 bk_7 ?_
  refine vk_newa (N := 7) (c1 := 2) (s1 := 56) 13 .int (Or.inl ⟨rfl, rfl⟩) 15 dX3_init_15 ac_13 (by decide) (by decide) (Nat.le_of_ble_eq_true rfl) (n := 211) hn (μ1 := km_386) rfl rfl rfl (Nat.le_of_ble_eq_true rfl) (Nat.le_of_ble_eq_true rfl) ?_
  have el : km_386 = sh_add km_385 (13, 7) := rfl
  have hl209 : (sh_lay km_386)[209]? = some (3, 0) := by rw [el]; exact sh_lay_add hl209
  have hl211 : (sh_lay km_386)[211]? = some (13, 7) := by rw [el]; exact sh_lay_new hn
  have hn : (sh_lay km_386).length = 212 := by rw [el]; exact sh_len_add hn
  refine vn_putR 17 dX3_init_17 fl_3_15 (Or.inr ⟨rfl, rfl, rfl⟩) rfl hl209 (fun y ey => ?_)
  obtain rfl : y = km_387 := ey
  have el : sh_lay km_387 = sh_lay km_386 := by rw [show km_387 = sh_setR km_386 209 2 (some 211) from rfl]; exact sh_lyR
  have hl209 : (sh_lay km_387)[209]? = some (3, 0) := by rw [el]; exact hl209
  have hn : (sh_lay km_387).length = 212 := by rw [el]; exact hn
  refine vv_aload_n 20 0 dX3_init_20 rfl rfl ?_
  refine vv_bipush 21 dX3_init_21 bk_7 ?_
  refine vk_newa (N := 7) (c1 := 3) (s1 := 63) 13 .int (Or.inl ⟨rfl, rfl⟩) 23 dX3_init_23 ac_13 (by decide) (by decide) (Nat.le_of_ble_eq_true rfl) (n := 212) hn (μ1 := km_388) rfl rfl rfl (Nat.le_of_ble_eq_true rfl) (Nat.le_of_ble_eq_true rfl) ?_
  have el : km_388 = sh_add km_387 (13, 7) := rfl
  have hl209 : (sh_lay km_388)[209]? = some (3, 0) := by rw [el]; exact sh_lay_add hl209
  have hl212 : (sh_lay km_388)[212]? = some (13, 7) := by rw [el]; exact sh_lay_new hn
  have hn : (sh_lay km_388).length = 213 := by rw [el]; exact sh_len_add hn
  refine vn_putR 25 dX3_init_25 fl_3_18 (Or.inr ⟨rfl, rfl, rfl⟩) rfl hl209 (fun y ey => ?_)
  obtain rfl : y = km_389 := ey
  have el : sh_lay km_389 = sh_lay km_388 := by rw [show km_389 = sh_setR km_388 209 3 (some 212) from rfl]; exact sh_lyR
  have hl209 : (sh_lay km_389)[209]? = some (3, 0) := by rw [el]; exact hl209
  have hn : (sh_lay km_389).length = 213 := by rw [el]; exact hn
  refine vv_aload_n 28 0 dX3_init_28 rfl rfl ?_
  refine vv_bipush 29 dX3_init_29 bk_7 ?_
  refine vk_newa (N := 7) (c1 := 4) (s1 := 70) 13 .int (Or.inl ⟨rfl, rfl⟩) 31 dX3_init_31 ac_13 (by decide) (by decide) (Nat.le_of_ble_eq_true rfl) (n := 213) hn (μ1 := km_390) rfl rfl rfl (Nat.le_of_ble_eq_true rfl) (Nat.le_of_ble_eq_true rfl) ?_
  have el : km_390 = sh_add km_389 (13, 7) := rfl
  have hl209 : (sh_lay km_390)[209]? = some (3, 0) := by rw [el]; exact sh_lay_add hl209
  have hl213 : (sh_lay km_390)[213]? = some (13, 7) := by rw [el]; exact sh_lay_new hn
  have hn : (sh_lay km_390).length = 214 := by rw [el]; exact sh_len_add hn
  refine vn_putR 33 dX3_init_33 fl_3_21 (Or.inr ⟨rfl, rfl, rfl⟩) rfl hl209 (fun y ey => ?_)
  obtain rfl : y = km_391 := ey
  have el : sh_lay km_391 = sh_lay km_390 := by rw [show km_391 = sh_setR km_390 209 4 (some 213) from rfl]; exact sh_lyR
  have hl209 : (sh_lay km_391)[209]? = some (3, 0) := by rw [el]; exact hl209
  have hn : (sh_lay km_391).length = 214 := by rw [el]; exact hn
  refine vv_aload_n 36 0 dX3_init_36 rfl rfl ?_
  refine vv_bipush 37 dX3_init_37 bk_7 ?_
  refine vk_newa (N := 7) (c1 := 5) (s1 := 77) 13 .int (Or.inl ⟨rfl, rfl⟩) 39 dX3_init_39 ac_13 (by decide) (by decide) (Nat.le_of_ble_eq_true rfl) (n := 214) hn (μ1 := km_392) rfl rfl rfl (Nat.le_of_ble_eq_true rfl) (Nat.le_of_ble_eq_true rfl) ?_
  have el : km_392 = sh_add km_391 (13, 7) := rfl
  have hl209 : (sh_lay km_392)[209]? = some (3, 0) := by rw [el]; exact sh_lay_add hl209
  have hl214 : (sh_lay km_392)[214]? = some (13, 7) := by rw [el]; exact sh_lay_new hn
  have hn : (sh_lay km_392).length = 215 := by rw [el]; exact sh_len_add hn
  refine vn_putR 41 dX3_init_41 fl_3_24 (Or.inr ⟨rfl, rfl, rfl⟩) rfl hl209 (fun y ey => ?_)
  obtain rfl : y = km_393 := ey
  have el : sh_lay km_393 = sh_lay km_392 := by rw [show km_393 = sh_setR km_392 209 5 (some 214) from rfl]; exact sh_lyR
  have hl209 : (sh_lay km_393)[209]? = some (3, 0) := by rw [el]; exact hl209
  have hn : (sh_lay km_393).length = 215 := by rw [el]; exact hn
  refine vv_vret 44 dX3_init_44 rfl (Nat.le_of_ble_eq_true rfl) (Nat.le_of_ble_eq_true rfl) ⟨rfl, rfl⟩
set_option maxHeartbeats 40000000 in
theorem kc_40 : sh_Con l B D ca 1 5 77 M_X3_init [.ref 218] km_402 (fun v μ' => v = none ∧ μ' = km_412) := by
  have hn : (sh_lay km_402).length = 219 := by decide +kernel
  refine vv_aload_n 0 0 dX3_init_0 rfl rfl ?_
  refine vv_objInit 1 dX3_init_1 ck_X3_3 (Nat.le_of_ble_eq_true rfl) (Nat.le_of_ble_eq_true rfl) ?_
  refine vv_aload_n 4 0 dX3_init_4 rfl rfl ?_
  refine vv_bipush 5 dX3_init_5 bk_49 ?_
  refine vk_newa (N := 49) (c1 := 1) (s1 := 49) 13 .int (Or.inl ⟨rfl, rfl⟩) 7 dX3_init_7 ac_13 (by decide) (by decide) (Nat.le_of_ble_eq_true rfl) (n := 219) hn (μ1 := km_403) rfl rfl rfl (Nat.le_of_ble_eq_true rfl) (Nat.le_of_ble_eq_true rfl) ?_
  have el : km_403 = sh_add km_402 (13, 49) := rfl
  have hl219 : (sh_lay km_403)[219]? = some (13, 49) := by rw [el]; exact sh_lay_new hn
  have hn : (sh_lay km_403).length = 220 := by rw [el]; exact sh_len_add hn
  have hl218 : (sh_lay km_403)[218]? = some (3, 0) := by decide +kernel
  refine vn_putR 9 dX3_init_9 fl_3_9 (Or.inr ⟨rfl, rfl, rfl⟩) rfl hl218 (fun y ey => ?_)
  obtain rfl : y = km_404 := ey
  have el : sh_lay km_404 = sh_lay km_403 := by rw [show km_404 = sh_setR km_403 218 1 (some 219) from rfl]; exact sh_lyR
  have hl218 : (sh_lay km_404)[218]? = some (3, 0) := by rw [el]; exact hl218
  have hn : (sh_lay km_404).length = 220 := by rw [el]; exact hn
  refine vv_aload_n 12 0 dX3_init_12 rfl rfl ?_
  refine vv_bipush 13 dX3_init_13 bk_7 ?_
  refine vk_newa (N := 7) (c1 := 2) (s1 := 56) 13 .int (Or.inl ⟨rfl, rfl⟩) 15 dX3_init_15 ac_13 (by decide) (by decide) (Nat.le_of_ble_eq_true rfl) (n := 220) hn (μ1 := km_405) rfl rfl rfl (Nat.le_of_ble_eq_true rfl) (Nat.le_of_ble_eq_true rfl) ?_
  have el : km_405 = sh_add km_404 (13, 7) := rfl
  have hl218 : (sh_lay km_405)[218]? = some (3, 0) := by rw [el]; exact sh_lay_add hl218
  have hl220 : (sh_lay km_405)[220]? = some (13, 7) := by rw [el]; exact sh_lay_new hn
  have hn : (sh_lay km_405).length = 221 := by rw [el]; exact sh_len_add hn
  refine vn_putR 17 dX3_init_17 fl_3_15 (Or.inr ⟨rfl, rfl, rfl⟩) rfl hl218 (fun y ey => ?_)
  obtain rfl : y = km_406 := ey
  have el : sh_lay km_406 = sh_lay km_405 := by rw [show km_406 = sh_setR km_405 218 2 (some 220) from rfl]; exact sh_lyR
  have hl218 : (sh_lay km_406)[218]? = some (3, 0) := by rw [el]; exact hl218
  have hn : (sh_lay km_406).length = 221 := by rw [el]; exact hn
  refine vv_aload_n 20 0 dX3_init_20 rfl rfl ?_
  refine vv_bipush 21 dX3_init_21 bk_7 ?_
  refine vk_newa (N := 7) (c1 := 3) (s1 := 63) 13 .int (Or.inl ⟨rfl, rfl⟩) 23 dX3_init_23 ac_13 (by decide) (by decide) (Nat.le_of_ble_eq_true rfl) (n := 221) hn (μ1 := km_407) rfl rfl rfl (Nat.le_of_ble_eq_true rfl) (Nat.le_of_ble_eq_true rfl) ?_
  have el : km_407 = sh_add km_406 (13, 7) := rfl
  have hl218 : (sh_lay km_407)[218]? = some (3, 0) := by rw [el]; exact sh_lay_add hl218
  have hl221 : (sh_lay km_407)[221]? = some (13, 7) := by rw [el]; exact sh_lay_new hn
  have hn : (sh_lay km_407).length = 222 := by rw [el]; exact sh_len_add hn
  refine vn_putR 25 dX3_init_25 fl_3_18 (Or.inr ⟨rfl, rfl, rfl⟩) rfl hl218 (fun y ey => ?_)
  obtain rfl : y = km_408 := ey
  have el : sh_lay km_408 = sh_lay km_407 := by rw [show km_408 = sh_setR km_407 218 3 (some 221) from rfl]; exact sh_lyR
  have hl218 : (sh_lay km_408)[218]? = some (3, 0) := by rw [el]; exact hl218
  have hn : (sh_lay km_408).length = 222 := by rw [el]; exact hn
  refine vv_aload_n 28 0 dX3_init_28 rfl rfl ?_
  refine vv_bipush 29 dX3_init_29 bk_7 ?_
  refine vk_newa (N := 7) (c1 := 4) (s1 := 70) 13 .int (Or.inl ⟨rfl, rfl⟩) 31 dX3_init_31 ac_13 (by decide) (by decide) (Nat.le_of_ble_eq_true rfl) (n := 222) hn (μ1 := km_409) rfl rfl rfl (Nat.le_of_ble_eq_true rfl) (Nat.le_of_ble_eq_true rfl) ?_
  have el : km_409 = sh_add km_408 (13, 7) := rfl
  have hl218 : (sh_lay km_409)[218]? = some (3, 0) := by rw [el]; exact sh_lay_add hl218
  have hl222 : (sh_lay km_409)[222]? = some (13, 7) := by rw [el]; exact sh_lay_new hn
  have hn : (sh_lay km_409).length = 223 := by rw [el]; exact sh_len_add hn
  refine vn_putR 33 dX3_init_33 fl_3_21 (Or.inr ⟨rfl, rfl, rfl⟩) rfl hl218 (fun y ey => ?_)
  obtain rfl : y = km_410 := ey
  have el : sh_lay km_410 = sh_lay km_409 := by rw [show km_410 = sh_setR km_409 218 4 (some 222) from rfl]; exact sh_lyR
  have hl218 : (sh_lay km_410)[218]? = some (3, 0) := by rw [el]; exact hl218
  have hn : (sh_lay km_410).length = 223 := by rw [el]; exact hn
  refine vv_aload_n 36 0 dX3_init_36 rfl rfl ?_
  refine vv_bipush 37 dX3_init_37 bk_7 ?_
  refine vk_newa (N := 7) (c1 := 5) (s1 := 77) 13 .int (Or.inl ⟨rfl, rfl⟩) 39 dX3_init_39 ac_13 (by decide) (by decide) (Nat.le_of_ble_eq_true rfl) (n := 223) hn (μ1 := km_411) rfl rfl rfl (Nat.le_of_ble_eq_true rfl) (Nat.le_of_ble_eq_true rfl) ?_
  have el : km_411 = sh_add km_410 (13, 7) := rfl
  have hl218 : (sh_lay km_411)[218]? = some (3, 0) := by rw [el]; exact sh_lay_add hl218
  have hl223 : (sh_lay km_411)[223]? = some (13, 7) := by rw [el]; exact sh_lay_new hn
  have hn : (sh_lay km_411).length = 224 := by rw [el]; exact sh_len_add hn
  refine vn_putR 41 dX3_init_41 fl_3_24 (Or.inr ⟨rfl, rfl, rfl⟩) rfl hl218 (fun y ey => ?_)
  obtain rfl : y = km_412 := ey
  have el : sh_lay km_412 = sh_lay km_411 := by rw [show km_412 = sh_setR km_411 218 5 (some 223) from rfl]; exact sh_lyR
  have hl218 : (sh_lay km_412)[218]? = some (3, 0) := by rw [el]; exact hl218
  have hn : (sh_lay km_412).length = 224 := by rw [el]; exact hn
  refine vv_vret 44 dX3_init_44 rfl (Nat.le_of_ble_eq_true rfl) (Nat.le_of_ble_eq_true rfl) ⟨rfl, rfl⟩
set_option maxHeartbeats 40000000 in
theorem kc_41 : sh_Con l B D ca 1 5 77 M_X3_init [.ref 224] km_414 (fun v μ' => v = none ∧ μ' = km_424) := by
  have hn : (sh_lay km_414).length = 225 := by decide +kernel
  refine vv_aload_n 0 0 dX3_init_0 rfl rfl ?_
  refine vv_objInit 1 dX3_init_1 ck_X3_3 (Nat.le_of_ble_eq_true rfl) (Nat.le_of_ble_eq_true rfl) ?_
  refine vv_aload_n 4 0 dX3_init_4 rfl rfl ?_
  refine vv_bipush 5 dX3_init_5 bk_49 ?_
  refine vk_newa (N := 49) (c1 := 1) (s1 := 49) 13 .int (Or.inl ⟨rfl, rfl⟩) 7 dX3_init_7 ac_13 (by decide) (by decide) (Nat.le_of_ble_eq_true rfl) (n := 225) hn (μ1 := km_415) rfl rfl rfl (Nat.le_of_ble_eq_true rfl) (Nat.le_of_ble_eq_true rfl) ?_
  have el : km_415 = sh_add km_414 (13, 49) := rfl
  have hl225 : (sh_lay km_415)[225]? = some (13, 49) := by rw [el]; exact sh_lay_new hn
  have hn : (sh_lay km_415).length = 226 := by rw [el]; exact sh_len_add hn
  have hl224 : (sh_lay km_415)[224]? = some (3, 0) := by decide +kernel
  refine vn_putR 9 dX3_init_9 fl_3_9 (Or.inr ⟨rfl, rfl, rfl⟩) rfl hl224 (fun y ey => ?_)
  obtain rfl : y = km_416 := ey
  have el : sh_lay km_416 = sh_lay km_415 := by rw [show km_416 = sh_setR km_415 224 1 (some 225) from rfl]; exact sh_lyR
  have hl224 : (sh_lay km_416)[224]? = some (3, 0) := by rw [el]; exact hl224
  have hn : (sh_lay km_416).length = 226 := by rw [el]; exact hn
  refine vv_aload_n 12 0 dX3_init_12 rfl rfl ?_
  refine vv_bipush 13 dX3_init_13 bk_7 ?_
  refine vk_newa (N := 7) (c1 := 2) (s1 := 56) 13 .int (Or.inl ⟨rfl, rfl⟩) 15 dX3_init_15 ac_13 (by decide) (by decide) (Nat.le_of_ble_eq_true rfl) (n := 226) hn (μ1 := km_417) rfl rfl rfl (Nat.le_of_ble_eq_true rfl) (Nat.le_of_ble_eq_true rfl) ?_
  have el : km_417 = sh_add km_416 (13, 7) := rfl
  have hl224 : (sh_lay km_417)[224]? = some (3, 0) := by rw [el]; exact sh_lay_add hl224
  have hl226 : (sh_lay km_417)[226]? = some (13, 7) := by rw [el]; exact sh_lay_new hn
  have hn : (sh_lay km_417).length = 227 := by rw [el]; exact sh_len_add hn
  refine vn_putR 17 dX3_init_17 fl_3_15 (Or.inr ⟨rfl, rfl, rfl⟩) rfl hl224 (fun y ey => ?_)
  obtain rfl : y = km_418 := ey
  have el : sh_lay km_418 = sh_lay km_417 := by rw [show km_418 = sh_setR km_417 224 2 (some 226) from rfl]; exact sh_lyR
  have hl224 : (sh_lay km_418)[224]? = some (3, 0) := by rw [el]; exact hl224
  have hn : (sh_lay km_418).length = 227 := by rw [el]; exact hn
  refine vv_aload_n 20 0 dX3_init_20 rfl rfl ?_
  refine vv_bipush 21 dX3_init_21 bk_7 ?_
  refine vk_newa (N := 7) (c1 := 3) (s1 := 63) 13 .int (Or.inl ⟨rfl, rfl⟩) 23 dX3_init_23 ac_13 (by decide) (by decide) (Nat.le_of_ble_eq_true rfl) (n := 227) hn (μ1 := km_419) rfl rfl rfl (Nat.le_of_ble_eq_true rfl) (Nat.le_of_ble_eq_true rfl) ?_
  have el : km_419 = sh_add km_418 (13, 7) := rfl
  have hl224 : (sh_lay km_419)[224]? = some (3, 0) := by rw [el]; exact sh_lay_add hl224
  have hl227 : (sh_lay km_419)[227]? = some (13, 7) := by rw [el]; exact sh_lay_new hn
  have hn : (sh_lay km_419).length = 228 := by rw [el]; exact sh_len_add hn
  refine vn_putR 25 dX3_init_25 fl_3_18 (Or.inr ⟨rfl, rfl, rfl⟩) rfl hl224 (fun y ey => ?_)
  obtain rfl : y = km_420 := ey
  have el : sh_lay km_420 = sh_lay km_419 := by rw [show km_420 = sh_setR km_419 224 3 (some 227) from rfl]; exact sh_lyR
  have hl224 : (sh_lay km_420)[224]? = some (3, 0) := by rw [el]; exact hl224
  have hn : (sh_lay km_420).length = 228 := by rw [el]; exact hn
  refine vv_aload_n 28 0 dX3_init_28 rfl rfl ?_
  refine vv_bipush 29 dX3_init_29 bk_7 ?_
  refine vk_newa (N := 7) (c1 := 4) (s1 := 70) 13 .int (Or.inl ⟨rfl, rfl⟩) 31 dX3_init_31 ac_13 (by decide) (by decide) (Nat.le_of_ble_eq_true rfl) (n := 228) hn (μ1 := km_421) rfl rfl rfl (Nat.le_of_ble_eq_true rfl) (Nat.le_of_ble_eq_true rfl) ?_
  have el : km_421 = sh_add km_420 (13, 7) := rfl
  have hl224 : (sh_lay km_421)[224]? = some (3, 0) := by rw [el]; exact sh_lay_add hl224
  have hl228 : (sh_lay km_421)[228]? = some (13, 7) := by rw [el]; exact sh_lay_new hn
  have hn : (sh_lay km_421).length = 229 := by rw [el]; exact sh_len_add hn
  refine vn_putR 33 dX3_init_33 fl_3_21 (Or.inr ⟨rfl, rfl, rfl⟩) rfl hl224 (fun y ey => ?_)
  obtain rfl : y = km_422 := ey
  have el : sh_lay km_422 = sh_lay km_421 := by rw [show km_422 = sh_setR km_421 224 4 (some 228) from rfl]; exact sh_lyR
  have hl224 : (sh_lay km_422)[224]? = some (3, 0) := by rw [el]; exact hl224
  have hn : (sh_lay km_422).length = 229 := by rw [el]; exact hn
  refine vv_aload_n 36 0 dX3_init_36 rfl rfl ?_
  refine vv_bipush 37 dX3_init_37 bk_7 ?_
  refine vk_newa (N := 7) (c1 := 5) (s1 := 77) 13 .int (Or.inl ⟨rfl, rfl⟩) 39 dX3_init_39 ac_13 (by decide) (by decide) (Nat.le_of_ble_eq_true rfl) (n := 229) hn (μ1 := km_423) rfl rfl rfl (Nat.le_of_ble_eq_true rfl) (Nat.le_of_ble_eq_true rfl) ?_
  have el : km_423 = sh_add km_422 (13, 7) := rfl
  have hl224 : (sh_lay km_423)[224]? = some (3, 0) := by rw [el]; exact sh_lay_add hl224
  have hl229 : (sh_lay km_423)[229]? = some (13, 7) := by rw [el]; exact sh_lay_new hn
  have hn : (sh_lay km_423).length = 230 := by rw [el]; exact sh_len_add hn
  refine vn_putR 41 dX3_init_41 fl_3_24 (Or.inr ⟨rfl, rfl, rfl⟩) rfl hl224 (fun y ey => ?_)
  obtain rfl : y = km_424 := ey
  have el : sh_lay km_424 = sh_lay km_423 := by rw [show km_424 = sh_setR km_423 224 5 (some 229) from rfl]; exact sh_lyR
  have hl224 : (sh_lay km_424)[224]? = some (3, 0) := by rw [el]; exact hl224
  have hn : (sh_lay km_424).length = 230 := by rw [el]; exact hn
  refine vv_vret 44 dX3_init_44 rfl (Nat.le_of_ble_eq_true rfl) (Nat.le_of_ble_eq_true rfl) ⟨rfl, rfl⟩
set_option maxHeartbeats 40000000 in
theorem kc_42 : sh_Con l B D ca 1 5 77 M_X3_init [.ref 230] km_426 (fun v μ' => v = none ∧ μ' = km_436) := by
  have hn : (sh_lay km_426).length = 231 := by decide +kernel
  refine vv_aload_n 0 0 dX3_init_0 rfl rfl ?_
  refine vv_objInit 1 dX3_init_1 ck_X3_3 (Nat.le_of_ble_eq_true rfl) (Nat.le_of_ble_eq_true rfl) ?_
  refine vv_aload_n 4 0 dX3_init_4 rfl rfl ?_
  refine vv_bipush 5 dX3_init_5 bk_49 ?_
  refine vk_newa (N := 49) (c1 := 1) (s1 := 49) 13 .int (Or.inl ⟨rfl, rfl⟩) 7 dX3_init_7 ac_13 (by decide) (by decide) (Nat.le_of_ble_eq_true rfl) (n := 231) hn (μ1 := km_427) rfl rfl rfl (Nat.le_of_ble_eq_true rfl) (Nat.le_of_ble_eq_true rfl) ?_
  have el : km_427 = sh_add km_426 (13, 49) := rfl
  have hl231 : (sh_lay km_427)[231]? = some (13, 49) := by rw [el]; exact sh_lay_new hn
  have hn : (sh_lay km_427).length = 232 := by rw [el]; exact sh_len_add hn
  have hl230 : (sh_lay km_427)[230]? = some (3, 0) := by decide +kernel
  refine vn_putR 9 dX3_init_9 fl_3_9 (Or.inr ⟨rfl, rfl, rfl⟩) rfl hl230 (fun y ey => ?_)
  obtain rfl : y = km_428 := ey
  have el : sh_lay km_428 = sh_lay km_427 := by rw [show km_428 = sh_setR km_427 230 1 (some 231) from rfl]; exact sh_lyR
  have hl230 : (sh_lay km_428)[230]? = some (3, 0) := by rw [el]; exact hl230
  have hn : (sh_lay km_428).length = 232 := by rw [el]; exact hn
  refine vv_aload_n 12 0 dX3_init_12 rfl rfl ?_
  refine vv_bipush 13 dX3_init_13 bk_7 ?_
  refine vk_newa (N := 7) (c1 := 2) (s1 := 56) 13 .int (Or.inl ⟨rfl, rfl⟩) 15 dX3_init_15 ac_13 (by decide) (by decide) (Nat.le_of_ble_eq_true rfl) (n := 232) hn (μ1 := km_429) rfl rfl rfl (Nat.le_of_ble_eq_true rfl) (Nat.le_of_ble_eq_true rfl) ?_
  have el : km_429 = sh_add km_428 (13, 7) := rfl
  have hl230 : (sh_lay km_429)[230]? = some (3, 0) := by rw [el]; exact sh_lay_add hl230
  have hl232 : (sh_lay km_429)[232]? = some (13, 7) := by rw [el]; exact sh_lay_new hn
  have hn : (sh_lay km_429).length = 233 := by rw [el]; exact sh_len_add hn
  refine vn_putR 17 dX3_init_17 fl_3_15 (Or.inr ⟨rfl, rfl, rfl⟩) rfl hl230 (fun y ey => ?_)
  obtain rfl : y = km_430 := ey
  have el : sh_lay km_430 = sh_lay km_429 := by rw [show km_430 = sh_setR km_429 230 2 (some 232) from rfl]; exact sh_lyR
  have hl230 : (sh_lay km_430)[230]? = some (3, 0) := by rw [el]; exact hl230
  have hn : (sh_lay km_430).length = 233 := by rw [el]; exact hn
  refine vv_aload_n 20 0 dX3_init_20 rfl rfl ?_
  refine vv_bipush 21 dX3_init_21 bk_7 ?_
  refine vk_newa (N := 7) (c1 := 3) (s1 := 63) 13 .int (Or.inl ⟨rfl, rfl⟩) 23 dX3_init_23 ac_13 (by decide) (by decide) (Nat.le_of_ble_eq_true rfl) (n := 233) hn (μ1 := km_431) rfl rfl rfl (Nat.le_of_ble_eq_true rfl) (Nat.le_of_ble_eq_true rfl) ?_
  have el : km_431 = sh_add km_430 (13, 7) := rfl
  have hl230 : (sh_lay km_431)[230]? = some (3, 0) := by rw [el]; exact sh_lay_add hl230
  have hl233 : (sh_lay km_431)[233]? = some (13, 7) := by rw [el]; exact sh_lay_new hn
  have hn : (sh_lay km_431).length = 234 := by rw [el]; exact sh_len_add hn
  refine vn_putR 25 dX3_init_25 fl_3_18 (Or.inr ⟨rfl, rfl, rfl⟩) rfl hl230 (fun y ey => ?_)
  obtain rfl : y = km_432 := ey
  have el : sh_lay km_432 = sh_lay km_431 := by rw [show km_432 = sh_setR km_431 230 3 (some 233) from rfl]; exact sh_lyR
  have hl230 : (sh_lay km_432)[230]? = some (3, 0) := by rw [el]; exact hl230
  have hn : (sh_lay km_432).length = 234 := by rw [el]; exact hn
  refine vv_aload_n 28 0 dX3_init_28 rfl rfl ?_
  refine vv_bipush 29 dX3_init_29 bk_7 ?_
  refine vk_newa (N := 7) (c1 := 4) (s1 := 70) 13 .int (Or.inl ⟨rfl, rfl⟩) 31 dX3_init_31 ac_13 (by decide) (by decide) (Nat.le_of_ble_eq_true rfl) (n := 234) hn (μ1 := km_433) rfl rfl rfl (Nat.le_of_ble_eq_true rfl) (Nat.le_of_ble_eq_true rfl) ?_
  have el : km_433 = sh_add km_432 (13, 7) := rfl
  have hl230 : (sh_lay km_433)[230]? = some (3, 0) := by rw [el]; exact sh_lay_add hl230
  have hl234 : (sh_lay km_433)[234]? = some (13, 7) := by rw [el]; exact sh_lay_new hn
  have hn : (sh_lay km_433).length = 235 := by rw [el]; exact sh_len_add hn
  refine vn_putR 33 dX3_init_33 fl_3_21 (Or.inr ⟨rfl, rfl, rfl⟩) rfl hl230 (fun y ey => ?_)
  obtain rfl : y = km_434 := ey
  have el : sh_lay km_434 = sh_lay km_433 := by rw [show km_434 = sh_setR km_433 230 4 (some 234) from rfl]; exact sh_lyR
  have hl230 : (sh_lay km_434)[230]? = some (3, 0) := by rw [el]; exact hl230
  have hn : (sh_lay km_434).length = 235 := by rw [el]; exact hn
  refine vv_aload_n 36 0 dX3_init_36 rfl rfl ?_
  refine vv_bipush 37 dX3_init_37 bk_7 ?_
  refine vk_newa (N := 7) (c1 := 5) (s1 := 77) 13 .int (Or.inl ⟨rfl, rfl⟩) 39 dX3_init_39 ac_13 (by decide) (by decide) (Nat.le_of_ble_eq_true rfl) (n := 235) hn (μ1 := km_435) rfl rfl rfl (Nat.le_of_ble_eq_true rfl) (Nat.le_of_ble_eq_true rfl) ?_
  have el : km_435 = sh_add km_434 (13, 7) := rfl
  have hl230 : (sh_lay km_435)[230]? = some (3, 0) := by rw [el]; exact sh_lay_add hl230
  have hl235 : (sh_lay km_435)[235]? = some (13, 7) := by rw [el]; exact sh_lay_new hn
  have hn : (sh_lay km_435).length = 236 := by rw [el]; exact sh_len_add hn
  refine vn_putR 41 dX3_init_41 fl_3_24 (Or.inr ⟨rfl, rfl, rfl⟩) rfl hl230 (fun y ey => ?_)
  obtain rfl : y = km_436 := ey
  have el : sh_lay km_436 = sh_lay km_435 := by rw [show km_436 = sh_setR km_435 230 5 (some 235) from rfl]; exact sh_lyR
  have hl230 : (sh_lay km_436)[230]? = some (3, 0) := by rw [el]; exact hl230
  have hn : (sh_lay km_436).length = 236 := by rw [el]; exact hn
  refine vv_vret 44 dX3_init_44 rfl (Nat.le_of_ble_eq_true rfl) (Nat.le_of_ble_eq_true rfl) ⟨rfl, rfl⟩
set_option maxHeartbeats 40000000 in
theorem kc_43 : sh_Con l B D ca 1 5 77 M_X3_init [.ref 236] km_438 (fun v μ' => v = none ∧ μ' = km_448) := by
  have hn : (sh_lay km_438).length = 237 := by decide +kernel
  refine vv_aload_n 0 0 dX3_init_0 rfl rfl ?_
  refine vv_objInit 1 dX3_init_1 ck_X3_3 (Nat.le_of_ble_eq_true rfl) (Nat.le_of_ble_eq_true rfl) ?_
  refine vv_aload_n 4 0 dX3_init_4 rfl rfl ?_
  refine vv_bipush 5 dX3_init_5 bk_49 ?_
  refine vk_newa (N := 49) (c1 := 1) (s1 := 49) 13 .int (Or.inl ⟨rfl, rfl⟩) 7 dX3_init_7 ac_13 (by decide) (by decide) (Nat.le_of_ble_eq_true rfl) (n := 237) hn (μ1 := km_439) rfl rfl rfl (Nat.le_of_ble_eq_true rfl) (Nat.le_of_ble_eq_true rfl) ?_
  have el : km_439 = sh_add km_438 (13, 49) := rfl
  have hl237 : (sh_lay km_439)[237]? = some (13, 49) := by rw [el]; exact sh_lay_new hn
  have hn : (sh_lay km_439).length = 238 := by rw [el]; exact sh_len_add hn
  have hl236 : (sh_lay km_439)[236]? = some (3, 0) := by decide +kernel
  refine vn_putR 9 dX3_init_9 fl_3_9 (Or.inr ⟨rfl, rfl, rfl⟩) rfl hl236 (fun y ey => ?_)
  obtain rfl : y = km_440 := ey
  have el : sh_lay km_440 = sh_lay km_439 := by rw [show km_440 = sh_setR km_439 236 1 (some 237) from rfl]; exact sh_lyR
  have hl236 : (sh_lay km_440)[236]? = some (3, 0) := by rw [el]; exact hl236
  have hn : (sh_lay km_440).length = 238 := by rw [el]; exact hn
  refine vv_aload_n 12 0 dX3_init_12 rfl rfl ?_
  refine vv_bipush 13 dX3_init_13 bk_7 ?_
  refine vk_newa (N := 7) (c1 := 2) (s1 := 56) 13 .int (Or.inl ⟨rfl, rfl⟩) 15 dX3_init_15 ac_13 (by decide) (by decide) (Nat.le_of_ble_eq_true rfl) (n := 238) hn (μ1 := km_441) rfl rfl rfl (Nat.le_of_ble_eq_true rfl) (Nat.le_of_ble_eq_true rfl) ?_
  have el : km_441 = sh_add km_440 (13, 7) := rfl
  have hl236 : (sh_lay km_441)[236]? = some (3, 0) := by rw [el]; exact sh_lay_add hl236
  have hl238 : (sh_lay km_441)[238]? = some (13, 7) := by rw [el]; exact sh_lay_new hn
  have hn : (sh_lay km_441).length = 239 := by rw [el]; exact sh_len_add hn
  refine vn_putR 17 dX3_init_17 fl_3_15 (Or.inr ⟨rfl, rfl, rfl⟩) rfl hl236 (fun y ey => ?_)
  obtain rfl : y = km_442 := ey
  have el : sh_lay km_442 = sh_lay km_441 := by rw [show km_442 = sh_setR km_441 236 2 (some 238) from rfl]; exact sh_lyR
  have hl236 : (sh_lay km_442)[236]? = some (3, 0) := by rw [el]; exact hl236
  have hn : (sh_lay km_442).length = 239 := by rw [el]; exact hn
  refine vv_aload_n 20 0 dX3_init_20 rfl rfl ?_
  refine vv_bipush 21 dX3_init_21 bk_7 ?_
  refine vk_newa (N := 7) (c1 := 3) (s1 := 63) 13 .int (Or.inl ⟨rfl, rfl⟩) 23 dX3_init_23 ac_13 (by decide) (by decide) (Nat.le_of_ble_eq_true rfl) (n := 239) hn (μ1 := km_443) rfl rfl rfl (Nat.le_of_ble_eq_true rfl) (Nat.le_of_ble_eq_true rfl) ?_
  have el : km_443 = sh_add km_442 (13, 7) := rfl
  have hl236 : (sh_lay km_443)[236]? = some (3, 0) := by rw [el]; exact sh_lay_add hl236
  have hl239 : (sh_lay km_443)[239]? = some (13, 7) := by rw [el]; exact sh_lay_new hn
  have hn : (sh_lay km_443).length = 240 := by rw [el]; exact sh_len_add hn
  refine vn_putR 25 dX3_init_25 fl_3_18 (Or.inr ⟨rfl, rfl, rfl⟩) rfl hl236 (fun y ey => ?_)
  obtain rfl : y = km_444 := ey
  have el : sh_lay km_444 = sh_lay km_443 := by rw [show km_444 = sh_setR km_443 236 3 (some 239) from rfl]; exact sh_lyR
  have hl236 : (sh_lay km_444)[236]? = some (3, 0) := by rw [el]; exact hl236
  have hn : (sh_lay km_444).length = 240 := by rw [el]; exact hn
  refine vv_aload_n 28 0 dX3_init_28 rfl rfl ?_
  refine vv_bipush 29 dX3_init_29 bk_7 ?_
  refine vk_newa (N := 7) (c1 := 4) (s1 := 70) 13 .int (Or.inl ⟨rfl, rfl⟩) 31 dX3_init_31 ac_13 (by decide) (by decide) (Nat.le_of_ble_eq_true rfl) (n := 240) hn (μ1 := km_445) rfl rfl rfl (Nat.le_of_ble_eq_true rfl) (Nat.le_of_ble_eq_true rfl) ?_
  have el : km_445 = sh_add km_444 (13, 7) := rfl
  have hl236 : (sh_lay km_445)[236]? = some (3, 0) := by rw [el]; exact sh_lay_add hl236
  have hl240 : (sh_lay km_445)[240]? = some (13, 7) := by rw [el]; exact sh_lay_new hn
  have hn : (sh_lay km_445).length = 241 := by rw [el]; exact sh_len_add hn
  refine vn_putR 33 dX3_init_33 fl_3_21 (Or.inr ⟨rfl, rfl, rfl⟩) rfl hl236 (fun y ey => ?_)
  obtain rfl : y = km_446 := ey
  have el : sh_lay km_446 = sh_lay km_445 := by rw [show km_446 = sh_setR km_445 236 4 (some 240) from rfl]; exact sh_lyR
  have hl236 : (sh_lay km_446)[236]? = some (3, 0) := by rw [el]; exact hl236
  have hn : (sh_lay km_446).length = 241 := by rw [el]; exact hn
  refine vv_aload_n 36 0 dX3_init_36 rfl rfl ?_
  refine vv_bipush 37 dX3_init_37 bk_7 ?_
  refine vk_newa (N := 7) (c1 := 5) (s1 := 77) 13 .int (Or.inl ⟨rfl, rfl⟩) 39 dX3_init_39 ac_13 (by decide) (by decide) (Nat.le_of_ble_eq_true rfl) (n := 241) hn (μ1 := km_447) rfl rfl rfl (Nat.le_of_ble_eq_true rfl) (Nat.le_of_ble_eq_true rfl) ?_
  have el : km_447 = sh_add km_446 (13, 7) := rfl
  have hl236 : (sh_lay km_447)[236]? = some (3, 0) := by rw [el]; exact sh_lay_add hl236
  have hl241 : (sh_lay km_447)[241]? = some (13, 7) := by rw [el]; exact sh_lay_new hn
  have hn : (sh_lay km_447).length = 242 := by rw [el]; exact sh_len_add hn
  refine vn_putR 41 dX3_init_41 fl_3_24 (Or.inr ⟨rfl, rfl, rfl⟩) rfl hl236 (fun y ey => ?_)
  obtain rfl : y = km_448 := ey
  have el : sh_lay km_448 = sh_lay km_447 := by rw [show km_448 = sh_setR km_447 236 5 (some 241) from rfl]; exact sh_lyR
  have hl236 : (sh_lay km_448)[236]? = some (3, 0) := by rw [el]; exact hl236
  have hn : (sh_lay km_448).length = 242 := by rw [el]; exact hn
  refine vv_vret 44 dX3_init_44 rfl (Nat.le_of_ble_eq_true rfl) (Nat.le_of_ble_eq_true rfl) ⟨rfl, rfl⟩
set_option maxHeartbeats 40000000 in
theorem kc_44 : sh_Con l B D ca 1 5 77 M_X3_init [.ref 242] km_450 (fun v μ' => v = none ∧ μ' = km_460) := by
  have hn : (sh_lay km_450).length = 243 := by decide +kernel
  refine vv_aload_n 0 0 dX3_init_0 rfl rfl ?_
  refine vv_objInit 1 dX3_init_1 ck_X3_3 (Nat.le_of_ble_eq_true rfl) (Nat.le_of_ble_eq_true rfl) ?_
  refine vv_aload_n 4 0 dX3_init_4 rfl rfl ?_
  refine vv_bipush 5 dX3_init_5 bk_49 ?_
  refine vk_newa (N := 49) (c1 := 1) (s1 := 49) 13 .int (Or.inl ⟨rfl, rfl⟩) 7 dX3_init_7 ac_13 (by decide) (by decide) (Nat.le_of_ble_eq_true rfl) (n := 243) hn (μ1 := km_451) rfl rfl rfl (Nat.le_of_ble_eq_true rfl) (Nat.le_of_ble_eq_true rfl) ?_
  have el : km_451 = sh_add km_450 (13, 49) := rfl
  have hl243 : (sh_lay km_451)[243]? = some (13, 49) := by rw [el]; exact sh_lay_new hn
  have hn : (sh_lay km_451).length = 244 := by rw [el]; exact sh_len_add hn
  have hl242 : (sh_lay km_451)[242]? = some (3, 0) := by decide +kernel
  refine vn_putR 9 dX3_init_9 fl_3_9 (Or.inr ⟨rfl, rfl, rfl⟩) rfl hl242 (fun y ey => ?_)
  obtain rfl : y = km_452 := ey
  have el : sh_lay km_452 = sh_lay km_451 := by rw [show km_452 = sh_setR km_451 242 1 (some 243) from rfl]; exact sh_lyR
  have hl242 : (sh_lay km_452)[242]? = some (3, 0) := by rw [el]; exact hl242
  have hn : (sh_lay km_452).length = 244 := by rw [el]; exact hn
  refine vv_aload_n 12 0 dX3_init_12 rfl rfl ?_
  refine vv_bipush 13 dX3_init_13 bk_7 ?_
  refine vk_newa (N := 7) (c1 := 2) (s1 := 56) 13 .int (Or.inl ⟨rfl, rfl⟩) 15 dX3_init_15 ac_13 (by decide) (by decide) (Nat.le_of_ble_eq_true rfl) (n := 244) hn (μ1 := km_453) rfl rfl rfl (Nat.le_of_ble_eq_true rfl) (Nat.le_of_ble_eq_true rfl) ?_
  have el : km_453 = sh_add km_452 (13, 7) := rfl
  have hl242 : (sh_lay km_453)[242]? = some (3, 0) := by rw [el]; exact sh_lay_add hl242
  have hl244 : (sh_lay km_453)[244]? = some (13, 7) := by rw [el]; exact sh_lay_new hn
  have hn : (sh_lay km_453).length = 245 := by rw [el]; exact sh_len_add hn
  refine vn_putR 17 dX3_init_17 fl_3_15 (Or.inr ⟨rfl, rfl, rfl⟩) rfl hl242 (fun y ey => ?_)
  obtain rfl : y = km_454 := ey
  have el : sh_lay km_454 = sh_lay km_453 := by rw [show km_454 = sh_setR km_453 242 2 (some 244) from rfl]; exact sh_lyR
  have hl242 : (sh_lay km_454)[242]? = some (3, 0) := by rw [el]; exact hl242
  have hn : (sh_lay km_454).length = 245 := by rw [el]; exact hn
  refine vv_aload_n 20 0 dX3_init_20 rfl rfl ?_
  refine vv_bipush 21 dX3_init_21 bk_7 ?_
  refine vk_newa (N := 7) (c1 := 3) (s1 := 63) 13 .int (Or.inl ⟨rfl, rfl⟩) 23 dX3_init_23 ac_13 (by decide) (by decide) (Nat.le_of_ble_eq_true rfl) (n := 245) hn (μ1 := km_455) rfl rfl rfl (Nat.le_of_ble_eq_true rfl) (Nat.le_of_ble_eq_true rfl) ?_
  have el : km_455 = sh_add km_454 (13, 7) := rfl
  have hl242 : (sh_lay km_455)[242]? = some (3, 0) := by rw [el]; exact sh_lay_add hl242
  have hl245 : (sh_lay km_455)[245]? = some (13, 7) := by rw [el]; exact sh_lay_new hn
  have hn : (sh_lay km_455).length = 246 := by rw [el]; exact sh_len_add hn
  refine vn_putR 25 dX3_init_25 fl_3_18 (Or.inr ⟨rfl, rfl, rfl⟩) rfl hl242 (fun y ey => ?_)
  obtain rfl : y = km_456 := ey
  have el : sh_lay km_456 = sh_lay km_455 := by rw [show km_456 = sh_setR km_455 242 3 (some 245) from rfl]; exact sh_lyR
  have hl242 : (sh_lay km_456)[242]? = some (3, 0) := by rw [el]; exact hl242
  have hn : (sh_lay km_456).length = 246 := by rw [el]; exact hn
  refine vv_aload_n 28 0 dX3_init_28 rfl rfl ?_
  refine vv_bipush 29 dX3_init_29 bk_7 ?_
  refine vk_newa (N := 7) (c1 := 4) (s1 := 70) 13 .int (Or.inl ⟨rfl, rfl⟩) 31 dX3_init_31 ac_13 (by decide) (by decide) (Nat.le_of_ble_eq_true rfl) (n := 246) hn (μ1 := km_457) rfl rfl rfl (Nat.le_of_ble_eq_true rfl) (Nat.le_of_ble_eq_true rfl) ?_
  have el : km_457 = sh_add km_456 (13, 7) := rfl
  have hl242 : (sh_lay km_457)[242]? = some (3, 0) := by rw [el]; exact sh_lay_add hl242
  have hl246 : (sh_lay km_457)[246]? = some (13, 7) := by rw [el]; exact sh_lay_new hn
  have hn : (sh_lay km_457).length = 247 := by rw [el]; exact sh_len_add hn
  refine vn_putR 33 dX3_init_33 fl_3_21 (Or.inr ⟨rfl, rfl, rfl⟩) rfl hl242 (fun y ey => ?_)
  obtain rfl : y = km_458 := ey
  have el : sh_lay km_458 = sh_lay km_457 := by rw [show km_458 = sh_setR km_457 242 4 (some 246) from rfl]; exact sh_lyR
  have hl242 : (sh_lay km_458)[242]? = some (3, 0) := by rw [el]; exact hl242
  have hn : (sh_lay km_458).length = 247 := by rw [el]; exact hn
  refine vv_aload_n 36 0 dX3_init_36 rfl rfl ?_
  refine vv_bipush 37 dX3_init_37 bk_7 ?_
  refine vk_newa (N := 7) (c1 := 5) (s1 := 77) 13 .int (Or.inl ⟨rfl, rfl⟩) 39 dX3_init_39 ac_13 (by decide) (by decide) (Nat.le_of_ble_eq_true rfl) (n := 247) hn (μ1 := km_459) rfl rfl rfl (Nat.le_of_ble_eq_true rfl) (Nat.le_of_ble_eq_true rfl) ?_
  have el : km_459 = sh_add km_458 (13, 7) := rfl
  have hl242 : (sh_lay km_459)[242]? = some (3, 0) := by rw [el]; exact sh_lay_add hl242
  have hl247 : (sh_lay km_459)[247]? = some (13, 7) := by rw [el]; exact sh_lay_new hn
  have hn : (sh_lay km_459).length = 248 := by rw [el]; exact sh_len_add hn
  refine vn_putR 41 dX3_init_41 fl_3_24 (Or.inr ⟨rfl, rfl, rfl⟩) rfl hl242 (fun y ey => ?_)
  obtain rfl : y = km_460 := ey
  have el : sh_lay km_460 = sh_lay km_459 := by rw [show km_460 = sh_setR km_459 242 5 (some 247) from rfl]; exact sh_lyR
  have hl242 : (sh_lay km_460)[242]? = some (3, 0) := by rw [el]; exact hl242
  have hn : (sh_lay km_460).length = 248 := by rw [el]; exact hn
  refine vv_vret 44 dX3_init_44 rfl (Nat.le_of_ble_eq_true rfl) (Nat.le_of_ble_eq_true rfl) ⟨rfl, rfl⟩
set_option maxHeartbeats 40000000 in
theorem kc_45 : sh_Con l B D ca 1 5 77 M_X3_init [.ref 248] km_462 (fun v μ' => v = none ∧ μ' = km_472) := by
  have hn : (sh_lay km_462).length = 249 := by decide +kernel
  refine vv_aload_n 0 0 dX3_init_0 rfl rfl ?_
  refine vv_objInit 1 dX3_init_1 ck_X3_3 (Nat.le_of_ble_eq_true rfl) (Nat.le_of_ble_eq_true rfl) ?_
  refine vv_aload_n 4 0 dX3_init_4 rfl rfl ?_
  refine vv_bipush 5 dX3_init_5 bk_49 ?_
  refine vk_newa (N := 49) (c1 := 1) (s1 := 49) 13 .int (Or.inl ⟨rfl, rfl⟩) 7 dX3_init_7 ac_13 (by decide) (by decide) (Nat.le_of_ble_eq_true rfl) (n := 249) hn (μ1 := km_463) rfl rfl rfl (Nat.le_of_ble_eq_true rfl) (Nat.le_of_ble_eq_true rfl) ?_
  have el : km_463 = sh_add km_462 (13, 49) := rfl
  have hl249 : (sh_lay km_463)[249]? = some (13, 49) := by rw [el]; exact sh_lay_new hn
  have hn : (sh_lay km_463).length = 250 := by rw [el]; exact sh_len_add hn
  have hl248 : (sh_lay km_463)[248]? = some (3, 0) := by decide +kernel
  refine vn_putR 9 dX3_init_9 fl_3_9 (Or.inr ⟨rfl, rfl, rfl⟩) rfl hl248 (fun y ey => ?_)
  obtain rfl : y = km_464 := ey
  have el : sh_lay km_464 = sh_lay km_463 := by rw [show km_464 = sh_setR km_463 248 1 (some 249) from rfl]; exact sh_lyR
  have hl248 : (sh_lay km_464)[248]? = some (3, 0) := by rw [el]; exact hl248
  have hn : (sh_lay km_464).length = 250 := by rw [el]; exact hn
  refine vv_aload_n 12 0 dX3_init_12 rfl rfl ?_
  refine vv_bipush 13 dX3_init_13 bk_7 ?_
  refine vk_newa (N := 7) (c1 := 2) (s1 := 56) 13 .int (Or.inl ⟨rfl, rfl⟩) 15 dX3_init_15 ac_13 (by decide) (by decide) (Nat.le_of_ble_eq_true rfl) (n := 250) hn (μ1 := km_465) rfl rfl rfl (Nat.le_of_ble_eq_true rfl) (Nat.le_of_ble_eq_true rfl) ?_
  have el : km_465 = sh_add km_464 (13, 7) := rfl
  have hl248 : (sh_lay km_465)[248]? = some (3, 0) := by rw [el]; exact sh_lay_add hl248
  have hl250 : (sh_lay km_465)[250]? = some (13, 7) := by rw [el]; exact sh_lay_new hn
  have hn : (sh_lay km_465).length = 251 := by rw [el]; exact sh_len_add hn
  refine vn_putR 17 dX3_init_17 fl_3_15 (Or.inr ⟨rfl, rfl, rfl⟩) rfl hl248 (fun y ey => ?_)
  obtain rfl : y = km_466 := ey
  have el : sh_lay km_466 = sh_lay km_465 := by rw [show km_466 = sh_setR km_465 248 2 (some 250) from rfl]; exact sh_lyR
  have hl248 : (sh_lay km_466)[248]? = some (3, 0) := by rw [el]; exact hl248
  have hn : (sh_lay km_466).length = 251 := by rw [el]; exact hn
  refine vv_aload_n 20 0 dX3_init_20 rfl rfl ?_
  refine vv_bipush 21 dX3_init_21 bk_7 ?_
  refine vk_newa (N := 7) (c1 := 3) (s1 := 63) 13 .int (Or.inl ⟨rfl, rfl⟩) 23 dX3_init_23 ac_13 (by decide) (by decide) (Nat.le_of_ble_eq_true rfl) (n := 251) hn (μ1 := km_467) rfl rfl rfl (Nat.le_of_ble_eq_true rfl) (Nat.le_of_ble_eq_true rfl) ?_
  have el : km_467 = sh_add km_466 (13, 7) := rfl
  have hl248 : (sh_lay km_467)[248]? = some (3, 0) := by rw [el]; exact sh_lay_add hl248
  have hl251 : (sh_lay km_467)[251]? = some (13, 7) := by rw [el]; exact sh_lay_new hn
  have hn : (sh_lay km_467).length = 252 := by rw [el]; exact sh_len_add hn
  refine vn_putR 25 dX3_init_25 fl_3_18 (Or.inr ⟨rfl, rfl, rfl⟩) rfl hl248 (fun y ey => ?_)
  obtain rfl : y = km_468 := ey
  have el : sh_lay km_468 = sh_lay km_467 := by rw [show km_468 = sh_setR km_467 248 3 (some 251) from rfl]; exact sh_lyR
  have hl248 : (sh_lay km_468)[248]? = some (3, 0) := by rw [el]; exact hl248
  have hn : (sh_lay km_468).length = 252 := by rw [el]; exact hn
  refine vv_aload_n 28 0 dX3_init_28 rfl rfl ?_
  refine vv_bipush 29 dX3_init_29 bk_7 ?_
  refine vk_newa (N := 7) (c1 := 4) (s1 := 70) 13 .int (Or.inl ⟨rfl, rfl⟩) 31 dX3_init_31 ac_13 (by decide) (by decide) (Nat.le_of_ble_eq_true rfl) (n := 252) hn (μ1 := km_469) rfl rfl rfl (Nat.le_of_ble_eq_true rfl) (Nat.le_of_ble_eq_true rfl) ?_
  have el : km_469 = sh_add km_468 (13, 7) := rfl
  have hl248 : (sh_lay km_469)[248]? = some (3, 0) := by rw [el]; exact sh_lay_add hl248
  have hl252 : (sh_lay km_469)[252]? = some (13, 7) := by rw [el]; exact sh_lay_new hn
  have hn : (sh_lay km_469).length = 253 := by rw [el]; exact sh_len_add hn
  refine vn_putR 33 dX3_init_33 fl_3_21 (Or.inr ⟨rfl, rfl, rfl⟩) rfl hl248 (fun y ey => ?_)
  obtain rfl : y = km_470 := ey
  have el : sh_lay km_470 = sh_lay km_469 := by rw [show km_470 = sh_setR km_469 248 4 (some 252) from rfl]; exact sh_lyR
  have hl248 : (sh_lay km_470)[248]? = some (3, 0) := by rw [el]; exact hl248
  have hn : (sh_lay km_470).length = 253 := by rw [el]; exact hn
  refine vv_aload_n 36 0 dX3_init_36 rfl rfl ?_
  refine vv_bipush 37 dX3_init_37 bk_7 ?_
  refine vk_newa (N := 7) (c1 := 5) (s1 := 77) 13 .int (Or.inl ⟨rfl, rfl⟩) 39 dX3_init_39 ac_13 (by decide) (by decide) (Nat.le_of_ble_eq_true rfl) (n := 253) hn (μ1 := km_471) rfl rfl rfl (Nat.le_of_ble_eq_true rfl) (Nat.le_of_ble_eq_true rfl) ?_
  have el : km_471 = sh_add km_470 (13, 7) := rfl
  have hl248 : (sh_lay km_471)[248]? = some (3, 0) := by rw [el]; exact sh_lay_add hl248
  have hl253 : (sh_lay km_471)[253]? = some (13, 7) := by rw [el]; exact sh_lay_new hn
  have hn : (sh_lay km_471).length = 254 := by rw [el]; exact sh_len_add hn
  refine vn_putR 41 dX3_init_41 fl_3_24 (Or.inr ⟨rfl, rfl, rfl⟩) rfl hl248 (fun y ey => ?_)
  obtain rfl : y = km_472 := ey
  have el : sh_lay km_472 = sh_lay km_471 := by rw [show km_472 = sh_setR km_471 248 5 (some 253) from rfl]; exact sh_lyR
  have hl248 : (sh_lay km_472)[248]? = some (3, 0) := by rw [el]; exact hl248
  have hn : (sh_lay km_472).length = 254 := by rw [el]; exact hn
  refine vv_vret 44 dX3_init_44 rfl (Nat.le_of_ble_eq_true rfl) (Nat.le_of_ble_eq_true rfl) ⟨rfl, rfl⟩
end
