section
variable {l : Launch} {B : Nat} {D : va_G} {ca : Nat → ClassId}
set_option maxHeartbeats 40000000 in
theorem kc_46 : sh_Con l B D ca 1 5 77 M_X3_init [.ref 254] km_474 (fun v μ' => v = none ∧ μ' = km_484) := by
  have hn : (sh_lay km_474).length = 255 := by decide +kernel
  refine vv_aload_n 0 0 dX3_init_0 rfl rfl ?_
  refine vv_objInit 1 dX3_init_1 ck_X3_3 (Nat.le_of_ble_eq_true rfl) (Nat.le_of_ble_eq_true rfl) ?_
  refine vv_aload_n 4 0 dX3_init_4 rfl rfl ?_
  refine vv_bipush 5 dX3_init_5 bk_49 ?_
  refine vk_newa (N := 49) (c1 := 1) (s1 := 49) 13 .int (Or.inl ⟨rfl, rfl⟩) 7 dX3_init_7 ac_13 (by decide) (by decide) (Nat.le_of_ble_eq_true rfl) (n := 255) hn (μ1 := km_475) rfl rfl rfl (Nat.le_of_ble_eq_true rfl) (Nat.le_of_ble_eq_true rfl) ?_
  have el : km_475 = sh_add km_474 (13, 49) := rfl
  have hl255 : (sh_lay km_475)[255]? = some (13, 49) := by rw [el]; exact sh_lay_new hn
  have hn : (sh_lay km_475).length = 256 := by rw [el]; exact sh_len_add hn
  have hl254 : (sh_lay km_475)[254]? = some (3, 0) := by decide +kernel
  refine vn_putR 9 dX3_init_9 fl_3_9 (Or.inr ⟨rfl, rfl, rfl⟩) rfl hl254 (fun y ey => ?_)
  obtain rfl : y = km_476 := ey
  have el : sh_lay km_476 = sh_lay km_475 := by rw [show km_476 = sh_setR km_475 254 1 (some 255) from rfl]; exact sh_lyR
  have hl254 : (sh_lay km_476)[254]? = some (3, 0) := by rw [el]; exact hl254
  have hn : (sh_lay km_476).length = 256 := by rw [el]; exact hn
  refine vv_aload_n 12 0 dX3_init_12 rfl rfl ?_
  refine vv_bipush 13 dX3_init_13 bk_7 ?_
  refine vk_newa (N := 7) (c1 := 2) (s1 := 56) 13 .int (Or.inl ⟨rfl, rfl⟩) 15 dX3_init_15 ac_13 (by decide) (by decide) (Nat.le_of_ble_eq_true rfl) (n := 256) hn (μ1 := km_477) rfl rfl rfl (Nat.le_of_ble_eq_true rfl) (Nat.le_of_ble_eq_true rfl) ?_
  have el : km_477 = sh_add km_476 (13, 7) := rfl
  have hl254 : (sh_lay km_477)[254]? = some (3, 0) := by rw [el]; exact sh_lay_add hl254
  have hl256 : (sh_lay km_477)[256]? = some (13, 7) := by rw [el]; exact sh_lay_new hn
  have hn : (sh_lay km_477).length = 257 := by rw [el]; exact sh_len_add hn
  refine vn_putR 17 dX3_init_17 fl_3_15 (Or.inr ⟨rfl, rfl, rfl⟩) rfl hl254 (fun y ey => ?_)
  obtain rfl : y = km_478 := ey
  have el : sh_lay km_478 = sh_lay km_477 := by rw [show km_478 = sh_setR km_477 254 2 (some 256) from rfl]; exact sh_lyR
  have hl254 : (sh_lay km_478)[254]? = some (3, 0) := by rw [el]; exact hl254
  have hn : (sh_lay km_478).length = 257 := by rw [el]; exact hn
  refine vv_aload_n 20 0 dX3_init_20 rfl rfl ?_
  refine vv_bipush 21 dX3_init_21 bk_7 ?_
  refine vk_newa (N := 7) (c1 := 3) (s1 := 63) 13 .int (Or.inl ⟨rfl, rfl⟩) 23 dX3_init_23 ac_13 (by decide) (by decide) (Nat.le_of_ble_eq_true rfl) (n := 257) hn (μ1 := km_479) rfl rfl rfl (Nat.le_of_ble_eq_true rfl) (Nat.le_of_ble_eq_true rfl) ?_
  have el : km_479 = sh_add km_478 (13, 7) := rfl
  have hl254 : (sh_lay km_479)[254]? = some (3, 0) := by rw [el]; exact sh_lay_add hl254
  have hl257 : (sh_lay km_479)[257]? = some (13, 7) := by rw [el]; exact sh_lay_new hn
  have hn : (sh_lay km_479).length = 258 := by rw [el]; exact sh_len_add hn
  refine vn_putR 25 dX3_init_25 fl_3_18 (Or.inr ⟨rfl, rfl, rfl⟩) rfl hl254 (fun y ey => ?_)
  obtain rfl : y = km_480 := ey
  have el : sh_lay km_480 = sh_lay km_479 := by rw [show km_480 = sh_setR km_479 254 3 (some 257) from rfl]; exact sh_lyR
  have hl254 : (sh_lay km_480)[254]? = some (3, 0) := by rw [el]; exact hl254
  have hn : (sh_lay km_480).length = 258 := by rw [el]; exact hn
  refine vv_aload_n 28 0 dX3_init_28 rfl rfl ?_
  refine vv_bipush 29 dX3_init_29 bk_7 ?_
  refine vk_newa (N := 7) (c1 := 4) (s1 := 70) 13 .int (Or.inl ⟨rfl, rfl⟩) 31 dX3_init_31 ac_13 (by decide) (by decide) (Nat.le_of_ble_eq_true rfl) (n := 258) hn (μ1 := km_481) rfl rfl rfl (Nat.le_of_ble_eq_true rfl) (Nat.le_of_ble_eq_true rfl) ?_
  have el : km_481 = sh_add km_480 (13, 7) := rfl
  have hl254 : (sh_lay km_481)[254]? = some (3, 0) := by rw [el]; exact sh_lay_add hl254
  have hl258 : (sh_lay km_481)[258]? = some (13, 7) := by rw [el]; exact sh_lay_new hn
  have hn : (sh_lay km_481).length = 259 := by rw [el]; exact sh_len_add hn
  refine vn_putR 33 dX3_init_33 fl_3_21 (Or.inr ⟨rfl, rfl, rfl⟩) rfl hl254 (fun y ey => ?_)
  obtain rfl : y = km_482 := ey
  have el : sh_lay km_482 = sh_lay km_481 := by rw [show km_482 = sh_setR km_481 254 4 (some 258) from rfl]; exact sh_lyR
  have hl254 : (sh_lay km_482)[254]? = some (3, 0) := by rw [el]; exact hl254
  have hn : (sh_lay km_482).length = 259 := by rw [el]; exact hn
  refine vv_aload_n 36 0 dX3_init_36 rfl rfl ?_
  refine vv_bipush 37 dX3_init_37 bk_7 ?_
  refine vk_newa (N := 7) (c1 := 5) (s1 := 77) 13 .int (Or.inl ⟨rfl, rfl⟩) 39 dX3_init_39 ac_13 (by decide) (by decide) (Nat.le_of_ble_eq_true rfl) (n := 259) hn (μ1 := km_483) rfl rfl rfl (Nat.le_of_ble_eq_true rfl) (Nat.le_of_ble_eq_true rfl) ?_
  have el : km_483 = sh_add km_482 (13, 7) := rfl
  have hl254 : (sh_lay km_483)[254]? = some (3, 0) := by rw [el]; exact sh_lay_add hl254
  have hl259 : (sh_lay km_483)[259]? = some (13, 7) := by rw [el]; exact sh_lay_new hn
  have hn : (sh_lay km_483).length = 260 := by rw [el]; exact sh_len_add hn
  refine vn_putR 41 dX3_init_41 fl_3_24 (Or.inr ⟨rfl, rfl, rfl⟩) rfl hl254 (fun y ey => ?_)
  obtain rfl : y = km_484 := ey
  have el : sh_lay km_484 = sh_lay km_483 := by rw [show km_484 = sh_setR km_483 254 5 (some 259) from rfl]; exact sh_lyR
  have hl254 : (sh_lay km_484)[254]? = some (3, 0) := by rw [el]; exact hl254
  have hn : (sh_lay km_484).length = 260 := by rw [el]; exact hn
  refine vv_vret 44 dX3_init_44 rfl (Nat.le_of_ble_eq_true rfl) (Nat.le_of_ble_eq_true rfl) ⟨rfl, rfl⟩
set_option maxHeartbeats 40000000 in
theorem kc_47 : sh_Con l B D ca 2 51 1631 M_X0_init [.ref 208, .ref 55] km_382 (fun v μ' => v = none ∧ μ' = km_485) := by
  have hn : (sh_lay km_382).length = 209 := by decide +kernel
  refine vv_aload_n 0 0 dX0_init_0 rfl rfl ?_
  refine vv_objInit 1 dX0_init_1 ck_X0_3 (Nat.le_of_ble_eq_true rfl) (Nat.le_of_ble_eq_true rfl) ?_
  refine vv_aload_n 4 0 dX0_init_4 rfl rfl ?_
  refine vk_new (c1 := 1) (s1 := 6) 5 dX0_init_5 nw_0_9 (n := 209) hn (μ1 := km_383) rfl rfl rfl (Nat.le_of_ble_eq_true rfl) (Nat.le_of_ble_eq_true rfl) ?_
  have el : km_383 = sh_add km_382 (3, 0) := rfl
  have hl209 : (sh_lay km_383)[209]? = some (3, 0) := by rw [el]; exact sh_lay_new hn
  have hn : (sh_lay km_383).length = 210 := by rw [el]; exact sh_len_add hn
  refine vv_dup_ref 8 dX0_init_8 ?_
  refine vk_callIN (c1 := 6) (s1 := 83) [] 9 dX0_init_9 ck_X0_11 kc_39 (Nat.le_of_ble_eq_true rfl) ⟨Nat.le_of_ble_eq_true rfl, Nat.le_of_ble_eq_true rfl⟩ rfl (Nat.le_of_ble_eq_true rfl) rfl rfl (Nat.le_of_ble_eq_true rfl) (Nat.le_of_ble_eq_true rfl) ?_
  have hn : (sh_lay km_393).length = 215 := by decide +kernel
  have hl208 : (sh_lay km_393)[208]? = some (0, 0) := by decide +kernel
  refine vn_putR 12 dX0_init_12 fl_0_12 (Or.inr ⟨rfl, rfl, rfl⟩) rfl hl208 (fun y ey => ?_)
  obtain rfl : y = km_394 := ey
  have el : sh_lay km_394 = sh_lay km_393 := by rw [show km_394 = sh_setR km_393 208 1 (some 209) from rfl]; exact sh_lyR
  have hl208 : (sh_lay km_394)[208]? = some (0, 0) := by rw [el]; exact hl208
  have hn : (sh_lay km_394).length = 215 := by rw [el]; exact hn
  refine vv_aload_n 15 0 dX0_init_15 rfl rfl ?_
  refine vv_bipush 16 dX0_init_16 bk_7 ?_
  refine vk_anew (N := 7) (c1 := 7) (s1 := 90) 18 dX0_init_18 nw_0_9 (by decide) (by decide) (Nat.le_of_ble_eq_true rfl) (n := 215) hn (μ1 := km_395) rfl rfl rfl (Nat.le_of_ble_eq_true rfl) (Nat.le_of_ble_eq_true rfl) ?_
  have el : km_395 = sh_add km_394 (16, 7) := rfl
  have hl208 : (sh_lay km_395)[208]? = some (0, 0) := by rw [el]; exact sh_lay_add hl208
  have hl215 : (sh_lay km_395)[215]? = some (16, 7) := by rw [el]; exact sh_lay_new hn
  have hn : (sh_lay km_395).length = 216 := by rw [el]; exact sh_len_add hn
  refine vn_putR 21 dX0_init_21 fl_0_18 (Or.inr ⟨rfl, rfl, rfl⟩) rfl hl208 (fun y ey => ?_)
  obtain rfl : y = km_396 := ey
  have el : sh_lay km_396 = sh_lay km_395 := by rw [show km_396 = sh_setR km_395 208 2 (some 215) from rfl]; exact sh_lyR
  have hl208 : (sh_lay km_396)[208]? = some (0, 0) := by rw [el]; exact hl208
  have hn : (sh_lay km_396).length = 216 := by rw [el]; exact hn
  refine vv_aload_n 24 0 dX0_init_24 rfl rfl ?_
  refine vv_bipush 25 dX0_init_25 bk_64 ?_
  refine vk_newa (N := 64) (c1 := 8) (s1 := 154) 13 .int (Or.inl ⟨rfl, rfl⟩) 27 dX0_init_27 ac_13 (by decide) (by decide) (Nat.le_of_ble_eq_true rfl) (n := 216) hn (μ1 := km_397) rfl rfl rfl (Nat.le_of_ble_eq_true rfl) (Nat.le_of_ble_eq_true rfl) ?_
  have el : km_397 = sh_add km_396 (13, 64) := rfl
  have hl208 : (sh_lay km_397)[208]? = some (0, 0) := by rw [el]; exact sh_lay_add hl208
  have hl216 : (sh_lay km_397)[216]? = some (13, 64) := by rw [el]; exact sh_lay_new hn
  have hn : (sh_lay km_397).length = 217 := by rw [el]; exact sh_len_add hn
  refine vn_putR 29 dX0_init_29 fl_0_22 (Or.inr ⟨rfl, rfl, rfl⟩) rfl hl208 (fun y ey => ?_)
  obtain rfl : y = km_398 := ey
  have el : sh_lay km_398 = sh_lay km_397 := by rw [show km_398 = sh_setR km_397 208 3 (some 216) from rfl]; exact sh_lyR
  have hl208 : (sh_lay km_398)[208]? = some (0, 0) := by rw [el]; exact hl208
  have hn : (sh_lay km_398).length = 217 := by rw [el]; exact hn
  refine vv_aload_n 32 0 dX0_init_32 rfl rfl ?_
  refine vv_sipush 33 dX0_init_33 sk_896 ?_
  refine vk_newa (N := 896) (c1 := 9) (s1 := 1050) 13 .int (Or.inl ⟨rfl, rfl⟩) 36 dX0_init_36 ac_13 (by decide) (by decide) (Nat.le_of_ble_eq_true rfl) (n := 217) hn (μ1 := km_399) rfl rfl rfl (Nat.le_of_ble_eq_true rfl) (Nat.le_of_ble_eq_true rfl) ?_
  have el : km_399 = sh_add km_398 (13, 896) := rfl
  have hl208 : (sh_lay km_399)[208]? = some (0, 0) := by rw [el]; exact sh_lay_add hl208
  have hl217 : (sh_lay km_399)[217]? = some (13, 896) := by rw [el]; exact sh_lay_new hn
  have hn : (sh_lay km_399).length = 218 := by rw [el]; exact sh_len_add hn
  refine vn_putR 38 dX0_init_38 fl_0_26 (Or.inr ⟨rfl, rfl, rfl⟩) rfl hl208 (fun y ey => ?_)
  obtain rfl : y = km_400 := ey
  have el : sh_lay km_400 = sh_lay km_399 := by rw [show km_400 = sh_setR km_399 208 5 (some 217) from rfl]; exact sh_lyR
  have hl208 : (sh_lay km_400)[208]? = some (0, 0) := by rw [el]; exact hl208
  have hn : (sh_lay km_400).length = 218 := by rw [el]; exact hn
  refine vv_aload_n 41 0 dX0_init_41 rfl rfl ?_
  refine vv_aload_n 42 1 dX0_init_42 rfl rfl ?_
  refine vn_putR 43 dX0_init_43 fl_0_29 (Or.inr ⟨rfl, rfl, rfl⟩) rfl hl208 (fun y ey => ?_)
  obtain rfl : y = km_401 := ey
  have el : sh_lay km_401 = sh_lay km_400 := by rw [show km_401 = sh_setR km_400 208 0 (some 55) from rfl]; exact sh_lyR
  have hl208 : (sh_lay km_401)[208]? = some (0, 0) := by rw [el]; exact hl208
  have hn : (sh_lay km_401).length = 218 := by rw [el]; exact hn
  refine vv_iconst 46 dX0_init_46 ik_0 ?_
  refine vv_istore_n (lv' := [(2, _), (0, _), (1, _)]) 47 2 dX0_init_47 rfl (by decide) rfl ?_
  refine vv_iload_n 48 2 dX0_init_48 rfl rfl ?_
  refine vv_bipush 49 dX0_init_49 bk_7 ?_
  refine vv_icmp_ge 51 73 dX0_init_51 (by decide) (fun h => absurd h (by decide)) (fun _ => ?_)
  refine vv_aload_n 54 0 dX0_init_54 rfl rfl ?_
  refine vv_getR 55 dX0_init_55 fl_0_18 rfl hl208 (show sh_r km_401 208 2 = some 215 by decide +kernel) ?_
  refine vv_iload_n 58 2 dX0_init_58 rfl rfl ?_
  refine vk_new (c1 := 10) (s1 := 1056) 59 dX0_init_59 nw_0_9 (n := 218) hn (μ1 := km_402) rfl rfl rfl (Nat.le_of_ble_eq_true rfl) (Nat.le_of_ble_eq_true rfl) ?_
  have el : km_402 = sh_add km_401 (3, 0) := rfl
  have hl208 : (sh_lay km_402)[208]? = some (0, 0) := by rw [el]; exact sh_lay_add hl208
  have hl218 : (sh_lay km_402)[218]? = some (3, 0) := by rw [el]; exact sh_lay_new hn
  have hn : (sh_lay km_402).length = 219 := by rw [el]; exact sh_len_add hn
  refine vv_dup_ref 62 dX0_init_62 ?_
  refine vk_callIN (c1 := 15) (s1 := 1133) [] 63 dX0_init_63 ck_X0_11 kc_40 (Nat.le_of_ble_eq_true rfl) ⟨Nat.le_of_ble_eq_true rfl, Nat.le_of_ble_eq_true rfl⟩ rfl (Nat.le_of_ble_eq_true rfl) rfl rfl (Nat.le_of_ble_eq_true rfl) (Nat.le_of_ble_eq_true rfl) ?_
  have hn : (sh_lay km_412).length = 224 := by decide +kernel
  have hl215 : (sh_lay km_412)[215]? = some (16, 7) := by decide +kernel
  have hl218 : (sh_lay km_412)[218]? = some (3, 0) := by decide +kernel
  refine vk_aast 66 dX0_init_66 hl215 hl218 (by unfold vp_in; decide) (μ1 := km_413) rfl ?_
  have el : sh_lay km_413 = sh_lay km_412 := by rw [show km_413 = sh_setR km_412 215 (Int32.toNatClampNeg 0) (some 218) from rfl]; exact sh_lyR
  have hn : (sh_lay km_413).length = 224 := by rw [el]; exact hn
  refine vv_iinc (v := 1) (lv' := [(2, _), (0, _), (1, _)]) 67 2 dX0_init_67 rfl (by decide) (by decide) rfl ?_
  refine vv_goto 70 48 dX0_init_70 (by decide) ?_
  refine vv_iload_n 48 2 dX0_init_48 rfl rfl ?_
  refine vv_bipush 49 dX0_init_49 bk_7 ?_
  refine vv_icmp_ge 51 73 dX0_init_51 (by decide) (fun h => absurd h (by decide)) (fun _ => ?_)
  refine vv_aload_n 54 0 dX0_init_54 rfl rfl ?_
  have hl208 : (sh_lay km_413)[208]? = some (0, 0) := by decide +kernel
  refine vv_getR 55 dX0_init_55 fl_0_18 rfl hl208 (show sh_r km_413 208 2 = some 215 by decide +kernel) ?_
  refine vv_iload_n 58 2 dX0_init_58 rfl rfl ?_
  refine vk_new (c1 := 16) (s1 := 1139) 59 dX0_init_59 nw_0_9 (n := 224) hn (μ1 := km_414) rfl rfl rfl (Nat.le_of_ble_eq_true rfl) (Nat.le_of_ble_eq_true rfl) ?_
  have el : km_414 = sh_add km_413 (3, 0) := rfl
  have hl208 : (sh_lay km_414)[208]? = some (0, 0) := by rw [el]; exact sh_lay_add hl208
  have hl224 : (sh_lay km_414)[224]? = some (3, 0) := by rw [el]; exact sh_lay_new hn
  have hn : (sh_lay km_414).length = 225 := by rw [el]; exact sh_len_add hn
  refine vv_dup_ref 62 dX0_init_62 ?_
  refine vk_callIN (c1 := 21) (s1 := 1216) [] 63 dX0_init_63 ck_X0_11 kc_41 (Nat.le_of_ble_eq_true rfl) ⟨Nat.le_of_ble_eq_true rfl, Nat.le_of_ble_eq_true rfl⟩ rfl (Nat.le_of_ble_eq_true rfl) rfl rfl (Nat.le_of_ble_eq_true rfl) (Nat.le_of_ble_eq_true rfl) ?_
  have hn : (sh_lay km_424).length = 230 := by decide +kernel
  have hl215 : (sh_lay km_424)[215]? = some (16, 7) := by decide +kernel
  have hl224 : (sh_lay km_424)[224]? = some (3, 0) := by decide +kernel
  refine vk_aast 66 dX0_init_66 hl215 hl224 (by unfold vp_in; decide) (μ1 := km_425) rfl ?_
  have el : sh_lay km_425 = sh_lay km_424 := by rw [show km_425 = sh_setR km_424 215 (Int32.toNatClampNeg 1) (some 224) from rfl]; exact sh_lyR
  have hn : (sh_lay km_425).length = 230 := by rw [el]; exact hn
  refine vv_iinc (v := 2) (lv' := [(2, _), (0, _), (1, _)]) 67 2 dX0_init_67 rfl (by decide) (by decide) rfl ?_
  refine vv_goto 70 48 dX0_init_70 (by decide) ?_
  refine vv_iload_n 48 2 dX0_init_48 rfl rfl ?_
  refine vv_bipush 49 dX0_init_49 bk_7 ?_
  refine vv_icmp_ge 51 73 dX0_init_51 (by decide) (fun h => absurd h (by decide)) (fun _ => ?_)
  refine vv_aload_n 54 0 dX0_init_54 rfl rfl ?_
  have hl208 : (sh_lay km_425)[208]? = some (0, 0) := by decide +kernel
  refine vv_getR 55 dX0_init_55 fl_0_18 rfl hl208 (show sh_r km_425 208 2 = some 215 by decide +kernel) ?_
  refine vv_iload_n 58 2 dX0_init_58 rfl rfl ?_
  refine vk_new (c1 := 22) (s1 := 1222) 59 dX0_init_59 nw_0_9 (n := 230) hn (μ1 := km_426) rfl rfl rfl (Nat.le_of_ble_eq_true rfl) (Nat.le_of_ble_eq_true rfl) ?_
  have el : km_426 = sh_add km_425 (3, 0) := rfl
  have hl208 : (sh_lay km_426)[208]? = some (0, 0) := by rw [el]; exact sh_lay_add hl208
  have hl230 : (sh_lay km_426)[230]? = some (3, 0) := by rw [el]; exact sh_lay_new hn
  have hn : (sh_lay km_426).length = 231 := by rw [el]; exact sh_len_add hn
  refine vv_dup_ref 62 dX0_init_62 ?_
  refine vk_callIN (c1 := 27) (s1 := 1299) [] 63 dX0_init_63 ck_X0_11 kc_42 (Nat.le_of_ble_eq_true rfl) ⟨Nat.le_of_ble_eq_true rfl, Nat.le_of_ble_eq_true rfl⟩ rfl (Nat.le_of_ble_eq_true rfl) rfl rfl (Nat.le_of_ble_eq_true rfl) (Nat.le_of_ble_eq_true rfl) ?_
  have hn : (sh_lay km_436).length = 236 := by decide +kernel
  have hl215 : (sh_lay km_436)[215]? = some (16, 7) := by decide +kernel
  have hl230 : (sh_lay km_436)[230]? = some (3, 0) := by decide +kernel
  refine vk_aast 66 dX0_init_66 hl215 hl230 (by unfold vp_in; decide) (μ1 := km_437) rfl ?_
  have el : sh_lay km_437 = sh_lay km_436 := by rw [show km_437 = sh_setR km_436 215 (Int32.toNatClampNeg 2) (some 230) from rfl]; exact sh_lyR
  have hn : (sh_lay km_437).length = 236 := by rw [el]; exact hn
  refine vv_iinc (v := 3) (lv' := [(2, _), (0, _), (1, _)]) 67 2 dX0_init_67 rfl (by decide) (by decide) rfl ?_
  refine vv_goto 70 48 dX0_init_70 (by decide) ?_
  refine vv_iload_n 48 2 dX0_init_48 rfl rfl ?_
  refine vv_bipush 49 dX0_init_49 bk_7 ?_
  refine vv_icmp_ge 51 73 dX0_init_51 (by decide) (fun h => absurd h (by decide)) (fun _ => ?_)
  refine vv_aload_n 54 0 dX0_init_54 rfl rfl ?_
  have hl208 : (sh_lay km_437)[208]? = some (0, 0) := by decide +kernel
  refine vv_getR 55 dX0_init_55 fl_0_18 rfl hl208 (show sh_r km_437 208 2 = some 215 by decide +kernel) ?_
  refine vv_iload_n 58 2 dX0_init_58 rfl rfl ?_
  refine vk_new (c1 := 28) (s1 := 1305) 59 dX0_init_59 nw_0_9 (n := 236) hn (μ1 := km_438) rfl rfl rfl (Nat.le_of_ble_eq_true rfl) (Nat.le_of_ble_eq_true rfl) ?_
  have el : km_438 = sh_add km_437 (3, 0) := rfl
  have hl208 : (sh_lay km_438)[208]? = some (0, 0) := by rw [el]; exact sh_lay_add hl208
  have hl236 : (sh_lay km_438)[236]? = some (3, 0) := by rw [el]; exact sh_lay_new hn
  have hn : (sh_lay km_438).length = 237 := by rw [el]; exact sh_len_add hn
  refine vv_dup_ref 62 dX0_init_62 ?_
  refine vk_callIN (c1 := 33) (s1 := 1382) [] 63 dX0_init_63 ck_X0_11 kc_43 (Nat.le_of_ble_eq_true rfl) ⟨Nat.le_of_ble_eq_true rfl, Nat.le_of_ble_eq_true rfl⟩ rfl (Nat.le_of_ble_eq_true rfl) rfl rfl (Nat.le_of_ble_eq_true rfl) (Nat.le_of_ble_eq_true rfl) ?_
  have hn : (sh_lay km_448).length = 242 := by decide +kernel
  have hl215 : (sh_lay km_448)[215]? = some (16, 7) := by decide +kernel
  have hl236 : (sh_lay km_448)[236]? = some (3, 0) := by decide +kernel
  refine vk_aast 66 dX0_init_66 hl215 hl236 (by unfold vp_in; decide) (μ1 := km_449) rfl ?_
  have el : sh_lay km_449 = sh_lay km_448 := by rw [show km_449 = sh_setR km_448 215 (Int32.toNatClampNeg 3) (some 236) from rfl]; exact sh_lyR
  have hn : (sh_lay km_449).length = 242 := by rw [el]; exact hn
  refine vv_iinc (v := 4) (lv' := [(2, _), (0, _), (1, _)]) 67 2 dX0_init_67 rfl (by decide) (by decide) rfl ?_
  refine vv_goto 70 48 dX0_init_70 (by decide) ?_
  refine vv_iload_n 48 2 dX0_init_48 rfl rfl ?_
  refine vv_bipush 49 dX0_init_49 bk_7 ?_
  refine vv_icmp_ge 51 73 dX0_init_51 (by decide) (fun h => absurd h (by decide)) (fun _ => ?_)
  refine vv_aload_n 54 0 dX0_init_54 rfl rfl ?_
  have hl208 : (sh_lay km_449)[208]? = some (0, 0) := by decide +kernel
  refine vv_getR 55 dX0_init_55 fl_0_18 rfl hl208 (show sh_r km_449 208 2 = some 215 by decide +kernel) ?_
  refine vv_iload_n 58 2 dX0_init_58 rfl rfl ?_
  refine vk_new (c1 := 34) (s1 := 1388) 59 dX0_init_59 nw_0_9 (n := 242) hn (μ1 := km_450) rfl rfl rfl (Nat.le_of_ble_eq_true rfl) (Nat.le_of_ble_eq_true rfl) ?_
  have el : km_450 = sh_add km_449 (3, 0) := rfl
  have hl208 : (sh_lay km_450)[208]? = some (0, 0) := by rw [el]; exact sh_lay_add hl208
  have hl242 : (sh_lay km_450)[242]? = some (3, 0) := by rw [el]; exact sh_lay_new hn
  have hn : (sh_lay km_450).length = 243 := by rw [el]; exact sh_len_add hn
  refine vv_dup_ref 62 dX0_init_62 ?_
  refine vk_callIN (c1 := 39) (s1 := 1465) [] 63 dX0_init_63 ck_X0_11 kc_44 (Nat.le_of_ble_eq_true rfl) ⟨Nat.le_of_ble_eq_true rfl, Nat.le_of_ble_eq_true rfl⟩ rfl (Nat.le_of_ble_eq_true rfl) rfl rfl (Nat.le_of_ble_eq_true rfl) (Nat.le_of_ble_eq_true rfl) ?_
  have hn : (sh_lay km_460).length = 248 := by decide +kernel
  have hl215 : (sh_lay km_460)[215]? = some (16, 7) := by decide +kernel
  have hl242 : (sh_lay km_460)[242]? = some (3, 0) := by decide +kernel
  refine vk_aast 66 dX0_init_66 hl215 hl242 (by unfold vp_in; decide) (μ1 := km_461) rfl ?_
  have el : sh_lay km_461 = sh_lay km_460 := by rw [show km_461 = sh_setR km_460 215 (Int32.toNatClampNeg 4) (some 242) from rfl]; exact sh_lyR
  have hn : (sh_lay km_461).length = 248 := by rw [el]; exact hn
  refine vv_iinc (v := 5) (lv' := [(2, _), (0, _), (1, _)]) 67 2 dX0_init_67 rfl (by decide) (by decide) rfl ?_
  refine vv_goto 70 48 dX0_init_70 (by decide) ?_
  refine vv_iload_n 48 2 dX0_init_48 rfl rfl ?_
  refine vv_bipush 49 dX0_init_49 bk_7 ?_
  refine vv_icmp_ge 51 73 dX0_init_51 (by decide) (fun h => absurd h (by decide)) (fun _ => ?_)
  refine vv_aload_n 54 0 dX0_init_54 rfl rfl ?_
  have hl208 : (sh_lay km_461)[208]? = some (0, 0) := by decide +kernel
  refine vv_getR 55 dX0_init_55 fl_0_18 rfl hl208 (show sh_r km_461 208 2 = some 215 by decide +kernel) ?_
  refine vv_iload_n 58 2 dX0_init_58 rfl rfl ?_
  refine vk_new (c1 := 40) (s1 := 1471) 59 dX0_init_59 nw_0_9 (n := 248) hn (μ1 := km_462) rfl rfl rfl (Nat.le_of_ble_eq_true rfl) (Nat.le_of_ble_eq_true rfl) ?_
  have el : km_462 = sh_add km_461 (3, 0) := rfl
  have hl208 : (sh_lay km_462)[208]? = some (0, 0) := by rw [el]; exact sh_lay_add hl208
  have hl248 : (sh_lay km_462)[248]? = some (3, 0) := by rw [el]; exact sh_lay_new hn
  have hn : (sh_lay km_462).length = 249 := by rw [el]; exact sh_len_add hn
  refine vv_dup_ref 62 dX0_init_62 ?_
  refine vk_callIN (c1 := 45) (s1 := 1548) [] 63 dX0_init_63 ck_X0_11 kc_45 (Nat.le_of_ble_eq_true rfl) ⟨Nat.le_of_ble_eq_true rfl, Nat.le_of_ble_eq_true rfl⟩ rfl (Nat.le_of_ble_eq_true rfl) rfl rfl (Nat.le_of_ble_eq_true rfl) (Nat.le_of_ble_eq_true rfl) ?_
  have hn : (sh_lay km_472).length = 254 := by decide +kernel
  have hl215 : (sh_lay km_472)[215]? = some (16, 7) := by decide +kernel
  have hl248 : (sh_lay km_472)[248]? = some (3, 0) := by decide +kernel
  refine vk_aast 66 dX0_init_66 hl215 hl248 (by unfold vp_in; decide) (μ1 := km_473) rfl ?_
  have el : sh_lay km_473 = sh_lay km_472 := by rw [show km_473 = sh_setR km_472 215 (Int32.toNatClampNeg 5) (some 248) from rfl]; exact sh_lyR
  have hn : (sh_lay km_473).length = 254 := by rw [el]; exact hn
  refine vv_iinc (v := 6) (lv' := [(2, _), (0, _), (1, _)]) 67 2 dX0_init_67 rfl (by decide) (by decide) rfl ?_
  refine vv_goto 70 48 dX0_init_70 (by decide) ?_
  refine vv_iload_n 48 2 dX0_init_48 rfl rfl ?_
  refine vv_bipush 49 dX0_init_49 bk_7 ?_
  refine vv_icmp_ge 51 73 dX0_init_51 (by decide) (fun h => absurd h (by decide)) (fun _ => ?_)
  refine vv_aload_n 54 0 dX0_init_54 rfl rfl ?_
  have hl208 : (sh_lay km_473)[208]? = some (0, 0) := by decide +kernel
  refine vv_getR 55 dX0_init_55 fl_0_18 rfl hl208 (show sh_r km_473 208 2 = some 215 by decide +kernel) ?_
  refine vv_iload_n 58 2 dX0_init_58 rfl rfl ?_
  refine vk_new (c1 := 46) (s1 := 1554) 59 dX0_init_59 nw_0_9 (n := 254) hn (μ1 := km_474) rfl rfl rfl (Nat.le_of_ble_eq_true rfl) (Nat.le_of_ble_eq_true rfl) ?_
  have el : km_474 = sh_add km_473 (3, 0) := rfl
  have hl208 : (sh_lay km_474)[208]? = some (0, 0) := by rw [el]; exact sh_lay_add hl208
  have hl254 : (sh_lay km_474)[254]? = some (3, 0) := by rw [el]; exact sh_lay_new hn
  have hn : (sh_lay km_474).length = 255 := by rw [el]; exact sh_len_add hn
  refine vv_dup_ref 62 dX0_init_62 ?_
  refine vk_callIN (c1 := 51) (s1 := 1631) [] 63 dX0_init_63 ck_X0_11 kc_46 (Nat.le_of_ble_eq_true rfl) ⟨Nat.le_of_ble_eq_true rfl, Nat.le_of_ble_eq_true rfl⟩ rfl (Nat.le_of_ble_eq_true rfl) rfl rfl (Nat.le_of_ble_eq_true rfl) (Nat.le_of_ble_eq_true rfl) ?_
  have hn : (sh_lay km_484).length = 260 := by decide +kernel
  have hl215 : (sh_lay km_484)[215]? = some (16, 7) := by decide +kernel
  have hl254 : (sh_lay km_484)[254]? = some (3, 0) := by decide +kernel
  refine vk_aast 66 dX0_init_66 hl215 hl254 (by unfold vp_in; decide) (μ1 := km_485) rfl ?_
  have el : sh_lay km_485 = sh_lay km_484 := by rw [show km_485 = sh_setR km_484 215 (Int32.toNatClampNeg 6) (some 254) from rfl]; exact sh_lyR
  have hn : (sh_lay km_485).length = 260 := by rw [el]; exact hn
  refine vv_iinc (v := 7) (lv' := [(2, _), (0, _), (1, _)]) 67 2 dX0_init_67 rfl (by decide) (by decide) rfl ?_
  refine vv_goto 70 48 dX0_init_70 (by decide) ?_
  refine vv_iload_n 48 2 dX0_init_48 rfl rfl ?_
  refine vv_bipush 49 dX0_init_49 bk_7 ?_
  refine vv_icmp_ge 51 73 dX0_init_51 (by decide) (fun _ => ?_) (fun h => absurd (by decide) h)
  refine vv_vret 73 dX0_init_73 rfl (Nat.le_of_ble_eq_true rfl) (Nat.le_of_ble_eq_true rfl) ⟨rfl, rfl⟩
set_option maxHeartbeats 40000000 in
theorem kc_48 : sh_Con l B D ca 1 5 77 M_X3_init [.ref 263] km_493 (fun v μ' => v = none ∧ μ' = km_503) := by
  have hn : (sh_lay km_493).length = 264 := by decide +kernel
  refine vv_aload_n 0 0 dX3_init_0 rfl rfl ?_
  refine vv_objInit 1 dX3_init_1 ck_X3_3 (Nat.le_of_ble_eq_true rfl) (Nat.le_of_ble_eq_true rfl) ?_
  refine vv_aload_n 4 0 dX3_init_4 rfl rfl ?_
  refine vv_bipush 5 dX3_init_5 bk_49 ?_
  refine vk_newa (N := 49) (c1 := 1) (s1 := 49) 13 .int (Or.inl ⟨rfl, rfl⟩) 7 dX3_init_7 ac_13 (by decide) (by decide) (Nat.le_of_ble_eq_true rfl) (n := 264) hn (μ1 := km_494) rfl rfl rfl (Nat.le_of_ble_eq_true rfl) (Nat.le_of_ble_eq_true rfl) ?_
  have el : km_494 = sh_add km_493 (13, 49) := rfl
  have hl264 : (sh_lay km_494)[264]? = some (13, 49) := by rw [el]; exact sh_lay_new hn
  have hn : (sh_lay km_494).length = 265 := by rw [el]; exact sh_len_add hn
  have hl263 : (sh_lay km_494)[263]? = some (3, 0) := by decide +kernel
  refine vn_putR 9 dX3_init_9 fl_3_9 (Or.inr ⟨rfl, rfl, rfl⟩) rfl hl263 (fun y ey => ?_)
  obtain rfl : y = km_495 := ey
  have el : sh_lay km_495 = sh_lay km_494 := by rw [show km_495 = sh_setR km_494 263 1 (some 264) from rfl]; exact sh_lyR
  have hl263 : (sh_lay km_495)[263]? = some (3, 0) := by rw [el]; exact hl263
  have hn : (sh_lay km_495).length = 265 := by rw [el]; exact hn
  refine vv_aload_n 12 0 dX3_init_12 rfl rfl ?_
  refine vv_bipush 13 dX3_init_13 bk_7 ?_
  refine vk_newa (N := 7) (c1 := 2) (s1 := 56) 13 .int (Or.inl ⟨rfl, rfl⟩) 15 dX3_init_15 ac_13 (by decide) (by decide) (Nat.le_of_ble_eq_true rfl) (n := 265) hn (μ1 := km_496) rfl rfl rfl (Nat.le_of_ble_eq_true rfl) (Nat.le_of_ble_eq_true rfl) ?_
  have el : km_496 = sh_add km_495 (13, 7) := rfl
  have hl263 : (sh_lay km_496)[263]? = some (3, 0) := by rw [el]; exact sh_lay_add hl263
  have hl265 : (sh_lay km_496)[265]? = some (13, 7) := by rw [el]; exact sh_lay_new hn
  have hn : (sh_lay km_496).length = 266 := by rw [el]; exact sh_len_add hn
  refine vn_putR 17 dX3_init_17 fl_3_15 (Or.inr ⟨rfl, rfl, rfl⟩) rfl hl263 (fun y ey => ?_)
  obtain rfl : y = km_497 := ey
  have el : sh_lay km_497 = sh_lay km_496 := by rw [show km_497 = sh_setR km_496 263 2 (some 265) from rfl]; exact sh_lyR
  have hl263 : (sh_lay km_497)[263]? = some (3, 0) := by rw [el]; exact hl263
  have hn : (sh_lay km_497).length = 266 := by rw [el]; exact hn
  refine vv_aload_n 20 0 dX3_init_20 rfl rfl ?_
  refine vv_bipush 21 dX3_init_21 bk_7 ?_
  refine vk_newa (N := 7) (c1 := 3) (s1 := 63) 13 .int (Or.inl ⟨rfl, rfl⟩) 23 dX3_init_23 ac_13 (by decide) (by decide) (Nat.le_of_ble_eq_true rfl) (n := 266) hn (μ1 := km_498) rfl rfl rfl (Nat.le_of_ble_eq_true rfl) (Nat.le_of_ble_eq_true rfl) ?_
  have el : km_498 = sh_add km_497 (13, 7) := rfl
  have hl263 : (sh_lay km_498)[263]? = some (3, 0) := by rw [el]; exact sh_lay_add hl263
  have hl266 : (sh_lay km_498)[266]? = some (13, 7) := by rw [el]; exact sh_lay_new hn
  have hn : (sh_lay km_498).length = 267 := by rw [el]; exact sh_len_add hn
  refine vn_putR 25 dX3_init_25 fl_3_18 (Or.inr ⟨rfl, rfl, rfl⟩) rfl hl263 (fun y ey => ?_)
  obtain rfl : y = km_499 := ey
  have el : sh_lay km_499 = sh_lay km_498 := by rw [show km_499 = sh_setR km_498 263 3 (some 266) from rfl]; exact sh_lyR
  have hl263 : (sh_lay km_499)[263]? = some (3, 0) := by rw [el]; exact hl263
  have hn : (sh_lay km_499).length = 267 := by rw [el]; exact hn
  refine vv_aload_n 28 0 dX3_init_28 rfl rfl ?_
  refine vv_bipush 29 dX3_init_29 bk_7 ?_
  refine vk_newa (N := 7) (c1 := 4) (s1 := 70) 13 .int (Or.inl ⟨rfl, rfl⟩) 31 dX3_init_31 ac_13 (by decide) (by decide) (Nat.le_of_ble_eq_true rfl) (n := 267) hn (μ1 := km_500) rfl rfl rfl (Nat.le_of_ble_eq_true rfl) (Nat.le_of_ble_eq_true rfl) ?_
  have el : km_500 = sh_add km_499 (13, 7) := rfl
  have hl263 : (sh_lay km_500)[263]? = some (3, 0) := by rw [el]; exact sh_lay_add hl263
  have hl267 : (sh_lay km_500)[267]? = some (13, 7) := by rw [el]; exact sh_lay_new hn
  have hn : (sh_lay km_500).length = 268 := by rw [el]; exact sh_len_add hn
  refine vn_putR 33 dX3_init_33 fl_3_21 (Or.inr ⟨rfl, rfl, rfl⟩) rfl hl263 (fun y ey => ?_)
  obtain rfl : y = km_501 := ey
  have el : sh_lay km_501 = sh_lay km_500 := by rw [show km_501 = sh_setR km_500 263 4 (some 267) from rfl]; exact sh_lyR
  have hl263 : (sh_lay km_501)[263]? = some (3, 0) := by rw [el]; exact hl263
  have hn : (sh_lay km_501).length = 268 := by rw [el]; exact hn
  refine vv_aload_n 36 0 dX3_init_36 rfl rfl ?_
  refine vv_bipush 37 dX3_init_37 bk_7 ?_
  refine vk_newa (N := 7) (c1 := 5) (s1 := 77) 13 .int (Or.inl ⟨rfl, rfl⟩) 39 dX3_init_39 ac_13 (by decide) (by decide) (Nat.le_of_ble_eq_true rfl) (n := 268) hn (μ1 := km_502) rfl rfl rfl (Nat.le_of_ble_eq_true rfl) (Nat.le_of_ble_eq_true rfl) ?_
  have el : km_502 = sh_add km_501 (13, 7) := rfl
  have hl263 : (sh_lay km_502)[263]? = some (3, 0) := by rw [el]; exact sh_lay_add hl263
  have hl268 : (sh_lay km_502)[268]? = some (13, 7) := by rw [el]; exact sh_lay_new hn
  have hn : (sh_lay km_502).length = 269 := by rw [el]; exact sh_len_add hn
  refine vn_putR 41 dX3_init_41 fl_3_24 (Or.inr ⟨rfl, rfl, rfl⟩) rfl hl263 (fun y ey => ?_)
  obtain rfl : y = km_503 := ey
  have el : sh_lay km_503 = sh_lay km_502 := by rw [show km_503 = sh_setR km_502 263 5 (some 268) from rfl]; exact sh_lyR
  have hl263 : (sh_lay km_503)[263]? = some (3, 0) := by rw [el]; exact hl263
  have hn : (sh_lay km_503).length = 269 := by rw [el]; exact hn
  refine vv_vret 44 dX3_init_44 rfl (Nat.le_of_ble_eq_true rfl) (Nat.le_of_ble_eq_true rfl) ⟨rfl, rfl⟩
set_option maxHeartbeats 40000000 in
theorem kc_49 : sh_Con l B D ca 1 5 77 M_X3_init [.ref 269] km_505 (fun v μ' => v = none ∧ μ' = km_515) := by
  have hn : (sh_lay km_505).length = 270 := by decide +kernel
  refine vv_aload_n 0 0 dX3_init_0 rfl rfl ?_
  refine vv_objInit 1 dX3_init_1 ck_X3_3 (Nat.le_of_ble_eq_true rfl) (Nat.le_of_ble_eq_true rfl) ?_
  refine vv_aload_n 4 0 dX3_init_4 rfl rfl ?_
  refine vv_bipush 5 dX3_init_5 bk_49 ?_
  refine vk_newa (N := 49) (c1 := 1) (s1 := 49) 13 .int (Or.inl ⟨rfl, rfl⟩) 7 dX3_init_7 ac_13 (by decide) (by decide) (Nat.le_of_ble_eq_true rfl) (n := 270) hn (μ1 := km_506) rfl rfl rfl (Nat.le_of_ble_eq_true rfl) (Nat.le_of_ble_eq_true rfl) ?_
  have el : km_506 = sh_add km_505 (13, 49) := rfl
  have hl270 : (sh_lay km_506)[270]? = some (13, 49) := by rw [el]; exact sh_lay_new hn
  have hn : (sh_lay km_506).length = 271 := by rw [el]; exact sh_len_add hn
  have hl269 : (sh_lay km_506)[269]? = some (3, 0) := by decide +kernel
  refine vn_putR 9 dX3_init_9 fl_3_9 (Or.inr ⟨rfl, rfl, rfl⟩) rfl hl269 (fun y ey => ?_)
  obtain rfl : y = km_507 := ey
  have el : sh_lay km_507 = sh_lay km_506 := by rw [show km_507 = sh_setR km_506 269 1 (some 270) from rfl]; exact sh_lyR
  have hl269 : (sh_lay km_507)[269]? = some (3, 0) := by rw [el]; exact hl269
  have hn : (sh_lay km_507).length = 271 := by rw [el]; exact hn
  refine vv_aload_n 12 0 dX3_init_12 rfl rfl ?_
  refine vv_bipush 13 dX3_init_13 bk_7 ?_
  refine vk_newa (N := 7) (c1 := 2) (s1 := 56) 13 .int (Or.inl ⟨rfl, rfl⟩) 15 dX3_init_15 ac_13 (by decide) (by decide) (Nat.le_of_ble_eq_true rfl) (n := 271) hn (μ1 := km_508) rfl rfl rfl (Nat.le_of_ble_eq_true rfl) (Nat.le_of_ble_eq_true rfl) ?_
  have el : km_508 = sh_add km_507 (13, 7) := rfl
  have hl269 : (sh_lay km_508)[269]? = some (3, 0) := by rw [el]; exact sh_lay_add hl269
  have hl271 : (sh_lay km_508)[271]? = some (13, 7) := by rw [el]; exact sh_lay_new hn
  have hn : (sh_lay km_508).length = 272 := by rw [el]; exact sh_len_add hn
  refine vn_putR 17 dX3_init_17 fl_3_15 (Or.inr ⟨rfl, rfl, rfl⟩) rfl hl269 (fun y ey => ?_)
  obtain rfl : y = km_509 := ey
  have el : sh_lay km_509 = sh_lay km_508 := by rw [show km_509 = sh_setR km_508 269 2 (some 271) from rfl]; exact sh_lyR
  have hl269 : (sh_lay km_509)[269]? = some (3, 0) := by rw [el]; exact hl269
  have hn : (sh_lay km_509).length = 272 := by rw [el]; exact hn
  refine vv_aload_n 20 0 dX3_init_20 rfl rfl ?_
  refine vv_bipush 21 dX3_init_21 bk_7 ?_
  refine vk_newa (N := 7) (c1 := 3) (s1 := 63) 13 .int (Or.inl ⟨rfl, rfl⟩) 23 dX3_init_23 ac_13 (by decide) (by decide) (Nat.le_of_ble_eq_true rfl) (n := 272) hn (μ1 := km_510) rfl rfl rfl (Nat.le_of_ble_eq_true rfl) (Nat.le_of_ble_eq_true rfl) ?_
  have el : km_510 = sh_add km_509 (13, 7) := rfl
  have hl269 : (sh_lay km_510)[269]? = some (3, 0) := by rw [el]; exact sh_lay_add hl269
  have hl272 : (sh_lay km_510)[272]? = some (13, 7) := by rw [el]; exact sh_lay_new hn
  have hn : (sh_lay km_510).length = 273 := by rw [el]; exact sh_len_add hn
  refine vn_putR 25 dX3_init_25 fl_3_18 (Or.inr ⟨rfl, rfl, rfl⟩) rfl hl269 (fun y ey => ?_)
  obtain rfl : y = km_511 := ey
  have el : sh_lay km_511 = sh_lay km_510 := by rw [show km_511 = sh_setR km_510 269 3 (some 272) from rfl]; exact sh_lyR
  have hl269 : (sh_lay km_511)[269]? = some (3, 0) := by rw [el]; exact hl269
  have hn : (sh_lay km_511).length = 273 := by rw [el]; exact hn
  refine vv_aload_n 28 0 dX3_init_28 rfl rfl ?_
  refine vv_bipush 29 dX3_init_29 bk_7 ?_
  refine vk_newa (N := 7) (c1 := 4) (s1 := 70) 13 .int (Or.inl ⟨rfl, rfl⟩) 31 dX3_init_31 ac_13 (by decide) (by decide) (Nat.le_of_ble_eq_true rfl) (n := 273) hn (μ1 := km_512) rfl rfl rfl (Nat.le_of_ble_eq_true rfl) (Nat.le_of_ble_eq_true rfl) ?_
  have el : km_512 = sh_add km_511 (13, 7) := rfl
  have hl269 : (sh_lay km_512)[269]? = some (3, 0) := by rw [el]; exact sh_lay_add hl269
  have hl273 : (sh_lay km_512)[273]? = some (13, 7) := by rw [el]; exact sh_lay_new hn
  have hn : (sh_lay km_512).length = 274 := by rw [el]; exact sh_len_add hn
  refine vn_putR 33 dX3_init_33 fl_3_21 (Or.inr ⟨rfl, rfl, rfl⟩) rfl hl269 (fun y ey => ?_)
  obtain rfl : y = km_513 := ey
  have el : sh_lay km_513 = sh_lay km_512 := by rw [show km_513 = sh_setR km_512 269 4 (some 273) from rfl]; exact sh_lyR
  have hl269 : (sh_lay km_513)[269]? = some (3, 0) := by rw [el]; exact hl269
  have hn : (sh_lay km_513).length = 274 := by rw [el]; exact hn
  refine vv_aload_n 36 0 dX3_init_36 rfl rfl ?_
  refine vv_bipush 37 dX3_init_37 bk_7 ?_
  refine vk_newa (N := 7) (c1 := 5) (s1 := 77) 13 .int (Or.inl ⟨rfl, rfl⟩) 39 dX3_init_39 ac_13 (by decide) (by decide) (Nat.le_of_ble_eq_true rfl) (n := 274) hn (μ1 := km_514) rfl rfl rfl (Nat.le_of_ble_eq_true rfl) (Nat.le_of_ble_eq_true rfl) ?_
  have el : km_514 = sh_add km_513 (13, 7) := rfl
  have hl269 : (sh_lay km_514)[269]? = some (3, 0) := by rw [el]; exact sh_lay_add hl269
  have hl274 : (sh_lay km_514)[274]? = some (13, 7) := by rw [el]; exact sh_lay_new hn
  have hn : (sh_lay km_514).length = 275 := by rw [el]; exact sh_len_add hn
  refine vn_putR 41 dX3_init_41 fl_3_24 (Or.inr ⟨rfl, rfl, rfl⟩) rfl hl269 (fun y ey => ?_)
  obtain rfl : y = km_515 := ey
  have el : sh_lay km_515 = sh_lay km_514 := by rw [show km_515 = sh_setR km_514 269 5 (some 274) from rfl]; exact sh_lyR
  have hl269 : (sh_lay km_515)[269]? = some (3, 0) := by rw [el]; exact hl269
  have hn : (sh_lay km_515).length = 275 := by rw [el]; exact hn
  refine vv_vret 44 dX3_init_44 rfl (Nat.le_of_ble_eq_true rfl) (Nat.le_of_ble_eq_true rfl) ⟨rfl, rfl⟩
set_option maxHeartbeats 40000000 in
theorem kc_50 : sh_Con l B D ca 1 5 77 M_X3_init [.ref 275] km_517 (fun v μ' => v = none ∧ μ' = km_527) := by
  have hn : (sh_lay km_517).length = 276 := by decide +kernel
  refine vv_aload_n 0 0 dX3_init_0 rfl rfl ?_
  refine vv_objInit 1 dX3_init_1 ck_X3_3 (Nat.le_of_ble_eq_true rfl) (Nat.le_of_ble_eq_true rfl) ?_
  refine vv_aload_n 4 0 dX3_init_4 rfl rfl ?_
  refine vv_bipush 5 dX3_init_5 bk_49 ?_
  refine vk_newa (N := 49) (c1 := 1) (s1 := 49) 13 .int (Or.inl ⟨rfl, rfl⟩) 7 dX3_init_7 ac_13 (by decide) (by decide) (Nat.le_of_ble_eq_true rfl) (n := 276) hn (μ1 := km_518) rfl rfl rfl (Nat.le_of_ble_eq_true rfl) (Nat.le_of_ble_eq_true rfl) ?_
  have el : km_518 = sh_add km_517 (13, 49) := rfl
  have hl276 : (sh_lay km_518)[276]? = some (13, 49) := by rw [el]; exact sh_lay_new hn
  have hn : (sh_lay km_518).length = 277 := by rw [el]; exact sh_len_add hn
  have hl275 : (sh_lay km_518)[275]? = some (3, 0) := by decide +kernel
  refine vn_putR 9 dX3_init_9 fl_3_9 (Or.inr ⟨rfl, rfl, rfl⟩) rfl hl275 (fun y ey => ?_)
  obtain rfl : y = km_519 := ey
  have el : sh_lay km_519 = sh_lay km_518 := by rw [show km_519 = sh_setR km_518 275 1 (some 276) from rfl]; exact sh_lyR
  have hl275 : (sh_lay km_519)[275]? = some (3, 0) := by rw [el]; exact hl275
  have hn : (sh_lay km_519).length = 277 := by rw [el]; exact hn
  refine vv_aload_n 12 0 dX3_init_12 rfl rfl ?_
  refine vv_bipush 13 dX3_init_13 bk_7 ?_
  refine vk_newa (N := 7) (c1 := 2) (s1 := 56) 13 .int (Or.inl ⟨rfl, rfl⟩) 15 dX3_init_15 ac_13 (by decide) (by decide) (Nat.le_of_ble_eq_true rfl) (n := 277) hn (μ1 := km_520) rfl rfl rfl (Nat.le_of_ble_eq_true rfl) (Nat.le_of_ble_eq_true rfl) ?_
  have el : km_520 = sh_add km_519 (13, 7) := rfl
  have hl275 : (sh_lay km_520)[275]? = some (3, 0) := by rw [el]; exact sh_lay_add hl275
  have hl277 : (sh_lay km_520)[277]? = some (13, 7) := by rw [el]; exact sh_lay_new hn
  have hn : (sh_lay km_520).length = 278 := by rw [el]; exact sh_len_add hn
  refine vn_putR 17 dX3_init_17 fl_3_15 (Or.inr ⟨rfl, rfl, rfl⟩) rfl hl275 (fun y ey => ?_)
  obtain rfl : y = km_521 := ey
  have el : sh_lay km_521 = sh_lay km_520 := by rw [show km_521 = sh_setR km_520 275 2 (some 277) from rfl]; exact sh_lyR
  have hl275 : (sh_lay km_521)[275]? = some (3, 0) := by rw [el]; exact hl275
  have hn : (sh_lay km_521).length = 278 := by rw [el]; exact hn
  refine vv_aload_n 20 0 dX3_init_20 rfl rfl ?_
  refine vv_bipush 21 dX3_init_21 bk_7 ?_
  refine vk_newa (N := 7) (c1 := 3) (s1 := 63) 13 .int (Or.inl ⟨rfl, rfl⟩) 23 dX3_init_23 ac_13 (by decide) (by decide) (Nat.le_of_ble_eq_true rfl) (n := 278) hn (μ1 := km_522) rfl rfl rfl (Nat.le_of_ble_eq_true rfl) (Nat.le_of_ble_eq_true rfl) ?_
  have el : km_522 = sh_add km_521 (13, 7) := rfl
  have hl275 : (sh_lay km_522)[275]? = some (3, 0) := by rw [el]; exact sh_lay_add hl275
  have hl278 : (sh_lay km_522)[278]? = some (13, 7) := by rw [el]; exact sh_lay_new hn
  have hn : (sh_lay km_522).length = 279 := by rw [el]; exact sh_len_add hn
  refine vn_putR 25 dX3_init_25 fl_3_18 (Or.inr ⟨rfl, rfl, rfl⟩) rfl hl275 (fun y ey => ?_)
  obtain rfl : y = km_523 := ey
  have el : sh_lay km_523 = sh_lay km_522 := by rw [show km_523 = sh_setR km_522 275 3 (some 278) from rfl]; exact sh_lyR
  have hl275 : (sh_lay km_523)[275]? = some (3, 0) := by rw [el]; exact hl275
  have hn : (sh_lay km_523).length = 279 := by rw [el]; exact hn
  refine vv_aload_n 28 0 dX3_init_28 rfl rfl ?_
  refine vv_bipush 29 dX3_init_29 bk_7 ?_
  refine vk_newa (N := 7) (c1 := 4) (s1 := 70) 13 .int (Or.inl ⟨rfl, rfl⟩) 31 dX3_init_31 ac_13 (by decide) (by decide) (Nat.le_of_ble_eq_true rfl) (n := 279) hn (μ1 := km_524) rfl rfl rfl (Nat.le_of_ble_eq_true rfl) (Nat.le_of_ble_eq_true rfl) ?_
  have el : km_524 = sh_add km_523 (13, 7) := rfl
  have hl275 : (sh_lay km_524)[275]? = some (3, 0) := by rw [el]; exact sh_lay_add hl275
  have hl279 : (sh_lay km_524)[279]? = some (13, 7) := by rw [el]; exact sh_lay_new hn
  have hn : (sh_lay km_524).length = 280 := by rw [el]; exact sh_len_add hn
  refine vn_putR 33 dX3_init_33 fl_3_21 (Or.inr ⟨rfl, rfl, rfl⟩) rfl hl275 (fun y ey => ?_)
  obtain rfl : y = km_525 := ey
  have el : sh_lay km_525 = sh_lay km_524 := by rw [show km_525 = sh_setR km_524 275 4 (some 279) from rfl]; exact sh_lyR
  have hl275 : (sh_lay km_525)[275]? = some (3, 0) := by rw [el]; exact hl275
  have hn : (sh_lay km_525).length = 280 := by rw [el]; exact hn
  refine vv_aload_n 36 0 dX3_init_36 rfl rfl ?_
  refine vv_bipush 37 dX3_init_37 bk_7 ?_
  refine vk_newa (N := 7) (c1 := 5) (s1 := 77) 13 .int (Or.inl ⟨rfl, rfl⟩) 39 dX3_init_39 ac_13 (by decide) (by decide) (Nat.le_of_ble_eq_true rfl) (n := 280) hn (μ1 := km_526) rfl rfl rfl (Nat.le_of_ble_eq_true rfl) (Nat.le_of_ble_eq_true rfl) ?_
  have el : km_526 = sh_add km_525 (13, 7) := rfl
  have hl275 : (sh_lay km_526)[275]? = some (3, 0) := by rw [el]; exact sh_lay_add hl275
  have hl280 : (sh_lay km_526)[280]? = some (13, 7) := by rw [el]; exact sh_lay_new hn
  have hn : (sh_lay km_526).length = 281 := by rw [el]; exact sh_len_add hn
  refine vn_putR 41 dX3_init_41 fl_3_24 (Or.inr ⟨rfl, rfl, rfl⟩) rfl hl275 (fun y ey => ?_)
  obtain rfl : y = km_527 := ey
  have el : sh_lay km_527 = sh_lay km_526 := by rw [show km_527 = sh_setR km_526 275 5 (some 280) from rfl]; exact sh_lyR
  have hl275 : (sh_lay km_527)[275]? = some (3, 0) := by rw [el]; exact hl275
  have hn : (sh_lay km_527).length = 281 := by rw [el]; exact hn
  refine vv_vret 44 dX3_init_44 rfl (Nat.le_of_ble_eq_true rfl) (Nat.le_of_ble_eq_true rfl) ⟨rfl, rfl⟩
set_option maxHeartbeats 40000000 in
theorem kc_51 : sh_Con l B D ca 1 5 77 M_X3_init [.ref 281] km_529 (fun v μ' => v = none ∧ μ' = km_539) := by
  have hn : (sh_lay km_529).length = 282 := by decide +kernel
  refine vv_aload_n 0 0 dX3_init_0 rfl rfl ?_
  refine vv_objInit 1 dX3_init_1 ck_X3_3 (Nat.le_of_ble_eq_true rfl) (Nat.le_of_ble_eq_true rfl) ?_
  refine vv_aload_n 4 0 dX3_init_4 rfl rfl ?_
  refine vv_bipush 5 dX3_init_5 bk_49 ?_
  refine vk_newa (N := 49) (c1 := 1) (s1 := 49) 13 .int (Or.inl ⟨rfl, rfl⟩) 7 dX3_init_7 ac_13 (by decide) (by decide) (Nat.le_of_ble_eq_true rfl) (n := 282) hn (μ1 := km_530) rfl rfl rfl (Nat.le_of_ble_eq_true rfl) (Nat.le_of_ble_eq_true rfl) ?_
  have el : km_530 = sh_add km_529 (13, 49) := rfl
  have hl282 : (sh_lay km_530)[282]? = some (13, 49) := by rw [el]; exact sh_lay_new hn
  have hn : (sh_lay km_530).length = 283 := by rw [el]; exact sh_len_add hn
  have hl281 : (sh_lay km_530)[281]? = some (3, 0) := by decide +kernel
  refine vn_putR 9 dX3_init_9 fl_3_9 (Or.inr ⟨rfl, rfl, rfl⟩) rfl hl281 (fun y ey => ?_)
  obtain rfl : y = km_531 := ey
  have el : sh_lay km_531 = sh_lay km_530 := by rw [show km_531 = sh_setR km_530 281 1 (some 282) from rfl]; exact sh_lyR
  have hl281 : (sh_lay km_531)[281]? = some (3, 0) := by rw [el]; exact hl281
  have hn : (sh_lay km_531).length = 283 := by rw [el]; exact hn
  refine vv_aload_n 12 0 dX3_init_12 rfl rfl ?_
  refine vv_bipush 13 dX3_init_13 bk_7 ?_
  refine vk_newa (N := 7) (c1 := 2) (s1 := 56) 13 .int (Or.inl ⟨rfl, rfl⟩) 15 dX3_init_15 ac_13 (by decide) (by decide) (Nat.le_of_ble_eq_true rfl) (n := 283) hn (μ1 := km_532) rfl rfl rfl (Nat.le_of_ble_eq_true rfl) (Nat.le_of_ble_eq_true rfl) ?_
  have el : km_532 = sh_add km_531 (13, 7) := rfl
  have hl281 : (sh_lay km_532)[281]? = some (3, 0) := by rw [el]; exact sh_lay_add hl281
  have hl283 : (sh_lay km_532)[283]? = some (13, 7) := by rw [el]; exact sh_lay_new hn
  have hn : (sh_lay km_532).length = 284 := by rw [el]; exact sh_len_add hn
  refine vn_putR 17 dX3_init_17 fl_3_15 (Or.inr ⟨rfl, rfl, rfl⟩) rfl hl281 (fun y ey => ?_)
  obtain rfl : y = km_533 := ey
  have el : sh_lay km_533 = sh_lay km_532 := by rw [show km_533 = sh_setR km_532 281 2 (some 283) from rfl]; exact sh_lyR
  have hl281 : (sh_lay km_533)[281]? = some (3, 0) := by rw [el]; exact hl281
  have hn : (sh_lay km_533).length = 284 := by rw [el]; exact hn
  refine vv_aload_n 20 0 dX3_init_20 rfl rfl ?_
  refine vv_bipush 21 dX3_init_21 bk_7 ?_
  refine vk_newa (N := 7) (c1 := 3) (s1 := 63) 13 .int (Or.inl ⟨rfl, rfl⟩) 23 dX3_init_23 ac_13 (by decide) (by decide) (Nat.le_of_ble_eq_true rfl) (n := 284) hn (μ1 := km_534) rfl rfl rfl (Nat.le_of_ble_eq_true rfl) (Nat.le_of_ble_eq_true rfl) ?_
  have el : km_534 = sh_add km_533 (13, 7) := rfl
  have hl281 : (sh_lay km_534)[281]? = some (3, 0) := by rw [el]; exact sh_lay_add hl281
  have hl284 : (sh_lay km_534)[284]? = some (13, 7) := by rw [el]; exact sh_lay_new hn
  have hn : (sh_lay km_534).length = 285 := by rw [el]; exact sh_len_add hn
  refine vn_putR 25 dX3_init_25 fl_3_18 (Or.inr ⟨rfl, rfl, rfl⟩) rfl hl281 (fun y ey => ?_)
  obtain rfl : y = km_535 := ey
  have el : sh_lay km_535 = sh_lay km_534 := by rw [show km_535 = sh_setR km_534 281 3 (some 284) from rfl]; exact sh_lyR
  have hl281 : (sh_lay km_535)[281]? = some (3, 0) := by rw [el]; exact hl281
  have hn : (sh_lay km_535).length = 285 := by rw [el]; exact hn
  refine vv_aload_n 28 0 dX3_init_28 rfl rfl ?_
  refine vv_bipush 29 dX3_init_29 bk_7 ?_
  refine vk_newa (N := 7) (c1 := 4) (s1 := 70) 13 .int (Or.inl ⟨rfl, rfl⟩) 31 dX3_init_31 ac_13 (by decide) (by decide) (Nat.le_of_ble_eq_true rfl) (n := 285) hn (μ1 := km_536) rfl rfl rfl (Nat.le_of_ble_eq_true rfl) (Nat.le_of_ble_eq_true rfl) ?_
  have el : km_536 = sh_add km_535 (13, 7) := rfl
  have hl281 : (sh_lay km_536)[281]? = some (3, 0) := by rw [el]; exact sh_lay_add hl281
  have hl285 : (sh_lay km_536)[285]? = some (13, 7) := by rw [el]; exact sh_lay_new hn
  have hn : (sh_lay km_536).length = 286 := by rw [el]; exact sh_len_add hn
  refine vn_putR 33 dX3_init_33 fl_3_21 (Or.inr ⟨rfl, rfl, rfl⟩) rfl hl281 (fun y ey => ?_)
  obtain rfl : y = km_537 := ey
  have el : sh_lay km_537 = sh_lay km_536 := by rw [show km_537 = sh_setR km_536 281 4 (some 285) from rfl]; exact sh_lyR
  have hl281 : (sh_lay km_537)[281]? = some (3, 0) := by rw [el]; exact hl281
  have hn : (sh_lay km_537).length = 286 := by rw [el]; exact hn
  refine vv_aload_n 36 0 dX3_init_36 rfl rfl ?_
  refine vv_bipush 37 dX3_init_37 bk_7 ?_
  refine vk_newa (N := 7) (c1 := 5) (s1 := 77) 13 .int (Or.inl ⟨rfl, rfl⟩) 39 dX3_init_39 ac_13 (by decide) (by decide) (Nat.le_of_ble_eq_true rfl) (n := 286) hn (μ1 := km_538) rfl rfl rfl (Nat.le_of_ble_eq_true rfl) (Nat.le_of_ble_eq_true rfl) ?_
  have el : km_538 = sh_add km_537 (13, 7) := rfl
  have hl281 : (sh_lay km_538)[281]? = some (3, 0) := by rw [el]; exact sh_lay_add hl281
  have hl286 : (sh_lay km_538)[286]? = some (13, 7) := by rw [el]; exact sh_lay_new hn
  have hn : (sh_lay km_538).length = 287 := by rw [el]; exact sh_len_add hn
  refine vn_putR 41 dX3_init_41 fl_3_24 (Or.inr ⟨rfl, rfl, rfl⟩) rfl hl281 (fun y ey => ?_)
  obtain rfl : y = km_539 := ey
  have el : sh_lay km_539 = sh_lay km_538 := by rw [show km_539 = sh_setR km_538 281 5 (some 286) from rfl]; exact sh_lyR
  have hl281 : (sh_lay km_539)[281]? = some (3, 0) := by rw [el]; exact hl281
  have hn : (sh_lay km_539).length = 287 := by rw [el]; exact hn
  refine vv_vret 44 dX3_init_44 rfl (Nat.le_of_ble_eq_true rfl) (Nat.le_of_ble_eq_true rfl) ⟨rfl, rfl⟩
set_option maxHeartbeats 40000000 in
theorem kc_52 : sh_Con l B D ca 2 26 339 M_X7_init [.ref 260, .ref 55] km_487 (fun v μ' => v = none ∧ μ' = km_540) := by
  have hn : (sh_lay km_487).length = 261 := by decide +kernel
  refine vv_aload_n 0 0 dX7_init_0 rfl rfl ?_
  refine vv_objInit 1 dX7_init_1 ck_X7_3 (Nat.le_of_ble_eq_true rfl) (Nat.le_of_ble_eq_true rfl) ?_
  refine vv_aload_n 4 0 dX7_init_4 rfl rfl ?_
  refine vv_iconst 5 dX7_init_5 ik_4 ?_
  refine vk_anew (N := 4) (c1 := 1) (s1 := 4) 6 dX7_init_6 nw_7_9 (by decide) (by decide) (Nat.le_of_ble_eq_true rfl) (n := 261) hn (μ1 := km_488) rfl rfl rfl (Nat.le_of_ble_eq_true rfl) (Nat.le_of_ble_eq_true rfl) ?_
  have el : km_488 = sh_add km_487 (16, 4) := rfl
  have hl261 : (sh_lay km_488)[261]? = some (16, 4) := by rw [el]; exact sh_lay_new hn
  have hn : (sh_lay km_488).length = 262 := by rw [el]; exact sh_len_add hn
  have hl260 : (sh_lay km_488)[260]? = some (7, 0) := by decide +kernel
  refine vn_putR 9 dX7_init_9 fl_7_11 (Or.inr ⟨rfl, rfl, rfl⟩) rfl hl260 (fun y ey => ?_)
  obtain rfl : y = km_489 := ey
  have el : sh_lay km_489 = sh_lay km_488 := by rw [show km_489 = sh_setR km_488 260 1 (some 261) from rfl]; exact sh_lyR
  have hl260 : (sh_lay km_489)[260]? = some (7, 0) := by rw [el]; exact hl260
  have hn : (sh_lay km_489).length = 262 := by rw [el]; exact hn
  refine vv_aload_n 12 0 dX7_init_12 rfl rfl ?_
  refine vv_iconst 13 dX7_init_13 ik_3 ?_
  refine vk_newa (N := 3) (c1 := 2) (s1 := 7) 13 .int (Or.inl ⟨rfl, rfl⟩) 14 dX7_init_14 ac_13 (by decide) (by decide) (Nat.le_of_ble_eq_true rfl) (n := 262) hn (μ1 := km_490) rfl rfl rfl (Nat.le_of_ble_eq_true rfl) (Nat.le_of_ble_eq_true rfl) ?_
  have el : km_490 = sh_add km_489 (13, 3) := rfl
  have hl260 : (sh_lay km_490)[260]? = some (7, 0) := by rw [el]; exact sh_lay_add hl260
  have hl262 : (sh_lay km_490)[262]? = some (13, 3) := by rw [el]; exact sh_lay_new hn
  have hn : (sh_lay km_490).length = 263 := by rw [el]; exact sh_len_add hn
  refine vn_putR 16 dX7_init_16 fl_7_17 (Or.inr ⟨rfl, rfl, rfl⟩) rfl hl260 (fun y ey => ?_)
  obtain rfl : y = km_491 := ey
  have el : sh_lay km_491 = sh_lay km_490 := by rw [show km_491 = sh_setR km_490 260 2 (some 262) from rfl]; exact sh_lyR
  have hl260 : (sh_lay km_491)[260]? = some (7, 0) := by rw [el]; exact hl260
  have hn : (sh_lay km_491).length = 263 := by rw [el]; exact hn
  refine vv_aload_n 19 0 dX7_init_19 rfl rfl ?_
  refine vv_aload_n 20 1 dX7_init_20 rfl rfl ?_
  refine vn_putR 21 dX7_init_21 fl_7_21 (Or.inr ⟨rfl, rfl, rfl⟩) rfl hl260 (fun y ey => ?_)
  obtain rfl : y = km_492 := ey
  have el : sh_lay km_492 = sh_lay km_491 := by rw [show km_492 = sh_setR km_491 260 0 (some 55) from rfl]; exact sh_lyR
  have hl260 : (sh_lay km_492)[260]? = some (7, 0) := by rw [el]; exact hl260
  have hn : (sh_lay km_492).length = 263 := by rw [el]; exact hn
  refine vv_iconst 24 dX7_init_24 ik_0 ?_
  refine vv_istore_n (lv' := [(2, _), (0, _), (1, _)]) 25 2 dX7_init_25 rfl (by decide) rfl ?_
  refine vv_iload_n 26 2 dX7_init_26 rfl rfl ?_
  refine vv_iconst 27 dX7_init_27 ik_3 ?_
  refine vv_icmp_gt 28 50 dX7_init_28 (by decide) (fun h => absurd h (by decide)) (fun _ => ?_)
  refine vv_aload_n 31 0 dX7_init_31 rfl rfl ?_
  refine vv_getR 32 dX7_init_32 fl_7_11 rfl hl260 (show sh_r km_492 260 1 = some 261 by decide +kernel) ?_
  refine vv_iload_n 35 2 dX7_init_35 rfl rfl ?_
  refine vk_new (c1 := 3) (s1 := 13) 36 dX7_init_36 nw_7_9 (n := 263) hn (μ1 := km_493) rfl rfl rfl (Nat.le_of_ble_eq_true rfl) (Nat.le_of_ble_eq_true rfl) ?_
  have el : km_493 = sh_add km_492 (3, 0) := rfl
  have hl260 : (sh_lay km_493)[260]? = some (7, 0) := by rw [el]; exact sh_lay_add hl260
  have hl263 : (sh_lay km_493)[263]? = some (3, 0) := by rw [el]; exact sh_lay_new hn
  have hn : (sh_lay km_493).length = 264 := by rw [el]; exact sh_len_add hn
  refine vv_dup_ref 39 dX7_init_39 ?_
  refine vk_callIN (c1 := 8) (s1 := 90) [] 40 dX7_init_40 ck_X7_25 kc_48 (Nat.le_of_ble_eq_true rfl) ⟨Nat.le_of_ble_eq_true rfl, Nat.le_of_ble_eq_true rfl⟩ rfl (Nat.le_of_ble_eq_true rfl) rfl rfl (Nat.le_of_ble_eq_true rfl) (Nat.le_of_ble_eq_true rfl) ?_
  have hn : (sh_lay km_503).length = 269 := by decide +kernel
  have hl261 : (sh_lay km_503)[261]? = some (16, 4) := by decide +kernel
  have hl263 : (sh_lay km_503)[263]? = some (3, 0) := by decide +kernel
  refine vk_aast 43 dX7_init_43 hl261 hl263 (by unfold vp_in; decide) (μ1 := km_504) rfl ?_
  have el : sh_lay km_504 = sh_lay km_503 := by rw [show km_504 = sh_setR km_503 261 (Int32.toNatClampNeg 0) (some 263) from rfl]; exact sh_lyR
  have hn : (sh_lay km_504).length = 269 := by rw [el]; exact hn
  refine vv_iinc (v := 1) (lv' := [(2, _), (0, _), (1, _)]) 44 2 dX7_init_44 rfl (by decide) (by decide) rfl ?_
  refine vv_goto 47 26 dX7_init_47 (by decide) ?_
  refine vv_iload_n 26 2 dX7_init_26 rfl rfl ?_
  refine vv_iconst 27 dX7_init_27 ik_3 ?_
  refine vv_icmp_gt 28 50 dX7_init_28 (by decide) (fun h => absurd h (by decide)) (fun _ => ?_)
  refine vv_aload_n 31 0 dX7_init_31 rfl rfl ?_
  have hl260 : (sh_lay km_504)[260]? = some (7, 0) := by decide +kernel
  refine vv_getR 32 dX7_init_32 fl_7_11 rfl hl260 (show sh_r km_504 260 1 = some 261 by decide +kernel) ?_
  refine vv_iload_n 35 2 dX7_init_35 rfl rfl ?_
  refine vk_new (c1 := 9) (s1 := 96) 36 dX7_init_36 nw_7_9 (n := 269) hn (μ1 := km_505) rfl rfl rfl (Nat.le_of_ble_eq_true rfl) (Nat.le_of_ble_eq_true rfl) ?_
  have el : km_505 = sh_add km_504 (3, 0) := rfl
  have hl260 : (sh_lay km_505)[260]? = some (7, 0) := by rw [el]; exact sh_lay_add hl260
  have hl269 : (sh_lay km_505)[269]? = some (3, 0) := by rw [el]; exact sh_lay_new hn
  have hn : (sh_lay km_505).length = 270 := by rw [el]; exact sh_len_add hn
  refine vv_dup_ref 39 dX7_init_39 ?_
  refine vk_callIN (c1 := 14) (s1 := 173) [] 40 dX7_init_40 ck_X7_25 kc_49 (Nat.le_of_ble_eq_true rfl) ⟨Nat.le_of_ble_eq_true rfl, Nat.le_of_ble_eq_true rfl⟩ rfl (Nat.le_of_ble_eq_true rfl) rfl rfl (Nat.le_of_ble_eq_true rfl) (Nat.le_of_ble_eq_true rfl) ?_
  have hn : (sh_lay km_515).length = 275 := by decide +kernel
  have hl261 : (sh_lay km_515)[261]? = some (16, 4) := by decide +kernel
  have hl269 : (sh_lay km_515)[269]? = some (3, 0) := by decide +kernel
  refine vk_aast 43 dX7_init_43 hl261 hl269 (by unfold vp_in; decide) (μ1 := km_516) rfl ?_
  have el : sh_lay km_516 = sh_lay km_515 := by rw [show km_516 = sh_setR km_515 261 (Int32.toNatClampNeg 1) (some 269) from rfl]; exact sh_lyR
  have hn : (sh_lay km_516).length = 275 := by rw [el]; exact hn
  refine vv_iinc (v := 2) (lv' := [(2, _), (0, _), (1, _)]) 44 2 dX7_init_44 rfl (by decide) (by decide) rfl ?_
  refine vv_goto 47 26 dX7_init_47 (by decide) ?_
  refine vv_iload_n 26 2 dX7_init_26 rfl rfl ?_
  refine vv_iconst 27 dX7_init_27 ik_3 ?_
  refine vv_icmp_gt 28 50 dX7_init_28 (by decide) (fun h => absurd h (by decide)) (fun _ => ?_)
  refine vv_aload_n 31 0 dX7_init_31 rfl rfl ?_
  have hl260 : (sh_lay km_516)[260]? = some (7, 0) := by decide +kernel
  refine vv_getR 32 dX7_init_32 fl_7_11 rfl hl260 (show sh_r km_516 260 1 = some 261 by decide +kernel) ?_
  refine vv_iload_n 35 2 dX7_init_35 rfl rfl ?_
  refine vk_new (c1 := 15) (s1 := 179) 36 dX7_init_36 nw_7_9 (n := 275) hn (μ1 := km_517) rfl rfl rfl (Nat.le_of_ble_eq_true rfl) (Nat.le_of_ble_eq_true rfl) ?_
  have el : km_517 = sh_add km_516 (3, 0) := rfl
  have hl260 : (sh_lay km_517)[260]? = some (7, 0) := by rw [el]; exact sh_lay_add hl260
  have hl275 : (sh_lay km_517)[275]? = some (3, 0) := by rw [el]; exact sh_lay_new hn
  have hn : (sh_lay km_517).length = 276 := by rw [el]; exact sh_len_add hn
  refine vv_dup_ref 39 dX7_init_39 ?_
  refine vk_callIN (c1 := 20) (s1 := 256) [] 40 dX7_init_40 ck_X7_25 kc_50 (Nat.le_of_ble_eq_true rfl) ⟨Nat.le_of_ble_eq_true rfl, Nat.le_of_ble_eq_true rfl⟩ rfl (Nat.le_of_ble_eq_true rfl) rfl rfl (Nat.le_of_ble_eq_true rfl) (Nat.le_of_ble_eq_true rfl) ?_
  have hn : (sh_lay km_527).length = 281 := by decide +kernel
  have hl261 : (sh_lay km_527)[261]? = some (16, 4) := by decide +kernel
  have hl275 : (sh_lay km_527)[275]? = some (3, 0) := by decide +kernel
  refine vk_aast 43 dX7_init_43 hl261 hl275 (by unfold vp_in; decide) (μ1 := km_528) rfl ?_
  have el : sh_lay km_528 = sh_lay km_527 := by rw [show km_528 = sh_setR km_527 261 (Int32.toNatClampNeg 2) (some 275) from rfl]; exact sh_lyR
  have hn : (sh_lay km_528).length = 281 := by rw [el]; exact hn
  refine vv_iinc (v := 3) (lv' := [(2, _), (0, _), (1, _)]) 44 2 dX7_init_44 rfl (by decide) (by decide) rfl ?_
  refine vv_goto 47 26 dX7_init_47 (by decide) ?_
  refine vv_iload_n 26 2 dX7_init_26 rfl rfl ?_
  refine vv_iconst 27 dX7_init_27 ik_3 ?_
  refine vv_icmp_gt 28 50 dX7_init_28 (by decide) (fun h => absurd h (by decide)) (fun _ => ?_)
  refine vv_aload_n 31 0 dX7_init_31 rfl rfl ?_
  have hl260 : (sh_lay km_528)[260]? = some (7, 0) := by decide +kernel
  refine vv_getR 32 dX7_init_32 fl_7_11 rfl hl260 (show sh_r km_528 260 1 = some 261 by decide +kernel) ?_
  refine vv_iload_n 35 2 dX7_init_35 rfl rfl ?_
  refine vk_new (c1 := 21) (s1 := 262) 36 dX7_init_36 nw_7_9 (n := 281) hn (μ1 := km_529) rfl rfl rfl (Nat.le_of_ble_eq_true rfl) (Nat.le_of_ble_eq_true rfl) ?_
  have el : km_529 = sh_add km_528 (3, 0) := rfl
  have hl260 : (sh_lay km_529)[260]? = some (7, 0) := by rw [el]; exact sh_lay_add hl260
  have hl281 : (sh_lay km_529)[281]? = some (3, 0) := by rw [el]; exact sh_lay_new hn
  have hn : (sh_lay km_529).length = 282 := by rw [el]; exact sh_len_add hn
  refine vv_dup_ref 39 dX7_init_39 ?_
  refine vk_callIN (c1 := 26) (s1 := 339) [] 40 dX7_init_40 ck_X7_25 kc_51 (Nat.le_of_ble_eq_true rfl) ⟨Nat.le_of_ble_eq_true rfl, Nat.le_of_ble_eq_true rfl⟩ rfl (Nat.le_of_ble_eq_true rfl) rfl rfl (Nat.le_of_ble_eq_true rfl) (Nat.le_of_ble_eq_true rfl) ?_
  have hn : (sh_lay km_539).length = 287 := by decide +kernel
  have hl261 : (sh_lay km_539)[261]? = some (16, 4) := by decide +kernel
  have hl281 : (sh_lay km_539)[281]? = some (3, 0) := by decide +kernel
  refine vk_aast 43 dX7_init_43 hl261 hl281 (by unfold vp_in; decide) (μ1 := km_540) rfl ?_
  have el : sh_lay km_540 = sh_lay km_539 := by rw [show km_540 = sh_setR km_539 261 (Int32.toNatClampNeg 3) (some 281) from rfl]; exact sh_lyR
  have hn : (sh_lay km_540).length = 287 := by rw [el]; exact hn
  refine vv_iinc (v := 4) (lv' := [(2, _), (0, _), (1, _)]) 44 2 dX7_init_44 rfl (by decide) (by decide) rfl ?_
  refine vv_goto 47 26 dX7_init_47 (by decide) ?_
  refine vv_iload_n 26 2 dX7_init_26 rfl rfl ?_
  refine vv_iconst 27 dX7_init_27 ik_3 ?_
  refine vv_icmp_gt 28 50 dX7_init_28 (by decide) (fun _ => ?_) (fun h => absurd (by decide) h)
  refine vv_vret 50 dX7_init_50 rfl (Nat.le_of_ble_eq_true rfl) (Nat.le_of_ble_eq_true rfl) ⟨rfl, rfl⟩
set_option maxHeartbeats 40000000 in
theorem kc_53 : sh_Con l B D ca 1 1 49 M_X9_init [.ref 287] km_542 (fun v μ' => v = none ∧ μ' = km_544) := by
  have hn : (sh_lay km_542).length = 288 := by decide +kernel
  refine vv_aload_n 0 0 dX9_init_0 rfl rfl ?_
  refine vv_objInit 1 dX9_init_1 ck_X9_3 (Nat.le_of_ble_eq_true rfl) (Nat.le_of_ble_eq_true rfl) ?_
  refine vv_aload_n 4 0 dX9_init_4 rfl rfl ?_
  refine vv_bipush 5 dX9_init_5 bk_49 ?_
  refine vk_newa (N := 49) (c1 := 1) (s1 := 49) 13 .int (Or.inl ⟨rfl, rfl⟩) 7 dX9_init_7 ac_13 (by decide) (by decide) (Nat.le_of_ble_eq_true rfl) (n := 288) hn (μ1 := km_543) rfl rfl rfl (Nat.le_of_ble_eq_true rfl) (Nat.le_of_ble_eq_true rfl) ?_
  have el : km_543 = sh_add km_542 (13, 49) := rfl
  have hl288 : (sh_lay km_543)[288]? = some (13, 49) := by rw [el]; exact sh_lay_new hn
  have hn : (sh_lay km_543).length = 289 := by rw [el]; exact sh_len_add hn
  have hl287 : (sh_lay km_543)[287]? = some (9, 0) := by decide +kernel
  refine vn_putR 9 dX9_init_9 fl_9_9 (Or.inr ⟨rfl, rfl, rfl⟩) rfl hl287 (fun y ey => ?_)
  obtain rfl : y = km_544 := ey
  have el : sh_lay km_544 = sh_lay km_543 := by rw [show km_544 = sh_setR km_543 287 0 (some 288) from rfl]; exact sh_lyR
  have hl287 : (sh_lay km_544)[287]? = some (9, 0) := by rw [el]; exact hl287
  have hn : (sh_lay km_544).length = 289 := by rw [el]; exact hn
  refine vv_vret 12 dX9_init_12 rfl (Nat.le_of_ble_eq_true rfl) (Nat.le_of_ble_eq_true rfl) ⟨rfl, rfl⟩
set_option maxHeartbeats 40000000 in
theorem kc_54 : sh_Con l B D ca 4 290 21019 M_X11_init [.ref 0] km_1 (fun v μ' => v = none ∧ μ' = km_551) := by
  have hn : (sh_lay km_1).length = 1 := by decide +kernel
  refine vv_aload_n 0 0 dX11_init_0 rfl rfl ?_
  refine vv_objInit 1 dX11_init_1 ck_X11_1 (Nat.le_of_ble_eq_true rfl) (Nat.le_of_ble_eq_true rfl) ?_
  refine vv_aload_n 4 0 dX11_init_4 rfl rfl ?_
  refine vv_sipush 5 dX11_init_5 sk_1600 ?_
  refine vk_newa (N := 1600) (c1 := 1) (s1 := 1600) 13 .int (Or.inl ⟨rfl, rfl⟩) 8 dX11_init_8 ac_13 (by decide) (by decide) (Nat.le_of_ble_eq_true rfl) (n := 1) hn (μ1 := km_2) rfl rfl rfl (Nat.le_of_ble_eq_true rfl) (Nat.le_of_ble_eq_true rfl) ?_
  have el : km_2 = sh_add km_1 (13, 1600) := rfl
  have hl1 : (sh_lay km_2)[1]? = some (13, 1600) := by rw [el]; exact sh_lay_new hn
  have hn : (sh_lay km_2).length = 2 := by rw [el]; exact sh_len_add hn
  have hl0 : (sh_lay km_2)[0]? = some (11, 0) := by decide +kernel
  refine vn_putR 10 dX11_init_10 fl_11_9 (Or.inr ⟨rfl, rfl, rfl⟩) rfl hl0 (fun y ey => ?_)
  obtain rfl : y = km_3 := ey
  have el : sh_lay km_3 = sh_lay km_2 := by rw [show km_3 = sh_setR km_2 0 0 (some 1) from rfl]; exact sh_lyR
  have hl0 : (sh_lay km_3)[0]? = some (11, 0) := by rw [el]; exact hl0
  have hn : (sh_lay km_3).length = 2 := by rw [el]; exact hn
  refine vv_aload_n 13 0 dX11_init_13 rfl rfl ?_
  refine vk_new (c1 := 2) (s1 := 1612) 14 dX11_init_14 nw_11_13 (n := 2) hn (μ1 := km_4) rfl rfl rfl (Nat.le_of_ble_eq_true rfl) (Nat.le_of_ble_eq_true rfl) ?_
  have el : km_4 = sh_add km_3 (8, 0) := rfl
  have hl0 : (sh_lay km_4)[0]? = some (11, 0) := by rw [el]; exact sh_lay_add hl0
  have hl2 : (sh_lay km_4)[2]? = some (8, 0) := by rw [el]; exact sh_lay_new hn
  have hn : (sh_lay km_4).length = 3 := by rw [el]; exact sh_len_add hn
  refine vv_dup_ref 17 dX11_init_17 ?_
  refine vv_aload_n 18 0 dX11_init_18 rfl rfl ?_
  refine vv_getR 19 dX11_init_19 fl_11_9 rfl hl0 (show sh_r km_4 0 0 = some 1 by decide +kernel) ?_
  refine vk_callI (c1 := 2) (s1 := 1612) [_] 22 dX11_init_22 ck_X11_15 kc_1 (Nat.le_of_ble_eq_true rfl) ⟨Nat.le_of_ble_eq_true rfl, Nat.le_of_ble_eq_true rfl⟩ rfl (Nat.le_of_ble_eq_true rfl) rfl rfl (Nat.le_of_ble_eq_true rfl) (Nat.le_of_ble_eq_true rfl) ?_
  have hn : (sh_lay km_5).length = 3 := by decide +kernel
  have hl0 : (sh_lay km_5)[0]? = some (11, 0) := by decide +kernel
  refine vn_putR 25 dX11_init_25 fl_11_18 (Or.inr ⟨rfl, rfl, rfl⟩) rfl hl0 (fun y ey => ?_)
  obtain rfl : y = km_6 := ey
  have el : sh_lay km_6 = sh_lay km_5 := by rw [show km_6 = sh_setR km_5 0 2 (some 2) from rfl]; exact sh_lyR
  have hl0 : (sh_lay km_6)[0]? = some (11, 0) := by rw [el]; exact hl0
  have hn : (sh_lay km_6).length = 3 := by rw [el]; exact hn
  refine vv_aload_n 28 0 dX11_init_28 rfl rfl ?_
  refine vk_new (c1 := 3) (s1 := 1615) 29 dX11_init_29 nw_11_22 (n := 3) hn (μ1 := km_7) rfl rfl rfl (Nat.le_of_ble_eq_true rfl) (Nat.le_of_ble_eq_true rfl) ?_
  have el : km_7 = sh_add km_6 (1, 0) := rfl
  have hl0 : (sh_lay km_7)[0]? = some (11, 0) := by rw [el]; exact sh_lay_add hl0
  have hl3 : (sh_lay km_7)[3]? = some (1, 0) := by rw [el]; exact sh_lay_new hn
  have hn : (sh_lay km_7).length = 4 := by rw [el]; exact sh_len_add hn
  refine vv_dup_ref 32 dX11_init_32 ?_
  refine vk_callIN (c1 := 5) (s1 := 3279) [] 33 dX11_init_33 ck_X11_24 kc_2 (Nat.le_of_ble_eq_true rfl) ⟨Nat.le_of_ble_eq_true rfl, Nat.le_of_ble_eq_true rfl⟩ rfl (Nat.le_of_ble_eq_true rfl) rfl rfl (Nat.le_of_ble_eq_true rfl) (Nat.le_of_ble_eq_true rfl) ?_
  have hn : (sh_lay km_11).length = 6 := by decide +kernel
  have hl0 : (sh_lay km_11)[0]? = some (11, 0) := by decide +kernel
  refine vn_putR 36 dX11_init_36 fl_11_25 (Or.inr ⟨rfl, rfl, rfl⟩) rfl hl0 (fun y ey => ?_)
  obtain rfl : y = km_12 := ey
  have el : sh_lay km_12 = sh_lay km_11 := by rw [show km_12 = sh_setR km_11 0 3 (some 3) from rfl]; exact sh_lyR
  have hl0 : (sh_lay km_12)[0]? = some (11, 0) := by rw [el]; exact hl0
  have hn : (sh_lay km_12).length = 6 := by rw [el]; exact hn
  refine vv_aload_n 39 0 dX11_init_39 rfl rfl ?_
  refine vk_new (c1 := 6) (s1 := 3282) 40 dX11_init_40 nw_11_29 (n := 6) hn (μ1 := km_13) rfl rfl rfl (Nat.le_of_ble_eq_true rfl) (Nat.le_of_ble_eq_true rfl) ?_
  have el : km_13 = sh_add km_12 (2, 0) := rfl
  have hl0 : (sh_lay km_13)[0]? = some (11, 0) := by rw [el]; exact sh_lay_add hl0
  have hl6 : (sh_lay km_13)[6]? = some (2, 0) := by rw [el]; exact sh_lay_new hn
  have hn : (sh_lay km_13).length = 7 := by rw [el]; exact sh_len_add hn
  refine vv_dup_ref 43 dX11_init_43 ?_
  refine vv_aload_n 44 0 dX11_init_44 rfl rfl ?_
  refine vv_getR 45 dX11_init_45 fl_11_18 rfl hl0 (show sh_r km_13 0 2 = some 2 by decide +kernel) ?_
  refine vv_aload_n 48 0 dX11_init_48 rfl rfl ?_
  refine vv_getR 49 dX11_init_49 fl_11_25 rfl hl0 (show sh_r km_13 0 3 = some 3 by decide +kernel) ?_
  refine vk_callI (c1 := 6) (s1 := 3282) [_, _] 52 dX11_init_52 ck_X11_31 kc_3 (Nat.le_of_ble_eq_true rfl) ⟨Nat.le_of_ble_eq_true rfl, Nat.le_of_ble_eq_true rfl⟩ rfl (Nat.le_of_ble_eq_true rfl) rfl rfl (Nat.le_of_ble_eq_true rfl) (Nat.le_of_ble_eq_true rfl) ?_
  have hn : (sh_lay km_15).length = 7 := by decide +kernel
  have hl0 : (sh_lay km_15)[0]? = some (11, 0) := by decide +kernel
  refine vn_putR 55 dX11_init_55 fl_11_34 (Or.inr ⟨rfl, rfl, rfl⟩) rfl hl0 (fun y ey => ?_)
  obtain rfl : y = km_16 := ey
  have el : sh_lay km_16 = sh_lay km_15 := by rw [show km_16 = sh_setR km_15 0 4 (some 6) from rfl]; exact sh_lyR
  have hl0 : (sh_lay km_16)[0]? = some (11, 0) := by rw [el]; exact hl0
  have hn : (sh_lay km_16).length = 7 := by rw [el]; exact hn
  refine vv_aload_n 58 0 dX11_init_58 rfl rfl ?_
  refine vk_new (c1 := 7) (s1 := 3285) 59 dX11_init_59 nw_11_38 (n := 7) hn (μ1 := km_17) rfl rfl rfl (Nat.le_of_ble_eq_true rfl) (Nat.le_of_ble_eq_true rfl) ?_
  have el : km_17 = sh_add km_16 (6, 0) := rfl
  have hl0 : (sh_lay km_17)[0]? = some (11, 0) := by rw [el]; exact sh_lay_add hl0
  have hl7 : (sh_lay km_17)[7]? = some (6, 0) := by rw [el]; exact sh_lay_new hn
  have hn : (sh_lay km_17).length = 8 := by rw [el]; exact sh_len_add hn
  refine vv_dup_ref 62 dX11_init_62 ?_
  refine vv_aload_n 63 0 dX11_init_63 rfl rfl ?_
  refine vv_getR 64 dX11_init_64 fl_11_18 rfl hl0 (show sh_r km_17 0 2 = some 2 by decide +kernel) ?_
  refine vv_aload_n 67 0 dX11_init_67 rfl rfl ?_
  refine vv_getR 68 dX11_init_68 fl_11_34 rfl hl0 (show sh_r km_17 0 4 = some 6 by decide +kernel) ?_
  refine vk_callI (c1 := 27) (s1 := 8422) [_, _] 71 dX11_init_71 ck_X11_40 kc_9 (Nat.le_of_ble_eq_true rfl) ⟨Nat.le_of_ble_eq_true rfl, Nat.le_of_ble_eq_true rfl⟩ rfl (Nat.le_of_ble_eq_true rfl) rfl rfl (Nat.le_of_ble_eq_true rfl) (Nat.le_of_ble_eq_true rfl) ?_
  have hn : (sh_lay km_59).length = 28 := by decide +kernel
  have hl0 : (sh_lay km_59)[0]? = some (11, 0) := by decide +kernel
  refine vn_putR 74 dX11_init_74 fl_11_43 (Or.inr ⟨rfl, rfl, rfl⟩) rfl hl0 (fun y ey => ?_)
  obtain rfl : y = km_60 := ey
  have el : sh_lay km_60 = sh_lay km_59 := by rw [show km_60 = sh_setR km_59 0 5 (some 7) from rfl]; exact sh_lyR
  have hl0 : (sh_lay km_60)[0]? = some (11, 0) := by rw [el]; exact hl0
  have hn : (sh_lay km_60).length = 28 := by rw [el]; exact hn
  refine vv_aload_n 77 0 dX11_init_77 rfl rfl ?_
  refine vv_bipush 78 dX11_init_78 bk_38 ?_
  refine vk_newa (N := 38) (c1 := 28) (s1 := 8460) 13 .int (Or.inl ⟨rfl, rfl⟩) 80 dX11_init_80 ac_13 (by decide) (by decide) (Nat.le_of_ble_eq_true rfl) (n := 28) hn (μ1 := km_61) rfl rfl rfl (Nat.le_of_ble_eq_true rfl) (Nat.le_of_ble_eq_true rfl) ?_
  have el : km_61 = sh_add km_60 (13, 38) := rfl
  have hl0 : (sh_lay km_61)[0]? = some (11, 0) := by rw [el]; exact sh_lay_add hl0
  have hl28 : (sh_lay km_61)[28]? = some (13, 38) := by rw [el]; exact sh_lay_new hn
  have hn : (sh_lay km_61).length = 29 := by rw [el]; exact sh_len_add hn
  refine vn_putR 82 dX11_init_82 fl_11_47 (Or.inr ⟨rfl, rfl, rfl⟩) rfl hl0 (fun y ey => ?_)
  obtain rfl : y = km_62 := ey
  have el : sh_lay km_62 = sh_lay km_61 := by rw [show km_62 = sh_setR km_61 0 6 (some 28) from rfl]; exact sh_lyR
  have hl0 : (sh_lay km_62)[0]? = some (11, 0) := by rw [el]; exact hl0
  have hn : (sh_lay km_62).length = 29 := by rw [el]; exact hn
  refine vv_aload_n 85 0 dX11_init_85 rfl rfl ?_
  refine vk_new (c1 := 29) (s1 := 8477) 86 dX11_init_86 nw_11_50 (n := 29) hn (μ1 := km_63) rfl rfl rfl (Nat.le_of_ble_eq_true rfl) (Nat.le_of_ble_eq_true rfl) ?_
  have el : km_63 = sh_add km_62 (5, 0) := rfl
  have hl0 : (sh_lay km_63)[0]? = some (11, 0) := by rw [el]; exact sh_lay_add hl0
  have hl29 : (sh_lay km_63)[29]? = some (5, 0) := by rw [el]; exact sh_lay_new hn
  have hn : (sh_lay km_63).length = 30 := by rw [el]; exact sh_len_add hn
  refine vv_dup_ref 89 dX11_init_89 ?_
  refine vk_callIN (c1 := 48) (s1 := 13597) [] 90 dX11_init_90 ck_X11_52 kc_14 (Nat.le_of_ble_eq_true rfl) ⟨Nat.le_of_ble_eq_true rfl, Nat.le_of_ble_eq_true rfl⟩ rfl (Nat.le_of_ble_eq_true rfl) rfl rfl (Nat.le_of_ble_eq_true rfl) (Nat.le_of_ble_eq_true rfl) ?_
  have hn : (sh_lay km_101).length = 49 := by decide +kernel
  have hl0 : (sh_lay km_101)[0]? = some (11, 0) := by decide +kernel
  refine vn_putR 93 dX11_init_93 fl_11_53 (Or.inl rfl) rfl hl0 (fun y ey => ?_)
  obtain rfl : y = km_102 := ey
  have el : sh_lay km_102 = sh_lay km_101 := by rw [show km_102 = sh_setR km_101 0 7 (some 29) from rfl]; exact sh_lyR
  have hl0 : (sh_lay km_102)[0]? = some (11, 0) := by rw [el]; exact hl0
  have hn : (sh_lay km_102).length = 49 := by rw [el]; exact hn
  refine vv_aload_n 96 0 dX11_init_96 rfl rfl ?_
  refine vk_new (c1 := 49) (s1 := 13603) 97 dX11_init_97 nw_11_57 (n := 49) hn (μ1 := km_103) rfl rfl rfl (Nat.le_of_ble_eq_true rfl) (Nat.le_of_ble_eq_true rfl) ?_
  have el : km_103 = sh_add km_102 (3, 0) := rfl
  have hl0 : (sh_lay km_103)[0]? = some (11, 0) := by rw [el]; exact sh_lay_add hl0
  have hl49 : (sh_lay km_103)[49]? = some (3, 0) := by rw [el]; exact sh_lay_new hn
  have hn : (sh_lay km_103).length = 50 := by rw [el]; exact sh_len_add hn
  refine vv_dup_ref 100 dX11_init_100 ?_
  refine vk_callIN (c1 := 54) (s1 := 13680) [] 101 dX11_init_101 ck_X11_59 kc_15 (Nat.le_of_ble_eq_true rfl) ⟨Nat.le_of_ble_eq_true rfl, Nat.le_of_ble_eq_true rfl⟩ rfl (Nat.le_of_ble_eq_true rfl) rfl rfl (Nat.le_of_ble_eq_true rfl) (Nat.le_of_ble_eq_true rfl) ?_
  have hn : (sh_lay km_113).length = 55 := by decide +kernel
  have hl0 : (sh_lay km_113)[0]? = some (11, 0) := by decide +kernel
  refine vn_putR 104 dX11_init_104 fl_11_60 (Or.inr ⟨rfl, rfl, rfl⟩) rfl hl0 (fun y ey => ?_)
  obtain rfl : y = km_114 := ey
  have el : sh_lay km_114 = sh_lay km_113 := by rw [show km_114 = sh_setR km_113 0 8 (some 49) from rfl]; exact sh_lyR
  have hl0 : (sh_lay km_114)[0]? = some (11, 0) := by rw [el]; exact hl0
  have hn : (sh_lay km_114).length = 55 := by rw [el]; exact hn
  refine vv_aload_n 107 0 dX11_init_107 rfl rfl ?_
  refine vk_new (c1 := 55) (s1 := 13689) 108 dX11_init_108 nw_11_64 (n := 55) hn (μ1 := km_115) rfl rfl rfl (Nat.le_of_ble_eq_true rfl) (Nat.le_of_ble_eq_true rfl) ?_
  have el : km_115 = sh_add km_114 (10, 0) := rfl
  have hl0 : (sh_lay km_115)[0]? = some (11, 0) := by rw [el]; exact sh_lay_add hl0
  have hl55 : (sh_lay km_115)[55]? = some (10, 0) := by rw [el]; exact sh_lay_new hn
  have hn : (sh_lay km_115).length = 56 := by rw [el]; exact sh_len_add hn
  refine vv_dup_ref 111 dX11_init_111 ?_
  refine vv_aload_n 112 0 dX11_init_112 rfl rfl ?_
  refine vv_getR 113 dX11_init_113 fl_11_53 rfl hl0 (show sh_r km_115 0 7 = some 29 by decide +kernel) ?_
  refine vk_callI (c1 := 62) (s1 := 13810) [_] 116 dX11_init_116 ck_X11_66 kc_17 (Nat.le_of_ble_eq_true rfl) ⟨Nat.le_of_ble_eq_true rfl, Nat.le_of_ble_eq_true rfl⟩ rfl (Nat.le_of_ble_eq_true rfl) rfl rfl (Nat.le_of_ble_eq_true rfl) (Nat.le_of_ble_eq_true rfl) ?_
  have hn : (sh_lay km_130).length = 63 := by decide +kernel
  have hl0 : (sh_lay km_130)[0]? = some (11, 0) := by decide +kernel
  refine vn_putR 119 dX11_init_119 fl_11_69 (Or.inr ⟨rfl, rfl, rfl⟩) rfl hl0 (fun y ey => ?_)
  obtain rfl : y = km_131 := ey
  have el : sh_lay km_131 = sh_lay km_130 := by rw [show km_131 = sh_setR km_130 0 9 (some 55) from rfl]; exact sh_lyR
  have hl0 : (sh_lay km_131)[0]? = some (11, 0) := by rw [el]; exact hl0
  have hn : (sh_lay km_131).length = 63 := by rw [el]; exact hn
  refine vv_aload_n 122 0 dX11_init_122 rfl rfl ?_
  refine vk_new (c1 := 63) (s1 := 13817) 123 dX11_init_123 nw_11_73 (n := 63) hn (μ1 := km_132) rfl rfl rfl (Nat.le_of_ble_eq_true rfl) (Nat.le_of_ble_eq_true rfl) ?_
  have el : km_132 = sh_add km_131 (4, 0) := rfl
  have hl0 : (sh_lay km_132)[0]? = some (11, 0) := by rw [el]; exact sh_lay_add hl0
  have hl63 : (sh_lay km_132)[63]? = some (4, 0) := by rw [el]; exact sh_lay_new hn
  have hn : (sh_lay km_132).length = 64 := by rw [el]; exact sh_len_add hn
  refine vv_dup_ref 126 dX11_init_126 ?_
  refine vk_callI (c1 := 207) (s1 := 18897) [] 127 dX11_init_127 ck_X11_75 kc_38 (Nat.le_of_ble_eq_true rfl) ⟨Nat.le_of_ble_eq_true rfl, Nat.le_of_ble_eq_true rfl⟩ rfl (Nat.le_of_ble_eq_true rfl) rfl rfl (Nat.le_of_ble_eq_true rfl) (Nat.le_of_ble_eq_true rfl) ?_
  have hn : (sh_lay km_380).length = 208 := by decide +kernel
  have hl0 : (sh_lay km_380)[0]? = some (11, 0) := by decide +kernel
  refine vn_putR 130 dX11_init_130 fl_11_76 (Or.inr ⟨rfl, rfl, rfl⟩) rfl hl0 (fun y ey => ?_)
  obtain rfl : y = km_381 := ey
  have el : sh_lay km_381 = sh_lay km_380 := by rw [show km_381 = sh_setR km_380 0 10 (some 63) from rfl]; exact sh_lyR
  have hl0 : (sh_lay km_381)[0]? = some (11, 0) := by rw [el]; exact hl0
  have hn : (sh_lay km_381).length = 208 := by rw [el]; exact hn
  refine vv_aload_n 133 0 dX11_init_133 rfl rfl ?_
  refine vk_new (c1 := 208) (s1 := 18906) 134 dX11_init_134 nw_11_80 (n := 208) hn (μ1 := km_382) rfl rfl rfl (Nat.le_of_ble_eq_true rfl) (Nat.le_of_ble_eq_true rfl) ?_
  have el : km_382 = sh_add km_381 (0, 0) := rfl
  have hl0 : (sh_lay km_382)[0]? = some (11, 0) := by rw [el]; exact sh_lay_add hl0
  have hl208 : (sh_lay km_382)[208]? = some (0, 0) := by rw [el]; exact sh_lay_new hn
  have hn : (sh_lay km_382).length = 209 := by rw [el]; exact sh_len_add hn
  refine vv_dup_ref 137 dX11_init_137 ?_
  refine vv_aload_n 138 0 dX11_init_138 rfl rfl ?_
  refine vv_getR 139 dX11_init_139 fl_11_69 rfl hl0 (show sh_r km_382 0 9 = some 55 by decide +kernel) ?_
  refine vk_callI (c1 := 259) (s1 := 20537) [_] 142 dX11_init_142 ck_X11_82 kc_47 (Nat.le_of_ble_eq_true rfl) ⟨Nat.le_of_ble_eq_true rfl, Nat.le_of_ble_eq_true rfl⟩ rfl (Nat.le_of_ble_eq_true rfl) rfl rfl (Nat.le_of_ble_eq_true rfl) (Nat.le_of_ble_eq_true rfl) ?_
  have hn : (sh_lay km_485).length = 260 := by decide +kernel
  have hl0 : (sh_lay km_485)[0]? = some (11, 0) := by decide +kernel
  refine vn_putR 145 dX11_init_145 fl_11_85 (Or.inr ⟨rfl, rfl, rfl⟩) rfl hl0 (fun y ey => ?_)
  obtain rfl : y = km_486 := ey
  have el : sh_lay km_486 = sh_lay km_485 := by rw [show km_486 = sh_setR km_485 0 11 (some 208) from rfl]; exact sh_lyR
  have hl0 : (sh_lay km_486)[0]? = some (11, 0) := by rw [el]; exact hl0
  have hn : (sh_lay km_486).length = 260 := by rw [el]; exact hn
  refine vv_aload_n 148 0 dX11_init_148 rfl rfl ?_
  refine vk_new (c1 := 260) (s1 := 20544) 149 dX11_init_149 nw_11_89 (n := 260) hn (μ1 := km_487) rfl rfl rfl (Nat.le_of_ble_eq_true rfl) (Nat.le_of_ble_eq_true rfl) ?_
  have el : km_487 = sh_add km_486 (7, 0) := rfl
  have hl0 : (sh_lay km_487)[0]? = some (11, 0) := by rw [el]; exact sh_lay_add hl0
  have hl260 : (sh_lay km_487)[260]? = some (7, 0) := by rw [el]; exact sh_lay_new hn
  have hn : (sh_lay km_487).length = 261 := by rw [el]; exact sh_len_add hn
  refine vv_dup_ref 152 dX11_init_152 ?_
  refine vv_aload_n 153 0 dX11_init_153 rfl rfl ?_
  refine vv_getR 154 dX11_init_154 fl_11_69 rfl hl0 (show sh_r km_487 0 9 = some 55 by decide +kernel) ?_
  refine vk_callI (c1 := 286) (s1 := 20883) [_] 157 dX11_init_157 ck_X11_91 kc_52 (Nat.le_of_ble_eq_true rfl) ⟨Nat.le_of_ble_eq_true rfl, Nat.le_of_ble_eq_true rfl⟩ rfl (Nat.le_of_ble_eq_true rfl) rfl rfl (Nat.le_of_ble_eq_true rfl) (Nat.le_of_ble_eq_true rfl) ?_
  have hn : (sh_lay km_540).length = 287 := by decide +kernel
  have hl0 : (sh_lay km_540)[0]? = some (11, 0) := by decide +kernel
  refine vn_putR 160 dX11_init_160 fl_11_92 (Or.inr ⟨rfl, rfl, rfl⟩) rfl hl0 (fun y ey => ?_)
  obtain rfl : y = km_541 := ey
  have el : sh_lay km_541 = sh_lay km_540 := by rw [show km_541 = sh_setR km_540 0 12 (some 260) from rfl]; exact sh_lyR
  have hl0 : (sh_lay km_541)[0]? = some (11, 0) := by rw [el]; exact hl0
  have hn : (sh_lay km_541).length = 287 := by rw [el]; exact hn
  refine vv_aload_n 163 0 dX11_init_163 rfl rfl ?_
  refine vk_new (c1 := 287) (s1 := 20884) 164 dX11_init_164 nw_11_96 (n := 287) hn (μ1 := km_542) rfl rfl rfl (Nat.le_of_ble_eq_true rfl) (Nat.le_of_ble_eq_true rfl) ?_
  have el : km_542 = sh_add km_541 (9, 0) := rfl
  have hl0 : (sh_lay km_542)[0]? = some (11, 0) := by rw [el]; exact sh_lay_add hl0
  have hl287 : (sh_lay km_542)[287]? = some (9, 0) := by rw [el]; exact sh_lay_new hn
  have hn : (sh_lay km_542).length = 288 := by rw [el]; exact sh_len_add hn
  refine vv_dup_ref 167 dX11_init_167 ?_
  refine vk_callIN (c1 := 288) (s1 := 20933) [] 168 dX11_init_168 ck_X11_98 kc_53 (Nat.le_of_ble_eq_true rfl) ⟨Nat.le_of_ble_eq_true rfl, Nat.le_of_ble_eq_true rfl⟩ rfl (Nat.le_of_ble_eq_true rfl) rfl rfl (Nat.le_of_ble_eq_true rfl) (Nat.le_of_ble_eq_true rfl) ?_
  have hn : (sh_lay km_544).length = 289 := by decide +kernel
  have hl0 : (sh_lay km_544)[0]? = some (11, 0) := by decide +kernel
  refine vn_putR 171 dX11_init_171 fl_11_99 (Or.inr ⟨rfl, rfl, rfl⟩) rfl hl0 (fun y ey => ?_)
  obtain rfl : y = km_545 := ey
  have el : sh_lay km_545 = sh_lay km_544 := by rw [show km_545 = sh_setR km_544 0 13 (some 287) from rfl]; exact sh_lyR
  have hl0 : (sh_lay km_545)[0]? = some (11, 0) := by rw [el]; exact hl0
  have hn : (sh_lay km_545).length = 289 := by rw [el]; exact hn
  refine vv_aload_n 174 0 dX11_init_174 rfl rfl ?_
  refine vv_iconst 175 dX11_init_175 ik_m1 ?_
  refine vn_putI 176 dX11_init_176 fl_11_103 (Or.inl rfl) rfl hl0 (fun y ey => ?_)
  obtain rfl : y = km_546 := ey
  have el : sh_lay km_546 = sh_lay km_545 := by rw [show km_546 = sh_setI km_545 0 15 (-1) from rfl]; exact sh_lyI
  have hl0 : (sh_lay km_546)[0]? = some (11, 0) := by rw [el]; exact hl0
  have hn : (sh_lay km_546).length = 289 := by rw [el]; exact hn
  refine vv_aload_n 179 0 dX11_init_179 rfl rfl ?_
  refine vv_lconst 180 dX11_init_180 lk_1 ?_
  refine vn_putL 181 dX11_init_181 fl_11_107 (Or.inl rfl) rfl hl0 (fun y ey => ?_)
  obtain rfl : y = km_547 := ey
  have el : sh_lay km_547 = sh_lay km_546 := by rw [show km_547 = sh_setL km_546 0 16 1 from rfl]; exact sh_lyL
  have hl0 : (sh_lay km_547)[0]? = some (11, 0) := by rw [el]; exact hl0
  have hn : (sh_lay km_547).length = 289 := by rw [el]; exact hn
  refine vv_aload_n 184 0 dX11_init_184 rfl rfl ?_
  refine vv_bipush 185 dX11_init_185 bk_80 ?_
  refine vk_newa (N := 80) (c1 := 289) (s1 := 21013) 13 .int (Or.inl ⟨rfl, rfl⟩) 187 dX11_init_187 ac_13 (by decide) (by decide) (Nat.le_of_ble_eq_true rfl) (n := 289) hn (μ1 := km_548) rfl rfl rfl (Nat.le_of_ble_eq_true rfl) (Nat.le_of_ble_eq_true rfl) ?_
  have el : km_548 = sh_add km_547 (13, 80) := rfl
  have hl0 : (sh_lay km_548)[0]? = some (11, 0) := by rw [el]; exact sh_lay_add hl0
  have hl289 : (sh_lay km_548)[289]? = some (13, 80) := by rw [el]; exact sh_lay_new hn
  have hn : (sh_lay km_548).length = 290 := by rw [el]; exact sh_len_add hn
  refine vn_putR 189 dX11_init_189 fl_11_111 (Or.inr ⟨rfl, rfl, rfl⟩) rfl hl0 (fun y ey => ?_)
  obtain rfl : y = km_549 := ey
  have el : sh_lay km_549 = sh_lay km_548 := by rw [show km_549 = sh_setR km_548 0 17 (some 289) from rfl]; exact sh_lyR
  have hl0 : (sh_lay km_549)[0]? = some (11, 0) := by rw [el]; exact hl0
  have hn : (sh_lay km_549).length = 290 := by rw [el]; exact hn
  refine vv_aload_n 192 0 dX11_init_192 rfl rfl ?_
  refine vv_bipush 193 dX11_init_193 bk_6 ?_
  refine vk_newa (N := 6) (c1 := 290) (s1 := 21019) 13 .int (Or.inl ⟨rfl, rfl⟩) 195 dX11_init_195 ac_13 (by decide) (by decide) (Nat.le_of_ble_eq_true rfl) (n := 290) hn (μ1 := km_550) rfl rfl rfl (Nat.le_of_ble_eq_true rfl) (Nat.le_of_ble_eq_true rfl) ?_
  have el : km_550 = sh_add km_549 (13, 6) := rfl
  have hl0 : (sh_lay km_550)[0]? = some (11, 0) := by rw [el]; exact sh_lay_add hl0
  have hl290 : (sh_lay km_550)[290]? = some (13, 6) := by rw [el]; exact sh_lay_new hn
  have hn : (sh_lay km_550).length = 291 := by rw [el]; exact sh_len_add hn
  refine vn_putR 197 dX11_init_197 fl_11_114 (Or.inr ⟨rfl, rfl, rfl⟩) rfl hl0 (fun y ey => ?_)
  obtain rfl : y = km_551 := ey
  have el : sh_lay km_551 = sh_lay km_550 := by rw [show km_551 = sh_setR km_550 0 19 (some 290) from rfl]; exact sh_lyR
  have hl0 : (sh_lay km_551)[0]? = some (11, 0) := by rw [el]; exact hl0
  have hn : (sh_lay km_551).length = 291 := by rw [el]; exact hn
  refine vv_vret 200 dX11_init_200 rfl (Nat.le_of_ble_eq_true rfl) (Nat.le_of_ble_eq_true rfl) ⟨rfl, rfl⟩
set_option maxHeartbeats 40000000 in
theorem kc_55 : sh_Con l B D ca 1 76 27117 M_X12_init [.ref 291] km_552 (fun v μ' => v = none ∧ μ' = km_920) := by
  have hn : (sh_lay km_552).length = 292 := by decide +kernel
  refine vv_aload_n 0 0 dX12_init_0 rfl rfl ?_
  refine vv_objInit 1 dX12_init_1 ck_X12_1 (Nat.le_of_ble_eq_true rfl) (Nat.le_of_ble_eq_true rfl) ?_
  refine vv_aload_n 4 0 dX12_init_4 rfl rfl ?_
  refine vv_sipush 5 dX12_init_5 sk_1600 ?_
  refine vk_newa (N := 1600) (c1 := 1) (s1 := 1600) 13 .int (Or.inl ⟨rfl, rfl⟩) 8 dX12_init_8 ac_13 (by decide) (by decide) (Nat.le_of_ble_eq_true rfl) (n := 292) hn (μ1 := km_553) rfl rfl rfl (Nat.le_of_ble_eq_true rfl) (Nat.le_of_ble_eq_true rfl) ?_
  have el : km_553 = sh_add km_552 (13, 1600) := rfl
  have hl292 : (sh_lay km_553)[292]? = some (13, 1600) := by rw [el]; exact sh_lay_new hn
  have hn : (sh_lay km_553).length = 293 := by rw [el]; exact sh_len_add hn
  have hl291 : (sh_lay km_553)[291]? = some (12, 0) := by decide +kernel
  refine vn_putR 10 dX12_init_10 fl_12_7 (Or.inr ⟨rfl, rfl, rfl⟩) rfl hl291 (fun y ey => ?_)
  obtain rfl : y = km_554 := ey
  have el : sh_lay km_554 = sh_lay km_553 := by rw [show km_554 = sh_setR km_553 291 0 (some 292) from rfl]; exact sh_lyR
  have hl291 : (sh_lay km_554)[291]? = some (12, 0) := by rw [el]; exact hl291
  have hn : (sh_lay km_554).length = 293 := by rw [el]; exact hn
  refine vv_aload_n 13 0 dX12_init_13 rfl rfl ?_
  refine vv_iconst 14 dX12_init_14 ik_m1 ?_
  refine vn_putI 15 dX12_init_15 fl_12_13 (Or.inl rfl) rfl hl291 (fun y ey => ?_)
  obtain rfl : y = km_555 := ey
  have el : sh_lay km_555 = sh_lay km_554 := by rw [show km_555 = sh_setI km_554 291 8 (-1) from rfl]; exact sh_lyI
  have hl291 : (sh_lay km_555)[291]? = some (12, 0) := by rw [el]; exact hl291
  have hn : (sh_lay km_555).length = 293 := by rw [el]; exact hn
  refine vv_aload_n 18 0 dX12_init_18 rfl rfl ?_
  refine vv_bipush 19 dX12_init_19 bk_6 ?_
  refine vk_newa (N := 6) (c1 := 2) (s1 := 1606) 13 .int (Or.inl ⟨rfl, rfl⟩) 21 dX12_init_21 ac_13 (by decide) (by decide) (Nat.le_of_ble_eq_true rfl) (n := 293) hn (μ1 := km_556) rfl rfl rfl (Nat.le_of_ble_eq_true rfl) (Nat.le_of_ble_eq_true rfl) ?_
  have el : km_556 = sh_add km_555 (13, 6) := rfl
  have hl291 : (sh_lay km_556)[291]? = some (12, 0) := by rw [el]; exact sh_lay_add hl291
  have hl293 : (sh_lay km_556)[293]? = some (13, 6) := by rw [el]; exact sh_lay_new hn
  have hn : (sh_lay km_556).length = 294 := by rw [el]; exact sh_len_add hn
  refine vn_putR 23 dX12_init_23 fl_12_17 (Or.inr ⟨rfl, rfl, rfl⟩) rfl hl291 (fun y ey => ?_)
  obtain rfl : y = km_557 := ey
  have el : sh_lay km_557 = sh_lay km_556 := by rw [show km_557 = sh_setR km_556 291 9 (some 293) from rfl]; exact sh_lyR
  have hl291 : (sh_lay km_557)[291]? = some (12, 0) := by rw [el]; exact hl291
  have hn : (sh_lay km_557).length = 294 := by rw [el]; exact hn
  refine vv_aload_n 26 0 dX12_init_26 rfl rfl ?_
  refine vv_iconst 27 dX12_init_27 ik_5 ?_
  refine vk_newa (N := 5) (c1 := 3) (s1 := 1611) 15 .char (Or.inr (Or.inr ⟨rfl, rfl⟩)) 28 dX12_init_28 ac_15 (by decide) (by decide) (Nat.le_of_ble_eq_true rfl) (n := 294) hn (μ1 := km_558) rfl rfl rfl (Nat.le_of_ble_eq_true rfl) (Nat.le_of_ble_eq_true rfl) ?_
  have el : km_558 = sh_add km_557 (15, 5) := rfl
  have hl291 : (sh_lay km_558)[291]? = some (12, 0) := by rw [el]; exact sh_lay_add hl291
  have hl294 : (sh_lay km_558)[294]? = some (15, 5) := by rw [el]; exact sh_lay_new hn
  have hn : (sh_lay km_558).length = 295 := by rw [el]; exact sh_len_add hn
  refine vv_dup_ref 30 dX12_init_30 ?_
  refine vv_iconst 31 dX12_init_31 ik_0 ?_
  refine vv_bipush 32 dX12_init_32 bk_112 ?_
  refine vc_cast (μ1 := km_559) 34 dX12_init_34 hl294 (by unfold vp_in; decide) rfl (by decide) rfl ?_
  have el : sh_lay km_559 = sh_lay km_558 := by rw [show km_559 = sh_setI km_558 294 0 112 from rfl]; exact sh_lyI
  have hl291 : (sh_lay km_559)[291]? = some (12, 0) := by rw [el]; exact hl291
  have hl294 : (sh_lay km_559)[294]? = some (15, 5) := by rw [el]; exact hl294
  have hn : (sh_lay km_559).length = 295 := by rw [el]; exact hn
  refine vv_dup_ref 35 dX12_init_35 ?_
  refine vv_iconst 36 dX12_init_36 ik_1 ?_
  refine vv_bipush 37 dX12_init_37 bk_108 ?_
  refine vc_cast (μ1 := km_560) 39 dX12_init_39 hl294 (by unfold vp_in; decide) rfl (by decide) rfl ?_
  have el : sh_lay km_560 = sh_lay km_559 := by rw [show km_560 = sh_setI km_559 294 1 108 from rfl]; exact sh_lyI
  have hl291 : (sh_lay km_560)[291]? = some (12, 0) := by rw [el]; exact hl291
  have hl294 : (sh_lay km_560)[294]? = some (15, 5) := by rw [el]; exact hl294
  have hn : (sh_lay km_560).length = 295 := by rw [el]; exact hn
  refine vv_dup_ref 40 dX12_init_40 ?_
  refine vv_iconst 41 dX12_init_41 ik_2 ?_
  refine vv_bipush 42 dX12_init_42 bk_97 ?_
  refine vc_cast (μ1 := km_561) 44 dX12_init_44 hl294 (by unfold vp_in; decide) rfl (by decide) rfl ?_
  have el : sh_lay km_561 = sh_lay km_560 := by rw [show km_561 = sh_setI km_560 294 2 97 from rfl]; exact sh_lyI
  have hl291 : (sh_lay km_561)[291]? = some (12, 0) := by rw [el]; exact hl291
  have hl294 : (sh_lay km_561)[294]? = some (15, 5) := by rw [el]; exact hl294
  have hn : (sh_lay km_561).length = 295 := by rw [el]; exact hn
  refine vv_dup_ref 45 dX12_init_45 ?_
  refine vv_iconst 46 dX12_init_46 ik_3 ?_
  refine vv_bipush 47 dX12_init_47 bk_105 ?_
  refine vc_cast (μ1 := km_562) 49 dX12_init_49 hl294 (by unfold vp_in; decide) rfl (by decide) rfl ?_
  have el : sh_lay km_562 = sh_lay km_561 := by rw [show km_562 = sh_setI km_561 294 3 105 from rfl]; exact sh_lyI
  have hl291 : (sh_lay km_562)[291]? = some (12, 0) := by rw [el]; exact hl291
  have hl294 : (sh_lay km_562)[294]? = some (15, 5) := by rw [el]; exact hl294
  have hn : (sh_lay km_562).length = 295 := by rw [el]; exact hn
  refine vv_dup_ref 50 dX12_init_50 ?_
  refine vv_iconst 51 dX12_init_51 ik_4 ?_
  refine vv_bipush 52 dX12_init_52 bk_110 ?_
  refine vc_cast (μ1 := km_563) 54 dX12_init_54 hl294 (by unfold vp_in; decide) rfl (by decide) rfl ?_
  have el : sh_lay km_563 = sh_lay km_562 := by rw [show km_563 = sh_setI km_562 294 4 110 from rfl]; exact sh_lyI
  have hl291 : (sh_lay km_563)[291]? = some (12, 0) := by rw [el]; exact hl291
  have hl294 : (sh_lay km_563)[294]? = some (15, 5) := by rw [el]; exact hl294
  have hn : (sh_lay km_563).length = 295 := by rw [el]; exact hn
  refine vn_putR 55 dX12_init_55 fl_12_20 (Or.inr ⟨rfl, rfl, rfl⟩) rfl hl291 (fun y ey => ?_)
  obtain rfl : y = km_564 := ey
  have el : sh_lay km_564 = sh_lay km_563 := by rw [show km_564 = sh_setR km_563 291 11 (some 294) from rfl]; exact sh_lyR
  have hl291 : (sh_lay km_564)[291]? = some (12, 0) := by rw [el]; exact hl291
  have hn : (sh_lay km_564).length = 295 := by rw [el]; exact hn
  refine vv_aload_n 58 0 dX12_init_58 rfl rfl ?_
  refine vv_iconst 59 dX12_init_59 ik_2 ?_
  refine vk_newa (N := 2) (c1 := 4) (s1 := 1613) 15 .char (Or.inr (Or.inr ⟨rfl, rfl⟩)) 60 dX12_init_60 ac_15 (by decide) (by decide) (Nat.le_of_ble_eq_true rfl) (n := 295) hn (μ1 := km_565) rfl rfl rfl (Nat.le_of_ble_eq_true rfl) (Nat.le_of_ble_eq_true rfl) ?_
  have el : km_565 = sh_add km_564 (15, 2) := rfl
  have hl291 : (sh_lay km_565)[291]? = some (12, 0) := by rw [el]; exact sh_lay_add hl291
  have hl295 : (sh_lay km_565)[295]? = some (15, 2) := by rw [el]; exact sh_lay_new hn
  have hn : (sh_lay km_565).length = 296 := by rw [el]; exact sh_len_add hn
  refine vv_dup_ref 62 dX12_init_62 ?_
  refine vv_iconst 63 dX12_init_63 ik_0 ?_
  refine vv_bipush 64 dX12_init_64 bk_98 ?_
  refine vc_cast (μ1 := km_566) 66 dX12_init_66 hl295 (by unfold vp_in; decide) rfl (by decide) rfl ?_
  have el : sh_lay km_566 = sh_lay km_565 := by rw [show km_566 = sh_setI km_565 295 0 98 from rfl]; exact sh_lyI
  have hl291 : (sh_lay km_566)[291]? = some (12, 0) := by rw [el]; exact hl291
  have hl295 : (sh_lay km_566)[295]? = some (15, 2) := by rw [el]; exact hl295
  have hn : (sh_lay km_566).length = 296 := by rw [el]; exact hn
  refine vv_dup_ref 67 dX12_init_67 ?_
  refine vv_iconst 68 dX12_init_68 ik_1 ?_
  refine vv_bipush 69 dX12_init_69 bk_121 ?_
  refine vc_cast (μ1 := km_567) 71 dX12_init_71 hl295 (by unfold vp_in; decide) rfl (by decide) rfl ?_
  have el : sh_lay km_567 = sh_lay km_566 := by rw [show km_567 = sh_setI km_566 295 1 121 from rfl]; exact sh_lyI
  have hl291 : (sh_lay km_567)[291]? = some (12, 0) := by rw [el]; exact hl291
  have hl295 : (sh_lay km_567)[295]? = some (15, 2) := by rw [el]; exact hl295
  have hn : (sh_lay km_567).length = 296 := by rw [el]; exact hn
  refine vn_putR 72 dX12_init_72 fl_12_24 (Or.inr ⟨rfl, rfl, rfl⟩) rfl hl291 (fun y ey => ?_)
  obtain rfl : y = km_568 := ey
  have el : sh_lay km_568 = sh_lay km_567 := by rw [show km_568 = sh_setR km_567 291 12 (some 295) from rfl]; exact sh_lyR
  have hl291 : (sh_lay km_568)[291]? = some (12, 0) := by rw [el]; exact hl291
  have hn : (sh_lay km_568).length = 296 := by rw [el]; exact hn
  refine vv_aload_n 75 0 dX12_init_75 rfl rfl ?_
  refine vv_iconst 76 dX12_init_76 ik_4 ?_
  refine vk_newa (N := 4) (c1 := 5) (s1 := 1617) 15 .char (Or.inr (Or.inr ⟨rfl, rfl⟩)) 77 dX12_init_77 ac_15 (by decide) (by decide) (Nat.le_of_ble_eq_true rfl) (n := 296) hn (μ1 := km_569) rfl rfl rfl (Nat.le_of_ble_eq_true rfl) (Nat.le_of_ble_eq_true rfl) ?_
  have el : km_569 = sh_add km_568 (15, 4) := rfl
  have hl291 : (sh_lay km_569)[291]? = some (12, 0) := by rw [el]; exact sh_lay_add hl291
  have hl296 : (sh_lay km_569)[296]? = some (15, 4) := by rw [el]; exact sh_lay_new hn
  have hn : (sh_lay km_569).length = 297 := by rw [el]; exact sh_len_add hn
  refine vv_dup_ref 79 dX12_init_79 ?_
  refine vv_iconst 80 dX12_init_80 ik_0 ?_
  refine vv_bipush 81 dX12_init_81 bk_104 ?_
  refine vc_cast (μ1 := km_570) 83 dX12_init_83 hl296 (by unfold vp_in; decide) rfl (by decide) rfl ?_
  have el : sh_lay km_570 = sh_lay km_569 := by rw [show km_570 = sh_setI km_569 296 0 104 from rfl]; exact sh_lyI
  have hl291 : (sh_lay km_570)[291]? = some (12, 0) := by rw [el]; exact hl291
  have hl296 : (sh_lay km_570)[296]? = some (15, 4) := by rw [el]; exact hl296
  have hn : (sh_lay km_570).length = 297 := by rw [el]; exact hn
  refine vv_dup_ref 84 dX12_init_84 ?_
  refine vv_iconst 85 dX12_init_85 ik_1 ?_
  refine vv_bipush 86 dX12_init_86 bk_105 ?_
  refine vc_cast (μ1 := km_571) 88 dX12_init_88 hl296 (by unfold vp_in; decide) rfl (by decide) rfl ?_
  have el : sh_lay km_571 = sh_lay km_570 := by rw [show km_571 = sh_setI km_570 296 1 105 from rfl]; exact sh_lyI
  have hl291 : (sh_lay km_571)[291]? = some (12, 0) := by rw [el]; exact hl291
  have hl296 : (sh_lay km_571)[296]? = some (15, 4) := by rw [el]; exact hl296
  have hn : (sh_lay km_571).length = 297 := by rw [el]; exact hn
  refine vv_dup_ref 89 dX12_init_89 ?_
  refine vv_iconst 90 dX12_init_90 ik_2 ?_
  refine vv_bipush 91 dX12_init_91 bk_103 ?_
  refine vc_cast (μ1 := km_572) 93 dX12_init_93 hl296 (by unfold vp_in; decide) rfl (by decide) rfl ?_
  have el : sh_lay km_572 = sh_lay km_571 := by rw [show km_572 = sh_setI km_571 296 2 103 from rfl]; exact sh_lyI
  have hl291 : (sh_lay km_572)[291]? = some (12, 0) := by rw [el]; exact hl291
  have hl296 : (sh_lay km_572)[296]? = some (15, 4) := by rw [el]; exact hl296
  have hn : (sh_lay km_572).length = 297 := by rw [el]; exact hn
  refine vv_dup_ref 94 dX12_init_94 ?_
  refine vv_iconst 95 dX12_init_95 ik_3 ?_
  refine vv_bipush 96 dX12_init_96 bk_104 ?_
  refine vc_cast (μ1 := km_573) 98 dX12_init_98 hl296 (by unfold vp_in; decide) rfl (by decide) rfl ?_
  have el : sh_lay km_573 = sh_lay km_572 := by rw [show km_573 = sh_setI km_572 296 3 104 from rfl]; exact sh_lyI
  have hl291 : (sh_lay km_573)[291]? = some (12, 0) := by rw [el]; exact hl291
  have hl296 : (sh_lay km_573)[296]? = some (15, 4) := by rw [el]; exact hl296
  have hn : (sh_lay km_573).length = 297 := by rw [el]; exact hn
  refine vn_putR 99 dX12_init_99 fl_12_27 (Or.inr ⟨rfl, rfl, rfl⟩) rfl hl291 (fun y ey => ?_)
  obtain rfl : y = km_574 := ey
  have el : sh_lay km_574 = sh_lay km_573 := by rw [show km_574 = sh_setR km_573 291 13 (some 296) from rfl]; exact sh_lyR
  have hl291 : (sh_lay km_574)[291]? = some (12, 0) := by rw [el]; exact hl291
  have hn : (sh_lay km_574).length = 297 := by rw [el]; exact hn
  refine vv_aload_n 102 0 dX12_init_102 rfl rfl ?_
  refine vv_iconst 103 dX12_init_103 ik_5 ?_
  refine vk_newa (N := 5) (c1 := 6) (s1 := 1622) 15 .char (Or.inr (Or.inr ⟨rfl, rfl⟩)) 104 dX12_init_104 ac_15 (by decide) (by decide) (Nat.le_of_ble_eq_true rfl) (n := 297) hn (μ1 := km_575) rfl rfl rfl (Nat.le_of_ble_eq_true rfl) (Nat.le_of_ble_eq_true rfl) ?_
  have el : km_575 = sh_add km_574 (15, 5) := rfl
  have hl291 : (sh_lay km_575)[291]? = some (12, 0) := by rw [el]; exact sh_lay_add hl291
  have hl297 : (sh_lay km_575)[297]? = some (15, 5) := by rw [el]; exact sh_lay_new hn
  have hn : (sh_lay km_575).length = 298 := by rw [el]; exact sh_len_add hn
  refine vv_dup_ref 106 dX12_init_106 ?_
  refine vv_iconst 107 dX12_init_107 ik_0 ?_
  refine vv_bipush 108 dX12_init_108 bk_116 ?_
  refine vc_cast (μ1 := km_576) 110 dX12_init_110 hl297 (by unfold vp_in; decide) rfl (by decide) rfl ?_
  have el : sh_lay km_576 = sh_lay km_575 := by rw [show km_576 = sh_setI km_575 297 0 116 from rfl]; exact sh_lyI
  have hl291 : (sh_lay km_576)[291]? = some (12, 0) := by rw [el]; exact hl291
  have hl297 : (sh_lay km_576)[297]? = some (15, 5) := by rw [el]; exact hl297
  have hn : (sh_lay km_576).length = 298 := by rw [el]; exact hn
  refine vv_dup_ref 111 dX12_init_111 ?_
  refine vv_iconst 112 dX12_init_112 ik_1 ?_
  refine vv_bipush 113 dX12_init_113 bk_111 ?_
  refine vc_cast (μ1 := km_577) 115 dX12_init_115 hl297 (by unfold vp_in; decide) rfl (by decide) rfl ?_
  have el : sh_lay km_577 = sh_lay km_576 := by rw [show km_577 = sh_setI km_576 297 1 111 from rfl]; exact sh_lyI
  have hl291 : (sh_lay km_577)[291]? = some (12, 0) := by rw [el]; exact hl291
  have hl297 : (sh_lay km_577)[297]? = some (15, 5) := by rw [el]; exact hl297
  have hn : (sh_lay km_577).length = 298 := by rw [el]; exact hn
  refine vv_dup_ref 116 dX12_init_116 ?_
  refine vv_iconst 117 dX12_init_117 ik_2 ?_
  refine vv_bipush 118 dX12_init_118 bk_112 ?_
  refine vc_cast (μ1 := km_578) 120 dX12_init_120 hl297 (by unfold vp_in; decide) rfl (by decide) rfl ?_
  have el : sh_lay km_578 = sh_lay km_577 := by rw [show km_578 = sh_setI km_577 297 2 112 from rfl]; exact sh_lyI
  have hl291 : (sh_lay km_578)[291]? = some (12, 0) := by rw [el]; exact hl291
  have hl297 : (sh_lay km_578)[297]? = some (15, 5) := by rw [el]; exact hl297
  have hn : (sh_lay km_578).length = 298 := by rw [el]; exact hn
  refine vv_dup_ref 121 dX12_init_121 ?_
  refine vv_iconst 122 dX12_init_122 ik_3 ?_
  refine vv_bipush 123 dX12_init_123 bk_105 ?_
  refine vc_cast (μ1 := km_579) 125 dX12_init_125 hl297 (by unfold vp_in; decide) rfl (by decide) rfl ?_
  have el : sh_lay km_579 = sh_lay km_578 := by rw [show km_579 = sh_setI km_578 297 3 105 from rfl]; exact sh_lyI
  have hl291 : (sh_lay km_579)[291]? = some (12, 0) := by rw [el]; exact hl291
  have hl297 : (sh_lay km_579)[297]? = some (15, 5) := by rw [el]; exact hl297
  have hn : (sh_lay km_579).length = 298 := by rw [el]; exact hn
  refine vv_dup_ref 126 dX12_init_126 ?_
  refine vv_iconst 127 dX12_init_127 ik_4 ?_
  refine vv_bipush 128 dX12_init_128 bk_99 ?_
  refine vc_cast (μ1 := km_580) 130 dX12_init_130 hl297 (by unfold vp_in; decide) rfl (by decide) rfl ?_
  have el : sh_lay km_580 = sh_lay km_579 := by rw [show km_580 = sh_setI km_579 297 4 99 from rfl]; exact sh_lyI
  have hl291 : (sh_lay km_580)[291]? = some (12, 0) := by rw [el]; exact hl291
  have hl297 : (sh_lay km_580)[297]? = some (15, 5) := by rw [el]; exact hl297
  have hn : (sh_lay km_580).length = 298 := by rw [el]; exact hn
  refine vn_putR 131 dX12_init_131 fl_12_30 (Or.inr ⟨rfl, rfl, rfl⟩) rfl hl291 (fun y ey => ?_)
  obtain rfl : y = km_581 := ey
  have el : sh_lay km_581 = sh_lay km_580 := by rw [show km_581 = sh_setR km_580 291 14 (some 297) from rfl]; exact sh_lyR
  have hl291 : (sh_lay km_581)[291]? = some (12, 0) := by rw [el]; exact hl291
  have hn : (sh_lay km_581).length = 298 := by rw [el]; exact hn
  refine vv_aload_n 134 0 dX12_init_134 rfl rfl ?_
  refine vv_bipush 135 dX12_init_135 bk_6 ?_
  refine vk_newa (N := 6) (c1 := 7) (s1 := 1628) 15 .char (Or.inr (Or.inr ⟨rfl, rfl⟩)) 137 dX12_init_137 ac_15 (by decide) (by decide) (Nat.le_of_ble_eq_true rfl) (n := 298) hn (μ1 := km_582) rfl rfl rfl (Nat.le_of_ble_eq_true rfl) (Nat.le_of_ble_eq_true rfl) ?_
  have el : km_582 = sh_add km_581 (15, 6) := rfl
  have hl291 : (sh_lay km_582)[291]? = some (12, 0) := by rw [el]; exact sh_lay_add hl291
  have hl298 : (sh_lay km_582)[298]? = some (15, 6) := by rw [el]; exact sh_lay_new hn
  have hn : (sh_lay km_582).length = 299 := by rw [el]; exact sh_len_add hn
  refine vv_dup_ref 139 dX12_init_139 ?_
  refine vv_iconst 140 dX12_init_140 ik_0 ?_
  refine vv_bipush 141 dX12_init_141 bk_112 ?_
  refine vc_cast (μ1 := km_583) 143 dX12_init_143 hl298 (by unfold vp_in; decide) rfl (by decide) rfl ?_
  have el : sh_lay km_583 = sh_lay km_582 := by rw [show km_583 = sh_setI km_582 298 0 112 from rfl]; exact sh_lyI
  have hl291 : (sh_lay km_583)[291]? = some (12, 0) := by rw [el]; exact hl291
  have hl298 : (sh_lay km_583)[298]? = some (15, 6) := by rw [el]; exact hl298
  have hn : (sh_lay km_583).length = 299 := by rw [el]; exact hn
  refine vv_dup_ref 144 dX12_init_144 ?_
  refine vv_iconst 145 dX12_init_145 ik_1 ?_
  refine vv_bipush 146 dX12_init_146 bk_101 ?_
  refine vc_cast (μ1 := km_584) 148 dX12_init_148 hl298 (by unfold vp_in; decide) rfl (by decide) rfl ?_
  have el : sh_lay km_584 = sh_lay km_583 := by rw [show km_584 = sh_setI km_583 298 1 101 from rfl]; exact sh_lyI
  have hl291 : (sh_lay km_584)[291]? = some (12, 0) := by rw [el]; exact hl291
  have hl298 : (sh_lay km_584)[298]? = some (15, 6) := by rw [el]; exact hl298
  have hn : (sh_lay km_584).length = 299 := by rw [el]; exact hn
  refine vv_dup_ref 149 dX12_init_149 ?_
  refine vv_iconst 150 dX12_init_150 ik_2 ?_
  refine vv_bipush 151 dX12_init_151 bk_114 ?_
  refine vc_cast (μ1 := km_585) 153 dX12_init_153 hl298 (by unfold vp_in; decide) rfl (by decide) rfl ?_
  have el : sh_lay km_585 = sh_lay km_584 := by rw [show km_585 = sh_setI km_584 298 2 114 from rfl]; exact sh_lyI
  have hl291 : (sh_lay km_585)[291]? = some (12, 0) := by rw [el]; exact hl291
  have hl298 : (sh_lay km_585)[298]? = some (15, 6) := by rw [el]; exact hl298
  have hn : (sh_lay km_585).length = 299 := by rw [el]; exact hn
  refine vv_dup_ref 154 dX12_init_154 ?_
  refine vv_iconst 155 dX12_init_155 ik_3 ?_
  refine vv_bipush 156 dX12_init_156 bk_115 ?_
  refine vc_cast (μ1 := km_586) 158 dX12_init_158 hl298 (by unfold vp_in; decide) rfl (by decide) rfl ?_
  have el : sh_lay km_586 = sh_lay km_585 := by rw [show km_586 = sh_setI km_585 298 3 115 from rfl]; exact sh_lyI
  have hl291 : (sh_lay km_586)[291]? = some (12, 0) := by rw [el]; exact hl291
  have hl298 : (sh_lay km_586)[298]? = some (15, 6) := by rw [el]; exact hl298
  have hn : (sh_lay km_586).length = 299 := by rw [el]; exact hn
  refine vv_dup_ref 159 dX12_init_159 ?_
  refine vv_iconst 160 dX12_init_160 ik_4 ?_
  refine vv_bipush 161 dX12_init_161 bk_111 ?_
  refine vc_cast (μ1 := km_587) 163 dX12_init_163 hl298 (by unfold vp_in; decide) rfl (by decide) rfl ?_
  have el : sh_lay km_587 = sh_lay km_586 := by rw [show km_587 = sh_setI km_586 298 4 111 from rfl]; exact sh_lyI
  have hl291 : (sh_lay km_587)[291]? = some (12, 0) := by rw [el]; exact hl291
  have hl298 : (sh_lay km_587)[298]? = some (15, 6) := by rw [el]; exact hl298
  have hn : (sh_lay km_587).length = 299 := by rw [el]; exact hn
  refine vv_dup_ref 164 dX12_init_164 ?_
  refine vv_iconst 165 dX12_init_165 ik_5 ?_
  refine vv_bipush 166 dX12_init_166 bk_110 ?_
  refine vc_cast (μ1 := km_588) 168 dX12_init_168 hl298 (by unfold vp_in; decide) rfl (by decide) rfl ?_
  have el : sh_lay km_588 = sh_lay km_587 := by rw [show km_588 = sh_setI km_587 298 5 110 from rfl]; exact sh_lyI
  have hl291 : (sh_lay km_588)[291]? = some (12, 0) := by rw [el]; exact hl291
  have hl298 : (sh_lay km_588)[298]? = some (15, 6) := by rw [el]; exact hl298
  have hn : (sh_lay km_588).length = 299 := by rw [el]; exact hn
  refine vn_putR 169 dX12_init_169 fl_12_33 (Or.inr ⟨rfl, rfl, rfl⟩) rfl hl291 (fun y ey => ?_)
  obtain rfl : y = km_589 := ey
  have el : sh_lay km_589 = sh_lay km_588 := by rw [show km_589 = sh_setR km_588 291 15 (some 298) from rfl]; exact sh_lyR
  have hl291 : (sh_lay km_589)[291]? = some (12, 0) := by rw [el]; exact hl291
  have hn : (sh_lay km_589).length = 299 := by rw [el]; exact hn
  refine vv_aload_n 172 0 dX12_init_172 rfl rfl ?_
  refine vv_iconst 173 dX12_init_173 ik_2 ?_
  refine vk_newa (N := 2) (c1 := 8) (s1 := 1630) 15 .char (Or.inr (Or.inr ⟨rfl, rfl⟩)) 174 dX12_init_174 ac_15 (by decide) (by decide) (Nat.le_of_ble_eq_true rfl) (n := 299) hn (μ1 := km_590) rfl rfl rfl (Nat.le_of_ble_eq_true rfl) (Nat.le_of_ble_eq_true rfl) ?_
  have el : km_590 = sh_add km_589 (15, 2) := rfl
  have hl291 : (sh_lay km_590)[291]? = some (12, 0) := by rw [el]; exact sh_lay_add hl291
  have hl299 : (sh_lay km_590)[299]? = some (15, 2) := by rw [el]; exact sh_lay_new hn
  have hn : (sh_lay km_590).length = 300 := by rw [el]; exact sh_len_add hn
  refine vv_dup_ref 176 dX12_init_176 ?_
  refine vv_iconst 177 dX12_init_177 ik_0 ?_
  refine vv_bipush 178 dX12_init_178 bk_97 ?_
  refine vc_cast (μ1 := km_591) 180 dX12_init_180 hl299 (by unfold vp_in; decide) rfl (by decide) rfl ?_
  have el : sh_lay km_591 = sh_lay km_590 := by rw [show km_591 = sh_setI km_590 299 0 97 from rfl]; exact sh_lyI
  have hl291 : (sh_lay km_591)[291]? = some (12, 0) := by rw [el]; exact hl291
  have hl299 : (sh_lay km_591)[299]? = some (15, 2) := by rw [el]; exact hl299
  have hn : (sh_lay km_591).length = 300 := by rw [el]; exact hn
  refine vv_dup_ref 181 dX12_init_181 ?_
  refine vv_iconst 182 dX12_init_182 ik_1 ?_
  refine vv_bipush 183 dX12_init_183 bk_116 ?_
  refine vc_cast (μ1 := km_592) 185 dX12_init_185 hl299 (by unfold vp_in; decide) rfl (by decide) rfl ?_
  have el : sh_lay km_592 = sh_lay km_591 := by rw [show km_592 = sh_setI km_591 299 1 116 from rfl]; exact sh_lyI
  have hl291 : (sh_lay km_592)[291]? = some (12, 0) := by rw [el]; exact hl291
  have hl299 : (sh_lay km_592)[299]? = some (15, 2) := by rw [el]; exact hl299
  have hn : (sh_lay km_592).length = 300 := by rw [el]; exact hn
  refine vn_putR 186 dX12_init_186 fl_12_36 (Or.inr ⟨rfl, rfl, rfl⟩) rfl hl291 (fun y ey => ?_)
  obtain rfl : y = km_593 := ey
  have el : sh_lay km_593 = sh_lay km_592 := by rw [show km_593 = sh_setR km_592 291 16 (some 299) from rfl]; exact sh_lyR
  have hl291 : (sh_lay km_593)[291]? = some (12, 0) := by rw [el]; exact hl291
  have hn : (sh_lay km_593).length = 300 := by rw [el]; exact hn
  refine vv_aload_n 189 0 dX12_init_189 rfl rfl ?_
  refine vv_iconst 190 dX12_init_190 ik_5 ?_
  refine vk_newa (N := 5) (c1 := 9) (s1 := 1635) 15 .char (Or.inr (Or.inr ⟨rfl, rfl⟩)) 191 dX12_init_191 ac_15 (by decide) (by decide) (Nat.le_of_ble_eq_true rfl) (n := 300) hn (μ1 := km_594) rfl rfl rfl (Nat.le_of_ble_eq_true rfl) (Nat.le_of_ble_eq_true rfl) ?_
  have el : km_594 = sh_add km_593 (15, 5) := rfl
  have hl291 : (sh_lay km_594)[291]? = some (12, 0) := by rw [el]; exact sh_lay_add hl291
  have hl300 : (sh_lay km_594)[300]? = some (15, 5) := by rw [el]; exact sh_lay_new hn
  have hn : (sh_lay km_594).length = 301 := by rw [el]; exact sh_len_add hn
  refine vv_dup_ref 193 dX12_init_193 ?_
  refine vv_iconst 194 dX12_init_194 ik_0 ?_
  refine vv_bipush 195 dX12_init_195 bk_116 ?_
  refine vc_cast (μ1 := km_595) 197 dX12_init_197 hl300 (by unfold vp_in; decide) rfl (by decide) rfl ?_
  have el : sh_lay km_595 = sh_lay km_594 := by rw [show km_595 = sh_setI km_594 300 0 116 from rfl]; exact sh_lyI
  have hl291 : (sh_lay km_595)[291]? = some (12, 0) := by rw [el]; exact hl291
  have hl300 : (sh_lay km_595)[300]? = some (15, 5) := by rw [el]; exact hl300
  have hn : (sh_lay km_595).length = 301 := by rw [el]; exact hn
  refine vv_dup_ref 198 dX12_init_198 ?_
  refine vv_iconst 199 dX12_init_199 ik_1 ?_
  refine vv_bipush 200 dX12_init_200 bk_105 ?_
  refine vc_cast (μ1 := km_596) 202 dX12_init_202 hl300 (by unfold vp_in; decide) rfl (by decide) rfl ?_
  have el : sh_lay km_596 = sh_lay km_595 := by rw [show km_596 = sh_setI km_595 300 1 105 from rfl]; exact sh_lyI
  have hl291 : (sh_lay km_596)[291]? = some (12, 0) := by rw [el]; exact hl291
  have hl300 : (sh_lay km_596)[300]? = some (15, 5) := by rw [el]; exact hl300
  have hn : (sh_lay km_596).length = 301 := by rw [el]; exact hn
  refine vv_dup_ref 203 dX12_init_203 ?_
  refine vv_iconst 204 dX12_init_204 ik_2 ?_
  refine vv_bipush 205 dX12_init_205 bk_114 ?_
  refine vc_cast (μ1 := km_597) 207 dX12_init_207 hl300 (by unfold vp_in; decide) rfl (by decide) rfl ?_
  have el : sh_lay km_597 = sh_lay km_596 := by rw [show km_597 = sh_setI km_596 300 2 114 from rfl]; exact sh_lyI
  have hl291 : (sh_lay km_597)[291]? = some (12, 0) := by rw [el]; exact hl291
  have hl300 : (sh_lay km_597)[300]? = some (15, 5) := by rw [el]; exact hl300
  have hn : (sh_lay km_597).length = 301 := by rw [el]; exact hn
  refine vv_dup_ref 208 dX12_init_208 ?_
  refine vv_iconst 209 dX12_init_209 ik_3 ?_
  refine vv_bipush 210 dX12_init_210 bk_101 ?_
  refine vc_cast (μ1 := km_598) 212 dX12_init_212 hl300 (by unfold vp_in; decide) rfl (by decide) rfl ?_
  have el : sh_lay km_598 = sh_lay km_597 := by rw [show km_598 = sh_setI km_597 300 3 101 from rfl]; exact sh_lyI
  have hl291 : (sh_lay km_598)[291]? = some (12, 0) := by rw [el]; exact hl291
  have hl300 : (sh_lay km_598)[300]? = some (15, 5) := by rw [el]; exact hl300
  have hn : (sh_lay km_598).length = 301 := by rw [el]; exact hn
  refine vv_dup_ref 213 dX12_init_213 ?_
  refine vv_iconst 214 dX12_init_214 ik_4 ?_
  refine vv_bipush 215 dX12_init_215 bk_100 ?_
  refine vc_cast (μ1 := km_599) 217 dX12_init_217 hl300 (by unfold vp_in; decide) rfl (by decide) rfl ?_
  have el : sh_lay km_599 = sh_lay km_598 := by rw [show km_599 = sh_setI km_598 300 4 100 from rfl]; exact sh_lyI
  have hl291 : (sh_lay km_599)[291]? = some (12, 0) := by rw [el]; exact hl291
  have hl300 : (sh_lay km_599)[300]? = some (15, 5) := by rw [el]; exact hl300
  have hn : (sh_lay km_599).length = 301 := by rw [el]; exact hn
  refine vn_putR 218 dX12_init_218 fl_12_39 (Or.inr ⟨rfl, rfl, rfl⟩) rfl hl291 (fun y ey => ?_)
  obtain rfl : y = km_600 := ey
  have el : sh_lay km_600 = sh_lay km_599 := by rw [show km_600 = sh_setR km_599 291 17 (some 300) from rfl]; exact sh_lyR
  have hl291 : (sh_lay km_600)[291]? = some (12, 0) := by rw [el]; exact hl291
  have hn : (sh_lay km_600).length = 301 := by rw [el]; exact hn
  refine vv_aload_n 221 0 dX12_init_221 rfl rfl ?_
  refine vv_iconst 222 dX12_init_222 ik_5 ?_
  refine vk_newa (N := 5) (c1 := 10) (s1 := 1640) 15 .char (Or.inr (Or.inr ⟨rfl, rfl⟩)) 223 dX12_init_223 ac_15 (by decide) (by decide) (Nat.le_of_ble_eq_true rfl) (n := 301) hn (μ1 := km_601) rfl rfl rfl (Nat.le_of_ble_eq_true rfl) (Nat.le_of_ble_eq_true rfl) ?_
  have el : km_601 = sh_add km_600 (15, 5) := rfl
  have hl291 : (sh_lay km_601)[291]? = some (12, 0) := by rw [el]; exact sh_lay_add hl291
  have hl301 : (sh_lay km_601)[301]? = some (15, 5) := by rw [el]; exact sh_lay_new hn
  have hn : (sh_lay km_601).length = 302 := by rw [el]; exact sh_len_add hn
  refine vv_dup_ref 225 dX12_init_225 ?_
  refine vv_iconst 226 dX12_init_226 ik_0 ?_
  refine vv_bipush 227 dX12_init_227 bk_107 ?_
  refine vc_cast (μ1 := km_602) 229 dX12_init_229 hl301 (by unfold vp_in; decide) rfl (by decide) rfl ?_
  have el : sh_lay km_602 = sh_lay km_601 := by rw [show km_602 = sh_setI km_601 301 0 107 from rfl]; exact sh_lyI
  have hl291 : (sh_lay km_602)[291]? = some (12, 0) := by rw [el]; exact hl291
  have hl301 : (sh_lay km_602)[301]? = some (15, 5) := by rw [el]; exact hl301
  have hn : (sh_lay km_602).length = 302 := by rw [el]; exact hn
  refine vv_dup_ref 230 dX12_init_230 ?_
  refine vv_iconst 231 dX12_init_231 ik_1 ?_
  refine vv_bipush 232 dX12_init_232 bk_110 ?_
  refine vc_cast (μ1 := km_603) 234 dX12_init_234 hl301 (by unfold vp_in; decide) rfl (by decide) rfl ?_
  have el : sh_lay km_603 = sh_lay km_602 := by rw [show km_603 = sh_setI km_602 301 1 110 from rfl]; exact sh_lyI
  have hl291 : (sh_lay km_603)[291]? = some (12, 0) := by rw [el]; exact hl291
  have hl301 : (sh_lay km_603)[301]? = some (15, 5) := by rw [el]; exact hl301
  have hn : (sh_lay km_603).length = 302 := by rw [el]; exact hn
  refine vv_dup_ref 235 dX12_init_235 ?_
  refine vv_iconst 236 dX12_init_236 ik_2 ?_
  refine vv_bipush 237 dX12_init_237 bk_111 ?_
  refine vc_cast (μ1 := km_604) 239 dX12_init_239 hl301 (by unfold vp_in; decide) rfl (by decide) rfl ?_
  have el : sh_lay km_604 = sh_lay km_603 := by rw [show km_604 = sh_setI km_603 301 2 111 from rfl]; exact sh_lyI
  have hl291 : (sh_lay km_604)[291]? = some (12, 0) := by rw [el]; exact hl291
  have hl301 : (sh_lay km_604)[301]? = some (15, 5) := by rw [el]; exact hl301
  have hn : (sh_lay km_604).length = 302 := by rw [el]; exact hn
  refine vv_dup_ref 240 dX12_init_240 ?_
  refine vv_iconst 241 dX12_init_241 ik_3 ?_
  refine vv_bipush 242 dX12_init_242 bk_119 ?_
  refine vc_cast (μ1 := km_605) 244 dX12_init_244 hl301 (by unfold vp_in; decide) rfl (by decide) rfl ?_
  have el : sh_lay km_605 = sh_lay km_604 := by rw [show km_605 = sh_setI km_604 301 3 119 from rfl]; exact sh_lyI
  have hl291 : (sh_lay km_605)[291]? = some (12, 0) := by rw [el]; exact hl291
  have hl301 : (sh_lay km_605)[301]? = some (15, 5) := by rw [el]; exact hl301
  have hn : (sh_lay km_605).length = 302 := by rw [el]; exact hn
  refine vv_dup_ref 245 dX12_init_245 ?_
  refine vv_iconst 246 dX12_init_246 ik_4 ?_
  refine vv_bipush 247 dX12_init_247 bk_115 ?_
  refine vc_cast (μ1 := km_606) 249 dX12_init_249 hl301 (by unfold vp_in; decide) rfl (by decide) rfl ?_
  have el : sh_lay km_606 = sh_lay km_605 := by rw [show km_606 = sh_setI km_605 301 4 115 from rfl]; exact sh_lyI
  have hl291 : (sh_lay km_606)[291]? = some (12, 0) := by rw [el]; exact hl291
  have hl301 : (sh_lay km_606)[301]? = some (15, 5) := by rw [el]; exact hl301
  have hn : (sh_lay km_606).length = 302 := by rw [el]; exact hn
  refine vn_putR 250 dX12_init_250 fl_12_42 (Or.inr ⟨rfl, rfl, rfl⟩) rfl hl291 (fun y ey => ?_)
  obtain rfl : y = km_607 := ey
  have el : sh_lay km_607 = sh_lay km_606 := by rw [show km_607 = sh_setR km_606 291 18 (some 301) from rfl]; exact sh_lyR
  have hl291 : (sh_lay km_607)[291]? = some (12, 0) := by rw [el]; exact hl291
  have hn : (sh_lay km_607).length = 302 := by rw [el]; exact hn
  refine vv_aload_n 253 0 dX12_init_253 rfl rfl ?_
  refine vv_iconst 254 dX12_init_254 ik_2 ?_
  refine vk_newa (N := 2) (c1 := 11) (s1 := 1642) 15 .char (Or.inr (Or.inr ⟨rfl, rfl⟩)) 255 dX12_init_255 ac_15 (by decide) (by decide) (Nat.le_of_ble_eq_true rfl) (n := 302) hn (μ1 := km_608) rfl rfl rfl (Nat.le_of_ble_eq_true rfl) (Nat.le_of_ble_eq_true rfl) ?_
  have el : km_608 = sh_add km_607 (15, 2) := rfl
  have hl291 : (sh_lay km_608)[291]? = some (12, 0) := by rw [el]; exact sh_lay_add hl291
  have hl302 : (sh_lay km_608)[302]? = some (15, 2) := by rw [el]; exact sh_lay_new hn
  have hn : (sh_lay km_608).length = 303 := by rw [el]; exact sh_len_add hn
  refine vv_dup_ref 257 dX12_init_257 ?_
  refine vv_iconst 258 dX12_init_258 ik_0 ?_
  refine vv_bipush 259 dX12_init_259 bk_111 ?_
  refine vc_cast (μ1 := km_609) 261 dX12_init_261 hl302 (by unfold vp_in; decide) rfl (by decide) rfl ?_
  have el : sh_lay km_609 = sh_lay km_608 := by rw [show km_609 = sh_setI km_608 302 0 111 from rfl]; exact sh_lyI
  have hl291 : (sh_lay km_609)[291]? = some (12, 0) := by rw [el]; exact hl291
  have hl302 : (sh_lay km_609)[302]? = some (15, 2) := by rw [el]; exact hl302
  have hn : (sh_lay km_609).length = 303 := by rw [el]; exact hn
  refine vv_dup_ref 262 dX12_init_262 ?_
  refine vv_iconst 263 dX12_init_263 ik_1 ?_
  refine vv_bipush 264 dX12_init_264 bk_102 ?_
  refine vc_cast (μ1 := km_610) 266 dX12_init_266 hl302 (by unfold vp_in; decide) rfl (by decide) rfl ?_
  have el : sh_lay km_610 = sh_lay km_609 := by rw [show km_610 = sh_setI km_609 302 1 102 from rfl]; exact sh_lyI
  have hl291 : (sh_lay km_610)[291]? = some (12, 0) := by rw [el]; exact hl291
  have hl302 : (sh_lay km_610)[302]? = some (15, 2) := by rw [el]; exact hl302
  have hn : (sh_lay km_610).length = 303 := by rw [el]; exact hn
  refine vn_putR 267 dX12_init_267 fl_12_45 (Or.inr ⟨rfl, rfl, rfl⟩) rfl hl291 (fun y ey => ?_)
  obtain rfl : y = km_611 := ey
  have el : sh_lay km_611 = sh_lay km_610 := by rw [show km_611 = sh_setR km_610 291 19 (some 302) from rfl]; exact sh_lyR
  have hl291 : (sh_lay km_611)[291]? = some (12, 0) := by rw [el]; exact hl291
  have hn : (sh_lay km_611).length = 303 := by rw [el]; exact hn
  refine vv_aload_n 270 0 dX12_init_270 rfl rfl ?_
  refine vv_iconst 271 dX12_init_271 ik_4 ?_
  refine vk_newa (N := 4) (c1 := 12) (s1 := 1646) 15 .char (Or.inr (Or.inr ⟨rfl, rfl⟩)) 272 dX12_init_272 ac_15 (by decide) (by decide) (Nat.le_of_ble_eq_true rfl) (n := 303) hn (μ1 := km_612) rfl rfl rfl (Nat.le_of_ble_eq_true rfl) (Nat.le_of_ble_eq_true rfl) ?_
  have el : km_612 = sh_add km_611 (15, 4) := rfl
  have hl291 : (sh_lay km_612)[291]? = some (12, 0) := by rw [el]; exact sh_lay_add hl291
  have hl303 : (sh_lay km_612)[303]? = some (15, 4) := by rw [el]; exact sh_lay_new hn
  have hn : (sh_lay km_612).length = 304 := by rw [el]; exact sh_len_add hn
  refine vv_dup_ref 274 dX12_init_274 ?_
  refine vv_iconst 275 dX12_init_275 ik_0 ?_
  refine vv_bipush 276 dX12_init_276 bk_97 ?_
  refine vc_cast (μ1 := km_613) 278 dX12_init_278 hl303 (by unfold vp_in; decide) rfl (by decide) rfl ?_
  have el : sh_lay km_613 = sh_lay km_612 := by rw [show km_613 = sh_setI km_612 303 0 97 from rfl]; exact sh_lyI
  have hl291 : (sh_lay km_613)[291]? = some (12, 0) := by rw [el]; exact hl291
  have hl303 : (sh_lay km_613)[303]? = some (15, 4) := by rw [el]; exact hl303
  have hn : (sh_lay km_613).length = 304 := by rw [el]; exact hn
  refine vv_dup_ref 279 dX12_init_279 ?_
  refine vv_iconst 280 dX12_init_280 ik_1 ?_
  refine vv_bipush 281 dX12_init_281 bk_115 ?_
  refine vc_cast (μ1 := km_614) 283 dX12_init_283 hl303 (by unfold vp_in; decide) rfl (by decide) rfl ?_
  have el : sh_lay km_614 = sh_lay km_613 := by rw [show km_614 = sh_setI km_613 303 1 115 from rfl]; exact sh_lyI
  have hl291 : (sh_lay km_614)[291]? = some (12, 0) := by rw [el]; exact hl291
  have hl303 : (sh_lay km_614)[303]? = some (15, 4) := by rw [el]; exact hl303
  have hn : (sh_lay km_614).length = 304 := by rw [el]; exact hn
  refine vv_dup_ref 284 dX12_init_284 ?_
  refine vv_iconst 285 dX12_init_285 ik_2 ?_
  refine vv_bipush 286 dX12_init_286 bk_107 ?_
  refine vc_cast (μ1 := km_615) 288 dX12_init_288 hl303 (by unfold vp_in; decide) rfl (by decide) rfl ?_
  have el : sh_lay km_615 = sh_lay km_614 := by rw [show km_615 = sh_setI km_614 303 2 107 from rfl]; exact sh_lyI
  have hl291 : (sh_lay km_615)[291]? = some (12, 0) := by rw [el]; exact hl291
  have hl303 : (sh_lay km_615)[303]? = some (15, 4) := by rw [el]; exact hl303
  have hn : (sh_lay km_615).length = 304 := by rw [el]; exact hn
  refine vv_dup_ref 289 dX12_init_289 ?_
  refine vv_iconst 290 dX12_init_290 ik_3 ?_
  refine vv_bipush 291 dX12_init_291 bk_115 ?_
  refine vc_cast (μ1 := km_616) 293 dX12_init_293 hl303 (by unfold vp_in; decide) rfl (by decide) rfl ?_
  have el : sh_lay km_616 = sh_lay km_615 := by rw [show km_616 = sh_setI km_615 303 3 115 from rfl]; exact sh_lyI
  have hl291 : (sh_lay km_616)[291]? = some (12, 0) := by rw [el]; exact hl291
  have hl303 : (sh_lay km_616)[303]? = some (15, 4) := by rw [el]; exact hl303
  have hn : (sh_lay km_616).length = 304 := by rw [el]; exact hn
  refine vn_putR 294 dX12_init_294 fl_12_48 (Or.inr ⟨rfl, rfl, rfl⟩) rfl hl291 (fun y ey => ?_)
  obtain rfl : y = km_617 := ey
  have el : sh_lay km_617 = sh_lay km_616 := by rw [show km_617 = sh_setR km_616 291 20 (some 303) from rfl]; exact sh_lyR
  have hl291 : (sh_lay km_617)[291]? = some (12, 0) := by rw [el]; exact hl291
  have hn : (sh_lay km_617).length = 304 := by rw [el]; exact hn
  refine vv_aload_n 297 0 dX12_init_297 rfl rfl ?_
  refine vv_iconst 298 dX12_init_298 ik_5 ?_
  refine vk_newa (N := 5) (c1 := 13) (s1 := 1651) 15 .char (Or.inr (Or.inr ⟨rfl, rfl⟩)) 299 dX12_init_299 ac_15 (by decide) (by decide) (Nat.le_of_ble_eq_true rfl) (n := 304) hn (μ1 := km_618) rfl rfl rfl (Nat.le_of_ble_eq_true rfl) (Nat.le_of_ble_eq_true rfl) ?_
  have el : km_618 = sh_add km_617 (15, 5) := rfl
  have hl291 : (sh_lay km_618)[291]? = some (12, 0) := by rw [el]; exact sh_lay_add hl291
  have hl304 : (sh_lay km_618)[304]? = some (15, 5) := by rw [el]; exact sh_lay_new hn
  have hn : (sh_lay km_618).length = 305 := by rw [el]; exact sh_len_add hn
  refine vv_dup_ref 301 dX12_init_301 ?_
  refine vv_iconst 302 dX12_init_302 ik_0 ?_
  refine vv_bipush 303 dX12_init_303 bk_108 ?_
  refine vc_cast (μ1 := km_619) 305 dX12_init_305 hl304 (by unfold vp_in; decide) rfl (by decide) rfl ?_
  have el : sh_lay km_619 = sh_lay km_618 := by rw [show km_619 = sh_setI km_618 304 0 108 from rfl]; exact sh_lyI
  have hl291 : (sh_lay km_619)[291]? = some (12, 0) := by rw [el]; exact hl291
  have hl304 : (sh_lay km_619)[304]? = some (15, 5) := by rw [el]; exact hl304
  have hn : (sh_lay km_619).length = 305 := by rw [el]; exact hn
  refine vv_dup_ref 306 dX12_init_306 ?_
  refine vv_iconst 307 dX12_init_307 ik_1 ?_
  refine vv_bipush 308 dX12_init_308 bk_105 ?_
  refine vc_cast (μ1 := km_620) 310 dX12_init_310 hl304 (by unfold vp_in; decide) rfl (by decide) rfl ?_
  have el : sh_lay km_620 = sh_lay km_619 := by rw [show km_620 = sh_setI km_619 304 1 105 from rfl]; exact sh_lyI
  have hl291 : (sh_lay km_620)[291]? = some (12, 0) := by rw [el]; exact hl291
  have hl304 : (sh_lay km_620)[304]? = some (15, 5) := by rw [el]; exact hl304
  have hn : (sh_lay km_620).length = 305 := by rw [el]; exact hn
  refine vv_dup_ref 311 dX12_init_311 ?_
  refine vv_iconst 312 dX12_init_312 ik_2 ?_
  refine vv_bipush 313 dX12_init_313 bk_102 ?_
  refine vc_cast (μ1 := km_621) 315 dX12_init_315 hl304 (by unfold vp_in; decide) rfl (by decide) rfl ?_
  have el : sh_lay km_621 = sh_lay km_620 := by rw [show km_621 = sh_setI km_620 304 2 102 from rfl]; exact sh_lyI
  have hl291 : (sh_lay km_621)[291]? = some (12, 0) := by rw [el]; exact hl291
  have hl304 : (sh_lay km_621)[304]? = some (15, 5) := by rw [el]; exact hl304
  have hn : (sh_lay km_621).length = 305 := by rw [el]; exact hn
  refine vv_dup_ref 316 dX12_init_316 ?_
  refine vv_iconst 317 dX12_init_317 ik_3 ?_
  refine vv_bipush 318 dX12_init_318 bk_116 ?_
  refine vc_cast (μ1 := km_622) 320 dX12_init_320 hl304 (by unfold vp_in; decide) rfl (by decide) rfl ?_
  have el : sh_lay km_622 = sh_lay km_621 := by rw [show km_622 = sh_setI km_621 304 3 116 from rfl]; exact sh_lyI
  have hl291 : (sh_lay km_622)[291]? = some (12, 0) := by rw [el]; exact hl291
  have hl304 : (sh_lay km_622)[304]? = some (15, 5) := by rw [el]; exact hl304
  have hn : (sh_lay km_622).length = 305 := by rw [el]; exact hn
  refine vv_dup_ref 321 dX12_init_321 ?_
  refine vv_iconst 322 dX12_init_322 ik_4 ?_
  refine vv_bipush 323 dX12_init_323 bk_115 ?_
  refine vc_cast (μ1 := km_623) 325 dX12_init_325 hl304 (by unfold vp_in; decide) rfl (by decide) rfl ?_
  have el : sh_lay km_623 = sh_lay km_622 := by rw [show km_623 = sh_setI km_622 304 4 115 from rfl]; exact sh_lyI
  have hl291 : (sh_lay km_623)[291]? = some (12, 0) := by rw [el]; exact hl291
  have hl304 : (sh_lay km_623)[304]? = some (15, 5) := by rw [el]; exact hl304
  have hn : (sh_lay km_623).length = 305 := by rw [el]; exact hn
  refine vn_putR 326 dX12_init_326 fl_12_51 (Or.inr ⟨rfl, rfl, rfl⟩) rfl hl291 (fun y ey => ?_)
  obtain rfl : y = km_624 := ey
  have el : sh_lay km_624 = sh_lay km_623 := by rw [show km_624 = sh_setR km_623 291 21 (some 304) from rfl]; exact sh_lyR
  have hl291 : (sh_lay km_624)[291]? = some (12, 0) := by rw [el]; exact hl291
  have hn : (sh_lay km_624).length = 305 := by rw [el]; exact hn
  refine vv_aload_n 329 0 dX12_init_329 rfl rfl ?_
  refine vv_iconst 330 dX12_init_330 ik_5 ?_
  refine vk_newa (N := 5) (c1 := 14) (s1 := 1656) 15 .char (Or.inr (Or.inr ⟨rfl, rfl⟩)) 331 dX12_init_331 ac_15 (by decide) (by decide) (Nat.le_of_ble_eq_true rfl) (n := 305) hn (μ1 := km_625) rfl rfl rfl (Nat.le_of_ble_eq_true rfl) (Nat.le_of_ble_eq_true rfl) ?_
  have el : km_625 = sh_add km_624 (15, 5) := rfl
  have hl291 : (sh_lay km_625)[291]? = some (12, 0) := by rw [el]; exact sh_lay_add hl291
  have hl305 : (sh_lay km_625)[305]? = some (15, 5) := by rw [el]; exact sh_lay_new hn
  have hn : (sh_lay km_625).length = 306 := by rw [el]; exact sh_len_add hn
  refine vv_dup_ref 333 dX12_init_333 ?_
  refine vv_iconst 334 dX12_init_334 ik_0 ?_
  refine vv_bipush 335 dX12_init_335 bk_116 ?_
  refine vc_cast (μ1 := km_626) 337 dX12_init_337 hl305 (by unfold vp_in; decide) rfl (by decide) rfl ?_
  have el : sh_lay km_626 = sh_lay km_625 := by rw [show km_626 = sh_setI km_625 305 0 116 from rfl]; exact sh_lyI
  have hl291 : (sh_lay km_626)[291]? = some (12, 0) := by rw [el]; exact hl291
  have hl305 : (sh_lay km_626)[305]? = some (15, 5) := by rw [el]; exact hl305
  have hn : (sh_lay km_626).length = 306 := by rw [el]; exact hn
  refine vv_dup_ref 338 dX12_init_338 ?_
  refine vv_iconst 339 dX12_init_339 ik_1 ?_
  refine vv_bipush 340 dX12_init_340 bk_105 ?_
  refine vc_cast (μ1 := km_627) 342 dX12_init_342 hl305 (by unfold vp_in; decide) rfl (by decide) rfl ?_
  have el : sh_lay km_627 = sh_lay km_626 := by rw [show km_627 = sh_setI km_626 305 1 105 from rfl]; exact sh_lyI
  have hl291 : (sh_lay km_627)[291]? = some (12, 0) := by rw [el]; exact hl291
  have hl305 : (sh_lay km_627)[305]? = some (15, 5) := by rw [el]; exact hl305
  have hn : (sh_lay km_627).length = 306 := by rw [el]; exact hn
  refine vv_dup_ref 343 dX12_init_343 ?_
  refine vv_iconst 344 dX12_init_344 ik_2 ?_
  refine vv_bipush 345 dX12_init_345 bk_114 ?_
  refine vc_cast (μ1 := km_628) 347 dX12_init_347 hl305 (by unfold vp_in; decide) rfl (by decide) rfl ?_
  have el : sh_lay km_628 = sh_lay km_627 := by rw [show km_628 = sh_setI km_627 305 2 114 from rfl]; exact sh_lyI
  have hl291 : (sh_lay km_628)[291]? = some (12, 0) := by rw [el]; exact hl291
  have hl305 : (sh_lay km_628)[305]? = some (15, 5) := by rw [el]; exact hl305
  have hn : (sh_lay km_628).length = 306 := by rw [el]; exact hn
  refine vv_dup_ref 348 dX12_init_348 ?_
  refine vv_iconst 349 dX12_init_349 ik_3 ?_
  refine vv_bipush 350 dX12_init_350 bk_101 ?_
  refine vc_cast (μ1 := km_629) 352 dX12_init_352 hl305 (by unfold vp_in; decide) rfl (by decide) rfl ?_
  have el : sh_lay km_629 = sh_lay km_628 := by rw [show km_629 = sh_setI km_628 305 3 101 from rfl]; exact sh_lyI
  have hl291 : (sh_lay km_629)[291]? = some (12, 0) := by rw [el]; exact hl291
  have hl305 : (sh_lay km_629)[305]? = some (15, 5) := by rw [el]; exact hl305
  have hn : (sh_lay km_629).length = 306 := by rw [el]; exact hn
  refine vv_dup_ref 353 dX12_init_353 ?_
  refine vv_iconst 354 dX12_init_354 ik_4 ?_
  refine vv_bipush 355 dX12_init_355 bk_115 ?_
  refine vc_cast (μ1 := km_630) 357 dX12_init_357 hl305 (by unfold vp_in; decide) rfl (by decide) rfl ?_
  have el : sh_lay km_630 = sh_lay km_629 := by rw [show km_630 = sh_setI km_629 305 4 115 from rfl]; exact sh_lyI
  have hl291 : (sh_lay km_630)[291]? = some (12, 0) := by rw [el]; exact hl291
  have hl305 : (sh_lay km_630)[305]? = some (15, 5) := by rw [el]; exact hl305
  have hn : (sh_lay km_630).length = 306 := by rw [el]; exact hn
  refine vn_putR 358 dX12_init_358 fl_12_54 (Or.inr ⟨rfl, rfl, rfl⟩) rfl hl291 (fun y ey => ?_)
  obtain rfl : y = km_631 := ey
  have el : sh_lay km_631 = sh_lay km_630 := by rw [show km_631 = sh_setR km_630 291 22 (some 305) from rfl]; exact sh_lyR
  have hl291 : (sh_lay km_631)[291]? = some (12, 0) := by rw [el]; exact hl291
  have hn : (sh_lay km_631).length = 306 := by rw [el]; exact hn
  refine vv_aload_n 361 0 dX12_init_361 rfl rfl ?_
  refine vv_iconst 362 dX12_init_362 ik_5 ?_
  refine vk_newa (N := 5) (c1 := 15) (s1 := 1661) 15 .char (Or.inr (Or.inr ⟨rfl, rfl⟩)) 363 dX12_init_363 ac_15 (by decide) (by decide) (Nat.le_of_ble_eq_true rfl) (n := 306) hn (μ1 := km_632) rfl rfl rfl (Nat.le_of_ble_eq_true rfl) (Nat.le_of_ble_eq_true rfl) ?_
  have el : km_632 = sh_add km_631 (15, 5) := rfl
  have hl291 : (sh_lay km_632)[291]? = some (12, 0) := by rw [el]; exact sh_lay_add hl291
  have hl306 : (sh_lay km_632)[306]? = some (15, 5) := by rw [el]; exact sh_lay_new hn
  have hn : (sh_lay km_632).length = 307 := by rw [el]; exact sh_len_add hn
  refine vv_dup_ref 365 dX12_init_365 ?_
  refine vv_iconst 366 dX12_init_366 ik_0 ?_
  refine vv_bipush 367 dX12_init_367 bk_104 ?_
  refine vc_cast (μ1 := km_633) 369 dX12_init_369 hl306 (by unfold vp_in; decide) rfl (by decide) rfl ?_
  have el : sh_lay km_633 = sh_lay km_632 := by rw [show km_633 = sh_setI km_632 306 0 104 from rfl]; exact sh_lyI
  have hl291 : (sh_lay km_633)[291]? = some (12, 0) := by rw [el]; exact hl291
  have hl306 : (sh_lay km_633)[306]? = some (15, 5) := by rw [el]; exact hl306
  have hn : (sh_lay km_633).length = 307 := by rw [el]; exact hn
  refine vv_dup_ref 370 dX12_init_370 ?_
  refine vv_iconst 371 dX12_init_371 ik_1 ?_
  refine vv_bipush 372 dX12_init_372 bk_111 ?_
  refine vc_cast (μ1 := km_634) 374 dX12_init_374 hl306 (by unfold vp_in; decide) rfl (by decide) rfl ?_
  have el : sh_lay km_634 = sh_lay km_633 := by rw [show km_634 = sh_setI km_633 306 1 111 from rfl]; exact sh_lyI
  have hl291 : (sh_lay km_634)[291]? = some (12, 0) := by rw [el]; exact hl291
  have hl306 : (sh_lay km_634)[306]? = some (15, 5) := by rw [el]; exact hl306
  have hn : (sh_lay km_634).length = 307 := by rw [el]; exact hn
  refine vv_dup_ref 375 dX12_init_375 ?_
  refine vv_iconst 376 dX12_init_376 ik_2 ?_
  refine vv_bipush 377 dX12_init_377 bk_108 ?_
  refine vc_cast (μ1 := km_635) 379 dX12_init_379 hl306 (by unfold vp_in; decide) rfl (by decide) rfl ?_
  have el : sh_lay km_635 = sh_lay km_634 := by rw [show km_635 = sh_setI km_634 306 2 108 from rfl]; exact sh_lyI
  have hl291 : (sh_lay km_635)[291]? = some (12, 0) := by rw [el]; exact hl291
  have hl306 : (sh_lay km_635)[306]? = some (15, 5) := by rw [el]; exact hl306
  have hn : (sh_lay km_635).length = 307 := by rw [el]; exact hn
  refine vv_dup_ref 380 dX12_init_380 ?_
  refine vv_iconst 381 dX12_init_381 ik_3 ?_
  refine vv_bipush 382 dX12_init_382 bk_100 ?_
  refine vc_cast (μ1 := km_636) 384 dX12_init_384 hl306 (by unfold vp_in; decide) rfl (by decide) rfl ?_
  have el : sh_lay km_636 = sh_lay km_635 := by rw [show km_636 = sh_setI km_635 306 3 100 from rfl]; exact sh_lyI
  have hl291 : (sh_lay km_636)[291]? = some (12, 0) := by rw [el]; exact hl291
  have hl306 : (sh_lay km_636)[306]? = some (15, 5) := by rw [el]; exact hl306
  have hn : (sh_lay km_636).length = 307 := by rw [el]; exact hn
  refine vv_dup_ref 385 dX12_init_385 ?_
  refine vv_iconst 386 dX12_init_386 ik_4 ?_
  refine vv_bipush 387 dX12_init_387 bk_115 ?_
  refine vc_cast (μ1 := km_637) 389 dX12_init_389 hl306 (by unfold vp_in; decide) rfl (by decide) rfl ?_
  have el : sh_lay km_637 = sh_lay km_636 := by rw [show km_637 = sh_setI km_636 306 4 115 from rfl]; exact sh_lyI
  have hl291 : (sh_lay km_637)[291]? = some (12, 0) := by rw [el]; exact hl291
  have hl306 : (sh_lay km_637)[306]? = some (15, 5) := by rw [el]; exact hl306
  have hn : (sh_lay km_637).length = 307 := by rw [el]; exact hn
  refine vn_putR 390 dX12_init_390 fl_12_57 (Or.inr ⟨rfl, rfl, rfl⟩) rfl hl291 (fun y ey => ?_)
  obtain rfl : y = km_638 := ey
  have el : sh_lay km_638 = sh_lay km_637 := by rw [show km_638 = sh_setR km_637 291 23 (some 306) from rfl]; exact sh_lyR
  have hl291 : (sh_lay km_638)[291]? = some (12, 0) := by rw [el]; exact hl291
  have hn : (sh_lay km_638).length = 307 := by rw [el]; exact hn
  refine vv_aload_n 393 0 dX12_init_393 rfl rfl ?_
  refine vv_iconst 394 dX12_init_394 ik_5 ?_
  refine vk_newa (N := 5) (c1 := 16) (s1 := 1666) 15 .char (Or.inr (Or.inr ⟨rfl, rfl⟩)) 395 dX12_init_395 ac_15 (by decide) (by decide) (Nat.le_of_ble_eq_true rfl) (n := 307) hn (μ1 := km_639) rfl rfl rfl (Nat.le_of_ble_eq_true rfl) (Nat.le_of_ble_eq_true rfl) ?_
  have el : km_639 = sh_add km_638 (15, 5) := rfl
  have hl291 : (sh_lay km_639)[291]? = some (12, 0) := by rw [el]; exact sh_lay_add hl291
  have hl307 : (sh_lay km_639)[307]? = some (15, 5) := by rw [el]; exact sh_lay_new hn
  have hn : (sh_lay km_639).length = 308 := by rw [el]; exact sh_len_add hn
  refine vv_dup_ref 397 dX12_init_397 ?_
  refine vv_iconst 398 dX12_init_398 ik_0 ?_
  refine vv_bipush 399 dX12_init_399 bk_99 ?_
  refine vc_cast (μ1 := km_640) 401 dX12_init_401 hl307 (by unfold vp_in; decide) rfl (by decide) rfl ?_
  have el : sh_lay km_640 = sh_lay km_639 := by rw [show km_640 = sh_setI km_639 307 0 99 from rfl]; exact sh_lyI
  have hl291 : (sh_lay km_640)[291]? = some (12, 0) := by rw [el]; exact hl291
  have hl307 : (sh_lay km_640)[307]? = some (15, 5) := by rw [el]; exact hl307
  have hn : (sh_lay km_640).length = 308 := by rw [el]; exact hn
  refine vv_dup_ref 402 dX12_init_402 ?_
  refine vv_iconst 403 dX12_init_403 ik_1 ?_
  refine vv_bipush 404 dX12_init_404 bk_114 ?_
  refine vc_cast (μ1 := km_641) 406 dX12_init_406 hl307 (by unfold vp_in; decide) rfl (by decide) rfl ?_
  have el : sh_lay km_641 = sh_lay km_640 := by rw [show km_641 = sh_setI km_640 307 1 114 from rfl]; exact sh_lyI
  have hl291 : (sh_lay km_641)[291]? = some (12, 0) := by rw [el]; exact hl291
  have hl307 : (sh_lay km_641)[307]? = some (15, 5) := by rw [el]; exact hl307
  have hn : (sh_lay km_641).length = 308 := by rw [el]; exact hn
  refine vv_dup_ref 407 dX12_init_407 ?_
  refine vv_iconst 408 dX12_init_408 ik_2 ?_
  refine vv_bipush 409 dX12_init_409 bk_111 ?_
  refine vc_cast (μ1 := km_642) 411 dX12_init_411 hl307 (by unfold vp_in; decide) rfl (by decide) rfl ?_
  have el : sh_lay km_642 = sh_lay km_641 := by rw [show km_642 = sh_setI km_641 307 2 111 from rfl]; exact sh_lyI
  have hl291 : (sh_lay km_642)[291]? = some (12, 0) := by rw [el]; exact hl291
  have hl307 : (sh_lay km_642)[307]? = some (15, 5) := by rw [el]; exact hl307
  have hn : (sh_lay km_642).length = 308 := by rw [el]; exact hn
  refine vv_dup_ref 412 dX12_init_412 ?_
  refine vv_iconst 413 dX12_init_413 ik_3 ?_
  refine vv_bipush 414 dX12_init_414 bk_119 ?_
  refine vc_cast (μ1 := km_643) 416 dX12_init_416 hl307 (by unfold vp_in; decide) rfl (by decide) rfl ?_
  have el : sh_lay km_643 = sh_lay km_642 := by rw [show km_643 = sh_setI km_642 307 3 119 from rfl]; exact sh_lyI
  have hl291 : (sh_lay km_643)[291]? = some (12, 0) := by rw [el]; exact hl291
  have hl307 : (sh_lay km_643)[307]? = some (15, 5) := by rw [el]; exact hl307
  have hn : (sh_lay km_643).length = 308 := by rw [el]; exact hn
  refine vv_dup_ref 417 dX12_init_417 ?_
  refine vv_iconst 418 dX12_init_418 ik_4 ?_
  refine vv_bipush 419 dX12_init_419 bk_100 ?_
  refine vc_cast (μ1 := km_644) 421 dX12_init_421 hl307 (by unfold vp_in; decide) rfl (by decide) rfl ?_
  have el : sh_lay km_644 = sh_lay km_643 := by rw [show km_644 = sh_setI km_643 307 4 100 from rfl]; exact sh_lyI
  have hl291 : (sh_lay km_644)[291]? = some (12, 0) := by rw [el]; exact hl291
  have hl307 : (sh_lay km_644)[307]? = some (15, 5) := by rw [el]; exact hl307
  have hn : (sh_lay km_644).length = 308 := by rw [el]; exact hn
  refine vn_putR 422 dX12_init_422 fl_12_60 (Or.inr ⟨rfl, rfl, rfl⟩) rfl hl291 (fun y ey => ?_)
  obtain rfl : y = km_645 := ey
  have el : sh_lay km_645 = sh_lay km_644 := by rw [show km_645 = sh_setR km_644 291 24 (some 307) from rfl]; exact sh_lyR
  have hl291 : (sh_lay km_645)[291]? = some (12, 0) := by rw [el]; exact hl291
  have hn : (sh_lay km_645).length = 308 := by rw [el]; exact hn
  refine vv_aload_n 425 0 dX12_init_425 rfl rfl ?_
  refine vv_bipush 426 dX12_init_426 bk_6 ?_
  refine vk_newa (N := 6) (c1 := 17) (s1 := 1672) 15 .char (Or.inr (Or.inr ⟨rfl, rfl⟩)) 428 dX12_init_428 ac_15 (by decide) (by decide) (Nat.le_of_ble_eq_true rfl) (n := 308) hn (μ1 := km_646) rfl rfl rfl (Nat.le_of_ble_eq_true rfl) (Nat.le_of_ble_eq_true rfl) ?_
  have el : km_646 = sh_add km_645 (15, 6) := rfl
  have hl291 : (sh_lay km_646)[291]? = some (12, 0) := by rw [el]; exact sh_lay_add hl291
  have hl308 : (sh_lay km_646)[308]? = some (15, 6) := by rw [el]; exact sh_lay_new hn
  have hn : (sh_lay km_646).length = 309 := by rw [el]; exact sh_len_add hn
  refine vv_dup_ref 430 dX12_init_430 ?_
  refine vv_iconst 431 dX12_init_431 ik_0 ?_
  refine vv_bipush 432 dX12_init_432 bk_104 ?_
  refine vc_cast (μ1 := km_647) 434 dX12_init_434 hl308 (by unfold vp_in; decide) rfl (by decide) rfl ?_
  have el : sh_lay km_647 = sh_lay km_646 := by rw [show km_647 = sh_setI km_646 308 0 104 from rfl]; exact sh_lyI
  have hl291 : (sh_lay km_647)[291]? = some (12, 0) := by rw [el]; exact hl291
  have hl308 : (sh_lay km_647)[308]? = some (15, 6) := by rw [el]; exact hl308
  have hn : (sh_lay km_647).length = 309 := by rw [el]; exact hn
  refine vv_dup_ref 435 dX12_init_435 ?_
  refine vv_iconst 436 dX12_init_436 ik_1 ?_
  refine vv_bipush 437 dX12_init_437 bk_101 ?_
  refine vc_cast (μ1 := km_648) 439 dX12_init_439 hl308 (by unfold vp_in; decide) rfl (by decide) rfl ?_
  have el : sh_lay km_648 = sh_lay km_647 := by rw [show km_648 = sh_setI km_647 308 1 101 from rfl]; exact sh_lyI
  have hl291 : (sh_lay km_648)[291]? = some (12, 0) := by rw [el]; exact hl291
  have hl308 : (sh_lay km_648)[308]? = some (15, 6) := by rw [el]; exact hl308
  have hn : (sh_lay km_648).length = 309 := by rw [el]; exact hn
  refine vv_dup_ref 440 dX12_init_440 ?_
  refine vv_iconst 441 dX12_init_441 ik_2 ?_
  refine vv_bipush 442 dX12_init_442 bk_105 ?_
  refine vc_cast (μ1 := km_649) 444 dX12_init_444 hl308 (by unfold vp_in; decide) rfl (by decide) rfl ?_
  have el : sh_lay km_649 = sh_lay km_648 := by rw [show km_649 = sh_setI km_648 308 2 105 from rfl]; exact sh_lyI
  have hl291 : (sh_lay km_649)[291]? = some (12, 0) := by rw [el]; exact hl291
  have hl308 : (sh_lay km_649)[308]? = some (15, 6) := by rw [el]; exact hl308
  have hn : (sh_lay km_649).length = 309 := by rw [el]; exact hn
  refine vv_dup_ref 445 dX12_init_445 ?_
  refine vv_iconst 446 dX12_init_446 ik_3 ?_
  refine vv_bipush 447 dX12_init_447 bk_103 ?_
  refine vc_cast (μ1 := km_650) 449 dX12_init_449 hl308 (by unfold vp_in; decide) rfl (by decide) rfl ?_
  have el : sh_lay km_650 = sh_lay km_649 := by rw [show km_650 = sh_setI km_649 308 3 103 from rfl]; exact sh_lyI
  have hl291 : (sh_lay km_650)[291]? = some (12, 0) := by rw [el]; exact hl291
  have hl308 : (sh_lay km_650)[308]? = some (15, 6) := by rw [el]; exact hl308
  have hn : (sh_lay km_650).length = 309 := by rw [el]; exact hn
  refine vv_dup_ref 450 dX12_init_450 ?_
  refine vv_iconst 451 dX12_init_451 ik_4 ?_
  refine vv_bipush 452 dX12_init_452 bk_104 ?_
  refine vc_cast (μ1 := km_651) 454 dX12_init_454 hl308 (by unfold vp_in; decide) rfl (by decide) rfl ?_
  have el : sh_lay km_651 = sh_lay km_650 := by rw [show km_651 = sh_setI km_650 308 4 104 from rfl]; exact sh_lyI
  have hl291 : (sh_lay km_651)[291]? = some (12, 0) := by rw [el]; exact hl291
  have hl308 : (sh_lay km_651)[308]? = some (15, 6) := by rw [el]; exact hl308
  have hn : (sh_lay km_651).length = 309 := by rw [el]; exact hn
  refine vv_dup_ref 455 dX12_init_455 ?_
  refine vv_iconst 456 dX12_init_456 ik_5 ?_
  refine vv_bipush 457 dX12_init_457 bk_116 ?_
  refine vc_cast (μ1 := km_652) 459 dX12_init_459 hl308 (by unfold vp_in; decide) rfl (by decide) rfl ?_
  have el : sh_lay km_652 = sh_lay km_651 := by rw [show km_652 = sh_setI km_651 308 5 116 from rfl]; exact sh_lyI
  have hl291 : (sh_lay km_652)[291]? = some (12, 0) := by rw [el]; exact hl291
  have hl308 : (sh_lay km_652)[308]? = some (15, 6) := by rw [el]; exact hl308
  have hn : (sh_lay km_652).length = 309 := by rw [el]; exact hn
  refine vn_putR 460 dX12_init_460 fl_12_63 (Or.inr ⟨rfl, rfl, rfl⟩) rfl hl291 (fun y ey => ?_)
  obtain rfl : y = km_653 := ey
  have el : sh_lay km_653 = sh_lay km_652 := by rw [show km_653 = sh_setR km_652 291 25 (some 308) from rfl]; exact sh_lyR
  have hl291 : (sh_lay km_653)[291]? = some (12, 0) := by rw [el]; exact hl291
  have hn : (sh_lay km_653).length = 309 := by rw [el]; exact hn
  refine vv_aload_n 463 0 dX12_init_463 rfl rfl ?_
  refine vv_iconst 464 dX12_init_464 ik_5 ?_
  refine vk_newa (N := 5) (c1 := 18) (s1 := 1677) 15 .char (Or.inr (Or.inr ⟨rfl, rfl⟩)) 465 dX12_init_465 ac_15 (by decide) (by decide) (Nat.le_of_ble_eq_true rfl) (n := 309) hn (μ1 := km_654) rfl rfl rfl (Nat.le_of_ble_eq_true rfl) (Nat.le_of_ble_eq_true rfl) ?_
  have el : km_654 = sh_add km_653 (15, 5) := rfl
  have hl291 : (sh_lay km_654)[291]? = some (12, 0) := by rw [el]; exact sh_lay_add hl291
  have hl309 : (sh_lay km_654)[309]? = some (15, 5) := by rw [el]; exact sh_lay_new hn
  have hn : (sh_lay km_654).length = 310 := by rw [el]; exact sh_len_add hn
  refine vv_dup_ref 467 dX12_init_467 ?_
  refine vv_iconst 468 dX12_init_468 ik_0 ?_
  refine vv_bipush 469 dX12_init_469 bk_107 ?_
  refine vc_cast (μ1 := km_655) 471 dX12_init_471 hl309 (by unfold vp_in; decide) rfl (by decide) rfl ?_
  have el : sh_lay km_655 = sh_lay km_654 := by rw [show km_655 = sh_setI km_654 309 0 107 from rfl]; exact sh_lyI
  have hl291 : (sh_lay km_655)[291]? = some (12, 0) := by rw [el]; exact hl291
  have hl309 : (sh_lay km_655)[309]? = some (15, 5) := by rw [el]; exact hl309
  have hn : (sh_lay km_655).length = 310 := by rw [el]; exact hn
  refine vv_dup_ref 472 dX12_init_472 ?_
  refine vv_iconst 473 dX12_init_473 ik_1 ?_
  refine vv_bipush 474 dX12_init_474 bk_110 ?_
  refine vc_cast (μ1 := km_656) 476 dX12_init_476 hl309 (by unfold vp_in; decide) rfl (by decide) rfl ?_
  have el : sh_lay km_656 = sh_lay km_655 := by rw [show km_656 = sh_setI km_655 309 1 110 from rfl]; exact sh_lyI
  have hl291 : (sh_lay km_656)[291]? = some (12, 0) := by rw [el]; exact hl291
  have hl309 : (sh_lay km_656)[309]? = some (15, 5) := by rw [el]; exact hl309
  have hn : (sh_lay km_656).length = 310 := by rw [el]; exact hn
  refine vv_dup_ref 477 dX12_init_477 ?_
  refine vv_iconst 478 dX12_init_478 ik_2 ?_
  refine vv_bipush 479 dX12_init_479 bk_111 ?_
  refine vc_cast (μ1 := km_657) 481 dX12_init_481 hl309 (by unfold vp_in; decide) rfl (by decide) rfl ?_
  have el : sh_lay km_657 = sh_lay km_656 := by rw [show km_657 = sh_setI km_656 309 2 111 from rfl]; exact sh_lyI
  have hl291 : (sh_lay km_657)[291]? = some (12, 0) := by rw [el]; exact hl291
  have hl309 : (sh_lay km_657)[309]? = some (15, 5) := by rw [el]; exact hl309
  have hn : (sh_lay km_657).length = 310 := by rw [el]; exact hn
  refine vv_dup_ref 482 dX12_init_482 ?_
  refine vv_iconst 483 dX12_init_483 ik_3 ?_
  refine vv_bipush 484 dX12_init_484 bk_119 ?_
  refine vc_cast (μ1 := km_658) 486 dX12_init_486 hl309 (by unfold vp_in; decide) rfl (by decide) rfl ?_
  have el : sh_lay km_658 = sh_lay km_657 := by rw [show km_658 = sh_setI km_657 309 3 119 from rfl]; exact sh_lyI
  have hl291 : (sh_lay km_658)[291]? = some (12, 0) := by rw [el]; exact hl291
  have hl309 : (sh_lay km_658)[309]? = some (15, 5) := by rw [el]; exact hl309
  have hn : (sh_lay km_658).length = 310 := by rw [el]; exact hn
  refine vv_dup_ref 487 dX12_init_487 ?_
  refine vv_iconst 488 dX12_init_488 ik_4 ?_
  refine vv_bipush 489 dX12_init_489 bk_110 ?_
  refine vc_cast (μ1 := km_659) 491 dX12_init_491 hl309 (by unfold vp_in; decide) rfl (by decide) rfl ?_
  have el : sh_lay km_659 = sh_lay km_658 := by rw [show km_659 = sh_setI km_658 309 4 110 from rfl]; exact sh_lyI
  have hl291 : (sh_lay km_659)[291]? = some (12, 0) := by rw [el]; exact hl291
  have hl309 : (sh_lay km_659)[309]? = some (15, 5) := by rw [el]; exact hl309
  have hn : (sh_lay km_659).length = 310 := by rw [el]; exact hn
  refine vn_putR 492 dX12_init_492 fl_12_66 (Or.inr ⟨rfl, rfl, rfl⟩) rfl hl291 (fun y ey => ?_)
  obtain rfl : y = km_660 := ey
  have el : sh_lay km_660 = sh_lay km_659 := by rw [show km_660 = sh_setR km_659 291 26 (some 309) from rfl]; exact sh_lyR
  have hl291 : (sh_lay km_660)[291]? = some (12, 0) := by rw [el]; exact hl291
  have hn : (sh_lay km_660).length = 310 := by rw [el]; exact hn
  refine vv_aload_n 495 0 dX12_init_495 rfl rfl ?_
  refine vv_iconst 496 dX12_init_496 ik_3 ?_
  refine vk_newa (N := 3) (c1 := 19) (s1 := 1680) 15 .char (Or.inr (Or.inr ⟨rfl, rfl⟩)) 497 dX12_init_497 ac_15 (by decide) (by decide) (Nat.le_of_ble_eq_true rfl) (n := 310) hn (μ1 := km_661) rfl rfl rfl (Nat.le_of_ble_eq_true rfl) (Nat.le_of_ble_eq_true rfl) ?_
  have el : km_661 = sh_add km_660 (15, 3) := rfl
  have hl291 : (sh_lay km_661)[291]? = some (12, 0) := by rw [el]; exact sh_lay_add hl291
  have hl310 : (sh_lay km_661)[310]? = some (15, 3) := by rw [el]; exact sh_lay_new hn
  have hn : (sh_lay km_661).length = 311 := by rw [el]; exact sh_len_add hn
  refine vv_dup_ref 499 dX12_init_499 ?_
  refine vv_iconst 500 dX12_init_500 ik_0 ?_
  refine vv_bipush 501 dX12_init_501 bk_100 ?_
  refine vc_cast (μ1 := km_662) 503 dX12_init_503 hl310 (by unfold vp_in; decide) rfl (by decide) rfl ?_
  have el : sh_lay km_662 = sh_lay km_661 := by rw [show km_662 = sh_setI km_661 310 0 100 from rfl]; exact sh_lyI
  have hl291 : (sh_lay km_662)[291]? = some (12, 0) := by rw [el]; exact hl291
  have hl310 : (sh_lay km_662)[310]? = some (15, 3) := by rw [el]; exact hl310
  have hn : (sh_lay km_662).length = 311 := by rw [el]; exact hn
  refine vv_dup_ref 504 dX12_init_504 ?_
  refine vv_iconst 505 dX12_init_505 ik_1 ?_
  refine vv_bipush 506 dX12_init_506 bk_97 ?_
  refine vc_cast (μ1 := km_663) 508 dX12_init_508 hl310 (by unfold vp_in; decide) rfl (by decide) rfl ?_
  have el : sh_lay km_663 = sh_lay km_662 := by rw [show km_663 = sh_setI km_662 310 1 97 from rfl]; exact sh_lyI
  have hl291 : (sh_lay km_663)[291]? = some (12, 0) := by rw [el]; exact hl291
  have hl310 : (sh_lay km_663)[310]? = some (15, 3) := by rw [el]; exact hl310
  have hn : (sh_lay km_663).length = 311 := by rw [el]; exact hn
  refine vv_dup_ref 509 dX12_init_509 ?_
  refine vv_iconst 510 dX12_init_510 ik_2 ?_
  refine vv_bipush 511 dX12_init_511 bk_121 ?_
  refine vc_cast (μ1 := km_664) 513 dX12_init_513 hl310 (by unfold vp_in; decide) rfl (by decide) rfl ?_
  have el : sh_lay km_664 = sh_lay km_663 := by rw [show km_664 = sh_setI km_663 310 2 121 from rfl]; exact sh_lyI
  have hl291 : (sh_lay km_664)[291]? = some (12, 0) := by rw [el]; exact hl291
  have hl310 : (sh_lay km_664)[310]? = some (15, 3) := by rw [el]; exact hl310
  have hn : (sh_lay km_664).length = 311 := by rw [el]; exact hn
  refine vn_putR 514 dX12_init_514 fl_12_69 (Or.inr ⟨rfl, rfl, rfl⟩) rfl hl291 (fun y ey => ?_)
  obtain rfl : y = km_665 := ey
  have el : sh_lay km_665 = sh_lay km_664 := by rw [show km_665 = sh_setR km_664 291 27 (some 310) from rfl]; exact sh_lyR
  have hl291 : (sh_lay km_665)[291]? = some (12, 0) := by rw [el]; exact hl291
  have hn : (sh_lay km_665).length = 311 := by rw [el]; exact hn
  refine vv_aload_n 517 0 dX12_init_517 rfl rfl ?_
  refine vv_iconst 518 dX12_init_518 ik_4 ?_
  refine vk_newa (N := 4) (c1 := 20) (s1 := 1684) 15 .char (Or.inr (Or.inr ⟨rfl, rfl⟩)) 519 dX12_init_519 ac_15 (by decide) (by decide) (Nat.le_of_ble_eq_true rfl) (n := 311) hn (μ1 := km_666) rfl rfl rfl (Nat.le_of_ble_eq_true rfl) (Nat.le_of_ble_eq_true rfl) ?_
  have el : km_666 = sh_add km_665 (15, 4) := rfl
  have hl291 : (sh_lay km_666)[291]? = some (12, 0) := by rw [el]; exact sh_lay_add hl291
  have hl311 : (sh_lay km_666)[311]? = some (15, 4) := by rw [el]; exact sh_lay_new hn
  have hn : (sh_lay km_666).length = 312 := by rw [el]; exact sh_len_add hn
  refine vv_dup_ref 521 dX12_init_521 ?_
  refine vv_iconst 522 dX12_init_522 ik_0 ?_
  refine vv_bipush 523 dX12_init_523 bk_115 ?_
  refine vc_cast (μ1 := km_667) 525 dX12_init_525 hl311 (by unfold vp_in; decide) rfl (by decide) rfl ?_
  have el : sh_lay km_667 = sh_lay km_666 := by rw [show km_667 = sh_setI km_666 311 0 115 from rfl]; exact sh_lyI
  have hl291 : (sh_lay km_667)[291]? = some (12, 0) := by rw [el]; exact hl291
  have hl311 : (sh_lay km_667)[311]? = some (15, 4) := by rw [el]; exact hl311
  have hn : (sh_lay km_667).length = 312 := by rw [el]; exact hn
  refine vv_dup_ref 526 dX12_init_526 ?_
  refine vv_iconst 527 dX12_init_527 ik_1 ?_
  refine vv_bipush 528 dX12_init_528 bk_105 ?_
  refine vc_cast (μ1 := km_668) 530 dX12_init_530 hl311 (by unfold vp_in; decide) rfl (by decide) rfl ?_
  have el : sh_lay km_668 = sh_lay km_667 := by rw [show km_668 = sh_setI km_667 311 1 105 from rfl]; exact sh_lyI
  have hl291 : (sh_lay km_668)[291]? = some (12, 0) := by rw [el]; exact hl291
  have hl311 : (sh_lay km_668)[311]? = some (15, 4) := by rw [el]; exact hl311
  have hn : (sh_lay km_668).length = 312 := by rw [el]; exact hn
  refine vv_dup_ref 531 dX12_init_531 ?_
  refine vv_iconst 532 dX12_init_532 ik_2 ?_
  refine vv_bipush 533 dX12_init_533 bk_100 ?_
  refine vc_cast (μ1 := km_669) 535 dX12_init_535 hl311 (by unfold vp_in; decide) rfl (by decide) rfl ?_
  have el : sh_lay km_669 = sh_lay km_668 := by rw [show km_669 = sh_setI km_668 311 2 100 from rfl]; exact sh_lyI
  have hl291 : (sh_lay km_669)[291]? = some (12, 0) := by rw [el]; exact hl291
  have hl311 : (sh_lay km_669)[311]? = some (15, 4) := by rw [el]; exact hl311
  have hn : (sh_lay km_669).length = 312 := by rw [el]; exact hn
  refine vv_dup_ref 536 dX12_init_536 ?_
  refine vv_iconst 537 dX12_init_537 ik_3 ?_
  refine vv_bipush 538 dX12_init_538 bk_101 ?_
  refine vc_cast (μ1 := km_670) 540 dX12_init_540 hl311 (by unfold vp_in; decide) rfl (by decide) rfl ?_
  have el : sh_lay km_670 = sh_lay km_669 := by rw [show km_670 = sh_setI km_669 311 3 101 from rfl]; exact sh_lyI
  have hl291 : (sh_lay km_670)[291]? = some (12, 0) := by rw [el]; exact hl291
  have hl311 : (sh_lay km_670)[311]? = some (15, 4) := by rw [el]; exact hl311
  have hn : (sh_lay km_670).length = 312 := by rw [el]; exact hn
  refine vn_putR 541 dX12_init_541 fl_12_72 (Or.inr ⟨rfl, rfl, rfl⟩) rfl hl291 (fun y ey => ?_)
  obtain rfl : y = km_671 := ey
  have el : sh_lay km_671 = sh_lay km_670 := by rw [show km_671 = sh_setR km_670 291 28 (some 311) from rfl]; exact sh_lyR
  have hl291 : (sh_lay km_671)[291]? = some (12, 0) := by rw [el]; exact hl291
  have hn : (sh_lay km_671).length = 312 := by rw [el]; exact hn
  refine vv_aload_n 544 0 dX12_init_544 rfl rfl ?_
  refine vv_bipush 545 dX12_init_545 bk_6 ?_
  refine vk_newa (N := 6) (c1 := 21) (s1 := 1690) 15 .char (Or.inr (Or.inr ⟨rfl, rfl⟩)) 547 dX12_init_547 ac_15 (by decide) (by decide) (Nat.le_of_ble_eq_true rfl) (n := 312) hn (μ1 := km_672) rfl rfl rfl (Nat.le_of_ble_eq_true rfl) (Nat.le_of_ble_eq_true rfl) ?_
  have el : km_672 = sh_add km_671 (15, 6) := rfl
  have hl291 : (sh_lay km_672)[291]? = some (12, 0) := by rw [el]; exact sh_lay_add hl291
  have hl312 : (sh_lay km_672)[312]? = some (15, 6) := by rw [el]; exact sh_lay_new hn
  have hn : (sh_lay km_672).length = 313 := by rw [el]; exact sh_len_add hn
  refine vv_dup_ref 549 dX12_init_549 ?_
  refine vv_iconst 550 dX12_init_550 ik_0 ?_
  refine vv_bipush 551 dX12_init_551 bk_110 ?_
  refine vc_cast (μ1 := km_673) 553 dX12_init_553 hl312 (by unfold vp_in; decide) rfl (by decide) rfl ?_
  have el : sh_lay km_673 = sh_lay km_672 := by rw [show km_673 = sh_setI km_672 312 0 110 from rfl]; exact sh_lyI
  have hl291 : (sh_lay km_673)[291]? = some (12, 0) := by rw [el]; exact hl291
  have hl312 : (sh_lay km_673)[312]? = some (15, 6) := by rw [el]; exact hl312
  have hn : (sh_lay km_673).length = 313 := by rw [el]; exact hn
  refine vv_dup_ref 554 dX12_init_554 ?_
  refine vv_iconst 555 dX12_init_555 ik_1 ?_
  refine vv_bipush 556 dX12_init_556 bk_117 ?_
  refine vc_cast (μ1 := km_674) 558 dX12_init_558 hl312 (by unfold vp_in; decide) rfl (by decide) rfl ?_
  have el : sh_lay km_674 = sh_lay km_673 := by rw [show km_674 = sh_setI km_673 312 1 117 from rfl]; exact sh_lyI
  have hl291 : (sh_lay km_674)[291]? = some (12, 0) := by rw [el]; exact hl291
  have hl312 : (sh_lay km_674)[312]? = some (15, 6) := by rw [el]; exact hl312
  have hn : (sh_lay km_674).length = 313 := by rw [el]; exact hn
  refine vv_dup_ref 559 dX12_init_559 ?_
  refine vv_iconst 560 dX12_init_560 ik_2 ?_
  refine vv_bipush 561 dX12_init_561 bk_109 ?_
  refine vc_cast (μ1 := km_675) 563 dX12_init_563 hl312 (by unfold vp_in; decide) rfl (by decide) rfl ?_
  have el : sh_lay km_675 = sh_lay km_674 := by rw [show km_675 = sh_setI km_674 312 2 109 from rfl]; exact sh_lyI
  have hl291 : (sh_lay km_675)[291]? = some (12, 0) := by rw [el]; exact hl291
  have hl312 : (sh_lay km_675)[312]? = some (15, 6) := by rw [el]; exact hl312
  have hn : (sh_lay km_675).length = 313 := by rw [el]; exact hn
  refine vv_dup_ref 564 dX12_init_564 ?_
  refine vv_iconst 565 dX12_init_565 ik_3 ?_
  refine vv_bipush 566 dX12_init_566 bk_98 ?_
  refine vc_cast (μ1 := km_676) 568 dX12_init_568 hl312 (by unfold vp_in; decide) rfl (by decide) rfl ?_
  have el : sh_lay km_676 = sh_lay km_675 := by rw [show km_676 = sh_setI km_675 312 3 98 from rfl]; exact sh_lyI
  have hl291 : (sh_lay km_676)[291]? = some (12, 0) := by rw [el]; exact hl291
  have hl312 : (sh_lay km_676)[312]? = some (15, 6) := by rw [el]; exact hl312
  have hn : (sh_lay km_676).length = 313 := by rw [el]; exact hn
  refine vv_dup_ref 569 dX12_init_569 ?_
  refine vv_iconst 570 dX12_init_570 ik_4 ?_
  refine vv_bipush 571 dX12_init_571 bk_101 ?_
  refine vc_cast (μ1 := km_677) 573 dX12_init_573 hl312 (by unfold vp_in; decide) rfl (by decide) rfl ?_
  have el : sh_lay km_677 = sh_lay km_676 := by rw [show km_677 = sh_setI km_676 312 4 101 from rfl]; exact sh_lyI
  have hl291 : (sh_lay km_677)[291]? = some (12, 0) := by rw [el]; exact hl291
  have hl312 : (sh_lay km_677)[312]? = some (15, 6) := by rw [el]; exact hl312
  have hn : (sh_lay km_677).length = 313 := by rw [el]; exact hn
  refine vv_dup_ref 574 dX12_init_574 ?_
  refine vv_iconst 575 dX12_init_575 ik_5 ?_
  refine vv_bipush 576 dX12_init_576 bk_114 ?_
  refine vc_cast (μ1 := km_678) 578 dX12_init_578 hl312 (by unfold vp_in; decide) rfl (by decide) rfl ?_
  have el : sh_lay km_678 = sh_lay km_677 := by rw [show km_678 = sh_setI km_677 312 5 114 from rfl]; exact sh_lyI
  have hl291 : (sh_lay km_678)[291]? = some (12, 0) := by rw [el]; exact hl291
  have hl312 : (sh_lay km_678)[312]? = some (15, 6) := by rw [el]; exact hl312
  have hn : (sh_lay km_678).length = 313 := by rw [el]; exact hn
  refine vn_putR 579 dX12_init_579 fl_12_75 (Or.inr ⟨rfl, rfl, rfl⟩) rfl hl291 (fun y ey => ?_)
  obtain rfl : y = km_679 := ey
  have el : sh_lay km_679 = sh_lay km_678 := by rw [show km_679 = sh_setR km_678 291 29 (some 312) from rfl]; exact sh_lyR
  have hl291 : (sh_lay km_679)[291]? = some (12, 0) := by rw [el]; exact hl291
  have hn : (sh_lay km_679).length = 313 := by rw [el]; exact hn
  refine vv_aload_n 582 0 dX12_init_582 rfl rfl ?_
  refine vv_bipush 583 dX12_init_583 bk_6 ?_
  refine vk_newa (N := 6) (c1 := 22) (s1 := 1696) 15 .char (Or.inr (Or.inr ⟨rfl, rfl⟩)) 585 dX12_init_585 ac_15 (by decide) (by decide) (Nat.le_of_ble_eq_true rfl) (n := 313) hn (μ1 := km_680) rfl rfl rfl (Nat.le_of_ble_eq_true rfl) (Nat.le_of_ble_eq_true rfl) ?_
  have el : km_680 = sh_add km_679 (15, 6) := rfl
  have hl291 : (sh_lay km_680)[291]? = some (12, 0) := by rw [el]; exact sh_lay_add hl291
  have hl313 : (sh_lay km_680)[313]? = some (15, 6) := by rw [el]; exact sh_lay_new hn
  have hn : (sh_lay km_680).length = 314 := by rw [el]; exact sh_len_add hn
  refine vv_dup_ref 587 dX12_init_587 ?_
  refine vv_iconst 588 dX12_init_588 ik_0 ?_
  refine vv_bipush 589 dX12_init_589 bk_99 ?_
  refine vc_cast (μ1 := km_681) 591 dX12_init_591 hl313 (by unfold vp_in; decide) rfl (by decide) rfl ?_
  have el : sh_lay km_681 = sh_lay km_680 := by rw [show km_681 = sh_setI km_680 313 0 99 from rfl]; exact sh_lyI
  have hl291 : (sh_lay km_681)[291]? = some (12, 0) := by rw [el]; exact hl291
  have hl313 : (sh_lay km_681)[313]? = some (15, 6) := by rw [el]; exact hl313
  have hn : (sh_lay km_681).length = 314 := by rw [el]; exact hn
  refine vv_dup_ref 592 dX12_init_592 ?_
  refine vv_iconst 593 dX12_init_593 ik_1 ?_
  refine vv_bipush 594 dX12_init_594 bk_111 ?_
  refine vc_cast (μ1 := km_682) 596 dX12_init_596 hl313 (by unfold vp_in; decide) rfl (by decide) rfl ?_
  have el : sh_lay km_682 = sh_lay km_681 := by rw [show km_682 = sh_setI km_681 313 1 111 from rfl]; exact sh_lyI
  have hl291 : (sh_lay km_682)[291]? = some (12, 0) := by rw [el]; exact hl291
  have hl313 : (sh_lay km_682)[313]? = some (15, 6) := by rw [el]; exact hl313
  have hn : (sh_lay km_682).length = 314 := by rw [el]; exact hn
  refine vv_dup_ref 597 dX12_init_597 ?_
  refine vv_iconst 598 dX12_init_598 ik_2 ?_
  refine vv_bipush 599 dX12_init_599 bk_108 ?_
  refine vc_cast (μ1 := km_683) 601 dX12_init_601 hl313 (by unfold vp_in; decide) rfl (by decide) rfl ?_
  have el : sh_lay km_683 = sh_lay km_682 := by rw [show km_683 = sh_setI km_682 313 2 108 from rfl]; exact sh_lyI
  have hl291 : (sh_lay km_683)[291]? = some (12, 0) := by rw [el]; exact hl291
  have hl313 : (sh_lay km_683)[313]? = some (15, 6) := by rw [el]; exact hl313
  have hn : (sh_lay km_683).length = 314 := by rw [el]; exact hn
  refine vv_dup_ref 602 dX12_init_602 ?_
  refine vv_iconst 603 dX12_init_603 ik_3 ?_
  refine vv_bipush 604 dX12_init_604 bk_117 ?_
  refine vc_cast (μ1 := km_684) 606 dX12_init_606 hl313 (by unfold vp_in; decide) rfl (by decide) rfl ?_
  have el : sh_lay km_684 = sh_lay km_683 := by rw [show km_684 = sh_setI km_683 313 3 117 from rfl]; exact sh_lyI
  have hl291 : (sh_lay km_684)[291]? = some (12, 0) := by rw [el]; exact hl291
  have hl313 : (sh_lay km_684)[313]? = some (15, 6) := by rw [el]; exact hl313
  have hn : (sh_lay km_684).length = 314 := by rw [el]; exact hn
  refine vv_dup_ref 607 dX12_init_607 ?_
  refine vv_iconst 608 dX12_init_608 ik_4 ?_
  refine vv_bipush 609 dX12_init_609 bk_109 ?_
  refine vc_cast (μ1 := km_685) 611 dX12_init_611 hl313 (by unfold vp_in; decide) rfl (by decide) rfl ?_
  have el : sh_lay km_685 = sh_lay km_684 := by rw [show km_685 = sh_setI km_684 313 4 109 from rfl]; exact sh_lyI
  have hl291 : (sh_lay km_685)[291]? = some (12, 0) := by rw [el]; exact hl291
  have hl313 : (sh_lay km_685)[313]? = some (15, 6) := by rw [el]; exact hl313
  have hn : (sh_lay km_685).length = 314 := by rw [el]; exact hn
  refine vv_dup_ref 612 dX12_init_612 ?_
  refine vv_iconst 613 dX12_init_613 ik_5 ?_
  refine vv_bipush 614 dX12_init_614 bk_110 ?_
  refine vc_cast (μ1 := km_686) 616 dX12_init_616 hl313 (by unfold vp_in; decide) rfl (by decide) rfl ?_
  have el : sh_lay km_686 = sh_lay km_685 := by rw [show km_686 = sh_setI km_685 313 5 110 from rfl]; exact sh_lyI
  have hl291 : (sh_lay km_686)[291]? = some (12, 0) := by rw [el]; exact hl291
  have hl313 : (sh_lay km_686)[313]? = some (15, 6) := by rw [el]; exact hl313
  have hn : (sh_lay km_686).length = 314 := by rw [el]; exact hn
  refine vn_putR 617 dX12_init_617 fl_12_78 (Or.inr ⟨rfl, rfl, rfl⟩) rfl hl291 (fun y ey => ?_)
  obtain rfl : y = km_687 := ey
  have el : sh_lay km_687 = sh_lay km_686 := by rw [show km_687 = sh_setR km_686 291 30 (some 313) from rfl]; exact sh_lyR
  have hl291 : (sh_lay km_687)[291]? = some (12, 0) := by rw [el]; exact hl291
  have hn : (sh_lay km_687).length = 314 := by rw [el]; exact hn
  refine vv_aload_n 620 0 dX12_init_620 rfl rfl ?_
  refine vv_iconst 621 dX12_init_621 ik_3 ?_
  refine vk_newa (N := 3) (c1 := 23) (s1 := 1699) 15 .char (Or.inr (Or.inr ⟨rfl, rfl⟩)) 622 dX12_init_622 ac_15 (by decide) (by decide) (Nat.le_of_ble_eq_true rfl) (n := 314) hn (μ1 := km_688) rfl rfl rfl (Nat.le_of_ble_eq_true rfl) (Nat.le_of_ble_eq_true rfl) ?_
  have el : km_688 = sh_add km_687 (15, 3) := rfl
  have hl291 : (sh_lay km_688)[291]? = some (12, 0) := by rw [el]; exact sh_lay_add hl291
  have hl314 : (sh_lay km_688)[314]? = some (15, 3) := by rw [el]; exact sh_lay_new hn
  have hn : (sh_lay km_688).length = 315 := by rw [el]; exact sh_len_add hn
  refine vv_dup_ref 624 dX12_init_624 ?_
  refine vv_iconst 625 dX12_init_625 ik_0 ?_
  refine vv_bipush 626 dX12_init_626 bk_114 ?_
  refine vc_cast (μ1 := km_689) 628 dX12_init_628 hl314 (by unfold vp_in; decide) rfl (by decide) rfl ?_
  have el : sh_lay km_689 = sh_lay km_688 := by rw [show km_689 = sh_setI km_688 314 0 114 from rfl]; exact sh_lyI
  have hl291 : (sh_lay km_689)[291]? = some (12, 0) := by rw [el]; exact hl291
  have hl314 : (sh_lay km_689)[314]? = some (15, 3) := by rw [el]; exact hl314
  have hn : (sh_lay km_689).length = 315 := by rw [el]; exact hn
  refine vv_dup_ref 629 dX12_init_629 ?_
  refine vv_iconst 630 dX12_init_630 ik_1 ?_
  refine vv_bipush 631 dX12_init_631 bk_111 ?_
  refine vc_cast (μ1 := km_690) 633 dX12_init_633 hl314 (by unfold vp_in; decide) rfl (by decide) rfl ?_
  have el : sh_lay km_690 = sh_lay km_689 := by rw [show km_690 = sh_setI km_689 314 1 111 from rfl]; exact sh_lyI
  have hl291 : (sh_lay km_690)[291]? = some (12, 0) := by rw [el]; exact hl291
  have hl314 : (sh_lay km_690)[314]? = some (15, 3) := by rw [el]; exact hl314
  have hn : (sh_lay km_690).length = 315 := by rw [el]; exact hn
  refine vv_dup_ref 634 dX12_init_634 ?_
  refine vv_iconst 635 dX12_init_635 ik_2 ?_
  refine vv_bipush 636 dX12_init_636 bk_119 ?_
  refine vc_cast (μ1 := km_691) 638 dX12_init_638 hl314 (by unfold vp_in; decide) rfl (by decide) rfl ?_
  have el : sh_lay km_691 = sh_lay km_690 := by rw [show km_691 = sh_setI km_690 314 2 119 from rfl]; exact sh_lyI
  have hl291 : (sh_lay km_691)[291]? = some (12, 0) := by rw [el]; exact hl291
  have hl314 : (sh_lay km_691)[314]? = some (15, 3) := by rw [el]; exact hl314
  have hn : (sh_lay km_691).length = 315 := by rw [el]; exact hn
  refine vn_putR 639 dX12_init_639 fl_12_81 (Or.inr ⟨rfl, rfl, rfl⟩) rfl hl291 (fun y ey => ?_)
  obtain rfl : y = km_692 := ey
  have el : sh_lay km_692 = sh_lay km_691 := by rw [show km_692 = sh_setR km_691 291 31 (some 314) from rfl]; exact sh_lyR
  have hl291 : (sh_lay km_692)[291]? = some (12, 0) := by rw [el]; exact hl291
  have hn : (sh_lay km_692).length = 315 := by rw [el]; exact hn
  refine vv_aload_n 642 0 dX12_init_642 rfl rfl ?_
  refine vv_iconst 643 dX12_init_643 ik_2 ?_
  refine vk_newa (N := 2) (c1 := 24) (s1 := 1701) 15 .char (Or.inr (Or.inr ⟨rfl, rfl⟩)) 644 dX12_init_644 ac_15 (by decide) (by decide) (Nat.le_of_ble_eq_true rfl) (n := 315) hn (μ1 := km_693) rfl rfl rfl (Nat.le_of_ble_eq_true rfl) (Nat.le_of_ble_eq_true rfl) ?_
  have el : km_693 = sh_add km_692 (15, 2) := rfl
  have hl291 : (sh_lay km_693)[291]? = some (12, 0) := by rw [el]; exact sh_lay_add hl291
  have hl315 : (sh_lay km_693)[315]? = some (15, 2) := by rw [el]; exact sh_lay_new hn
  have hn : (sh_lay km_693).length = 316 := by rw [el]; exact sh_len_add hn
  refine vv_dup_ref 646 dX12_init_646 ?_
  refine vv_iconst 647 dX12_init_647 ik_0 ?_
  refine vv_bipush 648 dX12_init_648 bk_111 ?_
  refine vc_cast (μ1 := km_694) 650 dX12_init_650 hl315 (by unfold vp_in; decide) rfl (by decide) rfl ?_
  have el : sh_lay km_694 = sh_lay km_693 := by rw [show km_694 = sh_setI km_693 315 0 111 from rfl]; exact sh_lyI
  have hl291 : (sh_lay km_694)[291]? = some (12, 0) := by rw [el]; exact hl291
  have hl315 : (sh_lay km_694)[315]? = some (15, 2) := by rw [el]; exact hl315
  have hn : (sh_lay km_694).length = 316 := by rw [el]; exact hn
  refine vv_dup_ref 651 dX12_init_651 ?_
  refine vv_iconst 652 dX12_init_652 ik_1 ?_
  refine vv_bipush 653 dX12_init_653 bk_114 ?_
  refine vc_cast (μ1 := km_695) 655 dX12_init_655 hl315 (by unfold vp_in; decide) rfl (by decide) rfl ?_
  have el : sh_lay km_695 = sh_lay km_694 := by rw [show km_695 = sh_setI km_694 315 1 114 from rfl]; exact sh_lyI
  have hl291 : (sh_lay km_695)[291]? = some (12, 0) := by rw [el]; exact hl291
  have hl315 : (sh_lay km_695)[315]? = some (15, 2) := by rw [el]; exact hl315
  have hn : (sh_lay km_695).length = 316 := by rw [el]; exact hn
  refine vn_putR 656 dX12_init_656 fl_12_84 (Or.inr ⟨rfl, rfl, rfl⟩) rfl hl291 (fun y ey => ?_)
  obtain rfl : y = km_696 := ey
  have el : sh_lay km_696 = sh_lay km_695 := by rw [show km_696 = sh_setR km_695 291 32 (some 315) from rfl]; exact sh_lyR
  have hl291 : (sh_lay km_696)[291]? = some (12, 0) := by rw [el]; exact hl291
  have hn : (sh_lay km_696).length = 316 := by rw [el]; exact hn
  refine vv_aload_n 659 0 dX12_init_659 rfl rfl ?_
  refine vv_iconst 660 dX12_init_660 ik_3 ?_
  refine vk_newa (N := 3) (c1 := 25) (s1 := 1704) 15 .char (Or.inr (Or.inr ⟨rfl, rfl⟩)) 661 dX12_init_661 ac_15 (by decide) (by decide) (Nat.le_of_ble_eq_true rfl) (n := 316) hn (μ1 := km_697) rfl rfl rfl (Nat.le_of_ble_eq_true rfl) (Nat.le_of_ble_eq_true rfl) ?_
  have el : km_697 = sh_add km_696 (15, 3) := rfl
  have hl291 : (sh_lay km_697)[291]? = some (12, 0) := by rw [el]; exact sh_lay_add hl291
  have hl316 : (sh_lay km_697)[316]? = some (15, 3) := by rw [el]; exact sh_lay_new hn
  have hn : (sh_lay km_697).length = 317 := by rw [el]; exact sh_len_add hn
  refine vv_dup_ref 663 dX12_init_663 ?_
  refine vv_iconst 664 dX12_init_664 ik_0 ?_
  refine vv_bipush 665 dX12_init_665 bk_97 ?_
  refine vc_cast (μ1 := km_698) 667 dX12_init_667 hl316 (by unfold vp_in; decide) rfl (by decide) rfl ?_
  have el : sh_lay km_698 = sh_lay km_697 := by rw [show km_698 = sh_setI km_697 316 0 97 from rfl]; exact sh_lyI
  have hl291 : (sh_lay km_698)[291]? = some (12, 0) := by rw [el]; exact hl291
  have hl316 : (sh_lay km_698)[316]? = some (15, 3) := by rw [el]; exact hl316
  have hn : (sh_lay km_698).length = 317 := by rw [el]; exact hn
  refine vv_dup_ref 668 dX12_init_668 ?_
  refine vv_iconst 669 dX12_init_669 ik_1 ?_
  refine vv_bipush 670 dX12_init_670 bk_110 ?_
  refine vc_cast (μ1 := km_699) 672 dX12_init_672 hl316 (by unfold vp_in; decide) rfl (by decide) rfl ?_
  have el : sh_lay km_699 = sh_lay km_698 := by rw [show km_699 = sh_setI km_698 316 1 110 from rfl]; exact sh_lyI
  have hl291 : (sh_lay km_699)[291]? = some (12, 0) := by rw [el]; exact hl291
  have hl316 : (sh_lay km_699)[316]? = some (15, 3) := by rw [el]; exact hl316
  have hn : (sh_lay km_699).length = 317 := by rw [el]; exact hn
  refine vv_dup_ref 673 dX12_init_673 ?_
  refine vv_iconst 674 dX12_init_674 ik_2 ?_
  refine vv_bipush 675 dX12_init_675 bk_100 ?_
  refine vc_cast (μ1 := km_700) 677 dX12_init_677 hl316 (by unfold vp_in; decide) rfl (by decide) rfl ?_
  have el : sh_lay km_700 = sh_lay km_699 := by rw [show km_700 = sh_setI km_699 316 2 100 from rfl]; exact sh_lyI
  have hl291 : (sh_lay km_700)[291]? = some (12, 0) := by rw [el]; exact hl291
  have hl316 : (sh_lay km_700)[316]? = some (15, 3) := by rw [el]; exact hl316
  have hn : (sh_lay km_700).length = 317 := by rw [el]; exact hn
  refine vn_putR 678 dX12_init_678 fl_12_87 (Or.inr ⟨rfl, rfl, rfl⟩) rfl hl291 (fun y ey => ?_)
  obtain rfl : y = km_701 := ey
  have el : sh_lay km_701 = sh_lay km_700 := by rw [show km_701 = sh_setR km_700 291 33 (some 316) from rfl]; exact sh_lyR
  have hl291 : (sh_lay km_701)[291]? = some (12, 0) := by rw [el]; exact hl291
  have hn : (sh_lay km_701).length = 317 := by rw [el]; exact hn
  refine vv_aload_n 681 0 dX12_init_681 rfl rfl ?_
  refine vv_iconst 682 dX12_init_682 ik_3 ?_
  refine vk_newa (N := 3) (c1 := 26) (s1 := 1707) 15 .char (Or.inr (Or.inr ⟨rfl, rfl⟩)) 683 dX12_init_683 ac_15 (by decide) (by decide) (Nat.le_of_ble_eq_true rfl) (n := 317) hn (μ1 := km_702) rfl rfl rfl (Nat.le_of_ble_eq_true rfl) (Nat.le_of_ble_eq_true rfl) ?_
  have el : km_702 = sh_add km_701 (15, 3) := rfl
  have hl291 : (sh_lay km_702)[291]? = some (12, 0) := by rw [el]; exact sh_lay_add hl291
  have hl317 : (sh_lay km_702)[317]? = some (15, 3) := by rw [el]; exact sh_lay_new hn
  have hn : (sh_lay km_702).length = 318 := by rw [el]; exact sh_len_add hn
  refine vv_dup_ref 685 dX12_init_685 ?_
  refine vv_iconst 686 dX12_init_686 ik_0 ?_
  refine vv_bipush 687 dX12_init_687 bk_110 ?_
  refine vc_cast (μ1 := km_703) 689 dX12_init_689 hl317 (by unfold vp_in; decide) rfl (by decide) rfl ?_
  have el : sh_lay km_703 = sh_lay km_702 := by rw [show km_703 = sh_setI km_702 317 0 110 from rfl]; exact sh_lyI
  have hl291 : (sh_lay km_703)[291]? = some (12, 0) := by rw [el]; exact hl291
  have hl317 : (sh_lay km_703)[317]? = some (15, 3) := by rw [el]; exact hl317
  have hn : (sh_lay km_703).length = 318 := by rw [el]; exact hn
  refine vv_dup_ref 690 dX12_init_690 ?_
  refine vv_iconst 691 dX12_init_691 ik_1 ?_
  refine vv_bipush 692 dX12_init_692 bk_111 ?_
  refine vc_cast (μ1 := km_704) 694 dX12_init_694 hl317 (by unfold vp_in; decide) rfl (by decide) rfl ?_
  have el : sh_lay km_704 = sh_lay km_703 := by rw [show km_704 = sh_setI km_703 317 1 111 from rfl]; exact sh_lyI
  have hl291 : (sh_lay km_704)[291]? = some (12, 0) := by rw [el]; exact hl291
  have hl317 : (sh_lay km_704)[317]? = some (15, 3) := by rw [el]; exact hl317
  have hn : (sh_lay km_704).length = 318 := by rw [el]; exact hn
  refine vv_dup_ref 695 dX12_init_695 ?_
  refine vv_iconst 696 dX12_init_696 ik_2 ?_
  refine vv_bipush 697 dX12_init_697 bk_116 ?_
  refine vc_cast (μ1 := km_705) 699 dX12_init_699 hl317 (by unfold vp_in; decide) rfl (by decide) rfl ?_
  have el : sh_lay km_705 = sh_lay km_704 := by rw [show km_705 = sh_setI km_704 317 2 116 from rfl]; exact sh_lyI
  have hl291 : (sh_lay km_705)[291]? = some (12, 0) := by rw [el]; exact hl291
  have hl317 : (sh_lay km_705)[317]? = some (15, 3) := by rw [el]; exact hl317
  have hn : (sh_lay km_705).length = 318 := by rw [el]; exact hn
  refine vn_putR 700 dX12_init_700 fl_12_90 (Or.inr ⟨rfl, rfl, rfl⟩) rfl hl291 (fun y ey => ?_)
  obtain rfl : y = km_706 := ey
  have el : sh_lay km_706 = sh_lay km_705 := by rw [show km_706 = sh_setR km_705 291 34 (some 317) from rfl]; exact sh_lyR
  have hl291 : (sh_lay km_706)[291]? = some (12, 0) := by rw [el]; exact hl291
  have hn : (sh_lay km_706).length = 318 := by rw [el]; exact hn
  refine vv_aload_n 703 0 dX12_init_703 rfl rfl ?_
  refine vv_iconst 704 dX12_init_704 ik_3 ?_
  refine vk_newa (N := 3) (c1 := 27) (s1 := 1710) 15 .char (Or.inr (Or.inr ⟨rfl, rfl⟩)) 705 dX12_init_705 ac_15 (by decide) (by decide) (Nat.le_of_ble_eq_true rfl) (n := 318) hn (μ1 := km_707) rfl rfl rfl (Nat.le_of_ble_eq_true rfl) (Nat.le_of_ble_eq_true rfl) ?_
  have el : km_707 = sh_add km_706 (15, 3) := rfl
  have hl291 : (sh_lay km_707)[291]? = some (12, 0) := by rw [el]; exact sh_lay_add hl291
  have hl318 : (sh_lay km_707)[318]? = some (15, 3) := by rw [el]; exact sh_lay_new hn
  have hn : (sh_lay km_707).length = 319 := by rw [el]; exact sh_len_add hn
  refine vv_dup_ref 707 dX12_init_707 ?_
  refine vv_iconst 708 dX12_init_708 ik_0 ?_
  refine vv_bipush 709 dX12_init_709 bk_97 ?_
  refine vc_cast (μ1 := km_708) 711 dX12_init_711 hl318 (by unfold vp_in; decide) rfl (by decide) rfl ?_
  have el : sh_lay km_708 = sh_lay km_707 := by rw [show km_708 = sh_setI km_707 318 0 97 from rfl]; exact sh_lyI
  have hl291 : (sh_lay km_708)[291]? = some (12, 0) := by rw [el]; exact hl291
  have hl318 : (sh_lay km_708)[318]? = some (15, 3) := by rw [el]; exact hl318
  have hn : (sh_lay km_708).length = 319 := by rw [el]; exact hn
  refine vv_dup_ref 712 dX12_init_712 ?_
  refine vv_iconst 713 dX12_init_713 ik_1 ?_
  refine vv_bipush 714 dX12_init_714 bk_108 ?_
  refine vc_cast (μ1 := km_709) 716 dX12_init_716 hl318 (by unfold vp_in; decide) rfl (by decide) rfl ?_
  have el : sh_lay km_709 = sh_lay km_708 := by rw [show km_709 = sh_setI km_708 318 1 108 from rfl]; exact sh_lyI
  have hl291 : (sh_lay km_709)[291]? = some (12, 0) := by rw [el]; exact hl291
  have hl318 : (sh_lay km_709)[318]? = some (15, 3) := by rw [el]; exact hl318
  have hn : (sh_lay km_709).length = 319 := by rw [el]; exact hn
  refine vv_dup_ref 717 dX12_init_717 ?_
  refine vv_iconst 718 dX12_init_718 ik_2 ?_
  refine vv_bipush 719 dX12_init_719 bk_108 ?_
  refine vc_cast (μ1 := km_710) 721 dX12_init_721 hl318 (by unfold vp_in; decide) rfl (by decide) rfl ?_
  have el : sh_lay km_710 = sh_lay km_709 := by rw [show km_710 = sh_setI km_709 318 2 108 from rfl]; exact sh_lyI
  have hl291 : (sh_lay km_710)[291]? = some (12, 0) := by rw [el]; exact hl291
  have hl318 : (sh_lay km_710)[318]? = some (15, 3) := by rw [el]; exact hl318
  have hn : (sh_lay km_710).length = 319 := by rw [el]; exact hn
  refine vn_putR 722 dX12_init_722 fl_12_93 (Or.inr ⟨rfl, rfl, rfl⟩) rfl hl291 (fun y ey => ?_)
  obtain rfl : y = km_711 := ey
  have el : sh_lay km_711 = sh_lay km_710 := by rw [show km_711 = sh_setR km_710 291 35 (some 318) from rfl]; exact sh_lyR
  have hl291 : (sh_lay km_711)[291]? = some (12, 0) := by rw [el]; exact hl291
  have hn : (sh_lay km_711).length = 319 := by rw [el]; exact hn
  refine vv_aload_n 725 0 dX12_init_725 rfl rfl ?_
  refine vv_iconst 726 dX12_init_726 ik_3 ?_
  refine vk_newa (N := 3) (c1 := 28) (s1 := 1713) 15 .char (Or.inr (Or.inr ⟨rfl, rfl⟩)) 727 dX12_init_727 ac_15 (by decide) (by decide) (Nat.le_of_ble_eq_true rfl) (n := 319) hn (μ1 := km_712) rfl rfl rfl (Nat.le_of_ble_eq_true rfl) (Nat.le_of_ble_eq_true rfl) ?_
  have el : km_712 = sh_add km_711 (15, 3) := rfl
  have hl291 : (sh_lay km_712)[291]? = some (12, 0) := by rw [el]; exact sh_lay_add hl291
  have hl319 : (sh_lay km_712)[319]? = some (15, 3) := by rw [el]; exact sh_lay_new hn
  have hn : (sh_lay km_712).length = 320 := by rw [el]; exact sh_len_add hn
  refine vv_dup_ref 729 dX12_init_729 ?_
  refine vv_iconst 730 dX12_init_730 ik_0 ?_
  refine vv_bipush 731 dX12_init_731 bk_109 ?_
  refine vc_cast (μ1 := km_713) 733 dX12_init_733 hl319 (by unfold vp_in; decide) rfl (by decide) rfl ?_
  have el : sh_lay km_713 = sh_lay km_712 := by rw [show km_713 = sh_setI km_712 319 0 109 from rfl]; exact sh_lyI
  have hl291 : (sh_lay km_713)[291]? = some (12, 0) := by rw [el]; exact hl291
  have hl319 : (sh_lay km_713)[319]? = some (15, 3) := by rw [el]; exact hl319
  have hn : (sh_lay km_713).length = 320 := by rw [el]; exact hn
  refine vv_dup_ref 734 dX12_init_734 ?_
  refine vv_iconst 735 dX12_init_735 ik_1 ?_
  refine vv_bipush 736 dX12_init_736 bk_105 ?_
  refine vc_cast (μ1 := km_714) 738 dX12_init_738 hl319 (by unfold vp_in; decide) rfl (by decide) rfl ?_
  have el : sh_lay km_714 = sh_lay km_713 := by rw [show km_714 = sh_setI km_713 319 1 105 from rfl]; exact sh_lyI
  have hl291 : (sh_lay km_714)[291]? = some (12, 0) := by rw [el]; exact hl291
  have hl319 : (sh_lay km_714)[319]? = some (15, 3) := by rw [el]; exact hl319
  have hn : (sh_lay km_714).length = 320 := by rw [el]; exact hn
  refine vv_dup_ref 739 dX12_init_739 ?_
  refine vv_iconst 740 dX12_init_740 ik_2 ?_
  refine vv_bipush 741 dX12_init_741 bk_110 ?_
  refine vc_cast (μ1 := km_715) 743 dX12_init_743 hl319 (by unfold vp_in; decide) rfl (by decide) rfl ?_
  have el : sh_lay km_715 = sh_lay km_714 := by rw [show km_715 = sh_setI km_714 319 2 110 from rfl]; exact sh_lyI
  have hl291 : (sh_lay km_715)[291]? = some (12, 0) := by rw [el]; exact hl291
  have hl319 : (sh_lay km_715)[319]? = some (15, 3) := by rw [el]; exact hl319
  have hn : (sh_lay km_715).length = 320 := by rw [el]; exact hn
  refine vn_putR 744 dX12_init_744 fl_12_96 (Or.inr ⟨rfl, rfl, rfl⟩) rfl hl291 (fun y ey => ?_)
  obtain rfl : y = km_716 := ey
  have el : sh_lay km_716 = sh_lay km_715 := by rw [show km_716 = sh_setR km_715 291 36 (some 319) from rfl]; exact sh_lyR
  have hl291 : (sh_lay km_716)[291]? = some (12, 0) := by rw [el]; exact hl291
  have hn : (sh_lay km_716).length = 320 := by rw [el]; exact hn
  refine vv_aload_n 747 0 dX12_init_747 rfl rfl ?_
  refine vv_iconst 748 dX12_init_748 ik_3 ?_
  refine vk_newa (N := 3) (c1 := 29) (s1 := 1716) 15 .char (Or.inr (Or.inr ⟨rfl, rfl⟩)) 749 dX12_init_749 ac_15 (by decide) (by decide) (Nat.le_of_ble_eq_true rfl) (n := 320) hn (μ1 := km_717) rfl rfl rfl (Nat.le_of_ble_eq_true rfl) (Nat.le_of_ble_eq_true rfl) ?_
  have el : km_717 = sh_add km_716 (15, 3) := rfl
  have hl291 : (sh_lay km_717)[291]? = some (12, 0) := by rw [el]; exact sh_lay_add hl291
  have hl320 : (sh_lay km_717)[320]? = some (15, 3) := by rw [el]; exact sh_lay_new hn
  have hn : (sh_lay km_717).length = 321 := by rw [el]; exact sh_len_add hn
  refine vv_dup_ref 751 dX12_init_751 ?_
  refine vv_iconst 752 dX12_init_752 ik_0 ?_
  refine vv_bipush 753 dX12_init_753 bk_109 ?_
  refine vc_cast (μ1 := km_718) 755 dX12_init_755 hl320 (by unfold vp_in; decide) rfl (by decide) rfl ?_
  have el : sh_lay km_718 = sh_lay km_717 := by rw [show km_718 = sh_setI km_717 320 0 109 from rfl]; exact sh_lyI
  have hl291 : (sh_lay km_718)[291]? = some (12, 0) := by rw [el]; exact hl291
  have hl320 : (sh_lay km_718)[320]? = some (15, 3) := by rw [el]; exact hl320
  have hn : (sh_lay km_718).length = 321 := by rw [el]; exact hn
  refine vv_dup_ref 756 dX12_init_756 ?_
  refine vv_iconst 757 dX12_init_757 ik_1 ?_
  refine vv_bipush 758 dX12_init_758 bk_97 ?_
  refine vc_cast (μ1 := km_719) 760 dX12_init_760 hl320 (by unfold vp_in; decide) rfl (by decide) rfl ?_
  have el : sh_lay km_719 = sh_lay km_718 := by rw [show km_719 = sh_setI km_718 320 1 97 from rfl]; exact sh_lyI
  have hl291 : (sh_lay km_719)[291]? = some (12, 0) := by rw [el]; exact hl291
  have hl320 : (sh_lay km_719)[320]? = some (15, 3) := by rw [el]; exact hl320
  have hn : (sh_lay km_719).length = 321 := by rw [el]; exact hn
  refine vv_dup_ref 761 dX12_init_761 ?_
  refine vv_iconst 762 dX12_init_762 ik_2 ?_
  refine vv_bipush 763 dX12_init_763 bk_120 ?_
  refine vc_cast (μ1 := km_720) 765 dX12_init_765 hl320 (by unfold vp_in; decide) rfl (by decide) rfl ?_
  have el : sh_lay km_720 = sh_lay km_719 := by rw [show km_720 = sh_setI km_719 320 2 120 from rfl]; exact sh_lyI
  have hl291 : (sh_lay km_720)[291]? = some (12, 0) := by rw [el]; exact hl291
  have hl320 : (sh_lay km_720)[320]? = some (15, 3) := by rw [el]; exact hl320
  have hn : (sh_lay km_720).length = 321 := by rw [el]; exact hn
  refine vn_putR 766 dX12_init_766 fl_12_99 (Or.inr ⟨rfl, rfl, rfl⟩) rfl hl291 (fun y ey => ?_)
  obtain rfl : y = km_721 := ey
  have el : sh_lay km_721 = sh_lay km_720 := by rw [show km_721 = sh_setR km_720 291 37 (some 320) from rfl]; exact sh_lyR
  have hl291 : (sh_lay km_721)[291]? = some (12, 0) := by rw [el]; exact hl291
  have hn : (sh_lay km_721).length = 321 := by rw [el]; exact hn
  refine vv_aload_n 769 0 dX12_init_769 rfl rfl ?_
  refine vv_bipush 770 dX12_init_770 bk_6 ?_
  refine vk_newa (N := 6) (c1 := 30) (s1 := 1722) 13 .int (Or.inl ⟨rfl, rfl⟩) 772 dX12_init_772 ac_13 (by decide) (by decide) (Nat.le_of_ble_eq_true rfl) (n := 321) hn (μ1 := km_722) rfl rfl rfl (Nat.le_of_ble_eq_true rfl) (Nat.le_of_ble_eq_true rfl) ?_
  have el : km_722 = sh_add km_721 (13, 6) := rfl
  have hl291 : (sh_lay km_722)[291]? = some (12, 0) := by rw [el]; exact sh_lay_add hl291
  have hl321 : (sh_lay km_722)[321]? = some (13, 6) := by rw [el]; exact sh_lay_new hn
  have hn : (sh_lay km_722).length = 322 := by rw [el]; exact sh_len_add hn
  refine vn_putR 774 dX12_init_774 fl_12_102 (Or.inr ⟨rfl, rfl, rfl⟩) rfl hl291 (fun y ey => ?_)
  obtain rfl : y = km_723 := ey
  have el : sh_lay km_723 = sh_lay km_722 := by rw [show km_723 = sh_setR km_722 291 39 (some 321) from rfl]; exact sh_lyR
  have hl291 : (sh_lay km_723)[291]? = some (12, 0) := by rw [el]; exact hl291
  have hn : (sh_lay km_723).length = 322 := by rw [el]; exact hn
  refine vv_aload_n 777 0 dX12_init_777 rfl rfl ?_
  refine vv_bipush 778 dX12_init_778 bk_6 ?_
  refine vk_newa (N := 6) (c1 := 31) (s1 := 1728) 13 .int (Or.inl ⟨rfl, rfl⟩) 780 dX12_init_780 ac_13 (by decide) (by decide) (Nat.le_of_ble_eq_true rfl) (n := 322) hn (μ1 := km_724) rfl rfl rfl (Nat.le_of_ble_eq_true rfl) (Nat.le_of_ble_eq_true rfl) ?_
  have el : km_724 = sh_add km_723 (13, 6) := rfl
  have hl291 : (sh_lay km_724)[291]? = some (12, 0) := by rw [el]; exact sh_lay_add hl291
  have hl322 : (sh_lay km_724)[322]? = some (13, 6) := by rw [el]; exact sh_lay_new hn
  have hn : (sh_lay km_724).length = 323 := by rw [el]; exact sh_len_add hn
  refine vn_putR 782 dX12_init_782 fl_12_105 (Or.inr ⟨rfl, rfl, rfl⟩) rfl hl291 (fun y ey => ?_)
  obtain rfl : y = km_725 := ey
  have el : sh_lay km_725 = sh_lay km_724 := by rw [show km_725 = sh_setR km_724 291 40 (some 322) from rfl]; exact sh_lyR
  have hl291 : (sh_lay km_725)[291]? = some (12, 0) := by rw [el]; exact hl291
  have hn : (sh_lay km_725).length = 323 := by rw [el]; exact hn
  refine vv_aload_n 785 0 dX12_init_785 rfl rfl ?_
  refine vv_bipush 786 dX12_init_786 bk_32 ?_
  refine vk_newa (N := 32) (c1 := 32) (s1 := 1760) 14 .long (Or.inr (Or.inl ⟨rfl, rfl⟩)) 788 dX12_init_788 ac_14 (by decide) (by decide) (Nat.le_of_ble_eq_true rfl) (n := 323) hn (μ1 := km_726) rfl rfl rfl (Nat.le_of_ble_eq_true rfl) (Nat.le_of_ble_eq_true rfl) ?_
  have el : km_726 = sh_add km_725 (14, 32) := rfl
  have hl291 : (sh_lay km_726)[291]? = some (12, 0) := by rw [el]; exact sh_lay_add hl291
  have hl323 : (sh_lay km_726)[323]? = some (14, 32) := by rw [el]; exact sh_lay_new hn
  have hn : (sh_lay km_726).length = 324 := by rw [el]; exact sh_len_add hn
  refine vn_putR 790 dX12_init_790 fl_12_108 (Or.inr ⟨rfl, rfl, rfl⟩) rfl hl291 (fun y ey => ?_)
  obtain rfl : y = km_727 := ey
  have el : sh_lay km_727 = sh_lay km_726 := by rw [show km_727 = sh_setR km_726 291 41 (some 323) from rfl]; exact sh_lyR
  have hl291 : (sh_lay km_727)[291]? = some (12, 0) := by rw [el]; exact hl291
  have hn : (sh_lay km_727).length = 324 := by rw [el]; exact hn
  refine vv_aload_n 793 0 dX12_init_793 rfl rfl ?_
  refine vv_bipush 794 dX12_init_794 bk_49 ?_
  refine vk_newa (N := 49) (c1 := 33) (s1 := 1809) 13 .int (Or.inl ⟨rfl, rfl⟩) 796 dX12_init_796 ac_13 (by decide) (by decide) (Nat.le_of_ble_eq_true rfl) (n := 324) hn (μ1 := km_728) rfl rfl rfl (Nat.le_of_ble_eq_true rfl) (Nat.le_of_ble_eq_true rfl) ?_
  have el : km_728 = sh_add km_727 (13, 49) := rfl
  have hl291 : (sh_lay km_728)[291]? = some (12, 0) := by rw [el]; exact sh_lay_add hl291
  have hl324 : (sh_lay km_728)[324]? = some (13, 49) := by rw [el]; exact sh_lay_new hn
  have hn : (sh_lay km_728).length = 325 := by rw [el]; exact sh_len_add hn
  refine vn_putR 798 dX12_init_798 fl_12_112 (Or.inr ⟨rfl, rfl, rfl⟩) rfl hl291 (fun y ey => ?_)
  obtain rfl : y = km_729 := ey
  have el : sh_lay km_729 = sh_lay km_728 := by rw [show km_729 = sh_setR km_728 291 42 (some 324) from rfl]; exact sh_lyR
  have hl291 : (sh_lay km_729)[291]? = some (12, 0) := by rw [el]; exact hl291
  have hn : (sh_lay km_729).length = 325 := by rw [el]; exact hn
  refine vv_aload_n 801 0 dX12_init_801 rfl rfl ?_
  refine vv_bipush 802 dX12_init_802 bk_21 ?_
  refine vk_newa (N := 21) (c1 := 34) (s1 := 1830) 13 .int (Or.inl ⟨rfl, rfl⟩) 804 dX12_init_804 ac_13 (by decide) (by decide) (Nat.le_of_ble_eq_true rfl) (n := 325) hn (μ1 := km_730) rfl rfl rfl (Nat.le_of_ble_eq_true rfl) (Nat.le_of_ble_eq_true rfl) ?_
  have el : km_730 = sh_add km_729 (13, 21) := rfl
  have hl291 : (sh_lay km_730)[291]? = some (12, 0) := by rw [el]; exact sh_lay_add hl291
  have hl325 : (sh_lay km_730)[325]? = some (13, 21) := by rw [el]; exact sh_lay_new hn
  have hn : (sh_lay km_730).length = 326 := by rw [el]; exact sh_len_add hn
  refine vn_putR 806 dX12_init_806 fl_12_115 (Or.inr ⟨rfl, rfl, rfl⟩) rfl hl291 (fun y ey => ?_)
  obtain rfl : y = km_731 := ey
  have el : sh_lay km_731 = sh_lay km_730 := by rw [show km_731 = sh_setR km_730 291 43 (some 325) from rfl]; exact sh_lyR
  have hl291 : (sh_lay km_731)[291]? = some (12, 0) := by rw [el]; exact hl291
  have hn : (sh_lay km_731).length = 326 := by rw [el]; exact hn
  refine vv_aload_n 809 0 dX12_init_809 rfl rfl ?_
  refine vv_bipush 810 dX12_init_810 bk_48 ?_
  refine vk_newa (N := 48) (c1 := 35) (s1 := 1878) 13 .int (Or.inl ⟨rfl, rfl⟩) 812 dX12_init_812 ac_13 (by decide) (by decide) (Nat.le_of_ble_eq_true rfl) (n := 326) hn (μ1 := km_732) rfl rfl rfl (Nat.le_of_ble_eq_true rfl) (Nat.le_of_ble_eq_true rfl) ?_
  have el : km_732 = sh_add km_731 (13, 48) := rfl
  have hl291 : (sh_lay km_732)[291]? = some (12, 0) := by rw [el]; exact sh_lay_add hl291
  have hl326 : (sh_lay km_732)[326]? = some (13, 48) := by rw [el]; exact sh_lay_new hn
  have hn : (sh_lay km_732).length = 327 := by rw [el]; exact sh_len_add hn
  refine vn_putR 814 dX12_init_814 fl_12_118 (Or.inr ⟨rfl, rfl, rfl⟩) rfl hl291 (fun y ey => ?_)
  obtain rfl : y = km_733 := ey
  have el : sh_lay km_733 = sh_lay km_732 := by rw [show km_733 = sh_setR km_732 291 44 (some 326) from rfl]; exact sh_lyR
  have hl291 : (sh_lay km_733)[291]? = some (12, 0) := by rw [el]; exact hl291
  have hn : (sh_lay km_733).length = 327 := by rw [el]; exact hn
  refine vv_aload_n 817 0 dX12_init_817 rfl rfl ?_
  refine vv_bipush 818 dX12_init_818 bk_6 ?_
  refine vk_newa (N := 6) (c1 := 36) (s1 := 1884) 13 .int (Or.inl ⟨rfl, rfl⟩) 820 dX12_init_820 ac_13 (by decide) (by decide) (Nat.le_of_ble_eq_true rfl) (n := 327) hn (μ1 := km_734) rfl rfl rfl (Nat.le_of_ble_eq_true rfl) (Nat.le_of_ble_eq_true rfl) ?_
  have el : km_734 = sh_add km_733 (13, 6) := rfl
  have hl291 : (sh_lay km_734)[291]? = some (12, 0) := by rw [el]; exact sh_lay_add hl291
  have hl327 : (sh_lay km_734)[327]? = some (13, 6) := by rw [el]; exact sh_lay_new hn
  have hn : (sh_lay km_734).length = 328 := by rw [el]; exact sh_len_add hn
  refine vv_dup_ref 822 dX12_init_822 ?_
  refine vv_iconst 823 dX12_init_823 ik_0 ?_
  refine vv_iconst 824 dX12_init_824 ik_m1 ?_
  refine vc_iast (μ1 := km_735) 825 dX12_init_825 hl327 (by unfold vp_in; decide) (by decide) rfl ?_
  have el : sh_lay km_735 = sh_lay km_734 := by rw [show km_735 = sh_setI km_734 327 0 (-1) from rfl]; exact sh_lyI
  have hl291 : (sh_lay km_735)[291]? = some (12, 0) := by rw [el]; exact hl291
  have hl327 : (sh_lay km_735)[327]? = some (13, 6) := by rw [el]; exact hl327
  have hn : (sh_lay km_735).length = 328 := by rw [el]; exact hn
  refine vv_dup_ref 826 dX12_init_826 ?_
  refine vv_iconst 827 dX12_init_827 ik_1 ?_
  refine vv_iconst 828 dX12_init_828 ik_m1 ?_
  refine vc_iast (μ1 := km_736) 829 dX12_init_829 hl327 (by unfold vp_in; decide) (by decide) rfl ?_
  have el : sh_lay km_736 = sh_lay km_735 := by rw [show km_736 = sh_setI km_735 327 1 (-1) from rfl]; exact sh_lyI
  have hl291 : (sh_lay km_736)[291]? = some (12, 0) := by rw [el]; exact hl291
  have hl327 : (sh_lay km_736)[327]? = some (13, 6) := by rw [el]; exact hl327
  have hn : (sh_lay km_736).length = 328 := by rw [el]; exact hn
  refine vv_dup_ref 830 dX12_init_830 ?_
  refine vv_iconst 831 dX12_init_831 ik_2 ?_
  refine vv_iconst 832 dX12_init_832 ik_m1 ?_
  refine vc_iast (μ1 := km_737) 833 dX12_init_833 hl327 (by unfold vp_in; decide) (by decide) rfl ?_
  have el : sh_lay km_737 = sh_lay km_736 := by rw [show km_737 = sh_setI km_736 327 2 (-1) from rfl]; exact sh_lyI
  have hl291 : (sh_lay km_737)[291]? = some (12, 0) := by rw [el]; exact hl291
  have hl327 : (sh_lay km_737)[327]? = some (13, 6) := by rw [el]; exact hl327
  have hn : (sh_lay km_737).length = 328 := by rw [el]; exact hn
  refine vv_dup_ref 834 dX12_init_834 ?_
  refine vv_iconst 835 dX12_init_835 ik_3 ?_
  refine vv_iconst 836 dX12_init_836 ik_m1 ?_
  refine vc_iast (μ1 := km_738) 837 dX12_init_837 hl327 (by unfold vp_in; decide) (by decide) rfl ?_
  have el : sh_lay km_738 = sh_lay km_737 := by rw [show km_738 = sh_setI km_737 327 3 (-1) from rfl]; exact sh_lyI
  have hl291 : (sh_lay km_738)[291]? = some (12, 0) := by rw [el]; exact hl291
  have hl327 : (sh_lay km_738)[327]? = some (13, 6) := by rw [el]; exact hl327
  have hn : (sh_lay km_738).length = 328 := by rw [el]; exact hn
  refine vv_dup_ref 838 dX12_init_838 ?_
  refine vv_iconst 839 dX12_init_839 ik_4 ?_
  refine vv_iconst 840 dX12_init_840 ik_m1 ?_
  refine vc_iast (μ1 := km_739) 841 dX12_init_841 hl327 (by unfold vp_in; decide) (by decide) rfl ?_
  have el : sh_lay km_739 = sh_lay km_738 := by rw [show km_739 = sh_setI km_738 327 4 (-1) from rfl]; exact sh_lyI
  have hl291 : (sh_lay km_739)[291]? = some (12, 0) := by rw [el]; exact hl291
  have hl327 : (sh_lay km_739)[327]? = some (13, 6) := by rw [el]; exact hl327
  have hn : (sh_lay km_739).length = 328 := by rw [el]; exact hn
  refine vv_dup_ref 842 dX12_init_842 ?_
  refine vv_iconst 843 dX12_init_843 ik_5 ?_
  refine vv_iconst 844 dX12_init_844 ik_m1 ?_
  refine vc_iast (μ1 := km_740) 845 dX12_init_845 hl327 (by unfold vp_in; decide) (by decide) rfl ?_
  have el : sh_lay km_740 = sh_lay km_739 := by rw [show km_740 = sh_setI km_739 327 5 (-1) from rfl]; exact sh_lyI
  have hl291 : (sh_lay km_740)[291]? = some (12, 0) := by rw [el]; exact hl291
  have hl327 : (sh_lay km_740)[327]? = some (13, 6) := by rw [el]; exact hl327
  have hn : (sh_lay km_740).length = 328 := by rw [el]; exact hn
  refine vn_putR 846 dX12_init_846 fl_12_121 (Or.inr ⟨rfl, rfl, rfl⟩) rfl hl291 (fun y ey => ?_)
  obtain rfl : y = km_741 := ey
  have el : sh_lay km_741 = sh_lay km_740 := by rw [show km_741 = sh_setR km_740 291 45 (some 327) from rfl]; exact sh_lyR
  have hl291 : (sh_lay km_741)[291]? = some (12, 0) := by rw [el]; exact hl291
  have hn : (sh_lay km_741).length = 328 := by rw [el]; exact hn
  refine vv_aload_n 849 0 dX12_init_849 rfl rfl ?_
  refine vv_bipush 850 dX12_init_850 bk_6 ?_
  refine vk_newa (N := 6) (c1 := 37) (s1 := 1890) 13 .int (Or.inl ⟨rfl, rfl⟩) 852 dX12_init_852 ac_13 (by decide) (by decide) (Nat.le_of_ble_eq_true rfl) (n := 328) hn (μ1 := km_742) rfl rfl rfl (Nat.le_of_ble_eq_true rfl) (Nat.le_of_ble_eq_true rfl) ?_
  have el : km_742 = sh_add km_741 (13, 6) := rfl
  have hl291 : (sh_lay km_742)[291]? = some (12, 0) := by rw [el]; exact sh_lay_add hl291
  have hl328 : (sh_lay km_742)[328]? = some (13, 6) := by rw [el]; exact sh_lay_new hn
  have hn : (sh_lay km_742).length = 329 := by rw [el]; exact sh_len_add hn
  refine vn_putR 854 dX12_init_854 fl_12_124 (Or.inr ⟨rfl, rfl, rfl⟩) rfl hl291 (fun y ey => ?_)
  obtain rfl : y = km_743 := ey
  have el : sh_lay km_743 = sh_lay km_742 := by rw [show km_743 = sh_setR km_742 291 46 (some 328) from rfl]; exact sh_lyR
  have hl291 : (sh_lay km_743)[291]? = some (12, 0) := by rw [el]; exact hl291
  have hn : (sh_lay km_743).length = 329 := by rw [el]; exact hn
  refine vv_aload_n 857 0 dX12_init_857 rfl rfl ?_
  refine vv_sipush 858 dX12_init_858 sk_3200 ?_
  refine vk_newa (N := 3200) (c1 := 38) (s1 := 5090) 13 .int (Or.inl ⟨rfl, rfl⟩) 861 dX12_init_861 ac_13 (by decide) (by decide) (Nat.le_of_ble_eq_true rfl) (n := 329) hn (μ1 := km_744) rfl rfl rfl (Nat.le_of_ble_eq_true rfl) (Nat.le_of_ble_eq_true rfl) ?_
  have el : km_744 = sh_add km_743 (13, 3200) := rfl
  have hl291 : (sh_lay km_744)[291]? = some (12, 0) := by rw [el]; exact sh_lay_add hl291
  have hl329 : (sh_lay km_744)[329]? = some (13, 3200) := by rw [el]; exact sh_lay_new hn
  have hn : (sh_lay km_744).length = 330 := by rw [el]; exact sh_len_add hn
  refine vn_putR 863 dX12_init_863 fl_12_127 (Or.inr ⟨rfl, rfl, rfl⟩) rfl hl291 (fun y ey => ?_)
  obtain rfl : y = km_745 := ey
  have el : sh_lay km_745 = sh_lay km_744 := by rw [show km_745 = sh_setR km_744 291 47 (some 329) from rfl]; exact sh_lyR
  have hl291 : (sh_lay km_745)[291]? = some (12, 0) := by rw [el]; exact hl291
  have hn : (sh_lay km_745).length = 330 := by rw [el]; exact hn
  refine vv_aload_n 866 0 dX12_init_866 rfl rfl ?_
  refine vv_sipush 867 dX12_init_867 sk_232 ?_
  refine vk_newa (N := 232) (c1 := 39) (s1 := 5322) 13 .int (Or.inl ⟨rfl, rfl⟩) 870 dX12_init_870 ac_13 (by decide) (by decide) (Nat.le_of_ble_eq_true rfl) (n := 330) hn (μ1 := km_746) rfl rfl rfl (Nat.le_of_ble_eq_true rfl) (Nat.le_of_ble_eq_true rfl) ?_
  have el : km_746 = sh_add km_745 (13, 232) := rfl
  have hl291 : (sh_lay km_746)[291]? = some (12, 0) := by rw [el]; exact sh_lay_add hl291
  have hl330 : (sh_lay km_746)[330]? = some (13, 232) := by rw [el]; exact sh_lay_new hn
  have hn : (sh_lay km_746).length = 331 := by rw [el]; exact sh_len_add hn
  refine vn_putR 872 dX12_init_872 fl_12_130 (Or.inr ⟨rfl, rfl, rfl⟩) rfl hl291 (fun y ey => ?_)
  obtain rfl : y = km_747 := ey
  have el : sh_lay km_747 = sh_lay km_746 := by rw [show km_747 = sh_setR km_746 291 52 (some 330) from rfl]; exact sh_lyR
  have hl291 : (sh_lay km_747)[291]? = some (12, 0) := by rw [el]; exact hl291
  have hn : (sh_lay km_747).length = 331 := by rw [el]; exact hn
  refine vv_aload_n 875 0 dX12_init_875 rfl rfl ?_
  refine vv_bipush 876 dX12_init_876 bk_71 ?_
  refine vk_newa (N := 71) (c1 := 40) (s1 := 5393) 13 .int (Or.inl ⟨rfl, rfl⟩) 878 dX12_init_878 ac_13 (by decide) (by decide) (Nat.le_of_ble_eq_true rfl) (n := 331) hn (μ1 := km_748) rfl rfl rfl (Nat.le_of_ble_eq_true rfl) (Nat.le_of_ble_eq_true rfl) ?_
  have el : km_748 = sh_add km_747 (13, 71) := rfl
  have hl291 : (sh_lay km_748)[291]? = some (12, 0) := by rw [el]; exact sh_lay_add hl291
  have hl331 : (sh_lay km_748)[331]? = some (13, 71) := by rw [el]; exact sh_lay_new hn
  have hn : (sh_lay km_748).length = 332 := by rw [el]; exact sh_len_add hn
  refine vn_putR 880 dX12_init_880 fl_12_133 (Or.inr ⟨rfl, rfl, rfl⟩) rfl hl291 (fun y ey => ?_)
  obtain rfl : y = km_749 := ey
  have el : sh_lay km_749 = sh_lay km_748 := by rw [show km_749 = sh_setR km_748 291 53 (some 331) from rfl]; exact sh_lyR
  have hl291 : (sh_lay km_749)[291]? = some (12, 0) := by rw [el]; exact hl291
  have hn : (sh_lay km_749).length = 332 := by rw [el]; exact hn
  refine vv_aload_n 883 0 dX12_init_883 rfl rfl ?_
  refine vv_bipush 884 dX12_init_884 bk_35 ?_
  refine vk_newa (N := 35) (c1 := 41) (s1 := 5428) 13 .int (Or.inl ⟨rfl, rfl⟩) 886 dX12_init_886 ac_13 (by decide) (by decide) (Nat.le_of_ble_eq_true rfl) (n := 332) hn (μ1 := km_750) rfl rfl rfl (Nat.le_of_ble_eq_true rfl) (Nat.le_of_ble_eq_true rfl) ?_
  have el : km_750 = sh_add km_749 (13, 35) := rfl
  have hl291 : (sh_lay km_750)[291]? = some (12, 0) := by rw [el]; exact sh_lay_add hl291
  have hl332 : (sh_lay km_750)[332]? = some (13, 35) := by rw [el]; exact sh_lay_new hn
  have hn : (sh_lay km_750).length = 333 := by rw [el]; exact sh_len_add hn
  refine vn_putR 888 dX12_init_888 fl_12_136 (Or.inr ⟨rfl, rfl, rfl⟩) rfl hl291 (fun y ey => ?_)
  obtain rfl : y = km_751 := ey
  have el : sh_lay km_751 = sh_lay km_750 := by rw [show km_751 = sh_setR km_750 291 61 (some 332) from rfl]; exact sh_lyR
  have hl291 : (sh_lay km_751)[291]? = some (12, 0) := by rw [el]; exact hl291
  have hn : (sh_lay km_751).length = 333 := by rw [el]; exact hn
  refine vv_aload_n 891 0 dX12_init_891 rfl rfl ?_
  refine vv_iconst 892 dX12_init_892 ik_3 ?_
  refine vk_newa (N := 3) (c1 := 42) (s1 := 5431) 13 .int (Or.inl ⟨rfl, rfl⟩) 893 dX12_init_893 ac_13 (by decide) (by decide) (Nat.le_of_ble_eq_true rfl) (n := 333) hn (μ1 := km_752) rfl rfl rfl (Nat.le_of_ble_eq_true rfl) (Nat.le_of_ble_eq_true rfl) ?_
  have el : km_752 = sh_add km_751 (13, 3) := rfl
  have hl291 : (sh_lay km_752)[291]? = some (12, 0) := by rw [el]; exact sh_lay_add hl291
  have hl333 : (sh_lay km_752)[333]? = some (13, 3) := by rw [el]; exact sh_lay_new hn
  have hn : (sh_lay km_752).length = 334 := by rw [el]; exact sh_len_add hn
  refine vn_putR 895 dX12_init_895 fl_12_139 (Or.inr ⟨rfl, rfl, rfl⟩) rfl hl291 (fun y ey => ?_)
  obtain rfl : y = km_753 := ey
  have el : sh_lay km_753 = sh_lay km_752 := by rw [show km_753 = sh_setR km_752 291 62 (some 333) from rfl]; exact sh_lyR
  have hl291 : (sh_lay km_753)[291]? = some (12, 0) := by rw [el]; exact hl291
  have hn : (sh_lay km_753).length = 334 := by rw [el]; exact hn
  refine vv_aload_n 898 0 dX12_init_898 rfl rfl ?_
  refine vv_bipush 899 dX12_init_899 bk_71 ?_
  refine vk_newa (N := 71) (c1 := 43) (s1 := 5502) 13 .int (Or.inl ⟨rfl, rfl⟩) 901 dX12_init_901 ac_13 (by decide) (by decide) (Nat.le_of_ble_eq_true rfl) (n := 334) hn (μ1 := km_754) rfl rfl rfl (Nat.le_of_ble_eq_true rfl) (Nat.le_of_ble_eq_true rfl) ?_
  have el : km_754 = sh_add km_753 (13, 71) := rfl
  have hl291 : (sh_lay km_754)[291]? = some (12, 0) := by rw [el]; exact sh_lay_add hl291
  have hl334 : (sh_lay km_754)[334]? = some (13, 71) := by rw [el]; exact sh_lay_new hn
  have hn : (sh_lay km_754).length = 335 := by rw [el]; exact sh_len_add hn
  refine vn_putR 903 dX12_init_903 fl_12_142 (Or.inr ⟨rfl, rfl, rfl⟩) rfl hl291 (fun y ey => ?_)
  obtain rfl : y = km_755 := ey
  have el : sh_lay km_755 = sh_lay km_754 := by rw [show km_755 = sh_setR km_754 291 63 (some 334) from rfl]; exact sh_lyR
  have hl291 : (sh_lay km_755)[291]? = some (12, 0) := by rw [el]; exact hl291
  have hn : (sh_lay km_755).length = 335 := by rw [el]; exact hn
  refine vv_aload_n 906 0 dX12_init_906 rfl rfl ?_
  refine vv_bipush 907 dX12_init_907 bk_71 ?_
  refine vk_newa (N := 71) (c1 := 44) (s1 := 5573) 13 .int (Or.inl ⟨rfl, rfl⟩) 909 dX12_init_909 ac_13 (by decide) (by decide) (Nat.le_of_ble_eq_true rfl) (n := 335) hn (μ1 := km_756) rfl rfl rfl (Nat.le_of_ble_eq_true rfl) (Nat.le_of_ble_eq_true rfl) ?_
  have el : km_756 = sh_add km_755 (13, 71) := rfl
  have hl291 : (sh_lay km_756)[291]? = some (12, 0) := by rw [el]; exact sh_lay_add hl291
  have hl335 : (sh_lay km_756)[335]? = some (13, 71) := by rw [el]; exact sh_lay_new hn
  have hn : (sh_lay km_756).length = 336 := by rw [el]; exact sh_len_add hn
  refine vn_putR 911 dX12_init_911 fl_12_145 (Or.inr ⟨rfl, rfl, rfl⟩) rfl hl291 (fun y ey => ?_)
  obtain rfl : y = km_757 := ey
  have el : sh_lay km_757 = sh_lay km_756 := by rw [show km_757 = sh_setR km_756 291 64 (some 335) from rfl]; exact sh_lyR
  have hl291 : (sh_lay km_757)[291]? = some (12, 0) := by rw [el]; exact hl291
  have hn : (sh_lay km_757).length = 336 := by rw [el]; exact hn
  refine vv_aload_n 914 0 dX12_init_914 rfl rfl ?_
  refine vv_bipush 915 dX12_init_915 bk_49 ?_
  refine vk_newa (N := 49) (c1 := 45) (s1 := 5622) 13 .int (Or.inl ⟨rfl, rfl⟩) 917 dX12_init_917 ac_13 (by decide) (by decide) (Nat.le_of_ble_eq_true rfl) (n := 336) hn (μ1 := km_758) rfl rfl rfl (Nat.le_of_ble_eq_true rfl) (Nat.le_of_ble_eq_true rfl) ?_
  have el : km_758 = sh_add km_757 (13, 49) := rfl
  have hl291 : (sh_lay km_758)[291]? = some (12, 0) := by rw [el]; exact sh_lay_add hl291
  have hl336 : (sh_lay km_758)[336]? = some (13, 49) := by rw [el]; exact sh_lay_new hn
  have hn : (sh_lay km_758).length = 337 := by rw [el]; exact sh_len_add hn
  refine vn_putR 919 dX12_init_919 fl_12_148 (Or.inr ⟨rfl, rfl, rfl⟩) rfl hl291 (fun y ey => ?_)
  obtain rfl : y = km_759 := ey
  have el : sh_lay km_759 = sh_lay km_758 := by rw [show km_759 = sh_setR km_758 291 69 (some 336) from rfl]; exact sh_lyR
  have hl291 : (sh_lay km_759)[291]? = some (12, 0) := by rw [el]; exact hl291
  have hn : (sh_lay km_759).length = 337 := by rw [el]; exact hn
  refine vv_aload_n 922 0 dX12_init_922 rfl rfl ?_
  refine vv_sipush 923 dX12_init_923 sk_896 ?_
  refine vk_newa (N := 896) (c1 := 46) (s1 := 6518) 13 .int (Or.inl ⟨rfl, rfl⟩) 926 dX12_init_926 ac_13 (by decide) (by decide) (Nat.le_of_ble_eq_true rfl) (n := 337) hn (μ1 := km_760) rfl rfl rfl (Nat.le_of_ble_eq_true rfl) (Nat.le_of_ble_eq_true rfl) ?_
  have el : km_760 = sh_add km_759 (13, 896) := rfl
  have hl291 : (sh_lay km_760)[291]? = some (12, 0) := by rw [el]; exact sh_lay_add hl291
  have hl337 : (sh_lay km_760)[337]? = some (13, 896) := by rw [el]; exact sh_lay_new hn
  have hn : (sh_lay km_760).length = 338 := by rw [el]; exact sh_len_add hn
  refine vn_putR 928 dX12_init_928 fl_12_151 (Or.inr ⟨rfl, rfl, rfl⟩) rfl hl291 (fun y ey => ?_)
  obtain rfl : y = km_761 := ey
  have el : sh_lay km_761 = sh_lay km_760 := by rw [show km_761 = sh_setR km_760 291 70 (some 337) from rfl]; exact sh_lyR
  have hl291 : (sh_lay km_761)[291]? = some (12, 0) := by rw [el]; exact hl291
  have hn : (sh_lay km_761).length = 338 := by rw [el]; exact hn
  refine vv_aload_n 931 0 dX12_init_931 rfl rfl ?_
  refine vv_bipush 932 dX12_init_932 bk_48 ?_
  refine vk_newa (N := 48) (c1 := 47) (s1 := 6566) 13 .int (Or.inl ⟨rfl, rfl⟩) 934 dX12_init_934 ac_13 (by decide) (by decide) (Nat.le_of_ble_eq_true rfl) (n := 338) hn (μ1 := km_762) rfl rfl rfl (Nat.le_of_ble_eq_true rfl) (Nat.le_of_ble_eq_true rfl) ?_
  have el : km_762 = sh_add km_761 (13, 48) := rfl
  have hl291 : (sh_lay km_762)[291]? = some (12, 0) := by rw [el]; exact sh_lay_add hl291
  have hl338 : (sh_lay km_762)[338]? = some (13, 48) := by rw [el]; exact sh_lay_new hn
  have hn : (sh_lay km_762).length = 339 := by rw [el]; exact sh_len_add hn
  refine vn_putR 936 dX12_init_936 fl_12_154 (Or.inr ⟨rfl, rfl, rfl⟩) rfl hl291 (fun y ey => ?_)
  obtain rfl : y = km_763 := ey
  have el : sh_lay km_763 = sh_lay km_762 := by rw [show km_763 = sh_setR km_762 291 72 (some 338) from rfl]; exact sh_lyR
  have hl291 : (sh_lay km_763)[291]? = some (12, 0) := by rw [el]; exact hl291
  have hn : (sh_lay km_763).length = 339 := by rw [el]; exact hn
  refine vv_aload_n 939 0 dX12_init_939 rfl rfl ?_
  refine vv_sipush 940 dX12_init_940 sk_10633 ?_
  refine vk_newa (N := 10633) (c1 := 48) (s1 := 17199) 13 .int (Or.inl ⟨rfl, rfl⟩) 943 dX12_init_943 ac_13 (by decide) (by decide) (Nat.le_of_ble_eq_true rfl) (n := 339) hn (μ1 := km_764) rfl rfl rfl (Nat.le_of_ble_eq_true rfl) (Nat.le_of_ble_eq_true rfl) ?_
  have el : km_764 = sh_add km_763 (13, 10633) := rfl
  have hl291 : (sh_lay km_764)[291]? = some (12, 0) := by rw [el]; exact sh_lay_add hl291
  have hl339 : (sh_lay km_764)[339]? = some (13, 10633) := by rw [el]; exact sh_lay_new hn
  have hn : (sh_lay km_764).length = 340 := by rw [el]; exact sh_len_add hn
  refine vn_putR 945 dX12_init_945 fl_12_157 (Or.inr ⟨rfl, rfl, rfl⟩) rfl hl291 (fun y ey => ?_)
  obtain rfl : y = km_765 := ey
  have el : sh_lay km_765 = sh_lay km_764 := by rw [show km_765 = sh_setR km_764 291 73 (some 339) from rfl]; exact sh_lyR
  have hl291 : (sh_lay km_765)[291]? = some (12, 0) := by rw [el]; exact hl291
  have hn : (sh_lay km_765).length = 340 := by rw [el]; exact hn
  refine vv_aload_n 948 0 dX12_init_948 rfl rfl ?_
  refine vv_sipush 949 dX12_init_949 sk_4640 ?_
  refine vk_newa (N := 4640) (c1 := 49) (s1 := 21839) 13 .int (Or.inl ⟨rfl, rfl⟩) 952 dX12_init_952 ac_13 (by decide) (by decide) (Nat.le_of_ble_eq_true rfl) (n := 340) hn (μ1 := km_766) rfl rfl rfl (Nat.le_of_ble_eq_true rfl) (Nat.le_of_ble_eq_true rfl) ?_
  have el : km_766 = sh_add km_765 (13, 4640) := rfl
  have hl291 : (sh_lay km_766)[291]? = some (12, 0) := by rw [el]; exact sh_lay_add hl291
  have hl340 : (sh_lay km_766)[340]? = some (13, 4640) := by rw [el]; exact sh_lay_new hn
  have hn : (sh_lay km_766).length = 341 := by rw [el]; exact sh_len_add hn
  refine vn_putR 954 dX12_init_954 fl_12_160 (Or.inr ⟨rfl, rfl, rfl⟩) rfl hl291 (fun y ey => ?_)
  obtain rfl : y = km_767 := ey
  have el : sh_lay km_767 = sh_lay km_766 := by rw [show km_767 = sh_setR km_766 291 75 (some 340) from rfl]; exact sh_lyR
  have hl291 : (sh_lay km_767)[291]? = some (12, 0) := by rw [el]; exact hl291
  have hn : (sh_lay km_767).length = 341 := by rw [el]; exact hn
  refine vv_aload_n 957 0 dX12_init_957 rfl rfl ?_
  refine vv_lconst 958 dX12_init_958 lk_1 ?_
  refine vn_putL 959 dX12_init_959 fl_12_163 (Or.inl rfl) rfl hl291 (fun y ey => ?_)
  obtain rfl : y = km_768 := ey
  have el : sh_lay km_768 = sh_lay km_767 := by rw [show km_768 = sh_setL km_767 291 78 1 from rfl]; exact sh_lyL
  have hl291 : (sh_lay km_768)[291]? = some (12, 0) := by rw [el]; exact hl291
  have hn : (sh_lay km_768).length = 341 := by rw [el]; exact hn
  refine vv_aload_n 962 0 dX12_init_962 rfl rfl ?_
  refine vv_iconst 963 dX12_init_963 ik_5 ?_
  refine vk_newa (N := 5) (c1 := 50) (s1 := 21844) 15 .char (Or.inr (Or.inr ⟨rfl, rfl⟩)) 964 dX12_init_964 ac_15 (by decide) (by decide) (Nat.le_of_ble_eq_true rfl) (n := 341) hn (μ1 := km_769) rfl rfl rfl (Nat.le_of_ble_eq_true rfl) (Nat.le_of_ble_eq_true rfl) ?_
  have el : km_769 = sh_add km_768 (15, 5) := rfl
  have hl291 : (sh_lay km_769)[291]? = some (12, 0) := by rw [el]; exact sh_lay_add hl291
  have hl341 : (sh_lay km_769)[341]? = some (15, 5) := by rw [el]; exact sh_lay_new hn
  have hn : (sh_lay km_769).length = 342 := by rw [el]; exact sh_len_add hn
  refine vv_dup_ref 966 dX12_init_966 ?_
  refine vv_iconst 967 dX12_init_967 ik_0 ?_
  refine vv_bipush 968 dX12_init_968 bk_102 ?_
  refine vc_cast (μ1 := km_770) 970 dX12_init_970 hl341 (by unfold vp_in; decide) rfl (by decide) rfl ?_
  have el : sh_lay km_770 = sh_lay km_769 := by rw [show km_770 = sh_setI km_769 341 0 102 from rfl]; exact sh_lyI
  have hl291 : (sh_lay km_770)[291]? = some (12, 0) := by rw [el]; exact hl291
  have hl341 : (sh_lay km_770)[341]? = some (15, 5) := by rw [el]; exact hl341
  have hn : (sh_lay km_770).length = 342 := by rw [el]; exact hn
  refine vv_dup_ref 971 dX12_init_971 ?_
  refine vv_iconst 972 dX12_init_972 ik_1 ?_
  refine vv_bipush 973 dX12_init_973 bk_105 ?_
  refine vc_cast (μ1 := km_771) 975 dX12_init_975 hl341 (by unfold vp_in; decide) rfl (by decide) rfl ?_
  have el : sh_lay km_771 = sh_lay km_770 := by rw [show km_771 = sh_setI km_770 341 1 105 from rfl]; exact sh_lyI
  have hl291 : (sh_lay km_771)[291]? = some (12, 0) := by rw [el]; exact hl291
  have hl341 : (sh_lay km_771)[341]? = some (15, 5) := by rw [el]; exact hl341
  have hn : (sh_lay km_771).length = 342 := by rw [el]; exact hn
  refine vv_dup_ref 976 dX12_init_976 ?_
  refine vv_iconst 977 dX12_init_977 ik_2 ?_
  refine vv_bipush 978 dX12_init_978 bk_114 ?_
  refine vc_cast (μ1 := km_772) 980 dX12_init_980 hl341 (by unfold vp_in; decide) rfl (by decide) rfl ?_
  have el : sh_lay km_772 = sh_lay km_771 := by rw [show km_772 = sh_setI km_771 341 2 114 from rfl]; exact sh_lyI
  have hl291 : (sh_lay km_772)[291]? = some (12, 0) := by rw [el]; exact hl291
  have hl341 : (sh_lay km_772)[341]? = some (15, 5) := by rw [el]; exact hl341
  have hn : (sh_lay km_772).length = 342 := by rw [el]; exact hn
  refine vv_dup_ref 981 dX12_init_981 ?_
  refine vv_iconst 982 dX12_init_982 ik_3 ?_
  refine vv_bipush 983 dX12_init_983 bk_115 ?_
  refine vc_cast (μ1 := km_773) 985 dX12_init_985 hl341 (by unfold vp_in; decide) rfl (by decide) rfl ?_
  have el : sh_lay km_773 = sh_lay km_772 := by rw [show km_773 = sh_setI km_772 341 3 115 from rfl]; exact sh_lyI
  have hl291 : (sh_lay km_773)[291]? = some (12, 0) := by rw [el]; exact hl291
  have hl341 : (sh_lay km_773)[341]? = some (15, 5) := by rw [el]; exact hl341
  have hn : (sh_lay km_773).length = 342 := by rw [el]; exact hn
  refine vv_dup_ref 986 dX12_init_986 ?_
  refine vv_iconst 987 dX12_init_987 ik_4 ?_
  refine vv_bipush 988 dX12_init_988 bk_116 ?_
  refine vc_cast (μ1 := km_774) 990 dX12_init_990 hl341 (by unfold vp_in; decide) rfl (by decide) rfl ?_
  have el : sh_lay km_774 = sh_lay km_773 := by rw [show km_774 = sh_setI km_773 341 4 116 from rfl]; exact sh_lyI
  have hl291 : (sh_lay km_774)[291]? = some (12, 0) := by rw [el]; exact hl291
  have hl341 : (sh_lay km_774)[341]? = some (15, 5) := by rw [el]; exact hl341
  have hn : (sh_lay km_774).length = 342 := by rw [el]; exact hn
  refine vn_putR 991 dX12_init_991 fl_12_167 (Or.inr ⟨rfl, rfl, rfl⟩) rfl hl291 (fun y ey => ?_)
  obtain rfl : y = km_775 := ey
  have el : sh_lay km_775 = sh_lay km_774 := by rw [show km_775 = sh_setR km_774 291 79 (some 341) from rfl]; exact sh_lyR
  have hl291 : (sh_lay km_775)[291]? = some (12, 0) := by rw [el]; exact hl291
  have hn : (sh_lay km_775).length = 342 := by rw [el]; exact hn
  refine vv_aload_n 994 0 dX12_init_994 rfl rfl ?_
  refine vv_iconst 995 dX12_init_995 ik_4 ?_
  refine vk_newa (N := 4) (c1 := 51) (s1 := 21848) 15 .char (Or.inr (Or.inr ⟨rfl, rfl⟩)) 996 dX12_init_996 ac_15 (by decide) (by decide) (Nat.le_of_ble_eq_true rfl) (n := 342) hn (μ1 := km_776) rfl rfl rfl (Nat.le_of_ble_eq_true rfl) (Nat.le_of_ble_eq_true rfl) ?_
  have el : km_776 = sh_add km_775 (15, 4) := rfl
  have hl291 : (sh_lay km_776)[291]? = some (12, 0) := by rw [el]; exact sh_lay_add hl291
  have hl342 : (sh_lay km_776)[342]? = some (15, 4) := by rw [el]; exact sh_lay_new hn
  have hn : (sh_lay km_776).length = 343 := by rw [el]; exact sh_len_add hn
  refine vv_dup_ref 998 dX12_init_998 ?_
  refine vv_iconst 999 dX12_init_999 ik_0 ?_
  refine vv_bipush 1000 dX12_init_1000 bk_108 ?_
  refine vc_cast (μ1 := km_777) 1002 dX12_init_1002 hl342 (by unfold vp_in; decide) rfl (by decide) rfl ?_
  have el : sh_lay km_777 = sh_lay km_776 := by rw [show km_777 = sh_setI km_776 342 0 108 from rfl]; exact sh_lyI
  have hl291 : (sh_lay km_777)[291]? = some (12, 0) := by rw [el]; exact hl291
  have hl342 : (sh_lay km_777)[342]? = some (15, 4) := by rw [el]; exact hl342
  have hn : (sh_lay km_777).length = 343 := by rw [el]; exact hn
  refine vv_dup_ref 1003 dX12_init_1003 ?_
  refine vv_iconst 1004 dX12_init_1004 ik_1 ?_
  refine vv_bipush 1005 dX12_init_1005 bk_97 ?_
  refine vc_cast (μ1 := km_778) 1007 dX12_init_1007 hl342 (by unfold vp_in; decide) rfl (by decide) rfl ?_
  have el : sh_lay km_778 = sh_lay km_777 := by rw [show km_778 = sh_setI km_777 342 1 97 from rfl]; exact sh_lyI
  have hl291 : (sh_lay km_778)[291]? = some (12, 0) := by rw [el]; exact hl291
  have hl342 : (sh_lay km_778)[342]? = some (15, 4) := by rw [el]; exact hl342
  have hn : (sh_lay km_778).length = 343 := by rw [el]; exact hn
  refine vv_dup_ref 1008 dX12_init_1008 ?_
  refine vv_iconst 1009 dX12_init_1009 ik_2 ?_
  refine vv_bipush 1010 dX12_init_1010 bk_115 ?_
  refine vc_cast (μ1 := km_779) 1012 dX12_init_1012 hl342 (by unfold vp_in; decide) rfl (by decide) rfl ?_
  have el : sh_lay km_779 = sh_lay km_778 := by rw [show km_779 = sh_setI km_778 342 2 115 from rfl]; exact sh_lyI
  have hl291 : (sh_lay km_779)[291]? = some (12, 0) := by rw [el]; exact hl291
  have hl342 : (sh_lay km_779)[342]? = some (15, 4) := by rw [el]; exact hl342
  have hn : (sh_lay km_779).length = 343 := by rw [el]; exact hn
  refine vv_dup_ref 1013 dX12_init_1013 ?_
  refine vv_iconst 1014 dX12_init_1014 ik_3 ?_
  refine vv_bipush 1015 dX12_init_1015 bk_116 ?_
  refine vc_cast (μ1 := km_780) 1017 dX12_init_1017 hl342 (by unfold vp_in; decide) rfl (by decide) rfl ?_
  have el : sh_lay km_780 = sh_lay km_779 := by rw [show km_780 = sh_setI km_779 342 3 116 from rfl]; exact sh_lyI
  have hl291 : (sh_lay km_780)[291]? = some (12, 0) := by rw [el]; exact hl291
  have hl342 : (sh_lay km_780)[342]? = some (15, 4) := by rw [el]; exact hl342
  have hn : (sh_lay km_780).length = 343 := by rw [el]; exact hn
  refine vn_putR 1018 dX12_init_1018 fl_12_170 (Or.inr ⟨rfl, rfl, rfl⟩) rfl hl291 (fun y ey => ?_)
  obtain rfl : y = km_781 := ey
  have el : sh_lay km_781 = sh_lay km_780 := by rw [show km_781 = sh_setR km_780 291 80 (some 342) from rfl]; exact sh_lyR
  have hl291 : (sh_lay km_781)[291]? = some (12, 0) := by rw [el]; exact hl291
  have hn : (sh_lay km_781).length = 343 := by rw [el]; exact hn
  refine vv_aload_n 1021 0 dX12_init_1021 rfl rfl ?_
  refine vv_iconst 1022 dX12_init_1022 ik_5 ?_
  refine vk_newa (N := 5) (c1 := 52) (s1 := 21853) 15 .char (Or.inr (Or.inr ⟨rfl, rfl⟩)) 1023 dX12_init_1023 ac_15 (by decide) (by decide) (Nat.le_of_ble_eq_true rfl) (n := 343) hn (μ1 := km_782) rfl rfl rfl (Nat.le_of_ble_eq_true rfl) (Nat.le_of_ble_eq_true rfl) ?_
  have el : km_782 = sh_add km_781 (15, 5) := rfl
  have hl291 : (sh_lay km_782)[291]? = some (12, 0) := by rw [el]; exact sh_lay_add hl291
  have hl343 : (sh_lay km_782)[343]? = some (15, 5) := by rw [el]; exact sh_lay_new hn
  have hn : (sh_lay km_782).length = 344 := by rw [el]; exact sh_len_add hn
  refine vv_dup_ref 1025 dX12_init_1025 ?_
  refine vv_iconst 1026 dX12_init_1026 ik_0 ?_
  refine vv_bipush 1027 dX12_init_1027 bk_111 ?_
  refine vc_cast (μ1 := km_783) 1029 dX12_init_1029 hl343 (by unfold vp_in; decide) rfl (by decide) rfl ?_
  have el : sh_lay km_783 = sh_lay km_782 := by rw [show km_783 = sh_setI km_782 343 0 111 from rfl]; exact sh_lyI
  have hl291 : (sh_lay km_783)[291]? = some (12, 0) := by rw [el]; exact hl291
  have hl343 : (sh_lay km_783)[343]? = some (15, 5) := by rw [el]; exact hl343
  have hn : (sh_lay km_783).length = 344 := by rw [el]; exact hn
  refine vv_dup_ref 1030 dX12_init_1030 ?_
  refine vv_iconst 1031 dX12_init_1031 ik_1 ?_
  refine vv_bipush 1032 dX12_init_1032 bk_102 ?_
  refine vc_cast (μ1 := km_784) 1034 dX12_init_1034 hl343 (by unfold vp_in; decide) rfl (by decide) rfl ?_
  have el : sh_lay km_784 = sh_lay km_783 := by rw [show km_784 = sh_setI km_783 343 1 102 from rfl]; exact sh_lyI
  have hl291 : (sh_lay km_784)[291]? = some (12, 0) := by rw [el]; exact hl291
  have hl343 : (sh_lay km_784)[343]? = some (15, 5) := by rw [el]; exact hl343
  have hn : (sh_lay km_784).length = 344 := by rw [el]; exact hn
  refine vv_dup_ref 1035 dX12_init_1035 ?_
  refine vv_iconst 1036 dX12_init_1036 ik_2 ?_
  refine vv_bipush 1037 dX12_init_1037 bk_116 ?_
  refine vc_cast (μ1 := km_785) 1039 dX12_init_1039 hl343 (by unfold vp_in; decide) rfl (by decide) rfl ?_
  have el : sh_lay km_785 = sh_lay km_784 := by rw [show km_785 = sh_setI km_784 343 2 116 from rfl]; exact sh_lyI
  have hl291 : (sh_lay km_785)[291]? = some (12, 0) := by rw [el]; exact hl291
  have hl343 : (sh_lay km_785)[343]? = some (15, 5) := by rw [el]; exact hl343
  have hn : (sh_lay km_785).length = 344 := by rw [el]; exact hn
  refine vv_dup_ref 1040 dX12_init_1040 ?_
  refine vv_iconst 1041 dX12_init_1041 ik_3 ?_
  refine vv_bipush 1042 dX12_init_1042 bk_101 ?_
  refine vc_cast (μ1 := km_786) 1044 dX12_init_1044 hl343 (by unfold vp_in; decide) rfl (by decide) rfl ?_
  have el : sh_lay km_786 = sh_lay km_785 := by rw [show km_786 = sh_setI km_785 343 3 101 from rfl]; exact sh_lyI
  have hl291 : (sh_lay km_786)[291]? = some (12, 0) := by rw [el]; exact hl291
  have hl343 : (sh_lay km_786)[343]? = some (15, 5) := by rw [el]; exact hl343
  have hn : (sh_lay km_786).length = 344 := by rw [el]; exact hn
  refine vv_dup_ref 1045 dX12_init_1045 ?_
  refine vv_iconst 1046 dX12_init_1046 ik_4 ?_
  refine vv_bipush 1047 dX12_init_1047 bk_110 ?_
  refine vc_cast (μ1 := km_787) 1049 dX12_init_1049 hl343 (by unfold vp_in; decide) rfl (by decide) rfl ?_
  have el : sh_lay km_787 = sh_lay km_786 := by rw [show km_787 = sh_setI km_786 343 4 110 from rfl]; exact sh_lyI
  have hl291 : (sh_lay km_787)[291]? = some (12, 0) := by rw [el]; exact hl291
  have hl343 : (sh_lay km_787)[343]? = some (15, 5) := by rw [el]; exact hl343
  have hn : (sh_lay km_787).length = 344 := by rw [el]; exact hn
  refine vn_putR 1050 dX12_init_1050 fl_12_173 (Or.inr ⟨rfl, rfl, rfl⟩) rfl hl291 (fun y ey => ?_)
  obtain rfl : y = km_788 := ey
  have el : sh_lay km_788 = sh_lay km_787 := by rw [show km_788 = sh_setR km_787 291 81 (some 343) from rfl]; exact sh_lyR
  have hl291 : (sh_lay km_788)[291]? = some (12, 0) := by rw [el]; exact hl291
  have hn : (sh_lay km_788).length = 344 := by rw [el]; exact hn
  refine vv_aload_n 1053 0 dX12_init_1053 rfl rfl ?_
  refine vv_iconst 1054 dX12_init_1054 ik_5 ?_
  refine vk_newa (N := 5) (c1 := 53) (s1 := 21858) 15 .char (Or.inr (Or.inr ⟨rfl, rfl⟩)) 1055 dX12_init_1055 ac_15 (by decide) (by decide) (Nat.le_of_ble_eq_true rfl) (n := 344) hn (μ1 := km_789) rfl rfl rfl (Nat.le_of_ble_eq_true rfl) (Nat.le_of_ble_eq_true rfl) ?_
  have el : km_789 = sh_add km_788 (15, 5) := rfl
  have hl291 : (sh_lay km_789)[291]? = some (12, 0) := by rw [el]; exact sh_lay_add hl291
  have hl344 : (sh_lay km_789)[344]? = some (15, 5) := by rw [el]; exact sh_lay_new hn
  have hn : (sh_lay km_789).length = 345 := by rw [el]; exact sh_len_add hn
  refine vv_dup_ref 1057 dX12_init_1057 ?_
  refine vv_iconst 1058 dX12_init_1058 ik_0 ?_
  refine vv_bipush 1059 dX12_init_1059 bk_116 ?_
  refine vc_cast (μ1 := km_790) 1061 dX12_init_1061 hl344 (by unfold vp_in; decide) rfl (by decide) rfl ?_
  have el : sh_lay km_790 = sh_lay km_789 := by rw [show km_790 = sh_setI km_789 344 0 116 from rfl]; exact sh_lyI
  have hl291 : (sh_lay km_790)[291]? = some (12, 0) := by rw [el]; exact hl291
  have hl344 : (sh_lay km_790)[344]? = some (15, 5) := by rw [el]; exact hl344
  have hn : (sh_lay km_790).length = 345 := by rw [el]; exact hn
  refine vv_dup_ref 1062 dX12_init_1062 ?_
  refine vv_iconst 1063 dX12_init_1063 ik_1 ?_
  refine vv_bipush 1064 dX12_init_1064 bk_111 ?_
  refine vc_cast (μ1 := km_791) 1066 dX12_init_1066 hl344 (by unfold vp_in; decide) rfl (by decide) rfl ?_
  have el : sh_lay km_791 = sh_lay km_790 := by rw [show km_791 = sh_setI km_790 344 1 111 from rfl]; exact sh_lyI
  have hl291 : (sh_lay km_791)[291]? = some (12, 0) := by rw [el]; exact hl291
  have hl344 : (sh_lay km_791)[344]? = some (15, 5) := by rw [el]; exact hl344
  have hn : (sh_lay km_791).length = 345 := by rw [el]; exact hn
  refine vv_dup_ref 1067 dX12_init_1067 ?_
  refine vv_iconst 1068 dX12_init_1068 ik_2 ?_
  refine vv_bipush 1069 dX12_init_1069 bk_116 ?_
  refine vc_cast (μ1 := km_792) 1071 dX12_init_1071 hl344 (by unfold vp_in; decide) rfl (by decide) rfl ?_
  have el : sh_lay km_792 = sh_lay km_791 := by rw [show km_792 = sh_setI km_791 344 2 116 from rfl]; exact sh_lyI
  have hl291 : (sh_lay km_792)[291]? = some (12, 0) := by rw [el]; exact hl291
  have hl344 : (sh_lay km_792)[344]? = some (15, 5) := by rw [el]; exact hl344
  have hn : (sh_lay km_792).length = 345 := by rw [el]; exact hn
  refine vv_dup_ref 1072 dX12_init_1072 ?_
  refine vv_iconst 1073 dX12_init_1073 ik_3 ?_
  refine vv_bipush 1074 dX12_init_1074 bk_97 ?_
  refine vc_cast (μ1 := km_793) 1076 dX12_init_1076 hl344 (by unfold vp_in; decide) rfl (by decide) rfl ?_
  have el : sh_lay km_793 = sh_lay km_792 := by rw [show km_793 = sh_setI km_792 344 3 97 from rfl]; exact sh_lyI
  have hl291 : (sh_lay km_793)[291]? = some (12, 0) := by rw [el]; exact hl291
  have hl344 : (sh_lay km_793)[344]? = some (15, 5) := by rw [el]; exact hl344
  have hn : (sh_lay km_793).length = 345 := by rw [el]; exact hn
  refine vv_dup_ref 1077 dX12_init_1077 ?_
  refine vv_iconst 1078 dX12_init_1078 ik_4 ?_
  refine vv_bipush 1079 dX12_init_1079 bk_108 ?_
  refine vc_cast (μ1 := km_794) 1081 dX12_init_1081 hl344 (by unfold vp_in; decide) rfl (by decide) rfl ?_
  have el : sh_lay km_794 = sh_lay km_793 := by rw [show km_794 = sh_setI km_793 344 4 108 from rfl]; exact sh_lyI
  have hl291 : (sh_lay km_794)[291]? = some (12, 0) := by rw [el]; exact hl291
  have hl344 : (sh_lay km_794)[344]? = some (15, 5) := by rw [el]; exact hl344
  have hn : (sh_lay km_794).length = 345 := by rw [el]; exact hn
  refine vn_putR 1082 dX12_init_1082 fl_12_176 (Or.inr ⟨rfl, rfl, rfl⟩) rfl hl291 (fun y ey => ?_)
  obtain rfl : y = km_795 := ey
  have el : sh_lay km_795 = sh_lay km_794 := by rw [show km_795 = sh_setR km_794 291 82 (some 344) from rfl]; exact sh_lyR
  have hl291 : (sh_lay km_795)[291]? = some (12, 0) := by rw [el]; exact hl291
  have hn : (sh_lay km_795).length = 345 := by rw [el]; exact hn
  refine vv_aload_n 1085 0 dX12_init_1085 rfl rfl ?_
  refine vv_iconst 1086 dX12_init_1086 ik_4 ?_
  refine vk_newa (N := 4) (c1 := 54) (s1 := 21862) 15 .char (Or.inr (Or.inr ⟨rfl, rfl⟩)) 1087 dX12_init_1087 ac_15 (by decide) (by decide) (Nat.le_of_ble_eq_true rfl) (n := 345) hn (μ1 := km_796) rfl rfl rfl (Nat.le_of_ble_eq_true rfl) (Nat.le_of_ble_eq_true rfl) ?_
  have el : km_796 = sh_add km_795 (15, 4) := rfl
  have hl291 : (sh_lay km_796)[291]? = some (12, 0) := by rw [el]; exact sh_lay_add hl291
  have hl345 : (sh_lay km_796)[345]? = some (15, 4) := by rw [el]; exact sh_lay_new hn
  have hn : (sh_lay km_796).length = 346 := by rw [el]; exact sh_len_add hn
  refine vv_dup_ref 1089 dX12_init_1089 ?_
  refine vv_iconst 1090 dX12_init_1090 ik_0 ?_
  refine vv_bipush 1091 dX12_init_1091 bk_109 ?_
  refine vc_cast (μ1 := km_797) 1093 dX12_init_1093 hl345 (by unfold vp_in; decide) rfl (by decide) rfl ?_
  have el : sh_lay km_797 = sh_lay km_796 := by rw [show km_797 = sh_setI km_796 345 0 109 from rfl]; exact sh_lyI
  have hl291 : (sh_lay km_797)[291]? = some (12, 0) := by rw [el]; exact hl291
  have hl345 : (sh_lay km_797)[345]? = some (15, 4) := by rw [el]; exact hl345
  have hn : (sh_lay km_797).length = 346 := by rw [el]; exact hn
  refine vv_dup_ref 1094 dX12_init_1094 ?_
  refine vv_iconst 1095 dX12_init_1095 ik_1 ?_
  refine vv_bipush 1096 dX12_init_1096 bk_111 ?_
  refine vc_cast (μ1 := km_798) 1098 dX12_init_1098 hl345 (by unfold vp_in; decide) rfl (by decide) rfl ?_
  have el : sh_lay km_798 = sh_lay km_797 := by rw [show km_798 = sh_setI km_797 345 1 111 from rfl]; exact sh_lyI
  have hl291 : (sh_lay km_798)[291]? = some (12, 0) := by rw [el]; exact hl291
  have hl345 : (sh_lay km_798)[345]? = some (15, 4) := by rw [el]; exact hl345
  have hn : (sh_lay km_798).length = 346 := by rw [el]; exact hn
  refine vv_dup_ref 1099 dX12_init_1099 ?_
  refine vv_iconst 1100 dX12_init_1100 ik_2 ?_
  refine vv_bipush 1101 dX12_init_1101 bk_115 ?_
  refine vc_cast (μ1 := km_799) 1103 dX12_init_1103 hl345 (by unfold vp_in; decide) rfl (by decide) rfl ?_
  have el : sh_lay km_799 = sh_lay km_798 := by rw [show km_799 = sh_setI km_798 345 2 115 from rfl]; exact sh_lyI
  have hl291 : (sh_lay km_799)[291]? = some (12, 0) := by rw [el]; exact hl291
  have hl345 : (sh_lay km_799)[345]? = some (15, 4) := by rw [el]; exact hl345
  have hn : (sh_lay km_799).length = 346 := by rw [el]; exact hn
  refine vv_dup_ref 1104 dX12_init_1104 ?_
  refine vv_iconst 1105 dX12_init_1105 ik_3 ?_
  refine vv_bipush 1106 dX12_init_1106 bk_116 ?_
  refine vc_cast (μ1 := km_800) 1108 dX12_init_1108 hl345 (by unfold vp_in; decide) rfl (by decide) rfl ?_
  have el : sh_lay km_800 = sh_lay km_799 := by rw [show km_800 = sh_setI km_799 345 3 116 from rfl]; exact sh_lyI
  have hl291 : (sh_lay km_800)[291]? = some (12, 0) := by rw [el]; exact hl291
  have hl345 : (sh_lay km_800)[345]? = some (15, 4) := by rw [el]; exact hl345
  have hn : (sh_lay km_800).length = 346 := by rw [el]; exact hn
  refine vn_putR 1109 dX12_init_1109 fl_12_179 (Or.inr ⟨rfl, rfl, rfl⟩) rfl hl291 (fun y ey => ?_)
  obtain rfl : y = km_801 := ey
  have el : sh_lay km_801 = sh_lay km_800 := by rw [show km_801 = sh_setR km_800 291 83 (some 345) from rfl]; exact sh_lyR
  have hl291 : (sh_lay km_801)[291]? = some (12, 0) := by rw [el]; exact hl291
  have hn : (sh_lay km_801).length = 346 := by rw [el]; exact hn
  refine vv_aload_n 1112 0 dX12_init_1112 rfl rfl ?_
  refine vv_iconst 1113 dX12_init_1113 ik_5 ?_
  refine vk_newa (N := 5) (c1 := 55) (s1 := 21867) 15 .char (Or.inr (Or.inr ⟨rfl, rfl⟩)) 1114 dX12_init_1114 ac_15 (by decide) (by decide) (Nat.le_of_ble_eq_true rfl) (n := 346) hn (μ1 := km_802) rfl rfl rfl (Nat.le_of_ble_eq_true rfl) (Nat.le_of_ble_eq_true rfl) ?_
  have el : km_802 = sh_add km_801 (15, 5) := rfl
  have hl291 : (sh_lay km_802)[291]? = some (12, 0) := by rw [el]; exact sh_lay_add hl291
  have hl346 : (sh_lay km_802)[346]? = some (15, 5) := by rw [el]; exact sh_lay_new hn
  have hn : (sh_lay km_802).length = 347 := by rw [el]; exact sh_len_add hn
  refine vv_dup_ref 1116 dX12_init_1116 ?_
  refine vv_iconst 1117 dX12_init_1117 ik_0 ?_
  refine vv_bipush 1118 dX12_init_1118 bk_108 ?_
  refine vc_cast (μ1 := km_803) 1120 dX12_init_1120 hl346 (by unfold vp_in; decide) rfl (by decide) rfl ?_
  have el : sh_lay km_803 = sh_lay km_802 := by rw [show km_803 = sh_setI km_802 346 0 108 from rfl]; exact sh_lyI
  have hl291 : (sh_lay km_803)[291]? = some (12, 0) := by rw [el]; exact hl291
  have hl346 : (sh_lay km_803)[346]? = some (15, 5) := by rw [el]; exact hl346
  have hn : (sh_lay km_803).length = 347 := by rw [el]; exact hn
  refine vv_dup_ref 1121 dX12_init_1121 ?_
  refine vv_iconst 1122 dX12_init_1122 ik_1 ?_
  refine vv_bipush 1123 dX12_init_1123 bk_101 ?_
  refine vc_cast (μ1 := km_804) 1125 dX12_init_1125 hl346 (by unfold vp_in; decide) rfl (by decide) rfl ?_
  have el : sh_lay km_804 = sh_lay km_803 := by rw [show km_804 = sh_setI km_803 346 1 101 from rfl]; exact sh_lyI
  have hl291 : (sh_lay km_804)[291]? = some (12, 0) := by rw [el]; exact hl291
  have hl346 : (sh_lay km_804)[346]? = some (15, 5) := by rw [el]; exact hl346
  have hn : (sh_lay km_804).length = 347 := by rw [el]; exact hn
  refine vv_dup_ref 1126 dX12_init_1126 ?_
  refine vv_iconst 1127 dX12_init_1127 ik_2 ?_
  refine vv_bipush 1128 dX12_init_1128 bk_97 ?_
  refine vc_cast (μ1 := km_805) 1130 dX12_init_1130 hl346 (by unfold vp_in; decide) rfl (by decide) rfl ?_
  have el : sh_lay km_805 = sh_lay km_804 := by rw [show km_805 = sh_setI km_804 346 2 97 from rfl]; exact sh_lyI
  have hl291 : (sh_lay km_805)[291]? = some (12, 0) := by rw [el]; exact hl291
  have hl346 : (sh_lay km_805)[346]? = some (15, 5) := by rw [el]; exact hl346
  have hn : (sh_lay km_805).length = 347 := by rw [el]; exact hn
  refine vv_dup_ref 1131 dX12_init_1131 ?_
  refine vv_iconst 1132 dX12_init_1132 ik_3 ?_
  refine vv_bipush 1133 dX12_init_1133 bk_115 ?_
  refine vc_cast (μ1 := km_806) 1135 dX12_init_1135 hl346 (by unfold vp_in; decide) rfl (by decide) rfl ?_
  have el : sh_lay km_806 = sh_lay km_805 := by rw [show km_806 = sh_setI km_805 346 3 115 from rfl]; exact sh_lyI
  have hl291 : (sh_lay km_806)[291]? = some (12, 0) := by rw [el]; exact hl291
  have hl346 : (sh_lay km_806)[346]? = some (15, 5) := by rw [el]; exact hl346
  have hn : (sh_lay km_806).length = 347 := by rw [el]; exact hn
  refine vv_dup_ref 1136 dX12_init_1136 ?_
  refine vv_iconst 1137 dX12_init_1137 ik_4 ?_
  refine vv_bipush 1138 dX12_init_1138 bk_116 ?_
  refine vc_cast (μ1 := km_807) 1140 dX12_init_1140 hl346 (by unfold vp_in; decide) rfl (by decide) rfl ?_
  have el : sh_lay km_807 = sh_lay km_806 := by rw [show km_807 = sh_setI km_806 346 4 116 from rfl]; exact sh_lyI
  have hl291 : (sh_lay km_807)[291]? = some (12, 0) := by rw [el]; exact hl291
  have hl346 : (sh_lay km_807)[346]? = some (15, 5) := by rw [el]; exact hl346
  have hn : (sh_lay km_807).length = 347 := by rw [el]; exact hn
  refine vn_putR 1141 dX12_init_1141 fl_12_182 (Or.inr ⟨rfl, rfl, rfl⟩) rfl hl291 (fun y ey => ?_)
  obtain rfl : y = km_808 := ey
  have el : sh_lay km_808 = sh_lay km_807 := by rw [show km_808 = sh_setR km_807 291 84 (some 346) from rfl]; exact sh_lyR
  have hl291 : (sh_lay km_808)[291]? = some (12, 0) := by rw [el]; exact hl291
  have hn : (sh_lay km_808).length = 347 := by rw [el]; exact hn
  refine vv_aload_n 1144 0 dX12_init_1144 rfl rfl ?_
  refine vv_iconst 1145 dX12_init_1145 ik_3 ?_
  refine vk_newa (N := 3) (c1 := 56) (s1 := 21870) 15 .char (Or.inr (Or.inr ⟨rfl, rfl⟩)) 1146 dX12_init_1146 ac_15 (by decide) (by decide) (Nat.le_of_ble_eq_true rfl) (n := 347) hn (μ1 := km_809) rfl rfl rfl (Nat.le_of_ble_eq_true rfl) (Nat.le_of_ble_eq_true rfl) ?_
  have el : km_809 = sh_add km_808 (15, 3) := rfl
  have hl291 : (sh_lay km_809)[291]? = some (12, 0) := by rw [el]; exact sh_lay_add hl291
  have hl347 : (sh_lay km_809)[347]? = some (15, 3) := by rw [el]; exact sh_lay_new hn
  have hn : (sh_lay km_809).length = 348 := by rw [el]; exact sh_len_add hn
  refine vv_dup_ref 1148 dX12_init_1148 ?_
  refine vv_iconst 1149 dX12_init_1149 ik_0 ?_
  refine vv_bipush 1150 dX12_init_1150 bk_110 ?_
  refine vc_cast (μ1 := km_810) 1152 dX12_init_1152 hl347 (by unfold vp_in; decide) rfl (by decide) rfl ?_
  have el : sh_lay km_810 = sh_lay km_809 := by rw [show km_810 = sh_setI km_809 347 0 110 from rfl]; exact sh_lyI
  have hl291 : (sh_lay km_810)[291]? = some (12, 0) := by rw [el]; exact hl291
  have hl347 : (sh_lay km_810)[347]? = some (15, 3) := by rw [el]; exact hl347
  have hn : (sh_lay km_810).length = 348 := by rw [el]; exact hn
  refine vv_dup_ref 1153 dX12_init_1153 ?_
  refine vv_iconst 1154 dX12_init_1154 ik_1 ?_
  refine vv_bipush 1155 dX12_init_1155 bk_111 ?_
  refine vc_cast (μ1 := km_811) 1157 dX12_init_1157 hl347 (by unfold vp_in; decide) rfl (by decide) rfl ?_
  have el : sh_lay km_811 = sh_lay km_810 := by rw [show km_811 = sh_setI km_810 347 1 111 from rfl]; exact sh_lyI
  have hl291 : (sh_lay km_811)[291]? = some (12, 0) := by rw [el]; exact hl291
  have hl347 : (sh_lay km_811)[347]? = some (15, 3) := by rw [el]; exact hl347
  have hn : (sh_lay km_811).length = 348 := by rw [el]; exact hn
  refine vv_dup_ref 1158 dX12_init_1158 ?_
  refine vv_iconst 1159 dX12_init_1159 ik_2 ?_
  refine vv_bipush 1160 dX12_init_1160 bk_116 ?_
  refine vc_cast (μ1 := km_812) 1162 dX12_init_1162 hl347 (by unfold vp_in; decide) rfl (by decide) rfl ?_
  have el : sh_lay km_812 = sh_lay km_811 := by rw [show km_812 = sh_setI km_811 347 2 116 from rfl]; exact sh_lyI
  have hl291 : (sh_lay km_812)[291]? = some (12, 0) := by rw [el]; exact hl291
  have hl347 : (sh_lay km_812)[347]? = some (15, 3) := by rw [el]; exact hl347
  have hn : (sh_lay km_812).length = 348 := by rw [el]; exact hn
  refine vn_putR 1163 dX12_init_1163 fl_12_185 (Or.inr ⟨rfl, rfl, rfl⟩) rfl hl291 (fun y ey => ?_)
  obtain rfl : y = km_813 := ey
  have el : sh_lay km_813 = sh_lay km_812 := by rw [show km_813 = sh_setR km_812 291 85 (some 347) from rfl]; exact sh_lyR
  have hl291 : (sh_lay km_813)[291]? = some (12, 0) := by rw [el]; exact hl291
  have hn : (sh_lay km_813).length = 348 := by rw [el]; exact hn
  refine vv_aload_n 1166 0 dX12_init_1166 rfl rfl ?_
  refine vv_iconst 1167 dX12_init_1167 ik_3 ?_
  refine vk_newa (N := 3) (c1 := 57) (s1 := 21873) 15 .char (Or.inr (Or.inr ⟨rfl, rfl⟩)) 1168 dX12_init_1168 ac_15 (by decide) (by decide) (Nat.le_of_ble_eq_true rfl) (n := 348) hn (μ1 := km_814) rfl rfl rfl (Nat.le_of_ble_eq_true rfl) (Nat.le_of_ble_eq_true rfl) ?_
  have el : km_814 = sh_add km_813 (15, 3) := rfl
  have hl291 : (sh_lay km_814)[291]? = some (12, 0) := by rw [el]; exact sh_lay_add hl291
  have hl348 : (sh_lay km_814)[348]? = some (15, 3) := by rw [el]; exact sh_lay_new hn
  have hn : (sh_lay km_814).length = 349 := by rw [el]; exact sh_len_add hn
  refine vv_dup_ref 1170 dX12_init_1170 ?_
  refine vv_iconst 1171 dX12_init_1171 ik_0 ?_
  refine vv_bipush 1172 dX12_init_1172 bk_97 ?_
  refine vc_cast (μ1 := km_815) 1174 dX12_init_1174 hl348 (by unfold vp_in; decide) rfl (by decide) rfl ?_
  have el : sh_lay km_815 = sh_lay km_814 := by rw [show km_815 = sh_setI km_814 348 0 97 from rfl]; exact sh_lyI
  have hl291 : (sh_lay km_815)[291]? = some (12, 0) := by rw [el]; exact hl291
  have hl348 : (sh_lay km_815)[348]? = some (15, 3) := by rw [el]; exact hl348
  have hn : (sh_lay km_815).length = 349 := by rw [el]; exact hn
  refine vv_dup_ref 1175 dX12_init_1175 ?_
  refine vv_iconst 1176 dX12_init_1176 ik_1 ?_
  refine vv_bipush 1177 dX12_init_1177 bk_110 ?_
  refine vc_cast (μ1 := km_816) 1179 dX12_init_1179 hl348 (by unfold vp_in; decide) rfl (by decide) rfl ?_
  have el : sh_lay km_816 = sh_lay km_815 := by rw [show km_816 = sh_setI km_815 348 1 110 from rfl]; exact sh_lyI
  have hl291 : (sh_lay km_816)[291]? = some (12, 0) := by rw [el]; exact hl291
  have hl348 : (sh_lay km_816)[348]? = some (15, 3) := by rw [el]; exact hl348
  have hn : (sh_lay km_816).length = 349 := by rw [el]; exact hn
  refine vv_dup_ref 1180 dX12_init_1180 ?_
  refine vv_iconst 1181 dX12_init_1181 ik_2 ?_
  refine vv_bipush 1182 dX12_init_1182 bk_100 ?_
  refine vc_cast (μ1 := km_817) 1184 dX12_init_1184 hl348 (by unfold vp_in; decide) rfl (by decide) rfl ?_
  have el : sh_lay km_817 = sh_lay km_816 := by rw [show km_817 = sh_setI km_816 348 2 100 from rfl]; exact sh_lyI
  have hl291 : (sh_lay km_817)[291]? = some (12, 0) := by rw [el]; exact hl291
  have hl348 : (sh_lay km_817)[348]? = some (15, 3) := by rw [el]; exact hl348
  have hn : (sh_lay km_817).length = 349 := by rw [el]; exact hn
  refine vn_putR 1185 dX12_init_1185 fl_12_188 (Or.inr ⟨rfl, rfl, rfl⟩) rfl hl291 (fun y ey => ?_)
  obtain rfl : y = km_818 := ey
  have el : sh_lay km_818 = sh_lay km_817 := by rw [show km_818 = sh_setR km_817 291 86 (some 348) from rfl]; exact sh_lyR
  have hl291 : (sh_lay km_818)[291]? = some (12, 0) := by rw [el]; exact hl291
  have hn : (sh_lay km_818).length = 349 := by rw [el]; exact hn
  refine vv_aload_n 1188 0 dX12_init_1188 rfl rfl ?_
  refine vv_iconst 1189 dX12_init_1189 ik_2 ?_
  refine vk_newa (N := 2) (c1 := 58) (s1 := 21875) 15 .char (Or.inr (Or.inr ⟨rfl, rfl⟩)) 1190 dX12_init_1190 ac_15 (by decide) (by decide) (Nat.le_of_ble_eq_true rfl) (n := 349) hn (μ1 := km_819) rfl rfl rfl (Nat.le_of_ble_eq_true rfl) (Nat.le_of_ble_eq_true rfl) ?_
  have el : km_819 = sh_add km_818 (15, 2) := rfl
  have hl291 : (sh_lay km_819)[291]? = some (12, 0) := by rw [el]; exact sh_lay_add hl291
  have hl349 : (sh_lay km_819)[349]? = some (15, 2) := by rw [el]; exact sh_lay_new hn
  have hn : (sh_lay km_819).length = 350 := by rw [el]; exact sh_len_add hn
  refine vv_dup_ref 1192 dX12_init_1192 ?_
  refine vv_iconst 1193 dX12_init_1193 ik_0 ?_
  refine vv_bipush 1194 dX12_init_1194 bk_111 ?_
  refine vc_cast (μ1 := km_820) 1196 dX12_init_1196 hl349 (by unfold vp_in; decide) rfl (by decide) rfl ?_
  have el : sh_lay km_820 = sh_lay km_819 := by rw [show km_820 = sh_setI km_819 349 0 111 from rfl]; exact sh_lyI
  have hl291 : (sh_lay km_820)[291]? = some (12, 0) := by rw [el]; exact hl291
  have hl349 : (sh_lay km_820)[349]? = some (15, 2) := by rw [el]; exact hl349
  have hn : (sh_lay km_820).length = 350 := by rw [el]; exact hn
  refine vv_dup_ref 1197 dX12_init_1197 ?_
  refine vv_iconst 1198 dX12_init_1198 ik_1 ?_
  refine vv_bipush 1199 dX12_init_1199 bk_114 ?_
  refine vc_cast (μ1 := km_821) 1201 dX12_init_1201 hl349 (by unfold vp_in; decide) rfl (by decide) rfl ?_
  have el : sh_lay km_821 = sh_lay km_820 := by rw [show km_821 = sh_setI km_820 349 1 114 from rfl]; exact sh_lyI
  have hl291 : (sh_lay km_821)[291]? = some (12, 0) := by rw [el]; exact hl291
  have hl349 : (sh_lay km_821)[349]? = some (15, 2) := by rw [el]; exact hl349
  have hn : (sh_lay km_821).length = 350 := by rw [el]; exact hn
  refine vn_putR 1202 dX12_init_1202 fl_12_191 (Or.inr ⟨rfl, rfl, rfl⟩) rfl hl291 (fun y ey => ?_)
  obtain rfl : y = km_822 := ey
  have el : sh_lay km_822 = sh_lay km_821 := by rw [show km_822 = sh_setR km_821 291 87 (some 349) from rfl]; exact sh_lyR
  have hl291 : (sh_lay km_822)[291]? = some (12, 0) := by rw [el]; exact hl291
  have hn : (sh_lay km_822).length = 350 := by rw [el]; exact hn
  refine vv_aload_n 1205 0 dX12_init_1205 rfl rfl ?_
  refine vv_iconst 1206 dX12_init_1206 ik_3 ?_
  refine vk_newa (N := 3) (c1 := 59) (s1 := 21878) 15 .char (Or.inr (Or.inr ⟨rfl, rfl⟩)) 1207 dX12_init_1207 ac_15 (by decide) (by decide) (Nat.le_of_ble_eq_true rfl) (n := 350) hn (μ1 := km_823) rfl rfl rfl (Nat.le_of_ble_eq_true rfl) (Nat.le_of_ble_eq_true rfl) ?_
  have el : km_823 = sh_add km_822 (15, 3) := rfl
  have hl291 : (sh_lay km_823)[291]? = some (12, 0) := by rw [el]; exact sh_lay_add hl291
  have hl350 : (sh_lay km_823)[350]? = some (15, 3) := by rw [el]; exact sh_lay_new hn
  have hn : (sh_lay km_823).length = 351 := by rw [el]; exact sh_len_add hn
  refine vv_dup_ref 1209 dX12_init_1209 ?_
  refine vv_iconst 1210 dX12_init_1210 ik_0 ?_
  refine vv_bipush 1211 dX12_init_1211 bk_97 ?_
  refine vc_cast (μ1 := km_824) 1213 dX12_init_1213 hl350 (by unfold vp_in; decide) rfl (by decide) rfl ?_
  have el : sh_lay km_824 = sh_lay km_823 := by rw [show km_824 = sh_setI km_823 350 0 97 from rfl]; exact sh_lyI
  have hl291 : (sh_lay km_824)[291]? = some (12, 0) := by rw [el]; exact hl291
  have hl350 : (sh_lay km_824)[350]? = some (15, 3) := by rw [el]; exact hl350
  have hn : (sh_lay km_824).length = 351 := by rw [el]; exact hn
  refine vv_dup_ref 1214 dX12_init_1214 ?_
  refine vv_iconst 1215 dX12_init_1215 ik_1 ?_
  refine vv_bipush 1216 dX12_init_1216 bk_108 ?_
  refine vc_cast (μ1 := km_825) 1218 dX12_init_1218 hl350 (by unfold vp_in; decide) rfl (by decide) rfl ?_
  have el : sh_lay km_825 = sh_lay km_824 := by rw [show km_825 = sh_setI km_824 350 1 108 from rfl]; exact sh_lyI
  have hl291 : (sh_lay km_825)[291]? = some (12, 0) := by rw [el]; exact hl291
  have hl350 : (sh_lay km_825)[350]? = some (15, 3) := by rw [el]; exact hl350
  have hn : (sh_lay km_825).length = 351 := by rw [el]; exact hn
  refine vv_dup_ref 1219 dX12_init_1219 ?_
  refine vv_iconst 1220 dX12_init_1220 ik_2 ?_
  refine vv_bipush 1221 dX12_init_1221 bk_108 ?_
  refine vc_cast (μ1 := km_826) 1223 dX12_init_1223 hl350 (by unfold vp_in; decide) rfl (by decide) rfl ?_
  have el : sh_lay km_826 = sh_lay km_825 := by rw [show km_826 = sh_setI km_825 350 2 108 from rfl]; exact sh_lyI
  have hl291 : (sh_lay km_826)[291]? = some (12, 0) := by rw [el]; exact hl291
  have hl350 : (sh_lay km_826)[350]? = some (15, 3) := by rw [el]; exact hl350
  have hn : (sh_lay km_826).length = 351 := by rw [el]; exact hn
  refine vn_putR 1224 dX12_init_1224 fl_12_194 (Or.inr ⟨rfl, rfl, rfl⟩) rfl hl291 (fun y ey => ?_)
  obtain rfl : y = km_827 := ey
  have el : sh_lay km_827 = sh_lay km_826 := by rw [show km_827 = sh_setR km_826 291 88 (some 350) from rfl]; exact sh_lyR
  have hl291 : (sh_lay km_827)[291]? = some (12, 0) := by rw [el]; exact hl291
  have hn : (sh_lay km_827).length = 351 := by rw [el]; exact hn
  refine vv_aload_n 1227 0 dX12_init_1227 rfl rfl ?_
  refine vv_iconst 1228 dX12_init_1228 ik_3 ?_
  refine vk_newa (N := 3) (c1 := 60) (s1 := 21881) 15 .char (Or.inr (Or.inr ⟨rfl, rfl⟩)) 1229 dX12_init_1229 ac_15 (by decide) (by decide) (Nat.le_of_ble_eq_true rfl) (n := 351) hn (μ1 := km_828) rfl rfl rfl (Nat.le_of_ble_eq_true rfl) (Nat.le_of_ble_eq_true rfl) ?_
  have el : km_828 = sh_add km_827 (15, 3) := rfl
  have hl291 : (sh_lay km_828)[291]? = some (12, 0) := by rw [el]; exact sh_lay_add hl291
  have hl351 : (sh_lay km_828)[351]? = some (15, 3) := by rw [el]; exact sh_lay_new hn
  have hn : (sh_lay km_828).length = 352 := by rw [el]; exact sh_len_add hn
  refine vv_dup_ref 1231 dX12_init_1231 ?_
  refine vv_iconst 1232 dX12_init_1232 ik_0 ?_
  refine vv_bipush 1233 dX12_init_1233 bk_109 ?_
  refine vc_cast (μ1 := km_829) 1235 dX12_init_1235 hl351 (by unfold vp_in; decide) rfl (by decide) rfl ?_
  have el : sh_lay km_829 = sh_lay km_828 := by rw [show km_829 = sh_setI km_828 351 0 109 from rfl]; exact sh_lyI
  have hl291 : (sh_lay km_829)[291]? = some (12, 0) := by rw [el]; exact hl291
  have hl351 : (sh_lay km_829)[351]? = some (15, 3) := by rw [el]; exact hl351
  have hn : (sh_lay km_829).length = 352 := by rw [el]; exact hn
  refine vv_dup_ref 1236 dX12_init_1236 ?_
  refine vv_iconst 1237 dX12_init_1237 ik_1 ?_
  refine vv_bipush 1238 dX12_init_1238 bk_105 ?_
  refine vc_cast (μ1 := km_830) 1240 dX12_init_1240 hl351 (by unfold vp_in; decide) rfl (by decide) rfl ?_
  have el : sh_lay km_830 = sh_lay km_829 := by rw [show km_830 = sh_setI km_829 351 1 105 from rfl]; exact sh_lyI
  have hl291 : (sh_lay km_830)[291]? = some (12, 0) := by rw [el]; exact hl291
  have hl351 : (sh_lay km_830)[351]? = some (15, 3) := by rw [el]; exact hl351
  have hn : (sh_lay km_830).length = 352 := by rw [el]; exact hn
  refine vv_dup_ref 1241 dX12_init_1241 ?_
  refine vv_iconst 1242 dX12_init_1242 ik_2 ?_
  refine vv_bipush 1243 dX12_init_1243 bk_110 ?_
  refine vc_cast (μ1 := km_831) 1245 dX12_init_1245 hl351 (by unfold vp_in; decide) rfl (by decide) rfl ?_
  have el : sh_lay km_831 = sh_lay km_830 := by rw [show km_831 = sh_setI km_830 351 2 110 from rfl]; exact sh_lyI
  have hl291 : (sh_lay km_831)[291]? = some (12, 0) := by rw [el]; exact hl291
  have hl351 : (sh_lay km_831)[351]? = some (15, 3) := by rw [el]; exact hl351
  have hn : (sh_lay km_831).length = 352 := by rw [el]; exact hn
  refine vn_putR 1246 dX12_init_1246 fl_12_197 (Or.inr ⟨rfl, rfl, rfl⟩) rfl hl291 (fun y ey => ?_)
  obtain rfl : y = km_832 := ey
  have el : sh_lay km_832 = sh_lay km_831 := by rw [show km_832 = sh_setR km_831 291 89 (some 351) from rfl]; exact sh_lyR
  have hl291 : (sh_lay km_832)[291]? = some (12, 0) := by rw [el]; exact hl291
  have hn : (sh_lay km_832).length = 352 := by rw [el]; exact hn
  refine vv_aload_n 1249 0 dX12_init_1249 rfl rfl ?_
  refine vv_iconst 1250 dX12_init_1250 ik_3 ?_
  refine vk_newa (N := 3) (c1 := 61) (s1 := 21884) 15 .char (Or.inr (Or.inr ⟨rfl, rfl⟩)) 1251 dX12_init_1251 ac_15 (by decide) (by decide) (Nat.le_of_ble_eq_true rfl) (n := 352) hn (μ1 := km_833) rfl rfl rfl (Nat.le_of_ble_eq_true rfl) (Nat.le_of_ble_eq_true rfl) ?_
  have el : km_833 = sh_add km_832 (15, 3) := rfl
  have hl291 : (sh_lay km_833)[291]? = some (12, 0) := by rw [el]; exact sh_lay_add hl291
  have hl352 : (sh_lay km_833)[352]? = some (15, 3) := by rw [el]; exact sh_lay_new hn
  have hn : (sh_lay km_833).length = 353 := by rw [el]; exact sh_len_add hn
  refine vv_dup_ref 1253 dX12_init_1253 ?_
  refine vv_iconst 1254 dX12_init_1254 ik_0 ?_
  refine vv_bipush 1255 dX12_init_1255 bk_109 ?_
  refine vc_cast (μ1 := km_834) 1257 dX12_init_1257 hl352 (by unfold vp_in; decide) rfl (by decide) rfl ?_
  have el : sh_lay km_834 = sh_lay km_833 := by rw [show km_834 = sh_setI km_833 352 0 109 from rfl]; exact sh_lyI
  have hl291 : (sh_lay km_834)[291]? = some (12, 0) := by rw [el]; exact hl291
  have hl352 : (sh_lay km_834)[352]? = some (15, 3) := by rw [el]; exact hl352
  have hn : (sh_lay km_834).length = 353 := by rw [el]; exact hn
  refine vv_dup_ref 1258 dX12_init_1258 ?_
  refine vv_iconst 1259 dX12_init_1259 ik_1 ?_
  refine vv_bipush 1260 dX12_init_1260 bk_97 ?_
  refine vc_cast (μ1 := km_835) 1262 dX12_init_1262 hl352 (by unfold vp_in; decide) rfl (by decide) rfl ?_
  have el : sh_lay km_835 = sh_lay km_834 := by rw [show km_835 = sh_setI km_834 352 1 97 from rfl]; exact sh_lyI
  have hl291 : (sh_lay km_835)[291]? = some (12, 0) := by rw [el]; exact hl291
  have hl352 : (sh_lay km_835)[352]? = some (15, 3) := by rw [el]; exact hl352
  have hn : (sh_lay km_835).length = 353 := by rw [el]; exact hn
  refine vv_dup_ref 1263 dX12_init_1263 ?_
  refine vv_iconst 1264 dX12_init_1264 ik_2 ?_
  refine vv_bipush 1265 dX12_init_1265 bk_120 ?_
  refine vc_cast (μ1 := km_836) 1267 dX12_init_1267 hl352 (by unfold vp_in; decide) rfl (by decide) rfl ?_
  have el : sh_lay km_836 = sh_lay km_835 := by rw [show km_836 = sh_setI km_835 352 2 120 from rfl]; exact sh_lyI
  have hl291 : (sh_lay km_836)[291]? = some (12, 0) := by rw [el]; exact hl291
  have hl352 : (sh_lay km_836)[352]? = some (15, 3) := by rw [el]; exact hl352
  have hn : (sh_lay km_836).length = 353 := by rw [el]; exact hn
  refine vn_putR 1268 dX12_init_1268 fl_12_200 (Or.inr ⟨rfl, rfl, rfl⟩) rfl hl291 (fun y ey => ?_)
  obtain rfl : y = km_837 := ey
  have el : sh_lay km_837 = sh_lay km_836 := by rw [show km_837 = sh_setR km_836 291 90 (some 352) from rfl]; exact sh_lyR
  have hl291 : (sh_lay km_837)[291]? = some (12, 0) := by rw [el]; exact hl291
  have hn : (sh_lay km_837).length = 353 := by rw [el]; exact hn
  refine vv_aload_n 1271 0 dX12_init_1271 rfl rfl ?_
  refine vv_iconst 1272 dX12_init_1272 ik_5 ?_
  refine vk_newa (N := 5) (c1 := 62) (s1 := 21889) 15 .char (Or.inr (Or.inr ⟨rfl, rfl⟩)) 1273 dX12_init_1273 ac_15 (by decide) (by decide) (Nat.le_of_ble_eq_true rfl) (n := 353) hn (μ1 := km_838) rfl rfl rfl (Nat.le_of_ble_eq_true rfl) (Nat.le_of_ble_eq_true rfl) ?_
  have el : km_838 = sh_add km_837 (15, 5) := rfl
  have hl291 : (sh_lay km_838)[291]? = some (12, 0) := by rw [el]; exact sh_lay_add hl291
  have hl353 : (sh_lay km_838)[353]? = some (15, 5) := by rw [el]; exact sh_lay_new hn
  have hn : (sh_lay km_838).length = 354 := by rw [el]; exact sh_len_add hn
  refine vv_dup_ref 1275 dX12_init_1275 ?_
  refine vv_iconst 1276 dX12_init_1276 ik_0 ?_
  refine vv_bipush 1277 dX12_init_1277 bk_116 ?_
  refine vc_cast (μ1 := km_839) 1279 dX12_init_1279 hl353 (by unfold vp_in; decide) rfl (by decide) rfl ?_
  have el : sh_lay km_839 = sh_lay km_838 := by rw [show km_839 = sh_setI km_838 353 0 116 from rfl]; exact sh_lyI
  have hl291 : (sh_lay km_839)[291]? = some (12, 0) := by rw [el]; exact hl291
  have hl353 : (sh_lay km_839)[353]? = some (15, 5) := by rw [el]; exact hl353
  have hn : (sh_lay km_839).length = 354 := by rw [el]; exact hn
  refine vv_dup_ref 1280 dX12_init_1280 ?_
  refine vv_iconst 1281 dX12_init_1281 ik_1 ?_
  refine vv_bipush 1282 dX12_init_1282 bk_105 ?_
  refine vc_cast (μ1 := km_840) 1284 dX12_init_1284 hl353 (by unfold vp_in; decide) rfl (by decide) rfl ?_
  have el : sh_lay km_840 = sh_lay km_839 := by rw [show km_840 = sh_setI km_839 353 1 105 from rfl]; exact sh_lyI
  have hl291 : (sh_lay km_840)[291]? = some (12, 0) := by rw [el]; exact hl291
  have hl353 : (sh_lay km_840)[353]? = some (15, 5) := by rw [el]; exact hl353
  have hn : (sh_lay km_840).length = 354 := by rw [el]; exact hn
  refine vv_dup_ref 1285 dX12_init_1285 ?_
  refine vv_iconst 1286 dX12_init_1286 ik_2 ?_
  refine vv_bipush 1287 dX12_init_1287 bk_114 ?_
  refine vc_cast (μ1 := km_841) 1289 dX12_init_1289 hl353 (by unfold vp_in; decide) rfl (by decide) rfl ?_
  have el : sh_lay km_841 = sh_lay km_840 := by rw [show km_841 = sh_setI km_840 353 2 114 from rfl]; exact sh_lyI
  have hl291 : (sh_lay km_841)[291]? = some (12, 0) := by rw [el]; exact hl291
  have hl353 : (sh_lay km_841)[353]? = some (15, 5) := by rw [el]; exact hl353
  have hn : (sh_lay km_841).length = 354 := by rw [el]; exact hn
  refine vv_dup_ref 1290 dX12_init_1290 ?_
  refine vv_iconst 1291 dX12_init_1291 ik_3 ?_
  refine vv_bipush 1292 dX12_init_1292 bk_101 ?_
  refine vc_cast (μ1 := km_842) 1294 dX12_init_1294 hl353 (by unfold vp_in; decide) rfl (by decide) rfl ?_
  have el : sh_lay km_842 = sh_lay km_841 := by rw [show km_842 = sh_setI km_841 353 3 101 from rfl]; exact sh_lyI
  have hl291 : (sh_lay km_842)[291]? = some (12, 0) := by rw [el]; exact hl291
  have hl353 : (sh_lay km_842)[353]? = some (15, 5) := by rw [el]; exact hl353
  have hn : (sh_lay km_842).length = 354 := by rw [el]; exact hn
  refine vv_dup_ref 1295 dX12_init_1295 ?_
  refine vv_iconst 1296 dX12_init_1296 ik_4 ?_
  refine vv_bipush 1297 dX12_init_1297 bk_100 ?_
  refine vc_cast (μ1 := km_843) 1299 dX12_init_1299 hl353 (by unfold vp_in; decide) rfl (by decide) rfl ?_
  have el : sh_lay km_843 = sh_lay km_842 := by rw [show km_843 = sh_setI km_842 353 4 100 from rfl]; exact sh_lyI
  have hl291 : (sh_lay km_843)[291]? = some (12, 0) := by rw [el]; exact hl291
  have hl353 : (sh_lay km_843)[353]? = some (15, 5) := by rw [el]; exact hl353
  have hn : (sh_lay km_843).length = 354 := by rw [el]; exact hn
  refine vn_putR 1300 dX12_init_1300 fl_12_203 (Or.inr ⟨rfl, rfl, rfl⟩) rfl hl291 (fun y ey => ?_)
  obtain rfl : y = km_844 := ey
  have el : sh_lay km_844 = sh_lay km_843 := by rw [show km_844 = sh_setR km_843 291 91 (some 353) from rfl]; exact sh_lyR
  have hl291 : (sh_lay km_844)[291]? = some (12, 0) := by rw [el]; exact hl291
  have hn : (sh_lay km_844).length = 354 := by rw [el]; exact hn
  refine vv_aload_n 1303 0 dX12_init_1303 rfl rfl ?_
  refine vv_bipush 1304 dX12_init_1304 bk_6 ?_
  refine vk_newa (N := 6) (c1 := 63) (s1 := 21895) 15 .char (Or.inr (Or.inr ⟨rfl, rfl⟩)) 1306 dX12_init_1306 ac_15 (by decide) (by decide) (Nat.le_of_ble_eq_true rfl) (n := 354) hn (μ1 := km_845) rfl rfl rfl (Nat.le_of_ble_eq_true rfl) (Nat.le_of_ble_eq_true rfl) ?_
  have el : km_845 = sh_add km_844 (15, 6) := rfl
  have hl291 : (sh_lay km_845)[291]? = some (12, 0) := by rw [el]; exact sh_lay_add hl291
  have hl354 : (sh_lay km_845)[354]? = some (15, 6) := by rw [el]; exact sh_lay_new hn
  have hn : (sh_lay km_845).length = 355 := by rw [el]; exact sh_len_add hn
  refine vv_dup_ref 1308 dX12_init_1308 ?_
  refine vv_iconst 1309 dX12_init_1309 ik_0 ?_
  refine vv_bipush 1310 dX12_init_1310 bk_104 ?_
  refine vc_cast (μ1 := km_846) 1312 dX12_init_1312 hl354 (by unfold vp_in; decide) rfl (by decide) rfl ?_
  have el : sh_lay km_846 = sh_lay km_845 := by rw [show km_846 = sh_setI km_845 354 0 104 from rfl]; exact sh_lyI
  have hl291 : (sh_lay km_846)[291]? = some (12, 0) := by rw [el]; exact hl291
  have hl354 : (sh_lay km_846)[354]? = some (15, 6) := by rw [el]; exact hl354
  have hn : (sh_lay km_846).length = 355 := by rw [el]; exact hn
  refine vv_dup_ref 1313 dX12_init_1313 ?_
  refine vv_iconst 1314 dX12_init_1314 ik_1 ?_
  refine vv_bipush 1315 dX12_init_1315 bk_101 ?_
  refine vc_cast (μ1 := km_847) 1317 dX12_init_1317 hl354 (by unfold vp_in; decide) rfl (by decide) rfl ?_
  have el : sh_lay km_847 = sh_lay km_846 := by rw [show km_847 = sh_setI km_846 354 1 101 from rfl]; exact sh_lyI
  have hl291 : (sh_lay km_847)[291]? = some (12, 0) := by rw [el]; exact hl291
  have hl354 : (sh_lay km_847)[354]? = some (15, 6) := by rw [el]; exact hl354
  have hn : (sh_lay km_847).length = 355 := by rw [el]; exact hn
  refine vv_dup_ref 1318 dX12_init_1318 ?_
  refine vv_iconst 1319 dX12_init_1319 ik_2 ?_
  refine vv_bipush 1320 dX12_init_1320 bk_105 ?_
  refine vc_cast (μ1 := km_848) 1322 dX12_init_1322 hl354 (by unfold vp_in; decide) rfl (by decide) rfl ?_
  have el : sh_lay km_848 = sh_lay km_847 := by rw [show km_848 = sh_setI km_847 354 2 105 from rfl]; exact sh_lyI
  have hl291 : (sh_lay km_848)[291]? = some (12, 0) := by rw [el]; exact hl291
  have hl354 : (sh_lay km_848)[354]? = some (15, 6) := by rw [el]; exact hl354
  have hn : (sh_lay km_848).length = 355 := by rw [el]; exact hn
  refine vv_dup_ref 1323 dX12_init_1323 ?_
  refine vv_iconst 1324 dX12_init_1324 ik_3 ?_
  refine vv_bipush 1325 dX12_init_1325 bk_103 ?_
  refine vc_cast (μ1 := km_849) 1327 dX12_init_1327 hl354 (by unfold vp_in; decide) rfl (by decide) rfl ?_
  have el : sh_lay km_849 = sh_lay km_848 := by rw [show km_849 = sh_setI km_848 354 3 103 from rfl]; exact sh_lyI
  have hl291 : (sh_lay km_849)[291]? = some (12, 0) := by rw [el]; exact hl291
  have hl354 : (sh_lay km_849)[354]? = some (15, 6) := by rw [el]; exact hl354
  have hn : (sh_lay km_849).length = 355 := by rw [el]; exact hn
  refine vv_dup_ref 1328 dX12_init_1328 ?_
  refine vv_iconst 1329 dX12_init_1329 ik_4 ?_
  refine vv_bipush 1330 dX12_init_1330 bk_104 ?_
  refine vc_cast (μ1 := km_850) 1332 dX12_init_1332 hl354 (by unfold vp_in; decide) rfl (by decide) rfl ?_
  have el : sh_lay km_850 = sh_lay km_849 := by rw [show km_850 = sh_setI km_849 354 4 104 from rfl]; exact sh_lyI
  have hl291 : (sh_lay km_850)[291]? = some (12, 0) := by rw [el]; exact hl291
  have hl354 : (sh_lay km_850)[354]? = some (15, 6) := by rw [el]; exact hl354
  have hn : (sh_lay km_850).length = 355 := by rw [el]; exact hn
  refine vv_dup_ref 1333 dX12_init_1333 ?_
  refine vv_iconst 1334 dX12_init_1334 ik_5 ?_
  refine vv_bipush 1335 dX12_init_1335 bk_116 ?_
  refine vc_cast (μ1 := km_851) 1337 dX12_init_1337 hl354 (by unfold vp_in; decide) rfl (by decide) rfl ?_
  have el : sh_lay km_851 = sh_lay km_850 := by rw [show km_851 = sh_setI km_850 354 5 116 from rfl]; exact sh_lyI
  have hl291 : (sh_lay km_851)[291]? = some (12, 0) := by rw [el]; exact hl291
  have hl354 : (sh_lay km_851)[354]? = some (15, 6) := by rw [el]; exact hl354
  have hn : (sh_lay km_851).length = 355 := by rw [el]; exact hn
  refine vn_putR 1338 dX12_init_1338 fl_12_206 (Or.inr ⟨rfl, rfl, rfl⟩) rfl hl291 (fun y ey => ?_)
  obtain rfl : y = km_852 := ey
  have el : sh_lay km_852 = sh_lay km_851 := by rw [show km_852 = sh_setR km_851 291 92 (some 354) from rfl]; exact sh_lyR
  have hl291 : (sh_lay km_852)[291]? = some (12, 0) := by rw [el]; exact hl291
  have hn : (sh_lay km_852).length = 355 := by rw [el]; exact hn
  refine vv_aload_n 1341 0 dX12_init_1341 rfl rfl ?_
  refine vv_iconst 1342 dX12_init_1342 ik_5 ?_
  refine vk_newa (N := 5) (c1 := 64) (s1 := 21900) 15 .char (Or.inr (Or.inr ⟨rfl, rfl⟩)) 1343 dX12_init_1343 ac_15 (by decide) (by decide) (Nat.le_of_ble_eq_true rfl) (n := 355) hn (μ1 := km_853) rfl rfl rfl (Nat.le_of_ble_eq_true rfl) (Nat.le_of_ble_eq_true rfl) ?_
  have el : km_853 = sh_add km_852 (15, 5) := rfl
  have hl291 : (sh_lay km_853)[291]? = some (12, 0) := by rw [el]; exact sh_lay_add hl291
  have hl355 : (sh_lay km_853)[355]? = some (15, 5) := by rw [el]; exact sh_lay_new hn
  have hn : (sh_lay km_853).length = 356 := by rw [el]; exact sh_len_add hn
  refine vv_dup_ref 1345 dX12_init_1345 ?_
  refine vv_iconst 1346 dX12_init_1346 ik_0 ?_
  refine vv_bipush 1347 dX12_init_1347 bk_107 ?_
  refine vc_cast (μ1 := km_854) 1349 dX12_init_1349 hl355 (by unfold vp_in; decide) rfl (by decide) rfl ?_
  have el : sh_lay km_854 = sh_lay km_853 := by rw [show km_854 = sh_setI km_853 355 0 107 from rfl]; exact sh_lyI
  have hl291 : (sh_lay km_854)[291]? = some (12, 0) := by rw [el]; exact hl291
  have hl355 : (sh_lay km_854)[355]? = some (15, 5) := by rw [el]; exact hl355
  have hn : (sh_lay km_854).length = 356 := by rw [el]; exact hn
  refine vv_dup_ref 1350 dX12_init_1350 ?_
  refine vv_iconst 1351 dX12_init_1351 ik_1 ?_
  refine vv_bipush 1352 dX12_init_1352 bk_110 ?_
  refine vc_cast (μ1 := km_855) 1354 dX12_init_1354 hl355 (by unfold vp_in; decide) rfl (by decide) rfl ?_
  have el : sh_lay km_855 = sh_lay km_854 := by rw [show km_855 = sh_setI km_854 355 1 110 from rfl]; exact sh_lyI
  have hl291 : (sh_lay km_855)[291]? = some (12, 0) := by rw [el]; exact hl291
  have hl355 : (sh_lay km_855)[355]? = some (15, 5) := by rw [el]; exact hl355
  have hn : (sh_lay km_855).length = 356 := by rw [el]; exact hn
  refine vv_dup_ref 1355 dX12_init_1355 ?_
  refine vv_iconst 1356 dX12_init_1356 ik_2 ?_
  refine vv_bipush 1357 dX12_init_1357 bk_111 ?_
  refine vc_cast (μ1 := km_856) 1359 dX12_init_1359 hl355 (by unfold vp_in; decide) rfl (by decide) rfl ?_
  have el : sh_lay km_856 = sh_lay km_855 := by rw [show km_856 = sh_setI km_855 355 2 111 from rfl]; exact sh_lyI
  have hl291 : (sh_lay km_856)[291]? = some (12, 0) := by rw [el]; exact hl291
  have hl355 : (sh_lay km_856)[355]? = some (15, 5) := by rw [el]; exact hl355
  have hn : (sh_lay km_856).length = 356 := by rw [el]; exact hn
  refine vv_dup_ref 1360 dX12_init_1360 ?_
  refine vv_iconst 1361 dX12_init_1361 ik_3 ?_
  refine vv_bipush 1362 dX12_init_1362 bk_119 ?_
  refine vc_cast (μ1 := km_857) 1364 dX12_init_1364 hl355 (by unfold vp_in; decide) rfl (by decide) rfl ?_
  have el : sh_lay km_857 = sh_lay km_856 := by rw [show km_857 = sh_setI km_856 355 3 119 from rfl]; exact sh_lyI
  have hl291 : (sh_lay km_857)[291]? = some (12, 0) := by rw [el]; exact hl291
  have hl355 : (sh_lay km_857)[355]? = some (15, 5) := by rw [el]; exact hl355
  have hn : (sh_lay km_857).length = 356 := by rw [el]; exact hn
  refine vv_dup_ref 1365 dX12_init_1365 ?_
  refine vv_iconst 1366 dX12_init_1366 ik_4 ?_
  refine vv_bipush 1367 dX12_init_1367 bk_110 ?_
  refine vc_cast (μ1 := km_858) 1369 dX12_init_1369 hl355 (by unfold vp_in; decide) rfl (by decide) rfl ?_
  have el : sh_lay km_858 = sh_lay km_857 := by rw [show km_858 = sh_setI km_857 355 4 110 from rfl]; exact sh_lyI
  have hl291 : (sh_lay km_858)[291]? = some (12, 0) := by rw [el]; exact hl291
  have hl355 : (sh_lay km_858)[355]? = some (15, 5) := by rw [el]; exact hl355
  have hn : (sh_lay km_858).length = 356 := by rw [el]; exact hn
  refine vn_putR 1370 dX12_init_1370 fl_12_209 (Or.inr ⟨rfl, rfl, rfl⟩) rfl hl291 (fun y ey => ?_)
  obtain rfl : y = km_859 := ey
  have el : sh_lay km_859 = sh_lay km_858 := by rw [show km_859 = sh_setR km_858 291 93 (some 355) from rfl]; exact sh_lyR
  have hl291 : (sh_lay km_859)[291]? = some (12, 0) := by rw [el]; exact hl291
  have hn : (sh_lay km_859).length = 356 := by rw [el]; exact hn
  refine vv_aload_n 1373 0 dX12_init_1373 rfl rfl ?_
  refine vv_iconst 1374 dX12_init_1374 ik_3 ?_
  refine vk_newa (N := 3) (c1 := 65) (s1 := 21903) 15 .char (Or.inr (Or.inr ⟨rfl, rfl⟩)) 1375 dX12_init_1375 ac_15 (by decide) (by decide) (Nat.le_of_ble_eq_true rfl) (n := 356) hn (μ1 := km_860) rfl rfl rfl (Nat.le_of_ble_eq_true rfl) (Nat.le_of_ble_eq_true rfl) ?_
  have el : km_860 = sh_add km_859 (15, 3) := rfl
  have hl291 : (sh_lay km_860)[291]? = some (12, 0) := by rw [el]; exact sh_lay_add hl291
  have hl356 : (sh_lay km_860)[356]? = some (15, 3) := by rw [el]; exact sh_lay_new hn
  have hn : (sh_lay km_860).length = 357 := by rw [el]; exact sh_len_add hn
  refine vv_dup_ref 1377 dX12_init_1377 ?_
  refine vv_iconst 1378 dX12_init_1378 ik_0 ?_
  refine vv_bipush 1379 dX12_init_1379 bk_100 ?_
  refine vc_cast (μ1 := km_861) 1381 dX12_init_1381 hl356 (by unfold vp_in; decide) rfl (by decide) rfl ?_
  have el : sh_lay km_861 = sh_lay km_860 := by rw [show km_861 = sh_setI km_860 356 0 100 from rfl]; exact sh_lyI
  have hl291 : (sh_lay km_861)[291]? = some (12, 0) := by rw [el]; exact hl291
  have hl356 : (sh_lay km_861)[356]? = some (15, 3) := by rw [el]; exact hl356
  have hn : (sh_lay km_861).length = 357 := by rw [el]; exact hn
  refine vv_dup_ref 1382 dX12_init_1382 ?_
  refine vv_iconst 1383 dX12_init_1383 ik_1 ?_
  refine vv_bipush 1384 dX12_init_1384 bk_97 ?_
  refine vc_cast (μ1 := km_862) 1386 dX12_init_1386 hl356 (by unfold vp_in; decide) rfl (by decide) rfl ?_
  have el : sh_lay km_862 = sh_lay km_861 := by rw [show km_862 = sh_setI km_861 356 1 97 from rfl]; exact sh_lyI
  have hl291 : (sh_lay km_862)[291]? = some (12, 0) := by rw [el]; exact hl291
  have hl356 : (sh_lay km_862)[356]? = some (15, 3) := by rw [el]; exact hl356
  have hn : (sh_lay km_862).length = 357 := by rw [el]; exact hn
  refine vv_dup_ref 1387 dX12_init_1387 ?_
  refine vv_iconst 1388 dX12_init_1388 ik_2 ?_
  refine vv_bipush 1389 dX12_init_1389 bk_121 ?_
  refine vc_cast (μ1 := km_863) 1391 dX12_init_1391 hl356 (by unfold vp_in; decide) rfl (by decide) rfl ?_
  have el : sh_lay km_863 = sh_lay km_862 := by rw [show km_863 = sh_setI km_862 356 2 121 from rfl]; exact sh_lyI
  have hl291 : (sh_lay km_863)[291]? = some (12, 0) := by rw [el]; exact hl291
  have hl356 : (sh_lay km_863)[356]? = some (15, 3) := by rw [el]; exact hl356
  have hn : (sh_lay km_863).length = 357 := by rw [el]; exact hn
  refine vn_putR 1392 dX12_init_1392 fl_12_212 (Or.inr ⟨rfl, rfl, rfl⟩) rfl hl291 (fun y ey => ?_)
  obtain rfl : y = km_864 := ey
  have el : sh_lay km_864 = sh_lay km_863 := by rw [show km_864 = sh_setR km_863 291 94 (some 356) from rfl]; exact sh_lyR
  have hl291 : (sh_lay km_864)[291]? = some (12, 0) := by rw [el]; exact hl291
  have hn : (sh_lay km_864).length = 357 := by rw [el]; exact hn
  refine vv_aload_n 1395 0 dX12_init_1395 rfl rfl ?_
  refine vv_iconst 1396 dX12_init_1396 ik_5 ?_
  refine vk_newa (N := 5) (c1 := 66) (s1 := 21908) 15 .char (Or.inr (Or.inr ⟨rfl, rfl⟩)) 1397 dX12_init_1397 ac_15 (by decide) (by decide) (Nat.le_of_ble_eq_true rfl) (n := 357) hn (μ1 := km_865) rfl rfl rfl (Nat.le_of_ble_eq_true rfl) (Nat.le_of_ble_eq_true rfl) ?_
  have el : km_865 = sh_add km_864 (15, 5) := rfl
  have hl291 : (sh_lay km_865)[291]? = some (12, 0) := by rw [el]; exact sh_lay_add hl291
  have hl357 : (sh_lay km_865)[357]? = some (15, 5) := by rw [el]; exact sh_lay_new hn
  have hn : (sh_lay km_865).length = 358 := by rw [el]; exact sh_len_add hn
  refine vv_dup_ref 1399 dX12_init_1399 ?_
  refine vv_iconst 1400 dX12_init_1400 ik_0 ?_
  refine vv_bipush 1401 dX12_init_1401 bk_116 ?_
  refine vc_cast (μ1 := km_866) 1403 dX12_init_1403 hl357 (by unfold vp_in; decide) rfl (by decide) rfl ?_
  have el : sh_lay km_866 = sh_lay km_865 := by rw [show km_866 = sh_setI km_865 357 0 116 from rfl]; exact sh_lyI
  have hl291 : (sh_lay km_866)[291]? = some (12, 0) := by rw [el]; exact hl291
  have hl357 : (sh_lay km_866)[357]? = some (15, 5) := by rw [el]; exact hl357
  have hn : (sh_lay km_866).length = 358 := by rw [el]; exact hn
  refine vv_dup_ref 1404 dX12_init_1404 ?_
  refine vv_iconst 1405 dX12_init_1405 ik_1 ?_
  refine vv_bipush 1406 dX12_init_1406 bk_111 ?_
  refine vc_cast (μ1 := km_867) 1408 dX12_init_1408 hl357 (by unfold vp_in; decide) rfl (by decide) rfl ?_
  have el : sh_lay km_867 = sh_lay km_866 := by rw [show km_867 = sh_setI km_866 357 1 111 from rfl]; exact sh_lyI
  have hl291 : (sh_lay km_867)[291]? = some (12, 0) := by rw [el]; exact hl291
  have hl357 : (sh_lay km_867)[357]? = some (15, 5) := by rw [el]; exact hl357
  have hn : (sh_lay km_867).length = 358 := by rw [el]; exact hn
  refine vv_dup_ref 1409 dX12_init_1409 ?_
  refine vv_iconst 1410 dX12_init_1410 ik_2 ?_
  refine vv_bipush 1411 dX12_init_1411 bk_112 ?_
  refine vc_cast (μ1 := km_868) 1413 dX12_init_1413 hl357 (by unfold vp_in; decide) rfl (by decide) rfl ?_
  have el : sh_lay km_868 = sh_lay km_867 := by rw [show km_868 = sh_setI km_867 357 2 112 from rfl]; exact sh_lyI
  have hl291 : (sh_lay km_868)[291]? = some (12, 0) := by rw [el]; exact hl291
  have hl357 : (sh_lay km_868)[357]? = some (15, 5) := by rw [el]; exact hl357
  have hn : (sh_lay km_868).length = 358 := by rw [el]; exact hn
  refine vv_dup_ref 1414 dX12_init_1414 ?_
  refine vv_iconst 1415 dX12_init_1415 ik_3 ?_
  refine vv_bipush 1416 dX12_init_1416 bk_105 ?_
  refine vc_cast (μ1 := km_869) 1418 dX12_init_1418 hl357 (by unfold vp_in; decide) rfl (by decide) rfl ?_
  have el : sh_lay km_869 = sh_lay km_868 := by rw [show km_869 = sh_setI km_868 357 3 105 from rfl]; exact sh_lyI
  have hl291 : (sh_lay km_869)[291]? = some (12, 0) := by rw [el]; exact hl291
  have hl357 : (sh_lay km_869)[357]? = some (15, 5) := by rw [el]; exact hl357
  have hn : (sh_lay km_869).length = 358 := by rw [el]; exact hn
  refine vv_dup_ref 1419 dX12_init_1419 ?_
  refine vv_iconst 1420 dX12_init_1420 ik_4 ?_
  refine vv_bipush 1421 dX12_init_1421 bk_99 ?_
  refine vc_cast (μ1 := km_870) 1423 dX12_init_1423 hl357 (by unfold vp_in; decide) rfl (by decide) rfl ?_
  have el : sh_lay km_870 = sh_lay km_869 := by rw [show km_870 = sh_setI km_869 357 4 99 from rfl]; exact sh_lyI
  have hl291 : (sh_lay km_870)[291]? = some (12, 0) := by rw [el]; exact hl291
  have hl357 : (sh_lay km_870)[357]? = some (15, 5) := by rw [el]; exact hl357
  have hn : (sh_lay km_870).length = 358 := by rw [el]; exact hn
  refine vn_putR 1424 dX12_init_1424 fl_12_215 (Or.inr ⟨rfl, rfl, rfl⟩) rfl hl291 (fun y ey => ?_)
  obtain rfl : y = km_871 := ey
  have el : sh_lay km_871 = sh_lay km_870 := by rw [show km_871 = sh_setR km_870 291 95 (some 357) from rfl]; exact sh_lyR
  have hl291 : (sh_lay km_871)[291]? = some (12, 0) := by rw [el]; exact hl291
  have hn : (sh_lay km_871).length = 358 := by rw [el]; exact hn
  refine vv_aload_n 1427 0 dX12_init_1427 rfl rfl ?_
  refine vv_iconst 1428 dX12_init_1428 ik_4 ?_
  refine vk_newa (N := 4) (c1 := 67) (s1 := 21912) 15 .char (Or.inr (Or.inr ⟨rfl, rfl⟩)) 1429 dX12_init_1429 ac_15 (by decide) (by decide) (Nat.le_of_ble_eq_true rfl) (n := 358) hn (μ1 := km_872) rfl rfl rfl (Nat.le_of_ble_eq_true rfl) (Nat.le_of_ble_eq_true rfl) ?_
  have el : km_872 = sh_add km_871 (15, 4) := rfl
  have hl291 : (sh_lay km_872)[291]? = some (12, 0) := by rw [el]; exact sh_lay_add hl291
  have hl358 : (sh_lay km_872)[358]? = some (15, 4) := by rw [el]; exact sh_lay_new hn
  have hn : (sh_lay km_872).length = 359 := by rw [el]; exact sh_len_add hn
  refine vv_dup_ref 1431 dX12_init_1431 ?_
  refine vv_iconst 1432 dX12_init_1432 ik_0 ?_
  refine vv_bipush 1433 dX12_init_1433 bk_115 ?_
  refine vc_cast (μ1 := km_873) 1435 dX12_init_1435 hl358 (by unfold vp_in; decide) rfl (by decide) rfl ?_
  have el : sh_lay km_873 = sh_lay km_872 := by rw [show km_873 = sh_setI km_872 358 0 115 from rfl]; exact sh_lyI
  have hl291 : (sh_lay km_873)[291]? = some (12, 0) := by rw [el]; exact hl291
  have hl358 : (sh_lay km_873)[358]? = some (15, 4) := by rw [el]; exact hl358
  have hn : (sh_lay km_873).length = 359 := by rw [el]; exact hn
  refine vv_dup_ref 1436 dX12_init_1436 ?_
  refine vv_iconst 1437 dX12_init_1437 ik_1 ?_
  refine vv_bipush 1438 dX12_init_1438 bk_105 ?_
  refine vc_cast (μ1 := km_874) 1440 dX12_init_1440 hl358 (by unfold vp_in; decide) rfl (by decide) rfl ?_
  have el : sh_lay km_874 = sh_lay km_873 := by rw [show km_874 = sh_setI km_873 358 1 105 from rfl]; exact sh_lyI
  have hl291 : (sh_lay km_874)[291]? = some (12, 0) := by rw [el]; exact hl291
  have hl358 : (sh_lay km_874)[358]? = some (15, 4) := by rw [el]; exact hl358
  have hn : (sh_lay km_874).length = 359 := by rw [el]; exact hn
  refine vv_dup_ref 1441 dX12_init_1441 ?_
  refine vv_iconst 1442 dX12_init_1442 ik_2 ?_
  refine vv_bipush 1443 dX12_init_1443 bk_100 ?_
  refine vc_cast (μ1 := km_875) 1445 dX12_init_1445 hl358 (by unfold vp_in; decide) rfl (by decide) rfl ?_
  have el : sh_lay km_875 = sh_lay km_874 := by rw [show km_875 = sh_setI km_874 358 2 100 from rfl]; exact sh_lyI
  have hl291 : (sh_lay km_875)[291]? = some (12, 0) := by rw [el]; exact hl291
  have hl358 : (sh_lay km_875)[358]? = some (15, 4) := by rw [el]; exact hl358
  have hn : (sh_lay km_875).length = 359 := by rw [el]; exact hn
  refine vv_dup_ref 1446 dX12_init_1446 ?_
  refine vv_iconst 1447 dX12_init_1447 ik_3 ?_
  refine vv_bipush 1448 dX12_init_1448 bk_101 ?_
  refine vc_cast (μ1 := km_876) 1450 dX12_init_1450 hl358 (by unfold vp_in; decide) rfl (by decide) rfl ?_
  have el : sh_lay km_876 = sh_lay km_875 := by rw [show km_876 = sh_setI km_875 358 3 101 from rfl]; exact sh_lyI
  have hl291 : (sh_lay km_876)[291]? = some (12, 0) := by rw [el]; exact hl291
  have hl358 : (sh_lay km_876)[358]? = some (15, 4) := by rw [el]; exact hl358
  have hn : (sh_lay km_876).length = 359 := by rw [el]; exact hn
  refine vn_putR 1451 dX12_init_1451 fl_12_218 (Or.inr ⟨rfl, rfl, rfl⟩) rfl hl291 (fun y ey => ?_)
  obtain rfl : y = km_877 := ey
  have el : sh_lay km_877 = sh_lay km_876 := by rw [show km_877 = sh_setR km_876 291 96 (some 358) from rfl]; exact sh_lyR
  have hl291 : (sh_lay km_877)[291]? = some (12, 0) := by rw [el]; exact hl291
  have hn : (sh_lay km_877).length = 359 := by rw [el]; exact hn
  refine vv_aload_n 1454 0 dX12_init_1454 rfl rfl ?_
  refine vv_bipush 1455 dX12_init_1455 bk_6 ?_
  refine vk_newa (N := 6) (c1 := 68) (s1 := 21918) 15 .char (Or.inr (Or.inr ⟨rfl, rfl⟩)) 1457 dX12_init_1457 ac_15 (by decide) (by decide) (Nat.le_of_ble_eq_true rfl) (n := 359) hn (μ1 := km_878) rfl rfl rfl (Nat.le_of_ble_eq_true rfl) (Nat.le_of_ble_eq_true rfl) ?_
  have el : km_878 = sh_add km_877 (15, 6) := rfl
  have hl291 : (sh_lay km_878)[291]? = some (12, 0) := by rw [el]; exact sh_lay_add hl291
  have hl359 : (sh_lay km_878)[359]? = some (15, 6) := by rw [el]; exact sh_lay_new hn
  have hn : (sh_lay km_878).length = 360 := by rw [el]; exact sh_len_add hn
  refine vv_dup_ref 1459 dX12_init_1459 ?_
  refine vv_iconst 1460 dX12_init_1460 ik_0 ?_
  refine vv_bipush 1461 dX12_init_1461 bk_110 ?_
  refine vc_cast (μ1 := km_879) 1463 dX12_init_1463 hl359 (by unfold vp_in; decide) rfl (by decide) rfl ?_
  have el : sh_lay km_879 = sh_lay km_878 := by rw [show km_879 = sh_setI km_878 359 0 110 from rfl]; exact sh_lyI
  have hl291 : (sh_lay km_879)[291]? = some (12, 0) := by rw [el]; exact hl291
  have hl359 : (sh_lay km_879)[359]? = some (15, 6) := by rw [el]; exact hl359
  have hn : (sh_lay km_879).length = 360 := by rw [el]; exact hn
  refine vv_dup_ref 1464 dX12_init_1464 ?_
  refine vv_iconst 1465 dX12_init_1465 ik_1 ?_
  refine vv_bipush 1466 dX12_init_1466 bk_117 ?_
  refine vc_cast (μ1 := km_880) 1468 dX12_init_1468 hl359 (by unfold vp_in; decide) rfl (by decide) rfl ?_
  have el : sh_lay km_880 = sh_lay km_879 := by rw [show km_880 = sh_setI km_879 359 1 117 from rfl]; exact sh_lyI
  have hl291 : (sh_lay km_880)[291]? = some (12, 0) := by rw [el]; exact hl291
  have hl359 : (sh_lay km_880)[359]? = some (15, 6) := by rw [el]; exact hl359
  have hn : (sh_lay km_880).length = 360 := by rw [el]; exact hn
  refine vv_dup_ref 1469 dX12_init_1469 ?_
  refine vv_iconst 1470 dX12_init_1470 ik_2 ?_
  refine vv_bipush 1471 dX12_init_1471 bk_109 ?_
  refine vc_cast (μ1 := km_881) 1473 dX12_init_1473 hl359 (by unfold vp_in; decide) rfl (by decide) rfl ?_
  have el : sh_lay km_881 = sh_lay km_880 := by rw [show km_881 = sh_setI km_880 359 2 109 from rfl]; exact sh_lyI
  have hl291 : (sh_lay km_881)[291]? = some (12, 0) := by rw [el]; exact hl291
  have hl359 : (sh_lay km_881)[359]? = some (15, 6) := by rw [el]; exact hl359
  have hn : (sh_lay km_881).length = 360 := by rw [el]; exact hn
  refine vv_dup_ref 1474 dX12_init_1474 ?_
  refine vv_iconst 1475 dX12_init_1475 ik_3 ?_
  refine vv_bipush 1476 dX12_init_1476 bk_98 ?_
  refine vc_cast (μ1 := km_882) 1478 dX12_init_1478 hl359 (by unfold vp_in; decide) rfl (by decide) rfl ?_
  have el : sh_lay km_882 = sh_lay km_881 := by rw [show km_882 = sh_setI km_881 359 3 98 from rfl]; exact sh_lyI
  have hl291 : (sh_lay km_882)[291]? = some (12, 0) := by rw [el]; exact hl291
  have hl359 : (sh_lay km_882)[359]? = some (15, 6) := by rw [el]; exact hl359
  have hn : (sh_lay km_882).length = 360 := by rw [el]; exact hn
  refine vv_dup_ref 1479 dX12_init_1479 ?_
  refine vv_iconst 1480 dX12_init_1480 ik_4 ?_
  refine vv_bipush 1481 dX12_init_1481 bk_101 ?_
  refine vc_cast (μ1 := km_883) 1483 dX12_init_1483 hl359 (by unfold vp_in; decide) rfl (by decide) rfl ?_
  have el : sh_lay km_883 = sh_lay km_882 := by rw [show km_883 = sh_setI km_882 359 4 101 from rfl]; exact sh_lyI
  have hl291 : (sh_lay km_883)[291]? = some (12, 0) := by rw [el]; exact hl291
  have hl359 : (sh_lay km_883)[359]? = some (15, 6) := by rw [el]; exact hl359
  have hn : (sh_lay km_883).length = 360 := by rw [el]; exact hn
  refine vv_dup_ref 1484 dX12_init_1484 ?_
  refine vv_iconst 1485 dX12_init_1485 ik_5 ?_
  refine vv_bipush 1486 dX12_init_1486 bk_114 ?_
  refine vc_cast (μ1 := km_884) 1488 dX12_init_1488 hl359 (by unfold vp_in; decide) rfl (by decide) rfl ?_
  have el : sh_lay km_884 = sh_lay km_883 := by rw [show km_884 = sh_setI km_883 359 5 114 from rfl]; exact sh_lyI
  have hl291 : (sh_lay km_884)[291]? = some (12, 0) := by rw [el]; exact hl291
  have hl359 : (sh_lay km_884)[359]? = some (15, 6) := by rw [el]; exact hl359
  have hn : (sh_lay km_884).length = 360 := by rw [el]; exact hn
  refine vn_putR 1489 dX12_init_1489 fl_12_221 (Or.inr ⟨rfl, rfl, rfl⟩) rfl hl291 (fun y ey => ?_)
  obtain rfl : y = km_885 := ey
  have el : sh_lay km_885 = sh_lay km_884 := by rw [show km_885 = sh_setR km_884 291 97 (some 359) from rfl]; exact sh_lyR
  have hl291 : (sh_lay km_885)[291]? = some (12, 0) := by rw [el]; exact hl291
  have hn : (sh_lay km_885).length = 360 := by rw [el]; exact hn
  refine vv_aload_n 1492 0 dX12_init_1492 rfl rfl ?_
  refine vv_bipush 1493 dX12_init_1493 bk_6 ?_
  refine vk_newa (N := 6) (c1 := 69) (s1 := 21924) 15 .char (Or.inr (Or.inr ⟨rfl, rfl⟩)) 1495 dX12_init_1495 ac_15 (by decide) (by decide) (Nat.le_of_ble_eq_true rfl) (n := 360) hn (μ1 := km_886) rfl rfl rfl (Nat.le_of_ble_eq_true rfl) (Nat.le_of_ble_eq_true rfl) ?_
  have el : km_886 = sh_add km_885 (15, 6) := rfl
  have hl291 : (sh_lay km_886)[291]? = some (12, 0) := by rw [el]; exact sh_lay_add hl291
  have hl360 : (sh_lay km_886)[360]? = some (15, 6) := by rw [el]; exact sh_lay_new hn
  have hn : (sh_lay km_886).length = 361 := by rw [el]; exact sh_len_add hn
  refine vv_dup_ref 1497 dX12_init_1497 ?_
  refine vv_iconst 1498 dX12_init_1498 ik_0 ?_
  refine vv_bipush 1499 dX12_init_1499 bk_99 ?_
  refine vc_cast (μ1 := km_887) 1501 dX12_init_1501 hl360 (by unfold vp_in; decide) rfl (by decide) rfl ?_
  have el : sh_lay km_887 = sh_lay km_886 := by rw [show km_887 = sh_setI km_886 360 0 99 from rfl]; exact sh_lyI
  have hl291 : (sh_lay km_887)[291]? = some (12, 0) := by rw [el]; exact hl291
  have hl360 : (sh_lay km_887)[360]? = some (15, 6) := by rw [el]; exact hl360
  have hn : (sh_lay km_887).length = 361 := by rw [el]; exact hn
  refine vv_dup_ref 1502 dX12_init_1502 ?_
  refine vv_iconst 1503 dX12_init_1503 ik_1 ?_
  refine vv_bipush 1504 dX12_init_1504 bk_111 ?_
  refine vc_cast (μ1 := km_888) 1506 dX12_init_1506 hl360 (by unfold vp_in; decide) rfl (by decide) rfl ?_
  have el : sh_lay km_888 = sh_lay km_887 := by rw [show km_888 = sh_setI km_887 360 1 111 from rfl]; exact sh_lyI
  have hl291 : (sh_lay km_888)[291]? = some (12, 0) := by rw [el]; exact hl291
  have hl360 : (sh_lay km_888)[360]? = some (15, 6) := by rw [el]; exact hl360
  have hn : (sh_lay km_888).length = 361 := by rw [el]; exact hn
  refine vv_dup_ref 1507 dX12_init_1507 ?_
  refine vv_iconst 1508 dX12_init_1508 ik_2 ?_
  refine vv_bipush 1509 dX12_init_1509 bk_108 ?_
  refine vc_cast (μ1 := km_889) 1511 dX12_init_1511 hl360 (by unfold vp_in; decide) rfl (by decide) rfl ?_
  have el : sh_lay km_889 = sh_lay km_888 := by rw [show km_889 = sh_setI km_888 360 2 108 from rfl]; exact sh_lyI
  have hl291 : (sh_lay km_889)[291]? = some (12, 0) := by rw [el]; exact hl291
  have hl360 : (sh_lay km_889)[360]? = some (15, 6) := by rw [el]; exact hl360
  have hn : (sh_lay km_889).length = 361 := by rw [el]; exact hn
  refine vv_dup_ref 1512 dX12_init_1512 ?_
  refine vv_iconst 1513 dX12_init_1513 ik_3 ?_
  refine vv_bipush 1514 dX12_init_1514 bk_117 ?_
  refine vc_cast (μ1 := km_890) 1516 dX12_init_1516 hl360 (by unfold vp_in; decide) rfl (by decide) rfl ?_
  have el : sh_lay km_890 = sh_lay km_889 := by rw [show km_890 = sh_setI km_889 360 3 117 from rfl]; exact sh_lyI
  have hl291 : (sh_lay km_890)[291]? = some (12, 0) := by rw [el]; exact hl291
  have hl360 : (sh_lay km_890)[360]? = some (15, 6) := by rw [el]; exact hl360
  have hn : (sh_lay km_890).length = 361 := by rw [el]; exact hn
  refine vv_dup_ref 1517 dX12_init_1517 ?_
  refine vv_iconst 1518 dX12_init_1518 ik_4 ?_
  refine vv_bipush 1519 dX12_init_1519 bk_109 ?_
  refine vc_cast (μ1 := km_891) 1521 dX12_init_1521 hl360 (by unfold vp_in; decide) rfl (by decide) rfl ?_
  have el : sh_lay km_891 = sh_lay km_890 := by rw [show km_891 = sh_setI km_890 360 4 109 from rfl]; exact sh_lyI
  have hl291 : (sh_lay km_891)[291]? = some (12, 0) := by rw [el]; exact hl291
  have hl360 : (sh_lay km_891)[360]? = some (15, 6) := by rw [el]; exact hl360
  have hn : (sh_lay km_891).length = 361 := by rw [el]; exact hn
  refine vv_dup_ref 1522 dX12_init_1522 ?_
  refine vv_iconst 1523 dX12_init_1523 ik_5 ?_
  refine vv_bipush 1524 dX12_init_1524 bk_110 ?_
  refine vc_cast (μ1 := km_892) 1526 dX12_init_1526 hl360 (by unfold vp_in; decide) rfl (by decide) rfl ?_
  have el : sh_lay km_892 = sh_lay km_891 := by rw [show km_892 = sh_setI km_891 360 5 110 from rfl]; exact sh_lyI
  have hl291 : (sh_lay km_892)[291]? = some (12, 0) := by rw [el]; exact hl291
  have hl360 : (sh_lay km_892)[360]? = some (15, 6) := by rw [el]; exact hl360
  have hn : (sh_lay km_892).length = 361 := by rw [el]; exact hn
  refine vn_putR 1527 dX12_init_1527 fl_12_224 (Or.inr ⟨rfl, rfl, rfl⟩) rfl hl291 (fun y ey => ?_)
  obtain rfl : y = km_893 := ey
  have el : sh_lay km_893 = sh_lay km_892 := by rw [show km_893 = sh_setR km_892 291 98 (some 360) from rfl]; exact sh_lyR
  have hl291 : (sh_lay km_893)[291]? = some (12, 0) := by rw [el]; exact hl291
  have hn : (sh_lay km_893).length = 361 := by rw [el]; exact hn
  refine vv_aload_n 1530 0 dX12_init_1530 rfl rfl ?_
  refine vv_iconst 1531 dX12_init_1531 ik_3 ?_
  refine vk_newa (N := 3) (c1 := 70) (s1 := 21927) 15 .char (Or.inr (Or.inr ⟨rfl, rfl⟩)) 1532 dX12_init_1532 ac_15 (by decide) (by decide) (Nat.le_of_ble_eq_true rfl) (n := 361) hn (μ1 := km_894) rfl rfl rfl (Nat.le_of_ble_eq_true rfl) (Nat.le_of_ble_eq_true rfl) ?_
  have el : km_894 = sh_add km_893 (15, 3) := rfl
  have hl291 : (sh_lay km_894)[291]? = some (12, 0) := by rw [el]; exact sh_lay_add hl291
  have hl361 : (sh_lay km_894)[361]? = some (15, 3) := by rw [el]; exact sh_lay_new hn
  have hn : (sh_lay km_894).length = 362 := by rw [el]; exact sh_len_add hn
  refine vv_dup_ref 1534 dX12_init_1534 ?_
  refine vv_iconst 1535 dX12_init_1535 ik_0 ?_
  refine vv_bipush 1536 dX12_init_1536 bk_114 ?_
  refine vc_cast (μ1 := km_895) 1538 dX12_init_1538 hl361 (by unfold vp_in; decide) rfl (by decide) rfl ?_
  have el : sh_lay km_895 = sh_lay km_894 := by rw [show km_895 = sh_setI km_894 361 0 114 from rfl]; exact sh_lyI
  have hl291 : (sh_lay km_895)[291]? = some (12, 0) := by rw [el]; exact hl291
  have hl361 : (sh_lay km_895)[361]? = some (15, 3) := by rw [el]; exact hl361
  have hn : (sh_lay km_895).length = 362 := by rw [el]; exact hn
  refine vv_dup_ref 1539 dX12_init_1539 ?_
  refine vv_iconst 1540 dX12_init_1540 ik_1 ?_
  refine vv_bipush 1541 dX12_init_1541 bk_111 ?_
  refine vc_cast (μ1 := km_896) 1543 dX12_init_1543 hl361 (by unfold vp_in; decide) rfl (by decide) rfl ?_
  have el : sh_lay km_896 = sh_lay km_895 := by rw [show km_896 = sh_setI km_895 361 1 111 from rfl]; exact sh_lyI
  have hl291 : (sh_lay km_896)[291]? = some (12, 0) := by rw [el]; exact hl291
  have hl361 : (sh_lay km_896)[361]? = some (15, 3) := by rw [el]; exact hl361
  have hn : (sh_lay km_896).length = 362 := by rw [el]; exact hn
  refine vv_dup_ref 1544 dX12_init_1544 ?_
  refine vv_iconst 1545 dX12_init_1545 ik_2 ?_
  refine vv_bipush 1546 dX12_init_1546 bk_119 ?_
  refine vc_cast (μ1 := km_897) 1548 dX12_init_1548 hl361 (by unfold vp_in; decide) rfl (by decide) rfl ?_
  have el : sh_lay km_897 = sh_lay km_896 := by rw [show km_897 = sh_setI km_896 361 2 119 from rfl]; exact sh_lyI
  have hl291 : (sh_lay km_897)[291]? = some (12, 0) := by rw [el]; exact hl291
  have hl361 : (sh_lay km_897)[361]? = some (15, 3) := by rw [el]; exact hl361
  have hn : (sh_lay km_897).length = 362 := by rw [el]; exact hn
  refine vn_putR 1549 dX12_init_1549 fl_12_227 (Or.inr ⟨rfl, rfl, rfl⟩) rfl hl291 (fun y ey => ?_)
  obtain rfl : y = km_898 := ey
  have el : sh_lay km_898 = sh_lay km_897 := by rw [show km_898 = sh_setR km_897 291 99 (some 361) from rfl]; exact sh_lyR
  have hl291 : (sh_lay km_898)[291]? = some (12, 0) := by rw [el]; exact hl291
  have hn : (sh_lay km_898).length = 362 := by rw [el]; exact hn
  refine vv_aload_n 1552 0 dX12_init_1552 rfl rfl ?_
  refine vv_iconst 1553 dX12_init_1553 ik_5 ?_
  refine vk_newa (N := 5) (c1 := 71) (s1 := 21932) 15 .char (Or.inr (Or.inr ⟨rfl, rfl⟩)) 1554 dX12_init_1554 ac_15 (by decide) (by decide) (Nat.le_of_ble_eq_true rfl) (n := 362) hn (μ1 := km_899) rfl rfl rfl (Nat.le_of_ble_eq_true rfl) (Nat.le_of_ble_eq_true rfl) ?_
  have el : km_899 = sh_add km_898 (15, 5) := rfl
  have hl291 : (sh_lay km_899)[291]? = some (12, 0) := by rw [el]; exact sh_lay_add hl291
  have hl362 : (sh_lay km_899)[362]? = some (15, 5) := by rw [el]; exact sh_lay_new hn
  have hn : (sh_lay km_899).length = 363 := by rw [el]; exact sh_len_add hn
  refine vv_dup_ref 1556 dX12_init_1556 ?_
  refine vv_iconst 1557 dX12_init_1557 ik_0 ?_
  refine vv_bipush 1558 dX12_init_1558 bk_107 ?_
  refine vc_cast (μ1 := km_900) 1560 dX12_init_1560 hl362 (by unfold vp_in; decide) rfl (by decide) rfl ?_
  have el : sh_lay km_900 = sh_lay km_899 := by rw [show km_900 = sh_setI km_899 362 0 107 from rfl]; exact sh_lyI
  have hl291 : (sh_lay km_900)[291]? = some (12, 0) := by rw [el]; exact hl291
  have hl362 : (sh_lay km_900)[362]? = some (15, 5) := by rw [el]; exact hl362
  have hn : (sh_lay km_900).length = 363 := by rw [el]; exact hn
  refine vv_dup_ref 1561 dX12_init_1561 ?_
  refine vv_iconst 1562 dX12_init_1562 ik_1 ?_
  refine vv_bipush 1563 dX12_init_1563 bk_110 ?_
  refine vc_cast (μ1 := km_901) 1565 dX12_init_1565 hl362 (by unfold vp_in; decide) rfl (by decide) rfl ?_
  have el : sh_lay km_901 = sh_lay km_900 := by rw [show km_901 = sh_setI km_900 362 1 110 from rfl]; exact sh_lyI
  have hl291 : (sh_lay km_901)[291]? = some (12, 0) := by rw [el]; exact hl291
  have hl362 : (sh_lay km_901)[362]? = some (15, 5) := by rw [el]; exact hl362
  have hn : (sh_lay km_901).length = 363 := by rw [el]; exact hn
  refine vv_dup_ref 1566 dX12_init_1566 ?_
  refine vv_iconst 1567 dX12_init_1567 ik_2 ?_
  refine vv_bipush 1568 dX12_init_1568 bk_111 ?_
  refine vc_cast (μ1 := km_902) 1570 dX12_init_1570 hl362 (by unfold vp_in; decide) rfl (by decide) rfl ?_
  have el : sh_lay km_902 = sh_lay km_901 := by rw [show km_902 = sh_setI km_901 362 2 111 from rfl]; exact sh_lyI
  have hl291 : (sh_lay km_902)[291]? = some (12, 0) := by rw [el]; exact hl291
  have hl362 : (sh_lay km_902)[362]? = some (15, 5) := by rw [el]; exact hl362
  have hn : (sh_lay km_902).length = 363 := by rw [el]; exact hn
  refine vv_dup_ref 1571 dX12_init_1571 ?_
  refine vv_iconst 1572 dX12_init_1572 ik_3 ?_
  refine vv_bipush 1573 dX12_init_1573 bk_119 ?_
  refine vc_cast (μ1 := km_903) 1575 dX12_init_1575 hl362 (by unfold vp_in; decide) rfl (by decide) rfl ?_
  have el : sh_lay km_903 = sh_lay km_902 := by rw [show km_903 = sh_setI km_902 362 3 119 from rfl]; exact sh_lyI
  have hl291 : (sh_lay km_903)[291]? = some (12, 0) := by rw [el]; exact hl291
  have hl362 : (sh_lay km_903)[362]? = some (15, 5) := by rw [el]; exact hl362
  have hn : (sh_lay km_903).length = 363 := by rw [el]; exact hn
  refine vv_dup_ref 1576 dX12_init_1576 ?_
  refine vv_iconst 1577 dX12_init_1577 ik_4 ?_
  refine vv_bipush 1578 dX12_init_1578 bk_115 ?_
  refine vc_cast (μ1 := km_904) 1580 dX12_init_1580 hl362 (by unfold vp_in; decide) rfl (by decide) rfl ?_
  have el : sh_lay km_904 = sh_lay km_903 := by rw [show km_904 = sh_setI km_903 362 4 115 from rfl]; exact sh_lyI
  have hl291 : (sh_lay km_904)[291]? = some (12, 0) := by rw [el]; exact hl291
  have hl362 : (sh_lay km_904)[362]? = some (15, 5) := by rw [el]; exact hl362
  have hn : (sh_lay km_904).length = 363 := by rw [el]; exact hn
  refine vn_putR 1581 dX12_init_1581 fl_12_230 (Or.inr ⟨rfl, rfl, rfl⟩) rfl hl291 (fun y ey => ?_)
  obtain rfl : y = km_905 := ey
  have el : sh_lay km_905 = sh_lay km_904 := by rw [show km_905 = sh_setR km_904 291 100 (some 362) from rfl]; exact sh_lyR
  have hl291 : (sh_lay km_905)[291]? = some (12, 0) := by rw [el]; exact hl291
  have hn : (sh_lay km_905).length = 363 := by rw [el]; exact hn
  refine vv_aload_n 1584 0 dX12_init_1584 rfl rfl ?_
  refine vv_iconst 1585 dX12_init_1585 ik_5 ?_
  refine vk_newa (N := 5) (c1 := 72) (s1 := 21937) 15 .char (Or.inr (Or.inr ⟨rfl, rfl⟩)) 1586 dX12_init_1586 ac_15 (by decide) (by decide) (Nat.le_of_ble_eq_true rfl) (n := 363) hn (μ1 := km_906) rfl rfl rfl (Nat.le_of_ble_eq_true rfl) (Nat.le_of_ble_eq_true rfl) ?_
  have el : km_906 = sh_add km_905 (15, 5) := rfl
  have hl291 : (sh_lay km_906)[291]? = some (12, 0) := by rw [el]; exact sh_lay_add hl291
  have hl363 : (sh_lay km_906)[363]? = some (15, 5) := by rw [el]; exact sh_lay_new hn
  have hn : (sh_lay km_906).length = 364 := by rw [el]; exact sh_len_add hn
  refine vv_dup_ref 1588 dX12_init_1588 ?_
  refine vv_iconst 1589 dX12_init_1589 ik_0 ?_
  refine vv_bipush 1590 dX12_init_1590 bk_108 ?_
  refine vc_cast (μ1 := km_907) 1592 dX12_init_1592 hl363 (by unfold vp_in; decide) rfl (by decide) rfl ?_
  have el : sh_lay km_907 = sh_lay km_906 := by rw [show km_907 = sh_setI km_906 363 0 108 from rfl]; exact sh_lyI
  have hl291 : (sh_lay km_907)[291]? = some (12, 0) := by rw [el]; exact hl291
  have hl363 : (sh_lay km_907)[363]? = some (15, 5) := by rw [el]; exact hl363
  have hn : (sh_lay km_907).length = 364 := by rw [el]; exact hn
  refine vv_dup_ref 1593 dX12_init_1593 ?_
  refine vv_iconst 1594 dX12_init_1594 ik_1 ?_
  refine vv_bipush 1595 dX12_init_1595 bk_105 ?_
  refine vc_cast (μ1 := km_908) 1597 dX12_init_1597 hl363 (by unfold vp_in; decide) rfl (by decide) rfl ?_
  have el : sh_lay km_908 = sh_lay km_907 := by rw [show km_908 = sh_setI km_907 363 1 105 from rfl]; exact sh_lyI
  have hl291 : (sh_lay km_908)[291]? = some (12, 0) := by rw [el]; exact hl291
  have hl363 : (sh_lay km_908)[363]? = some (15, 5) := by rw [el]; exact hl363
  have hn : (sh_lay km_908).length = 364 := by rw [el]; exact hn
  refine vv_dup_ref 1598 dX12_init_1598 ?_
  refine vv_iconst 1599 dX12_init_1599 ik_2 ?_
  refine vv_bipush 1600 dX12_init_1600 bk_102 ?_
  refine vc_cast (μ1 := km_909) 1602 dX12_init_1602 hl363 (by unfold vp_in; decide) rfl (by decide) rfl ?_
  have el : sh_lay km_909 = sh_lay km_908 := by rw [show km_909 = sh_setI km_908 363 2 102 from rfl]; exact sh_lyI
  have hl291 : (sh_lay km_909)[291]? = some (12, 0) := by rw [el]; exact hl291
  have hl363 : (sh_lay km_909)[363]? = some (15, 5) := by rw [el]; exact hl363
  have hn : (sh_lay km_909).length = 364 := by rw [el]; exact hn
  refine vv_dup_ref 1603 dX12_init_1603 ?_
  refine vv_iconst 1604 dX12_init_1604 ik_3 ?_
  refine vv_bipush 1605 dX12_init_1605 bk_116 ?_
  refine vc_cast (μ1 := km_910) 1607 dX12_init_1607 hl363 (by unfold vp_in; decide) rfl (by decide) rfl ?_
  have el : sh_lay km_910 = sh_lay km_909 := by rw [show km_910 = sh_setI km_909 363 3 116 from rfl]; exact sh_lyI
  have hl291 : (sh_lay km_910)[291]? = some (12, 0) := by rw [el]; exact hl291
  have hl363 : (sh_lay km_910)[363]? = some (15, 5) := by rw [el]; exact hl363
  have hn : (sh_lay km_910).length = 364 := by rw [el]; exact hn
  refine vv_dup_ref 1608 dX12_init_1608 ?_
  refine vv_iconst 1609 dX12_init_1609 ik_4 ?_
  refine vv_bipush 1610 dX12_init_1610 bk_115 ?_
  refine vc_cast (μ1 := km_911) 1612 dX12_init_1612 hl363 (by unfold vp_in; decide) rfl (by decide) rfl ?_
  have el : sh_lay km_911 = sh_lay km_910 := by rw [show km_911 = sh_setI km_910 363 4 115 from rfl]; exact sh_lyI
  have hl291 : (sh_lay km_911)[291]? = some (12, 0) := by rw [el]; exact hl291
  have hl363 : (sh_lay km_911)[363]? = some (15, 5) := by rw [el]; exact hl363
  have hn : (sh_lay km_911).length = 364 := by rw [el]; exact hn
  refine vn_putR 1613 dX12_init_1613 fl_12_233 (Or.inr ⟨rfl, rfl, rfl⟩) rfl hl291 (fun y ey => ?_)
  obtain rfl : y = km_912 := ey
  have el : sh_lay km_912 = sh_lay km_911 := by rw [show km_912 = sh_setR km_911 291 101 (some 363) from rfl]; exact sh_lyR
  have hl291 : (sh_lay km_912)[291]? = some (12, 0) := by rw [el]; exact hl291
  have hn : (sh_lay km_912).length = 364 := by rw [el]; exact hn
  refine vv_aload_n 1616 0 dX12_init_1616 rfl rfl ?_
  refine vv_sipush 1617 dX12_init_1617 sk_1700 ?_
  refine vk_newa (N := 1700) (c1 := 73) (s1 := 23637) 13 .int (Or.inl ⟨rfl, rfl⟩) 1620 dX12_init_1620 ac_13 (by decide) (by decide) (Nat.le_of_ble_eq_true rfl) (n := 364) hn (μ1 := km_913) rfl rfl rfl (Nat.le_of_ble_eq_true rfl) (Nat.le_of_ble_eq_true rfl) ?_
  have el : km_913 = sh_add km_912 (13, 1700) := rfl
  have hl291 : (sh_lay km_913)[291]? = some (12, 0) := by rw [el]; exact sh_lay_add hl291
  have hl364 : (sh_lay km_913)[364]? = some (13, 1700) := by rw [el]; exact sh_lay_new hn
  have hn : (sh_lay km_913).length = 365 := by rw [el]; exact sh_len_add hn
  refine vn_putR 1622 dX12_init_1622 fl_12_236 (Or.inr ⟨rfl, rfl, rfl⟩) rfl hl291 (fun y ey => ?_)
  obtain rfl : y = km_914 := ey
  have el : sh_lay km_914 = sh_lay km_913 := by rw [show km_914 = sh_setR km_913 291 102 (some 364) from rfl]; exact sh_lyR
  have hl291 : (sh_lay km_914)[291]? = some (12, 0) := by rw [el]; exact hl291
  have hn : (sh_lay km_914).length = 365 := by rw [el]; exact hn
  refine vv_aload_n 1625 0 dX12_init_1625 rfl rfl ?_
  refine vv_sipush 1626 dX12_init_1626 sk_1700 ?_
  refine vk_newa (N := 1700) (c1 := 74) (s1 := 25337) 13 .int (Or.inl ⟨rfl, rfl⟩) 1629 dX12_init_1629 ac_13 (by decide) (by decide) (Nat.le_of_ble_eq_true rfl) (n := 365) hn (μ1 := km_915) rfl rfl rfl (Nat.le_of_ble_eq_true rfl) (Nat.le_of_ble_eq_true rfl) ?_
  have el : km_915 = sh_add km_914 (13, 1700) := rfl
  have hl291 : (sh_lay km_915)[291]? = some (12, 0) := by rw [el]; exact sh_lay_add hl291
  have hl365 : (sh_lay km_915)[365]? = some (13, 1700) := by rw [el]; exact sh_lay_new hn
  have hn : (sh_lay km_915).length = 366 := by rw [el]; exact sh_len_add hn
  refine vn_putR 1631 dX12_init_1631 fl_12_239 (Or.inr ⟨rfl, rfl, rfl⟩) rfl hl291 (fun y ey => ?_)
  obtain rfl : y = km_916 := ey
  have el : sh_lay km_916 = sh_lay km_915 := by rw [show km_916 = sh_setR km_915 291 104 (some 365) from rfl]; exact sh_lyR
  have hl291 : (sh_lay km_916)[291]? = some (12, 0) := by rw [el]; exact hl291
  have hn : (sh_lay km_916).length = 366 := by rw [el]; exact hn
  refine vv_aload_n 1634 0 dX12_init_1634 rfl rfl ?_
  refine vv_sipush 1635 dX12_init_1635 sk_1700 ?_
  refine vk_newa (N := 1700) (c1 := 75) (s1 := 27037) 14 .long (Or.inr (Or.inl ⟨rfl, rfl⟩)) 1638 dX12_init_1638 ac_14 (by decide) (by decide) (Nat.le_of_ble_eq_true rfl) (n := 366) hn (μ1 := km_917) rfl rfl rfl (Nat.le_of_ble_eq_true rfl) (Nat.le_of_ble_eq_true rfl) ?_
  have el : km_917 = sh_add km_916 (14, 1700) := rfl
  have hl291 : (sh_lay km_917)[291]? = some (12, 0) := by rw [el]; exact sh_lay_add hl291
  have hl366 : (sh_lay km_917)[366]? = some (14, 1700) := by rw [el]; exact sh_lay_new hn
  have hn : (sh_lay km_917).length = 367 := by rw [el]; exact sh_len_add hn
  refine vn_putR 1640 dX12_init_1640 fl_12_242 (Or.inr ⟨rfl, rfl, rfl⟩) rfl hl291 (fun y ey => ?_)
  obtain rfl : y = km_918 := ey
  have el : sh_lay km_918 = sh_lay km_917 := by rw [show km_918 = sh_setR km_917 291 108 (some 366) from rfl]; exact sh_lyR
  have hl291 : (sh_lay km_918)[291]? = some (12, 0) := by rw [el]; exact hl291
  have hn : (sh_lay km_918).length = 367 := by rw [el]; exact hn
  refine vv_aload_n 1643 0 dX12_init_1643 rfl rfl ?_
  refine vv_bipush 1644 dX12_init_1644 bk_80 ?_
  refine vk_newa (N := 80) (c1 := 76) (s1 := 27117) 13 .int (Or.inl ⟨rfl, rfl⟩) 1646 dX12_init_1646 ac_13 (by decide) (by decide) (Nat.le_of_ble_eq_true rfl) (n := 367) hn (μ1 := km_919) rfl rfl rfl (Nat.le_of_ble_eq_true rfl) (Nat.le_of_ble_eq_true rfl) ?_
  have el : km_919 = sh_add km_918 (13, 80) := rfl
  have hl291 : (sh_lay km_919)[291]? = some (12, 0) := by rw [el]; exact sh_lay_add hl291
  have hl367 : (sh_lay km_919)[367]? = some (13, 80) := by rw [el]; exact sh_lay_new hn
  have hn : (sh_lay km_919).length = 368 := by rw [el]; exact sh_len_add hn
  refine vn_putR 1648 dX12_init_1648 fl_12_245 (Or.inr ⟨rfl, rfl, rfl⟩) rfl hl291 (fun y ey => ?_)
  obtain rfl : y = km_920 := ey
  have el : sh_lay km_920 = sh_lay km_919 := by rw [show km_920 = sh_setR km_919 291 112 (some 367) from rfl]; exact sh_lyR
  have hl291 : (sh_lay km_920)[291]? = some (12, 0) := by rw [el]; exact hl291
  have hn : (sh_lay km_920).length = 368 := by rw [el]; exact hn
  refine vv_vret 1651 dX12_init_1651 rfl (Nat.le_of_ble_eq_true rfl) (Nat.le_of_ble_eq_true rfl) ⟨rfl, rfl⟩
end
