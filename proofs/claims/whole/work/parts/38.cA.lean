section
variable {l : Launch} {B : Nat} {D : va_G} {ca : Nat → ClassId}
set_option maxHeartbeats 40000000 in
theorem kc_1 : sh_Con l B D ca 1 0 0 M_X8_init [.ref 2, .ref 1] km_4 (fun v μ' => v = none ∧ μ' = km_5) := by
  have hn : (sh_lay km_4).length = 3 := by decide +kernel
  refine vv_aload_n 0 0 dX8_init_0 rfl rfl ?_
  refine vv_objInit 1 dX8_init_1 ck_X8_3 (Nat.le_of_ble_eq_true rfl) (Nat.le_of_ble_eq_true rfl) ?_
  refine vv_aload_n 4 0 dX8_init_4 rfl rfl ?_
  refine vv_aload_n 5 1 dX8_init_5 rfl rfl ?_
  have hl2 : (sh_lay km_4)[2]? = some (8, 0) := by decide +kernel
  refine vn_putR 6 dX8_init_6 fl_8_9 (Or.inr ⟨rfl, rfl, rfl⟩) rfl hl2 (fun y ey => ?_)
  obtain rfl : y = km_5 := ey
  have el : sh_lay km_5 = sh_lay km_4 := by rw [show km_5 = sh_setR km_4 2 0 (some 1) from rfl]; exact sh_lyR
  have hl2 : (sh_lay km_5)[2]? = some (8, 0) := by rw [el]; exact hl2
  have hn : (sh_lay km_5).length = 3 := by rw [el]; exact hn
  refine vv_vret 9 dX8_init_9 rfl (Nat.le_of_ble_eq_true rfl) (Nat.le_of_ble_eq_true rfl) ⟨rfl, rfl⟩
set_option maxHeartbeats 40000000 in
theorem kc_2 : sh_Con l B D ca 1 2 1664 M_X1_init [.ref 3] km_7 (fun v μ' => v = none ∧ μ' = km_11) := by
  have hn : (sh_lay km_7).length = 4 := by decide +kernel
  refine vv_aload_n 0 0 dX1_init_0 rfl rfl ?_
  refine vv_objInit 1 dX1_init_1 ck_X1_3 (Nat.le_of_ble_eq_true rfl) (Nat.le_of_ble_eq_true rfl) ?_
  refine vv_aload_n 4 0 dX1_init_4 rfl rfl ?_
  refine vv_sipush 5 dX1_init_5 sk_1600 ?_
  refine vk_newa (N := 1600) (c1 := 1) (s1 := 1600) 13 .int (Or.inl ⟨rfl, rfl⟩) 8 dX1_init_8 ac_13 (by decide) (by decide) (Nat.le_of_ble_eq_true rfl) (n := 4) hn (μ1 := km_8) rfl rfl rfl (Nat.le_of_ble_eq_true rfl) (Nat.le_of_ble_eq_true rfl) ?_
  have el : km_8 = sh_add km_7 (13, 1600) := rfl
  have hl4 : (sh_lay km_8)[4]? = some (13, 1600) := by rw [el]; exact sh_lay_new hn
  have hn : (sh_lay km_8).length = 5 := by rw [el]; exact sh_len_add hn
  have hl3 : (sh_lay km_8)[3]? = some (1, 0) := by decide +kernel
  refine vn_putR 10 dX1_init_10 fl_1_9 (Or.inr ⟨rfl, rfl, rfl⟩) rfl hl3 (fun y ey => ?_)
  obtain rfl : y = km_9 := ey
  have el : sh_lay km_9 = sh_lay km_8 := by rw [show km_9 = sh_setR km_8 3 0 (some 4) from rfl]; exact sh_lyR
  have hl3 : (sh_lay km_9)[3]? = some (1, 0) := by rw [el]; exact hl3
  have hn : (sh_lay km_9).length = 5 := by rw [el]; exact hn
  refine vv_aload_n 13 0 dX1_init_13 rfl rfl ?_
  refine vv_bipush 14 dX1_init_14 bk_64 ?_
  refine vk_newa (N := 64) (c1 := 2) (s1 := 1664) 14 .long (Or.inr (Or.inl ⟨rfl, rfl⟩)) 16 dX1_init_16 ac_14 (by decide) (by decide) (Nat.le_of_ble_eq_true rfl) (n := 5) hn (μ1 := km_10) rfl rfl rfl (Nat.le_of_ble_eq_true rfl) (Nat.le_of_ble_eq_true rfl) ?_
  have el : km_10 = sh_add km_9 (14, 64) := rfl
  have hl3 : (sh_lay km_10)[3]? = some (1, 0) := by rw [el]; exact sh_lay_add hl3
  have hl5 : (sh_lay km_10)[5]? = some (14, 64) := by rw [el]; exact sh_lay_new hn
  have hn : (sh_lay km_10).length = 6 := by rw [el]; exact sh_len_add hn
  refine vn_putR 18 dX1_init_18 fl_1_15 (Or.inr ⟨rfl, rfl, rfl⟩) rfl hl3 (fun y ey => ?_)
  obtain rfl : y = km_11 := ey
  have el : sh_lay km_11 = sh_lay km_10 := by rw [show km_11 = sh_setR km_10 3 2 (some 5) from rfl]; exact sh_lyR
  have hl3 : (sh_lay km_11)[3]? = some (1, 0) := by rw [el]; exact hl3
  have hn : (sh_lay km_11).length = 6 := by rw [el]; exact hn
  refine vv_vret 21 dX1_init_21 rfl (Nat.le_of_ble_eq_true rfl) (Nat.le_of_ble_eq_true rfl) ⟨rfl, rfl⟩
set_option maxHeartbeats 40000000 in
theorem kc_3 : sh_Con l B D ca 1 0 0 M_X2_init [.ref 6, .ref 2, .ref 3] km_13 (fun v μ' => v = none ∧ μ' = km_15) := by
  have hn : (sh_lay km_13).length = 7 := by decide +kernel
  refine vv_aload_n 0 0 dX2_init_0 rfl rfl ?_
  refine vv_objInit 1 dX2_init_1 ck_X2_3 (Nat.le_of_ble_eq_true rfl) (Nat.le_of_ble_eq_true rfl) ?_
  refine vv_aload_n 4 0 dX2_init_4 rfl rfl ?_
  refine vv_aload_n 5 1 dX2_init_5 rfl rfl ?_
  have hl6 : (sh_lay km_13)[6]? = some (2, 0) := by decide +kernel
  refine vn_putR 6 dX2_init_6 fl_2_9 (Or.inr ⟨rfl, rfl, rfl⟩) rfl hl6 (fun y ey => ?_)
  obtain rfl : y = km_14 := ey
  have el : sh_lay km_14 = sh_lay km_13 := by rw [show km_14 = sh_setR km_13 6 0 (some 2) from rfl]; exact sh_lyR
  have hl6 : (sh_lay km_14)[6]? = some (2, 0) := by rw [el]; exact hl6
  have hn : (sh_lay km_14).length = 7 := by rw [el]; exact hn
  refine vv_aload_n 9 0 dX2_init_9 rfl rfl ?_
  refine vv_aload_n 10 2 dX2_init_10 rfl rfl ?_
  refine vn_putR 11 dX2_init_11 fl_2_15 (Or.inl rfl) rfl hl6 (fun y ey => ?_)
  obtain rfl : y = km_15 := ey
  have el : sh_lay km_15 = sh_lay km_14 := by rw [show km_15 = sh_setR km_14 6 1 (some 3) from rfl]; exact sh_lyR
  have hl6 : (sh_lay km_15)[6]? = some (2, 0) := by rw [el]; exact hl6
  have hn : (sh_lay km_15).length = 7 := by rw [el]; exact hn
  refine vv_vret 14 dX2_init_14 rfl (Nat.le_of_ble_eq_true rfl) (Nat.le_of_ble_eq_true rfl) ⟨rfl, rfl⟩
set_option maxHeartbeats 40000000 in
theorem kc_4 : sh_Con l B D ca 1 2 1664 M_X1_init [.ref 13] km_27 (fun v μ' => v = none ∧ μ' = km_31) := by
  have hn : (sh_lay km_27).length = 14 := by decide +kernel
  refine vv_aload_n 0 0 dX1_init_0 rfl rfl ?_
  refine vv_objInit 1 dX1_init_1 ck_X1_3 (Nat.le_of_ble_eq_true rfl) (Nat.le_of_ble_eq_true rfl) ?_
  refine vv_aload_n 4 0 dX1_init_4 rfl rfl ?_
  refine vv_sipush 5 dX1_init_5 sk_1600 ?_
  refine vk_newa (N := 1600) (c1 := 1) (s1 := 1600) 13 .int (Or.inl ⟨rfl, rfl⟩) 8 dX1_init_8 ac_13 (by decide) (by decide) (Nat.le_of_ble_eq_true rfl) (n := 14) hn (μ1 := km_28) rfl rfl rfl (Nat.le_of_ble_eq_true rfl) (Nat.le_of_ble_eq_true rfl) ?_
  have el : km_28 = sh_add km_27 (13, 1600) := rfl
  have hl14 : (sh_lay km_28)[14]? = some (13, 1600) := by rw [el]; exact sh_lay_new hn
  have hn : (sh_lay km_28).length = 15 := by rw [el]; exact sh_len_add hn
  have hl13 : (sh_lay km_28)[13]? = some (1, 0) := by decide +kernel
  refine vn_putR 10 dX1_init_10 fl_1_9 (Or.inr ⟨rfl, rfl, rfl⟩) rfl hl13 (fun y ey => ?_)
  obtain rfl : y = km_29 := ey
  have el : sh_lay km_29 = sh_lay km_28 := by rw [show km_29 = sh_setR km_28 13 0 (some 14) from rfl]; exact sh_lyR
  have hl13 : (sh_lay km_29)[13]? = some (1, 0) := by rw [el]; exact hl13
  have hn : (sh_lay km_29).length = 15 := by rw [el]; exact hn
  refine vv_aload_n 13 0 dX1_init_13 rfl rfl ?_
  refine vv_bipush 14 dX1_init_14 bk_64 ?_
  refine vk_newa (N := 64) (c1 := 2) (s1 := 1664) 14 .long (Or.inr (Or.inl ⟨rfl, rfl⟩)) 16 dX1_init_16 ac_14 (by decide) (by decide) (Nat.le_of_ble_eq_true rfl) (n := 15) hn (μ1 := km_30) rfl rfl rfl (Nat.le_of_ble_eq_true rfl) (Nat.le_of_ble_eq_true rfl) ?_
  have el : km_30 = sh_add km_29 (14, 64) := rfl
  have hl13 : (sh_lay km_30)[13]? = some (1, 0) := by rw [el]; exact sh_lay_add hl13
  have hl15 : (sh_lay km_30)[15]? = some (14, 64) := by rw [el]; exact sh_lay_new hn
  have hn : (sh_lay km_30).length = 16 := by rw [el]; exact sh_len_add hn
  refine vn_putR 18 dX1_init_18 fl_1_15 (Or.inr ⟨rfl, rfl, rfl⟩) rfl hl13 (fun y ey => ?_)
  obtain rfl : y = km_31 := ey
  have el : sh_lay km_31 = sh_lay km_30 := by rw [show km_31 = sh_setR km_30 13 2 (some 15) from rfl]; exact sh_lyR
  have hl13 : (sh_lay km_31)[13]? = some (1, 0) := by rw [el]; exact hl13
  have hn : (sh_lay km_31).length = 16 := by rw [el]; exact hn
  refine vv_vret 21 dX1_init_21 rfl (Nat.le_of_ble_eq_true rfl) (Nat.le_of_ble_eq_true rfl) ⟨rfl, rfl⟩
set_option maxHeartbeats 40000000 in
theorem kc_5 : sh_Con l B D ca 1 2 1664 M_X1_init [.ref 16] km_33 (fun v μ' => v = none ∧ μ' = km_37) := by
  have hn : (sh_lay km_33).length = 17 := by decide +kernel
  refine vv_aload_n 0 0 dX1_init_0 rfl rfl ?_
  refine vv_objInit 1 dX1_init_1 ck_X1_3 (Nat.le_of_ble_eq_true rfl) (Nat.le_of_ble_eq_true rfl) ?_
  refine vv_aload_n 4 0 dX1_init_4 rfl rfl ?_
  refine vv_sipush 5 dX1_init_5 sk_1600 ?_
  refine vk_newa (N := 1600) (c1 := 1) (s1 := 1600) 13 .int (Or.inl ⟨rfl, rfl⟩) 8 dX1_init_8 ac_13 (by decide) (by decide) (Nat.le_of_ble_eq_true rfl) (n := 17) hn (μ1 := km_34) rfl rfl rfl (Nat.le_of_ble_eq_true rfl) (Nat.le_of_ble_eq_true rfl) ?_
  have el : km_34 = sh_add km_33 (13, 1600) := rfl
  have hl17 : (sh_lay km_34)[17]? = some (13, 1600) := by rw [el]; exact sh_lay_new hn
  have hn : (sh_lay km_34).length = 18 := by rw [el]; exact sh_len_add hn
  have hl16 : (sh_lay km_34)[16]? = some (1, 0) := by decide +kernel
  refine vn_putR 10 dX1_init_10 fl_1_9 (Or.inr ⟨rfl, rfl, rfl⟩) rfl hl16 (fun y ey => ?_)
  obtain rfl : y = km_35 := ey
  have el : sh_lay km_35 = sh_lay km_34 := by rw [show km_35 = sh_setR km_34 16 0 (some 17) from rfl]; exact sh_lyR
  have hl16 : (sh_lay km_35)[16]? = some (1, 0) := by rw [el]; exact hl16
  have hn : (sh_lay km_35).length = 18 := by rw [el]; exact hn
  refine vv_aload_n 13 0 dX1_init_13 rfl rfl ?_
  refine vv_bipush 14 dX1_init_14 bk_64 ?_
  refine vk_newa (N := 64) (c1 := 2) (s1 := 1664) 14 .long (Or.inr (Or.inl ⟨rfl, rfl⟩)) 16 dX1_init_16 ac_14 (by decide) (by decide) (Nat.le_of_ble_eq_true rfl) (n := 18) hn (μ1 := km_36) rfl rfl rfl (Nat.le_of_ble_eq_true rfl) (Nat.le_of_ble_eq_true rfl) ?_
  have el : km_36 = sh_add km_35 (14, 64) := rfl
  have hl16 : (sh_lay km_36)[16]? = some (1, 0) := by rw [el]; exact sh_lay_add hl16
  have hl18 : (sh_lay km_36)[18]? = some (14, 64) := by rw [el]; exact sh_lay_new hn
  have hn : (sh_lay km_36).length = 19 := by rw [el]; exact sh_len_add hn
  refine vn_putR 18 dX1_init_18 fl_1_15 (Or.inr ⟨rfl, rfl, rfl⟩) rfl hl16 (fun y ey => ?_)
  obtain rfl : y = km_37 := ey
  have el : sh_lay km_37 = sh_lay km_36 := by rw [show km_37 = sh_setR km_36 16 2 (some 18) from rfl]; exact sh_lyR
  have hl16 : (sh_lay km_37)[16]? = some (1, 0) := by rw [el]; exact hl16
  have hn : (sh_lay km_37).length = 19 := by rw [el]; exact hn
  refine vv_vret 21 dX1_init_21 rfl (Nat.le_of_ble_eq_true rfl) (Nat.le_of_ble_eq_true rfl) ⟨rfl, rfl⟩
set_option maxHeartbeats 40000000 in
theorem kc_6 : sh_Con l B D ca 1 2 1664 M_X1_init [.ref 19] km_39 (fun v μ' => v = none ∧ μ' = km_43) := by
  have hn : (sh_lay km_39).length = 20 := by decide +kernel
  refine vv_aload_n 0 0 dX1_init_0 rfl rfl ?_
  refine vv_objInit 1 dX1_init_1 ck_X1_3 (Nat.le_of_ble_eq_true rfl) (Nat.le_of_ble_eq_true rfl) ?_
  refine vv_aload_n 4 0 dX1_init_4 rfl rfl ?_
  refine vv_sipush 5 dX1_init_5 sk_1600 ?_
  refine vk_newa (N := 1600) (c1 := 1) (s1 := 1600) 13 .int (Or.inl ⟨rfl, rfl⟩) 8 dX1_init_8 ac_13 (by decide) (by decide) (Nat.le_of_ble_eq_true rfl) (n := 20) hn (μ1 := km_40) rfl rfl rfl (Nat.le_of_ble_eq_true rfl) (Nat.le_of_ble_eq_true rfl) ?_
  have el : km_40 = sh_add km_39 (13, 1600) := rfl
  have hl20 : (sh_lay km_40)[20]? = some (13, 1600) := by rw [el]; exact sh_lay_new hn
  have hn : (sh_lay km_40).length = 21 := by rw [el]; exact sh_len_add hn
  have hl19 : (sh_lay km_40)[19]? = some (1, 0) := by decide +kernel
  refine vn_putR 10 dX1_init_10 fl_1_9 (Or.inr ⟨rfl, rfl, rfl⟩) rfl hl19 (fun y ey => ?_)
  obtain rfl : y = km_41 := ey
  have el : sh_lay km_41 = sh_lay km_40 := by rw [show km_41 = sh_setR km_40 19 0 (some 20) from rfl]; exact sh_lyR
  have hl19 : (sh_lay km_41)[19]? = some (1, 0) := by rw [el]; exact hl19
  have hn : (sh_lay km_41).length = 21 := by rw [el]; exact hn
  refine vv_aload_n 13 0 dX1_init_13 rfl rfl ?_
  refine vv_bipush 14 dX1_init_14 bk_64 ?_
  refine vk_newa (N := 64) (c1 := 2) (s1 := 1664) 14 .long (Or.inr (Or.inl ⟨rfl, rfl⟩)) 16 dX1_init_16 ac_14 (by decide) (by decide) (Nat.le_of_ble_eq_true rfl) (n := 21) hn (μ1 := km_42) rfl rfl rfl (Nat.le_of_ble_eq_true rfl) (Nat.le_of_ble_eq_true rfl) ?_
  have el : km_42 = sh_add km_41 (14, 64) := rfl
  have hl19 : (sh_lay km_42)[19]? = some (1, 0) := by rw [el]; exact sh_lay_add hl19
  have hl21 : (sh_lay km_42)[21]? = some (14, 64) := by rw [el]; exact sh_lay_new hn
  have hn : (sh_lay km_42).length = 22 := by rw [el]; exact sh_len_add hn
  refine vn_putR 18 dX1_init_18 fl_1_15 (Or.inr ⟨rfl, rfl, rfl⟩) rfl hl19 (fun y ey => ?_)
  obtain rfl : y = km_43 := ey
  have el : sh_lay km_43 = sh_lay km_42 := by rw [show km_43 = sh_setR km_42 19 2 (some 21) from rfl]; exact sh_lyR
  have hl19 : (sh_lay km_43)[19]? = some (1, 0) := by rw [el]; exact hl19
  have hn : (sh_lay km_43).length = 22 := by rw [el]; exact hn
  refine vv_vret 21 dX1_init_21 rfl (Nat.le_of_ble_eq_true rfl) (Nat.le_of_ble_eq_true rfl) ⟨rfl, rfl⟩
set_option maxHeartbeats 40000000 in
theorem kc_7 : sh_Con l B D ca 1 5 77 M_X3_init [.ref 22] km_45 (fun v μ' => v = none ∧ μ' = km_55) := by
  have hn : (sh_lay km_45).length = 23 := by decide +kernel
  refine vv_aload_n 0 0 dX3_init_0 rfl rfl ?_
  refine vv_objInit 1 dX3_init_1 ck_X3_3 (Nat.le_of_ble_eq_true rfl) (Nat.le_of_ble_eq_true rfl) ?_
  refine vv_aload_n 4 0 dX3_init_4 rfl rfl ?_
  refine vv_bipush 5 dX3_init_5 bk_49 ?_
  refine vk_newa (N := 49) (c1 := 1) (s1 := 49) 13 .int (Or.inl ⟨rfl, rfl⟩) 7 dX3_init_7 ac_13 (by decide) (by decide) (Nat.le_of_ble_eq_true rfl) (n := 23) hn (μ1 := km_46) rfl rfl rfl (Nat.le_of_ble_eq_true rfl) (Nat.le_of_ble_eq_true rfl) ?_
  have el : km_46 = sh_add km_45 (13, 49) := rfl
  have hl23 : (sh_lay km_46)[23]? = some (13, 49) := by rw [el]; exact sh_lay_new hn
  have hn : (sh_lay km_46).length = 24 := by rw [el]; exact sh_len_add hn
  have hl22 : (sh_lay km_46)[22]? = some (3, 0) := by decide +kernel
  refine vn_putR 9 dX3_init_9 fl_3_9 (Or.inr ⟨rfl, rfl, rfl⟩) rfl hl22 (fun y ey => ?_)
  obtain rfl : y = km_47 := ey
  have el : sh_lay km_47 = sh_lay km_46 := by rw [show km_47 = sh_setR km_46 22 1 (some 23) from rfl]; exact sh_lyR
  have hl22 : (sh_lay km_47)[22]? = some (3, 0) := by rw [el]; exact hl22
  have hn : (sh_lay km_47).length = 24 := by rw [el]; exact hn
  refine vv_aload_n 12 0 dX3_init_12 rfl rfl ?_
  refine vv_bipush 13 dX3_init_13 bk_7 ?_
  refine vk_newa (N := 7) (c1 := 2) (s1 := 56) 13 .int (Or.inl ⟨rfl, rfl⟩) 15 dX3_init_15 ac_13 (by decide) (by decide) (Nat.le_of_ble_eq_true rfl) (n := 24) hn (μ1 := km_48) rfl rfl rfl (Nat.le_of_ble_eq_true rfl) (Nat.le_of_ble_eq_true rfl) ?_
  have el : km_48 = sh_add km_47 (13, 7) := rfl
  have hl22 : (sh_lay km_48)[22]? = some (3, 0) := by rw [el]; exact sh_lay_add hl22
  have hl24 : (sh_lay km_48)[24]? = some (13, 7) := by rw [el]; exact sh_lay_new hn
  have hn : (sh_lay km_48).length = 25 := by rw [el]; exact sh_len_add hn
  refine vn_putR 17 dX3_init_17 fl_3_15 (Or.inr ⟨rfl, rfl, rfl⟩) rfl hl22 (fun y ey => ?_)
  obtain rfl : y = km_49 := ey
  have el : sh_lay km_49 = sh_lay km_48 := by rw [show km_49 = sh_setR km_48 22 2 (some 24) from rfl]; exact sh_lyR
  have hl22 : (sh_lay km_49)[22]? = some (3, 0) := by rw [el]; exact hl22
  have hn : (sh_lay km_49).length = 25 := by rw [el]; exact hn
  refine vv_aload_n 20 0 dX3_init_20 rfl rfl ?_
  refine vv_bipush 21 dX3_init_21 bk_7 ?_
  refine vk_newa (N := 7) (c1 := 3) (s1 := 63) 13 .int (Or.inl ⟨rfl, rfl⟩) 23 dX3_init_23 ac_13 (by decide) (by decide) (Nat.le_of_ble_eq_true rfl) (n := 25) hn (μ1 := km_50) rfl rfl rfl (Nat.le_of_ble_eq_true rfl) (Nat.le_of_ble_eq_true rfl) ?_
  have el : km_50 = sh_add km_49 (13, 7) := rfl
  have hl22 : (sh_lay km_50)[22]? = some (3, 0) := by rw [el]; exact sh_lay_add hl22
  have hl25 : (sh_lay km_50)[25]? = some (13, 7) := by rw [el]; exact sh_lay_new hn
  have hn : (sh_lay km_50).length = 26 := by rw [el]; exact sh_len_add hn
  refine vn_putR 25 dX3_init_25 fl_3_18 (Or.inr ⟨rfl, rfl, rfl⟩) rfl hl22 (fun y ey => ?_)
  obtain rfl : y = km_51 := ey
  have el : sh_lay km_51 = sh_lay km_50 := by rw [show km_51 = sh_setR km_50 22 3 (some 25) from rfl]; exact sh_lyR
  have hl22 : (sh_lay km_51)[22]? = some (3, 0) := by rw [el]; exact hl22
  have hn : (sh_lay km_51).length = 26 := by rw [el]; exact hn
  refine vv_aload_n 28 0 dX3_init_28 rfl rfl ?_
  refine vv_bipush 29 dX3_init_29 bk_7 ?_
  refine vk_newa (N := 7) (c1 := 4) (s1 := 70) 13 .int (Or.inl ⟨rfl, rfl⟩) 31 dX3_init_31 ac_13 (by decide) (by decide) (Nat.le_of_ble_eq_true rfl) (n := 26) hn (μ1 := km_52) rfl rfl rfl (Nat.le_of_ble_eq_true rfl) (Nat.le_of_ble_eq_true rfl) ?_
  have el : km_52 = sh_add km_51 (13, 7) := rfl
  have hl22 : (sh_lay km_52)[22]? = some (3, 0) := by rw [el]; exact sh_lay_add hl22
  have hl26 : (sh_lay km_52)[26]? = some (13, 7) := by rw [el]; exact sh_lay_new hn
  have hn : (sh_lay km_52).length = 27 := by rw [el]; exact sh_len_add hn
  refine vn_putR 33 dX3_init_33 fl_3_21 (Or.inr ⟨rfl, rfl, rfl⟩) rfl hl22 (fun y ey => ?_)
  obtain rfl : y = km_53 := ey
  have el : sh_lay km_53 = sh_lay km_52 := by rw [show km_53 = sh_setR km_52 22 4 (some 26) from rfl]; exact sh_lyR
  have hl22 : (sh_lay km_53)[22]? = some (3, 0) := by rw [el]; exact hl22
  have hn : (sh_lay km_53).length = 27 := by rw [el]; exact hn
  refine vv_aload_n 36 0 dX3_init_36 rfl rfl ?_
  refine vv_bipush 37 dX3_init_37 bk_7 ?_
  refine vk_newa (N := 7) (c1 := 5) (s1 := 77) 13 .int (Or.inl ⟨rfl, rfl⟩) 39 dX3_init_39 ac_13 (by decide) (by decide) (Nat.le_of_ble_eq_true rfl) (n := 27) hn (μ1 := km_54) rfl rfl rfl (Nat.le_of_ble_eq_true rfl) (Nat.le_of_ble_eq_true rfl) ?_
  have el : km_54 = sh_add km_53 (13, 7) := rfl
  have hl22 : (sh_lay km_54)[22]? = some (3, 0) := by rw [el]; exact sh_lay_add hl22
  have hl27 : (sh_lay km_54)[27]? = some (13, 7) := by rw [el]; exact sh_lay_new hn
  have hn : (sh_lay km_54).length = 28 := by rw [el]; exact sh_len_add hn
  refine vn_putR 41 dX3_init_41 fl_3_24 (Or.inr ⟨rfl, rfl, rfl⟩) rfl hl22 (fun y ey => ?_)
  obtain rfl : y = km_55 := ey
  have el : sh_lay km_55 = sh_lay km_54 := by rw [show km_55 = sh_setR km_54 22 5 (some 27) from rfl]; exact sh_lyR
  have hl22 : (sh_lay km_55)[22]? = some (3, 0) := by rw [el]; exact hl22
  have hn : (sh_lay km_55).length = 28 := by rw [el]; exact hn
  refine vv_vret 44 dX3_init_44 rfl (Nat.le_of_ble_eq_true rfl) (Nat.le_of_ble_eq_true rfl) ⟨rfl, rfl⟩
set_option maxHeartbeats 40000000 in
theorem kc_8 : sh_Con l B D ca 2 19 5120 M_X5_init [.ref 8] km_18 (fun v μ' => v = none ∧ μ' = km_56) := by
  have hn : (sh_lay km_18).length = 9 := by decide +kernel
  refine vv_aload_n 0 0 dX5_init_0 rfl rfl ?_
  refine vv_objInit 1 dX5_init_1 ck_X5_3 (Nat.le_of_ble_eq_true rfl) (Nat.le_of_ble_eq_true rfl) ?_
  refine vv_aload_n 4 0 dX5_init_4 rfl rfl ?_
  refine vv_iconst 5 dX5_init_5 ik_5 ?_
  refine vk_newa (N := 5) (c1 := 1) (s1 := 5) 13 .int (Or.inl ⟨rfl, rfl⟩) 6 dX5_init_6 ac_13 (by decide) (by decide) (Nat.le_of_ble_eq_true rfl) (n := 9) hn (μ1 := km_19) rfl rfl rfl (Nat.le_of_ble_eq_true rfl) (Nat.le_of_ble_eq_true rfl) ?_
  have el : km_19 = sh_add km_18 (13, 5) := rfl
  have hl9 : (sh_lay km_19)[9]? = some (13, 5) := by rw [el]; exact sh_lay_new hn
  have hn : (sh_lay km_19).length = 10 := by rw [el]; exact sh_len_add hn
  have hl8 : (sh_lay km_19)[8]? = some (5, 0) := by decide +kernel
  refine vn_putR 8 dX5_init_8 fl_5_9 (Or.inr ⟨rfl, rfl, rfl⟩) rfl hl8 (fun y ey => ?_)
  obtain rfl : y = km_20 := ey
  have el : sh_lay km_20 = sh_lay km_19 := by rw [show km_20 = sh_setR km_19 8 6 (some 9) from rfl]; exact sh_lyR
  have hl8 : (sh_lay km_20)[8]? = some (5, 0) := by rw [el]; exact hl8
  have hn : (sh_lay km_20).length = 10 := by rw [el]; exact hn
  refine vv_aload_n 11 0 dX5_init_11 rfl rfl ?_
  refine vv_bipush 12 dX5_init_12 bk_7 ?_
  refine vk_newa (N := 7) (c1 := 2) (s1 := 12) 13 .int (Or.inl ⟨rfl, rfl⟩) 14 dX5_init_14 ac_13 (by decide) (by decide) (Nat.le_of_ble_eq_true rfl) (n := 10) hn (μ1 := km_21) rfl rfl rfl (Nat.le_of_ble_eq_true rfl) (Nat.le_of_ble_eq_true rfl) ?_
  have el : km_21 = sh_add km_20 (13, 7) := rfl
  have hl8 : (sh_lay km_21)[8]? = some (5, 0) := by rw [el]; exact sh_lay_add hl8
  have hl10 : (sh_lay km_21)[10]? = some (13, 7) := by rw [el]; exact sh_lay_new hn
  have hn : (sh_lay km_21).length = 11 := by rw [el]; exact sh_len_add hn
  refine vn_putR 16 dX5_init_16 fl_5_15 (Or.inr ⟨rfl, rfl, rfl⟩) rfl hl8 (fun y ey => ?_)
  obtain rfl : y = km_22 := ey
  have el : sh_lay km_22 = sh_lay km_21 := by rw [show km_22 = sh_setR km_21 8 7 (some 10) from rfl]; exact sh_lyR
  have hl8 : (sh_lay km_22)[8]? = some (5, 0) := by rw [el]; exact hl8
  have hn : (sh_lay km_22).length = 11 := by rw [el]; exact hn
  refine vv_aload_n 19 0 dX5_init_19 rfl rfl ?_
  refine vv_bipush 20 dX5_init_20 bk_12 ?_
  refine vk_newa (N := 12) (c1 := 3) (s1 := 24) 13 .int (Or.inl ⟨rfl, rfl⟩) 22 dX5_init_22 ac_13 (by decide) (by decide) (Nat.le_of_ble_eq_true rfl) (n := 11) hn (μ1 := km_23) rfl rfl rfl (Nat.le_of_ble_eq_true rfl) (Nat.le_of_ble_eq_true rfl) ?_
  have el : km_23 = sh_add km_22 (13, 12) := rfl
  have hl8 : (sh_lay km_23)[8]? = some (5, 0) := by rw [el]; exact sh_lay_add hl8
  have hl11 : (sh_lay km_23)[11]? = some (13, 12) := by rw [el]; exact sh_lay_new hn
  have hn : (sh_lay km_23).length = 12 := by rw [el]; exact sh_len_add hn
  refine vn_putR 24 dX5_init_24 fl_5_18 (Or.inr ⟨rfl, rfl, rfl⟩) rfl hl8 (fun y ey => ?_)
  obtain rfl : y = km_24 := ey
  have el : sh_lay km_24 = sh_lay km_23 := by rw [show km_24 = sh_setR km_23 8 8 (some 11) from rfl]; exact sh_lyR
  have hl8 : (sh_lay km_24)[8]? = some (5, 0) := by rw [el]; exact hl8
  have hn : (sh_lay km_24).length = 12 := by rw [el]; exact hn
  refine vv_aload_n 27 0 dX5_init_27 rfl rfl ?_
  refine vv_bipush 28 dX5_init_28 bk_12 ?_
  refine vk_newa (N := 12) (c1 := 4) (s1 := 36) 13 .int (Or.inl ⟨rfl, rfl⟩) 30 dX5_init_30 ac_13 (by decide) (by decide) (Nat.le_of_ble_eq_true rfl) (n := 12) hn (μ1 := km_25) rfl rfl rfl (Nat.le_of_ble_eq_true rfl) (Nat.le_of_ble_eq_true rfl) ?_
  have el : km_25 = sh_add km_24 (13, 12) := rfl
  have hl8 : (sh_lay km_25)[8]? = some (5, 0) := by rw [el]; exact sh_lay_add hl8
  have hl12 : (sh_lay km_25)[12]? = some (13, 12) := by rw [el]; exact sh_lay_new hn
  have hn : (sh_lay km_25).length = 13 := by rw [el]; exact sh_len_add hn
  refine vn_putR 32 dX5_init_32 fl_5_21 (Or.inr ⟨rfl, rfl, rfl⟩) rfl hl8 (fun y ey => ?_)
  obtain rfl : y = km_26 := ey
  have el : sh_lay km_26 = sh_lay km_25 := by rw [show km_26 = sh_setR km_25 8 9 (some 12) from rfl]; exact sh_lyR
  have hl8 : (sh_lay km_26)[8]? = some (5, 0) := by rw [el]; exact hl8
  have hn : (sh_lay km_26).length = 13 := by rw [el]; exact hn
  refine vv_aload_n 35 0 dX5_init_35 rfl rfl ?_
  refine vk_new (c1 := 5) (s1 := 39) 36 dX5_init_36 nw_5_24 (n := 13) hn (μ1 := km_27) rfl rfl rfl (Nat.le_of_ble_eq_true rfl) (Nat.le_of_ble_eq_true rfl) ?_
  have el : km_27 = sh_add km_26 (1, 0) := rfl
  have hl8 : (sh_lay km_27)[8]? = some (5, 0) := by rw [el]; exact sh_lay_add hl8
  have hl13 : (sh_lay km_27)[13]? = some (1, 0) := by rw [el]; exact sh_lay_new hn
  have hn : (sh_lay km_27).length = 14 := by rw [el]; exact sh_len_add hn
  refine vv_dup_ref 39 dX5_init_39 ?_
  refine vk_callIN (c1 := 7) (s1 := 1703) [] 40 dX5_init_40 ck_X5_26 kc_4 (Nat.le_of_ble_eq_true rfl) ⟨Nat.le_of_ble_eq_true rfl, Nat.le_of_ble_eq_true rfl⟩ rfl (Nat.le_of_ble_eq_true rfl) rfl rfl (Nat.le_of_ble_eq_true rfl) (Nat.le_of_ble_eq_true rfl) ?_
  have hn : (sh_lay km_31).length = 16 := by decide +kernel
  have hl8 : (sh_lay km_31)[8]? = some (5, 0) := by decide +kernel
  refine vn_putR 43 dX5_init_43 fl_5_27 (Or.inr ⟨rfl, rfl, rfl⟩) rfl hl8 (fun y ey => ?_)
  obtain rfl : y = km_32 := ey
  have el : sh_lay km_32 = sh_lay km_31 := by rw [show km_32 = sh_setR km_31 8 10 (some 13) from rfl]; exact sh_lyR
  have hl8 : (sh_lay km_32)[8]? = some (5, 0) := by rw [el]; exact hl8
  have hn : (sh_lay km_32).length = 16 := by rw [el]; exact hn
  refine vv_aload_n 46 0 dX5_init_46 rfl rfl ?_
  refine vk_new (c1 := 8) (s1 := 1706) 47 dX5_init_47 nw_5_24 (n := 16) hn (μ1 := km_33) rfl rfl rfl (Nat.le_of_ble_eq_true rfl) (Nat.le_of_ble_eq_true rfl) ?_
  have el : km_33 = sh_add km_32 (1, 0) := rfl
  have hl8 : (sh_lay km_33)[8]? = some (5, 0) := by rw [el]; exact sh_lay_add hl8
  have hl16 : (sh_lay km_33)[16]? = some (1, 0) := by rw [el]; exact sh_lay_new hn
  have hn : (sh_lay km_33).length = 17 := by rw [el]; exact sh_len_add hn
  refine vv_dup_ref 50 dX5_init_50 ?_
  refine vk_callIN (c1 := 10) (s1 := 3370) [] 51 dX5_init_51 ck_X5_26 kc_5 (Nat.le_of_ble_eq_true rfl) ⟨Nat.le_of_ble_eq_true rfl, Nat.le_of_ble_eq_true rfl⟩ rfl (Nat.le_of_ble_eq_true rfl) rfl rfl (Nat.le_of_ble_eq_true rfl) (Nat.le_of_ble_eq_true rfl) ?_
  have hn : (sh_lay km_37).length = 19 := by decide +kernel
  have hl8 : (sh_lay km_37)[8]? = some (5, 0) := by decide +kernel
  refine vn_putR 54 dX5_init_54 fl_5_31 (Or.inr ⟨rfl, rfl, rfl⟩) rfl hl8 (fun y ey => ?_)
  obtain rfl : y = km_38 := ey
  have el : sh_lay km_38 = sh_lay km_37 := by rw [show km_38 = sh_setR km_37 8 11 (some 16) from rfl]; exact sh_lyR
  have hl8 : (sh_lay km_38)[8]? = some (5, 0) := by rw [el]; exact hl8
  have hn : (sh_lay km_38).length = 19 := by rw [el]; exact hn
  refine vv_aload_n 57 0 dX5_init_57 rfl rfl ?_
  refine vk_new (c1 := 11) (s1 := 3373) 58 dX5_init_58 nw_5_24 (n := 19) hn (μ1 := km_39) rfl rfl rfl (Nat.le_of_ble_eq_true rfl) (Nat.le_of_ble_eq_true rfl) ?_
  have el : km_39 = sh_add km_38 (1, 0) := rfl
  have hl8 : (sh_lay km_39)[8]? = some (5, 0) := by rw [el]; exact sh_lay_add hl8
  have hl19 : (sh_lay km_39)[19]? = some (1, 0) := by rw [el]; exact sh_lay_new hn
  have hn : (sh_lay km_39).length = 20 := by rw [el]; exact sh_len_add hn
  refine vv_dup_ref 61 dX5_init_61 ?_
  refine vk_callIN (c1 := 13) (s1 := 5037) [] 62 dX5_init_62 ck_X5_26 kc_6 (Nat.le_of_ble_eq_true rfl) ⟨Nat.le_of_ble_eq_true rfl, Nat.le_of_ble_eq_true rfl⟩ rfl (Nat.le_of_ble_eq_true rfl) rfl rfl (Nat.le_of_ble_eq_true rfl) (Nat.le_of_ble_eq_true rfl) ?_
  have hn : (sh_lay km_43).length = 22 := by decide +kernel
  have hl8 : (sh_lay km_43)[8]? = some (5, 0) := by decide +kernel
  refine vn_putR 65 dX5_init_65 fl_5_34 (Or.inr ⟨rfl, rfl, rfl⟩) rfl hl8 (fun y ey => ?_)
  obtain rfl : y = km_44 := ey
  have el : sh_lay km_44 = sh_lay km_43 := by rw [show km_44 = sh_setR km_43 8 12 (some 19) from rfl]; exact sh_lyR
  have hl8 : (sh_lay km_44)[8]? = some (5, 0) := by rw [el]; exact hl8
  have hn : (sh_lay km_44).length = 22 := by rw [el]; exact hn
  refine vv_aload_n 68 0 dX5_init_68 rfl rfl ?_
  refine vk_new (c1 := 14) (s1 := 5043) 69 dX5_init_69 nw_5_37 (n := 22) hn (μ1 := km_45) rfl rfl rfl (Nat.le_of_ble_eq_true rfl) (Nat.le_of_ble_eq_true rfl) ?_
  have el : km_45 = sh_add km_44 (3, 0) := rfl
  have hl8 : (sh_lay km_45)[8]? = some (5, 0) := by rw [el]; exact sh_lay_add hl8
  have hl22 : (sh_lay km_45)[22]? = some (3, 0) := by rw [el]; exact sh_lay_new hn
  have hn : (sh_lay km_45).length = 23 := by rw [el]; exact sh_len_add hn
  refine vv_dup_ref 72 dX5_init_72 ?_
  refine vk_callIN (c1 := 19) (s1 := 5120) [] 73 dX5_init_73 ck_X5_39 kc_7 (Nat.le_of_ble_eq_true rfl) ⟨Nat.le_of_ble_eq_true rfl, Nat.le_of_ble_eq_true rfl⟩ rfl (Nat.le_of_ble_eq_true rfl) rfl rfl (Nat.le_of_ble_eq_true rfl) (Nat.le_of_ble_eq_true rfl) ?_
  have hn : (sh_lay km_55).length = 28 := by decide +kernel
  have hl8 : (sh_lay km_55)[8]? = some (5, 0) := by decide +kernel
  refine vn_putR 76 dX5_init_76 fl_5_40 (Or.inr ⟨rfl, rfl, rfl⟩) rfl hl8 (fun y ey => ?_)
  obtain rfl : y = km_56 := ey
  have el : sh_lay km_56 = sh_lay km_55 := by rw [show km_56 = sh_setR km_55 8 16 (some 22) from rfl]; exact sh_lyR
  have hl8 : (sh_lay km_56)[8]? = some (5, 0) := by rw [el]; exact hl8
  have hn : (sh_lay km_56).length = 28 := by rw [el]; exact hn
  refine vv_vret 79 dX5_init_79 rfl (Nat.le_of_ble_eq_true rfl) (Nat.le_of_ble_eq_true rfl) ⟨rfl, rfl⟩
set_option maxHeartbeats 40000000 in
theorem kc_9 : sh_Con l B D ca 3 20 5137 M_X6_init [.ref 7, .ref 2, .ref 6] km_17 (fun v μ' => v = none ∧ μ' = km_59) := by
  have hn : (sh_lay km_17).length = 8 := by decide +kernel
  refine vv_aload_n 0 0 dX6_init_0 rfl rfl ?_
  refine vv_objInit 1 dX6_init_1 ck_X6_3 (Nat.le_of_ble_eq_true rfl) (Nat.le_of_ble_eq_true rfl) ?_
  refine vv_aload_n 4 0 dX6_init_4 rfl rfl ?_
  refine vk_new (c1 := 1) (s1 := 17) 5 dX6_init_5 nw_6_9 (n := 8) hn (μ1 := km_18) rfl rfl rfl (Nat.le_of_ble_eq_true rfl) (Nat.le_of_ble_eq_true rfl) ?_
  have el : km_18 = sh_add km_17 (5, 0) := rfl
  have hl8 : (sh_lay km_18)[8]? = some (5, 0) := by rw [el]; exact sh_lay_new hn
  have hn : (sh_lay km_18).length = 9 := by rw [el]; exact sh_len_add hn
  refine vv_dup_ref 8 dX6_init_8 ?_
  refine vk_callIN (c1 := 20) (s1 := 5137) [] 9 dX6_init_9 ck_X6_11 kc_8 (Nat.le_of_ble_eq_true rfl) ⟨Nat.le_of_ble_eq_true rfl, Nat.le_of_ble_eq_true rfl⟩ rfl (Nat.le_of_ble_eq_true rfl) rfl rfl (Nat.le_of_ble_eq_true rfl) (Nat.le_of_ble_eq_true rfl) ?_
  have hn : (sh_lay km_56).length = 28 := by decide +kernel
  have hl7 : (sh_lay km_56)[7]? = some (6, 0) := by decide +kernel
  refine vn_putR 12 dX6_init_12 fl_6_12 (Or.inl rfl) rfl hl7 (fun y ey => ?_)
  obtain rfl : y = km_57 := ey
  have el : sh_lay km_57 = sh_lay km_56 := by rw [show km_57 = sh_setR km_56 7 2 (some 8) from rfl]; exact sh_lyR
  have hl7 : (sh_lay km_57)[7]? = some (6, 0) := by rw [el]; exact hl7
  have hn : (sh_lay km_57).length = 28 := by rw [el]; exact hn
  refine vv_aload_n 15 0 dX6_init_15 rfl rfl ?_
  refine vv_aload_n 16 1 dX6_init_16 rfl rfl ?_
  refine vn_putR 17 dX6_init_17 fl_6_18 (Or.inr ⟨rfl, rfl, rfl⟩) rfl hl7 (fun y ey => ?_)
  obtain rfl : y = km_58 := ey
  have el : sh_lay km_58 = sh_lay km_57 := by rw [show km_58 = sh_setR km_57 7 0 (some 2) from rfl]; exact sh_lyR
  have hl7 : (sh_lay km_58)[7]? = some (6, 0) := by rw [el]; exact hl7
  have hn : (sh_lay km_58).length = 28 := by rw [el]; exact hn
  refine vv_aload_n 20 0 dX6_init_20 rfl rfl ?_
  refine vv_aload_n 21 2 dX6_init_21 rfl rfl ?_
  refine vn_putR 22 dX6_init_22 fl_6_22 (Or.inr ⟨rfl, rfl, rfl⟩) rfl hl7 (fun y ey => ?_)
  obtain rfl : y = km_59 := ey
  have el : sh_lay km_59 = sh_lay km_58 := by rw [show km_59 = sh_setR km_58 7 1 (some 6) from rfl]; exact sh_lyR
  have hl7 : (sh_lay km_59)[7]? = some (6, 0) := by rw [el]; exact hl7
  have hn : (sh_lay km_59).length = 28 := by rw [el]; exact hn
  refine vv_vret 25 dX6_init_25 rfl (Nat.le_of_ble_eq_true rfl) (Nat.le_of_ble_eq_true rfl) ⟨rfl, rfl⟩
set_option maxHeartbeats 40000000 in
theorem kc_10 : sh_Con l B D ca 1 2 1664 M_X1_init [.ref 34] km_72 (fun v μ' => v = none ∧ μ' = km_76) := by
  have hn : (sh_lay km_72).length = 35 := by decide +kernel
  refine vv_aload_n 0 0 dX1_init_0 rfl rfl ?_
  refine vv_objInit 1 dX1_init_1 ck_X1_3 (Nat.le_of_ble_eq_true rfl) (Nat.le_of_ble_eq_true rfl) ?_
  refine vv_aload_n 4 0 dX1_init_4 rfl rfl ?_
  refine vv_sipush 5 dX1_init_5 sk_1600 ?_
  refine vk_newa (N := 1600) (c1 := 1) (s1 := 1600) 13 .int (Or.inl ⟨rfl, rfl⟩) 8 dX1_init_8 ac_13 (by decide) (by decide) (Nat.le_of_ble_eq_true rfl) (n := 35) hn (μ1 := km_73) rfl rfl rfl (Nat.le_of_ble_eq_true rfl) (Nat.le_of_ble_eq_true rfl) ?_
  have el : km_73 = sh_add km_72 (13, 1600) := rfl
  have hl35 : (sh_lay km_73)[35]? = some (13, 1600) := by rw [el]; exact sh_lay_new hn
  have hn : (sh_lay km_73).length = 36 := by rw [el]; exact sh_len_add hn
  have hl34 : (sh_lay km_73)[34]? = some (1, 0) := by decide +kernel
  refine vn_putR 10 dX1_init_10 fl_1_9 (Or.inr ⟨rfl, rfl, rfl⟩) rfl hl34 (fun y ey => ?_)
  obtain rfl : y = km_74 := ey
  have el : sh_lay km_74 = sh_lay km_73 := by rw [show km_74 = sh_setR km_73 34 0 (some 35) from rfl]; exact sh_lyR
  have hl34 : (sh_lay km_74)[34]? = some (1, 0) := by rw [el]; exact hl34
  have hn : (sh_lay km_74).length = 36 := by rw [el]; exact hn
  refine vv_aload_n 13 0 dX1_init_13 rfl rfl ?_
  refine vv_bipush 14 dX1_init_14 bk_64 ?_
  refine vk_newa (N := 64) (c1 := 2) (s1 := 1664) 14 .long (Or.inr (Or.inl ⟨rfl, rfl⟩)) 16 dX1_init_16 ac_14 (by decide) (by decide) (Nat.le_of_ble_eq_true rfl) (n := 36) hn (μ1 := km_75) rfl rfl rfl (Nat.le_of_ble_eq_true rfl) (Nat.le_of_ble_eq_true rfl) ?_
  have el : km_75 = sh_add km_74 (14, 64) := rfl
  have hl34 : (sh_lay km_75)[34]? = some (1, 0) := by rw [el]; exact sh_lay_add hl34
  have hl36 : (sh_lay km_75)[36]? = some (14, 64) := by rw [el]; exact sh_lay_new hn
  have hn : (sh_lay km_75).length = 37 := by rw [el]; exact sh_len_add hn
  refine vn_putR 18 dX1_init_18 fl_1_15 (Or.inr ⟨rfl, rfl, rfl⟩) rfl hl34 (fun y ey => ?_)
  obtain rfl : y = km_76 := ey
  have el : sh_lay km_76 = sh_lay km_75 := by rw [show km_76 = sh_setR km_75 34 2 (some 36) from rfl]; exact sh_lyR
  have hl34 : (sh_lay km_76)[34]? = some (1, 0) := by rw [el]; exact hl34
  have hn : (sh_lay km_76).length = 37 := by rw [el]; exact hn
  refine vv_vret 21 dX1_init_21 rfl (Nat.le_of_ble_eq_true rfl) (Nat.le_of_ble_eq_true rfl) ⟨rfl, rfl⟩
set_option maxHeartbeats 40000000 in
theorem kc_11 : sh_Con l B D ca 1 2 1664 M_X1_init [.ref 37] km_78 (fun v μ' => v = none ∧ μ' = km_82) := by
  have hn : (sh_lay km_78).length = 38 := by decide +kernel
  refine vv_aload_n 0 0 dX1_init_0 rfl rfl ?_
  refine vv_objInit 1 dX1_init_1 ck_X1_3 (Nat.le_of_ble_eq_true rfl) (Nat.le_of_ble_eq_true rfl) ?_
  refine vv_aload_n 4 0 dX1_init_4 rfl rfl ?_
  refine vv_sipush 5 dX1_init_5 sk_1600 ?_
  refine vk_newa (N := 1600) (c1 := 1) (s1 := 1600) 13 .int (Or.inl ⟨rfl, rfl⟩) 8 dX1_init_8 ac_13 (by decide) (by decide) (Nat.le_of_ble_eq_true rfl) (n := 38) hn (μ1 := km_79) rfl rfl rfl (Nat.le_of_ble_eq_true rfl) (Nat.le_of_ble_eq_true rfl) ?_
  have el : km_79 = sh_add km_78 (13, 1600) := rfl
  have hl38 : (sh_lay km_79)[38]? = some (13, 1600) := by rw [el]; exact sh_lay_new hn
  have hn : (sh_lay km_79).length = 39 := by rw [el]; exact sh_len_add hn
  have hl37 : (sh_lay km_79)[37]? = some (1, 0) := by decide +kernel
  refine vn_putR 10 dX1_init_10 fl_1_9 (Or.inr ⟨rfl, rfl, rfl⟩) rfl hl37 (fun y ey => ?_)
  obtain rfl : y = km_80 := ey
  have el : sh_lay km_80 = sh_lay km_79 := by rw [show km_80 = sh_setR km_79 37 0 (some 38) from rfl]; exact sh_lyR
  have hl37 : (sh_lay km_80)[37]? = some (1, 0) := by rw [el]; exact hl37
  have hn : (sh_lay km_80).length = 39 := by rw [el]; exact hn
  refine vv_aload_n 13 0 dX1_init_13 rfl rfl ?_
  refine vv_bipush 14 dX1_init_14 bk_64 ?_
  refine vk_newa (N := 64) (c1 := 2) (s1 := 1664) 14 .long (Or.inr (Or.inl ⟨rfl, rfl⟩)) 16 dX1_init_16 ac_14 (by decide) (by decide) (Nat.le_of_ble_eq_true rfl) (n := 39) hn (μ1 := km_81) rfl rfl rfl (Nat.le_of_ble_eq_true rfl) (Nat.le_of_ble_eq_true rfl) ?_
  have el : km_81 = sh_add km_80 (14, 64) := rfl
  have hl37 : (sh_lay km_81)[37]? = some (1, 0) := by rw [el]; exact sh_lay_add hl37
  have hl39 : (sh_lay km_81)[39]? = some (14, 64) := by rw [el]; exact sh_lay_new hn
  have hn : (sh_lay km_81).length = 40 := by rw [el]; exact sh_len_add hn
  refine vn_putR 18 dX1_init_18 fl_1_15 (Or.inr ⟨rfl, rfl, rfl⟩) rfl hl37 (fun y ey => ?_)
  obtain rfl : y = km_82 := ey
  have el : sh_lay km_82 = sh_lay km_81 := by rw [show km_82 = sh_setR km_81 37 2 (some 39) from rfl]; exact sh_lyR
  have hl37 : (sh_lay km_82)[37]? = some (1, 0) := by rw [el]; exact hl37
  have hn : (sh_lay km_82).length = 40 := by rw [el]; exact hn
  refine vv_vret 21 dX1_init_21 rfl (Nat.le_of_ble_eq_true rfl) (Nat.le_of_ble_eq_true rfl) ⟨rfl, rfl⟩
set_option maxHeartbeats 40000000 in
theorem kc_12 : sh_Con l B D ca 1 2 1664 M_X1_init [.ref 40] km_84 (fun v μ' => v = none ∧ μ' = km_88) := by
  have hn : (sh_lay km_84).length = 41 := by decide +kernel
  refine vv_aload_n 0 0 dX1_init_0 rfl rfl ?_
  refine vv_objInit 1 dX1_init_1 ck_X1_3 (Nat.le_of_ble_eq_true rfl) (Nat.le_of_ble_eq_true rfl) ?_
  refine vv_aload_n 4 0 dX1_init_4 rfl rfl ?_
  refine vv_sipush 5 dX1_init_5 sk_1600 ?_
  refine vk_newa (N := 1600) (c1 := 1) (s1 := 1600) 13 .int (Or.inl ⟨rfl, rfl⟩) 8 dX1_init_8 ac_13 (by decide) (by decide) (Nat.le_of_ble_eq_true rfl) (n := 41) hn (μ1 := km_85) rfl rfl rfl (Nat.le_of_ble_eq_true rfl) (Nat.le_of_ble_eq_true rfl) ?_
  have el : km_85 = sh_add km_84 (13, 1600) := rfl
  have hl41 : (sh_lay km_85)[41]? = some (13, 1600) := by rw [el]; exact sh_lay_new hn
  have hn : (sh_lay km_85).length = 42 := by rw [el]; exact sh_len_add hn
  have hl40 : (sh_lay km_85)[40]? = some (1, 0) := by decide +kernel
  refine vn_putR 10 dX1_init_10 fl_1_9 (Or.inr ⟨rfl, rfl, rfl⟩) rfl hl40 (fun y ey => ?_)
  obtain rfl : y = km_86 := ey
  have el : sh_lay km_86 = sh_lay km_85 := by rw [show km_86 = sh_setR km_85 40 0 (some 41) from rfl]; exact sh_lyR
  have hl40 : (sh_lay km_86)[40]? = some (1, 0) := by rw [el]; exact hl40
  have hn : (sh_lay km_86).length = 42 := by rw [el]; exact hn
  refine vv_aload_n 13 0 dX1_init_13 rfl rfl ?_
  refine vv_bipush 14 dX1_init_14 bk_64 ?_
  refine vk_newa (N := 64) (c1 := 2) (s1 := 1664) 14 .long (Or.inr (Or.inl ⟨rfl, rfl⟩)) 16 dX1_init_16 ac_14 (by decide) (by decide) (Nat.le_of_ble_eq_true rfl) (n := 42) hn (μ1 := km_87) rfl rfl rfl (Nat.le_of_ble_eq_true rfl) (Nat.le_of_ble_eq_true rfl) ?_
  have el : km_87 = sh_add km_86 (14, 64) := rfl
  have hl40 : (sh_lay km_87)[40]? = some (1, 0) := by rw [el]; exact sh_lay_add hl40
  have hl42 : (sh_lay km_87)[42]? = some (14, 64) := by rw [el]; exact sh_lay_new hn
  have hn : (sh_lay km_87).length = 43 := by rw [el]; exact sh_len_add hn
  refine vn_putR 18 dX1_init_18 fl_1_15 (Or.inr ⟨rfl, rfl, rfl⟩) rfl hl40 (fun y ey => ?_)
  obtain rfl : y = km_88 := ey
  have el : sh_lay km_88 = sh_lay km_87 := by rw [show km_88 = sh_setR km_87 40 2 (some 42) from rfl]; exact sh_lyR
  have hl40 : (sh_lay km_88)[40]? = some (1, 0) := by rw [el]; exact hl40
  have hn : (sh_lay km_88).length = 43 := by rw [el]; exact hn
  refine vv_vret 21 dX1_init_21 rfl (Nat.le_of_ble_eq_true rfl) (Nat.le_of_ble_eq_true rfl) ⟨rfl, rfl⟩
set_option maxHeartbeats 40000000 in
theorem kc_13 : sh_Con l B D ca 1 5 77 M_X3_init [.ref 43] km_90 (fun v μ' => v = none ∧ μ' = km_100) := by
  have hn : (sh_lay km_90).length = 44 := by decide +kernel
  refine vv_aload_n 0 0 dX3_init_0 rfl rfl ?_
  refine vv_objInit 1 dX3_init_1 ck_X3_3 (Nat.le_of_ble_eq_true rfl) (Nat.le_of_ble_eq_true rfl) ?_
  refine vv_aload_n 4 0 dX3_init_4 rfl rfl ?_
  refine vv_bipush 5 dX3_init_5 bk_49 ?_
  refine vk_newa (N := 49) (c1 := 1) (s1 := 49) 13 .int (Or.inl ⟨rfl, rfl⟩) 7 dX3_init_7 ac_13 (by decide) (by decide) (Nat.le_of_ble_eq_true rfl) (n := 44) hn (μ1 := km_91) rfl rfl rfl (Nat.le_of_ble_eq_true rfl) (Nat.le_of_ble_eq_true rfl) ?_
  have el : km_91 = sh_add km_90 (13, 49) := rfl
  have hl44 : (sh_lay km_91)[44]? = some (13, 49) := by rw [el]; exact sh_lay_new hn
  have hn : (sh_lay km_91).length = 45 := by rw [el]; exact sh_len_add hn
  have hl43 : (sh_lay km_91)[43]? = some (3, 0) := by decide +kernel
  refine vn_putR 9 dX3_init_9 fl_3_9 (Or.inr ⟨rfl, rfl, rfl⟩) rfl hl43 (fun y ey => ?_)
  obtain rfl : y = km_92 := ey
  have el : sh_lay km_92 = sh_lay km_91 := by rw [show km_92 = sh_setR km_91 43 1 (some 44) from rfl]; exact sh_lyR
  have hl43 : (sh_lay km_92)[43]? = some (3, 0) := by rw [el]; exact hl43
  have hn : (sh_lay km_92).length = 45 := by rw [el]; exact hn
  refine vv_aload_n 12 0 dX3_init_12 rfl rfl ?_
  refine vv_bipush 13 dX3_init_13 bk_7 ?_
  refine vk_newa (N := 7) (c1 := 2) (s1 := 56) 13 .int (Or.inl ⟨rfl, rfl⟩) 15 dX3_init_15 ac_13 (by decide) (by decide) (Nat.le_of_ble_eq_true rfl) (n := 45) hn (μ1 := km_93) rfl rfl rfl (Nat.le_of_ble_eq_true rfl) (Nat.le_of_ble_eq_true rfl) ?_
  have el : km_93 = sh_add km_92 (13, 7) := rfl
  have hl43 : (sh_lay km_93)[43]? = some (3, 0) := by rw [el]; exact sh_lay_add hl43
  have hl45 : (sh_lay km_93)[45]? = some (13, 7) := by rw [el]; exact sh_lay_new hn
  have hn : (sh_lay km_93).length = 46 := by rw [el]; exact sh_len_add hn
  refine vn_putR 17 dX3_init_17 fl_3_15 (Or.inr ⟨rfl, rfl, rfl⟩) rfl hl43 (fun y ey => ?_)
  obtain rfl : y = km_94 := ey
  have el : sh_lay km_94 = sh_lay km_93 := by rw [show km_94 = sh_setR km_93 43 2 (some 45) from rfl]; exact sh_lyR
  have hl43 : (sh_lay km_94)[43]? = some (3, 0) := by rw [el]; exact hl43
  have hn : (sh_lay km_94).length = 46 := by rw [el]; exact hn
  refine vv_aload_n 20 0 dX3_init_20 rfl rfl ?_
  refine vv_bipush 21 dX3_init_21 bk_7 ?_
  refine vk_newa (N := 7) (c1 := 3) (s1 := 63) 13 .int (Or.inl ⟨rfl, rfl⟩) 23 dX3_init_23 ac_13 (by decide) (by decide) (Nat.le_of_ble_eq_true rfl) (n := 46) hn (μ1 := km_95) rfl rfl rfl (Nat.le_of_ble_eq_true rfl) (Nat.le_of_ble_eq_true rfl) ?_
  have el : km_95 = sh_add km_94 (13, 7) := rfl
  have hl43 : (sh_lay km_95)[43]? = some (3, 0) := by rw [el]; exact sh_lay_add hl43
  have hl46 : (sh_lay km_95)[46]? = some (13, 7) := by rw [el]; exact sh_lay_new hn
  have hn : (sh_lay km_95).length = 47 := by rw [el]; exact sh_len_add hn
  refine vn_putR 25 dX3_init_25 fl_3_18 (Or.inr ⟨rfl, rfl, rfl⟩) rfl hl43 (fun y ey => ?_)
  obtain rfl : y = km_96 := ey
  have el : sh_lay km_96 = sh_lay km_95 := by rw [show km_96 = sh_setR km_95 43 3 (some 46) from rfl]; exact sh_lyR
  have hl43 : (sh_lay km_96)[43]? = some (3, 0) := by rw [el]; exact hl43
  have hn : (sh_lay km_96).length = 47 := by rw [el]; exact hn
  refine vv_aload_n 28 0 dX3_init_28 rfl rfl ?_
  refine vv_bipush 29 dX3_init_29 bk_7 ?_
  refine vk_newa (N := 7) (c1 := 4) (s1 := 70) 13 .int (Or.inl ⟨rfl, rfl⟩) 31 dX3_init_31 ac_13 (by decide) (by decide) (Nat.le_of_ble_eq_true rfl) (n := 47) hn (μ1 := km_97) rfl rfl rfl (Nat.le_of_ble_eq_true rfl) (Nat.le_of_ble_eq_true rfl) ?_
  have el : km_97 = sh_add km_96 (13, 7) := rfl
  have hl43 : (sh_lay km_97)[43]? = some (3, 0) := by rw [el]; exact sh_lay_add hl43
  have hl47 : (sh_lay km_97)[47]? = some (13, 7) := by rw [el]; exact sh_lay_new hn
  have hn : (sh_lay km_97).length = 48 := by rw [el]; exact sh_len_add hn
  refine vn_putR 33 dX3_init_33 fl_3_21 (Or.inr ⟨rfl, rfl, rfl⟩) rfl hl43 (fun y ey => ?_)
  obtain rfl : y = km_98 := ey
  have el : sh_lay km_98 = sh_lay km_97 := by rw [show km_98 = sh_setR km_97 43 4 (some 47) from rfl]; exact sh_lyR
  have hl43 : (sh_lay km_98)[43]? = some (3, 0) := by rw [el]; exact hl43
  have hn : (sh_lay km_98).length = 48 := by rw [el]; exact hn
  refine vv_aload_n 36 0 dX3_init_36 rfl rfl ?_
  refine vv_bipush 37 dX3_init_37 bk_7 ?_
  refine vk_newa (N := 7) (c1 := 5) (s1 := 77) 13 .int (Or.inl ⟨rfl, rfl⟩) 39 dX3_init_39 ac_13 (by decide) (by decide) (Nat.le_of_ble_eq_true rfl) (n := 48) hn (μ1 := km_99) rfl rfl rfl (Nat.le_of_ble_eq_true rfl) (Nat.le_of_ble_eq_true rfl) ?_
  have el : km_99 = sh_add km_98 (13, 7) := rfl
  have hl43 : (sh_lay km_99)[43]? = some (3, 0) := by rw [el]; exact sh_lay_add hl43
  have hl48 : (sh_lay km_99)[48]? = some (13, 7) := by rw [el]; exact sh_lay_new hn
  have hn : (sh_lay km_99).length = 49 := by rw [el]; exact sh_len_add hn
  refine vn_putR 41 dX3_init_41 fl_3_24 (Or.inr ⟨rfl, rfl, rfl⟩) rfl hl43 (fun y ey => ?_)
  obtain rfl : y = km_100 := ey
  have el : sh_lay km_100 = sh_lay km_99 := by rw [show km_100 = sh_setR km_99 43 5 (some 48) from rfl]; exact sh_lyR
  have hl43 : (sh_lay km_100)[43]? = some (3, 0) := by rw [el]; exact hl43
  have hn : (sh_lay km_100).length = 49 := by rw [el]; exact hn
  refine vv_vret 44 dX3_init_44 rfl (Nat.le_of_ble_eq_true rfl) (Nat.le_of_ble_eq_true rfl) ⟨rfl, rfl⟩
set_option maxHeartbeats 40000000 in
theorem kc_14 : sh_Con l B D ca 2 19 5120 M_X5_init [.ref 29] km_63 (fun v μ' => v = none ∧ μ' = km_101) := by
  have hn : (sh_lay km_63).length = 30 := by decide +kernel
  refine vv_aload_n 0 0 dX5_init_0 rfl rfl ?_
  refine vv_objInit 1 dX5_init_1 ck_X5_3 (Nat.le_of_ble_eq_true rfl) (Nat.le_of_ble_eq_true rfl) ?_
  refine vv_aload_n 4 0 dX5_init_4 rfl rfl ?_
  refine vv_iconst 5 dX5_init_5 ik_5 ?_
  refine vk_newa (N := 5) (c1 := 1) (s1 := 5) 13 .int (Or.inl ⟨rfl, rfl⟩) 6 dX5_init_6 ac_13 (by decide) (by decide) (Nat.le_of_ble_eq_true rfl) (n := 30) hn (μ1 := km_64) rfl rfl rfl (Nat.le_of_ble_eq_true rfl) (Nat.le_of_ble_eq_true rfl) ?_
  have el : km_64 = sh_add km_63 (13, 5) := rfl
  have hl30 : (sh_lay km_64)[30]? = some (13, 5) := by rw [el]; exact sh_lay_new hn
  have hn : (sh_lay km_64).length = 31 := by rw [el]; exact sh_len_add hn
  have hl29 : (sh_lay km_64)[29]? = some (5, 0) := by decide +kernel
  refine vn_putR 8 dX5_init_8 fl_5_9 (Or.inr ⟨rfl, rfl, rfl⟩) rfl hl29 (fun y ey => ?_)
  obtain rfl : y = km_65 := ey
  have el : sh_lay km_65 = sh_lay km_64 := by rw [show km_65 = sh_setR km_64 29 6 (some 30) from rfl]; exact sh_lyR
  have hl29 : (sh_lay km_65)[29]? = some (5, 0) := by rw [el]; exact hl29
  have hn : (sh_lay km_65).length = 31 := by rw [el]; exact hn
  refine vv_aload_n 11 0 dX5_init_11 rfl rfl ?_
  refine vv_bipush 12 dX5_init_12 bk_7 ?_
  refine vk_newa (N := 7) (c1 := 2) (s1 := 12) 13 .int (Or.inl ⟨rfl, rfl⟩) 14 dX5_init_14 ac_13 (by decide) (by decide) (Nat.le_of_ble_eq_true rfl) (n := 31) hn (μ1 := km_66) rfl rfl rfl (Nat.le_of_ble_eq_true rfl) (Nat.le_of_ble_eq_true rfl) ?_
  have el : km_66 = sh_add km_65 (13, 7) := rfl
  have hl29 : (sh_lay km_66)[29]? = some (5, 0) := by rw [el]; exact sh_lay_add hl29
  have hl31 : (sh_lay km_66)[31]? = some (13, 7) := by rw [el]; exact sh_lay_new hn
  have hn : (sh_lay km_66).length = 32 := by rw [el]; exact sh_len_add hn
  refine vn_putR 16 dX5_init_16 fl_5_15 (Or.inr ⟨rfl, rfl, rfl⟩) rfl hl29 (fun y ey => ?_)
  obtain rfl : y = km_67 := ey
  have el : sh_lay km_67 = sh_lay km_66 := by rw [show km_67 = sh_setR km_66 29 7 (some 31) from rfl]; exact sh_lyR
  have hl29 : (sh_lay km_67)[29]? = some (5, 0) := by rw [el]; exact hl29
  have hn : (sh_lay km_67).length = 32 := by rw [el]; exact hn
  refine vv_aload_n 19 0 dX5_init_19 rfl rfl ?_
  refine vv_bipush 20 dX5_init_20 bk_12 ?_
  refine vk_newa (N := 12) (c1 := 3) (s1 := 24) 13 .int (Or.inl ⟨rfl, rfl⟩) 22 dX5_init_22 ac_13 (by decide) (by decide) (Nat.le_of_ble_eq_true rfl) (n := 32) hn (μ1 := km_68) rfl rfl rfl (Nat.le_of_ble_eq_true rfl) (Nat.le_of_ble_eq_true rfl) ?_
  have el : km_68 = sh_add km_67 (13, 12) := rfl
  have hl29 : (sh_lay km_68)[29]? = some (5, 0) := by rw [el]; exact sh_lay_add hl29
  have hl32 : (sh_lay km_68)[32]? = some (13, 12) := by rw [el]; exact sh_lay_new hn
  have hn : (sh_lay km_68).length = 33 := by rw [el]; exact sh_len_add hn
  refine vn_putR 24 dX5_init_24 fl_5_18 (Or.inr ⟨rfl, rfl, rfl⟩) rfl hl29 (fun y ey => ?_)
  obtain rfl : y = km_69 := ey
  have el : sh_lay km_69 = sh_lay km_68 := by rw [show km_69 = sh_setR km_68 29 8 (some 32) from rfl]; exact sh_lyR
  have hl29 : (sh_lay km_69)[29]? = some (5, 0) := by rw [el]; exact hl29
  have hn : (sh_lay km_69).length = 33 := by rw [el]; exact hn
  refine vv_aload_n 27 0 dX5_init_27 rfl rfl ?_
  refine vv_bipush 28 dX5_init_28 bk_12 ?_
  refine vk_newa (N := 12) (c1 := 4) (s1 := 36) 13 .int (Or.inl ⟨rfl, rfl⟩) 30 dX5_init_30 ac_13 (by decide) (by decide) (Nat.le_of_ble_eq_true rfl) (n := 33) hn (μ1 := km_70) rfl rfl rfl (Nat.le_of_ble_eq_true rfl) (Nat.le_of_ble_eq_true rfl) ?_
  have el : km_70 = sh_add km_69 (13, 12) := rfl
  have hl29 : (sh_lay km_70)[29]? = some (5, 0) := by rw [el]; exact sh_lay_add hl29
  have hl33 : (sh_lay km_70)[33]? = some (13, 12) := by rw [el]; exact sh_lay_new hn
  have hn : (sh_lay km_70).length = 34 := by rw [el]; exact sh_len_add hn
  refine vn_putR 32 dX5_init_32 fl_5_21 (Or.inr ⟨rfl, rfl, rfl⟩) rfl hl29 (fun y ey => ?_)
  obtain rfl : y = km_71 := ey
  have el : sh_lay km_71 = sh_lay km_70 := by rw [show km_71 = sh_setR km_70 29 9 (some 33) from rfl]; exact sh_lyR
  have hl29 : (sh_lay km_71)[29]? = some (5, 0) := by rw [el]; exact hl29
  have hn : (sh_lay km_71).length = 34 := by rw [el]; exact hn
  refine vv_aload_n 35 0 dX5_init_35 rfl rfl ?_
  refine vk_new (c1 := 5) (s1 := 39) 36 dX5_init_36 nw_5_24 (n := 34) hn (μ1 := km_72) rfl rfl rfl (Nat.le_of_ble_eq_true rfl) (Nat.le_of_ble_eq_true rfl) ?_
  have el : km_72 = sh_add km_71 (1, 0) := rfl
  have hl29 : (sh_lay km_72)[29]? = some (5, 0) := by rw [el]; exact sh_lay_add hl29
  have hl34 : (sh_lay km_72)[34]? = some (1, 0) := by rw [el]; exact sh_lay_new hn
  have hn : (sh_lay km_72).length = 35 := by rw [el]; exact sh_len_add hn
  refine vv_dup_ref 39 dX5_init_39 ?_
  refine vk_callIN (c1 := 7) (s1 := 1703) [] 40 dX5_init_40 ck_X5_26 kc_10 (Nat.le_of_ble_eq_true rfl) ⟨Nat.le_of_ble_eq_true rfl, Nat.le_of_ble_eq_true rfl⟩ rfl (Nat.le_of_ble_eq_true rfl) rfl rfl (Nat.le_of_ble_eq_true rfl) (Nat.le_of_ble_eq_true rfl) ?_
  have hn : (sh_lay km_76).length = 37 := by decide +kernel
  have hl29 : (sh_lay km_76)[29]? = some (5, 0) := by decide +kernel
  refine vn_putR 43 dX5_init_43 fl_5_27 (Or.inr ⟨rfl, rfl, rfl⟩) rfl hl29 (fun y ey => ?_)
  obtain rfl : y = km_77 := ey
  have el : sh_lay km_77 = sh_lay km_76 := by rw [show km_77 = sh_setR km_76 29 10 (some 34) from rfl]; exact sh_lyR
  have hl29 : (sh_lay km_77)[29]? = some (5, 0) := by rw [el]; exact hl29
  have hn : (sh_lay km_77).length = 37 := by rw [el]; exact hn
  refine vv_aload_n 46 0 dX5_init_46 rfl rfl ?_
  refine vk_new (c1 := 8) (s1 := 1706) 47 dX5_init_47 nw_5_24 (n := 37) hn (μ1 := km_78) rfl rfl rfl (Nat.le_of_ble_eq_true rfl) (Nat.le_of_ble_eq_true rfl) ?_
  have el : km_78 = sh_add km_77 (1, 0) := rfl
  have hl29 : (sh_lay km_78)[29]? = some (5, 0) := by rw [el]; exact sh_lay_add hl29
  have hl37 : (sh_lay km_78)[37]? = some (1, 0) := by rw [el]; exact sh_lay_new hn
  have hn : (sh_lay km_78).length = 38 := by rw [el]; exact sh_len_add hn
  refine vv_dup_ref 50 dX5_init_50 ?_
  refine vk_callIN (c1 := 10) (s1 := 3370) [] 51 dX5_init_51 ck_X5_26 kc_11 (Nat.le_of_ble_eq_true rfl) ⟨Nat.le_of_ble_eq_true rfl, Nat.le_of_ble_eq_true rfl⟩ rfl (Nat.le_of_ble_eq_true rfl) rfl rfl (Nat.le_of_ble_eq_true rfl) (Nat.le_of_ble_eq_true rfl) ?_
  have hn : (sh_lay km_82).length = 40 := by decide +kernel
  have hl29 : (sh_lay km_82)[29]? = some (5, 0) := by decide +kernel
  refine vn_putR 54 dX5_init_54 fl_5_31 (Or.inr ⟨rfl, rfl, rfl⟩) rfl hl29 (fun y ey => ?_)
  obtain rfl : y = km_83 := ey
  have el : sh_lay km_83 = sh_lay km_82 := by rw [show km_83 = sh_setR km_82 29 11 (some 37) from rfl]; exact sh_lyR
  have hl29 : (sh_lay km_83)[29]? = some (5, 0) := by rw [el]; exact hl29
  have hn : (sh_lay km_83).length = 40 := by rw [el]; exact hn
  refine vv_aload_n 57 0 dX5_init_57 rfl rfl ?_
  refine vk_new (c1 := 11) (s1 := 3373) 58 dX5_init_58 nw_5_24 (n := 40) hn (μ1 := km_84) rfl rfl rfl (Nat.le_of_ble_eq_true rfl) (Nat.le_of_ble_eq_true rfl) ?_
  have el : km_84 = sh_add km_83 (1, 0) := rfl
  have hl29 : (sh_lay km_84)[29]? = some (5, 0) := by rw [el]; exact sh_lay_add hl29
  have hl40 : (sh_lay km_84)[40]? = some (1, 0) := by rw [el]; exact sh_lay_new hn
  have hn : (sh_lay km_84).length = 41 := by rw [el]; exact sh_len_add hn
  refine vv_dup_ref 61 dX5_init_61 ?_
  refine vk_callIN (c1 := 13) (s1 := 5037) [] 62 dX5_init_62 ck_X5_26 kc_12 (Nat.le_of_ble_eq_true rfl) ⟨Nat.le_of_ble_eq_true rfl, Nat.le_of_ble_eq_true rfl⟩ rfl (Nat.le_of_ble_eq_true rfl) rfl rfl (Nat.le_of_ble_eq_true rfl) (Nat.le_of_ble_eq_true rfl) ?_
  have hn : (sh_lay km_88).length = 43 := by decide +kernel
  have hl29 : (sh_lay km_88)[29]? = some (5, 0) := by decide +kernel
  refine vn_putR 65 dX5_init_65 fl_5_34 (Or.inr ⟨rfl, rfl, rfl⟩) rfl hl29 (fun y ey => ?_)
  obtain rfl : y = km_89 := ey
  have el : sh_lay km_89 = sh_lay km_88 := by rw [show km_89 = sh_setR km_88 29 12 (some 40) from rfl]; exact sh_lyR
  have hl29 : (sh_lay km_89)[29]? = some (5, 0) := by rw [el]; exact hl29
  have hn : (sh_lay km_89).length = 43 := by rw [el]; exact hn
  refine vv_aload_n 68 0 dX5_init_68 rfl rfl ?_
  refine vk_new (c1 := 14) (s1 := 5043) 69 dX5_init_69 nw_5_37 (n := 43) hn (μ1 := km_90) rfl rfl rfl (Nat.le_of_ble_eq_true rfl) (Nat.le_of_ble_eq_true rfl) ?_
  have el : km_90 = sh_add km_89 (3, 0) := rfl
  have hl29 : (sh_lay km_90)[29]? = some (5, 0) := by rw [el]; exact sh_lay_add hl29
  have hl43 : (sh_lay km_90)[43]? = some (3, 0) := by rw [el]; exact sh_lay_new hn
  have hn : (sh_lay km_90).length = 44 := by rw [el]; exact sh_len_add hn
  refine vv_dup_ref 72 dX5_init_72 ?_
  refine vk_callIN (c1 := 19) (s1 := 5120) [] 73 dX5_init_73 ck_X5_39 kc_13 (Nat.le_of_ble_eq_true rfl) ⟨Nat.le_of_ble_eq_true rfl, Nat.le_of_ble_eq_true rfl⟩ rfl (Nat.le_of_ble_eq_true rfl) rfl rfl (Nat.le_of_ble_eq_true rfl) (Nat.le_of_ble_eq_true rfl) ?_
  have hn : (sh_lay km_100).length = 49 := by decide +kernel
  have hl29 : (sh_lay km_100)[29]? = some (5, 0) := by decide +kernel
  refine vn_putR 76 dX5_init_76 fl_5_40 (Or.inr ⟨rfl, rfl, rfl⟩) rfl hl29 (fun y ey => ?_)
  obtain rfl : y = km_101 := ey
  have el : sh_lay km_101 = sh_lay km_100 := by rw [show km_101 = sh_setR km_100 29 16 (some 43) from rfl]; exact sh_lyR
  have hl29 : (sh_lay km_101)[29]? = some (5, 0) := by rw [el]; exact hl29
  have hn : (sh_lay km_101).length = 49 := by rw [el]; exact hn
  refine vv_vret 79 dX5_init_79 rfl (Nat.le_of_ble_eq_true rfl) (Nat.le_of_ble_eq_true rfl) ⟨rfl, rfl⟩
set_option maxHeartbeats 40000000 in
theorem kc_15 : sh_Con l B D ca 1 5 77 M_X3_init [.ref 49] km_103 (fun v μ' => v = none ∧ μ' = km_113) := by
  have hn : (sh_lay km_103).length = 50 := by decide +kernel
  refine vv_aload_n 0 0 dX3_init_0 rfl rfl ?_
  refine vv_objInit 1 dX3_init_1 ck_X3_3 (Nat.le_of_ble_eq_true rfl) (Nat.le_of_ble_eq_true rfl) ?_
  refine vv_aload_n 4 0 dX3_init_4 rfl rfl ?_
  refine vv_bipush 5 dX3_init_5 bk_49 ?_
  refine vk_newa (N := 49) (c1 := 1) (s1 := 49) 13 .int (Or.inl ⟨rfl, rfl⟩) 7 dX3_init_7 ac_13 (by decide) (by decide) (Nat.le_of_ble_eq_true rfl) (n := 50) hn (μ1 := km_104) rfl rfl rfl (Nat.le_of_ble_eq_true rfl) (Nat.le_of_ble_eq_true rfl) ?_
  have el : km_104 = sh_add km_103 (13, 49) := rfl
  have hl50 : (sh_lay km_104)[50]? = some (13, 49) := by rw [el]; exact sh_lay_new hn
  have hn : (sh_lay km_104).length = 51 := by rw [el]; exact sh_len_add hn
  have hl49 : (sh_lay km_104)[49]? = some (3, 0) := by decide +kernel
  refine vn_putR 9 dX3_init_9 fl_3_9 (Or.inr ⟨rfl, rfl, rfl⟩) rfl hl49 (fun y ey => ?_)
  obtain rfl : y = km_105 := ey
  have el : sh_lay km_105 = sh_lay km_104 := by rw [show km_105 = sh_setR km_104 49 1 (some 50) from rfl]; exact sh_lyR
  have hl49 : (sh_lay km_105)[49]? = some (3, 0) := by rw [el]; exact hl49
  have hn : (sh_lay km_105).length = 51 := by rw [el]; exact hn
  refine vv_aload_n 12 0 dX3_init_12 rfl rfl ?_
  refine vv_bipush 13 dX3_init_13 bk_7 ?_
  refine vk_newa (N := 7) (c1 := 2) (s1 := 56) 13 .int (Or.inl ⟨rfl, rfl⟩) 15 dX3_init_15 ac_13 (by decide) (by decide) (Nat.le_of_ble_eq_true rfl) (n := 51) hn (μ1 := km_106) rfl rfl rfl (Nat.le_of_ble_eq_true rfl) (Nat.le_of_ble_eq_true rfl) ?_
  have el : km_106 = sh_add km_105 (13, 7) := rfl
  have hl49 : (sh_lay km_106)[49]? = some (3, 0) := by rw [el]; exact sh_lay_add hl49
  have hl51 : (sh_lay km_106)[51]? = some (13, 7) := by rw [el]; exact sh_lay_new hn
  have hn : (sh_lay km_106).length = 52 := by rw [el]; exact sh_len_add hn
  refine vn_putR 17 dX3_init_17 fl_3_15 (Or.inr ⟨rfl, rfl, rfl⟩) rfl hl49 (fun y ey => ?_)
  obtain rfl : y = km_107 := ey
  have el : sh_lay km_107 = sh_lay km_106 := by rw [show km_107 = sh_setR km_106 49 2 (some 51) from rfl]; exact sh_lyR
  have hl49 : (sh_lay km_107)[49]? = some (3, 0) := by rw [el]; exact hl49
  have hn : (sh_lay km_107).length = 52 := by rw [el]; exact hn
  refine vv_aload_n 20 0 dX3_init_20 rfl rfl ?_
  refine vv_bipush 21 dX3_init_21 bk_7 ?_
  refine vk_newa (N := 7) (c1 := 3) (s1 := 63) 13 .int (Or.inl ⟨rfl, rfl⟩) 23 dX3_init_23 ac_13 (by decide) (by decide) (Nat.le_of_ble_eq_true rfl) (n := 52) hn (μ1 := km_108) rfl rfl rfl (Nat.le_of_ble_eq_true rfl) (Nat.le_of_ble_eq_true rfl) ?_
  have el : km_108 = sh_add km_107 (13, 7) := rfl
  have hl49 : (sh_lay km_108)[49]? = some (3, 0) := by rw [el]; exact sh_lay_add hl49
  have hl52 : (sh_lay km_108)[52]? = some (13, 7) := by rw [el]; exact sh_lay_new hn
  have hn : (sh_lay km_108).length = 53 := by rw [el]; exact sh_len_add hn
  refine vn_putR 25 dX3_init_25 fl_3_18 (Or.inr ⟨rfl, rfl, rfl⟩) rfl hl49 (fun y ey => ?_)
  obtain rfl : y = km_109 := ey
  have el : sh_lay km_109 = sh_lay km_108 := by rw [show km_109 = sh_setR km_108 49 3 (some 52) from rfl]; exact sh_lyR
  have hl49 : (sh_lay km_109)[49]? = some (3, 0) := by rw [el]; exact hl49
  have hn : (sh_lay km_109).length = 53 := by rw [el]; exact hn
  refine vv_aload_n 28 0 dX3_init_28 rfl rfl ?_
  refine vv_bipush 29 dX3_init_29 bk_7 ?_
  refine vk_newa (N := 7) (c1 := 4) (s1 := 70) 13 .int (Or.inl ⟨rfl, rfl⟩) 31 dX3_init_31 ac_13 (by decide) (by decide) (Nat.le_of_ble_eq_true rfl) (n := 53) hn (μ1 := km_110) rfl rfl rfl (Nat.le_of_ble_eq_true rfl) (Nat.le_of_ble_eq_true rfl) ?_
  have el : km_110 = sh_add km_109 (13, 7) := rfl
  have hl49 : (sh_lay km_110)[49]? = some (3, 0) := by rw [el]; exact sh_lay_add hl49
  have hl53 : (sh_lay km_110)[53]? = some (13, 7) := by rw [el]; exact sh_lay_new hn
  have hn : (sh_lay km_110).length = 54 := by rw [el]; exact sh_len_add hn
  refine vn_putR 33 dX3_init_33 fl_3_21 (Or.inr ⟨rfl, rfl, rfl⟩) rfl hl49 (fun y ey => ?_)
  obtain rfl : y = km_111 := ey
  have el : sh_lay km_111 = sh_lay km_110 := by rw [show km_111 = sh_setR km_110 49 4 (some 53) from rfl]; exact sh_lyR
  have hl49 : (sh_lay km_111)[49]? = some (3, 0) := by rw [el]; exact hl49
  have hn : (sh_lay km_111).length = 54 := by rw [el]; exact hn
  refine vv_aload_n 36 0 dX3_init_36 rfl rfl ?_
  refine vv_bipush 37 dX3_init_37 bk_7 ?_
  refine vk_newa (N := 7) (c1 := 5) (s1 := 77) 13 .int (Or.inl ⟨rfl, rfl⟩) 39 dX3_init_39 ac_13 (by decide) (by decide) (Nat.le_of_ble_eq_true rfl) (n := 54) hn (μ1 := km_112) rfl rfl rfl (Nat.le_of_ble_eq_true rfl) (Nat.le_of_ble_eq_true rfl) ?_
  have el : km_112 = sh_add km_111 (13, 7) := rfl
  have hl49 : (sh_lay km_112)[49]? = some (3, 0) := by rw [el]; exact sh_lay_add hl49
  have hl54 : (sh_lay km_112)[54]? = some (13, 7) := by rw [el]; exact sh_lay_new hn
  have hn : (sh_lay km_112).length = 55 := by rw [el]; exact sh_len_add hn
  refine vn_putR 41 dX3_init_41 fl_3_24 (Or.inr ⟨rfl, rfl, rfl⟩) rfl hl49 (fun y ey => ?_)
  obtain rfl : y = km_113 := ey
  have el : sh_lay km_113 = sh_lay km_112 := by rw [show km_113 = sh_setR km_112 49 5 (some 54) from rfl]; exact sh_lyR
  have hl49 : (sh_lay km_113)[49]? = some (3, 0) := by rw [el]; exact hl49
  have hn : (sh_lay km_113).length = 55 := by rw [el]; exact hn
  refine vv_vret 44 dX3_init_44 rfl (Nat.le_of_ble_eq_true rfl) (Nat.le_of_ble_eq_true rfl) ⟨rfl, rfl⟩
set_option maxHeartbeats 40000000 in
theorem kc_16 : sh_Con l B D ca 1 5 77 M_X3_init [.ref 57] km_118 (fun v μ' => v = none ∧ μ' = km_128) := by
  have hn : (sh_lay km_118).length = 58 := by decide +kernel
  refine vv_aload_n 0 0 dX3_init_0 rfl rfl ?_
  refine vv_objInit 1 dX3_init_1 ck_X3_3 (Nat.le_of_ble_eq_true rfl) (Nat.le_of_ble_eq_true rfl) ?_
  refine vv_aload_n 4 0 dX3_init_4 rfl rfl ?_
  refine vv_bipush 5 dX3_init_5 bk_49 ?_
  refine vk_newa (N := 49) (c1 := 1) (s1 := 49) 13 .int (Or.inl ⟨rfl, rfl⟩) 7 dX3_init_7 ac_13 (by decide) (by decide) (Nat.le_of_ble_eq_true rfl) (n := 58) hn (μ1 := km_119) rfl rfl rfl (Nat.le_of_ble_eq_true rfl) (Nat.le_of_ble_eq_true rfl) ?_
  have el : km_119 = sh_add km_118 (13, 49) := rfl
  have hl58 : (sh_lay km_119)[58]? = some (13, 49) := by rw [el]; exact sh_lay_new hn
  have hn : (sh_lay km_119).length = 59 := by rw [el]; exact sh_len_add hn
  have hl57 : (sh_lay km_119)[57]? = some (3, 0) := by decide +kernel
  refine vn_putR 9 dX3_init_9 fl_3_9 (Or.inr ⟨rfl, rfl, rfl⟩) rfl hl57 (fun y ey => ?_)
  obtain rfl : y = km_120 := ey
  have el : sh_lay km_120 = sh_lay km_119 := by rw [show km_120 = sh_setR km_119 57 1 (some 58) from rfl]; exact sh_lyR
  have hl57 : (sh_lay km_120)[57]? = some (3, 0) := by rw [el]; exact hl57
  have hn : (sh_lay km_120).length = 59 := by rw [el]; exact hn
  refine vv_aload_n 12 0 dX3_init_12 rfl rfl ?_
  refine vv_bipush 13 dX3_init_13 bk_7 ?_
  refine vk_newa (N := 7) (c1 := 2) (s1 := 56) 13 .int (Or.inl ⟨rfl, rfl⟩) 15 dX3_init_15 ac_13 (by decide) (by decide) (Nat.le_of_ble_eq_true rfl) (n := 59) hn (μ1 := km_121) rfl rfl rfl (Nat.le_of_ble_eq_true rfl) (Nat.le_of_ble_eq_true rfl) ?_
  have el : km_121 = sh_add km_120 (13, 7) := rfl
  have hl57 : (sh_lay km_121)[57]? = some (3, 0) := by rw [el]; exact sh_lay_add hl57
  have hl59 : (sh_lay km_121)[59]? = some (13, 7) := by rw [el]; exact sh_lay_new hn
  have hn : (sh_lay km_121).length = 60 := by rw [el]; exact sh_len_add hn
  refine vn_putR 17 dX3_init_17 fl_3_15 (Or.inr ⟨rfl, rfl, rfl⟩) rfl hl57 (fun y ey => ?_)
  obtain rfl : y = km_122 := ey
  have el : sh_lay km_122 = sh_lay km_121 := by rw [show km_122 = sh_setR km_121 57 2 (some 59) from rfl]; exact sh_lyR
  have hl57 : (sh_lay km_122)[57]? = some (3, 0) := by rw [el]; exact hl57
  have hn : (sh_lay km_122).length = 60 := by rw [el]; exact hn
  refine vv_aload_n 20 0 dX3_init_20 rfl rfl ?_
  refine vv_bipush 21 dX3_init_21 bk_7 ?_
  refine vk_newa (N := 7) (c1 := 3) (s1 := 63) 13 .int (Or.inl ⟨rfl, rfl⟩) 23 dX3_init_23 ac_13 (by decide) (by decide) (Nat.le_of_ble_eq_true rfl) (n := 60) hn (μ1 := km_123) rfl rfl rfl (Nat.le_of_ble_eq_true rfl) (Nat.le_of_ble_eq_true rfl) ?_
  have el : km_123 = sh_add km_122 (13, 7) := rfl
  have hl57 : (sh_lay km_123)[57]? = some (3, 0) := by rw [el]; exact sh_lay_add hl57
  have hl60 : (sh_lay km_123)[60]? = some (13, 7) := by rw [el]; exact sh_lay_new hn
  have hn : (sh_lay km_123).length = 61 := by rw [el]; exact sh_len_add hn
  refine vn_putR 25 dX3_init_25 fl_3_18 (Or.inr ⟨rfl, rfl, rfl⟩) rfl hl57 (fun y ey => ?_)
  obtain rfl : y = km_124 := ey
  have el : sh_lay km_124 = sh_lay km_123 := by rw [show km_124 = sh_setR km_123 57 3 (some 60) from rfl]; exact sh_lyR
  have hl57 : (sh_lay km_124)[57]? = some (3, 0) := by rw [el]; exact hl57
  have hn : (sh_lay km_124).length = 61 := by rw [el]; exact hn
  refine vv_aload_n 28 0 dX3_init_28 rfl rfl ?_
  refine vv_bipush 29 dX3_init_29 bk_7 ?_
  refine vk_newa (N := 7) (c1 := 4) (s1 := 70) 13 .int (Or.inl ⟨rfl, rfl⟩) 31 dX3_init_31 ac_13 (by decide) (by decide) (Nat.le_of_ble_eq_true rfl) (n := 61) hn (μ1 := km_125) rfl rfl rfl (Nat.le_of_ble_eq_true rfl) (Nat.le_of_ble_eq_true rfl) ?_
  have el : km_125 = sh_add km_124 (13, 7) := rfl
  have hl57 : (sh_lay km_125)[57]? = some (3, 0) := by rw [el]; exact sh_lay_add hl57
  have hl61 : (sh_lay km_125)[61]? = some (13, 7) := by rw [el]; exact sh_lay_new hn
  have hn : (sh_lay km_125).length = 62 := by rw [el]; exact sh_len_add hn
  refine vn_putR 33 dX3_init_33 fl_3_21 (Or.inr ⟨rfl, rfl, rfl⟩) rfl hl57 (fun y ey => ?_)
  obtain rfl : y = km_126 := ey
  have el : sh_lay km_126 = sh_lay km_125 := by rw [show km_126 = sh_setR km_125 57 4 (some 61) from rfl]; exact sh_lyR
  have hl57 : (sh_lay km_126)[57]? = some (3, 0) := by rw [el]; exact hl57
  have hn : (sh_lay km_126).length = 62 := by rw [el]; exact hn
  refine vv_aload_n 36 0 dX3_init_36 rfl rfl ?_
  refine vv_bipush 37 dX3_init_37 bk_7 ?_
  refine vk_newa (N := 7) (c1 := 5) (s1 := 77) 13 .int (Or.inl ⟨rfl, rfl⟩) 39 dX3_init_39 ac_13 (by decide) (by decide) (Nat.le_of_ble_eq_true rfl) (n := 62) hn (μ1 := km_127) rfl rfl rfl (Nat.le_of_ble_eq_true rfl) (Nat.le_of_ble_eq_true rfl) ?_
  have el : km_127 = sh_add km_126 (13, 7) := rfl
  have hl57 : (sh_lay km_127)[57]? = some (3, 0) := by rw [el]; exact sh_lay_add hl57
  have hl62 : (sh_lay km_127)[62]? = some (13, 7) := by rw [el]; exact sh_lay_new hn
  have hn : (sh_lay km_127).length = 63 := by rw [el]; exact sh_len_add hn
  refine vn_putR 41 dX3_init_41 fl_3_24 (Or.inr ⟨rfl, rfl, rfl⟩) rfl hl57 (fun y ey => ?_)
  obtain rfl : y = km_128 := ey
  have el : sh_lay km_128 = sh_lay km_127 := by rw [show km_128 = sh_setR km_127 57 5 (some 62) from rfl]; exact sh_lyR
  have hl57 : (sh_lay km_128)[57]? = some (3, 0) := by rw [el]; exact hl57
  have hn : (sh_lay km_128).length = 63 := by rw [el]; exact hn
  refine vv_vret 44 dX3_init_44 rfl (Nat.le_of_ble_eq_true rfl) (Nat.le_of_ble_eq_true rfl) ⟨rfl, rfl⟩
set_option maxHeartbeats 40000000 in
theorem kc_17 : sh_Con l B D ca 2 7 121 M_X10_init [.ref 55, .ref 29] km_115 (fun v μ' => v = none ∧ μ' = km_130) := by
  have hn : (sh_lay km_115).length = 56 := by decide +kernel
  refine vv_aload_n 0 0 dX10_init_0 rfl rfl ?_
  refine vv_objInit 1 dX10_init_1 ck_X10_3 (Nat.le_of_ble_eq_true rfl) (Nat.le_of_ble_eq_true rfl) ?_
  refine vv_aload_n 4 0 dX10_init_4 rfl rfl ?_
  refine vv_bipush 5 dX10_init_5 bk_38 ?_
  refine vk_newa (N := 38) (c1 := 1) (s1 := 38) 13 .int (Or.inl ⟨rfl, rfl⟩) 7 dX10_init_7 ac_13 (by decide) (by decide) (Nat.le_of_ble_eq_true rfl) (n := 56) hn (μ1 := km_116) rfl rfl rfl (Nat.le_of_ble_eq_true rfl) (Nat.le_of_ble_eq_true rfl) ?_
  have el : km_116 = sh_add km_115 (13, 38) := rfl
  have hl56 : (sh_lay km_116)[56]? = some (13, 38) := by rw [el]; exact sh_lay_new hn
  have hn : (sh_lay km_116).length = 57 := by rw [el]; exact sh_len_add hn
  have hl55 : (sh_lay km_116)[55]? = some (10, 0) := by decide +kernel
  refine vn_putR 9 dX10_init_9 fl_10_9 (Or.inr ⟨rfl, rfl, rfl⟩) rfl hl55 (fun y ey => ?_)
  obtain rfl : y = km_117 := ey
  have el : sh_lay km_117 = sh_lay km_116 := by rw [show km_117 = sh_setR km_116 55 2 (some 56) from rfl]; exact sh_lyR
  have hl55 : (sh_lay km_117)[55]? = some (10, 0) := by rw [el]; exact hl55
  have hn : (sh_lay km_117).length = 57 := by rw [el]; exact hn
  refine vv_aload_n 12 0 dX10_init_12 rfl rfl ?_
  refine vk_new (c1 := 2) (s1 := 44) 13 dX10_init_13 nw_10_15 (n := 57) hn (μ1 := km_118) rfl rfl rfl (Nat.le_of_ble_eq_true rfl) (Nat.le_of_ble_eq_true rfl) ?_
  have el : km_118 = sh_add km_117 (3, 0) := rfl
  have hl55 : (sh_lay km_118)[55]? = some (10, 0) := by rw [el]; exact sh_lay_add hl55
  have hl57 : (sh_lay km_118)[57]? = some (3, 0) := by rw [el]; exact sh_lay_new hn
  have hn : (sh_lay km_118).length = 58 := by rw [el]; exact sh_len_add hn
  refine vv_dup_ref 16 dX10_init_16 ?_
  refine vk_callIN (c1 := 7) (s1 := 121) [] 17 dX10_init_17 ck_X10_17 kc_16 (Nat.le_of_ble_eq_true rfl) ⟨Nat.le_of_ble_eq_true rfl, Nat.le_of_ble_eq_true rfl⟩ rfl (Nat.le_of_ble_eq_true rfl) rfl rfl (Nat.le_of_ble_eq_true rfl) (Nat.le_of_ble_eq_true rfl) ?_
  have hn : (sh_lay km_128).length = 63 := by decide +kernel
  have hl55 : (sh_lay km_128)[55]? = some (10, 0) := by decide +kernel
  refine vn_putR 20 dX10_init_20 fl_10_18 (Or.inr ⟨rfl, rfl, rfl⟩) rfl hl55 (fun y ey => ?_)
  obtain rfl : y = km_129 := ey
  have el : sh_lay km_129 = sh_lay km_128 := by rw [show km_129 = sh_setR km_128 55 3 (some 57) from rfl]; exact sh_lyR
  have hl55 : (sh_lay km_129)[55]? = some (10, 0) := by rw [el]; exact hl55
  have hn : (sh_lay km_129).length = 63 := by rw [el]; exact hn
  refine vv_aload_n 23 0 dX10_init_23 rfl rfl ?_
  refine vv_aload_n 24 1 dX10_init_24 rfl rfl ?_
  refine vn_putR 25 dX10_init_25 fl_10_22 (Or.inl rfl) rfl hl55 (fun y ey => ?_)
  obtain rfl : y = km_130 := ey
  have el : sh_lay km_130 = sh_lay km_129 := by rw [show km_130 = sh_setR km_129 55 0 (some 29) from rfl]; exact sh_lyR
  have hl55 : (sh_lay km_130)[55]? = some (10, 0) := by rw [el]; exact hl55
  have hn : (sh_lay km_130).length = 63 := by rw [el]; exact hn
  refine vv_vret 28 dX10_init_28 rfl (Nat.le_of_ble_eq_true rfl) (Nat.le_of_ble_eq_true rfl) ⟨rfl, rfl⟩
set_option maxHeartbeats 40000000 in
theorem kc_18 : sh_Con l B D ca 1 5 77 M_X3_init [.ref 88] km_141 (fun v μ' => v = none ∧ μ' = km_151) := by
  have hn : (sh_lay km_141).length = 89 := by decide +kernel
  refine vv_aload_n 0 0 dX3_init_0 rfl rfl ?_
  refine vv_objInit 1 dX3_init_1 ck_X3_3 (Nat.le_of_ble_eq_true rfl) (Nat.le_of_ble_eq_true rfl) ?_
  refine vv_aload_n 4 0 dX3_init_4 rfl rfl ?_
  refine vv_bipush 5 dX3_init_5 bk_49 ?_
  refine vk_newa (N := 49) (c1 := 1) (s1 := 49) 13 .int (Or.inl ⟨rfl, rfl⟩) 7 dX3_init_7 ac_13 (by decide) (by decide) (Nat.le_of_ble_eq_true rfl) (n := 89) hn (μ1 := km_142) rfl rfl rfl (Nat.le_of_ble_eq_true rfl) (Nat.le_of_ble_eq_true rfl) ?_
  have el : km_142 = sh_add km_141 (13, 49) := rfl
  have hl89 : (sh_lay km_142)[89]? = some (13, 49) := by rw [el]; exact sh_lay_new hn
  have hn : (sh_lay km_142).length = 90 := by rw [el]; exact sh_len_add hn
  have hl88 : (sh_lay km_142)[88]? = some (3, 0) := by decide +kernel
  refine vn_putR 9 dX3_init_9 fl_3_9 (Or.inr ⟨rfl, rfl, rfl⟩) rfl hl88 (fun y ey => ?_)
  obtain rfl : y = km_143 := ey
  have el : sh_lay km_143 = sh_lay km_142 := by rw [show km_143 = sh_setR km_142 88 1 (some 89) from rfl]; exact sh_lyR
  have hl88 : (sh_lay km_143)[88]? = some (3, 0) := by rw [el]; exact hl88
  have hn : (sh_lay km_143).length = 90 := by rw [el]; exact hn
  refine vv_aload_n 12 0 dX3_init_12 rfl rfl ?_
  refine vv_bipush 13 dX3_init_13 bk_7 ?_
  refine vk_newa (N := 7) (c1 := 2) (s1 := 56) 13 .int (Or.inl ⟨rfl, rfl⟩) 15 dX3_init_15 ac_13 (by decide) (by decide) (Nat.le_of_ble_eq_true rfl) (n := 90) hn (μ1 := km_144) rfl rfl rfl (Nat.le_of_ble_eq_true rfl) (Nat.le_of_ble_eq_true rfl) ?_
  have el : km_144 = sh_add km_143 (13, 7) := rfl
  have hl88 : (sh_lay km_144)[88]? = some (3, 0) := by rw [el]; exact sh_lay_add hl88
  have hl90 : (sh_lay km_144)[90]? = some (13, 7) := by rw [el]; exact sh_lay_new hn
  have hn : (sh_lay km_144).length = 91 := by rw [el]; exact sh_len_add hn
  refine vn_putR 17 dX3_init_17 fl_3_15 (Or.inr ⟨rfl, rfl, rfl⟩) rfl hl88 (fun y ey => ?_)
  obtain rfl : y = km_145 := ey
  have el : sh_lay km_145 = sh_lay km_144 := by rw [show km_145 = sh_setR km_144 88 2 (some 90) from rfl]; exact sh_lyR
  have hl88 : (sh_lay km_145)[88]? = some (3, 0) := by rw [el]; exact hl88
  have hn : (sh_lay km_145).length = 91 := by rw [el]; exact hn
  refine vv_aload_n 20 0 dX3_init_20 rfl rfl ?_
  refine vv_bipush 21 dX3_init_21 bk_7 ?_
  refine vk_newa (N := 7) (c1 := 3) (s1 := 63) 13 .int (Or.inl ⟨rfl, rfl⟩) 23 dX3_init_23 ac_13 (by decide) (by decide) (Nat.le_of_ble_eq_true rfl) (n := 91) hn (μ1 := km_146) rfl rfl rfl (Nat.le_of_ble_eq_true rfl) (Nat.le_of_ble_eq_true rfl) ?_
  have el : km_146 = sh_add km_145 (13, 7) := rfl
  have hl88 : (sh_lay km_146)[88]? = some (3, 0) := by rw [el]; exact sh_lay_add hl88
  have hl91 : (sh_lay km_146)[91]? = some (13, 7) := by rw [el]; exact sh_lay_new hn
  have hn : (sh_lay km_146).length = 92 := by rw [el]; exact sh_len_add hn
  refine vn_putR 25 dX3_init_25 fl_3_18 (Or.inr ⟨rfl, rfl, rfl⟩) rfl hl88 (fun y ey => ?_)
  obtain rfl : y = km_147 := ey
  have el : sh_lay km_147 = sh_lay km_146 := by rw [show km_147 = sh_setR km_146 88 3 (some 91) from rfl]; exact sh_lyR
  have hl88 : (sh_lay km_147)[88]? = some (3, 0) := by rw [el]; exact hl88
  have hn : (sh_lay km_147).length = 92 := by rw [el]; exact hn
  refine vv_aload_n 28 0 dX3_init_28 rfl rfl ?_
  refine vv_bipush 29 dX3_init_29 bk_7 ?_
  refine vk_newa (N := 7) (c1 := 4) (s1 := 70) 13 .int (Or.inl ⟨rfl, rfl⟩) 31 dX3_init_31 ac_13 (by decide) (by decide) (Nat.le_of_ble_eq_true rfl) (n := 92) hn (μ1 := km_148) rfl rfl rfl (Nat.le_of_ble_eq_true rfl) (Nat.le_of_ble_eq_true rfl) ?_
  have el : km_148 = sh_add km_147 (13, 7) := rfl
  have hl88 : (sh_lay km_148)[88]? = some (3, 0) := by rw [el]; exact sh_lay_add hl88
  have hl92 : (sh_lay km_148)[92]? = some (13, 7) := by rw [el]; exact sh_lay_new hn
  have hn : (sh_lay km_148).length = 93 := by rw [el]; exact sh_len_add hn
  refine vn_putR 33 dX3_init_33 fl_3_21 (Or.inr ⟨rfl, rfl, rfl⟩) rfl hl88 (fun y ey => ?_)
  obtain rfl : y = km_149 := ey
  have el : sh_lay km_149 = sh_lay km_148 := by rw [show km_149 = sh_setR km_148 88 4 (some 92) from rfl]; exact sh_lyR
  have hl88 : (sh_lay km_149)[88]? = some (3, 0) := by rw [el]; exact hl88
  have hn : (sh_lay km_149).length = 93 := by rw [el]; exact hn
  refine vv_aload_n 36 0 dX3_init_36 rfl rfl ?_
  refine vv_bipush 37 dX3_init_37 bk_7 ?_
  refine vk_newa (N := 7) (c1 := 5) (s1 := 77) 13 .int (Or.inl ⟨rfl, rfl⟩) 39 dX3_init_39 ac_13 (by decide) (by decide) (Nat.le_of_ble_eq_true rfl) (n := 93) hn (μ1 := km_150) rfl rfl rfl (Nat.le_of_ble_eq_true rfl) (Nat.le_of_ble_eq_true rfl) ?_
  have el : km_150 = sh_add km_149 (13, 7) := rfl
  have hl88 : (sh_lay km_150)[88]? = some (3, 0) := by rw [el]; exact sh_lay_add hl88
  have hl93 : (sh_lay km_150)[93]? = some (13, 7) := by rw [el]; exact sh_lay_new hn
  have hn : (sh_lay km_150).length = 94 := by rw [el]; exact sh_len_add hn
  refine vn_putR 41 dX3_init_41 fl_3_24 (Or.inr ⟨rfl, rfl, rfl⟩) rfl hl88 (fun y ey => ?_)
  obtain rfl : y = km_151 := ey
  have el : sh_lay km_151 = sh_lay km_150 := by rw [show km_151 = sh_setR km_150 88 5 (some 93) from rfl]; exact sh_lyR
  have hl88 : (sh_lay km_151)[88]? = some (3, 0) := by rw [el]; exact hl88
  have hn : (sh_lay km_151).length = 94 := by rw [el]; exact hn
  refine vv_vret 44 dX3_init_44 rfl (Nat.le_of_ble_eq_true rfl) (Nat.le_of_ble_eq_true rfl) ⟨rfl, rfl⟩
set_option maxHeartbeats 40000000 in
theorem kc_19 : sh_Con l B D ca 1 5 77 M_X3_init [.ref 94] km_153 (fun v μ' => v = none ∧ μ' = km_163) := by
  have hn : (sh_lay km_153).length = 95 := by decide +kernel
  refine vv_aload_n 0 0 dX3_init_0 rfl rfl ?_
  refine vv_objInit 1 dX3_init_1 ck_X3_3 (Nat.le_of_ble_eq_true rfl) (Nat.le_of_ble_eq_true rfl) ?_
  refine vv_aload_n 4 0 dX3_init_4 rfl rfl ?_
  refine vv_bipush 5 dX3_init_5 bk_49 ?_
  refine vk_newa (N := 49) (c1 := 1) (s1 := 49) 13 .int (Or.inl ⟨rfl, rfl⟩) 7 dX3_init_7 ac_13 (by decide) (by decide) (Nat.le_of_ble_eq_true rfl) (n := 95) hn (μ1 := km_154) rfl rfl rfl (Nat.le_of_ble_eq_true rfl) (Nat.le_of_ble_eq_true rfl) ?_
  have el : km_154 = sh_add km_153 (13, 49) := rfl
  have hl95 : (sh_lay km_154)[95]? = some (13, 49) := by rw [el]; exact sh_lay_new hn
  have hn : (sh_lay km_154).length = 96 := by rw [el]; exact sh_len_add hn
  have hl94 : (sh_lay km_154)[94]? = some (3, 0) := by decide +kernel
  refine vn_putR 9 dX3_init_9 fl_3_9 (Or.inr ⟨rfl, rfl, rfl⟩) rfl hl94 (fun y ey => ?_)
  obtain rfl : y = km_155 := ey
  have el : sh_lay km_155 = sh_lay km_154 := by rw [show km_155 = sh_setR km_154 94 1 (some 95) from rfl]; exact sh_lyR
  have hl94 : (sh_lay km_155)[94]? = some (3, 0) := by rw [el]; exact hl94
  have hn : (sh_lay km_155).length = 96 := by rw [el]; exact hn
  refine vv_aload_n 12 0 dX3_init_12 rfl rfl ?_
  refine vv_bipush 13 dX3_init_13 bk_7 ?_
  refine vk_newa (N := 7) (c1 := 2) (s1 := 56) 13 .int (Or.inl ⟨rfl, rfl⟩) 15 dX3_init_15 ac_13 (by decide) (by decide) (Nat.le_of_ble_eq_true rfl) (n := 96) hn (μ1 := km_156) rfl rfl rfl (Nat.le_of_ble_eq_true rfl) (Nat.le_of_ble_eq_true rfl) ?_
  have el : km_156 = sh_add km_155 (13, 7) := rfl
  have hl94 : (sh_lay km_156)[94]? = some (3, 0) := by rw [el]; exact sh_lay_add hl94
  have hl96 : (sh_lay km_156)[96]? = some (13, 7) := by rw [el]; exact sh_lay_new hn
  have hn : (sh_lay km_156).length = 97 := by rw [el]; exact sh_len_add hn
  refine vn_putR 17 dX3_init_17 fl_3_15 (Or.inr ⟨rfl, rfl, rfl⟩) rfl hl94 (fun y ey => ?_)
  obtain rfl : y = km_157 := ey
  have el : sh_lay km_157 = sh_lay km_156 := by rw [show km_157 = sh_setR km_156 94 2 (some 96) from rfl]; exact sh_lyR
  have hl94 : (sh_lay km_157)[94]? = some (3, 0) := by rw [el]; exact hl94
  have hn : (sh_lay km_157).length = 97 := by rw [el]; exact hn
  refine vv_aload_n 20 0 dX3_init_20 rfl rfl ?_
  refine vv_bipush 21 dX3_init_21 bk_7 ?_
  refine vk_newa (N := 7) (c1 := 3) (s1 := 63) 13 .int (Or.inl ⟨rfl, rfl⟩) 23 dX3_init_23 ac_13 (by decide) (by decide) (Nat.le_of_ble_eq_true rfl) (n := 97) hn (μ1 := km_158) rfl rfl rfl (Nat.le_of_ble_eq_true rfl) (Nat.le_of_ble_eq_true rfl) ?_
  have el : km_158 = sh_add km_157 (13, 7) := rfl
  have hl94 : (sh_lay km_158)[94]? = some (3, 0) := by rw [el]; exact sh_lay_add hl94
  have hl97 : (sh_lay km_158)[97]? = some (13, 7) := by rw [el]; exact sh_lay_new hn
  have hn : (sh_lay km_158).length = 98 := by rw [el]; exact sh_len_add hn
  refine vn_putR 25 dX3_init_25 fl_3_18 (Or.inr ⟨rfl, rfl, rfl⟩) rfl hl94 (fun y ey => ?_)
  obtain rfl : y = km_159 := ey
  have el : sh_lay km_159 = sh_lay km_158 := by rw [show km_159 = sh_setR km_158 94 3 (some 97) from rfl]; exact sh_lyR
  have hl94 : (sh_lay km_159)[94]? = some (3, 0) := by rw [el]; exact hl94
  have hn : (sh_lay km_159).length = 98 := by rw [el]; exact hn
  refine vv_aload_n 28 0 dX3_init_28 rfl rfl ?_
  refine vv_bipush 29 dX3_init_29 bk_7 ?_
  refine vk_newa (N := 7) (c1 := 4) (s1 := 70) 13 .int (Or.inl ⟨rfl, rfl⟩) 31 dX3_init_31 ac_13 (by decide) (by decide) (Nat.le_of_ble_eq_true rfl) (n := 98) hn (μ1 := km_160) rfl rfl rfl (Nat.le_of_ble_eq_true rfl) (Nat.le_of_ble_eq_true rfl) ?_
  have el : km_160 = sh_add km_159 (13, 7) := rfl
  have hl94 : (sh_lay km_160)[94]? = some (3, 0) := by rw [el]; exact sh_lay_add hl94
  have hl98 : (sh_lay km_160)[98]? = some (13, 7) := by rw [el]; exact sh_lay_new hn
  have hn : (sh_lay km_160).length = 99 := by rw [el]; exact sh_len_add hn
  refine vn_putR 33 dX3_init_33 fl_3_21 (Or.inr ⟨rfl, rfl, rfl⟩) rfl hl94 (fun y ey => ?_)
  obtain rfl : y = km_161 := ey
  have el : sh_lay km_161 = sh_lay km_160 := by rw [show km_161 = sh_setR km_160 94 4 (some 98) from rfl]; exact sh_lyR
  have hl94 : (sh_lay km_161)[94]? = some (3, 0) := by rw [el]; exact hl94
  have hn : (sh_lay km_161).length = 99 := by rw [el]; exact hn
  refine vv_aload_n 36 0 dX3_init_36 rfl rfl ?_
  refine vv_bipush 37 dX3_init_37 bk_7 ?_
  refine vk_newa (N := 7) (c1 := 5) (s1 := 77) 13 .int (Or.inl ⟨rfl, rfl⟩) 39 dX3_init_39 ac_13 (by decide) (by decide) (Nat.le_of_ble_eq_true rfl) (n := 99) hn (μ1 := km_162) rfl rfl rfl (Nat.le_of_ble_eq_true rfl) (Nat.le_of_ble_eq_true rfl) ?_
  have el : km_162 = sh_add km_161 (13, 7) := rfl
  have hl94 : (sh_lay km_162)[94]? = some (3, 0) := by rw [el]; exact sh_lay_add hl94
  have hl99 : (sh_lay km_162)[99]? = some (13, 7) := by rw [el]; exact sh_lay_new hn
  have hn : (sh_lay km_162).length = 100 := by rw [el]; exact sh_len_add hn
  refine vn_putR 41 dX3_init_41 fl_3_24 (Or.inr ⟨rfl, rfl, rfl⟩) rfl hl94 (fun y ey => ?_)
  obtain rfl : y = km_163 := ey
  have el : sh_lay km_163 = sh_lay km_162 := by rw [show km_163 = sh_setR km_162 94 5 (some 99) from rfl]; exact sh_lyR
  have hl94 : (sh_lay km_163)[94]? = some (3, 0) := by rw [el]; exact hl94
  have hn : (sh_lay km_163).length = 100 := by rw [el]; exact hn
  refine vv_vret 44 dX3_init_44 rfl (Nat.le_of_ble_eq_true rfl) (Nat.le_of_ble_eq_true rfl) ⟨rfl, rfl⟩
set_option maxHeartbeats 40000000 in
theorem kc_20 : sh_Con l B D ca 1 5 77 M_X3_init [.ref 100] km_165 (fun v μ' => v = none ∧ μ' = km_175) := by
  have hn : (sh_lay km_165).length = 101 := by decide +kernel
  refine vv_aload_n 0 0 dX3_init_0 rfl rfl ?_
  refine vv_objInit 1 dX3_init_1 ck_X3_3 (Nat.le_of_ble_eq_true rfl) (Nat.le_of_ble_eq_true rfl) ?_
  refine vv_aload_n 4 0 dX3_init_4 rfl rfl ?_
  refine vv_bipush 5 dX3_init_5 bk_49 ?_
  refine vk_newa (N := 49) (c1 := 1) (s1 := 49) 13 .int (Or.inl ⟨rfl, rfl⟩) 7 dX3_init_7 ac_13 (by decide) (by decide) (Nat.le_of_ble_eq_true rfl) (n := 101) hn (μ1 := km_166) rfl rfl rfl (Nat.le_of_ble_eq_true rfl) (Nat.le_of_ble_eq_true rfl) ?_
  have el : km_166 = sh_add km_165 (13, 49) := rfl
  have hl101 : (sh_lay km_166)[101]? = some (13, 49) := by rw [el]; exact sh_lay_new hn
  have hn : (sh_lay km_166).length = 102 := by rw [el]; exact sh_len_add hn
  have hl100 : (sh_lay km_166)[100]? = some (3, 0) := by decide +kernel
  refine vn_putR 9 dX3_init_9 fl_3_9 (Or.inr ⟨rfl, rfl, rfl⟩) rfl hl100 (fun y ey => ?_)
  obtain rfl : y = km_167 := ey
  have el : sh_lay km_167 = sh_lay km_166 := by rw [show km_167 = sh_setR km_166 100 1 (some 101) from rfl]; exact sh_lyR
  have hl100 : (sh_lay km_167)[100]? = some (3, 0) := by rw [el]; exact hl100
  have hn : (sh_lay km_167).length = 102 := by rw [el]; exact hn
  refine vv_aload_n 12 0 dX3_init_12 rfl rfl ?_
  refine vv_bipush 13 dX3_init_13 bk_7 ?_
  refine vk_newa (N := 7) (c1 := 2) (s1 := 56) 13 .int (Or.inl ⟨rfl, rfl⟩) 15 dX3_init_15 ac_13 (by decide) (by decide) (Nat.le_of_ble_eq_true rfl) (n := 102) hn (μ1 := km_168) rfl rfl rfl (Nat.le_of_ble_eq_true rfl) (Nat.le_of_ble_eq_true rfl) ?_
  have el : km_168 = sh_add km_167 (13, 7) := rfl
  have hl100 : (sh_lay km_168)[100]? = some (3, 0) := by rw [el]; exact sh_lay_add hl100
  have hl102 : (sh_lay km_168)[102]? = some (13, 7) := by rw [el]; exact sh_lay_new hn
  have hn : (sh_lay km_168).length = 103 := by rw [el]; exact sh_len_add hn
  refine vn_putR 17 dX3_init_17 fl_3_15 (Or.inr ⟨rfl, rfl, rfl⟩) rfl hl100 (fun y ey => ?_)
  obtain rfl : y = km_169 := ey
  have el : sh_lay km_169 = sh_lay km_168 := by rw [show km_169 = sh_setR km_168 100 2 (some 102) from rfl]; exact sh_lyR
  have hl100 : (sh_lay km_169)[100]? = some (3, 0) := by rw [el]; exact hl100
  have hn : (sh_lay km_169).length = 103 := by rw [el]; exact hn
  refine vv_aload_n 20 0 dX3_init_20 rfl rfl ?_
  refine vv_bipush 21 dX3_init_21 bk_7 ?_
  refine vk_newa (N := 7) (c1 := 3) (s1 := 63) 13 .int (Or.inl ⟨rfl, rfl⟩) 23 dX3_init_23 ac_13 (by decide) (by decide) (Nat.le_of_ble_eq_true rfl) (n := 103) hn (μ1 := km_170) rfl rfl rfl (Nat.le_of_ble_eq_true rfl) (Nat.le_of_ble_eq_true rfl) ?_
  have el : km_170 = sh_add km_169 (13, 7) := rfl
  have hl100 : (sh_lay km_170)[100]? = some (3, 0) := by rw [el]; exact sh_lay_add hl100
  have hl103 : (sh_lay km_170)[103]? = some (13, 7) := by rw [el]; exact sh_lay_new hn
  have hn : (sh_lay km_170).length = 104 := by rw [el]; exact sh_len_add hn
  refine vn_putR 25 dX3_init_25 fl_3_18 (Or.inr ⟨rfl, rfl, rfl⟩) rfl hl100 (fun y ey => ?_)
  obtain rfl : y = km_171 := ey
  have el : sh_lay km_171 = sh_lay km_170 := by rw [show km_171 = sh_setR km_170 100 3 (some 103) from rfl]; exact sh_lyR
  have hl100 : (sh_lay km_171)[100]? = some (3, 0) := by rw [el]; exact hl100
  have hn : (sh_lay km_171).length = 104 := by rw [el]; exact hn
  refine vv_aload_n 28 0 dX3_init_28 rfl rfl ?_
  refine vv_bipush 29 dX3_init_29 bk_7 ?_
  refine vk_newa (N := 7) (c1 := 4) (s1 := 70) 13 .int (Or.inl ⟨rfl, rfl⟩) 31 dX3_init_31 ac_13 (by decide) (by decide) (Nat.le_of_ble_eq_true rfl) (n := 104) hn (μ1 := km_172) rfl rfl rfl (Nat.le_of_ble_eq_true rfl) (Nat.le_of_ble_eq_true rfl) ?_
  have el : km_172 = sh_add km_171 (13, 7) := rfl
  have hl100 : (sh_lay km_172)[100]? = some (3, 0) := by rw [el]; exact sh_lay_add hl100
  have hl104 : (sh_lay km_172)[104]? = some (13, 7) := by rw [el]; exact sh_lay_new hn
  have hn : (sh_lay km_172).length = 105 := by rw [el]; exact sh_len_add hn
  refine vn_putR 33 dX3_init_33 fl_3_21 (Or.inr ⟨rfl, rfl, rfl⟩) rfl hl100 (fun y ey => ?_)
  obtain rfl : y = km_173 := ey
  have el : sh_lay km_173 = sh_lay km_172 := by rw [show km_173 = sh_setR km_172 100 4 (some 104) from rfl]; exact sh_lyR
  have hl100 : (sh_lay km_173)[100]? = some (3, 0) := by rw [el]; exact hl100
  have hn : (sh_lay km_173).length = 105 := by rw [el]; exact hn
  refine vv_aload_n 36 0 dX3_init_36 rfl rfl ?_
  refine vv_bipush 37 dX3_init_37 bk_7 ?_
  refine vk_newa (N := 7) (c1 := 5) (s1 := 77) 13 .int (Or.inl ⟨rfl, rfl⟩) 39 dX3_init_39 ac_13 (by decide) (by decide) (Nat.le_of_ble_eq_true rfl) (n := 105) hn (μ1 := km_174) rfl rfl rfl (Nat.le_of_ble_eq_true rfl) (Nat.le_of_ble_eq_true rfl) ?_
  have el : km_174 = sh_add km_173 (13, 7) := rfl
  have hl100 : (sh_lay km_174)[100]? = some (3, 0) := by rw [el]; exact sh_lay_add hl100
  have hl105 : (sh_lay km_174)[105]? = some (13, 7) := by rw [el]; exact sh_lay_new hn
  have hn : (sh_lay km_174).length = 106 := by rw [el]; exact sh_len_add hn
  refine vn_putR 41 dX3_init_41 fl_3_24 (Or.inr ⟨rfl, rfl, rfl⟩) rfl hl100 (fun y ey => ?_)
  obtain rfl : y = km_175 := ey
  have el : sh_lay km_175 = sh_lay km_174 := by rw [show km_175 = sh_setR km_174 100 5 (some 105) from rfl]; exact sh_lyR
  have hl100 : (sh_lay km_175)[100]? = some (3, 0) := by rw [el]; exact hl100
  have hn : (sh_lay km_175).length = 106 := by rw [el]; exact hn
  refine vv_vret 44 dX3_init_44 rfl (Nat.le_of_ble_eq_true rfl) (Nat.le_of_ble_eq_true rfl) ⟨rfl, rfl⟩
set_option maxHeartbeats 40000000 in
theorem kc_21 : sh_Con l B D ca 1 5 77 M_X3_init [.ref 106] km_177 (fun v μ' => v = none ∧ μ' = km_187) := by
  have hn : (sh_lay km_177).length = 107 := by decide +kernel
  refine vv_aload_n 0 0 dX3_init_0 rfl rfl ?_
  refine vv_objInit 1 dX3_init_1 ck_X3_3 (Nat.le_of_ble_eq_true rfl) (Nat.le_of_ble_eq_true rfl) ?_
  refine vv_aload_n 4 0 dX3_init_4 rfl rfl ?_
  refine vv_bipush 5 dX3_init_5 bk_49 ?_
  refine vk_newa (N := 49) (c1 := 1) (s1 := 49) 13 .int (Or.inl ⟨rfl, rfl⟩) 7 dX3_init_7 ac_13 (by decide) (by decide) (Nat.le_of_ble_eq_true rfl) (n := 107) hn (μ1 := km_178) rfl rfl rfl (Nat.le_of_ble_eq_true rfl) (Nat.le_of_ble_eq_true rfl) ?_
  have el : km_178 = sh_add km_177 (13, 49) := rfl
  have hl107 : (sh_lay km_178)[107]? = some (13, 49) := by rw [el]; exact sh_lay_new hn
  have hn : (sh_lay km_178).length = 108 := by rw [el]; exact sh_len_add hn
  have hl106 : (sh_lay km_178)[106]? = some (3, 0) := by decide +kernel
  refine vn_putR 9 dX3_init_9 fl_3_9 (Or.inr ⟨rfl, rfl, rfl⟩) rfl hl106 (fun y ey => ?_)
  obtain rfl : y = km_179 := ey
  have el : sh_lay km_179 = sh_lay km_178 := by rw [show km_179 = sh_setR km_178 106 1 (some 107) from rfl]; exact sh_lyR
  have hl106 : (sh_lay km_179)[106]? = some (3, 0) := by rw [el]; exact hl106
  have hn : (sh_lay km_179).length = 108 := by rw [el]; exact hn
  refine vv_aload_n 12 0 dX3_init_12 rfl rfl ?_
  refine vv_bipush 13 dX3_init_13 bk_7 ?_
  refine vk_newa (N := 7) (c1 := 2) (s1 := 56) 13 .int (Or.inl ⟨rfl, rfl⟩) 15 dX3_init_15 ac_13 (by decide) (by decide) (Nat.le_of_ble_eq_true rfl) (n := 108) hn (μ1 := km_180) rfl rfl rfl (Nat.le_of_ble_eq_true rfl) (Nat.le_of_ble_eq_true rfl) ?_
  have el : km_180 = sh_add km_179 (13, 7) := rfl
  have hl106 : (sh_lay km_180)[106]? = some (3, 0) := by rw [el]; exact sh_lay_add hl106
  have hl108 : (sh_lay km_180)[108]? = some (13, 7) := by rw [el]; exact sh_lay_new hn
  have hn : (sh_lay km_180).length = 109 := by rw [el]; exact sh_len_add hn
  refine vn_putR 17 dX3_init_17 fl_3_15 (Or.inr ⟨rfl, rfl, rfl⟩) rfl hl106 (fun y ey => ?_)
  obtain rfl : y = km_181 := ey
  have el : sh_lay km_181 = sh_lay km_180 := by rw [show km_181 = sh_setR km_180 106 2 (some 108) from rfl]; exact sh_lyR
  have hl106 : (sh_lay km_181)[106]? = some (3, 0) := by rw [el]; exact hl106
  have hn : (sh_lay km_181).length = 109 := by rw [el]; exact hn
  refine vv_aload_n 20 0 dX3_init_20 rfl rfl ?_
  refine vv_bipush 21 dX3_init_21 bk_7 ?_
  refine vk_newa (N := 7) (c1 := 3) (s1 := 63) 13 .int (Or.inl ⟨rfl, rfl⟩) 23 dX3_init_23 ac_13 (by decide) (by decide) (Nat.le_of_ble_eq_true rfl) (n := 109) hn (μ1 := km_182) rfl rfl rfl (Nat.le_of_ble_eq_true rfl) (Nat.le_of_ble_eq_true rfl) ?_
  have el : km_182 = sh_add km_181 (13, 7) := rfl
  have hl106 : (sh_lay km_182)[106]? = some (3, 0) := by rw [el]; exact sh_lay_add hl106
  have hl109 : (sh_lay km_182)[109]? = some (13, 7) := by rw [el]; exact sh_lay_new hn
  have hn : (sh_lay km_182).length = 110 := by rw [el]; exact sh_len_add hn
  refine vn_putR 25 dX3_init_25 fl_3_18 (Or.inr ⟨rfl, rfl, rfl⟩) rfl hl106 (fun y ey => ?_)
  obtain rfl : y = km_183 := ey
  have el : sh_lay km_183 = sh_lay km_182 := by rw [show km_183 = sh_setR km_182 106 3 (some 109) from rfl]; exact sh_lyR
  have hl106 : (sh_lay km_183)[106]? = some (3, 0) := by rw [el]; exact hl106
  have hn : (sh_lay km_183).length = 110 := by rw [el]; exact hn
  refine vv_aload_n 28 0 dX3_init_28 rfl rfl ?_
  refine vv_bipush 29 dX3_init_29 bk_7 ?_
  refine vk_newa (N := 7) (c1 := 4) (s1 := 70) 13 .int (Or.inl ⟨rfl, rfl⟩) 31 dX3_init_31 ac_13 (by decide) (by decide) (Nat.le_of_ble_eq_true rfl) (n := 110) hn (μ1 := km_184) rfl rfl rfl (Nat.le_of_ble_eq_true rfl) (Nat.le_of_ble_eq_true rfl) ?_
  have el : km_184 = sh_add km_183 (13, 7) := rfl
  have hl106 : (sh_lay km_184)[106]? = some (3, 0) := by rw [el]; exact sh_lay_add hl106
  have hl110 : (sh_lay km_184)[110]? = some (13, 7) := by rw [el]; exact sh_lay_new hn
  have hn : (sh_lay km_184).length = 111 := by rw [el]; exact sh_len_add hn
  refine vn_putR 33 dX3_init_33 fl_3_21 (Or.inr ⟨rfl, rfl, rfl⟩) rfl hl106 (fun y ey => ?_)
  obtain rfl : y = km_185 := ey
  have el : sh_lay km_185 = sh_lay km_184 := by rw [show km_185 = sh_setR km_184 106 4 (some 110) from rfl]; exact sh_lyR
  have hl106 : (sh_lay km_185)[106]? = some (3, 0) := by rw [el]; exact hl106
  have hn : (sh_lay km_185).length = 111 := by rw [el]; exact hn
  refine vv_aload_n 36 0 dX3_init_36 rfl rfl ?_
  refine vv_bipush 37 dX3_init_37 bk_7 ?_
  refine vk_newa (N := 7) (c1 := 5) (s1 := 77) 13 .int (Or.inl ⟨rfl, rfl⟩) 39 dX3_init_39 ac_13 (by decide) (by decide) (Nat.le_of_ble_eq_true rfl) (n := 111) hn (μ1 := km_186) rfl rfl rfl (Nat.le_of_ble_eq_true rfl) (Nat.le_of_ble_eq_true rfl) ?_
  have el : km_186 = sh_add km_185 (13, 7) := rfl
  have hl106 : (sh_lay km_186)[106]? = some (3, 0) := by rw [el]; exact sh_lay_add hl106
  have hl111 : (sh_lay km_186)[111]? = some (13, 7) := by rw [el]; exact sh_lay_new hn
  have hn : (sh_lay km_186).length = 112 := by rw [el]; exact sh_len_add hn
  refine vn_putR 41 dX3_init_41 fl_3_24 (Or.inr ⟨rfl, rfl, rfl⟩) rfl hl106 (fun y ey => ?_)
  obtain rfl : y = km_187 := ey
  have el : sh_lay km_187 = sh_lay km_186 := by rw [show km_187 = sh_setR km_186 106 5 (some 111) from rfl]; exact sh_lyR
  have hl106 : (sh_lay km_187)[106]? = some (3, 0) := by rw [el]; exact hl106
  have hn : (sh_lay km_187).length = 112 := by rw [el]; exact hn
  refine vv_vret 44 dX3_init_44 rfl (Nat.le_of_ble_eq_true rfl) (Nat.le_of_ble_eq_true rfl) ⟨rfl, rfl⟩
set_option maxHeartbeats 40000000 in
theorem kc_22 : sh_Con l B D ca 1 5 77 M_X3_init [.ref 112] km_189 (fun v μ' => v = none ∧ μ' = km_199) := by
  have hn : (sh_lay km_189).length = 113 := by decide +kernel
  refine vv_aload_n 0 0 dX3_init_0 rfl rfl ?_
  refine vv_objInit 1 dX3_init_1 ck_X3_3 (Nat.le_of_ble_eq_true rfl) (Nat.le_of_ble_eq_true rfl) ?_
  refine vv_aload_n 4 0 dX3_init_4 rfl rfl ?_
  refine vv_bipush 5 dX3_init_5 bk_49 ?_
  refine vk_newa (N := 49) (c1 := 1) (s1 := 49) 13 .int (Or.inl ⟨rfl, rfl⟩) 7 dX3_init_7 ac_13 (by decide) (by decide) (Nat.le_of_ble_eq_true rfl) (n := 113) hn (μ1 := km_190) rfl rfl rfl (Nat.le_of_ble_eq_true rfl) (Nat.le_of_ble_eq_true rfl) ?_
  have el : km_190 = sh_add km_189 (13, 49) := rfl
  have hl113 : (sh_lay km_190)[113]? = some (13, 49) := by rw [el]; exact sh_lay_new hn
  have hn : (sh_lay km_190).length = 114 := by rw [el]; exact sh_len_add hn
  have hl112 : (sh_lay km_190)[112]? = some (3, 0) := by decide +kernel
  refine vn_putR 9 dX3_init_9 fl_3_9 (Or.inr ⟨rfl, rfl, rfl⟩) rfl hl112 (fun y ey => ?_)
  obtain rfl : y = km_191 := ey
  have el : sh_lay km_191 = sh_lay km_190 := by rw [show km_191 = sh_setR km_190 112 1 (some 113) from rfl]; exact sh_lyR
  have hl112 : (sh_lay km_191)[112]? = some (3, 0) := by rw [el]; exact hl112
  have hn : (sh_lay km_191).length = 114 := by rw [el]; exact hn
  refine vv_aload_n 12 0 dX3_init_12 rfl rfl ?_
  refine vv_bipush 13 dX3_init_13 bk_7 ?_
  refine vk_newa (N := 7) (c1 := 2) (s1 := 56) 13 .int (Or.inl ⟨rfl, rfl⟩) 15 dX3_init_15 ac_13 (by decide) (by decide) (Nat.le_of_ble_eq_true rfl) (n := 114) hn (μ1 := km_192) rfl rfl rfl (Nat.le_of_ble_eq_true rfl) (Nat.le_of_ble_eq_true rfl) ?_
  have el : km_192 = sh_add km_191 (13, 7) := rfl
  have hl112 : (sh_lay km_192)[112]? = some (3, 0) := by rw [el]; exact sh_lay_add hl112
  have hl114 : (sh_lay km_192)[114]? = some (13, 7) := by rw [el]; exact sh_lay_new hn
  have hn : (sh_lay km_192).length = 115 := by rw [el]; exact sh_len_add hn
  refine vn_putR 17 dX3_init_17 fl_3_15 (Or.inr ⟨rfl, rfl, rfl⟩) rfl hl112 (fun y ey => ?_)
  obtain rfl : y = km_193 := ey
  have el : sh_lay km_193 = sh_lay km_192 := by rw [show km_193 = sh_setR km_192 112 2 (some 114) from rfl]; exact sh_lyR
  have hl112 : (sh_lay km_193)[112]? = some (3, 0) := by rw [el]; exact hl112
  have hn : (sh_lay km_193).length = 115 := by rw [el]; exact hn
  refine vv_aload_n 20 0 dX3_init_20 rfl rfl ?_
  refine vv_bipush 21 dX3_init_21 bk_7 ?_
  refine vk_newa (N := 7) (c1 := 3) (s1 := 63) 13 .int (Or.inl ⟨rfl, rfl⟩) 23 dX3_init_23 ac_13 (by decide) (by decide) (Nat.le_of_ble_eq_true rfl) (n := 115) hn (μ1 := km_194) rfl rfl rfl (Nat.le_of_ble_eq_true rfl) (Nat.le_of_ble_eq_true rfl) ?_
  have el : km_194 = sh_add km_193 (13, 7) := rfl
  have hl112 : (sh_lay km_194)[112]? = some (3, 0) := by rw [el]; exact sh_lay_add hl112
  have hl115 : (sh_lay km_194)[115]? = some (13, 7) := by rw [el]; exact sh_lay_new hn
  have hn : (sh_lay km_194).length = 116 := by rw [el]; exact sh_len_add hn
  refine vn_putR 25 dX3_init_25 fl_3_18 (Or.inr ⟨rfl, rfl, rfl⟩) rfl hl112 (fun y ey => ?_)
  obtain rfl : y = km_195 := ey
  have el : sh_lay km_195 = sh_lay km_194 := by rw [show km_195 = sh_setR km_194 112 3 (some 115) from rfl]; exact sh_lyR
  have hl112 : (sh_lay km_195)[112]? = some (3, 0) := by rw [el]; exact hl112
  have hn : (sh_lay km_195).length = 116 := by rw [el]; exact hn
  refine vv_aload_n 28 0 dX3_init_28 rfl rfl ?_
  refine vv_bipush 29 dX3_init_29 bk_7 ?_
  refine vk_newa (N := 7) (c1 := 4) (s1 := 70) 13 .int (Or.inl ⟨rfl, rfl⟩) 31 dX3_init_31 ac_13 (by decide) (by decide) (Nat.le_of_ble_eq_true rfl) (n := 116) hn (μ1 := km_196) rfl rfl rfl (Nat.le_of_ble_eq_true rfl) (Nat.le_of_ble_eq_true rfl) ?_
  have el : km_196 = sh_add km_195 (13, 7) := rfl
  have hl112 : (sh_lay km_196)[112]? = some (3, 0) := by rw [el]; exact sh_lay_add hl112
  have hl116 : (sh_lay km_196)[116]? = some (13, 7) := by rw [el]; exact sh_lay_new hn
  have hn : (sh_lay km_196).length = 117 := by rw [el]; exact sh_len_add hn
  refine vn_putR 33 dX3_init_33 fl_3_21 (Or.inr ⟨rfl, rfl, rfl⟩) rfl hl112 (fun y ey => ?_)
  obtain rfl : y = km_197 := ey
  have el : sh_lay km_197 = sh_lay km_196 := by rw [show km_197 = sh_setR km_196 112 4 (some 116) from rfl]; exact sh_lyR
  have hl112 : (sh_lay km_197)[112]? = some (3, 0) := by rw [el]; exact hl112
  have hn : (sh_lay km_197).length = 117 := by rw [el]; exact hn
  refine vv_aload_n 36 0 dX3_init_36 rfl rfl ?_
  refine vv_bipush 37 dX3_init_37 bk_7 ?_
  refine vk_newa (N := 7) (c1 := 5) (s1 := 77) 13 .int (Or.inl ⟨rfl, rfl⟩) 39 dX3_init_39 ac_13 (by decide) (by decide) (Nat.le_of_ble_eq_true rfl) (n := 117) hn (μ1 := km_198) rfl rfl rfl (Nat.le_of_ble_eq_true rfl) (Nat.le_of_ble_eq_true rfl) ?_
  have el : km_198 = sh_add km_197 (13, 7) := rfl
  have hl112 : (sh_lay km_198)[112]? = some (3, 0) := by rw [el]; exact sh_lay_add hl112
  have hl117 : (sh_lay km_198)[117]? = some (13, 7) := by rw [el]; exact sh_lay_new hn
  have hn : (sh_lay km_198).length = 118 := by rw [el]; exact sh_len_add hn
  refine vn_putR 41 dX3_init_41 fl_3_24 (Or.inr ⟨rfl, rfl, rfl⟩) rfl hl112 (fun y ey => ?_)
  obtain rfl : y = km_199 := ey
  have el : sh_lay km_199 = sh_lay km_198 := by rw [show km_199 = sh_setR km_198 112 5 (some 117) from rfl]; exact sh_lyR
  have hl112 : (sh_lay km_199)[112]? = some (3, 0) := by rw [el]; exact hl112
  have hn : (sh_lay km_199).length = 118 := by rw [el]; exact hn
  refine vv_vret 44 dX3_init_44 rfl (Nat.le_of_ble_eq_true rfl) (Nat.le_of_ble_eq_true rfl) ⟨rfl, rfl⟩
set_option maxHeartbeats 40000000 in
theorem kc_23 : sh_Con l B D ca 1 5 77 M_X3_init [.ref 118] km_201 (fun v μ' => v = none ∧ μ' = km_211) := by
  have hn : (sh_lay km_201).length = 119 := by decide +kernel
  refine vv_aload_n 0 0 dX3_init_0 rfl rfl ?_
  refine vv_objInit 1 dX3_init_1 ck_X3_3 (Nat.le_of_ble_eq_true rfl) (Nat.le_of_ble_eq_true rfl) ?_
  refine vv_aload_n 4 0 dX3_init_4 rfl rfl ?_
  refine vv_bipush 5 dX3_init_5 bk_49 ?_
  refine vk_newa (N := 49) (c1 := 1) (s1 := 49) 13 .int (Or.inl ⟨rfl, rfl⟩) 7 dX3_init_7 ac_13 (by decide) (by decide) (Nat.le_of_ble_eq_true rfl) (n := 119) hn (μ1 := km_202) rfl rfl rfl (Nat.le_of_ble_eq_true rfl) (Nat.le_of_ble_eq_true rfl) ?_
  have el : km_202 = sh_add km_201 (13, 49) := rfl
  have hl119 : (sh_lay km_202)[119]? = some (13, 49) := by rw [el]; exact sh_lay_new hn
  have hn : (sh_lay km_202).length = 120 := by rw [el]; exact sh_len_add hn
  have hl118 : (sh_lay km_202)[118]? = some (3, 0) := by decide +kernel
  refine vn_putR 9 dX3_init_9 fl_3_9 (Or.inr ⟨rfl, rfl, rfl⟩) rfl hl118 (fun y ey => ?_)
  obtain rfl : y = km_203 := ey
  have el : sh_lay km_203 = sh_lay km_202 := by rw [show km_203 = sh_setR km_202 118 1 (some 119) from rfl]; exact sh_lyR
  have hl118 : (sh_lay km_203)[118]? = some (3, 0) := by rw [el]; exact hl118
  have hn : (sh_lay km_203).length = 120 := by rw [el]; exact hn
  refine vv_aload_n 12 0 dX3_init_12 rfl rfl ?_
  refine vv_bipush 13 dX3_init_13 bk_7 ?_
  refine vk_newa (N := 7) (c1 := 2) (s1 := 56) 13 .int (Or.inl ⟨rfl, rfl⟩) 15 dX3_init_15 ac_13 (by decide) (by decide) (Nat.le_of_ble_eq_true rfl) (n := 120) hn (μ1 := km_204) rfl rfl rfl (Nat.le_of_ble_eq_true rfl) (Nat.le_of_ble_eq_true rfl) ?_
  have el : km_204 = sh_add km_203 (13, 7) := rfl
  have hl118 : (sh_lay km_204)[118]? = some (3, 0) := by rw [el]; exact sh_lay_add hl118
  have hl120 : (sh_lay km_204)[120]? = some (13, 7) := by rw [el]; exact sh_lay_new hn
  have hn : (sh_lay km_204).length = 121 := by rw [el]; exact sh_len_add hn
  refine vn_putR 17 dX3_init_17 fl_3_15 (Or.inr ⟨rfl, rfl, rfl⟩) rfl hl118 (fun y ey => ?_)
  obtain rfl : y = km_205 := ey
  have el : sh_lay km_205 = sh_lay km_204 := by rw [show km_205 = sh_setR km_204 118 2 (some 120) from rfl]; exact sh_lyR
  have hl118 : (sh_lay km_205)[118]? = some (3, 0) := by rw [el]; exact hl118
  have hn : (sh_lay km_205).length = 121 := by rw [el]; exact hn
  refine vv_aload_n 20 0 dX3_init_20 rfl rfl ?_
  refine vv_bipush 21 dX3_init_21 bk_7 ?_
  refine vk_newa (N := 7) (c1 := 3) (s1 := 63) 13 .int (Or.inl ⟨rfl, rfl⟩) 23 dX3_init_23 ac_13 (by decide) (by decide) (Nat.le_of_ble_eq_true rfl) (n := 121) hn (μ1 := km_206) rfl rfl rfl (Nat.le_of_ble_eq_true rfl) (Nat.le_of_ble_eq_true rfl) ?_
  have el : km_206 = sh_add km_205 (13, 7) := rfl
  have hl118 : (sh_lay km_206)[118]? = some (3, 0) := by rw [el]; exact sh_lay_add hl118
  have hl121 : (sh_lay km_206)[121]? = some (13, 7) := by rw [el]; exact sh_lay_new hn
  have hn : (sh_lay km_206).length = 122 := by rw [el]; exact sh_len_add hn
  refine vn_putR 25 dX3_init_25 fl_3_18 (Or.inr ⟨rfl, rfl, rfl⟩) rfl hl118 (fun y ey => ?_)
  obtain rfl : y = km_207 := ey
  have el : sh_lay km_207 = sh_lay km_206 := by rw [show km_207 = sh_setR km_206 118 3 (some 121) from rfl]; exact sh_lyR
  have hl118 : (sh_lay km_207)[118]? = some (3, 0) := by rw [el]; exact hl118
  have hn : (sh_lay km_207).length = 122 := by rw [el]; exact hn
  refine vv_aload_n 28 0 dX3_init_28 rfl rfl ?_
  refine vv_bipush 29 dX3_init_29 bk_7 ?_
  refine vk_newa (N := 7) (c1 := 4) (s1 := 70) 13 .int (Or.inl ⟨rfl, rfl⟩) 31 dX3_init_31 ac_13 (by decide) (by decide) (Nat.le_of_ble_eq_true rfl) (n := 122) hn (μ1 := km_208) rfl rfl rfl (Nat.le_of_ble_eq_true rfl) (Nat.le_of_ble_eq_true rfl) ?_
  have el : km_208 = sh_add km_207 (13, 7) := rfl
  have hl118 : (sh_lay km_208)[118]? = some (3, 0) := by rw [el]; exact sh_lay_add hl118
  have hl122 : (sh_lay km_208)[122]? = some (13, 7) := by rw [el]; exact sh_lay_new hn
  have hn : (sh_lay km_208).length = 123 := by rw [el]; exact sh_len_add hn
  refine vn_putR 33 dX3_init_33 fl_3_21 (Or.inr ⟨rfl, rfl, rfl⟩) rfl hl118 (fun y ey => ?_)
  obtain rfl : y = km_209 := ey
  have el : sh_lay km_209 = sh_lay km_208 := by rw [show km_209 = sh_setR km_208 118 4 (some 122) from rfl]; exact sh_lyR
  have hl118 : (sh_lay km_209)[118]? = some (3, 0) := by rw [el]; exact hl118
  have hn : (sh_lay km_209).length = 123 := by rw [el]; exact hn
  refine vv_aload_n 36 0 dX3_init_36 rfl rfl ?_
  refine vv_bipush 37 dX3_init_37 bk_7 ?_
  refine vk_newa (N := 7) (c1 := 5) (s1 := 77) 13 .int (Or.inl ⟨rfl, rfl⟩) 39 dX3_init_39 ac_13 (by decide) (by decide) (Nat.le_of_ble_eq_true rfl) (n := 123) hn (μ1 := km_210) rfl rfl rfl (Nat.le_of_ble_eq_true rfl) (Nat.le_of_ble_eq_true rfl) ?_
  have el : km_210 = sh_add km_209 (13, 7) := rfl
  have hl118 : (sh_lay km_210)[118]? = some (3, 0) := by rw [el]; exact sh_lay_add hl118
  have hl123 : (sh_lay km_210)[123]? = some (13, 7) := by rw [el]; exact sh_lay_new hn
  have hn : (sh_lay km_210).length = 124 := by rw [el]; exact sh_len_add hn
  refine vn_putR 41 dX3_init_41 fl_3_24 (Or.inr ⟨rfl, rfl, rfl⟩) rfl hl118 (fun y ey => ?_)
  obtain rfl : y = km_211 := ey
  have el : sh_lay km_211 = sh_lay km_210 := by rw [show km_211 = sh_setR km_210 118 5 (some 123) from rfl]; exact sh_lyR
  have hl118 : (sh_lay km_211)[118]? = some (3, 0) := by rw [el]; exact hl118
  have hn : (sh_lay km_211).length = 124 := by rw [el]; exact hn
  refine vv_vret 44 dX3_init_44 rfl (Nat.le_of_ble_eq_true rfl) (Nat.le_of_ble_eq_true rfl) ⟨rfl, rfl⟩
set_option maxHeartbeats 40000000 in
theorem kc_24 : sh_Con l B D ca 1 5 77 M_X3_init [.ref 124] km_213 (fun v μ' => v = none ∧ μ' = km_223) := by
  have hn : (sh_lay km_213).length = 125 := by decide +kernel
  refine vv_aload_n 0 0 dX3_init_0 rfl rfl ?_
  refine vv_objInit 1 dX3_init_1 ck_X3_3 (Nat.le_of_ble_eq_true rfl) (Nat.le_of_ble_eq_true rfl) ?_
  refine vv_aload_n 4 0 dX3_init_4 rfl rfl ?_
  refine vv_bipush 5 dX3_init_5 bk_49 ?_
  refine vk_newa (N := 49) (c1 := 1) (s1 := 49) 13 .int (Or.inl ⟨rfl, rfl⟩) 7 dX3_init_7 ac_13 (by decide) (by decide) (Nat.le_of_ble_eq_true rfl) (n := 125) hn (μ1 := km_214) rfl rfl rfl (Nat.le_of_ble_eq_true rfl) (Nat.le_of_ble_eq_true rfl) ?_
  have el : km_214 = sh_add km_213 (13, 49) := rfl
  have hl125 : (sh_lay km_214)[125]? = some (13, 49) := by rw [el]; exact sh_lay_new hn
  have hn : (sh_lay km_214).length = 126 := by rw [el]; exact sh_len_add hn
  have hl124 : (sh_lay km_214)[124]? = some (3, 0) := by decide +kernel
  refine vn_putR 9 dX3_init_9 fl_3_9 (Or.inr ⟨rfl, rfl, rfl⟩) rfl hl124 (fun y ey => ?_)
  obtain rfl : y = km_215 := ey
  have el : sh_lay km_215 = sh_lay km_214 := by rw [show km_215 = sh_setR km_214 124 1 (some 125) from rfl]; exact sh_lyR
  have hl124 : (sh_lay km_215)[124]? = some (3, 0) := by rw [el]; exact hl124
  have hn : (sh_lay km_215).length = 126 := by rw [el]; exact hn
  refine vv_aload_n 12 0 dX3_init_12 rfl rfl ?_
  refine vv_bipush 13 dX3_init_13 bk_7 ?_
  refine vk_newa (N := 7) (c1 := 2) (s1 := 56) 13 .int (Or.inl ⟨rfl, rfl⟩) 15 dX3_init_15 ac_13 (by decide) (by decide) (Nat.le_of_ble_eq_true rfl) (n := 126) hn (μ1 := km_216) rfl rfl rfl (Nat.le_of_ble_eq_true rfl) (Nat.le_of_ble_eq_true rfl) ?_
  have el : km_216 = sh_add km_215 (13, 7) := rfl
  have hl124 : (sh_lay km_216)[124]? = some (3, 0) := by rw [el]; exact sh_lay_add hl124
  have hl126 : (sh_lay km_216)[126]? = some (13, 7) := by rw [el]; exact sh_lay_new hn
  have hn : (sh_lay km_216).length = 127 := by rw [el]; exact sh_len_add hn
  refine vn_putR 17 dX3_init_17 fl_3_15 (Or.inr ⟨rfl, rfl, rfl⟩) rfl hl124 (fun y ey => ?_)
  obtain rfl : y = km_217 := ey
  have el : sh_lay km_217 = sh_lay km_216 := by rw [show km_217 = sh_setR km_216 124 2 (some 126) from rfl]; exact sh_lyR
  have hl124 : (sh_lay km_217)[124]? = some (3, 0) := by rw [el]; exact hl124
  have hn : (sh_lay km_217).length = 127 := by rw [el]; exact hn
  refine vv_aload_n 20 0 dX3_init_20 rfl rfl ?_
  refine vv_bipush 21 dX3_init_21 bk_7 ?_
  refine vk_newa (N := 7) (c1 := 3) (s1 := 63) 13 .int (Or.inl ⟨rfl, rfl⟩) 23 dX3_init_23 ac_13 (by decide) (by decide) (Nat.le_of_ble_eq_true rfl) (n := 127) hn (μ1 := km_218) rfl rfl rfl (Nat.le_of_ble_eq_true rfl) (Nat.le_of_ble_eq_true rfl) ?_
  have el : km_218 = sh_add km_217 (13, 7) := rfl
  have hl124 : (sh_lay km_218)[124]? = some (3, 0) := by rw [el]; exact sh_lay_add hl124
  have hl127 : (sh_lay km_218)[127]? = some (13, 7) := by rw [el]; exact sh_lay_new hn
  have hn : (sh_lay km_218).length = 128 := by rw [el]; exact sh_len_add hn
  refine vn_putR 25 dX3_init_25 fl_3_18 (Or.inr ⟨rfl, rfl, rfl⟩) rfl hl124 (fun y ey => ?_)
  obtain rfl : y = km_219 := ey
  have el : sh_lay km_219 = sh_lay km_218 := by rw [show km_219 = sh_setR km_218 124 3 (some 127) from rfl]; exact sh_lyR
  have hl124 : (sh_lay km_219)[124]? = some (3, 0) := by rw [el]; exact hl124
  have hn : (sh_lay km_219).length = 128 := by rw [el]; exact hn
  refine vv_aload_n 28 0 dX3_init_28 rfl rfl ?_
  refine vv_bipush 29 dX3_init_29 bk_7 ?_
  refine vk_newa (N := 7) (c1 := 4) (s1 := 70) 13 .int (Or.inl ⟨rfl, rfl⟩) 31 dX3_init_31 ac_13 (by decide) (by decide) (Nat.le_of_ble_eq_true rfl) (n := 128) hn (μ1 := km_220) rfl rfl rfl (Nat.le_of_ble_eq_true rfl) (Nat.le_of_ble_eq_true rfl) ?_
  have el : km_220 = sh_add km_219 (13, 7) := rfl
  have hl124 : (sh_lay km_220)[124]? = some (3, 0) := by rw [el]; exact sh_lay_add hl124
  have hl128 : (sh_lay km_220)[128]? = some (13, 7) := by rw [el]; exact sh_lay_new hn
  have hn : (sh_lay km_220).length = 129 := by rw [el]; exact sh_len_add hn
  refine vn_putR 33 dX3_init_33 fl_3_21 (Or.inr ⟨rfl, rfl, rfl⟩) rfl hl124 (fun y ey => ?_)
  obtain rfl : y = km_221 := ey
  have el : sh_lay km_221 = sh_lay km_220 := by rw [show km_221 = sh_setR km_220 124 4 (some 128) from rfl]; exact sh_lyR
  have hl124 : (sh_lay km_221)[124]? = some (3, 0) := by rw [el]; exact hl124
  have hn : (sh_lay km_221).length = 129 := by rw [el]; exact hn
  refine vv_aload_n 36 0 dX3_init_36 rfl rfl ?_
  refine vv_bipush 37 dX3_init_37 bk_7 ?_
  refine vk_newa (N := 7) (c1 := 5) (s1 := 77) 13 .int (Or.inl ⟨rfl, rfl⟩) 39 dX3_init_39 ac_13 (by decide) (by decide) (Nat.le_of_ble_eq_true rfl) (n := 129) hn (μ1 := km_222) rfl rfl rfl (Nat.le_of_ble_eq_true rfl) (Nat.le_of_ble_eq_true rfl) ?_
  have el : km_222 = sh_add km_221 (13, 7) := rfl
  have hl124 : (sh_lay km_222)[124]? = some (3, 0) := by rw [el]; exact sh_lay_add hl124
  have hl129 : (sh_lay km_222)[129]? = some (13, 7) := by rw [el]; exact sh_lay_new hn
  have hn : (sh_lay km_222).length = 130 := by rw [el]; exact sh_len_add hn
  refine vn_putR 41 dX3_init_41 fl_3_24 (Or.inr ⟨rfl, rfl, rfl⟩) rfl hl124 (fun y ey => ?_)
  obtain rfl : y = km_223 := ey
  have el : sh_lay km_223 = sh_lay km_222 := by rw [show km_223 = sh_setR km_222 124 5 (some 129) from rfl]; exact sh_lyR
  have hl124 : (sh_lay km_223)[124]? = some (3, 0) := by rw [el]; exact hl124
  have hn : (sh_lay km_223).length = 130 := by rw [el]; exact hn
  refine vv_vret 44 dX3_init_44 rfl (Nat.le_of_ble_eq_true rfl) (Nat.le_of_ble_eq_true rfl) ⟨rfl, rfl⟩
set_option maxHeartbeats 40000000 in
theorem kc_25 : sh_Con l B D ca 1 5 77 M_X3_init [.ref 130] km_225 (fun v μ' => v = none ∧ μ' = km_235) := by
  have hn : (sh_lay km_225).length = 131 := by decide +kernel
  refine vv_aload_n 0 0 dX3_init_0 rfl rfl ?_
  refine vv_objInit 1 dX3_init_1 ck_X3_3 (Nat.le_of_ble_eq_true rfl) (Nat.le_of_ble_eq_true rfl) ?_
  refine vv_aload_n 4 0 dX3_init_4 rfl rfl ?_
  refine vv_bipush 5 dX3_init_5 bk_49 ?_
  refine vk_newa (N := 49) (c1 := 1) (s1 := 49) 13 .int (Or.inl ⟨rfl, rfl⟩) 7 dX3_init_7 ac_13 (by decide) (by decide) (Nat.le_of_ble_eq_true rfl) (n := 131) hn (μ1 := km_226) rfl rfl rfl (Nat.le_of_ble_eq_true rfl) (Nat.le_of_ble_eq_true rfl) ?_
  have el : km_226 = sh_add km_225 (13, 49) := rfl
  have hl131 : (sh_lay km_226)[131]? = some (13, 49) := by rw [el]; exact sh_lay_new hn
  have hn : (sh_lay km_226).length = 132 := by rw [el]; exact sh_len_add hn
  have hl130 : (sh_lay km_226)[130]? = some (3, 0) := by decide +kernel
  refine vn_putR 9 dX3_init_9 fl_3_9 (Or.inr ⟨rfl, rfl, rfl⟩) rfl hl130 (fun y ey => ?_)
  obtain rfl : y = km_227 := ey
  have el : sh_lay km_227 = sh_lay km_226 := by rw [show km_227 = sh_setR km_226 130 1 (some 131) from rfl]; exact sh_lyR
  have hl130 : (sh_lay km_227)[130]? = some (3, 0) := by rw [el]; exact hl130
  have hn : (sh_lay km_227).length = 132 := by rw [el]; exact hn
  refine vv_aload_n 12 0 dX3_init_12 rfl rfl ?_
  refine vv_bipush 13 dX3_init_13 bk_7 ?_
  refine vk_newa (N := 7) (c1 := 2) (s1 := 56) 13 .int (Or.inl ⟨rfl, rfl⟩) 15 dX3_init_15 ac_13 (by decide) (by decide) (Nat.le_of_ble_eq_true rfl) (n := 132) hn (μ1 := km_228) rfl rfl rfl (Nat.le_of_ble_eq_true rfl) (Nat.le_of_ble_eq_true rfl) ?_
  have el : km_228 = sh_add km_227 (13, 7) := rfl
  have hl130 : (sh_lay km_228)[130]? = some (3, 0) := by rw [el]; exact sh_lay_add hl130
  have hl132 : (sh_lay km_228)[132]? = some (13, 7) := by rw [el]; exact sh_lay_new hn
  have hn : (sh_lay km_228).length = 133 := by rw [el]; exact sh_len_add hn
  refine vn_putR 17 dX3_init_17 fl_3_15 (Or.inr ⟨rfl, rfl, rfl⟩) rfl hl130 (fun y ey => ?_)
  obtain rfl : y = km_229 := ey
  have el : sh_lay km_229 = sh_lay km_228 := by rw [show km_229 = sh_setR km_228 130 2 (some 132) from rfl]; exact sh_lyR
  have hl130 : (sh_lay km_229)[130]? = some (3, 0) := by rw [el]; exact hl130
  have hn : (sh_lay km_229).length = 133 := by rw [el]; exact hn
  refine vv_aload_n 20 0 dX3_init_20 rfl rfl ?_
  refine vv_bipush 21 dX3_init_21 bk_7 ?_
  refine vk_newa (N := 7) (c1 := 3) (s1 := 63) 13 .int (Or.inl ⟨rfl, rfl⟩) 23 dX3_init_23 ac_13 (by decide) (by decide) (Nat.le_of_ble_eq_true rfl) (n := 133) hn (μ1 := km_230) rfl rfl rfl (Nat.le_of_ble_eq_true rfl) (Nat.le_of_ble_eq_true rfl) ?_
  have el : km_230 = sh_add km_229 (13, 7) := rfl
  have hl130 : (sh_lay km_230)[130]? = some (3, 0) := by rw [el]; exact sh_lay_add hl130
  have hl133 : (sh_lay km_230)[133]? = some (13, 7) := by rw [el]; exact sh_lay_new hn
  have hn : (sh_lay km_230).length = 134 := by rw [el]; exact sh_len_add hn
  refine vn_putR 25 dX3_init_25 fl_3_18 (Or.inr ⟨rfl, rfl, rfl⟩) rfl hl130 (fun y ey => ?_)
  obtain rfl : y = km_231 := ey
  have el : sh_lay km_231 = sh_lay km_230 := by rw [show km_231 = sh_setR km_230 130 3 (some 133) from rfl]; exact sh_lyR
  have hl130 : (sh_lay km_231)[130]? = some (3, 0) := by rw [el]; exact hl130
  have hn : (sh_lay km_231).length = 134 := by rw [el]; exact hn
  refine vv_aload_n 28 0 dX3_init_28 rfl rfl ?_
  refine vv_bipush 29 dX3_init_29 bk_7 ?_
  refine vk_newa (N := 7) (c1 := 4) (s1 := 70) 13 .int (Or.inl ⟨rfl, rfl⟩) 31 dX3_init_31 ac_13 (by decide) (by decide) (Nat.le_of_ble_eq_true rfl) (n := 134) hn (μ1 := km_232) rfl rfl rfl (Nat.le_of_ble_eq_true rfl) (Nat.le_of_ble_eq_true rfl) ?_
  have el : km_232 = sh_add km_231 (13, 7) := rfl
  have hl130 : (sh_lay km_232)[130]? = some (3, 0) := by rw [el]; exact sh_lay_add hl130
  have hl134 : (sh_lay km_232)[134]? = some (13, 7) := by rw [el]; exact sh_lay_new hn
  have hn : (sh_lay km_232).length = 135 := by rw [el]; exact sh_len_add hn
  refine vn_putR 33 dX3_init_33 fl_3_21 (Or.inr ⟨rfl, rfl, rfl⟩) rfl hl130 (fun y ey => ?_)
  obtain rfl : y = km_233 := ey
  have el : sh_lay km_233 = sh_lay km_232 := by rw [show km_233 = sh_setR km_232 130 4 (some 134) from rfl]; exact sh_lyR
  have hl130 : (sh_lay km_233)[130]? = some (3, 0) := by rw [el]; exact hl130
  have hn : (sh_lay km_233).length = 135 := by rw [el]; exact hn
  refine vv_aload_n 36 0 dX3_init_36 rfl rfl ?_
  refine vv_bipush 37 dX3_init_37 bk_7 ?_
  refine vk_newa (N := 7) (c1 := 5) (s1 := 77) 13 .int (Or.inl ⟨rfl, rfl⟩) 39 dX3_init_39 ac_13 (by decide) (by decide) (Nat.le_of_ble_eq_true rfl) (n := 135) hn (μ1 := km_234) rfl rfl rfl (Nat.le_of_ble_eq_true rfl) (Nat.le_of_ble_eq_true rfl) ?_
  have el : km_234 = sh_add km_233 (13, 7) := rfl
  have hl130 : (sh_lay km_234)[130]? = some (3, 0) := by rw [el]; exact sh_lay_add hl130
  have hl135 : (sh_lay km_234)[135]? = some (13, 7) := by rw [el]; exact sh_lay_new hn
  have hn : (sh_lay km_234).length = 136 := by rw [el]; exact sh_len_add hn
  refine vn_putR 41 dX3_init_41 fl_3_24 (Or.inr ⟨rfl, rfl, rfl⟩) rfl hl130 (fun y ey => ?_)
  obtain rfl : y = km_235 := ey
  have el : sh_lay km_235 = sh_lay km_234 := by rw [show km_235 = sh_setR km_234 130 5 (some 135) from rfl]; exact sh_lyR
  have hl130 : (sh_lay km_235)[130]? = some (3, 0) := by rw [el]; exact hl130
  have hn : (sh_lay km_235).length = 136 := by rw [el]; exact hn
  refine vv_vret 44 dX3_init_44 rfl (Nat.le_of_ble_eq_true rfl) (Nat.le_of_ble_eq_true rfl) ⟨rfl, rfl⟩
set_option maxHeartbeats 40000000 in
theorem kc_26 : sh_Con l B D ca 1 5 77 M_X3_init [.ref 136] km_237 (fun v μ' => v = none ∧ μ' = km_247) := by
  have hn : (sh_lay km_237).length = 137 := by decide +kernel
  refine vv_aload_n 0 0 dX3_init_0 rfl rfl ?_
  refine vv_objInit 1 dX3_init_1 ck_X3_3 (Nat.le_of_ble_eq_true rfl) (Nat.le_of_ble_eq_true rfl) ?_
  refine vv_aload_n 4 0 dX3_init_4 rfl rfl ?_
  refine vv_bipush 5 dX3_init_5 bk_49 ?_
  refine vk_newa (N := 49) (c1 := 1) (s1 := 49) 13 .int (Or.inl ⟨rfl, rfl⟩) 7 dX3_init_7 ac_13 (by decide) (by decide) (Nat.le_of_ble_eq_true rfl) (n := 137) hn (μ1 := km_238) rfl rfl rfl (Nat.le_of_ble_eq_true rfl) (Nat.le_of_ble_eq_true rfl) ?_
  have el : km_238 = sh_add km_237 (13, 49) := rfl
  have hl137 : (sh_lay km_238)[137]? = some (13, 49) := by rw [el]; exact sh_lay_new hn
  have hn : (sh_lay km_238).length = 138 := by rw [el]; exact sh_len_add hn
  have hl136 : (sh_lay km_238)[136]? = some (3, 0) := by decide +kernel
  refine vn_putR 9 dX3_init_9 fl_3_9 (Or.inr ⟨rfl, rfl, rfl⟩) rfl hl136 (fun y ey => ?_)
  obtain rfl : y = km_239 := ey
  have el : sh_lay km_239 = sh_lay km_238 := by rw [show km_239 = sh_setR km_238 136 1 (some 137) from rfl]; exact sh_lyR
  have hl136 : (sh_lay km_239)[136]? = some (3, 0) := by rw [el]; exact hl136
  have hn : (sh_lay km_239).length = 138 := by rw [el]; exact hn
  refine vv_aload_n 12 0 dX3_init_12 rfl rfl ?_
  refine vv_bipush 13 dX3_init_13 bk_7 ?_
  refine vk_newa (N := 7) (c1 := 2) (s1 := 56) 13 .int (Or.inl ⟨rfl, rfl⟩) 15 dX3_init_15 ac_13 (by decide) (by decide) (Nat.le_of_ble_eq_true rfl) (n := 138) hn (μ1 := km_240) rfl rfl rfl (Nat.le_of_ble_eq_true rfl) (Nat.le_of_ble_eq_true rfl) ?_
  have el : km_240 = sh_add km_239 (13, 7) := rfl
  have hl136 : (sh_lay km_240)[136]? = some (3, 0) := by rw [el]; exact sh_lay_add hl136
  have hl138 : (sh_lay km_240)[138]? = some (13, 7) := by rw [el]; exact sh_lay_new hn
  have hn : (sh_lay km_240).length = 139 := by rw [el]; exact sh_len_add hn
  refine vn_putR 17 dX3_init_17 fl_3_15 (Or.inr ⟨rfl, rfl, rfl⟩) rfl hl136 (fun y ey => ?_)
  obtain rfl : y = km_241 := ey
  have el : sh_lay km_241 = sh_lay km_240 := by rw [show km_241 = sh_setR km_240 136 2 (some 138) from rfl]; exact sh_lyR
  have hl136 : (sh_lay km_241)[136]? = some (3, 0) := by rw [el]; exact hl136
  have hn : (sh_lay km_241).length = 139 := by rw [el]; exact hn
  refine vv_aload_n 20 0 dX3_init_20 rfl rfl ?_
  refine vv_bipush 21 dX3_init_21 bk_7 ?_
  refine vk_newa (N := 7) (c1 := 3) (s1 := 63) 13 .int (Or.inl ⟨rfl, rfl⟩) 23 dX3_init_23 ac_13 (by decide) (by decide) (Nat.le_of_ble_eq_true rfl) (n := 139) hn (μ1 := km_242) rfl rfl rfl (Nat.le_of_ble_eq_true rfl) (Nat.le_of_ble_eq_true rfl) ?_
  have el : km_242 = sh_add km_241 (13, 7) := rfl
  have hl136 : (sh_lay km_242)[136]? = some (3, 0) := by rw [el]; exact sh_lay_add hl136
  have hl139 : (sh_lay km_242)[139]? = some (13, 7) := by rw [el]; exact sh_lay_new hn
  have hn : (sh_lay km_242).length = 140 := by rw [el]; exact sh_len_add hn
  refine vn_putR 25 dX3_init_25 fl_3_18 (Or.inr ⟨rfl, rfl, rfl⟩) rfl hl136 (fun y ey => ?_)
  obtain rfl : y = km_243 := ey
  have el : sh_lay km_243 = sh_lay km_242 := by rw [show km_243 = sh_setR km_242 136 3 (some 139) from rfl]; exact sh_lyR
  have hl136 : (sh_lay km_243)[136]? = some (3, 0) := by rw [el]; exact hl136
  have hn : (sh_lay km_243).length = 140 := by rw [el]; exact hn
  refine vv_aload_n 28 0 dX3_init_28 rfl rfl ?_
  refine vv_bipush 29 dX3_init_29 bk_7 ?_
  refine vk_newa (N := 7) (c1 := 4) (s1 := 70) 13 .int (Or.inl ⟨rfl, rfl⟩) 31 dX3_init_31 ac_13 (by decide) (by decide) (Nat.le_of_ble_eq_true rfl) (n := 140) hn (μ1 := km_244) rfl rfl rfl (Nat.le_of_ble_eq_true rfl) (Nat.le_of_ble_eq_true rfl) ?_
  have el : km_244 = sh_add km_243 (13, 7) := rfl
  have hl136 : (sh_lay km_244)[136]? = some (3, 0) := by rw [el]; exact sh_lay_add hl136
  have hl140 : (sh_lay km_244)[140]? = some (13, 7) := by rw [el]; exact sh_lay_new hn
  have hn : (sh_lay km_244).length = 141 := by rw [el]; exact sh_len_add hn
  refine vn_putR 33 dX3_init_33 fl_3_21 (Or.inr ⟨rfl, rfl, rfl⟩) rfl hl136 (fun y ey => ?_)
  obtain rfl : y = km_245 := ey
  have el : sh_lay km_245 = sh_lay km_244 := by rw [show km_245 = sh_setR km_244 136 4 (some 140) from rfl]; exact sh_lyR
  have hl136 : (sh_lay km_245)[136]? = some (3, 0) := by rw [el]; exact hl136
  have hn : (sh_lay km_245).length = 141 := by rw [el]; exact hn
  refine vv_aload_n 36 0 dX3_init_36 rfl rfl ?_
  refine vv_bipush 37 dX3_init_37 bk_7 ?_
  refine vk_newa (N := 7) (c1 := 5) (s1 := 77) 13 .int (Or.inl ⟨rfl, rfl⟩) 39 dX3_init_39 ac_13 (by decide) (by decide) (Nat.le_of_ble_eq_true rfl) (n := 141) hn (μ1 := km_246) rfl rfl rfl (Nat.le_of_ble_eq_true rfl) (Nat.le_of_ble_eq_true rfl) ?_
  have el : km_246 = sh_add km_245 (13, 7) := rfl
  have hl136 : (sh_lay km_246)[136]? = some (3, 0) := by rw [el]; exact sh_lay_add hl136
  have hl141 : (sh_lay km_246)[141]? = some (13, 7) := by rw [el]; exact sh_lay_new hn
  have hn : (sh_lay km_246).length = 142 := by rw [el]; exact sh_len_add hn
  refine vn_putR 41 dX3_init_41 fl_3_24 (Or.inr ⟨rfl, rfl, rfl⟩) rfl hl136 (fun y ey => ?_)
  obtain rfl : y = km_247 := ey
  have el : sh_lay km_247 = sh_lay km_246 := by rw [show km_247 = sh_setR km_246 136 5 (some 141) from rfl]; exact sh_lyR
  have hl136 : (sh_lay km_247)[136]? = some (3, 0) := by rw [el]; exact hl136
  have hn : (sh_lay km_247).length = 142 := by rw [el]; exact hn
  refine vv_vret 44 dX3_init_44 rfl (Nat.le_of_ble_eq_true rfl) (Nat.le_of_ble_eq_true rfl) ⟨rfl, rfl⟩
set_option maxHeartbeats 40000000 in
theorem kc_27 : sh_Con l B D ca 1 5 77 M_X3_init [.ref 142] km_249 (fun v μ' => v = none ∧ μ' = km_259) := by
  have hn : (sh_lay km_249).length = 143 := by decide +kernel
  refine vv_aload_n 0 0 dX3_init_0 rfl rfl ?_
  refine vv_objInit 1 dX3_init_1 ck_X3_3 (Nat.le_of_ble_eq_true rfl) (Nat.le_of_ble_eq_true rfl) ?_
  refine vv_aload_n 4 0 dX3_init_4 rfl rfl ?_
  refine vv_bipush 5 dX3_init_5 bk_49 ?_
  refine vk_newa (N := 49) (c1 := 1) (s1 := 49) 13 .int (Or.inl ⟨rfl, rfl⟩) 7 dX3_init_7 ac_13 (by decide) (by decide) (Nat.le_of_ble_eq_true rfl) (n := 143) hn (μ1 := km_250) rfl rfl rfl (Nat.le_of_ble_eq_true rfl) (Nat.le_of_ble_eq_true rfl) ?_
  have el : km_250 = sh_add km_249 (13, 49) := rfl
  have hl143 : (sh_lay km_250)[143]? = some (13, 49) := by rw [el]; exact sh_lay_new hn
  have hn : (sh_lay km_250).length = 144 := by rw [el]; exact sh_len_add hn
  have hl142 : (sh_lay km_250)[142]? = some (3, 0) := by decide +kernel
  refine vn_putR 9 dX3_init_9 fl_3_9 (Or.inr ⟨rfl, rfl, rfl⟩) rfl hl142 (fun y ey => ?_)
  obtain rfl : y = km_251 := ey
  have el : sh_lay km_251 = sh_lay km_250 := by rw [show km_251 = sh_setR km_250 142 1 (some 143) from rfl]; exact sh_lyR
  have hl142 : (sh_lay km_251)[142]? = some (3, 0) := by rw [el]; exact hl142
  have hn : (sh_lay km_251).length = 144 := by rw [el]; exact hn
  refine vv_aload_n 12 0 dX3_init_12 rfl rfl ?_
  refine vv_bipush 13 dX3_init_13 bk_7 ?_
  refine vk_newa (N := 7) (c1 := 2) (s1 := 56) 13 .int (Or.inl ⟨rfl, rfl⟩) 15 dX3_init_15 ac_13 (by decide) (by decide) (Nat.le_of_ble_eq_true rfl) (n := 144) hn (μ1 := km_252) rfl rfl rfl (Nat.le_of_ble_eq_true rfl) (Nat.le_of_ble_eq_true rfl) ?_
  have el : km_252 = sh_add km_251 (13, 7) := rfl
  have hl142 : (sh_lay km_252)[142]? = some (3, 0) := by rw [el]; exact sh_lay_add hl142
  have hl144 : (sh_lay km_252)[144]? = some (13, 7) := by rw [el]; exact sh_lay_new hn
  have hn : (sh_lay km_252).length = 145 := by rw [el]; exact sh_len_add hn
  refine vn_putR 17 dX3_init_17 fl_3_15 (Or.inr ⟨rfl, rfl, rfl⟩) rfl hl142 (fun y ey => ?_)
  obtain rfl : y = km_253 := ey
  have el : sh_lay km_253 = sh_lay km_252 := by rw [show km_253 = sh_setR km_252 142 2 (some 144) from rfl]; exact sh_lyR
  have hl142 : (sh_lay km_253)[142]? = some (3, 0) := by rw [el]; exact hl142
  have hn : (sh_lay km_253).length = 145 := by rw [el]; exact hn
  refine vv_aload_n 20 0 dX3_init_20 rfl rfl ?_
  refine vv_bipush 21 dX3_init_21 bk_7 ?_
  refine vk_newa (N := 7) (c1 := 3) (s1 := 63) 13 .int (Or.inl ⟨rfl, rfl⟩) 23 dX3_init_23 ac_13 (by decide) (by decide) (Nat.le_of_ble_eq_true rfl) (n := 145) hn (μ1 := km_254) rfl rfl rfl (Nat.le_of_ble_eq_true rfl) (Nat.le_of_ble_eq_true rfl) ?_
  have el : km_254 = sh_add km_253 (13, 7) := rfl
  have hl142 : (sh_lay km_254)[142]? = some (3, 0) := by rw [el]; exact sh_lay_add hl142
  have hl145 : (sh_lay km_254)[145]? = some (13, 7) := by rw [el]; exact sh_lay_new hn
  have hn : (sh_lay km_254).length = 146 := by rw [el]; exact sh_len_add hn
  refine vn_putR 25 dX3_init_25 fl_3_18 (Or.inr ⟨rfl, rfl, rfl⟩) rfl hl142 (fun y ey => ?_)
  obtain rfl : y = km_255 := ey
  have el : sh_lay km_255 = sh_lay km_254 := by rw [show km_255 = sh_setR km_254 142 3 (some 145) from rfl]; exact sh_lyR
  have hl142 : (sh_lay km_255)[142]? = some (3, 0) := by rw [el]; exact hl142
  have hn : (sh_lay km_255).length = 146 := by rw [el]; exact hn
  refine vv_aload_n 28 0 dX3_init_28 rfl rfl ?_
  refine vv_bipush 29 dX3_init_29 bk_7 ?_
  refine vk_newa (N := 7) (c1 := 4) (s1 := 70) 13 .int (Or.inl ⟨rfl, rfl⟩) 31 dX3_init_31 ac_13 (by decide) (by decide) (Nat.le_of_ble_eq_true rfl) (n := 146) hn (μ1 := km_256) rfl rfl rfl (Nat.le_of_ble_eq_true rfl) (Nat.le_of_ble_eq_true rfl) ?_
  have el : km_256 = sh_add km_255 (13, 7) := rfl
  have hl142 : (sh_lay km_256)[142]? = some (3, 0) := by rw [el]; exact sh_lay_add hl142
  have hl146 : (sh_lay km_256)[146]? = some (13, 7) := by rw [el]; exact sh_lay_new hn
  have hn : (sh_lay km_256).length = 147 := by rw [el]; exact sh_len_add hn
  refine vn_putR 33 dX3_init_33 fl_3_21 (Or.inr ⟨rfl, rfl, rfl⟩) rfl hl142 (fun y ey => ?_)
  obtain rfl : y = km_257 := ey
  have el : sh_lay km_257 = sh_lay km_256 := by rw [show km_257 = sh_setR km_256 142 4 (some 146) from rfl]; exact sh_lyR
  have hl142 : (sh_lay km_257)[142]? = some (3, 0) := by rw [el]; exact hl142
  have hn : (sh_lay km_257).length = 147 := by rw [el]; exact hn
  refine vv_aload_n 36 0 dX3_init_36 rfl rfl ?_
  refine vv_bipush 37 dX3_init_37 bk_7 ?_
  refine vk_newa (N := 7) (c1 := 5) (s1 := 77) 13 .int (Or.inl ⟨rfl, rfl⟩) 39 dX3_init_39 ac_13 (by decide) (by decide) (Nat.le_of_ble_eq_true rfl) (n := 147) hn (μ1 := km_258) rfl rfl rfl (Nat.le_of_ble_eq_true rfl) (Nat.le_of_ble_eq_true rfl) ?_
  have el : km_258 = sh_add km_257 (13, 7) := rfl
  have hl142 : (sh_lay km_258)[142]? = some (3, 0) := by rw [el]; exact sh_lay_add hl142
  have hl147 : (sh_lay km_258)[147]? = some (13, 7) := by rw [el]; exact sh_lay_new hn
  have hn : (sh_lay km_258).length = 148 := by rw [el]; exact sh_len_add hn
  refine vn_putR 41 dX3_init_41 fl_3_24 (Or.inr ⟨rfl, rfl, rfl⟩) rfl hl142 (fun y ey => ?_)
  obtain rfl : y = km_259 := ey
  have el : sh_lay km_259 = sh_lay km_258 := by rw [show km_259 = sh_setR km_258 142 5 (some 147) from rfl]; exact sh_lyR
  have hl142 : (sh_lay km_259)[142]? = some (3, 0) := by rw [el]; exact hl142
  have hn : (sh_lay km_259).length = 148 := by rw [el]; exact hn
  refine vv_vret 44 dX3_init_44 rfl (Nat.le_of_ble_eq_true rfl) (Nat.le_of_ble_eq_true rfl) ⟨rfl, rfl⟩
set_option maxHeartbeats 40000000 in
theorem kc_28 : sh_Con l B D ca 1 5 77 M_X3_init [.ref 148] km_261 (fun v μ' => v = none ∧ μ' = km_271) := by
  have hn : (sh_lay km_261).length = 149 := by decide +kernel
  refine vv_aload_n 0 0 dX3_init_0 rfl rfl ?_
  refine vv_objInit 1 dX3_init_1 ck_X3_3 (Nat.le_of_ble_eq_true rfl) (Nat.le_of_ble_eq_true rfl) ?_
  refine vv_aload_n 4 0 dX3_init_4 rfl rfl ?_
  refine vv_bipush 5 dX3_init_5 bk_49 ?_
  refine vk_newa (N := 49) (c1 := 1) (s1 := 49) 13 .int (Or.inl ⟨rfl, rfl⟩) 7 dX3_init_7 ac_13 (by decide) (by decide) (Nat.le_of_ble_eq_true rfl) (n := 149) hn (μ1 := km_262) rfl rfl rfl (Nat.le_of_ble_eq_true rfl) (Nat.le_of_ble_eq_true rfl) ?_
  have el : km_262 = sh_add km_261 (13, 49) := rfl
  have hl149 : (sh_lay km_262)[149]? = some (13, 49) := by rw [el]; exact sh_lay_new hn
  have hn : (sh_lay km_262).length = 150 := by rw [el]; exact sh_len_add hn
  have hl148 : (sh_lay km_262)[148]? = some (3, 0) := by decide +kernel
  refine vn_putR 9 dX3_init_9 fl_3_9 (Or.inr ⟨rfl, rfl, rfl⟩) rfl hl148 (fun y ey => ?_)
  obtain rfl : y = km_263 := ey
  have el : sh_lay km_263 = sh_lay km_262 := by rw [show km_263 = sh_setR km_262 148 1 (some 149) from rfl]; exact sh_lyR
  have hl148 : (sh_lay km_263)[148]? = some (3, 0) := by rw [el]; exact hl148
  have hn : (sh_lay km_263).length = 150 := by rw [el]; exact hn
  refine vv_aload_n 12 0 dX3_init_12 rfl rfl ?_
  refine vv_bipush 13 dX3_init_13 bk_7 ?_
  refine vk_newa (N := 7) (c1 := 2) (s1 := 56) 13 .int (Or.inl ⟨rfl, rfl⟩) 15 dX3_init_15 ac_13 (by decide) (by decide) (Nat.le_of_ble_eq_true rfl) (n := 150) hn (μ1 := km_264) rfl rfl rfl (Nat.le_of_ble_eq_true rfl) (Nat.le_of_ble_eq_true rfl) ?_
  have el : km_264 = sh_add km_263 (13, 7) := rfl
  have hl148 : (sh_lay km_264)[148]? = some (3, 0) := by rw [el]; exact sh_lay_add hl148
  have hl150 : (sh_lay km_264)[150]? = some (13, 7) := by rw [el]; exact sh_lay_new hn
  have hn : (sh_lay km_264).length = 151 := by rw [el]; exact sh_len_add hn
  refine vn_putR 17 dX3_init_17 fl_3_15 (Or.inr ⟨rfl, rfl, rfl⟩) rfl hl148 (fun y ey => ?_)
  obtain rfl : y = km_265 := ey
  have el : sh_lay km_265 = sh_lay km_264 := by rw [show km_265 = sh_setR km_264 148 2 (some 150) from rfl]; exact sh_lyR
  have hl148 : (sh_lay km_265)[148]? = some (3, 0) := by rw [el]; exact hl148
  have hn : (sh_lay km_265).length = 151 := by rw [el]; exact hn
  refine vv_aload_n 20 0 dX3_init_20 rfl rfl ?_
  refine vv_bipush 21 dX3_init_21 bk_7 ?_
  refine vk_newa (N := 7) (c1 := 3) (s1 := 63) 13 .int (Or.inl ⟨rfl, rfl⟩) 23 dX3_init_23 ac_13 (by decide) (by decide) (Nat.le_of_ble_eq_true rfl) (n := 151) hn (μ1 := km_266) rfl rfl rfl (Nat.le_of_ble_eq_true rfl) (Nat.le_of_ble_eq_true rfl) ?_
  have el : km_266 = sh_add km_265 (13, 7) := rfl
  have hl148 : (sh_lay km_266)[148]? = some (3, 0) := by rw [el]; exact sh_lay_add hl148
  have hl151 : (sh_lay km_266)[151]? = some (13, 7) := by rw [el]; exact sh_lay_new hn
  have hn : (sh_lay km_266).length = 152 := by rw [el]; exact sh_len_add hn
  refine vn_putR 25 dX3_init_25 fl_3_18 (Or.inr ⟨rfl, rfl, rfl⟩) rfl hl148 (fun y ey => ?_)
  obtain rfl : y = km_267 := ey
  have el : sh_lay km_267 = sh_lay km_266 := by rw [show km_267 = sh_setR km_266 148 3 (some 151) from rfl]; exact sh_lyR
  have hl148 : (sh_lay km_267)[148]? = some (3, 0) := by rw [el]; exact hl148
  have hn : (sh_lay km_267).length = 152 := by rw [el]; exact hn
  refine vv_aload_n 28 0 dX3_init_28 rfl rfl ?_
  refine vv_bipush 29 dX3_init_29 bk_7 ?_
  refine vk_newa (N := 7) (c1 := 4) (s1 := 70) 13 .int (Or.inl ⟨rfl, rfl⟩) 31 dX3_init_31 ac_13 (by decide) (by decide) (Nat.le_of_ble_eq_true rfl) (n := 152) hn (μ1 := km_268) rfl rfl rfl (Nat.le_of_ble_eq_true rfl) (Nat.le_of_ble_eq_true rfl) ?_
  have el : km_268 = sh_add km_267 (13, 7) := rfl
  have hl148 : (sh_lay km_268)[148]? = some (3, 0) := by rw [el]; exact sh_lay_add hl148
  have hl152 : (sh_lay km_268)[152]? = some (13, 7) := by rw [el]; exact sh_lay_new hn
  have hn : (sh_lay km_268).length = 153 := by rw [el]; exact sh_len_add hn
  refine vn_putR 33 dX3_init_33 fl_3_21 (Or.inr ⟨rfl, rfl, rfl⟩) rfl hl148 (fun y ey => ?_)
  obtain rfl : y = km_269 := ey
  have el : sh_lay km_269 = sh_lay km_268 := by rw [show km_269 = sh_setR km_268 148 4 (some 152) from rfl]; exact sh_lyR
  have hl148 : (sh_lay km_269)[148]? = some (3, 0) := by rw [el]; exact hl148
  have hn : (sh_lay km_269).length = 153 := by rw [el]; exact hn
  refine vv_aload_n 36 0 dX3_init_36 rfl rfl ?_
  refine vv_bipush 37 dX3_init_37 bk_7 ?_
  refine vk_newa (N := 7) (c1 := 5) (s1 := 77) 13 .int (Or.inl ⟨rfl, rfl⟩) 39 dX3_init_39 ac_13 (by decide) (by decide) (Nat.le_of_ble_eq_true rfl) (n := 153) hn (μ1 := km_270) rfl rfl rfl (Nat.le_of_ble_eq_true rfl) (Nat.le_of_ble_eq_true rfl) ?_
  have el : km_270 = sh_add km_269 (13, 7) := rfl
  have hl148 : (sh_lay km_270)[148]? = some (3, 0) := by rw [el]; exact sh_lay_add hl148
  have hl153 : (sh_lay km_270)[153]? = some (13, 7) := by rw [el]; exact sh_lay_new hn
  have hn : (sh_lay km_270).length = 154 := by rw [el]; exact sh_len_add hn
  refine vn_putR 41 dX3_init_41 fl_3_24 (Or.inr ⟨rfl, rfl, rfl⟩) rfl hl148 (fun y ey => ?_)
  obtain rfl : y = km_271 := ey
  have el : sh_lay km_271 = sh_lay km_270 := by rw [show km_271 = sh_setR km_270 148 5 (some 153) from rfl]; exact sh_lyR
  have hl148 : (sh_lay km_271)[148]? = some (3, 0) := by rw [el]; exact hl148
  have hn : (sh_lay km_271).length = 154 := by rw [el]; exact hn
  refine vv_vret 44 dX3_init_44 rfl (Nat.le_of_ble_eq_true rfl) (Nat.le_of_ble_eq_true rfl) ⟨rfl, rfl⟩
end
