section
variable {l : Launch} {B : Nat} {D : va_G} {ca : Nat → ClassId} {μ : sh_Mem}
noncomputable def f_X8_takesWord (a1 : Int32) (μ : sh_Mem) : Option (Int32 × sh_Mem) := (if (f_X8_isWord μ a1) = 0 then sh_bind (f_X8_fails 1 (sh_i μ 2 4) μ) (fun y7 μ5 => (if y7 = 0 ∨ y7 = 1 then some (y7, μ5) else none)) else sh_bindv (f_X8_advance μ) (fun μ2 => some (1, μ2)))
theorem gp_X8_takesWord {a1 : Int32} {μ μ' : sh_Mem} {v : Int32} (hG : sh_G μ) (h : f_X8_takesWord a1 μ = some (v, μ')) : sh_G μ' := by
  unfold f_X8_takesWord at h
  by_cases c1 : (f_X8_isWord μ a1) = 0
  · rw [if_pos c1] at h
    obtain ⟨y7, μ5, hr6, h⟩ := sh_bind_e h
    have hG5 := gp_X8_fails hG hr6
    obtain ⟨k8, h⟩ := sh_chk h
    obtain ⟨e1, e2⟩ := sh_some2 h
    exact e2 ▸ hG5
  · rw [if_neg c1] at h
    obtain ⟨μ2, hr3, h⟩ := sh_bindv_e h
    have hG2 := gp_X8_advance hG hr3
    obtain ⟨e1, e2⟩ := sh_some2 h
    exact e2 ▸ hG2
theorem t_X8_takesWord {a1 : Int32} {μ μ' : sh_Mem} {v : Int32} (hG : sh_G μ) (h : f_X8_takesWord a1 μ = some (v, μ')) : sh_C0 l B D ca 8 M_X8_takesWord [.ref 2, .int a1] μ (fun v0 μ0 => v0 = some (.int v) ∧ μ0 = μ') := by
  unfold f_X8_takesWord at h
  refine vv_aload_n 0 0 dX8_takesWord_0 rfl rfl ?_
  refine vv_iload_n 1 1 dX8_takesWord_1 rfl rfl ?_
  refine v1_callV [_] 2 dX8_takesWord_2 ck_X8_79 (g_l_2 hG) ⟨by decide, rfl⟩ (c_X8_isWord (μ := μ) hG) (Nat.le_of_ble_eq_true rfl) ⟨Nat.le_of_ble_eq_true rfl, Nat.le_of_ble_eq_true rfl⟩ rfl (Nat.le_of_ble_eq_true rfl) ?_
  refine vv_if_ne 5 18 dX8_takesWord_5 (by decide) (fun c1 => ?_) (fun c1 => ?_)
  · rw [if_neg c1] at h
    refine vv_aload_n 18 0 dX8_takesWord_18 rfl rfl ?_
    obtain ⟨μ2, hr3, h⟩ := sh_bindv_e h
    refine v1_callV [] 19 dX8_takesWord_19 ck_X8_40 (g_l_2 hG) ⟨by decide, rfl⟩ (t_X8_advance hG hr3) (Nat.le_of_ble_eq_true rfl) ⟨Nat.le_of_ble_eq_true rfl, Nat.le_of_ble_eq_true rfl⟩ rfl (Nat.le_of_ble_eq_true rfl) ?_
    have hG2 := gp_X8_advance hG hr3
    refine vv_iconst 22 dX8_takesWord_22 ik_1 ?_
    obtain ⟨e1, e2⟩ := sh_some2 h
    refine vv_zret 23 dX8_takesWord_23 rfl rfl (Nat.le_refl _) (Nat.le_refl _) ⟨by rw [e1], e2⟩
  · rw [if_pos c1] at h
    refine vv_aload_n 8 0 dX8_takesWord_8 rfl rfl ?_
    refine vv_iconst 9 dX8_takesWord_9 ik_1 ?_
    refine vv_aload_n 10 0 dX8_takesWord_10 rfl rfl ?_
    refine vv_getI 11 dX8_takesWord_11 fl_8_31 rfl (g_l_2 hG) ?_
    obtain ⟨y7, μ5, hr6, h⟩ := sh_bind_e h
    refine v1_callV [_, _] 14 dX8_takesWord_14 ck_X8_83 (g_l_2 hG) ⟨by decide, rfl⟩ (t_X8_fails hG hr6) (Nat.le_of_ble_eq_true rfl) ⟨Nat.le_of_ble_eq_true rfl, Nat.le_of_ble_eq_true rfl⟩ rfl (Nat.le_of_ble_eq_true rfl) ?_
    have hG5 := gp_X8_fails hG hr6
    obtain ⟨k8, h⟩ := sh_chk h
    obtain ⟨e1, e2⟩ := sh_some2 h
    refine vv_zret 17 dX8_takesWord_17 rfl (sh_nb k8) (Nat.le_refl _) (Nat.le_refl _) ⟨by rw [e1], e2⟩
noncomputable def f_X8_takesMark (a1 : Int32) (μ : sh_Mem) : Option (Int32 × sh_Mem) := (if (sh_i μ 2 3) = a1 then sh_bindv (f_X8_advance μ) (fun μ2 => some (1, μ2)) else sh_bind (f_X8_fails 1 (sh_i μ 2 4) μ) (fun y7 μ5 => (if y7 = 0 ∨ y7 = 1 then some (y7, μ5) else none)))
theorem gp_X8_takesMark {a1 : Int32} {μ μ' : sh_Mem} {v : Int32} (hG : sh_G μ) (h : f_X8_takesMark a1 μ = some (v, μ')) : sh_G μ' := by
  unfold f_X8_takesMark at h
  by_cases c1 : (sh_i μ 2 3) = a1
  · rw [if_pos c1] at h
    obtain ⟨μ2, hr3, h⟩ := sh_bindv_e h
    have hG2 := gp_X8_advance hG hr3
    obtain ⟨e1, e2⟩ := sh_some2 h
    exact e2 ▸ hG2
  · rw [if_neg c1] at h
    obtain ⟨y7, μ5, hr6, h⟩ := sh_bind_e h
    have hG5 := gp_X8_fails hG hr6
    obtain ⟨k8, h⟩ := sh_chk h
    obtain ⟨e1, e2⟩ := sh_some2 h
    exact e2 ▸ hG5
theorem t_X8_takesMark {a1 : Int32} {μ μ' : sh_Mem} {v : Int32} (hG : sh_G μ) (h : f_X8_takesMark a1 μ = some (v, μ')) : sh_C0 l B D ca 8 M_X8_takesMark [.ref 2, .int a1] μ (fun v0 μ0 => v0 = some (.int v) ∧ μ0 = μ') := by
  unfold f_X8_takesMark at h
  refine vv_aload_n 0 0 dX8_takesMark_0 rfl rfl ?_
  refine vv_getI 1 dX8_takesMark_1 fl_8_28 rfl (g_l_2 hG) ?_
  refine vv_iload_n 4 1 dX8_takesMark_4 rfl rfl ?_
  refine vv_icmp_eq 5 18 dX8_takesMark_5 (by decide) (fun c1 => ?_) (fun c1 => ?_)
  · rw [if_pos c1] at h
    refine vv_aload_n 18 0 dX8_takesMark_18 rfl rfl ?_
    obtain ⟨μ2, hr3, h⟩ := sh_bindv_e h
    refine v1_callV [] 19 dX8_takesMark_19 ck_X8_40 (g_l_2 hG) ⟨by decide, rfl⟩ (t_X8_advance hG hr3) (Nat.le_of_ble_eq_true rfl) ⟨Nat.le_of_ble_eq_true rfl, Nat.le_of_ble_eq_true rfl⟩ rfl (Nat.le_of_ble_eq_true rfl) ?_
    have hG2 := gp_X8_advance hG hr3
    refine vv_iconst 22 dX8_takesMark_22 ik_1 ?_
    obtain ⟨e1, e2⟩ := sh_some2 h
    refine vv_zret 23 dX8_takesMark_23 rfl rfl (Nat.le_refl _) (Nat.le_refl _) ⟨by rw [e1], e2⟩
  · rw [if_neg c1] at h
    refine vv_aload_n 8 0 dX8_takesMark_8 rfl rfl ?_
    refine vv_iconst 9 dX8_takesMark_9 ik_1 ?_
    refine vv_aload_n 10 0 dX8_takesMark_10 rfl rfl ?_
    refine vv_getI 11 dX8_takesMark_11 fl_8_31 rfl (g_l_2 hG) ?_
    obtain ⟨y7, μ5, hr6, h⟩ := sh_bind_e h
    refine v1_callV [_, _] 14 dX8_takesMark_14 ck_X8_83 (g_l_2 hG) ⟨by decide, rfl⟩ (t_X8_fails hG hr6) (Nat.le_of_ble_eq_true rfl) ⟨Nat.le_of_ble_eq_true rfl, Nat.le_of_ble_eq_true rfl⟩ rfl (Nat.le_of_ble_eq_true rfl) ?_
    have hG5 := gp_X8_fails hG hr6
    obtain ⟨k8, h⟩ := sh_chk h
    obtain ⟨e1, e2⟩ := sh_some2 h
    refine vv_zret 17 dX8_takesMark_17 rfl (sh_nb k8) (Nat.le_refl _) (Nat.le_refl _) ⟨by rw [e1], e2⟩
noncomputable def f_X8_takeNumber (a1 : Int32) (a2 : Int32) (μ : sh_Mem) : Option (Int32 × sh_Mem) := (if (sh_i μ 2 3) = (-3) then (if (sh_i μ 2 5) ≤ 4 then (if (sh_i μ 2 8) < a1 then sh_bind (f_X8_fails 2 (sh_i μ 2 4) μ) (fun y6 μ4 => some ((-1), μ4)) else (if (sh_i μ 2 8) ≤ a2 then sh_let ((sh_i μ 2 8) : Int32) (fun x8 => sh_bindv (f_X8_advance μ) (fun μ9 => some (x8, μ9))) else sh_bind (f_X8_fails 2 (sh_i μ 2 4) μ) (fun y14 μ12 => some ((-1), μ12)))) else sh_bind (f_X8_fails 1 ((sh_i μ 2 4) + 4) μ) (fun y17 μ15 => some ((-1), μ15))) else sh_bind (f_X8_fails 1 (sh_i μ 2 4) μ) (fun y20 μ18 => some ((-1), μ18)))
theorem gp_X8_takeNumber {a1 : Int32} {a2 : Int32} {μ μ' : sh_Mem} {v : Int32} (hG : sh_G μ) (h : f_X8_takeNumber a1 a2 μ = some (v, μ')) : sh_G μ' := by
  unfold f_X8_takeNumber at h
  by_cases c1 : (sh_i μ 2 3) = (-3)
  · rw [if_pos c1] at h
    by_cases c2 : (sh_i μ 2 5) ≤ 4
    · rw [if_pos c2] at h
      by_cases c3 : (sh_i μ 2 8) < a1
      · rw [if_pos c3] at h
        obtain ⟨y6, μ4, hr5, h⟩ := sh_bind_e h
        have hG4 := gp_X8_fails hG hr5
        obtain ⟨e1, e2⟩ := sh_some2 h
        exact e2 ▸ hG4
      · rw [if_neg c3] at h
        by_cases c7 : (sh_i μ 2 8) ≤ a2
        · rw [if_pos c7] at h
          obtain ⟨x8, ex8⟩ : ∃ y : Int32, y = (sh_i μ 2 8) := ⟨_, rfl⟩
          rw [sh_let_eq ex8] at h
          obtain ⟨μ9, hr10, h⟩ := sh_bindv_e h
          have hG9 := gp_X8_advance hG hr10
          obtain ⟨e1, e2⟩ := sh_some2 h
          exact e2 ▸ hG9
        · rw [if_neg c7] at h
          obtain ⟨y14, μ12, hr13, h⟩ := sh_bind_e h
          have hG12 := gp_X8_fails hG hr13
          obtain ⟨e1, e2⟩ := sh_some2 h
          exact e2 ▸ hG12
    · rw [if_neg c2] at h
      obtain ⟨y17, μ15, hr16, h⟩ := sh_bind_e h
      have hG15 := gp_X8_fails hG hr16
      obtain ⟨e1, e2⟩ := sh_some2 h
      exact e2 ▸ hG15
  · rw [if_neg c1] at h
    obtain ⟨y20, μ18, hr19, h⟩ := sh_bind_e h
    have hG18 := gp_X8_fails hG hr19
    obtain ⟨e1, e2⟩ := sh_some2 h
    exact e2 ▸ hG18
theorem t_X8_takeNumber {a1 : Int32} {a2 : Int32} {μ μ' : sh_Mem} {v : Int32} (hG : sh_G μ) (h : f_X8_takeNumber a1 a2 μ = some (v, μ')) : sh_C0 l B D ca 8 M_X8_takeNumber [.ref 2, .int a1, .int a2] μ (fun v0 μ0 => v0 = some (.int v) ∧ μ0 = μ') := by
  unfold f_X8_takeNumber at h
  refine vv_aload_n 0 0 dX8_takeNumber_0 rfl rfl ?_
  refine vv_getI 1 dX8_takeNumber_1 fl_8_28 rfl (g_l_2 hG) ?_
  refine vv_bipush 4 dX8_takeNumber_4 bk_m3 ?_
  refine vv_icmp_eq 6 22 dX8_takeNumber_6 (by decide) (fun c1 => ?_) (fun c1 => ?_)
  · rw [if_pos c1] at h
    refine vv_aload_n 22 0 dX8_takeNumber_22 rfl rfl ?_
    refine vv_getI 23 dX8_takeNumber_23 fl_8_49 rfl (g_l_2 hG) ?_
    refine vv_iconst 26 dX8_takeNumber_26 ik_4 ?_
    refine vv_icmp_le 27 45 dX8_takeNumber_27 (by decide) (fun c2 => ?_) (fun c2 => ?_)
    · rw [if_pos c2] at h
      refine vv_aload_n 45 0 dX8_takeNumber_45 rfl rfl ?_
      refine vv_getI 46 dX8_takeNumber_46 fl_8_65 rfl (g_l_2 hG) ?_
      refine vv_iload_n 49 1 dX8_takeNumber_49 rfl rfl ?_
      refine vv_icmp_lt 50 61 dX8_takeNumber_50 (by decide) (fun c3 => ?_) (fun c3 => ?_)
      · rw [if_pos c3] at h
        refine vv_aload_n 61 0 dX8_takeNumber_61 rfl rfl ?_
        refine vv_iconst 62 dX8_takeNumber_62 ik_2 ?_
        refine vv_aload_n 63 0 dX8_takeNumber_63 rfl rfl ?_
        refine vv_getI 64 dX8_takeNumber_64 fl_8_31 rfl (g_l_2 hG) ?_
        obtain ⟨y6, μ4, hr5, h⟩ := sh_bind_e h
        refine v1_callV [_, _] 67 dX8_takeNumber_67 ck_X8_83 (g_l_2 hG) ⟨by decide, rfl⟩ (t_X8_fails hG hr5) (Nat.le_of_ble_eq_true rfl) ⟨Nat.le_of_ble_eq_true rfl, Nat.le_of_ble_eq_true rfl⟩ rfl (Nat.le_of_ble_eq_true rfl) ?_
        have hG4 := gp_X8_fails hG hr5
        refine vv_pop 70 dX8_takeNumber_70 ?_
        refine vv_goto 71 85 dX8_takeNumber_71 (by decide) ?_
        refine vv_iconst 85 dX8_takeNumber_85 ik_m1 ?_
        obtain ⟨e1, e2⟩ := sh_some2 h
        refine vv_iret 86 dX8_takeNumber_86 rfl (Nat.le_refl _) (Nat.le_refl _) ⟨by rw [e1], e2⟩
      · rw [if_neg c3] at h
        refine vv_aload_n 53 0 dX8_takeNumber_53 rfl rfl ?_
        refine vv_getI 54 dX8_takeNumber_54 fl_8_65 rfl (g_l_2 hG) ?_
        refine vv_iload_n 57 2 dX8_takeNumber_57 rfl rfl ?_
        refine vv_icmp_le 58 74 dX8_takeNumber_58 (by decide) (fun c7 => ?_) (fun c7 => ?_)
        · rw [if_pos c7] at h
          refine vv_aload_n 74 0 dX8_takeNumber_74 rfl rfl ?_
          refine vv_getI 75 dX8_takeNumber_75 fl_8_65 rfl (g_l_2 hG) ?_
          refine vv_topi (fun x8 ex8 => ?_)
          rw [sh_let_eq ex8] at h
          refine vv_istore_n (lv' := [(3, _), (0, _), (1, _), (2, _)]) 78 3 dX8_takeNumber_78 rfl (by decide) rfl ?_
          refine vv_aload_n 79 0 dX8_takeNumber_79 rfl rfl ?_
          obtain ⟨μ9, hr10, h⟩ := sh_bindv_e h
          refine v1_callV [] 80 dX8_takeNumber_80 ck_X8_40 (g_l_2 hG) ⟨by decide, rfl⟩ (t_X8_advance hG hr10) (Nat.le_of_ble_eq_true rfl) ⟨Nat.le_of_ble_eq_true rfl, Nat.le_of_ble_eq_true rfl⟩ rfl (Nat.le_of_ble_eq_true rfl) ?_
          have hG9 := gp_X8_advance hG hr10
          refine vv_iload_n 83 3 dX8_takeNumber_83 rfl rfl ?_
          obtain ⟨e1, e2⟩ := sh_some2 h
          refine vv_iret 84 dX8_takeNumber_84 rfl (Nat.le_refl _) (Nat.le_refl _) ⟨by rw [e1], e2⟩
        · rw [if_neg c7] at h
          refine vv_aload_n 61 0 dX8_takeNumber_61 rfl rfl ?_
          refine vv_iconst 62 dX8_takeNumber_62 ik_2 ?_
          refine vv_aload_n 63 0 dX8_takeNumber_63 rfl rfl ?_
          refine vv_getI 64 dX8_takeNumber_64 fl_8_31 rfl (g_l_2 hG) ?_
          obtain ⟨y14, μ12, hr13, h⟩ := sh_bind_e h
          refine v1_callV [_, _] 67 dX8_takeNumber_67 ck_X8_83 (g_l_2 hG) ⟨by decide, rfl⟩ (t_X8_fails hG hr13) (Nat.le_of_ble_eq_true rfl) ⟨Nat.le_of_ble_eq_true rfl, Nat.le_of_ble_eq_true rfl⟩ rfl (Nat.le_of_ble_eq_true rfl) ?_
          have hG12 := gp_X8_fails hG hr13
          refine vv_pop 70 dX8_takeNumber_70 ?_
          refine vv_goto 71 85 dX8_takeNumber_71 (by decide) ?_
          refine vv_iconst 85 dX8_takeNumber_85 ik_m1 ?_
          obtain ⟨e1, e2⟩ := sh_some2 h
          refine vv_iret 86 dX8_takeNumber_86 rfl (Nat.le_refl _) (Nat.le_refl _) ⟨by rw [e1], e2⟩
    · rw [if_neg c2] at h
      refine vv_aload_n 30 0 dX8_takeNumber_30 rfl rfl ?_
      refine vv_iconst 31 dX8_takeNumber_31 ik_1 ?_
      refine vv_aload_n 32 0 dX8_takeNumber_32 rfl rfl ?_
      refine vv_getI 33 dX8_takeNumber_33 fl_8_31 rfl (g_l_2 hG) ?_
      refine vv_iconst 36 dX8_takeNumber_36 ik_4 ?_
      refine vv_iadd 37 dX8_takeNumber_37 ?_
      obtain ⟨y17, μ15, hr16, h⟩ := sh_bind_e h
      refine v1_callV [_, _] 38 dX8_takeNumber_38 ck_X8_83 (g_l_2 hG) ⟨by decide, rfl⟩ (t_X8_fails hG hr16) (Nat.le_of_ble_eq_true rfl) ⟨Nat.le_of_ble_eq_true rfl, Nat.le_of_ble_eq_true rfl⟩ rfl (Nat.le_of_ble_eq_true rfl) ?_
      have hG15 := gp_X8_fails hG hr16
      refine vv_pop 41 dX8_takeNumber_41 ?_
      refine vv_goto 42 85 dX8_takeNumber_42 (by decide) ?_
      refine vv_iconst 85 dX8_takeNumber_85 ik_m1 ?_
      obtain ⟨e1, e2⟩ := sh_some2 h
      refine vv_iret 86 dX8_takeNumber_86 rfl (Nat.le_refl _) (Nat.le_refl _) ⟨by rw [e1], e2⟩
  · rw [if_neg c1] at h
    refine vv_aload_n 9 0 dX8_takeNumber_9 rfl rfl ?_
    refine vv_iconst 10 dX8_takeNumber_10 ik_1 ?_
    refine vv_aload_n 11 0 dX8_takeNumber_11 rfl rfl ?_
    refine vv_getI 12 dX8_takeNumber_12 fl_8_31 rfl (g_l_2 hG) ?_
    obtain ⟨y20, μ18, hr19, h⟩ := sh_bind_e h
    refine v1_callV [_, _] 15 dX8_takeNumber_15 ck_X8_83 (g_l_2 hG) ⟨by decide, rfl⟩ (t_X8_fails hG hr19) (Nat.le_of_ble_eq_true rfl) ⟨Nat.le_of_ble_eq_true rfl, Nat.le_of_ble_eq_true rfl⟩ rfl (Nat.le_of_ble_eq_true rfl) ?_
    have hG18 := gp_X8_fails hG hr19
    refine vv_pop 18 dX8_takeNumber_18 ?_
    refine vv_goto 19 85 dX8_takeNumber_19 (by decide) ?_
    refine vv_iconst 85 dX8_takeNumber_85 ik_m1 ?_
    obtain ⟨e1, e2⟩ := sh_some2 h
    refine vv_iret 86 dX8_takeNumber_86 rfl (Nat.le_refl _) (Nat.le_refl _) ⟨by rw [e1], e2⟩
noncomputable def f_X8_takeName (μ : sh_Mem) : Option (Int32 × sh_Mem) := (if (sh_i μ 2 3) = (-2) then (if (sh_i μ 2 5) ≤ 6 then (if (sh_i μ 2 6) = (-1) then sh_let ((sh_i μ 2 7) : Int32) (fun x4 => sh_bindv (f_X8_advance μ) (fun μ5 => some (x4, μ5))) else (if 27 ≤ (sh_i μ 2 6) then sh_let ((sh_i μ 2 7) : Int32) (fun x9 => sh_bindv (f_X8_advance μ) (fun μ10 => some (x9, μ10))) else sh_bind (f_X8_fails 1 (sh_i μ 2 4) μ) (fun y15 μ13 => some ((-1), μ13)))) else sh_bind (f_X8_fails 1 ((sh_i μ 2 4) + 6) μ) (fun y18 μ16 => some ((-1), μ16))) else sh_bind (f_X8_fails 1 (sh_i μ 2 4) μ) (fun y21 μ19 => some ((-1), μ19)))
theorem gp_X8_takeName {μ μ' : sh_Mem} {v : Int32} (hG : sh_G μ) (h : f_X8_takeName μ = some (v, μ')) : sh_G μ' := by
  unfold f_X8_takeName at h
  by_cases c1 : (sh_i μ 2 3) = (-2)
  · rw [if_pos c1] at h
    by_cases c2 : (sh_i μ 2 5) ≤ 6
    · rw [if_pos c2] at h
      by_cases c3 : (sh_i μ 2 6) = (-1)
      · rw [if_pos c3] at h
        obtain ⟨x4, ex4⟩ : ∃ y : Int32, y = (sh_i μ 2 7) := ⟨_, rfl⟩
        rw [sh_let_eq ex4] at h
        obtain ⟨μ5, hr6, h⟩ := sh_bindv_e h
        have hG5 := gp_X8_advance hG hr6
        obtain ⟨e1, e2⟩ := sh_some2 h
        exact e2 ▸ hG5
      · rw [if_neg c3] at h
        by_cases c8 : 27 ≤ (sh_i μ 2 6)
        · rw [if_pos c8] at h
          obtain ⟨x9, ex9⟩ : ∃ y : Int32, y = (sh_i μ 2 7) := ⟨_, rfl⟩
          rw [sh_let_eq ex9] at h
          obtain ⟨μ10, hr11, h⟩ := sh_bindv_e h
          have hG10 := gp_X8_advance hG hr11
          obtain ⟨e1, e2⟩ := sh_some2 h
          exact e2 ▸ hG10
        · rw [if_neg c8] at h
          obtain ⟨y15, μ13, hr14, h⟩ := sh_bind_e h
          have hG13 := gp_X8_fails hG hr14
          obtain ⟨e1, e2⟩ := sh_some2 h
          exact e2 ▸ hG13
    · rw [if_neg c2] at h
      obtain ⟨y18, μ16, hr17, h⟩ := sh_bind_e h
      have hG16 := gp_X8_fails hG hr17
      obtain ⟨e1, e2⟩ := sh_some2 h
      exact e2 ▸ hG16
  · rw [if_neg c1] at h
    obtain ⟨y21, μ19, hr20, h⟩ := sh_bind_e h
    have hG19 := gp_X8_fails hG hr20
    obtain ⟨e1, e2⟩ := sh_some2 h
    exact e2 ▸ hG19
theorem t_X8_takeName {μ μ' : sh_Mem} {v : Int32} (hG : sh_G μ) (h : f_X8_takeName μ = some (v, μ')) : sh_C0 l B D ca 8 M_X8_takeName [.ref 2] μ (fun v0 μ0 => v0 = some (.int v) ∧ μ0 = μ') := by
  unfold f_X8_takeName at h
  refine vv_aload_n 0 0 dX8_takeName_0 rfl rfl ?_
  refine vv_getI 1 dX8_takeName_1 fl_8_28 rfl (g_l_2 hG) ?_
  refine vv_bipush 4 dX8_takeName_4 bk_m2 ?_
  refine vv_icmp_eq 6 22 dX8_takeName_6 (by decide) (fun c1 => ?_) (fun c1 => ?_)
  · rw [if_pos c1] at h
    refine vv_aload_n 22 0 dX8_takeName_22 rfl rfl ?_
    refine vv_getI 23 dX8_takeName_23 fl_8_49 rfl (g_l_2 hG) ?_
    refine vv_bipush 26 dX8_takeName_26 bk_6 ?_
    refine vv_icmp_le 28 47 dX8_takeName_28 (by decide) (fun c2 => ?_) (fun c2 => ?_)
    · rw [if_pos c2] at h
      refine vv_aload_n 47 0 dX8_takeName_47 rfl rfl ?_
      refine vv_getI 48 dX8_takeName_48 fl_8_59 rfl (g_l_2 hG) ?_
      refine vv_iconst 51 dX8_takeName_51 ik_m1 ?_
      refine vv_icmp_eq 52 77 dX8_takeName_52 (by decide) (fun c3 => ?_) (fun c3 => ?_)
      · rw [if_pos c3] at h
        refine vv_aload_n 77 0 dX8_takeName_77 rfl rfl ?_
        refine vv_getI 78 dX8_takeName_78 fl_8_52 rfl (g_l_2 hG) ?_
        refine vv_topi (fun x4 ex4 => ?_)
        rw [sh_let_eq ex4] at h
        refine vv_istore_n (lv' := [(1, _), (0, _)]) 81 1 dX8_takeName_81 rfl (by decide) rfl ?_
        refine vv_aload_n 82 0 dX8_takeName_82 rfl rfl ?_
        obtain ⟨μ5, hr6, h⟩ := sh_bindv_e h
        refine v1_callV [] 83 dX8_takeName_83 ck_X8_40 (g_l_2 hG) ⟨by decide, rfl⟩ (t_X8_advance hG hr6) (Nat.le_of_ble_eq_true rfl) ⟨Nat.le_of_ble_eq_true rfl, Nat.le_of_ble_eq_true rfl⟩ rfl (Nat.le_of_ble_eq_true rfl) ?_
        have hG5 := gp_X8_advance hG hr6
        refine vv_iload_n 86 1 dX8_takeName_86 rfl rfl ?_
        obtain ⟨e1, e2⟩ := sh_some2 h
        refine vv_iret 87 dX8_takeName_87 rfl (Nat.le_refl _) (Nat.le_refl _) ⟨by rw [e1], e2⟩
      · rw [if_neg c3] at h
        refine vv_aload_n 55 0 dX8_takeName_55 rfl rfl ?_
        refine vv_getI 56 dX8_takeName_56 fl_8_59 rfl (g_l_2 hG) ?_
        refine vv_bipush 59 dX8_takeName_59 bk_27 ?_
        refine vv_icmp_ge 61 77 dX8_takeName_61 (by decide) (fun c8 => ?_) (fun c8 => ?_)
        · rw [if_pos c8] at h
          refine vv_aload_n 77 0 dX8_takeName_77 rfl rfl ?_
          refine vv_getI 78 dX8_takeName_78 fl_8_52 rfl (g_l_2 hG) ?_
          refine vv_topi (fun x9 ex9 => ?_)
          rw [sh_let_eq ex9] at h
          refine vv_istore_n (lv' := [(1, _), (0, _)]) 81 1 dX8_takeName_81 rfl (by decide) rfl ?_
          refine vv_aload_n 82 0 dX8_takeName_82 rfl rfl ?_
          obtain ⟨μ10, hr11, h⟩ := sh_bindv_e h
          refine v1_callV [] 83 dX8_takeName_83 ck_X8_40 (g_l_2 hG) ⟨by decide, rfl⟩ (t_X8_advance hG hr11) (Nat.le_of_ble_eq_true rfl) ⟨Nat.le_of_ble_eq_true rfl, Nat.le_of_ble_eq_true rfl⟩ rfl (Nat.le_of_ble_eq_true rfl) ?_
          have hG10 := gp_X8_advance hG hr11
          refine vv_iload_n 86 1 dX8_takeName_86 rfl rfl ?_
          obtain ⟨e1, e2⟩ := sh_some2 h
          refine vv_iret 87 dX8_takeName_87 rfl (Nat.le_refl _) (Nat.le_refl _) ⟨by rw [e1], e2⟩
        · rw [if_neg c8] at h
          refine vv_aload_n 64 0 dX8_takeName_64 rfl rfl ?_
          refine vv_iconst 65 dX8_takeName_65 ik_1 ?_
          refine vv_aload_n 66 0 dX8_takeName_66 rfl rfl ?_
          refine vv_getI 67 dX8_takeName_67 fl_8_31 rfl (g_l_2 hG) ?_
          obtain ⟨y15, μ13, hr14, h⟩ := sh_bind_e h
          refine v1_callV [_, _] 70 dX8_takeName_70 ck_X8_83 (g_l_2 hG) ⟨by decide, rfl⟩ (t_X8_fails hG hr14) (Nat.le_of_ble_eq_true rfl) ⟨Nat.le_of_ble_eq_true rfl, Nat.le_of_ble_eq_true rfl⟩ rfl (Nat.le_of_ble_eq_true rfl) ?_
          have hG13 := gp_X8_fails hG hr14
          refine vv_pop 73 dX8_takeName_73 ?_
          refine vv_goto 74 88 dX8_takeName_74 (by decide) ?_
          refine vv_iconst 88 dX8_takeName_88 ik_m1 ?_
          obtain ⟨e1, e2⟩ := sh_some2 h
          refine vv_iret 89 dX8_takeName_89 rfl (Nat.le_refl _) (Nat.le_refl _) ⟨by rw [e1], e2⟩
    · rw [if_neg c2] at h
      refine vv_aload_n 31 0 dX8_takeName_31 rfl rfl ?_
      refine vv_iconst 32 dX8_takeName_32 ik_1 ?_
      refine vv_aload_n 33 0 dX8_takeName_33 rfl rfl ?_
      refine vv_getI 34 dX8_takeName_34 fl_8_31 rfl (g_l_2 hG) ?_
      refine vv_bipush 37 dX8_takeName_37 bk_6 ?_
      refine vv_iadd 39 dX8_takeName_39 ?_
      obtain ⟨y18, μ16, hr17, h⟩ := sh_bind_e h
      refine v1_callV [_, _] 40 dX8_takeName_40 ck_X8_83 (g_l_2 hG) ⟨by decide, rfl⟩ (t_X8_fails hG hr17) (Nat.le_of_ble_eq_true rfl) ⟨Nat.le_of_ble_eq_true rfl, Nat.le_of_ble_eq_true rfl⟩ rfl (Nat.le_of_ble_eq_true rfl) ?_
      have hG16 := gp_X8_fails hG hr17
      refine vv_pop 43 dX8_takeName_43 ?_
      refine vv_goto 44 88 dX8_takeName_44 (by decide) ?_
      refine vv_iconst 88 dX8_takeName_88 ik_m1 ?_
      obtain ⟨e1, e2⟩ := sh_some2 h
      refine vv_iret 89 dX8_takeName_89 rfl (Nat.le_refl _) (Nat.le_refl _) ⟨by rw [e1], e2⟩
  · rw [if_neg c1] at h
    refine vv_aload_n 9 0 dX8_takeName_9 rfl rfl ?_
    refine vv_iconst 10 dX8_takeName_10 ik_1 ?_
    refine vv_aload_n 11 0 dX8_takeName_11 rfl rfl ?_
    refine vv_getI 12 dX8_takeName_12 fl_8_31 rfl (g_l_2 hG) ?_
    obtain ⟨y21, μ19, hr20, h⟩ := sh_bind_e h
    refine v1_callV [_, _] 15 dX8_takeName_15 ck_X8_83 (g_l_2 hG) ⟨by decide, rfl⟩ (t_X8_fails hG hr20) (Nat.le_of_ble_eq_true rfl) ⟨Nat.le_of_ble_eq_true rfl, Nat.le_of_ble_eq_true rfl⟩ rfl (Nat.le_of_ble_eq_true rfl) ?_
    have hG19 := gp_X8_fails hG hr20
    refine vv_pop 18 dX8_takeName_18 ?_
    refine vv_goto 19 88 dX8_takeName_19 (by decide) ?_
    refine vv_iconst 88 dX8_takeName_88 ik_m1 ?_
    obtain ⟨e1, e2⟩ := sh_some2 h
    refine vv_iret 89 dX8_takeName_89 rfl (Nat.le_refl _) (Nat.le_refl _) ⟨by rw [e1], e2⟩
noncomputable def F_X9_improves : Nat → Nat → Nat → Nat → Int32 → Int32 → Int32 → sh_Mem → Option (Int32 × sh_Mem)
  | 0, _, _, _, _, _, _, _ => none
  | fuel + 1, lbl, r1, r2, i3, i4, i5, μ => match lbl with
    | 1 => (if 4 ≤ i5 then (if i4 = 0 ∨ i4 = 1 then some (i4, μ) else none) else sh_bind (f_X5_nextTo r1 i3 i5 μ) (fun y19 μ17 => (if y19 = (-1) then F_X9_improves fuel 1 r1 r2 i3 i4 (i5 + 1) μ17 else (if sh_in y19 49 then (if sh_in i3 49 then (if sh_in y19 49 then sh_let ((((sh_i μ17 288 y19.toNatClampNeg) + 1) + (f_J9_abs_0f7a4 μ17 ((sh_i μ17 (r2 + 1) i3.toNatClampNeg) - (sh_i μ17 (r2 + 1) y19.toNatClampNeg)))) : Int32) (fun x24 => (if sh_in i3 49 then (if (sh_i μ17 288 i3.toNatClampNeg) ≤ x24 then F_X9_improves fuel 1 r1 r2 i3 i4 (i5 + 1) μ17 else (if sh_in i3 49 then sh_let (sh_setI μ17 288 i3.toNatClampNeg x24) (fun μ28 => F_X9_improves fuel 1 r1 r2 i3 1 (i5 + 1) μ28) else none)) else none)) else none) else none) else none))))
    | _ => none
noncomputable def f_X9_improves (p1 : Nat) (q2 : Nat) (a3 : Int32) (μ : sh_Mem) : Option (Int32 × sh_Mem) := F_X9_improves sh_fuel 1 p1 q2 a3 0 0 μ
theorem gpl_X9_improves (fuel : Nat) : (∀ ⦃r1 : Nat⦄ ⦃r2 : Nat⦄ ⦃i3 : Int32⦄ ⦃i4 : Int32⦄ ⦃i5 : Int32⦄ ⦃μ μ' : sh_Mem⦄ ⦃v : Int32⦄, sh_G μ → sh_isP r1 → sh_isL r2 → F_X9_improves fuel 1 r1 r2 i3 i4 i5 μ = some (v, μ') → sh_G μ') := by
  induction fuel with
  | zero => intro r1 r2 i3 i4 i5 μ μ' v hG hr1 hr2 h; cases h
  | succ fuel ih =>
    have ih_6 := ih
    intro r1 r2 i3 i4 i5 μ μ' v hG hr1 hr2 h
    replace h : ((if 4 ≤ i5 then (if i4 = 0 ∨ i4 = 1 then some (i4, μ) else none) else sh_bind (f_X5_nextTo r1 i3 i5 μ) (fun y19 μ17 => (if y19 = (-1) then F_X9_improves fuel 1 r1 r2 i3 i4 (i5 + 1) μ17 else (if sh_in y19 49 then (if sh_in i3 49 then (if sh_in y19 49 then sh_let ((((sh_i μ17 288 y19.toNatClampNeg) + 1) + (f_J9_abs_0f7a4 μ17 ((sh_i μ17 (r2 + 1) i3.toNatClampNeg) - (sh_i μ17 (r2 + 1) y19.toNatClampNeg)))) : Int32) (fun x24 => (if sh_in i3 49 then (if (sh_i μ17 288 i3.toNatClampNeg) ≤ x24 then F_X9_improves fuel 1 r1 r2 i3 i4 (i5 + 1) μ17 else (if sh_in i3 49 then sh_let (sh_setI μ17 288 i3.toNatClampNeg x24) (fun μ28 => F_X9_improves fuel 1 r1 r2 i3 1 (i5 + 1) μ28) else none)) else none)) else none) else none) else none)))) : Option (Int32 × sh_Mem)) = some (v, μ') := h
    by_cases c15 : 4 ≤ i5
    · rw [if_pos c15] at h
      obtain ⟨k16, h⟩ := sh_chk h
      obtain ⟨e1, e2⟩ := sh_some2 h
      exact e2 ▸ hG
    · rw [if_neg c15] at h
      obtain ⟨y19, μ17, hr18, h⟩ := sh_bind_e h
      have hG17 := gp_X5_nextTo hG hr1 hr18
      by_cases c20 : y19 = (-1)
      · rw [if_pos c20] at h
        exact ih_6 hG17 hr1 hr2 h
      · rw [if_neg c20] at h
        obtain ⟨k21, h⟩ := sh_chk h
        obtain ⟨k22, h⟩ := sh_chk h
        obtain ⟨k23, h⟩ := sh_chk h
        obtain ⟨x24, ex24⟩ : ∃ y : Int32, y = (((sh_i μ17 288 y19.toNatClampNeg) + 1) + (f_J9_abs_0f7a4 μ17 ((sh_i μ17 (r2 + 1) i3.toNatClampNeg) - (sh_i μ17 (r2 + 1) y19.toNatClampNeg)))) := ⟨_, rfl⟩
        rw [sh_let_eq ex24] at h
        obtain ⟨k25, h⟩ := sh_chk h
        by_cases c26 : (sh_i μ17 288 i3.toNatClampNeg) ≤ x24
        · rw [if_pos c26] at h
          exact ih_6 hG17 hr1 hr2 h
        · rw [if_neg c26] at h
          obtain ⟨k27, h⟩ := sh_chk h
          obtain ⟨μ28, eμ28⟩ : ∃ y : sh_Mem, y = (sh_setI μ17 288 i3.toNatClampNeg x24) := ⟨_, rfl⟩
          rw [sh_let_eq eμ28] at h
          have hG28 : sh_G μ28 := by rw [eμ28]; exact hG17
          exact ih_6 hG28 hr1 hr2 h
theorem tl_X9_improves (fuel : Nat) : (∀ ⦃r1 : Nat⦄ ⦃r2 : Nat⦄ ⦃i3 : Int32⦄ ⦃i4 : Int32⦄ ⦃i5 : Int32⦄ ⦃μ μ' : sh_Mem⦄ ⦃v : Int32⦄, sh_G μ → sh_isP r1 → sh_isL r2 → F_X9_improves fuel 1 r1 r2 i3 i4 i5 μ = some (v, μ') → sh_V0 l B D ca 3 M_X9_improves 6 [(0, .ref 287), (1, .ref r1), (2, .ref r2), (3, .int i3), (4, .int i4), (5, .int i5)] [] μ (fun v0 μ0 => v0 = some (.int v) ∧ μ0 = μ')) := by
  induction fuel with
  | zero => intro r1 r2 i3 i4 i5 μ μ' v hG hr1 hr2 h; cases h
  | succ fuel ih =>
    have ih_6 := ih
    intro r1 r2 i3 i4 i5 μ μ' v hG hr1 hr2 h
    replace h : ((if 4 ≤ i5 then (if i4 = 0 ∨ i4 = 1 then some (i4, μ) else none) else sh_bind (f_X5_nextTo r1 i3 i5 μ) (fun y19 μ17 => (if y19 = (-1) then F_X9_improves fuel 1 r1 r2 i3 i4 (i5 + 1) μ17 else (if sh_in y19 49 then (if sh_in i3 49 then (if sh_in y19 49 then sh_let ((((sh_i μ17 288 y19.toNatClampNeg) + 1) + (f_J9_abs_0f7a4 μ17 ((sh_i μ17 (r2 + 1) i3.toNatClampNeg) - (sh_i μ17 (r2 + 1) y19.toNatClampNeg)))) : Int32) (fun x24 => (if sh_in i3 49 then (if (sh_i μ17 288 i3.toNatClampNeg) ≤ x24 then F_X9_improves fuel 1 r1 r2 i3 i4 (i5 + 1) μ17 else (if sh_in i3 49 then sh_let (sh_setI μ17 288 i3.toNatClampNeg x24) (fun μ28 => F_X9_improves fuel 1 r1 r2 i3 1 (i5 + 1) μ28) else none)) else none)) else none) else none) else none)))) : Option (Int32 × sh_Mem)) = some (v, μ') := h
    refine vv_iload 6 5 dX9_improves_6 rfl ?_
    refine vv_iconst 8 dX9_improves_8 ik_4 ?_
    refine vv_icmp_ge 9 84 dX9_improves_9 (by decide) (fun c15 => ?_) (fun c15 => ?_)
    · rw [if_pos c15] at h
      refine vv_iload 84 4 dX9_improves_84 rfl ?_
      obtain ⟨k16, h⟩ := sh_chk h
      obtain ⟨e1, e2⟩ := sh_some2 h
      refine vv_zret 86 dX9_improves_86 rfl (sh_nb k16) (Nat.le_refl _) (Nat.le_refl _) ⟨by rw [e1], e2⟩
    · rw [if_neg c15] at h
      refine vv_aload_n 12 1 dX9_improves_12 rfl rfl ?_
      refine vv_iload_n 13 3 dX9_improves_13 rfl rfl ?_
      refine vv_iload 14 5 dX9_improves_14 rfl ?_
      obtain ⟨y19, μ17, hr18, h⟩ := sh_bind_e h
      refine v1_callV [_, _] 16 dX9_improves_16 ck_X9_32 (gP_l hG hr1) ⟨by decide, rfl⟩ (t_X5_nextTo hG hr1 hr18) (Nat.le_of_ble_eq_true rfl) ⟨Nat.le_of_ble_eq_true rfl, Nat.le_of_ble_eq_true rfl⟩ rfl (Nat.le_of_ble_eq_true rfl) ?_
      have hG17 := gp_X5_nextTo hG hr1 hr18
      refine vv_istore (lv' := [(6, _), (0, _), (1, _), (2, _), (3, _), (4, _), (5, _)]) 19 6 dX9_improves_19 (by decide) rfl ?_
      refine vv_iload 21 6 dX9_improves_21 rfl ?_
      refine vv_iconst 23 dX9_improves_23 ik_m1 ?_
      refine vv_icmp_eq 24 78 dX9_improves_24 (by decide) (fun c20 => ?_) (fun c20 => ?_)
      · rw [if_pos c20] at h
        refine vv_iincc (lv' := [(5, _), (6, _), (0, _), (1, _), (2, _), (3, _), (4, _)]) 78 5 dX9_improves_78 rfl ik_1 (by decide) rfl ?_
        refine vv_goto 81 6 dX9_improves_81 (by decide) ?_
        refine vv_sub [(0, _), (1, _), (2, _), (3, _), (4, _), (5, _)] (sh_subm [2, 3, 4, 5, 6, 0] rfl) ?_
        exact ih_6 hG17 hr1 hr2 h
      · rw [if_neg c20] at h
        refine vv_aload_n 27 0 dX9_improves_27 rfl rfl ?_
        refine vv_getR 28 dX9_improves_28 fl_9_9 rfl (g_l_287 hG17) (g_r_287_0 hG17) ?_
        refine vv_iload 31 6 dX9_improves_31 rfl ?_
        obtain ⟨k21, h⟩ := sh_chk h
        refine vv_iald 33 dX9_improves_33 (g_l_288 hG17) k21 ?_
        refine vv_iconst 34 dX9_improves_34 ik_1 ?_
        refine vv_iadd 35 dX9_improves_35 ?_
        refine vv_aload_n 36 2 dX9_improves_36 rfl rfl ?_
        refine vv_getR 37 dX9_improves_37 fl_9_36 rfl (gL_l hG17 hr2) (gL_r1 hG17 hr2) ?_
        refine vv_iload_n 40 3 dX9_improves_40 rfl rfl ?_
        obtain ⟨k22, h⟩ := sh_chk h
        refine vv_iald 41 dX9_improves_41 (gA_l hG17 (gLA1 hr2)) k22 ?_
        refine vv_aload_n 42 2 dX9_improves_42 rfl rfl ?_
        refine vv_getR 43 dX9_improves_43 fl_9_36 rfl (gL_l hG17 hr2) (gL_r1 hG17 hr2) ?_
        refine vv_iload 46 6 dX9_improves_46 rfl ?_
        obtain ⟨k23, h⟩ := sh_chk h
        refine vv_iald 48 dX9_improves_48 (gA_l hG17 (gLA1 hr2)) k23 ?_
        refine vv_isub 49 dX9_improves_49 ?_
        refine v1_callS [_] 50 dX9_improves_50 ck_X9_41 (c_J9_abs_0f7a4 (μ := μ17) hG17) (Nat.le_of_ble_eq_true rfl) ⟨Nat.le_of_ble_eq_true rfl, Nat.le_of_ble_eq_true rfl⟩ rfl (Nat.le_of_ble_eq_true rfl) ?_
        refine vv_iadd 53 dX9_improves_53 ?_
        refine vv_topi (fun x24 ex24 => ?_)
        rw [sh_let_eq ex24] at h
        refine vv_istore (lv' := [(7, _), (6, _), (0, _), (1, _), (2, _), (3, _), (4, _), (5, _)]) 54 7 dX9_improves_54 (by decide) rfl ?_
        refine vv_iload 56 7 dX9_improves_56 rfl ?_
        refine vv_aload_n 58 0 dX9_improves_58 rfl rfl ?_
        refine vv_getR 59 dX9_improves_59 fl_9_9 rfl (g_l_287 hG17) (g_r_287_0 hG17) ?_
        refine vv_iload_n 62 3 dX9_improves_62 rfl rfl ?_
        obtain ⟨k25, h⟩ := sh_chk h
        refine vv_iald 63 dX9_improves_63 (g_l_288 hG17) k25 ?_
        refine vv_icmp_ge 64 78 dX9_improves_64 (by decide) (fun c26 => ?_) (fun c26 => ?_)
        · rw [if_pos c26] at h
          refine vv_iincc (lv' := [(5, _), (7, _), (6, _), (0, _), (1, _), (2, _), (3, _), (4, _)]) 78 5 dX9_improves_78 rfl ik_1 (by decide) rfl ?_
          refine vv_goto 81 6 dX9_improves_81 (by decide) ?_
          refine vv_sub [(0, _), (1, _), (2, _), (3, _), (4, _), (5, _)] (sh_subm [3, 4, 5, 6, 7, 0] rfl) ?_
          exact ih_6 hG17 hr1 hr2 h
        · rw [if_neg c26] at h
          refine vv_aload_n 67 0 dX9_improves_67 rfl rfl ?_
          refine vv_getR 68 dX9_improves_68 fl_9_9 rfl (g_l_287 hG17) (g_r_287_0 hG17) ?_
          refine vv_iload_n 71 3 dX9_improves_71 rfl rfl ?_
          refine vv_iload 72 7 dX9_improves_72 rfl ?_
          obtain ⟨k27, h⟩ := sh_chk h
          refine vn_iast 74 dX9_improves_74 (g_l_288 hG17) k27 (fun μ28 eμ28 => ?_)
          rw [sh_let_eq eμ28] at h
          have hG28 : sh_G μ28 := by rw [eμ28]; exact hG17
          refine vv_iconst 75 dX9_improves_75 ik_1 ?_
          refine vv_istore (lv' := [(4, _), (7, _), (6, _), (0, _), (1, _), (2, _), (3, _), (5, _)]) 76 4 dX9_improves_76 (by decide) rfl ?_
          refine vv_iincc (lv' := [(5, _), (4, _), (7, _), (6, _), (0, _), (1, _), (2, _), (3, _)]) 78 5 dX9_improves_78 rfl ik_1 (by decide) rfl ?_
          refine vv_goto 81 6 dX9_improves_81 (by decide) ?_
          refine vv_sub [(0, _), (1, _), (2, _), (3, _), (4, _), (5, _)] (sh_subm [4, 5, 6, 7, 1, 0] rfl) ?_
          exact ih_6 hG28 hr1 hr2 h
theorem gp_X9_improves {p1 : Nat} {q2 : Nat} {a3 : Int32} {μ μ' : sh_Mem} {v : Int32} (hG : sh_G μ) (hp1 : sh_isP p1) (hq2 : sh_isL q2) (h : f_X9_improves p1 q2 a3 μ = some (v, μ')) : sh_G μ' := by
  have ih_6 := (gpl_X9_improves sh_fuel)
  unfold f_X9_improves at h
  exact ih_6 hG hp1 hq2 h
theorem t_X9_improves {p1 : Nat} {q2 : Nat} {a3 : Int32} {μ μ' : sh_Mem} {v : Int32} (hG : sh_G μ) (hp1 : sh_isP p1) (hq2 : sh_isL q2) (h : f_X9_improves p1 q2 a3 μ = some (v, μ')) : sh_C0 l B D ca 3 M_X9_improves [.ref 287, .ref p1, .ref q2, .int a3] μ (fun v0 μ0 => v0 = some (.int v) ∧ μ0 = μ') := by
  have ih_6 := (tl_X9_improves (l := l) (B := B) (D := D) (ca := ca) sh_fuel)
  unfold f_X9_improves at h
  refine vv_iconst 0 dX9_improves_0 ik_0 ?_
  refine vv_istore (lv' := [(4, _), (0, _), (1, _), (2, _), (3, _)]) 1 4 dX9_improves_1 (by decide) rfl ?_
  refine vv_iconst 3 dX9_improves_3 ik_0 ?_
  refine vv_istore (lv' := [(5, _), (4, _), (0, _), (1, _), (2, _), (3, _)]) 4 5 dX9_improves_4 (by decide) rfl ?_
  refine vv_sub [(0, _), (1, _), (2, _), (3, _), (4, _), (5, _)] (sh_subm [2, 3, 4, 5, 1, 0] rfl) ?_
  exact ih_6 hG hp1 hq2 h
noncomputable def f_X10_gather (q1 : Nat) (a2 : Int32) (g : Nat) (μ : sh_Mem) : Option sh_Mem := (if (sh_r μ 55 0 = some (sh_ref μ 55 0) ∧ ((sh_ref μ 55 0) = 8 ∨ (sh_ref μ 55 0) = 29)) then sh_let (sh_ref μ 55 0) (fun r2 => (if sh_in a2 7 then (if sh_in a2 7 then sh_let ((f_X5_cellAt μ r2 (sh_i μ (q1 + 2) a2.toNatClampNeg) (sh_i μ (q1 + 3) a2.toNatClampNeg)) : Int32) (fun x5 => (if sh_in a2 7 then sh_let (sh_setI μ g (Int32.toNatClampNeg 6) (sh_i μ (q1 + 4) a2.toNatClampNeg)) (fun μ7 => (if x5 = (-1) then sh_let (sh_setI μ7 g (Int32.toNatClampNeg 14) 0) (fun μ17 => (if sh_in a2 7 then sh_bind (f_J6_bitCount_0f7a4 (sh_i μ17 (q1 + 5) a2.toNatClampNeg) μ17) (fun y21 μ19 => sh_let (sh_setI μ19 g (Int32.toNatClampNeg 15) y21) (fun μ22 => sh_let (sh_setI μ22 g (Int32.toNatClampNeg 16) (sh_i μ22 q1 0)) (fun μ23 => some μ23))) else none)) else (if sh_in x5 49 then sh_let (sh_setI μ7 g (Int32.toNatClampNeg 14) (sh_i μ7 (q1 + 1) x5.toNatClampNeg)) (fun μ10 => (if sh_in a2 7 then sh_bind (f_J6_bitCount_0f7a4 (sh_i μ10 (q1 + 5) a2.toNatClampNeg) μ10) (fun y14 μ12 => sh_let (sh_setI μ12 g (Int32.toNatClampNeg 15) y14) (fun μ15 => sh_let (sh_setI μ15 g (Int32.toNatClampNeg 16) (sh_i μ15 q1 0)) (fun μ16 => some μ16))) else none)) else none))) else none)) else none) else none)) else none)
theorem gp_X10_gather {q1 : Nat} {a2 : Int32} {g : Nat} {μ μ' : sh_Mem} (hG : sh_G μ) (hq1 : sh_isL q1) (hg : sh_LAY[g]? = some (13, 38)) (h : f_X10_gather q1 a2 g μ = some μ') : sh_G μ' := by
  unfold f_X10_gather at h
  obtain ⟨k1, h⟩ := sh_chk h
  obtain ⟨r2, er2⟩ : ∃ y : Nat, y = (sh_ref μ 55 0) := ⟨_, rfl⟩
  rw [sh_let_eq er2] at h
  have k1r : sh_r μ 55 0 = some r2 ∧ (r2 = 8 ∨ r2 = 29) := by rw [er2]; exact k1
  obtain ⟨k3, h⟩ := sh_chk h
  obtain ⟨k4, h⟩ := sh_chk h
  obtain ⟨x5, ex5⟩ : ∃ y : Int32, y = (f_X5_cellAt μ r2 (sh_i μ (q1 + 2) a2.toNatClampNeg) (sh_i μ (q1 + 3) a2.toNatClampNeg)) := ⟨_, rfl⟩
  rw [sh_let_eq ex5] at h
  obtain ⟨k6, h⟩ := sh_chk h
  obtain ⟨μ7, eμ7⟩ : ∃ y : sh_Mem, y = (sh_setI μ g (Int32.toNatClampNeg 6) (sh_i μ (q1 + 4) a2.toNatClampNeg)) := ⟨_, rfl⟩
  rw [sh_let_eq eμ7] at h
  have hG7 : sh_G μ7 := by rw [eμ7]; exact hG
  by_cases c8 : x5 = (-1)
  · rw [if_pos c8] at h
    obtain ⟨μ17, eμ17⟩ : ∃ y : sh_Mem, y = (sh_setI μ7 g (Int32.toNatClampNeg 14) 0) := ⟨_, rfl⟩
    rw [sh_let_eq eμ17] at h
    have hG17 : sh_G μ17 := by rw [eμ17]; exact hG7
    obtain ⟨k18, h⟩ := sh_chk h
    obtain ⟨y21, μ19, hr20, h⟩ := sh_bind_e h
    have hG19 := gp_J6_bitCount_0f7a4 hG17 hr20
    obtain ⟨μ22, eμ22⟩ : ∃ y : sh_Mem, y = (sh_setI μ19 g (Int32.toNatClampNeg 15) y21) := ⟨_, rfl⟩
    rw [sh_let_eq eμ22] at h
    have hG22 : sh_G μ22 := by rw [eμ22]; exact hG19
    obtain ⟨μ23, eμ23⟩ : ∃ y : sh_Mem, y = (sh_setI μ22 g (Int32.toNatClampNeg 16) (sh_i μ22 q1 0)) := ⟨_, rfl⟩
    rw [sh_let_eq eμ23] at h
    have hG23 : sh_G μ23 := by rw [eμ23]; exact hG22
    have e2 := Option.some.inj h
    exact e2 ▸ hG23
  · rw [if_neg c8] at h
    obtain ⟨k9, h⟩ := sh_chk h
    obtain ⟨μ10, eμ10⟩ : ∃ y : sh_Mem, y = (sh_setI μ7 g (Int32.toNatClampNeg 14) (sh_i μ7 (q1 + 1) x5.toNatClampNeg)) := ⟨_, rfl⟩
    rw [sh_let_eq eμ10] at h
    have hG10 : sh_G μ10 := by rw [eμ10]; exact hG7
    obtain ⟨k11, h⟩ := sh_chk h
    obtain ⟨y14, μ12, hr13, h⟩ := sh_bind_e h
    have hG12 := gp_J6_bitCount_0f7a4 hG10 hr13
    obtain ⟨μ15, eμ15⟩ : ∃ y : sh_Mem, y = (sh_setI μ12 g (Int32.toNatClampNeg 15) y14) := ⟨_, rfl⟩
    rw [sh_let_eq eμ15] at h
    have hG15 : sh_G μ15 := by rw [eμ15]; exact hG12
    obtain ⟨μ16, eμ16⟩ : ∃ y : sh_Mem, y = (sh_setI μ15 g (Int32.toNatClampNeg 16) (sh_i μ15 q1 0)) := ⟨_, rfl⟩
    rw [sh_let_eq eμ16] at h
    have hG16 : sh_G μ16 := by rw [eμ16]; exact hG15
    have e2 := Option.some.inj h
    exact e2 ▸ hG16
theorem t_X10_gather {q1 : Nat} {a2 : Int32} {g : Nat} {μ μ' : sh_Mem} (hG : sh_G μ) (hq1 : sh_isL q1) (hg : sh_LAY[g]? = some (13, 38)) (h : f_X10_gather q1 a2 g μ = some μ') : sh_C0 l B D ca 2 M_X10_gather [.ref 55, .ref q1, .int a2, .ref g] μ (fun v0 μ0 => v0 = none ∧ μ0 = μ') := by
  unfold f_X10_gather at h
  refine vv_aload_n 0 0 dX10_gather_0 rfl rfl ?_
  obtain ⟨k1, h⟩ := sh_chk h
  refine vv_getR 1 dX10_gather_1 fl_10_22 rfl (g_l_55 hG) k1.1 ?_
  refine vv_topr (fun r2 er2 => ?_)
  rw [sh_let_eq er2] at h
  have k1r : sh_r μ 55 0 = some r2 ∧ (r2 = 8 ∨ r2 = 29) := by rw [er2]; exact k1
  refine vv_aload_n 4 1 dX10_gather_4 rfl rfl ?_
  refine vv_getR 5 dX10_gather_5 fl_10_26 rfl (gL_l hG hq1) (gL_r2 hG hq1) ?_
  refine vv_iload_n 8 2 dX10_gather_8 rfl rfl ?_
  obtain ⟨k3, h⟩ := sh_chk h
  refine vv_iald 9 dX10_gather_9 (gA_l hG (gLA2 hq1)) k3 ?_
  refine vv_aload_n 10 1 dX10_gather_10 rfl rfl ?_
  refine vv_getR 11 dX10_gather_11 fl_10_29 rfl (gL_l hG hq1) (gL_r3 hG hq1) ?_
  refine vv_iload_n 14 2 dX10_gather_14 rfl rfl ?_
  obtain ⟨k4, h⟩ := sh_chk h
  refine vv_iald 15 dX10_gather_15 (gA_l hG (gLA3 hq1)) k4 ?_
  refine v1_callV [_, _] 16 dX10_gather_16 ck_X10_32 (gP_l hG k1r.2) ⟨by decide, rfl⟩ (c_X5_cellAt (μ := μ) hG k1r.2) (Nat.le_of_ble_eq_true rfl) ⟨Nat.le_of_ble_eq_true rfl, Nat.le_of_ble_eq_true rfl⟩ rfl (Nat.le_of_ble_eq_true rfl) ?_
  refine vv_topi (fun x5 ex5 => ?_)
  rw [sh_let_eq ex5] at h
  refine vv_istore (lv' := [(4, _), (0, _), (1, _), (2, _), (3, _)]) 19 4 dX10_gather_19 (by decide) rfl ?_
  refine vv_aload_n 21 3 dX10_gather_21 rfl rfl ?_
  refine vv_bipush 22 dX10_gather_22 bk_6 ?_
  refine vv_aload_n 24 1 dX10_gather_24 rfl rfl ?_
  refine vv_getR 25 dX10_gather_25 fl_10_38 rfl (gL_l hG hq1) (gL_r4 hG hq1) ?_
  refine vv_iload_n 28 2 dX10_gather_28 rfl rfl ?_
  obtain ⟨k6, h⟩ := sh_chk h
  refine vv_iald 29 dX10_gather_29 (gA_l hG (gLA4 hq1)) k6 ?_
  refine vn_iast 30 dX10_gather_30 (gA_l hG hg) (by unfold vp_in; decide) (fun μ7 eμ7 => ?_)
  rw [sh_let_eq eμ7] at h
  have hG7 : sh_G μ7 := by rw [eμ7]; exact hG
  refine vv_aload_n 31 3 dX10_gather_31 rfl rfl ?_
  refine vv_bipush 32 dX10_gather_32 bk_14 ?_
  refine vv_iload 34 4 dX10_gather_34 rfl ?_
  refine vv_iconst 36 dX10_gather_36 ik_m1 ?_
  refine vv_icmp_ne 37 44 dX10_gather_37 (by decide) (fun c8 => ?_) (fun c8 => ?_)
  · rw [if_neg c8] at h
    refine vv_aload_n 44 1 dX10_gather_44 rfl rfl ?_
    refine vv_getR 45 dX10_gather_45 fl_10_41 rfl (gL_l hG7 hq1) (gL_r1 hG7 hq1) ?_
    refine vv_iload 48 4 dX10_gather_48 rfl ?_
    obtain ⟨k9, h⟩ := sh_chk h
    refine vv_iald 50 dX10_gather_50 (gA_l hG7 (gLA1 hq1)) k9 ?_
    refine vn_iast 51 dX10_gather_51 (gA_l hG7 hg) (by unfold vp_in; decide) (fun μ10 eμ10 => ?_)
    rw [sh_let_eq eμ10] at h
    have hG10 : sh_G μ10 := by rw [eμ10]; exact hG7
    refine vv_aload_n 52 3 dX10_gather_52 rfl rfl ?_
    refine vv_bipush 53 dX10_gather_53 bk_15 ?_
    refine vv_aload_n 55 1 dX10_gather_55 rfl rfl ?_
    refine vv_getR 56 dX10_gather_56 fl_10_44 rfl (gL_l hG10 hq1) (gL_r5 hG10 hq1) ?_
    refine vv_iload_n 59 2 dX10_gather_59 rfl rfl ?_
    obtain ⟨k11, h⟩ := sh_chk h
    refine vv_iald 60 dX10_gather_60 (gA_l hG10 (gLA5 hq1)) k11 ?_
    obtain ⟨y14, μ12, hr13, h⟩ := sh_bind_e h
    refine v1_callS [_] 61 dX10_gather_61 ck_X10_47 (t_J6_bitCount_0f7a4 hG10 hr13) (Nat.le_of_ble_eq_true rfl) ⟨Nat.le_of_ble_eq_true rfl, Nat.le_of_ble_eq_true rfl⟩ rfl (Nat.le_of_ble_eq_true rfl) ?_
    have hG12 := gp_J6_bitCount_0f7a4 hG10 hr13
    refine vn_iast 64 dX10_gather_64 (gA_l hG12 hg) (by unfold vp_in; decide) (fun μ15 eμ15 => ?_)
    rw [sh_let_eq eμ15] at h
    have hG15 : sh_G μ15 := by rw [eμ15]; exact hG12
    refine vv_aload_n 65 3 dX10_gather_65 rfl rfl ?_
    refine vv_bipush 66 dX10_gather_66 bk_16 ?_
    refine vv_aload_n 68 1 dX10_gather_68 rfl rfl ?_
    refine vv_getI 69 dX10_gather_69 fl_10_53 rfl (gL_l hG15 hq1) ?_
    refine vn_iast 72 dX10_gather_72 (gA_l hG15 hg) (by unfold vp_in; decide) (fun μ16 eμ16 => ?_)
    rw [sh_let_eq eμ16] at h
    have hG16 : sh_G μ16 := by rw [eμ16]; exact hG15
    have e2 := Option.some.inj h
    refine vv_vret 73 dX10_gather_73 rfl (Nat.le_refl _) (Nat.le_refl _) ⟨rfl, e2⟩
  · rw [if_pos c8] at h
    refine vv_iconst 40 dX10_gather_40 ik_0 ?_
    refine vv_goto 41 51 dX10_gather_41 (by decide) ?_
    refine vn_iast 51 dX10_gather_51 (gA_l hG7 hg) (by unfold vp_in; decide) (fun μ17 eμ17 => ?_)
    rw [sh_let_eq eμ17] at h
    have hG17 : sh_G μ17 := by rw [eμ17]; exact hG7
    refine vv_aload_n 52 3 dX10_gather_52 rfl rfl ?_
    refine vv_bipush 53 dX10_gather_53 bk_15 ?_
    refine vv_aload_n 55 1 dX10_gather_55 rfl rfl ?_
    refine vv_getR 56 dX10_gather_56 fl_10_44 rfl (gL_l hG17 hq1) (gL_r5 hG17 hq1) ?_
    refine vv_iload_n 59 2 dX10_gather_59 rfl rfl ?_
    obtain ⟨k18, h⟩ := sh_chk h
    refine vv_iald 60 dX10_gather_60 (gA_l hG17 (gLA5 hq1)) k18 ?_
    obtain ⟨y21, μ19, hr20, h⟩ := sh_bind_e h
    refine v1_callS [_] 61 dX10_gather_61 ck_X10_47 (t_J6_bitCount_0f7a4 hG17 hr20) (Nat.le_of_ble_eq_true rfl) ⟨Nat.le_of_ble_eq_true rfl, Nat.le_of_ble_eq_true rfl⟩ rfl (Nat.le_of_ble_eq_true rfl) ?_
    have hG19 := gp_J6_bitCount_0f7a4 hG17 hr20
    refine vn_iast 64 dX10_gather_64 (gA_l hG19 hg) (by unfold vp_in; decide) (fun μ22 eμ22 => ?_)
    rw [sh_let_eq eμ22] at h
    have hG22 : sh_G μ22 := by rw [eμ22]; exact hG19
    refine vv_aload_n 65 3 dX10_gather_65 rfl rfl ?_
    refine vv_bipush 66 dX10_gather_66 bk_16 ?_
    refine vv_aload_n 68 1 dX10_gather_68 rfl rfl ?_
    refine vv_getI 69 dX10_gather_69 fl_10_53 rfl (gL_l hG22 hq1) ?_
    refine vn_iast 72 dX10_gather_72 (gA_l hG22 hg) (by unfold vp_in; decide) (fun μ23 eμ23 => ?_)
    rw [sh_let_eq eμ23] at h
    have hG23 : sh_G μ23 := by rw [eμ23]; exact hG22
    have e2 := Option.some.inj h
    refine vv_vret 73 dX10_gather_73 rfl (Nat.le_refl _) (Nat.le_refl _) ⟨rfl, e2⟩
noncomputable def F_X10_lookAround : Nat → Nat → Nat → Int32 → Int32 → sh_Mem → Option sh_Mem
  | 0, _, _, _, _, _ => none
  | fuel + 1, lbl, r1, i2, i3, μ => match lbl with
    | 1 => (if (sh_r μ 55 0 = some (sh_ref μ 55 0) ∧ ((sh_ref μ 55 0) = 8 ∨ (sh_ref μ 55 0) = 29)) then sh_let (sh_ref μ 55 0) (fun r27 => (if (f_X5_cells μ r27) ≤ i3 then some μ else (if (f_X10_isElsewhere μ i3) = 0 then F_X10_lookAround fuel 1 r1 i2 (i3 + 1) μ else (if sh_in i3 49 then (if (sh_i μ (r1 + 1) i3.toNatClampNeg) ≤ (sh_i μ 55 7) then F_X10_lookAround fuel 1 r1 i2 (i3 + 1) μ else (if sh_in i3 49 then sh_let (sh_setI μ 55 7 (sh_i μ (r1 + 1) i3.toNatClampNeg)) (fun μ33 => F_X10_lookAround fuel 1 r1 i2 (i3 + 1) μ33) else none)) else none)))) else none)
    | _ => none
noncomputable def f_X10_lookAround (q1 : Nat) (a2 : Int32) (μ : sh_Mem) : Option sh_Mem := (if (sh_r μ 55 0 = some (sh_ref μ 55 0) ∧ ((sh_ref μ 55 0) = 8 ∨ (sh_ref μ 55 0) = 29)) then sh_let (sh_ref μ 55 0) (fun r35 => (if sh_in a2 7 then (if sh_in a2 7 then sh_let (sh_setI μ 55 4 (f_X5_cellAt μ r35 (sh_i μ (q1 + 2) a2.toNatClampNeg) (sh_i μ (q1 + 3) a2.toNatClampNeg))) (fun μ38 => (if (sh_r μ38 55 0 = some (sh_ref μ38 55 0) ∧ ((sh_ref μ38 55 0) = 8 ∨ (sh_ref μ38 55 0) = 29)) then sh_let (sh_ref μ38 55 0) (fun r40 => (if sh_in a2 7 then (if sh_in a2 7 then sh_let (sh_setI μ38 55 5 (f_X5_cellAt μ38 r40 ((sh_i μ38 (q1 + 2) a2.toNatClampNeg) - 1) (sh_i μ38 (q1 + 3) a2.toNatClampNeg))) (fun μ43 => (if (sh_r μ43 55 0 = some (sh_ref μ43 55 0) ∧ ((sh_ref μ43 55 0) = 8 ∨ (sh_ref μ43 55 0) = 29)) then sh_let (sh_ref μ43 55 0) (fun r45 => (if sh_in a2 7 then (if sh_in a2 7 then sh_let (sh_setI μ43 55 6 (f_X5_cellAt μ43 r45 ((sh_i μ43 (q1 + 2) a2.toNatClampNeg) + 1) (sh_i μ43 (q1 + 3) a2.toNatClampNeg))) (fun μ48 => sh_let (sh_setI μ48 55 7 0) (fun μ49 => sh_let (sh_setI μ49 55 8 0) (fun μ50 => F_X10_lookAround sh_fuel 1 q1 a2 0 μ50))) else none) else none)) else none)) else none) else none)) else none)) else none) else none)) else none)
theorem gpl_X10_lookAround (fuel : Nat) : (∀ ⦃r1 : Nat⦄ ⦃i2 : Int32⦄ ⦃i3 : Int32⦄ ⦃μ μ' : sh_Mem⦄, sh_G μ → sh_isL r1 → F_X10_lookAround fuel 1 r1 i2 i3 μ = some μ' → sh_G μ') := by
  induction fuel with
  | zero => intro r1 i2 i3 μ μ' hG hr1 h; cases h
  | succ fuel ih =>
    have ih_85 := ih
    intro r1 i2 i3 μ μ' hG hr1 h
    replace h : ((if (sh_r μ 55 0 = some (sh_ref μ 55 0) ∧ ((sh_ref μ 55 0) = 8 ∨ (sh_ref μ 55 0) = 29)) then sh_let (sh_ref μ 55 0) (fun r27 => (if (f_X5_cells μ r27) ≤ i3 then some μ else (if (f_X10_isElsewhere μ i3) = 0 then F_X10_lookAround fuel 1 r1 i2 (i3 + 1) μ else (if sh_in i3 49 then (if (sh_i μ (r1 + 1) i3.toNatClampNeg) ≤ (sh_i μ 55 7) then F_X10_lookAround fuel 1 r1 i2 (i3 + 1) μ else (if sh_in i3 49 then sh_let (sh_setI μ 55 7 (sh_i μ (r1 + 1) i3.toNatClampNeg)) (fun μ33 => F_X10_lookAround fuel 1 r1 i2 (i3 + 1) μ33) else none)) else none)))) else none) : Option sh_Mem) = some μ' := h
    obtain ⟨k26, h⟩ := sh_chk h
    obtain ⟨r27, er27⟩ : ∃ y : Nat, y = (sh_ref μ 55 0) := ⟨_, rfl⟩
    rw [sh_let_eq er27] at h
    have k26r : sh_r μ 55 0 = some r27 ∧ (r27 = 8 ∨ r27 = 29) := by rw [er27]; exact k26
    by_cases c28 : (f_X5_cells μ r27) ≤ i3
    · rw [if_pos c28] at h
      have e2 := Option.some.inj h
      exact e2 ▸ hG
    · rw [if_neg c28] at h
      by_cases c29 : (f_X10_isElsewhere μ i3) = 0
      · rw [if_pos c29] at h
        exact ih_85 hG hr1 h
      · rw [if_neg c29] at h
        obtain ⟨k30, h⟩ := sh_chk h
        by_cases c31 : (sh_i μ (r1 + 1) i3.toNatClampNeg) ≤ (sh_i μ 55 7)
        · rw [if_pos c31] at h
          exact ih_85 hG hr1 h
        · rw [if_neg c31] at h
          obtain ⟨k32, h⟩ := sh_chk h
          obtain ⟨μ33, eμ33⟩ : ∃ y : sh_Mem, y = (sh_setI μ 55 7 (sh_i μ (r1 + 1) i3.toNatClampNeg)) := ⟨_, rfl⟩
          rw [sh_let_eq eμ33] at h
          have hG33 : sh_G μ33 := by rw [eμ33]; exact hG
          exact ih_85 hG33 hr1 h
theorem tl_X10_lookAround (fuel : Nat) : (∀ ⦃r1 : Nat⦄ ⦃i2 : Int32⦄ ⦃i3 : Int32⦄ ⦃μ μ' : sh_Mem⦄, sh_G μ → sh_isL r1 → F_X10_lookAround fuel 1 r1 i2 i3 μ = some μ' → sh_V0 l B D ca 2 M_X10_lookAround 85 [(0, .ref 55), (1, .ref r1), (2, .int i2), (3, .int i3)] [] μ (fun v0 μ0 => v0 = none ∧ μ0 = μ')) := by
  induction fuel with
  | zero => intro r1 i2 i3 μ μ' hG hr1 h; cases h
  | succ fuel ih =>
    have ih_85 := ih
    intro r1 i2 i3 μ μ' hG hr1 h
    replace h : ((if (sh_r μ 55 0 = some (sh_ref μ 55 0) ∧ ((sh_ref μ 55 0) = 8 ∨ (sh_ref μ 55 0) = 29)) then sh_let (sh_ref μ 55 0) (fun r27 => (if (f_X5_cells μ r27) ≤ i3 then some μ else (if (f_X10_isElsewhere μ i3) = 0 then F_X10_lookAround fuel 1 r1 i2 (i3 + 1) μ else (if sh_in i3 49 then (if (sh_i μ (r1 + 1) i3.toNatClampNeg) ≤ (sh_i μ 55 7) then F_X10_lookAround fuel 1 r1 i2 (i3 + 1) μ else (if sh_in i3 49 then sh_let (sh_setI μ 55 7 (sh_i μ (r1 + 1) i3.toNatClampNeg)) (fun μ33 => F_X10_lookAround fuel 1 r1 i2 (i3 + 1) μ33) else none)) else none)))) else none) : Option sh_Mem) = some μ' := h
    refine vv_iload_n 85 3 dX10_lookAround_85 rfl rfl ?_
    refine vv_aload_n 86 0 dX10_lookAround_86 rfl rfl ?_
    obtain ⟨k26, h⟩ := sh_chk h
    refine vv_getR 87 dX10_lookAround_87 fl_10_22 rfl (g_l_55 hG) k26.1 ?_
    refine vv_topr (fun r27 er27 => ?_)
    rw [sh_let_eq er27] at h
    have k26r : sh_r μ 55 0 = some r27 ∧ (r27 = 8 ∨ r27 = 29) := by rw [er27]; exact k26
    refine v1_callV [] 90 dX10_lookAround_90 ck_X10_117 (gP_l hG k26r.2) ⟨by decide, rfl⟩ (c_X5_cells (μ := μ) hG k26r.2) (Nat.le_of_ble_eq_true rfl) ⟨Nat.le_of_ble_eq_true rfl, Nat.le_of_ble_eq_true rfl⟩ rfl (Nat.le_of_ble_eq_true rfl) ?_
    refine vv_icmp_ge 93 133 dX10_lookAround_93 (by decide) (fun c28 => ?_) (fun c28 => ?_)
    · rw [if_pos c28] at h
      have e2 := Option.some.inj h
      refine vv_vret 133 dX10_lookAround_133 rfl (Nat.le_refl _) (Nat.le_refl _) ⟨rfl, e2⟩
    · rw [if_neg c28] at h
      refine vv_aload_n 96 0 dX10_lookAround_96 rfl rfl ?_
      refine vv_iload_n 97 3 dX10_lookAround_97 rfl rfl ?_
      refine v1_callV [_] 98 dX10_lookAround_98 ck_X10_121 (g_l_55 hG) ⟨by decide, rfl⟩ (c_X10_isElsewhere (μ := μ) hG) (Nat.le_of_ble_eq_true rfl) ⟨Nat.le_of_ble_eq_true rfl, Nat.le_of_ble_eq_true rfl⟩ rfl (Nat.le_of_ble_eq_true rfl) ?_
      refine vv_if_eq 101 127 dX10_lookAround_101 (by decide) (fun c29 => ?_) (fun c29 => ?_)
      · rw [if_pos c29] at h
        refine vv_iincc (lv' := [(3, _), (0, _), (1, _), (2, _)]) 127 3 dX10_lookAround_127 rfl ik_1 (by decide) rfl ?_
        refine vv_goto 130 85 dX10_lookAround_130 (by decide) ?_
        refine vv_sub [(0, _), (1, _), (2, _), (3, _)] (sh_subm [1, 2, 3, 0] rfl) ?_
        exact ih_85 hG hr1 h
      · rw [if_neg c29] at h
        refine vv_aload_n 104 1 dX10_lookAround_104 rfl rfl ?_
        refine vv_getR 105 dX10_lookAround_105 fl_10_41 rfl (gL_l hG hr1) (gL_r1 hG hr1) ?_
        refine vv_iload_n 108 3 dX10_lookAround_108 rfl rfl ?_
        obtain ⟨k30, h⟩ := sh_chk h
        refine vv_iald 109 dX10_lookAround_109 (gA_l hG (gLA1 hr1)) k30 ?_
        refine vv_aload_n 110 0 dX10_lookAround_110 rfl rfl ?_
        refine vv_getI 111 dX10_lookAround_111 fl_10_111 rfl (g_l_55 hG) ?_
        refine vv_icmp_le 114 127 dX10_lookAround_114 (by decide) (fun c31 => ?_) (fun c31 => ?_)
        · rw [if_pos c31] at h
          refine vv_iincc (lv' := [(3, _), (0, _), (1, _), (2, _)]) 127 3 dX10_lookAround_127 rfl ik_1 (by decide) rfl ?_
          refine vv_goto 130 85 dX10_lookAround_130 (by decide) ?_
          refine vv_sub [(0, _), (1, _), (2, _), (3, _)] (sh_subm [1, 2, 3, 0] rfl) ?_
          exact ih_85 hG hr1 h
        · rw [if_neg c31] at h
          refine vv_aload_n 117 0 dX10_lookAround_117 rfl rfl ?_
          refine vv_aload_n 118 1 dX10_lookAround_118 rfl rfl ?_
          refine vv_getR 119 dX10_lookAround_119 fl_10_41 rfl (gL_l hG hr1) (gL_r1 hG hr1) ?_
          refine vv_iload_n 122 3 dX10_lookAround_122 rfl rfl ?_
          obtain ⟨k32, h⟩ := sh_chk h
          refine vv_iald 123 dX10_lookAround_123 (gA_l hG (gLA1 hr1)) k32 ?_
          refine vn_putI 124 dX10_lookAround_124 fl_10_111 (Or.inl rfl) rfl (g_l_55 hG) (fun μ33 eμ33 => ?_)
          rw [sh_let_eq eμ33] at h
          have hG33 : sh_G μ33 := by rw [eμ33]; exact hG
          refine vv_iincc (lv' := [(3, _), (0, _), (1, _), (2, _)]) 127 3 dX10_lookAround_127 rfl ik_1 (by decide) rfl ?_
          refine vv_goto 130 85 dX10_lookAround_130 (by decide) ?_
          refine vv_sub [(0, _), (1, _), (2, _), (3, _)] (sh_subm [1, 2, 3, 0] rfl) ?_
          exact ih_85 hG33 hr1 h
theorem gp_X10_lookAround {q1 : Nat} {a2 : Int32} {μ μ' : sh_Mem} (hG : sh_G μ) (hq1 : sh_isL q1) (h : f_X10_lookAround q1 a2 μ = some μ') : sh_G μ' := by
  have ih_85 := (gpl_X10_lookAround sh_fuel)
  unfold f_X10_lookAround at h
  obtain ⟨k34, h⟩ := sh_chk h
  obtain ⟨r35, er35⟩ : ∃ y : Nat, y = (sh_ref μ 55 0) := ⟨_, rfl⟩
  rw [sh_let_eq er35] at h
  have k34r : sh_r μ 55 0 = some r35 ∧ (r35 = 8 ∨ r35 = 29) := by rw [er35]; exact k34
  obtain ⟨k36, h⟩ := sh_chk h
  obtain ⟨k37, h⟩ := sh_chk h
  obtain ⟨μ38, eμ38⟩ : ∃ y : sh_Mem, y = (sh_setI μ 55 4 (f_X5_cellAt μ r35 (sh_i μ (q1 + 2) a2.toNatClampNeg) (sh_i μ (q1 + 3) a2.toNatClampNeg))) := ⟨_, rfl⟩
  rw [sh_let_eq eμ38] at h
  have hG38 : sh_G μ38 := by rw [eμ38]; exact hG
  obtain ⟨k39, h⟩ := sh_chk h
  obtain ⟨r40, er40⟩ : ∃ y : Nat, y = (sh_ref μ38 55 0) := ⟨_, rfl⟩
  rw [sh_let_eq er40] at h
  have k39r : sh_r μ38 55 0 = some r40 ∧ (r40 = 8 ∨ r40 = 29) := by rw [er40]; exact k39
  obtain ⟨k41, h⟩ := sh_chk h
  obtain ⟨k42, h⟩ := sh_chk h
  obtain ⟨μ43, eμ43⟩ : ∃ y : sh_Mem, y = (sh_setI μ38 55 5 (f_X5_cellAt μ38 r40 ((sh_i μ38 (q1 + 2) a2.toNatClampNeg) - 1) (sh_i μ38 (q1 + 3) a2.toNatClampNeg))) := ⟨_, rfl⟩
  rw [sh_let_eq eμ43] at h
  have hG43 : sh_G μ43 := by rw [eμ43]; exact hG38
  obtain ⟨k44, h⟩ := sh_chk h
  obtain ⟨r45, er45⟩ : ∃ y : Nat, y = (sh_ref μ43 55 0) := ⟨_, rfl⟩
  rw [sh_let_eq er45] at h
  have k44r : sh_r μ43 55 0 = some r45 ∧ (r45 = 8 ∨ r45 = 29) := by rw [er45]; exact k44
  obtain ⟨k46, h⟩ := sh_chk h
  obtain ⟨k47, h⟩ := sh_chk h
  obtain ⟨μ48, eμ48⟩ : ∃ y : sh_Mem, y = (sh_setI μ43 55 6 (f_X5_cellAt μ43 r45 ((sh_i μ43 (q1 + 2) a2.toNatClampNeg) + 1) (sh_i μ43 (q1 + 3) a2.toNatClampNeg))) := ⟨_, rfl⟩
  rw [sh_let_eq eμ48] at h
  have hG48 : sh_G μ48 := by rw [eμ48]; exact hG43
  obtain ⟨μ49, eμ49⟩ : ∃ y : sh_Mem, y = (sh_setI μ48 55 7 0) := ⟨_, rfl⟩
  rw [sh_let_eq eμ49] at h
  have hG49 : sh_G μ49 := by rw [eμ49]; exact hG48
  obtain ⟨μ50, eμ50⟩ : ∃ y : sh_Mem, y = (sh_setI μ49 55 8 0) := ⟨_, rfl⟩
  rw [sh_let_eq eμ50] at h
  have hG50 : sh_G μ50 := by rw [eμ50]; exact hG49
  exact ih_85 hG50 hq1 h
theorem t_X10_lookAround {q1 : Nat} {a2 : Int32} {μ μ' : sh_Mem} (hG : sh_G μ) (hq1 : sh_isL q1) (h : f_X10_lookAround q1 a2 μ = some μ') : sh_C0 l B D ca 2 M_X10_lookAround [.ref 55, .ref q1, .int a2] μ (fun v0 μ0 => v0 = none ∧ μ0 = μ') := by
  have ih_85 := (tl_X10_lookAround (l := l) (B := B) (D := D) (ca := ca) sh_fuel)
  unfold f_X10_lookAround at h
  refine vv_aload_n 0 0 dX10_lookAround_0 rfl rfl ?_
  refine vv_aload_n 1 0 dX10_lookAround_1 rfl rfl ?_
  obtain ⟨k34, h⟩ := sh_chk h
  refine vv_getR 2 dX10_lookAround_2 fl_10_22 rfl (g_l_55 hG) k34.1 ?_
  refine vv_topr (fun r35 er35 => ?_)
  rw [sh_let_eq er35] at h
  have k34r : sh_r μ 55 0 = some r35 ∧ (r35 = 8 ∨ r35 = 29) := by rw [er35]; exact k34
  refine vv_aload_n 5 1 dX10_lookAround_5 rfl rfl ?_
  refine vv_getR 6 dX10_lookAround_6 fl_10_26 rfl (gL_l hG hq1) (gL_r2 hG hq1) ?_
  refine vv_iload_n 9 2 dX10_lookAround_9 rfl rfl ?_
  obtain ⟨k36, h⟩ := sh_chk h
  refine vv_iald 10 dX10_lookAround_10 (gA_l hG (gLA2 hq1)) k36 ?_
  refine vv_aload_n 11 1 dX10_lookAround_11 rfl rfl ?_
  refine vv_getR 12 dX10_lookAround_12 fl_10_29 rfl (gL_l hG hq1) (gL_r3 hG hq1) ?_
  refine vv_iload_n 15 2 dX10_lookAround_15 rfl rfl ?_
  obtain ⟨k37, h⟩ := sh_chk h
  refine vv_iald 16 dX10_lookAround_16 (gA_l hG (gLA3 hq1)) k37 ?_
  refine v1_callV [_, _] 17 dX10_lookAround_17 ck_X10_32 (gP_l hG k34r.2) ⟨by decide, rfl⟩ (c_X5_cellAt (μ := μ) hG k34r.2) (Nat.le_of_ble_eq_true rfl) ⟨Nat.le_of_ble_eq_true rfl, Nat.le_of_ble_eq_true rfl⟩ rfl (Nat.le_of_ble_eq_true rfl) ?_
  refine vn_putI 20 dX10_lookAround_20 fl_10_108 (Or.inl rfl) rfl (g_l_55 hG) (fun μ38 eμ38 => ?_)
  rw [sh_let_eq eμ38] at h
  have hG38 : sh_G μ38 := by rw [eμ38]; exact hG
  refine vv_aload_n 23 0 dX10_lookAround_23 rfl rfl ?_
  refine vv_aload_n 24 0 dX10_lookAround_24 rfl rfl ?_
  obtain ⟨k39, h⟩ := sh_chk h
  refine vv_getR 25 dX10_lookAround_25 fl_10_22 rfl (g_l_55 hG38) k39.1 ?_
  refine vv_topr (fun r40 er40 => ?_)
  rw [sh_let_eq er40] at h
  have k39r : sh_r μ38 55 0 = some r40 ∧ (r40 = 8 ∨ r40 = 29) := by rw [er40]; exact k39
  refine vv_aload_n 28 1 dX10_lookAround_28 rfl rfl ?_
  refine vv_getR 29 dX10_lookAround_29 fl_10_26 rfl (gL_l hG38 hq1) (gL_r2 hG38 hq1) ?_
  refine vv_iload_n 32 2 dX10_lookAround_32 rfl rfl ?_
  obtain ⟨k41, h⟩ := sh_chk h
  refine vv_iald 33 dX10_lookAround_33 (gA_l hG38 (gLA2 hq1)) k41 ?_
  refine vv_iconst 34 dX10_lookAround_34 ik_1 ?_
  refine vv_isub 35 dX10_lookAround_35 ?_
  refine vv_aload_n 36 1 dX10_lookAround_36 rfl rfl ?_
  refine vv_getR 37 dX10_lookAround_37 fl_10_29 rfl (gL_l hG38 hq1) (gL_r3 hG38 hq1) ?_
  refine vv_iload_n 40 2 dX10_lookAround_40 rfl rfl ?_
  obtain ⟨k42, h⟩ := sh_chk h
  refine vv_iald 41 dX10_lookAround_41 (gA_l hG38 (gLA3 hq1)) k42 ?_
  refine v1_callV [_, _] 42 dX10_lookAround_42 ck_X10_32 (gP_l hG38 k39r.2) ⟨by decide, rfl⟩ (c_X5_cellAt (μ := μ38) hG38 k39r.2) (Nat.le_of_ble_eq_true rfl) ⟨Nat.le_of_ble_eq_true rfl, Nat.le_of_ble_eq_true rfl⟩ rfl (Nat.le_of_ble_eq_true rfl) ?_
  refine vn_putI 45 dX10_lookAround_45 fl_10_92 (Or.inl rfl) rfl (g_l_55 hG38) (fun μ43 eμ43 => ?_)
  rw [sh_let_eq eμ43] at h
  have hG43 : sh_G μ43 := by rw [eμ43]; exact hG38
  refine vv_aload_n 48 0 dX10_lookAround_48 rfl rfl ?_
  refine vv_aload_n 49 0 dX10_lookAround_49 rfl rfl ?_
  obtain ⟨k44, h⟩ := sh_chk h
  refine vv_getR 50 dX10_lookAround_50 fl_10_22 rfl (g_l_55 hG43) k44.1 ?_
  refine vv_topr (fun r45 er45 => ?_)
  rw [sh_let_eq er45] at h
  have k44r : sh_r μ43 55 0 = some r45 ∧ (r45 = 8 ∨ r45 = 29) := by rw [er45]; exact k44
  refine vv_aload_n 53 1 dX10_lookAround_53 rfl rfl ?_
  refine vv_getR 54 dX10_lookAround_54 fl_10_26 rfl (gL_l hG43 hq1) (gL_r2 hG43 hq1) ?_
  refine vv_iload_n 57 2 dX10_lookAround_57 rfl rfl ?_
  obtain ⟨k46, h⟩ := sh_chk h
  refine vv_iald 58 dX10_lookAround_58 (gA_l hG43 (gLA2 hq1)) k46 ?_
  refine vv_iconst 59 dX10_lookAround_59 ik_1 ?_
  refine vv_iadd 60 dX10_lookAround_60 ?_
  refine vv_aload_n 61 1 dX10_lookAround_61 rfl rfl ?_
  refine vv_getR 62 dX10_lookAround_62 fl_10_29 rfl (gL_l hG43 hq1) (gL_r3 hG43 hq1) ?_
  refine vv_iload_n 65 2 dX10_lookAround_65 rfl rfl ?_
  obtain ⟨k47, h⟩ := sh_chk h
  refine vv_iald 66 dX10_lookAround_66 (gA_l hG43 (gLA3 hq1)) k47 ?_
  refine v1_callV [_, _] 67 dX10_lookAround_67 ck_X10_32 (gP_l hG43 k44r.2) ⟨by decide, rfl⟩ (c_X5_cellAt (μ := μ43) hG43 k44r.2) (Nat.le_of_ble_eq_true rfl) ⟨Nat.le_of_ble_eq_true rfl, Nat.le_of_ble_eq_true rfl⟩ rfl (Nat.le_of_ble_eq_true rfl) ?_
  refine vn_putI 70 dX10_lookAround_70 fl_10_98 (Or.inl rfl) rfl (g_l_55 hG43) (fun μ48 eμ48 => ?_)
  rw [sh_let_eq eμ48] at h
  have hG48 : sh_G μ48 := by rw [eμ48]; exact hG43
  refine vv_aload_n 73 0 dX10_lookAround_73 rfl rfl ?_
  refine vv_iconst 74 dX10_lookAround_74 ik_0 ?_
  refine vn_putI 75 dX10_lookAround_75 fl_10_111 (Or.inl rfl) rfl (g_l_55 hG48) (fun μ49 eμ49 => ?_)
  rw [sh_let_eq eμ49] at h
  have hG49 : sh_G μ49 := by rw [eμ49]; exact hG48
  refine vv_aload_n 78 0 dX10_lookAround_78 rfl rfl ?_
  refine vv_iconst 79 dX10_lookAround_79 ik_0 ?_
  refine vn_putI 80 dX10_lookAround_80 fl_10_114 (Or.inl rfl) rfl (g_l_55 hG49) (fun μ50 eμ50 => ?_)
  rw [sh_let_eq eμ50] at h
  have hG50 : sh_G μ50 := by rw [eμ50]; exact hG49
  refine vv_iconst 83 dX10_lookAround_83 ik_0 ?_
  refine vv_istore_n (lv' := [(3, _), (0, _), (1, _), (2, _)]) 84 3 dX10_lookAround_84 rfl (by decide) rfl ?_
  refine vv_sub [(0, _), (1, _), (2, _), (3, _)] (sh_subm [1, 2, 3, 0] rfl) ?_
  exact ih_85 hG50 hq1 h
noncomputable def f_X11_feed (a1 : Int32) (a2 : Int32) (a3 : Int32) (a4 : Int32) (a5 : Int32) (μ : sh_Mem) : Option (Int32 × sh_Mem) := (if ((sh_i μ 0 1) + 20) ≤ 1600 then sh_bindv (f_X11_append a1 μ) (fun μ2 => sh_bindv (f_X11_append a2 μ2) (fun μ5 => sh_bindv (f_X11_append a3 μ5) (fun μ8 => sh_bindv (f_X11_append a4 μ8) (fun μ11 => sh_bindv (f_X11_append a5 μ11) (fun μ14 => some ((sh_i μ14 0 1), μ14)))))) else sh_bind (f_X11_refuseNumber 0 μ) (fun y19 μ17 => some (y19, μ17)))
theorem gp_X11_feed {a1 : Int32} {a2 : Int32} {a3 : Int32} {a4 : Int32} {a5 : Int32} {μ μ' : sh_Mem} {v : Int32} (hG : sh_G μ) (h : f_X11_feed a1 a2 a3 a4 a5 μ = some (v, μ')) : sh_G μ' := by
  unfold f_X11_feed at h
  by_cases c1 : ((sh_i μ 0 1) + 20) ≤ 1600
  · rw [if_pos c1] at h
    obtain ⟨μ2, hr3, h⟩ := sh_bindv_e h
    have hG2 := gp_X11_append hG hr3
    obtain ⟨μ5, hr6, h⟩ := sh_bindv_e h
    have hG5 := gp_X11_append hG2 hr6
    obtain ⟨μ8, hr9, h⟩ := sh_bindv_e h
    have hG8 := gp_X11_append hG5 hr9
    obtain ⟨μ11, hr12, h⟩ := sh_bindv_e h
    have hG11 := gp_X11_append hG8 hr12
    obtain ⟨μ14, hr15, h⟩ := sh_bindv_e h
    have hG14 := gp_X11_append hG11 hr15
    obtain ⟨e1, e2⟩ := sh_some2 h
    exact e2 ▸ hG14
  · rw [if_neg c1] at h
    obtain ⟨y19, μ17, hr18, h⟩ := sh_bind_e h
    have hG17 := gp_X11_refuseNumber hG hr18
    obtain ⟨e1, e2⟩ := sh_some2 h
    exact e2 ▸ hG17
theorem t_X11_feed {a1 : Int32} {a2 : Int32} {a3 : Int32} {a4 : Int32} {a5 : Int32} {μ μ' : sh_Mem} {v : Int32} (hG : sh_G μ) (h : f_X11_feed a1 a2 a3 a4 a5 μ = some (v, μ')) : sh_C0 l B D ca 2 M_X11_feed [.ref 0, .int a1, .int a2, .int a3, .int a4, .int a5] μ (fun v0 μ0 => v0 = some (.int v) ∧ μ0 = μ') := by
  unfold f_X11_feed at h
  refine vv_aload_n 0 0 dX11_feed_0 rfl rfl ?_
  refine vv_getI 1 dX11_feed_1 fl_11_117 rfl (g_l_0 hG) ?_
  refine vv_bipush 4 dX11_feed_4 bk_20 ?_
  refine vv_iadd 6 dX11_feed_6 ?_
  refine vv_sipush 7 dX11_feed_7 sk_1600 ?_
  refine vv_icmp_le 10 19 dX11_feed_10 (by decide) (fun c1 => ?_) (fun c1 => ?_)
  · rw [if_pos c1] at h
    refine vv_aload_n 19 0 dX11_feed_19 rfl rfl ?_
    refine vv_iload_n 20 1 dX11_feed_20 rfl rfl ?_
    obtain ⟨μ2, hr3, h⟩ := sh_bindv_e h
    refine v1_callV [_] 21 dX11_feed_21 ck_X11_124 (g_l_0 hG) ⟨by decide, rfl⟩ (t_X11_append hG hr3) (Nat.le_of_ble_eq_true rfl) ⟨Nat.le_of_ble_eq_true rfl, Nat.le_of_ble_eq_true rfl⟩ rfl (Nat.le_of_ble_eq_true rfl) ?_
    have hG2 := gp_X11_append hG hr3
    refine vv_aload_n 24 0 dX11_feed_24 rfl rfl ?_
    refine vv_iload_n 25 2 dX11_feed_25 rfl rfl ?_
    obtain ⟨μ5, hr6, h⟩ := sh_bindv_e h
    refine v1_callV [_] 26 dX11_feed_26 ck_X11_124 (g_l_0 hG2) ⟨by decide, rfl⟩ (t_X11_append hG2 hr6) (Nat.le_of_ble_eq_true rfl) ⟨Nat.le_of_ble_eq_true rfl, Nat.le_of_ble_eq_true rfl⟩ rfl (Nat.le_of_ble_eq_true rfl) ?_
    have hG5 := gp_X11_append hG2 hr6
    refine vv_aload_n 29 0 dX11_feed_29 rfl rfl ?_
    refine vv_iload_n 30 3 dX11_feed_30 rfl rfl ?_
    obtain ⟨μ8, hr9, h⟩ := sh_bindv_e h
    refine v1_callV [_] 31 dX11_feed_31 ck_X11_124 (g_l_0 hG5) ⟨by decide, rfl⟩ (t_X11_append hG5 hr9) (Nat.le_of_ble_eq_true rfl) ⟨Nat.le_of_ble_eq_true rfl, Nat.le_of_ble_eq_true rfl⟩ rfl (Nat.le_of_ble_eq_true rfl) ?_
    have hG8 := gp_X11_append hG5 hr9
    refine vv_aload_n 34 0 dX11_feed_34 rfl rfl ?_
    refine vv_iload 35 4 dX11_feed_35 rfl ?_
    obtain ⟨μ11, hr12, h⟩ := sh_bindv_e h
    refine v1_callV [_] 37 dX11_feed_37 ck_X11_124 (g_l_0 hG8) ⟨by decide, rfl⟩ (t_X11_append hG8 hr12) (Nat.le_of_ble_eq_true rfl) ⟨Nat.le_of_ble_eq_true rfl, Nat.le_of_ble_eq_true rfl⟩ rfl (Nat.le_of_ble_eq_true rfl) ?_
    have hG11 := gp_X11_append hG8 hr12
    refine vv_aload_n 40 0 dX11_feed_40 rfl rfl ?_
    refine vv_iload 41 5 dX11_feed_41 rfl ?_
    obtain ⟨μ14, hr15, h⟩ := sh_bindv_e h
    refine v1_callV [_] 43 dX11_feed_43 ck_X11_124 (g_l_0 hG11) ⟨by decide, rfl⟩ (t_X11_append hG11 hr15) (Nat.le_of_ble_eq_true rfl) ⟨Nat.le_of_ble_eq_true rfl, Nat.le_of_ble_eq_true rfl⟩ rfl (Nat.le_of_ble_eq_true rfl) ?_
    have hG14 := gp_X11_append hG11 hr15
    refine vv_aload_n 46 0 dX11_feed_46 rfl rfl ?_
    refine vv_getI 47 dX11_feed_47 fl_11_117 rfl (g_l_0 hG14) ?_
    obtain ⟨e1, e2⟩ := sh_some2 h
    refine vv_iret 50 dX11_feed_50 rfl (Nat.le_refl _) (Nat.le_refl _) ⟨by rw [e1], e2⟩
  · rw [if_neg c1] at h
    refine vv_aload_n 13 0 dX11_feed_13 rfl rfl ?_
    refine vv_iconst 14 dX11_feed_14 ik_0 ?_
    obtain ⟨y19, μ17, hr18, h⟩ := sh_bind_e h
    refine v1_callV [_] 15 dX11_feed_15 ck_X11_120 (g_l_0 hG) ⟨by decide, rfl⟩ (t_X11_refuseNumber hG hr18) (Nat.le_of_ble_eq_true rfl) ⟨Nat.le_of_ble_eq_true rfl, Nat.le_of_ble_eq_true rfl⟩ rfl (Nat.le_of_ble_eq_true rfl) ?_
    have hG17 := gp_X11_refuseNumber hG hr18
    obtain ⟨e1, e2⟩ := sh_some2 h
    refine vv_iret 18 dX11_feed_18 rfl (Nat.le_refl _) (Nat.le_refl _) ⟨by rw [e1], e2⟩
noncomputable def f_X11_end (a1 : Int32) (μ : sh_Mem) : Option (Int32 × sh_Mem) := (if a1 < 0 then sh_bind (f_X11_refuse 0 μ) (fun y4 μ2 => (if y4 = 0 ∨ y4 = 1 then some (y4, μ2) else none)) else (if a1 ≤ (sh_i μ 0 1) then sh_let (sh_setI μ 0 1 a1) (fun μ7 => some (1, μ7)) else sh_bind (f_X11_refuse 0 μ) (fun y10 μ8 => (if y10 = 0 ∨ y10 = 1 then some (y10, μ8) else none))))
theorem gp_X11_end {a1 : Int32} {μ μ' : sh_Mem} {v : Int32} (hG : sh_G μ) (h : f_X11_end a1 μ = some (v, μ')) : sh_G μ' := by
  unfold f_X11_end at h
  by_cases c1 : a1 < 0
  · rw [if_pos c1] at h
    obtain ⟨y4, μ2, hr3, h⟩ := sh_bind_e h
    have hG2 := gp_X11_refuse hG hr3
    obtain ⟨k5, h⟩ := sh_chk h
    obtain ⟨e1, e2⟩ := sh_some2 h
    exact e2 ▸ hG2
  · rw [if_neg c1] at h
    by_cases c6 : a1 ≤ (sh_i μ 0 1)
    · rw [if_pos c6] at h
      obtain ⟨μ7, eμ7⟩ : ∃ y : sh_Mem, y = (sh_setI μ 0 1 a1) := ⟨_, rfl⟩
      rw [sh_let_eq eμ7] at h
      have hG7 : sh_G μ7 := by rw [eμ7]; exact hG
      obtain ⟨e1, e2⟩ := sh_some2 h
      exact e2 ▸ hG7
    · rw [if_neg c6] at h
      obtain ⟨y10, μ8, hr9, h⟩ := sh_bind_e h
      have hG8 := gp_X11_refuse hG hr9
      obtain ⟨k11, h⟩ := sh_chk h
      obtain ⟨e1, e2⟩ := sh_some2 h
      exact e2 ▸ hG8
theorem t_X11_end {a1 : Int32} {μ μ' : sh_Mem} {v : Int32} (hG : sh_G μ) (h : f_X11_end a1 μ = some (v, μ')) : sh_C0 l B D ca 2 M_X11_end [.ref 0, .int a1] μ (fun v0 μ0 => v0 = some (.int v) ∧ μ0 = μ') := by
  unfold f_X11_end at h
  refine vv_iload_n 0 1 dX11_end_0 rfl rfl ?_
  refine vv_if_lt 1 12 dX11_end_1 (by decide) (fun c1 => ?_) (fun c1 => ?_)
  · rw [if_pos c1] at h
    refine vv_aload_n 12 0 dX11_end_12 rfl rfl ?_
    refine vv_iconst 13 dX11_end_13 ik_0 ?_
    obtain ⟨y4, μ2, hr3, h⟩ := sh_bind_e h
    refine v1_callV [_] 14 dX11_end_14 ck_X11_128 (g_l_0 hG) ⟨by decide, rfl⟩ (t_X11_refuse hG hr3) (Nat.le_of_ble_eq_true rfl) ⟨Nat.le_of_ble_eq_true rfl, Nat.le_of_ble_eq_true rfl⟩ rfl (Nat.le_of_ble_eq_true rfl) ?_
    have hG2 := gp_X11_refuse hG hr3
    obtain ⟨k5, h⟩ := sh_chk h
    obtain ⟨e1, e2⟩ := sh_some2 h
    refine vv_zret 17 dX11_end_17 rfl (sh_nb k5) (Nat.le_refl _) (Nat.le_refl _) ⟨by rw [e1], e2⟩
  · rw [if_neg c1] at h
    refine vv_iload_n 4 1 dX11_end_4 rfl rfl ?_
    refine vv_aload_n 5 0 dX11_end_5 rfl rfl ?_
    refine vv_getI 6 dX11_end_6 fl_11_117 rfl (g_l_0 hG) ?_
    refine vv_icmp_le 9 18 dX11_end_9 (by decide) (fun c6 => ?_) (fun c6 => ?_)
    · rw [if_pos c6] at h
      refine vv_aload_n 18 0 dX11_end_18 rfl rfl ?_
      refine vv_iload_n 19 1 dX11_end_19 rfl rfl ?_
      refine vn_putI 20 dX11_end_20 fl_11_117 (Or.inl rfl) rfl (g_l_0 hG) (fun μ7 eμ7 => ?_)
      rw [sh_let_eq eμ7] at h
      have hG7 : sh_G μ7 := by rw [eμ7]; exact hG
      refine vv_iconst 23 dX11_end_23 ik_1 ?_
      obtain ⟨e1, e2⟩ := sh_some2 h
      refine vv_zret 24 dX11_end_24 rfl rfl (Nat.le_refl _) (Nat.le_refl _) ⟨by rw [e1], e2⟩
    · rw [if_neg c6] at h
      refine vv_aload_n 12 0 dX11_end_12 rfl rfl ?_
      refine vv_iconst 13 dX11_end_13 ik_0 ?_
      obtain ⟨y10, μ8, hr9, h⟩ := sh_bind_e h
      refine v1_callV [_] 14 dX11_end_14 ck_X11_128 (g_l_0 hG) ⟨by decide, rfl⟩ (t_X11_refuse hG hr9) (Nat.le_of_ble_eq_true rfl) ⟨Nat.le_of_ble_eq_true rfl, Nat.le_of_ble_eq_true rfl⟩ rfl (Nat.le_of_ble_eq_true rfl) ?_
      have hG8 := gp_X11_refuse hG hr9
      obtain ⟨k11, h⟩ := sh_chk h
      obtain ⟨e1, e2⟩ := sh_some2 h
      refine vv_zret 17 dX11_end_17 rfl (sh_nb k11) (Nat.le_refl _) (Nat.le_refl _) ⟨by rw [e1], e2⟩
noncomputable def f_X11_letter (a1 : Int32) (a2 : Int32) (a3 : Int32) (μ : sh_Mem) : Option (Int32 × sh_Mem) := (if a3 < 0 then some ((-1), μ) else (if a3 < 6 then (if a1 = 0 then sh_bind (f_X11_isTopic a2 μ) (fun y14 μ12 => (if y14 = 0 then (if a1 = 1 then sh_bind (f_X11_isPerson a2 μ12) (fun y19 μ17 => (if y19 = 0 then some ((-1), μ17) else (if (sh_r μ17 0 7 = some (sh_ref μ17 0 7) ∧ ((sh_ref μ17 0 7) = 8 ∨ (sh_ref μ17 0 7) = 29)) then sh_let (sh_ref μ17 0 7) (fun r22 => (if sh_in a2 7 then some ((f_X11_letterOf μ17 (sh_i μ17 (r22 + 2) a2.toNatClampNeg) a3), μ17) else none)) else none))) else some ((-1), μ12)) else (if (sh_r μ12 0 7 = some (sh_ref μ12 0 7) ∧ ((sh_ref μ12 0 7) = 8 ∨ (sh_ref μ12 0 7) = 29)) then sh_let (sh_ref μ12 0 7) (fun r25 => (if sh_in a2 5 then some ((f_X11_letterOf μ12 (sh_i μ12 (r25 + 1) a2.toNatClampNeg) a3), μ12) else none)) else none))) else (if a1 = 1 then sh_bind (f_X11_isPerson a2 μ) (fun y7 μ5 => (if y7 = 0 then some ((-1), μ5) else (if (sh_r μ5 0 7 = some (sh_ref μ5 0 7) ∧ ((sh_ref μ5 0 7) = 8 ∨ (sh_ref μ5 0 7) = 29)) then sh_let (sh_ref μ5 0 7) (fun r10 => (if sh_in a2 7 then some ((f_X11_letterOf μ5 (sh_i μ5 (r10 + 2) a2.toNatClampNeg) a3), μ5) else none)) else none))) else some ((-1), μ))) else some ((-1), μ)))
theorem gp_X11_letter {a1 : Int32} {a2 : Int32} {a3 : Int32} {μ μ' : sh_Mem} {v : Int32} (hG : sh_G μ) (h : f_X11_letter a1 a2 a3 μ = some (v, μ')) : sh_G μ' := by
  unfold f_X11_letter at h
  by_cases c1 : a3 < 0
  · rw [if_pos c1] at h
    obtain ⟨e1, e2⟩ := sh_some2 h
    exact e2 ▸ hG
  · rw [if_neg c1] at h
    by_cases c2 : a3 < 6
    · rw [if_pos c2] at h
      by_cases c3 : a1 = 0
      · rw [if_pos c3] at h
        obtain ⟨y14, μ12, hr13, h⟩ := sh_bind_e h
        have hG12 := gp_X11_isTopic hG hr13
        by_cases c15 : y14 = 0
        · rw [if_pos c15] at h
          by_cases c16 : a1 = 1
          · rw [if_pos c16] at h
            obtain ⟨y19, μ17, hr18, h⟩ := sh_bind_e h
            have hG17 := gp_X11_isPerson hG12 hr18
            by_cases c20 : y19 = 0
            · rw [if_pos c20] at h
              obtain ⟨e1, e2⟩ := sh_some2 h
              exact e2 ▸ hG17
            · rw [if_neg c20] at h
              obtain ⟨k21, h⟩ := sh_chk h
              obtain ⟨r22, er22⟩ : ∃ y : Nat, y = (sh_ref μ17 0 7) := ⟨_, rfl⟩
              rw [sh_let_eq er22] at h
              have k21r : sh_r μ17 0 7 = some r22 ∧ (r22 = 8 ∨ r22 = 29) := by rw [er22]; exact k21
              obtain ⟨k23, h⟩ := sh_chk h
              obtain ⟨e1, e2⟩ := sh_some2 h
              exact e2 ▸ hG17
          · rw [if_neg c16] at h
            obtain ⟨e1, e2⟩ := sh_some2 h
            exact e2 ▸ hG12
        · rw [if_neg c15] at h
          obtain ⟨k24, h⟩ := sh_chk h
          obtain ⟨r25, er25⟩ : ∃ y : Nat, y = (sh_ref μ12 0 7) := ⟨_, rfl⟩
          rw [sh_let_eq er25] at h
          have k24r : sh_r μ12 0 7 = some r25 ∧ (r25 = 8 ∨ r25 = 29) := by rw [er25]; exact k24
          obtain ⟨k26, h⟩ := sh_chk h
          obtain ⟨e1, e2⟩ := sh_some2 h
          exact e2 ▸ hG12
      · rw [if_neg c3] at h
        by_cases c4 : a1 = 1
        · rw [if_pos c4] at h
          obtain ⟨y7, μ5, hr6, h⟩ := sh_bind_e h
          have hG5 := gp_X11_isPerson hG hr6
          by_cases c8 : y7 = 0
          · rw [if_pos c8] at h
            obtain ⟨e1, e2⟩ := sh_some2 h
            exact e2 ▸ hG5
          · rw [if_neg c8] at h
            obtain ⟨k9, h⟩ := sh_chk h
            obtain ⟨r10, er10⟩ : ∃ y : Nat, y = (sh_ref μ5 0 7) := ⟨_, rfl⟩
            rw [sh_let_eq er10] at h
            have k9r : sh_r μ5 0 7 = some r10 ∧ (r10 = 8 ∨ r10 = 29) := by rw [er10]; exact k9
            obtain ⟨k11, h⟩ := sh_chk h
            obtain ⟨e1, e2⟩ := sh_some2 h
            exact e2 ▸ hG5
        · rw [if_neg c4] at h
          obtain ⟨e1, e2⟩ := sh_some2 h
          exact e2 ▸ hG
    · rw [if_neg c2] at h
      obtain ⟨e1, e2⟩ := sh_some2 h
      exact e2 ▸ hG
theorem t_X11_letter {a1 : Int32} {a2 : Int32} {a3 : Int32} {μ μ' : sh_Mem} {v : Int32} (hG : sh_G μ) (h : f_X11_letter a1 a2 a3 μ = some (v, μ')) : sh_C0 l B D ca 2 M_X11_letter [.ref 0, .int a1, .int a2, .int a3] μ (fun v0 μ0 => v0 = some (.int v) ∧ μ0 = μ') := by
  unfold f_X11_letter at h
  refine vv_iload_n 0 3 dX11_letter_0 rfl rfl ?_
  refine vv_if_lt 1 10 dX11_letter_1 (by decide) (fun c1 => ?_) (fun c1 => ?_)
  · rw [if_pos c1] at h
    refine vv_iconst 10 dX11_letter_10 ik_m1 ?_
    obtain ⟨e1, e2⟩ := sh_some2 h
    refine vv_iret 11 dX11_letter_11 rfl (Nat.le_refl _) (Nat.le_refl _) ⟨by rw [e1], e2⟩
  · rw [if_neg c1] at h
    refine vv_iload_n 4 3 dX11_letter_4 rfl rfl ?_
    refine vv_bipush 5 dX11_letter_5 bk_6 ?_
    refine vv_icmp_lt 7 12 dX11_letter_7 (by decide) (fun c2 => ?_) (fun c2 => ?_)
    · rw [if_pos c2] at h
      refine vv_iload_n 12 1 dX11_letter_12 rfl rfl ?_
      refine vv_if_ne 13 38 dX11_letter_13 (by decide) (fun c3 => ?_) (fun c3 => ?_)
      · rw [if_neg c3] at h
        refine vv_iload_n 38 1 dX11_letter_38 rfl rfl ?_
        refine vv_iconst 39 dX11_letter_39 ik_1 ?_
        refine vv_icmp_ne 40 65 dX11_letter_40 (by decide) (fun c4 => ?_) (fun c4 => ?_)
        · rw [if_neg c4] at h
          refine vv_iconst 65 dX11_letter_65 ik_m1 ?_
          obtain ⟨e1, e2⟩ := sh_some2 h
          refine vv_iret 66 dX11_letter_66 rfl (Nat.le_refl _) (Nat.le_refl _) ⟨by rw [e1], e2⟩
        · rw [if_pos c4] at h
          refine vv_aload_n 43 0 dX11_letter_43 rfl rfl ?_
          refine vv_iload_n 44 2 dX11_letter_44 rfl rfl ?_
          obtain ⟨y7, μ5, hr6, h⟩ := sh_bind_e h
          refine v1_callV [_] 45 dX11_letter_45 ck_X11_211 (g_l_0 hG) ⟨by decide, rfl⟩ (t_X11_isPerson hG hr6) (Nat.le_of_ble_eq_true rfl) ⟨Nat.le_of_ble_eq_true rfl, Nat.le_of_ble_eq_true rfl⟩ rfl (Nat.le_of_ble_eq_true rfl) ?_
          have hG5 := gp_X11_isPerson hG hr6
          refine vv_if_eq 48 65 dX11_letter_48 (by decide) (fun c8 => ?_) (fun c8 => ?_)
          · rw [if_pos c8] at h
            refine vv_iconst 65 dX11_letter_65 ik_m1 ?_
            obtain ⟨e1, e2⟩ := sh_some2 h
            refine vv_iret 66 dX11_letter_66 rfl (Nat.le_refl _) (Nat.le_refl _) ⟨by rw [e1], e2⟩
          · rw [if_neg c8] at h
            refine vv_aload_n 51 0 dX11_letter_51 rfl rfl ?_
            obtain ⟨k9, h⟩ := sh_chk h
            refine vv_getR 52 dX11_letter_52 fl_11_53 rfl (g_l_0 hG5) k9.1 ?_
            refine vv_topr (fun r10 er10 => ?_)
            rw [sh_let_eq er10] at h
            have k9r : sh_r μ5 0 7 = some r10 ∧ (r10 = 8 ∨ r10 = 29) := by rw [er10]; exact k9
            refine vv_getR 55 dX11_letter_55 fl_11_214 rfl (gP_l hG5 k9r.2) (gP_r7 hG5 k9r.2) ?_
            refine vv_iload_n 58 2 dX11_letter_58 rfl rfl ?_
            obtain ⟨k11, h⟩ := sh_chk h
            refine vv_iald 59 dX11_letter_59 (gA_l hG5 (gPA7 k9r.2)) k11 ?_
            refine vv_iload_n 60 3 dX11_letter_60 rfl rfl ?_
            refine v1_callS [_, _] 61 dX11_letter_61 ck_X11_207 (c_X11_letterOf (μ := μ5) hG5) (Nat.le_of_ble_eq_true rfl) ⟨Nat.le_of_ble_eq_true rfl, Nat.le_of_ble_eq_true rfl⟩ rfl (Nat.le_of_ble_eq_true rfl) ?_
            obtain ⟨e1, e2⟩ := sh_some2 h
            refine vv_iret 64 dX11_letter_64 rfl (Nat.le_refl _) (Nat.le_refl _) ⟨by rw [e1], e2⟩
      · rw [if_pos c3] at h
        refine vv_aload_n 16 0 dX11_letter_16 rfl rfl ?_
        refine vv_iload_n 17 2 dX11_letter_17 rfl rfl ?_
        obtain ⟨y14, μ12, hr13, h⟩ := sh_bind_e h
        refine v1_callV [_] 18 dX11_letter_18 ck_X11_201 (g_l_0 hG) ⟨by decide, rfl⟩ (t_X11_isTopic hG hr13) (Nat.le_of_ble_eq_true rfl) ⟨Nat.le_of_ble_eq_true rfl, Nat.le_of_ble_eq_true rfl⟩ rfl (Nat.le_of_ble_eq_true rfl) ?_
        have hG12 := gp_X11_isTopic hG hr13
        refine vv_if_eq 21 38 dX11_letter_21 (by decide) (fun c15 => ?_) (fun c15 => ?_)
        · rw [if_pos c15] at h
          refine vv_iload_n 38 1 dX11_letter_38 rfl rfl ?_
          refine vv_iconst 39 dX11_letter_39 ik_1 ?_
          refine vv_icmp_ne 40 65 dX11_letter_40 (by decide) (fun c16 => ?_) (fun c16 => ?_)
          · rw [if_neg c16] at h
            refine vv_iconst 65 dX11_letter_65 ik_m1 ?_
            obtain ⟨e1, e2⟩ := sh_some2 h
            refine vv_iret 66 dX11_letter_66 rfl (Nat.le_refl _) (Nat.le_refl _) ⟨by rw [e1], e2⟩
          · rw [if_pos c16] at h
            refine vv_aload_n 43 0 dX11_letter_43 rfl rfl ?_
            refine vv_iload_n 44 2 dX11_letter_44 rfl rfl ?_
            obtain ⟨y19, μ17, hr18, h⟩ := sh_bind_e h
            refine v1_callV [_] 45 dX11_letter_45 ck_X11_211 (g_l_0 hG12) ⟨by decide, rfl⟩ (t_X11_isPerson hG12 hr18) (Nat.le_of_ble_eq_true rfl) ⟨Nat.le_of_ble_eq_true rfl, Nat.le_of_ble_eq_true rfl⟩ rfl (Nat.le_of_ble_eq_true rfl) ?_
            have hG17 := gp_X11_isPerson hG12 hr18
            refine vv_if_eq 48 65 dX11_letter_48 (by decide) (fun c20 => ?_) (fun c20 => ?_)
            · rw [if_pos c20] at h
              refine vv_iconst 65 dX11_letter_65 ik_m1 ?_
              obtain ⟨e1, e2⟩ := sh_some2 h
              refine vv_iret 66 dX11_letter_66 rfl (Nat.le_refl _) (Nat.le_refl _) ⟨by rw [e1], e2⟩
            · rw [if_neg c20] at h
              refine vv_aload_n 51 0 dX11_letter_51 rfl rfl ?_
              obtain ⟨k21, h⟩ := sh_chk h
              refine vv_getR 52 dX11_letter_52 fl_11_53 rfl (g_l_0 hG17) k21.1 ?_
              refine vv_topr (fun r22 er22 => ?_)
              rw [sh_let_eq er22] at h
              have k21r : sh_r μ17 0 7 = some r22 ∧ (r22 = 8 ∨ r22 = 29) := by rw [er22]; exact k21
              refine vv_getR 55 dX11_letter_55 fl_11_214 rfl (gP_l hG17 k21r.2) (gP_r7 hG17 k21r.2) ?_
              refine vv_iload_n 58 2 dX11_letter_58 rfl rfl ?_
              obtain ⟨k23, h⟩ := sh_chk h
              refine vv_iald 59 dX11_letter_59 (gA_l hG17 (gPA7 k21r.2)) k23 ?_
              refine vv_iload_n 60 3 dX11_letter_60 rfl rfl ?_
              refine v1_callS [_, _] 61 dX11_letter_61 ck_X11_207 (c_X11_letterOf (μ := μ17) hG17) (Nat.le_of_ble_eq_true rfl) ⟨Nat.le_of_ble_eq_true rfl, Nat.le_of_ble_eq_true rfl⟩ rfl (Nat.le_of_ble_eq_true rfl) ?_
              obtain ⟨e1, e2⟩ := sh_some2 h
              refine vv_iret 64 dX11_letter_64 rfl (Nat.le_refl _) (Nat.le_refl _) ⟨by rw [e1], e2⟩
        · rw [if_neg c15] at h
          refine vv_aload_n 24 0 dX11_letter_24 rfl rfl ?_
          obtain ⟨k24, h⟩ := sh_chk h
          refine vv_getR 25 dX11_letter_25 fl_11_53 rfl (g_l_0 hG12) k24.1 ?_
          refine vv_topr (fun r25 er25 => ?_)
          rw [sh_let_eq er25] at h
          have k24r : sh_r μ12 0 7 = some r25 ∧ (r25 = 8 ∨ r25 = 29) := by rw [er25]; exact k24
          refine vv_getR 28 dX11_letter_28 fl_11_204 rfl (gP_l hG12 k24r.2) (gP_r6 hG12 k24r.2) ?_
          refine vv_iload_n 31 2 dX11_letter_31 rfl rfl ?_
          obtain ⟨k26, h⟩ := sh_chk h
          refine vv_iald 32 dX11_letter_32 (gA_l hG12 (gPA6 k24r.2)) k26 ?_
          refine vv_iload_n 33 3 dX11_letter_33 rfl rfl ?_
          refine v1_callS [_, _] 34 dX11_letter_34 ck_X11_207 (c_X11_letterOf (μ := μ12) hG12) (Nat.le_of_ble_eq_true rfl) ⟨Nat.le_of_ble_eq_true rfl, Nat.le_of_ble_eq_true rfl⟩ rfl (Nat.le_of_ble_eq_true rfl) ?_
          obtain ⟨e1, e2⟩ := sh_some2 h
          refine vv_iret 37 dX11_letter_37 rfl (Nat.le_refl _) (Nat.le_refl _) ⟨by rw [e1], e2⟩
    · rw [if_neg c2] at h
      refine vv_iconst 10 dX11_letter_10 ik_m1 ?_
      obtain ⟨e1, e2⟩ := sh_some2 h
      refine vv_iret 11 dX11_letter_11 rfl (Nat.le_refl _) (Nat.le_refl _) ⟨by rw [e1], e2⟩
noncomputable def f_X11_see (μ : sh_Mem) : Option (Int32 × sh_Mem) := sh_bind (f_X11_takeTape μ) (fun y3 μ1 => sh_bind (f_X11_isSeen y3 μ1) (fun y6 μ4 => (if y6 = 0 then sh_bind (f_X11_refuseNumber 1 μ4) (fun y15 μ13 => some (y15, μ13)) else (if ¬ y3 < 0 then (if (Int32.toNatClampNeg 0) + y3.toNatClampNeg ≤ 1600 then (if (Int32.toNatClampNeg 0) + y3.toNatClampNeg ≤ 64 then sh_let (sh_rowI μ4 216 (va_cpy (sh_i μ4 1) (sh_i μ4 216) (Int32.toNatClampNeg 0) (Int32.toNatClampNeg 0) y3.toNatClampNeg)) (fun μ11 => sh_let (sh_setI μ11 208 4 (y3 / 4)) (fun μ12 => some ((sh_i μ12 208 4), μ12))) else none) else none) else none))))
theorem gp_X11_see {μ μ' : sh_Mem} {v : Int32} (hG : sh_G μ) (h : f_X11_see μ = some (v, μ')) : sh_G μ' := by
  unfold f_X11_see at h
  obtain ⟨y3, μ1, hr2, h⟩ := sh_bind_e h
  have hG1 := gp_X11_takeTape hG hr2
  obtain ⟨y6, μ4, hr5, h⟩ := sh_bind_e h
  have hG4 := gp_X11_isSeen hG1 hr5
  by_cases c7 : y6 = 0
  · rw [if_pos c7] at h
    obtain ⟨y15, μ13, hr14, h⟩ := sh_bind_e h
    have hG13 := gp_X11_refuseNumber hG4 hr14
    obtain ⟨e1, e2⟩ := sh_some2 h
    exact e2 ▸ hG13
  · rw [if_neg c7] at h
    obtain ⟨k8, h⟩ := sh_chk h
    obtain ⟨k9, h⟩ := sh_chk h
    obtain ⟨k10, h⟩ := sh_chk h
    obtain ⟨μ11, eμ11⟩ : ∃ y : sh_Mem, y = (sh_rowI μ4 216 (va_cpy (sh_i μ4 1) (sh_i μ4 216) (Int32.toNatClampNeg 0) (Int32.toNatClampNeg 0) y3.toNatClampNeg)) := ⟨_, rfl⟩
    rw [sh_let_eq eμ11] at h
    have hG11 : sh_G μ11 := by rw [eμ11]; exact hG4
    obtain ⟨μ12, eμ12⟩ : ∃ y : sh_Mem, y = (sh_setI μ11 208 4 (y3 / 4)) := ⟨_, rfl⟩
    rw [sh_let_eq eμ12] at h
    have hG12 : sh_G μ12 := by rw [eμ12]; exact hG11
    obtain ⟨e1, e2⟩ := sh_some2 h
    exact e2 ▸ hG12
theorem t_X11_see {μ μ' : sh_Mem} {v : Int32} (hG : sh_G μ) (h : f_X11_see μ = some (v, μ')) : sh_C0 l B D ca 3 M_X11_see [.ref 0] μ (fun v0 μ0 => v0 = some (.int v) ∧ μ0 = μ') := by
  unfold f_X11_see at h
  refine vv_aload_n 0 0 dX11_see_0 rfl rfl ?_
  obtain ⟨y3, μ1, hr2, h⟩ := sh_bind_e h
  refine v1_callV [] 1 dX11_see_1 ck_X11_132 (g_l_0 hG) ⟨by decide, rfl⟩ (t_X11_takeTape hG hr2) (Nat.le_of_ble_eq_true rfl) ⟨Nat.le_of_ble_eq_true rfl, Nat.le_of_ble_eq_true rfl⟩ rfl (Nat.le_of_ble_eq_true rfl) ?_
  have hG1 := gp_X11_takeTape hG hr2
  refine vv_istore_n (lv' := [(1, _), (0, _)]) 4 1 dX11_see_4 rfl (by decide) rfl ?_
  refine vv_aload_n 5 0 dX11_see_5 rfl rfl ?_
  refine vv_iload_n 6 1 dX11_see_6 rfl rfl ?_
  obtain ⟨y6, μ4, hr5, h⟩ := sh_bind_e h
  refine v1_callV [_] 7 dX11_see_7 ck_X11_296 (g_l_0 hG1) ⟨by decide, rfl⟩ (t_X11_isSeen hG1 hr5) (Nat.le_of_ble_eq_true rfl) ⟨Nat.le_of_ble_eq_true rfl, Nat.le_of_ble_eq_true rfl⟩ rfl (Nat.le_of_ble_eq_true rfl) ?_
  have hG4 := gp_X11_isSeen hG1 hr5
  refine vv_if_ne 10 19 dX11_see_10 (by decide) (fun c7 => ?_) (fun c7 => ?_)
  · rw [if_neg c7] at h
    refine vv_aload_n 19 0 dX11_see_19 rfl rfl ?_
    refine vv_getR 20 dX11_see_20 fl_11_9 rfl (g_l_0 hG4) (g_r_0_0 hG4) ?_
    refine vv_iconst 23 dX11_see_23 ik_0 ?_
    refine vv_aload_n 24 0 dX11_see_24 rfl rfl ?_
    refine vv_getR 25 dX11_see_25 fl_11_85 rfl (g_l_0 hG4) (g_r_0_11 hG4) ?_
    refine vv_getR 28 dX11_see_28 fl_11_299 rfl (g_l_208 hG4) (g_r_208_3 hG4) ?_
    refine vv_iconst 31 dX11_see_31 ik_0 ?_
    refine vv_iload_n 32 1 dX11_see_32 rfl rfl ?_
    obtain ⟨k8, h⟩ := sh_chk h
    obtain ⟨k9, h⟩ := sh_chk h
    obtain ⟨k10, h⟩ := sh_chk h
    refine vn_copy 33 dX11_see_33 ck_X11_302 (g_l_1 hG4) (g_l_216 hG4) (by decide) (by decide) k8 k9 k10 (Nat.le_of_ble_eq_true rfl) (Nat.le_of_ble_eq_true rfl) (fun μ11 eμ11 => ?_)
    rw [sh_let_eq eμ11] at h
    have hG11 : sh_G μ11 := by rw [eμ11]; exact hG4
    refine vv_aload_n 36 0 dX11_see_36 rfl rfl ?_
    refine vv_getR 37 dX11_see_37 fl_11_85 rfl (g_l_0 hG11) (g_r_0_11 hG11) ?_
    refine vv_iload_n 40 1 dX11_see_40 rfl rfl ?_
    refine vv_iconst 41 dX11_see_41 ik_4 ?_
    refine vv_idiv 42 dX11_see_42 (by decide) ?_
    refine vn_putI 43 dX11_see_43 fl_11_162 (Or.inl rfl) rfl (g_l_208 hG11) (fun μ12 eμ12 => ?_)
    rw [sh_let_eq eμ12] at h
    have hG12 : sh_G μ12 := by rw [eμ12]; exact hG11
    refine vv_aload_n 46 0 dX11_see_46 rfl rfl ?_
    refine vv_getR 47 dX11_see_47 fl_11_85 rfl (g_l_0 hG12) (g_r_0_11 hG12) ?_
    refine vv_getI 50 dX11_see_50 fl_11_162 rfl (g_l_208 hG12) ?_
    obtain ⟨e1, e2⟩ := sh_some2 h
    refine vv_iret 53 dX11_see_53 rfl (Nat.le_refl _) (Nat.le_refl _) ⟨by rw [e1], e2⟩
  · rw [if_pos c7] at h
    refine vv_aload_n 13 0 dX11_see_13 rfl rfl ?_
    refine vv_iconst 14 dX11_see_14 ik_1 ?_
    obtain ⟨y15, μ13, hr14, h⟩ := sh_bind_e h
    refine v1_callV [_] 15 dX11_see_15 ck_X11_120 (g_l_0 hG4) ⟨by decide, rfl⟩ (t_X11_refuseNumber hG4 hr14) (Nat.le_of_ble_eq_true rfl) ⟨Nat.le_of_ble_eq_true rfl, Nat.le_of_ble_eq_true rfl⟩ rfl (Nat.le_of_ble_eq_true rfl) ?_
    have hG13 := gp_X11_refuseNumber hG4 hr14
    obtain ⟨e1, e2⟩ := sh_some2 h
    refine vv_iret 18 dX11_see_18 rfl (Nat.le_refl _) (Nat.le_refl _) ⟨by rw [e1], e2⟩
noncomputable def F_X11_image : Nat → Nat → Int32 → Int32 → Int32 → sh_Mem → Option (Int32 × sh_Mem)
  | 0, _, _, _, _, _ => none
  | fuel + 1, lbl, i1, i2, i3, μ => match lbl with
    | 1 => (if (sh_r μ 0 7 = some (sh_ref μ 0 7) ∧ ((sh_ref μ 0 7) = 8 ∨ (sh_ref μ 0 7) = 29)) then sh_let (sh_ref μ 0 7) (fun r33 => (if (sh_i μ r33 3) ≤ i3 then sh_bind (f_X11_checkOf 289 80 i2 μ) (fun y37 μ35 => (if sh_in i2 80 then sh_let (sh_setI μ35 289 i2.toNatClampNeg y37) (fun μ39 => sh_let (sh_setI μ39 0 18 (i2 + 1)) (fun μ40 => some ((sh_i μ40 0 18), μ40))) else none)) else (if sh_in i3 7 then (if sh_in i2 80 then sh_let (sh_setI μ 289 i2.toNatClampNeg (sh_i μ 51 i3.toNatClampNeg)) (fun μ43 => (if sh_in i3 7 then (if sh_in (i2 + 1) 80 then sh_let (sh_setI μ43 289 ((i2 + 1)).toNatClampNeg (sh_i μ43 52 i3.toNatClampNeg)) (fun μ46 => (if sh_in i3 7 then (if sh_in (i2 + 2) 80 then sh_let (sh_setI μ46 289 ((i2 + 2)).toNatClampNeg (sh_i μ46 53 i3.toNatClampNeg)) (fun μ49 => (if sh_in i3 7 then (if sh_in (i2 + 3) 80 then sh_let (sh_setI μ49 289 ((i2 + 3)).toNatClampNeg (sh_i μ49 54 i3.toNatClampNeg)) (fun μ52 => F_X11_image fuel 1 i1 (i2 + 4) (i3 + 1) μ52) else none) else none)) else none) else none)) else none) else none)) else none) else none))) else none)
    | _ => none
noncomputable def f_X11_image (μ : sh_Mem) : Option (Int32 × sh_Mem) := (if (sh_r μ 0 7 = some (sh_ref μ 0 7) ∧ ((sh_ref μ 0 7) = 8 ∨ (sh_ref μ 0 7) = 29)) then sh_let (sh_ref μ 0 7) (fun r54 => sh_let ((f_X5_cells μ r54) : Int32) (fun x55 => sh_let (sh_setI μ 289 (Int32.toNatClampNeg 0) ((sh_i μ 49 0) / 256)) (fun μ56 => sh_let (sh_setI μ56 289 (Int32.toNatClampNeg 1) ((sh_i μ56 49 0) - (sh_i μ56 49 0) / 256 * 256)) (fun μ57 => (if ¬ x55 < 0 then (if (Int32.toNatClampNeg 0) + x55.toNatClampNeg ≤ 49 then (if (Int32.toNatClampNeg 2) + x55.toNatClampNeg ≤ 80 then sh_let (sh_rowI μ57 289 (va_cpy (sh_i μ57 50) (sh_i μ57 289) (Int32.toNatClampNeg 0) (Int32.toNatClampNeg 2) x55.toNatClampNeg)) (fun μ61 => sh_let ((2 + x55) : Int32) (fun x62 => F_X11_image sh_fuel 1 x55 x62 0 μ61)) else none) else none) else none))))) else none)
theorem gpl_X11_image (fuel : Nat) : (∀ ⦃i1 : Int32⦄ ⦃i2 : Int32⦄ ⦃i3 : Int32⦄ ⦃μ μ' : sh_Mem⦄ ⦃v : Int32⦄, sh_G μ → F_X11_image fuel 1 i1 i2 i3 μ = some (v, μ') → sh_G μ') := by
  induction fuel with
  | zero => intro i1 i2 i3 μ μ' v hG h; cases h
  | succ fuel ih =>
    have ih_65 := ih
    intro i1 i2 i3 μ μ' v hG h
    replace h : ((if (sh_r μ 0 7 = some (sh_ref μ 0 7) ∧ ((sh_ref μ 0 7) = 8 ∨ (sh_ref μ 0 7) = 29)) then sh_let (sh_ref μ 0 7) (fun r33 => (if (sh_i μ r33 3) ≤ i3 then sh_bind (f_X11_checkOf 289 80 i2 μ) (fun y37 μ35 => (if sh_in i2 80 then sh_let (sh_setI μ35 289 i2.toNatClampNeg y37) (fun μ39 => sh_let (sh_setI μ39 0 18 (i2 + 1)) (fun μ40 => some ((sh_i μ40 0 18), μ40))) else none)) else (if sh_in i3 7 then (if sh_in i2 80 then sh_let (sh_setI μ 289 i2.toNatClampNeg (sh_i μ 51 i3.toNatClampNeg)) (fun μ43 => (if sh_in i3 7 then (if sh_in (i2 + 1) 80 then sh_let (sh_setI μ43 289 ((i2 + 1)).toNatClampNeg (sh_i μ43 52 i3.toNatClampNeg)) (fun μ46 => (if sh_in i3 7 then (if sh_in (i2 + 2) 80 then sh_let (sh_setI μ46 289 ((i2 + 2)).toNatClampNeg (sh_i μ46 53 i3.toNatClampNeg)) (fun μ49 => (if sh_in i3 7 then (if sh_in (i2 + 3) 80 then sh_let (sh_setI μ49 289 ((i2 + 3)).toNatClampNeg (sh_i μ49 54 i3.toNatClampNeg)) (fun μ52 => F_X11_image fuel 1 i1 (i2 + 4) (i3 + 1) μ52) else none) else none)) else none) else none)) else none) else none)) else none) else none))) else none) : Option (Int32 × sh_Mem)) = some (v, μ') := h
    obtain ⟨k32, h⟩ := sh_chk h
    obtain ⟨r33, er33⟩ : ∃ y : Nat, y = (sh_ref μ 0 7) := ⟨_, rfl⟩
    rw [sh_let_eq er33] at h
    have k32r : sh_r μ 0 7 = some r33 ∧ (r33 = 8 ∨ r33 = 29) := by rw [er33]; exact k32
    by_cases c34 : (sh_i μ r33 3) ≤ i3
    · rw [if_pos c34] at h
      obtain ⟨y37, μ35, hr36, h⟩ := sh_bind_e h
      have hG35 := gp_X11_checkOf hG (sh_LAYat_289) hr36
      obtain ⟨k38, h⟩ := sh_chk h
      obtain ⟨μ39, eμ39⟩ : ∃ y : sh_Mem, y = (sh_setI μ35 289 i2.toNatClampNeg y37) := ⟨_, rfl⟩
      rw [sh_let_eq eμ39] at h
      have hG39 : sh_G μ39 := by rw [eμ39]; exact hG35
      obtain ⟨μ40, eμ40⟩ : ∃ y : sh_Mem, y = (sh_setI μ39 0 18 (i2 + 1)) := ⟨_, rfl⟩
      rw [sh_let_eq eμ40] at h
      have hG40 : sh_G μ40 := by rw [eμ40]; exact hG39
      obtain ⟨e1, e2⟩ := sh_some2 h
      exact e2 ▸ hG40
    · rw [if_neg c34] at h
      obtain ⟨k41, h⟩ := sh_chk h
      obtain ⟨k42, h⟩ := sh_chk h
      obtain ⟨μ43, eμ43⟩ : ∃ y : sh_Mem, y = (sh_setI μ 289 i2.toNatClampNeg (sh_i μ 51 i3.toNatClampNeg)) := ⟨_, rfl⟩
      rw [sh_let_eq eμ43] at h
      have hG43 : sh_G μ43 := by rw [eμ43]; exact hG
      obtain ⟨k44, h⟩ := sh_chk h
      obtain ⟨k45, h⟩ := sh_chk h
      obtain ⟨μ46, eμ46⟩ : ∃ y : sh_Mem, y = (sh_setI μ43 289 ((i2 + 1)).toNatClampNeg (sh_i μ43 52 i3.toNatClampNeg)) := ⟨_, rfl⟩
      rw [sh_let_eq eμ46] at h
      have hG46 : sh_G μ46 := by rw [eμ46]; exact hG43
      obtain ⟨k47, h⟩ := sh_chk h
      obtain ⟨k48, h⟩ := sh_chk h
      obtain ⟨μ49, eμ49⟩ : ∃ y : sh_Mem, y = (sh_setI μ46 289 ((i2 + 2)).toNatClampNeg (sh_i μ46 53 i3.toNatClampNeg)) := ⟨_, rfl⟩
      rw [sh_let_eq eμ49] at h
      have hG49 : sh_G μ49 := by rw [eμ49]; exact hG46
      obtain ⟨k50, h⟩ := sh_chk h
      obtain ⟨k51, h⟩ := sh_chk h
      obtain ⟨μ52, eμ52⟩ : ∃ y : sh_Mem, y = (sh_setI μ49 289 ((i2 + 3)).toNatClampNeg (sh_i μ49 54 i3.toNatClampNeg)) := ⟨_, rfl⟩
      rw [sh_let_eq eμ52] at h
      have hG52 : sh_G μ52 := by rw [eμ52]; exact hG49
      exact ih_65 hG52 h
theorem tl_X11_image (fuel : Nat) : (∀ ⦃i1 : Int32⦄ ⦃i2 : Int32⦄ ⦃i3 : Int32⦄ ⦃μ μ' : sh_Mem⦄ ⦃v : Int32⦄, sh_G μ → F_X11_image fuel 1 i1 i2 i3 μ = some (v, μ') → sh_V0 l B D ca 2 M_X11_image 65 [(0, .ref 0), (1, .int i1), (2, .int i2), (3, .int i3)] [] μ (fun v0 μ0 => v0 = some (.int v) ∧ μ0 = μ')) := by
  induction fuel with
  | zero => intro i1 i2 i3 μ μ' v hG h; cases h
  | succ fuel ih =>
    have ih_65 := ih
    intro i1 i2 i3 μ μ' v hG h
    replace h : ((if (sh_r μ 0 7 = some (sh_ref μ 0 7) ∧ ((sh_ref μ 0 7) = 8 ∨ (sh_ref μ 0 7) = 29)) then sh_let (sh_ref μ 0 7) (fun r33 => (if (sh_i μ r33 3) ≤ i3 then sh_bind (f_X11_checkOf 289 80 i2 μ) (fun y37 μ35 => (if sh_in i2 80 then sh_let (sh_setI μ35 289 i2.toNatClampNeg y37) (fun μ39 => sh_let (sh_setI μ39 0 18 (i2 + 1)) (fun μ40 => some ((sh_i μ40 0 18), μ40))) else none)) else (if sh_in i3 7 then (if sh_in i2 80 then sh_let (sh_setI μ 289 i2.toNatClampNeg (sh_i μ 51 i3.toNatClampNeg)) (fun μ43 => (if sh_in i3 7 then (if sh_in (i2 + 1) 80 then sh_let (sh_setI μ43 289 ((i2 + 1)).toNatClampNeg (sh_i μ43 52 i3.toNatClampNeg)) (fun μ46 => (if sh_in i3 7 then (if sh_in (i2 + 2) 80 then sh_let (sh_setI μ46 289 ((i2 + 2)).toNatClampNeg (sh_i μ46 53 i3.toNatClampNeg)) (fun μ49 => (if sh_in i3 7 then (if sh_in (i2 + 3) 80 then sh_let (sh_setI μ49 289 ((i2 + 3)).toNatClampNeg (sh_i μ49 54 i3.toNatClampNeg)) (fun μ52 => F_X11_image fuel 1 i1 (i2 + 4) (i3 + 1) μ52) else none) else none)) else none) else none)) else none) else none)) else none) else none))) else none) : Option (Int32 × sh_Mem)) = some (v, μ') := h
    refine vv_iload_n 65 3 dX11_image_65 rfl rfl ?_
    refine vv_aload_n 66 0 dX11_image_66 rfl rfl ?_
    obtain ⟨k32, h⟩ := sh_chk h
    refine vv_getR 67 dX11_image_67 fl_11_53 rfl (g_l_0 hG) k32.1 ?_
    refine vv_topr (fun r33 er33 => ?_)
    rw [sh_let_eq er33] at h
    have k32r : sh_r μ 0 7 = some r33 ∧ (r33 = 8 ∨ r33 = 29) := by rw [er33]; exact k32
    refine vv_getI 70 dX11_image_70 fl_11_180 rfl (gP_l hG k32r.2) ?_
    refine vv_icmp_ge 73 151 dX11_image_73 (by decide) (fun c34 => ?_) (fun c34 => ?_)
    · rw [if_pos c34] at h
      refine vv_aload_n 151 0 dX11_image_151 rfl rfl ?_
      refine vv_getR 152 dX11_image_152 fl_11_111 rfl (g_l_0 hG) (g_r_0_17 hG) ?_
      refine vv_iload_n 155 2 dX11_image_155 rfl rfl ?_
      refine vv_aload_n 156 0 dX11_image_156 rfl rfl ?_
      refine vv_getR 157 dX11_image_157 fl_11_111 rfl (g_l_0 hG) (g_r_0_17 hG) ?_
      refine vv_iload_n 160 2 dX11_image_160 rfl rfl ?_
      obtain ⟨y37, μ35, hr36, h⟩ := sh_bind_e h
      refine v1_callS [_, _] 161 dX11_image_161 ck_X11_398 (t_X11_checkOf hG (sh_LAYat_289) hr36) (Nat.le_of_ble_eq_true rfl) ⟨Nat.le_of_ble_eq_true rfl, Nat.le_of_ble_eq_true rfl⟩ rfl (Nat.le_of_ble_eq_true rfl) ?_
      have hG35 := gp_X11_checkOf hG (sh_LAYat_289) hr36
      obtain ⟨k38, h⟩ := sh_chk h
      refine vn_iast 164 dX11_image_164 (g_l_289 hG35) k38 (fun μ39 eμ39 => ?_)
      rw [sh_let_eq eμ39] at h
      have hG39 : sh_G μ39 := by rw [eμ39]; exact hG35
      refine vv_aload_n 165 0 dX11_image_165 rfl rfl ?_
      refine vv_iload_n 166 2 dX11_image_166 rfl rfl ?_
      refine vv_iconst 167 dX11_image_167 ik_1 ?_
      refine vv_iadd 168 dX11_image_168 ?_
      refine vn_putI 169 dX11_image_169 fl_11_402 (Or.inl rfl) rfl (g_l_0 hG39) (fun μ40 eμ40 => ?_)
      rw [sh_let_eq eμ40] at h
      have hG40 : sh_G μ40 := by rw [eμ40]; exact hG39
      refine vv_aload_n 172 0 dX11_image_172 rfl rfl ?_
      refine vv_getI 173 dX11_image_173 fl_11_402 rfl (g_l_0 hG40) ?_
      obtain ⟨e1, e2⟩ := sh_some2 h
      refine vv_iret 176 dX11_image_176 rfl (Nat.le_refl _) (Nat.le_refl _) ⟨by rw [e1], e2⟩
    · rw [if_neg c34] at h
      refine vv_aload_n 76 0 dX11_image_76 rfl rfl ?_
      refine vv_getR 77 dX11_image_77 fl_11_111 rfl (g_l_0 hG) (g_r_0_17 hG) ?_
      refine vv_iload_n 80 2 dX11_image_80 rfl rfl ?_
      refine vv_aload_n 81 0 dX11_image_81 rfl rfl ?_
      refine vv_getR 82 dX11_image_82 fl_11_60 rfl (g_l_0 hG) (g_r_0_8 hG) ?_
      refine vv_getR 85 dX11_image_85 fl_11_223 rfl (g_l_49 hG) (g_r_49_2 hG) ?_
      refine vv_iload_n 88 3 dX11_image_88 rfl rfl ?_
      obtain ⟨k41, h⟩ := sh_chk h
      refine vv_iald 89 dX11_image_89 (g_l_51 hG) k41 ?_
      obtain ⟨k42, h⟩ := sh_chk h
      refine vn_iast 90 dX11_image_90 (g_l_289 hG) k42 (fun μ43 eμ43 => ?_)
      rw [sh_let_eq eμ43] at h
      have hG43 : sh_G μ43 := by rw [eμ43]; exact hG
      refine vv_aload_n 91 0 dX11_image_91 rfl rfl ?_
      refine vv_getR 92 dX11_image_92 fl_11_111 rfl (g_l_0 hG43) (g_r_0_17 hG43) ?_
      refine vv_iload_n 95 2 dX11_image_95 rfl rfl ?_
      refine vv_iconst 96 dX11_image_96 ik_1 ?_
      refine vv_iadd 97 dX11_image_97 ?_
      refine vv_aload_n 98 0 dX11_image_98 rfl rfl ?_
      refine vv_getR 99 dX11_image_99 fl_11_60 rfl (g_l_0 hG43) (g_r_0_8 hG43) ?_
      refine vv_getR 102 dX11_image_102 fl_11_226 rfl (g_l_49 hG43) (g_r_49_3 hG43) ?_
      refine vv_iload_n 105 3 dX11_image_105 rfl rfl ?_
      obtain ⟨k44, h⟩ := sh_chk h
      refine vv_iald 106 dX11_image_106 (g_l_52 hG43) k44 ?_
      obtain ⟨k45, h⟩ := sh_chk h
      refine vn_iast 107 dX11_image_107 (g_l_289 hG43) k45 (fun μ46 eμ46 => ?_)
      rw [sh_let_eq eμ46] at h
      have hG46 : sh_G μ46 := by rw [eμ46]; exact hG43
      refine vv_aload_n 108 0 dX11_image_108 rfl rfl ?_
      refine vv_getR 109 dX11_image_109 fl_11_111 rfl (g_l_0 hG46) (g_r_0_17 hG46) ?_
      refine vv_iload_n 112 2 dX11_image_112 rfl rfl ?_
      refine vv_iconst 113 dX11_image_113 ik_2 ?_
      refine vv_iadd 114 dX11_image_114 ?_
      refine vv_aload_n 115 0 dX11_image_115 rfl rfl ?_
      refine vv_getR 116 dX11_image_116 fl_11_60 rfl (g_l_0 hG46) (g_r_0_8 hG46) ?_
      refine vv_getR 119 dX11_image_119 fl_11_229 rfl (g_l_49 hG46) (g_r_49_4 hG46) ?_
      refine vv_iload_n 122 3 dX11_image_122 rfl rfl ?_
      obtain ⟨k47, h⟩ := sh_chk h
      refine vv_iald 123 dX11_image_123 (g_l_53 hG46) k47 ?_
      obtain ⟨k48, h⟩ := sh_chk h
      refine vn_iast 124 dX11_image_124 (g_l_289 hG46) k48 (fun μ49 eμ49 => ?_)
      rw [sh_let_eq eμ49] at h
      have hG49 : sh_G μ49 := by rw [eμ49]; exact hG46
      refine vv_aload_n 125 0 dX11_image_125 rfl rfl ?_
      refine vv_getR 126 dX11_image_126 fl_11_111 rfl (g_l_0 hG49) (g_r_0_17 hG49) ?_
      refine vv_iload_n 129 2 dX11_image_129 rfl rfl ?_
      refine vv_iconst 130 dX11_image_130 ik_3 ?_
      refine vv_iadd 131 dX11_image_131 ?_
      refine vv_aload_n 132 0 dX11_image_132 rfl rfl ?_
      refine vv_getR 133 dX11_image_133 fl_11_60 rfl (g_l_0 hG49) (g_r_0_8 hG49) ?_
      refine vv_getR 136 dX11_image_136 fl_11_232 rfl (g_l_49 hG49) (g_r_49_5 hG49) ?_
      refine vv_iload_n 139 3 dX11_image_139 rfl rfl ?_
      obtain ⟨k50, h⟩ := sh_chk h
      refine vv_iald 140 dX11_image_140 (g_l_54 hG49) k50 ?_
      obtain ⟨k51, h⟩ := sh_chk h
      refine vn_iast 141 dX11_image_141 (g_l_289 hG49) k51 (fun μ52 eμ52 => ?_)
      rw [sh_let_eq eμ52] at h
      have hG52 : sh_G μ52 := by rw [eμ52]; exact hG49
      refine vv_iincc (lv' := [(2, _), (0, _), (1, _), (3, _)]) 142 2 dX11_image_142 rfl ik_4 (by decide) rfl ?_
      refine vv_iincc (lv' := [(3, _), (2, _), (0, _), (1, _)]) 145 3 dX11_image_145 rfl ik_1 (by decide) rfl ?_
      refine vv_goto 148 65 dX11_image_148 (by decide) ?_
      refine vv_sub [(0, _), (1, _), (2, _), (3, _)] (sh_subm [2, 3, 1, 0] rfl) ?_
      exact ih_65 hG52 h
theorem gp_X11_image {μ μ' : sh_Mem} {v : Int32} (hG : sh_G μ) (h : f_X11_image μ = some (v, μ')) : sh_G μ' := by
  have ih_65 := (gpl_X11_image sh_fuel)
  unfold f_X11_image at h
  obtain ⟨k53, h⟩ := sh_chk h
  obtain ⟨r54, er54⟩ : ∃ y : Nat, y = (sh_ref μ 0 7) := ⟨_, rfl⟩
  rw [sh_let_eq er54] at h
  have k53r : sh_r μ 0 7 = some r54 ∧ (r54 = 8 ∨ r54 = 29) := by rw [er54]; exact k53
  obtain ⟨x55, ex55⟩ : ∃ y : Int32, y = (f_X5_cells μ r54) := ⟨_, rfl⟩
  rw [sh_let_eq ex55] at h
  obtain ⟨μ56, eμ56⟩ : ∃ y : sh_Mem, y = (sh_setI μ 289 (Int32.toNatClampNeg 0) ((sh_i μ 49 0) / 256)) := ⟨_, rfl⟩
  rw [sh_let_eq eμ56] at h
  have hG56 : sh_G μ56 := by rw [eμ56]; exact hG
  obtain ⟨μ57, eμ57⟩ : ∃ y : sh_Mem, y = (sh_setI μ56 289 (Int32.toNatClampNeg 1) ((sh_i μ56 49 0) - (sh_i μ56 49 0) / 256 * 256)) := ⟨_, rfl⟩
  rw [sh_let_eq eμ57] at h
  have hG57 : sh_G μ57 := by rw [eμ57]; exact hG56
  obtain ⟨k58, h⟩ := sh_chk h
  obtain ⟨k59, h⟩ := sh_chk h
  obtain ⟨k60, h⟩ := sh_chk h
  obtain ⟨μ61, eμ61⟩ : ∃ y : sh_Mem, y = (sh_rowI μ57 289 (va_cpy (sh_i μ57 50) (sh_i μ57 289) (Int32.toNatClampNeg 0) (Int32.toNatClampNeg 2) x55.toNatClampNeg)) := ⟨_, rfl⟩
  rw [sh_let_eq eμ61] at h
  have hG61 : sh_G μ61 := by rw [eμ61]; exact hG57
  obtain ⟨x62, ex62⟩ : ∃ y : Int32, y = (2 + x55) := ⟨_, rfl⟩
  rw [sh_let_eq ex62] at h
  exact ih_65 hG61 h
theorem t_X11_image {μ μ' : sh_Mem} {v : Int32} (hG : sh_G μ) (h : f_X11_image μ = some (v, μ')) : sh_C0 l B D ca 2 M_X11_image [.ref 0] μ (fun v0 μ0 => v0 = some (.int v) ∧ μ0 = μ') := by
  have ih_65 := (tl_X11_image (l := l) (B := B) (D := D) (ca := ca) sh_fuel)
  unfold f_X11_image at h
  refine vv_aload_n 0 0 dX11_image_0 rfl rfl ?_
  obtain ⟨k53, h⟩ := sh_chk h
  refine vv_getR 1 dX11_image_1 fl_11_53 rfl (g_l_0 hG) k53.1 ?_
  refine vv_topr (fun r54 er54 => ?_)
  rw [sh_let_eq er54] at h
  have k53r : sh_r μ 0 7 = some r54 ∧ (r54 = 8 ∨ r54 = 29) := by rw [er54]; exact k53
  refine v1_callV [] 4 dX11_image_4 ck_X11_189 (gP_l hG k53r.2) ⟨by decide, rfl⟩ (c_X5_cells (μ := μ) hG k53r.2) (Nat.le_of_ble_eq_true rfl) ⟨Nat.le_of_ble_eq_true rfl, Nat.le_of_ble_eq_true rfl⟩ rfl (Nat.le_of_ble_eq_true rfl) ?_
  refine vv_topi (fun x55 ex55 => ?_)
  rw [sh_let_eq ex55] at h
  refine vv_istore_n (lv' := [(1, _), (0, _)]) 7 1 dX11_image_7 rfl (by decide) rfl ?_
  refine vv_aload_n 8 0 dX11_image_8 rfl rfl ?_
  refine vv_getR 9 dX11_image_9 fl_11_111 rfl (g_l_0 hG) (g_r_0_17 hG) ?_
  refine vv_iconst 12 dX11_image_12 ik_0 ?_
  refine vv_aload_n 13 0 dX11_image_13 rfl rfl ?_
  refine vv_getR 14 dX11_image_14 fl_11_60 rfl (g_l_0 hG) (g_r_0_8 hG) ?_
  refine vv_getI 17 dX11_image_17 fl_11_186 rfl (g_l_49 hG) ?_
  refine vv_sipush 20 dX11_image_20 sk_256 ?_
  refine vv_idiv 23 dX11_image_23 (by decide) ?_
  refine vn_iast 24 dX11_image_24 (g_l_289 hG) (by unfold vp_in; decide) (fun μ56 eμ56 => ?_)
  rw [sh_let_eq eμ56] at h
  have hG56 : sh_G μ56 := by rw [eμ56]; exact hG
  refine vv_aload_n 25 0 dX11_image_25 rfl rfl ?_
  refine vv_getR 26 dX11_image_26 fl_11_111 rfl (g_l_0 hG56) (g_r_0_17 hG56) ?_
  refine vv_iconst 29 dX11_image_29 ik_1 ?_
  refine vv_aload_n 30 0 dX11_image_30 rfl rfl ?_
  refine vv_getR 31 dX11_image_31 fl_11_60 rfl (g_l_0 hG56) (g_r_0_8 hG56) ?_
  refine vv_getI 34 dX11_image_34 fl_11_186 rfl (g_l_49 hG56) ?_
  refine vv_sipush 37 dX11_image_37 sk_256 ?_
  refine vv_irem 40 dX11_image_40 (by decide) ?_
  refine vn_iast 41 dX11_image_41 (g_l_289 hG56) (by unfold vp_in; decide) (fun μ57 eμ57 => ?_)
  rw [sh_let_eq eμ57] at h
  have hG57 : sh_G μ57 := by rw [eμ57]; exact hG56
  refine vv_aload_n 42 0 dX11_image_42 rfl rfl ?_
  refine vv_getR 43 dX11_image_43 fl_11_60 rfl (g_l_0 hG57) (g_r_0_8 hG57) ?_
  refine vv_getR 46 dX11_image_46 fl_11_220 rfl (g_l_49 hG57) (g_r_49_1 hG57) ?_
  refine vv_iconst 49 dX11_image_49 ik_0 ?_
  refine vv_aload_n 50 0 dX11_image_50 rfl rfl ?_
  refine vv_getR 51 dX11_image_51 fl_11_111 rfl (g_l_0 hG57) (g_r_0_17 hG57) ?_
  refine vv_iconst 54 dX11_image_54 ik_2 ?_
  refine vv_iload_n 55 1 dX11_image_55 rfl rfl ?_
  obtain ⟨k58, h⟩ := sh_chk h
  obtain ⟨k59, h⟩ := sh_chk h
  obtain ⟨k60, h⟩ := sh_chk h
  refine vn_copy 56 dX11_image_56 ck_X11_302 (g_l_50 hG57) (g_l_289 hG57) (by decide) (by decide) k58 k59 k60 (Nat.le_of_ble_eq_true rfl) (Nat.le_of_ble_eq_true rfl) (fun μ61 eμ61 => ?_)
  rw [sh_let_eq eμ61] at h
  have hG61 : sh_G μ61 := by rw [eμ61]; exact hG57
  refine vv_iconst 59 dX11_image_59 ik_2 ?_
  refine vv_iload_n 60 1 dX11_image_60 rfl rfl ?_
  refine vv_iadd 61 dX11_image_61 ?_
  refine vv_topi (fun x62 ex62 => ?_)
  rw [sh_let_eq ex62] at h
  refine vv_istore_n (lv' := [(2, _), (1, _), (0, _)]) 62 2 dX11_image_62 rfl (by decide) rfl ?_
  refine vv_iconst 63 dX11_image_63 ik_0 ?_
  refine vv_istore_n (lv' := [(3, _), (2, _), (1, _), (0, _)]) 64 3 dX11_image_64 rfl (by decide) rfl ?_
  refine vv_sub [(0, _), (1, _), (2, _), (3, _)] (sh_subm [3, 2, 1, 0] rfl) ?_
  exact ih_65 hG61 h
noncomputable def F_X11_isImage : Nat → Nat → Int32 → Int32 → Int32 → Int32 → sh_Mem → Option (Int32 × sh_Mem)
  | 0, _, _, _, _, _, _ => none
  | fuel + 1, lbl, i1, i2, i3, i4, μ => match lbl with
    | 1 => (if i2 ≤ i4 then F_X11_isImage fuel 2 i1 i2 i3 i2 μ else (if sh_in i4 1600 then (if (sh_i μ 1 i4.toNatClampNeg) ≤ 99 then F_X11_isImage fuel 1 i1 i2 i3 (i4 + 1) μ else some (0, μ)) else none))
    | 2 => (if i3 ≤ i4 then some (1, μ) else sh_bind (f_X11_isPersonTold i2 i4 μ) (fun y40 μ38 => (if y40 = 0 then some (0, μ38) else F_X11_isImage fuel 2 i1 i2 i3 (i4 + 4) μ38)))
    | _ => none
noncomputable def f_X11_isImage (a1 : Int32) (μ : sh_Mem) : Option (Int32 × sh_Mem) := (if (sh_r μ 0 7 = some (sh_ref μ 0 7) ∧ ((sh_ref μ 0 7) = 8 ∨ (sh_ref μ 0 7) = 29)) then sh_let (sh_ref μ 0 7) (fun r43 => sh_let ((2 + (f_X5_cells μ r43)) : Int32) (fun x44 => (if (sh_r μ 0 7 = some (sh_ref μ 0 7) ∧ ((sh_ref μ 0 7) = 8 ∨ (sh_ref μ 0 7) = 29)) then sh_let (sh_ref μ 0 7) (fun r46 => sh_let ((x44 + ((sh_i μ r46 3) * 4)) : Int32) (fun x47 => sh_bind (f_X11_isPlain μ) (fun y50 μ48 => (if y50 = 0 then some (0, μ48) else (if a1 = (x47 + 1) then (if sh_in x47 1600 then sh_bind (f_X11_checkOf 1 1600 x47 μ48) (fun y56 μ54 => (if (sh_i μ48 1 x47.toNatClampNeg) = y56 then (if (((sh_i μ54 1 (Int32.toNatClampNeg 0)) * 256) + (sh_i μ54 1 (Int32.toNatClampNeg 1))) ≤ 999 then F_X11_isImage sh_fuel 1 a1 x44 x47 2 μ54 else some (0, μ54)) else some (0, μ54))) else none) else some (0, μ48)))))) else none))) else none)
theorem gpl_X11_isImage (fuel : Nat) : (∀ ⦃i1 : Int32⦄ ⦃i2 : Int32⦄ ⦃i3 : Int32⦄ ⦃i4 : Int32⦄ ⦃μ μ' : sh_Mem⦄ ⦃v : Int32⦄, sh_G μ → F_X11_isImage fuel 1 i1 i2 i3 i4 μ = some (v, μ') → sh_G μ') ∧ (∀ ⦃i1 : Int32⦄ ⦃i2 : Int32⦄ ⦃i3 : Int32⦄ ⦃i4 : Int32⦄ ⦃μ μ' : sh_Mem⦄ ⦃v : Int32⦄, sh_G μ → F_X11_isImage fuel 2 i1 i2 i3 i4 μ = some (v, μ') → sh_G μ') := by
  induction fuel with
  | zero => exact ⟨(by intro i1 i2 i3 i4 μ μ' v hG h; cases h), (by intro i1 i2 i3 i4 μ μ' v hG h; cases h)⟩
  | succ fuel ih =>
    obtain ⟨ih_81, ih_110⟩ := ih
    refine ⟨?_, ?_⟩
    · intro i1 i2 i3 i4 μ μ' v hG h
      replace h : ((if i2 ≤ i4 then F_X11_isImage fuel 2 i1 i2 i3 i2 μ else (if sh_in i4 1600 then (if (sh_i μ 1 i4.toNatClampNeg) ≤ 99 then F_X11_isImage fuel 1 i1 i2 i3 (i4 + 1) μ else some (0, μ)) else none)) : Option (Int32 × sh_Mem)) = some (v, μ') := h
      by_cases c34 : i2 ≤ i4
      · rw [if_pos c34] at h
        exact ih_110 hG h
      · rw [if_neg c34] at h
        obtain ⟨k35, h⟩ := sh_chk h
        by_cases c36 : (sh_i μ 1 i4.toNatClampNeg) ≤ 99
        · rw [if_pos c36] at h
          exact ih_81 hG h
        · rw [if_neg c36] at h
          obtain ⟨e1, e2⟩ := sh_some2 h
          exact e2 ▸ hG
    · intro i1 i2 i3 i4 μ μ' v hG h
      replace h : ((if i3 ≤ i4 then some (1, μ) else sh_bind (f_X11_isPersonTold i2 i4 μ) (fun y40 μ38 => (if y40 = 0 then some (0, μ38) else F_X11_isImage fuel 2 i1 i2 i3 (i4 + 4) μ38))) : Option (Int32 × sh_Mem)) = some (v, μ') := h
      by_cases c37 : i3 ≤ i4
      · rw [if_pos c37] at h
        obtain ⟨e1, e2⟩ := sh_some2 h
        exact e2 ▸ hG
      · rw [if_neg c37] at h
        obtain ⟨y40, μ38, hr39, h⟩ := sh_bind_e h
        have hG38 := gp_X11_isPersonTold hG hr39
        by_cases c41 : y40 = 0
        · rw [if_pos c41] at h
          obtain ⟨e1, e2⟩ := sh_some2 h
          exact e2 ▸ hG38
        · rw [if_neg c41] at h
          exact ih_110 hG38 h
theorem tl_X11_isImage (fuel : Nat) : (∀ ⦃i1 : Int32⦄ ⦃i2 : Int32⦄ ⦃i3 : Int32⦄ ⦃i4 : Int32⦄ ⦃μ μ' : sh_Mem⦄ ⦃v : Int32⦄, sh_G μ → F_X11_isImage fuel 1 i1 i2 i3 i4 μ = some (v, μ') → sh_V0 l B D ca 3 M_X11_isImage 81 [(0, .ref 0), (1, .int i1), (2, .int i2), (3, .int i3), (4, .int i4)] [] μ (fun v0 μ0 => v0 = some (.int v) ∧ μ0 = μ')) ∧ (∀ ⦃i1 : Int32⦄ ⦃i2 : Int32⦄ ⦃i3 : Int32⦄ ⦃i4 : Int32⦄ ⦃μ μ' : sh_Mem⦄ ⦃v : Int32⦄, sh_G μ → F_X11_isImage fuel 2 i1 i2 i3 i4 μ = some (v, μ') → sh_V0 l B D ca 3 M_X11_isImage 110 [(0, .ref 0), (1, .int i1), (2, .int i2), (3, .int i3), (4, .int i4)] [] μ (fun v0 μ0 => v0 = some (.int v) ∧ μ0 = μ')) := by
  induction fuel with
  | zero => exact ⟨(by intro i1 i2 i3 i4 μ μ' v hG h; cases h), (by intro i1 i2 i3 i4 μ μ' v hG h; cases h)⟩
  | succ fuel ih =>
    obtain ⟨ih_81, ih_110⟩ := ih
    refine ⟨?_, ?_⟩
    · intro i1 i2 i3 i4 μ μ' v hG h
      replace h : ((if i2 ≤ i4 then F_X11_isImage fuel 2 i1 i2 i3 i2 μ else (if sh_in i4 1600 then (if (sh_i μ 1 i4.toNatClampNeg) ≤ 99 then F_X11_isImage fuel 1 i1 i2 i3 (i4 + 1) μ else some (0, μ)) else none)) : Option (Int32 × sh_Mem)) = some (v, μ') := h
      refine vv_iload 81 4 dX11_isImage_81 rfl ?_
      refine vv_iload_n 83 2 dX11_isImage_83 rfl rfl ?_
      refine vv_icmp_ge 84 107 dX11_isImage_84 (by decide) (fun c34 => ?_) (fun c34 => ?_)
      · rw [if_pos c34] at h
        refine vv_iload_n 107 2 dX11_isImage_107 rfl rfl ?_
        refine vv_istore (lv' := [(4, _), (0, _), (1, _), (2, _), (3, _)]) 108 4 dX11_isImage_108 (by decide) rfl ?_
        refine vv_sub [(0, _), (1, _), (2, _), (3, _), (4, _)] (sh_subm [1, 2, 3, 4, 0] rfl) ?_
        exact ih_110 hG h
      · rw [if_neg c34] at h
        refine vv_aload_n 87 0 dX11_isImage_87 rfl rfl ?_
        refine vv_getR 88 dX11_isImage_88 fl_11_9 rfl (g_l_0 hG) (g_r_0_0 hG) ?_
        refine vv_iload 91 4 dX11_isImage_91 rfl ?_
        obtain ⟨k35, h⟩ := sh_chk h
        refine vv_iald 93 dX11_isImage_93 (g_l_1 hG) k35 ?_
        refine vv_bipush 94 dX11_isImage_94 bk_99 ?_
        refine vv_icmp_le 96 101 dX11_isImage_96 (by decide) (fun c36 => ?_) (fun c36 => ?_)
        · rw [if_pos c36] at h
          refine vv_iincc (lv' := [(4, _), (0, _), (1, _), (2, _), (3, _)]) 101 4 dX11_isImage_101 rfl ik_1 (by decide) rfl ?_
          refine vv_goto 104 81 dX11_isImage_104 (by decide) ?_
          refine vv_sub [(0, _), (1, _), (2, _), (3, _), (4, _)] (sh_subm [1, 2, 3, 4, 0] rfl) ?_
          exact ih_81 hG h
        · rw [if_neg c36] at h
          refine vv_iconst 99 dX11_isImage_99 ik_0 ?_
          obtain ⟨e1, e2⟩ := sh_some2 h
          refine vv_zret 100 dX11_isImage_100 rfl rfl (Nat.le_refl _) (Nat.le_refl _) ⟨by rw [e1], e2⟩
    · intro i1 i2 i3 i4 μ μ' v hG h
      replace h : ((if i3 ≤ i4 then some (1, μ) else sh_bind (f_X11_isPersonTold i2 i4 μ) (fun y40 μ38 => (if y40 = 0 then some (0, μ38) else F_X11_isImage fuel 2 i1 i2 i3 (i4 + 4) μ38))) : Option (Int32 × sh_Mem)) = some (v, μ') := h
      refine vv_iload 110 4 dX11_isImage_110 rfl ?_
      refine vv_iload_n 112 3 dX11_isImage_112 rfl rfl ?_
      refine vv_icmp_ge 113 134 dX11_isImage_113 (by decide) (fun c37 => ?_) (fun c37 => ?_)
      · rw [if_pos c37] at h
        refine vv_iconst 134 dX11_isImage_134 ik_1 ?_
        obtain ⟨e1, e2⟩ := sh_some2 h
        refine vv_zret 135 dX11_isImage_135 rfl rfl (Nat.le_refl _) (Nat.le_refl _) ⟨by rw [e1], e2⟩
      · rw [if_neg c37] at h
        refine vv_aload_n 116 0 dX11_isImage_116 rfl rfl ?_
        refine vv_iload_n 117 2 dX11_isImage_117 rfl rfl ?_
        refine vv_iload 118 4 dX11_isImage_118 rfl ?_
        obtain ⟨y40, μ38, hr39, h⟩ := sh_bind_e h
        refine v1_callV [_, _] 120 dX11_isImage_120 ck_X11_408 (g_l_0 hG) ⟨by decide, rfl⟩ (t_X11_isPersonTold hG hr39) (Nat.le_of_ble_eq_true rfl) ⟨Nat.le_of_ble_eq_true rfl, Nat.le_of_ble_eq_true rfl⟩ rfl (Nat.le_of_ble_eq_true rfl) ?_
        have hG38 := gp_X11_isPersonTold hG hr39
        refine vv_if_ne 123 128 dX11_isImage_123 (by decide) (fun c41 => ?_) (fun c41 => ?_)
        · rw [if_neg c41] at h
          refine vv_iincc (lv' := [(4, _), (0, _), (1, _), (2, _), (3, _)]) 128 4 dX11_isImage_128 rfl ik_4 (by decide) rfl ?_
          refine vv_goto 131 110 dX11_isImage_131 (by decide) ?_
          refine vv_sub [(0, _), (1, _), (2, _), (3, _), (4, _)] (sh_subm [1, 2, 3, 4, 0] rfl) ?_
          exact ih_110 hG38 h
        · rw [if_pos c41] at h
          refine vv_iconst 126 dX11_isImage_126 ik_0 ?_
          obtain ⟨e1, e2⟩ := sh_some2 h
          refine vv_zret 127 dX11_isImage_127 rfl rfl (Nat.le_refl _) (Nat.le_refl _) ⟨by rw [e1], e2⟩
theorem gp_X11_isImage {a1 : Int32} {μ μ' : sh_Mem} {v : Int32} (hG : sh_G μ) (h : f_X11_isImage a1 μ = some (v, μ')) : sh_G μ' := by
  have ih_81 := (gpl_X11_isImage sh_fuel).1
  have ih_110 := (gpl_X11_isImage sh_fuel).2
  unfold f_X11_isImage at h
  obtain ⟨k42, h⟩ := sh_chk h
  obtain ⟨r43, er43⟩ : ∃ y : Nat, y = (sh_ref μ 0 7) := ⟨_, rfl⟩
  rw [sh_let_eq er43] at h
  have k42r : sh_r μ 0 7 = some r43 ∧ (r43 = 8 ∨ r43 = 29) := by rw [er43]; exact k42
  obtain ⟨x44, ex44⟩ : ∃ y : Int32, y = (2 + (f_X5_cells μ r43)) := ⟨_, rfl⟩
  rw [sh_let_eq ex44] at h
  obtain ⟨k45, h⟩ := sh_chk h
  obtain ⟨r46, er46⟩ : ∃ y : Nat, y = (sh_ref μ 0 7) := ⟨_, rfl⟩
  rw [sh_let_eq er46] at h
  have k45r : sh_r μ 0 7 = some r46 ∧ (r46 = 8 ∨ r46 = 29) := by rw [er46]; exact k45
  obtain ⟨x47, ex47⟩ : ∃ y : Int32, y = (x44 + ((sh_i μ r46 3) * 4)) := ⟨_, rfl⟩
  rw [sh_let_eq ex47] at h
  obtain ⟨y50, μ48, hr49, h⟩ := sh_bind_e h
  have hG48 := gp_X11_isPlain hG hr49
  by_cases c51 : y50 = 0
  · rw [if_pos c51] at h
    obtain ⟨e1, e2⟩ := sh_some2 h
    exact e2 ▸ hG48
  · rw [if_neg c51] at h
    by_cases c52 : a1 = (x47 + 1)
    · rw [if_pos c52] at h
      obtain ⟨k53, h⟩ := sh_chk h
      obtain ⟨y56, μ54, hr55, h⟩ := sh_bind_e h
      have hG54 := gp_X11_checkOf hG48 (sh_LAYat_1) hr55
      by_cases c57 : (sh_i μ48 1 x47.toNatClampNeg) = y56
      · rw [if_pos c57] at h
        by_cases c58 : (((sh_i μ54 1 (Int32.toNatClampNeg 0)) * 256) + (sh_i μ54 1 (Int32.toNatClampNeg 1))) ≤ 999
        · rw [if_pos c58] at h
          exact ih_81 hG54 h
        · rw [if_neg c58] at h
          obtain ⟨e1, e2⟩ := sh_some2 h
          exact e2 ▸ hG54
      · rw [if_neg c57] at h
        obtain ⟨e1, e2⟩ := sh_some2 h
        exact e2 ▸ hG54
    · rw [if_neg c52] at h
      obtain ⟨e1, e2⟩ := sh_some2 h
      exact e2 ▸ hG48
theorem t_X11_isImage {a1 : Int32} {μ μ' : sh_Mem} {v : Int32} (hG : sh_G μ) (h : f_X11_isImage a1 μ = some (v, μ')) : sh_C0 l B D ca 3 M_X11_isImage [.ref 0, .int a1] μ (fun v0 μ0 => v0 = some (.int v) ∧ μ0 = μ') := by
  have ih_81 := (tl_X11_isImage (l := l) (B := B) (D := D) (ca := ca) sh_fuel).1
  have ih_110 := (tl_X11_isImage (l := l) (B := B) (D := D) (ca := ca) sh_fuel).2
  unfold f_X11_isImage at h
  refine vv_iconst 0 dX11_isImage_0 ik_2 ?_
  refine vv_aload_n 1 0 dX11_isImage_1 rfl rfl ?_
  obtain ⟨k42, h⟩ := sh_chk h
  refine vv_getR 2 dX11_isImage_2 fl_11_53 rfl (g_l_0 hG) k42.1 ?_
  refine vv_topr (fun r43 er43 => ?_)
  rw [sh_let_eq er43] at h
  have k42r : sh_r μ 0 7 = some r43 ∧ (r43 = 8 ∨ r43 = 29) := by rw [er43]; exact k42
  refine v1_callV [] 5 dX11_isImage_5 ck_X11_189 (gP_l hG k42r.2) ⟨by decide, rfl⟩ (c_X5_cells (μ := μ) hG k42r.2) (Nat.le_of_ble_eq_true rfl) ⟨Nat.le_of_ble_eq_true rfl, Nat.le_of_ble_eq_true rfl⟩ rfl (Nat.le_of_ble_eq_true rfl) ?_
  refine vv_iadd 8 dX11_isImage_8 ?_
  refine vv_topi (fun x44 ex44 => ?_)
  rw [sh_let_eq ex44] at h
  refine vv_istore_n (lv' := [(2, _), (0, _), (1, _)]) 9 2 dX11_isImage_9 rfl (by decide) rfl ?_
  refine vv_iload_n 10 2 dX11_isImage_10 rfl rfl ?_
  refine vv_aload_n 11 0 dX11_isImage_11 rfl rfl ?_
  obtain ⟨k45, h⟩ := sh_chk h
  refine vv_getR 12 dX11_isImage_12 fl_11_53 rfl (g_l_0 hG) k45.1 ?_
  refine vv_topr (fun r46 er46 => ?_)
  rw [sh_let_eq er46] at h
  have k45r : sh_r μ 0 7 = some r46 ∧ (r46 = 8 ∨ r46 = 29) := by rw [er46]; exact k45
  refine vv_getI 15 dX11_isImage_15 fl_11_180 rfl (gP_l hG k45r.2) ?_
  refine vv_iconst 18 dX11_isImage_18 ik_4 ?_
  refine vv_imul 19 dX11_isImage_19 ?_
  refine vv_iadd 20 dX11_isImage_20 ?_
  refine vv_topi (fun x47 ex47 => ?_)
  rw [sh_let_eq ex47] at h
  refine vv_istore_n (lv' := [(3, _), (2, _), (0, _), (1, _)]) 21 3 dX11_isImage_21 rfl (by decide) rfl ?_
  refine vv_aload_n 22 0 dX11_isImage_22 rfl rfl ?_
  obtain ⟨y50, μ48, hr49, h⟩ := sh_bind_e h
  refine v1_callV [] 23 dX11_isImage_23 ck_X11_248 (g_l_0 hG) ⟨by decide, rfl⟩ (t_X11_isPlain hG hr49) (Nat.le_of_ble_eq_true rfl) ⟨Nat.le_of_ble_eq_true rfl, Nat.le_of_ble_eq_true rfl⟩ rfl (Nat.le_of_ble_eq_true rfl) ?_
  have hG48 := gp_X11_isPlain hG hr49
  refine vv_if_eq 26 76 dX11_isImage_26 (by decide) (fun c51 => ?_) (fun c51 => ?_)
  · rw [if_pos c51] at h
    refine vv_iconst 76 dX11_isImage_76 ik_0 ?_
    obtain ⟨e1, e2⟩ := sh_some2 h
    refine vv_zret 77 dX11_isImage_77 rfl rfl (Nat.le_refl _) (Nat.le_refl _) ⟨by rw [e1], e2⟩
  · rw [if_neg c51] at h
    refine vv_iload_n 29 1 dX11_isImage_29 rfl rfl ?_
    refine vv_iload_n 30 3 dX11_isImage_30 rfl rfl ?_
    refine vv_iconst 31 dX11_isImage_31 ik_1 ?_
    refine vv_iadd 32 dX11_isImage_32 ?_
    refine vv_icmp_ne 33 76 dX11_isImage_33 (by decide) (fun c52 => ?_) (fun c52 => ?_)
    · rw [if_neg c52] at h
      refine vv_iconst 76 dX11_isImage_76 ik_0 ?_
      obtain ⟨e1, e2⟩ := sh_some2 h
      refine vv_zret 77 dX11_isImage_77 rfl rfl (Nat.le_refl _) (Nat.le_refl _) ⟨by rw [e1], e2⟩
    · rw [if_pos c52] at h
      refine vv_aload_n 36 0 dX11_isImage_36 rfl rfl ?_
      refine vv_getR 37 dX11_isImage_37 fl_11_9 rfl (g_l_0 hG48) (g_r_0_0 hG48) ?_
      refine vv_iload_n 40 3 dX11_isImage_40 rfl rfl ?_
      obtain ⟨k53, h⟩ := sh_chk h
      refine vv_iald 41 dX11_isImage_41 (g_l_1 hG48) k53 ?_
      refine vv_aload_n 42 0 dX11_isImage_42 rfl rfl ?_
      refine vv_getR 43 dX11_isImage_43 fl_11_9 rfl (g_l_0 hG48) (g_r_0_0 hG48) ?_
      refine vv_iload_n 46 3 dX11_isImage_46 rfl rfl ?_
      obtain ⟨y56, μ54, hr55, h⟩ := sh_bind_e h
      refine v1_callS [_, _] 47 dX11_isImage_47 ck_X11_398 (t_X11_checkOf hG48 (sh_LAYat_1) hr55) (Nat.le_of_ble_eq_true rfl) ⟨Nat.le_of_ble_eq_true rfl, Nat.le_of_ble_eq_true rfl⟩ rfl (Nat.le_of_ble_eq_true rfl) ?_
      have hG54 := gp_X11_checkOf hG48 (sh_LAYat_1) hr55
      refine vv_icmp_ne 50 76 dX11_isImage_50 (by decide) (fun c57 => ?_) (fun c57 => ?_)
      · rw [if_neg c57] at h
        refine vv_iconst 76 dX11_isImage_76 ik_0 ?_
        obtain ⟨e1, e2⟩ := sh_some2 h
        refine vv_zret 77 dX11_isImage_77 rfl rfl (Nat.le_refl _) (Nat.le_refl _) ⟨by rw [e1], e2⟩
      · rw [if_pos c57] at h
        refine vv_aload_n 53 0 dX11_isImage_53 rfl rfl ?_
        refine vv_getR 54 dX11_isImage_54 fl_11_9 rfl (g_l_0 hG54) (g_r_0_0 hG54) ?_
        refine vv_iconst 57 dX11_isImage_57 ik_0 ?_
        refine vv_iald 58 dX11_isImage_58 (g_l_1 hG54) (by unfold vp_in; decide) ?_
        refine vv_sipush 59 dX11_isImage_59 sk_256 ?_
        refine vv_imul 62 dX11_isImage_62 ?_
        refine vv_aload_n 63 0 dX11_isImage_63 rfl rfl ?_
        refine vv_getR 64 dX11_isImage_64 fl_11_9 rfl (g_l_0 hG54) (g_r_0_0 hG54) ?_
        refine vv_iconst 67 dX11_isImage_67 ik_1 ?_
        refine vv_iald 68 dX11_isImage_68 (g_l_1 hG54) (by unfold vp_in; decide) ?_
        refine vv_iadd 69 dX11_isImage_69 ?_
        refine vv_sipush 70 dX11_isImage_70 sk_999 ?_
        refine vv_icmp_le 73 78 dX11_isImage_73 (by decide) (fun c58 => ?_) (fun c58 => ?_)
        · rw [if_pos c58] at h
          refine vv_iconst 78 dX11_isImage_78 ik_2 ?_
          refine vv_istore (lv' := [(4, _), (3, _), (2, _), (0, _), (1, _)]) 79 4 dX11_isImage_79 (by decide) rfl ?_
          refine vv_sub [(0, _), (1, _), (2, _), (3, _), (4, _)] (sh_subm [3, 4, 2, 1, 0] rfl) ?_
          exact ih_81 hG54 h
        · rw [if_neg c58] at h
          refine vv_iconst 76 dX11_isImage_76 ik_0 ?_
          obtain ⟨e1, e2⟩ := sh_some2 h
          refine vv_zret 77 dX11_isImage_77 rfl rfl (Nat.le_refl _) (Nat.le_refl _) ⟨by rw [e1], e2⟩
noncomputable def F_X1_value : Nat → Nat → Nat → Nat → Int32 → Int32 → sh_Mem → Option (Int64 × sh_Mem)
  | 0, _, _, _, _, _, _ => none
  | fuel + 1, lbl, r0, r1, i2, i3, μ => match lbl with
    | 1 => (if (sh_i μ r0 1) ≤ i3 then (if i2 ≤ 0 then some (0, μ) else some ((sh_l μ (r0 + 2) (Int32.toNatClampNeg 0)), μ)) else (if (Int32.ofNat 1600) ≤ i3 then (if i2 ≤ 0 then some (0, μ) else some ((sh_l μ (r0 + 2) (Int32.toNatClampNeg 0)), μ)) else (if 64 ≤ i2 then (if i2 ≤ 0 then some (0, μ) else some ((sh_l μ (r0 + 2) (Int32.toNatClampNeg 0)), μ)) else (if sh_in i3 1600 then sh_let (((-1) - (sh_i μ (r0 + 1) i3.toNatClampNeg)) : Int32) (fun x57 => (if 0 ≤ x57 then (if (f_X1_isFact μ x57) = 0 then (if x57 = 23 then (if i2 ≤ 0 then F_X1_value fuel 1 r0 r1 i2 (i3 + 1) μ else (if sh_in (i2 - 1) 64 then sh_bind (f_X1_ofOne x57 (sh_l μ (r0 + 2) ((i2 - 1)).toNatClampNeg) r1 μ) (fun y65 μ63 => (if sh_in (i2 - 1) 64 then sh_let (sh_setL μ63 (r0 + 2) ((i2 - 1)).toNatClampNeg y65) (fun μ67 => F_X1_value fuel 1 r0 r1 i2 (i3 + 1) μ67) else none)) else none)) else (if x57 = 7 then (if i2 ≤ 0 then F_X1_value fuel 1 r0 r1 i2 (i3 + 1) μ else (if sh_in (i2 - 1) 64 then sh_bind (f_X1_ofOne x57 (sh_l μ (r0 + 2) ((i2 - 1)).toNatClampNeg) r1 μ) (fun y73 μ71 => (if sh_in (i2 - 1) 64 then sh_let (sh_setL μ71 (r0 + 2) ((i2 - 1)).toNatClampNeg y73) (fun μ75 => F_X1_value fuel 1 r0 r1 i2 (i3 + 1) μ75) else none)) else none)) else (if x57 = 10 then (if i2 ≤ 0 then F_X1_value fuel 1 r0 r1 i2 (i3 + 1) μ else (if sh_in (i2 - 1) 64 then sh_bind (f_X1_ofOne x57 (sh_l μ (r0 + 2) ((i2 - 1)).toNatClampNeg) r1 μ) (fun y90 μ88 => (if sh_in (i2 - 1) 64 then sh_let (sh_setL μ88 (r0 + 2) ((i2 - 1)).toNatClampNeg y90) (fun μ92 => F_X1_value fuel 1 r0 r1 i2 (i3 + 1) μ92) else none)) else none)) else (if i2 ≤ 1 then F_X1_value fuel 1 r0 r1 i2 (i3 + 1) μ else (if sh_in i3 1600 then (if sh_in ((i2 + (-1)) - 1) 64 then (if sh_in (i2 + (-1)) 64 then sh_bind (f_X1_ofTwo (sh_i μ (r0 + 1) i3.toNatClampNeg) (sh_l μ (r0 + 2) (((i2 + (-1)) - 1)).toNatClampNeg) (sh_l μ (r0 + 2) ((i2 + (-1))).toNatClampNeg) μ) (fun y83 μ81 => (if sh_in ((i2 + (-1)) - 1) 64 then sh_let (sh_setL μ81 (r0 + 2) (((i2 + (-1)) - 1)).toNatClampNeg y83) (fun μ85 => F_X1_value fuel 1 r0 r1 (i2 + (-1)) (i3 + 1) μ85) else none)) else none) else none) else none))))) else (if sh_in x57 38 then (if sh_in i2 64 then sh_let (sh_setL μ (r0 + 2) i2.toNatClampNeg ((sh_i μ r1 x57.toNatClampNeg)).toInt64) (fun μ95 => F_X1_value fuel 1 r0 r1 (i2 + 1) (i3 + 1) μ95) else none) else none)) else (if sh_in i3 1600 then (if sh_in i2 64 then sh_let (sh_setL μ (r0 + 2) i2.toNatClampNeg ((sh_i μ (r0 + 1) i3.toNatClampNeg)).toInt64) (fun μ98 => F_X1_value fuel 1 r0 r1 (i2 + 1) (i3 + 1) μ98) else none) else none))) else none))))
    | _ => none
noncomputable def f_X1_value (f : Nat) (g : Nat) (μ : sh_Mem) : Option (Int64 × sh_Mem) := F_X1_value sh_fuel 1 f g 0 0 μ
theorem gpl_X1_value (fuel : Nat) : (∀ ⦃r0 : Nat⦄ ⦃r1 : Nat⦄ ⦃i2 : Int32⦄ ⦃i3 : Int32⦄ ⦃μ μ' : sh_Mem⦄ ⦃v : Int64⦄, sh_G μ → sh_isF r0 → sh_LAY[r1]? = some (13, 38) → F_X1_value fuel 1 r0 r1 i2 i3 μ = some (v, μ') → sh_G μ') := by
  induction fuel with
  | zero => intro r0 r1 i2 i3 μ μ' v hG hr0 hr1 h; cases h
  | succ fuel ih =>
    have ih_4 := ih
    intro r0 r1 i2 i3 μ μ' v hG hr0 hr1 h
    replace h : ((if (sh_i μ r0 1) ≤ i3 then (if i2 ≤ 0 then some (0, μ) else some ((sh_l μ (r0 + 2) (Int32.toNatClampNeg 0)), μ)) else (if (Int32.ofNat 1600) ≤ i3 then (if i2 ≤ 0 then some (0, μ) else some ((sh_l μ (r0 + 2) (Int32.toNatClampNeg 0)), μ)) else (if 64 ≤ i2 then (if i2 ≤ 0 then some (0, μ) else some ((sh_l μ (r0 + 2) (Int32.toNatClampNeg 0)), μ)) else (if sh_in i3 1600 then sh_let (((-1) - (sh_i μ (r0 + 1) i3.toNatClampNeg)) : Int32) (fun x57 => (if 0 ≤ x57 then (if (f_X1_isFact μ x57) = 0 then (if x57 = 23 then (if i2 ≤ 0 then F_X1_value fuel 1 r0 r1 i2 (i3 + 1) μ else (if sh_in (i2 - 1) 64 then sh_bind (f_X1_ofOne x57 (sh_l μ (r0 + 2) ((i2 - 1)).toNatClampNeg) r1 μ) (fun y65 μ63 => (if sh_in (i2 - 1) 64 then sh_let (sh_setL μ63 (r0 + 2) ((i2 - 1)).toNatClampNeg y65) (fun μ67 => F_X1_value fuel 1 r0 r1 i2 (i3 + 1) μ67) else none)) else none)) else (if x57 = 7 then (if i2 ≤ 0 then F_X1_value fuel 1 r0 r1 i2 (i3 + 1) μ else (if sh_in (i2 - 1) 64 then sh_bind (f_X1_ofOne x57 (sh_l μ (r0 + 2) ((i2 - 1)).toNatClampNeg) r1 μ) (fun y73 μ71 => (if sh_in (i2 - 1) 64 then sh_let (sh_setL μ71 (r0 + 2) ((i2 - 1)).toNatClampNeg y73) (fun μ75 => F_X1_value fuel 1 r0 r1 i2 (i3 + 1) μ75) else none)) else none)) else (if x57 = 10 then (if i2 ≤ 0 then F_X1_value fuel 1 r0 r1 i2 (i3 + 1) μ else (if sh_in (i2 - 1) 64 then sh_bind (f_X1_ofOne x57 (sh_l μ (r0 + 2) ((i2 - 1)).toNatClampNeg) r1 μ) (fun y90 μ88 => (if sh_in (i2 - 1) 64 then sh_let (sh_setL μ88 (r0 + 2) ((i2 - 1)).toNatClampNeg y90) (fun μ92 => F_X1_value fuel 1 r0 r1 i2 (i3 + 1) μ92) else none)) else none)) else (if i2 ≤ 1 then F_X1_value fuel 1 r0 r1 i2 (i3 + 1) μ else (if sh_in i3 1600 then (if sh_in ((i2 + (-1)) - 1) 64 then (if sh_in (i2 + (-1)) 64 then sh_bind (f_X1_ofTwo (sh_i μ (r0 + 1) i3.toNatClampNeg) (sh_l μ (r0 + 2) (((i2 + (-1)) - 1)).toNatClampNeg) (sh_l μ (r0 + 2) ((i2 + (-1))).toNatClampNeg) μ) (fun y83 μ81 => (if sh_in ((i2 + (-1)) - 1) 64 then sh_let (sh_setL μ81 (r0 + 2) (((i2 + (-1)) - 1)).toNatClampNeg y83) (fun μ85 => F_X1_value fuel 1 r0 r1 (i2 + (-1)) (i3 + 1) μ85) else none)) else none) else none) else none))))) else (if sh_in x57 38 then (if sh_in i2 64 then sh_let (sh_setL μ (r0 + 2) i2.toNatClampNeg ((sh_i μ r1 x57.toNatClampNeg)).toInt64) (fun μ95 => F_X1_value fuel 1 r0 r1 (i2 + 1) (i3 + 1) μ95) else none) else none)) else (if sh_in i3 1600 then (if sh_in i2 64 then sh_let (sh_setL μ (r0 + 2) i2.toNatClampNeg ((sh_i μ (r0 + 1) i3.toNatClampNeg)).toInt64) (fun μ98 => F_X1_value fuel 1 r0 r1 (i2 + 1) (i3 + 1) μ98) else none) else none))) else none)))) : Option (Int64 × sh_Mem)) = some (v, μ') := h
    by_cases c50 : (sh_i μ r0 1) ≤ i3
    · rw [if_pos c50] at h
      by_cases c51 : i2 ≤ 0
      · rw [if_pos c51] at h
        obtain ⟨e1, e2⟩ := sh_some2 h
        exact e2 ▸ hG
      · rw [if_neg c51] at h
        obtain ⟨e1, e2⟩ := sh_some2 h
        exact e2 ▸ hG
    · rw [if_neg c50] at h
      by_cases c52 : (Int32.ofNat 1600) ≤ i3
      · rw [if_pos c52] at h
        by_cases c53 : i2 ≤ 0
        · rw [if_pos c53] at h
          obtain ⟨e1, e2⟩ := sh_some2 h
          exact e2 ▸ hG
        · rw [if_neg c53] at h
          obtain ⟨e1, e2⟩ := sh_some2 h
          exact e2 ▸ hG
      · rw [if_neg c52] at h
        by_cases c54 : 64 ≤ i2
        · rw [if_pos c54] at h
          by_cases c55 : i2 ≤ 0
          · rw [if_pos c55] at h
            obtain ⟨e1, e2⟩ := sh_some2 h
            exact e2 ▸ hG
          · rw [if_neg c55] at h
            obtain ⟨e1, e2⟩ := sh_some2 h
            exact e2 ▸ hG
        · rw [if_neg c54] at h
          obtain ⟨k56, h⟩ := sh_chk h
          obtain ⟨x57, ex57⟩ : ∃ y : Int32, y = ((-1) - (sh_i μ (r0 + 1) i3.toNatClampNeg)) := ⟨_, rfl⟩
          rw [sh_let_eq ex57] at h
          by_cases c58 : 0 ≤ x57
          · rw [if_pos c58] at h
            by_cases c59 : (f_X1_isFact μ x57) = 0
            · rw [if_pos c59] at h
              by_cases c60 : x57 = 23
              · rw [if_pos c60] at h
                by_cases c61 : i2 ≤ 0
                · rw [if_pos c61] at h
                  exact ih_4 hG hr0 hr1 h
                · rw [if_neg c61] at h
                  obtain ⟨k62, h⟩ := sh_chk h
                  obtain ⟨y65, μ63, hr64, h⟩ := sh_bind_e h
                  have hG63 := gp_X1_ofOne hG hr1 hr64
                  obtain ⟨k66, h⟩ := sh_chk h
                  obtain ⟨μ67, eμ67⟩ : ∃ y : sh_Mem, y = (sh_setL μ63 (r0 + 2) ((i2 - 1)).toNatClampNeg y65) := ⟨_, rfl⟩
                  rw [sh_let_eq eμ67] at h
                  have hG67 : sh_G μ67 := by rw [eμ67]; exact hG63
                  exact ih_4 hG67 hr0 hr1 h
              · rw [if_neg c60] at h
                by_cases c68 : x57 = 7
                · rw [if_pos c68] at h
                  by_cases c69 : i2 ≤ 0
                  · rw [if_pos c69] at h
                    exact ih_4 hG hr0 hr1 h
                  · rw [if_neg c69] at h
                    obtain ⟨k70, h⟩ := sh_chk h
                    obtain ⟨y73, μ71, hr72, h⟩ := sh_bind_e h
                    have hG71 := gp_X1_ofOne hG hr1 hr72
                    obtain ⟨k74, h⟩ := sh_chk h
                    obtain ⟨μ75, eμ75⟩ : ∃ y : sh_Mem, y = (sh_setL μ71 (r0 + 2) ((i2 - 1)).toNatClampNeg y73) := ⟨_, rfl⟩
                    rw [sh_let_eq eμ75] at h
                    have hG75 : sh_G μ75 := by rw [eμ75]; exact hG71
                    exact ih_4 hG75 hr0 hr1 h
                · rw [if_neg c68] at h
                  by_cases c76 : x57 = 10
                  · rw [if_pos c76] at h
                    by_cases c86 : i2 ≤ 0
                    · rw [if_pos c86] at h
                      exact ih_4 hG hr0 hr1 h
                    · rw [if_neg c86] at h
                      obtain ⟨k87, h⟩ := sh_chk h
                      obtain ⟨y90, μ88, hr89, h⟩ := sh_bind_e h
                      have hG88 := gp_X1_ofOne hG hr1 hr89
                      obtain ⟨k91, h⟩ := sh_chk h
                      obtain ⟨μ92, eμ92⟩ : ∃ y : sh_Mem, y = (sh_setL μ88 (r0 + 2) ((i2 - 1)).toNatClampNeg y90) := ⟨_, rfl⟩
                      rw [sh_let_eq eμ92] at h
                      have hG92 : sh_G μ92 := by rw [eμ92]; exact hG88
                      exact ih_4 hG92 hr0 hr1 h
                  · rw [if_neg c76] at h
                    by_cases c77 : i2 ≤ 1
                    · rw [if_pos c77] at h
                      exact ih_4 hG hr0 hr1 h
                    · rw [if_neg c77] at h
                      obtain ⟨k78, h⟩ := sh_chk h
                      obtain ⟨k79, h⟩ := sh_chk h
                      obtain ⟨k80, h⟩ := sh_chk h
                      obtain ⟨y83, μ81, hr82, h⟩ := sh_bind_e h
                      have hG81 := gp_X1_ofTwo hG hr82
                      obtain ⟨k84, h⟩ := sh_chk h
                      obtain ⟨μ85, eμ85⟩ : ∃ y : sh_Mem, y = (sh_setL μ81 (r0 + 2) (((i2 + (-1)) - 1)).toNatClampNeg y83) := ⟨_, rfl⟩
                      rw [sh_let_eq eμ85] at h
                      have hG85 : sh_G μ85 := by rw [eμ85]; exact hG81
                      exact ih_4 hG85 hr0 hr1 h
            · rw [if_neg c59] at h
              obtain ⟨k93, h⟩ := sh_chk h
              obtain ⟨k94, h⟩ := sh_chk h
              obtain ⟨μ95, eμ95⟩ : ∃ y : sh_Mem, y = (sh_setL μ (r0 + 2) i2.toNatClampNeg ((sh_i μ r1 x57.toNatClampNeg)).toInt64) := ⟨_, rfl⟩
              rw [sh_let_eq eμ95] at h
              have hG95 : sh_G μ95 := by rw [eμ95]; exact hG
              exact ih_4 hG95 hr0 hr1 h
          · rw [if_neg c58] at h
            obtain ⟨k96, h⟩ := sh_chk h
            obtain ⟨k97, h⟩ := sh_chk h
            obtain ⟨μ98, eμ98⟩ : ∃ y : sh_Mem, y = (sh_setL μ (r0 + 2) i2.toNatClampNeg ((sh_i μ (r0 + 1) i3.toNatClampNeg)).toInt64) := ⟨_, rfl⟩
            rw [sh_let_eq eμ98] at h
            have hG98 : sh_G μ98 := by rw [eμ98]; exact hG
            exact ih_4 hG98 hr0 hr1 h
theorem tl_X1_value (fuel : Nat) : (∀ ⦃r0 : Nat⦄ ⦃r1 : Nat⦄ ⦃i2 : Int32⦄ ⦃i3 : Int32⦄ ⦃μ μ' : sh_Mem⦄ ⦃v : Int64⦄, sh_G μ → sh_isF r0 → sh_LAY[r1]? = some (13, 38) → F_X1_value fuel 1 r0 r1 i2 i3 μ = some (v, μ') → sh_V0 l B D ca 3 M_X1_value 4 [(0, .ref r0), (1, .ref r1), (2, .int i2), (3, .int i3)] [] μ (fun v0 μ0 => v0 = some (.long v) ∧ μ0 = μ')) := by
  induction fuel with
  | zero => intro r0 r1 i2 i3 μ μ' v hG hr0 hr1 h; cases h
  | succ fuel ih =>
    have ih_4 := ih
    intro r0 r1 i2 i3 μ μ' v hG hr0 hr1 h
    replace h : ((if (sh_i μ r0 1) ≤ i3 then (if i2 ≤ 0 then some (0, μ) else some ((sh_l μ (r0 + 2) (Int32.toNatClampNeg 0)), μ)) else (if (Int32.ofNat 1600) ≤ i3 then (if i2 ≤ 0 then some (0, μ) else some ((sh_l μ (r0 + 2) (Int32.toNatClampNeg 0)), μ)) else (if 64 ≤ i2 then (if i2 ≤ 0 then some (0, μ) else some ((sh_l μ (r0 + 2) (Int32.toNatClampNeg 0)), μ)) else (if sh_in i3 1600 then sh_let (((-1) - (sh_i μ (r0 + 1) i3.toNatClampNeg)) : Int32) (fun x57 => (if 0 ≤ x57 then (if (f_X1_isFact μ x57) = 0 then (if x57 = 23 then (if i2 ≤ 0 then F_X1_value fuel 1 r0 r1 i2 (i3 + 1) μ else (if sh_in (i2 - 1) 64 then sh_bind (f_X1_ofOne x57 (sh_l μ (r0 + 2) ((i2 - 1)).toNatClampNeg) r1 μ) (fun y65 μ63 => (if sh_in (i2 - 1) 64 then sh_let (sh_setL μ63 (r0 + 2) ((i2 - 1)).toNatClampNeg y65) (fun μ67 => F_X1_value fuel 1 r0 r1 i2 (i3 + 1) μ67) else none)) else none)) else (if x57 = 7 then (if i2 ≤ 0 then F_X1_value fuel 1 r0 r1 i2 (i3 + 1) μ else (if sh_in (i2 - 1) 64 then sh_bind (f_X1_ofOne x57 (sh_l μ (r0 + 2) ((i2 - 1)).toNatClampNeg) r1 μ) (fun y73 μ71 => (if sh_in (i2 - 1) 64 then sh_let (sh_setL μ71 (r0 + 2) ((i2 - 1)).toNatClampNeg y73) (fun μ75 => F_X1_value fuel 1 r0 r1 i2 (i3 + 1) μ75) else none)) else none)) else (if x57 = 10 then (if i2 ≤ 0 then F_X1_value fuel 1 r0 r1 i2 (i3 + 1) μ else (if sh_in (i2 - 1) 64 then sh_bind (f_X1_ofOne x57 (sh_l μ (r0 + 2) ((i2 - 1)).toNatClampNeg) r1 μ) (fun y90 μ88 => (if sh_in (i2 - 1) 64 then sh_let (sh_setL μ88 (r0 + 2) ((i2 - 1)).toNatClampNeg y90) (fun μ92 => F_X1_value fuel 1 r0 r1 i2 (i3 + 1) μ92) else none)) else none)) else (if i2 ≤ 1 then F_X1_value fuel 1 r0 r1 i2 (i3 + 1) μ else (if sh_in i3 1600 then (if sh_in ((i2 + (-1)) - 1) 64 then (if sh_in (i2 + (-1)) 64 then sh_bind (f_X1_ofTwo (sh_i μ (r0 + 1) i3.toNatClampNeg) (sh_l μ (r0 + 2) (((i2 + (-1)) - 1)).toNatClampNeg) (sh_l μ (r0 + 2) ((i2 + (-1))).toNatClampNeg) μ) (fun y83 μ81 => (if sh_in ((i2 + (-1)) - 1) 64 then sh_let (sh_setL μ81 (r0 + 2) (((i2 + (-1)) - 1)).toNatClampNeg y83) (fun μ85 => F_X1_value fuel 1 r0 r1 (i2 + (-1)) (i3 + 1) μ85) else none)) else none) else none) else none))))) else (if sh_in x57 38 then (if sh_in i2 64 then sh_let (sh_setL μ (r0 + 2) i2.toNatClampNeg ((sh_i μ r1 x57.toNatClampNeg)).toInt64) (fun μ95 => F_X1_value fuel 1 r0 r1 (i2 + 1) (i3 + 1) μ95) else none) else none)) else (if sh_in i3 1600 then (if sh_in i2 64 then sh_let (sh_setL μ (r0 + 2) i2.toNatClampNeg ((sh_i μ (r0 + 1) i3.toNatClampNeg)).toInt64) (fun μ98 => F_X1_value fuel 1 r0 r1 (i2 + 1) (i3 + 1) μ98) else none) else none))) else none)))) : Option (Int64 × sh_Mem)) = some (v, μ') := h
    refine vv_iload_n 4 3 dX1_value_4 rfl rfl ?_
    refine vv_aload_n 5 0 dX1_value_5 rfl rfl ?_
    refine vv_getI 6 dX1_value_6 fl_1_19 rfl (gF_l hG hr0) ?_
    refine vv_icmp_ge 9 181 dX1_value_9 (by decide) (fun c50 => ?_) (fun c50 => ?_)
    · rw [if_pos c50] at h
      refine vv_iload_n 181 2 dX1_value_181 rfl rfl ?_
      refine vv_if_le 182 194 dX1_value_182 (by decide) (fun c51 => ?_) (fun c51 => ?_)
      · rw [if_pos c51] at h
        refine vv_lconst 194 dX1_value_194 lk_0 ?_
        obtain ⟨e1, e2⟩ := sh_some2 h
        refine vv_lret 195 dX1_value_195 rfl (Nat.le_refl _) (Nat.le_refl _) ⟨by rw [e1], e2⟩
      · rw [if_neg c51] at h
        refine vv_aload_n 185 0 dX1_value_185 rfl rfl ?_
        refine vv_getR 186 dX1_value_186 fl_1_15 rfl (gF_l hG hr0) (gF_r2 hG hr0) ?_
        refine vv_iconst 189 dX1_value_189 ik_0 ?_
        refine vv_lald 190 dX1_value_190 (gA_l hG (gFA2 hr0)) (by unfold vp_in; decide) ?_
        refine vv_goto 191 195 dX1_value_191 (by decide) ?_
        obtain ⟨e1, e2⟩ := sh_some2 h
        refine vv_lret 195 dX1_value_195 rfl (Nat.le_refl _) (Nat.le_refl _) ⟨by rw [e1], e2⟩
    · rw [if_neg c50] at h
      refine vv_iload_n 12 3 dX1_value_12 rfl rfl ?_
      refine vv_aload_n 13 0 dX1_value_13 rfl rfl ?_
      refine vv_getR 14 dX1_value_14 fl_1_9 rfl (gF_l hG hr0) (gF_r0 hG hr0) ?_
      refine vv_alen 17 dX1_value_17 (gA_l hG (gFA0 hr0)) (by decide) ?_
      refine vv_icmp_ge 18 181 dX1_value_18 (by decide) (fun c52 => ?_) (fun c52 => ?_)
      · rw [if_pos c52] at h
        refine vv_iload_n 181 2 dX1_value_181 rfl rfl ?_
        refine vv_if_le 182 194 dX1_value_182 (by decide) (fun c53 => ?_) (fun c53 => ?_)
        · rw [if_pos c53] at h
          refine vv_lconst 194 dX1_value_194 lk_0 ?_
          obtain ⟨e1, e2⟩ := sh_some2 h
          refine vv_lret 195 dX1_value_195 rfl (Nat.le_refl _) (Nat.le_refl _) ⟨by rw [e1], e2⟩
        · rw [if_neg c53] at h
          refine vv_aload_n 185 0 dX1_value_185 rfl rfl ?_
          refine vv_getR 186 dX1_value_186 fl_1_15 rfl (gF_l hG hr0) (gF_r2 hG hr0) ?_
          refine vv_iconst 189 dX1_value_189 ik_0 ?_
          refine vv_lald 190 dX1_value_190 (gA_l hG (gFA2 hr0)) (by unfold vp_in; decide) ?_
          refine vv_goto 191 195 dX1_value_191 (by decide) ?_
          obtain ⟨e1, e2⟩ := sh_some2 h
          refine vv_lret 195 dX1_value_195 rfl (Nat.le_refl _) (Nat.le_refl _) ⟨by rw [e1], e2⟩
      · rw [if_neg c52] at h
        refine vv_iload_n 21 2 dX1_value_21 rfl rfl ?_
        refine vv_bipush 22 dX1_value_22 bk_64 ?_
        refine vv_icmp_ge 24 181 dX1_value_24 (by decide) (fun c54 => ?_) (fun c54 => ?_)
        · rw [if_pos c54] at h
          refine vv_iload_n 181 2 dX1_value_181 rfl rfl ?_
          refine vv_if_le 182 194 dX1_value_182 (by decide) (fun c55 => ?_) (fun c55 => ?_)
          · rw [if_pos c55] at h
            refine vv_lconst 194 dX1_value_194 lk_0 ?_
            obtain ⟨e1, e2⟩ := sh_some2 h
            refine vv_lret 195 dX1_value_195 rfl (Nat.le_refl _) (Nat.le_refl _) ⟨by rw [e1], e2⟩
          · rw [if_neg c55] at h
            refine vv_aload_n 185 0 dX1_value_185 rfl rfl ?_
            refine vv_getR 186 dX1_value_186 fl_1_15 rfl (gF_l hG hr0) (gF_r2 hG hr0) ?_
            refine vv_iconst 189 dX1_value_189 ik_0 ?_
            refine vv_lald 190 dX1_value_190 (gA_l hG (gFA2 hr0)) (by unfold vp_in; decide) ?_
            refine vv_goto 191 195 dX1_value_191 (by decide) ?_
            obtain ⟨e1, e2⟩ := sh_some2 h
            refine vv_lret 195 dX1_value_195 rfl (Nat.le_refl _) (Nat.le_refl _) ⟨by rw [e1], e2⟩
        · rw [if_neg c54] at h
          refine vv_iconst 27 dX1_value_27 ik_m1 ?_
          refine vv_aload_n 28 0 dX1_value_28 rfl rfl ?_
          refine vv_getR 29 dX1_value_29 fl_1_9 rfl (gF_l hG hr0) (gF_r0 hG hr0) ?_
          refine vv_iload_n 32 3 dX1_value_32 rfl rfl ?_
          obtain ⟨k56, h⟩ := sh_chk h
          refine vv_iald 33 dX1_value_33 (gA_l hG (gFA0 hr0)) k56 ?_
          refine vv_isub 34 dX1_value_34 ?_
          refine vv_topi (fun x57 ex57 => ?_)
          rw [sh_let_eq ex57] at h
          refine vv_istore (lv' := [(4, _), (0, _), (1, _), (2, _), (3, _)]) 35 4 dX1_value_35 (by decide) rfl ?_
          refine vv_iload 37 4 dX1_value_37 rfl ?_
          refine vv_if_ge 39 61 dX1_value_39 (by decide) (fun c58 => ?_) (fun c58 => ?_)
          · rw [if_pos c58] at h
            refine vv_iload 61 4 dX1_value_61 rfl ?_
            refine v1_callS [_] 63 dX1_value_63 ck_X1_27 (c_X1_isFact (μ := μ) hG) (Nat.le_of_ble_eq_true rfl) ⟨Nat.le_of_ble_eq_true rfl, Nat.le_of_ble_eq_true rfl⟩ rfl (Nat.le_of_ble_eq_true rfl) ?_
            refine vv_if_eq 66 86 dX1_value_66 (by decide) (fun c59 => ?_) (fun c59 => ?_)
            · rw [if_pos c59] at h
              refine vv_iload 86 4 dX1_value_86 rfl ?_
              refine vv_bipush 88 dX1_value_88 bk_23 ?_
              refine vv_icmp_eq 90 107 dX1_value_90 (by decide) (fun c60 => ?_) (fun c60 => ?_)
              · rw [if_pos c60] at h
                refine vv_iload_n 107 2 dX1_value_107 rfl rfl ?_
                refine vv_if_le 108 175 dX1_value_108 (by decide) (fun c61 => ?_) (fun c61 => ?_)
                · rw [if_pos c61] at h
                  refine vv_iincc (lv' := [(3, _), (4, _), (0, _), (1, _), (2, _)]) 175 3 dX1_value_175 rfl ik_1 (by decide) rfl ?_
                  refine vv_goto 178 4 dX1_value_178 (by decide) ?_
                  refine vv_sub [(0, _), (1, _), (2, _), (3, _)] (sh_subm [2, 3, 4, 0] rfl) ?_
                  exact ih_4 hG hr0 hr1 h
                · rw [if_neg c61] at h
                  refine vv_aload_n 111 0 dX1_value_111 rfl rfl ?_
                  refine vv_getR 112 dX1_value_112 fl_1_15 rfl (gF_l hG hr0) (gF_r2 hG hr0) ?_
                  refine vv_iload_n 115 2 dX1_value_115 rfl rfl ?_
                  refine vv_iconst 116 dX1_value_116 ik_1 ?_
                  refine vv_isub 117 dX1_value_117 ?_
                  refine vv_iload 118 4 dX1_value_118 rfl ?_
                  refine vv_aload_n 120 0 dX1_value_120 rfl rfl ?_
                  refine vv_getR 121 dX1_value_121 fl_1_15 rfl (gF_l hG hr0) (gF_r2 hG hr0) ?_
                  refine vv_iload_n 124 2 dX1_value_124 rfl rfl ?_
                  refine vv_iconst 125 dX1_value_125 ik_1 ?_
                  refine vv_isub 126 dX1_value_126 ?_
                  obtain ⟨k62, h⟩ := sh_chk h
                  refine vv_lald 127 dX1_value_127 (gA_l hG (gFA2 hr0)) k62 ?_
                  refine vv_aload_n 128 1 dX1_value_128 rfl rfl ?_
                  obtain ⟨y65, μ63, hr64, h⟩ := sh_bind_e h
                  refine v1_callS [_, _, _] 129 dX1_value_129 ck_X1_31 (t_X1_ofOne hG hr1 hr64) (Nat.le_of_ble_eq_true rfl) ⟨Nat.le_of_ble_eq_true rfl, Nat.le_of_ble_eq_true rfl⟩ rfl (Nat.le_of_ble_eq_true rfl) ?_
                  have hG63 := gp_X1_ofOne hG hr1 hr64
                  obtain ⟨k66, h⟩ := sh_chk h
                  refine vn_last 132 dX1_value_132 (gA_l hG63 (gFA2 hr0)) k66 (fun μ67 eμ67 => ?_)
                  rw [sh_let_eq eμ67] at h
                  have hG67 : sh_G μ67 := by rw [eμ67]; exact hG63
                  refine vv_goto 133 175 dX1_value_133 (by decide) ?_
                  refine vv_iincc (lv' := [(3, _), (4, _), (0, _), (1, _), (2, _)]) 175 3 dX1_value_175 rfl ik_1 (by decide) rfl ?_
                  refine vv_goto 178 4 dX1_value_178 (by decide) ?_
                  refine vv_sub [(0, _), (1, _), (2, _), (3, _)] (sh_subm [2, 3, 4, 0] rfl) ?_
                  exact ih_4 hG67 hr0 hr1 h
              · rw [if_neg c60] at h
                refine vv_iload 93 4 dX1_value_93 rfl ?_
                refine vv_bipush 95 dX1_value_95 bk_7 ?_
                refine vv_icmp_eq 97 107 dX1_value_97 (by decide) (fun c68 => ?_) (fun c68 => ?_)
                · rw [if_pos c68] at h
                  refine vv_iload_n 107 2 dX1_value_107 rfl rfl ?_
                  refine vv_if_le 108 175 dX1_value_108 (by decide) (fun c69 => ?_) (fun c69 => ?_)
                  · rw [if_pos c69] at h
                    refine vv_iincc (lv' := [(3, _), (4, _), (0, _), (1, _), (2, _)]) 175 3 dX1_value_175 rfl ik_1 (by decide) rfl ?_
                    refine vv_goto 178 4 dX1_value_178 (by decide) ?_
                    refine vv_sub [(0, _), (1, _), (2, _), (3, _)] (sh_subm [2, 3, 4, 0] rfl) ?_
                    exact ih_4 hG hr0 hr1 h
                  · rw [if_neg c69] at h
                    refine vv_aload_n 111 0 dX1_value_111 rfl rfl ?_
                    refine vv_getR 112 dX1_value_112 fl_1_15 rfl (gF_l hG hr0) (gF_r2 hG hr0) ?_
                    refine vv_iload_n 115 2 dX1_value_115 rfl rfl ?_
                    refine vv_iconst 116 dX1_value_116 ik_1 ?_
                    refine vv_isub 117 dX1_value_117 ?_
                    refine vv_iload 118 4 dX1_value_118 rfl ?_
                    refine vv_aload_n 120 0 dX1_value_120 rfl rfl ?_
                    refine vv_getR 121 dX1_value_121 fl_1_15 rfl (gF_l hG hr0) (gF_r2 hG hr0) ?_
                    refine vv_iload_n 124 2 dX1_value_124 rfl rfl ?_
                    refine vv_iconst 125 dX1_value_125 ik_1 ?_
                    refine vv_isub 126 dX1_value_126 ?_
                    obtain ⟨k70, h⟩ := sh_chk h
                    refine vv_lald 127 dX1_value_127 (gA_l hG (gFA2 hr0)) k70 ?_
                    refine vv_aload_n 128 1 dX1_value_128 rfl rfl ?_
                    obtain ⟨y73, μ71, hr72, h⟩ := sh_bind_e h
                    refine v1_callS [_, _, _] 129 dX1_value_129 ck_X1_31 (t_X1_ofOne hG hr1 hr72) (Nat.le_of_ble_eq_true rfl) ⟨Nat.le_of_ble_eq_true rfl, Nat.le_of_ble_eq_true rfl⟩ rfl (Nat.le_of_ble_eq_true rfl) ?_
                    have hG71 := gp_X1_ofOne hG hr1 hr72
                    obtain ⟨k74, h⟩ := sh_chk h
                    refine vn_last 132 dX1_value_132 (gA_l hG71 (gFA2 hr0)) k74 (fun μ75 eμ75 => ?_)
                    rw [sh_let_eq eμ75] at h
                    have hG75 : sh_G μ75 := by rw [eμ75]; exact hG71
                    refine vv_goto 133 175 dX1_value_133 (by decide) ?_
                    refine vv_iincc (lv' := [(3, _), (4, _), (0, _), (1, _), (2, _)]) 175 3 dX1_value_175 rfl ik_1 (by decide) rfl ?_
                    refine vv_goto 178 4 dX1_value_178 (by decide) ?_
                    refine vv_sub [(0, _), (1, _), (2, _), (3, _)] (sh_subm [2, 3, 4, 0] rfl) ?_
                    exact ih_4 hG75 hr0 hr1 h
                · rw [if_neg c68] at h
                  refine vv_iload 100 4 dX1_value_100 rfl ?_
                  refine vv_bipush 102 dX1_value_102 bk_10 ?_
                  refine vv_icmp_ne 104 136 dX1_value_104 (by decide) (fun c76 => ?_) (fun c76 => ?_)
                  · rw [if_neg c76] at h
                    refine vv_iload_n 136 2 dX1_value_136 rfl rfl ?_
                    refine vv_iconst 137 dX1_value_137 ik_1 ?_
                    refine vv_icmp_le 138 175 dX1_value_138 (by decide) (fun c77 => ?_) (fun c77 => ?_)
                    · rw [if_pos c77] at h
                      refine vv_iincc (lv' := [(3, _), (4, _), (0, _), (1, _), (2, _)]) 175 3 dX1_value_175 rfl ik_1 (by decide) rfl ?_
                      refine vv_goto 178 4 dX1_value_178 (by decide) ?_
                      refine vv_sub [(0, _), (1, _), (2, _), (3, _)] (sh_subm [2, 3, 4, 0] rfl) ?_
                      exact ih_4 hG hr0 hr1 h
                    · rw [if_neg c77] at h
                      refine vv_iincc (lv' := [(2, _), (4, _), (0, _), (1, _), (3, _)]) 141 2 dX1_value_141 rfl ik_m1 (by decide) rfl ?_
                      refine vv_aload_n 144 0 dX1_value_144 rfl rfl ?_
                      refine vv_getR 145 dX1_value_145 fl_1_15 rfl (gF_l hG hr0) (gF_r2 hG hr0) ?_
                      refine vv_iload_n 148 2 dX1_value_148 rfl rfl ?_
                      refine vv_iconst 149 dX1_value_149 ik_1 ?_
                      refine vv_isub 150 dX1_value_150 ?_
                      refine vv_aload_n 151 0 dX1_value_151 rfl rfl ?_
                      refine vv_getR 152 dX1_value_152 fl_1_9 rfl (gF_l hG hr0) (gF_r0 hG hr0) ?_
                      refine vv_iload_n 155 3 dX1_value_155 rfl rfl ?_
                      obtain ⟨k78, h⟩ := sh_chk h
                      refine vv_iald 156 dX1_value_156 (gA_l hG (gFA0 hr0)) k78 ?_
                      refine vv_aload_n 157 0 dX1_value_157 rfl rfl ?_
                      refine vv_getR 158 dX1_value_158 fl_1_15 rfl (gF_l hG hr0) (gF_r2 hG hr0) ?_
                      refine vv_iload_n 161 2 dX1_value_161 rfl rfl ?_
                      refine vv_iconst 162 dX1_value_162 ik_1 ?_
                      refine vv_isub 163 dX1_value_163 ?_
                      obtain ⟨k79, h⟩ := sh_chk h
                      refine vv_lald 164 dX1_value_164 (gA_l hG (gFA2 hr0)) k79 ?_
                      refine vv_aload_n 165 0 dX1_value_165 rfl rfl ?_
                      refine vv_getR 166 dX1_value_166 fl_1_15 rfl (gF_l hG hr0) (gF_r2 hG hr0) ?_
                      refine vv_iload_n 169 2 dX1_value_169 rfl rfl ?_
                      obtain ⟨k80, h⟩ := sh_chk h
                      refine vv_lald 170 dX1_value_170 (gA_l hG (gFA2 hr0)) k80 ?_
                      obtain ⟨y83, μ81, hr82, h⟩ := sh_bind_e h
                      refine v1_callS [_, _, _] 171 dX1_value_171 ck_X1_35 (t_X1_ofTwo hG hr82) (Nat.le_of_ble_eq_true rfl) ⟨Nat.le_of_ble_eq_true rfl, Nat.le_of_ble_eq_true rfl⟩ rfl (Nat.le_of_ble_eq_true rfl) ?_
                      have hG81 := gp_X1_ofTwo hG hr82
                      obtain ⟨k84, h⟩ := sh_chk h
                      refine vn_last 174 dX1_value_174 (gA_l hG81 (gFA2 hr0)) k84 (fun μ85 eμ85 => ?_)
                      rw [sh_let_eq eμ85] at h
                      have hG85 : sh_G μ85 := by rw [eμ85]; exact hG81
                      refine vv_iincc (lv' := [(3, _), (2, _), (4, _), (0, _), (1, _)]) 175 3 dX1_value_175 rfl ik_1 (by decide) rfl ?_
                      refine vv_goto 178 4 dX1_value_178 (by decide) ?_
                      refine vv_sub [(0, _), (1, _), (2, _), (3, _)] (sh_subm [3, 4, 1, 0] rfl) ?_
                      exact ih_4 hG85 hr0 hr1 h
                  · rw [if_pos c76] at h
                    refine vv_iload_n 107 2 dX1_value_107 rfl rfl ?_
                    refine vv_if_le 108 175 dX1_value_108 (by decide) (fun c86 => ?_) (fun c86 => ?_)
                    · rw [if_pos c86] at h
                      refine vv_iincc (lv' := [(3, _), (4, _), (0, _), (1, _), (2, _)]) 175 3 dX1_value_175 rfl ik_1 (by decide) rfl ?_
                      refine vv_goto 178 4 dX1_value_178 (by decide) ?_
                      refine vv_sub [(0, _), (1, _), (2, _), (3, _)] (sh_subm [2, 3, 4, 0] rfl) ?_
                      exact ih_4 hG hr0 hr1 h
                    · rw [if_neg c86] at h
                      refine vv_aload_n 111 0 dX1_value_111 rfl rfl ?_
                      refine vv_getR 112 dX1_value_112 fl_1_15 rfl (gF_l hG hr0) (gF_r2 hG hr0) ?_
                      refine vv_iload_n 115 2 dX1_value_115 rfl rfl ?_
                      refine vv_iconst 116 dX1_value_116 ik_1 ?_
                      refine vv_isub 117 dX1_value_117 ?_
                      refine vv_iload 118 4 dX1_value_118 rfl ?_
                      refine vv_aload_n 120 0 dX1_value_120 rfl rfl ?_
                      refine vv_getR 121 dX1_value_121 fl_1_15 rfl (gF_l hG hr0) (gF_r2 hG hr0) ?_
                      refine vv_iload_n 124 2 dX1_value_124 rfl rfl ?_
                      refine vv_iconst 125 dX1_value_125 ik_1 ?_
                      refine vv_isub 126 dX1_value_126 ?_
                      obtain ⟨k87, h⟩ := sh_chk h
                      refine vv_lald 127 dX1_value_127 (gA_l hG (gFA2 hr0)) k87 ?_
                      refine vv_aload_n 128 1 dX1_value_128 rfl rfl ?_
                      obtain ⟨y90, μ88, hr89, h⟩ := sh_bind_e h
                      refine v1_callS [_, _, _] 129 dX1_value_129 ck_X1_31 (t_X1_ofOne hG hr1 hr89) (Nat.le_of_ble_eq_true rfl) ⟨Nat.le_of_ble_eq_true rfl, Nat.le_of_ble_eq_true rfl⟩ rfl (Nat.le_of_ble_eq_true rfl) ?_
                      have hG88 := gp_X1_ofOne hG hr1 hr89
                      obtain ⟨k91, h⟩ := sh_chk h
                      refine vn_last 132 dX1_value_132 (gA_l hG88 (gFA2 hr0)) k91 (fun μ92 eμ92 => ?_)
                      rw [sh_let_eq eμ92] at h
                      have hG92 : sh_G μ92 := by rw [eμ92]; exact hG88
                      refine vv_goto 133 175 dX1_value_133 (by decide) ?_
                      refine vv_iincc (lv' := [(3, _), (4, _), (0, _), (1, _), (2, _)]) 175 3 dX1_value_175 rfl ik_1 (by decide) rfl ?_
                      refine vv_goto 178 4 dX1_value_178 (by decide) ?_
                      refine vv_sub [(0, _), (1, _), (2, _), (3, _)] (sh_subm [2, 3, 4, 0] rfl) ?_
                      exact ih_4 hG92 hr0 hr1 h
            · rw [if_neg c59] at h
              refine vv_aload_n 69 0 dX1_value_69 rfl rfl ?_
              refine vv_getR 70 dX1_value_70 fl_1_15 rfl (gF_l hG hr0) (gF_r2 hG hr0) ?_
              refine vv_iload_n 73 2 dX1_value_73 rfl rfl ?_
              refine vv_aload_n 74 1 dX1_value_74 rfl rfl ?_
              refine vv_iload 75 4 dX1_value_75 rfl ?_
              obtain ⟨k93, h⟩ := sh_chk h
              refine vv_iald 77 dX1_value_77 (gA_l hG hr1) k93 ?_
              refine vv_i2l 78 dX1_value_78 ?_
              obtain ⟨k94, h⟩ := sh_chk h
              refine vn_last 79 dX1_value_79 (gA_l hG (gFA2 hr0)) k94 (fun μ95 eμ95 => ?_)
              rw [sh_let_eq eμ95] at h
              have hG95 : sh_G μ95 := by rw [eμ95]; exact hG
              refine vv_iincc (lv' := [(2, _), (4, _), (0, _), (1, _), (3, _)]) 80 2 dX1_value_80 rfl ik_1 (by decide) rfl ?_
              refine vv_goto 83 175 dX1_value_83 (by decide) ?_
              refine vv_iincc (lv' := [(3, _), (2, _), (4, _), (0, _), (1, _)]) 175 3 dX1_value_175 rfl ik_1 (by decide) rfl ?_
              refine vv_goto 178 4 dX1_value_178 (by decide) ?_
              refine vv_sub [(0, _), (1, _), (2, _), (3, _)] (sh_subm [3, 4, 1, 0] rfl) ?_
              exact ih_4 hG95 hr0 hr1 h
          · rw [if_neg c58] at h
            refine vv_aload_n 42 0 dX1_value_42 rfl rfl ?_
            refine vv_getR 43 dX1_value_43 fl_1_15 rfl (gF_l hG hr0) (gF_r2 hG hr0) ?_
            refine vv_iload_n 46 2 dX1_value_46 rfl rfl ?_
            refine vv_aload_n 47 0 dX1_value_47 rfl rfl ?_
            refine vv_getR 48 dX1_value_48 fl_1_9 rfl (gF_l hG hr0) (gF_r0 hG hr0) ?_
            refine vv_iload_n 51 3 dX1_value_51 rfl rfl ?_
            obtain ⟨k96, h⟩ := sh_chk h
            refine vv_iald 52 dX1_value_52 (gA_l hG (gFA0 hr0)) k96 ?_
            refine vv_i2l 53 dX1_value_53 ?_
            obtain ⟨k97, h⟩ := sh_chk h
            refine vn_last 54 dX1_value_54 (gA_l hG (gFA2 hr0)) k97 (fun μ98 eμ98 => ?_)
            rw [sh_let_eq eμ98] at h
            have hG98 : sh_G μ98 := by rw [eμ98]; exact hG
            refine vv_iincc (lv' := [(2, _), (4, _), (0, _), (1, _), (3, _)]) 55 2 dX1_value_55 rfl ik_1 (by decide) rfl ?_
            refine vv_goto 58 175 dX1_value_58 (by decide) ?_
            refine vv_iincc (lv' := [(3, _), (2, _), (4, _), (0, _), (1, _)]) 175 3 dX1_value_175 rfl ik_1 (by decide) rfl ?_
            refine vv_goto 178 4 dX1_value_178 (by decide) ?_
            refine vv_sub [(0, _), (1, _), (2, _), (3, _)] (sh_subm [3, 4, 1, 0] rfl) ?_
            exact ih_4 hG98 hr0 hr1 h
theorem gp_X1_value {f : Nat} {g : Nat} {μ μ' : sh_Mem} {v : Int64} (hG : sh_G μ) (hf : sh_isF f) (hg : sh_LAY[g]? = some (13, 38)) (h : f_X1_value f g μ = some (v, μ')) : sh_G μ' := by
  have ih_4 := (gpl_X1_value sh_fuel)
  unfold f_X1_value at h
  exact ih_4 hG hf hg h
theorem t_X1_value {f : Nat} {g : Nat} {μ μ' : sh_Mem} {v : Int64} (hG : sh_G μ) (hf : sh_isF f) (hg : sh_LAY[g]? = some (13, 38)) (h : f_X1_value f g μ = some (v, μ')) : sh_C0 l B D ca 3 M_X1_value [.ref f, .ref g] μ (fun v0 μ0 => v0 = some (.long v) ∧ μ0 = μ') := by
  have ih_4 := (tl_X1_value (l := l) (B := B) (D := D) (ca := ca) sh_fuel)
  unfold f_X1_value at h
  refine vv_iconst 0 dX1_value_0 ik_0 ?_
  refine vv_istore_n (lv' := [(2, _), (0, _), (1, _)]) 1 2 dX1_value_1 rfl (by decide) rfl ?_
  refine vv_iconst 2 dX1_value_2 ik_0 ?_
  refine vv_istore_n (lv' := [(3, _), (2, _), (0, _), (1, _)]) 3 3 dX1_value_3 rfl (by decide) rfl ?_
  refine vv_sub [(0, _), (1, _), (2, _), (3, _)] (sh_subm [2, 3, 1, 0] rfl) ?_
  exact ih_4 hG hf hg h
noncomputable def f_X2_opens (a1 : Int32) (μ : sh_Mem) : Option (Int32 × sh_Mem) := (if a1 < 6 then sh_bindv (f_X8_advance μ) (fun μ2 => some (1, μ2)) else sh_bind (f_X8_fails 4 (sh_i μ 2 4) μ) (fun y7 μ5 => (if y7 = 0 ∨ y7 = 1 then some (y7, μ5) else none)))
theorem gp_X2_opens {a1 : Int32} {μ μ' : sh_Mem} {v : Int32} (hG : sh_G μ) (h : f_X2_opens a1 μ = some (v, μ')) : sh_G μ' := by
  unfold f_X2_opens at h
  by_cases c1 : a1 < 6
  · rw [if_pos c1] at h
    obtain ⟨μ2, hr3, h⟩ := sh_bindv_e h
    have hG2 := gp_X8_advance hG hr3
    obtain ⟨e1, e2⟩ := sh_some2 h
    exact e2 ▸ hG2
  · rw [if_neg c1] at h
    obtain ⟨y7, μ5, hr6, h⟩ := sh_bind_e h
    have hG5 := gp_X8_fails hG hr6
    obtain ⟨k8, h⟩ := sh_chk h
    obtain ⟨e1, e2⟩ := sh_some2 h
    exact e2 ▸ hG5
theorem t_X2_opens {a1 : Int32} {μ μ' : sh_Mem} {v : Int32} (hG : sh_G μ) (h : f_X2_opens a1 μ = some (v, μ')) : sh_C0 l B D ca 8 M_X2_opens [.ref 6, .int a1] μ (fun v0 μ0 => v0 = some (.int v) ∧ μ0 = μ') := by
  unfold f_X2_opens at h
  refine vv_iload_n 0 1 dX2_opens_0 rfl rfl ?_
  refine vv_bipush 1 dX2_opens_1 bk_6 ?_
  refine vv_icmp_lt 3 22 dX2_opens_3 (by decide) (fun c1 => ?_) (fun c1 => ?_)
  · rw [if_pos c1] at h
    refine vv_aload_n 22 0 dX2_opens_22 rfl rfl ?_
    refine vv_getR 23 dX2_opens_23 fl_2_9 rfl (g_l_6 hG) (g_r_6_0 hG) ?_
    obtain ⟨μ2, hr3, h⟩ := sh_bindv_e h
    refine v1_callV [] 26 dX2_opens_26 ck_X2_43 (g_l_2 hG) ⟨by decide, rfl⟩ (t_X8_advance hG hr3) (Nat.le_of_ble_eq_true rfl) ⟨Nat.le_of_ble_eq_true rfl, Nat.le_of_ble_eq_true rfl⟩ rfl (Nat.le_of_ble_eq_true rfl) ?_
    have hG2 := gp_X8_advance hG hr3
    refine vv_iconst 29 dX2_opens_29 ik_1 ?_
    obtain ⟨e1, e2⟩ := sh_some2 h
    refine vv_zret 30 dX2_opens_30 rfl rfl (Nat.le_refl _) (Nat.le_refl _) ⟨by rw [e1], e2⟩
  · rw [if_neg c1] at h
    refine vv_aload_n 6 0 dX2_opens_6 rfl rfl ?_
    refine vv_getR 7 dX2_opens_7 fl_2_9 rfl (g_l_6 hG) (g_r_6_0 hG) ?_
    refine vv_iconst 10 dX2_opens_10 ik_4 ?_
    refine vv_aload_n 11 0 dX2_opens_11 rfl rfl ?_
    refine vv_getR 12 dX2_opens_12 fl_2_9 rfl (g_l_6 hG) (g_r_6_0 hG) ?_
    refine vv_getI 15 dX2_opens_15 fl_2_36 rfl (g_l_2 hG) ?_
    obtain ⟨y7, μ5, hr6, h⟩ := sh_bind_e h
    refine v1_callV [_, _] 18 dX2_opens_18 ck_X2_39 (g_l_2 hG) ⟨by decide, rfl⟩ (t_X8_fails hG hr6) (Nat.le_of_ble_eq_true rfl) ⟨Nat.le_of_ble_eq_true rfl, Nat.le_of_ble_eq_true rfl⟩ rfl (Nat.le_of_ble_eq_true rfl) ?_
    have hG5 := gp_X8_fails hG hr6
    obtain ⟨k8, h⟩ := sh_chk h
    obtain ⟨e1, e2⟩ := sh_some2 h
    refine vv_zret 21 dX2_opens_21 rfl (sh_nb k8) (Nat.le_refl _) (Nat.le_refl _) ⟨by rw [e1], e2⟩
noncomputable def f_X6_readPlain (μ : sh_Mem) : Option (Int32 × sh_Mem) := sh_bind (f_X8_takesWord 0 μ) (fun y3 μ1 => (if y3 = 0 then some (0, μ1) else sh_bind (f_X8_takeNumber 3 7 μ1) (fun y7 μ5 => (if y7 = (-1) then some (0, μ5) else sh_bind (f_X8_takesWord 1 μ5) (fun y11 μ9 => (if y11 = 0 then some (0, μ9) else sh_bind (f_X8_takeNumber 3 7 μ9) (fun y15 μ13 => (if y15 = (-1) then some (0, μ13) else sh_bind (f_X8_takesMark 59 μ13) (fun y19 μ17 => (if y19 = 0 then some (0, μ17) else (if (sh_r μ17 7 2 = some (sh_ref μ17 7 2) ∧ ((sh_ref μ17 7 2) = 8 ∨ (sh_ref μ17 7 2) = 29)) then sh_let (sh_ref μ17 7 2) (fun r22 => sh_let (sh_setI μ17 r22 0 y7) (fun μ23 => (if (sh_r μ23 7 2 = some (sh_ref μ23 7 2) ∧ ((sh_ref μ23 7 2) = 8 ∨ (sh_ref μ23 7 2) = 29)) then sh_let (sh_ref μ23 7 2) (fun r25 => sh_let (sh_setI μ23 r25 1 y15) (fun μ26 => some (1, μ26))) else none))) else none)))))))))))
theorem gp_X6_readPlain {μ μ' : sh_Mem} {v : Int32} (hG : sh_G μ) (h : f_X6_readPlain μ = some (v, μ')) : sh_G μ' := by
  unfold f_X6_readPlain at h
  obtain ⟨y3, μ1, hr2, h⟩ := sh_bind_e h
  have hG1 := gp_X8_takesWord hG hr2
  by_cases c4 : y3 = 0
  · rw [if_pos c4] at h
    obtain ⟨e1, e2⟩ := sh_some2 h
    exact e2 ▸ hG1
  · rw [if_neg c4] at h
    obtain ⟨y7, μ5, hr6, h⟩ := sh_bind_e h
    have hG5 := gp_X8_takeNumber hG1 hr6
    by_cases c8 : y7 = (-1)
    · rw [if_pos c8] at h
      obtain ⟨e1, e2⟩ := sh_some2 h
      exact e2 ▸ hG5
    · rw [if_neg c8] at h
      obtain ⟨y11, μ9, hr10, h⟩ := sh_bind_e h
      have hG9 := gp_X8_takesWord hG5 hr10
      by_cases c12 : y11 = 0
      · rw [if_pos c12] at h
        obtain ⟨e1, e2⟩ := sh_some2 h
        exact e2 ▸ hG9
      · rw [if_neg c12] at h
        obtain ⟨y15, μ13, hr14, h⟩ := sh_bind_e h
        have hG13 := gp_X8_takeNumber hG9 hr14
        by_cases c16 : y15 = (-1)
        · rw [if_pos c16] at h
          obtain ⟨e1, e2⟩ := sh_some2 h
          exact e2 ▸ hG13
        · rw [if_neg c16] at h
          obtain ⟨y19, μ17, hr18, h⟩ := sh_bind_e h
          have hG17 := gp_X8_takesMark hG13 hr18
          by_cases c20 : y19 = 0
          · rw [if_pos c20] at h
            obtain ⟨e1, e2⟩ := sh_some2 h
            exact e2 ▸ hG17
          · rw [if_neg c20] at h
            obtain ⟨k21, h⟩ := sh_chk h
            obtain ⟨r22, er22⟩ : ∃ y : Nat, y = (sh_ref μ17 7 2) := ⟨_, rfl⟩
            rw [sh_let_eq er22] at h
            have k21r : sh_r μ17 7 2 = some r22 ∧ (r22 = 8 ∨ r22 = 29) := by rw [er22]; exact k21
            obtain ⟨μ23, eμ23⟩ : ∃ y : sh_Mem, y = (sh_setI μ17 r22 0 y7) := ⟨_, rfl⟩
            rw [sh_let_eq eμ23] at h
            have hG23 : sh_G μ23 := by rw [eμ23]; exact hG17
            obtain ⟨k24, h⟩ := sh_chk h
            obtain ⟨r25, er25⟩ : ∃ y : Nat, y = (sh_ref μ23 7 2) := ⟨_, rfl⟩
            rw [sh_let_eq er25] at h
            have k24r : sh_r μ23 7 2 = some r25 ∧ (r25 = 8 ∨ r25 = 29) := by rw [er25]; exact k24
            obtain ⟨μ26, eμ26⟩ : ∃ y : sh_Mem, y = (sh_setI μ23 r25 1 y15) := ⟨_, rfl⟩
            rw [sh_let_eq eμ26] at h
            have hG26 : sh_G μ26 := by rw [eμ26]; exact hG23
            obtain ⟨e1, e2⟩ := sh_some2 h
            exact e2 ▸ hG26
theorem t_X6_readPlain {μ μ' : sh_Mem} {v : Int32} (hG : sh_G μ) (h : f_X6_readPlain μ = some (v, μ')) : sh_C0 l B D ca 9 M_X6_readPlain [.ref 7] μ (fun v0 μ0 => v0 = some (.int v) ∧ μ0 = μ') := by
  unfold f_X6_readPlain at h
  refine vv_aload_n 0 0 dX6_readPlain_0 rfl rfl ?_
  refine vv_getR 1 dX6_readPlain_1 fl_6_18 rfl (g_l_7 hG) (g_r_7_0 hG) ?_
  refine vv_iconst 4 dX6_readPlain_4 ik_0 ?_
  obtain ⟨y3, μ1, hr2, h⟩ := sh_bind_e h
  refine v1_callV [_] 5 dX6_readPlain_5 ck_X6_53 (g_l_2 hG) ⟨by decide, rfl⟩ (t_X8_takesWord hG hr2) (Nat.le_of_ble_eq_true rfl) ⟨Nat.le_of_ble_eq_true rfl, Nat.le_of_ble_eq_true rfl⟩ rfl (Nat.le_of_ble_eq_true rfl) ?_
  have hG1 := gp_X8_takesWord hG hr2
  refine vv_if_ne 8 13 dX6_readPlain_8 (by decide) (fun c4 => ?_) (fun c4 => ?_)
  · rw [if_neg c4] at h
    refine vv_aload_n 13 0 dX6_readPlain_13 rfl rfl ?_
    refine vv_getR 14 dX6_readPlain_14 fl_6_18 rfl (g_l_7 hG1) (g_r_7_0 hG1) ?_
    refine vv_iconst 17 dX6_readPlain_17 ik_3 ?_
    refine vv_bipush 18 dX6_readPlain_18 bk_7 ?_
    obtain ⟨y7, μ5, hr6, h⟩ := sh_bind_e h
    refine v1_callV [_, _] 20 dX6_readPlain_20 ck_X6_56 (g_l_2 hG1) ⟨by decide, rfl⟩ (t_X8_takeNumber hG1 hr6) (Nat.le_of_ble_eq_true rfl) ⟨Nat.le_of_ble_eq_true rfl, Nat.le_of_ble_eq_true rfl⟩ rfl (Nat.le_of_ble_eq_true rfl) ?_
    have hG5 := gp_X8_takeNumber hG1 hr6
    refine vv_istore_n (lv' := [(1, _), (0, _)]) 23 1 dX6_readPlain_23 rfl (by decide) rfl ?_
    refine vv_iload_n 24 1 dX6_readPlain_24 rfl rfl ?_
    refine vv_iconst 25 dX6_readPlain_25 ik_m1 ?_
    refine vv_icmp_eq 26 40 dX6_readPlain_26 (by decide) (fun c8 => ?_) (fun c8 => ?_)
    · rw [if_pos c8] at h
      refine vv_iconst 40 dX6_readPlain_40 ik_0 ?_
      obtain ⟨e1, e2⟩ := sh_some2 h
      refine vv_zret 41 dX6_readPlain_41 rfl rfl (Nat.le_refl _) (Nat.le_refl _) ⟨by rw [e1], e2⟩
    · rw [if_neg c8] at h
      refine vv_aload_n 29 0 dX6_readPlain_29 rfl rfl ?_
      refine vv_getR 30 dX6_readPlain_30 fl_6_18 rfl (g_l_7 hG5) (g_r_7_0 hG5) ?_
      refine vv_iconst 33 dX6_readPlain_33 ik_1 ?_
      obtain ⟨y11, μ9, hr10, h⟩ := sh_bind_e h
      refine v1_callV [_] 34 dX6_readPlain_34 ck_X6_53 (g_l_2 hG5) ⟨by decide, rfl⟩ (t_X8_takesWord hG5 hr10) (Nat.le_of_ble_eq_true rfl) ⟨Nat.le_of_ble_eq_true rfl, Nat.le_of_ble_eq_true rfl⟩ rfl (Nat.le_of_ble_eq_true rfl) ?_
      have hG9 := gp_X8_takesWord hG5 hr10
      refine vv_if_ne 37 42 dX6_readPlain_37 (by decide) (fun c12 => ?_) (fun c12 => ?_)
      · rw [if_neg c12] at h
        refine vv_aload_n 42 0 dX6_readPlain_42 rfl rfl ?_
        refine vv_getR 43 dX6_readPlain_43 fl_6_18 rfl (g_l_7 hG9) (g_r_7_0 hG9) ?_
        refine vv_iconst 46 dX6_readPlain_46 ik_3 ?_
        refine vv_bipush 47 dX6_readPlain_47 bk_7 ?_
        obtain ⟨y15, μ13, hr14, h⟩ := sh_bind_e h
        refine v1_callV [_, _] 49 dX6_readPlain_49 ck_X6_56 (g_l_2 hG9) ⟨by decide, rfl⟩ (t_X8_takeNumber hG9 hr14) (Nat.le_of_ble_eq_true rfl) ⟨Nat.le_of_ble_eq_true rfl, Nat.le_of_ble_eq_true rfl⟩ rfl (Nat.le_of_ble_eq_true rfl) ?_
        have hG13 := gp_X8_takeNumber hG9 hr14
        refine vv_istore_n (lv' := [(2, _), (1, _), (0, _)]) 52 2 dX6_readPlain_52 rfl (by decide) rfl ?_
        refine vv_iload_n 53 2 dX6_readPlain_53 rfl rfl ?_
        refine vv_iconst 54 dX6_readPlain_54 ik_m1 ?_
        refine vv_icmp_eq 55 70 dX6_readPlain_55 (by decide) (fun c16 => ?_) (fun c16 => ?_)
        · rw [if_pos c16] at h
          refine vv_iconst 70 dX6_readPlain_70 ik_0 ?_
          obtain ⟨e1, e2⟩ := sh_some2 h
          refine vv_zret 71 dX6_readPlain_71 rfl rfl (Nat.le_refl _) (Nat.le_refl _) ⟨by rw [e1], e2⟩
        · rw [if_neg c16] at h
          refine vv_aload_n 58 0 dX6_readPlain_58 rfl rfl ?_
          refine vv_getR 59 dX6_readPlain_59 fl_6_18 rfl (g_l_7 hG13) (g_r_7_0 hG13) ?_
          refine vv_bipush 62 dX6_readPlain_62 bk_59 ?_
          obtain ⟨y19, μ17, hr18, h⟩ := sh_bind_e h
          refine v1_callV [_] 64 dX6_readPlain_64 ck_X6_42 (g_l_2 hG13) ⟨by decide, rfl⟩ (t_X8_takesMark hG13 hr18) (Nat.le_of_ble_eq_true rfl) ⟨Nat.le_of_ble_eq_true rfl, Nat.le_of_ble_eq_true rfl⟩ rfl (Nat.le_of_ble_eq_true rfl) ?_
          have hG17 := gp_X8_takesMark hG13 hr18
          refine vv_if_ne 67 72 dX6_readPlain_67 (by decide) (fun c20 => ?_) (fun c20 => ?_)
          · rw [if_neg c20] at h
            refine vv_aload_n 72 0 dX6_readPlain_72 rfl rfl ?_
            obtain ⟨k21, h⟩ := sh_chk h
            refine vv_getR 73 dX6_readPlain_73 fl_6_12 rfl (g_l_7 hG17) k21.1 ?_
            refine vv_topr (fun r22 er22 => ?_)
            rw [sh_let_eq er22] at h
            have k21r : sh_r μ17 7 2 = some r22 ∧ (r22 = 8 ∨ r22 = 29) := by rw [er22]; exact k21
            refine vv_iload_n 76 1 dX6_readPlain_76 rfl rfl ?_
            refine vn_putI 77 dX6_readPlain_77 fl_6_60 (Or.inl rfl) rfl (gP_l hG17 k21r.2) (fun μ23 eμ23 => ?_)
            rw [sh_let_eq eμ23] at h
            have hG23 : sh_G μ23 := by rw [eμ23]; exact hG17
            refine vv_aload_n 80 0 dX6_readPlain_80 rfl rfl ?_
            obtain ⟨k24, h⟩ := sh_chk h
            refine vv_getR 81 dX6_readPlain_81 fl_6_12 rfl (g_l_7 hG23) k24.1 ?_
            refine vv_topr (fun r25 er25 => ?_)
            rw [sh_let_eq er25] at h
            have k24r : sh_r μ23 7 2 = some r25 ∧ (r25 = 8 ∨ r25 = 29) := by rw [er25]; exact k24
            refine vv_iload_n 84 2 dX6_readPlain_84 rfl rfl ?_
            refine vn_putI 85 dX6_readPlain_85 fl_6_63 (Or.inl rfl) rfl (gP_l hG23 k24r.2) (fun μ26 eμ26 => ?_)
            rw [sh_let_eq eμ26] at h
            have hG26 : sh_G μ26 := by rw [eμ26]; exact hG23
            refine vv_iconst 88 dX6_readPlain_88 ik_1 ?_
            obtain ⟨e1, e2⟩ := sh_some2 h
            refine vv_zret 89 dX6_readPlain_89 rfl rfl (Nat.le_refl _) (Nat.le_refl _) ⟨by rw [e1], e2⟩
          · rw [if_pos c20] at h
            refine vv_iconst 70 dX6_readPlain_70 ik_0 ?_
            obtain ⟨e1, e2⟩ := sh_some2 h
            refine vv_zret 71 dX6_readPlain_71 rfl rfl (Nat.le_refl _) (Nat.le_refl _) ⟨by rw [e1], e2⟩
      · rw [if_pos c12] at h
        refine vv_iconst 40 dX6_readPlain_40 ik_0 ?_
        obtain ⟨e1, e2⟩ := sh_some2 h
        refine vv_zret 41 dX6_readPlain_41 rfl rfl (Nat.le_refl _) (Nat.le_refl _) ⟨by rw [e1], e2⟩
  · rw [if_pos c4] at h
    refine vv_iconst 11 dX6_readPlain_11 ik_0 ?_
    obtain ⟨e1, e2⟩ := sh_some2 h
    refine vv_zret 12 dX6_readPlain_12 rfl rfl (Nat.le_refl _) (Nat.le_refl _) ⟨by rw [e1], e2⟩
noncomputable def f_X6_readHigh (μ : sh_Mem) : Option (Int32 × sh_Mem) := sh_bindv (f_X8_advance μ) (fun μ1 => (if (sh_r μ1 7 2 = some (sh_ref μ1 7 2) ∧ ((sh_ref μ1 7 2) = 8 ∨ (sh_ref μ1 7 2) = 29)) then sh_let (sh_ref μ1 7 2) (fun r5 => sh_bind (f_X8_takeNumber 0 ((sh_i μ1 r5 0) - 1) μ1) (fun y8 μ6 => (if y8 = (-1) then some (0, μ6) else (if (sh_r μ6 7 2 = some (sh_ref μ6 7 2) ∧ ((sh_ref μ6 7 2) = 8 ∨ (sh_ref μ6 7 2) = 29)) then sh_let (sh_ref μ6 7 2) (fun r11 => sh_bind (f_X8_takeNumber 0 ((sh_i μ6 r11 1) - 1) μ6) (fun y14 μ12 => (if y14 = (-1) then some (0, μ12) else sh_bind (f_X8_takeNumber 0 99 μ12) (fun y18 μ16 => (if (sh_r μ16 7 2 = some (sh_ref μ16 7 2) ∧ ((sh_ref μ16 7 2) = 8 ∨ (sh_ref μ16 7 2) = 29)) then sh_let (sh_ref μ16 7 2) (fun r20 => sh_let ((f_X5_cellAt μ16 r20 y8 y14) : Int32) (fun x21 => (if y18 = (-1) then some (0, μ16) else (if x21 = (-1) then some (0, μ16) else (if (sh_r μ16 7 2 = some (sh_ref μ16 7 2) ∧ ((sh_ref μ16 7 2) = 8 ∨ (sh_ref μ16 7 2) = 29)) then sh_let (sh_ref μ16 7 2) (fun r25 => (if sh_in x21 49 then sh_let (sh_setI μ16 ((r25 + 14) + 1) x21.toNatClampNeg y18) (fun μ27 => some (1, μ27)) else none)) else none))))) else none))))) else none)))) else none))
theorem gp_X6_readHigh {μ μ' : sh_Mem} {v : Int32} (hG : sh_G μ) (h : f_X6_readHigh μ = some (v, μ')) : sh_G μ' := by
  unfold f_X6_readHigh at h
  obtain ⟨μ1, hr2, h⟩ := sh_bindv_e h
  have hG1 := gp_X8_advance hG hr2
  obtain ⟨k4, h⟩ := sh_chk h
  obtain ⟨r5, er5⟩ : ∃ y : Nat, y = (sh_ref μ1 7 2) := ⟨_, rfl⟩
  rw [sh_let_eq er5] at h
  have k4r : sh_r μ1 7 2 = some r5 ∧ (r5 = 8 ∨ r5 = 29) := by rw [er5]; exact k4
  obtain ⟨y8, μ6, hr7, h⟩ := sh_bind_e h
  have hG6 := gp_X8_takeNumber hG1 hr7
  by_cases c9 : y8 = (-1)
  · rw [if_pos c9] at h
    obtain ⟨e1, e2⟩ := sh_some2 h
    exact e2 ▸ hG6
  · rw [if_neg c9] at h
    obtain ⟨k10, h⟩ := sh_chk h
    obtain ⟨r11, er11⟩ : ∃ y : Nat, y = (sh_ref μ6 7 2) := ⟨_, rfl⟩
    rw [sh_let_eq er11] at h
    have k10r : sh_r μ6 7 2 = some r11 ∧ (r11 = 8 ∨ r11 = 29) := by rw [er11]; exact k10
    obtain ⟨y14, μ12, hr13, h⟩ := sh_bind_e h
    have hG12 := gp_X8_takeNumber hG6 hr13
    by_cases c15 : y14 = (-1)
    · rw [if_pos c15] at h
      obtain ⟨e1, e2⟩ := sh_some2 h
      exact e2 ▸ hG12
    · rw [if_neg c15] at h
      obtain ⟨y18, μ16, hr17, h⟩ := sh_bind_e h
      have hG16 := gp_X8_takeNumber hG12 hr17
      obtain ⟨k19, h⟩ := sh_chk h
      obtain ⟨r20, er20⟩ : ∃ y : Nat, y = (sh_ref μ16 7 2) := ⟨_, rfl⟩
      rw [sh_let_eq er20] at h
      have k19r : sh_r μ16 7 2 = some r20 ∧ (r20 = 8 ∨ r20 = 29) := by rw [er20]; exact k19
      obtain ⟨x21, ex21⟩ : ∃ y : Int32, y = (f_X5_cellAt μ16 r20 y8 y14) := ⟨_, rfl⟩
      rw [sh_let_eq ex21] at h
      by_cases c22 : y18 = (-1)
      · rw [if_pos c22] at h
        obtain ⟨e1, e2⟩ := sh_some2 h
        exact e2 ▸ hG16
      · rw [if_neg c22] at h
        by_cases c23 : x21 = (-1)
        · rw [if_pos c23] at h
          obtain ⟨e1, e2⟩ := sh_some2 h
          exact e2 ▸ hG16
        · rw [if_neg c23] at h
          obtain ⟨k24, h⟩ := sh_chk h
          obtain ⟨r25, er25⟩ : ∃ y : Nat, y = (sh_ref μ16 7 2) := ⟨_, rfl⟩
          rw [sh_let_eq er25] at h
          have k24r : sh_r μ16 7 2 = some r25 ∧ (r25 = 8 ∨ r25 = 29) := by rw [er25]; exact k24
          obtain ⟨k26, h⟩ := sh_chk h
          obtain ⟨μ27, eμ27⟩ : ∃ y : sh_Mem, y = (sh_setI μ16 ((r25 + 14) + 1) x21.toNatClampNeg y18) := ⟨_, rfl⟩
          rw [sh_let_eq eμ27] at h
          have hG27 : sh_G μ27 := by rw [eμ27]; exact hG16
          obtain ⟨e1, e2⟩ := sh_some2 h
          exact e2 ▸ hG27
theorem t_X6_readHigh {μ μ' : sh_Mem} {v : Int32} (hG : sh_G μ) (h : f_X6_readHigh μ = some (v, μ')) : sh_C0 l B D ca 9 M_X6_readHigh [.ref 7] μ (fun v0 μ0 => v0 = some (.int v) ∧ μ0 = μ') := by
  unfold f_X6_readHigh at h
  refine vv_aload_n 0 0 dX6_readHigh_0 rfl rfl ?_
  refine vv_getR 1 dX6_readHigh_1 fl_6_18 rfl (g_l_7 hG) (g_r_7_0 hG) ?_
  obtain ⟨μ1, hr2, h⟩ := sh_bindv_e h
  refine v1_callV [] 4 dX6_readHigh_4 ck_X6_131 (g_l_2 hG) ⟨by decide, rfl⟩ (t_X8_advance hG hr2) (Nat.le_of_ble_eq_true rfl) ⟨Nat.le_of_ble_eq_true rfl, Nat.le_of_ble_eq_true rfl⟩ rfl (Nat.le_of_ble_eq_true rfl) ?_
  have hG1 := gp_X8_advance hG hr2
  refine vv_aload_n 7 0 dX6_readHigh_7 rfl rfl ?_
  refine vv_getR 8 dX6_readHigh_8 fl_6_18 rfl (g_l_7 hG1) (g_r_7_0 hG1) ?_
  refine vv_iconst 11 dX6_readHigh_11 ik_0 ?_
  refine vv_aload_n 12 0 dX6_readHigh_12 rfl rfl ?_
  obtain ⟨k4, h⟩ := sh_chk h
  refine vv_getR 13 dX6_readHigh_13 fl_6_12 rfl (g_l_7 hG1) k4.1 ?_
  refine vv_topr (fun r5 er5 => ?_)
  rw [sh_let_eq er5] at h
  have k4r : sh_r μ1 7 2 = some r5 ∧ (r5 = 8 ∨ r5 = 29) := by rw [er5]; exact k4
  refine vv_getI 16 dX6_readHigh_16 fl_6_60 rfl (gP_l hG1 k4r.2) ?_
  refine vv_iconst 19 dX6_readHigh_19 ik_1 ?_
  refine vv_isub 20 dX6_readHigh_20 ?_
  obtain ⟨y8, μ6, hr7, h⟩ := sh_bind_e h
  refine v1_callV [_, _] 21 dX6_readHigh_21 ck_X6_56 (g_l_2 hG1) ⟨by decide, rfl⟩ (t_X8_takeNumber hG1 hr7) (Nat.le_of_ble_eq_true rfl) ⟨Nat.le_of_ble_eq_true rfl, Nat.le_of_ble_eq_true rfl⟩ rfl (Nat.le_of_ble_eq_true rfl) ?_
  have hG6 := gp_X8_takeNumber hG1 hr7
  refine vv_istore_n (lv' := [(1, _), (0, _)]) 24 1 dX6_readHigh_24 rfl (by decide) rfl ?_
  refine vv_iload_n 25 1 dX6_readHigh_25 rfl rfl ?_
  refine vv_iconst 26 dX6_readHigh_26 ik_m1 ?_
  refine vv_icmp_ne 27 32 dX6_readHigh_27 (by decide) (fun c9 => ?_) (fun c9 => ?_)
  · rw [if_neg c9] at h
    refine vv_aload_n 32 0 dX6_readHigh_32 rfl rfl ?_
    refine vv_getR 33 dX6_readHigh_33 fl_6_18 rfl (g_l_7 hG6) (g_r_7_0 hG6) ?_
    refine vv_iconst 36 dX6_readHigh_36 ik_0 ?_
    refine vv_aload_n 37 0 dX6_readHigh_37 rfl rfl ?_
    obtain ⟨k10, h⟩ := sh_chk h
    refine vv_getR 38 dX6_readHigh_38 fl_6_12 rfl (g_l_7 hG6) k10.1 ?_
    refine vv_topr (fun r11 er11 => ?_)
    rw [sh_let_eq er11] at h
    have k10r : sh_r μ6 7 2 = some r11 ∧ (r11 = 8 ∨ r11 = 29) := by rw [er11]; exact k10
    refine vv_getI 41 dX6_readHigh_41 fl_6_63 rfl (gP_l hG6 k10r.2) ?_
    refine vv_iconst 44 dX6_readHigh_44 ik_1 ?_
    refine vv_isub 45 dX6_readHigh_45 ?_
    obtain ⟨y14, μ12, hr13, h⟩ := sh_bind_e h
    refine v1_callV [_, _] 46 dX6_readHigh_46 ck_X6_56 (g_l_2 hG6) ⟨by decide, rfl⟩ (t_X8_takeNumber hG6 hr13) (Nat.le_of_ble_eq_true rfl) ⟨Nat.le_of_ble_eq_true rfl, Nat.le_of_ble_eq_true rfl⟩ rfl (Nat.le_of_ble_eq_true rfl) ?_
    have hG12 := gp_X8_takeNumber hG6 hr13
    refine vv_istore_n (lv' := [(2, _), (1, _), (0, _)]) 49 2 dX6_readHigh_49 rfl (by decide) rfl ?_
    refine vv_iload_n 50 2 dX6_readHigh_50 rfl rfl ?_
    refine vv_iconst 51 dX6_readHigh_51 ik_m1 ?_
    refine vv_icmp_ne 52 57 dX6_readHigh_52 (by decide) (fun c15 => ?_) (fun c15 => ?_)
    · rw [if_neg c15] at h
      refine vv_aload_n 57 0 dX6_readHigh_57 rfl rfl ?_
      refine vv_getR 58 dX6_readHigh_58 fl_6_18 rfl (g_l_7 hG12) (g_r_7_0 hG12) ?_
      refine vv_iconst 61 dX6_readHigh_61 ik_0 ?_
      refine vv_bipush 62 dX6_readHigh_62 bk_99 ?_
      obtain ⟨y18, μ16, hr17, h⟩ := sh_bind_e h
      refine v1_callV [_, _] 64 dX6_readHigh_64 ck_X6_56 (g_l_2 hG12) ⟨by decide, rfl⟩ (t_X8_takeNumber hG12 hr17) (Nat.le_of_ble_eq_true rfl) ⟨Nat.le_of_ble_eq_true rfl, Nat.le_of_ble_eq_true rfl⟩ rfl (Nat.le_of_ble_eq_true rfl) ?_
      have hG16 := gp_X8_takeNumber hG12 hr17
      refine vv_istore_n (lv' := [(3, _), (2, _), (1, _), (0, _)]) 67 3 dX6_readHigh_67 rfl (by decide) rfl ?_
      refine vv_aload_n 68 0 dX6_readHigh_68 rfl rfl ?_
      obtain ⟨k19, h⟩ := sh_chk h
      refine vv_getR 69 dX6_readHigh_69 fl_6_12 rfl (g_l_7 hG16) k19.1 ?_
      refine vv_topr (fun r20 er20 => ?_)
      rw [sh_let_eq er20] at h
      have k19r : sh_r μ16 7 2 = some r20 ∧ (r20 = 8 ∨ r20 = 29) := by rw [er20]; exact k19
      refine vv_iload_n 72 1 dX6_readHigh_72 rfl rfl ?_
      refine vv_iload_n 73 2 dX6_readHigh_73 rfl rfl ?_
      refine v1_callV [_, _] 74 dX6_readHigh_74 ck_X6_134 (gP_l hG16 k19r.2) ⟨by decide, rfl⟩ (c_X5_cellAt (μ := μ16) hG16 k19r.2) (Nat.le_of_ble_eq_true rfl) ⟨Nat.le_of_ble_eq_true rfl, Nat.le_of_ble_eq_true rfl⟩ rfl (Nat.le_of_ble_eq_true rfl) ?_
      refine vv_topi (fun x21 ex21 => ?_)
      rw [sh_let_eq ex21] at h
      refine vv_istore (lv' := [(4, _), (3, _), (2, _), (1, _), (0, _)]) 77 4 dX6_readHigh_77 (by decide) rfl ?_
      refine vv_iload_n 79 3 dX6_readHigh_79 rfl rfl ?_
      refine vv_iconst 80 dX6_readHigh_80 ik_m1 ?_
      refine vv_icmp_eq 81 90 dX6_readHigh_81 (by decide) (fun c22 => ?_) (fun c22 => ?_)
      · rw [if_pos c22] at h
        refine vv_iconst 90 dX6_readHigh_90 ik_0 ?_
        obtain ⟨e1, e2⟩ := sh_some2 h
        refine vv_zret 91 dX6_readHigh_91 rfl rfl (Nat.le_refl _) (Nat.le_refl _) ⟨by rw [e1], e2⟩
      · rw [if_neg c22] at h
        refine vv_iload 84 4 dX6_readHigh_84 rfl ?_
        refine vv_iconst 86 dX6_readHigh_86 ik_m1 ?_
        refine vv_icmp_ne 87 92 dX6_readHigh_87 (by decide) (fun c23 => ?_) (fun c23 => ?_)
        · rw [if_neg c23] at h
          refine vv_aload_n 92 0 dX6_readHigh_92 rfl rfl ?_
          obtain ⟨k24, h⟩ := sh_chk h
          refine vv_getR 93 dX6_readHigh_93 fl_6_12 rfl (g_l_7 hG16) k24.1 ?_
          refine vv_topr (fun r25 er25 => ?_)
          rw [sh_let_eq er25] at h
          have k24r : sh_r μ16 7 2 = some r25 ∧ (r25 = 8 ∨ r25 = 29) := by rw [er25]; exact k24
          refine vv_getR 96 dX6_readHigh_96 fl_6_137 rfl (gP_l hG16 k24r.2) (gP_r16 hG16 k24r.2) ?_
          refine vv_getR 99 dX6_readHigh_99 fl_6_140 rfl (gL_l hG16 (gP_land k24r.2)) (gL_r1 hG16 (gP_land k24r.2)) ?_
          refine vv_iload 102 4 dX6_readHigh_102 rfl ?_
          refine vv_iload_n 104 3 dX6_readHigh_104 rfl rfl ?_
          obtain ⟨k26, h⟩ := sh_chk h
          refine vn_iast 105 dX6_readHigh_105 (gA_l hG16 (gLA1 (gP_land k24r.2))) k26 (fun μ27 eμ27 => ?_)
          rw [sh_let_eq eμ27] at h
          have hG27 : sh_G μ27 := by rw [eμ27]; exact hG16
          refine vv_iconst 106 dX6_readHigh_106 ik_1 ?_
          obtain ⟨e1, e2⟩ := sh_some2 h
          refine vv_zret 107 dX6_readHigh_107 rfl rfl (Nat.le_refl _) (Nat.le_refl _) ⟨by rw [e1], e2⟩
        · rw [if_pos c23] at h
          refine vv_iconst 90 dX6_readHigh_90 ik_0 ?_
          obtain ⟨e1, e2⟩ := sh_some2 h
          refine vv_zret 91 dX6_readHigh_91 rfl rfl (Nat.le_refl _) (Nat.le_refl _) ⟨by rw [e1], e2⟩
    · rw [if_pos c15] at h
      refine vv_iconst 55 dX6_readHigh_55 ik_0 ?_
      obtain ⟨e1, e2⟩ := sh_some2 h
      refine vv_zret 56 dX6_readHigh_56 rfl rfl (Nat.le_refl _) (Nat.le_refl _) ⟨by rw [e1], e2⟩
  · rw [if_pos c9] at h
    refine vv_iconst 30 dX6_readHigh_30 ik_0 ?_
    obtain ⟨e1, e2⟩ := sh_some2 h
    refine vv_zret 31 dX6_readHigh_31 rfl rfl (Nat.le_refl _) (Nat.le_refl _) ⟨by rw [e1], e2⟩
noncomputable def f_X6_readTopic (μ : sh_Mem) : Option (Int32 × sh_Mem) := sh_bindv (f_X8_advance μ) (fun μ1 => sh_bind (f_X8_takeName μ1) (fun y6 μ4 => sh_bind (f_X6_isNew y6 μ4) (fun y9 μ7 => (if y9 = 0 then some (0, μ7) else (if (sh_r μ7 7 2 = some (sh_ref μ7 7 2) ∧ ((sh_ref μ7 7 2) = 8 ∨ (sh_ref μ7 7 2) = 29)) then sh_let (sh_ref μ7 7 2) (fun r12 => (if (sh_r μ7 7 2 = some (sh_ref μ7 7 2) ∧ ((sh_ref μ7 7 2) = 8 ∨ (sh_ref μ7 7 2) = 29)) then sh_let (sh_ref μ7 7 2) (fun r14 => (if sh_in (sh_i μ7 r14 2) 5 then sh_let (sh_setI μ7 (r12 + 1) ((sh_i μ7 r14 2)).toNatClampNeg y6) (fun μ16 => (if (sh_r μ16 7 2 = some (sh_ref μ16 7 2) ∧ ((sh_ref μ16 7 2) = 8 ∨ (sh_ref μ16 7 2) = 29)) then sh_let (sh_ref μ16 7 2) (fun r18 => sh_let (sh_setI μ16 r18 2 ((sh_i μ16 r18 2) + 1)) (fun μ19 => some (1, μ19))) else none)) else none)) else none)) else none)))))
theorem gp_X6_readTopic {μ μ' : sh_Mem} {v : Int32} (hG : sh_G μ) (h : f_X6_readTopic μ = some (v, μ')) : sh_G μ' := by
  unfold f_X6_readTopic at h
  obtain ⟨μ1, hr2, h⟩ := sh_bindv_e h
  have hG1 := gp_X8_advance hG hr2
  obtain ⟨y6, μ4, hr5, h⟩ := sh_bind_e h
  have hG4 := gp_X8_takeName hG1 hr5
  obtain ⟨y9, μ7, hr8, h⟩ := sh_bind_e h
  have hG7 := gp_X6_isNew hG4 hr8
  by_cases c10 : y9 = 0
  · rw [if_pos c10] at h
    obtain ⟨e1, e2⟩ := sh_some2 h
    exact e2 ▸ hG7
  · rw [if_neg c10] at h
    obtain ⟨k11, h⟩ := sh_chk h
    obtain ⟨r12, er12⟩ : ∃ y : Nat, y = (sh_ref μ7 7 2) := ⟨_, rfl⟩
    rw [sh_let_eq er12] at h
    have k11r : sh_r μ7 7 2 = some r12 ∧ (r12 = 8 ∨ r12 = 29) := by rw [er12]; exact k11
    obtain ⟨k13, h⟩ := sh_chk h
    obtain ⟨r14, er14⟩ : ∃ y : Nat, y = (sh_ref μ7 7 2) := ⟨_, rfl⟩
    rw [sh_let_eq er14] at h
    have k13r : sh_r μ7 7 2 = some r14 ∧ (r14 = 8 ∨ r14 = 29) := by rw [er14]; exact k13
    obtain ⟨k15, h⟩ := sh_chk h
    obtain ⟨μ16, eμ16⟩ : ∃ y : sh_Mem, y = (sh_setI μ7 (r12 + 1) ((sh_i μ7 r14 2)).toNatClampNeg y6) := ⟨_, rfl⟩
    rw [sh_let_eq eμ16] at h
    have hG16 : sh_G μ16 := by rw [eμ16]; exact hG7
    obtain ⟨k17, h⟩ := sh_chk h
    obtain ⟨r18, er18⟩ : ∃ y : Nat, y = (sh_ref μ16 7 2) := ⟨_, rfl⟩
    rw [sh_let_eq er18] at h
    have k17r : sh_r μ16 7 2 = some r18 ∧ (r18 = 8 ∨ r18 = 29) := by rw [er18]; exact k17
    obtain ⟨μ19, eμ19⟩ : ∃ y : sh_Mem, y = (sh_setI μ16 r18 2 ((sh_i μ16 r18 2) + 1)) := ⟨_, rfl⟩
    rw [sh_let_eq eμ19] at h
    have hG19 : sh_G μ19 := by rw [eμ19]; exact hG16
    obtain ⟨e1, e2⟩ := sh_some2 h
    exact e2 ▸ hG19
theorem t_X6_readTopic {μ μ' : sh_Mem} {v : Int32} (hG : sh_G μ) (h : f_X6_readTopic μ = some (v, μ')) : sh_C0 l B D ca 9 M_X6_readTopic [.ref 7] μ (fun v0 μ0 => v0 = some (.int v) ∧ μ0 = μ') := by
  unfold f_X6_readTopic at h
  refine vv_aload_n 0 0 dX6_readTopic_0 rfl rfl ?_
  refine vv_getR 1 dX6_readTopic_1 fl_6_18 rfl (g_l_7 hG) (g_r_7_0 hG) ?_
  obtain ⟨μ1, hr2, h⟩ := sh_bindv_e h
  refine v1_callV [] 4 dX6_readTopic_4 ck_X6_131 (g_l_2 hG) ⟨by decide, rfl⟩ (t_X8_advance hG hr2) (Nat.le_of_ble_eq_true rfl) ⟨Nat.le_of_ble_eq_true rfl, Nat.le_of_ble_eq_true rfl⟩ rfl (Nat.le_of_ble_eq_true rfl) ?_
  have hG1 := gp_X8_advance hG hr2
  refine vv_aload_n 7 0 dX6_readTopic_7 rfl rfl ?_
  refine vv_getR 8 dX6_readTopic_8 fl_6_18 rfl (g_l_7 hG1) (g_r_7_0 hG1) ?_
  obtain ⟨y6, μ4, hr5, h⟩ := sh_bind_e h
  refine v1_callV [] 11 dX6_readTopic_11 ck_X6_156 (g_l_2 hG1) ⟨by decide, rfl⟩ (t_X8_takeName hG1 hr5) (Nat.le_of_ble_eq_true rfl) ⟨Nat.le_of_ble_eq_true rfl, Nat.le_of_ble_eq_true rfl⟩ rfl (Nat.le_of_ble_eq_true rfl) ?_
  have hG4 := gp_X8_takeName hG1 hr5
  refine vv_istore_n (lv' := [(1, _), (0, _)]) 14 1 dX6_readTopic_14 rfl (by decide) rfl ?_
  refine vv_aload_n 15 0 dX6_readTopic_15 rfl rfl ?_
  refine vv_iload_n 16 1 dX6_readTopic_16 rfl rfl ?_
  obtain ⟨y9, μ7, hr8, h⟩ := sh_bind_e h
  refine v1_callV [_] 17 dX6_readTopic_17 ck_X6_160 (g_l_7 hG4) ⟨by decide, rfl⟩ (t_X6_isNew hG4 hr8) (Nat.le_of_ble_eq_true rfl) ⟨Nat.le_of_ble_eq_true rfl, Nat.le_of_ble_eq_true rfl⟩ rfl (Nat.le_of_ble_eq_true rfl) ?_
  have hG7 := gp_X6_isNew hG4 hr8
  refine vv_if_ne 20 25 dX6_readTopic_20 (by decide) (fun c10 => ?_) (fun c10 => ?_)
  · rw [if_neg c10] at h
    refine vv_aload_n 25 0 dX6_readTopic_25 rfl rfl ?_
    obtain ⟨k11, h⟩ := sh_chk h
    refine vv_getR 26 dX6_readTopic_26 fl_6_12 rfl (g_l_7 hG7) k11.1 ?_
    refine vv_topr (fun r12 er12 => ?_)
    rw [sh_let_eq er12] at h
    have k11r : sh_r μ7 7 2 = some r12 ∧ (r12 = 8 ∨ r12 = 29) := by rw [er12]; exact k11
    refine vv_getR 29 dX6_readTopic_29 fl_6_163 rfl (gP_l hG7 k11r.2) (gP_r6 hG7 k11r.2) ?_
    refine vv_aload_n 32 0 dX6_readTopic_32 rfl rfl ?_
    obtain ⟨k13, h⟩ := sh_chk h
    refine vv_getR 33 dX6_readTopic_33 fl_6_12 rfl (g_l_7 hG7) k13.1 ?_
    refine vv_topr (fun r14 er14 => ?_)
    rw [sh_let_eq er14] at h
    have k13r : sh_r μ7 7 2 = some r14 ∧ (r14 = 8 ∨ r14 = 29) := by rw [er14]; exact k13
    refine vv_getI 36 dX6_readTopic_36 fl_6_122 rfl (gP_l hG7 k13r.2) ?_
    refine vv_iload_n 39 1 dX6_readTopic_39 rfl rfl ?_
    obtain ⟨k15, h⟩ := sh_chk h
    refine vn_iast 40 dX6_readTopic_40 (gA_l hG7 (gPA6 k11r.2)) k15 (fun μ16 eμ16 => ?_)
    rw [sh_let_eq eμ16] at h
    have hG16 : sh_G μ16 := by rw [eμ16]; exact hG7
    refine vv_aload_n 41 0 dX6_readTopic_41 rfl rfl ?_
    obtain ⟨k17, h⟩ := sh_chk h
    refine vv_getR 42 dX6_readTopic_42 fl_6_12 rfl (g_l_7 hG16) k17.1 ?_
    refine vv_topr (fun r18 er18 => ?_)
    rw [sh_let_eq er18] at h
    have k17r : sh_r μ16 7 2 = some r18 ∧ (r18 = 8 ∨ r18 = 29) := by rw [er18]; exact k17
    refine vv_dup_ref 45 dX6_readTopic_45 ?_
    refine vv_getI 46 dX6_readTopic_46 fl_6_122 rfl (gP_l hG16 k17r.2) ?_
    refine vv_iconst 49 dX6_readTopic_49 ik_1 ?_
    refine vv_iadd 50 dX6_readTopic_50 ?_
    refine vn_putI 51 dX6_readTopic_51 fl_6_122 (Or.inl rfl) rfl (gP_l hG16 k17r.2) (fun μ19 eμ19 => ?_)
    rw [sh_let_eq eμ19] at h
    have hG19 : sh_G μ19 := by rw [eμ19]; exact hG16
    refine vv_iconst 54 dX6_readTopic_54 ik_1 ?_
    obtain ⟨e1, e2⟩ := sh_some2 h
    refine vv_zret 55 dX6_readTopic_55 rfl rfl (Nat.le_refl _) (Nat.le_refl _) ⟨by rw [e1], e2⟩
  · rw [if_pos c10] at h
    refine vv_iconst 23 dX6_readTopic_23 ik_0 ?_
    obtain ⟨e1, e2⟩ := sh_some2 h
    refine vv_zret 24 dX6_readTopic_24 rfl rfl (Nat.le_refl _) (Nat.le_refl _) ⟨by rw [e1], e2⟩
noncomputable def f_X6_readPerson (μ : sh_Mem) : Option (Int32 × sh_Mem) := sh_bindv (f_X8_advance μ) (fun μ1 => sh_bind (f_X8_takeName μ1) (fun y6 μ4 => sh_bind (f_X6_isNew y6 μ4) (fun y9 μ7 => (if y9 = 0 then some (0, μ7) else sh_bind (f_X8_takesWord 5 μ7) (fun y13 μ11 => (if y13 = 0 then some (0, μ11) else (if (sh_r μ11 7 2 = some (sh_ref μ11 7 2) ∧ ((sh_ref μ11 7 2) = 8 ∨ (sh_ref μ11 7 2) = 29)) then sh_let (sh_ref μ11 7 2) (fun r16 => sh_bind (f_X8_takeNumber 0 ((sh_i μ11 r16 0) - 1) μ11) (fun y19 μ17 => (if y19 = (-1) then some (0, μ17) else (if (sh_r μ17 7 2 = some (sh_ref μ17 7 2) ∧ ((sh_ref μ17 7 2) = 8 ∨ (sh_ref μ17 7 2) = 29)) then sh_let (sh_ref μ17 7 2) (fun r22 => sh_bind (f_X8_takeNumber 0 ((sh_i μ17 r22 1) - 1) μ17) (fun y25 μ23 => (if y25 = (-1) then some (0, μ23) else (if (sh_r μ23 7 2 = some (sh_ref μ23 7 2) ∧ ((sh_ref μ23 7 2) = 8 ∨ (sh_ref μ23 7 2) = 29)) then sh_let (sh_ref μ23 7 2) (fun r28 => (if (sh_r μ23 7 2 = some (sh_ref μ23 7 2) ∧ ((sh_ref μ23 7 2) = 8 ∨ (sh_ref μ23 7 2) = 29)) then sh_let (sh_ref μ23 7 2) (fun r30 => sh_bind (f_X3_isSomeoneAt (r28 + 14) y19 y25 (sh_i μ23 r30 3) μ23) (fun y33 μ31 => (if y33 = 0 then sh_bind (f_X8_takesWord 6 μ31) (fun y37 μ35 => (if y37 = 0 then some (0, μ35) else sh_bind (f_X8_takeNumber 0 9 μ35) (fun y41 μ39 => (if y41 = (-1) then some (0, μ39) else (if (sh_r μ39 7 2 = some (sh_ref μ39 7 2) ∧ ((sh_ref μ39 7 2) = 8 ∨ (sh_ref μ39 7 2) = 29)) then sh_let (sh_ref μ39 7 2) (fun r44 => (if (sh_r μ39 7 2 = some (sh_ref μ39 7 2) ∧ ((sh_ref μ39 7 2) = 8 ∨ (sh_ref μ39 7 2) = 29)) then sh_let (sh_ref μ39 7 2) (fun r46 => (if sh_in (sh_i μ39 r46 3) 7 then sh_let (sh_setI μ39 (r44 + 2) ((sh_i μ39 r46 3)).toNatClampNeg y6) (fun μ48 => (if (sh_r μ48 7 2 = some (sh_ref μ48 7 2) ∧ ((sh_ref μ48 7 2) = 8 ∨ (sh_ref μ48 7 2) = 29)) then sh_let (sh_ref μ48 7 2) (fun r50 => (if (sh_r μ48 7 2 = some (sh_ref μ48 7 2) ∧ ((sh_ref μ48 7 2) = 8 ∨ (sh_ref μ48 7 2) = 29)) then sh_let (sh_ref μ48 7 2) (fun r52 => (if sh_in (sh_i μ48 r52 3) 7 then sh_let (sh_setI μ48 ((r50 + 14) + 2) ((sh_i μ48 r52 3)).toNatClampNeg y19) (fun μ54 => (if (sh_r μ54 7 2 = some (sh_ref μ54 7 2) ∧ ((sh_ref μ54 7 2) = 8 ∨ (sh_ref μ54 7 2) = 29)) then sh_let (sh_ref μ54 7 2) (fun r56 => (if (sh_r μ54 7 2 = some (sh_ref μ54 7 2) ∧ ((sh_ref μ54 7 2) = 8 ∨ (sh_ref μ54 7 2) = 29)) then sh_let (sh_ref μ54 7 2) (fun r58 => (if sh_in (sh_i μ54 r58 3) 7 then sh_let (sh_setI μ54 ((r56 + 14) + 3) ((sh_i μ54 r58 3)).toNatClampNeg y25) (fun μ60 => (if (sh_r μ60 7 2 = some (sh_ref μ60 7 2) ∧ ((sh_ref μ60 7 2) = 8 ∨ (sh_ref μ60 7 2) = 29)) then sh_let (sh_ref μ60 7 2) (fun r62 => (if (sh_r μ60 7 2 = some (sh_ref μ60 7 2) ∧ ((sh_ref μ60 7 2) = 8 ∨ (sh_ref μ60 7 2) = 29)) then sh_let (sh_ref μ60 7 2) (fun r64 => (if sh_in (sh_i μ60 r64 3) 7 then sh_let (sh_setI μ60 ((r62 + 14) + 4) ((sh_i μ60 r64 3)).toNatClampNeg y41) (fun μ66 => (if (sh_r μ66 7 2 = some (sh_ref μ66 7 2) ∧ ((sh_ref μ66 7 2) = 8 ∨ (sh_ref μ66 7 2) = 29)) then sh_let (sh_ref μ66 7 2) (fun r68 => (if (sh_r μ66 7 2 = some (sh_ref μ66 7 2) ∧ ((sh_ref μ66 7 2) = 8 ∨ (sh_ref μ66 7 2) = 29)) then sh_let (sh_ref μ66 7 2) (fun r70 => (if sh_in (sh_i μ66 r70 3) 7 then sh_let (sh_setI μ66 ((r68 + 14) + 5) ((sh_i μ66 r70 3)).toNatClampNeg 0) (fun μ72 => (if (sh_r μ72 7 2 = some (sh_ref μ72 7 2) ∧ ((sh_ref μ72 7 2) = 8 ∨ (sh_ref μ72 7 2) = 29)) then sh_let (sh_ref μ72 7 2) (fun r74 => sh_let (sh_setI μ72 r74 3 ((sh_i μ72 r74 3) + 1)) (fun μ75 => some (1, μ75))) else none)) else none)) else none)) else none)) else none)) else none)) else none)) else none)) else none)) else none)) else none)) else none)) else none)) else none)) else none)) else none))))) else sh_bind (f_X8_fails 2 (sh_i μ31 2 9) μ31) (fun y78 μ76 => (if y78 = 0 ∨ y78 = 1 then some (y78, μ76) else none))))) else none)) else none)))) else none)))) else none)))))))
theorem gp_X6_readPerson {μ μ' : sh_Mem} {v : Int32} (hG : sh_G μ) (h : f_X6_readPerson μ = some (v, μ')) : sh_G μ' := by
  unfold f_X6_readPerson at h
  obtain ⟨μ1, hr2, h⟩ := sh_bindv_e h
  have hG1 := gp_X8_advance hG hr2
  obtain ⟨y6, μ4, hr5, h⟩ := sh_bind_e h
  have hG4 := gp_X8_takeName hG1 hr5
  obtain ⟨y9, μ7, hr8, h⟩ := sh_bind_e h
  have hG7 := gp_X6_isNew hG4 hr8
  by_cases c10 : y9 = 0
  · rw [if_pos c10] at h
    obtain ⟨e1, e2⟩ := sh_some2 h
    exact e2 ▸ hG7
  · rw [if_neg c10] at h
    obtain ⟨y13, μ11, hr12, h⟩ := sh_bind_e h
    have hG11 := gp_X8_takesWord hG7 hr12
    by_cases c14 : y13 = 0
    · rw [if_pos c14] at h
      obtain ⟨e1, e2⟩ := sh_some2 h
      exact e2 ▸ hG11
    · rw [if_neg c14] at h
      obtain ⟨k15, h⟩ := sh_chk h
      obtain ⟨r16, er16⟩ : ∃ y : Nat, y = (sh_ref μ11 7 2) := ⟨_, rfl⟩
      rw [sh_let_eq er16] at h
      have k15r : sh_r μ11 7 2 = some r16 ∧ (r16 = 8 ∨ r16 = 29) := by rw [er16]; exact k15
      obtain ⟨y19, μ17, hr18, h⟩ := sh_bind_e h
      have hG17 := gp_X8_takeNumber hG11 hr18
      by_cases c20 : y19 = (-1)
      · rw [if_pos c20] at h
        obtain ⟨e1, e2⟩ := sh_some2 h
        exact e2 ▸ hG17
      · rw [if_neg c20] at h
        obtain ⟨k21, h⟩ := sh_chk h
        obtain ⟨r22, er22⟩ : ∃ y : Nat, y = (sh_ref μ17 7 2) := ⟨_, rfl⟩
        rw [sh_let_eq er22] at h
        have k21r : sh_r μ17 7 2 = some r22 ∧ (r22 = 8 ∨ r22 = 29) := by rw [er22]; exact k21
        obtain ⟨y25, μ23, hr24, h⟩ := sh_bind_e h
        have hG23 := gp_X8_takeNumber hG17 hr24
        by_cases c26 : y25 = (-1)
        · rw [if_pos c26] at h
          obtain ⟨e1, e2⟩ := sh_some2 h
          exact e2 ▸ hG23
        · rw [if_neg c26] at h
          obtain ⟨k27, h⟩ := sh_chk h
          obtain ⟨r28, er28⟩ : ∃ y : Nat, y = (sh_ref μ23 7 2) := ⟨_, rfl⟩
          rw [sh_let_eq er28] at h
          have k27r : sh_r μ23 7 2 = some r28 ∧ (r28 = 8 ∨ r28 = 29) := by rw [er28]; exact k27
          obtain ⟨k29, h⟩ := sh_chk h
          obtain ⟨r30, er30⟩ : ∃ y : Nat, y = (sh_ref μ23 7 2) := ⟨_, rfl⟩
          rw [sh_let_eq er30] at h
          have k29r : sh_r μ23 7 2 = some r30 ∧ (r30 = 8 ∨ r30 = 29) := by rw [er30]; exact k29
          obtain ⟨y33, μ31, hr32, h⟩ := sh_bind_e h
          have hG31 := gp_X3_isSomeoneAt hG23 (gP_land k27r.2) hr32
          by_cases c34 : y33 = 0
          · rw [if_pos c34] at h
            obtain ⟨y37, μ35, hr36, h⟩ := sh_bind_e h
            have hG35 := gp_X8_takesWord hG31 hr36
            by_cases c38 : y37 = 0
            · rw [if_pos c38] at h
              obtain ⟨e1, e2⟩ := sh_some2 h
              exact e2 ▸ hG35
            · rw [if_neg c38] at h
              obtain ⟨y41, μ39, hr40, h⟩ := sh_bind_e h
              have hG39 := gp_X8_takeNumber hG35 hr40
              by_cases c42 : y41 = (-1)
              · rw [if_pos c42] at h
                obtain ⟨e1, e2⟩ := sh_some2 h
                exact e2 ▸ hG39
              · rw [if_neg c42] at h
                obtain ⟨k43, h⟩ := sh_chk h
                obtain ⟨r44, er44⟩ : ∃ y : Nat, y = (sh_ref μ39 7 2) := ⟨_, rfl⟩
                rw [sh_let_eq er44] at h
                have k43r : sh_r μ39 7 2 = some r44 ∧ (r44 = 8 ∨ r44 = 29) := by rw [er44]; exact k43
                obtain ⟨k45, h⟩ := sh_chk h
                obtain ⟨r46, er46⟩ : ∃ y : Nat, y = (sh_ref μ39 7 2) := ⟨_, rfl⟩
                rw [sh_let_eq er46] at h
                have k45r : sh_r μ39 7 2 = some r46 ∧ (r46 = 8 ∨ r46 = 29) := by rw [er46]; exact k45
                obtain ⟨k47, h⟩ := sh_chk h
                obtain ⟨μ48, eμ48⟩ : ∃ y : sh_Mem, y = (sh_setI μ39 (r44 + 2) ((sh_i μ39 r46 3)).toNatClampNeg y6) := ⟨_, rfl⟩
                rw [sh_let_eq eμ48] at h
                have hG48 : sh_G μ48 := by rw [eμ48]; exact hG39
                obtain ⟨k49, h⟩ := sh_chk h
                obtain ⟨r50, er50⟩ : ∃ y : Nat, y = (sh_ref μ48 7 2) := ⟨_, rfl⟩
                rw [sh_let_eq er50] at h
                have k49r : sh_r μ48 7 2 = some r50 ∧ (r50 = 8 ∨ r50 = 29) := by rw [er50]; exact k49
                obtain ⟨k51, h⟩ := sh_chk h
                obtain ⟨r52, er52⟩ : ∃ y : Nat, y = (sh_ref μ48 7 2) := ⟨_, rfl⟩
                rw [sh_let_eq er52] at h
                have k51r : sh_r μ48 7 2 = some r52 ∧ (r52 = 8 ∨ r52 = 29) := by rw [er52]; exact k51
                obtain ⟨k53, h⟩ := sh_chk h
                obtain ⟨μ54, eμ54⟩ : ∃ y : sh_Mem, y = (sh_setI μ48 ((r50 + 14) + 2) ((sh_i μ48 r52 3)).toNatClampNeg y19) := ⟨_, rfl⟩
                rw [sh_let_eq eμ54] at h
                have hG54 : sh_G μ54 := by rw [eμ54]; exact hG48
                obtain ⟨k55, h⟩ := sh_chk h
                obtain ⟨r56, er56⟩ : ∃ y : Nat, y = (sh_ref μ54 7 2) := ⟨_, rfl⟩
                rw [sh_let_eq er56] at h
                have k55r : sh_r μ54 7 2 = some r56 ∧ (r56 = 8 ∨ r56 = 29) := by rw [er56]; exact k55
                obtain ⟨k57, h⟩ := sh_chk h
                obtain ⟨r58, er58⟩ : ∃ y : Nat, y = (sh_ref μ54 7 2) := ⟨_, rfl⟩
                rw [sh_let_eq er58] at h
                have k57r : sh_r μ54 7 2 = some r58 ∧ (r58 = 8 ∨ r58 = 29) := by rw [er58]; exact k57
                obtain ⟨k59, h⟩ := sh_chk h
                obtain ⟨μ60, eμ60⟩ : ∃ y : sh_Mem, y = (sh_setI μ54 ((r56 + 14) + 3) ((sh_i μ54 r58 3)).toNatClampNeg y25) := ⟨_, rfl⟩
                rw [sh_let_eq eμ60] at h
                have hG60 : sh_G μ60 := by rw [eμ60]; exact hG54
                obtain ⟨k61, h⟩ := sh_chk h
                obtain ⟨r62, er62⟩ : ∃ y : Nat, y = (sh_ref μ60 7 2) := ⟨_, rfl⟩
                rw [sh_let_eq er62] at h
                have k61r : sh_r μ60 7 2 = some r62 ∧ (r62 = 8 ∨ r62 = 29) := by rw [er62]; exact k61
                obtain ⟨k63, h⟩ := sh_chk h
                obtain ⟨r64, er64⟩ : ∃ y : Nat, y = (sh_ref μ60 7 2) := ⟨_, rfl⟩
                rw [sh_let_eq er64] at h
                have k63r : sh_r μ60 7 2 = some r64 ∧ (r64 = 8 ∨ r64 = 29) := by rw [er64]; exact k63
                obtain ⟨k65, h⟩ := sh_chk h
                obtain ⟨μ66, eμ66⟩ : ∃ y : sh_Mem, y = (sh_setI μ60 ((r62 + 14) + 4) ((sh_i μ60 r64 3)).toNatClampNeg y41) := ⟨_, rfl⟩
                rw [sh_let_eq eμ66] at h
                have hG66 : sh_G μ66 := by rw [eμ66]; exact hG60
                obtain ⟨k67, h⟩ := sh_chk h
                obtain ⟨r68, er68⟩ : ∃ y : Nat, y = (sh_ref μ66 7 2) := ⟨_, rfl⟩
                rw [sh_let_eq er68] at h
                have k67r : sh_r μ66 7 2 = some r68 ∧ (r68 = 8 ∨ r68 = 29) := by rw [er68]; exact k67
                obtain ⟨k69, h⟩ := sh_chk h
                obtain ⟨r70, er70⟩ : ∃ y : Nat, y = (sh_ref μ66 7 2) := ⟨_, rfl⟩
                rw [sh_let_eq er70] at h
                have k69r : sh_r μ66 7 2 = some r70 ∧ (r70 = 8 ∨ r70 = 29) := by rw [er70]; exact k69
                obtain ⟨k71, h⟩ := sh_chk h
                obtain ⟨μ72, eμ72⟩ : ∃ y : sh_Mem, y = (sh_setI μ66 ((r68 + 14) + 5) ((sh_i μ66 r70 3)).toNatClampNeg 0) := ⟨_, rfl⟩
                rw [sh_let_eq eμ72] at h
                have hG72 : sh_G μ72 := by rw [eμ72]; exact hG66
                obtain ⟨k73, h⟩ := sh_chk h
                obtain ⟨r74, er74⟩ : ∃ y : Nat, y = (sh_ref μ72 7 2) := ⟨_, rfl⟩
                rw [sh_let_eq er74] at h
                have k73r : sh_r μ72 7 2 = some r74 ∧ (r74 = 8 ∨ r74 = 29) := by rw [er74]; exact k73
                obtain ⟨μ75, eμ75⟩ : ∃ y : sh_Mem, y = (sh_setI μ72 r74 3 ((sh_i μ72 r74 3) + 1)) := ⟨_, rfl⟩
                rw [sh_let_eq eμ75] at h
                have hG75 : sh_G μ75 := by rw [eμ75]; exact hG72
                obtain ⟨e1, e2⟩ := sh_some2 h
                exact e2 ▸ hG75
          · rw [if_neg c34] at h
            obtain ⟨y78, μ76, hr77, h⟩ := sh_bind_e h
            have hG76 := gp_X8_fails hG31 hr77
            obtain ⟨k79, h⟩ := sh_chk h
            obtain ⟨e1, e2⟩ := sh_some2 h
            exact e2 ▸ hG76
theorem t_X6_readPerson {μ μ' : sh_Mem} {v : Int32} (hG : sh_G μ) (h : f_X6_readPerson μ = some (v, μ')) : sh_C0 l B D ca 9 M_X6_readPerson [.ref 7] μ (fun v0 μ0 => v0 = some (.int v) ∧ μ0 = μ') := by
  unfold f_X6_readPerson at h
  refine vv_aload_n 0 0 dX6_readPerson_0 rfl rfl ?_
  refine vv_getR 1 dX6_readPerson_1 fl_6_18 rfl (g_l_7 hG) (g_r_7_0 hG) ?_
  obtain ⟨μ1, hr2, h⟩ := sh_bindv_e h
  refine v1_callV [] 4 dX6_readPerson_4 ck_X6_131 (g_l_2 hG) ⟨by decide, rfl⟩ (t_X8_advance hG hr2) (Nat.le_of_ble_eq_true rfl) ⟨Nat.le_of_ble_eq_true rfl, Nat.le_of_ble_eq_true rfl⟩ rfl (Nat.le_of_ble_eq_true rfl) ?_
  have hG1 := gp_X8_advance hG hr2
  refine vv_aload_n 7 0 dX6_readPerson_7 rfl rfl ?_
  refine vv_getR 8 dX6_readPerson_8 fl_6_18 rfl (g_l_7 hG1) (g_r_7_0 hG1) ?_
  obtain ⟨y6, μ4, hr5, h⟩ := sh_bind_e h
  refine v1_callV [] 11 dX6_readPerson_11 ck_X6_156 (g_l_2 hG1) ⟨by decide, rfl⟩ (t_X8_takeName hG1 hr5) (Nat.le_of_ble_eq_true rfl) ⟨Nat.le_of_ble_eq_true rfl, Nat.le_of_ble_eq_true rfl⟩ rfl (Nat.le_of_ble_eq_true rfl) ?_
  have hG4 := gp_X8_takeName hG1 hr5
  refine vv_istore_n (lv' := [(1, _), (0, _)]) 14 1 dX6_readPerson_14 rfl (by decide) rfl ?_
  refine vv_aload_n 15 0 dX6_readPerson_15 rfl rfl ?_
  refine vv_iload_n 16 1 dX6_readPerson_16 rfl rfl ?_
  obtain ⟨y9, μ7, hr8, h⟩ := sh_bind_e h
  refine v1_callV [_] 17 dX6_readPerson_17 ck_X6_160 (g_l_7 hG4) ⟨by decide, rfl⟩ (t_X6_isNew hG4 hr8) (Nat.le_of_ble_eq_true rfl) ⟨Nat.le_of_ble_eq_true rfl, Nat.le_of_ble_eq_true rfl⟩ rfl (Nat.le_of_ble_eq_true rfl) ?_
  have hG7 := gp_X6_isNew hG4 hr8
  refine vv_if_eq 20 34 dX6_readPerson_20 (by decide) (fun c10 => ?_) (fun c10 => ?_)
  · rw [if_pos c10] at h
    refine vv_iconst 34 dX6_readPerson_34 ik_0 ?_
    obtain ⟨e1, e2⟩ := sh_some2 h
    refine vv_zret 35 dX6_readPerson_35 rfl rfl (Nat.le_refl _) (Nat.le_refl _) ⟨by rw [e1], e2⟩
  · rw [if_neg c10] at h
    refine vv_aload_n 23 0 dX6_readPerson_23 rfl rfl ?_
    refine vv_getR 24 dX6_readPerson_24 fl_6_18 rfl (g_l_7 hG7) (g_r_7_0 hG7) ?_
    refine vv_iconst 27 dX6_readPerson_27 ik_5 ?_
    obtain ⟨y13, μ11, hr12, h⟩ := sh_bind_e h
    refine v1_callV [_] 28 dX6_readPerson_28 ck_X6_53 (g_l_2 hG7) ⟨by decide, rfl⟩ (t_X8_takesWord hG7 hr12) (Nat.le_of_ble_eq_true rfl) ⟨Nat.le_of_ble_eq_true rfl, Nat.le_of_ble_eq_true rfl⟩ rfl (Nat.le_of_ble_eq_true rfl) ?_
    have hG11 := gp_X8_takesWord hG7 hr12
    refine vv_if_ne 31 36 dX6_readPerson_31 (by decide) (fun c14 => ?_) (fun c14 => ?_)
    · rw [if_neg c14] at h
      refine vv_aload_n 36 0 dX6_readPerson_36 rfl rfl ?_
      refine vv_getR 37 dX6_readPerson_37 fl_6_18 rfl (g_l_7 hG11) (g_r_7_0 hG11) ?_
      refine vv_iconst 40 dX6_readPerson_40 ik_0 ?_
      refine vv_aload_n 41 0 dX6_readPerson_41 rfl rfl ?_
      obtain ⟨k15, h⟩ := sh_chk h
      refine vv_getR 42 dX6_readPerson_42 fl_6_12 rfl (g_l_7 hG11) k15.1 ?_
      refine vv_topr (fun r16 er16 => ?_)
      rw [sh_let_eq er16] at h
      have k15r : sh_r μ11 7 2 = some r16 ∧ (r16 = 8 ∨ r16 = 29) := by rw [er16]; exact k15
      refine vv_getI 45 dX6_readPerson_45 fl_6_60 rfl (gP_l hG11 k15r.2) ?_
      refine vv_iconst 48 dX6_readPerson_48 ik_1 ?_
      refine vv_isub 49 dX6_readPerson_49 ?_
      obtain ⟨y19, μ17, hr18, h⟩ := sh_bind_e h
      refine v1_callV [_, _] 50 dX6_readPerson_50 ck_X6_56 (g_l_2 hG11) ⟨by decide, rfl⟩ (t_X8_takeNumber hG11 hr18) (Nat.le_of_ble_eq_true rfl) ⟨Nat.le_of_ble_eq_true rfl, Nat.le_of_ble_eq_true rfl⟩ rfl (Nat.le_of_ble_eq_true rfl) ?_
      have hG17 := gp_X8_takeNumber hG11 hr18
      refine vv_istore_n (lv' := [(2, _), (1, _), (0, _)]) 53 2 dX6_readPerson_53 rfl (by decide) rfl ?_
      refine vv_iload_n 54 2 dX6_readPerson_54 rfl rfl ?_
      refine vv_iconst 55 dX6_readPerson_55 ik_m1 ?_
      refine vv_icmp_ne 56 61 dX6_readPerson_56 (by decide) (fun c20 => ?_) (fun c20 => ?_)
      · rw [if_neg c20] at h
        refine vv_aload_n 61 0 dX6_readPerson_61 rfl rfl ?_
        refine vv_getR 62 dX6_readPerson_62 fl_6_18 rfl (g_l_7 hG17) (g_r_7_0 hG17) ?_
        refine vv_iconst 65 dX6_readPerson_65 ik_0 ?_
        refine vv_aload_n 66 0 dX6_readPerson_66 rfl rfl ?_
        obtain ⟨k21, h⟩ := sh_chk h
        refine vv_getR 67 dX6_readPerson_67 fl_6_12 rfl (g_l_7 hG17) k21.1 ?_
        refine vv_topr (fun r22 er22 => ?_)
        rw [sh_let_eq er22] at h
        have k21r : sh_r μ17 7 2 = some r22 ∧ (r22 = 8 ∨ r22 = 29) := by rw [er22]; exact k21
        refine vv_getI 70 dX6_readPerson_70 fl_6_63 rfl (gP_l hG17 k21r.2) ?_
        refine vv_iconst 73 dX6_readPerson_73 ik_1 ?_
        refine vv_isub 74 dX6_readPerson_74 ?_
        obtain ⟨y25, μ23, hr24, h⟩ := sh_bind_e h
        refine v1_callV [_, _] 75 dX6_readPerson_75 ck_X6_56 (g_l_2 hG17) ⟨by decide, rfl⟩ (t_X8_takeNumber hG17 hr24) (Nat.le_of_ble_eq_true rfl) ⟨Nat.le_of_ble_eq_true rfl, Nat.le_of_ble_eq_true rfl⟩ rfl (Nat.le_of_ble_eq_true rfl) ?_
        have hG23 := gp_X8_takeNumber hG17 hr24
        refine vv_istore_n (lv' := [(3, _), (2, _), (1, _), (0, _)]) 78 3 dX6_readPerson_78 rfl (by decide) rfl ?_
        refine vv_iload_n 79 3 dX6_readPerson_79 rfl rfl ?_
        refine vv_iconst 80 dX6_readPerson_80 ik_m1 ?_
        refine vv_icmp_ne 81 86 dX6_readPerson_81 (by decide) (fun c26 => ?_) (fun c26 => ?_)
        · rw [if_neg c26] at h
          refine vv_aload_n 86 0 dX6_readPerson_86 rfl rfl ?_
          obtain ⟨k27, h⟩ := sh_chk h
          refine vv_getR 87 dX6_readPerson_87 fl_6_12 rfl (g_l_7 hG23) k27.1 ?_
          refine vv_topr (fun r28 er28 => ?_)
          rw [sh_let_eq er28] at h
          have k27r : sh_r μ23 7 2 = some r28 ∧ (r28 = 8 ∨ r28 = 29) := by rw [er28]; exact k27
          refine vv_getR 90 dX6_readPerson_90 fl_6_137 rfl (gP_l hG23 k27r.2) (gP_r16 hG23 k27r.2) ?_
          refine vv_iload_n 93 2 dX6_readPerson_93 rfl rfl ?_
          refine vv_iload_n 94 3 dX6_readPerson_94 rfl rfl ?_
          refine vv_aload_n 95 0 dX6_readPerson_95 rfl rfl ?_
          obtain ⟨k29, h⟩ := sh_chk h
          refine vv_getR 96 dX6_readPerson_96 fl_6_12 rfl (g_l_7 hG23) k29.1 ?_
          refine vv_topr (fun r30 er30 => ?_)
          rw [sh_let_eq er30] at h
          have k29r : sh_r μ23 7 2 = some r30 ∧ (r30 = 8 ∨ r30 = 29) := by rw [er30]; exact k29
          refine vv_getI 99 dX6_readPerson_99 fl_6_125 rfl (gP_l hG23 k29r.2) ?_
          obtain ⟨y33, μ31, hr32, h⟩ := sh_bind_e h
          refine v1_callV [_, _, _] 102 dX6_readPerson_102 ck_X6_166 (gL_l hG23 (gP_land k27r.2)) ⟨by decide, rfl⟩ (t_X3_isSomeoneAt hG23 (gP_land k27r.2) hr32) (Nat.le_of_ble_eq_true rfl) ⟨Nat.le_of_ble_eq_true rfl, Nat.le_of_ble_eq_true rfl⟩ rfl (Nat.le_of_ble_eq_true rfl) ?_
          have hG31 := gp_X3_isSomeoneAt hG23 (gP_land k27r.2) hr32
          refine vv_if_eq 105 124 dX6_readPerson_105 (by decide) (fun c34 => ?_) (fun c34 => ?_)
          · rw [if_pos c34] at h
            refine vv_aload_n 124 0 dX6_readPerson_124 rfl rfl ?_
            refine vv_getR 125 dX6_readPerson_125 fl_6_18 rfl (g_l_7 hG31) (g_r_7_0 hG31) ?_
            refine vv_bipush 128 dX6_readPerson_128 bk_6 ?_
            obtain ⟨y37, μ35, hr36, h⟩ := sh_bind_e h
            refine v1_callV [_] 130 dX6_readPerson_130 ck_X6_53 (g_l_2 hG31) ⟨by decide, rfl⟩ (t_X8_takesWord hG31 hr36) (Nat.le_of_ble_eq_true rfl) ⟨Nat.le_of_ble_eq_true rfl, Nat.le_of_ble_eq_true rfl⟩ rfl (Nat.le_of_ble_eq_true rfl) ?_
            have hG35 := gp_X8_takesWord hG31 hr36
            refine vv_if_eq 133 149 dX6_readPerson_133 (by decide) (fun c38 => ?_) (fun c38 => ?_)
            · rw [if_pos c38] at h
              refine vv_iconst 149 dX6_readPerson_149 ik_m1 ?_
              refine vv_istore (lv' := [(4, _), (3, _), (2, _), (1, _), (0, _)]) 150 4 dX6_readPerson_150 (by decide) rfl ?_
              refine vv_iload 152 4 dX6_readPerson_152 rfl ?_
              refine vv_iconst 154 dX6_readPerson_154 ik_m1 ?_
              refine vv_icmp_ne 155 160 dX6_readPerson_155 (by decide) (fun hc => absurd (by decide) hc) (fun _ => ?_)
              refine vv_iconst 158 dX6_readPerson_158 ik_0 ?_
              obtain ⟨e1, e2⟩ := sh_some2 h
              refine vv_zret 159 dX6_readPerson_159 rfl rfl (Nat.le_refl _) (Nat.le_refl _) ⟨by rw [e1], e2⟩
            · rw [if_neg c38] at h
              refine vv_aload_n 136 0 dX6_readPerson_136 rfl rfl ?_
              refine vv_getR 137 dX6_readPerson_137 fl_6_18 rfl (g_l_7 hG35) (g_r_7_0 hG35) ?_
              refine vv_iconst 140 dX6_readPerson_140 ik_0 ?_
              refine vv_bipush 141 dX6_readPerson_141 bk_9 ?_
              obtain ⟨y41, μ39, hr40, h⟩ := sh_bind_e h
              refine v1_callV [_, _] 143 dX6_readPerson_143 ck_X6_56 (g_l_2 hG35) ⟨by decide, rfl⟩ (t_X8_takeNumber hG35 hr40) (Nat.le_of_ble_eq_true rfl) ⟨Nat.le_of_ble_eq_true rfl, Nat.le_of_ble_eq_true rfl⟩ rfl (Nat.le_of_ble_eq_true rfl) ?_
              have hG39 := gp_X8_takeNumber hG35 hr40
              refine vv_goto 146 150 dX6_readPerson_146 (by decide) ?_
              refine vv_istore (lv' := [(4, _), (3, _), (2, _), (1, _), (0, _)]) 150 4 dX6_readPerson_150 (by decide) rfl ?_
              refine vv_iload 152 4 dX6_readPerson_152 rfl ?_
              refine vv_iconst 154 dX6_readPerson_154 ik_m1 ?_
              refine vv_icmp_ne 155 160 dX6_readPerson_155 (by decide) (fun c42 => ?_) (fun c42 => ?_)
              · rw [if_neg c42] at h
                refine vv_aload_n 160 0 dX6_readPerson_160 rfl rfl ?_
                obtain ⟨k43, h⟩ := sh_chk h
                refine vv_getR 161 dX6_readPerson_161 fl_6_12 rfl (g_l_7 hG39) k43.1 ?_
                refine vv_topr (fun r44 er44 => ?_)
                rw [sh_let_eq er44] at h
                have k43r : sh_r μ39 7 2 = some r44 ∧ (r44 = 8 ∨ r44 = 29) := by rw [er44]; exact k43
                refine vv_getR 164 dX6_readPerson_164 fl_6_170 rfl (gP_l hG39 k43r.2) (gP_r7 hG39 k43r.2) ?_
                refine vv_aload_n 167 0 dX6_readPerson_167 rfl rfl ?_
                obtain ⟨k45, h⟩ := sh_chk h
                refine vv_getR 168 dX6_readPerson_168 fl_6_12 rfl (g_l_7 hG39) k45.1 ?_
                refine vv_topr (fun r46 er46 => ?_)
                rw [sh_let_eq er46] at h
                have k45r : sh_r μ39 7 2 = some r46 ∧ (r46 = 8 ∨ r46 = 29) := by rw [er46]; exact k45
                refine vv_getI 171 dX6_readPerson_171 fl_6_125 rfl (gP_l hG39 k45r.2) ?_
                refine vv_iload_n 174 1 dX6_readPerson_174 rfl rfl ?_
                obtain ⟨k47, h⟩ := sh_chk h
                refine vn_iast 175 dX6_readPerson_175 (gA_l hG39 (gPA7 k43r.2)) k47 (fun μ48 eμ48 => ?_)
                rw [sh_let_eq eμ48] at h
                have hG48 : sh_G μ48 := by rw [eμ48]; exact hG39
                refine vv_aload_n 176 0 dX6_readPerson_176 rfl rfl ?_
                obtain ⟨k49, h⟩ := sh_chk h
                refine vv_getR 177 dX6_readPerson_177 fl_6_12 rfl (g_l_7 hG48) k49.1 ?_
                refine vv_topr (fun r50 er50 => ?_)
                rw [sh_let_eq er50] at h
                have k49r : sh_r μ48 7 2 = some r50 ∧ (r50 = 8 ∨ r50 = 29) := by rw [er50]; exact k49
                refine vv_getR 180 dX6_readPerson_180 fl_6_137 rfl (gP_l hG48 k49r.2) (gP_r16 hG48 k49r.2) ?_
                refine vv_getR 183 dX6_readPerson_183 fl_6_173 rfl (gL_l hG48 (gP_land k49r.2)) (gL_r2 hG48 (gP_land k49r.2)) ?_
                refine vv_aload_n 186 0 dX6_readPerson_186 rfl rfl ?_
                obtain ⟨k51, h⟩ := sh_chk h
                refine vv_getR 187 dX6_readPerson_187 fl_6_12 rfl (g_l_7 hG48) k51.1 ?_
                refine vv_topr (fun r52 er52 => ?_)
                rw [sh_let_eq er52] at h
                have k51r : sh_r μ48 7 2 = some r52 ∧ (r52 = 8 ∨ r52 = 29) := by rw [er52]; exact k51
                refine vv_getI 190 dX6_readPerson_190 fl_6_125 rfl (gP_l hG48 k51r.2) ?_
                refine vv_iload_n 193 2 dX6_readPerson_193 rfl rfl ?_
                obtain ⟨k53, h⟩ := sh_chk h
                refine vn_iast 194 dX6_readPerson_194 (gA_l hG48 (gLA2 (gP_land k49r.2))) k53 (fun μ54 eμ54 => ?_)
                rw [sh_let_eq eμ54] at h
                have hG54 : sh_G μ54 := by rw [eμ54]; exact hG48
                refine vv_aload_n 195 0 dX6_readPerson_195 rfl rfl ?_
                obtain ⟨k55, h⟩ := sh_chk h
                refine vv_getR 196 dX6_readPerson_196 fl_6_12 rfl (g_l_7 hG54) k55.1 ?_
                refine vv_topr (fun r56 er56 => ?_)
                rw [sh_let_eq er56] at h
                have k55r : sh_r μ54 7 2 = some r56 ∧ (r56 = 8 ∨ r56 = 29) := by rw [er56]; exact k55
                refine vv_getR 199 dX6_readPerson_199 fl_6_137 rfl (gP_l hG54 k55r.2) (gP_r16 hG54 k55r.2) ?_
                refine vv_getR 202 dX6_readPerson_202 fl_6_176 rfl (gL_l hG54 (gP_land k55r.2)) (gL_r3 hG54 (gP_land k55r.2)) ?_
                refine vv_aload_n 205 0 dX6_readPerson_205 rfl rfl ?_
                obtain ⟨k57, h⟩ := sh_chk h
                refine vv_getR 206 dX6_readPerson_206 fl_6_12 rfl (g_l_7 hG54) k57.1 ?_
                refine vv_topr (fun r58 er58 => ?_)
                rw [sh_let_eq er58] at h
                have k57r : sh_r μ54 7 2 = some r58 ∧ (r58 = 8 ∨ r58 = 29) := by rw [er58]; exact k57
                refine vv_getI 209 dX6_readPerson_209 fl_6_125 rfl (gP_l hG54 k57r.2) ?_
                refine vv_iload_n 212 3 dX6_readPerson_212 rfl rfl ?_
                obtain ⟨k59, h⟩ := sh_chk h
                refine vn_iast 213 dX6_readPerson_213 (gA_l hG54 (gLA3 (gP_land k55r.2))) k59 (fun μ60 eμ60 => ?_)
                rw [sh_let_eq eμ60] at h
                have hG60 : sh_G μ60 := by rw [eμ60]; exact hG54
                refine vv_aload_n 214 0 dX6_readPerson_214 rfl rfl ?_
                obtain ⟨k61, h⟩ := sh_chk h
                refine vv_getR 215 dX6_readPerson_215 fl_6_12 rfl (g_l_7 hG60) k61.1 ?_
                refine vv_topr (fun r62 er62 => ?_)
                rw [sh_let_eq er62] at h
                have k61r : sh_r μ60 7 2 = some r62 ∧ (r62 = 8 ∨ r62 = 29) := by rw [er62]; exact k61
                refine vv_getR 218 dX6_readPerson_218 fl_6_137 rfl (gP_l hG60 k61r.2) (gP_r16 hG60 k61r.2) ?_
                refine vv_getR 221 dX6_readPerson_221 fl_6_179 rfl (gL_l hG60 (gP_land k61r.2)) (gL_r4 hG60 (gP_land k61r.2)) ?_
                refine vv_aload_n 224 0 dX6_readPerson_224 rfl rfl ?_
                obtain ⟨k63, h⟩ := sh_chk h
                refine vv_getR 225 dX6_readPerson_225 fl_6_12 rfl (g_l_7 hG60) k63.1 ?_
                refine vv_topr (fun r64 er64 => ?_)
                rw [sh_let_eq er64] at h
                have k63r : sh_r μ60 7 2 = some r64 ∧ (r64 = 8 ∨ r64 = 29) := by rw [er64]; exact k63
                refine vv_getI 228 dX6_readPerson_228 fl_6_125 rfl (gP_l hG60 k63r.2) ?_
                refine vv_iload 231 4 dX6_readPerson_231 rfl ?_
                obtain ⟨k65, h⟩ := sh_chk h
                refine vn_iast 233 dX6_readPerson_233 (gA_l hG60 (gLA4 (gP_land k61r.2))) k65 (fun μ66 eμ66 => ?_)
                rw [sh_let_eq eμ66] at h
                have hG66 : sh_G μ66 := by rw [eμ66]; exact hG60
                refine vv_aload_n 234 0 dX6_readPerson_234 rfl rfl ?_
                obtain ⟨k67, h⟩ := sh_chk h
                refine vv_getR 235 dX6_readPerson_235 fl_6_12 rfl (g_l_7 hG66) k67.1 ?_
                refine vv_topr (fun r68 er68 => ?_)
                rw [sh_let_eq er68] at h
                have k67r : sh_r μ66 7 2 = some r68 ∧ (r68 = 8 ∨ r68 = 29) := by rw [er68]; exact k67
                refine vv_getR 238 dX6_readPerson_238 fl_6_137 rfl (gP_l hG66 k67r.2) (gP_r16 hG66 k67r.2) ?_
                refine vv_getR 241 dX6_readPerson_241 fl_6_182 rfl (gL_l hG66 (gP_land k67r.2)) (gL_r5 hG66 (gP_land k67r.2)) ?_
                refine vv_aload_n 244 0 dX6_readPerson_244 rfl rfl ?_
                obtain ⟨k69, h⟩ := sh_chk h
                refine vv_getR 245 dX6_readPerson_245 fl_6_12 rfl (g_l_7 hG66) k69.1 ?_
                refine vv_topr (fun r70 er70 => ?_)
                rw [sh_let_eq er70] at h
                have k69r : sh_r μ66 7 2 = some r70 ∧ (r70 = 8 ∨ r70 = 29) := by rw [er70]; exact k69
                refine vv_getI 248 dX6_readPerson_248 fl_6_125 rfl (gP_l hG66 k69r.2) ?_
                refine vv_iconst 251 dX6_readPerson_251 ik_0 ?_
                obtain ⟨k71, h⟩ := sh_chk h
                refine vn_iast 252 dX6_readPerson_252 (gA_l hG66 (gLA5 (gP_land k67r.2))) k71 (fun μ72 eμ72 => ?_)
                rw [sh_let_eq eμ72] at h
                have hG72 : sh_G μ72 := by rw [eμ72]; exact hG66
                refine vv_aload_n 253 0 dX6_readPerson_253 rfl rfl ?_
                obtain ⟨k73, h⟩ := sh_chk h
                refine vv_getR 254 dX6_readPerson_254 fl_6_12 rfl (g_l_7 hG72) k73.1 ?_
                refine vv_topr (fun r74 er74 => ?_)
                rw [sh_let_eq er74] at h
                have k73r : sh_r μ72 7 2 = some r74 ∧ (r74 = 8 ∨ r74 = 29) := by rw [er74]; exact k73
                refine vv_dup_ref 257 dX6_readPerson_257 ?_
                refine vv_getI 258 dX6_readPerson_258 fl_6_125 rfl (gP_l hG72 k73r.2) ?_
                refine vv_iconst 261 dX6_readPerson_261 ik_1 ?_
                refine vv_iadd 262 dX6_readPerson_262 ?_
                refine vn_putI 263 dX6_readPerson_263 fl_6_125 (Or.inl rfl) rfl (gP_l hG72 k73r.2) (fun μ75 eμ75 => ?_)
                rw [sh_let_eq eμ75] at h
                have hG75 : sh_G μ75 := by rw [eμ75]; exact hG72
                refine vv_iconst 266 dX6_readPerson_266 ik_1 ?_
                obtain ⟨e1, e2⟩ := sh_some2 h
                refine vv_zret 267 dX6_readPerson_267 rfl rfl (Nat.le_refl _) (Nat.le_refl _) ⟨by rw [e1], e2⟩
              · rw [if_pos c42] at h
                refine vv_iconst 158 dX6_readPerson_158 ik_0 ?_
                obtain ⟨e1, e2⟩ := sh_some2 h
                refine vv_zret 159 dX6_readPerson_159 rfl rfl (Nat.le_refl _) (Nat.le_refl _) ⟨by rw [e1], e2⟩
          · rw [if_neg c34] at h
            refine vv_aload_n 108 0 dX6_readPerson_108 rfl rfl ?_
            refine vv_getR 109 dX6_readPerson_109 fl_6_18 rfl (g_l_7 hG31) (g_r_7_0 hG31) ?_
            refine vv_iconst 112 dX6_readPerson_112 ik_2 ?_
            refine vv_aload_n 113 0 dX6_readPerson_113 rfl rfl ?_
            refine vv_getR 114 dX6_readPerson_114 fl_6_18 rfl (g_l_7 hG31) (g_r_7_0 hG31) ?_
            refine vv_getI 117 dX6_readPerson_117 fl_6_153 rfl (g_l_2 hG31) ?_
            obtain ⟨y78, μ76, hr77, h⟩ := sh_bind_e h
            refine v1_callV [_, _] 120 dX6_readPerson_120 ck_X6_49 (g_l_2 hG31) ⟨by decide, rfl⟩ (t_X8_fails hG31 hr77) (Nat.le_of_ble_eq_true rfl) ⟨Nat.le_of_ble_eq_true rfl, Nat.le_of_ble_eq_true rfl⟩ rfl (Nat.le_of_ble_eq_true rfl) ?_
            have hG76 := gp_X8_fails hG31 hr77
            obtain ⟨k79, h⟩ := sh_chk h
            obtain ⟨e1, e2⟩ := sh_some2 h
            refine vv_zret 123 dX6_readPerson_123 rfl (sh_nb k79) (Nat.le_refl _) (Nat.le_refl _) ⟨by rw [e1], e2⟩
        · rw [if_pos c26] at h
          refine vv_iconst 84 dX6_readPerson_84 ik_0 ?_
          obtain ⟨e1, e2⟩ := sh_some2 h
          refine vv_zret 85 dX6_readPerson_85 rfl rfl (Nat.le_refl _) (Nat.le_refl _) ⟨by rw [e1], e2⟩
      · rw [if_pos c20] at h
        refine vv_iconst 59 dX6_readPerson_59 ik_0 ?_
        obtain ⟨e1, e2⟩ := sh_some2 h
        refine vv_zret 60 dX6_readPerson_60 rfl rfl (Nat.le_refl _) (Nat.le_refl _) ⟨by rw [e1], e2⟩
    · rw [if_pos c14] at h
      refine vv_iconst 34 dX6_readPerson_34 ik_0 ?_
      obtain ⟨e1, e2⟩ := sh_some2 h
      refine vv_zret 35 dX6_readPerson_35 rfl rfl (Nat.le_refl _) (Nat.le_refl _) ⟨by rw [e1], e2⟩
noncomputable def f_X6_readKnows (μ : sh_Mem) : Option (Int32 × sh_Mem) := sh_bindv (f_X8_advance μ) (fun μ1 => sh_bind (f_X8_takeName μ1) (fun y6 μ4 => sh_bind (f_X6_asPerson y6 μ4) (fun y9 μ7 => (if y9 = (-1) then some (0, μ7) else sh_bind (f_X8_takesWord 8 μ7) (fun y13 μ11 => (if y13 = 0 then some (0, μ11) else sh_bind (f_X8_takeName μ11) (fun y17 μ15 => sh_bind (f_X6_asTopic y17 μ15) (fun y20 μ18 => (if y20 = (-1) then some (0, μ18) else (if (sh_r μ18 7 2 = some (sh_ref μ18 7 2) ∧ ((sh_ref μ18 7 2) = 8 ∨ (sh_ref μ18 7 2) = 29)) then sh_let (sh_ref μ18 7 2) (fun r23 => (if sh_in y9 7 then (if (((sh_i μ18 ((r23 + 14) + 5) y9.toNatClampNeg) >>> (y20 &&& 31)) &&& 1) = 1 then sh_bind (f_X8_fails 3 (sh_i μ18 2 9) μ18) (fun y33 μ31 => (if y33 = 0 ∨ y33 = 1 then some (y33, μ31) else none)) else (if (sh_r μ18 7 2 = some (sh_ref μ18 7 2) ∧ ((sh_ref μ18 7 2) = 8 ∨ (sh_ref μ18 7 2) = 29)) then sh_let (sh_ref μ18 7 2) (fun r27 => (if sh_in y9 7 then (if sh_in y9 7 then sh_let (sh_setI μ18 ((r27 + 14) + 5) y9.toNatClampNeg ((sh_i μ18 ((r27 + 14) + 5) y9.toNatClampNeg) ||| ((1 : Int32) <<< (y20 &&& 31)))) (fun μ30 => some (1, μ30)) else none) else none)) else none)) else none)) else none))))))))))
theorem gp_X6_readKnows {μ μ' : sh_Mem} {v : Int32} (hG : sh_G μ) (h : f_X6_readKnows μ = some (v, μ')) : sh_G μ' := by
  unfold f_X6_readKnows at h
  obtain ⟨μ1, hr2, h⟩ := sh_bindv_e h
  have hG1 := gp_X8_advance hG hr2
  obtain ⟨y6, μ4, hr5, h⟩ := sh_bind_e h
  have hG4 := gp_X8_takeName hG1 hr5
  obtain ⟨y9, μ7, hr8, h⟩ := sh_bind_e h
  have hG7 := gp_X6_asPerson hG4 hr8
  by_cases c10 : y9 = (-1)
  · rw [if_pos c10] at h
    obtain ⟨e1, e2⟩ := sh_some2 h
    exact e2 ▸ hG7
  · rw [if_neg c10] at h
    obtain ⟨y13, μ11, hr12, h⟩ := sh_bind_e h
    have hG11 := gp_X8_takesWord hG7 hr12
    by_cases c14 : y13 = 0
    · rw [if_pos c14] at h
      obtain ⟨e1, e2⟩ := sh_some2 h
      exact e2 ▸ hG11
    · rw [if_neg c14] at h
      obtain ⟨y17, μ15, hr16, h⟩ := sh_bind_e h
      have hG15 := gp_X8_takeName hG11 hr16
      obtain ⟨y20, μ18, hr19, h⟩ := sh_bind_e h
      have hG18 := gp_X6_asTopic hG15 hr19
      by_cases c21 : y20 = (-1)
      · rw [if_pos c21] at h
        obtain ⟨e1, e2⟩ := sh_some2 h
        exact e2 ▸ hG18
      · rw [if_neg c21] at h
        obtain ⟨k22, h⟩ := sh_chk h
        obtain ⟨r23, er23⟩ : ∃ y : Nat, y = (sh_ref μ18 7 2) := ⟨_, rfl⟩
        rw [sh_let_eq er23] at h
        have k22r : sh_r μ18 7 2 = some r23 ∧ (r23 = 8 ∨ r23 = 29) := by rw [er23]; exact k22
        obtain ⟨k24, h⟩ := sh_chk h
        by_cases c25 : (((sh_i μ18 ((r23 + 14) + 5) y9.toNatClampNeg) >>> (y20 &&& 31)) &&& 1) = 1
        · rw [if_pos c25] at h
          obtain ⟨y33, μ31, hr32, h⟩ := sh_bind_e h
          have hG31 := gp_X8_fails hG18 hr32
          obtain ⟨k34, h⟩ := sh_chk h
          obtain ⟨e1, e2⟩ := sh_some2 h
          exact e2 ▸ hG31
        · rw [if_neg c25] at h
          obtain ⟨k26, h⟩ := sh_chk h
          obtain ⟨r27, er27⟩ : ∃ y : Nat, y = (sh_ref μ18 7 2) := ⟨_, rfl⟩
          rw [sh_let_eq er27] at h
          have k26r : sh_r μ18 7 2 = some r27 ∧ (r27 = 8 ∨ r27 = 29) := by rw [er27]; exact k26
          obtain ⟨k28, h⟩ := sh_chk h
          obtain ⟨k29, h⟩ := sh_chk h
          obtain ⟨μ30, eμ30⟩ : ∃ y : sh_Mem, y = (sh_setI μ18 ((r27 + 14) + 5) y9.toNatClampNeg ((sh_i μ18 ((r27 + 14) + 5) y9.toNatClampNeg) ||| ((1 : Int32) <<< (y20 &&& 31)))) := ⟨_, rfl⟩
          rw [sh_let_eq eμ30] at h
          have hG30 : sh_G μ30 := by rw [eμ30]; exact hG18
          obtain ⟨e1, e2⟩ := sh_some2 h
          exact e2 ▸ hG30
theorem t_X6_readKnows {μ μ' : sh_Mem} {v : Int32} (hG : sh_G μ) (h : f_X6_readKnows μ = some (v, μ')) : sh_C0 l B D ca 9 M_X6_readKnows [.ref 7] μ (fun v0 μ0 => v0 = some (.int v) ∧ μ0 = μ') := by
  unfold f_X6_readKnows at h
  refine vv_aload_n 0 0 dX6_readKnows_0 rfl rfl ?_
  refine vv_getR 1 dX6_readKnows_1 fl_6_18 rfl (g_l_7 hG) (g_r_7_0 hG) ?_
  obtain ⟨μ1, hr2, h⟩ := sh_bindv_e h
  refine v1_callV [] 4 dX6_readKnows_4 ck_X6_131 (g_l_2 hG) ⟨by decide, rfl⟩ (t_X8_advance hG hr2) (Nat.le_of_ble_eq_true rfl) ⟨Nat.le_of_ble_eq_true rfl, Nat.le_of_ble_eq_true rfl⟩ rfl (Nat.le_of_ble_eq_true rfl) ?_
  have hG1 := gp_X8_advance hG hr2
  refine vv_aload_n 7 0 dX6_readKnows_7 rfl rfl ?_
  refine vv_aload_n 8 0 dX6_readKnows_8 rfl rfl ?_
  refine vv_getR 9 dX6_readKnows_9 fl_6_18 rfl (g_l_7 hG1) (g_r_7_0 hG1) ?_
  obtain ⟨y6, μ4, hr5, h⟩ := sh_bind_e h
  refine v1_callV [] 12 dX6_readKnows_12 ck_X6_156 (g_l_2 hG1) ⟨by decide, rfl⟩ (t_X8_takeName hG1 hr5) (Nat.le_of_ble_eq_true rfl) ⟨Nat.le_of_ble_eq_true rfl, Nat.le_of_ble_eq_true rfl⟩ rfl (Nat.le_of_ble_eq_true rfl) ?_
  have hG4 := gp_X8_takeName hG1 hr5
  obtain ⟨y9, μ7, hr8, h⟩ := sh_bind_e h
  refine v1_callV [_] 15 dX6_readKnows_15 ck_X6_185 (g_l_7 hG4) ⟨by decide, rfl⟩ (t_X6_asPerson hG4 hr8) (Nat.le_of_ble_eq_true rfl) ⟨Nat.le_of_ble_eq_true rfl, Nat.le_of_ble_eq_true rfl⟩ rfl (Nat.le_of_ble_eq_true rfl) ?_
  have hG7 := gp_X6_asPerson hG4 hr8
  refine vv_istore_n (lv' := [(1, _), (0, _)]) 18 1 dX6_readKnows_18 rfl (by decide) rfl ?_
  refine vv_iload_n 19 1 dX6_readKnows_19 rfl rfl ?_
  refine vv_iconst 20 dX6_readKnows_20 ik_m1 ?_
  refine vv_icmp_eq 21 36 dX6_readKnows_21 (by decide) (fun c10 => ?_) (fun c10 => ?_)
  · rw [if_pos c10] at h
    refine vv_iconst 36 dX6_readKnows_36 ik_0 ?_
    obtain ⟨e1, e2⟩ := sh_some2 h
    refine vv_zret 37 dX6_readKnows_37 rfl rfl (Nat.le_refl _) (Nat.le_refl _) ⟨by rw [e1], e2⟩
  · rw [if_neg c10] at h
    refine vv_aload_n 24 0 dX6_readKnows_24 rfl rfl ?_
    refine vv_getR 25 dX6_readKnows_25 fl_6_18 rfl (g_l_7 hG7) (g_r_7_0 hG7) ?_
    refine vv_bipush 28 dX6_readKnows_28 bk_8 ?_
    obtain ⟨y13, μ11, hr12, h⟩ := sh_bind_e h
    refine v1_callV [_] 30 dX6_readKnows_30 ck_X6_53 (g_l_2 hG7) ⟨by decide, rfl⟩ (t_X8_takesWord hG7 hr12) (Nat.le_of_ble_eq_true rfl) ⟨Nat.le_of_ble_eq_true rfl, Nat.le_of_ble_eq_true rfl⟩ rfl (Nat.le_of_ble_eq_true rfl) ?_
    have hG11 := gp_X8_takesWord hG7 hr12
    refine vv_if_ne 33 38 dX6_readKnows_33 (by decide) (fun c14 => ?_) (fun c14 => ?_)
    · rw [if_neg c14] at h
      refine vv_aload_n 38 0 dX6_readKnows_38 rfl rfl ?_
      refine vv_aload_n 39 0 dX6_readKnows_39 rfl rfl ?_
      refine vv_getR 40 dX6_readKnows_40 fl_6_18 rfl (g_l_7 hG11) (g_r_7_0 hG11) ?_
      obtain ⟨y17, μ15, hr16, h⟩ := sh_bind_e h
      refine v1_callV [] 43 dX6_readKnows_43 ck_X6_156 (g_l_2 hG11) ⟨by decide, rfl⟩ (t_X8_takeName hG11 hr16) (Nat.le_of_ble_eq_true rfl) ⟨Nat.le_of_ble_eq_true rfl, Nat.le_of_ble_eq_true rfl⟩ rfl (Nat.le_of_ble_eq_true rfl) ?_
      have hG15 := gp_X8_takeName hG11 hr16
      obtain ⟨y20, μ18, hr19, h⟩ := sh_bind_e h
      refine v1_callV [_] 46 dX6_readKnows_46 ck_X6_188 (g_l_7 hG15) ⟨by decide, rfl⟩ (t_X6_asTopic hG15 hr19) (Nat.le_of_ble_eq_true rfl) ⟨Nat.le_of_ble_eq_true rfl, Nat.le_of_ble_eq_true rfl⟩ rfl (Nat.le_of_ble_eq_true rfl) ?_
      have hG18 := gp_X6_asTopic hG15 hr19
      refine vv_istore_n (lv' := [(2, _), (1, _), (0, _)]) 49 2 dX6_readKnows_49 rfl (by decide) rfl ?_
      refine vv_iload_n 50 2 dX6_readKnows_50 rfl rfl ?_
      refine vv_iconst 51 dX6_readKnows_51 ik_m1 ?_
      refine vv_icmp_ne 52 57 dX6_readKnows_52 (by decide) (fun c21 => ?_) (fun c21 => ?_)
      · rw [if_neg c21] at h
        refine vv_aload_n 57 0 dX6_readKnows_57 rfl rfl ?_
        obtain ⟨k22, h⟩ := sh_chk h
        refine vv_getR 58 dX6_readKnows_58 fl_6_12 rfl (g_l_7 hG18) k22.1 ?_
        refine vv_topr (fun r23 er23 => ?_)
        rw [sh_let_eq er23] at h
        have k22r : sh_r μ18 7 2 = some r23 ∧ (r23 = 8 ∨ r23 = 29) := by rw [er23]; exact k22
        refine vv_getR 61 dX6_readKnows_61 fl_6_137 rfl (gP_l hG18 k22r.2) (gP_r16 hG18 k22r.2) ?_
        refine vv_getR 64 dX6_readKnows_64 fl_6_182 rfl (gL_l hG18 (gP_land k22r.2)) (gL_r5 hG18 (gP_land k22r.2)) ?_
        refine vv_iload_n 67 1 dX6_readKnows_67 rfl rfl ?_
        obtain ⟨k24, h⟩ := sh_chk h
        refine vv_iald 68 dX6_readKnows_68 (gA_l hG18 (gLA5 (gP_land k22r.2))) k24 ?_
        refine vv_iload_n 69 2 dX6_readKnows_69 rfl rfl ?_
        refine vv_ishr 70 dX6_readKnows_70 ?_
        refine vv_iconst 71 dX6_readKnows_71 ik_1 ?_
        refine vv_iand 72 dX6_readKnows_72 ?_
        refine vv_iconst 73 dX6_readKnows_73 ik_1 ?_
        refine vv_icmp_ne 74 93 dX6_readKnows_74 (by decide) (fun c25 => ?_) (fun c25 => ?_)
        · rw [if_neg c25] at h
          refine vv_aload_n 93 0 dX6_readKnows_93 rfl rfl ?_
          obtain ⟨k26, h⟩ := sh_chk h
          refine vv_getR 94 dX6_readKnows_94 fl_6_12 rfl (g_l_7 hG18) k26.1 ?_
          refine vv_topr (fun r27 er27 => ?_)
          rw [sh_let_eq er27] at h
          have k26r : sh_r μ18 7 2 = some r27 ∧ (r27 = 8 ∨ r27 = 29) := by rw [er27]; exact k26
          refine vv_getR 97 dX6_readKnows_97 fl_6_137 rfl (gP_l hG18 k26r.2) (gP_r16 hG18 k26r.2) ?_
          refine vv_getR 100 dX6_readKnows_100 fl_6_182 rfl (gL_l hG18 (gP_land k26r.2)) (gL_r5 hG18 (gP_land k26r.2)) ?_
          refine vv_iload_n 103 1 dX6_readKnows_103 rfl rfl ?_
          refine vv_dup2_ri 104 dX6_readKnows_104 ?_
          obtain ⟨k28, h⟩ := sh_chk h
          refine vv_iald 105 dX6_readKnows_105 (gA_l hG18 (gLA5 (gP_land k26r.2))) k28 ?_
          refine vv_iconst 106 dX6_readKnows_106 ik_1 ?_
          refine vv_iload_n 107 2 dX6_readKnows_107 rfl rfl ?_
          refine vv_ishl 108 dX6_readKnows_108 ?_
          refine vv_ior 109 dX6_readKnows_109 ?_
          obtain ⟨k29, h⟩ := sh_chk h
          refine vn_iast 110 dX6_readKnows_110 (gA_l hG18 (gLA5 (gP_land k26r.2))) k29 (fun μ30 eμ30 => ?_)
          rw [sh_let_eq eμ30] at h
          have hG30 : sh_G μ30 := by rw [eμ30]; exact hG18
          refine vv_iconst 111 dX6_readKnows_111 ik_1 ?_
          obtain ⟨e1, e2⟩ := sh_some2 h
          refine vv_zret 112 dX6_readKnows_112 rfl rfl (Nat.le_refl _) (Nat.le_refl _) ⟨by rw [e1], e2⟩
        · rw [if_pos c25] at h
          refine vv_aload_n 77 0 dX6_readKnows_77 rfl rfl ?_
          refine vv_getR 78 dX6_readKnows_78 fl_6_18 rfl (g_l_7 hG18) (g_r_7_0 hG18) ?_
          refine vv_iconst 81 dX6_readKnows_81 ik_3 ?_
          refine vv_aload_n 82 0 dX6_readKnows_82 rfl rfl ?_
          refine vv_getR 83 dX6_readKnows_83 fl_6_18 rfl (g_l_7 hG18) (g_r_7_0 hG18) ?_
          refine vv_getI 86 dX6_readKnows_86 fl_6_153 rfl (g_l_2 hG18) ?_
          obtain ⟨y33, μ31, hr32, h⟩ := sh_bind_e h
          refine v1_callV [_, _] 89 dX6_readKnows_89 ck_X6_49 (g_l_2 hG18) ⟨by decide, rfl⟩ (t_X8_fails hG18 hr32) (Nat.le_of_ble_eq_true rfl) ⟨Nat.le_of_ble_eq_true rfl, Nat.le_of_ble_eq_true rfl⟩ rfl (Nat.le_of_ble_eq_true rfl) ?_
          have hG31 := gp_X8_fails hG18 hr32
          obtain ⟨k34, h⟩ := sh_chk h
          obtain ⟨e1, e2⟩ := sh_some2 h
          refine vv_zret 92 dX6_readKnows_92 rfl (sh_nb k34) (Nat.le_refl _) (Nat.le_refl _) ⟨by rw [e1], e2⟩
      · rw [if_pos c21] at h
        refine vv_iconst 55 dX6_readKnows_55 ik_0 ?_
        obtain ⟨e1, e2⟩ := sh_some2 h
        refine vv_zret 56 dX6_readKnows_56 rfl rfl (Nat.le_refl _) (Nat.le_refl _) ⟨by rw [e1], e2⟩
    · rw [if_pos c14] at h
      refine vv_iconst 36 dX6_readKnows_36 ik_0 ?_
      obtain ⟨e1, e2⟩ := sh_some2 h
      refine vv_zret 37 dX6_readKnows_37 rfl rfl (Nat.le_refl _) (Nat.le_refl _) ⟨by rw [e1], e2⟩
noncomputable def f_X6_readAsks (μ : sh_Mem) : Option (Int32 × sh_Mem) := sh_bindv (f_X8_advance μ) (fun μ1 => sh_bind (f_X8_takeName μ1) (fun y6 μ4 => sh_bind (f_X6_asPerson y6 μ4) (fun y9 μ7 => (if y9 = (-1) then some (0, μ7) else sh_bind (f_X8_takesWord 8 μ7) (fun y13 μ11 => (if y13 = 0 then some (0, μ11) else sh_bind (f_X8_takeName μ11) (fun y17 μ15 => sh_bind (f_X6_asTopic y17 μ15) (fun y20 μ18 => (if y20 = (-1) then some (0, μ18) else (if (sh_r μ18 7 2 = some (sh_ref μ18 7 2) ∧ ((sh_ref μ18 7 2) = 8 ∨ (sh_ref μ18 7 2) = 29)) then sh_let (sh_ref μ18 7 2) (fun r23 => (if (sh_r μ18 7 2 = some (sh_ref μ18 7 2) ∧ ((sh_ref μ18 7 2) = 8 ∨ (sh_ref μ18 7 2) = 29)) then sh_let (sh_ref μ18 7 2) (fun r25 => (if sh_in (sh_i μ18 r25 4) 12 then sh_let (sh_setI μ18 (r23 + 3) ((sh_i μ18 r25 4)).toNatClampNeg y9) (fun μ27 => (if (sh_r μ27 7 2 = some (sh_ref μ27 7 2) ∧ ((sh_ref μ27 7 2) = 8 ∨ (sh_ref μ27 7 2) = 29)) then sh_let (sh_ref μ27 7 2) (fun r29 => (if (sh_r μ27 7 2 = some (sh_ref μ27 7 2) ∧ ((sh_ref μ27 7 2) = 8 ∨ (sh_ref μ27 7 2) = 29)) then sh_let (sh_ref μ27 7 2) (fun r31 => (if sh_in (sh_i μ27 r31 4) 12 then sh_let (sh_setI μ27 (r29 + 4) ((sh_i μ27 r31 4)).toNatClampNeg y20) (fun μ33 => (if (sh_r μ33 7 2 = some (sh_ref μ33 7 2) ∧ ((sh_ref μ33 7 2) = 8 ∨ (sh_ref μ33 7 2) = 29)) then sh_let (sh_ref μ33 7 2) (fun r35 => sh_let (sh_setI μ33 r35 4 ((sh_i μ33 r35 4) + 1)) (fun μ36 => some (1, μ36))) else none)) else none)) else none)) else none)) else none)) else none)) else none))))))))))
theorem gp_X6_readAsks {μ μ' : sh_Mem} {v : Int32} (hG : sh_G μ) (h : f_X6_readAsks μ = some (v, μ')) : sh_G μ' := by
  unfold f_X6_readAsks at h
  obtain ⟨μ1, hr2, h⟩ := sh_bindv_e h
  have hG1 := gp_X8_advance hG hr2
  obtain ⟨y6, μ4, hr5, h⟩ := sh_bind_e h
  have hG4 := gp_X8_takeName hG1 hr5
  obtain ⟨y9, μ7, hr8, h⟩ := sh_bind_e h
  have hG7 := gp_X6_asPerson hG4 hr8
  by_cases c10 : y9 = (-1)
  · rw [if_pos c10] at h
    obtain ⟨e1, e2⟩ := sh_some2 h
    exact e2 ▸ hG7
  · rw [if_neg c10] at h
    obtain ⟨y13, μ11, hr12, h⟩ := sh_bind_e h
    have hG11 := gp_X8_takesWord hG7 hr12
    by_cases c14 : y13 = 0
    · rw [if_pos c14] at h
      obtain ⟨e1, e2⟩ := sh_some2 h
      exact e2 ▸ hG11
    · rw [if_neg c14] at h
      obtain ⟨y17, μ15, hr16, h⟩ := sh_bind_e h
      have hG15 := gp_X8_takeName hG11 hr16
      obtain ⟨y20, μ18, hr19, h⟩ := sh_bind_e h
      have hG18 := gp_X6_asTopic hG15 hr19
      by_cases c21 : y20 = (-1)
      · rw [if_pos c21] at h
        obtain ⟨e1, e2⟩ := sh_some2 h
        exact e2 ▸ hG18
      · rw [if_neg c21] at h
        obtain ⟨k22, h⟩ := sh_chk h
        obtain ⟨r23, er23⟩ : ∃ y : Nat, y = (sh_ref μ18 7 2) := ⟨_, rfl⟩
        rw [sh_let_eq er23] at h
        have k22r : sh_r μ18 7 2 = some r23 ∧ (r23 = 8 ∨ r23 = 29) := by rw [er23]; exact k22
        obtain ⟨k24, h⟩ := sh_chk h
        obtain ⟨r25, er25⟩ : ∃ y : Nat, y = (sh_ref μ18 7 2) := ⟨_, rfl⟩
        rw [sh_let_eq er25] at h
        have k24r : sh_r μ18 7 2 = some r25 ∧ (r25 = 8 ∨ r25 = 29) := by rw [er25]; exact k24
        obtain ⟨k26, h⟩ := sh_chk h
        obtain ⟨μ27, eμ27⟩ : ∃ y : sh_Mem, y = (sh_setI μ18 (r23 + 3) ((sh_i μ18 r25 4)).toNatClampNeg y9) := ⟨_, rfl⟩
        rw [sh_let_eq eμ27] at h
        have hG27 : sh_G μ27 := by rw [eμ27]; exact hG18
        obtain ⟨k28, h⟩ := sh_chk h
        obtain ⟨r29, er29⟩ : ∃ y : Nat, y = (sh_ref μ27 7 2) := ⟨_, rfl⟩
        rw [sh_let_eq er29] at h
        have k28r : sh_r μ27 7 2 = some r29 ∧ (r29 = 8 ∨ r29 = 29) := by rw [er29]; exact k28
        obtain ⟨k30, h⟩ := sh_chk h
        obtain ⟨r31, er31⟩ : ∃ y : Nat, y = (sh_ref μ27 7 2) := ⟨_, rfl⟩
        rw [sh_let_eq er31] at h
        have k30r : sh_r μ27 7 2 = some r31 ∧ (r31 = 8 ∨ r31 = 29) := by rw [er31]; exact k30
        obtain ⟨k32, h⟩ := sh_chk h
        obtain ⟨μ33, eμ33⟩ : ∃ y : sh_Mem, y = (sh_setI μ27 (r29 + 4) ((sh_i μ27 r31 4)).toNatClampNeg y20) := ⟨_, rfl⟩
        rw [sh_let_eq eμ33] at h
        have hG33 : sh_G μ33 := by rw [eμ33]; exact hG27
        obtain ⟨k34, h⟩ := sh_chk h
        obtain ⟨r35, er35⟩ : ∃ y : Nat, y = (sh_ref μ33 7 2) := ⟨_, rfl⟩
        rw [sh_let_eq er35] at h
        have k34r : sh_r μ33 7 2 = some r35 ∧ (r35 = 8 ∨ r35 = 29) := by rw [er35]; exact k34
        obtain ⟨μ36, eμ36⟩ : ∃ y : sh_Mem, y = (sh_setI μ33 r35 4 ((sh_i μ33 r35 4) + 1)) := ⟨_, rfl⟩
        rw [sh_let_eq eμ36] at h
        have hG36 : sh_G μ36 := by rw [eμ36]; exact hG33
        obtain ⟨e1, e2⟩ := sh_some2 h
        exact e2 ▸ hG36
theorem t_X6_readAsks {μ μ' : sh_Mem} {v : Int32} (hG : sh_G μ) (h : f_X6_readAsks μ = some (v, μ')) : sh_C0 l B D ca 9 M_X6_readAsks [.ref 7] μ (fun v0 μ0 => v0 = some (.int v) ∧ μ0 = μ') := by
  unfold f_X6_readAsks at h
  refine vv_aload_n 0 0 dX6_readAsks_0 rfl rfl ?_
  refine vv_getR 1 dX6_readAsks_1 fl_6_18 rfl (g_l_7 hG) (g_r_7_0 hG) ?_
  obtain ⟨μ1, hr2, h⟩ := sh_bindv_e h
  refine v1_callV [] 4 dX6_readAsks_4 ck_X6_131 (g_l_2 hG) ⟨by decide, rfl⟩ (t_X8_advance hG hr2) (Nat.le_of_ble_eq_true rfl) ⟨Nat.le_of_ble_eq_true rfl, Nat.le_of_ble_eq_true rfl⟩ rfl (Nat.le_of_ble_eq_true rfl) ?_
  have hG1 := gp_X8_advance hG hr2
  refine vv_aload_n 7 0 dX6_readAsks_7 rfl rfl ?_
  refine vv_aload_n 8 0 dX6_readAsks_8 rfl rfl ?_
  refine vv_getR 9 dX6_readAsks_9 fl_6_18 rfl (g_l_7 hG1) (g_r_7_0 hG1) ?_
  obtain ⟨y6, μ4, hr5, h⟩ := sh_bind_e h
  refine v1_callV [] 12 dX6_readAsks_12 ck_X6_156 (g_l_2 hG1) ⟨by decide, rfl⟩ (t_X8_takeName hG1 hr5) (Nat.le_of_ble_eq_true rfl) ⟨Nat.le_of_ble_eq_true rfl, Nat.le_of_ble_eq_true rfl⟩ rfl (Nat.le_of_ble_eq_true rfl) ?_
  have hG4 := gp_X8_takeName hG1 hr5
  obtain ⟨y9, μ7, hr8, h⟩ := sh_bind_e h
  refine v1_callV [_] 15 dX6_readAsks_15 ck_X6_185 (g_l_7 hG4) ⟨by decide, rfl⟩ (t_X6_asPerson hG4 hr8) (Nat.le_of_ble_eq_true rfl) ⟨Nat.le_of_ble_eq_true rfl, Nat.le_of_ble_eq_true rfl⟩ rfl (Nat.le_of_ble_eq_true rfl) ?_
  have hG7 := gp_X6_asPerson hG4 hr8
  refine vv_istore_n (lv' := [(1, _), (0, _)]) 18 1 dX6_readAsks_18 rfl (by decide) rfl ?_
  refine vv_iload_n 19 1 dX6_readAsks_19 rfl rfl ?_
  refine vv_iconst 20 dX6_readAsks_20 ik_m1 ?_
  refine vv_icmp_eq 21 36 dX6_readAsks_21 (by decide) (fun c10 => ?_) (fun c10 => ?_)
  · rw [if_pos c10] at h
    refine vv_iconst 36 dX6_readAsks_36 ik_0 ?_
    obtain ⟨e1, e2⟩ := sh_some2 h
    refine vv_zret 37 dX6_readAsks_37 rfl rfl (Nat.le_refl _) (Nat.le_refl _) ⟨by rw [e1], e2⟩
  · rw [if_neg c10] at h
    refine vv_aload_n 24 0 dX6_readAsks_24 rfl rfl ?_
    refine vv_getR 25 dX6_readAsks_25 fl_6_18 rfl (g_l_7 hG7) (g_r_7_0 hG7) ?_
    refine vv_bipush 28 dX6_readAsks_28 bk_8 ?_
    obtain ⟨y13, μ11, hr12, h⟩ := sh_bind_e h
    refine v1_callV [_] 30 dX6_readAsks_30 ck_X6_53 (g_l_2 hG7) ⟨by decide, rfl⟩ (t_X8_takesWord hG7 hr12) (Nat.le_of_ble_eq_true rfl) ⟨Nat.le_of_ble_eq_true rfl, Nat.le_of_ble_eq_true rfl⟩ rfl (Nat.le_of_ble_eq_true rfl) ?_
    have hG11 := gp_X8_takesWord hG7 hr12
    refine vv_if_ne 33 38 dX6_readAsks_33 (by decide) (fun c14 => ?_) (fun c14 => ?_)
    · rw [if_neg c14] at h
      refine vv_aload_n 38 0 dX6_readAsks_38 rfl rfl ?_
      refine vv_aload_n 39 0 dX6_readAsks_39 rfl rfl ?_
      refine vv_getR 40 dX6_readAsks_40 fl_6_18 rfl (g_l_7 hG11) (g_r_7_0 hG11) ?_
      obtain ⟨y17, μ15, hr16, h⟩ := sh_bind_e h
      refine v1_callV [] 43 dX6_readAsks_43 ck_X6_156 (g_l_2 hG11) ⟨by decide, rfl⟩ (t_X8_takeName hG11 hr16) (Nat.le_of_ble_eq_true rfl) ⟨Nat.le_of_ble_eq_true rfl, Nat.le_of_ble_eq_true rfl⟩ rfl (Nat.le_of_ble_eq_true rfl) ?_
      have hG15 := gp_X8_takeName hG11 hr16
      obtain ⟨y20, μ18, hr19, h⟩ := sh_bind_e h
      refine v1_callV [_] 46 dX6_readAsks_46 ck_X6_188 (g_l_7 hG15) ⟨by decide, rfl⟩ (t_X6_asTopic hG15 hr19) (Nat.le_of_ble_eq_true rfl) ⟨Nat.le_of_ble_eq_true rfl, Nat.le_of_ble_eq_true rfl⟩ rfl (Nat.le_of_ble_eq_true rfl) ?_
      have hG18 := gp_X6_asTopic hG15 hr19
      refine vv_istore_n (lv' := [(2, _), (1, _), (0, _)]) 49 2 dX6_readAsks_49 rfl (by decide) rfl ?_
      refine vv_iload_n 50 2 dX6_readAsks_50 rfl rfl ?_
      refine vv_iconst 51 dX6_readAsks_51 ik_m1 ?_
      refine vv_icmp_ne 52 57 dX6_readAsks_52 (by decide) (fun c21 => ?_) (fun c21 => ?_)
      · rw [if_neg c21] at h
        refine vv_aload_n 57 0 dX6_readAsks_57 rfl rfl ?_
        obtain ⟨k22, h⟩ := sh_chk h
        refine vv_getR 58 dX6_readAsks_58 fl_6_12 rfl (g_l_7 hG18) k22.1 ?_
        refine vv_topr (fun r23 er23 => ?_)
        rw [sh_let_eq er23] at h
        have k22r : sh_r μ18 7 2 = some r23 ∧ (r23 = 8 ∨ r23 = 29) := by rw [er23]; exact k22
        refine vv_getR 61 dX6_readAsks_61 fl_6_191 rfl (gP_l hG18 k22r.2) (gP_r8 hG18 k22r.2) ?_
        refine vv_aload_n 64 0 dX6_readAsks_64 rfl rfl ?_
        obtain ⟨k24, h⟩ := sh_chk h
        refine vv_getR 65 dX6_readAsks_65 fl_6_12 rfl (g_l_7 hG18) k24.1 ?_
        refine vv_topr (fun r25 er25 => ?_)
        rw [sh_let_eq er25] at h
        have k24r : sh_r μ18 7 2 = some r25 ∧ (r25 = 8 ∨ r25 = 29) := by rw [er25]; exact k24
        refine vv_getI 68 dX6_readAsks_68 fl_6_128 rfl (gP_l hG18 k24r.2) ?_
        refine vv_iload_n 71 1 dX6_readAsks_71 rfl rfl ?_
        obtain ⟨k26, h⟩ := sh_chk h
        refine vn_iast 72 dX6_readAsks_72 (gA_l hG18 (gPA8 k22r.2)) k26 (fun μ27 eμ27 => ?_)
        rw [sh_let_eq eμ27] at h
        have hG27 : sh_G μ27 := by rw [eμ27]; exact hG18
        refine vv_aload_n 73 0 dX6_readAsks_73 rfl rfl ?_
        obtain ⟨k28, h⟩ := sh_chk h
        refine vv_getR 74 dX6_readAsks_74 fl_6_12 rfl (g_l_7 hG27) k28.1 ?_
        refine vv_topr (fun r29 er29 => ?_)
        rw [sh_let_eq er29] at h
        have k28r : sh_r μ27 7 2 = some r29 ∧ (r29 = 8 ∨ r29 = 29) := by rw [er29]; exact k28
        refine vv_getR 77 dX6_readAsks_77 fl_6_194 rfl (gP_l hG27 k28r.2) (gP_r9 hG27 k28r.2) ?_
        refine vv_aload_n 80 0 dX6_readAsks_80 rfl rfl ?_
        obtain ⟨k30, h⟩ := sh_chk h
        refine vv_getR 81 dX6_readAsks_81 fl_6_12 rfl (g_l_7 hG27) k30.1 ?_
        refine vv_topr (fun r31 er31 => ?_)
        rw [sh_let_eq er31] at h
        have k30r : sh_r μ27 7 2 = some r31 ∧ (r31 = 8 ∨ r31 = 29) := by rw [er31]; exact k30
        refine vv_getI 84 dX6_readAsks_84 fl_6_128 rfl (gP_l hG27 k30r.2) ?_
        refine vv_iload_n 87 2 dX6_readAsks_87 rfl rfl ?_
        obtain ⟨k32, h⟩ := sh_chk h
        refine vn_iast 88 dX6_readAsks_88 (gA_l hG27 (gPA9 k28r.2)) k32 (fun μ33 eμ33 => ?_)
        rw [sh_let_eq eμ33] at h
        have hG33 : sh_G μ33 := by rw [eμ33]; exact hG27
        refine vv_aload_n 89 0 dX6_readAsks_89 rfl rfl ?_
        obtain ⟨k34, h⟩ := sh_chk h
        refine vv_getR 90 dX6_readAsks_90 fl_6_12 rfl (g_l_7 hG33) k34.1 ?_
        refine vv_topr (fun r35 er35 => ?_)
        rw [sh_let_eq er35] at h
        have k34r : sh_r μ33 7 2 = some r35 ∧ (r35 = 8 ∨ r35 = 29) := by rw [er35]; exact k34
        refine vv_dup_ref 93 dX6_readAsks_93 ?_
        refine vv_getI 94 dX6_readAsks_94 fl_6_128 rfl (gP_l hG33 k34r.2) ?_
        refine vv_iconst 97 dX6_readAsks_97 ik_1 ?_
        refine vv_iadd 98 dX6_readAsks_98 ?_
        refine vn_putI 99 dX6_readAsks_99 fl_6_128 (Or.inl rfl) rfl (gP_l hG33 k34r.2) (fun μ36 eμ36 => ?_)
        rw [sh_let_eq eμ36] at h
        have hG36 : sh_G μ36 := by rw [eμ36]; exact hG33
        refine vv_iconst 102 dX6_readAsks_102 ik_1 ?_
        obtain ⟨e1, e2⟩ := sh_some2 h
        refine vv_zret 103 dX6_readAsks_103 rfl rfl (Nat.le_refl _) (Nat.le_refl _) ⟨by rw [e1], e2⟩
      · rw [if_pos c21] at h
        refine vv_iconst 55 dX6_readAsks_55 ik_0 ?_
        obtain ⟨e1, e2⟩ := sh_some2 h
        refine vv_zret 56 dX6_readAsks_56 rfl rfl (Nat.le_refl _) (Nat.le_refl _) ⟨by rw [e1], e2⟩
    · rw [if_pos c14] at h
      refine vv_iconst 36 dX6_readAsks_36 ik_0 ?_
      obtain ⟨e1, e2⟩ := sh_some2 h
      refine vv_zret 37 dX6_readAsks_37 rfl rfl (Nat.le_refl _) (Nat.le_refl _) ⟨by rw [e1], e2⟩
noncomputable def f_X6_beginRule (f1 : Nat) (a2 : Int32) (μ : sh_Mem) : Option sh_Mem := sh_bindv (f_X8_advance μ) (fun μ1 => sh_bindv (f_X2_begin f1 a2 μ1) (fun μ4 => some μ4))
theorem gp_X6_beginRule {f1 : Nat} {a2 : Int32} {μ μ' : sh_Mem} (hG : sh_G μ) (hf1 : sh_isF f1) (h : f_X6_beginRule f1 a2 μ = some μ') : sh_G μ' := by
  unfold f_X6_beginRule at h
  obtain ⟨μ1, hr2, h⟩ := sh_bindv_e h
  have hG1 := gp_X8_advance hG hr2
  obtain ⟨μ4, hr5, h⟩ := sh_bindv_e h
  have hG4 := gp_X2_begin hG1 hf1 hr5
  have e2 := Option.some.inj h
  exact e2 ▸ hG4
theorem t_X6_beginRule {f1 : Nat} {a2 : Int32} {μ μ' : sh_Mem} (hG : sh_G μ) (hf1 : sh_isF f1) (h : f_X6_beginRule f1 a2 μ = some μ') : sh_C0 l B D ca 8 M_X6_beginRule [.ref 7, .ref f1, .int a2] μ (fun v0 μ0 => v0 = none ∧ μ0 = μ') := by
  unfold f_X6_beginRule at h
  refine vv_aload_n 0 0 dX6_beginRule_0 rfl rfl ?_
  refine vv_getR 1 dX6_beginRule_1 fl_6_18 rfl (g_l_7 hG) (g_r_7_0 hG) ?_
  obtain ⟨μ1, hr2, h⟩ := sh_bindv_e h
  refine v1_callV [] 4 dX6_beginRule_4 ck_X6_131 (g_l_2 hG) ⟨by decide, rfl⟩ (t_X8_advance hG hr2) (Nat.le_of_ble_eq_true rfl) ⟨Nat.le_of_ble_eq_true rfl, Nat.le_of_ble_eq_true rfl⟩ rfl (Nat.le_of_ble_eq_true rfl) ?_
  have hG1 := gp_X8_advance hG hr2
  refine vv_aload_n 7 0 dX6_beginRule_7 rfl rfl ?_
  refine vv_getR 8 dX6_beginRule_8 fl_6_22 rfl (g_l_7 hG1) (g_r_7_1 hG1) ?_
  refine vv_aload_n 11 1 dX6_beginRule_11 rfl rfl ?_
  refine vv_iload_n 12 2 dX6_beginRule_12 rfl rfl ?_
  obtain ⟨μ4, hr5, h⟩ := sh_bindv_e h
  refine v1_callV [_, _] 13 dX6_beginRule_13 ck_X6_197 (g_l_6 hG1) ⟨by decide, rfl⟩ (t_X2_begin hG1 hf1 hr5) (Nat.le_of_ble_eq_true rfl) ⟨Nat.le_of_ble_eq_true rfl, Nat.le_of_ble_eq_true rfl⟩ rfl (Nat.le_of_ble_eq_true rfl) ?_
  have hG4 := gp_X2_begin hG1 hf1 hr5
  have e2 := Option.some.inj h
  refine vv_vret 16 dX6_beginRule_16 rfl (Nat.le_refl _) (Nat.le_refl _) ⟨rfl, e2⟩
noncomputable def f_X6_readCrowd (μ : sh_Mem) : Option (Int32 × sh_Mem) := sh_bindv (f_X8_advance μ) (fun μ1 => sh_bind (f_X8_takeNumber 0 100 μ1) (fun y6 μ4 => (if y6 = (-1) then some (0, μ4) else (if (sh_r μ4 7 2 = some (sh_ref μ4 7 2) ∧ ((sh_ref μ4 7 2) = 8 ∨ (sh_ref μ4 7 2) = 29)) then sh_let (sh_ref μ4 7 2) (fun r9 => sh_let (sh_setI μ4 r9 5 y6) (fun μ10 => some (1, μ10))) else none))))
theorem gp_X6_readCrowd {μ μ' : sh_Mem} {v : Int32} (hG : sh_G μ) (h : f_X6_readCrowd μ = some (v, μ')) : sh_G μ' := by
  unfold f_X6_readCrowd at h
  obtain ⟨μ1, hr2, h⟩ := sh_bindv_e h
  have hG1 := gp_X8_advance hG hr2
  obtain ⟨y6, μ4, hr5, h⟩ := sh_bind_e h
  have hG4 := gp_X8_takeNumber hG1 hr5
  by_cases c7 : y6 = (-1)
  · rw [if_pos c7] at h
    obtain ⟨e1, e2⟩ := sh_some2 h
    exact e2 ▸ hG4
  · rw [if_neg c7] at h
    obtain ⟨k8, h⟩ := sh_chk h
    obtain ⟨r9, er9⟩ : ∃ y : Nat, y = (sh_ref μ4 7 2) := ⟨_, rfl⟩
    rw [sh_let_eq er9] at h
    have k8r : sh_r μ4 7 2 = some r9 ∧ (r9 = 8 ∨ r9 = 29) := by rw [er9]; exact k8
    obtain ⟨μ10, eμ10⟩ : ∃ y : sh_Mem, y = (sh_setI μ4 r9 5 y6) := ⟨_, rfl⟩
    rw [sh_let_eq eμ10] at h
    have hG10 : sh_G μ10 := by rw [eμ10]; exact hG4
    obtain ⟨e1, e2⟩ := sh_some2 h
    exact e2 ▸ hG10
theorem t_X6_readCrowd {μ μ' : sh_Mem} {v : Int32} (hG : sh_G μ) (h : f_X6_readCrowd μ = some (v, μ')) : sh_C0 l B D ca 9 M_X6_readCrowd [.ref 7] μ (fun v0 μ0 => v0 = some (.int v) ∧ μ0 = μ') := by
  unfold f_X6_readCrowd at h
  refine vv_aload_n 0 0 dX6_readCrowd_0 rfl rfl ?_
  refine vv_getR 1 dX6_readCrowd_1 fl_6_18 rfl (g_l_7 hG) (g_r_7_0 hG) ?_
  obtain ⟨μ1, hr2, h⟩ := sh_bindv_e h
  refine v1_callV [] 4 dX6_readCrowd_4 ck_X6_131 (g_l_2 hG) ⟨by decide, rfl⟩ (t_X8_advance hG hr2) (Nat.le_of_ble_eq_true rfl) ⟨Nat.le_of_ble_eq_true rfl, Nat.le_of_ble_eq_true rfl⟩ rfl (Nat.le_of_ble_eq_true rfl) ?_
  have hG1 := gp_X8_advance hG hr2
  refine vv_aload_n 7 0 dX6_readCrowd_7 rfl rfl ?_
  refine vv_getR 8 dX6_readCrowd_8 fl_6_18 rfl (g_l_7 hG1) (g_r_7_0 hG1) ?_
  refine vv_iconst 11 dX6_readCrowd_11 ik_0 ?_
  refine vv_bipush 12 dX6_readCrowd_12 bk_100 ?_
  obtain ⟨y6, μ4, hr5, h⟩ := sh_bind_e h
  refine v1_callV [_, _] 14 dX6_readCrowd_14 ck_X6_56 (g_l_2 hG1) ⟨by decide, rfl⟩ (t_X8_takeNumber hG1 hr5) (Nat.le_of_ble_eq_true rfl) ⟨Nat.le_of_ble_eq_true rfl, Nat.le_of_ble_eq_true rfl⟩ rfl (Nat.le_of_ble_eq_true rfl) ?_
  have hG4 := gp_X8_takeNumber hG1 hr5
  refine vv_istore_n (lv' := [(1, _), (0, _)]) 17 1 dX6_readCrowd_17 rfl (by decide) rfl ?_
  refine vv_iload_n 18 1 dX6_readCrowd_18 rfl rfl ?_
  refine vv_iconst 19 dX6_readCrowd_19 ik_m1 ?_
  refine vv_icmp_ne 20 25 dX6_readCrowd_20 (by decide) (fun c7 => ?_) (fun c7 => ?_)
  · rw [if_neg c7] at h
    refine vv_aload_n 25 0 dX6_readCrowd_25 rfl rfl ?_
    obtain ⟨k8, h⟩ := sh_chk h
    refine vv_getR 26 dX6_readCrowd_26 fl_6_12 rfl (g_l_7 hG4) k8.1 ?_
    refine vv_topr (fun r9 er9 => ?_)
    rw [sh_let_eq er9] at h
    have k8r : sh_r μ4 7 2 = some r9 ∧ (r9 = 8 ∨ r9 = 29) := by rw [er9]; exact k8
    refine vv_iload_n 29 1 dX6_readCrowd_29 rfl rfl ?_
    refine vn_putI 30 dX6_readCrowd_30 fl_6_200 (Or.inl rfl) rfl (gP_l hG4 k8r.2) (fun μ10 eμ10 => ?_)
    rw [sh_let_eq eμ10] at h
    have hG10 : sh_G μ10 := by rw [eμ10]; exact hG4
    refine vv_iconst 33 dX6_readCrowd_33 ik_1 ?_
    obtain ⟨e1, e2⟩ := sh_some2 h
    refine vv_zret 34 dX6_readCrowd_34 rfl rfl (Nat.le_refl _) (Nat.le_refl _) ⟨by rw [e1], e2⟩
  · rw [if_pos c7] at h
    refine vv_iconst 23 dX6_readCrowd_23 ik_0 ?_
    obtain ⟨e1, e2⟩ := sh_some2 h
    refine vv_zret 24 dX6_readCrowd_24 rfl rfl (Nat.le_refl _) (Nat.le_refl _) ⟨by rw [e1], e2⟩
noncomputable def f_X8_begin (a1 : Int32) (μ : sh_Mem) : Option sh_Mem := sh_let (sh_setI μ 2 1 (f_J9_min_7cf53 μ a1 (Int32.ofNat 1600))) (fun μ1 => sh_let (sh_setI μ1 2 2 0) (fun μ2 => sh_let (sh_setI μ2 2 3 (-1)) (fun μ3 => sh_let (sh_setI μ3 2 4 0) (fun μ4 => sh_let (sh_setI μ4 2 10 0) (fun μ5 => sh_let (sh_setI μ5 2 11 (-1)) (fun μ6 => sh_bindv (f_X8_advance μ6) (fun μ7 => some μ7)))))))
theorem gp_X8_begin {a1 : Int32} {μ μ' : sh_Mem} (hG : sh_G μ) (h : f_X8_begin a1 μ = some μ') : sh_G μ' := by
  unfold f_X8_begin at h
  obtain ⟨μ1, eμ1⟩ : ∃ y : sh_Mem, y = (sh_setI μ 2 1 (f_J9_min_7cf53 μ a1 (Int32.ofNat 1600))) := ⟨_, rfl⟩
  rw [sh_let_eq eμ1] at h
  have hG1 : sh_G μ1 := by rw [eμ1]; exact hG
  obtain ⟨μ2, eμ2⟩ : ∃ y : sh_Mem, y = (sh_setI μ1 2 2 0) := ⟨_, rfl⟩
  rw [sh_let_eq eμ2] at h
  have hG2 : sh_G μ2 := by rw [eμ2]; exact hG1
  obtain ⟨μ3, eμ3⟩ : ∃ y : sh_Mem, y = (sh_setI μ2 2 3 (-1)) := ⟨_, rfl⟩
  rw [sh_let_eq eμ3] at h
  have hG3 : sh_G μ3 := by rw [eμ3]; exact hG2
  obtain ⟨μ4, eμ4⟩ : ∃ y : sh_Mem, y = (sh_setI μ3 2 4 0) := ⟨_, rfl⟩
  rw [sh_let_eq eμ4] at h
  have hG4 : sh_G μ4 := by rw [eμ4]; exact hG3
  obtain ⟨μ5, eμ5⟩ : ∃ y : sh_Mem, y = (sh_setI μ4 2 10 0) := ⟨_, rfl⟩
  rw [sh_let_eq eμ5] at h
  have hG5 : sh_G μ5 := by rw [eμ5]; exact hG4
  obtain ⟨μ6, eμ6⟩ : ∃ y : sh_Mem, y = (sh_setI μ5 2 11 (-1)) := ⟨_, rfl⟩
  rw [sh_let_eq eμ6] at h
  have hG6 : sh_G μ6 := by rw [eμ6]; exact hG5
  obtain ⟨μ7, hr8, h⟩ := sh_bindv_e h
  have hG7 := gp_X8_advance hG6 hr8
  have e2 := Option.some.inj h
  exact e2 ▸ hG7
theorem t_X8_begin {a1 : Int32} {μ μ' : sh_Mem} (hG : sh_G μ) (h : f_X8_begin a1 μ = some μ') : sh_C0 l B D ca 8 M_X8_begin [.ref 2, .int a1] μ (fun v0 μ0 => v0 = none ∧ μ0 = μ') := by
  unfold f_X8_begin at h
  refine vv_aload_n 0 0 dX8_begin_0 rfl rfl ?_
  refine vv_iload_n 1 1 dX8_begin_1 rfl rfl ?_
  refine vv_aload_n 2 0 dX8_begin_2 rfl rfl ?_
  refine vv_getR 3 dX8_begin_3 fl_8_9 rfl (g_l_2 hG) (g_r_2_0 hG) ?_
  refine vv_alen 6 dX8_begin_6 (g_l_1 hG) (by decide) ?_
  refine v1_callS [_, _] 7 dX8_begin_7 ck_X8_15 (c_J9_min_7cf53 (μ := μ) hG) (Nat.le_of_ble_eq_true rfl) ⟨Nat.le_of_ble_eq_true rfl, Nat.le_of_ble_eq_true rfl⟩ rfl (Nat.le_of_ble_eq_true rfl) ?_
  refine vn_putI 10 dX8_begin_10 fl_8_21 (Or.inl rfl) rfl (g_l_2 hG) (fun μ1 eμ1 => ?_)
  rw [sh_let_eq eμ1] at h
  have hG1 : sh_G μ1 := by rw [eμ1]; exact hG
  refine vv_aload_n 13 0 dX8_begin_13 rfl rfl ?_
  refine vv_iconst 14 dX8_begin_14 ik_0 ?_
  refine vn_putI 15 dX8_begin_15 fl_8_25 (Or.inl rfl) rfl (g_l_2 hG1) (fun μ2 eμ2 => ?_)
  rw [sh_let_eq eμ2] at h
  have hG2 : sh_G μ2 := by rw [eμ2]; exact hG1
  refine vv_aload_n 18 0 dX8_begin_18 rfl rfl ?_
  refine vv_iconst 19 dX8_begin_19 ik_m1 ?_
  refine vn_putI 20 dX8_begin_20 fl_8_28 (Or.inl rfl) rfl (g_l_2 hG2) (fun μ3 eμ3 => ?_)
  rw [sh_let_eq eμ3] at h
  have hG3 : sh_G μ3 := by rw [eμ3]; exact hG2
  refine vv_aload_n 23 0 dX8_begin_23 rfl rfl ?_
  refine vv_iconst 24 dX8_begin_24 ik_0 ?_
  refine vn_putI 25 dX8_begin_25 fl_8_31 (Or.inl rfl) rfl (g_l_2 hG3) (fun μ4 eμ4 => ?_)
  rw [sh_let_eq eμ4] at h
  have hG4 : sh_G μ4 := by rw [eμ4]; exact hG3
  refine vv_aload_n 28 0 dX8_begin_28 rfl rfl ?_
  refine vv_iconst 29 dX8_begin_29 ik_0 ?_
  refine vn_putI 30 dX8_begin_30 fl_8_34 (Or.inl rfl) rfl (g_l_2 hG4) (fun μ5 eμ5 => ?_)
  rw [sh_let_eq eμ5] at h
  have hG5 : sh_G μ5 := by rw [eμ5]; exact hG4
  refine vv_aload_n 33 0 dX8_begin_33 rfl rfl ?_
  refine vv_iconst 34 dX8_begin_34 ik_m1 ?_
  refine vn_putI 35 dX8_begin_35 fl_8_37 (Or.inl rfl) rfl (g_l_2 hG5) (fun μ6 eμ6 => ?_)
  rw [sh_let_eq eμ6] at h
  have hG6 : sh_G μ6 := by rw [eμ6]; exact hG5
  refine vv_aload_n 38 0 dX8_begin_38 rfl rfl ?_
  obtain ⟨μ7, hr8, h⟩ := sh_bindv_e h
  refine v1_callV [] 39 dX8_begin_39 ck_X8_40 (g_l_2 hG6) ⟨by decide, rfl⟩ (t_X8_advance hG6 hr8) (Nat.le_of_ble_eq_true rfl) ⟨Nat.le_of_ble_eq_true rfl, Nat.le_of_ble_eq_true rfl⟩ rfl (Nat.le_of_ble_eq_true rfl) ?_
  have hG7 := gp_X8_advance hG6 hr8
  have e2 := Option.some.inj h
  refine vv_vret 42 dX8_begin_42 rfl (Nat.le_refl _) (Nat.le_refl _) ⟨rfl, e2⟩
noncomputable def F_X9_cost : Nat → Nat → Nat → Nat → Int32 → Int32 → Int32 → Int32 → Int32 → sh_Mem → Option (Int32 × sh_Mem)
  | 0, _, _, _, _, _, _, _, _, _ => none
  | fuel + 1, lbl, r1, r2, i3, i4, i5, i6, i7, μ => match lbl with
    | 1 => (if 49 ≤ i6 then (if sh_in i4 49 then some ((sh_i μ 288 i4.toNatClampNeg), μ) else none) else (if i5 = 0 then (if sh_in i4 49 then some ((sh_i μ 288 i4.toNatClampNeg), μ) else none) else F_X9_cost fuel 2 r1 r2 i3 i4 0 i6 0 μ))
    | 2 => (if (f_X5_cells μ r1) ≤ i7 then F_X9_cost fuel 1 r1 r2 i3 i4 i5 (i6 + 1) 0 μ else sh_bind (f_X9_improves r1 r2 i7 μ) (fun y31 μ29 => (if y31 = 0 then F_X9_cost fuel 2 r1 r2 i3 i4 i5 i6 (i7 + 1) μ29 else F_X9_cost fuel 2 r1 r2 i3 i4 1 i6 (i7 + 1) μ29)))
    | _ => none
noncomputable def f_X9_cost (p1 : Nat) (q2 : Nat) (a3 : Int32) (a4 : Int32) (μ : sh_Mem) : Option (Int32 × sh_Mem) := sh_bindv (f_J7_fill_53178 288 49 1000000 μ) (fun μ33 => (if sh_in a3 49 then sh_let (sh_setI μ33 288 a3.toNatClampNeg 0) (fun μ37 => F_X9_cost sh_fuel 1 p1 q2 a3 a4 1 0 0 μ37) else none))
theorem gpl_X9_cost (fuel : Nat) : (∀ ⦃r1 : Nat⦄ ⦃r2 : Nat⦄ ⦃i3 : Int32⦄ ⦃i4 : Int32⦄ ⦃i5 : Int32⦄ ⦃i6 : Int32⦄ ⦃i7 : Int32⦄ ⦃μ μ' : sh_Mem⦄ ⦃v : Int32⦄, sh_G μ → sh_isP r1 → sh_isL r2 → F_X9_cost fuel 1 r1 r2 i3 i4 i5 i6 i7 μ = some (v, μ') → sh_G μ') ∧ (∀ ⦃r1 : Nat⦄ ⦃r2 : Nat⦄ ⦃i3 : Int32⦄ ⦃i4 : Int32⦄ ⦃i5 : Int32⦄ ⦃i6 : Int32⦄ ⦃i7 : Int32⦄ ⦃μ μ' : sh_Mem⦄ ⦃v : Int32⦄, sh_G μ → sh_isP r1 → sh_isL r2 → F_X9_cost fuel 2 r1 r2 i3 i4 i5 i6 i7 μ = some (v, μ') → sh_G μ') := by
  induction fuel with
  | zero => exact ⟨(by intro r1 r2 i3 i4 i5 i6 i7 μ μ' v hG hr1 hr2 h; cases h), (by intro r1 r2 i3 i4 i5 i6 i7 μ μ' v hG hr1 hr2 h; cases h)⟩
  | succ fuel ih =>
    obtain ⟨ih_22, ih_40⟩ := ih
    refine ⟨?_, ?_⟩
    · intro r1 r2 i3 i4 i5 i6 i7 μ μ' v hG hr1 hr2 h
      replace h : ((if 49 ≤ i6 then (if sh_in i4 49 then some ((sh_i μ 288 i4.toNatClampNeg), μ) else none) else (if i5 = 0 then (if sh_in i4 49 then some ((sh_i μ 288 i4.toNatClampNeg), μ) else none) else F_X9_cost fuel 2 r1 r2 i3 i4 0 i6 0 μ)) : Option (Int32 × sh_Mem)) = some (v, μ') := h
      by_cases c24 : 49 ≤ i6
      · rw [if_pos c24] at h
        obtain ⟨k25, h⟩ := sh_chk h
        obtain ⟨e1, e2⟩ := sh_some2 h
        exact e2 ▸ hG
      · rw [if_neg c24] at h
        by_cases c26 : i5 = 0
        · rw [if_pos c26] at h
          obtain ⟨k27, h⟩ := sh_chk h
          obtain ⟨e1, e2⟩ := sh_some2 h
          exact e2 ▸ hG
        · rw [if_neg c26] at h
          exact ih_40 hG hr1 hr2 h
    · intro r1 r2 i3 i4 i5 i6 i7 μ μ' v hG hr1 hr2 h
      replace h : ((if (f_X5_cells μ r1) ≤ i7 then F_X9_cost fuel 1 r1 r2 i3 i4 i5 (i6 + 1) 0 μ else sh_bind (f_X9_improves r1 r2 i7 μ) (fun y31 μ29 => (if y31 = 0 then F_X9_cost fuel 2 r1 r2 i3 i4 i5 i6 (i7 + 1) μ29 else F_X9_cost fuel 2 r1 r2 i3 i4 1 i6 (i7 + 1) μ29))) : Option (Int32 × sh_Mem)) = some (v, μ') := h
      by_cases c28 : (f_X5_cells μ r1) ≤ i7
      · rw [if_pos c28] at h
        exact ih_22 hG hr1 hr2 h
      · rw [if_neg c28] at h
        obtain ⟨y31, μ29, hr30, h⟩ := sh_bind_e h
        have hG29 := gp_X9_improves hG hr1 hr2 hr30
        by_cases c32 : y31 = 0
        · rw [if_pos c32] at h
          exact ih_40 hG29 hr1 hr2 h
        · rw [if_neg c32] at h
          exact ih_40 hG29 hr1 hr2 h
theorem tl_X9_cost (fuel : Nat) : (∀ ⦃r1 : Nat⦄ ⦃r2 : Nat⦄ ⦃i3 : Int32⦄ ⦃i4 : Int32⦄ ⦃i5 : Int32⦄ ⦃i6 : Int32⦄ ⦃i7 : Int32⦄ ⦃μ μ' : sh_Mem⦄ ⦃v : Int32⦄, sh_G μ → sh_isP r1 → sh_isL r2 → F_X9_cost fuel 1 r1 r2 i3 i4 i5 i6 i7 μ = some (v, μ') → sh_V0 l B D ca 4 M_X9_cost 22 [(0, .ref 287), (1, .ref r1), (2, .ref r2), (3, .int i3), (4, .int i4), (5, .int i5), (6, .int i6)] [] μ (fun v0 μ0 => v0 = some (.int v) ∧ μ0 = μ')) ∧ (∀ ⦃r1 : Nat⦄ ⦃r2 : Nat⦄ ⦃i3 : Int32⦄ ⦃i4 : Int32⦄ ⦃i5 : Int32⦄ ⦃i6 : Int32⦄ ⦃i7 : Int32⦄ ⦃μ μ' : sh_Mem⦄ ⦃v : Int32⦄, sh_G μ → sh_isP r1 → sh_isL r2 → F_X9_cost fuel 2 r1 r2 i3 i4 i5 i6 i7 μ = some (v, μ') → sh_V0 l B D ca 4 M_X9_cost 40 [(0, .ref 287), (1, .ref r1), (2, .ref r2), (3, .int i3), (4, .int i4), (5, .int i5), (6, .int i6), (7, .int i7)] [] μ (fun v0 μ0 => v0 = some (.int v) ∧ μ0 = μ')) := by
  induction fuel with
  | zero => exact ⟨(by intro r1 r2 i3 i4 i5 i6 i7 μ μ' v hG hr1 hr2 h; cases h), (by intro r1 r2 i3 i4 i5 i6 i7 μ μ' v hG hr1 hr2 h; cases h)⟩
  | succ fuel ih =>
    obtain ⟨ih_22, ih_40⟩ := ih
    refine ⟨?_, ?_⟩
    · intro r1 r2 i3 i4 i5 i6 i7 μ μ' v hG hr1 hr2 h
      replace h : ((if 49 ≤ i6 then (if sh_in i4 49 then some ((sh_i μ 288 i4.toNatClampNeg), μ) else none) else (if i5 = 0 then (if sh_in i4 49 then some ((sh_i μ 288 i4.toNatClampNeg), μ) else none) else F_X9_cost fuel 2 r1 r2 i3 i4 0 i6 0 μ)) : Option (Int32 × sh_Mem)) = some (v, μ') := h
      refine vv_iload 22 6 dX9_cost_22 rfl ?_
      refine vv_bipush 24 dX9_cost_24 bk_49 ?_
      refine vv_icmp_ge 26 75 dX9_cost_26 (by decide) (fun c24 => ?_) (fun c24 => ?_)
      · rw [if_pos c24] at h
        refine vv_aload_n 75 0 dX9_cost_75 rfl rfl ?_
        refine vv_getR 76 dX9_cost_76 fl_9_9 rfl (g_l_287 hG) (g_r_287_0 hG) ?_
        refine vv_iload 79 4 dX9_cost_79 rfl ?_
        obtain ⟨k25, h⟩ := sh_chk h
        refine vv_iald 81 dX9_cost_81 (g_l_288 hG) k25 ?_
        obtain ⟨e1, e2⟩ := sh_some2 h
        refine vv_iret 82 dX9_cost_82 rfl (Nat.le_refl _) (Nat.le_refl _) ⟨by rw [e1], e2⟩
      · rw [if_neg c24] at h
        refine vv_iload 29 5 dX9_cost_29 rfl ?_
        refine vv_if_eq 31 75 dX9_cost_31 (by decide) (fun c26 => ?_) (fun c26 => ?_)
        · rw [if_pos c26] at h
          refine vv_aload_n 75 0 dX9_cost_75 rfl rfl ?_
          refine vv_getR 76 dX9_cost_76 fl_9_9 rfl (g_l_287 hG) (g_r_287_0 hG) ?_
          refine vv_iload 79 4 dX9_cost_79 rfl ?_
          obtain ⟨k27, h⟩ := sh_chk h
          refine vv_iald 81 dX9_cost_81 (g_l_288 hG) k27 ?_
          obtain ⟨e1, e2⟩ := sh_some2 h
          refine vv_iret 82 dX9_cost_82 rfl (Nat.le_refl _) (Nat.le_refl _) ⟨by rw [e1], e2⟩
        · rw [if_neg c26] at h
          refine vv_iconst 34 dX9_cost_34 ik_0 ?_
          refine vv_istore (lv' := [(5, _), (0, _), (1, _), (2, _), (3, _), (4, _), (6, _)]) 35 5 dX9_cost_35 (by decide) rfl ?_
          refine vv_iconst 37 dX9_cost_37 ik_0 ?_
          refine vv_istore (lv' := [(7, _), (5, _), (0, _), (1, _), (2, _), (3, _), (4, _), (6, _)]) 38 7 dX9_cost_38 (by decide) rfl ?_
          refine vv_sub [(0, _), (1, _), (2, _), (3, _), (4, _), (5, _), (6, _), (7, _)] (sh_subm [2, 3, 4, 5, 6, 1, 7, 0] rfl) ?_
          exact ih_40 hG hr1 hr2 h
    · intro r1 r2 i3 i4 i5 i6 i7 μ μ' v hG hr1 hr2 h
      replace h : ((if (f_X5_cells μ r1) ≤ i7 then F_X9_cost fuel 1 r1 r2 i3 i4 i5 (i6 + 1) 0 μ else sh_bind (f_X9_improves r1 r2 i7 μ) (fun y31 μ29 => (if y31 = 0 then F_X9_cost fuel 2 r1 r2 i3 i4 i5 i6 (i7 + 1) μ29 else F_X9_cost fuel 2 r1 r2 i3 i4 1 i6 (i7 + 1) μ29))) : Option (Int32 × sh_Mem)) = some (v, μ') := h
      refine vv_iload 40 7 dX9_cost_40 rfl ?_
      refine vv_aload_n 42 1 dX9_cost_42 rfl rfl ?_
      refine v1_callV [] 43 dX9_cost_43 ck_X9_22 (gP_l hG hr1) ⟨by decide, rfl⟩ (c_X5_cells (μ := μ) hG hr1) (Nat.le_of_ble_eq_true rfl) ⟨Nat.le_of_ble_eq_true rfl, Nat.le_of_ble_eq_true rfl⟩ rfl (Nat.le_of_ble_eq_true rfl) ?_
      refine vv_icmp_ge 46 69 dX9_cost_46 (by decide) (fun c28 => ?_) (fun c28 => ?_)
      · rw [if_pos c28] at h
        refine vv_iincc (lv' := [(6, _), (0, _), (1, _), (2, _), (3, _), (4, _), (5, _), (7, _)]) 69 6 dX9_cost_69 rfl ik_1 (by decide) rfl ?_
        refine vv_goto 72 22 dX9_cost_72 (by decide) ?_
        refine vv_sub [(0, _), (1, _), (2, _), (3, _), (4, _), (5, _), (6, _)] (sh_subm [1, 2, 3, 4, 5, 6, 0] rfl) ?_
        exact ih_22 hG hr1 hr2 h
      · rw [if_neg c28] at h
        refine vv_aload_n 49 0 dX9_cost_49 rfl rfl ?_
        refine vv_aload_n 50 1 dX9_cost_50 rfl rfl ?_
        refine vv_aload_n 51 2 dX9_cost_51 rfl rfl ?_
        refine vv_iload 52 7 dX9_cost_52 rfl ?_
        obtain ⟨y31, μ29, hr30, h⟩ := sh_bind_e h
        refine v1_callV [_, _, _] 54 dX9_cost_54 ck_X9_28 (g_l_287 hG) ⟨by decide, rfl⟩ (t_X9_improves hG hr1 hr2 hr30) (Nat.le_of_ble_eq_true rfl) ⟨Nat.le_of_ble_eq_true rfl, Nat.le_of_ble_eq_true rfl⟩ rfl (Nat.le_of_ble_eq_true rfl) ?_
        have hG29 := gp_X9_improves hG hr1 hr2 hr30
        refine vv_if_eq 57 63 dX9_cost_57 (by decide) (fun c32 => ?_) (fun c32 => ?_)
        · rw [if_pos c32] at h
          refine vv_iincc (lv' := [(7, _), (0, _), (1, _), (2, _), (3, _), (4, _), (5, _), (6, _)]) 63 7 dX9_cost_63 rfl ik_1 (by decide) rfl ?_
          refine vv_goto 66 40 dX9_cost_66 (by decide) ?_
          refine vv_sub [(0, _), (1, _), (2, _), (3, _), (4, _), (5, _), (6, _), (7, _)] (sh_subm [1, 2, 3, 4, 5, 6, 7, 0] rfl) ?_
          exact ih_40 hG29 hr1 hr2 h
        · rw [if_neg c32] at h
          refine vv_iconst 60 dX9_cost_60 ik_1 ?_
          refine vv_istore (lv' := [(5, _), (0, _), (1, _), (2, _), (3, _), (4, _), (6, _), (7, _)]) 61 5 dX9_cost_61 (by decide) rfl ?_
          refine vv_iincc (lv' := [(7, _), (5, _), (0, _), (1, _), (2, _), (3, _), (4, _), (6, _)]) 63 7 dX9_cost_63 rfl ik_1 (by decide) rfl ?_
          refine vv_goto 66 40 dX9_cost_66 (by decide) ?_
          refine vv_sub [(0, _), (1, _), (2, _), (3, _), (4, _), (5, _), (6, _), (7, _)] (sh_subm [2, 3, 4, 5, 6, 1, 7, 0] rfl) ?_
          exact ih_40 hG29 hr1 hr2 h
theorem gp_X9_cost {p1 : Nat} {q2 : Nat} {a3 : Int32} {a4 : Int32} {μ μ' : sh_Mem} {v : Int32} (hG : sh_G μ) (hp1 : sh_isP p1) (hq2 : sh_isL q2) (h : f_X9_cost p1 q2 a3 a4 μ = some (v, μ')) : sh_G μ' := by
  have ih_22 := (gpl_X9_cost sh_fuel).1
  have ih_40 := (gpl_X9_cost sh_fuel).2
  unfold f_X9_cost at h
  obtain ⟨μ33, hr34, h⟩ := sh_bindv_e h
  have hG33 := gp_J7_fill_53178 hG (sh_LAYat_288) hr34
  obtain ⟨k36, h⟩ := sh_chk h
  obtain ⟨μ37, eμ37⟩ : ∃ y : sh_Mem, y = (sh_setI μ33 288 a3.toNatClampNeg 0) := ⟨_, rfl⟩
  rw [sh_let_eq eμ37] at h
  have hG37 : sh_G μ37 := by rw [eμ37]; exact hG33
  exact ih_22 hG37 hp1 hq2 h
theorem t_X9_cost {p1 : Nat} {q2 : Nat} {a3 : Int32} {a4 : Int32} {μ μ' : sh_Mem} {v : Int32} (hG : sh_G μ) (hp1 : sh_isP p1) (hq2 : sh_isL q2) (h : f_X9_cost p1 q2 a3 a4 μ = some (v, μ')) : sh_C0 l B D ca 4 M_X9_cost [.ref 287, .ref p1, .ref q2, .int a3, .int a4] μ (fun v0 μ0 => v0 = some (.int v) ∧ μ0 = μ') := by
  have ih_22 := (tl_X9_cost (l := l) (B := B) (D := D) (ca := ca) sh_fuel).1
  have ih_40 := (tl_X9_cost (l := l) (B := B) (D := D) (ca := ca) sh_fuel).2
  unfold f_X9_cost at h
  refine vv_aload_n 0 0 dX9_cost_0 rfl rfl ?_
  refine vv_getR 1 dX9_cost_1 fl_9_9 rfl (g_l_287 hG) (g_r_287_0 hG) ?_
  refine vv_ldc 4 dX9_cost_4 ki_X9_15 ?_
  obtain ⟨μ33, hr34, h⟩ := sh_bindv_e h
  refine v1_callS [_, _] 6 dX9_cost_6 ck_X9_16 (t_J7_fill_53178 hG (sh_LAYat_288) hr34) (Nat.le_of_ble_eq_true rfl) ⟨Nat.le_of_ble_eq_true rfl, Nat.le_of_ble_eq_true rfl⟩ rfl (Nat.le_of_ble_eq_true rfl) ?_
  have hG33 := gp_J7_fill_53178 hG (sh_LAYat_288) hr34
  refine vv_aload_n 9 0 dX9_cost_9 rfl rfl ?_
  refine vv_getR 10 dX9_cost_10 fl_9_9 rfl (g_l_287 hG33) (g_r_287_0 hG33) ?_
  refine vv_iload_n 13 3 dX9_cost_13 rfl rfl ?_
  refine vv_iconst 14 dX9_cost_14 ik_0 ?_
  obtain ⟨k36, h⟩ := sh_chk h
  refine vn_iast 15 dX9_cost_15 (g_l_288 hG33) k36 (fun μ37 eμ37 => ?_)
  rw [sh_let_eq eμ37] at h
  have hG37 : sh_G μ37 := by rw [eμ37]; exact hG33
  refine vv_iconst 16 dX9_cost_16 ik_1 ?_
  refine vv_istore (lv' := [(5, _), (0, _), (1, _), (2, _), (3, _), (4, _)]) 17 5 dX9_cost_17 (by decide) rfl ?_
  refine vv_iconst 19 dX9_cost_19 ik_0 ?_
  refine vv_istore (lv' := [(6, _), (5, _), (0, _), (1, _), (2, _), (3, _), (4, _)]) 20 6 dX9_cost_20 (by decide) rfl ?_
  refine vv_sub [(0, _), (1, _), (2, _), (3, _), (4, _), (5, _), (6, _)] (sh_subm [2, 3, 4, 5, 6, 1, 0] rfl) ?_
  exact ih_22 hG37 hp1 hq2 h
end
