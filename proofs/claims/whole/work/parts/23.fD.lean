section
variable {l : Launch} {B : Nat} {D : va_G} {ca : Nat → ClassId} {μ : sh_Mem}
def f_X11_later (a1 : Int32) (a2 : Int32) (a3 : Int32) (μ : sh_Mem) : Option (Int32 × sh_Mem) := (if (sh_r μ 0 7 = some (sh_ref μ 0 7) ∧ ((sh_ref μ 0 7) = 8 ∨ (sh_ref μ 0 7) = 29)) then sh_let (sh_ref μ 0 7) (fun r2 => sh_let ((f_X5_cellAt μ r2 a1 a2) : Int32) (fun x3 => (if x3 = (-1) then some ((-1), μ) else sh_bind (f_X11_isAhead a3 0 60 μ) (fun y7 μ5 => (if y7 = 0 then some ((-1), μ5) else sh_bindv (f_X0_behind 49 a3 0 μ5) (fun μ9 => (if sh_in x3 49 then some ((sh_i μ9 210 x3.toNatClampNeg), μ9) else none))))))) else none)
theorem gp_X11_later {a1 : Int32} {a2 : Int32} {a3 : Int32} {μ μ' : sh_Mem} {v : Int32} (hG : sh_G μ) (h : f_X11_later a1 a2 a3 μ = some (v, μ')) : sh_G μ' := by
  unfold f_X11_later at h
  obtain ⟨k1, h⟩ := sh_chk h
  obtain ⟨r2, er2⟩ : ∃ y : Nat, y = (sh_ref μ 0 7) := ⟨_, rfl⟩
  rw [sh_let_eq er2] at h
  have k1r : sh_r μ 0 7 = some r2 ∧ (r2 = 8 ∨ r2 = 29) := by rw [er2]; exact k1
  obtain ⟨x3, ex3⟩ : ∃ y : Int32, y = (f_X5_cellAt μ r2 a1 a2) := ⟨_, rfl⟩
  rw [sh_let_eq ex3] at h
  by_cases c4 : x3 = (-1)
  · rw [if_pos c4] at h
    obtain ⟨e1, e2⟩ := sh_some2 h
    exact e2 ▸ hG
  · rw [if_neg c4] at h
    obtain ⟨y7, μ5, hr6, h⟩ := sh_bind_e h
    have hG5 := gp_X11_isAhead hG hr6
    by_cases c8 : y7 = 0
    · rw [if_pos c8] at h
      obtain ⟨e1, e2⟩ := sh_some2 h
      exact e2 ▸ hG5
    · rw [if_neg c8] at h
      obtain ⟨μ9, hr10, h⟩ := sh_bindv_e h
      have hG9 := gp_X0_behind hG5 sh_isL_49 hr10
      obtain ⟨k12, h⟩ := sh_chk h
      obtain ⟨e1, e2⟩ := sh_some2 h
      exact e2 ▸ hG9
theorem t_X11_later {a1 : Int32} {a2 : Int32} {a3 : Int32} {μ μ' : sh_Mem} {v : Int32} (hG : sh_G μ) (h : f_X11_later a1 a2 a3 μ = some (v, μ')) : sh_C0 l B D ca 8 M_X11_later [.ref 0, .int a1, .int a2, .int a3] μ (fun v0 μ0 => v0 = some (.int v) ∧ μ0 = μ') := by
  unfold f_X11_later at h
  refine vv_aload_n 0 0 dX11_later_0 rfl rfl ?_
  obtain ⟨k1, h⟩ := sh_chk h
  refine vv_getR 1 dX11_later_1 fl_11_53 rfl (g_l_0 hG) k1.1 ?_
  refine vv_topr (fun r2 er2 => ?_)
  rw [sh_let_eq er2] at h
  have k1r : sh_r μ 0 7 = some r2 ∧ (r2 = 8 ∨ r2 = 29) := by rw [er2]; exact k1
  refine vv_iload_n 4 1 dX11_later_4 rfl rfl ?_
  refine vv_iload_n 5 2 dX11_later_5 rfl rfl ?_
  refine v1_callV [_, _] 6 dX11_later_6 ck_X11_217 (gP_l hG k1r.2) ⟨by decide, rfl⟩ (c_X5_cellAt (μ := μ) hG k1r.2) (Nat.le_of_ble_eq_true rfl) ⟨Nat.le_of_ble_eq_true rfl, Nat.le_of_ble_eq_true rfl⟩ rfl (Nat.le_of_ble_eq_true rfl) ?_
  refine vv_topi (fun x3 ex3 => ?_)
  rw [sh_let_eq ex3] at h
  refine vv_istore (lv' := [(4, _), (0, _), (1, _), (2, _), (3, _)]) 9 4 dX11_later_9 (by decide) rfl ?_
  refine vv_iload 11 4 dX11_later_11 rfl ?_
  refine vv_iconst 13 dX11_later_13 ik_m1 ?_
  refine vv_icmp_eq 14 28 dX11_later_14 (by decide) (fun c4 => ?_) (fun c4 => ?_)
  · rw [if_pos c4] at h
    refine vv_iconst 28 dX11_later_28 ik_m1 ?_
    obtain ⟨e1, e2⟩ := sh_some2 h
    refine vv_iret 29 dX11_later_29 rfl (Nat.le_refl _) (Nat.le_refl _) ⟨by rw [e1], e2⟩
  · rw [if_neg c4] at h
    refine vv_aload_n 17 0 dX11_later_17 rfl rfl ?_
    refine vv_iload_n 18 3 dX11_later_18 rfl rfl ?_
    refine vv_iconst 19 dX11_later_19 ik_0 ?_
    refine vv_bipush 20 dX11_later_20 bk_60 ?_
    obtain ⟨y7, μ5, hr6, h⟩ := sh_bind_e h
    refine v1_callV [_, _, _] 22 dX11_later_22 ck_X11_252 (g_l_0 hG) ⟨by decide, rfl⟩ (t_X11_isAhead hG hr6) (Nat.le_of_ble_eq_true rfl) ⟨Nat.le_of_ble_eq_true rfl, Nat.le_of_ble_eq_true rfl⟩ rfl (Nat.le_of_ble_eq_true rfl) ?_
    have hG5 := gp_X11_isAhead hG hr6
    refine vv_if_ne 25 30 dX11_later_25 (by decide) (fun c8 => ?_) (fun c8 => ?_)
    · rw [if_neg c8] at h
      refine vv_aload_n 30 0 dX11_later_30 rfl rfl ?_
      refine vv_getR 31 dX11_later_31 fl_11_85 rfl (g_l_0 hG5) (g_r_0_11 hG5) ?_
      refine vv_aload_n 34 0 dX11_later_34 rfl rfl ?_
      refine vv_getR 35 dX11_later_35 fl_11_60 rfl (g_l_0 hG5) (g_r_0_8 hG5) ?_
      refine vv_iload_n 38 3 dX11_later_38 rfl rfl ?_
      refine vv_iconst 39 dX11_later_39 ik_0 ?_
      obtain ⟨μ9, hr10, h⟩ := sh_bindv_e h
      refine v1_callV [_, _, _] 40 dX11_later_40 ck_X11_256 (g_l_208 hG5) ⟨by decide, rfl⟩ (t_X0_behind hG5 sh_isL_49 hr10) (Nat.le_of_ble_eq_true rfl) ⟨Nat.le_of_ble_eq_true rfl, Nat.le_of_ble_eq_true rfl⟩ rfl (Nat.le_of_ble_eq_true rfl) ?_
      have hG9 := gp_X0_behind hG5 sh_isL_49 hr10
      refine vv_getR 43 dX11_later_43 fl_11_220 rfl (g_l_209 hG9) (g_r_209_1 hG9) ?_
      refine vv_iload 46 4 dX11_later_46 rfl ?_
      obtain ⟨k12, h⟩ := sh_chk h
      refine vv_iald 48 dX11_later_48 (g_l_210 hG9) k12 ?_
      obtain ⟨e1, e2⟩ := sh_some2 h
      refine vv_iret 49 dX11_later_49 rfl (Nat.le_refl _) (Nat.le_refl _) ⟨by rw [e1], e2⟩
    · rw [if_pos c8] at h
      refine vv_iconst 28 dX11_later_28 ik_m1 ?_
      obtain ⟨e1, e2⟩ := sh_some2 h
      refine vv_iret 29 dX11_later_29 rfl (Nat.le_refl _) (Nat.le_refl _) ⟨by rw [e1], e2⟩
def f_X11_tired (a1 : Int32) (a2 : Int32) (μ : sh_Mem) : Option (Int32 × sh_Mem) := sh_bind (f_X11_isPerson a1 μ) (fun y3 μ1 => (if y3 = 0 then some ((-1), μ1) else sh_bind (f_X11_isAhead a2 0 60 μ1) (fun y7 μ5 => (if y7 = 0 then some ((-1), μ5) else sh_bindv (f_X0_behind 49 a2 0 μ5) (fun μ9 => (if sh_in a1 7 then some ((sh_i μ9 213 a1.toNatClampNeg), μ9) else none))))))
theorem gp_X11_tired {a1 : Int32} {a2 : Int32} {μ μ' : sh_Mem} {v : Int32} (hG : sh_G μ) (h : f_X11_tired a1 a2 μ = some (v, μ')) : sh_G μ' := by
  unfold f_X11_tired at h
  obtain ⟨y3, μ1, hr2, h⟩ := sh_bind_e h
  have hG1 := gp_X11_isPerson hG hr2
  by_cases c4 : y3 = 0
  · rw [if_pos c4] at h
    obtain ⟨e1, e2⟩ := sh_some2 h
    exact e2 ▸ hG1
  · rw [if_neg c4] at h
    obtain ⟨y7, μ5, hr6, h⟩ := sh_bind_e h
    have hG5 := gp_X11_isAhead hG1 hr6
    by_cases c8 : y7 = 0
    · rw [if_pos c8] at h
      obtain ⟨e1, e2⟩ := sh_some2 h
      exact e2 ▸ hG5
    · rw [if_neg c8] at h
      obtain ⟨μ9, hr10, h⟩ := sh_bindv_e h
      have hG9 := gp_X0_behind hG5 sh_isL_49 hr10
      obtain ⟨k12, h⟩ := sh_chk h
      obtain ⟨e1, e2⟩ := sh_some2 h
      exact e2 ▸ hG9
theorem t_X11_tired {a1 : Int32} {a2 : Int32} {μ μ' : sh_Mem} {v : Int32} (hG : sh_G μ) (h : f_X11_tired a1 a2 μ = some (v, μ')) : sh_C0 l B D ca 8 M_X11_tired [.ref 0, .int a1, .int a2] μ (fun v0 μ0 => v0 = some (.int v) ∧ μ0 = μ') := by
  unfold f_X11_tired at h
  refine vv_aload_n 0 0 dX11_tired_0 rfl rfl ?_
  refine vv_iload_n 1 1 dX11_tired_1 rfl rfl ?_
  obtain ⟨y3, μ1, hr2, h⟩ := sh_bind_e h
  refine v1_callV [_] 2 dX11_tired_2 ck_X11_211 (g_l_0 hG) ⟨by decide, rfl⟩ (t_X11_isPerson hG hr2) (Nat.le_of_ble_eq_true rfl) ⟨Nat.le_of_ble_eq_true rfl, Nat.le_of_ble_eq_true rfl⟩ rfl (Nat.le_of_ble_eq_true rfl) ?_
  have hG1 := gp_X11_isPerson hG hr2
  refine vv_if_eq 5 19 dX11_tired_5 (by decide) (fun c4 => ?_) (fun c4 => ?_)
  · rw [if_pos c4] at h
    refine vv_iconst 19 dX11_tired_19 ik_m1 ?_
    obtain ⟨e1, e2⟩ := sh_some2 h
    refine vv_iret 20 dX11_tired_20 rfl (Nat.le_refl _) (Nat.le_refl _) ⟨by rw [e1], e2⟩
  · rw [if_neg c4] at h
    refine vv_aload_n 8 0 dX11_tired_8 rfl rfl ?_
    refine vv_iload_n 9 2 dX11_tired_9 rfl rfl ?_
    refine vv_iconst 10 dX11_tired_10 ik_0 ?_
    refine vv_bipush 11 dX11_tired_11 bk_60 ?_
    obtain ⟨y7, μ5, hr6, h⟩ := sh_bind_e h
    refine v1_callV [_, _, _] 13 dX11_tired_13 ck_X11_252 (g_l_0 hG1) ⟨by decide, rfl⟩ (t_X11_isAhead hG1 hr6) (Nat.le_of_ble_eq_true rfl) ⟨Nat.le_of_ble_eq_true rfl, Nat.le_of_ble_eq_true rfl⟩ rfl (Nat.le_of_ble_eq_true rfl) ?_
    have hG5 := gp_X11_isAhead hG1 hr6
    refine vv_if_ne 16 21 dX11_tired_16 (by decide) (fun c8 => ?_) (fun c8 => ?_)
    · rw [if_neg c8] at h
      refine vv_aload_n 21 0 dX11_tired_21 rfl rfl ?_
      refine vv_getR 22 dX11_tired_22 fl_11_85 rfl (g_l_0 hG5) (g_r_0_11 hG5) ?_
      refine vv_aload_n 25 0 dX11_tired_25 rfl rfl ?_
      refine vv_getR 26 dX11_tired_26 fl_11_60 rfl (g_l_0 hG5) (g_r_0_8 hG5) ?_
      refine vv_iload_n 29 2 dX11_tired_29 rfl rfl ?_
      refine vv_iconst 30 dX11_tired_30 ik_0 ?_
      obtain ⟨μ9, hr10, h⟩ := sh_bindv_e h
      refine v1_callV [_, _, _] 31 dX11_tired_31 ck_X11_256 (g_l_208 hG5) ⟨by decide, rfl⟩ (t_X0_behind hG5 sh_isL_49 hr10) (Nat.le_of_ble_eq_true rfl) ⟨Nat.le_of_ble_eq_true rfl, Nat.le_of_ble_eq_true rfl⟩ rfl (Nat.le_of_ble_eq_true rfl) ?_
      have hG9 := gp_X0_behind hG5 sh_isL_49 hr10
      refine vv_getR 34 dX11_tired_34 fl_11_229 rfl (g_l_209 hG9) (g_r_209_4 hG9) ?_
      refine vv_iload_n 37 1 dX11_tired_37 rfl rfl ?_
      obtain ⟨k12, h⟩ := sh_chk h
      refine vv_iald 38 dX11_tired_38 (g_l_213 hG9) k12 ?_
      obtain ⟨e1, e2⟩ := sh_some2 h
      refine vv_iret 39 dX11_tired_39 rfl (Nat.le_refl _) (Nat.le_refl _) ⟨by rw [e1], e2⟩
    · rw [if_pos c8] at h
      refine vv_iconst 19 dX11_tired_19 ik_m1 ?_
      obtain ⟨e1, e2⟩ := sh_some2 h
      refine vv_iret 20 dX11_tired_20 rfl (Nat.le_refl _) (Nat.le_refl _) ⟨by rw [e1], e2⟩
def f_X11_rises (a1 : Int32) (a2 : Int32) (a3 : Int32) (μ : sh_Mem) : Option (Int32 × sh_Mem) := (if (sh_r μ 0 7 = some (sh_ref μ 0 7) ∧ ((sh_ref μ 0 7) = 8 ∨ (sh_ref μ 0 7) = 29)) then sh_let (sh_ref μ 0 7) (fun r2 => sh_let ((f_X5_cellAt μ r2 a1 a2) : Int32) (fun x3 => (if x3 = (-1) then some ((-1), μ) else sh_bind (f_X0_daysToRise 49 x3 a3 μ) (fun y7 μ5 => some (y7, μ5))))) else none)
theorem gp_X11_rises {a1 : Int32} {a2 : Int32} {a3 : Int32} {μ μ' : sh_Mem} {v : Int32} (hG : sh_G μ) (h : f_X11_rises a1 a2 a3 μ = some (v, μ')) : sh_G μ' := by
  unfold f_X11_rises at h
  obtain ⟨k1, h⟩ := sh_chk h
  obtain ⟨r2, er2⟩ : ∃ y : Nat, y = (sh_ref μ 0 7) := ⟨_, rfl⟩
  rw [sh_let_eq er2] at h
  have k1r : sh_r μ 0 7 = some r2 ∧ (r2 = 8 ∨ r2 = 29) := by rw [er2]; exact k1
  obtain ⟨x3, ex3⟩ : ∃ y : Int32, y = (f_X5_cellAt μ r2 a1 a2) := ⟨_, rfl⟩
  rw [sh_let_eq ex3] at h
  by_cases c4 : x3 = (-1)
  · rw [if_pos c4] at h
    obtain ⟨e1, e2⟩ := sh_some2 h
    exact e2 ▸ hG
  · rw [if_neg c4] at h
    obtain ⟨y7, μ5, hr6, h⟩ := sh_bind_e h
    have hG5 := gp_X0_daysToRise hG sh_isL_49 hr6
    obtain ⟨e1, e2⟩ := sh_some2 h
    exact e2 ▸ hG5
theorem t_X11_rises {a1 : Int32} {a2 : Int32} {a3 : Int32} {μ μ' : sh_Mem} {v : Int32} (hG : sh_G μ) (h : f_X11_rises a1 a2 a3 μ = some (v, μ')) : sh_C0 l B D ca 8 M_X11_rises [.ref 0, .int a1, .int a2, .int a3] μ (fun v0 μ0 => v0 = some (.int v) ∧ μ0 = μ') := by
  unfold f_X11_rises at h
  refine vv_aload_n 0 0 dX11_rises_0 rfl rfl ?_
  obtain ⟨k1, h⟩ := sh_chk h
  refine vv_getR 1 dX11_rises_1 fl_11_53 rfl (g_l_0 hG) k1.1 ?_
  refine vv_topr (fun r2 er2 => ?_)
  rw [sh_let_eq er2] at h
  have k1r : sh_r μ 0 7 = some r2 ∧ (r2 = 8 ∨ r2 = 29) := by rw [er2]; exact k1
  refine vv_iload_n 4 1 dX11_rises_4 rfl rfl ?_
  refine vv_iload_n 5 2 dX11_rises_5 rfl rfl ?_
  refine v1_callV [_, _] 6 dX11_rises_6 ck_X11_217 (gP_l hG k1r.2) ⟨by decide, rfl⟩ (c_X5_cellAt (μ := μ) hG k1r.2) (Nat.le_of_ble_eq_true rfl) ⟨Nat.le_of_ble_eq_true rfl, Nat.le_of_ble_eq_true rfl⟩ rfl (Nat.le_of_ble_eq_true rfl) ?_
  refine vv_topi (fun x3 ex3 => ?_)
  rw [sh_let_eq ex3] at h
  refine vv_istore (lv' := [(4, _), (0, _), (1, _), (2, _), (3, _)]) 9 4 dX11_rises_9 (by decide) rfl ?_
  refine vv_iload 11 4 dX11_rises_11 rfl ?_
  refine vv_iconst 13 dX11_rises_13 ik_m1 ?_
  refine vv_icmp_ne 14 21 dX11_rises_14 (by decide) (fun c4 => ?_) (fun c4 => ?_)
  · rw [if_neg c4] at h
    refine vv_aload_n 21 0 dX11_rises_21 rfl rfl ?_
    refine vv_getR 22 dX11_rises_22 fl_11_85 rfl (g_l_0 hG) (g_r_0_11 hG) ?_
    refine vv_aload_n 25 0 dX11_rises_25 rfl rfl ?_
    refine vv_getR 26 dX11_rises_26 fl_11_60 rfl (g_l_0 hG) (g_r_0_8 hG) ?_
    refine vv_iload 29 4 dX11_rises_29 rfl ?_
    refine vv_iload_n 31 3 dX11_rises_31 rfl rfl ?_
    obtain ⟨y7, μ5, hr6, h⟩ := sh_bind_e h
    refine v1_callV [_, _, _] 32 dX11_rises_32 ck_X11_260 (g_l_208 hG) ⟨by decide, rfl⟩ (t_X0_daysToRise hG sh_isL_49 hr6) (Nat.le_of_ble_eq_true rfl) ⟨Nat.le_of_ble_eq_true rfl, Nat.le_of_ble_eq_true rfl⟩ rfl (Nat.le_of_ble_eq_true rfl) ?_
    have hG5 := gp_X0_daysToRise hG sh_isL_49 hr6
    obtain ⟨e1, e2⟩ := sh_some2 h
    refine vv_iret 35 dX11_rises_35 rfl (Nat.le_refl _) (Nat.le_refl _) ⟨by rw [e1], e2⟩
  · rw [if_pos c4] at h
    refine vv_iconst 17 dX11_rises_17 ik_m1 ?_
    refine vv_goto 18 35 dX11_rises_18 (by decide) ?_
    obtain ⟨e1, e2⟩ := sh_some2 h
    refine vv_iret 35 dX11_rises_35 rfl (Nat.le_refl _) (Nat.le_refl _) ⟨by rw [e1], e2⟩
def F_X11_keeps : Nat → Nat → Int32 → Int32 → Int32 → Int32 → Int32 → Int32 → Int32 → Int32 → sh_Mem → Option (Int32 × sh_Mem)
  | 0, _, _, _, _, _, _, _, _, _, _ => none
  | fuel + 1, lbl, i1, i2, i3, i4, i5, i6, i7, i8, μ => match lbl with
    | 1 => (if (sh_r μ 0 7 = some (sh_ref μ 0 7) ∧ ((sh_ref μ 0 7) = 8 ∨ (sh_ref μ 0 7) = 29)) then sh_let (sh_ref μ 0 7) (fun r61 => (if (sh_i μ r61 3) < i7 then some ((-1), μ) else F_X11_keeps fuel 2 i1 i2 i3 i4 i5 i6 i7 0 μ)) else none)
    | 2 => (if (sh_r μ 0 7 = some (sh_ref μ 0 7) ∧ ((sh_ref μ 0 7) = 8 ∨ (sh_ref μ 0 7) = 29)) then sh_let (sh_ref μ 0 7) (fun r64 => (if (1 <<< ((sh_i μ r64 3) &&& 31)) ≤ i8 then F_X11_keeps fuel 1 i1 i2 i3 i4 i5 i6 (i7 + 1) 0 μ else sh_bind (f_J6_bitCount_0f7a4 i8 μ) (fun y68 μ66 => (if y68 = i7 then (if (sh_r μ66 0 7 = some (sh_ref μ66 0 7) ∧ ((sh_ref μ66 0 7) = 8 ∨ (sh_ref μ66 0 7) = 29)) then sh_let (sh_ref μ66 0 7) (fun r71 => sh_bindv (f_X0_behind 49 i3 i8 μ66) (fun μ72 => sh_bind (f_X9_cost r71 209 i4 i5 μ72) (fun y77 μ75 => (if i6 < y77 then F_X11_keeps fuel 2 i1 i2 i3 i4 i5 i6 i7 (i8 + 1) μ75 else some (i8, μ75))))) else none) else F_X11_keeps fuel 2 i1 i2 i3 i4 i5 i6 i7 (i8 + 1) μ66)))) else none)
    | _ => none
def f_X11_keeps (a1 : Int32) (a2 : Int32) (a3 : Int32) (μ : sh_Mem) : Option (Int32 × sh_Mem) := (if (sh_r μ 0 7 = some (sh_ref μ 0 7) ∧ ((sh_ref μ 0 7) = 8 ∨ (sh_ref μ 0 7) = 29)) then sh_let (sh_ref μ 0 7) (fun r80 => sh_bind (f_X5_cellOf r80 a1 μ) (fun y83 μ81 => (if (sh_r μ81 0 7 = some (sh_ref μ81 0 7) ∧ ((sh_ref μ81 0 7) = 8 ∨ (sh_ref μ81 0 7) = 29)) then sh_let (sh_ref μ81 0 7) (fun r85 => sh_bind (f_X5_cellOf r85 a2 μ81) (fun y88 μ86 => (if y83 = (-1) then some ((-1), μ86) else (if y88 = (-1) then some ((-1), μ86) else sh_bind (f_X11_isAhead a3 1 20 μ86) (fun y93 μ91 => (if y93 = 0 then some ((-1), μ91) else (if (sh_r μ91 0 7 = some (sh_ref μ91 0 7) ∧ ((sh_ref μ91 0 7) = 8 ∨ (sh_ref μ91 0 7) = 29)) then sh_let (sh_ref μ91 0 7) (fun r96 => sh_bind (f_X9_cost r96 49 y83 y88 μ91) (fun y99 μ97 => F_X11_keeps 1000000 1 a1 a2 a3 y83 y88 y99 0 0 μ97)) else none))))))) else none))) else none)
theorem gpl_X11_keeps (fuel : Nat) : (∀ ⦃i1 : Int32⦄ ⦃i2 : Int32⦄ ⦃i3 : Int32⦄ ⦃i4 : Int32⦄ ⦃i5 : Int32⦄ ⦃i6 : Int32⦄ ⦃i7 : Int32⦄ ⦃i8 : Int32⦄ ⦃μ μ' : sh_Mem⦄ ⦃v : Int32⦄, sh_G μ → F_X11_keeps fuel 1 i1 i2 i3 i4 i5 i6 i7 i8 μ = some (v, μ') → sh_G μ') ∧ (∀ ⦃i1 : Int32⦄ ⦃i2 : Int32⦄ ⦃i3 : Int32⦄ ⦃i4 : Int32⦄ ⦃i5 : Int32⦄ ⦃i6 : Int32⦄ ⦃i7 : Int32⦄ ⦃i8 : Int32⦄ ⦃μ μ' : sh_Mem⦄ ⦃v : Int32⦄, sh_G μ → F_X11_keeps fuel 2 i1 i2 i3 i4 i5 i6 i7 i8 μ = some (v, μ') → sh_G μ') := by
  induction fuel with
  | zero => exact ⟨(by intro i1 i2 i3 i4 i5 i6 i7 i8 μ μ' v hG h; cases h), (by intro i1 i2 i3 i4 i5 i6 i7 i8 μ μ' v hG h; cases h)⟩
  | succ fuel ih =>
    obtain ⟨ih_69, ih_84⟩ := ih
    refine ⟨?_, ?_⟩
    · intro i1 i2 i3 i4 i5 i6 i7 i8 μ μ' v hG h
      replace h : ((if (sh_r μ 0 7 = some (sh_ref μ 0 7) ∧ ((sh_ref μ 0 7) = 8 ∨ (sh_ref μ 0 7) = 29)) then sh_let (sh_ref μ 0 7) (fun r61 => (if (sh_i μ r61 3) < i7 then some ((-1), μ) else F_X11_keeps fuel 2 i1 i2 i3 i4 i5 i6 i7 0 μ)) else none) : Option (Int32 × sh_Mem)) = some (v, μ') := h
      obtain ⟨k60, h⟩ := sh_chk h
      obtain ⟨r61, er61⟩ : ∃ y : Nat, y = (sh_ref μ 0 7) := ⟨_, rfl⟩
      rw [sh_let_eq er61] at h
      have k60r : sh_r μ 0 7 = some r61 ∧ (r61 = 8 ∨ r61 = 29) := by rw [er61]; exact k60
      by_cases c62 : (sh_i μ r61 3) < i7
      · rw [if_pos c62] at h
        obtain ⟨e1, e2⟩ := sh_some2 h
        exact e2 ▸ hG
      · rw [if_neg c62] at h
        exact ih_84 hG h
    · intro i1 i2 i3 i4 i5 i6 i7 i8 μ μ' v hG h
      replace h : ((if (sh_r μ 0 7 = some (sh_ref μ 0 7) ∧ ((sh_ref μ 0 7) = 8 ∨ (sh_ref μ 0 7) = 29)) then sh_let (sh_ref μ 0 7) (fun r64 => (if (1 <<< ((sh_i μ r64 3) &&& 31)) ≤ i8 then F_X11_keeps fuel 1 i1 i2 i3 i4 i5 i6 (i7 + 1) 0 μ else sh_bind (f_J6_bitCount_0f7a4 i8 μ) (fun y68 μ66 => (if y68 = i7 then (if (sh_r μ66 0 7 = some (sh_ref μ66 0 7) ∧ ((sh_ref μ66 0 7) = 8 ∨ (sh_ref μ66 0 7) = 29)) then sh_let (sh_ref μ66 0 7) (fun r71 => sh_bindv (f_X0_behind 49 i3 i8 μ66) (fun μ72 => sh_bind (f_X9_cost r71 209 i4 i5 μ72) (fun y77 μ75 => (if i6 < y77 then F_X11_keeps fuel 2 i1 i2 i3 i4 i5 i6 i7 (i8 + 1) μ75 else some (i8, μ75))))) else none) else F_X11_keeps fuel 2 i1 i2 i3 i4 i5 i6 i7 (i8 + 1) μ66)))) else none) : Option (Int32 × sh_Mem)) = some (v, μ') := h
      obtain ⟨k63, h⟩ := sh_chk h
      obtain ⟨r64, er64⟩ : ∃ y : Nat, y = (sh_ref μ 0 7) := ⟨_, rfl⟩
      rw [sh_let_eq er64] at h
      have k63r : sh_r μ 0 7 = some r64 ∧ (r64 = 8 ∨ r64 = 29) := by rw [er64]; exact k63
      by_cases c65 : (1 <<< ((sh_i μ r64 3) &&& 31)) ≤ i8
      · rw [if_pos c65] at h
        exact ih_69 hG h
      · rw [if_neg c65] at h
        obtain ⟨y68, μ66, hr67, h⟩ := sh_bind_e h
        have hG66 := gp_J6_bitCount_0f7a4 hG hr67
        by_cases c69 : y68 = i7
        · rw [if_pos c69] at h
          obtain ⟨k70, h⟩ := sh_chk h
          obtain ⟨r71, er71⟩ : ∃ y : Nat, y = (sh_ref μ66 0 7) := ⟨_, rfl⟩
          rw [sh_let_eq er71] at h
          have k70r : sh_r μ66 0 7 = some r71 ∧ (r71 = 8 ∨ r71 = 29) := by rw [er71]; exact k70
          obtain ⟨μ72, hr73, h⟩ := sh_bindv_e h
          have hG72 := gp_X0_behind hG66 sh_isL_49 hr73
          obtain ⟨y77, μ75, hr76, h⟩ := sh_bind_e h
          have hG75 := gp_X9_cost hG72 k70r.2 sh_isL_209 hr76
          by_cases c78 : i6 < y77
          · rw [if_pos c78] at h
            exact ih_84 hG75 h
          · rw [if_neg c78] at h
            obtain ⟨e1, e2⟩ := sh_some2 h
            exact e2 ▸ hG75
        · rw [if_neg c69] at h
          exact ih_84 hG66 h
theorem tl_X11_keeps (fuel : Nat) : (∀ ⦃i1 : Int32⦄ ⦃i2 : Int32⦄ ⦃i3 : Int32⦄ ⦃i4 : Int32⦄ ⦃i5 : Int32⦄ ⦃i6 : Int32⦄ ⦃i7 : Int32⦄ ⦃i8 : Int32⦄ ⦃μ μ' : sh_Mem⦄ ⦃v : Int32⦄, sh_G μ → F_X11_keeps fuel 1 i1 i2 i3 i4 i5 i6 i7 i8 μ = some (v, μ') → sh_V0 l B D ca 8 M_X11_keeps 69 [(0, .ref 0), (1, .int i1), (2, .int i2), (3, .int i3), (4, .int i4), (5, .int i5), (6, .int i6), (7, .int i7)] [] μ (fun v0 μ0 => v0 = some (.int v) ∧ μ0 = μ')) ∧ (∀ ⦃i1 : Int32⦄ ⦃i2 : Int32⦄ ⦃i3 : Int32⦄ ⦃i4 : Int32⦄ ⦃i5 : Int32⦄ ⦃i6 : Int32⦄ ⦃i7 : Int32⦄ ⦃i8 : Int32⦄ ⦃μ μ' : sh_Mem⦄ ⦃v : Int32⦄, sh_G μ → F_X11_keeps fuel 2 i1 i2 i3 i4 i5 i6 i7 i8 μ = some (v, μ') → sh_V0 l B D ca 8 M_X11_keeps 84 [(0, .ref 0), (1, .int i1), (2, .int i2), (3, .int i3), (4, .int i4), (5, .int i5), (6, .int i6), (7, .int i7), (8, .int i8)] [] μ (fun v0 μ0 => v0 = some (.int v) ∧ μ0 = μ')) := by
  induction fuel with
  | zero => exact ⟨(by intro i1 i2 i3 i4 i5 i6 i7 i8 μ μ' v hG h; cases h), (by intro i1 i2 i3 i4 i5 i6 i7 i8 μ μ' v hG h; cases h)⟩
  | succ fuel ih =>
    obtain ⟨ih_69, ih_84⟩ := ih
    refine ⟨?_, ?_⟩
    · intro i1 i2 i3 i4 i5 i6 i7 i8 μ μ' v hG h
      replace h : ((if (sh_r μ 0 7 = some (sh_ref μ 0 7) ∧ ((sh_ref μ 0 7) = 8 ∨ (sh_ref μ 0 7) = 29)) then sh_let (sh_ref μ 0 7) (fun r61 => (if (sh_i μ r61 3) < i7 then some ((-1), μ) else F_X11_keeps fuel 2 i1 i2 i3 i4 i5 i6 i7 0 μ)) else none) : Option (Int32 × sh_Mem)) = some (v, μ') := h
      refine vv_iload 69 7 dX11_keeps_69 rfl ?_
      refine vv_aload_n 71 0 dX11_keeps_71 rfl rfl ?_
      obtain ⟨k60, h⟩ := sh_chk h
      refine vv_getR 72 dX11_keeps_72 fl_11_53 rfl (g_l_0 hG) k60.1 ?_
      refine vv_topr (fun r61 er61 => ?_)
      rw [sh_let_eq er61] at h
      have k60r : sh_r μ 0 7 = some r61 ∧ (r61 = 8 ∨ r61 = 29) := by rw [er61]; exact k60
      refine vv_getI 75 dX11_keeps_75 fl_11_180 rfl (gP_l hG k60r.2) ?_
      refine vv_icmp_gt 78 157 dX11_keeps_78 (by decide) (fun c62 => ?_) (fun c62 => ?_)
      · rw [if_pos c62] at h
        refine vv_iconst 157 dX11_keeps_157 ik_m1 ?_
        obtain ⟨e1, e2⟩ := sh_some2 h
        refine vv_iret 158 dX11_keeps_158 rfl (Nat.le_refl _) (Nat.le_refl _) ⟨by rw [e1], e2⟩
      · rw [if_neg c62] at h
        refine vv_iconst 81 dX11_keeps_81 ik_0 ?_
        refine vv_istore (lv' := [(8, _), (0, _), (1, _), (2, _), (3, _), (4, _), (5, _), (6, _), (7, _)]) 82 8 dX11_keeps_82 (by decide) rfl ?_
        refine vv_sub [(0, _), (1, _), (2, _), (3, _), (4, _), (5, _), (6, _), (7, _), (8, _)] (sh_subm [1, 2, 3, 4, 5, 6, 7, 8, 0] rfl) ?_
        exact ih_84 hG h
    · intro i1 i2 i3 i4 i5 i6 i7 i8 μ μ' v hG h
      replace h : ((if (sh_r μ 0 7 = some (sh_ref μ 0 7) ∧ ((sh_ref μ 0 7) = 8 ∨ (sh_ref μ 0 7) = 29)) then sh_let (sh_ref μ 0 7) (fun r64 => (if (1 <<< ((sh_i μ r64 3) &&& 31)) ≤ i8 then F_X11_keeps fuel 1 i1 i2 i3 i4 i5 i6 (i7 + 1) 0 μ else sh_bind (f_J6_bitCount_0f7a4 i8 μ) (fun y68 μ66 => (if y68 = i7 then (if (sh_r μ66 0 7 = some (sh_ref μ66 0 7) ∧ ((sh_ref μ66 0 7) = 8 ∨ (sh_ref μ66 0 7) = 29)) then sh_let (sh_ref μ66 0 7) (fun r71 => sh_bindv (f_X0_behind 49 i3 i8 μ66) (fun μ72 => sh_bind (f_X9_cost r71 209 i4 i5 μ72) (fun y77 μ75 => (if i6 < y77 then F_X11_keeps fuel 2 i1 i2 i3 i4 i5 i6 i7 (i8 + 1) μ75 else some (i8, μ75))))) else none) else F_X11_keeps fuel 2 i1 i2 i3 i4 i5 i6 i7 (i8 + 1) μ66)))) else none) : Option (Int32 × sh_Mem)) = some (v, μ') := h
      refine vv_iload 84 8 dX11_keeps_84 rfl ?_
      refine vv_iconst 86 dX11_keeps_86 ik_1 ?_
      refine vv_aload_n 87 0 dX11_keeps_87 rfl rfl ?_
      obtain ⟨k63, h⟩ := sh_chk h
      refine vv_getR 88 dX11_keeps_88 fl_11_53 rfl (g_l_0 hG) k63.1 ?_
      refine vv_topr (fun r64 er64 => ?_)
      rw [sh_let_eq er64] at h
      have k63r : sh_r μ 0 7 = some r64 ∧ (r64 = 8 ∨ r64 = 29) := by rw [er64]; exact k63
      refine vv_getI 91 dX11_keeps_91 fl_11_180 rfl (gP_l hG k63r.2) ?_
      refine vv_ishl 94 dX11_keeps_94 ?_
      refine vv_icmp_ge 95 151 dX11_keeps_95 (by decide) (fun c65 => ?_) (fun c65 => ?_)
      · rw [if_pos c65] at h
        refine vv_iincc (lv' := [(7, _), (0, _), (1, _), (2, _), (3, _), (4, _), (5, _), (6, _), (8, _)]) 151 7 dX11_keeps_151 rfl ik_1 (by decide) rfl ?_
        refine vv_goto 154 69 dX11_keeps_154 (by decide) ?_
        refine vv_sub [(0, _), (1, _), (2, _), (3, _), (4, _), (5, _), (6, _), (7, _)] (sh_subm [1, 2, 3, 4, 5, 6, 7, 0] rfl) ?_
        exact ih_69 hG h
      · rw [if_neg c65] at h
        refine vv_iload 98 8 dX11_keeps_98 rfl ?_
        obtain ⟨y68, μ66, hr67, h⟩ := sh_bind_e h
        refine v1_callS [_] 100 dX11_keeps_100 ck_X11_284 (t_J6_bitCount_0f7a4 hG hr67) (Nat.le_of_ble_eq_true rfl) ⟨Nat.le_of_ble_eq_true rfl, Nat.le_of_ble_eq_true rfl⟩ rfl (Nat.le_of_ble_eq_true rfl) ?_
        have hG66 := gp_J6_bitCount_0f7a4 hG hr67
        refine vv_iload 103 7 dX11_keeps_103 rfl ?_
        refine vv_icmp_ne 105 145 dX11_keeps_105 (by decide) (fun c69 => ?_) (fun c69 => ?_)
        · rw [if_neg c69] at h
          refine vv_iincc (lv' := [(8, _), (0, _), (1, _), (2, _), (3, _), (4, _), (5, _), (6, _), (7, _)]) 145 8 dX11_keeps_145 rfl ik_1 (by decide) rfl ?_
          refine vv_goto 148 84 dX11_keeps_148 (by decide) ?_
          refine vv_sub [(0, _), (1, _), (2, _), (3, _), (4, _), (5, _), (6, _), (7, _), (8, _)] (sh_subm [1, 2, 3, 4, 5, 6, 7, 8, 0] rfl) ?_
          exact ih_84 hG66 h
        · rw [if_pos c69] at h
          refine vv_aload_n 108 0 dX11_keeps_108 rfl rfl ?_
          refine vv_getR 109 dX11_keeps_109 fl_11_99 rfl (g_l_0 hG66) (g_r_0_13 hG66) ?_
          refine vv_aload_n 112 0 dX11_keeps_112 rfl rfl ?_
          obtain ⟨k70, h⟩ := sh_chk h
          refine vv_getR 113 dX11_keeps_113 fl_11_53 rfl (g_l_0 hG66) k70.1 ?_
          refine vv_topr (fun r71 er71 => ?_)
          rw [sh_let_eq er71] at h
          have k70r : sh_r μ66 0 7 = some r71 ∧ (r71 = 8 ∨ r71 = 29) := by rw [er71]; exact k70
          refine vv_aload_n 116 0 dX11_keeps_116 rfl rfl ?_
          refine vv_getR 117 dX11_keeps_117 fl_11_85 rfl (g_l_0 hG66) (g_r_0_11 hG66) ?_
          refine vv_aload_n 120 0 dX11_keeps_120 rfl rfl ?_
          refine vv_getR 121 dX11_keeps_121 fl_11_60 rfl (g_l_0 hG66) (g_r_0_8 hG66) ?_
          refine vv_iload_n 124 3 dX11_keeps_124 rfl rfl ?_
          refine vv_iload 125 8 dX11_keeps_125 rfl ?_
          obtain ⟨μ72, hr73, h⟩ := sh_bindv_e h
          refine v1_callV [_, _, _] 127 dX11_keeps_127 ck_X11_256 (g_l_208 hG66) ⟨by decide, rfl⟩ (t_X0_behind hG66 sh_isL_49 hr73) (Nat.le_of_ble_eq_true rfl) ⟨Nat.le_of_ble_eq_true rfl, Nat.le_of_ble_eq_true rfl⟩ rfl (Nat.le_of_ble_eq_true rfl) ?_
          have hG72 := gp_X0_behind hG66 sh_isL_49 hr73
          refine vv_iload 130 4 dX11_keeps_130 rfl ?_
          refine vv_iload 132 5 dX11_keeps_132 rfl ?_
          obtain ⟨y77, μ75, hr76, h⟩ := sh_bind_e h
          refine v1_callV [_, _, _, _] 134 dX11_keeps_134 ck_X11_273 (g_l_287 hG72) ⟨by decide, rfl⟩ (t_X9_cost hG72 k70r.2 sh_isL_209 hr76) (Nat.le_of_ble_eq_true rfl) ⟨Nat.le_of_ble_eq_true rfl, Nat.le_of_ble_eq_true rfl⟩ rfl (Nat.le_of_ble_eq_true rfl) ?_
          have hG75 := gp_X9_cost hG72 k70r.2 sh_isL_209 hr76
          refine vv_iload 137 6 dX11_keeps_137 rfl ?_
          refine vv_icmp_gt 139 145 dX11_keeps_139 (by decide) (fun c78 => ?_) (fun c78 => ?_)
          · rw [if_pos c78] at h
            refine vv_iincc (lv' := [(8, _), (0, _), (1, _), (2, _), (3, _), (4, _), (5, _), (6, _), (7, _)]) 145 8 dX11_keeps_145 rfl ik_1 (by decide) rfl ?_
            refine vv_goto 148 84 dX11_keeps_148 (by decide) ?_
            refine vv_sub [(0, _), (1, _), (2, _), (3, _), (4, _), (5, _), (6, _), (7, _), (8, _)] (sh_subm [1, 2, 3, 4, 5, 6, 7, 8, 0] rfl) ?_
            exact ih_84 hG75 h
          · rw [if_neg c78] at h
            refine vv_iload 142 8 dX11_keeps_142 rfl ?_
            obtain ⟨e1, e2⟩ := sh_some2 h
            refine vv_iret 144 dX11_keeps_144 rfl (Nat.le_refl _) (Nat.le_refl _) ⟨by rw [e1], e2⟩
theorem gp_X11_keeps {a1 : Int32} {a2 : Int32} {a3 : Int32} {μ μ' : sh_Mem} {v : Int32} (hG : sh_G μ) (h : f_X11_keeps a1 a2 a3 μ = some (v, μ')) : sh_G μ' := by
  have ih_69 := (gpl_X11_keeps 1000000).1
  have ih_84 := (gpl_X11_keeps 1000000).2
  unfold f_X11_keeps at h
  obtain ⟨k79, h⟩ := sh_chk h
  obtain ⟨r80, er80⟩ : ∃ y : Nat, y = (sh_ref μ 0 7) := ⟨_, rfl⟩
  rw [sh_let_eq er80] at h
  have k79r : sh_r μ 0 7 = some r80 ∧ (r80 = 8 ∨ r80 = 29) := by rw [er80]; exact k79
  obtain ⟨y83, μ81, hr82, h⟩ := sh_bind_e h
  have hG81 := gp_X5_cellOf hG k79r.2 hr82
  obtain ⟨k84, h⟩ := sh_chk h
  obtain ⟨r85, er85⟩ : ∃ y : Nat, y = (sh_ref μ81 0 7) := ⟨_, rfl⟩
  rw [sh_let_eq er85] at h
  have k84r : sh_r μ81 0 7 = some r85 ∧ (r85 = 8 ∨ r85 = 29) := by rw [er85]; exact k84
  obtain ⟨y88, μ86, hr87, h⟩ := sh_bind_e h
  have hG86 := gp_X5_cellOf hG81 k84r.2 hr87
  by_cases c89 : y83 = (-1)
  · rw [if_pos c89] at h
    obtain ⟨e1, e2⟩ := sh_some2 h
    exact e2 ▸ hG86
  · rw [if_neg c89] at h
    by_cases c90 : y88 = (-1)
    · rw [if_pos c90] at h
      obtain ⟨e1, e2⟩ := sh_some2 h
      exact e2 ▸ hG86
    · rw [if_neg c90] at h
      obtain ⟨y93, μ91, hr92, h⟩ := sh_bind_e h
      have hG91 := gp_X11_isAhead hG86 hr92
      by_cases c94 : y93 = 0
      · rw [if_pos c94] at h
        obtain ⟨e1, e2⟩ := sh_some2 h
        exact e2 ▸ hG91
      · rw [if_neg c94] at h
        obtain ⟨k95, h⟩ := sh_chk h
        obtain ⟨r96, er96⟩ : ∃ y : Nat, y = (sh_ref μ91 0 7) := ⟨_, rfl⟩
        rw [sh_let_eq er96] at h
        have k95r : sh_r μ91 0 7 = some r96 ∧ (r96 = 8 ∨ r96 = 29) := by rw [er96]; exact k95
        obtain ⟨y99, μ97, hr98, h⟩ := sh_bind_e h
        have hG97 := gp_X9_cost hG91 k95r.2 sh_isL_49 hr98
        exact ih_69 hG97 h
theorem t_X11_keeps {a1 : Int32} {a2 : Int32} {a3 : Int32} {μ μ' : sh_Mem} {v : Int32} (hG : sh_G μ) (h : f_X11_keeps a1 a2 a3 μ = some (v, μ')) : sh_C0 l B D ca 8 M_X11_keeps [.ref 0, .int a1, .int a2, .int a3] μ (fun v0 μ0 => v0 = some (.int v) ∧ μ0 = μ') := by
  have ih_69 := (tl_X11_keeps (l := l) (B := B) (D := D) (ca := ca) 1000000).1
  have ih_84 := (tl_X11_keeps (l := l) (B := B) (D := D) (ca := ca) 1000000).2
  unfold f_X11_keeps at h
  refine vv_aload_n 0 0 dX11_keeps_0 rfl rfl ?_
  obtain ⟨k79, h⟩ := sh_chk h
  refine vv_getR 1 dX11_keeps_1 fl_11_53 rfl (g_l_0 hG) k79.1 ?_
  refine vv_topr (fun r80 er80 => ?_)
  rw [sh_let_eq er80] at h
  have k79r : sh_r μ 0 7 = some r80 ∧ (r80 = 8 ∨ r80 = 29) := by rw [er80]; exact k79
  refine vv_iload_n 4 1 dX11_keeps_4 rfl rfl ?_
  obtain ⟨y83, μ81, hr82, h⟩ := sh_bind_e h
  refine v1_callV [_] 5 dX11_keeps_5 ck_X11_263 (gP_l hG k79r.2) ⟨by decide, rfl⟩ (t_X5_cellOf hG k79r.2 hr82) (Nat.le_of_ble_eq_true rfl) ⟨Nat.le_of_ble_eq_true rfl, Nat.le_of_ble_eq_true rfl⟩ rfl (Nat.le_of_ble_eq_true rfl) ?_
  have hG81 := gp_X5_cellOf hG k79r.2 hr82
  refine vv_istore (lv' := [(4, _), (0, _), (1, _), (2, _), (3, _)]) 8 4 dX11_keeps_8 (by decide) rfl ?_
  refine vv_aload_n 10 0 dX11_keeps_10 rfl rfl ?_
  obtain ⟨k84, h⟩ := sh_chk h
  refine vv_getR 11 dX11_keeps_11 fl_11_53 rfl (g_l_0 hG81) k84.1 ?_
  refine vv_topr (fun r85 er85 => ?_)
  rw [sh_let_eq er85] at h
  have k84r : sh_r μ81 0 7 = some r85 ∧ (r85 = 8 ∨ r85 = 29) := by rw [er85]; exact k84
  refine vv_iload_n 14 2 dX11_keeps_14 rfl rfl ?_
  obtain ⟨y88, μ86, hr87, h⟩ := sh_bind_e h
  refine v1_callV [_] 15 dX11_keeps_15 ck_X11_263 (gP_l hG81 k84r.2) ⟨by decide, rfl⟩ (t_X5_cellOf hG81 k84r.2 hr87) (Nat.le_of_ble_eq_true rfl) ⟨Nat.le_of_ble_eq_true rfl, Nat.le_of_ble_eq_true rfl⟩ rfl (Nat.le_of_ble_eq_true rfl) ?_
  have hG86 := gp_X5_cellOf hG81 k84r.2 hr87
  refine vv_istore (lv' := [(5, _), (4, _), (0, _), (1, _), (2, _), (3, _)]) 18 5 dX11_keeps_18 (by decide) rfl ?_
  refine vv_iload 20 4 dX11_keeps_20 rfl ?_
  refine vv_iconst 22 dX11_keeps_22 ik_m1 ?_
  refine vv_icmp_eq 23 43 dX11_keeps_23 (by decide) (fun c89 => ?_) (fun c89 => ?_)
  · rw [if_pos c89] at h
    refine vv_iconst 43 dX11_keeps_43 ik_m1 ?_
    obtain ⟨e1, e2⟩ := sh_some2 h
    refine vv_iret 44 dX11_keeps_44 rfl (Nat.le_refl _) (Nat.le_refl _) ⟨by rw [e1], e2⟩
  · rw [if_neg c89] at h
    refine vv_iload 26 5 dX11_keeps_26 rfl ?_
    refine vv_iconst 28 dX11_keeps_28 ik_m1 ?_
    refine vv_icmp_eq 29 43 dX11_keeps_29 (by decide) (fun c90 => ?_) (fun c90 => ?_)
    · rw [if_pos c90] at h
      refine vv_iconst 43 dX11_keeps_43 ik_m1 ?_
      obtain ⟨e1, e2⟩ := sh_some2 h
      refine vv_iret 44 dX11_keeps_44 rfl (Nat.le_refl _) (Nat.le_refl _) ⟨by rw [e1], e2⟩
    · rw [if_neg c90] at h
      refine vv_aload_n 32 0 dX11_keeps_32 rfl rfl ?_
      refine vv_iload_n 33 3 dX11_keeps_33 rfl rfl ?_
      refine vv_iconst 34 dX11_keeps_34 ik_1 ?_
      refine vv_bipush 35 dX11_keeps_35 bk_20 ?_
      obtain ⟨y93, μ91, hr92, h⟩ := sh_bind_e h
      refine v1_callV [_, _, _] 37 dX11_keeps_37 ck_X11_252 (g_l_0 hG86) ⟨by decide, rfl⟩ (t_X11_isAhead hG86 hr92) (Nat.le_of_ble_eq_true rfl) ⟨Nat.le_of_ble_eq_true rfl, Nat.le_of_ble_eq_true rfl⟩ rfl (Nat.le_of_ble_eq_true rfl) ?_
      have hG91 := gp_X11_isAhead hG86 hr92
      refine vv_if_ne 40 45 dX11_keeps_40 (by decide) (fun c94 => ?_) (fun c94 => ?_)
      · rw [if_neg c94] at h
        refine vv_aload_n 45 0 dX11_keeps_45 rfl rfl ?_
        refine vv_getR 46 dX11_keeps_46 fl_11_99 rfl (g_l_0 hG91) (g_r_0_13 hG91) ?_
        refine vv_aload_n 49 0 dX11_keeps_49 rfl rfl ?_
        obtain ⟨k95, h⟩ := sh_chk h
        refine vv_getR 50 dX11_keeps_50 fl_11_53 rfl (g_l_0 hG91) k95.1 ?_
        refine vv_topr (fun r96 er96 => ?_)
        rw [sh_let_eq er96] at h
        have k95r : sh_r μ91 0 7 = some r96 ∧ (r96 = 8 ∨ r96 = 29) := by rw [er96]; exact k95
        refine vv_aload_n 53 0 dX11_keeps_53 rfl rfl ?_
        refine vv_getR 54 dX11_keeps_54 fl_11_60 rfl (g_l_0 hG91) (g_r_0_8 hG91) ?_
        refine vv_iload 57 4 dX11_keeps_57 rfl ?_
        refine vv_iload 59 5 dX11_keeps_59 rfl ?_
        obtain ⟨y99, μ97, hr98, h⟩ := sh_bind_e h
        refine v1_callV [_, _, _, _] 61 dX11_keeps_61 ck_X11_273 (g_l_287 hG91) ⟨by decide, rfl⟩ (t_X9_cost hG91 k95r.2 sh_isL_49 hr98) (Nat.le_of_ble_eq_true rfl) ⟨Nat.le_of_ble_eq_true rfl, Nat.le_of_ble_eq_true rfl⟩ rfl (Nat.le_of_ble_eq_true rfl) ?_
        have hG97 := gp_X9_cost hG91 k95r.2 sh_isL_49 hr98
        refine vv_istore (lv' := [(6, _), (5, _), (4, _), (0, _), (1, _), (2, _), (3, _)]) 64 6 dX11_keeps_64 (by decide) rfl ?_
        refine vv_iconst 66 dX11_keeps_66 ik_0 ?_
        refine vv_istore (lv' := [(7, _), (6, _), (5, _), (4, _), (0, _), (1, _), (2, _), (3, _)]) 67 7 dX11_keeps_67 (by decide) rfl ?_
        refine vv_sub [(0, _), (1, _), (2, _), (3, _), (4, _), (5, _), (6, _), (7, _)] (sh_subm [4, 5, 6, 7, 3, 2, 1, 0] rfl) ?_
        exact ih_69 hG97 h
      · rw [if_pos c94] at h
        refine vv_iconst 43 dX11_keeps_43 ik_m1 ?_
        obtain ⟨e1, e2⟩ := sh_some2 h
        refine vv_iret 44 dX11_keeps_44 rfl (Nat.le_refl _) (Nat.le_refl _) ⟨by rw [e1], e2⟩
def F_X11_rest : Nat → Nat → Int32 → Int32 → Int32 → sh_Mem → Option (Int32 × sh_Mem)
  | 0, _, _, _, _, _ => none
  | fuel + 1, lbl, i1, i2, i3, μ => match lbl with
    | 1 => (if (sh_r μ 0 7 = some (sh_ref μ 0 7) ∧ ((sh_ref μ 0 7) = 8 ∨ (sh_ref μ 0 7) = 29)) then sh_let (sh_ref μ 0 7) (fun r52 => (if (1 <<< ((sh_i μ r52 3) &&& 31)) ≤ i2 then F_X11_rest fuel 2 i1 0 0 μ else sh_bindv (f_X0_behind 49 i1 i2 μ) (fun μ54 => sh_bindv (f_X0_learnOwnHeights 209 i2 μ54) (fun μ57 => F_X11_rest fuel 1 i1 (i2 + 1) 0 μ57)))) else none)
    | 2 => (if (sh_r μ 0 7 = some (sh_ref μ 0 7) ∧ ((sh_ref μ 0 7) = 8 ∨ (sh_ref μ 0 7) = 29)) then sh_let (sh_ref μ 0 7) (fun r61 => (if (sh_i μ r61 3) < i2 then some ((-1), μ) else F_X11_rest fuel 3 i1 i2 0 μ)) else none)
    | 3 => (if (sh_r μ 0 7 = some (sh_ref μ 0 7) ∧ ((sh_ref μ 0 7) = 8 ∨ (sh_ref μ 0 7) = 29)) then sh_let (sh_ref μ 0 7) (fun r64 => (if (1 <<< ((sh_i μ r64 3) &&& 31)) ≤ i3 then F_X11_rest fuel 2 i1 (i2 + 1) 0 μ else sh_bind (f_J6_bitCount_0f7a4 i3 μ) (fun y68 μ66 => (if y68 = i2 then sh_bind (f_X0_isAtRest i3 μ66) (fun y72 μ70 => (if y72 = 0 then F_X11_rest fuel 3 i1 i2 (i3 + 1) μ70 else some (i3, μ70))) else F_X11_rest fuel 3 i1 i2 (i3 + 1) μ66)))) else none)
    | _ => none
def f_X11_rest (a1 : Int32) (μ : sh_Mem) : Option (Int32 × sh_Mem) := sh_bind (f_X11_isAhead a1 1 20 μ) (fun y76 μ74 => (if y76 = 0 then some ((-1), μ74) else F_X11_rest 1000000 1 a1 0 0 μ74))
theorem gpl_X11_rest (fuel : Nat) : (∀ ⦃i1 : Int32⦄ ⦃i2 : Int32⦄ ⦃i3 : Int32⦄ ⦃μ μ' : sh_Mem⦄ ⦃v : Int32⦄, sh_G μ → F_X11_rest fuel 1 i1 i2 i3 μ = some (v, μ') → sh_G μ') ∧ (∀ ⦃i1 : Int32⦄ ⦃i2 : Int32⦄ ⦃i3 : Int32⦄ ⦃μ μ' : sh_Mem⦄ ⦃v : Int32⦄, sh_G μ → F_X11_rest fuel 2 i1 i2 i3 μ = some (v, μ') → sh_G μ') ∧ (∀ ⦃i1 : Int32⦄ ⦃i2 : Int32⦄ ⦃i3 : Int32⦄ ⦃μ μ' : sh_Mem⦄ ⦃v : Int32⦄, sh_G μ → F_X11_rest fuel 3 i1 i2 i3 μ = some (v, μ') → sh_G μ') := by
  induction fuel with
  | zero => exact ⟨(by intro i1 i2 i3 μ μ' v hG h; cases h), (by intro i1 i2 i3 μ μ' v hG h; cases h), (by intro i1 i2 i3 μ μ' v hG h; cases h)⟩
  | succ fuel ih =>
    obtain ⟨ih_15, ih_57, ih_70⟩ := ih
    refine ⟨?_, ?_, ?_⟩
    · intro i1 i2 i3 μ μ' v hG h
      replace h : ((if (sh_r μ 0 7 = some (sh_ref μ 0 7) ∧ ((sh_ref μ 0 7) = 8 ∨ (sh_ref μ 0 7) = 29)) then sh_let (sh_ref μ 0 7) (fun r52 => (if (1 <<< ((sh_i μ r52 3) &&& 31)) ≤ i2 then F_X11_rest fuel 2 i1 0 0 μ else sh_bindv (f_X0_behind 49 i1 i2 μ) (fun μ54 => sh_bindv (f_X0_learnOwnHeights 209 i2 μ54) (fun μ57 => F_X11_rest fuel 1 i1 (i2 + 1) 0 μ57)))) else none) : Option (Int32 × sh_Mem)) = some (v, μ') := h
      obtain ⟨k51, h⟩ := sh_chk h
      obtain ⟨r52, er52⟩ : ∃ y : Nat, y = (sh_ref μ 0 7) := ⟨_, rfl⟩
      rw [sh_let_eq er52] at h
      have k51r : sh_r μ 0 7 = some r52 ∧ (r52 = 8 ∨ r52 = 29) := by rw [er52]; exact k51
      by_cases c53 : (1 <<< ((sh_i μ r52 3) &&& 31)) ≤ i2
      · rw [if_pos c53] at h
        exact ih_57 hG h
      · rw [if_neg c53] at h
        obtain ⟨μ54, hr55, h⟩ := sh_bindv_e h
        have hG54 := gp_X0_behind hG sh_isL_49 hr55
        obtain ⟨μ57, hr58, h⟩ := sh_bindv_e h
        have hG57 := gp_X0_learnOwnHeights hG54 sh_isL_209 hr58
        exact ih_15 hG57 h
    · intro i1 i2 i3 μ μ' v hG h
      replace h : ((if (sh_r μ 0 7 = some (sh_ref μ 0 7) ∧ ((sh_ref μ 0 7) = 8 ∨ (sh_ref μ 0 7) = 29)) then sh_let (sh_ref μ 0 7) (fun r61 => (if (sh_i μ r61 3) < i2 then some ((-1), μ) else F_X11_rest fuel 3 i1 i2 0 μ)) else none) : Option (Int32 × sh_Mem)) = some (v, μ') := h
      obtain ⟨k60, h⟩ := sh_chk h
      obtain ⟨r61, er61⟩ : ∃ y : Nat, y = (sh_ref μ 0 7) := ⟨_, rfl⟩
      rw [sh_let_eq er61] at h
      have k60r : sh_r μ 0 7 = some r61 ∧ (r61 = 8 ∨ r61 = 29) := by rw [er61]; exact k60
      by_cases c62 : (sh_i μ r61 3) < i2
      · rw [if_pos c62] at h
        obtain ⟨e1, e2⟩ := sh_some2 h
        exact e2 ▸ hG
      · rw [if_neg c62] at h
        exact ih_70 hG h
    · intro i1 i2 i3 μ μ' v hG h
      replace h : ((if (sh_r μ 0 7 = some (sh_ref μ 0 7) ∧ ((sh_ref μ 0 7) = 8 ∨ (sh_ref μ 0 7) = 29)) then sh_let (sh_ref μ 0 7) (fun r64 => (if (1 <<< ((sh_i μ r64 3) &&& 31)) ≤ i3 then F_X11_rest fuel 2 i1 (i2 + 1) 0 μ else sh_bind (f_J6_bitCount_0f7a4 i3 μ) (fun y68 μ66 => (if y68 = i2 then sh_bind (f_X0_isAtRest i3 μ66) (fun y72 μ70 => (if y72 = 0 then F_X11_rest fuel 3 i1 i2 (i3 + 1) μ70 else some (i3, μ70))) else F_X11_rest fuel 3 i1 i2 (i3 + 1) μ66)))) else none) : Option (Int32 × sh_Mem)) = some (v, μ') := h
      obtain ⟨k63, h⟩ := sh_chk h
      obtain ⟨r64, er64⟩ : ∃ y : Nat, y = (sh_ref μ 0 7) := ⟨_, rfl⟩
      rw [sh_let_eq er64] at h
      have k63r : sh_r μ 0 7 = some r64 ∧ (r64 = 8 ∨ r64 = 29) := by rw [er64]; exact k63
      by_cases c65 : (1 <<< ((sh_i μ r64 3) &&& 31)) ≤ i3
      · rw [if_pos c65] at h
        exact ih_57 hG h
      · rw [if_neg c65] at h
        obtain ⟨y68, μ66, hr67, h⟩ := sh_bind_e h
        have hG66 := gp_J6_bitCount_0f7a4 hG hr67
        by_cases c69 : y68 = i2
        · rw [if_pos c69] at h
          obtain ⟨y72, μ70, hr71, h⟩ := sh_bind_e h
          have hG70 := gp_X0_isAtRest hG66 hr71
          by_cases c73 : y72 = 0
          · rw [if_pos c73] at h
            exact ih_70 hG70 h
          · rw [if_neg c73] at h
            obtain ⟨e1, e2⟩ := sh_some2 h
            exact e2 ▸ hG70
        · rw [if_neg c69] at h
          exact ih_70 hG66 h
theorem tl_X11_rest (fuel : Nat) : (∀ ⦃i1 : Int32⦄ ⦃i2 : Int32⦄ ⦃i3 : Int32⦄ ⦃μ μ' : sh_Mem⦄ ⦃v : Int32⦄, sh_G μ → F_X11_rest fuel 1 i1 i2 i3 μ = some (v, μ') → sh_V0 l B D ca 8 M_X11_rest 15 [(0, .ref 0), (1, .int i1), (2, .int i2)] [] μ (fun v0 μ0 => v0 = some (.int v) ∧ μ0 = μ')) ∧ (∀ ⦃i1 : Int32⦄ ⦃i2 : Int32⦄ ⦃i3 : Int32⦄ ⦃μ μ' : sh_Mem⦄ ⦃v : Int32⦄, sh_G μ → F_X11_rest fuel 2 i1 i2 i3 μ = some (v, μ') → sh_V0 l B D ca 8 M_X11_rest 57 [(0, .ref 0), (1, .int i1), (2, .int i2)] [] μ (fun v0 μ0 => v0 = some (.int v) ∧ μ0 = μ')) ∧ (∀ ⦃i1 : Int32⦄ ⦃i2 : Int32⦄ ⦃i3 : Int32⦄ ⦃μ μ' : sh_Mem⦄ ⦃v : Int32⦄, sh_G μ → F_X11_rest fuel 3 i1 i2 i3 μ = some (v, μ') → sh_V0 l B D ca 8 M_X11_rest 70 [(0, .ref 0), (1, .int i1), (2, .int i2), (3, .int i3)] [] μ (fun v0 μ0 => v0 = some (.int v) ∧ μ0 = μ')) := by
  induction fuel with
  | zero => exact ⟨(by intro i1 i2 i3 μ μ' v hG h; cases h), (by intro i1 i2 i3 μ μ' v hG h; cases h), (by intro i1 i2 i3 μ μ' v hG h; cases h)⟩
  | succ fuel ih =>
    obtain ⟨ih_15, ih_57, ih_70⟩ := ih
    refine ⟨?_, ?_, ?_⟩
    · intro i1 i2 i3 μ μ' v hG h
      replace h : ((if (sh_r μ 0 7 = some (sh_ref μ 0 7) ∧ ((sh_ref μ 0 7) = 8 ∨ (sh_ref μ 0 7) = 29)) then sh_let (sh_ref μ 0 7) (fun r52 => (if (1 <<< ((sh_i μ r52 3) &&& 31)) ≤ i2 then F_X11_rest fuel 2 i1 0 0 μ else sh_bindv (f_X0_behind 49 i1 i2 μ) (fun μ54 => sh_bindv (f_X0_learnOwnHeights 209 i2 μ54) (fun μ57 => F_X11_rest fuel 1 i1 (i2 + 1) 0 μ57)))) else none) : Option (Int32 × sh_Mem)) = some (v, μ') := h
      refine vv_iload_n 15 2 dX11_rest_15 rfl rfl ?_
      refine vv_iconst 16 dX11_rest_16 ik_1 ?_
      refine vv_aload_n 17 0 dX11_rest_17 rfl rfl ?_
      obtain ⟨k51, h⟩ := sh_chk h
      refine vv_getR 18 dX11_rest_18 fl_11_53 rfl (g_l_0 hG) k51.1 ?_
      refine vv_topr (fun r52 er52 => ?_)
      rw [sh_let_eq er52] at h
      have k51r : sh_r μ 0 7 = some r52 ∧ (r52 = 8 ∨ r52 = 29) := by rw [er52]; exact k51
      refine vv_getI 21 dX11_rest_21 fl_11_180 rfl (gP_l hG k51r.2) ?_
      refine vv_ishl 24 dX11_rest_24 ?_
      refine vv_icmp_ge 25 55 dX11_rest_25 (by decide) (fun c53 => ?_) (fun c53 => ?_)
      · rw [if_pos c53] at h
        refine vv_iconst 55 dX11_rest_55 ik_0 ?_
        refine vv_istore_n (lv' := [(2, _), (0, _), (1, _)]) 56 2 dX11_rest_56 rfl (by decide) rfl ?_
        refine vv_sub [(0, _), (1, _), (2, _)] (sh_subm [1, 2, 0] rfl) ?_
        exact ih_57 hG h
      · rw [if_neg c53] at h
        refine vv_aload_n 28 0 dX11_rest_28 rfl rfl ?_
        refine vv_getR 29 dX11_rest_29 fl_11_85 rfl (g_l_0 hG) (g_r_0_11 hG) ?_
        refine vv_aload_n 32 0 dX11_rest_32 rfl rfl ?_
        refine vv_getR 33 dX11_rest_33 fl_11_85 rfl (g_l_0 hG) (g_r_0_11 hG) ?_
        refine vv_aload_n 36 0 dX11_rest_36 rfl rfl ?_
        refine vv_getR 37 dX11_rest_37 fl_11_60 rfl (g_l_0 hG) (g_r_0_8 hG) ?_
        refine vv_iload_n 40 1 dX11_rest_40 rfl rfl ?_
        refine vv_iload_n 41 2 dX11_rest_41 rfl rfl ?_
        obtain ⟨μ54, hr55, h⟩ := sh_bindv_e h
        refine v1_callV [_, _, _] 42 dX11_rest_42 ck_X11_256 (g_l_208 hG) ⟨by decide, rfl⟩ (t_X0_behind hG sh_isL_49 hr55) (Nat.le_of_ble_eq_true rfl) ⟨Nat.le_of_ble_eq_true rfl, Nat.le_of_ble_eq_true rfl⟩ rfl (Nat.le_of_ble_eq_true rfl) ?_
        have hG54 := gp_X0_behind hG sh_isL_49 hr55
        refine vv_iload_n 45 2 dX11_rest_45 rfl rfl ?_
        obtain ⟨μ57, hr58, h⟩ := sh_bindv_e h
        refine v1_callV [_, _] 46 dX11_rest_46 ck_X11_289 (g_l_208 hG54) ⟨by decide, rfl⟩ (t_X0_learnOwnHeights hG54 sh_isL_209 hr58) (Nat.le_of_ble_eq_true rfl) ⟨Nat.le_of_ble_eq_true rfl, Nat.le_of_ble_eq_true rfl⟩ rfl (Nat.le_of_ble_eq_true rfl) ?_
        have hG57 := gp_X0_learnOwnHeights hG54 sh_isL_209 hr58
        refine vv_iincc (lv' := [(2, _), (0, _), (1, _)]) 49 2 dX11_rest_49 rfl ik_1 (by decide) rfl ?_
        refine vv_goto 52 15 dX11_rest_52 (by decide) ?_
        refine vv_sub [(0, _), (1, _), (2, _)] (sh_subm [1, 2, 0] rfl) ?_
        exact ih_15 hG57 h
    · intro i1 i2 i3 μ μ' v hG h
      replace h : ((if (sh_r μ 0 7 = some (sh_ref μ 0 7) ∧ ((sh_ref μ 0 7) = 8 ∨ (sh_ref μ 0 7) = 29)) then sh_let (sh_ref μ 0 7) (fun r61 => (if (sh_i μ r61 3) < i2 then some ((-1), μ) else F_X11_rest fuel 3 i1 i2 0 μ)) else none) : Option (Int32 × sh_Mem)) = some (v, μ') := h
      refine vv_iload_n 57 2 dX11_rest_57 rfl rfl ?_
      refine vv_aload_n 58 0 dX11_rest_58 rfl rfl ?_
      obtain ⟨k60, h⟩ := sh_chk h
      refine vv_getR 59 dX11_rest_59 fl_11_53 rfl (g_l_0 hG) k60.1 ?_
      refine vv_topr (fun r61 er61 => ?_)
      rw [sh_let_eq er61] at h
      have k60r : sh_r μ 0 7 = some r61 ∧ (r61 = 8 ∨ r61 = 29) := by rw [er61]; exact k60
      refine vv_getI 62 dX11_rest_62 fl_11_180 rfl (gP_l hG k60r.2) ?_
      refine vv_icmp_gt 65 116 dX11_rest_65 (by decide) (fun c62 => ?_) (fun c62 => ?_)
      · rw [if_pos c62] at h
        refine vv_iconst 116 dX11_rest_116 ik_m1 ?_
        obtain ⟨e1, e2⟩ := sh_some2 h
        refine vv_iret 117 dX11_rest_117 rfl (Nat.le_refl _) (Nat.le_refl _) ⟨by rw [e1], e2⟩
      · rw [if_neg c62] at h
        refine vv_iconst 68 dX11_rest_68 ik_0 ?_
        refine vv_istore_n (lv' := [(3, _), (0, _), (1, _), (2, _)]) 69 3 dX11_rest_69 rfl (by decide) rfl ?_
        refine vv_sub [(0, _), (1, _), (2, _), (3, _)] (sh_subm [1, 2, 3, 0] rfl) ?_
        exact ih_70 hG h
    · intro i1 i2 i3 μ μ' v hG h
      replace h : ((if (sh_r μ 0 7 = some (sh_ref μ 0 7) ∧ ((sh_ref μ 0 7) = 8 ∨ (sh_ref μ 0 7) = 29)) then sh_let (sh_ref μ 0 7) (fun r64 => (if (1 <<< ((sh_i μ r64 3) &&& 31)) ≤ i3 then F_X11_rest fuel 2 i1 (i2 + 1) 0 μ else sh_bind (f_J6_bitCount_0f7a4 i3 μ) (fun y68 μ66 => (if y68 = i2 then sh_bind (f_X0_isAtRest i3 μ66) (fun y72 μ70 => (if y72 = 0 then F_X11_rest fuel 3 i1 i2 (i3 + 1) μ70 else some (i3, μ70))) else F_X11_rest fuel 3 i1 i2 (i3 + 1) μ66)))) else none) : Option (Int32 × sh_Mem)) = some (v, μ') := h
      refine vv_iload_n 70 3 dX11_rest_70 rfl rfl ?_
      refine vv_iconst 71 dX11_rest_71 ik_1 ?_
      refine vv_aload_n 72 0 dX11_rest_72 rfl rfl ?_
      obtain ⟨k63, h⟩ := sh_chk h
      refine vv_getR 73 dX11_rest_73 fl_11_53 rfl (g_l_0 hG) k63.1 ?_
      refine vv_topr (fun r64 er64 => ?_)
      rw [sh_let_eq er64] at h
      have k63r : sh_r μ 0 7 = some r64 ∧ (r64 = 8 ∨ r64 = 29) := by rw [er64]; exact k63
      refine vv_getI 76 dX11_rest_76 fl_11_180 rfl (gP_l hG k63r.2) ?_
      refine vv_ishl 79 dX11_rest_79 ?_
      refine vv_icmp_ge 80 110 dX11_rest_80 (by decide) (fun c65 => ?_) (fun c65 => ?_)
      · rw [if_pos c65] at h
        refine vv_iincc (lv' := [(2, _), (0, _), (1, _), (3, _)]) 110 2 dX11_rest_110 rfl ik_1 (by decide) rfl ?_
        refine vv_goto 113 57 dX11_rest_113 (by decide) ?_
        refine vv_sub [(0, _), (1, _), (2, _)] (sh_subm [1, 2, 0] rfl) ?_
        exact ih_57 hG h
      · rw [if_neg c65] at h
        refine vv_iload_n 83 3 dX11_rest_83 rfl rfl ?_
        obtain ⟨y68, μ66, hr67, h⟩ := sh_bind_e h
        refine v1_callS [_] 84 dX11_rest_84 ck_X11_284 (t_J6_bitCount_0f7a4 hG hr67) (Nat.le_of_ble_eq_true rfl) ⟨Nat.le_of_ble_eq_true rfl, Nat.le_of_ble_eq_true rfl⟩ rfl (Nat.le_of_ble_eq_true rfl) ?_
        have hG66 := gp_J6_bitCount_0f7a4 hG hr67
        refine vv_iload_n 87 2 dX11_rest_87 rfl rfl ?_
        refine vv_icmp_ne 88 104 dX11_rest_88 (by decide) (fun c69 => ?_) (fun c69 => ?_)
        · rw [if_neg c69] at h
          refine vv_iincc (lv' := [(3, _), (0, _), (1, _), (2, _)]) 104 3 dX11_rest_104 rfl ik_1 (by decide) rfl ?_
          refine vv_goto 107 70 dX11_rest_107 (by decide) ?_
          refine vv_sub [(0, _), (1, _), (2, _), (3, _)] (sh_subm [1, 2, 3, 0] rfl) ?_
          exact ih_70 hG66 h
        · rw [if_pos c69] at h
          refine vv_aload_n 91 0 dX11_rest_91 rfl rfl ?_
          refine vv_getR 92 dX11_rest_92 fl_11_85 rfl (g_l_0 hG66) (g_r_0_11 hG66) ?_
          refine vv_iload_n 95 3 dX11_rest_95 rfl rfl ?_
          obtain ⟨y72, μ70, hr71, h⟩ := sh_bind_e h
          refine v1_callV [_] 96 dX11_rest_96 ck_X11_293 (g_l_208 hG66) ⟨by decide, rfl⟩ (t_X0_isAtRest hG66 hr71) (Nat.le_of_ble_eq_true rfl) ⟨Nat.le_of_ble_eq_true rfl, Nat.le_of_ble_eq_true rfl⟩ rfl (Nat.le_of_ble_eq_true rfl) ?_
          have hG70 := gp_X0_isAtRest hG66 hr71
          refine vv_if_eq 99 104 dX11_rest_99 (by decide) (fun c73 => ?_) (fun c73 => ?_)
          · rw [if_pos c73] at h
            refine vv_iincc (lv' := [(3, _), (0, _), (1, _), (2, _)]) 104 3 dX11_rest_104 rfl ik_1 (by decide) rfl ?_
            refine vv_goto 107 70 dX11_rest_107 (by decide) ?_
            refine vv_sub [(0, _), (1, _), (2, _), (3, _)] (sh_subm [1, 2, 3, 0] rfl) ?_
            exact ih_70 hG70 h
          · rw [if_neg c73] at h
            refine vv_iload_n 102 3 dX11_rest_102 rfl rfl ?_
            obtain ⟨e1, e2⟩ := sh_some2 h
            refine vv_iret 103 dX11_rest_103 rfl (Nat.le_refl _) (Nat.le_refl _) ⟨by rw [e1], e2⟩
theorem gp_X11_rest {a1 : Int32} {μ μ' : sh_Mem} {v : Int32} (hG : sh_G μ) (h : f_X11_rest a1 μ = some (v, μ')) : sh_G μ' := by
  have ih_15 := (gpl_X11_rest 1000000).1
  have ih_57 := (gpl_X11_rest 1000000).2.1
  have ih_70 := (gpl_X11_rest 1000000).2.2
  unfold f_X11_rest at h
  obtain ⟨y76, μ74, hr75, h⟩ := sh_bind_e h
  have hG74 := gp_X11_isAhead hG hr75
  by_cases c77 : y76 = 0
  · rw [if_pos c77] at h
    obtain ⟨e1, e2⟩ := sh_some2 h
    exact e2 ▸ hG74
  · rw [if_neg c77] at h
    exact ih_15 hG74 h
theorem t_X11_rest {a1 : Int32} {μ μ' : sh_Mem} {v : Int32} (hG : sh_G μ) (h : f_X11_rest a1 μ = some (v, μ')) : sh_C0 l B D ca 8 M_X11_rest [.ref 0, .int a1] μ (fun v0 μ0 => v0 = some (.int v) ∧ μ0 = μ') := by
  have ih_15 := (tl_X11_rest (l := l) (B := B) (D := D) (ca := ca) 1000000).1
  have ih_57 := (tl_X11_rest (l := l) (B := B) (D := D) (ca := ca) 1000000).2.1
  have ih_70 := (tl_X11_rest (l := l) (B := B) (D := D) (ca := ca) 1000000).2.2
  unfold f_X11_rest at h
  refine vv_aload_n 0 0 dX11_rest_0 rfl rfl ?_
  refine vv_iload_n 1 1 dX11_rest_1 rfl rfl ?_
  refine vv_iconst 2 dX11_rest_2 ik_1 ?_
  refine vv_bipush 3 dX11_rest_3 bk_20 ?_
  obtain ⟨y76, μ74, hr75, h⟩ := sh_bind_e h
  refine v1_callV [_, _, _] 5 dX11_rest_5 ck_X11_252 (g_l_0 hG) ⟨by decide, rfl⟩ (t_X11_isAhead hG hr75) (Nat.le_of_ble_eq_true rfl) ⟨Nat.le_of_ble_eq_true rfl, Nat.le_of_ble_eq_true rfl⟩ rfl (Nat.le_of_ble_eq_true rfl) ?_
  have hG74 := gp_X11_isAhead hG hr75
  refine vv_if_ne 8 13 dX11_rest_8 (by decide) (fun c77 => ?_) (fun c77 => ?_)
  · rw [if_neg c77] at h
    refine vv_iconst 13 dX11_rest_13 ik_0 ?_
    refine vv_istore_n (lv' := [(2, _), (0, _), (1, _)]) 14 2 dX11_rest_14 rfl (by decide) rfl ?_
    refine vv_sub [(0, _), (1, _), (2, _)] (sh_subm [1, 2, 0] rfl) ?_
    exact ih_15 hG74 h
  · rw [if_pos c77] at h
    refine vv_iconst 11 dX11_rest_11 ik_m1 ?_
    obtain ⟨e1, e2⟩ := sh_some2 h
    refine vv_iret 12 dX11_rest_12 rfl (Nat.le_refl _) (Nat.le_refl _) ⟨by rw [e1], e2⟩
def f_X11_who (a1 : Int32) (μ : sh_Mem) : Option (Int32 × sh_Mem) := sh_bind (f_X11_isTopic a1 μ) (fun y3 μ1 => (if y3 = 0 then some ((-1), μ1) else sh_bind (f_X0_whoFits 49 a1 μ1) (fun y7 μ5 => some (y7, μ5))))
theorem gp_X11_who {a1 : Int32} {μ μ' : sh_Mem} {v : Int32} (hG : sh_G μ) (h : f_X11_who a1 μ = some (v, μ')) : sh_G μ' := by
  unfold f_X11_who at h
  obtain ⟨y3, μ1, hr2, h⟩ := sh_bind_e h
  have hG1 := gp_X11_isTopic hG hr2
  by_cases c4 : y3 = 0
  · rw [if_pos c4] at h
    obtain ⟨e1, e2⟩ := sh_some2 h
    exact e2 ▸ hG1
  · rw [if_neg c4] at h
    obtain ⟨y7, μ5, hr6, h⟩ := sh_bind_e h
    have hG5 := gp_X0_whoFits hG1 sh_isL_49 hr6
    obtain ⟨e1, e2⟩ := sh_some2 h
    exact e2 ▸ hG5
theorem t_X11_who {a1 : Int32} {μ μ' : sh_Mem} {v : Int32} (hG : sh_G μ) (h : f_X11_who a1 μ = some (v, μ')) : sh_C0 l B D ca 8 M_X11_who [.ref 0, .int a1] μ (fun v0 μ0 => v0 = some (.int v) ∧ μ0 = μ') := by
  unfold f_X11_who at h
  refine vv_aload_n 0 0 dX11_who_0 rfl rfl ?_
  refine vv_iload_n 1 1 dX11_who_1 rfl rfl ?_
  obtain ⟨y3, μ1, hr2, h⟩ := sh_bind_e h
  refine v1_callV [_] 2 dX11_who_2 ck_X11_201 (g_l_0 hG) ⟨by decide, rfl⟩ (t_X11_isTopic hG hr2) (Nat.le_of_ble_eq_true rfl) ⟨Nat.le_of_ble_eq_true rfl, Nat.le_of_ble_eq_true rfl⟩ rfl (Nat.le_of_ble_eq_true rfl) ?_
  have hG1 := gp_X11_isTopic hG hr2
  refine vv_if_eq 5 23 dX11_who_5 (by decide) (fun c4 => ?_) (fun c4 => ?_)
  · rw [if_pos c4] at h
    refine vv_iconst 23 dX11_who_23 ik_m1 ?_
    obtain ⟨e1, e2⟩ := sh_some2 h
    refine vv_iret 24 dX11_who_24 rfl (Nat.le_refl _) (Nat.le_refl _) ⟨by rw [e1], e2⟩
  · rw [if_neg c4] at h
    refine vv_aload_n 8 0 dX11_who_8 rfl rfl ?_
    refine vv_getR 9 dX11_who_9 fl_11_85 rfl (g_l_0 hG1) (g_r_0_11 hG1) ?_
    refine vv_aload_n 12 0 dX11_who_12 rfl rfl ?_
    refine vv_getR 13 dX11_who_13 fl_11_60 rfl (g_l_0 hG1) (g_r_0_8 hG1) ?_
    refine vv_iload_n 16 1 dX11_who_16 rfl rfl ?_
    obtain ⟨y7, μ5, hr6, h⟩ := sh_bind_e h
    refine v1_callV [_, _] 17 dX11_who_17 ck_X11_308 (g_l_208 hG1) ⟨by decide, rfl⟩ (t_X0_whoFits hG1 sh_isL_49 hr6) (Nat.le_of_ble_eq_true rfl) ⟨Nat.le_of_ble_eq_true rfl, Nat.le_of_ble_eq_true rfl⟩ rfl (Nat.le_of_ble_eq_true rfl) ?_
    have hG5 := gp_X0_whoFits hG1 sh_isL_49 hr6
    refine vv_goto 20 24 dX11_who_20 (by decide) ?_
    obtain ⟨e1, e2⟩ := sh_some2 h
    refine vv_iret 24 dX11_who_24 rfl (Nat.le_refl _) (Nat.le_refl _) ⟨by rw [e1], e2⟩
def f_X11_tells (a1 : Int32) (a2 : Int32) (μ : sh_Mem) : Option (Int32 × sh_Mem) := sh_bind (f_X11_isTopic a1 μ) (fun y3 μ1 => (if y3 = 0 then some ((-1), μ1) else (if a2 < 0 then some ((-1), μ1) else (if a2 ≤ 2 then sh_bind (f_X0_whoFits 49 a1 μ1) (fun y9 μ7 => (if y9 = 0 then some ((-1), μ7) else sh_bindv (f_X0_findTelling 49 a1 y9 μ7) (fun μ11 => (if a2 = 0 then some ((sh_i μ11 208 6), μ11) else (if a2 = 1 then (if (sh_r μ11 0 7 = some (sh_ref μ11 0 7) ∧ ((sh_ref μ11 0 7) = 8 ∨ (sh_ref μ11 0 7) = 29)) then sh_let (sh_ref μ11 0 7) (fun r17 => sh_bind (f_X5_numberOf r17 (sh_i μ11 208 7) μ11) (fun y20 μ18 => some (y20, μ18))) else none) else some ((sh_i μ11 208 8), μ11)))))) else some ((-1), μ1)))))
theorem gp_X11_tells {a1 : Int32} {a2 : Int32} {μ μ' : sh_Mem} {v : Int32} (hG : sh_G μ) (h : f_X11_tells a1 a2 μ = some (v, μ')) : sh_G μ' := by
  unfold f_X11_tells at h
  obtain ⟨y3, μ1, hr2, h⟩ := sh_bind_e h
  have hG1 := gp_X11_isTopic hG hr2
  by_cases c4 : y3 = 0
  · rw [if_pos c4] at h
    obtain ⟨e1, e2⟩ := sh_some2 h
    exact e2 ▸ hG1
  · rw [if_neg c4] at h
    by_cases c5 : a2 < 0
    · rw [if_pos c5] at h
      obtain ⟨e1, e2⟩ := sh_some2 h
      exact e2 ▸ hG1
    · rw [if_neg c5] at h
      by_cases c6 : a2 ≤ 2
      · rw [if_pos c6] at h
        obtain ⟨y9, μ7, hr8, h⟩ := sh_bind_e h
        have hG7 := gp_X0_whoFits hG1 sh_isL_49 hr8
        by_cases c10 : y9 = 0
        · rw [if_pos c10] at h
          obtain ⟨e1, e2⟩ := sh_some2 h
          exact e2 ▸ hG7
        · rw [if_neg c10] at h
          obtain ⟨μ11, hr12, h⟩ := sh_bindv_e h
          have hG11 := gp_X0_findTelling hG7 sh_isL_49 hr12
          by_cases c14 : a2 = 0
          · rw [if_pos c14] at h
            obtain ⟨e1, e2⟩ := sh_some2 h
            exact e2 ▸ hG11
          · rw [if_neg c14] at h
            by_cases c15 : a2 = 1
            · rw [if_pos c15] at h
              obtain ⟨k16, h⟩ := sh_chk h
              obtain ⟨r17, er17⟩ : ∃ y : Nat, y = (sh_ref μ11 0 7) := ⟨_, rfl⟩
              rw [sh_let_eq er17] at h
              have k16r : sh_r μ11 0 7 = some r17 ∧ (r17 = 8 ∨ r17 = 29) := by rw [er17]; exact k16
              obtain ⟨y20, μ18, hr19, h⟩ := sh_bind_e h
              have hG18 := gp_X5_numberOf hG11 k16r.2 hr19
              obtain ⟨e1, e2⟩ := sh_some2 h
              exact e2 ▸ hG18
            · rw [if_neg c15] at h
              obtain ⟨e1, e2⟩ := sh_some2 h
              exact e2 ▸ hG11
      · rw [if_neg c6] at h
        obtain ⟨e1, e2⟩ := sh_some2 h
        exact e2 ▸ hG1
theorem t_X11_tells {a1 : Int32} {a2 : Int32} {μ μ' : sh_Mem} {v : Int32} (hG : sh_G μ) (h : f_X11_tells a1 a2 μ = some (v, μ')) : sh_C0 l B D ca 8 M_X11_tells [.ref 0, .int a1, .int a2] μ (fun v0 μ0 => v0 = some (.int v) ∧ μ0 = μ') := by
  unfold f_X11_tells at h
  refine vv_aload_n 0 0 dX11_tells_0 rfl rfl ?_
  refine vv_iload_n 1 1 dX11_tells_1 rfl rfl ?_
  obtain ⟨y3, μ1, hr2, h⟩ := sh_bind_e h
  refine v1_callV [_] 2 dX11_tells_2 ck_X11_201 (g_l_0 hG) ⟨by decide, rfl⟩ (t_X11_isTopic hG hr2) (Nat.le_of_ble_eq_true rfl) ⟨Nat.le_of_ble_eq_true rfl, Nat.le_of_ble_eq_true rfl⟩ rfl (Nat.le_of_ble_eq_true rfl) ?_
  have hG1 := gp_X11_isTopic hG hr2
  refine vv_if_eq 5 17 dX11_tells_5 (by decide) (fun c4 => ?_) (fun c4 => ?_)
  · rw [if_pos c4] at h
    refine vv_iconst 17 dX11_tells_17 ik_m1 ?_
    obtain ⟨e1, e2⟩ := sh_some2 h
    refine vv_iret 18 dX11_tells_18 rfl (Nat.le_refl _) (Nat.le_refl _) ⟨by rw [e1], e2⟩
  · rw [if_neg c4] at h
    refine vv_iload_n 8 2 dX11_tells_8 rfl rfl ?_
    refine vv_if_lt 9 17 dX11_tells_9 (by decide) (fun c5 => ?_) (fun c5 => ?_)
    · rw [if_pos c5] at h
      refine vv_iconst 17 dX11_tells_17 ik_m1 ?_
      obtain ⟨e1, e2⟩ := sh_some2 h
      refine vv_iret 18 dX11_tells_18 rfl (Nat.le_refl _) (Nat.le_refl _) ⟨by rw [e1], e2⟩
    · rw [if_neg c5] at h
      refine vv_iload_n 12 2 dX11_tells_12 rfl rfl ?_
      refine vv_iconst 13 dX11_tells_13 ik_2 ?_
      refine vv_icmp_le 14 19 dX11_tells_14 (by decide) (fun c6 => ?_) (fun c6 => ?_)
      · rw [if_pos c6] at h
        refine vv_aload_n 19 0 dX11_tells_19 rfl rfl ?_
        refine vv_getR 20 dX11_tells_20 fl_11_85 rfl (g_l_0 hG1) (g_r_0_11 hG1) ?_
        refine vv_aload_n 23 0 dX11_tells_23 rfl rfl ?_
        refine vv_getR 24 dX11_tells_24 fl_11_60 rfl (g_l_0 hG1) (g_r_0_8 hG1) ?_
        refine vv_iload_n 27 1 dX11_tells_27 rfl rfl ?_
        obtain ⟨y9, μ7, hr8, h⟩ := sh_bind_e h
        refine v1_callV [_, _] 28 dX11_tells_28 ck_X11_308 (g_l_208 hG1) ⟨by decide, rfl⟩ (t_X0_whoFits hG1 sh_isL_49 hr8) (Nat.le_of_ble_eq_true rfl) ⟨Nat.le_of_ble_eq_true rfl, Nat.le_of_ble_eq_true rfl⟩ rfl (Nat.le_of_ble_eq_true rfl) ?_
        have hG7 := gp_X0_whoFits hG1 sh_isL_49 hr8
        refine vv_istore_n (lv' := [(3, _), (0, _), (1, _), (2, _)]) 31 3 dX11_tells_31 rfl (by decide) rfl ?_
        refine vv_iload_n 32 3 dX11_tells_32 rfl rfl ?_
        refine vv_if_ne 33 38 dX11_tells_33 (by decide) (fun c10 => ?_) (fun c10 => ?_)
        · rw [if_neg c10] at h
          refine vv_aload_n 38 0 dX11_tells_38 rfl rfl ?_
          refine vv_getR 39 dX11_tells_39 fl_11_85 rfl (g_l_0 hG7) (g_r_0_11 hG7) ?_
          refine vv_aload_n 42 0 dX11_tells_42 rfl rfl ?_
          refine vv_getR 43 dX11_tells_43 fl_11_60 rfl (g_l_0 hG7) (g_r_0_8 hG7) ?_
          refine vv_iload_n 46 1 dX11_tells_46 rfl rfl ?_
          refine vv_iload_n 47 3 dX11_tells_47 rfl rfl ?_
          obtain ⟨μ11, hr12, h⟩ := sh_bindv_e h
          refine v1_callV [_, _, _] 48 dX11_tells_48 ck_X11_312 (g_l_208 hG7) ⟨by decide, rfl⟩ (t_X0_findTelling hG7 sh_isL_49 hr12) (Nat.le_of_ble_eq_true rfl) ⟨Nat.le_of_ble_eq_true rfl, Nat.le_of_ble_eq_true rfl⟩ rfl (Nat.le_of_ble_eq_true rfl) ?_
          have hG11 := gp_X0_findTelling hG7 sh_isL_49 hr12
          refine vv_iload_n 51 2 dX11_tells_51 rfl rfl ?_
          refine vv_if_ne 52 63 dX11_tells_52 (by decide) (fun c14 => ?_) (fun c14 => ?_)
          · rw [if_neg c14] at h
            refine vv_iload_n 63 2 dX11_tells_63 rfl rfl ?_
            refine vv_iconst 64 dX11_tells_64 ik_1 ?_
            refine vv_icmp_ne 65 85 dX11_tells_65 (by decide) (fun c15 => ?_) (fun c15 => ?_)
            · rw [if_neg c15] at h
              refine vv_aload_n 85 0 dX11_tells_85 rfl rfl ?_
              refine vv_getR 86 dX11_tells_86 fl_11_85 rfl (g_l_0 hG11) (g_r_0_11 hG11) ?_
              refine vv_getI 89 dX11_tells_89 fl_11_322 rfl (g_l_208 hG11) ?_
              obtain ⟨e1, e2⟩ := sh_some2 h
              refine vv_iret 92 dX11_tells_92 rfl (Nat.le_refl _) (Nat.le_refl _) ⟨by rw [e1], e2⟩
            · rw [if_pos c15] at h
              refine vv_aload_n 68 0 dX11_tells_68 rfl rfl ?_
              obtain ⟨k16, h⟩ := sh_chk h
              refine vv_getR 69 dX11_tells_69 fl_11_53 rfl (g_l_0 hG11) k16.1 ?_
              refine vv_topr (fun r17 er17 => ?_)
              rw [sh_let_eq er17] at h
              have k16r : sh_r μ11 0 7 = some r17 ∧ (r17 = 8 ∨ r17 = 29) := by rw [er17]; exact k16
              refine vv_aload_n 72 0 dX11_tells_72 rfl rfl ?_
              refine vv_getR 73 dX11_tells_73 fl_11_85 rfl (g_l_0 hG11) (g_r_0_11 hG11) ?_
              refine vv_getI 76 dX11_tells_76 fl_11_319 rfl (g_l_208 hG11) ?_
              obtain ⟨y20, μ18, hr19, h⟩ := sh_bind_e h
              refine v1_callV [_] 79 dX11_tells_79 ck_X11_281 (gP_l hG11 k16r.2) ⟨by decide, rfl⟩ (t_X5_numberOf hG11 k16r.2 hr19) (Nat.le_of_ble_eq_true rfl) ⟨Nat.le_of_ble_eq_true rfl, Nat.le_of_ble_eq_true rfl⟩ rfl (Nat.le_of_ble_eq_true rfl) ?_
              have hG18 := gp_X5_numberOf hG11 k16r.2 hr19
              refine vv_goto 82 92 dX11_tells_82 (by decide) ?_
              obtain ⟨e1, e2⟩ := sh_some2 h
              refine vv_iret 92 dX11_tells_92 rfl (Nat.le_refl _) (Nat.le_refl _) ⟨by rw [e1], e2⟩
          · rw [if_pos c14] at h
            refine vv_aload_n 55 0 dX11_tells_55 rfl rfl ?_
            refine vv_getR 56 dX11_tells_56 fl_11_85 rfl (g_l_0 hG11) (g_r_0_11 hG11) ?_
            refine vv_getI 59 dX11_tells_59 fl_11_316 rfl (g_l_208 hG11) ?_
            obtain ⟨e1, e2⟩ := sh_some2 h
            refine vv_iret 62 dX11_tells_62 rfl (Nat.le_refl _) (Nat.le_refl _) ⟨by rw [e1], e2⟩
        · rw [if_pos c10] at h
          refine vv_iconst 36 dX11_tells_36 ik_m1 ?_
          obtain ⟨e1, e2⟩ := sh_some2 h
          refine vv_iret 37 dX11_tells_37 rfl (Nat.le_refl _) (Nat.le_refl _) ⟨by rw [e1], e2⟩
      · rw [if_neg c6] at h
        refine vv_iconst 17 dX11_tells_17 ik_m1 ?_
        obtain ⟨e1, e2⟩ := sh_some2 h
        refine vv_iret 18 dX11_tells_18 rfl (Nat.le_refl _) (Nat.le_refl _) ⟨by rw [e1], e2⟩
def f_X11_asks (a1 : Int32) (a2 : Int32) (μ : sh_Mem) : Option (Int32 × sh_Mem) := sh_bind (f_X11_isPerson a1 μ) (fun y3 μ1 => (if y3 = 0 then sh_bind (f_X11_refuseNumber 2 μ1) (fun y7 μ5 => some (y7, μ5)) else sh_bind (f_X11_isTopic a2 μ1) (fun y10 μ8 => (if y10 = 0 then sh_bind (f_X11_refuseNumber 2 μ8) (fun y20 μ18 => some (y20, μ18)) else sh_bindv (f_X4_remember 49 μ8) (fun μ12 => sh_bind (f_X11_askNow a1 a2 μ12) (fun y17 μ15 => some (y17, μ15)))))))
theorem gp_X11_asks {a1 : Int32} {a2 : Int32} {μ μ' : sh_Mem} {v : Int32} (hG : sh_G μ) (h : f_X11_asks a1 a2 μ = some (v, μ')) : sh_G μ' := by
  unfold f_X11_asks at h
  obtain ⟨y3, μ1, hr2, h⟩ := sh_bind_e h
  have hG1 := gp_X11_isPerson hG hr2
  by_cases c4 : y3 = 0
  · rw [if_pos c4] at h
    obtain ⟨y7, μ5, hr6, h⟩ := sh_bind_e h
    have hG5 := gp_X11_refuseNumber hG1 hr6
    obtain ⟨e1, e2⟩ := sh_some2 h
    exact e2 ▸ hG5
  · rw [if_neg c4] at h
    obtain ⟨y10, μ8, hr9, h⟩ := sh_bind_e h
    have hG8 := gp_X11_isTopic hG1 hr9
    by_cases c11 : y10 = 0
    · rw [if_pos c11] at h
      obtain ⟨y20, μ18, hr19, h⟩ := sh_bind_e h
      have hG18 := gp_X11_refuseNumber hG8 hr19
      obtain ⟨e1, e2⟩ := sh_some2 h
      exact e2 ▸ hG18
    · rw [if_neg c11] at h
      obtain ⟨μ12, hr13, h⟩ := sh_bindv_e h
      have hG12 := gp_X4_remember hG8 sh_isL_49 hr13
      obtain ⟨y17, μ15, hr16, h⟩ := sh_bind_e h
      have hG15 := gp_X11_askNow hG12 hr16
      obtain ⟨e1, e2⟩ := sh_some2 h
      exact e2 ▸ hG15
theorem t_X11_asks {a1 : Int32} {a2 : Int32} {μ μ' : sh_Mem} {v : Int32} (hG : sh_G μ) (h : f_X11_asks a1 a2 μ = some (v, μ')) : sh_C0 l B D ca 7 M_X11_asks [.ref 0, .int a1, .int a2] μ (fun v0 μ0 => v0 = some (.int v) ∧ μ0 = μ') := by
  unfold f_X11_asks at h
  refine vv_aload_n 0 0 dX11_asks_0 rfl rfl ?_
  refine vv_iload_n 1 1 dX11_asks_1 rfl rfl ?_
  obtain ⟨y3, μ1, hr2, h⟩ := sh_bind_e h
  refine v1_callV [_] 2 dX11_asks_2 ck_X11_211 (g_l_0 hG) ⟨by decide, rfl⟩ (t_X11_isPerson hG hr2) (Nat.le_of_ble_eq_true rfl) ⟨Nat.le_of_ble_eq_true rfl, Nat.le_of_ble_eq_true rfl⟩ rfl (Nat.le_of_ble_eq_true rfl) ?_
  have hG1 := gp_X11_isPerson hG hr2
  refine vv_if_eq 5 16 dX11_asks_5 (by decide) (fun c4 => ?_) (fun c4 => ?_)
  · rw [if_pos c4] at h
    refine vv_aload_n 16 0 dX11_asks_16 rfl rfl ?_
    refine vv_iconst 17 dX11_asks_17 ik_2 ?_
    obtain ⟨y7, μ5, hr6, h⟩ := sh_bind_e h
    refine v1_callV [_] 18 dX11_asks_18 ck_X11_120 (g_l_0 hG1) ⟨by decide, rfl⟩ (t_X11_refuseNumber hG1 hr6) (Nat.le_of_ble_eq_true rfl) ⟨Nat.le_of_ble_eq_true rfl, Nat.le_of_ble_eq_true rfl⟩ rfl (Nat.le_of_ble_eq_true rfl) ?_
    have hG5 := gp_X11_refuseNumber hG1 hr6
    obtain ⟨e1, e2⟩ := sh_some2 h
    refine vv_iret 21 dX11_asks_21 rfl (Nat.le_refl _) (Nat.le_refl _) ⟨by rw [e1], e2⟩
  · rw [if_neg c4] at h
    refine vv_aload_n 8 0 dX11_asks_8 rfl rfl ?_
    refine vv_iload_n 9 2 dX11_asks_9 rfl rfl ?_
    obtain ⟨y10, μ8, hr9, h⟩ := sh_bind_e h
    refine v1_callV [_] 10 dX11_asks_10 ck_X11_201 (g_l_0 hG1) ⟨by decide, rfl⟩ (t_X11_isTopic hG1 hr9) (Nat.le_of_ble_eq_true rfl) ⟨Nat.le_of_ble_eq_true rfl, Nat.le_of_ble_eq_true rfl⟩ rfl (Nat.le_of_ble_eq_true rfl) ?_
    have hG8 := gp_X11_isTopic hG1 hr9
    refine vv_if_ne 13 22 dX11_asks_13 (by decide) (fun c11 => ?_) (fun c11 => ?_)
    · rw [if_neg c11] at h
      refine vv_aload_n 22 0 dX11_asks_22 rfl rfl ?_
      refine vv_getR 23 dX11_asks_23 fl_11_76 rfl (g_l_0 hG8) (g_r_0_10 hG8) ?_
      refine vv_aload_n 26 0 dX11_asks_26 rfl rfl ?_
      refine vv_getR 27 dX11_asks_27 fl_11_60 rfl (g_l_0 hG8) (g_r_0_8 hG8) ?_
      obtain ⟨μ12, hr13, h⟩ := sh_bindv_e h
      refine v1_callV [_] 30 dX11_asks_30 ck_X11_325 (g_l_63 hG8) ⟨by decide, rfl⟩ (t_X4_remember hG8 sh_isL_49 hr13) (Nat.le_of_ble_eq_true rfl) ⟨Nat.le_of_ble_eq_true rfl, Nat.le_of_ble_eq_true rfl⟩ rfl (Nat.le_of_ble_eq_true rfl) ?_
      have hG12 := gp_X4_remember hG8 sh_isL_49 hr13
      refine vv_aload_n 33 0 dX11_asks_33 rfl rfl ?_
      refine vv_iload_n 34 1 dX11_asks_34 rfl rfl ?_
      refine vv_iload_n 35 2 dX11_asks_35 rfl rfl ?_
      obtain ⟨y17, μ15, hr16, h⟩ := sh_bind_e h
      refine v1_callV [_, _] 36 dX11_asks_36 ck_X11_328 (g_l_0 hG12) ⟨by decide, rfl⟩ (t_X11_askNow hG12 hr16) (Nat.le_of_ble_eq_true rfl) ⟨Nat.le_of_ble_eq_true rfl, Nat.le_of_ble_eq_true rfl⟩ rfl (Nat.le_of_ble_eq_true rfl) ?_
      have hG15 := gp_X11_askNow hG12 hr16
      obtain ⟨e1, e2⟩ := sh_some2 h
      refine vv_iret 39 dX11_asks_39 rfl (Nat.le_refl _) (Nat.le_refl _) ⟨by rw [e1], e2⟩
    · rw [if_pos c11] at h
      refine vv_aload_n 16 0 dX11_asks_16 rfl rfl ?_
      refine vv_iconst 17 dX11_asks_17 ik_2 ?_
      obtain ⟨y20, μ18, hr19, h⟩ := sh_bind_e h
      refine v1_callV [_] 18 dX11_asks_18 ck_X11_120 (g_l_0 hG8) ⟨by decide, rfl⟩ (t_X11_refuseNumber hG8 hr19) (Nat.le_of_ble_eq_true rfl) ⟨Nat.le_of_ble_eq_true rfl, Nat.le_of_ble_eq_true rfl⟩ rfl (Nat.le_of_ble_eq_true rfl) ?_
      have hG18 := gp_X11_refuseNumber hG8 hr19
      obtain ⟨e1, e2⟩ := sh_some2 h
      refine vv_iret 21 dX11_asks_21 rfl (Nat.le_refl _) (Nat.le_refl _) ⟨by rw [e1], e2⟩
def F_X11_days : Nat → Nat → Int32 → Int32 → Int32 → sh_Mem → Option (Int32 × sh_Mem)
  | 0, _, _, _, _, _ => none
  | fuel + 1, lbl, i1, i2, i3, μ => match lbl with
    | 1 => (if i1 ≤ i3 then some (i2, μ) else sh_bind (f_X11_dayNow μ) (fun y19 μ17 => sh_let ((i2 + y19) : Int32) (fun x20 => F_X11_days fuel 1 i1 x20 (i3 + 1) μ17)))
    | _ => none
def f_X11_days (a1 : Int32) (μ : sh_Mem) : Option (Int32 × sh_Mem) := sh_bind (f_X11_isAhead a1 1 100 μ) (fun y23 μ21 => (if y23 = 0 then sh_bind (f_X11_refuseNumber 3 μ21) (fun y30 μ28 => some (y30, μ28)) else sh_bindv (f_X4_remember 49 μ21) (fun μ25 => F_X11_days 1000000 1 a1 0 0 μ25)))
theorem gpl_X11_days (fuel : Nat) : (∀ ⦃i1 : Int32⦄ ⦃i2 : Int32⦄ ⦃i3 : Int32⦄ ⦃μ μ' : sh_Mem⦄ ⦃v : Int32⦄, sh_G μ → F_X11_days fuel 1 i1 i2 i3 μ = some (v, μ') → sh_G μ') := by
  induction fuel with
  | zero => intro i1 i2 i3 μ μ' v hG h; cases h
  | succ fuel ih =>
    have ih_32 := ih
    intro i1 i2 i3 μ μ' v hG h
    replace h : ((if i1 ≤ i3 then some (i2, μ) else sh_bind (f_X11_dayNow μ) (fun y19 μ17 => sh_let ((i2 + y19) : Int32) (fun x20 => F_X11_days fuel 1 i1 x20 (i3 + 1) μ17))) : Option (Int32 × sh_Mem)) = some (v, μ') := h
    by_cases c16 : i1 ≤ i3
    · rw [if_pos c16] at h
      obtain ⟨e1, e2⟩ := sh_some2 h
      exact e2 ▸ hG
    · rw [if_neg c16] at h
      obtain ⟨y19, μ17, hr18, h⟩ := sh_bind_e h
      have hG17 := gp_X11_dayNow hG hr18
      obtain ⟨x20, ex20⟩ : ∃ y : Int32, y = (i2 + y19) := ⟨_, rfl⟩
      rw [sh_let_eq ex20] at h
      exact ih_32 hG17 h
theorem tl_X11_days (fuel : Nat) : (∀ ⦃i1 : Int32⦄ ⦃i2 : Int32⦄ ⦃i3 : Int32⦄ ⦃μ μ' : sh_Mem⦄ ⦃v : Int32⦄, sh_G μ → F_X11_days fuel 1 i1 i2 i3 μ = some (v, μ') → sh_V0 l B D ca 8 M_X11_days 32 [(0, .ref 0), (1, .int i1), (2, .int i2), (3, .int i3)] [] μ (fun v0 μ0 => v0 = some (.int v) ∧ μ0 = μ')) := by
  induction fuel with
  | zero => intro i1 i2 i3 μ μ' v hG h; cases h
  | succ fuel ih =>
    have ih_32 := ih
    intro i1 i2 i3 μ μ' v hG h
    replace h : ((if i1 ≤ i3 then some (i2, μ) else sh_bind (f_X11_dayNow μ) (fun y19 μ17 => sh_let ((i2 + y19) : Int32) (fun x20 => F_X11_days fuel 1 i1 x20 (i3 + 1) μ17))) : Option (Int32 × sh_Mem)) = some (v, μ') := h
    refine vv_iload_n 32 3 dX11_days_32 rfl rfl ?_
    refine vv_iload_n 33 1 dX11_days_33 rfl rfl ?_
    refine vv_icmp_ge 34 50 dX11_days_34 (by decide) (fun c16 => ?_) (fun c16 => ?_)
    · rw [if_pos c16] at h
      refine vv_iload_n 50 2 dX11_days_50 rfl rfl ?_
      obtain ⟨e1, e2⟩ := sh_some2 h
      refine vv_iret 51 dX11_days_51 rfl (Nat.le_refl _) (Nat.le_refl _) ⟨by rw [e1], e2⟩
    · rw [if_neg c16] at h
      refine vv_iload_n 37 2 dX11_days_37 rfl rfl ?_
      refine vv_aload_n 38 0 dX11_days_38 rfl rfl ?_
      obtain ⟨y19, μ17, hr18, h⟩ := sh_bind_e h
      refine v1_callV [] 39 dX11_days_39 ck_X11_344 (g_l_0 hG) ⟨by decide, rfl⟩ (t_X11_dayNow hG hr18) (Nat.le_of_ble_eq_true rfl) ⟨Nat.le_of_ble_eq_true rfl, Nat.le_of_ble_eq_true rfl⟩ rfl (Nat.le_of_ble_eq_true rfl) ?_
      have hG17 := gp_X11_dayNow hG hr18
      refine vv_iadd 42 dX11_days_42 ?_
      refine vv_topi (fun x20 ex20 => ?_)
      rw [sh_let_eq ex20] at h
      refine vv_istore_n (lv' := [(2, _), (0, _), (1, _), (3, _)]) 43 2 dX11_days_43 rfl (by decide) rfl ?_
      refine vv_iincc (lv' := [(3, _), (2, _), (0, _), (1, _)]) 44 3 dX11_days_44 rfl ik_1 (by decide) rfl ?_
      refine vv_goto 47 32 dX11_days_47 (by decide) ?_
      refine vv_sub [(0, _), (1, _), (2, _), (3, _)] (sh_subm [2, 3, 1, 0] rfl) ?_
      exact ih_32 hG17 h
theorem gp_X11_days {a1 : Int32} {μ μ' : sh_Mem} {v : Int32} (hG : sh_G μ) (h : f_X11_days a1 μ = some (v, μ')) : sh_G μ' := by
  have ih_32 := (gpl_X11_days 1000000)
  unfold f_X11_days at h
  obtain ⟨y23, μ21, hr22, h⟩ := sh_bind_e h
  have hG21 := gp_X11_isAhead hG hr22
  by_cases c24 : y23 = 0
  · rw [if_pos c24] at h
    obtain ⟨y30, μ28, hr29, h⟩ := sh_bind_e h
    have hG28 := gp_X11_refuseNumber hG21 hr29
    obtain ⟨e1, e2⟩ := sh_some2 h
    exact e2 ▸ hG28
  · rw [if_neg c24] at h
    obtain ⟨μ25, hr26, h⟩ := sh_bindv_e h
    have hG25 := gp_X4_remember hG21 sh_isL_49 hr26
    exact ih_32 hG25 h
theorem t_X11_days {a1 : Int32} {μ μ' : sh_Mem} {v : Int32} (hG : sh_G μ) (h : f_X11_days a1 μ = some (v, μ')) : sh_C0 l B D ca 8 M_X11_days [.ref 0, .int a1] μ (fun v0 μ0 => v0 = some (.int v) ∧ μ0 = μ') := by
  have ih_32 := (tl_X11_days (l := l) (B := B) (D := D) (ca := ca) 1000000)
  unfold f_X11_days at h
  refine vv_aload_n 0 0 dX11_days_0 rfl rfl ?_
  refine vv_iload_n 1 1 dX11_days_1 rfl rfl ?_
  refine vv_iconst 2 dX11_days_2 ik_1 ?_
  refine vv_bipush 3 dX11_days_3 bk_100 ?_
  obtain ⟨y23, μ21, hr22, h⟩ := sh_bind_e h
  refine v1_callV [_, _, _] 5 dX11_days_5 ck_X11_252 (g_l_0 hG) ⟨by decide, rfl⟩ (t_X11_isAhead hG hr22) (Nat.le_of_ble_eq_true rfl) ⟨Nat.le_of_ble_eq_true rfl, Nat.le_of_ble_eq_true rfl⟩ rfl (Nat.le_of_ble_eq_true rfl) ?_
  have hG21 := gp_X11_isAhead hG hr22
  refine vv_if_ne 8 17 dX11_days_8 (by decide) (fun c24 => ?_) (fun c24 => ?_)
  · rw [if_neg c24] at h
    refine vv_aload_n 17 0 dX11_days_17 rfl rfl ?_
    refine vv_getR 18 dX11_days_18 fl_11_76 rfl (g_l_0 hG21) (g_r_0_10 hG21) ?_
    refine vv_aload_n 21 0 dX11_days_21 rfl rfl ?_
    refine vv_getR 22 dX11_days_22 fl_11_60 rfl (g_l_0 hG21) (g_r_0_8 hG21) ?_
    obtain ⟨μ25, hr26, h⟩ := sh_bindv_e h
    refine v1_callV [_] 25 dX11_days_25 ck_X11_325 (g_l_63 hG21) ⟨by decide, rfl⟩ (t_X4_remember hG21 sh_isL_49 hr26) (Nat.le_of_ble_eq_true rfl) ⟨Nat.le_of_ble_eq_true rfl, Nat.le_of_ble_eq_true rfl⟩ rfl (Nat.le_of_ble_eq_true rfl) ?_
    have hG25 := gp_X4_remember hG21 sh_isL_49 hr26
    refine vv_iconst 28 dX11_days_28 ik_0 ?_
    refine vv_istore_n (lv' := [(2, _), (0, _), (1, _)]) 29 2 dX11_days_29 rfl (by decide) rfl ?_
    refine vv_iconst 30 dX11_days_30 ik_0 ?_
    refine vv_istore_n (lv' := [(3, _), (2, _), (0, _), (1, _)]) 31 3 dX11_days_31 rfl (by decide) rfl ?_
    refine vv_sub [(0, _), (1, _), (2, _), (3, _)] (sh_subm [2, 3, 1, 0] rfl) ?_
    exact ih_32 hG25 h
  · rw [if_pos c24] at h
    refine vv_aload_n 11 0 dX11_days_11 rfl rfl ?_
    refine vv_iconst 12 dX11_days_12 ik_3 ?_
    obtain ⟨y30, μ28, hr29, h⟩ := sh_bind_e h
    refine v1_callV [_] 13 dX11_days_13 ck_X11_120 (g_l_0 hG21) ⟨by decide, rfl⟩ (t_X11_refuseNumber hG21 hr29) (Nat.le_of_ble_eq_true rfl) ⟨Nat.le_of_ble_eq_true rfl, Nat.le_of_ble_eq_true rfl⟩ rfl (Nat.le_of_ble_eq_true rfl) ?_
    have hG28 := gp_X11_refuseNumber hG21 hr29
    obtain ⟨e1, e2⟩ := sh_some2 h
    refine vv_iret 16 dX11_days_16 rfl (Nat.le_refl _) (Nat.le_refl _) ⟨by rw [e1], e2⟩
def F_X11_chance : Nat → Nat → Int32 → Int32 → Int32 → sh_Mem → Option (Int32 × sh_Mem)
  | 0, _, _, _, _, _ => none
  | fuel + 1, lbl, i1, i2, i3, μ => match lbl with
    | 1 => (if i1 ≤ i3 then some (i2, μ) else sh_bind (f_X11_crowdNow μ) (fun y22 μ20 => sh_let ((i2 + y22) : Int32) (fun x23 => sh_bind (f_X11_dayNow μ20) (fun y26 μ24 => F_X11_chance fuel 1 i1 x23 (i3 + 1) μ24))))
    | _ => none
def f_X11_chance (a1 : Int32) (μ : sh_Mem) : Option (Int32 × sh_Mem) := sh_bind (f_X11_isAhead a1 1 100 μ) (fun y29 μ27 => (if y29 = 0 then sh_bind (f_X11_refuseNumber 3 μ27) (fun y36 μ34 => some (y36, μ34)) else sh_bindv (f_X4_remember 49 μ27) (fun μ31 => F_X11_chance 1000000 1 a1 0 0 μ31)))
theorem gpl_X11_chance (fuel : Nat) : (∀ ⦃i1 : Int32⦄ ⦃i2 : Int32⦄ ⦃i3 : Int32⦄ ⦃μ μ' : sh_Mem⦄ ⦃v : Int32⦄, sh_G μ → F_X11_chance fuel 1 i1 i2 i3 μ = some (v, μ') → sh_G μ') := by
  induction fuel with
  | zero => intro i1 i2 i3 μ μ' v hG h; cases h
  | succ fuel ih =>
    have ih_32 := ih
    intro i1 i2 i3 μ μ' v hG h
    replace h : ((if i1 ≤ i3 then some (i2, μ) else sh_bind (f_X11_crowdNow μ) (fun y22 μ20 => sh_let ((i2 + y22) : Int32) (fun x23 => sh_bind (f_X11_dayNow μ20) (fun y26 μ24 => F_X11_chance fuel 1 i1 x23 (i3 + 1) μ24)))) : Option (Int32 × sh_Mem)) = some (v, μ') := h
    by_cases c19 : i1 ≤ i3
    · rw [if_pos c19] at h
      obtain ⟨e1, e2⟩ := sh_some2 h
      exact e2 ▸ hG
    · rw [if_neg c19] at h
      obtain ⟨y22, μ20, hr21, h⟩ := sh_bind_e h
      have hG20 := gp_X11_crowdNow hG hr21
      obtain ⟨x23, ex23⟩ : ∃ y : Int32, y = (i2 + y22) := ⟨_, rfl⟩
      rw [sh_let_eq ex23] at h
      obtain ⟨y26, μ24, hr25, h⟩ := sh_bind_e h
      have hG24 := gp_X11_dayNow hG20 hr25
      exact ih_32 hG24 h
theorem tl_X11_chance (fuel : Nat) : (∀ ⦃i1 : Int32⦄ ⦃i2 : Int32⦄ ⦃i3 : Int32⦄ ⦃μ μ' : sh_Mem⦄ ⦃v : Int32⦄, sh_G μ → F_X11_chance fuel 1 i1 i2 i3 μ = some (v, μ') → sh_V0 l B D ca 8 M_X11_chance 32 [(0, .ref 0), (1, .int i1), (2, .int i2), (3, .int i3)] [] μ (fun v0 μ0 => v0 = some (.int v) ∧ μ0 = μ')) := by
  induction fuel with
  | zero => intro i1 i2 i3 μ μ' v hG h; cases h
  | succ fuel ih =>
    have ih_32 := ih
    intro i1 i2 i3 μ μ' v hG h
    replace h : ((if i1 ≤ i3 then some (i2, μ) else sh_bind (f_X11_crowdNow μ) (fun y22 μ20 => sh_let ((i2 + y22) : Int32) (fun x23 => sh_bind (f_X11_dayNow μ20) (fun y26 μ24 => F_X11_chance fuel 1 i1 x23 (i3 + 1) μ24)))) : Option (Int32 × sh_Mem)) = some (v, μ') := h
    refine vv_iload_n 32 3 dX11_chance_32 rfl rfl ?_
    refine vv_iload_n 33 1 dX11_chance_33 rfl rfl ?_
    refine vv_icmp_ge 34 55 dX11_chance_34 (by decide) (fun c19 => ?_) (fun c19 => ?_)
    · rw [if_pos c19] at h
      refine vv_iload_n 55 2 dX11_chance_55 rfl rfl ?_
      obtain ⟨e1, e2⟩ := sh_some2 h
      refine vv_iret 56 dX11_chance_56 rfl (Nat.le_refl _) (Nat.le_refl _) ⟨by rw [e1], e2⟩
    · rw [if_neg c19] at h
      refine vv_iload_n 37 2 dX11_chance_37 rfl rfl ?_
      refine vv_aload_n 38 0 dX11_chance_38 rfl rfl ?_
      obtain ⟨y22, μ20, hr21, h⟩ := sh_bind_e h
      refine v1_callV [] 39 dX11_chance_39 ck_X11_350 (g_l_0 hG) ⟨by decide, rfl⟩ (t_X11_crowdNow hG hr21) (Nat.le_of_ble_eq_true rfl) ⟨Nat.le_of_ble_eq_true rfl, Nat.le_of_ble_eq_true rfl⟩ rfl (Nat.le_of_ble_eq_true rfl) ?_
      have hG20 := gp_X11_crowdNow hG hr21
      refine vv_iadd 42 dX11_chance_42 ?_
      refine vv_topi (fun x23 ex23 => ?_)
      rw [sh_let_eq ex23] at h
      refine vv_istore_n (lv' := [(2, _), (0, _), (1, _), (3, _)]) 43 2 dX11_chance_43 rfl (by decide) rfl ?_
      refine vv_aload_n 44 0 dX11_chance_44 rfl rfl ?_
      obtain ⟨y26, μ24, hr25, h⟩ := sh_bind_e h
      refine v1_callV [] 45 dX11_chance_45 ck_X11_344 (g_l_0 hG20) ⟨by decide, rfl⟩ (t_X11_dayNow hG20 hr25) (Nat.le_of_ble_eq_true rfl) ⟨Nat.le_of_ble_eq_true rfl, Nat.le_of_ble_eq_true rfl⟩ rfl (Nat.le_of_ble_eq_true rfl) ?_
      have hG24 := gp_X11_dayNow hG20 hr25
      refine vv_pop 48 dX11_chance_48 ?_
      refine vv_iincc (lv' := [(3, _), (2, _), (0, _), (1, _)]) 49 3 dX11_chance_49 rfl ik_1 (by decide) rfl ?_
      refine vv_goto 52 32 dX11_chance_52 (by decide) ?_
      refine vv_sub [(0, _), (1, _), (2, _), (3, _)] (sh_subm [2, 3, 1, 0] rfl) ?_
      exact ih_32 hG24 h
theorem gp_X11_chance {a1 : Int32} {μ μ' : sh_Mem} {v : Int32} (hG : sh_G μ) (h : f_X11_chance a1 μ = some (v, μ')) : sh_G μ' := by
  have ih_32 := (gpl_X11_chance 1000000)
  unfold f_X11_chance at h
  obtain ⟨y29, μ27, hr28, h⟩ := sh_bind_e h
  have hG27 := gp_X11_isAhead hG hr28
  by_cases c30 : y29 = 0
  · rw [if_pos c30] at h
    obtain ⟨y36, μ34, hr35, h⟩ := sh_bind_e h
    have hG34 := gp_X11_refuseNumber hG27 hr35
    obtain ⟨e1, e2⟩ := sh_some2 h
    exact e2 ▸ hG34
  · rw [if_neg c30] at h
    obtain ⟨μ31, hr32, h⟩ := sh_bindv_e h
    have hG31 := gp_X4_remember hG27 sh_isL_49 hr32
    exact ih_32 hG31 h
theorem t_X11_chance {a1 : Int32} {μ μ' : sh_Mem} {v : Int32} (hG : sh_G μ) (h : f_X11_chance a1 μ = some (v, μ')) : sh_C0 l B D ca 8 M_X11_chance [.ref 0, .int a1] μ (fun v0 μ0 => v0 = some (.int v) ∧ μ0 = μ') := by
  have ih_32 := (tl_X11_chance (l := l) (B := B) (D := D) (ca := ca) 1000000)
  unfold f_X11_chance at h
  refine vv_aload_n 0 0 dX11_chance_0 rfl rfl ?_
  refine vv_iload_n 1 1 dX11_chance_1 rfl rfl ?_
  refine vv_iconst 2 dX11_chance_2 ik_1 ?_
  refine vv_bipush 3 dX11_chance_3 bk_100 ?_
  obtain ⟨y29, μ27, hr28, h⟩ := sh_bind_e h
  refine v1_callV [_, _, _] 5 dX11_chance_5 ck_X11_252 (g_l_0 hG) ⟨by decide, rfl⟩ (t_X11_isAhead hG hr28) (Nat.le_of_ble_eq_true rfl) ⟨Nat.le_of_ble_eq_true rfl, Nat.le_of_ble_eq_true rfl⟩ rfl (Nat.le_of_ble_eq_true rfl) ?_
  have hG27 := gp_X11_isAhead hG hr28
  refine vv_if_ne 8 17 dX11_chance_8 (by decide) (fun c30 => ?_) (fun c30 => ?_)
  · rw [if_neg c30] at h
    refine vv_aload_n 17 0 dX11_chance_17 rfl rfl ?_
    refine vv_getR 18 dX11_chance_18 fl_11_76 rfl (g_l_0 hG27) (g_r_0_10 hG27) ?_
    refine vv_aload_n 21 0 dX11_chance_21 rfl rfl ?_
    refine vv_getR 22 dX11_chance_22 fl_11_60 rfl (g_l_0 hG27) (g_r_0_8 hG27) ?_
    obtain ⟨μ31, hr32, h⟩ := sh_bindv_e h
    refine v1_callV [_] 25 dX11_chance_25 ck_X11_325 (g_l_63 hG27) ⟨by decide, rfl⟩ (t_X4_remember hG27 sh_isL_49 hr32) (Nat.le_of_ble_eq_true rfl) ⟨Nat.le_of_ble_eq_true rfl, Nat.le_of_ble_eq_true rfl⟩ rfl (Nat.le_of_ble_eq_true rfl) ?_
    have hG31 := gp_X4_remember hG27 sh_isL_49 hr32
    refine vv_iconst 28 dX11_chance_28 ik_0 ?_
    refine vv_istore_n (lv' := [(2, _), (0, _), (1, _)]) 29 2 dX11_chance_29 rfl (by decide) rfl ?_
    refine vv_iconst 30 dX11_chance_30 ik_0 ?_
    refine vv_istore_n (lv' := [(3, _), (2, _), (0, _), (1, _)]) 31 3 dX11_chance_31 rfl (by decide) rfl ?_
    refine vv_sub [(0, _), (1, _), (2, _), (3, _)] (sh_subm [2, 3, 1, 0] rfl) ?_
    exact ih_32 hG31 h
  · rw [if_pos c30] at h
    refine vv_aload_n 11 0 dX11_chance_11 rfl rfl ?_
    refine vv_iconst 12 dX11_chance_12 ik_3 ?_
    obtain ⟨y36, μ34, hr35, h⟩ := sh_bind_e h
    refine v1_callV [_] 13 dX11_chance_13 ck_X11_120 (g_l_0 hG27) ⟨by decide, rfl⟩ (t_X11_refuseNumber hG27 hr35) (Nat.le_of_ble_eq_true rfl) ⟨Nat.le_of_ble_eq_true rfl, Nat.le_of_ble_eq_true rfl⟩ rfl (Nat.le_of_ble_eq_true rfl) ?_
    have hG34 := gp_X11_refuseNumber hG27 hr35
    obtain ⟨e1, e2⟩ := sh_some2 h
    refine vv_iret 16 dX11_chance_16 rfl (Nat.le_refl _) (Nat.le_refl _) ⟨by rw [e1], e2⟩
def F_X11_answer : Nat → Nat → Int32 → Int32 → Int64 → Int32 → sh_Mem → Option (Int64 × sh_Mem)
  | 0, _, _, _, _, _, _ => none
  | fuel + 1, lbl, i1, i2, l3, i5, μ => match lbl with
    | 1 => (if (sh_r μ 0 7 = some (sh_ref μ 0 7) ∧ ((sh_ref μ 0 7) = 8 ∨ (sh_ref μ 0 7) = 29)) then sh_let (sh_ref μ 0 7) (fun r19 => (if (sh_i μ r19 3) ≤ i5 then some (l3, μ) else sh_bindv (f_X10_describe 49 i5 28 i2 μ) (fun μ21 => sh_bind (f_X1_value 3 28 μ21) (fun y26 μ24 => sh_bind (f_X11_joined i1 l3 i5 y26 μ24) (fun y29 μ27 => F_X11_answer fuel 1 i1 i2 y29 (i5 + 1) μ27))))) else none)
    | _ => none
def f_X11_answer (a1 : Int32) (μ : sh_Mem) : Option (Int64 × sh_Mem) := sh_bind (f_X1_names 3 10 μ) (fun y32 μ30 => (if a1 = 27 then F_X11_answer 1000000 1 a1 y32 (-1) 0 μ30 else (if a1 = 28 then F_X11_answer 1000000 1 a1 y32 (-1) 0 μ30 else F_X11_answer 1000000 1 a1 y32 0 0 μ30)))
theorem gpl_X11_answer (fuel : Nat) : (∀ ⦃i1 : Int32⦄ ⦃i2 : Int32⦄ ⦃l3 : Int64⦄ ⦃i5 : Int32⦄ ⦃μ μ' : sh_Mem⦄ ⦃v : Int64⦄, sh_G μ → F_X11_answer fuel 1 i1 i2 l3 i5 μ = some (v, μ') → sh_G μ') := by
  induction fuel with
  | zero => intro i1 i2 l3 i5 μ μ' v hG h; cases h
  | succ fuel ih =>
    have ih_33 := ih
    intro i1 i2 l3 i5 μ μ' v hG h
    replace h : ((if (sh_r μ 0 7 = some (sh_ref μ 0 7) ∧ ((sh_ref μ 0 7) = 8 ∨ (sh_ref μ 0 7) = 29)) then sh_let (sh_ref μ 0 7) (fun r19 => (if (sh_i μ r19 3) ≤ i5 then some (l3, μ) else sh_bindv (f_X10_describe 49 i5 28 i2 μ) (fun μ21 => sh_bind (f_X1_value 3 28 μ21) (fun y26 μ24 => sh_bind (f_X11_joined i1 l3 i5 y26 μ24) (fun y29 μ27 => F_X11_answer fuel 1 i1 i2 y29 (i5 + 1) μ27))))) else none) : Option (Int64 × sh_Mem)) = some (v, μ') := h
    obtain ⟨k18, h⟩ := sh_chk h
    obtain ⟨r19, er19⟩ : ∃ y : Nat, y = (sh_ref μ 0 7) := ⟨_, rfl⟩
    rw [sh_let_eq er19] at h
    have k18r : sh_r μ 0 7 = some r19 ∧ (r19 = 8 ∨ r19 = 29) := by rw [er19]; exact k18
    by_cases c20 : (sh_i μ r19 3) ≤ i5
    · rw [if_pos c20] at h
      obtain ⟨e1, e2⟩ := sh_some2 h
      exact e2 ▸ hG
    · rw [if_neg c20] at h
      obtain ⟨μ21, hr22, h⟩ := sh_bindv_e h
      have hG21 := gp_X10_describe hG sh_isL_49 (sh_LAYat_28) hr22
      obtain ⟨y26, μ24, hr25, h⟩ := sh_bind_e h
      have hG24 := gp_X1_value hG21 sh_isF_3 (sh_LAYat_28) hr25
      obtain ⟨y29, μ27, hr28, h⟩ := sh_bind_e h
      have hG27 := gp_X11_joined hG24 hr28
      exact ih_33 hG27 h
theorem tl_X11_answer (fuel : Nat) : (∀ ⦃i1 : Int32⦄ ⦃i2 : Int32⦄ ⦃l3 : Int64⦄ ⦃i5 : Int32⦄ ⦃μ μ' : sh_Mem⦄ ⦃v : Int64⦄, sh_G μ → F_X11_answer fuel 1 i1 i2 l3 i5 μ = some (v, μ') → sh_V0 l B D ca 7 M_X11_answer 33 [(0, .ref 0), (1, .int i1), (2, .int i2), (3, .long l3), (5, .int i5)] [] μ (fun v0 μ0 => v0 = some (.long v) ∧ μ0 = μ')) := by
  induction fuel with
  | zero => intro i1 i2 l3 i5 μ μ' v hG h; cases h
  | succ fuel ih =>
    have ih_33 := ih
    intro i1 i2 l3 i5 μ μ' v hG h
    replace h : ((if (sh_r μ 0 7 = some (sh_ref μ 0 7) ∧ ((sh_ref μ 0 7) = 8 ∨ (sh_ref μ 0 7) = 29)) then sh_let (sh_ref μ 0 7) (fun r19 => (if (sh_i μ r19 3) ≤ i5 then some (l3, μ) else sh_bindv (f_X10_describe 49 i5 28 i2 μ) (fun μ21 => sh_bind (f_X1_value 3 28 μ21) (fun y26 μ24 => sh_bind (f_X11_joined i1 l3 i5 y26 μ24) (fun y29 μ27 => F_X11_answer fuel 1 i1 i2 y29 (i5 + 1) μ27))))) else none) : Option (Int64 × sh_Mem)) = some (v, μ') := h
    refine vv_iload 33 5 dX11_answer_33 rfl ?_
    refine vv_aload_n 35 0 dX11_answer_35 rfl rfl ?_
    obtain ⟨k18, h⟩ := sh_chk h
    refine vv_getR 36 dX11_answer_36 fl_11_53 rfl (g_l_0 hG) k18.1 ?_
    refine vv_topr (fun r19 er19 => ?_)
    rw [sh_let_eq er19] at h
    have k18r : sh_r μ 0 7 = some r19 ∧ (r19 = 8 ∨ r19 = 29) := by rw [er19]; exact k18
    refine vv_getI 39 dX11_answer_39 fl_11_180 rfl (gP_l hG k18r.2) ?_
    refine vv_icmp_ge 42 88 dX11_answer_42 (by decide) (fun c20 => ?_) (fun c20 => ?_)
    · rw [if_pos c20] at h
      refine vv_lload_n 88 3 dX11_answer_88 rfl rfl ?_
      obtain ⟨e1, e2⟩ := sh_some2 h
      refine vv_lret 89 dX11_answer_89 rfl (Nat.le_refl _) (Nat.le_refl _) ⟨by rw [e1], e2⟩
    · rw [if_neg c20] at h
      refine vv_aload_n 45 0 dX11_answer_45 rfl rfl ?_
      refine vv_getR 46 dX11_answer_46 fl_11_69 rfl (g_l_0 hG) (g_r_0_9 hG) ?_
      refine vv_aload_n 49 0 dX11_answer_49 rfl rfl ?_
      refine vv_getR 50 dX11_answer_50 fl_11_60 rfl (g_l_0 hG) (g_r_0_8 hG) ?_
      refine vv_iload 53 5 dX11_answer_53 rfl ?_
      refine vv_aload_n 55 0 dX11_answer_55 rfl rfl ?_
      refine vv_getR 56 dX11_answer_56 fl_11_47 rfl (g_l_0 hG) (g_r_0_6 hG) ?_
      refine vv_iload_n 59 2 dX11_answer_59 rfl rfl ?_
      obtain ⟨μ21, hr22, h⟩ := sh_bindv_e h
      refine v1_callV [_, _, _, _] 60 dX11_answer_60 ck_X11_386 (g_l_55 hG) ⟨by decide, rfl⟩ (t_X10_describe hG sh_isL_49 (sh_LAYat_28) hr22) (Nat.le_of_ble_eq_true rfl) ⟨Nat.le_of_ble_eq_true rfl, Nat.le_of_ble_eq_true rfl⟩ rfl (Nat.le_of_ble_eq_true rfl) ?_
      have hG21 := gp_X10_describe hG sh_isL_49 (sh_LAYat_28) hr22
      refine vv_iload_n 63 1 dX11_answer_63 rfl rfl ?_
      refine vv_lload_n 64 3 dX11_answer_64 rfl rfl ?_
      refine vv_iload 65 5 dX11_answer_65 rfl ?_
      refine vv_aload_n 67 0 dX11_answer_67 rfl rfl ?_
      refine vv_getR 68 dX11_answer_68 fl_11_25 rfl (g_l_0 hG21) (g_r_0_3 hG21) ?_
      refine vv_aload_n 71 0 dX11_answer_71 rfl rfl ?_
      refine vv_getR 72 dX11_answer_72 fl_11_47 rfl (g_l_0 hG21) (g_r_0_6 hG21) ?_
      obtain ⟨y26, μ24, hr25, h⟩ := sh_bind_e h
      refine v1_callV [_] 75 dX11_answer_75 ck_X11_390 (g_l_3 hG21) ⟨by decide, rfl⟩ (t_X1_value hG21 sh_isF_3 (sh_LAYat_28) hr25) (Nat.le_of_ble_eq_true rfl) ⟨Nat.le_of_ble_eq_true rfl, Nat.le_of_ble_eq_true rfl⟩ rfl (Nat.le_of_ble_eq_true rfl) ?_
      have hG24 := gp_X1_value hG21 sh_isF_3 (sh_LAYat_28) hr25
      obtain ⟨y29, μ27, hr28, h⟩ := sh_bind_e h
      refine v1_callS [_, _, _, _] 78 dX11_answer_78 ck_X11_394 (t_X11_joined hG24 hr28) (Nat.le_of_ble_eq_true rfl) ⟨Nat.le_of_ble_eq_true rfl, Nat.le_of_ble_eq_true rfl⟩ rfl (Nat.le_of_ble_eq_true rfl) ?_
      have hG27 := gp_X11_joined hG24 hr28
      refine vv_lstore_n (lv' := [(3, _), (0, _), (1, _), (2, _), (5, _)]) 81 3 dX11_answer_81 rfl (by decide) rfl ?_
      refine vv_iincc (lv' := [(5, _), (3, _), (0, _), (1, _), (2, _)]) 82 5 dX11_answer_82 rfl ik_1 (by decide) rfl ?_
      refine vv_goto 85 33 dX11_answer_85 (by decide) ?_
      refine vv_sub [(0, _), (1, _), (2, _), (3, _), (5, _)] (sh_subm [2, 3, 4, 1, 0] rfl) ?_
      exact ih_33 hG27 h
theorem gp_X11_answer {a1 : Int32} {μ μ' : sh_Mem} {v : Int64} (hG : sh_G μ) (h : f_X11_answer a1 μ = some (v, μ')) : sh_G μ' := by
  have ih_33 := (gpl_X11_answer 1000000)
  unfold f_X11_answer at h
  obtain ⟨y32, μ30, hr31, h⟩ := sh_bind_e h
  have hG30 := gp_X1_names hG sh_isF_3 hr31
  by_cases c33 : a1 = 27
  · rw [if_pos c33] at h
    exact ih_33 hG30 h
  · rw [if_neg c33] at h
    by_cases c34 : a1 = 28
    · rw [if_pos c34] at h
      exact ih_33 hG30 h
    · rw [if_neg c34] at h
      exact ih_33 hG30 h
theorem t_X11_answer {a1 : Int32} {μ μ' : sh_Mem} {v : Int64} (hG : sh_G μ) (h : f_X11_answer a1 μ = some (v, μ')) : sh_C0 l B D ca 7 M_X11_answer [.ref 0, .int a1] μ (fun v0 μ0 => v0 = some (.long v) ∧ μ0 = μ') := by
  have ih_33 := (tl_X11_answer (l := l) (B := B) (D := D) (ca := ca) 1000000)
  unfold f_X11_answer at h
  refine vv_aload_n 0 0 dX11_answer_0 rfl rfl ?_
  refine vv_getR 1 dX11_answer_1 fl_11_25 rfl (g_l_0 hG) (g_r_0_3 hG) ?_
  refine vv_bipush 4 dX11_answer_4 bk_10 ?_
  obtain ⟨y32, μ30, hr31, h⟩ := sh_bind_e h
  refine v1_callV [_] 6 dX11_answer_6 ck_X11_381 (g_l_3 hG) ⟨by decide, rfl⟩ (t_X1_names hG sh_isF_3 hr31) (Nat.le_of_ble_eq_true rfl) ⟨Nat.le_of_ble_eq_true rfl, Nat.le_of_ble_eq_true rfl⟩ rfl (Nat.le_of_ble_eq_true rfl) ?_
  have hG30 := gp_X1_names hG sh_isF_3 hr31
  refine vv_istore_n (lv' := [(2, _), (0, _), (1, _)]) 9 2 dX11_answer_9 rfl (by decide) rfl ?_
  refine vv_iload_n 10 1 dX11_answer_10 rfl rfl ?_
  refine vv_bipush 11 dX11_answer_11 bk_27 ?_
  refine vv_icmp_eq 13 22 dX11_answer_13 (by decide) (fun c33 => ?_) (fun c33 => ?_)
  · rw [if_pos c33] at h
    refine vv_ldc2 22 dX11_answer_22 kl_11_384 ?_
    refine vv_goto 25 29 dX11_answer_25 (by decide) ?_
    refine vv_lstore_n (lv' := [(3, _), (2, _), (0, _), (1, _)]) 29 3 dX11_answer_29 rfl (by decide) rfl ?_
    refine vv_iconst 30 dX11_answer_30 ik_0 ?_
    refine vv_istore (lv' := [(5, _), (3, _), (2, _), (0, _), (1, _)]) 31 5 dX11_answer_31 (by decide) rfl ?_
    refine vv_sub [(0, _), (1, _), (2, _), (3, _), (5, _)] (sh_subm [3, 4, 2, 1, 0] rfl) ?_
    exact ih_33 hG30 h
  · rw [if_neg c33] at h
    refine vv_iload_n 16 1 dX11_answer_16 rfl rfl ?_
    refine vv_bipush 17 dX11_answer_17 bk_28 ?_
    refine vv_icmp_ne 19 28 dX11_answer_19 (by decide) (fun c34 => ?_) (fun c34 => ?_)
    · rw [if_neg c34] at h
      refine vv_lconst 28 dX11_answer_28 lk_0 ?_
      refine vv_lstore_n (lv' := [(3, _), (2, _), (0, _), (1, _)]) 29 3 dX11_answer_29 rfl (by decide) rfl ?_
      refine vv_iconst 30 dX11_answer_30 ik_0 ?_
      refine vv_istore (lv' := [(5, _), (3, _), (2, _), (0, _), (1, _)]) 31 5 dX11_answer_31 (by decide) rfl ?_
      refine vv_sub [(0, _), (1, _), (2, _), (3, _), (5, _)] (sh_subm [3, 4, 2, 1, 0] rfl) ?_
      exact ih_33 hG30 h
    · rw [if_pos c34] at h
      refine vv_ldc2 22 dX11_answer_22 kl_11_384 ?_
      refine vv_goto 25 29 dX11_answer_25 (by decide) ?_
      refine vv_lstore_n (lv' := [(3, _), (2, _), (0, _), (1, _)]) 29 3 dX11_answer_29 rfl (by decide) rfl ?_
      refine vv_iconst 30 dX11_answer_30 ik_0 ?_
      refine vv_istore (lv' := [(5, _), (3, _), (2, _), (0, _), (1, _)]) 31 5 dX11_answer_31 (by decide) rfl ?_
      refine vv_sub [(0, _), (1, _), (2, _), (3, _), (5, _)] (sh_subm [3, 4, 2, 1, 0] rfl) ?_
      exact ih_33 hG30 h
end
