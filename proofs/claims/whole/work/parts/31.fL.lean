section
variable {l : Launch} {B : Nat} {D : va_G} {ca : Nat → ClassId} {μ : sh_Mem}
def f_X12_fault (μ : sh_Mem) (a1 : Int32) : Int32 := (if a1 = 0 then (sh_i μ 291 7) else (if a1 = 1 then (sh_i μ 291 8) else (-1)))
theorem c_X12_fault (hG : sh_G μ)  {a1 : Int32} : sh_C0 l B D ca 1 M_X12_fault [.ref 291, .int a1] μ (fun v μ' => v = some (.int (f_X12_fault μ a1)) ∧ μ' = μ) := by
  refine vv_iload_n 0 1 dX12_fault_0 rfl rfl ?_
  refine vv_if_ne 1 11 dX12_fault_1 (by decide) (fun h1 => ?_) (fun h1 => ?_)
  · refine vv_iload_n 11 1 dX12_fault_11 rfl rfl ?_
    refine vv_iconst 12 dX12_fault_12 ik_1 ?_
    refine vv_icmp_ne 13 23 dX12_fault_13 (by decide) (fun h2 => ?_) (fun h2 => ?_)
    · refine vv_iconst 23 dX12_fault_23 ik_m1 ?_
      refine vv_iret 24 dX12_fault_24 rfl (Nat.le_refl _) (Nat.le_refl _) ?_
      exact ⟨by show some _ = some (Value.int (f_X12_fault μ a1)); unfold f_X12_fault; rw [if_neg h1, if_neg h2], rfl⟩
    · refine vv_aload_n 16 0 dX12_fault_16 rfl rfl ?_
      refine vv_getI 17 dX12_fault_17 fl_12_13 rfl (g_l_291 hG) ?_
      refine vv_goto 20 24 dX12_fault_20 (by decide) ?_
      refine vv_iret 24 dX12_fault_24 rfl (Nat.le_refl _) (Nat.le_refl _) ?_
      exact ⟨by show some _ = some (Value.int (f_X12_fault μ a1)); unfold f_X12_fault; rw [if_neg h1, if_pos h2], rfl⟩
  · refine vv_aload_n 4 0 dX12_fault_4 rfl rfl ?_
    refine vv_getI 5 dX12_fault_5 fl_12_392 rfl (g_l_291 hG) ?_
    refine vv_goto 8 24 dX12_fault_8 (by decide) ?_
    refine vv_iret 24 dX12_fault_24 rfl (Nat.le_refl _) (Nat.le_refl _) ?_
    exact ⟨by show some _ = some (Value.int (f_X12_fault μ a1)); unfold f_X12_fault; rw [if_pos h1], rfl⟩
noncomputable def f_X12_topicMany (μ : sh_Mem) : Option (Int32 × sh_Mem) := some ((sh_i μ 322 (Int32.toNatClampNeg 3)), μ)
theorem gp_X12_topicMany {μ μ' : sh_Mem} {v : Int32} (hG : sh_G μ) (h : f_X12_topicMany μ = some (v, μ')) : sh_G μ' := by
  unfold f_X12_topicMany at h
  obtain ⟨e1, e2⟩ := sh_some2 h
  exact e2 ▸ hG
theorem t_X12_topicMany {μ μ' : sh_Mem} {v : Int32} (hG : sh_G μ) (h : f_X12_topicMany μ = some (v, μ')) : sh_C0 l B D ca 1 M_X12_topicMany [.ref 291] μ (fun v0 μ0 => v0 = some (.int v) ∧ μ0 = μ') := by
  unfold f_X12_topicMany at h
  refine vv_aload_n 0 0 dX12_topicMany_0 rfl rfl ?_
  refine vv_getR 1 dX12_topicMany_1 fl_12_105 rfl (g_l_291 hG) (g_r_291_40 hG) ?_
  refine vv_iconst 4 dX12_topicMany_4 ik_3 ?_
  refine vv_iald 5 dX12_topicMany_5 (g_l_322 hG) (by unfold vp_in; decide) ?_
  obtain ⟨e1, e2⟩ := sh_some2 h
  refine vv_iret 6 dX12_topicMany_6 rfl (Nat.le_refl _) (Nat.le_refl _) ⟨by rw [e1], e2⟩
noncomputable def f_X12_personMany (μ : sh_Mem) : Option (Int32 × sh_Mem) := some ((sh_i μ 322 (Int32.toNatClampNeg 4)), μ)
theorem gp_X12_personMany {μ μ' : sh_Mem} {v : Int32} (hG : sh_G μ) (h : f_X12_personMany μ = some (v, μ')) : sh_G μ' := by
  unfold f_X12_personMany at h
  obtain ⟨e1, e2⟩ := sh_some2 h
  exact e2 ▸ hG
theorem t_X12_personMany {μ μ' : sh_Mem} {v : Int32} (hG : sh_G μ) (h : f_X12_personMany μ = some (v, μ')) : sh_C0 l B D ca 1 M_X12_personMany [.ref 291] μ (fun v0 μ0 => v0 = some (.int v) ∧ μ0 = μ') := by
  unfold f_X12_personMany at h
  refine vv_aload_n 0 0 dX12_personMany_0 rfl rfl ?_
  refine vv_getR 1 dX12_personMany_1 fl_12_105 rfl (g_l_291 hG) (g_r_291_40 hG) ?_
  refine vv_iconst 4 dX12_personMany_4 ik_4 ?_
  refine vv_iald 5 dX12_personMany_5 (g_l_322 hG) (by unfold vp_in; decide) ?_
  obtain ⟨e1, e2⟩ := sh_some2 h
  refine vv_iret 6 dX12_personMany_6 rfl (Nat.le_refl _) (Nat.le_refl _) ⟨by rw [e1], e2⟩
noncomputable def f_X12_listMany (μ : sh_Mem) : Option (Int32 × sh_Mem) := some ((sh_i μ 322 (Int32.toNatClampNeg 5)), μ)
theorem gp_X12_listMany {μ μ' : sh_Mem} {v : Int32} (hG : sh_G μ) (h : f_X12_listMany μ = some (v, μ')) : sh_G μ' := by
  unfold f_X12_listMany at h
  obtain ⟨e1, e2⟩ := sh_some2 h
  exact e2 ▸ hG
theorem t_X12_listMany {μ μ' : sh_Mem} {v : Int32} (hG : sh_G μ) (h : f_X12_listMany μ = some (v, μ')) : sh_C0 l B D ca 1 M_X12_listMany [.ref 291] μ (fun v0 μ0 => v0 = some (.int v) ∧ μ0 = μ') := by
  unfold f_X12_listMany at h
  refine vv_aload_n 0 0 dX12_listMany_0 rfl rfl ?_
  refine vv_getR 1 dX12_listMany_1 fl_12_105 rfl (g_l_291 hG) (g_r_291_40 hG) ?_
  refine vv_iconst 4 dX12_listMany_4 ik_5 ?_
  refine vv_iald 5 dX12_listMany_5 (g_l_322 hG) (by unfold vp_in; decide) ?_
  obtain ⟨e1, e2⟩ := sh_some2 h
  refine vv_iret 6 dX12_listMany_6 rfl (Nat.le_refl _) (Nat.le_refl _) ⟨by rw [e1], e2⟩
noncomputable def f_X12_isTopic (a1 : Int64) (μ : sh_Mem) : Option (Int32 × sh_Mem) := sh_bind (f_X12_topicMany μ) (fun y3 μ1 => (if (f_X12_isIn μ1 a1 0 ((y3 - 1)).toInt64) = 0 ∨ (f_X12_isIn μ1 a1 0 ((y3 - 1)).toInt64) = 1 then some ((f_X12_isIn μ1 a1 0 ((y3 - 1)).toInt64), μ1) else none))
theorem gp_X12_isTopic {a1 : Int64} {μ μ' : sh_Mem} {v : Int32} (hG : sh_G μ) (h : f_X12_isTopic a1 μ = some (v, μ')) : sh_G μ' := by
  unfold f_X12_isTopic at h
  obtain ⟨y3, μ1, hr2, h⟩ := sh_bind_e h
  have hG1 := gp_X12_topicMany hG hr2
  obtain ⟨k4, h⟩ := sh_chk h
  obtain ⟨e1, e2⟩ := sh_some2 h
  exact e2 ▸ hG1
theorem t_X12_isTopic {a1 : Int64} {μ μ' : sh_Mem} {v : Int32} (hG : sh_G μ) (h : f_X12_isTopic a1 μ = some (v, μ')) : sh_C0 l B D ca 2 M_X12_isTopic [.ref 291, .long a1] μ (fun v0 μ0 => v0 = some (.int v) ∧ μ0 = μ') := by
  unfold f_X12_isTopic at h
  refine vv_lload_n 0 1 dX12_isTopic_0 rfl rfl ?_
  refine vv_lconst 1 dX12_isTopic_1 lk_0 ?_
  refine vv_aload_n 2 0 dX12_isTopic_2 rfl rfl ?_
  obtain ⟨y3, μ1, hr2, h⟩ := sh_bind_e h
  refine v1_callV [] 3 dX12_isTopic_3 ck_X12_408 (g_l_291 hG) ⟨by decide, rfl⟩ (t_X12_topicMany hG hr2) (Nat.le_of_ble_eq_true rfl) ⟨Nat.le_of_ble_eq_true rfl, Nat.le_of_ble_eq_true rfl⟩ rfl (Nat.le_of_ble_eq_true rfl) ?_
  have hG1 := gp_X12_topicMany hG hr2
  refine vv_iconst 6 dX12_isTopic_6 ik_1 ?_
  refine vv_isub 7 dX12_isTopic_7 ?_
  refine vv_i2l 8 dX12_isTopic_8 ?_
  refine v1_callS [_, _, _] 9 dX12_isTopic_9 ck_X12_296 (c_X12_isIn (μ := μ1) hG1) (Nat.le_of_ble_eq_true rfl) ⟨Nat.le_of_ble_eq_true rfl, Nat.le_of_ble_eq_true rfl⟩ rfl (Nat.le_of_ble_eq_true rfl) ?_
  obtain ⟨k4, h⟩ := sh_chk h
  obtain ⟨e1, e2⟩ := sh_some2 h
  refine vv_zret 12 dX12_isTopic_12 rfl (sh_nb k4) (Nat.le_refl _) (Nat.le_refl _) ⟨by rw [e1], e2⟩
noncomputable def f_X12_isPerson (a1 : Int32) (μ : sh_Mem) : Option (Int32 × sh_Mem) := sh_bind (f_X12_personMany μ) (fun y3 μ1 => (if (f_X12_isIn μ1 (a1).toInt64 0 ((y3 - 1)).toInt64) = 0 ∨ (f_X12_isIn μ1 (a1).toInt64 0 ((y3 - 1)).toInt64) = 1 then some ((f_X12_isIn μ1 (a1).toInt64 0 ((y3 - 1)).toInt64), μ1) else none))
theorem gp_X12_isPerson {a1 : Int32} {μ μ' : sh_Mem} {v : Int32} (hG : sh_G μ) (h : f_X12_isPerson a1 μ = some (v, μ')) : sh_G μ' := by
  unfold f_X12_isPerson at h
  obtain ⟨y3, μ1, hr2, h⟩ := sh_bind_e h
  have hG1 := gp_X12_personMany hG hr2
  obtain ⟨k4, h⟩ := sh_chk h
  obtain ⟨e1, e2⟩ := sh_some2 h
  exact e2 ▸ hG1
theorem t_X12_isPerson {a1 : Int32} {μ μ' : sh_Mem} {v : Int32} (hG : sh_G μ) (h : f_X12_isPerson a1 μ = some (v, μ')) : sh_C0 l B D ca 2 M_X12_isPerson [.ref 291, .int a1] μ (fun v0 μ0 => v0 = some (.int v) ∧ μ0 = μ') := by
  unfold f_X12_isPerson at h
  refine vv_iload_n 0 1 dX12_isPerson_0 rfl rfl ?_
  refine vv_i2l 1 dX12_isPerson_1 ?_
  refine vv_lconst 2 dX12_isPerson_2 lk_0 ?_
  refine vv_aload_n 3 0 dX12_isPerson_3 rfl rfl ?_
  obtain ⟨y3, μ1, hr2, h⟩ := sh_bind_e h
  refine v1_callV [] 4 dX12_isPerson_4 ck_X12_411 (g_l_291 hG) ⟨by decide, rfl⟩ (t_X12_personMany hG hr2) (Nat.le_of_ble_eq_true rfl) ⟨Nat.le_of_ble_eq_true rfl, Nat.le_of_ble_eq_true rfl⟩ rfl (Nat.le_of_ble_eq_true rfl) ?_
  have hG1 := gp_X12_personMany hG hr2
  refine vv_iconst 7 dX12_isPerson_7 ik_1 ?_
  refine vv_isub 8 dX12_isPerson_8 ?_
  refine vv_i2l 9 dX12_isPerson_9 ?_
  refine v1_callS [_, _, _] 10 dX12_isPerson_10 ck_X12_296 (c_X12_isIn (μ := μ1) hG1) (Nat.le_of_ble_eq_true rfl) ⟨Nat.le_of_ble_eq_true rfl, Nat.le_of_ble_eq_true rfl⟩ rfl (Nat.le_of_ble_eq_true rfl) ?_
  obtain ⟨k4, h⟩ := sh_chk h
  obtain ⟨e1, e2⟩ := sh_some2 h
  refine vv_zret 13 dX12_isPerson_13 rfl (sh_nb k4) (Nat.le_refl _) (Nat.le_refl _) ⟨by rw [e1], e2⟩
noncomputable def f_X12_cellAt (a1 : Int32) (a2 : Int32) (μ : sh_Mem) : Option (Int32 × sh_Mem) := (if (sh_i μ 291 50) = 0 then some ((-1), μ) else (if (f_X12_isIn μ (a1).toInt64 0 (((sh_i μ 321 (Int32.toNatClampNeg 3)) - 1)).toInt64) = 0 then some ((-1), μ) else (if (f_X12_isIn μ (a2).toInt64 0 (((sh_i μ 321 (Int32.toNatClampNeg 4)) - 1)).toInt64) = 0 then some ((-1), μ) else some ((a1 + (7 * a2)), μ))))
theorem gp_X12_cellAt {a1 : Int32} {a2 : Int32} {μ μ' : sh_Mem} {v : Int32} (hG : sh_G μ) (h : f_X12_cellAt a1 a2 μ = some (v, μ')) : sh_G μ' := by
  unfold f_X12_cellAt at h
  by_cases c1 : (sh_i μ 291 50) = 0
  · rw [if_pos c1] at h
    obtain ⟨e1, e2⟩ := sh_some2 h
    exact e2 ▸ hG
  · rw [if_neg c1] at h
    by_cases c2 : (f_X12_isIn μ (a1).toInt64 0 (((sh_i μ 321 (Int32.toNatClampNeg 3)) - 1)).toInt64) = 0
    · rw [if_pos c2] at h
      obtain ⟨e1, e2⟩ := sh_some2 h
      exact e2 ▸ hG
    · rw [if_neg c2] at h
      by_cases c3 : (f_X12_isIn μ (a2).toInt64 0 (((sh_i μ 321 (Int32.toNatClampNeg 4)) - 1)).toInt64) = 0
      · rw [if_pos c3] at h
        obtain ⟨e1, e2⟩ := sh_some2 h
        exact e2 ▸ hG
      · rw [if_neg c3] at h
        obtain ⟨e1, e2⟩ := sh_some2 h
        exact e2 ▸ hG
theorem t_X12_cellAt {a1 : Int32} {a2 : Int32} {μ μ' : sh_Mem} {v : Int32} (hG : sh_G μ) (h : f_X12_cellAt a1 a2 μ = some (v, μ')) : sh_C0 l B D ca 2 M_X12_cellAt [.ref 291, .int a1, .int a2] μ (fun v0 μ0 => v0 = some (.int v) ∧ μ0 = μ') := by
  unfold f_X12_cellAt at h
  refine vv_aload_n 0 0 dX12_cellAt_0 rfl rfl ?_
  refine vv_getI 1 dX12_cellAt_1 fl_12_398 rfl (g_l_291 hG) ?_
  refine vv_if_eq 4 52 dX12_cellAt_4 (by decide) (fun c1 => ?_) (fun c1 => ?_)
  · rw [if_pos c1] at h
    refine vv_iconst 52 dX12_cellAt_52 ik_m1 ?_
    obtain ⟨e1, e2⟩ := sh_some2 h
    refine vv_iret 53 dX12_cellAt_53 rfl (Nat.le_refl _) (Nat.le_refl _) ⟨by rw [e1], e2⟩
  · rw [if_neg c1] at h
    refine vv_iload_n 7 1 dX12_cellAt_7 rfl rfl ?_
    refine vv_i2l 8 dX12_cellAt_8 ?_
    refine vv_lconst 9 dX12_cellAt_9 lk_0 ?_
    refine vv_aload_n 10 0 dX12_cellAt_10 rfl rfl ?_
    refine vv_getR 11 dX12_cellAt_11 fl_12_102 rfl (g_l_291 hG) (g_r_291_39 hG) ?_
    refine vv_iconst 14 dX12_cellAt_14 ik_3 ?_
    refine vv_iald 15 dX12_cellAt_15 (g_l_321 hG) (by unfold vp_in; decide) ?_
    refine vv_iconst 16 dX12_cellAt_16 ik_1 ?_
    refine vv_isub 17 dX12_cellAt_17 ?_
    refine vv_i2l 18 dX12_cellAt_18 ?_
    refine v1_callS [_, _, _] 19 dX12_cellAt_19 ck_X12_296 (c_X12_isIn (μ := μ) hG) (Nat.le_of_ble_eq_true rfl) ⟨Nat.le_of_ble_eq_true rfl, Nat.le_of_ble_eq_true rfl⟩ rfl (Nat.le_of_ble_eq_true rfl) ?_
    refine vv_if_eq 22 52 dX12_cellAt_22 (by decide) (fun c2 => ?_) (fun c2 => ?_)
    · rw [if_pos c2] at h
      refine vv_iconst 52 dX12_cellAt_52 ik_m1 ?_
      obtain ⟨e1, e2⟩ := sh_some2 h
      refine vv_iret 53 dX12_cellAt_53 rfl (Nat.le_refl _) (Nat.le_refl _) ⟨by rw [e1], e2⟩
    · rw [if_neg c2] at h
      refine vv_iload_n 25 2 dX12_cellAt_25 rfl rfl ?_
      refine vv_i2l 26 dX12_cellAt_26 ?_
      refine vv_lconst 27 dX12_cellAt_27 lk_0 ?_
      refine vv_aload_n 28 0 dX12_cellAt_28 rfl rfl ?_
      refine vv_getR 29 dX12_cellAt_29 fl_12_102 rfl (g_l_291 hG) (g_r_291_39 hG) ?_
      refine vv_iconst 32 dX12_cellAt_32 ik_4 ?_
      refine vv_iald 33 dX12_cellAt_33 (g_l_321 hG) (by unfold vp_in; decide) ?_
      refine vv_iconst 34 dX12_cellAt_34 ik_1 ?_
      refine vv_isub 35 dX12_cellAt_35 ?_
      refine vv_i2l 36 dX12_cellAt_36 ?_
      refine v1_callS [_, _, _] 37 dX12_cellAt_37 ck_X12_296 (c_X12_isIn (μ := μ) hG) (Nat.le_of_ble_eq_true rfl) ⟨Nat.le_of_ble_eq_true rfl, Nat.le_of_ble_eq_true rfl⟩ rfl (Nat.le_of_ble_eq_true rfl) ?_
      refine vv_if_eq 40 52 dX12_cellAt_40 (by decide) (fun c3 => ?_) (fun c3 => ?_)
      · rw [if_pos c3] at h
        refine vv_iconst 52 dX12_cellAt_52 ik_m1 ?_
        obtain ⟨e1, e2⟩ := sh_some2 h
        refine vv_iret 53 dX12_cellAt_53 rfl (Nat.le_refl _) (Nat.le_refl _) ⟨by rw [e1], e2⟩
      · rw [if_neg c3] at h
        refine vv_iload_n 43 1 dX12_cellAt_43 rfl rfl ?_
        refine vv_bipush 44 dX12_cellAt_44 bk_7 ?_
        refine vv_iload_n 46 2 dX12_cellAt_46 rfl rfl ?_
        refine vv_imul 47 dX12_cellAt_47 ?_
        refine vv_iadd 48 dX12_cellAt_48 ?_
        refine vv_goto 49 53 dX12_cellAt_49 (by decide) ?_
        obtain ⟨e1, e2⟩ := sh_some2 h
        refine vv_iret 53 dX12_cellAt_53 rfl (Nat.le_refl _) (Nat.le_refl _) ⟨by rw [e1], e2⟩
noncomputable def f_X12_cellNumbered (a1 : Int32) (μ : sh_Mem) : Option (Int32 × sh_Mem) := (if 0 ≤ a1 then sh_bind (f_X12_cellAt (a1 - a1 / 8 * 8) (a1 / 8) μ) (fun y4 μ2 => some (y4, μ2)) else some ((-1), μ))
theorem gp_X12_cellNumbered {a1 : Int32} {μ μ' : sh_Mem} {v : Int32} (hG : sh_G μ) (h : f_X12_cellNumbered a1 μ = some (v, μ')) : sh_G μ' := by
  unfold f_X12_cellNumbered at h
  by_cases c1 : 0 ≤ a1
  · rw [if_pos c1] at h
    obtain ⟨y4, μ2, hr3, h⟩ := sh_bind_e h
    have hG2 := gp_X12_cellAt hG hr3
    obtain ⟨e1, e2⟩ := sh_some2 h
    exact e2 ▸ hG2
  · rw [if_neg c1] at h
    obtain ⟨e1, e2⟩ := sh_some2 h
    exact e2 ▸ hG
theorem t_X12_cellNumbered {a1 : Int32} {μ μ' : sh_Mem} {v : Int32} (hG : sh_G μ) (h : f_X12_cellNumbered a1 μ = some (v, μ')) : sh_C0 l B D ca 3 M_X12_cellNumbered [.ref 291, .int a1] μ (fun v0 μ0 => v0 = some (.int v) ∧ μ0 = μ') := by
  unfold f_X12_cellNumbered at h
  refine vv_iload_n 0 1 dX12_cellNumbered_0 rfl rfl ?_
  refine vv_if_ge 1 8 dX12_cellNumbered_1 (by decide) (fun c1 => ?_) (fun c1 => ?_)
  · rw [if_pos c1] at h
    refine vv_aload_n 8 0 dX12_cellNumbered_8 rfl rfl ?_
    refine vv_iload_n 9 1 dX12_cellNumbered_9 rfl rfl ?_
    refine vv_bipush 10 dX12_cellNumbered_10 bk_8 ?_
    refine vv_irem 12 dX12_cellNumbered_12 (by decide) ?_
    refine vv_iload_n 13 1 dX12_cellNumbered_13 rfl rfl ?_
    refine vv_bipush 14 dX12_cellNumbered_14 bk_8 ?_
    refine vv_idiv 16 dX12_cellNumbered_16 (by decide) ?_
    obtain ⟨y4, μ2, hr3, h⟩ := sh_bind_e h
    refine v1_callV [_, _] 17 dX12_cellNumbered_17 ck_X12_414 (g_l_291 hG) ⟨by decide, rfl⟩ (t_X12_cellAt hG hr3) (Nat.le_of_ble_eq_true rfl) ⟨Nat.le_of_ble_eq_true rfl, Nat.le_of_ble_eq_true rfl⟩ rfl (Nat.le_of_ble_eq_true rfl) ?_
    have hG2 := gp_X12_cellAt hG hr3
    obtain ⟨e1, e2⟩ := sh_some2 h
    refine vv_iret 20 dX12_cellNumbered_20 rfl (Nat.le_refl _) (Nat.le_refl _) ⟨by rw [e1], e2⟩
  · rw [if_neg c1] at h
    refine vv_iconst 4 dX12_cellNumbered_4 ik_m1 ?_
    refine vv_goto 5 20 dX12_cellNumbered_5 (by decide) ?_
    obtain ⟨e1, e2⟩ := sh_some2 h
    refine vv_iret 20 dX12_cellNumbered_20 rfl (Nat.le_refl _) (Nat.le_refl _) ⟨by rw [e1], e2⟩
noncomputable def f_X12_numberOf (a1 : Int32) (μ : sh_Mem) : Option (Int32 × sh_Mem) := some (((8 * (a1 / 7)) + (a1 - a1 / 7 * 7)), μ)
theorem gp_X12_numberOf {a1 : Int32} {μ μ' : sh_Mem} {v : Int32} (hG : sh_G μ) (h : f_X12_numberOf a1 μ = some (v, μ')) : sh_G μ' := by
  unfold f_X12_numberOf at h
  obtain ⟨e1, e2⟩ := sh_some2 h
  exact e2 ▸ hG
theorem t_X12_numberOf {a1 : Int32} {μ μ' : sh_Mem} {v : Int32} (hG : sh_G μ) (h : f_X12_numberOf a1 μ = some (v, μ')) : sh_C0 l B D ca 1 M_X12_numberOf [.int a1] μ (fun v0 μ0 => v0 = some (.int v) ∧ μ0 = μ') := by
  unfold f_X12_numberOf at h
  refine vv_bipush 0 dX12_numberOf_0 bk_8 ?_
  refine vv_iload_n 2 0 dX12_numberOf_2 rfl rfl ?_
  refine vv_bipush 3 dX12_numberOf_3 bk_7 ?_
  refine vv_idiv 5 dX12_numberOf_5 (by decide) ?_
  refine vv_imul 6 dX12_numberOf_6 ?_
  refine vv_iload_n 7 0 dX12_numberOf_7 rfl rfl ?_
  refine vv_bipush 8 dX12_numberOf_8 bk_7 ?_
  refine vv_irem 10 dX12_numberOf_10 (by decide) ?_
  refine vv_iadd 11 dX12_numberOf_11 ?_
  obtain ⟨e1, e2⟩ := sh_some2 h
  refine vv_iret 12 dX12_numberOf_12 rfl (Nat.le_refl _) (Nat.le_refl _) ⟨by rw [e1], e2⟩
noncomputable def f_X12_cellMany (μ : sh_Mem) : Option (Int32 × sh_Mem) := some (((sh_i μ 321 (Int32.toNatClampNeg 3)) * (sh_i μ 321 (Int32.toNatClampNeg 4))), μ)
theorem gp_X12_cellMany {μ μ' : sh_Mem} {v : Int32} (hG : sh_G μ) (h : f_X12_cellMany μ = some (v, μ')) : sh_G μ' := by
  unfold f_X12_cellMany at h
  obtain ⟨e1, e2⟩ := sh_some2 h
  exact e2 ▸ hG
theorem t_X12_cellMany {μ μ' : sh_Mem} {v : Int32} (hG : sh_G μ) (h : f_X12_cellMany μ = some (v, μ')) : sh_C0 l B D ca 1 M_X12_cellMany [.ref 291] μ (fun v0 μ0 => v0 = some (.int v) ∧ μ0 = μ') := by
  unfold f_X12_cellMany at h
  refine vv_aload_n 0 0 dX12_cellMany_0 rfl rfl ?_
  refine vv_getR 1 dX12_cellMany_1 fl_12_102 rfl (g_l_291 hG) (g_r_291_39 hG) ?_
  refine vv_iconst 4 dX12_cellMany_4 ik_3 ?_
  refine vv_iald 5 dX12_cellMany_5 (g_l_321 hG) (by unfold vp_in; decide) ?_
  refine vv_aload_n 6 0 dX12_cellMany_6 rfl rfl ?_
  refine vv_getR 7 dX12_cellMany_7 fl_12_102 rfl (g_l_291 hG) (g_r_291_39 hG) ?_
  refine vv_iconst 10 dX12_cellMany_10 ik_4 ?_
  refine vv_iald 11 dX12_cellMany_11 (g_l_321 hG) (by unfold vp_in; decide) ?_
  refine vv_imul 12 dX12_cellMany_12 ?_
  obtain ⟨e1, e2⟩ := sh_some2 h
  refine vv_iret 13 dX12_cellMany_13 rfl (Nat.le_refl _) (Nat.le_refl _) ⟨by rw [e1], e2⟩
noncomputable def f_X12_cellOrder (a1 : Int32) (μ : sh_Mem) : Option (Int32 × sh_Mem) := (if ¬ (sh_i μ 321 (Int32.toNatClampNeg 3)) = 0 then (if ¬ (sh_i μ 321 (Int32.toNatClampNeg 3)) = 0 then some (((a1 - a1 / (sh_i μ 321 (Int32.toNatClampNeg 3)) * (sh_i μ 321 (Int32.toNatClampNeg 3))) + (7 * (a1 / (sh_i μ 321 (Int32.toNatClampNeg 3))))), μ) else none) else none)
theorem gp_X12_cellOrder {a1 : Int32} {μ μ' : sh_Mem} {v : Int32} (hG : sh_G μ) (h : f_X12_cellOrder a1 μ = some (v, μ')) : sh_G μ' := by
  unfold f_X12_cellOrder at h
  obtain ⟨k1, h⟩ := sh_chk h
  obtain ⟨k2, h⟩ := sh_chk h
  obtain ⟨e1, e2⟩ := sh_some2 h
  exact e2 ▸ hG
theorem t_X12_cellOrder {a1 : Int32} {μ μ' : sh_Mem} {v : Int32} (hG : sh_G μ) (h : f_X12_cellOrder a1 μ = some (v, μ')) : sh_C0 l B D ca 1 M_X12_cellOrder [.ref 291, .int a1] μ (fun v0 μ0 => v0 = some (.int v) ∧ μ0 = μ') := by
  unfold f_X12_cellOrder at h
  refine vv_iload_n 0 1 dX12_cellOrder_0 rfl rfl ?_
  refine vv_aload_n 1 0 dX12_cellOrder_1 rfl rfl ?_
  refine vv_getR 2 dX12_cellOrder_2 fl_12_102 rfl (g_l_291 hG) (g_r_291_39 hG) ?_
  refine vv_iconst 5 dX12_cellOrder_5 ik_3 ?_
  refine vv_iald 6 dX12_cellOrder_6 (g_l_321 hG) (by unfold vp_in; decide) ?_
  obtain ⟨k1, h⟩ := sh_chk h
  refine vv_irem 7 dX12_cellOrder_7 k1 ?_
  refine vv_bipush 8 dX12_cellOrder_8 bk_7 ?_
  refine vv_iload_n 10 1 dX12_cellOrder_10 rfl rfl ?_
  refine vv_aload_n 11 0 dX12_cellOrder_11 rfl rfl ?_
  refine vv_getR 12 dX12_cellOrder_12 fl_12_102 rfl (g_l_291 hG) (g_r_291_39 hG) ?_
  refine vv_iconst 15 dX12_cellOrder_15 ik_3 ?_
  refine vv_iald 16 dX12_cellOrder_16 (g_l_321 hG) (by unfold vp_in; decide) ?_
  obtain ⟨k2, h⟩ := sh_chk h
  refine vv_idiv 17 dX12_cellOrder_17 k2 ?_
  refine vv_imul 18 dX12_cellOrder_18 ?_
  refine vv_iadd 19 dX12_cellOrder_19 ?_
  obtain ⟨e1, e2⟩ := sh_some2 h
  refine vv_iret 20 dX12_cellOrder_20 rfl (Nat.le_refl _) (Nat.le_refl _) ⟨by rw [e1], e2⟩
noncomputable def f_X12_heightOf (a1 : Int32) (μ : sh_Mem) : Option (Int32 × sh_Mem) := (if sh_in (1 + a1) 232 then some ((sh_i μ 330 ((1 + a1)).toNatClampNeg), μ) else none)
theorem gp_X12_heightOf {a1 : Int32} {μ μ' : sh_Mem} {v : Int32} (hG : sh_G μ) (h : f_X12_heightOf a1 μ = some (v, μ')) : sh_G μ' := by
  unfold f_X12_heightOf at h
  obtain ⟨k1, h⟩ := sh_chk h
  obtain ⟨e1, e2⟩ := sh_some2 h
  exact e2 ▸ hG
theorem t_X12_heightOf {a1 : Int32} {μ μ' : sh_Mem} {v : Int32} (hG : sh_G μ) (h : f_X12_heightOf a1 μ = some (v, μ')) : sh_C0 l B D ca 1 M_X12_heightOf [.ref 291, .int a1] μ (fun v0 μ0 => v0 = some (.int v) ∧ μ0 = μ') := by
  unfold f_X12_heightOf at h
  refine vv_aload_n 0 0 dX12_heightOf_0 rfl rfl ?_
  refine vv_getR 1 dX12_heightOf_1 fl_12_130 rfl (g_l_291 hG) (g_r_291_52 hG) ?_
  refine vv_iconst 4 dX12_heightOf_4 ik_1 ?_
  refine vv_iload_n 5 1 dX12_heightOf_5 rfl rfl ?_
  refine vv_iadd 6 dX12_heightOf_6 ?_
  obtain ⟨k1, h⟩ := sh_chk h
  refine vv_iald 7 dX12_heightOf_7 (g_l_330 hG) k1 ?_
  obtain ⟨e1, e2⟩ := sh_some2 h
  refine vv_iret 8 dX12_heightOf_8 rfl (Nat.le_refl _) (Nat.le_refl _) ⟨by rw [e1], e2⟩
noncomputable def f_X12_cellOf (a1 : Int32) (μ : sh_Mem) : Option (Int32 × sh_Mem) := (if sh_in (50 + (3 * a1)) 232 then some ((sh_i μ 330 ((50 + (3 * a1))).toNatClampNeg), μ) else none)
theorem gp_X12_cellOf {a1 : Int32} {μ μ' : sh_Mem} {v : Int32} (hG : sh_G μ) (h : f_X12_cellOf a1 μ = some (v, μ')) : sh_G μ' := by
  unfold f_X12_cellOf at h
  obtain ⟨k1, h⟩ := sh_chk h
  obtain ⟨e1, e2⟩ := sh_some2 h
  exact e2 ▸ hG
theorem t_X12_cellOf {a1 : Int32} {μ μ' : sh_Mem} {v : Int32} (hG : sh_G μ) (h : f_X12_cellOf a1 μ = some (v, μ')) : sh_C0 l B D ca 1 M_X12_cellOf [.ref 291, .int a1] μ (fun v0 μ0 => v0 = some (.int v) ∧ μ0 = μ') := by
  unfold f_X12_cellOf at h
  refine vv_aload_n 0 0 dX12_cellOf_0 rfl rfl ?_
  refine vv_getR 1 dX12_cellOf_1 fl_12_130 rfl (g_l_291 hG) (g_r_291_52 hG) ?_
  refine vv_bipush 4 dX12_cellOf_4 bk_50 ?_
  refine vv_iconst 6 dX12_cellOf_6 ik_3 ?_
  refine vv_iload_n 7 1 dX12_cellOf_7 rfl rfl ?_
  refine vv_imul 8 dX12_cellOf_8 ?_
  refine vv_iadd 9 dX12_cellOf_9 ?_
  obtain ⟨k1, h⟩ := sh_chk h
  refine vv_iald 10 dX12_cellOf_10 (g_l_330 hG) k1 ?_
  obtain ⟨e1, e2⟩ := sh_some2 h
  refine vv_iret 11 dX12_cellOf_11 rfl (Nat.le_refl _) (Nat.le_refl _) ⟨by rw [e1], e2⟩
noncomputable def f_X12_tiredOf (a1 : Int32) (μ : sh_Mem) : Option (Int32 × sh_Mem) := (if sh_in (51 + (3 * a1)) 232 then some ((sh_i μ 330 ((51 + (3 * a1))).toNatClampNeg), μ) else none)
theorem gp_X12_tiredOf {a1 : Int32} {μ μ' : sh_Mem} {v : Int32} (hG : sh_G μ) (h : f_X12_tiredOf a1 μ = some (v, μ')) : sh_G μ' := by
  unfold f_X12_tiredOf at h
  obtain ⟨k1, h⟩ := sh_chk h
  obtain ⟨e1, e2⟩ := sh_some2 h
  exact e2 ▸ hG
theorem t_X12_tiredOf {a1 : Int32} {μ μ' : sh_Mem} {v : Int32} (hG : sh_G μ) (h : f_X12_tiredOf a1 μ = some (v, μ')) : sh_C0 l B D ca 1 M_X12_tiredOf [.ref 291, .int a1] μ (fun v0 μ0 => v0 = some (.int v) ∧ μ0 = μ') := by
  unfold f_X12_tiredOf at h
  refine vv_aload_n 0 0 dX12_tiredOf_0 rfl rfl ?_
  refine vv_getR 1 dX12_tiredOf_1 fl_12_130 rfl (g_l_291 hG) (g_r_291_52 hG) ?_
  refine vv_bipush 4 dX12_tiredOf_4 bk_51 ?_
  refine vv_iconst 6 dX12_tiredOf_6 ik_3 ?_
  refine vv_iload_n 7 1 dX12_tiredOf_7 rfl rfl ?_
  refine vv_imul 8 dX12_tiredOf_8 ?_
  refine vv_iadd 9 dX12_tiredOf_9 ?_
  obtain ⟨k1, h⟩ := sh_chk h
  refine vv_iald 10 dX12_tiredOf_10 (g_l_330 hG) k1 ?_
  obtain ⟨e1, e2⟩ := sh_some2 h
  refine vv_iret 11 dX12_tiredOf_11 rfl (Nat.le_refl _) (Nat.le_refl _) ⟨by rw [e1], e2⟩
noncomputable def f_X12_knowsOf (a1 : Int32) (μ : sh_Mem) : Option (Int32 × sh_Mem) := (if sh_in (52 + (3 * a1)) 232 then some ((sh_i μ 330 ((52 + (3 * a1))).toNatClampNeg), μ) else none)
theorem gp_X12_knowsOf {a1 : Int32} {μ μ' : sh_Mem} {v : Int32} (hG : sh_G μ) (h : f_X12_knowsOf a1 μ = some (v, μ')) : sh_G μ' := by
  unfold f_X12_knowsOf at h
  obtain ⟨k1, h⟩ := sh_chk h
  obtain ⟨e1, e2⟩ := sh_some2 h
  exact e2 ▸ hG
theorem t_X12_knowsOf {a1 : Int32} {μ μ' : sh_Mem} {v : Int32} (hG : sh_G μ) (h : f_X12_knowsOf a1 μ = some (v, μ')) : sh_C0 l B D ca 1 M_X12_knowsOf [.ref 291, .int a1] μ (fun v0 μ0 => v0 = some (.int v) ∧ μ0 = μ') := by
  unfold f_X12_knowsOf at h
  refine vv_aload_n 0 0 dX12_knowsOf_0 rfl rfl ?_
  refine vv_getR 1 dX12_knowsOf_1 fl_12_130 rfl (g_l_291 hG) (g_r_291_52 hG) ?_
  refine vv_bipush 4 dX12_knowsOf_4 bk_52 ?_
  refine vv_iconst 6 dX12_knowsOf_6 ik_3 ?_
  refine vv_iload_n 7 1 dX12_knowsOf_7 rfl rfl ?_
  refine vv_imul 8 dX12_knowsOf_8 ?_
  refine vv_iadd 9 dX12_knowsOf_9 ?_
  obtain ⟨k1, h⟩ := sh_chk h
  refine vv_iald 10 dX12_knowsOf_10 (g_l_330 hG) k1 ?_
  obtain ⟨e1, e2⟩ := sh_some2 h
  refine vv_iret 11 dX12_knowsOf_11 rfl (Nat.le_refl _) (Nat.le_refl _) ⟨by rw [e1], e2⟩
noncomputable def F_X12_isTaken : Nat → Nat → Int32 → Int32 → sh_Mem → Option (Int32 × sh_Mem)
  | 0, _, _, _, _ => none
  | fuel + 1, lbl, i1, i2, μ => match lbl with
    | 1 => sh_bind (f_X12_personMany μ) (fun y11 μ9 => (if y11 ≤ i2 then some (0, μ9) else sh_bind (f_X12_cellOf i2 μ9) (fun y15 μ13 => (if y15 = i1 then some (1, μ13) else F_X12_isTaken fuel 1 i1 (i2 + 1) μ13))))
    | _ => none
noncomputable def f_X12_isTaken (a1 : Int32) (μ : sh_Mem) : Option (Int32 × sh_Mem) := F_X12_isTaken sh_fuel 1 a1 0 μ
theorem gpl_X12_isTaken (fuel : Nat) : (∀ ⦃i1 : Int32⦄ ⦃i2 : Int32⦄ ⦃μ μ' : sh_Mem⦄ ⦃v : Int32⦄, sh_G μ → F_X12_isTaken fuel 1 i1 i2 μ = some (v, μ') → sh_G μ') := by
  induction fuel with
  | zero => intro i1 i2 μ μ' v hG h; cases h
  | succ fuel ih =>
    have ih_2 := ih
    intro i1 i2 μ μ' v hG h
    replace h : (sh_bind (f_X12_personMany μ) (fun y11 μ9 => (if y11 ≤ i2 then some (0, μ9) else sh_bind (f_X12_cellOf i2 μ9) (fun y15 μ13 => (if y15 = i1 then some (1, μ13) else F_X12_isTaken fuel 1 i1 (i2 + 1) μ13)))) : Option (Int32 × sh_Mem)) = some (v, μ') := h
    obtain ⟨y11, μ9, hr10, h⟩ := sh_bind_e h
    have hG9 := gp_X12_personMany hG hr10
    by_cases c12 : y11 ≤ i2
    · rw [if_pos c12] at h
      obtain ⟨e1, e2⟩ := sh_some2 h
      exact e2 ▸ hG9
    · rw [if_neg c12] at h
      obtain ⟨y15, μ13, hr14, h⟩ := sh_bind_e h
      have hG13 := gp_X12_cellOf hG9 hr14
      by_cases c16 : y15 = i1
      · rw [if_pos c16] at h
        obtain ⟨e1, e2⟩ := sh_some2 h
        exact e2 ▸ hG13
      · rw [if_neg c16] at h
        exact ih_2 hG13 h
theorem tl_X12_isTaken (fuel : Nat) : (∀ ⦃i1 : Int32⦄ ⦃i2 : Int32⦄ ⦃μ μ' : sh_Mem⦄ ⦃v : Int32⦄, sh_G μ → F_X12_isTaken fuel 1 i1 i2 μ = some (v, μ') → sh_V0 l B D ca 2 M_X12_isTaken 2 [(0, .ref 291), (1, .int i1), (2, .int i2)] [] μ (fun v0 μ0 => v0 = some (.int v) ∧ μ0 = μ')) := by
  induction fuel with
  | zero => intro i1 i2 μ μ' v hG h; cases h
  | succ fuel ih =>
    have ih_2 := ih
    intro i1 i2 μ μ' v hG h
    replace h : (sh_bind (f_X12_personMany μ) (fun y11 μ9 => (if y11 ≤ i2 then some (0, μ9) else sh_bind (f_X12_cellOf i2 μ9) (fun y15 μ13 => (if y15 = i1 then some (1, μ13) else F_X12_isTaken fuel 1 i1 (i2 + 1) μ13)))) : Option (Int32 × sh_Mem)) = some (v, μ') := h
    refine vv_iload_n 2 2 dX12_isTaken_2 rfl rfl ?_
    refine vv_aload_n 3 0 dX12_isTaken_3 rfl rfl ?_
    obtain ⟨y11, μ9, hr10, h⟩ := sh_bind_e h
    refine v1_callV [] 4 dX12_isTaken_4 ck_X12_411 (g_l_291 hG) ⟨by decide, rfl⟩ (t_X12_personMany hG hr10) (Nat.le_of_ble_eq_true rfl) ⟨Nat.le_of_ble_eq_true rfl, Nat.le_of_ble_eq_true rfl⟩ rfl (Nat.le_of_ble_eq_true rfl) ?_
    have hG9 := gp_X12_personMany hG hr10
    refine vv_icmp_ge 7 27 dX12_isTaken_7 (by decide) (fun c12 => ?_) (fun c12 => ?_)
    · rw [if_pos c12] at h
      refine vv_iconst 27 dX12_isTaken_27 ik_0 ?_
      obtain ⟨e1, e2⟩ := sh_some2 h
      refine vv_zret 28 dX12_isTaken_28 rfl rfl (Nat.le_refl _) (Nat.le_refl _) ⟨by rw [e1], e2⟩
    · rw [if_neg c12] at h
      refine vv_aload_n 10 0 dX12_isTaken_10 rfl rfl ?_
      refine vv_iload_n 11 2 dX12_isTaken_11 rfl rfl ?_
      obtain ⟨y15, μ13, hr14, h⟩ := sh_bind_e h
      refine v1_callV [_] 12 dX12_isTaken_12 ck_X12_417 (g_l_291 hG9) ⟨by decide, rfl⟩ (t_X12_cellOf hG9 hr14) (Nat.le_of_ble_eq_true rfl) ⟨Nat.le_of_ble_eq_true rfl, Nat.le_of_ble_eq_true rfl⟩ rfl (Nat.le_of_ble_eq_true rfl) ?_
      have hG13 := gp_X12_cellOf hG9 hr14
      refine vv_iload_n 15 1 dX12_isTaken_15 rfl rfl ?_
      refine vv_icmp_ne 16 21 dX12_isTaken_16 (by decide) (fun c16 => ?_) (fun c16 => ?_)
      · rw [if_neg c16] at h
        refine vv_iincc (lv' := [(2, _), (0, _), (1, _)]) 21 2 dX12_isTaken_21 rfl ik_1 (by decide) rfl ?_
        refine vv_goto 24 2 dX12_isTaken_24 (by decide) ?_
        refine vv_sub [(0, _), (1, _), (2, _)] (sh_subm [1, 2, 0] rfl) ?_
        exact ih_2 hG13 h
      · rw [if_pos c16] at h
        refine vv_iconst 19 dX12_isTaken_19 ik_1 ?_
        obtain ⟨e1, e2⟩ := sh_some2 h
        refine vv_zret 20 dX12_isTaken_20 rfl rfl (Nat.le_refl _) (Nat.le_refl _) ⟨by rw [e1], e2⟩
theorem gp_X12_isTaken {a1 : Int32} {μ μ' : sh_Mem} {v : Int32} (hG : sh_G μ) (h : f_X12_isTaken a1 μ = some (v, μ')) : sh_G μ' := by
  have ih_2 := (gpl_X12_isTaken sh_fuel)
  unfold f_X12_isTaken at h
  exact ih_2 hG h
theorem t_X12_isTaken {a1 : Int32} {μ μ' : sh_Mem} {v : Int32} (hG : sh_G μ) (h : f_X12_isTaken a1 μ = some (v, μ')) : sh_C0 l B D ca 2 M_X12_isTaken [.ref 291, .int a1] μ (fun v0 μ0 => v0 = some (.int v) ∧ μ0 = μ') := by
  have ih_2 := (tl_X12_isTaken (l := l) (B := B) (D := D) (ca := ca) sh_fuel)
  unfold f_X12_isTaken at h
  refine vv_iconst 0 dX12_isTaken_0 ik_0 ?_
  refine vv_istore_n (lv' := [(2, _), (0, _), (1, _)]) 1 2 dX12_isTaken_1 rfl (by decide) rfl ?_
  refine vv_sub [(0, _), (1, _), (2, _)] (sh_subm [1, 2, 0] rfl) ?_
  exact ih_2 hG h
noncomputable def F_X12_bits : Nat → Nat → Int32 → Int32 → Int32 → sh_Mem → Option (Int32 × sh_Mem)
  | 0, _, _, _, _, _ => none
  | fuel + 1, lbl, i0, i1, i2, μ => match lbl with
    | 1 => (if i2 = 0 then some (i1, μ) else sh_let ((i2 &&& (i2 - 1)) : Int32) (fun x4 => F_X12_bits fuel 1 i0 (i1 + 1) x4 μ))
    | _ => none
noncomputable def f_X12_bits (a1 : Int32) (μ : sh_Mem) : Option (Int32 × sh_Mem) := F_X12_bits sh_fuel 1 a1 0 a1 μ
theorem gpl_X12_bits (fuel : Nat) : (∀ ⦃i0 : Int32⦄ ⦃i1 : Int32⦄ ⦃i2 : Int32⦄ ⦃μ μ' : sh_Mem⦄ ⦃v : Int32⦄, sh_G μ → F_X12_bits fuel 1 i0 i1 i2 μ = some (v, μ') → sh_G μ') := by
  induction fuel with
  | zero => intro i0 i1 i2 μ μ' v hG h; cases h
  | succ fuel ih =>
    have ih_4 := ih
    intro i0 i1 i2 μ μ' v hG h
    replace h : ((if i2 = 0 then some (i1, μ) else sh_let ((i2 &&& (i2 - 1)) : Int32) (fun x4 => F_X12_bits fuel 1 i0 (i1 + 1) x4 μ)) : Option (Int32 × sh_Mem)) = some (v, μ') := h
    by_cases c3 : i2 = 0
    · rw [if_pos c3] at h
      obtain ⟨e1, e2⟩ := sh_some2 h
      exact e2 ▸ hG
    · rw [if_neg c3] at h
      obtain ⟨x4, ex4⟩ : ∃ y : Int32, y = (i2 &&& (i2 - 1)) := ⟨_, rfl⟩
      rw [sh_let_eq ex4] at h
      exact ih_4 hG h
theorem tl_X12_bits (fuel : Nat) : (∀ ⦃i0 : Int32⦄ ⦃i1 : Int32⦄ ⦃i2 : Int32⦄ ⦃μ μ' : sh_Mem⦄ ⦃v : Int32⦄, sh_G μ → F_X12_bits fuel 1 i0 i1 i2 μ = some (v, μ') → sh_V0 l B D ca 1 M_X12_bits 4 [(0, .int i0), (1, .int i1), (2, .int i2)] [] μ (fun v0 μ0 => v0 = some (.int v) ∧ μ0 = μ')) := by
  induction fuel with
  | zero => intro i0 i1 i2 μ μ' v hG h; cases h
  | succ fuel ih =>
    have ih_4 := ih
    intro i0 i1 i2 μ μ' v hG h
    replace h : ((if i2 = 0 then some (i1, μ) else sh_let ((i2 &&& (i2 - 1)) : Int32) (fun x4 => F_X12_bits fuel 1 i0 (i1 + 1) x4 μ)) : Option (Int32 × sh_Mem)) = some (v, μ') := h
    refine vv_iload_n 4 2 dX12_bits_4 rfl rfl ?_
    refine vv_if_eq 5 20 dX12_bits_5 (by decide) (fun c3 => ?_) (fun c3 => ?_)
    · rw [if_pos c3] at h
      refine vv_iload_n 20 1 dX12_bits_20 rfl rfl ?_
      obtain ⟨e1, e2⟩ := sh_some2 h
      refine vv_iret 21 dX12_bits_21 rfl (Nat.le_refl _) (Nat.le_refl _) ⟨by rw [e1], e2⟩
    · rw [if_neg c3] at h
      refine vv_iincc (lv' := [(1, _), (0, _), (2, _)]) 8 1 dX12_bits_8 rfl ik_1 (by decide) rfl ?_
      refine vv_iload_n 11 2 dX12_bits_11 rfl rfl ?_
      refine vv_iload_n 12 2 dX12_bits_12 rfl rfl ?_
      refine vv_iconst 13 dX12_bits_13 ik_1 ?_
      refine vv_isub 14 dX12_bits_14 ?_
      refine vv_iand 15 dX12_bits_15 ?_
      refine vv_topi (fun x4 ex4 => ?_)
      rw [sh_let_eq ex4] at h
      refine vv_istore_n (lv' := [(2, _), (1, _), (0, _)]) 16 2 dX12_bits_16 rfl (by decide) rfl ?_
      refine vv_goto 17 4 dX12_bits_17 (by decide) ?_
      refine vv_sub [(0, _), (1, _), (2, _)] (sh_subm [2, 1, 0] rfl) ?_
      exact ih_4 hG h
theorem gp_X12_bits {a1 : Int32} {μ μ' : sh_Mem} {v : Int32} (hG : sh_G μ) (h : f_X12_bits a1 μ = some (v, μ')) : sh_G μ' := by
  have ih_4 := (gpl_X12_bits sh_fuel)
  unfold f_X12_bits at h
  exact ih_4 hG h
theorem t_X12_bits {a1 : Int32} {μ μ' : sh_Mem} {v : Int32} (hG : sh_G μ) (h : f_X12_bits a1 μ = some (v, μ')) : sh_C0 l B D ca 1 M_X12_bits [.int a1] μ (fun v0 μ0 => v0 = some (.int v) ∧ μ0 = μ') := by
  have ih_4 := (tl_X12_bits (l := l) (B := B) (D := D) (ca := ca) sh_fuel)
  unfold f_X12_bits at h
  refine vv_iconst 0 dX12_bits_0 ik_0 ?_
  refine vv_istore_n (lv' := [(1, _), (0, _)]) 1 1 dX12_bits_1 rfl (by decide) rfl ?_
  refine vv_iload_n 2 0 dX12_bits_2 rfl rfl ?_
  refine vv_istore_n (lv' := [(2, _), (1, _), (0, _)]) 3 2 dX12_bits_3 rfl (by decide) rfl ?_
  refine vv_sub [(0, _), (1, _), (2, _)] (sh_subm [2, 1, 0] rfl) ?_
  exact ih_4 hG h
noncomputable def F_X12_highestBut : Nat → Nat → Int32 → Int32 → Int32 → Int32 → Int32 → sh_Mem → Option (Int32 × sh_Mem)
  | 0, _, _, _, _, _, _, _ => none
  | fuel + 1, lbl, i1, i2, i3, i4, i5, μ => match lbl with
    | 1 => sh_bind (f_X12_cellMany μ) (fun y21 μ19 => (if y21 ≤ i5 then some (i4, μ19) else sh_bind (f_X12_cellOrder i5 μ19) (fun y25 μ23 => (if y25 = i1 then F_X12_highestBut fuel 1 i1 i2 i3 i4 (i5 + 1) μ23 else (if y25 = i2 then F_X12_highestBut fuel 1 i1 i2 i3 i4 (i5 + 1) μ23 else (if y25 = i3 then F_X12_highestBut fuel 1 i1 i2 i3 i4 (i5 + 1) μ23 else (if i4 = (-1) then F_X12_highestBut fuel 1 i1 i2 i3 y25 (i5 + 1) μ23 else sh_bind (f_X12_heightOf y25 μ23) (fun y32 μ30 => sh_bind (f_X12_heightOf i4 μ30) (fun y35 μ33 => (if y32 ≤ y35 then F_X12_highestBut fuel 1 i1 i2 i3 i4 (i5 + 1) μ33 else F_X12_highestBut fuel 1 i1 i2 i3 y25 (i5 + 1) μ33))))))))))
    | _ => none
noncomputable def f_X12_highestBut (a1 : Int32) (a2 : Int32) (a3 : Int32) (μ : sh_Mem) : Option (Int32 × sh_Mem) := F_X12_highestBut sh_fuel 1 a1 a2 a3 (-1) 0 μ
theorem gpl_X12_highestBut (fuel : Nat) : (∀ ⦃i1 : Int32⦄ ⦃i2 : Int32⦄ ⦃i3 : Int32⦄ ⦃i4 : Int32⦄ ⦃i5 : Int32⦄ ⦃μ μ' : sh_Mem⦄ ⦃v : Int32⦄, sh_G μ → F_X12_highestBut fuel 1 i1 i2 i3 i4 i5 μ = some (v, μ') → sh_G μ') := by
  induction fuel with
  | zero => intro i1 i2 i3 i4 i5 μ μ' v hG h; cases h
  | succ fuel ih =>
    have ih_6 := ih
    intro i1 i2 i3 i4 i5 μ μ' v hG h
    replace h : (sh_bind (f_X12_cellMany μ) (fun y21 μ19 => (if y21 ≤ i5 then some (i4, μ19) else sh_bind (f_X12_cellOrder i5 μ19) (fun y25 μ23 => (if y25 = i1 then F_X12_highestBut fuel 1 i1 i2 i3 i4 (i5 + 1) μ23 else (if y25 = i2 then F_X12_highestBut fuel 1 i1 i2 i3 i4 (i5 + 1) μ23 else (if y25 = i3 then F_X12_highestBut fuel 1 i1 i2 i3 i4 (i5 + 1) μ23 else (if i4 = (-1) then F_X12_highestBut fuel 1 i1 i2 i3 y25 (i5 + 1) μ23 else sh_bind (f_X12_heightOf y25 μ23) (fun y32 μ30 => sh_bind (f_X12_heightOf i4 μ30) (fun y35 μ33 => (if y32 ≤ y35 then F_X12_highestBut fuel 1 i1 i2 i3 i4 (i5 + 1) μ33 else F_X12_highestBut fuel 1 i1 i2 i3 y25 (i5 + 1) μ33)))))))))) : Option (Int32 × sh_Mem)) = some (v, μ') := h
    obtain ⟨y21, μ19, hr20, h⟩ := sh_bind_e h
    have hG19 := gp_X12_cellMany hG hr20
    by_cases c22 : y21 ≤ i5
    · rw [if_pos c22] at h
      obtain ⟨e1, e2⟩ := sh_some2 h
      exact e2 ▸ hG19
    · rw [if_neg c22] at h
      obtain ⟨y25, μ23, hr24, h⟩ := sh_bind_e h
      have hG23 := gp_X12_cellOrder hG19 hr24
      by_cases c26 : y25 = i1
      · rw [if_pos c26] at h
        exact ih_6 hG23 h
      · rw [if_neg c26] at h
        by_cases c27 : y25 = i2
        · rw [if_pos c27] at h
          exact ih_6 hG23 h
        · rw [if_neg c27] at h
          by_cases c28 : y25 = i3
          · rw [if_pos c28] at h
            exact ih_6 hG23 h
          · rw [if_neg c28] at h
            by_cases c29 : i4 = (-1)
            · rw [if_pos c29] at h
              exact ih_6 hG23 h
            · rw [if_neg c29] at h
              obtain ⟨y32, μ30, hr31, h⟩ := sh_bind_e h
              have hG30 := gp_X12_heightOf hG23 hr31
              obtain ⟨y35, μ33, hr34, h⟩ := sh_bind_e h
              have hG33 := gp_X12_heightOf hG30 hr34
              by_cases c36 : y32 ≤ y35
              · rw [if_pos c36] at h
                exact ih_6 hG33 h
              · rw [if_neg c36] at h
                exact ih_6 hG33 h
theorem tl_X12_highestBut (fuel : Nat) : (∀ ⦃i1 : Int32⦄ ⦃i2 : Int32⦄ ⦃i3 : Int32⦄ ⦃i4 : Int32⦄ ⦃i5 : Int32⦄ ⦃μ μ' : sh_Mem⦄ ⦃v : Int32⦄, sh_G μ → F_X12_highestBut fuel 1 i1 i2 i3 i4 i5 μ = some (v, μ') → sh_V0 l B D ca 2 M_X12_highestBut 6 [(0, .ref 291), (1, .int i1), (2, .int i2), (3, .int i3), (4, .int i4), (5, .int i5)] [] μ (fun v0 μ0 => v0 = some (.int v) ∧ μ0 = μ')) := by
  induction fuel with
  | zero => intro i1 i2 i3 i4 i5 μ μ' v hG h; cases h
  | succ fuel ih =>
    have ih_6 := ih
    intro i1 i2 i3 i4 i5 μ μ' v hG h
    replace h : (sh_bind (f_X12_cellMany μ) (fun y21 μ19 => (if y21 ≤ i5 then some (i4, μ19) else sh_bind (f_X12_cellOrder i5 μ19) (fun y25 μ23 => (if y25 = i1 then F_X12_highestBut fuel 1 i1 i2 i3 i4 (i5 + 1) μ23 else (if y25 = i2 then F_X12_highestBut fuel 1 i1 i2 i3 i4 (i5 + 1) μ23 else (if y25 = i3 then F_X12_highestBut fuel 1 i1 i2 i3 i4 (i5 + 1) μ23 else (if i4 = (-1) then F_X12_highestBut fuel 1 i1 i2 i3 y25 (i5 + 1) μ23 else sh_bind (f_X12_heightOf y25 μ23) (fun y32 μ30 => sh_bind (f_X12_heightOf i4 μ30) (fun y35 μ33 => (if y32 ≤ y35 then F_X12_highestBut fuel 1 i1 i2 i3 i4 (i5 + 1) μ33 else F_X12_highestBut fuel 1 i1 i2 i3 y25 (i5 + 1) μ33)))))))))) : Option (Int32 × sh_Mem)) = some (v, μ') := h
    refine vv_iload 6 5 dX12_highestBut_6 rfl ?_
    refine vv_aload_n 8 0 dX12_highestBut_8 rfl rfl ?_
    obtain ⟨y21, μ19, hr20, h⟩ := sh_bind_e h
    refine v1_callV [] 9 dX12_highestBut_9 ck_X12_447 (g_l_291 hG) ⟨by decide, rfl⟩ (t_X12_cellMany hG hr20) (Nat.le_of_ble_eq_true rfl) ⟨Nat.le_of_ble_eq_true rfl, Nat.le_of_ble_eq_true rfl⟩ rfl (Nat.le_of_ble_eq_true rfl) ?_
    have hG19 := gp_X12_cellMany hG hr20
    refine vv_icmp_ge 12 75 dX12_highestBut_12 (by decide) (fun c22 => ?_) (fun c22 => ?_)
    · rw [if_pos c22] at h
      refine vv_iload 75 4 dX12_highestBut_75 rfl ?_
      obtain ⟨e1, e2⟩ := sh_some2 h
      refine vv_iret 77 dX12_highestBut_77 rfl (Nat.le_refl _) (Nat.le_refl _) ⟨by rw [e1], e2⟩
    · rw [if_neg c22] at h
      refine vv_aload_n 15 0 dX12_highestBut_15 rfl rfl ?_
      refine vv_iload 16 5 dX12_highestBut_16 rfl ?_
      obtain ⟨y25, μ23, hr24, h⟩ := sh_bind_e h
      refine v1_callV [_] 18 dX12_highestBut_18 ck_X12_450 (g_l_291 hG19) ⟨by decide, rfl⟩ (t_X12_cellOrder hG19 hr24) (Nat.le_of_ble_eq_true rfl) ⟨Nat.le_of_ble_eq_true rfl, Nat.le_of_ble_eq_true rfl⟩ rfl (Nat.le_of_ble_eq_true rfl) ?_
      have hG23 := gp_X12_cellOrder hG19 hr24
      refine vv_istore (lv' := [(6, _), (0, _), (1, _), (2, _), (3, _), (4, _), (5, _)]) 21 6 dX12_highestBut_21 (by decide) rfl ?_
      refine vv_iload 23 6 dX12_highestBut_23 rfl ?_
      refine vv_iload_n 25 1 dX12_highestBut_25 rfl rfl ?_
      refine vv_icmp_eq 26 69 dX12_highestBut_26 (by decide) (fun c26 => ?_) (fun c26 => ?_)
      · rw [if_pos c26] at h
        refine vv_iincc (lv' := [(5, _), (6, _), (0, _), (1, _), (2, _), (3, _), (4, _)]) 69 5 dX12_highestBut_69 rfl ik_1 (by decide) rfl ?_
        refine vv_goto 72 6 dX12_highestBut_72 (by decide) ?_
        refine vv_sub [(0, _), (1, _), (2, _), (3, _), (4, _), (5, _)] (sh_subm [2, 3, 4, 5, 6, 0] rfl) ?_
        exact ih_6 hG23 h
      · rw [if_neg c26] at h
        refine vv_iload 29 6 dX12_highestBut_29 rfl ?_
        refine vv_iload_n 31 2 dX12_highestBut_31 rfl rfl ?_
        refine vv_icmp_eq 32 69 dX12_highestBut_32 (by decide) (fun c27 => ?_) (fun c27 => ?_)
        · rw [if_pos c27] at h
          refine vv_iincc (lv' := [(5, _), (6, _), (0, _), (1, _), (2, _), (3, _), (4, _)]) 69 5 dX12_highestBut_69 rfl ik_1 (by decide) rfl ?_
          refine vv_goto 72 6 dX12_highestBut_72 (by decide) ?_
          refine vv_sub [(0, _), (1, _), (2, _), (3, _), (4, _), (5, _)] (sh_subm [2, 3, 4, 5, 6, 0] rfl) ?_
          exact ih_6 hG23 h
        · rw [if_neg c27] at h
          refine vv_iload 35 6 dX12_highestBut_35 rfl ?_
          refine vv_iload_n 37 3 dX12_highestBut_37 rfl rfl ?_
          refine vv_icmp_ne 38 44 dX12_highestBut_38 (by decide) (fun c28 => ?_) (fun c28 => ?_)
          · rw [if_neg c28] at h
            refine vv_iload 44 4 dX12_highestBut_44 rfl ?_
            refine vv_iconst 46 dX12_highestBut_46 ik_m1 ?_
            refine vv_icmp_eq 47 65 dX12_highestBut_47 (by decide) (fun c29 => ?_) (fun c29 => ?_)
            · rw [if_pos c29] at h
              refine vv_iload 65 6 dX12_highestBut_65 rfl ?_
              refine vv_istore (lv' := [(4, _), (6, _), (0, _), (1, _), (2, _), (3, _), (5, _)]) 67 4 dX12_highestBut_67 (by decide) rfl ?_
              refine vv_iincc (lv' := [(5, _), (4, _), (6, _), (0, _), (1, _), (2, _), (3, _)]) 69 5 dX12_highestBut_69 rfl ik_1 (by decide) rfl ?_
              refine vv_goto 72 6 dX12_highestBut_72 (by decide) ?_
              refine vv_sub [(0, _), (1, _), (2, _), (3, _), (4, _), (5, _)] (sh_subm [3, 4, 5, 6, 1, 0] rfl) ?_
              exact ih_6 hG23 h
            · rw [if_neg c29] at h
              refine vv_aload_n 50 0 dX12_highestBut_50 rfl rfl ?_
              refine vv_iload 51 6 dX12_highestBut_51 rfl ?_
              obtain ⟨y32, μ30, hr31, h⟩ := sh_bind_e h
              refine v1_callV [_] 53 dX12_highestBut_53 ck_X12_453 (g_l_291 hG23) ⟨by decide, rfl⟩ (t_X12_heightOf hG23 hr31) (Nat.le_of_ble_eq_true rfl) ⟨Nat.le_of_ble_eq_true rfl, Nat.le_of_ble_eq_true rfl⟩ rfl (Nat.le_of_ble_eq_true rfl) ?_
              have hG30 := gp_X12_heightOf hG23 hr31
              refine vv_aload_n 56 0 dX12_highestBut_56 rfl rfl ?_
              refine vv_iload 57 4 dX12_highestBut_57 rfl ?_
              obtain ⟨y35, μ33, hr34, h⟩ := sh_bind_e h
              refine v1_callV [_] 59 dX12_highestBut_59 ck_X12_453 (g_l_291 hG30) ⟨by decide, rfl⟩ (t_X12_heightOf hG30 hr34) (Nat.le_of_ble_eq_true rfl) ⟨Nat.le_of_ble_eq_true rfl, Nat.le_of_ble_eq_true rfl⟩ rfl (Nat.le_of_ble_eq_true rfl) ?_
              have hG33 := gp_X12_heightOf hG30 hr34
              refine vv_icmp_le 62 69 dX12_highestBut_62 (by decide) (fun c36 => ?_) (fun c36 => ?_)
              · rw [if_pos c36] at h
                refine vv_iincc (lv' := [(5, _), (6, _), (0, _), (1, _), (2, _), (3, _), (4, _)]) 69 5 dX12_highestBut_69 rfl ik_1 (by decide) rfl ?_
                refine vv_goto 72 6 dX12_highestBut_72 (by decide) ?_
                refine vv_sub [(0, _), (1, _), (2, _), (3, _), (4, _), (5, _)] (sh_subm [2, 3, 4, 5, 6, 0] rfl) ?_
                exact ih_6 hG33 h
              · rw [if_neg c36] at h
                refine vv_iload 65 6 dX12_highestBut_65 rfl ?_
                refine vv_istore (lv' := [(4, _), (6, _), (0, _), (1, _), (2, _), (3, _), (5, _)]) 67 4 dX12_highestBut_67 (by decide) rfl ?_
                refine vv_iincc (lv' := [(5, _), (4, _), (6, _), (0, _), (1, _), (2, _), (3, _)]) 69 5 dX12_highestBut_69 rfl ik_1 (by decide) rfl ?_
                refine vv_goto 72 6 dX12_highestBut_72 (by decide) ?_
                refine vv_sub [(0, _), (1, _), (2, _), (3, _), (4, _), (5, _)] (sh_subm [3, 4, 5, 6, 1, 0] rfl) ?_
                exact ih_6 hG33 h
          · rw [if_pos c28] at h
            refine vv_goto 41 69 dX12_highestBut_41 (by decide) ?_
            refine vv_iincc (lv' := [(5, _), (6, _), (0, _), (1, _), (2, _), (3, _), (4, _)]) 69 5 dX12_highestBut_69 rfl ik_1 (by decide) rfl ?_
            refine vv_goto 72 6 dX12_highestBut_72 (by decide) ?_
            refine vv_sub [(0, _), (1, _), (2, _), (3, _), (4, _), (5, _)] (sh_subm [2, 3, 4, 5, 6, 0] rfl) ?_
            exact ih_6 hG23 h
theorem gp_X12_highestBut {a1 : Int32} {a2 : Int32} {a3 : Int32} {μ μ' : sh_Mem} {v : Int32} (hG : sh_G μ) (h : f_X12_highestBut a1 a2 a3 μ = some (v, μ')) : sh_G μ' := by
  have ih_6 := (gpl_X12_highestBut sh_fuel)
  unfold f_X12_highestBut at h
  exact ih_6 hG h
theorem t_X12_highestBut {a1 : Int32} {a2 : Int32} {a3 : Int32} {μ μ' : sh_Mem} {v : Int32} (hG : sh_G μ) (h : f_X12_highestBut a1 a2 a3 μ = some (v, μ')) : sh_C0 l B D ca 2 M_X12_highestBut [.ref 291, .int a1, .int a2, .int a3] μ (fun v0 μ0 => v0 = some (.int v) ∧ μ0 = μ') := by
  have ih_6 := (tl_X12_highestBut (l := l) (B := B) (D := D) (ca := ca) sh_fuel)
  unfold f_X12_highestBut at h
  refine vv_iconst 0 dX12_highestBut_0 ik_m1 ?_
  refine vv_istore (lv' := [(4, _), (0, _), (1, _), (2, _), (3, _)]) 1 4 dX12_highestBut_1 (by decide) rfl ?_
  refine vv_iconst 3 dX12_highestBut_3 ik_0 ?_
  refine vv_istore (lv' := [(5, _), (4, _), (0, _), (1, _), (2, _), (3, _)]) 4 5 dX12_highestBut_4 (by decide) rfl ?_
  refine vv_sub [(0, _), (1, _), (2, _), (3, _), (4, _), (5, _)] (sh_subm [2, 3, 4, 5, 1, 0] rfl) ?_
  exact ih_6 hG h
noncomputable def F_X12_isKept : Nat → Nat → Int32 → Int32 → Int32 → sh_Mem → Option sh_Mem
  | 0, _, _, _, _, _ => none
  | fuel + 1, lbl, i1, i2, i3, μ => match lbl with
    | 1 => (if 228 ≤ i3 then sh_let (((72 + (4 * (sh_i μ 330 (Int32.toNatClampNeg 71)))) - 4) : Int32) (fun x27 => (if sh_in x27 232 then sh_let (sh_setI μ 330 x27.toNatClampNeg (sh_i μ 330 (Int32.toNatClampNeg 0))) (fun μ29 => (if sh_in (x27 + 1) 232 then sh_let (sh_setI μ29 330 ((x27 + 1)).toNatClampNeg i1) (fun μ31 => (if sh_in (x27 + 2) 232 then sh_let (sh_setI μ31 330 ((x27 + 2)).toNatClampNeg i2) (fun μ33 => (if sh_in (x27 + 3) 232 then sh_let (sh_setI μ33 330 ((x27 + 3)).toNatClampNeg (sh_i μ33 291 59)) (fun μ35 => some μ35) else none)) else none)) else none)) else none)) else (if sh_in (i3 + 4) 232 then (if sh_in i3 232 then sh_let (sh_setI μ 330 i3.toNatClampNeg (sh_i μ 330 ((i3 + 4)).toNatClampNeg)) (fun μ38 => F_X12_isKept fuel 1 i1 i2 (i3 + 1) μ38) else none) else none))
    | _ => none
noncomputable def f_X12_isKept (a1 : Int32) (a2 : Int32) (μ : sh_Mem) : Option sh_Mem := (if (sh_i μ 291 57) = 0 then (if (sh_i μ 330 (Int32.toNatClampNeg 71)) = 40 then F_X12_isKept sh_fuel 1 a1 a2 72 μ else sh_let (sh_setI μ 330 (Int32.toNatClampNeg 71) ((sh_i μ 330 (Int32.toNatClampNeg 71)) + 1)) (fun μ41 => sh_let (((72 + (4 * (sh_i μ41 330 (Int32.toNatClampNeg 71)))) - 4) : Int32) (fun x42 => (if sh_in x42 232 then sh_let (sh_setI μ41 330 x42.toNatClampNeg (sh_i μ41 330 (Int32.toNatClampNeg 0))) (fun μ44 => (if sh_in (x42 + 1) 232 then sh_let (sh_setI μ44 330 ((x42 + 1)).toNatClampNeg a1) (fun μ46 => (if sh_in (x42 + 2) 232 then sh_let (sh_setI μ46 330 ((x42 + 2)).toNatClampNeg a2) (fun μ48 => (if sh_in (x42 + 3) 232 then sh_let (sh_setI μ48 330 ((x42 + 3)).toNatClampNeg (sh_i μ48 291 59)) (fun μ50 => some μ50) else none)) else none)) else none)) else none)))) else some μ)
theorem gpl_X12_isKept (fuel : Nat) : (∀ ⦃i1 : Int32⦄ ⦃i2 : Int32⦄ ⦃i3 : Int32⦄ ⦃μ μ' : sh_Mem⦄, sh_G μ → F_X12_isKept fuel 1 i1 i2 i3 μ = some μ' → sh_G μ') := by
  induction fuel with
  | zero => intro i1 i2 i3 μ μ' hG h; cases h
  | succ fuel ih =>
    have ih_23 := ih
    intro i1 i2 i3 μ μ' hG h
    replace h : ((if 228 ≤ i3 then sh_let (((72 + (4 * (sh_i μ 330 (Int32.toNatClampNeg 71)))) - 4) : Int32) (fun x27 => (if sh_in x27 232 then sh_let (sh_setI μ 330 x27.toNatClampNeg (sh_i μ 330 (Int32.toNatClampNeg 0))) (fun μ29 => (if sh_in (x27 + 1) 232 then sh_let (sh_setI μ29 330 ((x27 + 1)).toNatClampNeg i1) (fun μ31 => (if sh_in (x27 + 2) 232 then sh_let (sh_setI μ31 330 ((x27 + 2)).toNatClampNeg i2) (fun μ33 => (if sh_in (x27 + 3) 232 then sh_let (sh_setI μ33 330 ((x27 + 3)).toNatClampNeg (sh_i μ33 291 59)) (fun μ35 => some μ35) else none)) else none)) else none)) else none)) else (if sh_in (i3 + 4) 232 then (if sh_in i3 232 then sh_let (sh_setI μ 330 i3.toNatClampNeg (sh_i μ 330 ((i3 + 4)).toNatClampNeg)) (fun μ38 => F_X12_isKept fuel 1 i1 i2 (i3 + 1) μ38) else none) else none)) : Option sh_Mem) = some μ' := h
    by_cases c26 : 228 ≤ i3
    · rw [if_pos c26] at h
      obtain ⟨x27, ex27⟩ : ∃ y : Int32, y = ((72 + (4 * (sh_i μ 330 (Int32.toNatClampNeg 71)))) - 4) := ⟨_, rfl⟩
      rw [sh_let_eq ex27] at h
      obtain ⟨k28, h⟩ := sh_chk h
      obtain ⟨μ29, eμ29⟩ : ∃ y : sh_Mem, y = (sh_setI μ 330 x27.toNatClampNeg (sh_i μ 330 (Int32.toNatClampNeg 0))) := ⟨_, rfl⟩
      rw [sh_let_eq eμ29] at h
      have hG29 : sh_G μ29 := by rw [eμ29]; exact hG
      obtain ⟨k30, h⟩ := sh_chk h
      obtain ⟨μ31, eμ31⟩ : ∃ y : sh_Mem, y = (sh_setI μ29 330 ((x27 + 1)).toNatClampNeg i1) := ⟨_, rfl⟩
      rw [sh_let_eq eμ31] at h
      have hG31 : sh_G μ31 := by rw [eμ31]; exact hG29
      obtain ⟨k32, h⟩ := sh_chk h
      obtain ⟨μ33, eμ33⟩ : ∃ y : sh_Mem, y = (sh_setI μ31 330 ((x27 + 2)).toNatClampNeg i2) := ⟨_, rfl⟩
      rw [sh_let_eq eμ33] at h
      have hG33 : sh_G μ33 := by rw [eμ33]; exact hG31
      obtain ⟨k34, h⟩ := sh_chk h
      obtain ⟨μ35, eμ35⟩ : ∃ y : sh_Mem, y = (sh_setI μ33 330 ((x27 + 3)).toNatClampNeg (sh_i μ33 291 59)) := ⟨_, rfl⟩
      rw [sh_let_eq eμ35] at h
      have hG35 : sh_G μ35 := by rw [eμ35]; exact hG33
      have e2 := Option.some.inj h
      exact e2 ▸ hG35
    · rw [if_neg c26] at h
      obtain ⟨k36, h⟩ := sh_chk h
      obtain ⟨k37, h⟩ := sh_chk h
      obtain ⟨μ38, eμ38⟩ : ∃ y : sh_Mem, y = (sh_setI μ 330 i3.toNatClampNeg (sh_i μ 330 ((i3 + 4)).toNatClampNeg)) := ⟨_, rfl⟩
      rw [sh_let_eq eμ38] at h
      have hG38 : sh_G μ38 := by rw [eμ38]; exact hG
      exact ih_23 hG38 h
theorem tl_X12_isKept (fuel : Nat) : (∀ ⦃i1 : Int32⦄ ⦃i2 : Int32⦄ ⦃i3 : Int32⦄ ⦃μ μ' : sh_Mem⦄, sh_G μ → F_X12_isKept fuel 1 i1 i2 i3 μ = some μ' → sh_V0 l B D ca 1 M_X12_isKept 23 [(0, .ref 291), (1, .int i1), (2, .int i2), (3, .int i3)] [] μ (fun v0 μ0 => v0 = none ∧ μ0 = μ')) := by
  induction fuel with
  | zero => intro i1 i2 i3 μ μ' hG h; cases h
  | succ fuel ih =>
    have ih_23 := ih
    intro i1 i2 i3 μ μ' hG h
    replace h : ((if 228 ≤ i3 then sh_let (((72 + (4 * (sh_i μ 330 (Int32.toNatClampNeg 71)))) - 4) : Int32) (fun x27 => (if sh_in x27 232 then sh_let (sh_setI μ 330 x27.toNatClampNeg (sh_i μ 330 (Int32.toNatClampNeg 0))) (fun μ29 => (if sh_in (x27 + 1) 232 then sh_let (sh_setI μ29 330 ((x27 + 1)).toNatClampNeg i1) (fun μ31 => (if sh_in (x27 + 2) 232 then sh_let (sh_setI μ31 330 ((x27 + 2)).toNatClampNeg i2) (fun μ33 => (if sh_in (x27 + 3) 232 then sh_let (sh_setI μ33 330 ((x27 + 3)).toNatClampNeg (sh_i μ33 291 59)) (fun μ35 => some μ35) else none)) else none)) else none)) else none)) else (if sh_in (i3 + 4) 232 then (if sh_in i3 232 then sh_let (sh_setI μ 330 i3.toNatClampNeg (sh_i μ 330 ((i3 + 4)).toNatClampNeg)) (fun μ38 => F_X12_isKept fuel 1 i1 i2 (i3 + 1) μ38) else none) else none)) : Option sh_Mem) = some μ' := h
    refine vv_iload_n 23 3 dX12_isKept_23 rfl rfl ?_
    refine vv_sipush 24 dX12_isKept_24 sk_228 ?_
    refine vv_icmp_ge 27 50 dX12_isKept_27 (by decide) (fun c26 => ?_) (fun c26 => ?_)
    · rw [if_pos c26] at h
      refine vv_goto 50 64 dX12_isKept_50 (by decide) ?_
      refine vv_bipush 64 dX12_isKept_64 bk_72 ?_
      refine vv_iconst 66 dX12_isKept_66 ik_4 ?_
      refine vv_aload_n 67 0 dX12_isKept_67 rfl rfl ?_
      refine vv_getR 68 dX12_isKept_68 fl_12_130 rfl (g_l_291 hG) (g_r_291_52 hG) ?_
      refine vv_bipush 71 dX12_isKept_71 bk_71 ?_
      refine vv_iald 73 dX12_isKept_73 (g_l_330 hG) (by unfold vp_in; decide) ?_
      refine vv_imul 74 dX12_isKept_74 ?_
      refine vv_iadd 75 dX12_isKept_75 ?_
      refine vv_iconst 76 dX12_isKept_76 ik_4 ?_
      refine vv_isub 77 dX12_isKept_77 ?_
      refine vv_topi (fun x27 ex27 => ?_)
      rw [sh_let_eq ex27] at h
      refine vv_istore_n (lv' := [(3, _), (0, _), (1, _), (2, _)]) 78 3 dX12_isKept_78 rfl (by decide) rfl ?_
      refine vv_aload_n 79 0 dX12_isKept_79 rfl rfl ?_
      refine vv_getR 80 dX12_isKept_80 fl_12_130 rfl (g_l_291 hG) (g_r_291_52 hG) ?_
      refine vv_iload_n 83 3 dX12_isKept_83 rfl rfl ?_
      refine vv_aload_n 84 0 dX12_isKept_84 rfl rfl ?_
      refine vv_getR 85 dX12_isKept_85 fl_12_130 rfl (g_l_291 hG) (g_r_291_52 hG) ?_
      refine vv_iconst 88 dX12_isKept_88 ik_0 ?_
      refine vv_iald 89 dX12_isKept_89 (g_l_330 hG) (by unfold vp_in; decide) ?_
      obtain ⟨k28, h⟩ := sh_chk h
      refine vn_iast 90 dX12_isKept_90 (g_l_330 hG) k28 (fun μ29 eμ29 => ?_)
      rw [sh_let_eq eμ29] at h
      have hG29 : sh_G μ29 := by rw [eμ29]; exact hG
      refine vv_aload_n 91 0 dX12_isKept_91 rfl rfl ?_
      refine vv_getR 92 dX12_isKept_92 fl_12_130 rfl (g_l_291 hG29) (g_r_291_52 hG29) ?_
      refine vv_iload_n 95 3 dX12_isKept_95 rfl rfl ?_
      refine vv_iconst 96 dX12_isKept_96 ik_1 ?_
      refine vv_iadd 97 dX12_isKept_97 ?_
      refine vv_iload_n 98 1 dX12_isKept_98 rfl rfl ?_
      obtain ⟨k30, h⟩ := sh_chk h
      refine vn_iast 99 dX12_isKept_99 (g_l_330 hG29) k30 (fun μ31 eμ31 => ?_)
      rw [sh_let_eq eμ31] at h
      have hG31 : sh_G μ31 := by rw [eμ31]; exact hG29
      refine vv_aload_n 100 0 dX12_isKept_100 rfl rfl ?_
      refine vv_getR 101 dX12_isKept_101 fl_12_130 rfl (g_l_291 hG31) (g_r_291_52 hG31) ?_
      refine vv_iload_n 104 3 dX12_isKept_104 rfl rfl ?_
      refine vv_iconst 105 dX12_isKept_105 ik_2 ?_
      refine vv_iadd 106 dX12_isKept_106 ?_
      refine vv_iload_n 107 2 dX12_isKept_107 rfl rfl ?_
      obtain ⟨k32, h⟩ := sh_chk h
      refine vn_iast 108 dX12_isKept_108 (g_l_330 hG31) k32 (fun μ33 eμ33 => ?_)
      rw [sh_let_eq eμ33] at h
      have hG33 : sh_G μ33 := by rw [eμ33]; exact hG31
      refine vv_aload_n 109 0 dX12_isKept_109 rfl rfl ?_
      refine vv_getR 110 dX12_isKept_110 fl_12_130 rfl (g_l_291 hG33) (g_r_291_52 hG33) ?_
      refine vv_iload_n 113 3 dX12_isKept_113 rfl rfl ?_
      refine vv_iconst 114 dX12_isKept_114 ik_3 ?_
      refine vv_iadd 115 dX12_isKept_115 ?_
      refine vv_aload_n 116 0 dX12_isKept_116 rfl rfl ?_
      refine vv_getI 117 dX12_isKept_117 fl_12_470 rfl (g_l_291 hG33) ?_
      obtain ⟨k34, h⟩ := sh_chk h
      refine vn_iast 120 dX12_isKept_120 (g_l_330 hG33) k34 (fun μ35 eμ35 => ?_)
      rw [sh_let_eq eμ35] at h
      have hG35 : sh_G μ35 := by rw [eμ35]; exact hG33
      have e2 := Option.some.inj h
      refine vv_vret 121 dX12_isKept_121 rfl (Nat.le_refl _) (Nat.le_refl _) ⟨rfl, e2⟩
    · rw [if_neg c26] at h
      refine vv_aload_n 30 0 dX12_isKept_30 rfl rfl ?_
      refine vv_getR 31 dX12_isKept_31 fl_12_130 rfl (g_l_291 hG) (g_r_291_52 hG) ?_
      refine vv_iload_n 34 3 dX12_isKept_34 rfl rfl ?_
      refine vv_aload_n 35 0 dX12_isKept_35 rfl rfl ?_
      refine vv_getR 36 dX12_isKept_36 fl_12_130 rfl (g_l_291 hG) (g_r_291_52 hG) ?_
      refine vv_iload_n 39 3 dX12_isKept_39 rfl rfl ?_
      refine vv_iconst 40 dX12_isKept_40 ik_4 ?_
      refine vv_iadd 41 dX12_isKept_41 ?_
      obtain ⟨k36, h⟩ := sh_chk h
      refine vv_iald 42 dX12_isKept_42 (g_l_330 hG) k36 ?_
      obtain ⟨k37, h⟩ := sh_chk h
      refine vn_iast 43 dX12_isKept_43 (g_l_330 hG) k37 (fun μ38 eμ38 => ?_)
      rw [sh_let_eq eμ38] at h
      have hG38 : sh_G μ38 := by rw [eμ38]; exact hG
      refine vv_iincc (lv' := [(3, _), (0, _), (1, _), (2, _)]) 44 3 dX12_isKept_44 rfl ik_1 (by decide) rfl ?_
      refine vv_goto 47 23 dX12_isKept_47 (by decide) ?_
      refine vv_sub [(0, _), (1, _), (2, _), (3, _)] (sh_subm [1, 2, 3, 0] rfl) ?_
      exact ih_23 hG38 h
theorem gp_X12_isKept {a1 : Int32} {a2 : Int32} {μ μ' : sh_Mem} (hG : sh_G μ) (h : f_X12_isKept a1 a2 μ = some μ') : sh_G μ' := by
  have ih_23 := (gpl_X12_isKept sh_fuel)
  unfold f_X12_isKept at h
  by_cases c39 : (sh_i μ 291 57) = 0
  · rw [if_pos c39] at h
    by_cases c40 : (sh_i μ 330 (Int32.toNatClampNeg 71)) = 40
    · rw [if_pos c40] at h
      exact ih_23 hG h
    · rw [if_neg c40] at h
      obtain ⟨μ41, eμ41⟩ : ∃ y : sh_Mem, y = (sh_setI μ 330 (Int32.toNatClampNeg 71) ((sh_i μ 330 (Int32.toNatClampNeg 71)) + 1)) := ⟨_, rfl⟩
      rw [sh_let_eq eμ41] at h
      have hG41 : sh_G μ41 := by rw [eμ41]; exact hG
      obtain ⟨x42, ex42⟩ : ∃ y : Int32, y = ((72 + (4 * (sh_i μ41 330 (Int32.toNatClampNeg 71)))) - 4) := ⟨_, rfl⟩
      rw [sh_let_eq ex42] at h
      obtain ⟨k43, h⟩ := sh_chk h
      obtain ⟨μ44, eμ44⟩ : ∃ y : sh_Mem, y = (sh_setI μ41 330 x42.toNatClampNeg (sh_i μ41 330 (Int32.toNatClampNeg 0))) := ⟨_, rfl⟩
      rw [sh_let_eq eμ44] at h
      have hG44 : sh_G μ44 := by rw [eμ44]; exact hG41
      obtain ⟨k45, h⟩ := sh_chk h
      obtain ⟨μ46, eμ46⟩ : ∃ y : sh_Mem, y = (sh_setI μ44 330 ((x42 + 1)).toNatClampNeg a1) := ⟨_, rfl⟩
      rw [sh_let_eq eμ46] at h
      have hG46 : sh_G μ46 := by rw [eμ46]; exact hG44
      obtain ⟨k47, h⟩ := sh_chk h
      obtain ⟨μ48, eμ48⟩ : ∃ y : sh_Mem, y = (sh_setI μ46 330 ((x42 + 2)).toNatClampNeg a2) := ⟨_, rfl⟩
      rw [sh_let_eq eμ48] at h
      have hG48 : sh_G μ48 := by rw [eμ48]; exact hG46
      obtain ⟨k49, h⟩ := sh_chk h
      obtain ⟨μ50, eμ50⟩ : ∃ y : sh_Mem, y = (sh_setI μ48 330 ((x42 + 3)).toNatClampNeg (sh_i μ48 291 59)) := ⟨_, rfl⟩
      rw [sh_let_eq eμ50] at h
      have hG50 : sh_G μ50 := by rw [eμ50]; exact hG48
      have e2 := Option.some.inj h
      exact e2 ▸ hG50
  · rw [if_neg c39] at h
    have e2 := Option.some.inj h
    exact e2 ▸ hG
theorem t_X12_isKept {a1 : Int32} {a2 : Int32} {μ μ' : sh_Mem} (hG : sh_G μ) (h : f_X12_isKept a1 a2 μ = some μ') : sh_C0 l B D ca 1 M_X12_isKept [.ref 291, .int a1, .int a2] μ (fun v0 μ0 => v0 = none ∧ μ0 = μ') := by
  have ih_23 := (tl_X12_isKept (l := l) (B := B) (D := D) (ca := ca) sh_fuel)
  unfold f_X12_isKept at h
  refine vv_aload_n 0 0 dX12_isKept_0 rfl rfl ?_
  refine vv_getI 1 dX12_isKept_1 fl_12_473 rfl (g_l_291 hG) ?_
  refine vv_if_eq 4 8 dX12_isKept_4 (by decide) (fun c39 => ?_) (fun c39 => ?_)
  · rw [if_pos c39] at h
    refine vv_aload_n 8 0 dX12_isKept_8 rfl rfl ?_
    refine vv_getR 9 dX12_isKept_9 fl_12_130 rfl (g_l_291 hG) (g_r_291_52 hG) ?_
    refine vv_bipush 12 dX12_isKept_12 bk_71 ?_
    refine vv_iald 14 dX12_isKept_14 (g_l_330 hG) (by unfold vp_in; decide) ?_
    refine vv_bipush 15 dX12_isKept_15 bk_40 ?_
    refine vv_icmp_ne 17 53 dX12_isKept_17 (by decide) (fun c40 => ?_) (fun c40 => ?_)
    · rw [if_neg c40] at h
      refine vv_aload_n 53 0 dX12_isKept_53 rfl rfl ?_
      refine vv_getR 54 dX12_isKept_54 fl_12_130 rfl (g_l_291 hG) (g_r_291_52 hG) ?_
      refine vv_bipush 57 dX12_isKept_57 bk_71 ?_
      refine vv_dup2_ri 59 dX12_isKept_59 ?_
      refine vv_iald 60 dX12_isKept_60 (g_l_330 hG) (by unfold vp_in; decide) ?_
      refine vv_iconst 61 dX12_isKept_61 ik_1 ?_
      refine vv_iadd 62 dX12_isKept_62 ?_
      refine vn_iast 63 dX12_isKept_63 (g_l_330 hG) (by unfold vp_in; decide) (fun μ41 eμ41 => ?_)
      rw [sh_let_eq eμ41] at h
      have hG41 : sh_G μ41 := by rw [eμ41]; exact hG
      refine vv_bipush 64 dX12_isKept_64 bk_72 ?_
      refine vv_iconst 66 dX12_isKept_66 ik_4 ?_
      refine vv_aload_n 67 0 dX12_isKept_67 rfl rfl ?_
      refine vv_getR 68 dX12_isKept_68 fl_12_130 rfl (g_l_291 hG41) (g_r_291_52 hG41) ?_
      refine vv_bipush 71 dX12_isKept_71 bk_71 ?_
      refine vv_iald 73 dX12_isKept_73 (g_l_330 hG41) (by unfold vp_in; decide) ?_
      refine vv_imul 74 dX12_isKept_74 ?_
      refine vv_iadd 75 dX12_isKept_75 ?_
      refine vv_iconst 76 dX12_isKept_76 ik_4 ?_
      refine vv_isub 77 dX12_isKept_77 ?_
      refine vv_topi (fun x42 ex42 => ?_)
      rw [sh_let_eq ex42] at h
      refine vv_istore_n (lv' := [(3, _), (0, _), (1, _), (2, _)]) 78 3 dX12_isKept_78 rfl (by decide) rfl ?_
      refine vv_aload_n 79 0 dX12_isKept_79 rfl rfl ?_
      refine vv_getR 80 dX12_isKept_80 fl_12_130 rfl (g_l_291 hG41) (g_r_291_52 hG41) ?_
      refine vv_iload_n 83 3 dX12_isKept_83 rfl rfl ?_
      refine vv_aload_n 84 0 dX12_isKept_84 rfl rfl ?_
      refine vv_getR 85 dX12_isKept_85 fl_12_130 rfl (g_l_291 hG41) (g_r_291_52 hG41) ?_
      refine vv_iconst 88 dX12_isKept_88 ik_0 ?_
      refine vv_iald 89 dX12_isKept_89 (g_l_330 hG41) (by unfold vp_in; decide) ?_
      obtain ⟨k43, h⟩ := sh_chk h
      refine vn_iast 90 dX12_isKept_90 (g_l_330 hG41) k43 (fun μ44 eμ44 => ?_)
      rw [sh_let_eq eμ44] at h
      have hG44 : sh_G μ44 := by rw [eμ44]; exact hG41
      refine vv_aload_n 91 0 dX12_isKept_91 rfl rfl ?_
      refine vv_getR 92 dX12_isKept_92 fl_12_130 rfl (g_l_291 hG44) (g_r_291_52 hG44) ?_
      refine vv_iload_n 95 3 dX12_isKept_95 rfl rfl ?_
      refine vv_iconst 96 dX12_isKept_96 ik_1 ?_
      refine vv_iadd 97 dX12_isKept_97 ?_
      refine vv_iload_n 98 1 dX12_isKept_98 rfl rfl ?_
      obtain ⟨k45, h⟩ := sh_chk h
      refine vn_iast 99 dX12_isKept_99 (g_l_330 hG44) k45 (fun μ46 eμ46 => ?_)
      rw [sh_let_eq eμ46] at h
      have hG46 : sh_G μ46 := by rw [eμ46]; exact hG44
      refine vv_aload_n 100 0 dX12_isKept_100 rfl rfl ?_
      refine vv_getR 101 dX12_isKept_101 fl_12_130 rfl (g_l_291 hG46) (g_r_291_52 hG46) ?_
      refine vv_iload_n 104 3 dX12_isKept_104 rfl rfl ?_
      refine vv_iconst 105 dX12_isKept_105 ik_2 ?_
      refine vv_iadd 106 dX12_isKept_106 ?_
      refine vv_iload_n 107 2 dX12_isKept_107 rfl rfl ?_
      obtain ⟨k47, h⟩ := sh_chk h
      refine vn_iast 108 dX12_isKept_108 (g_l_330 hG46) k47 (fun μ48 eμ48 => ?_)
      rw [sh_let_eq eμ48] at h
      have hG48 : sh_G μ48 := by rw [eμ48]; exact hG46
      refine vv_aload_n 109 0 dX12_isKept_109 rfl rfl ?_
      refine vv_getR 110 dX12_isKept_110 fl_12_130 rfl (g_l_291 hG48) (g_r_291_52 hG48) ?_
      refine vv_iload_n 113 3 dX12_isKept_113 rfl rfl ?_
      refine vv_iconst 114 dX12_isKept_114 ik_3 ?_
      refine vv_iadd 115 dX12_isKept_115 ?_
      refine vv_aload_n 116 0 dX12_isKept_116 rfl rfl ?_
      refine vv_getI 117 dX12_isKept_117 fl_12_470 rfl (g_l_291 hG48) ?_
      obtain ⟨k49, h⟩ := sh_chk h
      refine vn_iast 120 dX12_isKept_120 (g_l_330 hG48) k49 (fun μ50 eμ50 => ?_)
      rw [sh_let_eq eμ50] at h
      have hG50 : sh_G μ50 := by rw [eμ50]; exact hG48
      have e2 := Option.some.inj h
      refine vv_vret 121 dX12_isKept_121 rfl (Nat.le_refl _) (Nat.le_refl _) ⟨rfl, e2⟩
    · rw [if_pos c40] at h
      refine vv_bipush 20 dX12_isKept_20 bk_72 ?_
      refine vv_istore_n (lv' := [(3, _), (0, _), (1, _), (2, _)]) 22 3 dX12_isKept_22 rfl (by decide) rfl ?_
      refine vv_sub [(0, _), (1, _), (2, _), (3, _)] (sh_subm [1, 2, 3, 0] rfl) ?_
      exact ih_23 hG h
  · rw [if_neg c39] at h
    have e2 := Option.some.inj h
    refine vv_vret 7 dX12_isKept_7 rfl (Nat.le_refl _) (Nat.le_refl _) ⟨rfl, e2⟩
noncomputable def F_X12_putsAside : Nat → Nat → Int32 → sh_Mem → Option sh_Mem
  | 0, _, _, _ => none
  | fuel + 1, lbl, i1, μ => match lbl with
    | 1 => (if 71 ≤ i1 then some μ else (if sh_in i1 232 then (if sh_in i1 71 then sh_let (sh_setI μ 331 i1.toNatClampNeg (sh_i μ 330 i1.toNatClampNeg)) (fun μ9 => F_X12_putsAside fuel 1 (i1 + 1) μ9) else none) else none))
    | _ => none
noncomputable def f_X12_putsAside (μ : sh_Mem) : Option sh_Mem := sh_let (sh_setI μ 291 57 1) (fun μ10 => F_X12_putsAside sh_fuel 1 0 μ10)
theorem gpl_X12_putsAside (fuel : Nat) : (∀ ⦃i1 : Int32⦄ ⦃μ μ' : sh_Mem⦄, sh_G μ → F_X12_putsAside fuel 1 i1 μ = some μ' → sh_G μ') := by
  induction fuel with
  | zero => intro i1 μ μ' hG h; cases h
  | succ fuel ih =>
    have ih_7 := ih
    intro i1 μ μ' hG h
    replace h : ((if 71 ≤ i1 then some μ else (if sh_in i1 232 then (if sh_in i1 71 then sh_let (sh_setI μ 331 i1.toNatClampNeg (sh_i μ 330 i1.toNatClampNeg)) (fun μ9 => F_X12_putsAside fuel 1 (i1 + 1) μ9) else none) else none)) : Option sh_Mem) = some μ' := h
    by_cases c6 : 71 ≤ i1
    · rw [if_pos c6] at h
      have e2 := Option.some.inj h
      exact e2 ▸ hG
    · rw [if_neg c6] at h
      obtain ⟨k7, h⟩ := sh_chk h
      obtain ⟨k8, h⟩ := sh_chk h
      obtain ⟨μ9, eμ9⟩ : ∃ y : sh_Mem, y = (sh_setI μ 331 i1.toNatClampNeg (sh_i μ 330 i1.toNatClampNeg)) := ⟨_, rfl⟩
      rw [sh_let_eq eμ9] at h
      have hG9 : sh_G μ9 := by rw [eμ9]; exact hG
      exact ih_7 hG9 h
theorem tl_X12_putsAside (fuel : Nat) : (∀ ⦃i1 : Int32⦄ ⦃μ μ' : sh_Mem⦄, sh_G μ → F_X12_putsAside fuel 1 i1 μ = some μ' → sh_V0 l B D ca 1 M_X12_putsAside 7 [(0, .ref 291), (1, .int i1)] [] μ (fun v0 μ0 => v0 = none ∧ μ0 = μ')) := by
  induction fuel with
  | zero => intro i1 μ μ' hG h; cases h
  | succ fuel ih =>
    have ih_7 := ih
    intro i1 μ μ' hG h
    replace h : ((if 71 ≤ i1 then some μ else (if sh_in i1 232 then (if sh_in i1 71 then sh_let (sh_setI μ 331 i1.toNatClampNeg (sh_i μ 330 i1.toNatClampNeg)) (fun μ9 => F_X12_putsAside fuel 1 (i1 + 1) μ9) else none) else none)) : Option sh_Mem) = some μ' := h
    refine vv_iload_n 7 1 dX12_putsAside_7 rfl rfl ?_
    refine vv_bipush 8 dX12_putsAside_8 bk_71 ?_
    refine vv_icmp_ge 10 31 dX12_putsAside_10 (by decide) (fun c6 => ?_) (fun c6 => ?_)
    · rw [if_pos c6] at h
      have e2 := Option.some.inj h
      refine vv_vret 31 dX12_putsAside_31 rfl (Nat.le_refl _) (Nat.le_refl _) ⟨rfl, e2⟩
    · rw [if_neg c6] at h
      refine vv_aload_n 13 0 dX12_putsAside_13 rfl rfl ?_
      refine vv_getR 14 dX12_putsAside_14 fl_12_133 rfl (g_l_291 hG) (g_r_291_53 hG) ?_
      refine vv_iload_n 17 1 dX12_putsAside_17 rfl rfl ?_
      refine vv_aload_n 18 0 dX12_putsAside_18 rfl rfl ?_
      refine vv_getR 19 dX12_putsAside_19 fl_12_130 rfl (g_l_291 hG) (g_r_291_52 hG) ?_
      refine vv_iload_n 22 1 dX12_putsAside_22 rfl rfl ?_
      obtain ⟨k7, h⟩ := sh_chk h
      refine vv_iald 23 dX12_putsAside_23 (g_l_330 hG) k7 ?_
      obtain ⟨k8, h⟩ := sh_chk h
      refine vn_iast 24 dX12_putsAside_24 (g_l_331 hG) k8 (fun μ9 eμ9 => ?_)
      rw [sh_let_eq eμ9] at h
      have hG9 : sh_G μ9 := by rw [eμ9]; exact hG
      refine vv_iincc (lv' := [(1, _), (0, _)]) 25 1 dX12_putsAside_25 rfl ik_1 (by decide) rfl ?_
      refine vv_goto 28 7 dX12_putsAside_28 (by decide) ?_
      refine vv_sub [(0, _), (1, _)] (sh_subm [1, 0] rfl) ?_
      exact ih_7 hG9 h
theorem gp_X12_putsAside {μ μ' : sh_Mem} (hG : sh_G μ) (h : f_X12_putsAside μ = some μ') : sh_G μ' := by
  have ih_7 := (gpl_X12_putsAside sh_fuel)
  unfold f_X12_putsAside at h
  obtain ⟨μ10, eμ10⟩ : ∃ y : sh_Mem, y = (sh_setI μ 291 57 1) := ⟨_, rfl⟩
  rw [sh_let_eq eμ10] at h
  have hG10 : sh_G μ10 := by rw [eμ10]; exact hG
  exact ih_7 hG10 h
theorem t_X12_putsAside {μ μ' : sh_Mem} (hG : sh_G μ) (h : f_X12_putsAside μ = some μ') : sh_C0 l B D ca 1 M_X12_putsAside [.ref 291] μ (fun v0 μ0 => v0 = none ∧ μ0 = μ') := by
  have ih_7 := (tl_X12_putsAside (l := l) (B := B) (D := D) (ca := ca) sh_fuel)
  unfold f_X12_putsAside at h
  refine vv_aload_n 0 0 dX12_putsAside_0 rfl rfl ?_
  refine vv_iconst 1 dX12_putsAside_1 ik_1 ?_
  refine vn_putZ 2 dX12_putsAside_2 fl_12_473 (Or.inl rfl) rfl (by decide) (g_l_291 hG) (fun μ10 eμ10 => ?_)
  rw [sh_let_eq eμ10] at h
  have hG10 : sh_G μ10 := by rw [eμ10]; exact hG
  refine vv_iconst 5 dX12_putsAside_5 ik_0 ?_
  refine vv_istore_n (lv' := [(1, _), (0, _)]) 6 1 dX12_putsAside_6 rfl (by decide) rfl ?_
  refine vv_sub [(0, _), (1, _)] (sh_subm [1, 0] rfl) ?_
  exact ih_7 hG10 h
noncomputable def F_X12_triesAnew : Nat → Nat → Int32 → sh_Mem → Option sh_Mem
  | 0, _, _, _ => none
  | fuel + 1, lbl, i1, μ => match lbl with
    | 1 => (if 71 ≤ i1 then some μ else (if sh_in i1 71 then (if sh_in i1 232 then sh_let (sh_setI μ 330 i1.toNatClampNeg (sh_i μ 331 i1.toNatClampNeg)) (fun μ8 => F_X12_triesAnew fuel 1 (i1 + 1) μ8) else none) else none))
    | _ => none
noncomputable def f_X12_triesAnew (μ : sh_Mem) : Option sh_Mem := F_X12_triesAnew sh_fuel 1 0 μ
theorem gpl_X12_triesAnew (fuel : Nat) : (∀ ⦃i1 : Int32⦄ ⦃μ μ' : sh_Mem⦄, sh_G μ → F_X12_triesAnew fuel 1 i1 μ = some μ' → sh_G μ') := by
  induction fuel with
  | zero => intro i1 μ μ' hG h; cases h
  | succ fuel ih =>
    have ih_2 := ih
    intro i1 μ μ' hG h
    replace h : ((if 71 ≤ i1 then some μ else (if sh_in i1 71 then (if sh_in i1 232 then sh_let (sh_setI μ 330 i1.toNatClampNeg (sh_i μ 331 i1.toNatClampNeg)) (fun μ8 => F_X12_triesAnew fuel 1 (i1 + 1) μ8) else none) else none)) : Option sh_Mem) = some μ' := h
    by_cases c5 : 71 ≤ i1
    · rw [if_pos c5] at h
      have e2 := Option.some.inj h
      exact e2 ▸ hG
    · rw [if_neg c5] at h
      obtain ⟨k6, h⟩ := sh_chk h
      obtain ⟨k7, h⟩ := sh_chk h
      obtain ⟨μ8, eμ8⟩ : ∃ y : sh_Mem, y = (sh_setI μ 330 i1.toNatClampNeg (sh_i μ 331 i1.toNatClampNeg)) := ⟨_, rfl⟩
      rw [sh_let_eq eμ8] at h
      have hG8 : sh_G μ8 := by rw [eμ8]; exact hG
      exact ih_2 hG8 h
theorem tl_X12_triesAnew (fuel : Nat) : (∀ ⦃i1 : Int32⦄ ⦃μ μ' : sh_Mem⦄, sh_G μ → F_X12_triesAnew fuel 1 i1 μ = some μ' → sh_V0 l B D ca 1 M_X12_triesAnew 2 [(0, .ref 291), (1, .int i1)] [] μ (fun v0 μ0 => v0 = none ∧ μ0 = μ')) := by
  induction fuel with
  | zero => intro i1 μ μ' hG h; cases h
  | succ fuel ih =>
    have ih_2 := ih
    intro i1 μ μ' hG h
    replace h : ((if 71 ≤ i1 then some μ else (if sh_in i1 71 then (if sh_in i1 232 then sh_let (sh_setI μ 330 i1.toNatClampNeg (sh_i μ 331 i1.toNatClampNeg)) (fun μ8 => F_X12_triesAnew fuel 1 (i1 + 1) μ8) else none) else none)) : Option sh_Mem) = some μ' := h
    refine vv_iload_n 2 1 dX12_triesAnew_2 rfl rfl ?_
    refine vv_bipush 3 dX12_triesAnew_3 bk_71 ?_
    refine vv_icmp_ge 5 26 dX12_triesAnew_5 (by decide) (fun c5 => ?_) (fun c5 => ?_)
    · rw [if_pos c5] at h
      have e2 := Option.some.inj h
      refine vv_vret 26 dX12_triesAnew_26 rfl (Nat.le_refl _) (Nat.le_refl _) ⟨rfl, e2⟩
    · rw [if_neg c5] at h
      refine vv_aload_n 8 0 dX12_triesAnew_8 rfl rfl ?_
      refine vv_getR 9 dX12_triesAnew_9 fl_12_130 rfl (g_l_291 hG) (g_r_291_52 hG) ?_
      refine vv_iload_n 12 1 dX12_triesAnew_12 rfl rfl ?_
      refine vv_aload_n 13 0 dX12_triesAnew_13 rfl rfl ?_
      refine vv_getR 14 dX12_triesAnew_14 fl_12_133 rfl (g_l_291 hG) (g_r_291_53 hG) ?_
      refine vv_iload_n 17 1 dX12_triesAnew_17 rfl rfl ?_
      obtain ⟨k6, h⟩ := sh_chk h
      refine vv_iald 18 dX12_triesAnew_18 (g_l_331 hG) k6 ?_
      obtain ⟨k7, h⟩ := sh_chk h
      refine vn_iast 19 dX12_triesAnew_19 (g_l_330 hG) k7 (fun μ8 eμ8 => ?_)
      rw [sh_let_eq eμ8] at h
      have hG8 : sh_G μ8 := by rw [eμ8]; exact hG
      refine vv_iincc (lv' := [(1, _), (0, _)]) 20 1 dX12_triesAnew_20 rfl ik_1 (by decide) rfl ?_
      refine vv_goto 23 2 dX12_triesAnew_23 (by decide) ?_
      refine vv_sub [(0, _), (1, _)] (sh_subm [1, 0] rfl) ?_
      exact ih_2 hG8 h
theorem gp_X12_triesAnew {μ μ' : sh_Mem} (hG : sh_G μ) (h : f_X12_triesAnew μ = some μ') : sh_G μ' := by
  have ih_2 := (gpl_X12_triesAnew sh_fuel)
  unfold f_X12_triesAnew at h
  exact ih_2 hG h
theorem t_X12_triesAnew {μ μ' : sh_Mem} (hG : sh_G μ) (h : f_X12_triesAnew μ = some μ') : sh_C0 l B D ca 1 M_X12_triesAnew [.ref 291] μ (fun v0 μ0 => v0 = none ∧ μ0 = μ') := by
  have ih_2 := (tl_X12_triesAnew (l := l) (B := B) (D := D) (ca := ca) sh_fuel)
  unfold f_X12_triesAnew at h
  refine vv_iconst 0 dX12_triesAnew_0 ik_0 ?_
  refine vv_istore_n (lv' := [(1, _), (0, _)]) 1 1 dX12_triesAnew_1 rfl (by decide) rfl ?_
  refine vv_sub [(0, _), (1, _)] (sh_subm [1, 0] rfl) ?_
  exact ih_2 hG h
noncomputable def f_X12_takesBack (μ : sh_Mem) : Option sh_Mem := sh_bindv (f_X12_triesAnew μ) (fun μ1 => sh_let (sh_setI μ1 291 60 0) (fun μ4 => sh_let (sh_setI μ4 291 57 0) (fun μ5 => some μ5)))
theorem gp_X12_takesBack {μ μ' : sh_Mem} (hG : sh_G μ) (h : f_X12_takesBack μ = some μ') : sh_G μ' := by
  unfold f_X12_takesBack at h
  obtain ⟨μ1, hr2, h⟩ := sh_bindv_e h
  have hG1 := gp_X12_triesAnew hG hr2
  obtain ⟨μ4, eμ4⟩ : ∃ y : sh_Mem, y = (sh_setI μ1 291 60 0) := ⟨_, rfl⟩
  rw [sh_let_eq eμ4] at h
  have hG4 : sh_G μ4 := by rw [eμ4]; exact hG1
  obtain ⟨μ5, eμ5⟩ : ∃ y : sh_Mem, y = (sh_setI μ4 291 57 0) := ⟨_, rfl⟩
  rw [sh_let_eq eμ5] at h
  have hG5 : sh_G μ5 := by rw [eμ5]; exact hG4
  have e2 := Option.some.inj h
  exact e2 ▸ hG5
theorem t_X12_takesBack {μ μ' : sh_Mem} (hG : sh_G μ) (h : f_X12_takesBack μ = some μ') : sh_C0 l B D ca 2 M_X12_takesBack [.ref 291] μ (fun v0 μ0 => v0 = none ∧ μ0 = μ') := by
  unfold f_X12_takesBack at h
  refine vv_aload_n 0 0 dX12_takesBack_0 rfl rfl ?_
  obtain ⟨μ1, hr2, h⟩ := sh_bindv_e h
  refine v1_callV [] 1 dX12_takesBack_1 ck_X12_504 (g_l_291 hG) ⟨by decide, rfl⟩ (t_X12_triesAnew hG hr2) (Nat.le_of_ble_eq_true rfl) ⟨Nat.le_of_ble_eq_true rfl, Nat.le_of_ble_eq_true rfl⟩ rfl (Nat.le_of_ble_eq_true rfl) ?_
  have hG1 := gp_X12_triesAnew hG hr2
  refine vv_aload_n 4 0 dX12_takesBack_4 rfl rfl ?_
  refine vv_iconst 5 dX12_takesBack_5 ik_0 ?_
  refine vn_putI 6 dX12_takesBack_6 fl_12_476 (Or.inl rfl) rfl (g_l_291 hG1) (fun μ4 eμ4 => ?_)
  rw [sh_let_eq eμ4] at h
  have hG4 : sh_G μ4 := by rw [eμ4]; exact hG1
  refine vv_aload_n 9 0 dX12_takesBack_9 rfl rfl ?_
  refine vv_iconst 10 dX12_takesBack_10 ik_0 ?_
  refine vn_putZ 11 dX12_takesBack_11 fl_12_473 (Or.inl rfl) rfl (by decide) (g_l_291 hG4) (fun μ5 eμ5 => ?_)
  rw [sh_let_eq eμ5] at h
  have hG5 : sh_G μ5 := by rw [eμ5]; exact hG4
  have e2 := Option.some.inj h
  refine vv_vret 14 dX12_takesBack_14 rfl (Nat.le_refl _) (Nat.le_refl _) ⟨rfl, e2⟩
noncomputable def f_X12_isAhead (a1 : Int32) (a2 : Int32) (a3 : Int32) (μ : sh_Mem) : Option (Int32 × sh_Mem) := (if (sh_i μ 291 50) = 0 then some (0, μ) else (if (f_X12_isIn μ (a1).toInt64 (a2).toInt64 (a3).toInt64) = 0 then some (0, μ) else (if 999 < ((sh_i μ 330 (Int32.toNatClampNeg 0)) + a1) then some (0, μ) else some (1, μ))))
theorem gp_X12_isAhead {a1 : Int32} {a2 : Int32} {a3 : Int32} {μ μ' : sh_Mem} {v : Int32} (hG : sh_G μ) (h : f_X12_isAhead a1 a2 a3 μ = some (v, μ')) : sh_G μ' := by
  unfold f_X12_isAhead at h
  by_cases c1 : (sh_i μ 291 50) = 0
  · rw [if_pos c1] at h
    obtain ⟨e1, e2⟩ := sh_some2 h
    exact e2 ▸ hG
  · rw [if_neg c1] at h
    by_cases c2 : (f_X12_isIn μ (a1).toInt64 (a2).toInt64 (a3).toInt64) = 0
    · rw [if_pos c2] at h
      obtain ⟨e1, e2⟩ := sh_some2 h
      exact e2 ▸ hG
    · rw [if_neg c2] at h
      by_cases c3 : 999 < ((sh_i μ 330 (Int32.toNatClampNeg 0)) + a1)
      · rw [if_pos c3] at h
        obtain ⟨e1, e2⟩ := sh_some2 h
        exact e2 ▸ hG
      · rw [if_neg c3] at h
        obtain ⟨e1, e2⟩ := sh_some2 h
        exact e2 ▸ hG
theorem t_X12_isAhead {a1 : Int32} {a2 : Int32} {a3 : Int32} {μ μ' : sh_Mem} {v : Int32} (hG : sh_G μ) (h : f_X12_isAhead a1 a2 a3 μ = some (v, μ')) : sh_C0 l B D ca 2 M_X12_isAhead [.ref 291, .int a1, .int a2, .int a3] μ (fun v0 μ0 => v0 = some (.int v) ∧ μ0 = μ') := by
  unfold f_X12_isAhead at h
  refine vv_aload_n 0 0 dX12_isAhead_0 rfl rfl ?_
  refine vv_getI 1 dX12_isAhead_1 fl_12_398 rfl (g_l_291 hG) ?_
  refine vv_if_eq 4 37 dX12_isAhead_4 (by decide) (fun c1 => ?_) (fun c1 => ?_)
  · rw [if_pos c1] at h
    refine vv_iconst 37 dX12_isAhead_37 ik_0 ?_
    obtain ⟨e1, e2⟩ := sh_some2 h
    refine vv_zret 38 dX12_isAhead_38 rfl rfl (Nat.le_refl _) (Nat.le_refl _) ⟨by rw [e1], e2⟩
  · rw [if_neg c1] at h
    refine vv_iload_n 7 1 dX12_isAhead_7 rfl rfl ?_
    refine vv_i2l 8 dX12_isAhead_8 ?_
    refine vv_iload_n 9 2 dX12_isAhead_9 rfl rfl ?_
    refine vv_i2l 10 dX12_isAhead_10 ?_
    refine vv_iload_n 11 3 dX12_isAhead_11 rfl rfl ?_
    refine vv_i2l 12 dX12_isAhead_12 ?_
    refine v1_callS [_, _, _] 13 dX12_isAhead_13 ck_X12_296 (c_X12_isIn (μ := μ) hG) (Nat.le_of_ble_eq_true rfl) ⟨Nat.le_of_ble_eq_true rfl, Nat.le_of_ble_eq_true rfl⟩ rfl (Nat.le_of_ble_eq_true rfl) ?_
    refine vv_if_eq 16 37 dX12_isAhead_16 (by decide) (fun c2 => ?_) (fun c2 => ?_)
    · rw [if_pos c2] at h
      refine vv_iconst 37 dX12_isAhead_37 ik_0 ?_
      obtain ⟨e1, e2⟩ := sh_some2 h
      refine vv_zret 38 dX12_isAhead_38 rfl rfl (Nat.le_refl _) (Nat.le_refl _) ⟨by rw [e1], e2⟩
    · rw [if_neg c2] at h
      refine vv_aload_n 19 0 dX12_isAhead_19 rfl rfl ?_
      refine vv_getR 20 dX12_isAhead_20 fl_12_130 rfl (g_l_291 hG) (g_r_291_52 hG) ?_
      refine vv_iconst 23 dX12_isAhead_23 ik_0 ?_
      refine vv_iald 24 dX12_isAhead_24 (g_l_330 hG) (by unfold vp_in; decide) ?_
      refine vv_iload_n 25 1 dX12_isAhead_25 rfl rfl ?_
      refine vv_iadd 26 dX12_isAhead_26 ?_
      refine vv_sipush 27 dX12_isAhead_27 sk_999 ?_
      refine vv_icmp_gt 30 37 dX12_isAhead_30 (by decide) (fun c3 => ?_) (fun c3 => ?_)
      · rw [if_pos c3] at h
        refine vv_iconst 37 dX12_isAhead_37 ik_0 ?_
        obtain ⟨e1, e2⟩ := sh_some2 h
        refine vv_zret 38 dX12_isAhead_38 rfl rfl (Nat.le_refl _) (Nat.le_refl _) ⟨by rw [e1], e2⟩
      · rw [if_neg c3] at h
        refine vv_iconst 33 dX12_isAhead_33 ik_1 ?_
        refine vv_goto 34 38 dX12_isAhead_34 (by decide) ?_
        obtain ⟨e1, e2⟩ := sh_some2 h
        refine vv_zret 38 dX12_isAhead_38 rfl rfl (Nat.le_refl _) (Nat.le_refl _) ⟨by rw [e1], e2⟩
noncomputable def F_X12_heightsAll : Nat → Nat → Int32 → Int32 → sh_Mem → Option (Int32 × sh_Mem)
  | 0, _, _, _, _ => none
  | fuel + 1, lbl, i1, i2, μ => match lbl with
    | 1 => sh_bind (f_X12_cellMany μ) (fun y14 μ12 => (if y14 ≤ i2 then some (i1, μ12) else sh_bind (f_X12_cellOrder i2 μ12) (fun y18 μ16 => sh_bind (f_X12_heightOf y18 μ16) (fun y21 μ19 => sh_let ((i1 + y21) : Int32) (fun x22 => F_X12_heightsAll fuel 1 x22 (i2 + 1) μ19)))))
    | _ => none
noncomputable def f_X12_heightsAll (μ : sh_Mem) : Option (Int32 × sh_Mem) := F_X12_heightsAll sh_fuel 1 0 0 μ
theorem gpl_X12_heightsAll (fuel : Nat) : (∀ ⦃i1 : Int32⦄ ⦃i2 : Int32⦄ ⦃μ μ' : sh_Mem⦄ ⦃v : Int32⦄, sh_G μ → F_X12_heightsAll fuel 1 i1 i2 μ = some (v, μ') → sh_G μ') := by
  induction fuel with
  | zero => intro i1 i2 μ μ' v hG h; cases h
  | succ fuel ih =>
    have ih_4 := ih
    intro i1 i2 μ μ' v hG h
    replace h : (sh_bind (f_X12_cellMany μ) (fun y14 μ12 => (if y14 ≤ i2 then some (i1, μ12) else sh_bind (f_X12_cellOrder i2 μ12) (fun y18 μ16 => sh_bind (f_X12_heightOf y18 μ16) (fun y21 μ19 => sh_let ((i1 + y21) : Int32) (fun x22 => F_X12_heightsAll fuel 1 x22 (i2 + 1) μ19))))) : Option (Int32 × sh_Mem)) = some (v, μ') := h
    obtain ⟨y14, μ12, hr13, h⟩ := sh_bind_e h
    have hG12 := gp_X12_cellMany hG hr13
    by_cases c15 : y14 ≤ i2
    · rw [if_pos c15] at h
      obtain ⟨e1, e2⟩ := sh_some2 h
      exact e2 ▸ hG12
    · rw [if_neg c15] at h
      obtain ⟨y18, μ16, hr17, h⟩ := sh_bind_e h
      have hG16 := gp_X12_cellOrder hG12 hr17
      obtain ⟨y21, μ19, hr20, h⟩ := sh_bind_e h
      have hG19 := gp_X12_heightOf hG16 hr20
      obtain ⟨x22, ex22⟩ : ∃ y : Int32, y = (i1 + y21) := ⟨_, rfl⟩
      rw [sh_let_eq ex22] at h
      exact ih_4 hG19 h
theorem tl_X12_heightsAll (fuel : Nat) : (∀ ⦃i1 : Int32⦄ ⦃i2 : Int32⦄ ⦃μ μ' : sh_Mem⦄ ⦃v : Int32⦄, sh_G μ → F_X12_heightsAll fuel 1 i1 i2 μ = some (v, μ') → sh_V0 l B D ca 2 M_X12_heightsAll 4 [(0, .ref 291), (1, .int i1), (2, .int i2)] [] μ (fun v0 μ0 => v0 = some (.int v) ∧ μ0 = μ')) := by
  induction fuel with
  | zero => intro i1 i2 μ μ' v hG h; cases h
  | succ fuel ih =>
    have ih_4 := ih
    intro i1 i2 μ μ' v hG h
    replace h : (sh_bind (f_X12_cellMany μ) (fun y14 μ12 => (if y14 ≤ i2 then some (i1, μ12) else sh_bind (f_X12_cellOrder i2 μ12) (fun y18 μ16 => sh_bind (f_X12_heightOf y18 μ16) (fun y21 μ19 => sh_let ((i1 + y21) : Int32) (fun x22 => F_X12_heightsAll fuel 1 x22 (i2 + 1) μ19))))) : Option (Int32 × sh_Mem)) = some (v, μ') := h
    refine vv_iload_n 4 2 dX12_heightsAll_4 rfl rfl ?_
    refine vv_aload_n 5 0 dX12_heightsAll_5 rfl rfl ?_
    obtain ⟨y14, μ12, hr13, h⟩ := sh_bind_e h
    refine v1_callV [] 6 dX12_heightsAll_6 ck_X12_447 (g_l_291 hG) ⟨by decide, rfl⟩ (t_X12_cellMany hG hr13) (Nat.le_of_ble_eq_true rfl) ⟨Nat.le_of_ble_eq_true rfl, Nat.le_of_ble_eq_true rfl⟩ rfl (Nat.le_of_ble_eq_true rfl) ?_
    have hG12 := gp_X12_cellMany hG hr13
    refine vv_icmp_ge 9 30 dX12_heightsAll_9 (by decide) (fun c15 => ?_) (fun c15 => ?_)
    · rw [if_pos c15] at h
      refine vv_iload_n 30 1 dX12_heightsAll_30 rfl rfl ?_
      obtain ⟨e1, e2⟩ := sh_some2 h
      refine vv_iret 31 dX12_heightsAll_31 rfl (Nat.le_refl _) (Nat.le_refl _) ⟨by rw [e1], e2⟩
    · rw [if_neg c15] at h
      refine vv_iload_n 12 1 dX12_heightsAll_12 rfl rfl ?_
      refine vv_aload_n 13 0 dX12_heightsAll_13 rfl rfl ?_
      refine vv_aload_n 14 0 dX12_heightsAll_14 rfl rfl ?_
      refine vv_iload_n 15 2 dX12_heightsAll_15 rfl rfl ?_
      obtain ⟨y18, μ16, hr17, h⟩ := sh_bind_e h
      refine v1_callV [_] 16 dX12_heightsAll_16 ck_X12_450 (g_l_291 hG12) ⟨by decide, rfl⟩ (t_X12_cellOrder hG12 hr17) (Nat.le_of_ble_eq_true rfl) ⟨Nat.le_of_ble_eq_true rfl, Nat.le_of_ble_eq_true rfl⟩ rfl (Nat.le_of_ble_eq_true rfl) ?_
      have hG16 := gp_X12_cellOrder hG12 hr17
      obtain ⟨y21, μ19, hr20, h⟩ := sh_bind_e h
      refine v1_callV [_] 19 dX12_heightsAll_19 ck_X12_453 (g_l_291 hG16) ⟨by decide, rfl⟩ (t_X12_heightOf hG16 hr20) (Nat.le_of_ble_eq_true rfl) ⟨Nat.le_of_ble_eq_true rfl, Nat.le_of_ble_eq_true rfl⟩ rfl (Nat.le_of_ble_eq_true rfl) ?_
      have hG19 := gp_X12_heightOf hG16 hr20
      refine vv_iadd 22 dX12_heightsAll_22 ?_
      refine vv_topi (fun x22 ex22 => ?_)
      rw [sh_let_eq ex22] at h
      refine vv_istore_n (lv' := [(1, _), (0, _), (2, _)]) 23 1 dX12_heightsAll_23 rfl (by decide) rfl ?_
      refine vv_iincc (lv' := [(2, _), (1, _), (0, _)]) 24 2 dX12_heightsAll_24 rfl ik_1 (by decide) rfl ?_
      refine vv_goto 27 4 dX12_heightsAll_27 (by decide) ?_
      refine vv_sub [(0, _), (1, _), (2, _)] (sh_subm [2, 1, 0] rfl) ?_
      exact ih_4 hG19 h
theorem gp_X12_heightsAll {μ μ' : sh_Mem} {v : Int32} (hG : sh_G μ) (h : f_X12_heightsAll μ = some (v, μ')) : sh_G μ' := by
  have ih_4 := (gpl_X12_heightsAll sh_fuel)
  unfold f_X12_heightsAll at h
  exact ih_4 hG h
theorem t_X12_heightsAll {μ μ' : sh_Mem} {v : Int32} (hG : sh_G μ) (h : f_X12_heightsAll μ = some (v, μ')) : sh_C0 l B D ca 2 M_X12_heightsAll [.ref 291] μ (fun v0 μ0 => v0 = some (.int v) ∧ μ0 = μ') := by
  have ih_4 := (tl_X12_heightsAll (l := l) (B := B) (D := D) (ca := ca) sh_fuel)
  unfold f_X12_heightsAll at h
  refine vv_iconst 0 dX12_heightsAll_0 ik_0 ?_
  refine vv_istore_n (lv' := [(1, _), (0, _)]) 1 1 dX12_heightsAll_1 rfl (by decide) rfl ?_
  refine vv_iconst 2 dX12_heightsAll_2 ik_0 ?_
  refine vv_istore_n (lv' := [(2, _), (1, _), (0, _)]) 3 2 dX12_heightsAll_3 rfl (by decide) rfl ?_
  refine vv_sub [(0, _), (1, _), (2, _)] (sh_subm [2, 1, 0] rfl) ?_
  exact ih_4 hG h
noncomputable def f_X12_has (a1 : Int32) (μ : sh_Mem) : Option (Int32 × sh_Mem) := (if a1 = 0 then (if sh_in (3 + a1) 6 then some ((sh_i μ 321 ((3 + a1)).toNatClampNeg), μ) else none) else (if a1 = 1 then (if sh_in (3 + a1) 6 then some ((sh_i μ 321 ((3 + a1)).toNatClampNeg), μ) else none) else (if a1 = 2 then sh_bind (f_X12_topicMany μ) (fun y8 μ6 => some (y8, μ6)) else (if a1 = 3 then sh_bind (f_X12_personMany μ) (fun y12 μ10 => some (y12, μ10)) else (if a1 = 4 then sh_bind (f_X12_listMany μ) (fun y16 μ14 => some (y16, μ14)) else (if a1 = 5 then some ((sh_i μ 330 (Int32.toNatClampNeg 0)), μ) else (if a1 = 6 then sh_bind (f_X12_heightsAll μ) (fun y21 μ19 => some (y21, μ19)) else (if a1 = 7 then some ((sh_i μ 330 (Int32.toNatClampNeg 71)), μ) else (if a1 = 8 then some ((sh_i μ 291 71), μ) else (if a1 = 9 then some ((sh_i μ 291 76), μ) else some ((-1), μ)))))))))))
theorem gp_X12_has {a1 : Int32} {μ μ' : sh_Mem} {v : Int32} (hG : sh_G μ) (h : f_X12_has a1 μ = some (v, μ')) : sh_G μ' := by
  unfold f_X12_has at h
  by_cases c1 : a1 = 0
  · rw [if_pos c1] at h
    obtain ⟨k2, h⟩ := sh_chk h
    obtain ⟨e1, e2⟩ := sh_some2 h
    exact e2 ▸ hG
  rw [if_neg c1] at h
  by_cases c3 : a1 = 1
  · rw [if_pos c3] at h
    obtain ⟨k4, h⟩ := sh_chk h
    obtain ⟨e1, e2⟩ := sh_some2 h
    exact e2 ▸ hG
  rw [if_neg c3] at h
  by_cases c5 : a1 = 2
  · rw [if_pos c5] at h
    obtain ⟨y8, μ6, hr7, h⟩ := sh_bind_e h
    have hG6 := gp_X12_topicMany hG hr7
    obtain ⟨e1, e2⟩ := sh_some2 h
    exact e2 ▸ hG6
  rw [if_neg c5] at h
  by_cases c9 : a1 = 3
  · rw [if_pos c9] at h
    obtain ⟨y12, μ10, hr11, h⟩ := sh_bind_e h
    have hG10 := gp_X12_personMany hG hr11
    obtain ⟨e1, e2⟩ := sh_some2 h
    exact e2 ▸ hG10
  rw [if_neg c9] at h
  by_cases c13 : a1 = 4
  · rw [if_pos c13] at h
    obtain ⟨y16, μ14, hr15, h⟩ := sh_bind_e h
    have hG14 := gp_X12_listMany hG hr15
    obtain ⟨e1, e2⟩ := sh_some2 h
    exact e2 ▸ hG14
  rw [if_neg c13] at h
  by_cases c17 : a1 = 5
  · rw [if_pos c17] at h
    obtain ⟨e1, e2⟩ := sh_some2 h
    exact e2 ▸ hG
  rw [if_neg c17] at h
  by_cases c18 : a1 = 6
  · rw [if_pos c18] at h
    obtain ⟨y21, μ19, hr20, h⟩ := sh_bind_e h
    have hG19 := gp_X12_heightsAll hG hr20
    obtain ⟨e1, e2⟩ := sh_some2 h
    exact e2 ▸ hG19
  rw [if_neg c18] at h
  by_cases c22 : a1 = 7
  · rw [if_pos c22] at h
    obtain ⟨e1, e2⟩ := sh_some2 h
    exact e2 ▸ hG
  rw [if_neg c22] at h
  by_cases c23 : a1 = 8
  · rw [if_pos c23] at h
    obtain ⟨e1, e2⟩ := sh_some2 h
    exact e2 ▸ hG
  rw [if_neg c23] at h
  by_cases c24 : a1 = 9
  · rw [if_pos c24] at h
    obtain ⟨e1, e2⟩ := sh_some2 h
    exact e2 ▸ hG
  rw [if_neg c24] at h
  obtain ⟨e1, e2⟩ := sh_some2 h
  exact e2 ▸ hG
theorem t_X12_has {a1 : Int32} {μ μ' : sh_Mem} {v : Int32} (hG : sh_G μ) (h : f_X12_has a1 μ = some (v, μ')) : sh_C0 l B D ca 3 M_X12_has [.ref 291, .int a1] μ (fun v0 μ0 => v0 = some (.int v) ∧ μ0 = μ') := by
  unfold f_X12_has at h
  refine vv_iload_n 0 1 dX12_has_0 rfl rfl ?_
  by_cases c1 : a1 = 0
  · rw [if_pos c1] at h
    refine vv_tabIn 1 56 dX12_has_1 (by rw [c1]; decide) (by rw [c1]; decide) (off := 55) (by rw [c1]; decide) (by decide) ?_
    refine vv_aload_n 56 0 dX12_has_56 rfl rfl ?_
    refine vv_getR 57 dX12_has_57 fl_12_102 rfl (g_l_291 hG) (g_r_291_39 hG) ?_
    refine vv_iconst 60 dX12_has_60 ik_3 ?_
    refine vv_iload_n 61 1 dX12_has_61 rfl rfl ?_
    refine vv_iadd 62 dX12_has_62 ?_
    obtain ⟨k2, h⟩ := sh_chk h
    refine vv_iald 63 dX12_has_63 (g_l_321 hG) k2 ?_
    obtain ⟨e1, e2⟩ := sh_some2 h
    refine vv_iret 64 dX12_has_64 rfl (Nat.le_refl _) (Nat.le_refl _) ⟨by rw [e1], e2⟩
  rw [if_neg c1] at h
  by_cases c3 : a1 = 1
  · rw [if_pos c3] at h
    refine vv_tabIn 1 56 dX12_has_1 (by rw [c3]; decide) (by rw [c3]; decide) (off := 55) (by rw [c3]; decide) (by decide) ?_
    refine vv_aload_n 56 0 dX12_has_56 rfl rfl ?_
    refine vv_getR 57 dX12_has_57 fl_12_102 rfl (g_l_291 hG) (g_r_291_39 hG) ?_
    refine vv_iconst 60 dX12_has_60 ik_3 ?_
    refine vv_iload_n 61 1 dX12_has_61 rfl rfl ?_
    refine vv_iadd 62 dX12_has_62 ?_
    obtain ⟨k4, h⟩ := sh_chk h
    refine vv_iald 63 dX12_has_63 (g_l_321 hG) k4 ?_
    obtain ⟨e1, e2⟩ := sh_some2 h
    refine vv_iret 64 dX12_has_64 rfl (Nat.le_refl _) (Nat.le_refl _) ⟨by rw [e1], e2⟩
  rw [if_neg c3] at h
  by_cases c5 : a1 = 2
  · rw [if_pos c5] at h
    refine vv_tabIn 1 65 dX12_has_1 (by rw [c5]; decide) (by rw [c5]; decide) (off := 64) (by rw [c5]; decide) (by decide) ?_
    refine vv_aload_n 65 0 dX12_has_65 rfl rfl ?_
    obtain ⟨y8, μ6, hr7, h⟩ := sh_bind_e h
    refine v1_callV [] 66 dX12_has_66 ck_X12_408 (g_l_291 hG) ⟨by decide, rfl⟩ (t_X12_topicMany hG hr7) (Nat.le_of_ble_eq_true rfl) ⟨Nat.le_of_ble_eq_true rfl, Nat.le_of_ble_eq_true rfl⟩ rfl (Nat.le_of_ble_eq_true rfl) ?_
    have hG6 := gp_X12_topicMany hG hr7
    obtain ⟨e1, e2⟩ := sh_some2 h
    refine vv_iret 69 dX12_has_69 rfl (Nat.le_refl _) (Nat.le_refl _) ⟨by rw [e1], e2⟩
  rw [if_neg c5] at h
  by_cases c9 : a1 = 3
  · rw [if_pos c9] at h
    refine vv_tabIn 1 70 dX12_has_1 (by rw [c9]; decide) (by rw [c9]; decide) (off := 69) (by rw [c9]; decide) (by decide) ?_
    refine vv_aload_n 70 0 dX12_has_70 rfl rfl ?_
    obtain ⟨y12, μ10, hr11, h⟩ := sh_bind_e h
    refine v1_callV [] 71 dX12_has_71 ck_X12_411 (g_l_291 hG) ⟨by decide, rfl⟩ (t_X12_personMany hG hr11) (Nat.le_of_ble_eq_true rfl) ⟨Nat.le_of_ble_eq_true rfl, Nat.le_of_ble_eq_true rfl⟩ rfl (Nat.le_of_ble_eq_true rfl) ?_
    have hG10 := gp_X12_personMany hG hr11
    obtain ⟨e1, e2⟩ := sh_some2 h
    refine vv_iret 74 dX12_has_74 rfl (Nat.le_refl _) (Nat.le_refl _) ⟨by rw [e1], e2⟩
  rw [if_neg c9] at h
  by_cases c13 : a1 = 4
  · rw [if_pos c13] at h
    refine vv_tabIn 1 75 dX12_has_1 (by rw [c13]; decide) (by rw [c13]; decide) (off := 74) (by rw [c13]; decide) (by decide) ?_
    refine vv_aload_n 75 0 dX12_has_75 rfl rfl ?_
    obtain ⟨y16, μ14, hr15, h⟩ := sh_bind_e h
    refine v1_callV [] 76 dX12_has_76 ck_X12_495 (g_l_291 hG) ⟨by decide, rfl⟩ (t_X12_listMany hG hr15) (Nat.le_of_ble_eq_true rfl) ⟨Nat.le_of_ble_eq_true rfl, Nat.le_of_ble_eq_true rfl⟩ rfl (Nat.le_of_ble_eq_true rfl) ?_
    have hG14 := gp_X12_listMany hG hr15
    obtain ⟨e1, e2⟩ := sh_some2 h
    refine vv_iret 79 dX12_has_79 rfl (Nat.le_refl _) (Nat.le_refl _) ⟨by rw [e1], e2⟩
  rw [if_neg c13] at h
  by_cases c17 : a1 = 5
  · rw [if_pos c17] at h
    refine vv_tabIn 1 80 dX12_has_1 (by rw [c17]; decide) (by rw [c17]; decide) (off := 79) (by rw [c17]; decide) (by decide) ?_
    refine vv_aload_n 80 0 dX12_has_80 rfl rfl ?_
    refine vv_getR 81 dX12_has_81 fl_12_130 rfl (g_l_291 hG) (g_r_291_52 hG) ?_
    refine vv_iconst 84 dX12_has_84 ik_0 ?_
    refine vv_iald 85 dX12_has_85 (g_l_330 hG) (by unfold vp_in; decide) ?_
    obtain ⟨e1, e2⟩ := sh_some2 h
    refine vv_iret 86 dX12_has_86 rfl (Nat.le_refl _) (Nat.le_refl _) ⟨by rw [e1], e2⟩
  rw [if_neg c17] at h
  by_cases c18 : a1 = 6
  · rw [if_pos c18] at h
    refine vv_tabIn 1 87 dX12_has_1 (by rw [c18]; decide) (by rw [c18]; decide) (off := 86) (by rw [c18]; decide) (by decide) ?_
    refine vv_aload_n 87 0 dX12_has_87 rfl rfl ?_
    obtain ⟨y21, μ19, hr20, h⟩ := sh_bind_e h
    refine v1_callV [] 88 dX12_has_88 ck_X12_513 (g_l_291 hG) ⟨by decide, rfl⟩ (t_X12_heightsAll hG hr20) (Nat.le_of_ble_eq_true rfl) ⟨Nat.le_of_ble_eq_true rfl, Nat.le_of_ble_eq_true rfl⟩ rfl (Nat.le_of_ble_eq_true rfl) ?_
    have hG19 := gp_X12_heightsAll hG hr20
    obtain ⟨e1, e2⟩ := sh_some2 h
    refine vv_iret 91 dX12_has_91 rfl (Nat.le_refl _) (Nat.le_refl _) ⟨by rw [e1], e2⟩
  rw [if_neg c18] at h
  by_cases c22 : a1 = 7
  · rw [if_pos c22] at h
    refine vv_tabIn 1 92 dX12_has_1 (by rw [c22]; decide) (by rw [c22]; decide) (off := 91) (by rw [c22]; decide) (by decide) ?_
    refine vv_aload_n 92 0 dX12_has_92 rfl rfl ?_
    refine vv_getR 93 dX12_has_93 fl_12_130 rfl (g_l_291 hG) (g_r_291_52 hG) ?_
    refine vv_bipush 96 dX12_has_96 bk_71 ?_
    refine vv_iald 98 dX12_has_98 (g_l_330 hG) (by unfold vp_in; decide) ?_
    obtain ⟨e1, e2⟩ := sh_some2 h
    refine vv_iret 99 dX12_has_99 rfl (Nat.le_refl _) (Nat.le_refl _) ⟨by rw [e1], e2⟩
  rw [if_neg c22] at h
  by_cases c23 : a1 = 8
  · rw [if_pos c23] at h
    refine vv_tabIn 1 100 dX12_has_1 (by rw [c23]; decide) (by rw [c23]; decide) (off := 99) (by rw [c23]; decide) (by decide) ?_
    refine vv_aload_n 100 0 dX12_has_100 rfl rfl ?_
    refine vv_getI 101 dX12_has_101 fl_12_405 rfl (g_l_291 hG) ?_
    obtain ⟨e1, e2⟩ := sh_some2 h
    refine vv_iret 104 dX12_has_104 rfl (Nat.le_refl _) (Nat.le_refl _) ⟨by rw [e1], e2⟩
  rw [if_neg c23] at h
  by_cases c24 : a1 = 9
  · rw [if_pos c24] at h
    refine vv_tabIn 1 105 dX12_has_1 (by rw [c24]; decide) (by rw [c24]; decide) (off := 104) (by rw [c24]; decide) (by decide) ?_
    refine vv_aload_n 105 0 dX12_has_105 rfl rfl ?_
    refine vv_getI 106 dX12_has_106 fl_12_402 rfl (g_l_291 hG) ?_
    obtain ⟨e1, e2⟩ := sh_some2 h
    refine vv_iret 109 dX12_has_109 rfl (Nat.le_refl _) (Nat.le_refl _) ⟨by rw [e1], e2⟩
  rw [if_neg c24] at h
  refine vv_tabOut 1 110 dX12_has_1 (sh_tout 0 9 (by intro j h1 h2; rcases (show j = 0 ∨ j = 1 ∨ j = 2 ∨ j = 3 ∨ j = 4 ∨ j = 5 ∨ j = 6 ∨ j = 7 ∨ j = 8 ∨ j = 9 by omega) with rfl | rfl | rfl | rfl | rfl | rfl | rfl | rfl | rfl | rfl <;> first | exact sh_lne c1 (by decide) | exact sh_lne c3 (by decide) | exact sh_lne c5 (by decide) | exact sh_lne c9 (by decide) | exact sh_lne c13 (by decide) | exact sh_lne c17 (by decide) | exact sh_lne c18 (by decide) | exact sh_lne c22 (by decide) | exact sh_lne c23 (by decide) | exact sh_lne c24 (by decide))) (by decide) ?_
  refine vv_iconst 110 dX12_has_110 ik_m1 ?_
  obtain ⟨e1, e2⟩ := sh_some2 h
  refine vv_iret 111 dX12_has_111 rfl (Nat.le_refl _) (Nat.le_refl _) ⟨by rw [e1], e2⟩
noncomputable def F_X12_letter : Nat → Nat → Int32 → Int32 → Int32 → Int64 → Int32 → Int32 → Int64 → sh_Mem → Option (Int32 × sh_Mem)
  | 0, _, _, _, _, _, _, _, _, _ => none
  | fuel + 1, lbl, i1, i2, i3, l4, i6, i7, l7, μ => match lbl with
    | 1 => (if (lg_cmp l7 0) ≤ 0 then (if i3 < i6 then sh_let ((i6 - 1) : Int32) (fun x21 => F_X12_letter fuel 2 i1 i2 i3 l4 i6 x21 0 μ) else some (0, μ)) else sh_let ((l7 / 27) : Int64) (fun x22 => F_X12_letter fuel 1 i1 i2 i3 l4 (i6 + 1) 0 x22 μ))
    | 2 => (if i7 ≤ i3 then some (((l4 - l4 / 27 * 27)).toInt32, μ) else sh_let ((l4 / 27) : Int64) (fun x24 => F_X12_letter fuel 2 i1 i2 i3 x24 i6 (i7 + (-1)) 0 μ))
    | _ => none
noncomputable def f_X12_letter (a1 : Int32) (a2 : Int32) (a3 : Int32) (μ : sh_Mem) : Option (Int32 × sh_Mem) := (if (f_X12_isIn μ (a1).toInt64 0 1) = 0 then some ((-1), μ) else (if sh_in (3 + a1) 6 then (if (f_X12_isIn μ (a2).toInt64 0 (((sh_i μ 322 ((3 + a1)).toNatClampNeg) - 1)).toInt64) = 0 then some ((-1), μ) else (if (f_X12_isIn μ (a3).toInt64 0 5) = 0 then some ((-1), μ) else (if sh_in ((16 + (8 * a1)) + a2) 32 then sh_let ((sh_l μ 323 (((16 + (8 * a1)) + a2)).toNatClampNeg) : Int64) (fun x30 => F_X12_letter sh_fuel 1 a1 a2 a3 x30 0 0 x30 μ) else none))) else none))
theorem gpl_X12_letter (fuel : Nat) : (∀ ⦃i1 : Int32⦄ ⦃i2 : Int32⦄ ⦃i3 : Int32⦄ ⦃l4 : Int64⦄ ⦃i6 : Int32⦄ ⦃i7 : Int32⦄ ⦃l7 : Int64⦄ ⦃μ μ' : sh_Mem⦄ ⦃v : Int32⦄, sh_G μ → F_X12_letter fuel 1 i1 i2 i3 l4 i6 i7 l7 μ = some (v, μ') → sh_G μ') ∧ (∀ ⦃i1 : Int32⦄ ⦃i2 : Int32⦄ ⦃i3 : Int32⦄ ⦃l4 : Int64⦄ ⦃i6 : Int32⦄ ⦃i7 : Int32⦄ ⦃l7 : Int64⦄ ⦃μ μ' : sh_Mem⦄ ⦃v : Int32⦄, sh_G μ → F_X12_letter fuel 2 i1 i2 i3 l4 i6 i7 l7 μ = some (v, μ') → sh_G μ') := by
  induction fuel with
  | zero => exact ⟨(by intro i1 i2 i3 l4 i6 i7 l7 μ μ' v hG h; cases h), (by intro i1 i2 i3 l4 i6 i7 l7 μ μ' v hG h; cases h)⟩
  | succ fuel ih =>
    obtain ⟨ih_67, ih_102⟩ := ih
    refine ⟨?_, ?_⟩
    · intro i1 i2 i3 l4 i6 i7 l7 μ μ' v hG h
      replace h : ((if (lg_cmp l7 0) ≤ 0 then (if i3 < i6 then sh_let ((i6 - 1) : Int32) (fun x21 => F_X12_letter fuel 2 i1 i2 i3 l4 i6 x21 0 μ) else some (0, μ)) else sh_let ((l7 / 27) : Int64) (fun x22 => F_X12_letter fuel 1 i1 i2 i3 l4 (i6 + 1) 0 x22 μ)) : Option (Int32 × sh_Mem)) = some (v, μ') := h
      by_cases c19 : (lg_cmp l7 0) ≤ 0
      · rw [if_pos c19] at h
        by_cases c20 : i3 < i6
        · rw [if_pos c20] at h
          obtain ⟨x21, ex21⟩ : ∃ y : Int32, y = (i6 - 1) := ⟨_, rfl⟩
          rw [sh_let_eq ex21] at h
          exact ih_102 hG h
        · rw [if_neg c20] at h
          obtain ⟨e1, e2⟩ := sh_some2 h
          exact e2 ▸ hG
      · rw [if_neg c19] at h
        obtain ⟨x22, ex22⟩ : ∃ y : Int64, y = (l7 / 27) := ⟨_, rfl⟩
        rw [sh_let_eq ex22] at h
        exact ih_67 hG h
    · intro i1 i2 i3 l4 i6 i7 l7 μ μ' v hG h
      replace h : ((if i7 ≤ i3 then some (((l4 - l4 / 27 * 27)).toInt32, μ) else sh_let ((l4 / 27) : Int64) (fun x24 => F_X12_letter fuel 2 i1 i2 i3 x24 i6 (i7 + (-1)) 0 μ)) : Option (Int32 × sh_Mem)) = some (v, μ') := h
      by_cases c23 : i7 ≤ i3
      · rw [if_pos c23] at h
        obtain ⟨e1, e2⟩ := sh_some2 h
        exact e2 ▸ hG
      · rw [if_neg c23] at h
        obtain ⟨x24, ex24⟩ : ∃ y : Int64, y = (l4 / 27) := ⟨_, rfl⟩
        rw [sh_let_eq ex24] at h
        exact ih_102 hG h
theorem tl_X12_letter (fuel : Nat) : (∀ ⦃i1 : Int32⦄ ⦃i2 : Int32⦄ ⦃i3 : Int32⦄ ⦃l4 : Int64⦄ ⦃i6 : Int32⦄ ⦃i7 : Int32⦄ ⦃l7 : Int64⦄ ⦃μ μ' : sh_Mem⦄ ⦃v : Int32⦄, sh_G μ → F_X12_letter fuel 1 i1 i2 i3 l4 i6 i7 l7 μ = some (v, μ') → sh_V0 l B D ca 2 M_X12_letter 67 [(0, .ref 291), (1, .int i1), (2, .int i2), (3, .int i3), (4, .long l4), (6, .int i6), (7, .long l7)] [] μ (fun v0 μ0 => v0 = some (.int v) ∧ μ0 = μ')) ∧ (∀ ⦃i1 : Int32⦄ ⦃i2 : Int32⦄ ⦃i3 : Int32⦄ ⦃l4 : Int64⦄ ⦃i6 : Int32⦄ ⦃i7 : Int32⦄ ⦃l7 : Int64⦄ ⦃μ μ' : sh_Mem⦄ ⦃v : Int32⦄, sh_G μ → F_X12_letter fuel 2 i1 i2 i3 l4 i6 i7 l7 μ = some (v, μ') → sh_V0 l B D ca 2 M_X12_letter 102 [(0, .ref 291), (1, .int i1), (2, .int i2), (3, .int i3), (4, .long l4), (6, .int i6), (7, .int i7)] [] μ (fun v0 μ0 => v0 = some (.int v) ∧ μ0 = μ')) := by
  induction fuel with
  | zero => exact ⟨(by intro i1 i2 i3 l4 i6 i7 l7 μ μ' v hG h; cases h), (by intro i1 i2 i3 l4 i6 i7 l7 μ μ' v hG h; cases h)⟩
  | succ fuel ih =>
    obtain ⟨ih_67, ih_102⟩ := ih
    refine ⟨?_, ?_⟩
    · intro i1 i2 i3 l4 i6 i7 l7 μ μ' v hG h
      replace h : ((if (lg_cmp l7 0) ≤ 0 then (if i3 < i6 then sh_let ((i6 - 1) : Int32) (fun x21 => F_X12_letter fuel 2 i1 i2 i3 l4 i6 x21 0 μ) else some (0, μ)) else sh_let ((l7 / 27) : Int64) (fun x22 => F_X12_letter fuel 1 i1 i2 i3 l4 (i6 + 1) 0 x22 μ)) : Option (Int32 × sh_Mem)) = some (v, μ') := h
      refine vv_lload 67 7 dX12_letter_67 rfl ?_
      refine vv_lconst 69 dX12_letter_69 lk_0 ?_
      refine vv_lcmp 70 dX12_letter_70 ?_
      refine vv_if_le 71 88 dX12_letter_71 (by decide) (fun c19 => ?_) (fun c19 => ?_)
      · rw [if_pos c19] at h
        refine vv_iload_n 88 3 dX12_letter_88 rfl rfl ?_
        refine vv_iload 89 6 dX12_letter_89 rfl ?_
        refine vv_icmp_lt 91 96 dX12_letter_91 (by decide) (fun c20 => ?_) (fun c20 => ?_)
        · rw [if_pos c20] at h
          refine vv_iload 96 6 dX12_letter_96 rfl ?_
          refine vv_iconst 98 dX12_letter_98 ik_1 ?_
          refine vv_isub 99 dX12_letter_99 ?_
          refine vv_topi (fun x21 ex21 => ?_)
          rw [sh_let_eq ex21] at h
          refine vv_istore (lv' := [(7, _), (0, _), (1, _), (2, _), (3, _), (4, _), (6, _)]) 100 7 dX12_letter_100 (by decide) rfl ?_
          refine vv_sub [(0, _), (1, _), (2, _), (3, _), (4, _), (6, _), (7, _)] (sh_subm [1, 2, 3, 4, 5, 6, 0] rfl) ?_
          exact ih_102 hG h
        · rw [if_neg c20] at h
          refine vv_iconst 94 dX12_letter_94 ik_0 ?_
          obtain ⟨e1, e2⟩ := sh_some2 h
          refine vv_iret 95 dX12_letter_95 rfl (Nat.le_refl _) (Nat.le_refl _) ⟨by rw [e1], e2⟩
      · rw [if_neg c19] at h
        refine vv_iincc (lv' := [(6, _), (0, _), (1, _), (2, _), (3, _), (4, _), (7, _)]) 74 6 dX12_letter_74 rfl ik_1 (by decide) rfl ?_
        refine vv_lload 77 7 dX12_letter_77 rfl ?_
        refine vv_ldc2 79 dX12_letter_79 kl_12_307 ?_
        refine vv_ldiv 82 dX12_letter_82 (by decide) ?_
        refine vv_topl (fun x22 ex22 => ?_)
        rw [sh_let_eq ex22] at h
        refine vv_lstore (lv' := [(7, _), (6, _), (0, _), (1, _), (2, _), (3, _), (4, _)]) 83 7 dX12_letter_83 (by decide) rfl ?_
        refine vv_goto 85 67 dX12_letter_85 (by decide) ?_
        refine vv_sub [(0, _), (1, _), (2, _), (3, _), (4, _), (6, _), (7, _)] (sh_subm [2, 3, 4, 5, 6, 1, 0] rfl) ?_
        exact ih_67 hG h
    · intro i1 i2 i3 l4 i6 i7 l7 μ μ' v hG h
      replace h : ((if i7 ≤ i3 then some (((l4 - l4 / 27 * 27)).toInt32, μ) else sh_let ((l4 / 27) : Int64) (fun x24 => F_X12_letter fuel 2 i1 i2 i3 x24 i6 (i7 + (-1)) 0 μ)) : Option (Int32 × sh_Mem)) = some (v, μ') := h
      refine vv_iload 102 7 dX12_letter_102 rfl ?_
      refine vv_iload_n 104 3 dX12_letter_104 rfl rfl ?_
      refine vv_icmp_le 105 122 dX12_letter_105 (by decide) (fun c23 => ?_) (fun c23 => ?_)
      · rw [if_pos c23] at h
        refine vv_lload 122 4 dX12_letter_122 rfl ?_
        refine vv_ldc2 124 dX12_letter_124 kl_12_307 ?_
        refine vv_lrem 127 dX12_letter_127 (by decide) ?_
        refine vv_l2i 128 dX12_letter_128 ?_
        obtain ⟨e1, e2⟩ := sh_some2 h
        refine vv_iret 129 dX12_letter_129 rfl (Nat.le_refl _) (Nat.le_refl _) ⟨by rw [e1], e2⟩
      · rw [if_neg c23] at h
        refine vv_lload 108 4 dX12_letter_108 rfl ?_
        refine vv_ldc2 110 dX12_letter_110 kl_12_307 ?_
        refine vv_ldiv 113 dX12_letter_113 (by decide) ?_
        refine vv_topl (fun x24 ex24 => ?_)
        rw [sh_let_eq ex24] at h
        refine vv_lstore (lv' := [(4, _), (0, _), (1, _), (2, _), (3, _), (6, _), (7, _)]) 114 4 dX12_letter_114 (by decide) rfl ?_
        refine vv_iincc (lv' := [(7, _), (4, _), (0, _), (1, _), (2, _), (3, _), (6, _)]) 116 7 dX12_letter_116 rfl ik_m1 (by decide) rfl ?_
        refine vv_goto 119 102 dX12_letter_119 (by decide) ?_
        refine vv_sub [(0, _), (1, _), (2, _), (3, _), (4, _), (6, _), (7, _)] (sh_subm [2, 3, 4, 5, 1, 6, 0] rfl) ?_
        exact ih_102 hG h
theorem gp_X12_letter {a1 : Int32} {a2 : Int32} {a3 : Int32} {μ μ' : sh_Mem} {v : Int32} (hG : sh_G μ) (h : f_X12_letter a1 a2 a3 μ = some (v, μ')) : sh_G μ' := by
  have ih_67 := (gpl_X12_letter sh_fuel).1
  have ih_102 := (gpl_X12_letter sh_fuel).2
  unfold f_X12_letter at h
  by_cases c25 : (f_X12_isIn μ (a1).toInt64 0 1) = 0
  · rw [if_pos c25] at h
    obtain ⟨e1, e2⟩ := sh_some2 h
    exact e2 ▸ hG
  · rw [if_neg c25] at h
    obtain ⟨k26, h⟩ := sh_chk h
    by_cases c27 : (f_X12_isIn μ (a2).toInt64 0 (((sh_i μ 322 ((3 + a1)).toNatClampNeg) - 1)).toInt64) = 0
    · rw [if_pos c27] at h
      obtain ⟨e1, e2⟩ := sh_some2 h
      exact e2 ▸ hG
    · rw [if_neg c27] at h
      by_cases c28 : (f_X12_isIn μ (a3).toInt64 0 5) = 0
      · rw [if_pos c28] at h
        obtain ⟨e1, e2⟩ := sh_some2 h
        exact e2 ▸ hG
      · rw [if_neg c28] at h
        obtain ⟨k29, h⟩ := sh_chk h
        obtain ⟨x30, ex30⟩ : ∃ y : Int64, y = (sh_l μ 323 (((16 + (8 * a1)) + a2)).toNatClampNeg) := ⟨_, rfl⟩
        rw [sh_let_eq ex30] at h
        exact ih_67 hG h
theorem t_X12_letter {a1 : Int32} {a2 : Int32} {a3 : Int32} {μ μ' : sh_Mem} {v : Int32} (hG : sh_G μ) (h : f_X12_letter a1 a2 a3 μ = some (v, μ')) : sh_C0 l B D ca 2 M_X12_letter [.ref 291, .int a1, .int a2, .int a3] μ (fun v0 μ0 => v0 = some (.int v) ∧ μ0 = μ') := by
  have ih_67 := (tl_X12_letter (l := l) (B := B) (D := D) (ca := ca) sh_fuel).1
  have ih_102 := (tl_X12_letter (l := l) (B := B) (D := D) (ca := ca) sh_fuel).2
  unfold f_X12_letter at h
  refine vv_iload_n 0 1 dX12_letter_0 rfl rfl ?_
  refine vv_i2l 1 dX12_letter_1 ?_
  refine vv_lconst 2 dX12_letter_2 lk_0 ?_
  refine vv_lconst 3 dX12_letter_3 lk_1 ?_
  refine v1_callS [_, _, _] 4 dX12_letter_4 ck_X12_296 (c_X12_isIn (μ := μ) hG) (Nat.le_of_ble_eq_true rfl) ⟨Nat.le_of_ble_eq_true rfl, Nat.le_of_ble_eq_true rfl⟩ rfl (Nat.le_of_ble_eq_true rfl) ?_
  refine vv_if_eq 7 42 dX12_letter_7 (by decide) (fun c25 => ?_) (fun c25 => ?_)
  · rw [if_pos c25] at h
    refine vv_iconst 42 dX12_letter_42 ik_m1 ?_
    obtain ⟨e1, e2⟩ := sh_some2 h
    refine vv_iret 43 dX12_letter_43 rfl (Nat.le_refl _) (Nat.le_refl _) ⟨by rw [e1], e2⟩
  · rw [if_neg c25] at h
    refine vv_iload_n 10 2 dX12_letter_10 rfl rfl ?_
    refine vv_i2l 11 dX12_letter_11 ?_
    refine vv_lconst 12 dX12_letter_12 lk_0 ?_
    refine vv_aload_n 13 0 dX12_letter_13 rfl rfl ?_
    refine vv_getR 14 dX12_letter_14 fl_12_105 rfl (g_l_291 hG) (g_r_291_40 hG) ?_
    refine vv_iconst 17 dX12_letter_17 ik_3 ?_
    refine vv_iload_n 18 1 dX12_letter_18 rfl rfl ?_
    refine vv_iadd 19 dX12_letter_19 ?_
    obtain ⟨k26, h⟩ := sh_chk h
    refine vv_iald 20 dX12_letter_20 (g_l_322 hG) k26 ?_
    refine vv_iconst 21 dX12_letter_21 ik_1 ?_
    refine vv_isub 22 dX12_letter_22 ?_
    refine vv_i2l 23 dX12_letter_23 ?_
    refine v1_callS [_, _, _] 24 dX12_letter_24 ck_X12_296 (c_X12_isIn (μ := μ) hG) (Nat.le_of_ble_eq_true rfl) ⟨Nat.le_of_ble_eq_true rfl, Nat.le_of_ble_eq_true rfl⟩ rfl (Nat.le_of_ble_eq_true rfl) ?_
    refine vv_if_eq 27 42 dX12_letter_27 (by decide) (fun c27 => ?_) (fun c27 => ?_)
    · rw [if_pos c27] at h
      refine vv_iconst 42 dX12_letter_42 ik_m1 ?_
      obtain ⟨e1, e2⟩ := sh_some2 h
      refine vv_iret 43 dX12_letter_43 rfl (Nat.le_refl _) (Nat.le_refl _) ⟨by rw [e1], e2⟩
    · rw [if_neg c27] at h
      refine vv_iload_n 30 3 dX12_letter_30 rfl rfl ?_
      refine vv_i2l 31 dX12_letter_31 ?_
      refine vv_lconst 32 dX12_letter_32 lk_0 ?_
      refine vv_ldc2 33 dX12_letter_33 kl_12_516 ?_
      refine v1_callS [_, _, _] 36 dX12_letter_36 ck_X12_296 (c_X12_isIn (μ := μ) hG) (Nat.le_of_ble_eq_true rfl) ⟨Nat.le_of_ble_eq_true rfl, Nat.le_of_ble_eq_true rfl⟩ rfl (Nat.le_of_ble_eq_true rfl) ?_
      refine vv_if_ne 39 44 dX12_letter_39 (by decide) (fun c28 => ?_) (fun c28 => ?_)
      · rw [if_neg c28] at h
        refine vv_aload_n 44 0 dX12_letter_44 rfl rfl ?_
        refine vv_getR 45 dX12_letter_45 fl_12_108 rfl (g_l_291 hG) (g_r_291_41 hG) ?_
        refine vv_bipush 48 dX12_letter_48 bk_16 ?_
        refine vv_bipush 50 dX12_letter_50 bk_8 ?_
        refine vv_iload_n 52 1 dX12_letter_52 rfl rfl ?_
        refine vv_imul 53 dX12_letter_53 ?_
        refine vv_iadd 54 dX12_letter_54 ?_
        refine vv_iload_n 55 2 dX12_letter_55 rfl rfl ?_
        refine vv_iadd 56 dX12_letter_56 ?_
        obtain ⟨k29, h⟩ := sh_chk h
        refine vv_lald 57 dX12_letter_57 (g_l_323 hG) k29 ?_
        refine vv_topl (fun x30 ex30 => ?_)
        rw [sh_let_eq ex30] at h
        refine vv_lstore (lv' := [(4, _), (0, _), (1, _), (2, _), (3, _)]) 58 4 dX12_letter_58 (by decide) rfl ?_
        refine vv_iconst 60 dX12_letter_60 ik_0 ?_
        refine vv_istore (lv' := [(6, _), (4, _), (0, _), (1, _), (2, _), (3, _)]) 61 6 dX12_letter_61 (by decide) rfl ?_
        refine vv_lload 63 4 dX12_letter_63 rfl ?_
        refine vv_lstore (lv' := [(7, _), (6, _), (4, _), (0, _), (1, _), (2, _), (3, _)]) 65 7 dX12_letter_65 (by decide) rfl ?_
        refine vv_sub [(0, _), (1, _), (2, _), (3, _), (4, _), (6, _), (7, _)] (sh_subm [3, 4, 5, 6, 2, 1, 0] rfl) ?_
        exact ih_67 hG h
      · rw [if_pos c28] at h
        refine vv_iconst 42 dX12_letter_42 ik_m1 ?_
        obtain ⟨e1, e2⟩ := sh_some2 h
        refine vv_iret 43 dX12_letter_43 rfl (Nat.le_refl _) (Nat.le_refl _) ⟨by rw [e1], e2⟩
noncomputable def f_X12_height (a1 : Int32) (a2 : Int32) (μ : sh_Mem) : Option (Int32 × sh_Mem) := sh_bind (f_X12_cellAt a1 a2 μ) (fun y3 μ1 => (if y3 = (-1) then some ((-1), μ1) else sh_bind (f_X12_heightOf y3 μ1) (fun y7 μ5 => some (y7, μ5))))
theorem gp_X12_height {a1 : Int32} {a2 : Int32} {μ μ' : sh_Mem} {v : Int32} (hG : sh_G μ) (h : f_X12_height a1 a2 μ = some (v, μ')) : sh_G μ' := by
  unfold f_X12_height at h
  obtain ⟨y3, μ1, hr2, h⟩ := sh_bind_e h
  have hG1 := gp_X12_cellAt hG hr2
  by_cases c4 : y3 = (-1)
  · rw [if_pos c4] at h
    obtain ⟨e1, e2⟩ := sh_some2 h
    exact e2 ▸ hG1
  · rw [if_neg c4] at h
    obtain ⟨y7, μ5, hr6, h⟩ := sh_bind_e h
    have hG5 := gp_X12_heightOf hG1 hr6
    obtain ⟨e1, e2⟩ := sh_some2 h
    exact e2 ▸ hG5
theorem t_X12_height {a1 : Int32} {a2 : Int32} {μ μ' : sh_Mem} {v : Int32} (hG : sh_G μ) (h : f_X12_height a1 a2 μ = some (v, μ')) : sh_C0 l B D ca 3 M_X12_height [.ref 291, .int a1, .int a2] μ (fun v0 μ0 => v0 = some (.int v) ∧ μ0 = μ') := by
  unfold f_X12_height at h
  refine vv_aload_n 0 0 dX12_height_0 rfl rfl ?_
  refine vv_iload_n 1 1 dX12_height_1 rfl rfl ?_
  refine vv_iload_n 2 2 dX12_height_2 rfl rfl ?_
  obtain ⟨y3, μ1, hr2, h⟩ := sh_bind_e h
  refine v1_callV [_, _] 3 dX12_height_3 ck_X12_414 (g_l_291 hG) ⟨by decide, rfl⟩ (t_X12_cellAt hG hr2) (Nat.le_of_ble_eq_true rfl) ⟨Nat.le_of_ble_eq_true rfl, Nat.le_of_ble_eq_true rfl⟩ rfl (Nat.le_of_ble_eq_true rfl) ?_
  have hG1 := gp_X12_cellAt hG hr2
  refine vv_istore_n (lv' := [(3, _), (0, _), (1, _), (2, _)]) 6 3 dX12_height_6 rfl (by decide) rfl ?_
  refine vv_iload_n 7 3 dX12_height_7 rfl rfl ?_
  refine vv_iconst 8 dX12_height_8 ik_m1 ?_
  refine vv_icmp_ne 9 16 dX12_height_9 (by decide) (fun c4 => ?_) (fun c4 => ?_)
  · rw [if_neg c4] at h
    refine vv_aload_n 16 0 dX12_height_16 rfl rfl ?_
    refine vv_iload_n 17 3 dX12_height_17 rfl rfl ?_
    obtain ⟨y7, μ5, hr6, h⟩ := sh_bind_e h
    refine v1_callV [_] 18 dX12_height_18 ck_X12_453 (g_l_291 hG1) ⟨by decide, rfl⟩ (t_X12_heightOf hG1 hr6) (Nat.le_of_ble_eq_true rfl) ⟨Nat.le_of_ble_eq_true rfl, Nat.le_of_ble_eq_true rfl⟩ rfl (Nat.le_of_ble_eq_true rfl) ?_
    have hG5 := gp_X12_heightOf hG1 hr6
    obtain ⟨e1, e2⟩ := sh_some2 h
    refine vv_iret 21 dX12_height_21 rfl (Nat.le_refl _) (Nat.le_refl _) ⟨by rw [e1], e2⟩
  · rw [if_pos c4] at h
    refine vv_iconst 12 dX12_height_12 ik_m1 ?_
    refine vv_goto 13 21 dX12_height_13 (by decide) ?_
    obtain ⟨e1, e2⟩ := sh_some2 h
    refine vv_iret 21 dX12_height_21 rfl (Nat.le_refl _) (Nat.le_refl _) ⟨by rw [e1], e2⟩
noncomputable def f_X12_person (a1 : Int32) (a2 : Int32) (μ : sh_Mem) : Option (Int32 × sh_Mem) := sh_bind (f_X12_isPerson a1 μ) (fun y3 μ1 => (if y3 = 0 then some ((-1), μ1) else (if a2 = 0 then sh_bind (f_X12_cellOf a1 μ1) (fun y8 μ6 => some ((y8 - y8 / 7 * 7), μ6)) else (if a2 = 1 then sh_bind (f_X12_cellOf a1 μ1) (fun y12 μ10 => some ((y12 / 7), μ10)) else (if a2 = 2 then sh_bind (f_X12_tiredOf a1 μ1) (fun y16 μ14 => some (y16, μ14)) else (if a2 = 3 then sh_bind (f_X12_knowsOf a1 μ1) (fun y20 μ18 => some (y20, μ18)) else some ((-1), μ1)))))))
theorem gp_X12_person {a1 : Int32} {a2 : Int32} {μ μ' : sh_Mem} {v : Int32} (hG : sh_G μ) (h : f_X12_person a1 a2 μ = some (v, μ')) : sh_G μ' := by
  unfold f_X12_person at h
  obtain ⟨y3, μ1, hr2, h⟩ := sh_bind_e h
  have hG1 := gp_X12_isPerson hG hr2
  by_cases c4 : y3 = 0
  · rw [if_pos c4] at h
    obtain ⟨e1, e2⟩ := sh_some2 h
    exact e2 ▸ hG1
  · rw [if_neg c4] at h
    by_cases c5 : a2 = 0
    · rw [if_pos c5] at h
      obtain ⟨y8, μ6, hr7, h⟩ := sh_bind_e h
      have hG6 := gp_X12_cellOf hG1 hr7
      obtain ⟨e1, e2⟩ := sh_some2 h
      exact e2 ▸ hG6
    rw [if_neg c5] at h
    by_cases c9 : a2 = 1
    · rw [if_pos c9] at h
      obtain ⟨y12, μ10, hr11, h⟩ := sh_bind_e h
      have hG10 := gp_X12_cellOf hG1 hr11
      obtain ⟨e1, e2⟩ := sh_some2 h
      exact e2 ▸ hG10
    rw [if_neg c9] at h
    by_cases c13 : a2 = 2
    · rw [if_pos c13] at h
      obtain ⟨y16, μ14, hr15, h⟩ := sh_bind_e h
      have hG14 := gp_X12_tiredOf hG1 hr15
      obtain ⟨e1, e2⟩ := sh_some2 h
      exact e2 ▸ hG14
    rw [if_neg c13] at h
    by_cases c17 : a2 = 3
    · rw [if_pos c17] at h
      obtain ⟨y20, μ18, hr19, h⟩ := sh_bind_e h
      have hG18 := gp_X12_knowsOf hG1 hr19
      obtain ⟨e1, e2⟩ := sh_some2 h
      exact e2 ▸ hG18
    rw [if_neg c17] at h
    obtain ⟨e1, e2⟩ := sh_some2 h
    exact e2 ▸ hG1
theorem t_X12_person {a1 : Int32} {a2 : Int32} {μ μ' : sh_Mem} {v : Int32} (hG : sh_G μ) (h : f_X12_person a1 a2 μ = some (v, μ')) : sh_C0 l B D ca 3 M_X12_person [.ref 291, .int a1, .int a2] μ (fun v0 μ0 => v0 = some (.int v) ∧ μ0 = μ') := by
  unfold f_X12_person at h
  refine vv_aload_n 0 0 dX12_person_0 rfl rfl ?_
  refine vv_iload_n 1 1 dX12_person_1 rfl rfl ?_
  obtain ⟨y3, μ1, hr2, h⟩ := sh_bind_e h
  refine v1_callV [_] 2 dX12_person_2 ck_X12_518 (g_l_291 hG) ⟨by decide, rfl⟩ (t_X12_isPerson hG hr2) (Nat.le_of_ble_eq_true rfl) ⟨Nat.le_of_ble_eq_true rfl, Nat.le_of_ble_eq_true rfl⟩ rfl (Nat.le_of_ble_eq_true rfl) ?_
  have hG1 := gp_X12_isPerson hG hr2
  refine vv_if_ne 5 10 dX12_person_5 (by decide) (fun c4 => ?_) (fun c4 => ?_)
  · rw [if_neg c4] at h
    refine vv_iload_n 10 2 dX12_person_10 rfl rfl ?_
    by_cases c5 : a2 = 0
    · rw [if_pos c5] at h
      refine vv_tabIn 11 40 dX12_person_11 (by rw [c5]; decide) (by rw [c5]; decide) (off := 29) (by rw [c5]; decide) (by decide) ?_
      refine vv_aload_n 40 0 dX12_person_40 rfl rfl ?_
      refine vv_iload_n 41 1 dX12_person_41 rfl rfl ?_
      obtain ⟨y8, μ6, hr7, h⟩ := sh_bind_e h
      refine v1_callV [_] 42 dX12_person_42 ck_X12_417 (g_l_291 hG1) ⟨by decide, rfl⟩ (t_X12_cellOf hG1 hr7) (Nat.le_of_ble_eq_true rfl) ⟨Nat.le_of_ble_eq_true rfl, Nat.le_of_ble_eq_true rfl⟩ rfl (Nat.le_of_ble_eq_true rfl) ?_
      have hG6 := gp_X12_cellOf hG1 hr7
      refine vv_bipush 45 dX12_person_45 bk_7 ?_
      refine vv_irem 47 dX12_person_47 (by decide) ?_
      obtain ⟨e1, e2⟩ := sh_some2 h
      refine vv_iret 48 dX12_person_48 rfl (Nat.le_refl _) (Nat.le_refl _) ⟨by rw [e1], e2⟩
    rw [if_neg c5] at h
    by_cases c9 : a2 = 1
    · rw [if_pos c9] at h
      refine vv_tabIn 11 49 dX12_person_11 (by rw [c9]; decide) (by rw [c9]; decide) (off := 38) (by rw [c9]; decide) (by decide) ?_
      refine vv_aload_n 49 0 dX12_person_49 rfl rfl ?_
      refine vv_iload_n 50 1 dX12_person_50 rfl rfl ?_
      obtain ⟨y12, μ10, hr11, h⟩ := sh_bind_e h
      refine v1_callV [_] 51 dX12_person_51 ck_X12_417 (g_l_291 hG1) ⟨by decide, rfl⟩ (t_X12_cellOf hG1 hr11) (Nat.le_of_ble_eq_true rfl) ⟨Nat.le_of_ble_eq_true rfl, Nat.le_of_ble_eq_true rfl⟩ rfl (Nat.le_of_ble_eq_true rfl) ?_
      have hG10 := gp_X12_cellOf hG1 hr11
      refine vv_bipush 54 dX12_person_54 bk_7 ?_
      refine vv_idiv 56 dX12_person_56 (by decide) ?_
      obtain ⟨e1, e2⟩ := sh_some2 h
      refine vv_iret 57 dX12_person_57 rfl (Nat.le_refl _) (Nat.le_refl _) ⟨by rw [e1], e2⟩
    rw [if_neg c9] at h
    by_cases c13 : a2 = 2
    · rw [if_pos c13] at h
      refine vv_tabIn 11 58 dX12_person_11 (by rw [c13]; decide) (by rw [c13]; decide) (off := 47) (by rw [c13]; decide) (by decide) ?_
      refine vv_aload_n 58 0 dX12_person_58 rfl rfl ?_
      refine vv_iload_n 59 1 dX12_person_59 rfl rfl ?_
      obtain ⟨y16, μ14, hr15, h⟩ := sh_bind_e h
      refine v1_callV [_] 60 dX12_person_60 ck_X12_486 (g_l_291 hG1) ⟨by decide, rfl⟩ (t_X12_tiredOf hG1 hr15) (Nat.le_of_ble_eq_true rfl) ⟨Nat.le_of_ble_eq_true rfl, Nat.le_of_ble_eq_true rfl⟩ rfl (Nat.le_of_ble_eq_true rfl) ?_
      have hG14 := gp_X12_tiredOf hG1 hr15
      obtain ⟨e1, e2⟩ := sh_some2 h
      refine vv_iret 63 dX12_person_63 rfl (Nat.le_refl _) (Nat.le_refl _) ⟨by rw [e1], e2⟩
    rw [if_neg c13] at h
    by_cases c17 : a2 = 3
    · rw [if_pos c17] at h
      refine vv_tabIn 11 64 dX12_person_11 (by rw [c17]; decide) (by rw [c17]; decide) (off := 53) (by rw [c17]; decide) (by decide) ?_
      refine vv_aload_n 64 0 dX12_person_64 rfl rfl ?_
      refine vv_iload_n 65 1 dX12_person_65 rfl rfl ?_
      obtain ⟨y20, μ18, hr19, h⟩ := sh_bind_e h
      refine v1_callV [_] 66 dX12_person_66 ck_X12_437 (g_l_291 hG1) ⟨by decide, rfl⟩ (t_X12_knowsOf hG1 hr19) (Nat.le_of_ble_eq_true rfl) ⟨Nat.le_of_ble_eq_true rfl, Nat.le_of_ble_eq_true rfl⟩ rfl (Nat.le_of_ble_eq_true rfl) ?_
      have hG18 := gp_X12_knowsOf hG1 hr19
      obtain ⟨e1, e2⟩ := sh_some2 h
      refine vv_iret 69 dX12_person_69 rfl (Nat.le_refl _) (Nat.le_refl _) ⟨by rw [e1], e2⟩
    rw [if_neg c17] at h
    refine vv_tabOut 11 70 dX12_person_11 (sh_tout 0 3 (by intro j h1 h2; rcases (show j = 0 ∨ j = 1 ∨ j = 2 ∨ j = 3 by omega) with rfl | rfl | rfl | rfl <;> first | exact sh_lne c5 (by decide) | exact sh_lne c9 (by decide) | exact sh_lne c13 (by decide) | exact sh_lne c17 (by decide))) (by decide) ?_
    refine vv_iconst 70 dX12_person_70 ik_m1 ?_
    obtain ⟨e1, e2⟩ := sh_some2 h
    refine vv_iret 71 dX12_person_71 rfl (Nat.le_refl _) (Nat.le_refl _) ⟨by rw [e1], e2⟩
  · rw [if_pos c4] at h
    refine vv_iconst 8 dX12_person_8 ik_m1 ?_
    obtain ⟨e1, e2⟩ := sh_some2 h
    refine vv_iret 9 dX12_person_9 rfl (Nat.le_refl _) (Nat.le_refl _) ⟨by rw [e1], e2⟩
noncomputable def f_X12_list (a1 : Int32) (a2 : Int32) (μ : sh_Mem) : Option (Int32 × sh_Mem) := sh_bind (f_X12_listMany μ) (fun y3 μ1 => (if (f_X12_isIn μ1 (a1).toInt64 0 ((y3 - 1)).toInt64) = 0 then some ((-1), μ1) else (if (f_X12_isIn μ1 (a2).toInt64 0 1) = 0 then some ((-1), μ1) else (if sh_in ((24 + (2 * a1)) + a2) 48 then some ((sh_i μ1 326 (((24 + (2 * a1)) + a2)).toNatClampNeg), μ1) else none))))
theorem gp_X12_list {a1 : Int32} {a2 : Int32} {μ μ' : sh_Mem} {v : Int32} (hG : sh_G μ) (h : f_X12_list a1 a2 μ = some (v, μ')) : sh_G μ' := by
  unfold f_X12_list at h
  obtain ⟨y3, μ1, hr2, h⟩ := sh_bind_e h
  have hG1 := gp_X12_listMany hG hr2
  by_cases c4 : (f_X12_isIn μ1 (a1).toInt64 0 ((y3 - 1)).toInt64) = 0
  · rw [if_pos c4] at h
    obtain ⟨e1, e2⟩ := sh_some2 h
    exact e2 ▸ hG1
  · rw [if_neg c4] at h
    by_cases c5 : (f_X12_isIn μ1 (a2).toInt64 0 1) = 0
    · rw [if_pos c5] at h
      obtain ⟨e1, e2⟩ := sh_some2 h
      exact e2 ▸ hG1
    · rw [if_neg c5] at h
      obtain ⟨k6, h⟩ := sh_chk h
      obtain ⟨e1, e2⟩ := sh_some2 h
      exact e2 ▸ hG1
theorem t_X12_list {a1 : Int32} {a2 : Int32} {μ μ' : sh_Mem} {v : Int32} (hG : sh_G μ) (h : f_X12_list a1 a2 μ = some (v, μ')) : sh_C0 l B D ca 2 M_X12_list [.ref 291, .int a1, .int a2] μ (fun v0 μ0 => v0 = some (.int v) ∧ μ0 = μ') := by
  unfold f_X12_list at h
  refine vv_iload_n 0 1 dX12_list_0 rfl rfl ?_
  refine vv_i2l 1 dX12_list_1 ?_
  refine vv_lconst 2 dX12_list_2 lk_0 ?_
  refine vv_aload_n 3 0 dX12_list_3 rfl rfl ?_
  obtain ⟨y3, μ1, hr2, h⟩ := sh_bind_e h
  refine v1_callV [] 4 dX12_list_4 ck_X12_495 (g_l_291 hG) ⟨by decide, rfl⟩ (t_X12_listMany hG hr2) (Nat.le_of_ble_eq_true rfl) ⟨Nat.le_of_ble_eq_true rfl, Nat.le_of_ble_eq_true rfl⟩ rfl (Nat.le_of_ble_eq_true rfl) ?_
  have hG1 := gp_X12_listMany hG hr2
  refine vv_iconst 7 dX12_list_7 ik_1 ?_
  refine vv_isub 8 dX12_list_8 ?_
  refine vv_i2l 9 dX12_list_9 ?_
  refine v1_callS [_, _, _] 10 dX12_list_10 ck_X12_296 (c_X12_isIn (μ := μ1) hG1) (Nat.le_of_ble_eq_true rfl) ⟨Nat.le_of_ble_eq_true rfl, Nat.le_of_ble_eq_true rfl⟩ rfl (Nat.le_of_ble_eq_true rfl) ?_
  refine vv_if_eq 13 42 dX12_list_13 (by decide) (fun c4 => ?_) (fun c4 => ?_)
  · rw [if_pos c4] at h
    refine vv_iconst 42 dX12_list_42 ik_m1 ?_
    obtain ⟨e1, e2⟩ := sh_some2 h
    refine vv_iret 43 dX12_list_43 rfl (Nat.le_refl _) (Nat.le_refl _) ⟨by rw [e1], e2⟩
  · rw [if_neg c4] at h
    refine vv_iload_n 16 2 dX12_list_16 rfl rfl ?_
    refine vv_i2l 17 dX12_list_17 ?_
    refine vv_lconst 18 dX12_list_18 lk_0 ?_
    refine vv_lconst 19 dX12_list_19 lk_1 ?_
    refine v1_callS [_, _, _] 20 dX12_list_20 ck_X12_296 (c_X12_isIn (μ := μ1) hG1) (Nat.le_of_ble_eq_true rfl) ⟨Nat.le_of_ble_eq_true rfl, Nat.le_of_ble_eq_true rfl⟩ rfl (Nat.le_of_ble_eq_true rfl) ?_
    refine vv_if_eq 23 42 dX12_list_23 (by decide) (fun c5 => ?_) (fun c5 => ?_)
    · rw [if_pos c5] at h
      refine vv_iconst 42 dX12_list_42 ik_m1 ?_
      obtain ⟨e1, e2⟩ := sh_some2 h
      refine vv_iret 43 dX12_list_43 rfl (Nat.le_refl _) (Nat.le_refl _) ⟨by rw [e1], e2⟩
    · rw [if_neg c5] at h
      refine vv_aload_n 26 0 dX12_list_26 rfl rfl ?_
      refine vv_getR 27 dX12_list_27 fl_12_118 rfl (g_l_291 hG1) (g_r_291_44 hG1) ?_
      refine vv_bipush 30 dX12_list_30 bk_24 ?_
      refine vv_iconst 32 dX12_list_32 ik_2 ?_
      refine vv_iload_n 33 1 dX12_list_33 rfl rfl ?_
      refine vv_imul 34 dX12_list_34 ?_
      refine vv_iadd 35 dX12_list_35 ?_
      refine vv_iload_n 36 2 dX12_list_36 rfl rfl ?_
      refine vv_iadd 37 dX12_list_37 ?_
      obtain ⟨k6, h⟩ := sh_chk h
      refine vv_iald 38 dX12_list_38 (g_l_326 hG1) k6 ?_
      refine vv_goto 39 43 dX12_list_39 (by decide) ?_
      obtain ⟨e1, e2⟩ := sh_some2 h
      refine vv_iret 43 dX12_list_43 rfl (Nat.le_refl _) (Nat.le_refl _) ⟨by rw [e1], e2⟩
noncomputable def f_X12_kept (a1 : Int32) (a2 : Int32) (μ : sh_Mem) : Option (Int32 × sh_Mem) := (if (f_X12_isIn μ (a1).toInt64 0 (((sh_i μ 330 (Int32.toNatClampNeg 71)) - 1)).toInt64) = 0 then some ((-1), μ) else (if (f_X12_isIn μ (a2).toInt64 0 3) = 0 then some ((-1), μ) else (if sh_in ((72 + (4 * a1)) + a2) 232 then some ((sh_i μ 330 (((72 + (4 * a1)) + a2)).toNatClampNeg), μ) else none)))
theorem gp_X12_kept {a1 : Int32} {a2 : Int32} {μ μ' : sh_Mem} {v : Int32} (hG : sh_G μ) (h : f_X12_kept a1 a2 μ = some (v, μ')) : sh_G μ' := by
  unfold f_X12_kept at h
  by_cases c1 : (f_X12_isIn μ (a1).toInt64 0 (((sh_i μ 330 (Int32.toNatClampNeg 71)) - 1)).toInt64) = 0
  · rw [if_pos c1] at h
    obtain ⟨e1, e2⟩ := sh_some2 h
    exact e2 ▸ hG
  · rw [if_neg c1] at h
    by_cases c2 : (f_X12_isIn μ (a2).toInt64 0 3) = 0
    · rw [if_pos c2] at h
      obtain ⟨e1, e2⟩ := sh_some2 h
      exact e2 ▸ hG
    · rw [if_neg c2] at h
      obtain ⟨k3, h⟩ := sh_chk h
      obtain ⟨e1, e2⟩ := sh_some2 h
      exact e2 ▸ hG
theorem t_X12_kept {a1 : Int32} {a2 : Int32} {μ μ' : sh_Mem} {v : Int32} (hG : sh_G μ) (h : f_X12_kept a1 a2 μ = some (v, μ')) : sh_C0 l B D ca 2 M_X12_kept [.ref 291, .int a1, .int a2] μ (fun v0 μ0 => v0 = some (.int v) ∧ μ0 = μ') := by
  unfold f_X12_kept at h
  refine vv_iload_n 0 1 dX12_kept_0 rfl rfl ?_
  refine vv_i2l 1 dX12_kept_1 ?_
  refine vv_lconst 2 dX12_kept_2 lk_0 ?_
  refine vv_aload_n 3 0 dX12_kept_3 rfl rfl ?_
  refine vv_getR 4 dX12_kept_4 fl_12_130 rfl (g_l_291 hG) (g_r_291_52 hG) ?_
  refine vv_bipush 7 dX12_kept_7 bk_71 ?_
  refine vv_iald 9 dX12_kept_9 (g_l_330 hG) (by unfold vp_in; decide) ?_
  refine vv_iconst 10 dX12_kept_10 ik_1 ?_
  refine vv_isub 11 dX12_kept_11 ?_
  refine vv_i2l 12 dX12_kept_12 ?_
  refine v1_callS [_, _, _] 13 dX12_kept_13 ck_X12_296 (c_X12_isIn (μ := μ) hG) (Nat.le_of_ble_eq_true rfl) ⟨Nat.le_of_ble_eq_true rfl, Nat.le_of_ble_eq_true rfl⟩ rfl (Nat.le_of_ble_eq_true rfl) ?_
  refine vv_if_eq 16 47 dX12_kept_16 (by decide) (fun c1 => ?_) (fun c1 => ?_)
  · rw [if_pos c1] at h
    refine vv_iconst 47 dX12_kept_47 ik_m1 ?_
    obtain ⟨e1, e2⟩ := sh_some2 h
    refine vv_iret 48 dX12_kept_48 rfl (Nat.le_refl _) (Nat.le_refl _) ⟨by rw [e1], e2⟩
  · rw [if_neg c1] at h
    refine vv_iload_n 19 2 dX12_kept_19 rfl rfl ?_
    refine vv_i2l 20 dX12_kept_20 ?_
    refine vv_lconst 21 dX12_kept_21 lk_0 ?_
    refine vv_ldc2 22 dX12_kept_22 kl_12_525 ?_
    refine v1_callS [_, _, _] 25 dX12_kept_25 ck_X12_296 (c_X12_isIn (μ := μ) hG) (Nat.le_of_ble_eq_true rfl) ⟨Nat.le_of_ble_eq_true rfl, Nat.le_of_ble_eq_true rfl⟩ rfl (Nat.le_of_ble_eq_true rfl) ?_
    refine vv_if_eq 28 47 dX12_kept_28 (by decide) (fun c2 => ?_) (fun c2 => ?_)
    · rw [if_pos c2] at h
      refine vv_iconst 47 dX12_kept_47 ik_m1 ?_
      obtain ⟨e1, e2⟩ := sh_some2 h
      refine vv_iret 48 dX12_kept_48 rfl (Nat.le_refl _) (Nat.le_refl _) ⟨by rw [e1], e2⟩
    · rw [if_neg c2] at h
      refine vv_aload_n 31 0 dX12_kept_31 rfl rfl ?_
      refine vv_getR 32 dX12_kept_32 fl_12_130 rfl (g_l_291 hG) (g_r_291_52 hG) ?_
      refine vv_bipush 35 dX12_kept_35 bk_72 ?_
      refine vv_iconst 37 dX12_kept_37 ik_4 ?_
      refine vv_iload_n 38 1 dX12_kept_38 rfl rfl ?_
      refine vv_imul 39 dX12_kept_39 ?_
      refine vv_iadd 40 dX12_kept_40 ?_
      refine vv_iload_n 41 2 dX12_kept_41 rfl rfl ?_
      refine vv_iadd 42 dX12_kept_42 ?_
      obtain ⟨k3, h⟩ := sh_chk h
      refine vv_iald 43 dX12_kept_43 (g_l_330 hG) k3 ?_
      refine vv_goto 44 48 dX12_kept_44 (by decide) ?_
      obtain ⟨e1, e2⟩ := sh_some2 h
      refine vv_iret 48 dX12_kept_48 rfl (Nat.le_refl _) (Nat.le_refl _) ⟨by rw [e1], e2⟩
noncomputable def f_X12_isSo (μ : sh_Mem) : Option (Int32 × sh_Mem) := sh_bind (f_X12_heightOf (sh_i μ 291 65) μ) (fun y3 μ1 => (if y3 < (sh_i μ1 291 66) then some (0, μ1) else sh_bind (f_X12_heightOf (sh_i μ1 291 67) μ1) (fun y7 μ5 => (if y7 = (sh_i μ5 291 68) then some (1, μ5) else some (0, μ5)))))
theorem gp_X12_isSo {μ μ' : sh_Mem} {v : Int32} (hG : sh_G μ) (h : f_X12_isSo μ = some (v, μ')) : sh_G μ' := by
  unfold f_X12_isSo at h
  obtain ⟨y3, μ1, hr2, h⟩ := sh_bind_e h
  have hG1 := gp_X12_heightOf hG hr2
  by_cases c4 : y3 < (sh_i μ1 291 66)
  · rw [if_pos c4] at h
    obtain ⟨e1, e2⟩ := sh_some2 h
    exact e2 ▸ hG1
  · rw [if_neg c4] at h
    obtain ⟨y7, μ5, hr6, h⟩ := sh_bind_e h
    have hG5 := gp_X12_heightOf hG1 hr6
    by_cases c8 : y7 = (sh_i μ5 291 68)
    · rw [if_pos c8] at h
      obtain ⟨e1, e2⟩ := sh_some2 h
      exact e2 ▸ hG5
    · rw [if_neg c8] at h
      obtain ⟨e1, e2⟩ := sh_some2 h
      exact e2 ▸ hG5
theorem t_X12_isSo {μ μ' : sh_Mem} {v : Int32} (hG : sh_G μ) (h : f_X12_isSo μ = some (v, μ')) : sh_C0 l B D ca 2 M_X12_isSo [.ref 291] μ (fun v0 μ0 => v0 = some (.int v) ∧ μ0 = μ') := by
  unfold f_X12_isSo at h
  refine vv_aload_n 0 0 dX12_isSo_0 rfl rfl ?_
  refine vv_aload_n 1 0 dX12_isSo_1 rfl rfl ?_
  refine vv_getI 2 dX12_isSo_2 fl_12_533 rfl (g_l_291 hG) ?_
  obtain ⟨y3, μ1, hr2, h⟩ := sh_bind_e h
  refine v1_callV [_] 5 dX12_isSo_5 ck_X12_453 (g_l_291 hG) ⟨by decide, rfl⟩ (t_X12_heightOf hG hr2) (Nat.le_of_ble_eq_true rfl) ⟨Nat.le_of_ble_eq_true rfl, Nat.le_of_ble_eq_true rfl⟩ rfl (Nat.le_of_ble_eq_true rfl) ?_
  have hG1 := gp_X12_heightOf hG hr2
  refine vv_aload_n 8 0 dX12_isSo_8 rfl rfl ?_
  refine vv_getI 9 dX12_isSo_9 fl_12_536 rfl (g_l_291 hG1) ?_
  refine vv_icmp_lt 12 34 dX12_isSo_12 (by decide) (fun c4 => ?_) (fun c4 => ?_)
  · rw [if_pos c4] at h
    refine vv_iconst 34 dX12_isSo_34 ik_0 ?_
    obtain ⟨e1, e2⟩ := sh_some2 h
    refine vv_zret 35 dX12_isSo_35 rfl rfl (Nat.le_refl _) (Nat.le_refl _) ⟨by rw [e1], e2⟩
  · rw [if_neg c4] at h
    refine vv_aload_n 15 0 dX12_isSo_15 rfl rfl ?_
    refine vv_aload_n 16 0 dX12_isSo_16 rfl rfl ?_
    refine vv_getI 17 dX12_isSo_17 fl_12_539 rfl (g_l_291 hG1) ?_
    obtain ⟨y7, μ5, hr6, h⟩ := sh_bind_e h
    refine v1_callV [_] 20 dX12_isSo_20 ck_X12_453 (g_l_291 hG1) ⟨by decide, rfl⟩ (t_X12_heightOf hG1 hr6) (Nat.le_of_ble_eq_true rfl) ⟨Nat.le_of_ble_eq_true rfl, Nat.le_of_ble_eq_true rfl⟩ rfl (Nat.le_of_ble_eq_true rfl) ?_
    have hG5 := gp_X12_heightOf hG1 hr6
    refine vv_aload_n 23 0 dX12_isSo_23 rfl rfl ?_
    refine vv_getI 24 dX12_isSo_24 fl_12_542 rfl (g_l_291 hG5) ?_
    refine vv_icmp_ne 27 34 dX12_isSo_27 (by decide) (fun c8 => ?_) (fun c8 => ?_)
    · rw [if_neg c8] at h
      refine vv_iconst 34 dX12_isSo_34 ik_0 ?_
      obtain ⟨e1, e2⟩ := sh_some2 h
      refine vv_zret 35 dX12_isSo_35 rfl rfl (Nat.le_refl _) (Nat.le_refl _) ⟨by rw [e1], e2⟩
    · rw [if_pos c8] at h
      refine vv_iconst 30 dX12_isSo_30 ik_1 ?_
      refine vv_goto 31 35 dX12_isSo_31 (by decide) ?_
      obtain ⟨e1, e2⟩ := sh_some2 h
      refine vv_zret 35 dX12_isSo_35 rfl rfl (Nat.le_refl _) (Nat.le_refl _) ⟨by rw [e1], e2⟩
noncomputable def f_X12_askingMany (μ : sh_Mem) : Option (Int32 × sh_Mem) := sh_bind (f_X12_personMany μ) (fun y3 μ1 => sh_bind (f_X12_topicMany μ1) (fun y6 μ4 => some ((y3 * y6), μ4)))
theorem gp_X12_askingMany {μ μ' : sh_Mem} {v : Int32} (hG : sh_G μ) (h : f_X12_askingMany μ = some (v, μ')) : sh_G μ' := by
  unfold f_X12_askingMany at h
  obtain ⟨y3, μ1, hr2, h⟩ := sh_bind_e h
  have hG1 := gp_X12_personMany hG hr2
  obtain ⟨y6, μ4, hr5, h⟩ := sh_bind_e h
  have hG4 := gp_X12_topicMany hG1 hr5
  obtain ⟨e1, e2⟩ := sh_some2 h
  exact e2 ▸ hG4
theorem t_X12_askingMany {μ μ' : sh_Mem} {v : Int32} (hG : sh_G μ) (h : f_X12_askingMany μ = some (v, μ')) : sh_C0 l B D ca 2 M_X12_askingMany [.ref 291] μ (fun v0 μ0 => v0 = some (.int v) ∧ μ0 = μ') := by
  unfold f_X12_askingMany at h
  refine vv_aload_n 0 0 dX12_askingMany_0 rfl rfl ?_
  obtain ⟨y3, μ1, hr2, h⟩ := sh_bind_e h
  refine v1_callV [] 1 dX12_askingMany_1 ck_X12_411 (g_l_291 hG) ⟨by decide, rfl⟩ (t_X12_personMany hG hr2) (Nat.le_of_ble_eq_true rfl) ⟨Nat.le_of_ble_eq_true rfl, Nat.le_of_ble_eq_true rfl⟩ rfl (Nat.le_of_ble_eq_true rfl) ?_
  have hG1 := gp_X12_personMany hG hr2
  refine vv_aload_n 4 0 dX12_askingMany_4 rfl rfl ?_
  obtain ⟨y6, μ4, hr5, h⟩ := sh_bind_e h
  refine v1_callV [] 5 dX12_askingMany_5 ck_X12_408 (g_l_291 hG1) ⟨by decide, rfl⟩ (t_X12_topicMany hG1 hr5) (Nat.le_of_ble_eq_true rfl) ⟨Nat.le_of_ble_eq_true rfl, Nat.le_of_ble_eq_true rfl⟩ rfl (Nat.le_of_ble_eq_true rfl) ?_
  have hG4 := gp_X12_topicMany hG1 hr5
  refine vv_imul 8 dX12_askingMany_8 ?_
  obtain ⟨e1, e2⟩ := sh_some2 h
  refine vv_iret 9 dX12_askingMany_9 rfl (Nat.le_refl _) (Nat.le_refl _) ⟨by rw [e1], e2⟩
noncomputable def f_X12_beside (a1 : Int32) (a2 : Int32) (μ : sh_Mem) : Option (Int32 × sh_Mem) := (if a2 = 1 then sh_let (((a1 - a1 / 7 * 7) + (-1)) : Int32) (fun x33 => (if a2 = 0 then sh_let (((a1 / 7) + (-1)) : Int32) (fun x44 => sh_bind (f_X12_cellAt x33 x44 μ) (fun y47 μ45 => some (y47, μ45))) else (if a2 = 3 then sh_let (((a1 / 7) + 1) : Int32) (fun x40 => sh_bind (f_X12_cellAt x33 x40 μ) (fun y43 μ41 => some (y43, μ41))) else sh_let (((a1 / 7) + 0) : Int32) (fun x36 => sh_bind (f_X12_cellAt x33 x36 μ) (fun y39 μ37 => some (y39, μ37)))))) else (if a2 = 2 then sh_let (((a1 - a1 / 7 * 7) + 1) : Int32) (fun x18 => (if a2 = 0 then sh_let (((a1 / 7) + (-1)) : Int32) (fun x29 => sh_bind (f_X12_cellAt x18 x29 μ) (fun y32 μ30 => some (y32, μ30))) else (if a2 = 3 then sh_let (((a1 / 7) + 1) : Int32) (fun x25 => sh_bind (f_X12_cellAt x18 x25 μ) (fun y28 μ26 => some (y28, μ26))) else sh_let (((a1 / 7) + 0) : Int32) (fun x21 => sh_bind (f_X12_cellAt x18 x21 μ) (fun y24 μ22 => some (y24, μ22)))))) else sh_let (((a1 - a1 / 7 * 7) + 0) : Int32) (fun x3 => (if a2 = 0 then sh_let (((a1 / 7) + (-1)) : Int32) (fun x14 => sh_bind (f_X12_cellAt x3 x14 μ) (fun y17 μ15 => some (y17, μ15))) else (if a2 = 3 then sh_let (((a1 / 7) + 1) : Int32) (fun x10 => sh_bind (f_X12_cellAt x3 x10 μ) (fun y13 μ11 => some (y13, μ11))) else sh_let (((a1 / 7) + 0) : Int32) (fun x6 => sh_bind (f_X12_cellAt x3 x6 μ) (fun y9 μ7 => some (y9, μ7))))))))
theorem gp_X12_beside {a1 : Int32} {a2 : Int32} {μ μ' : sh_Mem} {v : Int32} (hG : sh_G μ) (h : f_X12_beside a1 a2 μ = some (v, μ')) : sh_G μ' := by
  unfold f_X12_beside at h
  by_cases c1 : a2 = 1
  · rw [if_pos c1] at h
    obtain ⟨x33, ex33⟩ : ∃ y : Int32, y = ((a1 - a1 / 7 * 7) + (-1)) := ⟨_, rfl⟩
    rw [sh_let_eq ex33] at h
    by_cases c34 : a2 = 0
    · rw [if_pos c34] at h
      obtain ⟨x44, ex44⟩ : ∃ y : Int32, y = ((a1 / 7) + (-1)) := ⟨_, rfl⟩
      rw [sh_let_eq ex44] at h
      obtain ⟨y47, μ45, hr46, h⟩ := sh_bind_e h
      have hG45 := gp_X12_cellAt hG hr46
      obtain ⟨e1, e2⟩ := sh_some2 h
      exact e2 ▸ hG45
    · rw [if_neg c34] at h
      by_cases c35 : a2 = 3
      · rw [if_pos c35] at h
        obtain ⟨x40, ex40⟩ : ∃ y : Int32, y = ((a1 / 7) + 1) := ⟨_, rfl⟩
        rw [sh_let_eq ex40] at h
        obtain ⟨y43, μ41, hr42, h⟩ := sh_bind_e h
        have hG41 := gp_X12_cellAt hG hr42
        obtain ⟨e1, e2⟩ := sh_some2 h
        exact e2 ▸ hG41
      · rw [if_neg c35] at h
        obtain ⟨x36, ex36⟩ : ∃ y : Int32, y = ((a1 / 7) + 0) := ⟨_, rfl⟩
        rw [sh_let_eq ex36] at h
        obtain ⟨y39, μ37, hr38, h⟩ := sh_bind_e h
        have hG37 := gp_X12_cellAt hG hr38
        obtain ⟨e1, e2⟩ := sh_some2 h
        exact e2 ▸ hG37
  · rw [if_neg c1] at h
    by_cases c2 : a2 = 2
    · rw [if_pos c2] at h
      obtain ⟨x18, ex18⟩ : ∃ y : Int32, y = ((a1 - a1 / 7 * 7) + 1) := ⟨_, rfl⟩
      rw [sh_let_eq ex18] at h
      by_cases c19 : a2 = 0
      · rw [if_pos c19] at h
        obtain ⟨x29, ex29⟩ : ∃ y : Int32, y = ((a1 / 7) + (-1)) := ⟨_, rfl⟩
        rw [sh_let_eq ex29] at h
        obtain ⟨y32, μ30, hr31, h⟩ := sh_bind_e h
        have hG30 := gp_X12_cellAt hG hr31
        obtain ⟨e1, e2⟩ := sh_some2 h
        exact e2 ▸ hG30
      · rw [if_neg c19] at h
        by_cases c20 : a2 = 3
        · rw [if_pos c20] at h
          obtain ⟨x25, ex25⟩ : ∃ y : Int32, y = ((a1 / 7) + 1) := ⟨_, rfl⟩
          rw [sh_let_eq ex25] at h
          obtain ⟨y28, μ26, hr27, h⟩ := sh_bind_e h
          have hG26 := gp_X12_cellAt hG hr27
          obtain ⟨e1, e2⟩ := sh_some2 h
          exact e2 ▸ hG26
        · rw [if_neg c20] at h
          obtain ⟨x21, ex21⟩ : ∃ y : Int32, y = ((a1 / 7) + 0) := ⟨_, rfl⟩
          rw [sh_let_eq ex21] at h
          obtain ⟨y24, μ22, hr23, h⟩ := sh_bind_e h
          have hG22 := gp_X12_cellAt hG hr23
          obtain ⟨e1, e2⟩ := sh_some2 h
          exact e2 ▸ hG22
    · rw [if_neg c2] at h
      obtain ⟨x3, ex3⟩ : ∃ y : Int32, y = ((a1 - a1 / 7 * 7) + 0) := ⟨_, rfl⟩
      rw [sh_let_eq ex3] at h
      by_cases c4 : a2 = 0
      · rw [if_pos c4] at h
        obtain ⟨x14, ex14⟩ : ∃ y : Int32, y = ((a1 / 7) + (-1)) := ⟨_, rfl⟩
        rw [sh_let_eq ex14] at h
        obtain ⟨y17, μ15, hr16, h⟩ := sh_bind_e h
        have hG15 := gp_X12_cellAt hG hr16
        obtain ⟨e1, e2⟩ := sh_some2 h
        exact e2 ▸ hG15
      · rw [if_neg c4] at h
        by_cases c5 : a2 = 3
        · rw [if_pos c5] at h
          obtain ⟨x10, ex10⟩ : ∃ y : Int32, y = ((a1 / 7) + 1) := ⟨_, rfl⟩
          rw [sh_let_eq ex10] at h
          obtain ⟨y13, μ11, hr12, h⟩ := sh_bind_e h
          have hG11 := gp_X12_cellAt hG hr12
          obtain ⟨e1, e2⟩ := sh_some2 h
          exact e2 ▸ hG11
        · rw [if_neg c5] at h
          obtain ⟨x6, ex6⟩ : ∃ y : Int32, y = ((a1 / 7) + 0) := ⟨_, rfl⟩
          rw [sh_let_eq ex6] at h
          obtain ⟨y9, μ7, hr8, h⟩ := sh_bind_e h
          have hG7 := gp_X12_cellAt hG hr8
          obtain ⟨e1, e2⟩ := sh_some2 h
          exact e2 ▸ hG7
theorem t_X12_beside {a1 : Int32} {a2 : Int32} {μ μ' : sh_Mem} {v : Int32} (hG : sh_G μ) (h : f_X12_beside a1 a2 μ = some (v, μ')) : sh_C0 l B D ca 3 M_X12_beside [.ref 291, .int a1, .int a2] μ (fun v0 μ0 => v0 = some (.int v) ∧ μ0 = μ') := by
  unfold f_X12_beside at h
  refine vv_iload_n 0 1 dX12_beside_0 rfl rfl ?_
  refine vv_bipush 1 dX12_beside_1 bk_7 ?_
  refine vv_irem 3 dX12_beside_3 (by decide) ?_
  refine vv_iload_n 4 2 dX12_beside_4 rfl rfl ?_
  refine vv_iconst 5 dX12_beside_5 ik_1 ?_
  refine vv_icmp_ne 6 13 dX12_beside_6 (by decide) (fun c1 => ?_) (fun c1 => ?_)
  · rw [if_neg c1] at h
    refine vv_iload_n 13 2 dX12_beside_13 rfl rfl ?_
    refine vv_iconst 14 dX12_beside_14 ik_2 ?_
    refine vv_icmp_ne 15 22 dX12_beside_15 (by decide) (fun c2 => ?_) (fun c2 => ?_)
    · rw [if_neg c2] at h
      refine vv_iconst 22 dX12_beside_22 ik_0 ?_
      refine vv_iadd 23 dX12_beside_23 ?_
      refine vv_topi (fun x3 ex3 => ?_)
      rw [sh_let_eq ex3] at h
      refine vv_istore_n (lv' := [(3, _), (0, _), (1, _), (2, _)]) 24 3 dX12_beside_24 rfl (by decide) rfl ?_
      refine vv_iload_n 25 1 dX12_beside_25 rfl rfl ?_
      refine vv_bipush 26 dX12_beside_26 bk_7 ?_
      refine vv_idiv 28 dX12_beside_28 (by decide) ?_
      refine vv_iload_n 29 2 dX12_beside_29 rfl rfl ?_
      refine vv_if_ne 30 37 dX12_beside_30 (by decide) (fun c4 => ?_) (fun c4 => ?_)
      · rw [if_neg c4] at h
        refine vv_iload_n 37 2 dX12_beside_37 rfl rfl ?_
        refine vv_iconst 38 dX12_beside_38 ik_3 ?_
        refine vv_icmp_ne 39 46 dX12_beside_39 (by decide) (fun c5 => ?_) (fun c5 => ?_)
        · rw [if_neg c5] at h
          refine vv_iconst 46 dX12_beside_46 ik_0 ?_
          refine vv_iadd 47 dX12_beside_47 ?_
          refine vv_topi (fun x6 ex6 => ?_)
          rw [sh_let_eq ex6] at h
          refine vv_istore (lv' := [(4, _), (3, _), (0, _), (1, _), (2, _)]) 48 4 dX12_beside_48 (by decide) rfl ?_
          refine vv_aload_n 50 0 dX12_beside_50 rfl rfl ?_
          refine vv_iload_n 51 3 dX12_beside_51 rfl rfl ?_
          refine vv_iload 52 4 dX12_beside_52 rfl ?_
          obtain ⟨y9, μ7, hr8, h⟩ := sh_bind_e h
          refine v1_callV [_, _] 54 dX12_beside_54 ck_X12_414 (g_l_291 hG) ⟨by decide, rfl⟩ (t_X12_cellAt hG hr8) (Nat.le_of_ble_eq_true rfl) ⟨Nat.le_of_ble_eq_true rfl, Nat.le_of_ble_eq_true rfl⟩ rfl (Nat.le_of_ble_eq_true rfl) ?_
          have hG7 := gp_X12_cellAt hG hr8
          obtain ⟨e1, e2⟩ := sh_some2 h
          refine vv_iret 57 dX12_beside_57 rfl (Nat.le_refl _) (Nat.le_refl _) ⟨by rw [e1], e2⟩
        · rw [if_pos c5] at h
          refine vv_iconst 42 dX12_beside_42 ik_1 ?_
          refine vv_goto 43 47 dX12_beside_43 (by decide) ?_
          refine vv_iadd 47 dX12_beside_47 ?_
          refine vv_topi (fun x10 ex10 => ?_)
          rw [sh_let_eq ex10] at h
          refine vv_istore (lv' := [(4, _), (3, _), (0, _), (1, _), (2, _)]) 48 4 dX12_beside_48 (by decide) rfl ?_
          refine vv_aload_n 50 0 dX12_beside_50 rfl rfl ?_
          refine vv_iload_n 51 3 dX12_beside_51 rfl rfl ?_
          refine vv_iload 52 4 dX12_beside_52 rfl ?_
          obtain ⟨y13, μ11, hr12, h⟩ := sh_bind_e h
          refine v1_callV [_, _] 54 dX12_beside_54 ck_X12_414 (g_l_291 hG) ⟨by decide, rfl⟩ (t_X12_cellAt hG hr12) (Nat.le_of_ble_eq_true rfl) ⟨Nat.le_of_ble_eq_true rfl, Nat.le_of_ble_eq_true rfl⟩ rfl (Nat.le_of_ble_eq_true rfl) ?_
          have hG11 := gp_X12_cellAt hG hr12
          obtain ⟨e1, e2⟩ := sh_some2 h
          refine vv_iret 57 dX12_beside_57 rfl (Nat.le_refl _) (Nat.le_refl _) ⟨by rw [e1], e2⟩
      · rw [if_pos c4] at h
        refine vv_iconst 33 dX12_beside_33 ik_m1 ?_
        refine vv_goto 34 47 dX12_beside_34 (by decide) ?_
        refine vv_iadd 47 dX12_beside_47 ?_
        refine vv_topi (fun x14 ex14 => ?_)
        rw [sh_let_eq ex14] at h
        refine vv_istore (lv' := [(4, _), (3, _), (0, _), (1, _), (2, _)]) 48 4 dX12_beside_48 (by decide) rfl ?_
        refine vv_aload_n 50 0 dX12_beside_50 rfl rfl ?_
        refine vv_iload_n 51 3 dX12_beside_51 rfl rfl ?_
        refine vv_iload 52 4 dX12_beside_52 rfl ?_
        obtain ⟨y17, μ15, hr16, h⟩ := sh_bind_e h
        refine v1_callV [_, _] 54 dX12_beside_54 ck_X12_414 (g_l_291 hG) ⟨by decide, rfl⟩ (t_X12_cellAt hG hr16) (Nat.le_of_ble_eq_true rfl) ⟨Nat.le_of_ble_eq_true rfl, Nat.le_of_ble_eq_true rfl⟩ rfl (Nat.le_of_ble_eq_true rfl) ?_
        have hG15 := gp_X12_cellAt hG hr16
        obtain ⟨e1, e2⟩ := sh_some2 h
        refine vv_iret 57 dX12_beside_57 rfl (Nat.le_refl _) (Nat.le_refl _) ⟨by rw [e1], e2⟩
    · rw [if_pos c2] at h
      refine vv_iconst 18 dX12_beside_18 ik_1 ?_
      refine vv_goto 19 23 dX12_beside_19 (by decide) ?_
      refine vv_iadd 23 dX12_beside_23 ?_
      refine vv_topi (fun x18 ex18 => ?_)
      rw [sh_let_eq ex18] at h
      refine vv_istore_n (lv' := [(3, _), (0, _), (1, _), (2, _)]) 24 3 dX12_beside_24 rfl (by decide) rfl ?_
      refine vv_iload_n 25 1 dX12_beside_25 rfl rfl ?_
      refine vv_bipush 26 dX12_beside_26 bk_7 ?_
      refine vv_idiv 28 dX12_beside_28 (by decide) ?_
      refine vv_iload_n 29 2 dX12_beside_29 rfl rfl ?_
      refine vv_if_ne 30 37 dX12_beside_30 (by decide) (fun c19 => ?_) (fun c19 => ?_)
      · rw [if_neg c19] at h
        refine vv_iload_n 37 2 dX12_beside_37 rfl rfl ?_
        refine vv_iconst 38 dX12_beside_38 ik_3 ?_
        refine vv_icmp_ne 39 46 dX12_beside_39 (by decide) (fun c20 => ?_) (fun c20 => ?_)
        · rw [if_neg c20] at h
          refine vv_iconst 46 dX12_beside_46 ik_0 ?_
          refine vv_iadd 47 dX12_beside_47 ?_
          refine vv_topi (fun x21 ex21 => ?_)
          rw [sh_let_eq ex21] at h
          refine vv_istore (lv' := [(4, _), (3, _), (0, _), (1, _), (2, _)]) 48 4 dX12_beside_48 (by decide) rfl ?_
          refine vv_aload_n 50 0 dX12_beside_50 rfl rfl ?_
          refine vv_iload_n 51 3 dX12_beside_51 rfl rfl ?_
          refine vv_iload 52 4 dX12_beside_52 rfl ?_
          obtain ⟨y24, μ22, hr23, h⟩ := sh_bind_e h
          refine v1_callV [_, _] 54 dX12_beside_54 ck_X12_414 (g_l_291 hG) ⟨by decide, rfl⟩ (t_X12_cellAt hG hr23) (Nat.le_of_ble_eq_true rfl) ⟨Nat.le_of_ble_eq_true rfl, Nat.le_of_ble_eq_true rfl⟩ rfl (Nat.le_of_ble_eq_true rfl) ?_
          have hG22 := gp_X12_cellAt hG hr23
          obtain ⟨e1, e2⟩ := sh_some2 h
          refine vv_iret 57 dX12_beside_57 rfl (Nat.le_refl _) (Nat.le_refl _) ⟨by rw [e1], e2⟩
        · rw [if_pos c20] at h
          refine vv_iconst 42 dX12_beside_42 ik_1 ?_
          refine vv_goto 43 47 dX12_beside_43 (by decide) ?_
          refine vv_iadd 47 dX12_beside_47 ?_
          refine vv_topi (fun x25 ex25 => ?_)
          rw [sh_let_eq ex25] at h
          refine vv_istore (lv' := [(4, _), (3, _), (0, _), (1, _), (2, _)]) 48 4 dX12_beside_48 (by decide) rfl ?_
          refine vv_aload_n 50 0 dX12_beside_50 rfl rfl ?_
          refine vv_iload_n 51 3 dX12_beside_51 rfl rfl ?_
          refine vv_iload 52 4 dX12_beside_52 rfl ?_
          obtain ⟨y28, μ26, hr27, h⟩ := sh_bind_e h
          refine v1_callV [_, _] 54 dX12_beside_54 ck_X12_414 (g_l_291 hG) ⟨by decide, rfl⟩ (t_X12_cellAt hG hr27) (Nat.le_of_ble_eq_true rfl) ⟨Nat.le_of_ble_eq_true rfl, Nat.le_of_ble_eq_true rfl⟩ rfl (Nat.le_of_ble_eq_true rfl) ?_
          have hG26 := gp_X12_cellAt hG hr27
          obtain ⟨e1, e2⟩ := sh_some2 h
          refine vv_iret 57 dX12_beside_57 rfl (Nat.le_refl _) (Nat.le_refl _) ⟨by rw [e1], e2⟩
      · rw [if_pos c19] at h
        refine vv_iconst 33 dX12_beside_33 ik_m1 ?_
        refine vv_goto 34 47 dX12_beside_34 (by decide) ?_
        refine vv_iadd 47 dX12_beside_47 ?_
        refine vv_topi (fun x29 ex29 => ?_)
        rw [sh_let_eq ex29] at h
        refine vv_istore (lv' := [(4, _), (3, _), (0, _), (1, _), (2, _)]) 48 4 dX12_beside_48 (by decide) rfl ?_
        refine vv_aload_n 50 0 dX12_beside_50 rfl rfl ?_
        refine vv_iload_n 51 3 dX12_beside_51 rfl rfl ?_
        refine vv_iload 52 4 dX12_beside_52 rfl ?_
        obtain ⟨y32, μ30, hr31, h⟩ := sh_bind_e h
        refine v1_callV [_, _] 54 dX12_beside_54 ck_X12_414 (g_l_291 hG) ⟨by decide, rfl⟩ (t_X12_cellAt hG hr31) (Nat.le_of_ble_eq_true rfl) ⟨Nat.le_of_ble_eq_true rfl, Nat.le_of_ble_eq_true rfl⟩ rfl (Nat.le_of_ble_eq_true rfl) ?_
        have hG30 := gp_X12_cellAt hG hr31
        obtain ⟨e1, e2⟩ := sh_some2 h
        refine vv_iret 57 dX12_beside_57 rfl (Nat.le_refl _) (Nat.le_refl _) ⟨by rw [e1], e2⟩
  · rw [if_pos c1] at h
    refine vv_iconst 9 dX12_beside_9 ik_m1 ?_
    refine vv_goto 10 23 dX12_beside_10 (by decide) ?_
    refine vv_iadd 23 dX12_beside_23 ?_
    refine vv_topi (fun x33 ex33 => ?_)
    rw [sh_let_eq ex33] at h
    refine vv_istore_n (lv' := [(3, _), (0, _), (1, _), (2, _)]) 24 3 dX12_beside_24 rfl (by decide) rfl ?_
    refine vv_iload_n 25 1 dX12_beside_25 rfl rfl ?_
    refine vv_bipush 26 dX12_beside_26 bk_7 ?_
    refine vv_idiv 28 dX12_beside_28 (by decide) ?_
    refine vv_iload_n 29 2 dX12_beside_29 rfl rfl ?_
    refine vv_if_ne 30 37 dX12_beside_30 (by decide) (fun c34 => ?_) (fun c34 => ?_)
    · rw [if_neg c34] at h
      refine vv_iload_n 37 2 dX12_beside_37 rfl rfl ?_
      refine vv_iconst 38 dX12_beside_38 ik_3 ?_
      refine vv_icmp_ne 39 46 dX12_beside_39 (by decide) (fun c35 => ?_) (fun c35 => ?_)
      · rw [if_neg c35] at h
        refine vv_iconst 46 dX12_beside_46 ik_0 ?_
        refine vv_iadd 47 dX12_beside_47 ?_
        refine vv_topi (fun x36 ex36 => ?_)
        rw [sh_let_eq ex36] at h
        refine vv_istore (lv' := [(4, _), (3, _), (0, _), (1, _), (2, _)]) 48 4 dX12_beside_48 (by decide) rfl ?_
        refine vv_aload_n 50 0 dX12_beside_50 rfl rfl ?_
        refine vv_iload_n 51 3 dX12_beside_51 rfl rfl ?_
        refine vv_iload 52 4 dX12_beside_52 rfl ?_
        obtain ⟨y39, μ37, hr38, h⟩ := sh_bind_e h
        refine v1_callV [_, _] 54 dX12_beside_54 ck_X12_414 (g_l_291 hG) ⟨by decide, rfl⟩ (t_X12_cellAt hG hr38) (Nat.le_of_ble_eq_true rfl) ⟨Nat.le_of_ble_eq_true rfl, Nat.le_of_ble_eq_true rfl⟩ rfl (Nat.le_of_ble_eq_true rfl) ?_
        have hG37 := gp_X12_cellAt hG hr38
        obtain ⟨e1, e2⟩ := sh_some2 h
        refine vv_iret 57 dX12_beside_57 rfl (Nat.le_refl _) (Nat.le_refl _) ⟨by rw [e1], e2⟩
      · rw [if_pos c35] at h
        refine vv_iconst 42 dX12_beside_42 ik_1 ?_
        refine vv_goto 43 47 dX12_beside_43 (by decide) ?_
        refine vv_iadd 47 dX12_beside_47 ?_
        refine vv_topi (fun x40 ex40 => ?_)
        rw [sh_let_eq ex40] at h
        refine vv_istore (lv' := [(4, _), (3, _), (0, _), (1, _), (2, _)]) 48 4 dX12_beside_48 (by decide) rfl ?_
        refine vv_aload_n 50 0 dX12_beside_50 rfl rfl ?_
        refine vv_iload_n 51 3 dX12_beside_51 rfl rfl ?_
        refine vv_iload 52 4 dX12_beside_52 rfl ?_
        obtain ⟨y43, μ41, hr42, h⟩ := sh_bind_e h
        refine v1_callV [_, _] 54 dX12_beside_54 ck_X12_414 (g_l_291 hG) ⟨by decide, rfl⟩ (t_X12_cellAt hG hr42) (Nat.le_of_ble_eq_true rfl) ⟨Nat.le_of_ble_eq_true rfl, Nat.le_of_ble_eq_true rfl⟩ rfl (Nat.le_of_ble_eq_true rfl) ?_
        have hG41 := gp_X12_cellAt hG hr42
        obtain ⟨e1, e2⟩ := sh_some2 h
        refine vv_iret 57 dX12_beside_57 rfl (Nat.le_refl _) (Nat.le_refl _) ⟨by rw [e1], e2⟩
    · rw [if_pos c34] at h
      refine vv_iconst 33 dX12_beside_33 ik_m1 ?_
      refine vv_goto 34 47 dX12_beside_34 (by decide) ?_
      refine vv_iadd 47 dX12_beside_47 ?_
      refine vv_topi (fun x44 ex44 => ?_)
      rw [sh_let_eq ex44] at h
      refine vv_istore (lv' := [(4, _), (3, _), (0, _), (1, _), (2, _)]) 48 4 dX12_beside_48 (by decide) rfl ?_
      refine vv_aload_n 50 0 dX12_beside_50 rfl rfl ?_
      refine vv_iload_n 51 3 dX12_beside_51 rfl rfl ?_
      refine vv_iload 52 4 dX12_beside_52 rfl ?_
      obtain ⟨y47, μ45, hr46, h⟩ := sh_bind_e h
      refine v1_callV [_, _] 54 dX12_beside_54 ck_X12_414 (g_l_291 hG) ⟨by decide, rfl⟩ (t_X12_cellAt hG hr46) (Nat.le_of_ble_eq_true rfl) ⟨Nat.le_of_ble_eq_true rfl, Nat.le_of_ble_eq_true rfl⟩ rfl (Nat.le_of_ble_eq_true rfl) ?_
      have hG45 := gp_X12_cellAt hG hr46
      obtain ⟨e1, e2⟩ := sh_some2 h
      refine vv_iret 57 dX12_beside_57 rfl (Nat.le_refl _) (Nat.le_refl _) ⟨by rw [e1], e2⟩
noncomputable def F_X12_isCheaper : Nat → Nat → Int32 → Int32 → Int32 → sh_Mem → Option (Int32 × sh_Mem)
  | 0, _, _, _, _, _ => none
  | fuel + 1, lbl, i1, i2, i3, μ => match lbl with
    | 1 => (if 4 ≤ i3 then (if i2 = 0 ∨ i2 = 1 then some (i2, μ) else none) else sh_bind (f_X12_beside i1 i3 μ) (fun y40 μ38 => (if y40 = (-1) then F_X12_isCheaper fuel 1 i1 i2 (i3 + 1) μ38 else (if sh_in y40 49 then (if (sh_i μ38 336 y40.toNatClampNeg) = (-1) then F_X12_isCheaper fuel 1 i1 i2 (i3 + 1) μ38 else sh_bind (f_X12_heightOf i1 μ38) (fun y46 μ44 => sh_bind (f_X12_heightOf y40 μ44) (fun y49 μ47 => sh_let ((y46 - y49) : Int32) (fun x50 => (if sh_in y40 49 then (if 0 ≤ x50 then sh_let ((((sh_i μ47 336 y40.toNatClampNeg) + 1) + x50) : Int32) (fun x53 => (if sh_in i1 49 then (if (sh_i μ47 336 i1.toNatClampNeg) = (-1) then (if sh_in i1 49 then sh_let (sh_setI μ47 336 i1.toNatClampNeg x53) (fun μ57 => F_X12_isCheaper fuel 1 i1 1 (i3 + 1) μ57) else none) else (if sh_in i1 49 then (if x53 < (sh_i μ47 336 i1.toNatClampNeg) then (if sh_in i1 49 then sh_let (sh_setI μ47 336 i1.toNatClampNeg x53) (fun μ61 => F_X12_isCheaper fuel 1 i1 1 (i3 + 1) μ61) else none) else F_X12_isCheaper fuel 1 i1 i2 (i3 + 1) μ47) else none)) else none)) else sh_let ((((sh_i μ47 336 y40.toNatClampNeg) + 1) + (-x50)) : Int32) (fun x62 => (if sh_in i1 49 then (if (sh_i μ47 336 i1.toNatClampNeg) = (-1) then (if sh_in i1 49 then sh_let (sh_setI μ47 336 i1.toNatClampNeg x62) (fun μ66 => F_X12_isCheaper fuel 1 i1 1 (i3 + 1) μ66) else none) else (if sh_in i1 49 then (if x62 < (sh_i μ47 336 i1.toNatClampNeg) then (if sh_in i1 49 then sh_let (sh_setI μ47 336 i1.toNatClampNeg x62) (fun μ70 => F_X12_isCheaper fuel 1 i1 1 (i3 + 1) μ70) else none) else F_X12_isCheaper fuel 1 i1 i2 (i3 + 1) μ47) else none)) else none))) else none))))) else none))))
    | _ => none
noncomputable def f_X12_isCheaper (a1 : Int32) (μ : sh_Mem) : Option (Int32 × sh_Mem) := F_X12_isCheaper sh_fuel 1 a1 0 0 μ
theorem gpl_X12_isCheaper (fuel : Nat) : (∀ ⦃i1 : Int32⦄ ⦃i2 : Int32⦄ ⦃i3 : Int32⦄ ⦃μ μ' : sh_Mem⦄ ⦃v : Int32⦄, sh_G μ → F_X12_isCheaper fuel 1 i1 i2 i3 μ = some (v, μ') → sh_G μ') := by
  induction fuel with
  | zero => intro i1 i2 i3 μ μ' v hG h; cases h
  | succ fuel ih =>
    have ih_4 := ih
    intro i1 i2 i3 μ μ' v hG h
    replace h : ((if 4 ≤ i3 then (if i2 = 0 ∨ i2 = 1 then some (i2, μ) else none) else sh_bind (f_X12_beside i1 i3 μ) (fun y40 μ38 => (if y40 = (-1) then F_X12_isCheaper fuel 1 i1 i2 (i3 + 1) μ38 else (if sh_in y40 49 then (if (sh_i μ38 336 y40.toNatClampNeg) = (-1) then F_X12_isCheaper fuel 1 i1 i2 (i3 + 1) μ38 else sh_bind (f_X12_heightOf i1 μ38) (fun y46 μ44 => sh_bind (f_X12_heightOf y40 μ44) (fun y49 μ47 => sh_let ((y46 - y49) : Int32) (fun x50 => (if sh_in y40 49 then (if 0 ≤ x50 then sh_let ((((sh_i μ47 336 y40.toNatClampNeg) + 1) + x50) : Int32) (fun x53 => (if sh_in i1 49 then (if (sh_i μ47 336 i1.toNatClampNeg) = (-1) then (if sh_in i1 49 then sh_let (sh_setI μ47 336 i1.toNatClampNeg x53) (fun μ57 => F_X12_isCheaper fuel 1 i1 1 (i3 + 1) μ57) else none) else (if sh_in i1 49 then (if x53 < (sh_i μ47 336 i1.toNatClampNeg) then (if sh_in i1 49 then sh_let (sh_setI μ47 336 i1.toNatClampNeg x53) (fun μ61 => F_X12_isCheaper fuel 1 i1 1 (i3 + 1) μ61) else none) else F_X12_isCheaper fuel 1 i1 i2 (i3 + 1) μ47) else none)) else none)) else sh_let ((((sh_i μ47 336 y40.toNatClampNeg) + 1) + (-x50)) : Int32) (fun x62 => (if sh_in i1 49 then (if (sh_i μ47 336 i1.toNatClampNeg) = (-1) then (if sh_in i1 49 then sh_let (sh_setI μ47 336 i1.toNatClampNeg x62) (fun μ66 => F_X12_isCheaper fuel 1 i1 1 (i3 + 1) μ66) else none) else (if sh_in i1 49 then (if x62 < (sh_i μ47 336 i1.toNatClampNeg) then (if sh_in i1 49 then sh_let (sh_setI μ47 336 i1.toNatClampNeg x62) (fun μ70 => F_X12_isCheaper fuel 1 i1 1 (i3 + 1) μ70) else none) else F_X12_isCheaper fuel 1 i1 i2 (i3 + 1) μ47) else none)) else none))) else none))))) else none)))) : Option (Int32 × sh_Mem)) = some (v, μ') := h
    by_cases c36 : 4 ≤ i3
    · rw [if_pos c36] at h
      obtain ⟨k37, h⟩ := sh_chk h
      obtain ⟨e1, e2⟩ := sh_some2 h
      exact e2 ▸ hG
    · rw [if_neg c36] at h
      obtain ⟨y40, μ38, hr39, h⟩ := sh_bind_e h
      have hG38 := gp_X12_beside hG hr39
      by_cases c41 : y40 = (-1)
      · rw [if_pos c41] at h
        exact ih_4 hG38 h
      · rw [if_neg c41] at h
        obtain ⟨k42, h⟩ := sh_chk h
        by_cases c43 : (sh_i μ38 336 y40.toNatClampNeg) = (-1)
        · rw [if_pos c43] at h
          exact ih_4 hG38 h
        · rw [if_neg c43] at h
          obtain ⟨y46, μ44, hr45, h⟩ := sh_bind_e h
          have hG44 := gp_X12_heightOf hG38 hr45
          obtain ⟨y49, μ47, hr48, h⟩ := sh_bind_e h
          have hG47 := gp_X12_heightOf hG44 hr48
          obtain ⟨x50, ex50⟩ : ∃ y : Int32, y = (y46 - y49) := ⟨_, rfl⟩
          rw [sh_let_eq ex50] at h
          obtain ⟨k51, h⟩ := sh_chk h
          by_cases c52 : 0 ≤ x50
          · rw [if_pos c52] at h
            obtain ⟨x53, ex53⟩ : ∃ y : Int32, y = (((sh_i μ47 336 y40.toNatClampNeg) + 1) + x50) := ⟨_, rfl⟩
            rw [sh_let_eq ex53] at h
            obtain ⟨k54, h⟩ := sh_chk h
            by_cases c55 : (sh_i μ47 336 i1.toNatClampNeg) = (-1)
            · rw [if_pos c55] at h
              obtain ⟨k56, h⟩ := sh_chk h
              obtain ⟨μ57, eμ57⟩ : ∃ y : sh_Mem, y = (sh_setI μ47 336 i1.toNatClampNeg x53) := ⟨_, rfl⟩
              rw [sh_let_eq eμ57] at h
              have hG57 : sh_G μ57 := by rw [eμ57]; exact hG47
              exact ih_4 hG57 h
            · rw [if_neg c55] at h
              obtain ⟨k58, h⟩ := sh_chk h
              by_cases c59 : x53 < (sh_i μ47 336 i1.toNatClampNeg)
              · rw [if_pos c59] at h
                obtain ⟨k60, h⟩ := sh_chk h
                obtain ⟨μ61, eμ61⟩ : ∃ y : sh_Mem, y = (sh_setI μ47 336 i1.toNatClampNeg x53) := ⟨_, rfl⟩
                rw [sh_let_eq eμ61] at h
                have hG61 : sh_G μ61 := by rw [eμ61]; exact hG47
                exact ih_4 hG61 h
              · rw [if_neg c59] at h
                exact ih_4 hG47 h
          · rw [if_neg c52] at h
            obtain ⟨x62, ex62⟩ : ∃ y : Int32, y = (((sh_i μ47 336 y40.toNatClampNeg) + 1) + (-x50)) := ⟨_, rfl⟩
            rw [sh_let_eq ex62] at h
            obtain ⟨k63, h⟩ := sh_chk h
            by_cases c64 : (sh_i μ47 336 i1.toNatClampNeg) = (-1)
            · rw [if_pos c64] at h
              obtain ⟨k65, h⟩ := sh_chk h
              obtain ⟨μ66, eμ66⟩ : ∃ y : sh_Mem, y = (sh_setI μ47 336 i1.toNatClampNeg x62) := ⟨_, rfl⟩
              rw [sh_let_eq eμ66] at h
              have hG66 : sh_G μ66 := by rw [eμ66]; exact hG47
              exact ih_4 hG66 h
            · rw [if_neg c64] at h
              obtain ⟨k67, h⟩ := sh_chk h
              by_cases c68 : x62 < (sh_i μ47 336 i1.toNatClampNeg)
              · rw [if_pos c68] at h
                obtain ⟨k69, h⟩ := sh_chk h
                obtain ⟨μ70, eμ70⟩ : ∃ y : sh_Mem, y = (sh_setI μ47 336 i1.toNatClampNeg x62) := ⟨_, rfl⟩
                rw [sh_let_eq eμ70] at h
                have hG70 : sh_G μ70 := by rw [eμ70]; exact hG47
                exact ih_4 hG70 h
              · rw [if_neg c68] at h
                exact ih_4 hG47 h
theorem tl_X12_isCheaper (fuel : Nat) : (∀ ⦃i1 : Int32⦄ ⦃i2 : Int32⦄ ⦃i3 : Int32⦄ ⦃μ μ' : sh_Mem⦄ ⦃v : Int32⦄, sh_G μ → F_X12_isCheaper fuel 1 i1 i2 i3 μ = some (v, μ') → sh_V0 l B D ca 4 M_X12_isCheaper 4 [(0, .ref 291), (1, .int i1), (2, .int i2), (3, .int i3)] [] μ (fun v0 μ0 => v0 = some (.int v) ∧ μ0 = μ')) := by
  induction fuel with
  | zero => intro i1 i2 i3 μ μ' v hG h; cases h
  | succ fuel ih =>
    have ih_4 := ih
    intro i1 i2 i3 μ μ' v hG h
    replace h : ((if 4 ≤ i3 then (if i2 = 0 ∨ i2 = 1 then some (i2, μ) else none) else sh_bind (f_X12_beside i1 i3 μ) (fun y40 μ38 => (if y40 = (-1) then F_X12_isCheaper fuel 1 i1 i2 (i3 + 1) μ38 else (if sh_in y40 49 then (if (sh_i μ38 336 y40.toNatClampNeg) = (-1) then F_X12_isCheaper fuel 1 i1 i2 (i3 + 1) μ38 else sh_bind (f_X12_heightOf i1 μ38) (fun y46 μ44 => sh_bind (f_X12_heightOf y40 μ44) (fun y49 μ47 => sh_let ((y46 - y49) : Int32) (fun x50 => (if sh_in y40 49 then (if 0 ≤ x50 then sh_let ((((sh_i μ47 336 y40.toNatClampNeg) + 1) + x50) : Int32) (fun x53 => (if sh_in i1 49 then (if (sh_i μ47 336 i1.toNatClampNeg) = (-1) then (if sh_in i1 49 then sh_let (sh_setI μ47 336 i1.toNatClampNeg x53) (fun μ57 => F_X12_isCheaper fuel 1 i1 1 (i3 + 1) μ57) else none) else (if sh_in i1 49 then (if x53 < (sh_i μ47 336 i1.toNatClampNeg) then (if sh_in i1 49 then sh_let (sh_setI μ47 336 i1.toNatClampNeg x53) (fun μ61 => F_X12_isCheaper fuel 1 i1 1 (i3 + 1) μ61) else none) else F_X12_isCheaper fuel 1 i1 i2 (i3 + 1) μ47) else none)) else none)) else sh_let ((((sh_i μ47 336 y40.toNatClampNeg) + 1) + (-x50)) : Int32) (fun x62 => (if sh_in i1 49 then (if (sh_i μ47 336 i1.toNatClampNeg) = (-1) then (if sh_in i1 49 then sh_let (sh_setI μ47 336 i1.toNatClampNeg x62) (fun μ66 => F_X12_isCheaper fuel 1 i1 1 (i3 + 1) μ66) else none) else (if sh_in i1 49 then (if x62 < (sh_i μ47 336 i1.toNatClampNeg) then (if sh_in i1 49 then sh_let (sh_setI μ47 336 i1.toNatClampNeg x62) (fun μ70 => F_X12_isCheaper fuel 1 i1 1 (i3 + 1) μ70) else none) else F_X12_isCheaper fuel 1 i1 i2 (i3 + 1) μ47) else none)) else none))) else none))))) else none)))) : Option (Int32 × sh_Mem)) = some (v, μ') := h
    refine vv_iload_n 4 3 dX12_isCheaper_4 rfl rfl ?_
    refine vv_iconst 5 dX12_isCheaper_5 ik_4 ?_
    refine vv_icmp_ge 6 116 dX12_isCheaper_6 (by decide) (fun c36 => ?_) (fun c36 => ?_)
    · rw [if_pos c36] at h
      refine vv_iload_n 116 2 dX12_isCheaper_116 rfl rfl ?_
      obtain ⟨k37, h⟩ := sh_chk h
      obtain ⟨e1, e2⟩ := sh_some2 h
      refine vv_zret 117 dX12_isCheaper_117 rfl (sh_nb k37) (Nat.le_refl _) (Nat.le_refl _) ⟨by rw [e1], e2⟩
    · rw [if_neg c36] at h
      refine vv_aload_n 9 0 dX12_isCheaper_9 rfl rfl ?_
      refine vv_iload_n 10 1 dX12_isCheaper_10 rfl rfl ?_
      refine vv_iload_n 11 3 dX12_isCheaper_11 rfl rfl ?_
      obtain ⟨y40, μ38, hr39, h⟩ := sh_bind_e h
      refine v1_callV [_, _] 12 dX12_isCheaper_12 ck_X12_574 (g_l_291 hG) ⟨by decide, rfl⟩ (t_X12_beside hG hr39) (Nat.le_of_ble_eq_true rfl) ⟨Nat.le_of_ble_eq_true rfl, Nat.le_of_ble_eq_true rfl⟩ rfl (Nat.le_of_ble_eq_true rfl) ?_
      have hG38 := gp_X12_beside hG hr39
      refine vv_istore (lv' := [(4, _), (0, _), (1, _), (2, _), (3, _)]) 15 4 dX12_isCheaper_15 (by decide) rfl ?_
      refine vv_iload 17 4 dX12_isCheaper_17 rfl ?_
      refine vv_iconst 19 dX12_isCheaper_19 ik_m1 ?_
      refine vv_icmp_eq 20 110 dX12_isCheaper_20 (by decide) (fun c41 => ?_) (fun c41 => ?_)
      · rw [if_pos c41] at h
        refine vv_iincc (lv' := [(3, _), (4, _), (0, _), (1, _), (2, _)]) 110 3 dX12_isCheaper_110 rfl ik_1 (by decide) rfl ?_
        refine vv_goto 113 4 dX12_isCheaper_113 (by decide) ?_
        refine vv_sub [(0, _), (1, _), (2, _), (3, _)] (sh_subm [2, 3, 4, 0] rfl) ?_
        exact ih_4 hG38 h
      · rw [if_neg c41] at h
        refine vv_aload_n 23 0 dX12_isCheaper_23 rfl rfl ?_
        refine vv_getR 24 dX12_isCheaper_24 fl_12_148 rfl (g_l_291 hG38) (g_r_291_69 hG38) ?_
        refine vv_iload 27 4 dX12_isCheaper_27 rfl ?_
        obtain ⟨k42, h⟩ := sh_chk h
        refine vv_iald 29 dX12_isCheaper_29 (g_l_336 hG38) k42 ?_
        refine vv_iconst 30 dX12_isCheaper_30 ik_m1 ?_
        refine vv_icmp_ne 31 37 dX12_isCheaper_31 (by decide) (fun c43 => ?_) (fun c43 => ?_)
        · rw [if_neg c43] at h
          refine vv_aload_n 37 0 dX12_isCheaper_37 rfl rfl ?_
          refine vv_iload_n 38 1 dX12_isCheaper_38 rfl rfl ?_
          obtain ⟨y46, μ44, hr45, h⟩ := sh_bind_e h
          refine v1_callV [_] 39 dX12_isCheaper_39 ck_X12_453 (g_l_291 hG38) ⟨by decide, rfl⟩ (t_X12_heightOf hG38 hr45) (Nat.le_of_ble_eq_true rfl) ⟨Nat.le_of_ble_eq_true rfl, Nat.le_of_ble_eq_true rfl⟩ rfl (Nat.le_of_ble_eq_true rfl) ?_
          have hG44 := gp_X12_heightOf hG38 hr45
          refine vv_aload_n 42 0 dX12_isCheaper_42 rfl rfl ?_
          refine vv_iload 43 4 dX12_isCheaper_43 rfl ?_
          obtain ⟨y49, μ47, hr48, h⟩ := sh_bind_e h
          refine v1_callV [_] 45 dX12_isCheaper_45 ck_X12_453 (g_l_291 hG44) ⟨by decide, rfl⟩ (t_X12_heightOf hG44 hr48) (Nat.le_of_ble_eq_true rfl) ⟨Nat.le_of_ble_eq_true rfl, Nat.le_of_ble_eq_true rfl⟩ rfl (Nat.le_of_ble_eq_true rfl) ?_
          have hG47 := gp_X12_heightOf hG44 hr48
          refine vv_isub 48 dX12_isCheaper_48 ?_
          refine vv_topi (fun x50 ex50 => ?_)
          rw [sh_let_eq ex50] at h
          refine vv_istore (lv' := [(5, _), (4, _), (0, _), (1, _), (2, _), (3, _)]) 49 5 dX12_isCheaper_49 (by decide) rfl ?_
          refine vv_aload_n 51 0 dX12_isCheaper_51 rfl rfl ?_
          refine vv_getR 52 dX12_isCheaper_52 fl_12_148 rfl (g_l_291 hG47) (g_r_291_69 hG47) ?_
          refine vv_iload 55 4 dX12_isCheaper_55 rfl ?_
          obtain ⟨k51, h⟩ := sh_chk h
          refine vv_iald 57 dX12_isCheaper_57 (g_l_336 hG47) k51 ?_
          refine vv_iconst 58 dX12_isCheaper_58 ik_1 ?_
          refine vv_iadd 59 dX12_isCheaper_59 ?_
          refine vv_iload 60 5 dX12_isCheaper_60 rfl ?_
          refine vv_if_ge 62 71 dX12_isCheaper_62 (by decide) (fun c52 => ?_) (fun c52 => ?_)
          · rw [if_pos c52] at h
            refine vv_iload 71 5 dX12_isCheaper_71 rfl ?_
            refine vv_iadd 73 dX12_isCheaper_73 ?_
            refine vv_topi (fun x53 ex53 => ?_)
            rw [sh_let_eq ex53] at h
            refine vv_istore (lv' := [(6, _), (5, _), (4, _), (0, _), (1, _), (2, _), (3, _)]) 74 6 dX12_isCheaper_74 (by decide) rfl ?_
            refine vv_aload_n 76 0 dX12_isCheaper_76 rfl rfl ?_
            refine vv_getR 77 dX12_isCheaper_77 fl_12_148 rfl (g_l_291 hG47) (g_r_291_69 hG47) ?_
            refine vv_iload_n 80 1 dX12_isCheaper_80 rfl rfl ?_
            obtain ⟨k54, h⟩ := sh_chk h
            refine vv_iald 81 dX12_isCheaper_81 (g_l_336 hG47) k54 ?_
            refine vv_iconst 82 dX12_isCheaper_82 ik_m1 ?_
            refine vv_icmp_eq 83 100 dX12_isCheaper_83 (by decide) (fun c55 => ?_) (fun c55 => ?_)
            · rw [if_pos c55] at h
              refine vv_aload_n 100 0 dX12_isCheaper_100 rfl rfl ?_
              refine vv_getR 101 dX12_isCheaper_101 fl_12_148 rfl (g_l_291 hG47) (g_r_291_69 hG47) ?_
              refine vv_iload_n 104 1 dX12_isCheaper_104 rfl rfl ?_
              refine vv_iload 105 6 dX12_isCheaper_105 rfl ?_
              obtain ⟨k56, h⟩ := sh_chk h
              refine vn_iast 107 dX12_isCheaper_107 (g_l_336 hG47) k56 (fun μ57 eμ57 => ?_)
              rw [sh_let_eq eμ57] at h
              have hG57 : sh_G μ57 := by rw [eμ57]; exact hG47
              refine vv_iconst 108 dX12_isCheaper_108 ik_1 ?_
              refine vv_istore_n (lv' := [(2, _), (6, _), (5, _), (4, _), (0, _), (1, _), (3, _)]) 109 2 dX12_isCheaper_109 rfl (by decide) rfl ?_
              refine vv_iincc (lv' := [(3, _), (2, _), (6, _), (5, _), (4, _), (0, _), (1, _)]) 110 3 dX12_isCheaper_110 rfl ik_1 (by decide) rfl ?_
              refine vv_goto 113 4 dX12_isCheaper_113 (by decide) ?_
              refine vv_sub [(0, _), (1, _), (2, _), (3, _)] (sh_subm [5, 6, 1, 0] rfl) ?_
              exact ih_4 hG57 h
            · rw [if_neg c55] at h
              refine vv_iload 86 6 dX12_isCheaper_86 rfl ?_
              refine vv_aload_n 88 0 dX12_isCheaper_88 rfl rfl ?_
              refine vv_getR 89 dX12_isCheaper_89 fl_12_148 rfl (g_l_291 hG47) (g_r_291_69 hG47) ?_
              refine vv_iload_n 92 1 dX12_isCheaper_92 rfl rfl ?_
              obtain ⟨k58, h⟩ := sh_chk h
              refine vv_iald 93 dX12_isCheaper_93 (g_l_336 hG47) k58 ?_
              refine vv_icmp_lt 94 100 dX12_isCheaper_94 (by decide) (fun c59 => ?_) (fun c59 => ?_)
              · rw [if_pos c59] at h
                refine vv_aload_n 100 0 dX12_isCheaper_100 rfl rfl ?_
                refine vv_getR 101 dX12_isCheaper_101 fl_12_148 rfl (g_l_291 hG47) (g_r_291_69 hG47) ?_
                refine vv_iload_n 104 1 dX12_isCheaper_104 rfl rfl ?_
                refine vv_iload 105 6 dX12_isCheaper_105 rfl ?_
                obtain ⟨k60, h⟩ := sh_chk h
                refine vn_iast 107 dX12_isCheaper_107 (g_l_336 hG47) k60 (fun μ61 eμ61 => ?_)
                rw [sh_let_eq eμ61] at h
                have hG61 : sh_G μ61 := by rw [eμ61]; exact hG47
                refine vv_iconst 108 dX12_isCheaper_108 ik_1 ?_
                refine vv_istore_n (lv' := [(2, _), (6, _), (5, _), (4, _), (0, _), (1, _), (3, _)]) 109 2 dX12_isCheaper_109 rfl (by decide) rfl ?_
                refine vv_iincc (lv' := [(3, _), (2, _), (6, _), (5, _), (4, _), (0, _), (1, _)]) 110 3 dX12_isCheaper_110 rfl ik_1 (by decide) rfl ?_
                refine vv_goto 113 4 dX12_isCheaper_113 (by decide) ?_
                refine vv_sub [(0, _), (1, _), (2, _), (3, _)] (sh_subm [5, 6, 1, 0] rfl) ?_
                exact ih_4 hG61 h
              · rw [if_neg c59] at h
                refine vv_goto 97 110 dX12_isCheaper_97 (by decide) ?_
                refine vv_iincc (lv' := [(3, _), (6, _), (5, _), (4, _), (0, _), (1, _), (2, _)]) 110 3 dX12_isCheaper_110 rfl ik_1 (by decide) rfl ?_
                refine vv_goto 113 4 dX12_isCheaper_113 (by decide) ?_
                refine vv_sub [(0, _), (1, _), (2, _), (3, _)] (sh_subm [4, 5, 6, 0] rfl) ?_
                exact ih_4 hG47 h
          · rw [if_neg c52] at h
            refine vv_iload 65 5 dX12_isCheaper_65 rfl ?_
            refine vv_ineg 67 dX12_isCheaper_67 ?_
            refine vv_goto 68 73 dX12_isCheaper_68 (by decide) ?_
            refine vv_iadd 73 dX12_isCheaper_73 ?_
            refine vv_topi (fun x62 ex62 => ?_)
            rw [sh_let_eq ex62] at h
            refine vv_istore (lv' := [(6, _), (5, _), (4, _), (0, _), (1, _), (2, _), (3, _)]) 74 6 dX12_isCheaper_74 (by decide) rfl ?_
            refine vv_aload_n 76 0 dX12_isCheaper_76 rfl rfl ?_
            refine vv_getR 77 dX12_isCheaper_77 fl_12_148 rfl (g_l_291 hG47) (g_r_291_69 hG47) ?_
            refine vv_iload_n 80 1 dX12_isCheaper_80 rfl rfl ?_
            obtain ⟨k63, h⟩ := sh_chk h
            refine vv_iald 81 dX12_isCheaper_81 (g_l_336 hG47) k63 ?_
            refine vv_iconst 82 dX12_isCheaper_82 ik_m1 ?_
            refine vv_icmp_eq 83 100 dX12_isCheaper_83 (by decide) (fun c64 => ?_) (fun c64 => ?_)
            · rw [if_pos c64] at h
              refine vv_aload_n 100 0 dX12_isCheaper_100 rfl rfl ?_
              refine vv_getR 101 dX12_isCheaper_101 fl_12_148 rfl (g_l_291 hG47) (g_r_291_69 hG47) ?_
              refine vv_iload_n 104 1 dX12_isCheaper_104 rfl rfl ?_
              refine vv_iload 105 6 dX12_isCheaper_105 rfl ?_
              obtain ⟨k65, h⟩ := sh_chk h
              refine vn_iast 107 dX12_isCheaper_107 (g_l_336 hG47) k65 (fun μ66 eμ66 => ?_)
              rw [sh_let_eq eμ66] at h
              have hG66 : sh_G μ66 := by rw [eμ66]; exact hG47
              refine vv_iconst 108 dX12_isCheaper_108 ik_1 ?_
              refine vv_istore_n (lv' := [(2, _), (6, _), (5, _), (4, _), (0, _), (1, _), (3, _)]) 109 2 dX12_isCheaper_109 rfl (by decide) rfl ?_
              refine vv_iincc (lv' := [(3, _), (2, _), (6, _), (5, _), (4, _), (0, _), (1, _)]) 110 3 dX12_isCheaper_110 rfl ik_1 (by decide) rfl ?_
              refine vv_goto 113 4 dX12_isCheaper_113 (by decide) ?_
              refine vv_sub [(0, _), (1, _), (2, _), (3, _)] (sh_subm [5, 6, 1, 0] rfl) ?_
              exact ih_4 hG66 h
            · rw [if_neg c64] at h
              refine vv_iload 86 6 dX12_isCheaper_86 rfl ?_
              refine vv_aload_n 88 0 dX12_isCheaper_88 rfl rfl ?_
              refine vv_getR 89 dX12_isCheaper_89 fl_12_148 rfl (g_l_291 hG47) (g_r_291_69 hG47) ?_
              refine vv_iload_n 92 1 dX12_isCheaper_92 rfl rfl ?_
              obtain ⟨k67, h⟩ := sh_chk h
              refine vv_iald 93 dX12_isCheaper_93 (g_l_336 hG47) k67 ?_
              refine vv_icmp_lt 94 100 dX12_isCheaper_94 (by decide) (fun c68 => ?_) (fun c68 => ?_)
              · rw [if_pos c68] at h
                refine vv_aload_n 100 0 dX12_isCheaper_100 rfl rfl ?_
                refine vv_getR 101 dX12_isCheaper_101 fl_12_148 rfl (g_l_291 hG47) (g_r_291_69 hG47) ?_
                refine vv_iload_n 104 1 dX12_isCheaper_104 rfl rfl ?_
                refine vv_iload 105 6 dX12_isCheaper_105 rfl ?_
                obtain ⟨k69, h⟩ := sh_chk h
                refine vn_iast 107 dX12_isCheaper_107 (g_l_336 hG47) k69 (fun μ70 eμ70 => ?_)
                rw [sh_let_eq eμ70] at h
                have hG70 : sh_G μ70 := by rw [eμ70]; exact hG47
                refine vv_iconst 108 dX12_isCheaper_108 ik_1 ?_
                refine vv_istore_n (lv' := [(2, _), (6, _), (5, _), (4, _), (0, _), (1, _), (3, _)]) 109 2 dX12_isCheaper_109 rfl (by decide) rfl ?_
                refine vv_iincc (lv' := [(3, _), (2, _), (6, _), (5, _), (4, _), (0, _), (1, _)]) 110 3 dX12_isCheaper_110 rfl ik_1 (by decide) rfl ?_
                refine vv_goto 113 4 dX12_isCheaper_113 (by decide) ?_
                refine vv_sub [(0, _), (1, _), (2, _), (3, _)] (sh_subm [5, 6, 1, 0] rfl) ?_
                exact ih_4 hG70 h
              · rw [if_neg c68] at h
                refine vv_goto 97 110 dX12_isCheaper_97 (by decide) ?_
                refine vv_iincc (lv' := [(3, _), (6, _), (5, _), (4, _), (0, _), (1, _), (2, _)]) 110 3 dX12_isCheaper_110 rfl ik_1 (by decide) rfl ?_
                refine vv_goto 113 4 dX12_isCheaper_113 (by decide) ?_
                refine vv_sub [(0, _), (1, _), (2, _), (3, _)] (sh_subm [4, 5, 6, 0] rfl) ?_
                exact ih_4 hG47 h
        · rw [if_pos c43] at h
          refine vv_goto 34 110 dX12_isCheaper_34 (by decide) ?_
          refine vv_iincc (lv' := [(3, _), (4, _), (0, _), (1, _), (2, _)]) 110 3 dX12_isCheaper_110 rfl ik_1 (by decide) rfl ?_
          refine vv_goto 113 4 dX12_isCheaper_113 (by decide) ?_
          refine vv_sub [(0, _), (1, _), (2, _), (3, _)] (sh_subm [2, 3, 4, 0] rfl) ?_
          exact ih_4 hG38 h
theorem gp_X12_isCheaper {a1 : Int32} {μ μ' : sh_Mem} {v : Int32} (hG : sh_G μ) (h : f_X12_isCheaper a1 μ = some (v, μ')) : sh_G μ' := by
  have ih_4 := (gpl_X12_isCheaper sh_fuel)
  unfold f_X12_isCheaper at h
  exact ih_4 hG h
theorem t_X12_isCheaper {a1 : Int32} {μ μ' : sh_Mem} {v : Int32} (hG : sh_G μ) (h : f_X12_isCheaper a1 μ = some (v, μ')) : sh_C0 l B D ca 4 M_X12_isCheaper [.ref 291, .int a1] μ (fun v0 μ0 => v0 = some (.int v) ∧ μ0 = μ') := by
  have ih_4 := (tl_X12_isCheaper (l := l) (B := B) (D := D) (ca := ca) sh_fuel)
  unfold f_X12_isCheaper at h
  refine vv_iconst 0 dX12_isCheaper_0 ik_0 ?_
  refine vv_istore_n (lv' := [(2, _), (0, _), (1, _)]) 1 2 dX12_isCheaper_1 rfl (by decide) rfl ?_
  refine vv_iconst 2 dX12_isCheaper_2 ik_0 ?_
  refine vv_istore_n (lv' := [(3, _), (2, _), (0, _), (1, _)]) 3 3 dX12_isCheaper_3 rfl (by decide) rfl ?_
  refine vv_sub [(0, _), (1, _), (2, _), (3, _)] (sh_subm [2, 3, 1, 0] rfl) ?_
  exact ih_4 hG h
noncomputable def F_X12_wayCost : Nat → Nat → Int32 → Int32 → Int32 → Int32 → sh_Mem → Option (Int32 × sh_Mem)
  | 0, _, _, _, _, _, _ => none
  | fuel + 1, lbl, i1, i2, i3, i4, μ => match lbl with
    | 1 => (if 49 ≤ i3 then F_X12_wayCost fuel 2 i1 i2 1 0 μ else (if i3 = i1 then (if sh_in i3 49 then sh_let (sh_setI μ 336 i3.toNatClampNeg 0) (fun μ44 => F_X12_wayCost fuel 1 i1 i2 (i3 + 1) 0 μ44) else none) else (if sh_in i3 49 then sh_let (sh_setI μ 336 i3.toNatClampNeg (-1)) (fun μ42 => F_X12_wayCost fuel 1 i1 i2 (i3 + 1) 0 μ42) else none)))
    | 2 => (if i3 = 0 then (if sh_in i2 49 then some ((sh_i μ 336 i2.toNatClampNeg), μ) else none) else F_X12_wayCost fuel 3 i1 i2 0 0 μ)
    | 3 => sh_bind (f_X12_cellMany μ) (fun y49 μ47 => (if y49 ≤ i4 then F_X12_wayCost fuel 2 i1 i2 i3 0 μ47 else sh_bind (f_X12_cellOrder i4 μ47) (fun y53 μ51 => sh_bind (f_X12_isCheaper y53 μ51) (fun y56 μ54 => (if y56 = 0 then F_X12_wayCost fuel 3 i1 i2 i3 (i4 + 1) μ54 else F_X12_wayCost fuel 3 i1 i2 1 (i4 + 1) μ54)))))
    | _ => none
noncomputable def f_X12_wayCost (a1 : Int32) (a2 : Int32) (μ : sh_Mem) : Option (Int32 × sh_Mem) := F_X12_wayCost sh_fuel 1 a1 a2 0 0 μ
theorem gpl_X12_wayCost (fuel : Nat) : (∀ ⦃i1 : Int32⦄ ⦃i2 : Int32⦄ ⦃i3 : Int32⦄ ⦃i4 : Int32⦄ ⦃μ μ' : sh_Mem⦄ ⦃v : Int32⦄, sh_G μ → F_X12_wayCost fuel 1 i1 i2 i3 i4 μ = some (v, μ') → sh_G μ') ∧ (∀ ⦃i1 : Int32⦄ ⦃i2 : Int32⦄ ⦃i3 : Int32⦄ ⦃i4 : Int32⦄ ⦃μ μ' : sh_Mem⦄ ⦃v : Int32⦄, sh_G μ → F_X12_wayCost fuel 2 i1 i2 i3 i4 μ = some (v, μ') → sh_G μ') ∧ (∀ ⦃i1 : Int32⦄ ⦃i2 : Int32⦄ ⦃i3 : Int32⦄ ⦃i4 : Int32⦄ ⦃μ μ' : sh_Mem⦄ ⦃v : Int32⦄, sh_G μ → F_X12_wayCost fuel 3 i1 i2 i3 i4 μ = some (v, μ') → sh_G μ') := by
  induction fuel with
  | zero => exact ⟨(by intro i1 i2 i3 i4 μ μ' v hG h; cases h), (by intro i1 i2 i3 i4 μ μ' v hG h; cases h), (by intro i1 i2 i3 i4 μ μ' v hG h; cases h)⟩
  | succ fuel ih =>
    obtain ⟨ih_2, ih_32, ih_41⟩ := ih
    refine ⟨?_, ?_, ?_⟩
    · intro i1 i2 i3 i4 μ μ' v hG h
      replace h : ((if 49 ≤ i3 then F_X12_wayCost fuel 2 i1 i2 1 0 μ else (if i3 = i1 then (if sh_in i3 49 then sh_let (sh_setI μ 336 i3.toNatClampNeg 0) (fun μ44 => F_X12_wayCost fuel 1 i1 i2 (i3 + 1) 0 μ44) else none) else (if sh_in i3 49 then sh_let (sh_setI μ 336 i3.toNatClampNeg (-1)) (fun μ42 => F_X12_wayCost fuel 1 i1 i2 (i3 + 1) 0 μ42) else none))) : Option (Int32 × sh_Mem)) = some (v, μ') := h
      by_cases c39 : 49 ≤ i3
      · rw [if_pos c39] at h
        exact ih_32 hG h
      · rw [if_neg c39] at h
        by_cases c40 : i3 = i1
        · rw [if_pos c40] at h
          obtain ⟨k43, h⟩ := sh_chk h
          obtain ⟨μ44, eμ44⟩ : ∃ y : sh_Mem, y = (sh_setI μ 336 i3.toNatClampNeg 0) := ⟨_, rfl⟩
          rw [sh_let_eq eμ44] at h
          have hG44 : sh_G μ44 := by rw [eμ44]; exact hG
          exact ih_2 hG44 h
        · rw [if_neg c40] at h
          obtain ⟨k41, h⟩ := sh_chk h
          obtain ⟨μ42, eμ42⟩ : ∃ y : sh_Mem, y = (sh_setI μ 336 i3.toNatClampNeg (-1)) := ⟨_, rfl⟩
          rw [sh_let_eq eμ42] at h
          have hG42 : sh_G μ42 := by rw [eμ42]; exact hG
          exact ih_2 hG42 h
    · intro i1 i2 i3 i4 μ μ' v hG h
      replace h : ((if i3 = 0 then (if sh_in i2 49 then some ((sh_i μ 336 i2.toNatClampNeg), μ) else none) else F_X12_wayCost fuel 3 i1 i2 0 0 μ) : Option (Int32 × sh_Mem)) = some (v, μ') := h
      by_cases c45 : i3 = 0
      · rw [if_pos c45] at h
        obtain ⟨k46, h⟩ := sh_chk h
        obtain ⟨e1, e2⟩ := sh_some2 h
        exact e2 ▸ hG
      · rw [if_neg c45] at h
        exact ih_41 hG h
    · intro i1 i2 i3 i4 μ μ' v hG h
      replace h : (sh_bind (f_X12_cellMany μ) (fun y49 μ47 => (if y49 ≤ i4 then F_X12_wayCost fuel 2 i1 i2 i3 0 μ47 else sh_bind (f_X12_cellOrder i4 μ47) (fun y53 μ51 => sh_bind (f_X12_isCheaper y53 μ51) (fun y56 μ54 => (if y56 = 0 then F_X12_wayCost fuel 3 i1 i2 i3 (i4 + 1) μ54 else F_X12_wayCost fuel 3 i1 i2 1 (i4 + 1) μ54))))) : Option (Int32 × sh_Mem)) = some (v, μ') := h
      obtain ⟨y49, μ47, hr48, h⟩ := sh_bind_e h
      have hG47 := gp_X12_cellMany hG hr48
      by_cases c50 : y49 ≤ i4
      · rw [if_pos c50] at h
        exact ih_32 hG47 h
      · rw [if_neg c50] at h
        obtain ⟨y53, μ51, hr52, h⟩ := sh_bind_e h
        have hG51 := gp_X12_cellOrder hG47 hr52
        obtain ⟨y56, μ54, hr55, h⟩ := sh_bind_e h
        have hG54 := gp_X12_isCheaper hG51 hr55
        by_cases c57 : y56 = 0
        · rw [if_pos c57] at h
          exact ih_41 hG54 h
        · rw [if_neg c57] at h
          exact ih_41 hG54 h
theorem tl_X12_wayCost (fuel : Nat) : (∀ ⦃i1 : Int32⦄ ⦃i2 : Int32⦄ ⦃i3 : Int32⦄ ⦃i4 : Int32⦄ ⦃μ μ' : sh_Mem⦄ ⦃v : Int32⦄, sh_G μ → F_X12_wayCost fuel 1 i1 i2 i3 i4 μ = some (v, μ') → sh_V0 l B D ca 5 M_X12_wayCost 2 [(0, .ref 291), (1, .int i1), (2, .int i2), (3, .int i3)] [] μ (fun v0 μ0 => v0 = some (.int v) ∧ μ0 = μ')) ∧ (∀ ⦃i1 : Int32⦄ ⦃i2 : Int32⦄ ⦃i3 : Int32⦄ ⦃i4 : Int32⦄ ⦃μ μ' : sh_Mem⦄ ⦃v : Int32⦄, sh_G μ → F_X12_wayCost fuel 2 i1 i2 i3 i4 μ = some (v, μ') → sh_V0 l B D ca 5 M_X12_wayCost 32 [(0, .ref 291), (1, .int i1), (2, .int i2), (3, .int i3)] [] μ (fun v0 μ0 => v0 = some (.int v) ∧ μ0 = μ')) ∧ (∀ ⦃i1 : Int32⦄ ⦃i2 : Int32⦄ ⦃i3 : Int32⦄ ⦃i4 : Int32⦄ ⦃μ μ' : sh_Mem⦄ ⦃v : Int32⦄, sh_G μ → F_X12_wayCost fuel 3 i1 i2 i3 i4 μ = some (v, μ') → sh_V0 l B D ca 5 M_X12_wayCost 41 [(0, .ref 291), (1, .int i1), (2, .int i2), (3, .int i3), (4, .int i4)] [] μ (fun v0 μ0 => v0 = some (.int v) ∧ μ0 = μ')) := by
  induction fuel with
  | zero => exact ⟨(by intro i1 i2 i3 i4 μ μ' v hG h; cases h), (by intro i1 i2 i3 i4 μ μ' v hG h; cases h), (by intro i1 i2 i3 i4 μ μ' v hG h; cases h)⟩
  | succ fuel ih =>
    obtain ⟨ih_2, ih_32, ih_41⟩ := ih
    refine ⟨?_, ?_, ?_⟩
    · intro i1 i2 i3 i4 μ μ' v hG h
      replace h : ((if 49 ≤ i3 then F_X12_wayCost fuel 2 i1 i2 1 0 μ else (if i3 = i1 then (if sh_in i3 49 then sh_let (sh_setI μ 336 i3.toNatClampNeg 0) (fun μ44 => F_X12_wayCost fuel 1 i1 i2 (i3 + 1) 0 μ44) else none) else (if sh_in i3 49 then sh_let (sh_setI μ 336 i3.toNatClampNeg (-1)) (fun μ42 => F_X12_wayCost fuel 1 i1 i2 (i3 + 1) 0 μ42) else none))) : Option (Int32 × sh_Mem)) = some (v, μ') := h
      refine vv_iload_n 2 3 dX12_wayCost_2 rfl rfl ?_
      refine vv_bipush 3 dX12_wayCost_3 bk_49 ?_
      refine vv_icmp_ge 5 30 dX12_wayCost_5 (by decide) (fun c39 => ?_) (fun c39 => ?_)
      · rw [if_pos c39] at h
        refine vv_iconst 30 dX12_wayCost_30 ik_1 ?_
        refine vv_istore_n (lv' := [(3, _), (0, _), (1, _), (2, _)]) 31 3 dX12_wayCost_31 rfl (by decide) rfl ?_
        refine vv_sub [(0, _), (1, _), (2, _), (3, _)] (sh_subm [1, 2, 3, 0] rfl) ?_
        exact ih_32 hG h
      · rw [if_neg c39] at h
        refine vv_aload_n 8 0 dX12_wayCost_8 rfl rfl ?_
        refine vv_getR 9 dX12_wayCost_9 fl_12_148 rfl (g_l_291 hG) (g_r_291_69 hG) ?_
        refine vv_iload_n 12 3 dX12_wayCost_12 rfl rfl ?_
        refine vv_iload_n 13 3 dX12_wayCost_13 rfl rfl ?_
        refine vv_iload_n 14 1 dX12_wayCost_14 rfl rfl ?_
        refine vv_icmp_ne 15 22 dX12_wayCost_15 (by decide) (fun c40 => ?_) (fun c40 => ?_)
        · rw [if_neg c40] at h
          refine vv_iconst 22 dX12_wayCost_22 ik_m1 ?_
          obtain ⟨k41, h⟩ := sh_chk h
          refine vn_iast 23 dX12_wayCost_23 (g_l_336 hG) k41 (fun μ42 eμ42 => ?_)
          rw [sh_let_eq eμ42] at h
          have hG42 : sh_G μ42 := by rw [eμ42]; exact hG
          refine vv_iincc (lv' := [(3, _), (0, _), (1, _), (2, _)]) 24 3 dX12_wayCost_24 rfl ik_1 (by decide) rfl ?_
          refine vv_goto 27 2 dX12_wayCost_27 (by decide) ?_
          refine vv_sub [(0, _), (1, _), (2, _), (3, _)] (sh_subm [1, 2, 3, 0] rfl) ?_
          exact ih_2 hG42 h
        · rw [if_pos c40] at h
          refine vv_iconst 18 dX12_wayCost_18 ik_0 ?_
          refine vv_goto 19 23 dX12_wayCost_19 (by decide) ?_
          obtain ⟨k43, h⟩ := sh_chk h
          refine vn_iast 23 dX12_wayCost_23 (g_l_336 hG) k43 (fun μ44 eμ44 => ?_)
          rw [sh_let_eq eμ44] at h
          have hG44 : sh_G μ44 := by rw [eμ44]; exact hG
          refine vv_iincc (lv' := [(3, _), (0, _), (1, _), (2, _)]) 24 3 dX12_wayCost_24 rfl ik_1 (by decide) rfl ?_
          refine vv_goto 27 2 dX12_wayCost_27 (by decide) ?_
          refine vv_sub [(0, _), (1, _), (2, _), (3, _)] (sh_subm [1, 2, 3, 0] rfl) ?_
          exact ih_2 hG44 h
    · intro i1 i2 i3 i4 μ μ' v hG h
      replace h : ((if i3 = 0 then (if sh_in i2 49 then some ((sh_i μ 336 i2.toNatClampNeg), μ) else none) else F_X12_wayCost fuel 3 i1 i2 0 0 μ) : Option (Int32 × sh_Mem)) = some (v, μ') := h
      refine vv_iload_n 32 3 dX12_wayCost_32 rfl rfl ?_
      refine vv_if_eq 33 74 dX12_wayCost_33 (by decide) (fun c45 => ?_) (fun c45 => ?_)
      · rw [if_pos c45] at h
        refine vv_aload_n 74 0 dX12_wayCost_74 rfl rfl ?_
        refine vv_getR 75 dX12_wayCost_75 fl_12_148 rfl (g_l_291 hG) (g_r_291_69 hG) ?_
        refine vv_iload_n 78 2 dX12_wayCost_78 rfl rfl ?_
        obtain ⟨k46, h⟩ := sh_chk h
        refine vv_iald 79 dX12_wayCost_79 (g_l_336 hG) k46 ?_
        obtain ⟨e1, e2⟩ := sh_some2 h
        refine vv_iret 80 dX12_wayCost_80 rfl (Nat.le_refl _) (Nat.le_refl _) ⟨by rw [e1], e2⟩
      · rw [if_neg c45] at h
        refine vv_iconst 36 dX12_wayCost_36 ik_0 ?_
        refine vv_istore_n (lv' := [(3, _), (0, _), (1, _), (2, _)]) 37 3 dX12_wayCost_37 rfl (by decide) rfl ?_
        refine vv_iconst 38 dX12_wayCost_38 ik_0 ?_
        refine vv_istore (lv' := [(4, _), (3, _), (0, _), (1, _), (2, _)]) 39 4 dX12_wayCost_39 (by decide) rfl ?_
        refine vv_sub [(0, _), (1, _), (2, _), (3, _), (4, _)] (sh_subm [2, 3, 4, 1, 0] rfl) ?_
        exact ih_41 hG h
    · intro i1 i2 i3 i4 μ μ' v hG h
      replace h : (sh_bind (f_X12_cellMany μ) (fun y49 μ47 => (if y49 ≤ i4 then F_X12_wayCost fuel 2 i1 i2 i3 0 μ47 else sh_bind (f_X12_cellOrder i4 μ47) (fun y53 μ51 => sh_bind (f_X12_isCheaper y53 μ51) (fun y56 μ54 => (if y56 = 0 then F_X12_wayCost fuel 3 i1 i2 i3 (i4 + 1) μ54 else F_X12_wayCost fuel 3 i1 i2 1 (i4 + 1) μ54))))) : Option (Int32 × sh_Mem)) = some (v, μ') := h
      refine vv_iload 41 4 dX12_wayCost_41 rfl ?_
      refine vv_aload_n 43 0 dX12_wayCost_43 rfl rfl ?_
      obtain ⟨y49, μ47, hr48, h⟩ := sh_bind_e h
      refine v1_callV [] 44 dX12_wayCost_44 ck_X12_447 (g_l_291 hG) ⟨by decide, rfl⟩ (t_X12_cellMany hG hr48) (Nat.le_of_ble_eq_true rfl) ⟨Nat.le_of_ble_eq_true rfl, Nat.le_of_ble_eq_true rfl⟩ rfl (Nat.le_of_ble_eq_true rfl) ?_
      have hG47 := gp_X12_cellMany hG hr48
      refine vv_icmp_ge 47 71 dX12_wayCost_47 (by decide) (fun c50 => ?_) (fun c50 => ?_)
      · rw [if_pos c50] at h
        refine vv_goto 71 32 dX12_wayCost_71 (by decide) ?_
        refine vv_sub [(0, _), (1, _), (2, _), (3, _)] (sh_subm [0, 1, 2, 3] rfl) ?_
        exact ih_32 hG47 h
      · rw [if_neg c50] at h
        refine vv_aload_n 50 0 dX12_wayCost_50 rfl rfl ?_
        refine vv_aload_n 51 0 dX12_wayCost_51 rfl rfl ?_
        refine vv_iload 52 4 dX12_wayCost_52 rfl ?_
        obtain ⟨y53, μ51, hr52, h⟩ := sh_bind_e h
        refine v1_callV [_] 54 dX12_wayCost_54 ck_X12_450 (g_l_291 hG47) ⟨by decide, rfl⟩ (t_X12_cellOrder hG47 hr52) (Nat.le_of_ble_eq_true rfl) ⟨Nat.le_of_ble_eq_true rfl, Nat.le_of_ble_eq_true rfl⟩ rfl (Nat.le_of_ble_eq_true rfl) ?_
        have hG51 := gp_X12_cellOrder hG47 hr52
        obtain ⟨y56, μ54, hr55, h⟩ := sh_bind_e h
        refine v1_callV [_] 57 dX12_wayCost_57 ck_X12_577 (g_l_291 hG51) ⟨by decide, rfl⟩ (t_X12_isCheaper hG51 hr55) (Nat.le_of_ble_eq_true rfl) ⟨Nat.le_of_ble_eq_true rfl, Nat.le_of_ble_eq_true rfl⟩ rfl (Nat.le_of_ble_eq_true rfl) ?_
        have hG54 := gp_X12_isCheaper hG51 hr55
        refine vv_if_eq 60 65 dX12_wayCost_60 (by decide) (fun c57 => ?_) (fun c57 => ?_)
        · rw [if_pos c57] at h
          refine vv_iincc (lv' := [(4, _), (0, _), (1, _), (2, _), (3, _)]) 65 4 dX12_wayCost_65 rfl ik_1 (by decide) rfl ?_
          refine vv_goto 68 41 dX12_wayCost_68 (by decide) ?_
          refine vv_sub [(0, _), (1, _), (2, _), (3, _), (4, _)] (sh_subm [1, 2, 3, 4, 0] rfl) ?_
          exact ih_41 hG54 h
        · rw [if_neg c57] at h
          refine vv_iconst 63 dX12_wayCost_63 ik_1 ?_
          refine vv_istore_n (lv' := [(3, _), (0, _), (1, _), (2, _), (4, _)]) 64 3 dX12_wayCost_64 rfl (by decide) rfl ?_
          refine vv_iincc (lv' := [(4, _), (3, _), (0, _), (1, _), (2, _)]) 65 4 dX12_wayCost_65 rfl ik_1 (by decide) rfl ?_
          refine vv_goto 68 41 dX12_wayCost_68 (by decide) ?_
          refine vv_sub [(0, _), (1, _), (2, _), (3, _), (4, _)] (sh_subm [2, 3, 4, 1, 0] rfl) ?_
          exact ih_41 hG54 h
theorem gp_X12_wayCost {a1 : Int32} {a2 : Int32} {μ μ' : sh_Mem} {v : Int32} (hG : sh_G μ) (h : f_X12_wayCost a1 a2 μ = some (v, μ')) : sh_G μ' := by
  have ih_2 := (gpl_X12_wayCost sh_fuel).1
  have ih_32 := (gpl_X12_wayCost sh_fuel).2.1
  have ih_41 := (gpl_X12_wayCost sh_fuel).2.2
  unfold f_X12_wayCost at h
  exact ih_2 hG h
theorem t_X12_wayCost {a1 : Int32} {a2 : Int32} {μ μ' : sh_Mem} {v : Int32} (hG : sh_G μ) (h : f_X12_wayCost a1 a2 μ = some (v, μ')) : sh_C0 l B D ca 5 M_X12_wayCost [.ref 291, .int a1, .int a2] μ (fun v0 μ0 => v0 = some (.int v) ∧ μ0 = μ') := by
  have ih_2 := (tl_X12_wayCost (l := l) (B := B) (D := D) (ca := ca) sh_fuel).1
  have ih_32 := (tl_X12_wayCost (l := l) (B := B) (D := D) (ca := ca) sh_fuel).2.1
  have ih_41 := (tl_X12_wayCost (l := l) (B := B) (D := D) (ca := ca) sh_fuel).2.2
  unfold f_X12_wayCost at h
  refine vv_iconst 0 dX12_wayCost_0 ik_0 ?_
  refine vv_istore_n (lv' := [(3, _), (0, _), (1, _), (2, _)]) 1 3 dX12_wayCost_1 rfl (by decide) rfl ?_
  refine vv_sub [(0, _), (1, _), (2, _), (3, _)] (sh_subm [1, 2, 3, 0] rfl) ?_
  exact ih_2 hG h
noncomputable def f_X12_way (a1 : Int32) (a2 : Int32) (μ : sh_Mem) : Option (Int32 × sh_Mem) := sh_bind (f_X12_cellNumbered a1 μ) (fun y3 μ1 => sh_bind (f_X12_cellNumbered a2 μ1) (fun y6 μ4 => (if y3 = (-1) then some ((-1), μ4) else (if y6 = (-1) then some ((-1), μ4) else sh_bind (f_X12_wayCost y3 y6 μ4) (fun y11 μ9 => some (y11, μ9))))))
theorem gp_X12_way {a1 : Int32} {a2 : Int32} {μ μ' : sh_Mem} {v : Int32} (hG : sh_G μ) (h : f_X12_way a1 a2 μ = some (v, μ')) : sh_G μ' := by
  unfold f_X12_way at h
  obtain ⟨y3, μ1, hr2, h⟩ := sh_bind_e h
  have hG1 := gp_X12_cellNumbered hG hr2
  obtain ⟨y6, μ4, hr5, h⟩ := sh_bind_e h
  have hG4 := gp_X12_cellNumbered hG1 hr5
  by_cases c7 : y3 = (-1)
  · rw [if_pos c7] at h
    obtain ⟨e1, e2⟩ := sh_some2 h
    exact e2 ▸ hG4
  · rw [if_neg c7] at h
    by_cases c8 : y6 = (-1)
    · rw [if_pos c8] at h
      obtain ⟨e1, e2⟩ := sh_some2 h
      exact e2 ▸ hG4
    · rw [if_neg c8] at h
      obtain ⟨y11, μ9, hr10, h⟩ := sh_bind_e h
      have hG9 := gp_X12_wayCost hG4 hr10
      obtain ⟨e1, e2⟩ := sh_some2 h
      exact e2 ▸ hG9
theorem t_X12_way {a1 : Int32} {a2 : Int32} {μ μ' : sh_Mem} {v : Int32} (hG : sh_G μ) (h : f_X12_way a1 a2 μ = some (v, μ')) : sh_C0 l B D ca 6 M_X12_way [.ref 291, .int a1, .int a2] μ (fun v0 μ0 => v0 = some (.int v) ∧ μ0 = μ') := by
  unfold f_X12_way at h
  refine vv_aload_n 0 0 dX12_way_0 rfl rfl ?_
  refine vv_iload_n 1 1 dX12_way_1 rfl rfl ?_
  obtain ⟨y3, μ1, hr2, h⟩ := sh_bind_e h
  refine v1_callV [_] 2 dX12_way_2 ck_X12_566 (g_l_291 hG) ⟨by decide, rfl⟩ (t_X12_cellNumbered hG hr2) (Nat.le_of_ble_eq_true rfl) ⟨Nat.le_of_ble_eq_true rfl, Nat.le_of_ble_eq_true rfl⟩ rfl (Nat.le_of_ble_eq_true rfl) ?_
  have hG1 := gp_X12_cellNumbered hG hr2
  refine vv_istore_n (lv' := [(3, _), (0, _), (1, _), (2, _)]) 5 3 dX12_way_5 rfl (by decide) rfl ?_
  refine vv_aload_n 6 0 dX12_way_6 rfl rfl ?_
  refine vv_iload_n 7 2 dX12_way_7 rfl rfl ?_
  obtain ⟨y6, μ4, hr5, h⟩ := sh_bind_e h
  refine v1_callV [_] 8 dX12_way_8 ck_X12_566 (g_l_291 hG1) ⟨by decide, rfl⟩ (t_X12_cellNumbered hG1 hr5) (Nat.le_of_ble_eq_true rfl) ⟨Nat.le_of_ble_eq_true rfl, Nat.le_of_ble_eq_true rfl⟩ rfl (Nat.le_of_ble_eq_true rfl) ?_
  have hG4 := gp_X12_cellNumbered hG1 hr5
  refine vv_istore (lv' := [(4, _), (3, _), (0, _), (1, _), (2, _)]) 11 4 dX12_way_11 (by decide) rfl ?_
  refine vv_iload_n 13 3 dX12_way_13 rfl rfl ?_
  refine vv_iconst 14 dX12_way_14 ik_m1 ?_
  refine vv_icmp_eq 15 24 dX12_way_15 (by decide) (fun c7 => ?_) (fun c7 => ?_)
  · rw [if_pos c7] at h
    refine vv_iconst 24 dX12_way_24 ik_m1 ?_
    refine vv_goto 25 35 dX12_way_25 (by decide) ?_
    obtain ⟨e1, e2⟩ := sh_some2 h
    refine vv_iret 35 dX12_way_35 rfl (Nat.le_refl _) (Nat.le_refl _) ⟨by rw [e1], e2⟩
  · rw [if_neg c7] at h
    refine vv_iload 18 4 dX12_way_18 rfl ?_
    refine vv_iconst 20 dX12_way_20 ik_m1 ?_
    refine vv_icmp_ne 21 28 dX12_way_21 (by decide) (fun c8 => ?_) (fun c8 => ?_)
    · rw [if_neg c8] at h
      refine vv_aload_n 28 0 dX12_way_28 rfl rfl ?_
      refine vv_iload_n 29 3 dX12_way_29 rfl rfl ?_
      refine vv_iload 30 4 dX12_way_30 rfl ?_
      obtain ⟨y11, μ9, hr10, h⟩ := sh_bind_e h
      refine v1_callV [_, _] 32 dX12_way_32 ck_X12_580 (g_l_291 hG4) ⟨by decide, rfl⟩ (t_X12_wayCost hG4 hr10) (Nat.le_of_ble_eq_true rfl) ⟨Nat.le_of_ble_eq_true rfl, Nat.le_of_ble_eq_true rfl⟩ rfl (Nat.le_of_ble_eq_true rfl) ?_
      have hG9 := gp_X12_wayCost hG4 hr10
      obtain ⟨e1, e2⟩ := sh_some2 h
      refine vv_iret 35 dX12_way_35 rfl (Nat.le_refl _) (Nat.le_refl _) ⟨by rw [e1], e2⟩
    · rw [if_pos c8] at h
      refine vv_iconst 24 dX12_way_24 ik_m1 ?_
      refine vv_goto 25 35 dX12_way_25 (by decide) ?_
      obtain ⟨e1, e2⟩ := sh_some2 h
      refine vv_iret 35 dX12_way_35 rfl (Nat.le_refl _) (Nat.le_refl _) ⟨by rw [e1], e2⟩
noncomputable def F_X12_lowerOf : Nat → Nat → Int32 → Int32 → Int32 → sh_Mem → Option (Int32 × sh_Mem)
  | 0, _, _, _, _, _ => none
  | fuel + 1, lbl, i1, i2, i3, μ => match lbl with
    | 1 => (if 4 ≤ i3 then some (i2, μ) else sh_bind (f_X12_beside i1 i3 μ) (fun y16 μ14 => (if y16 = (-1) then F_X12_lowerOf fuel 1 i1 i2 (i3 + 1) μ14 else sh_bind (f_X12_heightOf y16 μ14) (fun y20 μ18 => sh_bind (f_X12_heightOf i2 μ18) (fun y23 μ21 => (if y23 ≤ y20 then F_X12_lowerOf fuel 1 i1 i2 (i3 + 1) μ21 else F_X12_lowerOf fuel 1 i1 y16 (i3 + 1) μ21))))))
    | _ => none
noncomputable def f_X12_lowerOf (a1 : Int32) (μ : sh_Mem) : Option (Int32 × sh_Mem) := F_X12_lowerOf sh_fuel 1 a1 a1 0 μ
theorem gpl_X12_lowerOf (fuel : Nat) : (∀ ⦃i1 : Int32⦄ ⦃i2 : Int32⦄ ⦃i3 : Int32⦄ ⦃μ μ' : sh_Mem⦄ ⦃v : Int32⦄, sh_G μ → F_X12_lowerOf fuel 1 i1 i2 i3 μ = some (v, μ') → sh_G μ') := by
  induction fuel with
  | zero => intro i1 i2 i3 μ μ' v hG h; cases h
  | succ fuel ih =>
    have ih_4 := ih
    intro i1 i2 i3 μ μ' v hG h
    replace h : ((if 4 ≤ i3 then some (i2, μ) else sh_bind (f_X12_beside i1 i3 μ) (fun y16 μ14 => (if y16 = (-1) then F_X12_lowerOf fuel 1 i1 i2 (i3 + 1) μ14 else sh_bind (f_X12_heightOf y16 μ14) (fun y20 μ18 => sh_bind (f_X12_heightOf i2 μ18) (fun y23 μ21 => (if y23 ≤ y20 then F_X12_lowerOf fuel 1 i1 i2 (i3 + 1) μ21 else F_X12_lowerOf fuel 1 i1 y16 (i3 + 1) μ21)))))) : Option (Int32 × sh_Mem)) = some (v, μ') := h
    by_cases c13 : 4 ≤ i3
    · rw [if_pos c13] at h
      obtain ⟨e1, e2⟩ := sh_some2 h
      exact e2 ▸ hG
    · rw [if_neg c13] at h
      obtain ⟨y16, μ14, hr15, h⟩ := sh_bind_e h
      have hG14 := gp_X12_beside hG hr15
      by_cases c17 : y16 = (-1)
      · rw [if_pos c17] at h
        exact ih_4 hG14 h
      · rw [if_neg c17] at h
        obtain ⟨y20, μ18, hr19, h⟩ := sh_bind_e h
        have hG18 := gp_X12_heightOf hG14 hr19
        obtain ⟨y23, μ21, hr22, h⟩ := sh_bind_e h
        have hG21 := gp_X12_heightOf hG18 hr22
        by_cases c24 : y23 ≤ y20
        · rw [if_pos c24] at h
          exact ih_4 hG21 h
        · rw [if_neg c24] at h
          exact ih_4 hG21 h
theorem tl_X12_lowerOf (fuel : Nat) : (∀ ⦃i1 : Int32⦄ ⦃i2 : Int32⦄ ⦃i3 : Int32⦄ ⦃μ μ' : sh_Mem⦄ ⦃v : Int32⦄, sh_G μ → F_X12_lowerOf fuel 1 i1 i2 i3 μ = some (v, μ') → sh_V0 l B D ca 4 M_X12_lowerOf 4 [(0, .ref 291), (1, .int i1), (2, .int i2), (3, .int i3)] [] μ (fun v0 μ0 => v0 = some (.int v) ∧ μ0 = μ')) := by
  induction fuel with
  | zero => intro i1 i2 i3 μ μ' v hG h; cases h
  | succ fuel ih =>
    have ih_4 := ih
    intro i1 i2 i3 μ μ' v hG h
    replace h : ((if 4 ≤ i3 then some (i2, μ) else sh_bind (f_X12_beside i1 i3 μ) (fun y16 μ14 => (if y16 = (-1) then F_X12_lowerOf fuel 1 i1 i2 (i3 + 1) μ14 else sh_bind (f_X12_heightOf y16 μ14) (fun y20 μ18 => sh_bind (f_X12_heightOf i2 μ18) (fun y23 μ21 => (if y23 ≤ y20 then F_X12_lowerOf fuel 1 i1 i2 (i3 + 1) μ21 else F_X12_lowerOf fuel 1 i1 y16 (i3 + 1) μ21)))))) : Option (Int32 × sh_Mem)) = some (v, μ') := h
    refine vv_iload_n 4 3 dX12_lowerOf_4 rfl rfl ?_
    refine vv_iconst 5 dX12_lowerOf_5 ik_4 ?_
    refine vv_icmp_ge 6 46 dX12_lowerOf_6 (by decide) (fun c13 => ?_) (fun c13 => ?_)
    · rw [if_pos c13] at h
      refine vv_iload_n 46 2 dX12_lowerOf_46 rfl rfl ?_
      obtain ⟨e1, e2⟩ := sh_some2 h
      refine vv_iret 47 dX12_lowerOf_47 rfl (Nat.le_refl _) (Nat.le_refl _) ⟨by rw [e1], e2⟩
    · rw [if_neg c13] at h
      refine vv_aload_n 9 0 dX12_lowerOf_9 rfl rfl ?_
      refine vv_iload_n 10 1 dX12_lowerOf_10 rfl rfl ?_
      refine vv_iload_n 11 3 dX12_lowerOf_11 rfl rfl ?_
      obtain ⟨y16, μ14, hr15, h⟩ := sh_bind_e h
      refine v1_callV [_, _] 12 dX12_lowerOf_12 ck_X12_574 (g_l_291 hG) ⟨by decide, rfl⟩ (t_X12_beside hG hr15) (Nat.le_of_ble_eq_true rfl) ⟨Nat.le_of_ble_eq_true rfl, Nat.le_of_ble_eq_true rfl⟩ rfl (Nat.le_of_ble_eq_true rfl) ?_
      have hG14 := gp_X12_beside hG hr15
      refine vv_istore (lv' := [(4, _), (0, _), (1, _), (2, _), (3, _)]) 15 4 dX12_lowerOf_15 (by decide) rfl ?_
      refine vv_iload 17 4 dX12_lowerOf_17 rfl ?_
      refine vv_iconst 19 dX12_lowerOf_19 ik_m1 ?_
      refine vv_icmp_eq 20 40 dX12_lowerOf_20 (by decide) (fun c17 => ?_) (fun c17 => ?_)
      · rw [if_pos c17] at h
        refine vv_iincc (lv' := [(3, _), (4, _), (0, _), (1, _), (2, _)]) 40 3 dX12_lowerOf_40 rfl ik_1 (by decide) rfl ?_
        refine vv_goto 43 4 dX12_lowerOf_43 (by decide) ?_
        refine vv_sub [(0, _), (1, _), (2, _), (3, _)] (sh_subm [2, 3, 4, 0] rfl) ?_
        exact ih_4 hG14 h
      · rw [if_neg c17] at h
        refine vv_aload_n 23 0 dX12_lowerOf_23 rfl rfl ?_
        refine vv_iload 24 4 dX12_lowerOf_24 rfl ?_
        obtain ⟨y20, μ18, hr19, h⟩ := sh_bind_e h
        refine v1_callV [_] 26 dX12_lowerOf_26 ck_X12_453 (g_l_291 hG14) ⟨by decide, rfl⟩ (t_X12_heightOf hG14 hr19) (Nat.le_of_ble_eq_true rfl) ⟨Nat.le_of_ble_eq_true rfl, Nat.le_of_ble_eq_true rfl⟩ rfl (Nat.le_of_ble_eq_true rfl) ?_
        have hG18 := gp_X12_heightOf hG14 hr19
        refine vv_aload_n 29 0 dX12_lowerOf_29 rfl rfl ?_
        refine vv_iload_n 30 2 dX12_lowerOf_30 rfl rfl ?_
        obtain ⟨y23, μ21, hr22, h⟩ := sh_bind_e h
        refine v1_callV [_] 31 dX12_lowerOf_31 ck_X12_453 (g_l_291 hG18) ⟨by decide, rfl⟩ (t_X12_heightOf hG18 hr22) (Nat.le_of_ble_eq_true rfl) ⟨Nat.le_of_ble_eq_true rfl, Nat.le_of_ble_eq_true rfl⟩ rfl (Nat.le_of_ble_eq_true rfl) ?_
        have hG21 := gp_X12_heightOf hG18 hr22
        refine vv_icmp_ge 34 40 dX12_lowerOf_34 (by decide) (fun c24 => ?_) (fun c24 => ?_)
        · rw [if_pos c24] at h
          refine vv_iincc (lv' := [(3, _), (4, _), (0, _), (1, _), (2, _)]) 40 3 dX12_lowerOf_40 rfl ik_1 (by decide) rfl ?_
          refine vv_goto 43 4 dX12_lowerOf_43 (by decide) ?_
          refine vv_sub [(0, _), (1, _), (2, _), (3, _)] (sh_subm [2, 3, 4, 0] rfl) ?_
          exact ih_4 hG21 h
        · rw [if_neg c24] at h
          refine vv_iload 37 4 dX12_lowerOf_37 rfl ?_
          refine vv_istore_n (lv' := [(2, _), (4, _), (0, _), (1, _), (3, _)]) 39 2 dX12_lowerOf_39 rfl (by decide) rfl ?_
          refine vv_iincc (lv' := [(3, _), (2, _), (4, _), (0, _), (1, _)]) 40 3 dX12_lowerOf_40 rfl ik_1 (by decide) rfl ?_
          refine vv_goto 43 4 dX12_lowerOf_43 (by decide) ?_
          refine vv_sub [(0, _), (1, _), (2, _), (3, _)] (sh_subm [3, 4, 1, 0] rfl) ?_
          exact ih_4 hG21 h
theorem gp_X12_lowerOf {a1 : Int32} {μ μ' : sh_Mem} {v : Int32} (hG : sh_G μ) (h : f_X12_lowerOf a1 μ = some (v, μ')) : sh_G μ' := by
  have ih_4 := (gpl_X12_lowerOf sh_fuel)
  unfold f_X12_lowerOf at h
  exact ih_4 hG h
theorem t_X12_lowerOf {a1 : Int32} {μ μ' : sh_Mem} {v : Int32} (hG : sh_G μ) (h : f_X12_lowerOf a1 μ = some (v, μ')) : sh_C0 l B D ca 4 M_X12_lowerOf [.ref 291, .int a1] μ (fun v0 μ0 => v0 = some (.int v) ∧ μ0 = μ') := by
  have ih_4 := (tl_X12_lowerOf (l := l) (B := B) (D := D) (ca := ca) sh_fuel)
  unfold f_X12_lowerOf at h
  refine vv_iload_n 0 1 dX12_lowerOf_0 rfl rfl ?_
  refine vv_istore_n (lv' := [(2, _), (0, _), (1, _)]) 1 2 dX12_lowerOf_1 rfl (by decide) rfl ?_
  refine vv_iconst 2 dX12_lowerOf_2 ik_0 ?_
  refine vv_istore_n (lv' := [(3, _), (2, _), (0, _), (1, _)]) 3 3 dX12_lowerOf_3 rfl (by decide) rfl ?_
  refine vv_sub [(0, _), (1, _), (2, _), (3, _)] (sh_subm [2, 3, 1, 0] rfl) ?_
  exact ih_4 hG h
noncomputable def F_X12_pond : Nat → Nat → Int32 → Int32 → Int32 → Int32 → sh_Mem → Option (Int32 × sh_Mem)
  | 0, _, _, _, _, _, _ => none
  | fuel + 1, lbl, i1, i2, i3, i4, μ => match lbl with
    | 1 => (if i4 = i3 then sh_bind (f_X12_numberOf i3 μ) (fun y18 μ16 => some (y18, μ16)) else sh_bind (f_X12_lowerOf i4 μ) (fun y21 μ19 => F_X12_pond fuel 1 i1 i2 i4 y21 μ19))
    | _ => none
noncomputable def f_X12_pond (a1 : Int32) (a2 : Int32) (μ : sh_Mem) : Option (Int32 × sh_Mem) := sh_bind (f_X12_cellAt a1 a2 μ) (fun y24 μ22 => (if y24 = (-1) then some ((-1), μ22) else sh_bind (f_X12_lowerOf y24 μ22) (fun y28 μ26 => F_X12_pond sh_fuel 1 a1 a2 y24 y28 μ26)))
theorem gpl_X12_pond (fuel : Nat) : (∀ ⦃i1 : Int32⦄ ⦃i2 : Int32⦄ ⦃i3 : Int32⦄ ⦃i4 : Int32⦄ ⦃μ μ' : sh_Mem⦄ ⦃v : Int32⦄, sh_G μ → F_X12_pond fuel 1 i1 i2 i3 i4 μ = some (v, μ') → sh_G μ') := by
  induction fuel with
  | zero => intro i1 i2 i3 i4 μ μ' v hG h; cases h
  | succ fuel ih =>
    have ih_21 := ih
    intro i1 i2 i3 i4 μ μ' v hG h
    replace h : ((if i4 = i3 then sh_bind (f_X12_numberOf i3 μ) (fun y18 μ16 => some (y18, μ16)) else sh_bind (f_X12_lowerOf i4 μ) (fun y21 μ19 => F_X12_pond fuel 1 i1 i2 i4 y21 μ19)) : Option (Int32 × sh_Mem)) = some (v, μ') := h
    by_cases c15 : i4 = i3
    · rw [if_pos c15] at h
      obtain ⟨y18, μ16, hr17, h⟩ := sh_bind_e h
      have hG16 := gp_X12_numberOf hG hr17
      obtain ⟨e1, e2⟩ := sh_some2 h
      exact e2 ▸ hG16
    · rw [if_neg c15] at h
      obtain ⟨y21, μ19, hr20, h⟩ := sh_bind_e h
      have hG19 := gp_X12_lowerOf hG hr20
      exact ih_21 hG19 h
theorem tl_X12_pond (fuel : Nat) : (∀ ⦃i1 : Int32⦄ ⦃i2 : Int32⦄ ⦃i3 : Int32⦄ ⦃i4 : Int32⦄ ⦃μ μ' : sh_Mem⦄ ⦃v : Int32⦄, sh_G μ → F_X12_pond fuel 1 i1 i2 i3 i4 μ = some (v, μ') → sh_V0 l B D ca 5 M_X12_pond 21 [(0, .ref 291), (1, .int i1), (2, .int i2), (3, .int i3), (4, .int i4)] [] μ (fun v0 μ0 => v0 = some (.int v) ∧ μ0 = μ')) := by
  induction fuel with
  | zero => intro i1 i2 i3 i4 μ μ' v hG h; cases h
  | succ fuel ih =>
    have ih_21 := ih
    intro i1 i2 i3 i4 μ μ' v hG h
    replace h : ((if i4 = i3 then sh_bind (f_X12_numberOf i3 μ) (fun y18 μ16 => some (y18, μ16)) else sh_bind (f_X12_lowerOf i4 μ) (fun y21 μ19 => F_X12_pond fuel 1 i1 i2 i4 y21 μ19)) : Option (Int32 × sh_Mem)) = some (v, μ') := h
    refine vv_iload 21 4 dX12_pond_21 rfl ?_
    refine vv_iload_n 23 3 dX12_pond_23 rfl rfl ?_
    refine vv_icmp_eq 24 40 dX12_pond_24 (by decide) (fun c15 => ?_) (fun c15 => ?_)
    · rw [if_pos c15] at h
      refine vv_iload_n 40 3 dX12_pond_40 rfl rfl ?_
      obtain ⟨y18, μ16, hr17, h⟩ := sh_bind_e h
      refine v1_callS [_] 41 dX12_pond_41 ck_X12_586 (t_X12_numberOf hG hr17) (Nat.le_of_ble_eq_true rfl) ⟨Nat.le_of_ble_eq_true rfl, Nat.le_of_ble_eq_true rfl⟩ rfl (Nat.le_of_ble_eq_true rfl) ?_
      have hG16 := gp_X12_numberOf hG hr17
      obtain ⟨e1, e2⟩ := sh_some2 h
      refine vv_iret 44 dX12_pond_44 rfl (Nat.le_refl _) (Nat.le_refl _) ⟨by rw [e1], e2⟩
    · rw [if_neg c15] at h
      refine vv_iload 27 4 dX12_pond_27 rfl ?_
      refine vv_istore_n (lv' := [(3, _), (0, _), (1, _), (2, _), (4, _)]) 29 3 dX12_pond_29 rfl (by decide) rfl ?_
      refine vv_aload_n 30 0 dX12_pond_30 rfl rfl ?_
      refine vv_iload_n 31 3 dX12_pond_31 rfl rfl ?_
      obtain ⟨y21, μ19, hr20, h⟩ := sh_bind_e h
      refine v1_callV [_] 32 dX12_pond_32 ck_X12_583 (g_l_291 hG) ⟨by decide, rfl⟩ (t_X12_lowerOf hG hr20) (Nat.le_of_ble_eq_true rfl) ⟨Nat.le_of_ble_eq_true rfl, Nat.le_of_ble_eq_true rfl⟩ rfl (Nat.le_of_ble_eq_true rfl) ?_
      have hG19 := gp_X12_lowerOf hG hr20
      refine vv_istore (lv' := [(4, _), (3, _), (0, _), (1, _), (2, _)]) 35 4 dX12_pond_35 (by decide) rfl ?_
      refine vv_goto 37 21 dX12_pond_37 (by decide) ?_
      refine vv_sub [(0, _), (1, _), (2, _), (3, _), (4, _)] (sh_subm [2, 3, 4, 1, 0] rfl) ?_
      exact ih_21 hG19 h
theorem gp_X12_pond {a1 : Int32} {a2 : Int32} {μ μ' : sh_Mem} {v : Int32} (hG : sh_G μ) (h : f_X12_pond a1 a2 μ = some (v, μ')) : sh_G μ' := by
  have ih_21 := (gpl_X12_pond sh_fuel)
  unfold f_X12_pond at h
  obtain ⟨y24, μ22, hr23, h⟩ := sh_bind_e h
  have hG22 := gp_X12_cellAt hG hr23
  by_cases c25 : y24 = (-1)
  · rw [if_pos c25] at h
    obtain ⟨e1, e2⟩ := sh_some2 h
    exact e2 ▸ hG22
  · rw [if_neg c25] at h
    obtain ⟨y28, μ26, hr27, h⟩ := sh_bind_e h
    have hG26 := gp_X12_lowerOf hG22 hr27
    exact ih_21 hG26 h
theorem t_X12_pond {a1 : Int32} {a2 : Int32} {μ μ' : sh_Mem} {v : Int32} (hG : sh_G μ) (h : f_X12_pond a1 a2 μ = some (v, μ')) : sh_C0 l B D ca 5 M_X12_pond [.ref 291, .int a1, .int a2] μ (fun v0 μ0 => v0 = some (.int v) ∧ μ0 = μ') := by
  have ih_21 := (tl_X12_pond (l := l) (B := B) (D := D) (ca := ca) sh_fuel)
  unfold f_X12_pond at h
  refine vv_aload_n 0 0 dX12_pond_0 rfl rfl ?_
  refine vv_iload_n 1 1 dX12_pond_1 rfl rfl ?_
  refine vv_iload_n 2 2 dX12_pond_2 rfl rfl ?_
  obtain ⟨y24, μ22, hr23, h⟩ := sh_bind_e h
  refine v1_callV [_, _] 3 dX12_pond_3 ck_X12_414 (g_l_291 hG) ⟨by decide, rfl⟩ (t_X12_cellAt hG hr23) (Nat.le_of_ble_eq_true rfl) ⟨Nat.le_of_ble_eq_true rfl, Nat.le_of_ble_eq_true rfl⟩ rfl (Nat.le_of_ble_eq_true rfl) ?_
  have hG22 := gp_X12_cellAt hG hr23
  refine vv_istore_n (lv' := [(3, _), (0, _), (1, _), (2, _)]) 6 3 dX12_pond_6 rfl (by decide) rfl ?_
  refine vv_iload_n 7 3 dX12_pond_7 rfl rfl ?_
  refine vv_iconst 8 dX12_pond_8 ik_m1 ?_
  refine vv_icmp_ne 9 14 dX12_pond_9 (by decide) (fun c25 => ?_) (fun c25 => ?_)
  · rw [if_neg c25] at h
    refine vv_aload_n 14 0 dX12_pond_14 rfl rfl ?_
    refine vv_iload_n 15 3 dX12_pond_15 rfl rfl ?_
    obtain ⟨y28, μ26, hr27, h⟩ := sh_bind_e h
    refine v1_callV [_] 16 dX12_pond_16 ck_X12_583 (g_l_291 hG22) ⟨by decide, rfl⟩ (t_X12_lowerOf hG22 hr27) (Nat.le_of_ble_eq_true rfl) ⟨Nat.le_of_ble_eq_true rfl, Nat.le_of_ble_eq_true rfl⟩ rfl (Nat.le_of_ble_eq_true rfl) ?_
    have hG26 := gp_X12_lowerOf hG22 hr27
    refine vv_istore (lv' := [(4, _), (3, _), (0, _), (1, _), (2, _)]) 19 4 dX12_pond_19 (by decide) rfl ?_
    refine vv_sub [(0, _), (1, _), (2, _), (3, _), (4, _)] (sh_subm [2, 3, 4, 1, 0] rfl) ?_
    exact ih_21 hG26 h
  · rw [if_pos c25] at h
    refine vv_iconst 12 dX12_pond_12 ik_m1 ?_
    obtain ⟨e1, e2⟩ := sh_some2 h
    refine vv_iret 13 dX12_pond_13 rfl (Nat.le_refl _) (Nat.le_refl _) ⟨by rw [e1], e2⟩
noncomputable def F_X12_isRest : Nat → Nat → Int32 → Int32 → sh_Mem → Option (Int32 × sh_Mem)
  | 0, _, _, _, _ => none
  | fuel + 1, lbl, i1, i2, μ => match lbl with
    | 1 => sh_bind (f_X12_personMany μ) (fun y10 μ8 => (if y10 ≤ i2 then some (1, μ8) else (if sh_in ((7 * (i1 ^^^ ((1 : Int32) <<< (i2 &&& 31)))) + i2) 896 then (if sh_in ((7 * i1) + i2) 896 then (if (sh_i μ8 337 (((7 * (i1 ^^^ ((1 : Int32) <<< (i2 &&& 31)))) + i2)).toNatClampNeg) ≤ (sh_i μ8 337 (((7 * i1) + i2)).toNatClampNeg) then F_X12_isRest fuel 1 i1 (i2 + 1) μ8 else some (0, μ8)) else none) else none)))
    | _ => none
noncomputable def f_X12_isRest (a1 : Int32) (μ : sh_Mem) : Option (Int32 × sh_Mem) := F_X12_isRest sh_fuel 1 a1 0 μ
theorem gpl_X12_isRest (fuel : Nat) : (∀ ⦃i1 : Int32⦄ ⦃i2 : Int32⦄ ⦃μ μ' : sh_Mem⦄ ⦃v : Int32⦄, sh_G μ → F_X12_isRest fuel 1 i1 i2 μ = some (v, μ') → sh_G μ') := by
  induction fuel with
  | zero => intro i1 i2 μ μ' v hG h; cases h
  | succ fuel ih =>
    have ih_2 := ih
    intro i1 i2 μ μ' v hG h
    replace h : (sh_bind (f_X12_personMany μ) (fun y10 μ8 => (if y10 ≤ i2 then some (1, μ8) else (if sh_in ((7 * (i1 ^^^ ((1 : Int32) <<< (i2 &&& 31)))) + i2) 896 then (if sh_in ((7 * i1) + i2) 896 then (if (sh_i μ8 337 (((7 * (i1 ^^^ ((1 : Int32) <<< (i2 &&& 31)))) + i2)).toNatClampNeg) ≤ (sh_i μ8 337 (((7 * i1) + i2)).toNatClampNeg) then F_X12_isRest fuel 1 i1 (i2 + 1) μ8 else some (0, μ8)) else none) else none))) : Option (Int32 × sh_Mem)) = some (v, μ') := h
    obtain ⟨y10, μ8, hr9, h⟩ := sh_bind_e h
    have hG8 := gp_X12_personMany hG hr9
    by_cases c11 : y10 ≤ i2
    · rw [if_pos c11] at h
      obtain ⟨e1, e2⟩ := sh_some2 h
      exact e2 ▸ hG8
    · rw [if_neg c11] at h
      obtain ⟨k12, h⟩ := sh_chk h
      obtain ⟨k13, h⟩ := sh_chk h
      by_cases c14 : (sh_i μ8 337 (((7 * (i1 ^^^ ((1 : Int32) <<< (i2 &&& 31)))) + i2)).toNatClampNeg) ≤ (sh_i μ8 337 (((7 * i1) + i2)).toNatClampNeg)
      · rw [if_pos c14] at h
        exact ih_2 hG8 h
      · rw [if_neg c14] at h
        obtain ⟨e1, e2⟩ := sh_some2 h
        exact e2 ▸ hG8
theorem tl_X12_isRest (fuel : Nat) : (∀ ⦃i1 : Int32⦄ ⦃i2 : Int32⦄ ⦃μ μ' : sh_Mem⦄ ⦃v : Int32⦄, sh_G μ → F_X12_isRest fuel 1 i1 i2 μ = some (v, μ') → sh_V0 l B D ca 2 M_X12_isRest 2 [(0, .ref 291), (1, .int i1), (2, .int i2)] [] μ (fun v0 μ0 => v0 = some (.int v) ∧ μ0 = μ')) := by
  induction fuel with
  | zero => intro i1 i2 μ μ' v hG h; cases h
  | succ fuel ih =>
    have ih_2 := ih
    intro i1 i2 μ μ' v hG h
    replace h : (sh_bind (f_X12_personMany μ) (fun y10 μ8 => (if y10 ≤ i2 then some (1, μ8) else (if sh_in ((7 * (i1 ^^^ ((1 : Int32) <<< (i2 &&& 31)))) + i2) 896 then (if sh_in ((7 * i1) + i2) 896 then (if (sh_i μ8 337 (((7 * (i1 ^^^ ((1 : Int32) <<< (i2 &&& 31)))) + i2)).toNatClampNeg) ≤ (sh_i μ8 337 (((7 * i1) + i2)).toNatClampNeg) then F_X12_isRest fuel 1 i1 (i2 + 1) μ8 else some (0, μ8)) else none) else none))) : Option (Int32 × sh_Mem)) = some (v, μ') := h
    refine vv_iload_n 2 2 dX12_isRest_2 rfl rfl ?_
    refine vv_aload_n 3 0 dX12_isRest_3 rfl rfl ?_
    obtain ⟨y10, μ8, hr9, h⟩ := sh_bind_e h
    refine v1_callV [] 4 dX12_isRest_4 ck_X12_411 (g_l_291 hG) ⟨by decide, rfl⟩ (t_X12_personMany hG hr9) (Nat.le_of_ble_eq_true rfl) ⟨Nat.le_of_ble_eq_true rfl, Nat.le_of_ble_eq_true rfl⟩ rfl (Nat.le_of_ble_eq_true rfl) ?_
    have hG8 := gp_X12_personMany hG hr9
    refine vv_icmp_ge 7 47 dX12_isRest_7 (by decide) (fun c11 => ?_) (fun c11 => ?_)
    · rw [if_pos c11] at h
      refine vv_iconst 47 dX12_isRest_47 ik_1 ?_
      obtain ⟨e1, e2⟩ := sh_some2 h
      refine vv_zret 48 dX12_isRest_48 rfl rfl (Nat.le_refl _) (Nat.le_refl _) ⟨by rw [e1], e2⟩
    · rw [if_neg c11] at h
      refine vv_aload_n 10 0 dX12_isRest_10 rfl rfl ?_
      refine vv_getR 11 dX12_isRest_11 fl_12_151 rfl (g_l_291 hG8) (g_r_291_70 hG8) ?_
      refine vv_bipush 14 dX12_isRest_14 bk_7 ?_
      refine vv_iload_n 16 1 dX12_isRest_16 rfl rfl ?_
      refine vv_iconst 17 dX12_isRest_17 ik_1 ?_
      refine vv_iload_n 18 2 dX12_isRest_18 rfl rfl ?_
      refine vv_ishl 19 dX12_isRest_19 ?_
      refine vv_ixor 20 dX12_isRest_20 ?_
      refine vv_imul 21 dX12_isRest_21 ?_
      refine vv_iload_n 22 2 dX12_isRest_22 rfl rfl ?_
      refine vv_iadd 23 dX12_isRest_23 ?_
      obtain ⟨k12, h⟩ := sh_chk h
      refine vv_iald 24 dX12_isRest_24 (g_l_337 hG8) k12 ?_
      refine vv_aload_n 25 0 dX12_isRest_25 rfl rfl ?_
      refine vv_getR 26 dX12_isRest_26 fl_12_151 rfl (g_l_291 hG8) (g_r_291_70 hG8) ?_
      refine vv_bipush 29 dX12_isRest_29 bk_7 ?_
      refine vv_iload_n 31 1 dX12_isRest_31 rfl rfl ?_
      refine vv_imul 32 dX12_isRest_32 ?_
      refine vv_iload_n 33 2 dX12_isRest_33 rfl rfl ?_
      refine vv_iadd 34 dX12_isRest_34 ?_
      obtain ⟨k13, h⟩ := sh_chk h
      refine vv_iald 35 dX12_isRest_35 (g_l_337 hG8) k13 ?_
      refine vv_icmp_le 36 41 dX12_isRest_36 (by decide) (fun c14 => ?_) (fun c14 => ?_)
      · rw [if_pos c14] at h
        refine vv_iincc (lv' := [(2, _), (0, _), (1, _)]) 41 2 dX12_isRest_41 rfl ik_1 (by decide) rfl ?_
        refine vv_goto 44 2 dX12_isRest_44 (by decide) ?_
        refine vv_sub [(0, _), (1, _), (2, _)] (sh_subm [1, 2, 0] rfl) ?_
        exact ih_2 hG8 h
      · rw [if_neg c14] at h
        refine vv_iconst 39 dX12_isRest_39 ik_0 ?_
        obtain ⟨e1, e2⟩ := sh_some2 h
        refine vv_zret 40 dX12_isRest_40 rfl rfl (Nat.le_refl _) (Nat.le_refl _) ⟨by rw [e1], e2⟩
theorem gp_X12_isRest {a1 : Int32} {μ μ' : sh_Mem} {v : Int32} (hG : sh_G μ) (h : f_X12_isRest a1 μ = some (v, μ')) : sh_G μ' := by
  have ih_2 := (gpl_X12_isRest sh_fuel)
  unfold f_X12_isRest at h
  exact ih_2 hG h
theorem t_X12_isRest {a1 : Int32} {μ μ' : sh_Mem} {v : Int32} (hG : sh_G μ) (h : f_X12_isRest a1 μ = some (v, μ')) : sh_C0 l B D ca 2 M_X12_isRest [.ref 291, .int a1] μ (fun v0 μ0 => v0 = some (.int v) ∧ μ0 = μ') := by
  have ih_2 := (tl_X12_isRest (l := l) (B := B) (D := D) (ca := ca) sh_fuel)
  unfold f_X12_isRest at h
  refine vv_iconst 0 dX12_isRest_0 ik_0 ?_
  refine vv_istore_n (lv' := [(2, _), (0, _), (1, _)]) 1 2 dX12_isRest_1 rfl (by decide) rfl ?_
  refine vv_sub [(0, _), (1, _), (2, _)] (sh_subm [1, 2, 0] rfl) ?_
  exact ih_2 hG h
noncomputable def f_X12_refuses (a1 : Int32) (μ : sh_Mem) : Option (Int32 × sh_Mem) := (if sh_in a1 6 then (if sh_in a1 6 then sh_let (sh_setI μ 293 a1.toNatClampNeg ((sh_i μ 293 a1.toNatClampNeg) + 1)) (fun μ3 => some ((-1), μ3)) else none) else none)
theorem gp_X12_refuses {a1 : Int32} {μ μ' : sh_Mem} {v : Int32} (hG : sh_G μ) (h : f_X12_refuses a1 μ = some (v, μ')) : sh_G μ' := by
  unfold f_X12_refuses at h
  obtain ⟨k1, h⟩ := sh_chk h
  obtain ⟨k2, h⟩ := sh_chk h
  obtain ⟨μ3, eμ3⟩ : ∃ y : sh_Mem, y = (sh_setI μ 293 a1.toNatClampNeg ((sh_i μ 293 a1.toNatClampNeg) + 1)) := ⟨_, rfl⟩
  rw [sh_let_eq eμ3] at h
  have hG3 : sh_G μ3 := by rw [eμ3]; exact hG
  obtain ⟨e1, e2⟩ := sh_some2 h
  exact e2 ▸ hG3
theorem t_X12_refuses {a1 : Int32} {μ μ' : sh_Mem} {v : Int32} (hG : sh_G μ) (h : f_X12_refuses a1 μ = some (v, μ')) : sh_C0 l B D ca 1 M_X12_refuses [.ref 291, .int a1] μ (fun v0 μ0 => v0 = some (.int v) ∧ μ0 = μ') := by
  unfold f_X12_refuses at h
  refine vv_aload_n 0 0 dX12_refuses_0 rfl rfl ?_
  refine vv_getR 1 dX12_refuses_1 fl_12_17 rfl (g_l_291 hG) (g_r_291_9 hG) ?_
  refine vv_iload_n 4 1 dX12_refuses_4 rfl rfl ?_
  refine vv_dup2_ri 5 dX12_refuses_5 ?_
  obtain ⟨k1, h⟩ := sh_chk h
  refine vv_iald 6 dX12_refuses_6 (g_l_293 hG) k1 ?_
  refine vv_iconst 7 dX12_refuses_7 ik_1 ?_
  refine vv_iadd 8 dX12_refuses_8 ?_
  obtain ⟨k2, h⟩ := sh_chk h
  refine vn_iast 9 dX12_refuses_9 (g_l_293 hG) k2 (fun μ3 eμ3 => ?_)
  rw [sh_let_eq eμ3] at h
  have hG3 : sh_G μ3 := by rw [eμ3]; exact hG
  refine vv_iconst 10 dX12_refuses_10 ik_m1 ?_
  obtain ⟨e1, e2⟩ := sh_some2 h
  refine vv_iret 11 dX12_refuses_11 rfl (Nat.le_refl _) (Nat.le_refl _) ⟨by rw [e1], e2⟩
noncomputable def F_X12_see : Nat → Nat → Int32 → Int32 → Int32 → sh_Mem → Option (Int32 × sh_Mem)
  | 0, _, _, _, _, _ => none
  | fuel + 1, lbl, i1, i2, i3, μ => match lbl with
    | 1 => (if i1 ≤ i3 then (if i2 = 0 then sh_bind (f_X12_refuses 1 μ) (fun y83 μ81 => some (y83, μ81)) else sh_let (sh_setI μ 291 71 (i1 / 4)) (fun μ80 => F_X12_see fuel 2 i1 i2 0 μ80)) else (if i2 = 0 then (if i2 = 0 then sh_bind (f_X12_refuses 1 μ) (fun y89 μ87 => some (y89, μ87)) else sh_let (sh_setI μ 291 71 (i1 / 4)) (fun μ86 => F_X12_see fuel 2 i1 i2 0 μ86)) else (if sh_in i3 1600 then (if 30 < (sh_i μ 292 i3.toNatClampNeg) then F_X12_see fuel 1 i1 0 (i3 + 4) μ else (if sh_in (i3 + 1) 1600 then (if sh_in (i3 + 2) 1600 then sh_bind (f_X12_cellAt (sh_i μ 292 ((i3 + 1)).toNatClampNeg) (sh_i μ 292 ((i3 + 2)).toNatClampNeg) μ) (fun y96 μ94 => (if y96 = (-1) then F_X12_see fuel 1 i1 0 (i3 + 4) μ94 else (if sh_in (i3 + 3) 1600 then (if 99 < (sh_i μ94 292 ((i3 + 3)).toNatClampNeg) then F_X12_see fuel 1 i1 0 (i3 + 4) μ94 else F_X12_see fuel 1 i1 1 (i3 + 4) μ94) else none))) else none) else none)) else none)))
    | 2 => (if (sh_i μ 291 71) ≤ i3 then some ((sh_i μ 291 71), μ) else (if sh_in (4 * i3) 1600 then (if sh_in (3 * i3) 48 then sh_let (sh_setI μ 338 ((3 * i3)).toNatClampNeg (sh_i μ 292 ((4 * i3)).toNatClampNeg)) (fun μ103 => (if sh_in ((4 * i3) + 1) 1600 then (if sh_in ((4 * i3) + 2) 1600 then sh_bind (f_X12_cellAt (sh_i μ103 292 (((4 * i3) + 1)).toNatClampNeg) (sh_i μ103 292 (((4 * i3) + 2)).toNatClampNeg) μ103) (fun y108 μ106 => (if sh_in ((3 * i3) + 1) 48 then sh_let (sh_setI μ106 338 (((3 * i3) + 1)).toNatClampNeg y108) (fun μ110 => (if sh_in ((4 * i3) + 3) 1600 then (if sh_in ((3 * i3) + 2) 48 then sh_let (sh_setI μ110 338 (((3 * i3) + 2)).toNatClampNeg (sh_i μ110 292 (((4 * i3) + 3)).toNatClampNeg)) (fun μ113 => F_X12_see fuel 2 i1 i2 (i3 + 1) μ113) else none) else none)) else none)) else none) else none)) else none) else none))
    | _ => none
noncomputable def f_X12_see (μ : sh_Mem) : Option (Int32 × sh_Mem) := sh_let ((sh_i μ 291 1) : Int32) (fun x114 => sh_let (sh_setI μ 291 1 0) (fun μ115 => (if x114 ≤ 0 then F_X12_see sh_fuel 1 x114 0 0 μ115 else (if (x114 - x114 / 4 * 4) = 0 then (if 16 < (x114 / 4) then F_X12_see sh_fuel 1 x114 0 0 μ115 else F_X12_see sh_fuel 1 x114 1 0 μ115) else F_X12_see sh_fuel 1 x114 0 0 μ115))))
theorem gpl_X12_see (fuel : Nat) : (∀ ⦃i1 : Int32⦄ ⦃i2 : Int32⦄ ⦃i3 : Int32⦄ ⦃μ μ' : sh_Mem⦄ ⦃v : Int32⦄, sh_G μ → F_X12_see fuel 1 i1 i2 i3 μ = some (v, μ') → sh_G μ') ∧ (∀ ⦃i1 : Int32⦄ ⦃i2 : Int32⦄ ⦃i3 : Int32⦄ ⦃μ μ' : sh_Mem⦄ ⦃v : Int32⦄, sh_G μ → F_X12_see fuel 2 i1 i2 i3 μ = some (v, μ') → sh_G μ') := by
  induction fuel with
  | zero => exact ⟨(by intro i1 i2 i3 μ μ' v hG h; cases h), (by intro i1 i2 i3 μ μ' v hG h; cases h)⟩
  | succ fuel ih =>
    obtain ⟨ih_36, ih_124⟩ := ih
    refine ⟨?_, ?_⟩
    · intro i1 i2 i3 μ μ' v hG h
      replace h : ((if i1 ≤ i3 then (if i2 = 0 then sh_bind (f_X12_refuses 1 μ) (fun y83 μ81 => some (y83, μ81)) else sh_let (sh_setI μ 291 71 (i1 / 4)) (fun μ80 => F_X12_see fuel 2 i1 i2 0 μ80)) else (if i2 = 0 then (if i2 = 0 then sh_bind (f_X12_refuses 1 μ) (fun y89 μ87 => some (y89, μ87)) else sh_let (sh_setI μ 291 71 (i1 / 4)) (fun μ86 => F_X12_see fuel 2 i1 i2 0 μ86)) else (if sh_in i3 1600 then (if 30 < (sh_i μ 292 i3.toNatClampNeg) then F_X12_see fuel 1 i1 0 (i3 + 4) μ else (if sh_in (i3 + 1) 1600 then (if sh_in (i3 + 2) 1600 then sh_bind (f_X12_cellAt (sh_i μ 292 ((i3 + 1)).toNatClampNeg) (sh_i μ 292 ((i3 + 2)).toNatClampNeg) μ) (fun y96 μ94 => (if y96 = (-1) then F_X12_see fuel 1 i1 0 (i3 + 4) μ94 else (if sh_in (i3 + 3) 1600 then (if 99 < (sh_i μ94 292 ((i3 + 3)).toNatClampNeg) then F_X12_see fuel 1 i1 0 (i3 + 4) μ94 else F_X12_see fuel 1 i1 1 (i3 + 4) μ94) else none))) else none) else none)) else none))) : Option (Int32 × sh_Mem)) = some (v, μ') := h
      by_cases c78 : i1 ≤ i3
      · rw [if_pos c78] at h
        by_cases c79 : i2 = 0
        · rw [if_pos c79] at h
          obtain ⟨y83, μ81, hr82, h⟩ := sh_bind_e h
          have hG81 := gp_X12_refuses hG hr82
          obtain ⟨e1, e2⟩ := sh_some2 h
          exact e2 ▸ hG81
        · rw [if_neg c79] at h
          obtain ⟨μ80, eμ80⟩ : ∃ y : sh_Mem, y = (sh_setI μ 291 71 (i1 / 4)) := ⟨_, rfl⟩
          rw [sh_let_eq eμ80] at h
          have hG80 : sh_G μ80 := by rw [eμ80]; exact hG
          exact ih_124 hG80 h
      · rw [if_neg c78] at h
        by_cases c84 : i2 = 0
        · rw [if_pos c84] at h
          by_cases c85 : i2 = 0
          · rw [if_pos c85] at h
            obtain ⟨y89, μ87, hr88, h⟩ := sh_bind_e h
            have hG87 := gp_X12_refuses hG hr88
            obtain ⟨e1, e2⟩ := sh_some2 h
            exact e2 ▸ hG87
          · rw [if_neg c85] at h
            obtain ⟨μ86, eμ86⟩ : ∃ y : sh_Mem, y = (sh_setI μ 291 71 (i1 / 4)) := ⟨_, rfl⟩
            rw [sh_let_eq eμ86] at h
            have hG86 : sh_G μ86 := by rw [eμ86]; exact hG
            exact ih_124 hG86 h
        · rw [if_neg c84] at h
          obtain ⟨k90, h⟩ := sh_chk h
          by_cases c91 : 30 < (sh_i μ 292 i3.toNatClampNeg)
          · rw [if_pos c91] at h
            exact ih_36 hG h
          · rw [if_neg c91] at h
            obtain ⟨k92, h⟩ := sh_chk h
            obtain ⟨k93, h⟩ := sh_chk h
            obtain ⟨y96, μ94, hr95, h⟩ := sh_bind_e h
            have hG94 := gp_X12_cellAt hG hr95
            by_cases c97 : y96 = (-1)
            · rw [if_pos c97] at h
              exact ih_36 hG94 h
            · rw [if_neg c97] at h
              obtain ⟨k98, h⟩ := sh_chk h
              by_cases c99 : 99 < (sh_i μ94 292 ((i3 + 3)).toNatClampNeg)
              · rw [if_pos c99] at h
                exact ih_36 hG94 h
              · rw [if_neg c99] at h
                exact ih_36 hG94 h
    · intro i1 i2 i3 μ μ' v hG h
      replace h : ((if (sh_i μ 291 71) ≤ i3 then some ((sh_i μ 291 71), μ) else (if sh_in (4 * i3) 1600 then (if sh_in (3 * i3) 48 then sh_let (sh_setI μ 338 ((3 * i3)).toNatClampNeg (sh_i μ 292 ((4 * i3)).toNatClampNeg)) (fun μ103 => (if sh_in ((4 * i3) + 1) 1600 then (if sh_in ((4 * i3) + 2) 1600 then sh_bind (f_X12_cellAt (sh_i μ103 292 (((4 * i3) + 1)).toNatClampNeg) (sh_i μ103 292 (((4 * i3) + 2)).toNatClampNeg) μ103) (fun y108 μ106 => (if sh_in ((3 * i3) + 1) 48 then sh_let (sh_setI μ106 338 (((3 * i3) + 1)).toNatClampNeg y108) (fun μ110 => (if sh_in ((4 * i3) + 3) 1600 then (if sh_in ((3 * i3) + 2) 48 then sh_let (sh_setI μ110 338 (((3 * i3) + 2)).toNatClampNeg (sh_i μ110 292 (((4 * i3) + 3)).toNatClampNeg)) (fun μ113 => F_X12_see fuel 2 i1 i2 (i3 + 1) μ113) else none) else none)) else none)) else none) else none)) else none) else none)) : Option (Int32 × sh_Mem)) = some (v, μ') := h
      by_cases c100 : (sh_i μ 291 71) ≤ i3
      · rw [if_pos c100] at h
        obtain ⟨e1, e2⟩ := sh_some2 h
        exact e2 ▸ hG
      · rw [if_neg c100] at h
        obtain ⟨k101, h⟩ := sh_chk h
        obtain ⟨k102, h⟩ := sh_chk h
        obtain ⟨μ103, eμ103⟩ : ∃ y : sh_Mem, y = (sh_setI μ 338 ((3 * i3)).toNatClampNeg (sh_i μ 292 ((4 * i3)).toNatClampNeg)) := ⟨_, rfl⟩
        rw [sh_let_eq eμ103] at h
        have hG103 : sh_G μ103 := by rw [eμ103]; exact hG
        obtain ⟨k104, h⟩ := sh_chk h
        obtain ⟨k105, h⟩ := sh_chk h
        obtain ⟨y108, μ106, hr107, h⟩ := sh_bind_e h
        have hG106 := gp_X12_cellAt hG103 hr107
        obtain ⟨k109, h⟩ := sh_chk h
        obtain ⟨μ110, eμ110⟩ : ∃ y : sh_Mem, y = (sh_setI μ106 338 (((3 * i3) + 1)).toNatClampNeg y108) := ⟨_, rfl⟩
        rw [sh_let_eq eμ110] at h
        have hG110 : sh_G μ110 := by rw [eμ110]; exact hG106
        obtain ⟨k111, h⟩ := sh_chk h
        obtain ⟨k112, h⟩ := sh_chk h
        obtain ⟨μ113, eμ113⟩ : ∃ y : sh_Mem, y = (sh_setI μ110 338 (((3 * i3) + 2)).toNatClampNeg (sh_i μ110 292 (((4 * i3) + 3)).toNatClampNeg)) := ⟨_, rfl⟩
        rw [sh_let_eq eμ113] at h
        have hG113 : sh_G μ113 := by rw [eμ113]; exact hG110
        exact ih_124 hG113 h
theorem tl_X12_see (fuel : Nat) : (∀ ⦃i1 : Int32⦄ ⦃i2 : Int32⦄ ⦃i3 : Int32⦄ ⦃μ μ' : sh_Mem⦄ ⦃v : Int32⦄, sh_G μ → F_X12_see fuel 1 i1 i2 i3 μ = some (v, μ') → sh_V0 l B D ca 3 M_X12_see 36 [(0, .ref 291), (1, .int i1), (2, .int i2), (3, .int i3)] [] μ (fun v0 μ0 => v0 = some (.int v) ∧ μ0 = μ')) ∧ (∀ ⦃i1 : Int32⦄ ⦃i2 : Int32⦄ ⦃i3 : Int32⦄ ⦃μ μ' : sh_Mem⦄ ⦃v : Int32⦄, sh_G μ → F_X12_see fuel 2 i1 i2 i3 μ = some (v, μ') → sh_V0 l B D ca 3 M_X12_see 124 [(0, .ref 291), (1, .int i1), (2, .int i2), (3, .int i3)] [] μ (fun v0 μ0 => v0 = some (.int v) ∧ μ0 = μ')) := by
  induction fuel with
  | zero => exact ⟨(by intro i1 i2 i3 μ μ' v hG h; cases h), (by intro i1 i2 i3 μ μ' v hG h; cases h)⟩
  | succ fuel ih =>
    obtain ⟨ih_36, ih_124⟩ := ih
    refine ⟨?_, ?_⟩
    · intro i1 i2 i3 μ μ' v hG h
      replace h : ((if i1 ≤ i3 then (if i2 = 0 then sh_bind (f_X12_refuses 1 μ) (fun y83 μ81 => some (y83, μ81)) else sh_let (sh_setI μ 291 71 (i1 / 4)) (fun μ80 => F_X12_see fuel 2 i1 i2 0 μ80)) else (if i2 = 0 then (if i2 = 0 then sh_bind (f_X12_refuses 1 μ) (fun y89 μ87 => some (y89, μ87)) else sh_let (sh_setI μ 291 71 (i1 / 4)) (fun μ86 => F_X12_see fuel 2 i1 i2 0 μ86)) else (if sh_in i3 1600 then (if 30 < (sh_i μ 292 i3.toNatClampNeg) then F_X12_see fuel 1 i1 0 (i3 + 4) μ else (if sh_in (i3 + 1) 1600 then (if sh_in (i3 + 2) 1600 then sh_bind (f_X12_cellAt (sh_i μ 292 ((i3 + 1)).toNatClampNeg) (sh_i μ 292 ((i3 + 2)).toNatClampNeg) μ) (fun y96 μ94 => (if y96 = (-1) then F_X12_see fuel 1 i1 0 (i3 + 4) μ94 else (if sh_in (i3 + 3) 1600 then (if 99 < (sh_i μ94 292 ((i3 + 3)).toNatClampNeg) then F_X12_see fuel 1 i1 0 (i3 + 4) μ94 else F_X12_see fuel 1 i1 1 (i3 + 4) μ94) else none))) else none) else none)) else none))) : Option (Int32 × sh_Mem)) = some (v, μ') := h
      refine vv_iload_n 36 3 dX12_see_36 rfl rfl ?_
      refine vv_iload_n 37 1 dX12_see_37 rfl rfl ?_
      refine vv_icmp_ge 38 105 dX12_see_38 (by decide) (fun c78 => ?_) (fun c78 => ?_)
      · rw [if_pos c78] at h
        refine vv_iload_n 105 2 dX12_see_105 rfl rfl ?_
        refine vv_if_ne 106 115 dX12_see_106 (by decide) (fun c79 => ?_) (fun c79 => ?_)
        · rw [if_neg c79] at h
          refine vv_aload_n 115 0 dX12_see_115 rfl rfl ?_
          refine vv_iload_n 116 1 dX12_see_116 rfl rfl ?_
          refine vv_iconst 117 dX12_see_117 ik_4 ?_
          refine vv_idiv 118 dX12_see_118 (by decide) ?_
          refine vn_putI 119 dX12_see_119 fl_12_405 (Or.inl rfl) rfl (g_l_291 hG) (fun μ80 eμ80 => ?_)
          rw [sh_let_eq eμ80] at h
          have hG80 : sh_G μ80 := by rw [eμ80]; exact hG
          refine vv_iconst 122 dX12_see_122 ik_0 ?_
          refine vv_istore_n (lv' := [(3, _), (0, _), (1, _), (2, _)]) 123 3 dX12_see_123 rfl (by decide) rfl ?_
          refine vv_sub [(0, _), (1, _), (2, _), (3, _)] (sh_subm [1, 2, 3, 0] rfl) ?_
          exact ih_124 hG80 h
        · rw [if_pos c79] at h
          refine vv_aload_n 109 0 dX12_see_109 rfl rfl ?_
          refine vv_iconst 110 dX12_see_110 ik_1 ?_
          obtain ⟨y83, μ81, hr82, h⟩ := sh_bind_e h
          refine v1_callV [_] 111 dX12_see_111 ck_X12_602 (g_l_291 hG) ⟨by decide, rfl⟩ (t_X12_refuses hG hr82) (Nat.le_of_ble_eq_true rfl) ⟨Nat.le_of_ble_eq_true rfl, Nat.le_of_ble_eq_true rfl⟩ rfl (Nat.le_of_ble_eq_true rfl) ?_
          have hG81 := gp_X12_refuses hG hr82
          obtain ⟨e1, e2⟩ := sh_some2 h
          refine vv_iret 114 dX12_see_114 rfl (Nat.le_refl _) (Nat.le_refl _) ⟨by rw [e1], e2⟩
      · rw [if_neg c78] at h
        refine vv_iload_n 41 2 dX12_see_41 rfl rfl ?_
        refine vv_if_eq 42 105 dX12_see_42 (by decide) (fun c84 => ?_) (fun c84 => ?_)
        · rw [if_pos c84] at h
          refine vv_iload_n 105 2 dX12_see_105 rfl rfl ?_
          refine vv_if_ne 106 115 dX12_see_106 (by decide) (fun c85 => ?_) (fun c85 => ?_)
          · rw [if_neg c85] at h
            refine vv_aload_n 115 0 dX12_see_115 rfl rfl ?_
            refine vv_iload_n 116 1 dX12_see_116 rfl rfl ?_
            refine vv_iconst 117 dX12_see_117 ik_4 ?_
            refine vv_idiv 118 dX12_see_118 (by decide) ?_
            refine vn_putI 119 dX12_see_119 fl_12_405 (Or.inl rfl) rfl (g_l_291 hG) (fun μ86 eμ86 => ?_)
            rw [sh_let_eq eμ86] at h
            have hG86 : sh_G μ86 := by rw [eμ86]; exact hG
            refine vv_iconst 122 dX12_see_122 ik_0 ?_
            refine vv_istore_n (lv' := [(3, _), (0, _), (1, _), (2, _)]) 123 3 dX12_see_123 rfl (by decide) rfl ?_
            refine vv_sub [(0, _), (1, _), (2, _), (3, _)] (sh_subm [1, 2, 3, 0] rfl) ?_
            exact ih_124 hG86 h
          · rw [if_pos c85] at h
            refine vv_aload_n 109 0 dX12_see_109 rfl rfl ?_
            refine vv_iconst 110 dX12_see_110 ik_1 ?_
            obtain ⟨y89, μ87, hr88, h⟩ := sh_bind_e h
            refine v1_callV [_] 111 dX12_see_111 ck_X12_602 (g_l_291 hG) ⟨by decide, rfl⟩ (t_X12_refuses hG hr88) (Nat.le_of_ble_eq_true rfl) ⟨Nat.le_of_ble_eq_true rfl, Nat.le_of_ble_eq_true rfl⟩ rfl (Nat.le_of_ble_eq_true rfl) ?_
            have hG87 := gp_X12_refuses hG hr88
            obtain ⟨e1, e2⟩ := sh_some2 h
            refine vv_iret 114 dX12_see_114 rfl (Nat.le_refl _) (Nat.le_refl _) ⟨by rw [e1], e2⟩
        · rw [if_neg c84] at h
          refine vv_aload_n 45 0 dX12_see_45 rfl rfl ?_
          refine vv_getR 46 dX12_see_46 fl_12_7 rfl (g_l_291 hG) (g_r_291_0 hG) ?_
          refine vv_iload_n 49 3 dX12_see_49 rfl rfl ?_
          obtain ⟨k90, h⟩ := sh_chk h
          refine vv_iald 50 dX12_see_50 (g_l_292 hG) k90 ?_
          refine vv_bipush 51 dX12_see_51 bk_30 ?_
          refine vv_icmp_gt 53 97 dX12_see_53 (by decide) (fun c91 => ?_) (fun c91 => ?_)
          · rw [if_pos c91] at h
            refine vv_iconst 97 dX12_see_97 ik_0 ?_
            refine vv_istore_n (lv' := [(2, _), (0, _), (1, _), (3, _)]) 98 2 dX12_see_98 rfl (by decide) rfl ?_
            refine vv_iincc (lv' := [(3, _), (2, _), (0, _), (1, _)]) 99 3 dX12_see_99 rfl ik_4 (by decide) rfl ?_
            refine vv_goto 102 36 dX12_see_102 (by decide) ?_
            refine vv_sub [(0, _), (1, _), (2, _), (3, _)] (sh_subm [2, 3, 1, 0] rfl) ?_
            exact ih_36 hG h
          · rw [if_neg c91] at h
            refine vv_aload_n 56 0 dX12_see_56 rfl rfl ?_
            refine vv_aload_n 57 0 dX12_see_57 rfl rfl ?_
            refine vv_getR 58 dX12_see_58 fl_12_7 rfl (g_l_291 hG) (g_r_291_0 hG) ?_
            refine vv_iload_n 61 3 dX12_see_61 rfl rfl ?_
            refine vv_iconst 62 dX12_see_62 ik_1 ?_
            refine vv_iadd 63 dX12_see_63 ?_
            obtain ⟨k92, h⟩ := sh_chk h
            refine vv_iald 64 dX12_see_64 (g_l_292 hG) k92 ?_
            refine vv_aload_n 65 0 dX12_see_65 rfl rfl ?_
            refine vv_getR 66 dX12_see_66 fl_12_7 rfl (g_l_291 hG) (g_r_291_0 hG) ?_
            refine vv_iload_n 69 3 dX12_see_69 rfl rfl ?_
            refine vv_iconst 70 dX12_see_70 ik_2 ?_
            refine vv_iadd 71 dX12_see_71 ?_
            obtain ⟨k93, h⟩ := sh_chk h
            refine vv_iald 72 dX12_see_72 (g_l_292 hG) k93 ?_
            obtain ⟨y96, μ94, hr95, h⟩ := sh_bind_e h
            refine v1_callV [_, _] 73 dX12_see_73 ck_X12_414 (g_l_291 hG) ⟨by decide, rfl⟩ (t_X12_cellAt hG hr95) (Nat.le_of_ble_eq_true rfl) ⟨Nat.le_of_ble_eq_true rfl, Nat.le_of_ble_eq_true rfl⟩ rfl (Nat.le_of_ble_eq_true rfl) ?_
            have hG94 := gp_X12_cellAt hG hr95
            refine vv_iconst 76 dX12_see_76 ik_m1 ?_
            refine vv_icmp_eq 77 97 dX12_see_77 (by decide) (fun c97 => ?_) (fun c97 => ?_)
            · rw [if_pos c97] at h
              refine vv_iconst 97 dX12_see_97 ik_0 ?_
              refine vv_istore_n (lv' := [(2, _), (0, _), (1, _), (3, _)]) 98 2 dX12_see_98 rfl (by decide) rfl ?_
              refine vv_iincc (lv' := [(3, _), (2, _), (0, _), (1, _)]) 99 3 dX12_see_99 rfl ik_4 (by decide) rfl ?_
              refine vv_goto 102 36 dX12_see_102 (by decide) ?_
              refine vv_sub [(0, _), (1, _), (2, _), (3, _)] (sh_subm [2, 3, 1, 0] rfl) ?_
              exact ih_36 hG94 h
            · rw [if_neg c97] at h
              refine vv_aload_n 80 0 dX12_see_80 rfl rfl ?_
              refine vv_getR 81 dX12_see_81 fl_12_7 rfl (g_l_291 hG94) (g_r_291_0 hG94) ?_
              refine vv_iload_n 84 3 dX12_see_84 rfl rfl ?_
              refine vv_iconst 85 dX12_see_85 ik_3 ?_
              refine vv_iadd 86 dX12_see_86 ?_
              obtain ⟨k98, h⟩ := sh_chk h
              refine vv_iald 87 dX12_see_87 (g_l_292 hG94) k98 ?_
              refine vv_bipush 88 dX12_see_88 bk_99 ?_
              refine vv_icmp_gt 90 97 dX12_see_90 (by decide) (fun c99 => ?_) (fun c99 => ?_)
              · rw [if_pos c99] at h
                refine vv_iconst 97 dX12_see_97 ik_0 ?_
                refine vv_istore_n (lv' := [(2, _), (0, _), (1, _), (3, _)]) 98 2 dX12_see_98 rfl (by decide) rfl ?_
                refine vv_iincc (lv' := [(3, _), (2, _), (0, _), (1, _)]) 99 3 dX12_see_99 rfl ik_4 (by decide) rfl ?_
                refine vv_goto 102 36 dX12_see_102 (by decide) ?_
                refine vv_sub [(0, _), (1, _), (2, _), (3, _)] (sh_subm [2, 3, 1, 0] rfl) ?_
                exact ih_36 hG94 h
              · rw [if_neg c99] at h
                refine vv_iconst 93 dX12_see_93 ik_1 ?_
                refine vv_goto 94 98 dX12_see_94 (by decide) ?_
                refine vv_istore_n (lv' := [(2, _), (0, _), (1, _), (3, _)]) 98 2 dX12_see_98 rfl (by decide) rfl ?_
                refine vv_iincc (lv' := [(3, _), (2, _), (0, _), (1, _)]) 99 3 dX12_see_99 rfl ik_4 (by decide) rfl ?_
                refine vv_goto 102 36 dX12_see_102 (by decide) ?_
                refine vv_sub [(0, _), (1, _), (2, _), (3, _)] (sh_subm [2, 3, 1, 0] rfl) ?_
                exact ih_36 hG94 h
    · intro i1 i2 i3 μ μ' v hG h
      replace h : ((if (sh_i μ 291 71) ≤ i3 then some ((sh_i μ 291 71), μ) else (if sh_in (4 * i3) 1600 then (if sh_in (3 * i3) 48 then sh_let (sh_setI μ 338 ((3 * i3)).toNatClampNeg (sh_i μ 292 ((4 * i3)).toNatClampNeg)) (fun μ103 => (if sh_in ((4 * i3) + 1) 1600 then (if sh_in ((4 * i3) + 2) 1600 then sh_bind (f_X12_cellAt (sh_i μ103 292 (((4 * i3) + 1)).toNatClampNeg) (sh_i μ103 292 (((4 * i3) + 2)).toNatClampNeg) μ103) (fun y108 μ106 => (if sh_in ((3 * i3) + 1) 48 then sh_let (sh_setI μ106 338 (((3 * i3) + 1)).toNatClampNeg y108) (fun μ110 => (if sh_in ((4 * i3) + 3) 1600 then (if sh_in ((3 * i3) + 2) 48 then sh_let (sh_setI μ110 338 (((3 * i3) + 2)).toNatClampNeg (sh_i μ110 292 (((4 * i3) + 3)).toNatClampNeg)) (fun μ113 => F_X12_see fuel 2 i1 i2 (i3 + 1) μ113) else none) else none)) else none)) else none) else none)) else none) else none)) : Option (Int32 × sh_Mem)) = some (v, μ') := h
      refine vv_iload_n 124 3 dX12_see_124 rfl rfl ?_
      refine vv_aload_n 125 0 dX12_see_125 rfl rfl ?_
      refine vv_getI 126 dX12_see_126 fl_12_405 rfl (g_l_291 hG) ?_
      refine vv_icmp_ge 129 208 dX12_see_129 (by decide) (fun c100 => ?_) (fun c100 => ?_)
      · rw [if_pos c100] at h
        refine vv_aload_n 208 0 dX12_see_208 rfl rfl ?_
        refine vv_getI 209 dX12_see_209 fl_12_405 rfl (g_l_291 hG) ?_
        obtain ⟨e1, e2⟩ := sh_some2 h
        refine vv_iret 212 dX12_see_212 rfl (Nat.le_refl _) (Nat.le_refl _) ⟨by rw [e1], e2⟩
      · rw [if_neg c100] at h
        refine vv_aload_n 132 0 dX12_see_132 rfl rfl ?_
        refine vv_getR 133 dX12_see_133 fl_12_154 rfl (g_l_291 hG) (g_r_291_72 hG) ?_
        refine vv_iconst 136 dX12_see_136 ik_3 ?_
        refine vv_iload_n 137 3 dX12_see_137 rfl rfl ?_
        refine vv_imul 138 dX12_see_138 ?_
        refine vv_aload_n 139 0 dX12_see_139 rfl rfl ?_
        refine vv_getR 140 dX12_see_140 fl_12_7 rfl (g_l_291 hG) (g_r_291_0 hG) ?_
        refine vv_iconst 143 dX12_see_143 ik_4 ?_
        refine vv_iload_n 144 3 dX12_see_144 rfl rfl ?_
        refine vv_imul 145 dX12_see_145 ?_
        obtain ⟨k101, h⟩ := sh_chk h
        refine vv_iald 146 dX12_see_146 (g_l_292 hG) k101 ?_
        obtain ⟨k102, h⟩ := sh_chk h
        refine vn_iast 147 dX12_see_147 (g_l_338 hG) k102 (fun μ103 eμ103 => ?_)
        rw [sh_let_eq eμ103] at h
        have hG103 : sh_G μ103 := by rw [eμ103]; exact hG
        refine vv_aload_n 148 0 dX12_see_148 rfl rfl ?_
        refine vv_getR 149 dX12_see_149 fl_12_154 rfl (g_l_291 hG103) (g_r_291_72 hG103) ?_
        refine vv_iconst 152 dX12_see_152 ik_3 ?_
        refine vv_iload_n 153 3 dX12_see_153 rfl rfl ?_
        refine vv_imul 154 dX12_see_154 ?_
        refine vv_iconst 155 dX12_see_155 ik_1 ?_
        refine vv_iadd 156 dX12_see_156 ?_
        refine vv_aload_n 157 0 dX12_see_157 rfl rfl ?_
        refine vv_aload_n 158 0 dX12_see_158 rfl rfl ?_
        refine vv_getR 159 dX12_see_159 fl_12_7 rfl (g_l_291 hG103) (g_r_291_0 hG103) ?_
        refine vv_iconst 162 dX12_see_162 ik_4 ?_
        refine vv_iload_n 163 3 dX12_see_163 rfl rfl ?_
        refine vv_imul 164 dX12_see_164 ?_
        refine vv_iconst 165 dX12_see_165 ik_1 ?_
        refine vv_iadd 166 dX12_see_166 ?_
        obtain ⟨k104, h⟩ := sh_chk h
        refine vv_iald 167 dX12_see_167 (g_l_292 hG103) k104 ?_
        refine vv_aload_n 168 0 dX12_see_168 rfl rfl ?_
        refine vv_getR 169 dX12_see_169 fl_12_7 rfl (g_l_291 hG103) (g_r_291_0 hG103) ?_
        refine vv_iconst 172 dX12_see_172 ik_4 ?_
        refine vv_iload_n 173 3 dX12_see_173 rfl rfl ?_
        refine vv_imul 174 dX12_see_174 ?_
        refine vv_iconst 175 dX12_see_175 ik_2 ?_
        refine vv_iadd 176 dX12_see_176 ?_
        obtain ⟨k105, h⟩ := sh_chk h
        refine vv_iald 177 dX12_see_177 (g_l_292 hG103) k105 ?_
        obtain ⟨y108, μ106, hr107, h⟩ := sh_bind_e h
        refine v1_callV [_, _] 178 dX12_see_178 ck_X12_414 (g_l_291 hG103) ⟨by decide, rfl⟩ (t_X12_cellAt hG103 hr107) (Nat.le_of_ble_eq_true rfl) ⟨Nat.le_of_ble_eq_true rfl, Nat.le_of_ble_eq_true rfl⟩ rfl (Nat.le_of_ble_eq_true rfl) ?_
        have hG106 := gp_X12_cellAt hG103 hr107
        obtain ⟨k109, h⟩ := sh_chk h
        refine vn_iast 181 dX12_see_181 (g_l_338 hG106) k109 (fun μ110 eμ110 => ?_)
        rw [sh_let_eq eμ110] at h
        have hG110 : sh_G μ110 := by rw [eμ110]; exact hG106
        refine vv_aload_n 182 0 dX12_see_182 rfl rfl ?_
        refine vv_getR 183 dX12_see_183 fl_12_154 rfl (g_l_291 hG110) (g_r_291_72 hG110) ?_
        refine vv_iconst 186 dX12_see_186 ik_3 ?_
        refine vv_iload_n 187 3 dX12_see_187 rfl rfl ?_
        refine vv_imul 188 dX12_see_188 ?_
        refine vv_iconst 189 dX12_see_189 ik_2 ?_
        refine vv_iadd 190 dX12_see_190 ?_
        refine vv_aload_n 191 0 dX12_see_191 rfl rfl ?_
        refine vv_getR 192 dX12_see_192 fl_12_7 rfl (g_l_291 hG110) (g_r_291_0 hG110) ?_
        refine vv_iconst 195 dX12_see_195 ik_4 ?_
        refine vv_iload_n 196 3 dX12_see_196 rfl rfl ?_
        refine vv_imul 197 dX12_see_197 ?_
        refine vv_iconst 198 dX12_see_198 ik_3 ?_
        refine vv_iadd 199 dX12_see_199 ?_
        obtain ⟨k111, h⟩ := sh_chk h
        refine vv_iald 200 dX12_see_200 (g_l_292 hG110) k111 ?_
        obtain ⟨k112, h⟩ := sh_chk h
        refine vn_iast 201 dX12_see_201 (g_l_338 hG110) k112 (fun μ113 eμ113 => ?_)
        rw [sh_let_eq eμ113] at h
        have hG113 : sh_G μ113 := by rw [eμ113]; exact hG110
        refine vv_iincc (lv' := [(3, _), (0, _), (1, _), (2, _)]) 202 3 dX12_see_202 rfl ik_1 (by decide) rfl ?_
        refine vv_goto 205 124 dX12_see_205 (by decide) ?_
        refine vv_sub [(0, _), (1, _), (2, _), (3, _)] (sh_subm [1, 2, 3, 0] rfl) ?_
        exact ih_124 hG113 h
theorem gp_X12_see {μ μ' : sh_Mem} {v : Int32} (hG : sh_G μ) (h : f_X12_see μ = some (v, μ')) : sh_G μ' := by
  have ih_36 := (gpl_X12_see sh_fuel).1
  have ih_124 := (gpl_X12_see sh_fuel).2
  unfold f_X12_see at h
  obtain ⟨x114, ex114⟩ : ∃ y : Int32, y = (sh_i μ 291 1) := ⟨_, rfl⟩
  rw [sh_let_eq ex114] at h
  obtain ⟨μ115, eμ115⟩ : ∃ y : sh_Mem, y = (sh_setI μ 291 1 0) := ⟨_, rfl⟩
  rw [sh_let_eq eμ115] at h
  have hG115 : sh_G μ115 := by rw [eμ115]; exact hG
  by_cases c116 : x114 ≤ 0
  · rw [if_pos c116] at h
    exact ih_36 hG115 h
  · rw [if_neg c116] at h
    by_cases c117 : (x114 - x114 / 4 * 4) = 0
    · rw [if_pos c117] at h
      by_cases c118 : 16 < (x114 / 4)
      · rw [if_pos c118] at h
        exact ih_36 hG115 h
      · rw [if_neg c118] at h
        exact ih_36 hG115 h
    · rw [if_neg c117] at h
      exact ih_36 hG115 h
theorem t_X12_see {μ μ' : sh_Mem} {v : Int32} (hG : sh_G μ) (h : f_X12_see μ = some (v, μ')) : sh_C0 l B D ca 3 M_X12_see [.ref 291] μ (fun v0 μ0 => v0 = some (.int v) ∧ μ0 = μ') := by
  have ih_36 := (tl_X12_see (l := l) (B := B) (D := D) (ca := ca) sh_fuel).1
  have ih_124 := (tl_X12_see (l := l) (B := B) (D := D) (ca := ca) sh_fuel).2
  unfold f_X12_see at h
  refine vv_aload_n 0 0 dX12_see_0 rfl rfl ?_
  refine vv_getI 1 dX12_see_1 fl_12_250 rfl (g_l_291 hG) ?_
  refine vv_topi (fun x114 ex114 => ?_)
  rw [sh_let_eq ex114] at h
  refine vv_istore_n (lv' := [(1, _), (0, _)]) 4 1 dX12_see_4 rfl (by decide) rfl ?_
  refine vv_aload_n 5 0 dX12_see_5 rfl rfl ?_
  refine vv_iconst 6 dX12_see_6 ik_0 ?_
  refine vn_putI 7 dX12_see_7 fl_12_250 (Or.inl rfl) rfl (g_l_291 hG) (fun μ115 eμ115 => ?_)
  rw [sh_let_eq eμ115] at h
  have hG115 : sh_G μ115 := by rw [eμ115]; exact hG
  refine vv_iload_n 10 1 dX12_see_10 rfl rfl ?_
  refine vv_if_le 11 32 dX12_see_11 (by decide) (fun c116 => ?_) (fun c116 => ?_)
  · rw [if_pos c116] at h
    refine vv_iconst 32 dX12_see_32 ik_0 ?_
    refine vv_istore_n (lv' := [(2, _), (1, _), (0, _)]) 33 2 dX12_see_33 rfl (by decide) rfl ?_
    refine vv_iconst 34 dX12_see_34 ik_0 ?_
    refine vv_istore_n (lv' := [(3, _), (2, _), (1, _), (0, _)]) 35 3 dX12_see_35 rfl (by decide) rfl ?_
    refine vv_sub [(0, _), (1, _), (2, _), (3, _)] (sh_subm [3, 2, 1, 0] rfl) ?_
    exact ih_36 hG115 h
  · rw [if_neg c116] at h
    refine vv_iload_n 14 1 dX12_see_14 rfl rfl ?_
    refine vv_iconst 15 dX12_see_15 ik_4 ?_
    refine vv_irem 16 dX12_see_16 (by decide) ?_
    refine vv_if_ne 17 32 dX12_see_17 (by decide) (fun c117 => ?_) (fun c117 => ?_)
    · rw [if_neg c117] at h
      refine vv_iconst 32 dX12_see_32 ik_0 ?_
      refine vv_istore_n (lv' := [(2, _), (1, _), (0, _)]) 33 2 dX12_see_33 rfl (by decide) rfl ?_
      refine vv_iconst 34 dX12_see_34 ik_0 ?_
      refine vv_istore_n (lv' := [(3, _), (2, _), (1, _), (0, _)]) 35 3 dX12_see_35 rfl (by decide) rfl ?_
      refine vv_sub [(0, _), (1, _), (2, _), (3, _)] (sh_subm [3, 2, 1, 0] rfl) ?_
      exact ih_36 hG115 h
    · rw [if_pos c117] at h
      refine vv_iload_n 20 1 dX12_see_20 rfl rfl ?_
      refine vv_iconst 21 dX12_see_21 ik_4 ?_
      refine vv_idiv 22 dX12_see_22 (by decide) ?_
      refine vv_bipush 23 dX12_see_23 bk_16 ?_
      refine vv_icmp_gt 25 32 dX12_see_25 (by decide) (fun c118 => ?_) (fun c118 => ?_)
      · rw [if_pos c118] at h
        refine vv_iconst 32 dX12_see_32 ik_0 ?_
        refine vv_istore_n (lv' := [(2, _), (1, _), (0, _)]) 33 2 dX12_see_33 rfl (by decide) rfl ?_
        refine vv_iconst 34 dX12_see_34 ik_0 ?_
        refine vv_istore_n (lv' := [(3, _), (2, _), (1, _), (0, _)]) 35 3 dX12_see_35 rfl (by decide) rfl ?_
        refine vv_sub [(0, _), (1, _), (2, _), (3, _)] (sh_subm [3, 2, 1, 0] rfl) ?_
        exact ih_36 hG115 h
      · rw [if_neg c118] at h
        refine vv_iconst 28 dX12_see_28 ik_1 ?_
        refine vv_goto 29 33 dX12_see_29 (by decide) ?_
        refine vv_istore_n (lv' := [(2, _), (1, _), (0, _)]) 33 2 dX12_see_33 rfl (by decide) rfl ?_
        refine vv_iconst 34 dX12_see_34 ik_0 ?_
        refine vv_istore_n (lv' := [(3, _), (2, _), (1, _), (0, _)]) 35 3 dX12_see_35 rfl (by decide) rfl ?_
        refine vv_sub [(0, _), (1, _), (2, _), (3, _)] (sh_subm [3, 2, 1, 0] rfl) ?_
        exact ih_36 hG115 h
noncomputable def F_X12_isAsSeen : Nat → Nat → Int32 → Int32 → sh_Mem → Option (Int32 × sh_Mem)
  | 0, _, _, _, _ => none
  | fuel + 1, lbl, i1, i2, μ => match lbl with
    | 1 => (if (sh_i μ 291 71) ≤ i2 then some (1, μ) else (if sh_in (3 * i2) 48 then (if (sh_i μ 338 ((3 * i2)).toNatClampNeg) = i1 then (if 999 < (sh_i μ 330 (Int32.toNatClampNeg 0)) then some (0, μ) else (if sh_in ((3 * i2) + 1) 48 then sh_bind (f_X12_heightOf (sh_i μ 338 (((3 * i2) + 1)).toNatClampNeg) μ) (fun y18 μ16 => (if sh_in ((3 * i2) + 2) 48 then (if y18 = (sh_i μ16 338 (((3 * i2) + 2)).toNatClampNeg) then F_X12_isAsSeen fuel 1 i1 (i2 + 1) μ16 else some (0, μ16)) else none)) else none)) else F_X12_isAsSeen fuel 1 i1 (i2 + 1) μ) else none))
    | _ => none
noncomputable def f_X12_isAsSeen (a1 : Int32) (μ : sh_Mem) : Option (Int32 × sh_Mem) := F_X12_isAsSeen sh_fuel 1 a1 0 μ
theorem gpl_X12_isAsSeen (fuel : Nat) : (∀ ⦃i1 : Int32⦄ ⦃i2 : Int32⦄ ⦃μ μ' : sh_Mem⦄ ⦃v : Int32⦄, sh_G μ → F_X12_isAsSeen fuel 1 i1 i2 μ = some (v, μ') → sh_G μ') := by
  induction fuel with
  | zero => intro i1 i2 μ μ' v hG h; cases h
  | succ fuel ih =>
    have ih_2 := ih
    intro i1 i2 μ μ' v hG h
    replace h : ((if (sh_i μ 291 71) ≤ i2 then some (1, μ) else (if sh_in (3 * i2) 48 then (if (sh_i μ 338 ((3 * i2)).toNatClampNeg) = i1 then (if 999 < (sh_i μ 330 (Int32.toNatClampNeg 0)) then some (0, μ) else (if sh_in ((3 * i2) + 1) 48 then sh_bind (f_X12_heightOf (sh_i μ 338 (((3 * i2) + 1)).toNatClampNeg) μ) (fun y18 μ16 => (if sh_in ((3 * i2) + 2) 48 then (if y18 = (sh_i μ16 338 (((3 * i2) + 2)).toNatClampNeg) then F_X12_isAsSeen fuel 1 i1 (i2 + 1) μ16 else some (0, μ16)) else none)) else none)) else F_X12_isAsSeen fuel 1 i1 (i2 + 1) μ) else none)) : Option (Int32 × sh_Mem)) = some (v, μ') := h
    by_cases c11 : (sh_i μ 291 71) ≤ i2
    · rw [if_pos c11] at h
      obtain ⟨e1, e2⟩ := sh_some2 h
      exact e2 ▸ hG
    · rw [if_neg c11] at h
      obtain ⟨k12, h⟩ := sh_chk h
      by_cases c13 : (sh_i μ 338 ((3 * i2)).toNatClampNeg) = i1
      · rw [if_pos c13] at h
        by_cases c14 : 999 < (sh_i μ 330 (Int32.toNatClampNeg 0))
        · rw [if_pos c14] at h
          obtain ⟨e1, e2⟩ := sh_some2 h
          exact e2 ▸ hG
        · rw [if_neg c14] at h
          obtain ⟨k15, h⟩ := sh_chk h
          obtain ⟨y18, μ16, hr17, h⟩ := sh_bind_e h
          have hG16 := gp_X12_heightOf hG hr17
          obtain ⟨k19, h⟩ := sh_chk h
          by_cases c20 : y18 = (sh_i μ16 338 (((3 * i2) + 2)).toNatClampNeg)
          · rw [if_pos c20] at h
            exact ih_2 hG16 h
          · rw [if_neg c20] at h
            obtain ⟨e1, e2⟩ := sh_some2 h
            exact e2 ▸ hG16
      · rw [if_neg c13] at h
        exact ih_2 hG h
theorem tl_X12_isAsSeen (fuel : Nat) : (∀ ⦃i1 : Int32⦄ ⦃i2 : Int32⦄ ⦃μ μ' : sh_Mem⦄ ⦃v : Int32⦄, sh_G μ → F_X12_isAsSeen fuel 1 i1 i2 μ = some (v, μ') → sh_V0 l B D ca 2 M_X12_isAsSeen 2 [(0, .ref 291), (1, .int i1), (2, .int i2)] [] μ (fun v0 μ0 => v0 = some (.int v) ∧ μ0 = μ')) := by
  induction fuel with
  | zero => intro i1 i2 μ μ' v hG h; cases h
  | succ fuel ih =>
    have ih_2 := ih
    intro i1 i2 μ μ' v hG h
    replace h : ((if (sh_i μ 291 71) ≤ i2 then some (1, μ) else (if sh_in (3 * i2) 48 then (if (sh_i μ 338 ((3 * i2)).toNatClampNeg) = i1 then (if 999 < (sh_i μ 330 (Int32.toNatClampNeg 0)) then some (0, μ) else (if sh_in ((3 * i2) + 1) 48 then sh_bind (f_X12_heightOf (sh_i μ 338 (((3 * i2) + 1)).toNatClampNeg) μ) (fun y18 μ16 => (if sh_in ((3 * i2) + 2) 48 then (if y18 = (sh_i μ16 338 (((3 * i2) + 2)).toNatClampNeg) then F_X12_isAsSeen fuel 1 i1 (i2 + 1) μ16 else some (0, μ16)) else none)) else none)) else F_X12_isAsSeen fuel 1 i1 (i2 + 1) μ) else none)) : Option (Int32 × sh_Mem)) = some (v, μ') := h
    refine vv_iload_n 2 2 dX12_isAsSeen_2 rfl rfl ?_
    refine vv_aload_n 3 0 dX12_isAsSeen_3 rfl rfl ?_
    refine vv_getI 4 dX12_isAsSeen_4 fl_12_405 rfl (g_l_291 hG) ?_
    refine vv_icmp_ge 7 69 dX12_isAsSeen_7 (by decide) (fun c11 => ?_) (fun c11 => ?_)
    · rw [if_pos c11] at h
      refine vv_iconst 69 dX12_isAsSeen_69 ik_1 ?_
      obtain ⟨e1, e2⟩ := sh_some2 h
      refine vv_zret 70 dX12_isAsSeen_70 rfl rfl (Nat.le_refl _) (Nat.le_refl _) ⟨by rw [e1], e2⟩
    · rw [if_neg c11] at h
      refine vv_aload_n 10 0 dX12_isAsSeen_10 rfl rfl ?_
      refine vv_getR 11 dX12_isAsSeen_11 fl_12_154 rfl (g_l_291 hG) (g_r_291_72 hG) ?_
      refine vv_iconst 14 dX12_isAsSeen_14 ik_3 ?_
      refine vv_iload_n 15 2 dX12_isAsSeen_15 rfl rfl ?_
      refine vv_imul 16 dX12_isAsSeen_16 ?_
      obtain ⟨k12, h⟩ := sh_chk h
      refine vv_iald 17 dX12_isAsSeen_17 (g_l_338 hG) k12 ?_
      refine vv_iload_n 18 1 dX12_isAsSeen_18 rfl rfl ?_
      refine vv_icmp_ne 19 63 dX12_isAsSeen_19 (by decide) (fun c13 => ?_) (fun c13 => ?_)
      · rw [if_neg c13] at h
        refine vv_iincc (lv' := [(2, _), (0, _), (1, _)]) 63 2 dX12_isAsSeen_63 rfl ik_1 (by decide) rfl ?_
        refine vv_goto 66 2 dX12_isAsSeen_66 (by decide) ?_
        refine vv_sub [(0, _), (1, _), (2, _)] (sh_subm [1, 2, 0] rfl) ?_
        exact ih_2 hG h
      · rw [if_pos c13] at h
        refine vv_aload_n 22 0 dX12_isAsSeen_22 rfl rfl ?_
        refine vv_getR 23 dX12_isAsSeen_23 fl_12_130 rfl (g_l_291 hG) (g_r_291_52 hG) ?_
        refine vv_iconst 26 dX12_isAsSeen_26 ik_0 ?_
        refine vv_iald 27 dX12_isAsSeen_27 (g_l_330 hG) (by unfold vp_in; decide) ?_
        refine vv_sipush 28 dX12_isAsSeen_28 sk_999 ?_
        refine vv_icmp_gt 31 61 dX12_isAsSeen_31 (by decide) (fun c14 => ?_) (fun c14 => ?_)
        · rw [if_pos c14] at h
          refine vv_iconst 61 dX12_isAsSeen_61 ik_0 ?_
          obtain ⟨e1, e2⟩ := sh_some2 h
          refine vv_zret 62 dX12_isAsSeen_62 rfl rfl (Nat.le_refl _) (Nat.le_refl _) ⟨by rw [e1], e2⟩
        · rw [if_neg c14] at h
          refine vv_aload_n 34 0 dX12_isAsSeen_34 rfl rfl ?_
          refine vv_aload_n 35 0 dX12_isAsSeen_35 rfl rfl ?_
          refine vv_getR 36 dX12_isAsSeen_36 fl_12_154 rfl (g_l_291 hG) (g_r_291_72 hG) ?_
          refine vv_iconst 39 dX12_isAsSeen_39 ik_3 ?_
          refine vv_iload_n 40 2 dX12_isAsSeen_40 rfl rfl ?_
          refine vv_imul 41 dX12_isAsSeen_41 ?_
          refine vv_iconst 42 dX12_isAsSeen_42 ik_1 ?_
          refine vv_iadd 43 dX12_isAsSeen_43 ?_
          obtain ⟨k15, h⟩ := sh_chk h
          refine vv_iald 44 dX12_isAsSeen_44 (g_l_338 hG) k15 ?_
          obtain ⟨y18, μ16, hr17, h⟩ := sh_bind_e h
          refine v1_callV [_] 45 dX12_isAsSeen_45 ck_X12_453 (g_l_291 hG) ⟨by decide, rfl⟩ (t_X12_heightOf hG hr17) (Nat.le_of_ble_eq_true rfl) ⟨Nat.le_of_ble_eq_true rfl, Nat.le_of_ble_eq_true rfl⟩ rfl (Nat.le_of_ble_eq_true rfl) ?_
          have hG16 := gp_X12_heightOf hG hr17
          refine vv_aload_n 48 0 dX12_isAsSeen_48 rfl rfl ?_
          refine vv_getR 49 dX12_isAsSeen_49 fl_12_154 rfl (g_l_291 hG16) (g_r_291_72 hG16) ?_
          refine vv_iconst 52 dX12_isAsSeen_52 ik_3 ?_
          refine vv_iload_n 53 2 dX12_isAsSeen_53 rfl rfl ?_
          refine vv_imul 54 dX12_isAsSeen_54 ?_
          refine vv_iconst 55 dX12_isAsSeen_55 ik_2 ?_
          refine vv_iadd 56 dX12_isAsSeen_56 ?_
          obtain ⟨k19, h⟩ := sh_chk h
          refine vv_iald 57 dX12_isAsSeen_57 (g_l_338 hG16) k19 ?_
          refine vv_icmp_eq 58 63 dX12_isAsSeen_58 (by decide) (fun c20 => ?_) (fun c20 => ?_)
          · rw [if_pos c20] at h
            refine vv_iincc (lv' := [(2, _), (0, _), (1, _)]) 63 2 dX12_isAsSeen_63 rfl ik_1 (by decide) rfl ?_
            refine vv_goto 66 2 dX12_isAsSeen_66 (by decide) ?_
            refine vv_sub [(0, _), (1, _), (2, _)] (sh_subm [1, 2, 0] rfl) ?_
            exact ih_2 hG16 h
          · rw [if_neg c20] at h
            refine vv_iconst 61 dX12_isAsSeen_61 ik_0 ?_
            obtain ⟨e1, e2⟩ := sh_some2 h
            refine vv_zret 62 dX12_isAsSeen_62 rfl rfl (Nat.le_refl _) (Nat.le_refl _) ⟨by rw [e1], e2⟩
theorem gp_X12_isAsSeen {a1 : Int32} {μ μ' : sh_Mem} {v : Int32} (hG : sh_G μ) (h : f_X12_isAsSeen a1 μ = some (v, μ')) : sh_G μ' := by
  have ih_2 := (gpl_X12_isAsSeen sh_fuel)
  unfold f_X12_isAsSeen at h
  exact ih_2 hG h
theorem t_X12_isAsSeen {a1 : Int32} {μ μ' : sh_Mem} {v : Int32} (hG : sh_G μ) (h : f_X12_isAsSeen a1 μ = some (v, μ')) : sh_C0 l B D ca 2 M_X12_isAsSeen [.ref 291, .int a1] μ (fun v0 μ0 => v0 = some (.int v) ∧ μ0 = μ') := by
  have ih_2 := (tl_X12_isAsSeen (l := l) (B := B) (D := D) (ca := ca) sh_fuel)
  unfold f_X12_isAsSeen at h
  refine vv_iconst 0 dX12_isAsSeen_0 ik_0 ?_
  refine vv_istore_n (lv' := [(2, _), (0, _), (1, _)]) 1 2 dX12_isAsSeen_1 rfl (by decide) rfl ?_
  refine vv_sub [(0, _), (1, _), (2, _)] (sh_subm [1, 2, 0] rfl) ?_
  exact ih_2 hG h
noncomputable def F_X12_mostAlike : Nat → Nat → Int32 → Int32 → Int32 → Int32 → Int32 → sh_Mem → Option (Int32 × sh_Mem)
  | 0, _, _, _, _, _, _, _ => none
  | fuel + 1, lbl, i1, i2, i3, i4, i5, μ => match lbl with
    | 1 => sh_bind (f_X12_personMany μ) (fun y31 μ29 => (if y31 ≤ i3 then some (i2, μ29) else (if (((sh_i μ29 291 74) >>> (i3 &&& 31)) &&& 1) = 0 then F_X12_mostAlike fuel 1 i1 i2 (i3 + 1) 0 0 μ29 else F_X12_mostAlike fuel 2 i1 i2 i3 0 0 μ29)))
    | 2 => sh_bind (f_X12_personMany μ) (fun y36 μ34 => (if y36 ≤ i5 then (if i4 ≤ i2 then F_X12_mostAlike fuel 1 i1 i2 (i3 + 1) 0 0 μ34 else F_X12_mostAlike fuel 1 i1 i4 (i3 + 1) 0 0 μ34) else (if (((sh_i μ34 291 74) >>> (i5 &&& 31)) &&& 1) = 1 then (if sh_in ((1519 * i3) + i1) 10633 then (if sh_in ((1519 * i5) + i1) 10633 then (if (sh_i μ34 339 (((1519 * i3) + i1)).toNatClampNeg) = (sh_i μ34 339 (((1519 * i5) + i1)).toNatClampNeg) then F_X12_mostAlike fuel 2 i1 i2 i3 (i4 + 1) (i5 + 1) μ34 else F_X12_mostAlike fuel 2 i1 i2 i3 i4 (i5 + 1) μ34) else none) else none) else F_X12_mostAlike fuel 2 i1 i2 i3 i4 (i5 + 1) μ34)))
    | _ => none
noncomputable def f_X12_mostAlike (a1 : Int32) (μ : sh_Mem) : Option (Int32 × sh_Mem) := F_X12_mostAlike sh_fuel 1 a1 0 0 0 0 μ
theorem gpl_X12_mostAlike (fuel : Nat) : (∀ ⦃i1 : Int32⦄ ⦃i2 : Int32⦄ ⦃i3 : Int32⦄ ⦃i4 : Int32⦄ ⦃i5 : Int32⦄ ⦃μ μ' : sh_Mem⦄ ⦃v : Int32⦄, sh_G μ → F_X12_mostAlike fuel 1 i1 i2 i3 i4 i5 μ = some (v, μ') → sh_G μ') ∧ (∀ ⦃i1 : Int32⦄ ⦃i2 : Int32⦄ ⦃i3 : Int32⦄ ⦃i4 : Int32⦄ ⦃i5 : Int32⦄ ⦃μ μ' : sh_Mem⦄ ⦃v : Int32⦄, sh_G μ → F_X12_mostAlike fuel 2 i1 i2 i3 i4 i5 μ = some (v, μ') → sh_G μ') := by
  induction fuel with
  | zero => exact ⟨(by intro i1 i2 i3 i4 i5 μ μ' v hG h; cases h), (by intro i1 i2 i3 i4 i5 μ μ' v hG h; cases h)⟩
  | succ fuel ih =>
    obtain ⟨ih_4, ih_32⟩ := ih
    refine ⟨?_, ?_⟩
    · intro i1 i2 i3 i4 i5 μ μ' v hG h
      replace h : (sh_bind (f_X12_personMany μ) (fun y31 μ29 => (if y31 ≤ i3 then some (i2, μ29) else (if (((sh_i μ29 291 74) >>> (i3 &&& 31)) &&& 1) = 0 then F_X12_mostAlike fuel 1 i1 i2 (i3 + 1) 0 0 μ29 else F_X12_mostAlike fuel 2 i1 i2 i3 0 0 μ29))) : Option (Int32 × sh_Mem)) = some (v, μ') := h
      obtain ⟨y31, μ29, hr30, h⟩ := sh_bind_e h
      have hG29 := gp_X12_personMany hG hr30
      by_cases c32 : y31 ≤ i3
      · rw [if_pos c32] at h
        obtain ⟨e1, e2⟩ := sh_some2 h
        exact e2 ▸ hG29
      · rw [if_neg c32] at h
        by_cases c33 : (((sh_i μ29 291 74) >>> (i3 &&& 31)) &&& 1) = 0
        · rw [if_pos c33] at h
          exact ih_4 hG29 h
        · rw [if_neg c33] at h
          exact ih_32 hG29 h
    · intro i1 i2 i3 i4 i5 μ μ' v hG h
      replace h : (sh_bind (f_X12_personMany μ) (fun y36 μ34 => (if y36 ≤ i5 then (if i4 ≤ i2 then F_X12_mostAlike fuel 1 i1 i2 (i3 + 1) 0 0 μ34 else F_X12_mostAlike fuel 1 i1 i4 (i3 + 1) 0 0 μ34) else (if (((sh_i μ34 291 74) >>> (i5 &&& 31)) &&& 1) = 1 then (if sh_in ((1519 * i3) + i1) 10633 then (if sh_in ((1519 * i5) + i1) 10633 then (if (sh_i μ34 339 (((1519 * i3) + i1)).toNatClampNeg) = (sh_i μ34 339 (((1519 * i5) + i1)).toNatClampNeg) then F_X12_mostAlike fuel 2 i1 i2 i3 (i4 + 1) (i5 + 1) μ34 else F_X12_mostAlike fuel 2 i1 i2 i3 i4 (i5 + 1) μ34) else none) else none) else F_X12_mostAlike fuel 2 i1 i2 i3 i4 (i5 + 1) μ34))) : Option (Int32 × sh_Mem)) = some (v, μ') := h
      obtain ⟨y36, μ34, hr35, h⟩ := sh_bind_e h
      have hG34 := gp_X12_personMany hG hr35
      by_cases c37 : y36 ≤ i5
      · rw [if_pos c37] at h
        by_cases c38 : i4 ≤ i2
        · rw [if_pos c38] at h
          exact ih_4 hG34 h
        · rw [if_neg c38] at h
          exact ih_4 hG34 h
      · rw [if_neg c37] at h
        by_cases c39 : (((sh_i μ34 291 74) >>> (i5 &&& 31)) &&& 1) = 1
        · rw [if_pos c39] at h
          obtain ⟨k40, h⟩ := sh_chk h
          obtain ⟨k41, h⟩ := sh_chk h
          by_cases c42 : (sh_i μ34 339 (((1519 * i3) + i1)).toNatClampNeg) = (sh_i μ34 339 (((1519 * i5) + i1)).toNatClampNeg)
          · rw [if_pos c42] at h
            exact ih_32 hG34 h
          · rw [if_neg c42] at h
            exact ih_32 hG34 h
        · rw [if_neg c39] at h
          exact ih_32 hG34 h
theorem tl_X12_mostAlike (fuel : Nat) : (∀ ⦃i1 : Int32⦄ ⦃i2 : Int32⦄ ⦃i3 : Int32⦄ ⦃i4 : Int32⦄ ⦃i5 : Int32⦄ ⦃μ μ' : sh_Mem⦄ ⦃v : Int32⦄, sh_G μ → F_X12_mostAlike fuel 1 i1 i2 i3 i4 i5 μ = some (v, μ') → sh_V0 l B D ca 2 M_X12_mostAlike 4 [(0, .ref 291), (1, .int i1), (2, .int i2), (3, .int i3)] [] μ (fun v0 μ0 => v0 = some (.int v) ∧ μ0 = μ')) ∧ (∀ ⦃i1 : Int32⦄ ⦃i2 : Int32⦄ ⦃i3 : Int32⦄ ⦃i4 : Int32⦄ ⦃i5 : Int32⦄ ⦃μ μ' : sh_Mem⦄ ⦃v : Int32⦄, sh_G μ → F_X12_mostAlike fuel 2 i1 i2 i3 i4 i5 μ = some (v, μ') → sh_V0 l B D ca 2 M_X12_mostAlike 32 [(0, .ref 291), (1, .int i1), (2, .int i2), (3, .int i3), (4, .int i4), (5, .int i5)] [] μ (fun v0 μ0 => v0 = some (.int v) ∧ μ0 = μ')) := by
  induction fuel with
  | zero => exact ⟨(by intro i1 i2 i3 i4 i5 μ μ' v hG h; cases h), (by intro i1 i2 i3 i4 i5 μ μ' v hG h; cases h)⟩
  | succ fuel ih =>
    obtain ⟨ih_4, ih_32⟩ := ih
    refine ⟨?_, ?_⟩
    · intro i1 i2 i3 i4 i5 μ μ' v hG h
      replace h : (sh_bind (f_X12_personMany μ) (fun y31 μ29 => (if y31 ≤ i3 then some (i2, μ29) else (if (((sh_i μ29 291 74) >>> (i3 &&& 31)) &&& 1) = 0 then F_X12_mostAlike fuel 1 i1 i2 (i3 + 1) 0 0 μ29 else F_X12_mostAlike fuel 2 i1 i2 i3 0 0 μ29))) : Option (Int32 × sh_Mem)) = some (v, μ') := h
      refine vv_iload_n 4 3 dX12_mostAlike_4 rfl rfl ?_
      refine vv_aload_n 5 0 dX12_mostAlike_5 rfl rfl ?_
      obtain ⟨y31, μ29, hr30, h⟩ := sh_bind_e h
      refine v1_callV [] 6 dX12_mostAlike_6 ck_X12_411 (g_l_291 hG) ⟨by decide, rfl⟩ (t_X12_personMany hG hr30) (Nat.le_of_ble_eq_true rfl) ⟨Nat.le_of_ble_eq_true rfl, Nat.le_of_ble_eq_true rfl⟩ rfl (Nat.le_of_ble_eq_true rfl) ?_
      have hG29 := gp_X12_personMany hG hr30
      refine vv_icmp_ge 9 106 dX12_mostAlike_9 (by decide) (fun c32 => ?_) (fun c32 => ?_)
      · rw [if_pos c32] at h
        refine vv_iload_n 106 2 dX12_mostAlike_106 rfl rfl ?_
        obtain ⟨e1, e2⟩ := sh_some2 h
        refine vv_iret 107 dX12_mostAlike_107 rfl (Nat.le_refl _) (Nat.le_refl _) ⟨by rw [e1], e2⟩
      · rw [if_neg c32] at h
        refine vv_aload_n 12 0 dX12_mostAlike_12 rfl rfl ?_
        refine vv_getI 13 dX12_mostAlike_13 fl_12_605 rfl (g_l_291 hG29) ?_
        refine vv_iload_n 16 3 dX12_mostAlike_16 rfl rfl ?_
        refine vv_ishr 17 dX12_mostAlike_17 ?_
        refine vv_iconst 18 dX12_mostAlike_18 ik_1 ?_
        refine vv_iand 19 dX12_mostAlike_19 ?_
        refine vv_if_ne 20 26 dX12_mostAlike_20 (by decide) (fun c33 => ?_) (fun c33 => ?_)
        · rw [if_neg c33] at h
          refine vv_iconst 26 dX12_mostAlike_26 ik_0 ?_
          refine vv_istore (lv' := [(4, _), (0, _), (1, _), (2, _), (3, _)]) 27 4 dX12_mostAlike_27 (by decide) rfl ?_
          refine vv_iconst 29 dX12_mostAlike_29 ik_0 ?_
          refine vv_istore (lv' := [(5, _), (4, _), (0, _), (1, _), (2, _), (3, _)]) 30 5 dX12_mostAlike_30 (by decide) rfl ?_
          refine vv_sub [(0, _), (1, _), (2, _), (3, _), (4, _), (5, _)] (sh_subm [2, 3, 4, 5, 1, 0] rfl) ?_
          exact ih_32 hG29 h
        · rw [if_pos c33] at h
          refine vv_goto 23 100 dX12_mostAlike_23 (by decide) ?_
          refine vv_iincc (lv' := [(3, _), (0, _), (1, _), (2, _)]) 100 3 dX12_mostAlike_100 rfl ik_1 (by decide) rfl ?_
          refine vv_goto 103 4 dX12_mostAlike_103 (by decide) ?_
          refine vv_sub [(0, _), (1, _), (2, _), (3, _)] (sh_subm [1, 2, 3, 0] rfl) ?_
          exact ih_4 hG29 h
    · intro i1 i2 i3 i4 i5 μ μ' v hG h
      replace h : (sh_bind (f_X12_personMany μ) (fun y36 μ34 => (if y36 ≤ i5 then (if i4 ≤ i2 then F_X12_mostAlike fuel 1 i1 i2 (i3 + 1) 0 0 μ34 else F_X12_mostAlike fuel 1 i1 i4 (i3 + 1) 0 0 μ34) else (if (((sh_i μ34 291 74) >>> (i5 &&& 31)) &&& 1) = 1 then (if sh_in ((1519 * i3) + i1) 10633 then (if sh_in ((1519 * i5) + i1) 10633 then (if (sh_i μ34 339 (((1519 * i3) + i1)).toNatClampNeg) = (sh_i μ34 339 (((1519 * i5) + i1)).toNatClampNeg) then F_X12_mostAlike fuel 2 i1 i2 i3 (i4 + 1) (i5 + 1) μ34 else F_X12_mostAlike fuel 2 i1 i2 i3 i4 (i5 + 1) μ34) else none) else none) else F_X12_mostAlike fuel 2 i1 i2 i3 i4 (i5 + 1) μ34))) : Option (Int32 × sh_Mem)) = some (v, μ') := h
      refine vv_iload 32 5 dX12_mostAlike_32 rfl ?_
      refine vv_aload_n 34 0 dX12_mostAlike_34 rfl rfl ?_
      obtain ⟨y36, μ34, hr35, h⟩ := sh_bind_e h
      refine v1_callV [] 35 dX12_mostAlike_35 ck_X12_411 (g_l_291 hG) ⟨by decide, rfl⟩ (t_X12_personMany hG hr35) (Nat.le_of_ble_eq_true rfl) ⟨Nat.le_of_ble_eq_true rfl, Nat.le_of_ble_eq_true rfl⟩ rfl (Nat.le_of_ble_eq_true rfl) ?_
      have hG34 := gp_X12_personMany hG hr35
      refine vv_icmp_ge 38 91 dX12_mostAlike_38 (by decide) (fun c37 => ?_) (fun c37 => ?_)
      · rw [if_pos c37] at h
        refine vv_iload 91 4 dX12_mostAlike_91 rfl ?_
        refine vv_iload_n 93 2 dX12_mostAlike_93 rfl rfl ?_
        refine vv_icmp_le 94 100 dX12_mostAlike_94 (by decide) (fun c38 => ?_) (fun c38 => ?_)
        · rw [if_pos c38] at h
          refine vv_iincc (lv' := [(3, _), (0, _), (1, _), (2, _), (4, _), (5, _)]) 100 3 dX12_mostAlike_100 rfl ik_1 (by decide) rfl ?_
          refine vv_goto 103 4 dX12_mostAlike_103 (by decide) ?_
          refine vv_sub [(0, _), (1, _), (2, _), (3, _)] (sh_subm [1, 2, 3, 0] rfl) ?_
          exact ih_4 hG34 h
        · rw [if_neg c38] at h
          refine vv_iload 97 4 dX12_mostAlike_97 rfl ?_
          refine vv_istore_n (lv' := [(2, _), (0, _), (1, _), (3, _), (4, _), (5, _)]) 99 2 dX12_mostAlike_99 rfl (by decide) rfl ?_
          refine vv_iincc (lv' := [(3, _), (2, _), (0, _), (1, _), (4, _), (5, _)]) 100 3 dX12_mostAlike_100 rfl ik_1 (by decide) rfl ?_
          refine vv_goto 103 4 dX12_mostAlike_103 (by decide) ?_
          refine vv_sub [(0, _), (1, _), (2, _), (3, _)] (sh_subm [2, 3, 1, 0] rfl) ?_
          exact ih_4 hG34 h
      · rw [if_neg c37] at h
        refine vv_aload_n 41 0 dX12_mostAlike_41 rfl rfl ?_
        refine vv_getI 42 dX12_mostAlike_42 fl_12_605 rfl (g_l_291 hG34) ?_
        refine vv_iload 45 5 dX12_mostAlike_45 rfl ?_
        refine vv_ishr 47 dX12_mostAlike_47 ?_
        refine vv_iconst 48 dX12_mostAlike_48 ik_1 ?_
        refine vv_iand 49 dX12_mostAlike_49 ?_
        refine vv_iconst 50 dX12_mostAlike_50 ik_1 ?_
        refine vv_icmp_ne 51 85 dX12_mostAlike_51 (by decide) (fun c39 => ?_) (fun c39 => ?_)
        · rw [if_neg c39] at h
          refine vv_iincc (lv' := [(5, _), (0, _), (1, _), (2, _), (3, _), (4, _)]) 85 5 dX12_mostAlike_85 rfl ik_1 (by decide) rfl ?_
          refine vv_goto 88 32 dX12_mostAlike_88 (by decide) ?_
          refine vv_sub [(0, _), (1, _), (2, _), (3, _), (4, _), (5, _)] (sh_subm [1, 2, 3, 4, 5, 0] rfl) ?_
          exact ih_32 hG34 h
        · rw [if_pos c39] at h
          refine vv_aload_n 54 0 dX12_mostAlike_54 rfl rfl ?_
          refine vv_getR 55 dX12_mostAlike_55 fl_12_157 rfl (g_l_291 hG34) (g_r_291_73 hG34) ?_
          refine vv_sipush 58 dX12_mostAlike_58 sk_1519 ?_
          refine vv_iload_n 61 3 dX12_mostAlike_61 rfl rfl ?_
          refine vv_imul 62 dX12_mostAlike_62 ?_
          refine vv_iload_n 63 1 dX12_mostAlike_63 rfl rfl ?_
          refine vv_iadd 64 dX12_mostAlike_64 ?_
          obtain ⟨k40, h⟩ := sh_chk h
          refine vv_iald 65 dX12_mostAlike_65 (g_l_339 hG34) k40 ?_
          refine vv_aload_n 66 0 dX12_mostAlike_66 rfl rfl ?_
          refine vv_getR 67 dX12_mostAlike_67 fl_12_157 rfl (g_l_291 hG34) (g_r_291_73 hG34) ?_
          refine vv_sipush 70 dX12_mostAlike_70 sk_1519 ?_
          refine vv_iload 73 5 dX12_mostAlike_73 rfl ?_
          refine vv_imul 75 dX12_mostAlike_75 ?_
          refine vv_iload_n 76 1 dX12_mostAlike_76 rfl rfl ?_
          refine vv_iadd 77 dX12_mostAlike_77 ?_
          obtain ⟨k41, h⟩ := sh_chk h
          refine vv_iald 78 dX12_mostAlike_78 (g_l_339 hG34) k41 ?_
          refine vv_icmp_ne 79 85 dX12_mostAlike_79 (by decide) (fun c42 => ?_) (fun c42 => ?_)
          · rw [if_neg c42] at h
            refine vv_iincc (lv' := [(5, _), (0, _), (1, _), (2, _), (3, _), (4, _)]) 85 5 dX12_mostAlike_85 rfl ik_1 (by decide) rfl ?_
            refine vv_goto 88 32 dX12_mostAlike_88 (by decide) ?_
            refine vv_sub [(0, _), (1, _), (2, _), (3, _), (4, _), (5, _)] (sh_subm [1, 2, 3, 4, 5, 0] rfl) ?_
            exact ih_32 hG34 h
          · rw [if_pos c42] at h
            refine vv_iincc (lv' := [(4, _), (0, _), (1, _), (2, _), (3, _), (5, _)]) 82 4 dX12_mostAlike_82 rfl ik_1 (by decide) rfl ?_
            refine vv_iincc (lv' := [(5, _), (4, _), (0, _), (1, _), (2, _), (3, _)]) 85 5 dX12_mostAlike_85 rfl ik_1 (by decide) rfl ?_
            refine vv_goto 88 32 dX12_mostAlike_88 (by decide) ?_
            refine vv_sub [(0, _), (1, _), (2, _), (3, _), (4, _), (5, _)] (sh_subm [2, 3, 4, 5, 1, 0] rfl) ?_
            exact ih_32 hG34 h
theorem gp_X12_mostAlike {a1 : Int32} {μ μ' : sh_Mem} {v : Int32} (hG : sh_G μ) (h : f_X12_mostAlike a1 μ = some (v, μ')) : sh_G μ' := by
  have ih_4 := (gpl_X12_mostAlike sh_fuel).1
  have ih_32 := (gpl_X12_mostAlike sh_fuel).2
  unfold f_X12_mostAlike at h
  exact ih_4 hG h
theorem t_X12_mostAlike {a1 : Int32} {μ μ' : sh_Mem} {v : Int32} (hG : sh_G μ) (h : f_X12_mostAlike a1 μ = some (v, μ')) : sh_C0 l B D ca 2 M_X12_mostAlike [.ref 291, .int a1] μ (fun v0 μ0 => v0 = some (.int v) ∧ μ0 = μ') := by
  have ih_4 := (tl_X12_mostAlike (l := l) (B := B) (D := D) (ca := ca) sh_fuel).1
  have ih_32 := (tl_X12_mostAlike (l := l) (B := B) (D := D) (ca := ca) sh_fuel).2
  unfold f_X12_mostAlike at h
  refine vv_iconst 0 dX12_mostAlike_0 ik_0 ?_
  refine vv_istore_n (lv' := [(2, _), (0, _), (1, _)]) 1 2 dX12_mostAlike_1 rfl (by decide) rfl ?_
  refine vv_iconst 2 dX12_mostAlike_2 ik_0 ?_
  refine vv_istore_n (lv' := [(3, _), (2, _), (0, _), (1, _)]) 3 3 dX12_mostAlike_3 rfl (by decide) rfl ?_
  refine vv_sub [(0, _), (1, _), (2, _), (3, _)] (sh_subm [2, 3, 1, 0] rfl) ?_
  exact ih_4 hG h
end
