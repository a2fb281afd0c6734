section
variable {l : Launch} {B : Nat} {D : va_G} {ca : Nat → ClassId} {μ : sh_Mem}
noncomputable def f_X11_takeTape (μ : sh_Mem) : Option (Int32 × sh_Mem) := sh_let ((sh_i μ 0 1) : Int32) (fun x1 => sh_let (sh_setI μ 0 1 0) (fun μ2 => some (x1, μ2)))
theorem gp_X11_takeTape {μ μ' : sh_Mem} {v : Int32} (hG : sh_G μ) (h : f_X11_takeTape μ = some (v, μ')) : sh_G μ' := by
  unfold f_X11_takeTape at h
  obtain ⟨x1, ex1⟩ : ∃ y : Int32, y = (sh_i μ 0 1) := ⟨_, rfl⟩
  rw [sh_let_eq ex1] at h
  obtain ⟨μ2, eμ2⟩ : ∃ y : sh_Mem, y = (sh_setI μ 0 1 0) := ⟨_, rfl⟩
  rw [sh_let_eq eμ2] at h
  have hG2 : sh_G μ2 := by rw [eμ2]; exact hG
  obtain ⟨e1, e2⟩ := sh_some2 h
  exact e2 ▸ hG2
theorem t_X11_takeTape {μ μ' : sh_Mem} {v : Int32} (hG : sh_G μ) (h : f_X11_takeTape μ = some (v, μ')) : sh_C0 l B D ca 1 M_X11_takeTape [.ref 0] μ (fun v0 μ0 => v0 = some (.int v) ∧ μ0 = μ') := by
  unfold f_X11_takeTape at h
  refine vv_aload_n 0 0 dX11_takeTape_0 rfl rfl ?_
  refine vv_getI 1 dX11_takeTape_1 fl_11_117 rfl (g_l_0 hG) ?_
  refine vv_topi (fun x1 ex1 => ?_)
  rw [sh_let_eq ex1] at h
  refine vv_istore_n (lv' := [(1, _), (0, _)]) 4 1 dX11_takeTape_4 rfl (by decide) rfl ?_
  refine vv_aload_n 5 0 dX11_takeTape_5 rfl rfl ?_
  refine vv_iconst 6 dX11_takeTape_6 ik_0 ?_
  refine vn_putI 7 dX11_takeTape_7 fl_11_117 (Or.inl rfl) rfl (g_l_0 hG) (fun μ2 eμ2 => ?_)
  rw [sh_let_eq eμ2] at h
  have hG2 : sh_G μ2 := by rw [eμ2]; exact hG
  refine vv_iload_n 10 1 dX11_takeTape_10 rfl rfl ?_
  obtain ⟨e1, e2⟩ := sh_some2 h
  refine vv_iret 11 dX11_takeTape_11 rfl (Nat.le_refl _) (Nat.le_refl _) ⟨by rw [e1], e2⟩
noncomputable def f_X11_refuse (a1 : Int32) (μ : sh_Mem) : Option (Int32 × sh_Mem) := (if sh_in a1 6 then (if sh_in a1 6 then sh_let (sh_setI μ 290 a1.toNatClampNeg ((sh_i μ 290 a1.toNatClampNeg) + 1)) (fun μ3 => some (0, μ3)) else none) else none)
theorem gp_X11_refuse {a1 : Int32} {μ μ' : sh_Mem} {v : Int32} (hG : sh_G μ) (h : f_X11_refuse a1 μ = some (v, μ')) : sh_G μ' := by
  unfold f_X11_refuse at h
  obtain ⟨k1, h⟩ := sh_chk h
  obtain ⟨k2, h⟩ := sh_chk h
  obtain ⟨μ3, eμ3⟩ : ∃ y : sh_Mem, y = (sh_setI μ 290 a1.toNatClampNeg ((sh_i μ 290 a1.toNatClampNeg) + 1)) := ⟨_, rfl⟩
  rw [sh_let_eq eμ3] at h
  have hG3 : sh_G μ3 := by rw [eμ3]; exact hG
  obtain ⟨e1, e2⟩ := sh_some2 h
  exact e2 ▸ hG3
theorem t_X11_refuse {a1 : Int32} {μ μ' : sh_Mem} {v : Int32} (hG : sh_G μ) (h : f_X11_refuse a1 μ = some (v, μ')) : sh_C0 l B D ca 1 M_X11_refuse [.ref 0, .int a1] μ (fun v0 μ0 => v0 = some (.int v) ∧ μ0 = μ') := by
  unfold f_X11_refuse at h
  refine vv_aload_n 0 0 dX11_refuse_0 rfl rfl ?_
  refine vv_getR 1 dX11_refuse_1 fl_11_114 rfl (g_l_0 hG) (g_r_0_19 hG) ?_
  refine vv_iload_n 4 1 dX11_refuse_4 rfl rfl ?_
  refine vv_dup2_ri 5 dX11_refuse_5 ?_
  obtain ⟨k1, h⟩ := sh_chk h
  refine vv_iald 6 dX11_refuse_6 (g_l_290 hG) k1 ?_
  refine vv_iconst 7 dX11_refuse_7 ik_1 ?_
  refine vv_iadd 8 dX11_refuse_8 ?_
  obtain ⟨k2, h⟩ := sh_chk h
  refine vn_iast 9 dX11_refuse_9 (g_l_290 hG) k2 (fun μ3 eμ3 => ?_)
  rw [sh_let_eq eμ3] at h
  have hG3 : sh_G μ3 := by rw [eμ3]; exact hG
  refine vv_iconst 10 dX11_refuse_10 ik_0 ?_
  obtain ⟨e1, e2⟩ := sh_some2 h
  refine vv_zret 11 dX11_refuse_11 rfl rfl (Nat.le_refl _) (Nat.le_refl _) ⟨by rw [e1], e2⟩
noncomputable def f_X11_refuseNumber (a1 : Int32) (μ : sh_Mem) : Option (Int32 × sh_Mem) := (if sh_in a1 6 then (if sh_in a1 6 then sh_let (sh_setI μ 290 a1.toNatClampNeg ((sh_i μ 290 a1.toNatClampNeg) + 1)) (fun μ3 => some ((-1), μ3)) else none) else none)
theorem gp_X11_refuseNumber {a1 : Int32} {μ μ' : sh_Mem} {v : Int32} (hG : sh_G μ) (h : f_X11_refuseNumber a1 μ = some (v, μ')) : sh_G μ' := by
  unfold f_X11_refuseNumber at h
  obtain ⟨k1, h⟩ := sh_chk h
  obtain ⟨k2, h⟩ := sh_chk h
  obtain ⟨μ3, eμ3⟩ : ∃ y : sh_Mem, y = (sh_setI μ 290 a1.toNatClampNeg ((sh_i μ 290 a1.toNatClampNeg) + 1)) := ⟨_, rfl⟩
  rw [sh_let_eq eμ3] at h
  have hG3 : sh_G μ3 := by rw [eμ3]; exact hG
  obtain ⟨e1, e2⟩ := sh_some2 h
  exact e2 ▸ hG3
theorem t_X11_refuseNumber {a1 : Int32} {μ μ' : sh_Mem} {v : Int32} (hG : sh_G μ) (h : f_X11_refuseNumber a1 μ = some (v, μ')) : sh_C0 l B D ca 1 M_X11_refuseNumber [.ref 0, .int a1] μ (fun v0 μ0 => v0 = some (.int v) ∧ μ0 = μ') := by
  unfold f_X11_refuseNumber at h
  refine vv_aload_n 0 0 dX11_refuseNumber_0 rfl rfl ?_
  refine vv_getR 1 dX11_refuseNumber_1 fl_11_114 rfl (g_l_0 hG) (g_r_0_19 hG) ?_
  refine vv_iload_n 4 1 dX11_refuseNumber_4 rfl rfl ?_
  refine vv_dup2_ri 5 dX11_refuseNumber_5 ?_
  obtain ⟨k1, h⟩ := sh_chk h
  refine vv_iald 6 dX11_refuseNumber_6 (g_l_290 hG) k1 ?_
  refine vv_iconst 7 dX11_refuseNumber_7 ik_1 ?_
  refine vv_iadd 8 dX11_refuseNumber_8 ?_
  obtain ⟨k2, h⟩ := sh_chk h
  refine vn_iast 9 dX11_refuseNumber_9 (g_l_290 hG) k2 (fun μ3 eμ3 => ?_)
  rw [sh_let_eq eμ3] at h
  have hG3 : sh_G μ3 := by rw [eμ3]; exact hG
  refine vv_iconst 10 dX11_refuseNumber_10 ik_m1 ?_
  obtain ⟨e1, e2⟩ := sh_some2 h
  refine vv_iret 11 dX11_refuseNumber_11 rfl (Nat.le_refl _) (Nat.le_refl _) ⟨by rw [e1], e2⟩
noncomputable def f_X11_noteFault (μ : sh_Mem) : Option sh_Mem := sh_let (sh_setI μ 0 14 (sh_i μ 2 10)) (fun μ1 => sh_let (sh_setI μ1 0 15 (sh_i μ1 2 11)) (fun μ2 => some μ2))
theorem gp_X11_noteFault {μ μ' : sh_Mem} (hG : sh_G μ) (h : f_X11_noteFault μ = some μ') : sh_G μ' := by
  unfold f_X11_noteFault at h
  obtain ⟨μ1, eμ1⟩ : ∃ y : sh_Mem, y = (sh_setI μ 0 14 (sh_i μ 2 10)) := ⟨_, rfl⟩
  rw [sh_let_eq eμ1] at h
  have hG1 : sh_G μ1 := by rw [eμ1]; exact hG
  obtain ⟨μ2, eμ2⟩ : ∃ y : sh_Mem, y = (sh_setI μ1 0 15 (sh_i μ1 2 11)) := ⟨_, rfl⟩
  rw [sh_let_eq eμ2] at h
  have hG2 : sh_G μ2 := by rw [eμ2]; exact hG1
  have e2 := Option.some.inj h
  exact e2 ▸ hG2
theorem t_X11_noteFault {μ μ' : sh_Mem} (hG : sh_G μ) (h : f_X11_noteFault μ = some μ') : sh_C0 l B D ca 1 M_X11_noteFault [.ref 0] μ (fun v0 μ0 => v0 = none ∧ μ0 = μ') := by
  unfold f_X11_noteFault at h
  refine vv_aload_n 0 0 dX11_noteFault_0 rfl rfl ?_
  refine vv_aload_n 1 0 dX11_noteFault_1 rfl rfl ?_
  refine vv_getR 2 dX11_noteFault_2 fl_11_18 rfl (g_l_0 hG) (g_r_0_2 hG) ?_
  refine vv_getI 5 dX11_noteFault_5 fl_11_145 rfl (g_l_2 hG) ?_
  refine vn_putI 8 dX11_noteFault_8 fl_11_165 (Or.inl rfl) rfl (g_l_0 hG) (fun μ1 eμ1 => ?_)
  rw [sh_let_eq eμ1] at h
  have hG1 : sh_G μ1 := by rw [eμ1]; exact hG
  refine vv_aload_n 11 0 dX11_noteFault_11 rfl rfl ?_
  refine vv_aload_n 12 0 dX11_noteFault_12 rfl rfl ?_
  refine vv_getR 13 dX11_noteFault_13 fl_11_18 rfl (g_l_0 hG1) (g_r_0_2 hG1) ?_
  refine vv_getI 16 dX11_noteFault_16 fl_11_168 rfl (g_l_2 hG1) ?_
  refine vn_putI 19 dX11_noteFault_19 fl_11_103 (Or.inl rfl) rfl (g_l_0 hG1) (fun μ2 eμ2 => ?_)
  rw [sh_let_eq eμ2] at h
  have hG2 : sh_G μ2 := by rw [eμ2]; exact hG1
  have e2 := Option.some.inj h
  refine vv_vret 22 dX11_noteFault_22 rfl (Nat.le_refl _) (Nat.le_refl _) ⟨rfl, e2⟩
def f_X11_fault (μ : sh_Mem) (a1 : Int32) : Int32 := (if a1 = 0 then (sh_i μ 0 14) else (if a1 = 1 then (sh_i μ 0 15) else (-1)))
theorem c_X11_fault (hG : sh_G μ)  {a1 : Int32} : sh_C0 l B D ca 1 M_X11_fault [.ref 0, .int a1] μ (fun v μ' => v = some (.int (f_X11_fault μ a1)) ∧ μ' = μ) := by
  refine vv_iload_n 0 1 dX11_fault_0 rfl rfl ?_
  refine vv_if_ne 1 9 dX11_fault_1 (by decide) (fun h1 => ?_) (fun h1 => ?_)
  · refine vv_iload_n 9 1 dX11_fault_9 rfl rfl ?_
    refine vv_iconst 10 dX11_fault_10 ik_1 ?_
    refine vv_icmp_ne 11 21 dX11_fault_11 (by decide) (fun h2 => ?_) (fun h2 => ?_)
    · refine vv_iconst 21 dX11_fault_21 ik_m1 ?_
      refine vv_iret 22 dX11_fault_22 rfl (Nat.le_refl _) (Nat.le_refl _) ?_
      exact ⟨by show some _ = some (Value.int (f_X11_fault μ a1)); unfold f_X11_fault; rw [if_neg h1, if_neg h2], rfl⟩
    · refine vv_aload_n 14 0 dX11_fault_14 rfl rfl ?_
      refine vv_getI 15 dX11_fault_15 fl_11_103 rfl (g_l_0 hG) ?_
      refine vv_goto 18 22 dX11_fault_18 (by decide) ?_
      refine vv_iret 22 dX11_fault_22 rfl (Nat.le_refl _) (Nat.le_refl _) ?_
      exact ⟨by show some _ = some (Value.int (f_X11_fault μ a1)); unfold f_X11_fault; rw [if_neg h1, if_pos h2], rfl⟩
  · refine vv_aload_n 4 0 dX11_fault_4 rfl rfl ?_
    refine vv_getI 5 dX11_fault_5 fl_11_165 rfl (g_l_0 hG) ?_
    refine vv_iret 8 dX11_fault_8 rfl (Nat.le_refl _) (Nat.le_refl _) ?_
    exact ⟨by show some _ = some (Value.int (f_X11_fault μ a1)); unfold f_X11_fault; rw [if_pos h1], rfl⟩
noncomputable def f_X11_has (a1 : Int32) (μ : sh_Mem) : Option (Int32 × sh_Mem) := (if a1 = 0 then (if (sh_r μ 0 7 = some (sh_ref μ 0 7) ∧ ((sh_ref μ 0 7) = 8 ∨ (sh_ref μ 0 7) = 29)) then sh_let (sh_ref μ 0 7) (fun r3 => some ((sh_i μ r3 0), μ)) else none) else (if a1 = 1 then (if (sh_r μ 0 7 = some (sh_ref μ 0 7) ∧ ((sh_ref μ 0 7) = 8 ∨ (sh_ref μ 0 7) = 29)) then sh_let (sh_ref μ 0 7) (fun r6 => some ((sh_i μ r6 1), μ)) else none) else (if a1 = 2 then (if (sh_r μ 0 7 = some (sh_ref μ 0 7) ∧ ((sh_ref μ 0 7) = 8 ∨ (sh_ref μ 0 7) = 29)) then sh_let (sh_ref μ 0 7) (fun r9 => some ((sh_i μ r9 2), μ)) else none) else (if a1 = 3 then (if (sh_r μ 0 7 = some (sh_ref μ 0 7) ∧ ((sh_ref μ 0 7) = 8 ∨ (sh_ref μ 0 7) = 29)) then sh_let (sh_ref μ 0 7) (fun r12 => some ((sh_i μ r12 3), μ)) else none) else (if a1 = 4 then (if (sh_r μ 0 7 = some (sh_ref μ 0 7) ∧ ((sh_ref μ 0 7) = 8 ∨ (sh_ref μ 0 7) = 29)) then sh_let (sh_ref μ 0 7) (fun r15 => some ((sh_i μ r15 4), μ)) else none) else (if a1 = 5 then some ((sh_i μ 49 0), μ) else (if a1 = 6 then (if (sh_r μ 0 7 = some (sh_ref μ 0 7) ∧ ((sh_ref μ 0 7) = 8 ∨ (sh_ref μ 0 7) = 29)) then sh_let (sh_ref μ 0 7) (fun r19 => sh_bind (f_X3_together 49 (f_X5_cells μ r19) μ) (fun y22 μ20 => some (y22, μ20))) else none) else (if a1 = 7 then some ((sh_i μ 63 1), μ) else (if a1 = 8 then some ((sh_i μ 208 4), μ) else (if a1 = 9 then some ((sh_i μ 63 2), μ) else some ((-1), μ)))))))))))
theorem gp_X11_has {a1 : Int32} {μ μ' : sh_Mem} {v : Int32} (hG : sh_G μ) (h : f_X11_has a1 μ = some (v, μ')) : sh_G μ' := by
  unfold f_X11_has at h
  by_cases c1 : a1 = 0
  · rw [if_pos c1] at h
    obtain ⟨k2, h⟩ := sh_chk h
    obtain ⟨r3, er3⟩ : ∃ y : Nat, y = (sh_ref μ 0 7) := ⟨_, rfl⟩
    rw [sh_let_eq er3] at h
    have k2r : sh_r μ 0 7 = some r3 ∧ (r3 = 8 ∨ r3 = 29) := by rw [er3]; exact k2
    obtain ⟨e1, e2⟩ := sh_some2 h
    exact e2 ▸ hG
  rw [if_neg c1] at h
  by_cases c4 : a1 = 1
  · rw [if_pos c4] at h
    obtain ⟨k5, h⟩ := sh_chk h
    obtain ⟨r6, er6⟩ : ∃ y : Nat, y = (sh_ref μ 0 7) := ⟨_, rfl⟩
    rw [sh_let_eq er6] at h
    have k5r : sh_r μ 0 7 = some r6 ∧ (r6 = 8 ∨ r6 = 29) := by rw [er6]; exact k5
    obtain ⟨e1, e2⟩ := sh_some2 h
    exact e2 ▸ hG
  rw [if_neg c4] at h
  by_cases c7 : a1 = 2
  · rw [if_pos c7] at h
    obtain ⟨k8, h⟩ := sh_chk h
    obtain ⟨r9, er9⟩ : ∃ y : Nat, y = (sh_ref μ 0 7) := ⟨_, rfl⟩
    rw [sh_let_eq er9] at h
    have k8r : sh_r μ 0 7 = some r9 ∧ (r9 = 8 ∨ r9 = 29) := by rw [er9]; exact k8
    obtain ⟨e1, e2⟩ := sh_some2 h
    exact e2 ▸ hG
  rw [if_neg c7] at h
  by_cases c10 : a1 = 3
  · rw [if_pos c10] at h
    obtain ⟨k11, h⟩ := sh_chk h
    obtain ⟨r12, er12⟩ : ∃ y : Nat, y = (sh_ref μ 0 7) := ⟨_, rfl⟩
    rw [sh_let_eq er12] at h
    have k11r : sh_r μ 0 7 = some r12 ∧ (r12 = 8 ∨ r12 = 29) := by rw [er12]; exact k11
    obtain ⟨e1, e2⟩ := sh_some2 h
    exact e2 ▸ hG
  rw [if_neg c10] at h
  by_cases c13 : a1 = 4
  · rw [if_pos c13] at h
    obtain ⟨k14, h⟩ := sh_chk h
    obtain ⟨r15, er15⟩ : ∃ y : Nat, y = (sh_ref μ 0 7) := ⟨_, rfl⟩
    rw [sh_let_eq er15] at h
    have k14r : sh_r μ 0 7 = some r15 ∧ (r15 = 8 ∨ r15 = 29) := by rw [er15]; exact k14
    obtain ⟨e1, e2⟩ := sh_some2 h
    exact e2 ▸ hG
  rw [if_neg c13] at h
  by_cases c16 : a1 = 5
  · rw [if_pos c16] at h
    obtain ⟨e1, e2⟩ := sh_some2 h
    exact e2 ▸ hG
  rw [if_neg c16] at h
  by_cases c17 : a1 = 6
  · rw [if_pos c17] at h
    obtain ⟨k18, h⟩ := sh_chk h
    obtain ⟨r19, er19⟩ : ∃ y : Nat, y = (sh_ref μ 0 7) := ⟨_, rfl⟩
    rw [sh_let_eq er19] at h
    have k18r : sh_r μ 0 7 = some r19 ∧ (r19 = 8 ∨ r19 = 29) := by rw [er19]; exact k18
    obtain ⟨y22, μ20, hr21, h⟩ := sh_bind_e h
    have hG20 := gp_X3_together hG sh_isL_49 hr21
    obtain ⟨e1, e2⟩ := sh_some2 h
    exact e2 ▸ hG20
  rw [if_neg c17] at h
  by_cases c23 : a1 = 7
  · rw [if_pos c23] at h
    obtain ⟨e1, e2⟩ := sh_some2 h
    exact e2 ▸ hG
  rw [if_neg c23] at h
  by_cases c24 : a1 = 8
  · rw [if_pos c24] at h
    obtain ⟨e1, e2⟩ := sh_some2 h
    exact e2 ▸ hG
  rw [if_neg c24] at h
  by_cases c25 : a1 = 9
  · rw [if_pos c25] at h
    obtain ⟨e1, e2⟩ := sh_some2 h
    exact e2 ▸ hG
  rw [if_neg c25] at h
  obtain ⟨e1, e2⟩ := sh_some2 h
  exact e2 ▸ hG
theorem t_X11_has {a1 : Int32} {μ μ' : sh_Mem} {v : Int32} (hG : sh_G μ) (h : f_X11_has a1 μ = some (v, μ')) : sh_C0 l B D ca 2 M_X11_has [.ref 0, .int a1] μ (fun v0 μ0 => v0 = some (.int v) ∧ μ0 = μ') := by
  unfold f_X11_has at h
  refine vv_iload_n 0 1 dX11_has_0 rfl rfl ?_
  by_cases c1 : a1 = 0
  · rw [if_pos c1] at h
    refine vv_tabIn 1 56 dX11_has_1 (by rw [c1]; decide) (by rw [c1]; decide) (off := 55) (by rw [c1]; decide) (by decide) ?_
    refine vv_aload_n 56 0 dX11_has_56 rfl rfl ?_
    obtain ⟨k2, h⟩ := sh_chk h
    refine vv_getR 57 dX11_has_57 fl_11_53 rfl (g_l_0 hG) k2.1 ?_
    refine vv_topr (fun r3 er3 => ?_)
    rw [sh_let_eq er3] at h
    have k2r : sh_r μ 0 7 = some r3 ∧ (r3 = 8 ∨ r3 = 29) := by rw [er3]; exact k2
    refine vv_getI 60 dX11_has_60 fl_11_171 rfl (gP_l hG k2r.2) ?_
    obtain ⟨e1, e2⟩ := sh_some2 h
    refine vv_iret 63 dX11_has_63 rfl (Nat.le_refl _) (Nat.le_refl _) ⟨by rw [e1], e2⟩
  rw [if_neg c1] at h
  by_cases c4 : a1 = 1
  · rw [if_pos c4] at h
    refine vv_tabIn 1 64 dX11_has_1 (by rw [c4]; decide) (by rw [c4]; decide) (off := 63) (by rw [c4]; decide) (by decide) ?_
    refine vv_aload_n 64 0 dX11_has_64 rfl rfl ?_
    obtain ⟨k5, h⟩ := sh_chk h
    refine vv_getR 65 dX11_has_65 fl_11_53 rfl (g_l_0 hG) k5.1 ?_
    refine vv_topr (fun r6 er6 => ?_)
    rw [sh_let_eq er6] at h
    have k5r : sh_r μ 0 7 = some r6 ∧ (r6 = 8 ∨ r6 = 29) := by rw [er6]; exact k5
    refine vv_getI 68 dX11_has_68 fl_11_174 rfl (gP_l hG k5r.2) ?_
    obtain ⟨e1, e2⟩ := sh_some2 h
    refine vv_iret 71 dX11_has_71 rfl (Nat.le_refl _) (Nat.le_refl _) ⟨by rw [e1], e2⟩
  rw [if_neg c4] at h
  by_cases c7 : a1 = 2
  · rw [if_pos c7] at h
    refine vv_tabIn 1 72 dX11_has_1 (by rw [c7]; decide) (by rw [c7]; decide) (off := 71) (by rw [c7]; decide) (by decide) ?_
    refine vv_aload_n 72 0 dX11_has_72 rfl rfl ?_
    obtain ⟨k8, h⟩ := sh_chk h
    refine vv_getR 73 dX11_has_73 fl_11_53 rfl (g_l_0 hG) k8.1 ?_
    refine vv_topr (fun r9 er9 => ?_)
    rw [sh_let_eq er9] at h
    have k8r : sh_r μ 0 7 = some r9 ∧ (r9 = 8 ∨ r9 = 29) := by rw [er9]; exact k8
    refine vv_getI 76 dX11_has_76 fl_11_177 rfl (gP_l hG k8r.2) ?_
    obtain ⟨e1, e2⟩ := sh_some2 h
    refine vv_iret 79 dX11_has_79 rfl (Nat.le_refl _) (Nat.le_refl _) ⟨by rw [e1], e2⟩
  rw [if_neg c7] at h
  by_cases c10 : a1 = 3
  · rw [if_pos c10] at h
    refine vv_tabIn 1 80 dX11_has_1 (by rw [c10]; decide) (by rw [c10]; decide) (off := 79) (by rw [c10]; decide) (by decide) ?_
    refine vv_aload_n 80 0 dX11_has_80 rfl rfl ?_
    obtain ⟨k11, h⟩ := sh_chk h
    refine vv_getR 81 dX11_has_81 fl_11_53 rfl (g_l_0 hG) k11.1 ?_
    refine vv_topr (fun r12 er12 => ?_)
    rw [sh_let_eq er12] at h
    have k11r : sh_r μ 0 7 = some r12 ∧ (r12 = 8 ∨ r12 = 29) := by rw [er12]; exact k11
    refine vv_getI 84 dX11_has_84 fl_11_180 rfl (gP_l hG k11r.2) ?_
    obtain ⟨e1, e2⟩ := sh_some2 h
    refine vv_iret 87 dX11_has_87 rfl (Nat.le_refl _) (Nat.le_refl _) ⟨by rw [e1], e2⟩
  rw [if_neg c10] at h
  by_cases c13 : a1 = 4
  · rw [if_pos c13] at h
    refine vv_tabIn 1 88 dX11_has_1 (by rw [c13]; decide) (by rw [c13]; decide) (off := 87) (by rw [c13]; decide) (by decide) ?_
    refine vv_aload_n 88 0 dX11_has_88 rfl rfl ?_
    obtain ⟨k14, h⟩ := sh_chk h
    refine vv_getR 89 dX11_has_89 fl_11_53 rfl (g_l_0 hG) k14.1 ?_
    refine vv_topr (fun r15 er15 => ?_)
    rw [sh_let_eq er15] at h
    have k14r : sh_r μ 0 7 = some r15 ∧ (r15 = 8 ∨ r15 = 29) := by rw [er15]; exact k14
    refine vv_getI 92 dX11_has_92 fl_11_183 rfl (gP_l hG k14r.2) ?_
    obtain ⟨e1, e2⟩ := sh_some2 h
    refine vv_iret 95 dX11_has_95 rfl (Nat.le_refl _) (Nat.le_refl _) ⟨by rw [e1], e2⟩
  rw [if_neg c13] at h
  by_cases c16 : a1 = 5
  · rw [if_pos c16] at h
    refine vv_tabIn 1 96 dX11_has_1 (by rw [c16]; decide) (by rw [c16]; decide) (off := 95) (by rw [c16]; decide) (by decide) ?_
    refine vv_aload_n 96 0 dX11_has_96 rfl rfl ?_
    refine vv_getR 97 dX11_has_97 fl_11_60 rfl (g_l_0 hG) (g_r_0_8 hG) ?_
    refine vv_getI 100 dX11_has_100 fl_11_186 rfl (g_l_49 hG) ?_
    obtain ⟨e1, e2⟩ := sh_some2 h
    refine vv_iret 103 dX11_has_103 rfl (Nat.le_refl _) (Nat.le_refl _) ⟨by rw [e1], e2⟩
  rw [if_neg c16] at h
  by_cases c17 : a1 = 6
  · rw [if_pos c17] at h
    refine vv_tabIn 1 104 dX11_has_1 (by rw [c17]; decide) (by rw [c17]; decide) (off := 103) (by rw [c17]; decide) (by decide) ?_
    refine vv_aload_n 104 0 dX11_has_104 rfl rfl ?_
    refine vv_getR 105 dX11_has_105 fl_11_60 rfl (g_l_0 hG) (g_r_0_8 hG) ?_
    refine vv_aload_n 108 0 dX11_has_108 rfl rfl ?_
    obtain ⟨k18, h⟩ := sh_chk h
    refine vv_getR 109 dX11_has_109 fl_11_53 rfl (g_l_0 hG) k18.1 ?_
    refine vv_topr (fun r19 er19 => ?_)
    rw [sh_let_eq er19] at h
    have k18r : sh_r μ 0 7 = some r19 ∧ (r19 = 8 ∨ r19 = 29) := by rw [er19]; exact k18
    refine v1_callV [] 112 dX11_has_112 ck_X11_189 (gP_l hG k18r.2) ⟨by decide, rfl⟩ (c_X5_cells (μ := μ) hG k18r.2) (Nat.le_of_ble_eq_true rfl) ⟨Nat.le_of_ble_eq_true rfl, Nat.le_of_ble_eq_true rfl⟩ rfl (Nat.le_of_ble_eq_true rfl) ?_
    obtain ⟨y22, μ20, hr21, h⟩ := sh_bind_e h
    refine v1_callV [_] 115 dX11_has_115 ck_X11_192 (g_l_49 hG) ⟨by decide, rfl⟩ (t_X3_together hG sh_isL_49 hr21) (Nat.le_of_ble_eq_true rfl) ⟨Nat.le_of_ble_eq_true rfl, Nat.le_of_ble_eq_true rfl⟩ rfl (Nat.le_of_ble_eq_true rfl) ?_
    have hG20 := gp_X3_together hG sh_isL_49 hr21
    obtain ⟨e1, e2⟩ := sh_some2 h
    refine vv_iret 118 dX11_has_118 rfl (Nat.le_refl _) (Nat.le_refl _) ⟨by rw [e1], e2⟩
  rw [if_neg c17] at h
  by_cases c23 : a1 = 7
  · rw [if_pos c23] at h
    refine vv_tabIn 1 119 dX11_has_1 (by rw [c23]; decide) (by rw [c23]; decide) (off := 118) (by rw [c23]; decide) (by decide) ?_
    refine vv_aload_n 119 0 dX11_has_119 rfl rfl ?_
    refine vv_getR 120 dX11_has_120 fl_11_76 rfl (g_l_0 hG) (g_r_0_10 hG) ?_
    refine vv_getI 123 dX11_has_123 fl_11_195 rfl (g_l_63 hG) ?_
    obtain ⟨e1, e2⟩ := sh_some2 h
    refine vv_iret 126 dX11_has_126 rfl (Nat.le_refl _) (Nat.le_refl _) ⟨by rw [e1], e2⟩
  rw [if_neg c23] at h
  by_cases c24 : a1 = 8
  · rw [if_pos c24] at h
    refine vv_tabIn 1 127 dX11_has_1 (by rw [c24]; decide) (by rw [c24]; decide) (off := 126) (by rw [c24]; decide) (by decide) ?_
    refine vv_aload_n 127 0 dX11_has_127 rfl rfl ?_
    refine vv_getR 128 dX11_has_128 fl_11_85 rfl (g_l_0 hG) (g_r_0_11 hG) ?_
    refine vv_getI 131 dX11_has_131 fl_11_162 rfl (g_l_208 hG) ?_
    obtain ⟨e1, e2⟩ := sh_some2 h
    refine vv_iret 134 dX11_has_134 rfl (Nat.le_refl _) (Nat.le_refl _) ⟨by rw [e1], e2⟩
  rw [if_neg c24] at h
  by_cases c25 : a1 = 9
  · rw [if_pos c25] at h
    refine vv_tabIn 1 135 dX11_has_1 (by rw [c25]; decide) (by rw [c25]; decide) (off := 134) (by rw [c25]; decide) (by decide) ?_
    refine vv_aload_n 135 0 dX11_has_135 rfl rfl ?_
    refine vv_getR 136 dX11_has_136 fl_11_76 rfl (g_l_0 hG) (g_r_0_10 hG) ?_
    refine vv_getI 139 dX11_has_139 fl_11_198 rfl (g_l_63 hG) ?_
    obtain ⟨e1, e2⟩ := sh_some2 h
    refine vv_iret 142 dX11_has_142 rfl (Nat.le_refl _) (Nat.le_refl _) ⟨by rw [e1], e2⟩
  rw [if_neg c25] at h
  refine vv_tabOut 1 143 dX11_has_1 (sh_tout 0 9 (by intro j h1 h2; rcases (show j = 0 ∨ j = 1 ∨ j = 2 ∨ j = 3 ∨ j = 4 ∨ j = 5 ∨ j = 6 ∨ j = 7 ∨ j = 8 ∨ j = 9 by omega) with rfl | rfl | rfl | rfl | rfl | rfl | rfl | rfl | rfl | rfl <;> first | exact sh_lne c1 (by decide) | exact sh_lne c4 (by decide) | exact sh_lne c7 (by decide) | exact sh_lne c10 (by decide) | exact sh_lne c13 (by decide) | exact sh_lne c16 (by decide) | exact sh_lne c17 (by decide) | exact sh_lne c23 (by decide) | exact sh_lne c24 (by decide) | exact sh_lne c25 (by decide))) (by decide) ?_
  refine vv_iconst 143 dX11_has_143 ik_m1 ?_
  obtain ⟨e1, e2⟩ := sh_some2 h
  refine vv_iret 144 dX11_has_144 rfl (Nat.le_refl _) (Nat.le_refl _) ⟨by rw [e1], e2⟩
def f_X11_letterOf (μ : sh_Mem) (a1 : Int32) (a2 : Int32) : Int32 := ((a1 >>> ((5 * a2) &&& 31)) &&& 31)
theorem c_X11_letterOf (hG : sh_G μ)  {a1 : Int32} {a2 : Int32} : sh_C0 l B D ca 1 M_X11_letterOf [.int a1, .int a2] μ (fun v μ' => v = some (.int (f_X11_letterOf μ a1 a2)) ∧ μ' = μ) := by
  refine vv_iload_n 0 0 dX11_letterOf_0 rfl rfl ?_
  refine vv_iconst 1 dX11_letterOf_1 ik_5 ?_
  refine vv_iload_n 2 1 dX11_letterOf_2 rfl rfl ?_
  refine vv_imul 3 dX11_letterOf_3 ?_
  refine vv_ishr 4 dX11_letterOf_4 ?_
  refine vv_bipush 5 dX11_letterOf_5 bk_31 ?_
  refine vv_iand 7 dX11_letterOf_7 ?_
  refine vv_iret 8 dX11_letterOf_8 rfl (Nat.le_refl _) (Nat.le_refl _) ?_
  exact ⟨rfl, rfl⟩
noncomputable def f_X11_isPlain (μ : sh_Mem) : Option (Int32 × sh_Mem) := (if (sh_r μ 0 7 = some (sh_ref μ 0 7) ∧ ((sh_ref μ 0 7) = 8 ∨ (sh_ref μ 0 7) = 29)) then sh_let (sh_ref μ 0 7) (fun r2 => (if (sh_i μ r2 0) ≤ 0 then some (0, μ) else some (1, μ))) else none)
theorem gp_X11_isPlain {μ μ' : sh_Mem} {v : Int32} (hG : sh_G μ) (h : f_X11_isPlain μ = some (v, μ')) : sh_G μ' := by
  unfold f_X11_isPlain at h
  obtain ⟨k1, h⟩ := sh_chk h
  obtain ⟨r2, er2⟩ : ∃ y : Nat, y = (sh_ref μ 0 7) := ⟨_, rfl⟩
  rw [sh_let_eq er2] at h
  have k1r : sh_r μ 0 7 = some r2 ∧ (r2 = 8 ∨ r2 = 29) := by rw [er2]; exact k1
  by_cases c3 : (sh_i μ r2 0) ≤ 0
  · rw [if_pos c3] at h
    obtain ⟨e1, e2⟩ := sh_some2 h
    exact e2 ▸ hG
  · rw [if_neg c3] at h
    obtain ⟨e1, e2⟩ := sh_some2 h
    exact e2 ▸ hG
theorem t_X11_isPlain {μ μ' : sh_Mem} {v : Int32} (hG : sh_G μ) (h : f_X11_isPlain μ = some (v, μ')) : sh_C0 l B D ca 1 M_X11_isPlain [.ref 0] μ (fun v0 μ0 => v0 = some (.int v) ∧ μ0 = μ') := by
  unfold f_X11_isPlain at h
  refine vv_aload_n 0 0 dX11_isPlain_0 rfl rfl ?_
  obtain ⟨k1, h⟩ := sh_chk h
  refine vv_getR 1 dX11_isPlain_1 fl_11_53 rfl (g_l_0 hG) k1.1 ?_
  refine vv_topr (fun r2 er2 => ?_)
  rw [sh_let_eq er2] at h
  have k1r : sh_r μ 0 7 = some r2 ∧ (r2 = 8 ∨ r2 = 29) := by rw [er2]; exact k1
  refine vv_getI 4 dX11_isPlain_4 fl_11_171 rfl (gP_l hG k1r.2) ?_
  refine vv_if_le 7 14 dX11_isPlain_7 (by decide) (fun c3 => ?_) (fun c3 => ?_)
  · rw [if_pos c3] at h
    refine vv_iconst 14 dX11_isPlain_14 ik_0 ?_
    obtain ⟨e1, e2⟩ := sh_some2 h
    refine vv_zret 15 dX11_isPlain_15 rfl rfl (Nat.le_refl _) (Nat.le_refl _) ⟨by rw [e1], e2⟩
  · rw [if_neg c3] at h
    refine vv_iconst 10 dX11_isPlain_10 ik_1 ?_
    refine vv_goto 11 15 dX11_isPlain_11 (by decide) ?_
    obtain ⟨e1, e2⟩ := sh_some2 h
    refine vv_zret 15 dX11_isPlain_15 rfl rfl (Nat.le_refl _) (Nat.le_refl _) ⟨by rw [e1], e2⟩
noncomputable def f_X11_isTopic (a1 : Int32) (μ : sh_Mem) : Option (Int32 × sh_Mem) := (if a1 < 0 then some (0, μ) else (if (sh_r μ 0 7 = some (sh_ref μ 0 7) ∧ ((sh_ref μ 0 7) = 8 ∨ (sh_ref μ 0 7) = 29)) then sh_let (sh_ref μ 0 7) (fun r3 => (if (sh_i μ r3 2) ≤ a1 then some (0, μ) else some (1, μ))) else none))
theorem gp_X11_isTopic {a1 : Int32} {μ μ' : sh_Mem} {v : Int32} (hG : sh_G μ) (h : f_X11_isTopic a1 μ = some (v, μ')) : sh_G μ' := by
  unfold f_X11_isTopic at h
  by_cases c1 : a1 < 0
  · rw [if_pos c1] at h
    obtain ⟨e1, e2⟩ := sh_some2 h
    exact e2 ▸ hG
  · rw [if_neg c1] at h
    obtain ⟨k2, h⟩ := sh_chk h
    obtain ⟨r3, er3⟩ : ∃ y : Nat, y = (sh_ref μ 0 7) := ⟨_, rfl⟩
    rw [sh_let_eq er3] at h
    have k2r : sh_r μ 0 7 = some r3 ∧ (r3 = 8 ∨ r3 = 29) := by rw [er3]; exact k2
    by_cases c4 : (sh_i μ r3 2) ≤ a1
    · rw [if_pos c4] at h
      obtain ⟨e1, e2⟩ := sh_some2 h
      exact e2 ▸ hG
    · rw [if_neg c4] at h
      obtain ⟨e1, e2⟩ := sh_some2 h
      exact e2 ▸ hG
theorem t_X11_isTopic {a1 : Int32} {μ μ' : sh_Mem} {v : Int32} (hG : sh_G μ) (h : f_X11_isTopic a1 μ = some (v, μ')) : sh_C0 l B D ca 1 M_X11_isTopic [.ref 0, .int a1] μ (fun v0 μ0 => v0 = some (.int v) ∧ μ0 = μ') := by
  unfold f_X11_isTopic at h
  refine vv_iload_n 0 1 dX11_isTopic_0 rfl rfl ?_
  refine vv_if_lt 1 19 dX11_isTopic_1 (by decide) (fun c1 => ?_) (fun c1 => ?_)
  · rw [if_pos c1] at h
    refine vv_iconst 19 dX11_isTopic_19 ik_0 ?_
    obtain ⟨e1, e2⟩ := sh_some2 h
    refine vv_zret 20 dX11_isTopic_20 rfl rfl (Nat.le_refl _) (Nat.le_refl _) ⟨by rw [e1], e2⟩
  · rw [if_neg c1] at h
    refine vv_iload_n 4 1 dX11_isTopic_4 rfl rfl ?_
    refine vv_aload_n 5 0 dX11_isTopic_5 rfl rfl ?_
    obtain ⟨k2, h⟩ := sh_chk h
    refine vv_getR 6 dX11_isTopic_6 fl_11_53 rfl (g_l_0 hG) k2.1 ?_
    refine vv_topr (fun r3 er3 => ?_)
    rw [sh_let_eq er3] at h
    have k2r : sh_r μ 0 7 = some r3 ∧ (r3 = 8 ∨ r3 = 29) := by rw [er3]; exact k2
    refine vv_getI 9 dX11_isTopic_9 fl_11_177 rfl (gP_l hG k2r.2) ?_
    refine vv_icmp_ge 12 19 dX11_isTopic_12 (by decide) (fun c4 => ?_) (fun c4 => ?_)
    · rw [if_pos c4] at h
      refine vv_iconst 19 dX11_isTopic_19 ik_0 ?_
      obtain ⟨e1, e2⟩ := sh_some2 h
      refine vv_zret 20 dX11_isTopic_20 rfl rfl (Nat.le_refl _) (Nat.le_refl _) ⟨by rw [e1], e2⟩
    · rw [if_neg c4] at h
      refine vv_iconst 15 dX11_isTopic_15 ik_1 ?_
      refine vv_goto 16 20 dX11_isTopic_16 (by decide) ?_
      obtain ⟨e1, e2⟩ := sh_some2 h
      refine vv_zret 20 dX11_isTopic_20 rfl rfl (Nat.le_refl _) (Nat.le_refl _) ⟨by rw [e1], e2⟩
noncomputable def f_X11_isPerson (a1 : Int32) (μ : sh_Mem) : Option (Int32 × sh_Mem) := (if a1 < 0 then some (0, μ) else (if (sh_r μ 0 7 = some (sh_ref μ 0 7) ∧ ((sh_ref μ 0 7) = 8 ∨ (sh_ref μ 0 7) = 29)) then sh_let (sh_ref μ 0 7) (fun r3 => (if (sh_i μ r3 3) ≤ a1 then some (0, μ) else some (1, μ))) else none))
theorem gp_X11_isPerson {a1 : Int32} {μ μ' : sh_Mem} {v : Int32} (hG : sh_G μ) (h : f_X11_isPerson a1 μ = some (v, μ')) : sh_G μ' := by
  unfold f_X11_isPerson at h
  by_cases c1 : a1 < 0
  · rw [if_pos c1] at h
    obtain ⟨e1, e2⟩ := sh_some2 h
    exact e2 ▸ hG
  · rw [if_neg c1] at h
    obtain ⟨k2, h⟩ := sh_chk h
    obtain ⟨r3, er3⟩ : ∃ y : Nat, y = (sh_ref μ 0 7) := ⟨_, rfl⟩
    rw [sh_let_eq er3] at h
    have k2r : sh_r μ 0 7 = some r3 ∧ (r3 = 8 ∨ r3 = 29) := by rw [er3]; exact k2
    by_cases c4 : (sh_i μ r3 3) ≤ a1
    · rw [if_pos c4] at h
      obtain ⟨e1, e2⟩ := sh_some2 h
      exact e2 ▸ hG
    · rw [if_neg c4] at h
      obtain ⟨e1, e2⟩ := sh_some2 h
      exact e2 ▸ hG
theorem t_X11_isPerson {a1 : Int32} {μ μ' : sh_Mem} {v : Int32} (hG : sh_G μ) (h : f_X11_isPerson a1 μ = some (v, μ')) : sh_C0 l B D ca 1 M_X11_isPerson [.ref 0, .int a1] μ (fun v0 μ0 => v0 = some (.int v) ∧ μ0 = μ') := by
  unfold f_X11_isPerson at h
  refine vv_iload_n 0 1 dX11_isPerson_0 rfl rfl ?_
  refine vv_if_lt 1 19 dX11_isPerson_1 (by decide) (fun c1 => ?_) (fun c1 => ?_)
  · rw [if_pos c1] at h
    refine vv_iconst 19 dX11_isPerson_19 ik_0 ?_
    obtain ⟨e1, e2⟩ := sh_some2 h
    refine vv_zret 20 dX11_isPerson_20 rfl rfl (Nat.le_refl _) (Nat.le_refl _) ⟨by rw [e1], e2⟩
  · rw [if_neg c1] at h
    refine vv_iload_n 4 1 dX11_isPerson_4 rfl rfl ?_
    refine vv_aload_n 5 0 dX11_isPerson_5 rfl rfl ?_
    obtain ⟨k2, h⟩ := sh_chk h
    refine vv_getR 6 dX11_isPerson_6 fl_11_53 rfl (g_l_0 hG) k2.1 ?_
    refine vv_topr (fun r3 er3 => ?_)
    rw [sh_let_eq er3] at h
    have k2r : sh_r μ 0 7 = some r3 ∧ (r3 = 8 ∨ r3 = 29) := by rw [er3]; exact k2
    refine vv_getI 9 dX11_isPerson_9 fl_11_180 rfl (gP_l hG k2r.2) ?_
    refine vv_icmp_ge 12 19 dX11_isPerson_12 (by decide) (fun c4 => ?_) (fun c4 => ?_)
    · rw [if_pos c4] at h
      refine vv_iconst 19 dX11_isPerson_19 ik_0 ?_
      obtain ⟨e1, e2⟩ := sh_some2 h
      refine vv_zret 20 dX11_isPerson_20 rfl rfl (Nat.le_refl _) (Nat.le_refl _) ⟨by rw [e1], e2⟩
    · rw [if_neg c4] at h
      refine vv_iconst 15 dX11_isPerson_15 ik_1 ?_
      refine vv_goto 16 20 dX11_isPerson_16 (by decide) ?_
      obtain ⟨e1, e2⟩ := sh_some2 h
      refine vv_zret 20 dX11_isPerson_20 rfl rfl (Nat.le_refl _) (Nat.le_refl _) ⟨by rw [e1], e2⟩
noncomputable def f_X11_height (a1 : Int32) (a2 : Int32) (μ : sh_Mem) : Option (Int32 × sh_Mem) := (if (sh_r μ 0 7 = some (sh_ref μ 0 7) ∧ ((sh_ref μ 0 7) = 8 ∨ (sh_ref μ 0 7) = 29)) then sh_let (sh_ref μ 0 7) (fun r2 => sh_let ((f_X5_cellAt μ r2 a1 a2) : Int32) (fun x3 => (if x3 = (-1) then some ((-1), μ) else (if sh_in x3 49 then some ((sh_i μ 50 x3.toNatClampNeg), μ) else none)))) else none)
theorem gp_X11_height {a1 : Int32} {a2 : Int32} {μ μ' : sh_Mem} {v : Int32} (hG : sh_G μ) (h : f_X11_height a1 a2 μ = some (v, μ')) : sh_G μ' := by
  unfold f_X11_height at h
  obtain ⟨k1, h⟩ := sh_chk h
  obtain ⟨r2, er2⟩ : ∃ y : Nat, y = (sh_ref μ 0 7) := ⟨_, rfl⟩
  rw [sh_let_eq er2] at h
  have k1r : sh_r μ 0 7 = some r2 ∧ (r2 = 8 ∨ r2 = 29) := by rw [er2]; exact k1
  obtain ⟨x3, ex3⟩ : ∃ y : Int32, y = (f_X5_cellAt μ r2 a1 a2) := ⟨_, rfl⟩
  rw [sh_let_eq ex3] at h
  by_cases c4 : x3 = (-1)
  · rw [if_pos c4] at h
    obtain ⟨e1, e2⟩ := sh_some2 h
    exact e2 ▸ hG
  · rw [if_neg c4] at h
    obtain ⟨k5, h⟩ := sh_chk h
    obtain ⟨e1, e2⟩ := sh_some2 h
    exact e2 ▸ hG
theorem t_X11_height {a1 : Int32} {a2 : Int32} {μ μ' : sh_Mem} {v : Int32} (hG : sh_G μ) (h : f_X11_height a1 a2 μ = some (v, μ')) : sh_C0 l B D ca 2 M_X11_height [.ref 0, .int a1, .int a2] μ (fun v0 μ0 => v0 = some (.int v) ∧ μ0 = μ') := by
  unfold f_X11_height at h
  refine vv_aload_n 0 0 dX11_height_0 rfl rfl ?_
  obtain ⟨k1, h⟩ := sh_chk h
  refine vv_getR 1 dX11_height_1 fl_11_53 rfl (g_l_0 hG) k1.1 ?_
  refine vv_topr (fun r2 er2 => ?_)
  rw [sh_let_eq er2] at h
  have k1r : sh_r μ 0 7 = some r2 ∧ (r2 = 8 ∨ r2 = 29) := by rw [er2]; exact k1
  refine vv_iload_n 4 1 dX11_height_4 rfl rfl ?_
  refine vv_iload_n 5 2 dX11_height_5 rfl rfl ?_
  refine v1_callV [_, _] 6 dX11_height_6 ck_X11_217 (gP_l hG k1r.2) ⟨by decide, rfl⟩ (c_X5_cellAt (μ := μ) hG k1r.2) (Nat.le_of_ble_eq_true rfl) ⟨Nat.le_of_ble_eq_true rfl, Nat.le_of_ble_eq_true rfl⟩ rfl (Nat.le_of_ble_eq_true rfl) ?_
  refine vv_topi (fun x3 ex3 => ?_)
  rw [sh_let_eq ex3] at h
  refine vv_istore_n (lv' := [(3, _), (0, _), (1, _), (2, _)]) 9 3 dX11_height_9 rfl (by decide) rfl ?_
  refine vv_iload_n 10 3 dX11_height_10 rfl rfl ?_
  refine vv_iconst 11 dX11_height_11 ik_m1 ?_
  refine vv_icmp_ne 12 19 dX11_height_12 (by decide) (fun c4 => ?_) (fun c4 => ?_)
  · rw [if_neg c4] at h
    refine vv_aload_n 19 0 dX11_height_19 rfl rfl ?_
    refine vv_getR 20 dX11_height_20 fl_11_60 rfl (g_l_0 hG) (g_r_0_8 hG) ?_
    refine vv_getR 23 dX11_height_23 fl_11_220 rfl (g_l_49 hG) (g_r_49_1 hG) ?_
    refine vv_iload_n 26 3 dX11_height_26 rfl rfl ?_
    obtain ⟨k5, h⟩ := sh_chk h
    refine vv_iald 27 dX11_height_27 (g_l_50 hG) k5 ?_
    obtain ⟨e1, e2⟩ := sh_some2 h
    refine vv_iret 28 dX11_height_28 rfl (Nat.le_refl _) (Nat.le_refl _) ⟨by rw [e1], e2⟩
  · rw [if_pos c4] at h
    refine vv_iconst 15 dX11_height_15 ik_m1 ?_
    refine vv_goto 16 28 dX11_height_16 (by decide) ?_
    obtain ⟨e1, e2⟩ := sh_some2 h
    refine vv_iret 28 dX11_height_28 rfl (Nat.le_refl _) (Nat.le_refl _) ⟨by rw [e1], e2⟩
noncomputable def f_X11_person (a1 : Int32) (a2 : Int32) (μ : sh_Mem) : Option (Int32 × sh_Mem) := sh_bind (f_X11_isPerson a1 μ) (fun y3 μ1 => (if y3 = 0 then some ((-1), μ1) else (if a2 = 0 then (if sh_in a1 7 then some ((sh_i μ1 51 a1.toNatClampNeg), μ1) else none) else (if a2 = 1 then (if sh_in a1 7 then some ((sh_i μ1 52 a1.toNatClampNeg), μ1) else none) else (if a2 = 2 then (if sh_in a1 7 then some ((sh_i μ1 53 a1.toNatClampNeg), μ1) else none) else (if a2 = 3 then (if sh_in a1 7 then some ((sh_i μ1 54 a1.toNatClampNeg), μ1) else none) else some ((-1), μ1)))))))
theorem gp_X11_person {a1 : Int32} {a2 : Int32} {μ μ' : sh_Mem} {v : Int32} (hG : sh_G μ) (h : f_X11_person a1 a2 μ = some (v, μ')) : sh_G μ' := by
  unfold f_X11_person at h
  obtain ⟨y3, μ1, hr2, h⟩ := sh_bind_e h
  have hG1 := gp_X11_isPerson hG hr2
  by_cases c4 : y3 = 0
  · rw [if_pos c4] at h
    obtain ⟨e1, e2⟩ := sh_some2 h
    exact e2 ▸ hG1
  · rw [if_neg c4] at h
    by_cases c5 : a2 = 0
    · rw [if_pos c5] at h
      obtain ⟨k6, h⟩ := sh_chk h
      obtain ⟨e1, e2⟩ := sh_some2 h
      exact e2 ▸ hG1
    rw [if_neg c5] at h
    by_cases c7 : a2 = 1
    · rw [if_pos c7] at h
      obtain ⟨k8, h⟩ := sh_chk h
      obtain ⟨e1, e2⟩ := sh_some2 h
      exact e2 ▸ hG1
    rw [if_neg c7] at h
    by_cases c9 : a2 = 2
    · rw [if_pos c9] at h
      obtain ⟨k10, h⟩ := sh_chk h
      obtain ⟨e1, e2⟩ := sh_some2 h
      exact e2 ▸ hG1
    rw [if_neg c9] at h
    by_cases c11 : a2 = 3
    · rw [if_pos c11] at h
      obtain ⟨k12, h⟩ := sh_chk h
      obtain ⟨e1, e2⟩ := sh_some2 h
      exact e2 ▸ hG1
    rw [if_neg c11] at h
    obtain ⟨e1, e2⟩ := sh_some2 h
    exact e2 ▸ hG1
theorem t_X11_person {a1 : Int32} {a2 : Int32} {μ μ' : sh_Mem} {v : Int32} (hG : sh_G μ) (h : f_X11_person a1 a2 μ = some (v, μ')) : sh_C0 l B D ca 2 M_X11_person [.ref 0, .int a1, .int a2] μ (fun v0 μ0 => v0 = some (.int v) ∧ μ0 = μ') := by
  unfold f_X11_person at h
  refine vv_aload_n 0 0 dX11_person_0 rfl rfl ?_
  refine vv_iload_n 1 1 dX11_person_1 rfl rfl ?_
  obtain ⟨y3, μ1, hr2, h⟩ := sh_bind_e h
  refine v1_callV [_] 2 dX11_person_2 ck_X11_211 (g_l_0 hG) ⟨by decide, rfl⟩ (t_X11_isPerson hG hr2) (Nat.le_of_ble_eq_true rfl) ⟨Nat.le_of_ble_eq_true rfl, Nat.le_of_ble_eq_true rfl⟩ rfl (Nat.le_of_ble_eq_true rfl) ?_
  have hG1 := gp_X11_isPerson hG hr2
  refine vv_if_ne 5 10 dX11_person_5 (by decide) (fun c4 => ?_) (fun c4 => ?_)
  · rw [if_neg c4] at h
    refine vv_iload_n 10 2 dX11_person_10 rfl rfl ?_
    by_cases c5 : a2 = 0
    · rw [if_pos c5] at h
      refine vv_tabIn 11 40 dX11_person_11 (by rw [c5]; decide) (by rw [c5]; decide) (off := 29) (by rw [c5]; decide) (by decide) ?_
      refine vv_aload_n 40 0 dX11_person_40 rfl rfl ?_
      refine vv_getR 41 dX11_person_41 fl_11_60 rfl (g_l_0 hG1) (g_r_0_8 hG1) ?_
      refine vv_getR 44 dX11_person_44 fl_11_223 rfl (g_l_49 hG1) (g_r_49_2 hG1) ?_
      refine vv_iload_n 47 1 dX11_person_47 rfl rfl ?_
      obtain ⟨k6, h⟩ := sh_chk h
      refine vv_iald 48 dX11_person_48 (g_l_51 hG1) k6 ?_
      obtain ⟨e1, e2⟩ := sh_some2 h
      refine vv_iret 49 dX11_person_49 rfl (Nat.le_refl _) (Nat.le_refl _) ⟨by rw [e1], e2⟩
    rw [if_neg c5] at h
    by_cases c7 : a2 = 1
    · rw [if_pos c7] at h
      refine vv_tabIn 11 50 dX11_person_11 (by rw [c7]; decide) (by rw [c7]; decide) (off := 39) (by rw [c7]; decide) (by decide) ?_
      refine vv_aload_n 50 0 dX11_person_50 rfl rfl ?_
      refine vv_getR 51 dX11_person_51 fl_11_60 rfl (g_l_0 hG1) (g_r_0_8 hG1) ?_
      refine vv_getR 54 dX11_person_54 fl_11_226 rfl (g_l_49 hG1) (g_r_49_3 hG1) ?_
      refine vv_iload_n 57 1 dX11_person_57 rfl rfl ?_
      obtain ⟨k8, h⟩ := sh_chk h
      refine vv_iald 58 dX11_person_58 (g_l_52 hG1) k8 ?_
      obtain ⟨e1, e2⟩ := sh_some2 h
      refine vv_iret 59 dX11_person_59 rfl (Nat.le_refl _) (Nat.le_refl _) ⟨by rw [e1], e2⟩
    rw [if_neg c7] at h
    by_cases c9 : a2 = 2
    · rw [if_pos c9] at h
      refine vv_tabIn 11 60 dX11_person_11 (by rw [c9]; decide) (by rw [c9]; decide) (off := 49) (by rw [c9]; decide) (by decide) ?_
      refine vv_aload_n 60 0 dX11_person_60 rfl rfl ?_
      refine vv_getR 61 dX11_person_61 fl_11_60 rfl (g_l_0 hG1) (g_r_0_8 hG1) ?_
      refine vv_getR 64 dX11_person_64 fl_11_229 rfl (g_l_49 hG1) (g_r_49_4 hG1) ?_
      refine vv_iload_n 67 1 dX11_person_67 rfl rfl ?_
      obtain ⟨k10, h⟩ := sh_chk h
      refine vv_iald 68 dX11_person_68 (g_l_53 hG1) k10 ?_
      obtain ⟨e1, e2⟩ := sh_some2 h
      refine vv_iret 69 dX11_person_69 rfl (Nat.le_refl _) (Nat.le_refl _) ⟨by rw [e1], e2⟩
    rw [if_neg c9] at h
    by_cases c11 : a2 = 3
    · rw [if_pos c11] at h
      refine vv_tabIn 11 70 dX11_person_11 (by rw [c11]; decide) (by rw [c11]; decide) (off := 59) (by rw [c11]; decide) (by decide) ?_
      refine vv_aload_n 70 0 dX11_person_70 rfl rfl ?_
      refine vv_getR 71 dX11_person_71 fl_11_60 rfl (g_l_0 hG1) (g_r_0_8 hG1) ?_
      refine vv_getR 74 dX11_person_74 fl_11_232 rfl (g_l_49 hG1) (g_r_49_5 hG1) ?_
      refine vv_iload_n 77 1 dX11_person_77 rfl rfl ?_
      obtain ⟨k12, h⟩ := sh_chk h
      refine vv_iald 78 dX11_person_78 (g_l_54 hG1) k12 ?_
      obtain ⟨e1, e2⟩ := sh_some2 h
      refine vv_iret 79 dX11_person_79 rfl (Nat.le_refl _) (Nat.le_refl _) ⟨by rw [e1], e2⟩
    rw [if_neg c11] at h
    refine vv_tabOut 11 80 dX11_person_11 (sh_tout 0 3 (by intro j h1 h2; rcases (show j = 0 ∨ j = 1 ∨ j = 2 ∨ j = 3 by omega) with rfl | rfl | rfl | rfl <;> first | exact sh_lne c5 (by decide) | exact sh_lne c7 (by decide) | exact sh_lne c9 (by decide) | exact sh_lne c11 (by decide))) (by decide) ?_
    refine vv_iconst 80 dX11_person_80 ik_m1 ?_
    obtain ⟨e1, e2⟩ := sh_some2 h
    refine vv_iret 81 dX11_person_81 rfl (Nat.le_refl _) (Nat.le_refl _) ⟨by rw [e1], e2⟩
  · rw [if_pos c4] at h
    refine vv_iconst 8 dX11_person_8 ik_m1 ?_
    obtain ⟨e1, e2⟩ := sh_some2 h
    refine vv_iret 9 dX11_person_9 rfl (Nat.le_refl _) (Nat.le_refl _) ⟨by rw [e1], e2⟩
noncomputable def f_X11_list (a1 : Int32) (a2 : Int32) (μ : sh_Mem) : Option (Int32 × sh_Mem) := (if a1 < 0 then some ((-1), μ) else (if (sh_r μ 0 7 = some (sh_ref μ 0 7) ∧ ((sh_ref μ 0 7) = 8 ∨ (sh_ref μ 0 7) = 29)) then sh_let (sh_ref μ 0 7) (fun r3 => (if a1 < (sh_i μ r3 4) then (if a2 = 0 then (if (sh_r μ 0 7 = some (sh_ref μ 0 7) ∧ ((sh_ref μ 0 7) = 8 ∨ (sh_ref μ 0 7) = 29)) then sh_let (sh_ref μ 0 7) (fun r11 => (if sh_in a1 12 then some ((sh_i μ (r11 + 3) a1.toNatClampNeg), μ) else none)) else none) else (if a2 = 1 then (if (sh_r μ 0 7 = some (sh_ref μ 0 7) ∧ ((sh_ref μ 0 7) = 8 ∨ (sh_ref μ 0 7) = 29)) then sh_let (sh_ref μ 0 7) (fun r8 => (if sh_in a1 12 then some ((sh_i μ (r8 + 4) a1.toNatClampNeg), μ) else none)) else none) else some ((-1), μ))) else some ((-1), μ))) else none))
theorem gp_X11_list {a1 : Int32} {a2 : Int32} {μ μ' : sh_Mem} {v : Int32} (hG : sh_G μ) (h : f_X11_list a1 a2 μ = some (v, μ')) : sh_G μ' := by
  unfold f_X11_list at h
  by_cases c1 : a1 < 0
  · rw [if_pos c1] at h
    obtain ⟨e1, e2⟩ := sh_some2 h
    exact e2 ▸ hG
  · rw [if_neg c1] at h
    obtain ⟨k2, h⟩ := sh_chk h
    obtain ⟨r3, er3⟩ : ∃ y : Nat, y = (sh_ref μ 0 7) := ⟨_, rfl⟩
    rw [sh_let_eq er3] at h
    have k2r : sh_r μ 0 7 = some r3 ∧ (r3 = 8 ∨ r3 = 29) := by rw [er3]; exact k2
    by_cases c4 : a1 < (sh_i μ r3 4)
    · rw [if_pos c4] at h
      by_cases c5 : a2 = 0
      · rw [if_pos c5] at h
        obtain ⟨k10, h⟩ := sh_chk h
        obtain ⟨r11, er11⟩ : ∃ y : Nat, y = (sh_ref μ 0 7) := ⟨_, rfl⟩
        rw [sh_let_eq er11] at h
        have k10r : sh_r μ 0 7 = some r11 ∧ (r11 = 8 ∨ r11 = 29) := by rw [er11]; exact k10
        obtain ⟨k12, h⟩ := sh_chk h
        obtain ⟨e1, e2⟩ := sh_some2 h
        exact e2 ▸ hG
      · rw [if_neg c5] at h
        by_cases c6 : a2 = 1
        · rw [if_pos c6] at h
          obtain ⟨k7, h⟩ := sh_chk h
          obtain ⟨r8, er8⟩ : ∃ y : Nat, y = (sh_ref μ 0 7) := ⟨_, rfl⟩
          rw [sh_let_eq er8] at h
          have k7r : sh_r μ 0 7 = some r8 ∧ (r8 = 8 ∨ r8 = 29) := by rw [er8]; exact k7
          obtain ⟨k9, h⟩ := sh_chk h
          obtain ⟨e1, e2⟩ := sh_some2 h
          exact e2 ▸ hG
        · rw [if_neg c6] at h
          obtain ⟨e1, e2⟩ := sh_some2 h
          exact e2 ▸ hG
    · rw [if_neg c4] at h
      obtain ⟨e1, e2⟩ := sh_some2 h
      exact e2 ▸ hG
theorem t_X11_list {a1 : Int32} {a2 : Int32} {μ μ' : sh_Mem} {v : Int32} (hG : sh_G μ) (h : f_X11_list a1 a2 μ = some (v, μ')) : sh_C0 l B D ca 1 M_X11_list [.ref 0, .int a1, .int a2] μ (fun v0 μ0 => v0 = some (.int v) ∧ μ0 = μ') := by
  unfold f_X11_list at h
  refine vv_iload_n 0 1 dX11_list_0 rfl rfl ?_
  refine vv_if_lt 1 15 dX11_list_1 (by decide) (fun c1 => ?_) (fun c1 => ?_)
  · rw [if_pos c1] at h
    refine vv_iconst 15 dX11_list_15 ik_m1 ?_
    obtain ⟨e1, e2⟩ := sh_some2 h
    refine vv_iret 16 dX11_list_16 rfl (Nat.le_refl _) (Nat.le_refl _) ⟨by rw [e1], e2⟩
  · rw [if_neg c1] at h
    refine vv_iload_n 4 1 dX11_list_4 rfl rfl ?_
    refine vv_aload_n 5 0 dX11_list_5 rfl rfl ?_
    obtain ⟨k2, h⟩ := sh_chk h
    refine vv_getR 6 dX11_list_6 fl_11_53 rfl (g_l_0 hG) k2.1 ?_
    refine vv_topr (fun r3 er3 => ?_)
    rw [sh_let_eq er3] at h
    have k2r : sh_r μ 0 7 = some r3 ∧ (r3 = 8 ∨ r3 = 29) := by rw [er3]; exact k2
    refine vv_getI 9 dX11_list_9 fl_11_183 rfl (gP_l hG k2r.2) ?_
    refine vv_icmp_lt 12 17 dX11_list_12 (by decide) (fun c4 => ?_) (fun c4 => ?_)
    · rw [if_pos c4] at h
      refine vv_iload_n 17 2 dX11_list_17 rfl rfl ?_
      refine vv_if_ne 18 31 dX11_list_18 (by decide) (fun c5 => ?_) (fun c5 => ?_)
      · rw [if_neg c5] at h
        refine vv_iload_n 31 2 dX11_list_31 rfl rfl ?_
        refine vv_iconst 32 dX11_list_32 ik_1 ?_
        refine vv_icmp_ne 33 48 dX11_list_33 (by decide) (fun c6 => ?_) (fun c6 => ?_)
        · rw [if_neg c6] at h
          refine vv_iconst 48 dX11_list_48 ik_m1 ?_
          obtain ⟨e1, e2⟩ := sh_some2 h
          refine vv_iret 49 dX11_list_49 rfl (Nat.le_refl _) (Nat.le_refl _) ⟨by rw [e1], e2⟩
        · rw [if_pos c6] at h
          refine vv_aload_n 36 0 dX11_list_36 rfl rfl ?_
          obtain ⟨k7, h⟩ := sh_chk h
          refine vv_getR 37 dX11_list_37 fl_11_53 rfl (g_l_0 hG) k7.1 ?_
          refine vv_topr (fun r8 er8 => ?_)
          rw [sh_let_eq er8] at h
          have k7r : sh_r μ 0 7 = some r8 ∧ (r8 = 8 ∨ r8 = 29) := by rw [er8]; exact k7
          refine vv_getR 40 dX11_list_40 fl_11_238 rfl (gP_l hG k7r.2) (gP_r9 hG k7r.2) ?_
          refine vv_iload_n 43 1 dX11_list_43 rfl rfl ?_
          obtain ⟨k9, h⟩ := sh_chk h
          refine vv_iald 44 dX11_list_44 (gA_l hG (gPA9 k7r.2)) k9 ?_
          refine vv_goto 45 49 dX11_list_45 (by decide) ?_
          obtain ⟨e1, e2⟩ := sh_some2 h
          refine vv_iret 49 dX11_list_49 rfl (Nat.le_refl _) (Nat.le_refl _) ⟨by rw [e1], e2⟩
      · rw [if_pos c5] at h
        refine vv_aload_n 21 0 dX11_list_21 rfl rfl ?_
        obtain ⟨k10, h⟩ := sh_chk h
        refine vv_getR 22 dX11_list_22 fl_11_53 rfl (g_l_0 hG) k10.1 ?_
        refine vv_topr (fun r11 er11 => ?_)
        rw [sh_let_eq er11] at h
        have k10r : sh_r μ 0 7 = some r11 ∧ (r11 = 8 ∨ r11 = 29) := by rw [er11]; exact k10
        refine vv_getR 25 dX11_list_25 fl_11_235 rfl (gP_l hG k10r.2) (gP_r8 hG k10r.2) ?_
        refine vv_iload_n 28 1 dX11_list_28 rfl rfl ?_
        obtain ⟨k12, h⟩ := sh_chk h
        refine vv_iald 29 dX11_list_29 (gA_l hG (gPA8 k10r.2)) k12 ?_
        obtain ⟨e1, e2⟩ := sh_some2 h
        refine vv_iret 30 dX11_list_30 rfl (Nat.le_refl _) (Nat.le_refl _) ⟨by rw [e1], e2⟩
    · rw [if_neg c4] at h
      refine vv_iconst 15 dX11_list_15 ik_m1 ?_
      obtain ⟨e1, e2⟩ := sh_some2 h
      refine vv_iret 16 dX11_list_16 rfl (Nat.le_refl _) (Nat.le_refl _) ⟨by rw [e1], e2⟩
noncomputable def f_X11_kept (a1 : Int32) (a2 : Int32) (μ : sh_Mem) : Option (Int32 × sh_Mem) := (if a1 < 0 then some ((-1), μ) else (if (sh_i μ 63 1) ≤ a1 then some ((-1), μ) else (if a2 < 0 then some ((-1), μ) else (if a2 < 4 then (if sh_in ((a1 * 4) + a2) 160 then some ((sh_i μ 64 (((a1 * 4) + a2)).toNatClampNeg), μ) else none) else some ((-1), μ)))))
theorem gp_X11_kept {a1 : Int32} {a2 : Int32} {μ μ' : sh_Mem} {v : Int32} (hG : sh_G μ) (h : f_X11_kept a1 a2 μ = some (v, μ')) : sh_G μ' := by
  unfold f_X11_kept at h
  by_cases c1 : a1 < 0
  · rw [if_pos c1] at h
    obtain ⟨e1, e2⟩ := sh_some2 h
    exact e2 ▸ hG
  · rw [if_neg c1] at h
    by_cases c2 : (sh_i μ 63 1) ≤ a1
    · rw [if_pos c2] at h
      obtain ⟨e1, e2⟩ := sh_some2 h
      exact e2 ▸ hG
    · rw [if_neg c2] at h
      by_cases c3 : a2 < 0
      · rw [if_pos c3] at h
        obtain ⟨e1, e2⟩ := sh_some2 h
        exact e2 ▸ hG
      · rw [if_neg c3] at h
        by_cases c4 : a2 < 4
        · rw [if_pos c4] at h
          obtain ⟨k5, h⟩ := sh_chk h
          obtain ⟨e1, e2⟩ := sh_some2 h
          exact e2 ▸ hG
        · rw [if_neg c4] at h
          obtain ⟨e1, e2⟩ := sh_some2 h
          exact e2 ▸ hG
theorem t_X11_kept {a1 : Int32} {a2 : Int32} {μ μ' : sh_Mem} {v : Int32} (hG : sh_G μ) (h : f_X11_kept a1 a2 μ = some (v, μ')) : sh_C0 l B D ca 1 M_X11_kept [.ref 0, .int a1, .int a2] μ (fun v0 μ0 => v0 = some (.int v) ∧ μ0 = μ') := by
  unfold f_X11_kept at h
  refine vv_iload_n 0 1 dX11_kept_0 rfl rfl ?_
  refine vv_if_lt 1 24 dX11_kept_1 (by decide) (fun c1 => ?_) (fun c1 => ?_)
  · rw [if_pos c1] at h
    refine vv_iconst 24 dX11_kept_24 ik_m1 ?_
    obtain ⟨e1, e2⟩ := sh_some2 h
    refine vv_iret 25 dX11_kept_25 rfl (Nat.le_refl _) (Nat.le_refl _) ⟨by rw [e1], e2⟩
  · rw [if_neg c1] at h
    refine vv_iload_n 4 1 dX11_kept_4 rfl rfl ?_
    refine vv_aload_n 5 0 dX11_kept_5 rfl rfl ?_
    refine vv_getR 6 dX11_kept_6 fl_11_76 rfl (g_l_0 hG) (g_r_0_10 hG) ?_
    refine vv_getI 9 dX11_kept_9 fl_11_195 rfl (g_l_63 hG) ?_
    refine vv_icmp_ge 12 24 dX11_kept_12 (by decide) (fun c2 => ?_) (fun c2 => ?_)
    · rw [if_pos c2] at h
      refine vv_iconst 24 dX11_kept_24 ik_m1 ?_
      obtain ⟨e1, e2⟩ := sh_some2 h
      refine vv_iret 25 dX11_kept_25 rfl (Nat.le_refl _) (Nat.le_refl _) ⟨by rw [e1], e2⟩
    · rw [if_neg c2] at h
      refine vv_iload_n 15 2 dX11_kept_15 rfl rfl ?_
      refine vv_if_lt 16 24 dX11_kept_16 (by decide) (fun c3 => ?_) (fun c3 => ?_)
      · rw [if_pos c3] at h
        refine vv_iconst 24 dX11_kept_24 ik_m1 ?_
        obtain ⟨e1, e2⟩ := sh_some2 h
        refine vv_iret 25 dX11_kept_25 rfl (Nat.le_refl _) (Nat.le_refl _) ⟨by rw [e1], e2⟩
      · rw [if_neg c3] at h
        refine vv_iload_n 19 2 dX11_kept_19 rfl rfl ?_
        refine vv_iconst 20 dX11_kept_20 ik_4 ?_
        refine vv_icmp_lt 21 26 dX11_kept_21 (by decide) (fun c4 => ?_) (fun c4 => ?_)
        · rw [if_pos c4] at h
          refine vv_aload_n 26 0 dX11_kept_26 rfl rfl ?_
          refine vv_getR 27 dX11_kept_27 fl_11_76 rfl (g_l_0 hG) (g_r_0_10 hG) ?_
          refine vv_getR 30 dX11_kept_30 fl_11_245 rfl (g_l_63 hG) (g_r_63_0 hG) ?_
          refine vv_iload_n 33 1 dX11_kept_33 rfl rfl ?_
          refine vv_iconst 34 dX11_kept_34 ik_4 ?_
          refine vv_imul 35 dX11_kept_35 ?_
          refine vv_iload_n 36 2 dX11_kept_36 rfl rfl ?_
          refine vv_iadd 37 dX11_kept_37 ?_
          obtain ⟨k5, h⟩ := sh_chk h
          refine vv_iald 38 dX11_kept_38 (g_l_64 hG) k5 ?_
          obtain ⟨e1, e2⟩ := sh_some2 h
          refine vv_iret 39 dX11_kept_39 rfl (Nat.le_refl _) (Nat.le_refl _) ⟨by rw [e1], e2⟩
        · rw [if_neg c4] at h
          refine vv_iconst 24 dX11_kept_24 ik_m1 ?_
          obtain ⟨e1, e2⟩ := sh_some2 h
          refine vv_iret 25 dX11_kept_25 rfl (Nat.le_refl _) (Nat.le_refl _) ⟨by rw [e1], e2⟩
noncomputable def f_X11_isAhead (a1 : Int32) (a2 : Int32) (a3 : Int32) (μ : sh_Mem) : Option (Int32 × sh_Mem) := sh_bind (f_X11_isPlain μ) (fun y3 μ1 => (if y3 = 0 then some (0, μ1) else (if a1 < a2 then some (0, μ1) else (if a3 < a1 then some (0, μ1) else (if 999 < ((sh_i μ1 49 0) + a1) then some (0, μ1) else some (1, μ1))))))
theorem gp_X11_isAhead {a1 : Int32} {a2 : Int32} {a3 : Int32} {μ μ' : sh_Mem} {v : Int32} (hG : sh_G μ) (h : f_X11_isAhead a1 a2 a3 μ = some (v, μ')) : sh_G μ' := by
  unfold f_X11_isAhead at h
  obtain ⟨y3, μ1, hr2, h⟩ := sh_bind_e h
  have hG1 := gp_X11_isPlain hG hr2
  by_cases c4 : y3 = 0
  · rw [if_pos c4] at h
    obtain ⟨e1, e2⟩ := sh_some2 h
    exact e2 ▸ hG1
  · rw [if_neg c4] at h
    by_cases c5 : a1 < a2
    · rw [if_pos c5] at h
      obtain ⟨e1, e2⟩ := sh_some2 h
      exact e2 ▸ hG1
    · rw [if_neg c5] at h
      by_cases c6 : a3 < a1
      · rw [if_pos c6] at h
        obtain ⟨e1, e2⟩ := sh_some2 h
        exact e2 ▸ hG1
      · rw [if_neg c6] at h
        by_cases c7 : 999 < ((sh_i μ1 49 0) + a1)
        · rw [if_pos c7] at h
          obtain ⟨e1, e2⟩ := sh_some2 h
          exact e2 ▸ hG1
        · rw [if_neg c7] at h
          obtain ⟨e1, e2⟩ := sh_some2 h
          exact e2 ▸ hG1
theorem t_X11_isAhead {a1 : Int32} {a2 : Int32} {a3 : Int32} {μ μ' : sh_Mem} {v : Int32} (hG : sh_G μ) (h : f_X11_isAhead a1 a2 a3 μ = some (v, μ')) : sh_C0 l B D ca 2 M_X11_isAhead [.ref 0, .int a1, .int a2, .int a3] μ (fun v0 μ0 => v0 = some (.int v) ∧ μ0 = μ') := by
  unfold f_X11_isAhead at h
  refine vv_aload_n 0 0 dX11_isAhead_0 rfl rfl ?_
  obtain ⟨y3, μ1, hr2, h⟩ := sh_bind_e h
  refine v1_callV [] 1 dX11_isAhead_1 ck_X11_248 (g_l_0 hG) ⟨by decide, rfl⟩ (t_X11_isPlain hG hr2) (Nat.le_of_ble_eq_true rfl) ⟨Nat.le_of_ble_eq_true rfl, Nat.le_of_ble_eq_true rfl⟩ rfl (Nat.le_of_ble_eq_true rfl) ?_
  have hG1 := gp_X11_isPlain hG hr2
  refine vv_if_eq 4 36 dX11_isAhead_4 (by decide) (fun c4 => ?_) (fun c4 => ?_)
  · rw [if_pos c4] at h
    refine vv_iconst 36 dX11_isAhead_36 ik_0 ?_
    obtain ⟨e1, e2⟩ := sh_some2 h
    refine vv_zret 37 dX11_isAhead_37 rfl rfl (Nat.le_refl _) (Nat.le_refl _) ⟨by rw [e1], e2⟩
  · rw [if_neg c4] at h
    refine vv_iload_n 7 1 dX11_isAhead_7 rfl rfl ?_
    refine vv_iload_n 8 2 dX11_isAhead_8 rfl rfl ?_
    refine vv_icmp_lt 9 36 dX11_isAhead_9 (by decide) (fun c5 => ?_) (fun c5 => ?_)
    · rw [if_pos c5] at h
      refine vv_iconst 36 dX11_isAhead_36 ik_0 ?_
      obtain ⟨e1, e2⟩ := sh_some2 h
      refine vv_zret 37 dX11_isAhead_37 rfl rfl (Nat.le_refl _) (Nat.le_refl _) ⟨by rw [e1], e2⟩
    · rw [if_neg c5] at h
      refine vv_iload_n 12 1 dX11_isAhead_12 rfl rfl ?_
      refine vv_iload_n 13 3 dX11_isAhead_13 rfl rfl ?_
      refine vv_icmp_gt 14 36 dX11_isAhead_14 (by decide) (fun c6 => ?_) (fun c6 => ?_)
      · rw [if_pos c6] at h
        refine vv_iconst 36 dX11_isAhead_36 ik_0 ?_
        obtain ⟨e1, e2⟩ := sh_some2 h
        refine vv_zret 37 dX11_isAhead_37 rfl rfl (Nat.le_refl _) (Nat.le_refl _) ⟨by rw [e1], e2⟩
      · rw [if_neg c6] at h
        refine vv_aload_n 17 0 dX11_isAhead_17 rfl rfl ?_
        refine vv_getR 18 dX11_isAhead_18 fl_11_60 rfl (g_l_0 hG1) (g_r_0_8 hG1) ?_
        refine vv_getI 21 dX11_isAhead_21 fl_11_186 rfl (g_l_49 hG1) ?_
        refine vv_iload_n 24 1 dX11_isAhead_24 rfl rfl ?_
        refine vv_iadd 25 dX11_isAhead_25 ?_
        refine vv_sipush 26 dX11_isAhead_26 sk_999 ?_
        refine vv_icmp_gt 29 36 dX11_isAhead_29 (by decide) (fun c7 => ?_) (fun c7 => ?_)
        · rw [if_pos c7] at h
          refine vv_iconst 36 dX11_isAhead_36 ik_0 ?_
          obtain ⟨e1, e2⟩ := sh_some2 h
          refine vv_zret 37 dX11_isAhead_37 rfl rfl (Nat.le_refl _) (Nat.le_refl _) ⟨by rw [e1], e2⟩
        · rw [if_neg c7] at h
          refine vv_iconst 32 dX11_isAhead_32 ik_1 ?_
          refine vv_goto 33 37 dX11_isAhead_33 (by decide) ?_
          obtain ⟨e1, e2⟩ := sh_some2 h
          refine vv_zret 37 dX11_isAhead_37 rfl rfl (Nat.le_refl _) (Nat.le_refl _) ⟨by rw [e1], e2⟩
noncomputable def f_X11_pond (a1 : Int32) (a2 : Int32) (μ : sh_Mem) : Option (Int32 × sh_Mem) := (if (sh_r μ 0 7 = some (sh_ref μ 0 7) ∧ ((sh_ref μ 0 7) = 8 ∨ (sh_ref μ 0 7) = 29)) then sh_let (sh_ref μ 0 7) (fun r2 => sh_let ((f_X5_cellAt μ r2 a1 a2) : Int32) (fun x3 => (if x3 = (-1) then some ((-1), μ) else (if (sh_r μ 0 7 = some (sh_ref μ 0 7) ∧ ((sh_ref μ 0 7) = 8 ∨ (sh_ref μ 0 7) = 29)) then sh_let (sh_ref μ 0 7) (fun r6 => (if (sh_r μ 0 7 = some (sh_ref μ 0 7) ∧ ((sh_ref μ 0 7) = 8 ∨ (sh_ref μ 0 7) = 29)) then sh_let (sh_ref μ 0 7) (fun r8 => sh_bind (f_X9_lowestFrom r8 49 x3 μ) (fun y11 μ9 => sh_bind (f_X5_numberOf r6 y11 μ9) (fun y14 μ12 => some (y14, μ12)))) else none)) else none)))) else none)
theorem gp_X11_pond {a1 : Int32} {a2 : Int32} {μ μ' : sh_Mem} {v : Int32} (hG : sh_G μ) (h : f_X11_pond a1 a2 μ = some (v, μ')) : sh_G μ' := by
  unfold f_X11_pond at h
  obtain ⟨k1, h⟩ := sh_chk h
  obtain ⟨r2, er2⟩ : ∃ y : Nat, y = (sh_ref μ 0 7) := ⟨_, rfl⟩
  rw [sh_let_eq er2] at h
  have k1r : sh_r μ 0 7 = some r2 ∧ (r2 = 8 ∨ r2 = 29) := by rw [er2]; exact k1
  obtain ⟨x3, ex3⟩ : ∃ y : Int32, y = (f_X5_cellAt μ r2 a1 a2) := ⟨_, rfl⟩
  rw [sh_let_eq ex3] at h
  by_cases c4 : x3 = (-1)
  · rw [if_pos c4] at h
    obtain ⟨e1, e2⟩ := sh_some2 h
    exact e2 ▸ hG
  · rw [if_neg c4] at h
    obtain ⟨k5, h⟩ := sh_chk h
    obtain ⟨r6, er6⟩ : ∃ y : Nat, y = (sh_ref μ 0 7) := ⟨_, rfl⟩
    rw [sh_let_eq er6] at h
    have k5r : sh_r μ 0 7 = some r6 ∧ (r6 = 8 ∨ r6 = 29) := by rw [er6]; exact k5
    obtain ⟨k7, h⟩ := sh_chk h
    obtain ⟨r8, er8⟩ : ∃ y : Nat, y = (sh_ref μ 0 7) := ⟨_, rfl⟩
    rw [sh_let_eq er8] at h
    have k7r : sh_r μ 0 7 = some r8 ∧ (r8 = 8 ∨ r8 = 29) := by rw [er8]; exact k7
    obtain ⟨y11, μ9, hr10, h⟩ := sh_bind_e h
    have hG9 := gp_X9_lowestFrom hG k7r.2 sh_isL_49 hr10
    obtain ⟨y14, μ12, hr13, h⟩ := sh_bind_e h
    have hG12 := gp_X5_numberOf hG9 k5r.2 hr13
    obtain ⟨e1, e2⟩ := sh_some2 h
    exact e2 ▸ hG12
theorem t_X11_pond {a1 : Int32} {a2 : Int32} {μ μ' : sh_Mem} {v : Int32} (hG : sh_G μ) (h : f_X11_pond a1 a2 μ = some (v, μ')) : sh_C0 l B D ca 4 M_X11_pond [.ref 0, .int a1, .int a2] μ (fun v0 μ0 => v0 = some (.int v) ∧ μ0 = μ') := by
  unfold f_X11_pond at h
  refine vv_aload_n 0 0 dX11_pond_0 rfl rfl ?_
  obtain ⟨k1, h⟩ := sh_chk h
  refine vv_getR 1 dX11_pond_1 fl_11_53 rfl (g_l_0 hG) k1.1 ?_
  refine vv_topr (fun r2 er2 => ?_)
  rw [sh_let_eq er2] at h
  have k1r : sh_r μ 0 7 = some r2 ∧ (r2 = 8 ∨ r2 = 29) := by rw [er2]; exact k1
  refine vv_iload_n 4 1 dX11_pond_4 rfl rfl ?_
  refine vv_iload_n 5 2 dX11_pond_5 rfl rfl ?_
  refine v1_callV [_, _] 6 dX11_pond_6 ck_X11_217 (gP_l hG k1r.2) ⟨by decide, rfl⟩ (c_X5_cellAt (μ := μ) hG k1r.2) (Nat.le_of_ble_eq_true rfl) ⟨Nat.le_of_ble_eq_true rfl, Nat.le_of_ble_eq_true rfl⟩ rfl (Nat.le_of_ble_eq_true rfl) ?_
  refine vv_topi (fun x3 ex3 => ?_)
  rw [sh_let_eq ex3] at h
  refine vv_istore_n (lv' := [(3, _), (0, _), (1, _), (2, _)]) 9 3 dX11_pond_9 rfl (by decide) rfl ?_
  refine vv_iload_n 10 3 dX11_pond_10 rfl rfl ?_
  refine vv_iconst 11 dX11_pond_11 ik_m1 ?_
  refine vv_icmp_ne 12 19 dX11_pond_12 (by decide) (fun c4 => ?_) (fun c4 => ?_)
  · rw [if_neg c4] at h
    refine vv_aload_n 19 0 dX11_pond_19 rfl rfl ?_
    obtain ⟨k5, h⟩ := sh_chk h
    refine vv_getR 20 dX11_pond_20 fl_11_53 rfl (g_l_0 hG) k5.1 ?_
    refine vv_topr (fun r6 er6 => ?_)
    rw [sh_let_eq er6] at h
    have k5r : sh_r μ 0 7 = some r6 ∧ (r6 = 8 ∨ r6 = 29) := by rw [er6]; exact k5
    refine vv_aload_n 23 0 dX11_pond_23 rfl rfl ?_
    refine vv_getR 24 dX11_pond_24 fl_11_99 rfl (g_l_0 hG) (g_r_0_13 hG) ?_
    refine vv_aload_n 27 0 dX11_pond_27 rfl rfl ?_
    obtain ⟨k7, h⟩ := sh_chk h
    refine vv_getR 28 dX11_pond_28 fl_11_53 rfl (g_l_0 hG) k7.1 ?_
    refine vv_topr (fun r8 er8 => ?_)
    rw [sh_let_eq er8] at h
    have k7r : sh_r μ 0 7 = some r8 ∧ (r8 = 8 ∨ r8 = 29) := by rw [er8]; exact k7
    refine vv_aload_n 31 0 dX11_pond_31 rfl rfl ?_
    refine vv_getR 32 dX11_pond_32 fl_11_60 rfl (g_l_0 hG) (g_r_0_8 hG) ?_
    refine vv_iload_n 35 3 dX11_pond_35 rfl rfl ?_
    obtain ⟨y11, μ9, hr10, h⟩ := sh_bind_e h
    refine v1_callV [_, _, _] 36 dX11_pond_36 ck_X11_277 (g_l_287 hG) ⟨by decide, rfl⟩ (t_X9_lowestFrom hG k7r.2 sh_isL_49 hr10) (Nat.le_of_ble_eq_true rfl) ⟨Nat.le_of_ble_eq_true rfl, Nat.le_of_ble_eq_true rfl⟩ rfl (Nat.le_of_ble_eq_true rfl) ?_
    have hG9 := gp_X9_lowestFrom hG k7r.2 sh_isL_49 hr10
    obtain ⟨y14, μ12, hr13, h⟩ := sh_bind_e h
    refine v1_callV [_] 39 dX11_pond_39 ck_X11_281 (gP_l hG9 k5r.2) ⟨by decide, rfl⟩ (t_X5_numberOf hG9 k5r.2 hr13) (Nat.le_of_ble_eq_true rfl) ⟨Nat.le_of_ble_eq_true rfl, Nat.le_of_ble_eq_true rfl⟩ rfl (Nat.le_of_ble_eq_true rfl) ?_
    have hG12 := gp_X5_numberOf hG9 k5r.2 hr13
    obtain ⟨e1, e2⟩ := sh_some2 h
    refine vv_iret 42 dX11_pond_42 rfl (Nat.le_refl _) (Nat.le_refl _) ⟨by rw [e1], e2⟩
  · rw [if_pos c4] at h
    refine vv_iconst 15 dX11_pond_15 ik_m1 ?_
    refine vv_goto 16 42 dX11_pond_16 (by decide) ?_
    obtain ⟨e1, e2⟩ := sh_some2 h
    refine vv_iret 42 dX11_pond_42 rfl (Nat.le_refl _) (Nat.le_refl _) ⟨by rw [e1], e2⟩
noncomputable def F_X11_isSeen : Nat → Nat → Int32 → Int32 → sh_Mem → Option (Int32 × sh_Mem)
  | 0, _, _, _, _ => none
  | fuel + 1, lbl, i1, i2, μ => match lbl with
    | 1 => (if i1 < (i2 + 4) then some (1, μ) else (if sh_in i2 1600 then (if 30 < (sh_i μ 1 i2.toNatClampNeg) then some (0, μ) else (if (sh_r μ 0 7 = some (sh_ref μ 0 7) ∧ ((sh_ref μ 0 7) = 8 ∨ (sh_ref μ 0 7) = 29)) then sh_let (sh_ref μ 0 7) (fun r18 => (if sh_in (i2 + 1) 1600 then (if sh_in (i2 + 2) 1600 then (if (f_X5_cellAt μ r18 (sh_i μ 1 ((i2 + 1)).toNatClampNeg) (sh_i μ 1 ((i2 + 2)).toNatClampNeg)) = (-1) then some (0, μ) else (if sh_in (i2 + 3) 1600 then (if (sh_i μ 1 ((i2 + 3)).toNatClampNeg) ≤ 99 then F_X11_isSeen fuel 1 i1 (i2 + 4) μ else some (0, μ)) else none)) else none) else none)) else none)) else none))
    | _ => none
noncomputable def f_X11_isSeen (a1 : Int32) (μ : sh_Mem) : Option (Int32 × sh_Mem) := (if a1 < 4 then some (0, μ) else (if 64 < a1 then some (0, μ) else (if (a1 - a1 / 4 * 4) = 0 then F_X11_isSeen sh_fuel 1 a1 0 μ else some (0, μ))))
theorem gpl_X11_isSeen (fuel : Nat) : (∀ ⦃i1 : Int32⦄ ⦃i2 : Int32⦄ ⦃μ μ' : sh_Mem⦄ ⦃v : Int32⦄, sh_G μ → F_X11_isSeen fuel 1 i1 i2 μ = some (v, μ') → sh_G μ') := by
  induction fuel with
  | zero => intro i1 i2 μ μ' v hG h; cases h
  | succ fuel ih =>
    have ih_21 := ih
    intro i1 i2 μ μ' v hG h
    replace h : ((if i1 < (i2 + 4) then some (1, μ) else (if sh_in i2 1600 then (if 30 < (sh_i μ 1 i2.toNatClampNeg) then some (0, μ) else (if (sh_r μ 0 7 = some (sh_ref μ 0 7) ∧ ((sh_ref μ 0 7) = 8 ∨ (sh_ref μ 0 7) = 29)) then sh_let (sh_ref μ 0 7) (fun r18 => (if sh_in (i2 + 1) 1600 then (if sh_in (i2 + 2) 1600 then (if (f_X5_cellAt μ r18 (sh_i μ 1 ((i2 + 1)).toNatClampNeg) (sh_i μ 1 ((i2 + 2)).toNatClampNeg)) = (-1) then some (0, μ) else (if sh_in (i2 + 3) 1600 then (if (sh_i μ 1 ((i2 + 3)).toNatClampNeg) ≤ 99 then F_X11_isSeen fuel 1 i1 (i2 + 4) μ else some (0, μ)) else none)) else none) else none)) else none)) else none)) : Option (Int32 × sh_Mem)) = some (v, μ') := h
    by_cases c14 : i1 < (i2 + 4)
    · rw [if_pos c14] at h
      obtain ⟨e1, e2⟩ := sh_some2 h
      exact e2 ▸ hG
    · rw [if_neg c14] at h
      obtain ⟨k15, h⟩ := sh_chk h
      by_cases c16 : 30 < (sh_i μ 1 i2.toNatClampNeg)
      · rw [if_pos c16] at h
        obtain ⟨e1, e2⟩ := sh_some2 h
        exact e2 ▸ hG
      · rw [if_neg c16] at h
        obtain ⟨k17, h⟩ := sh_chk h
        obtain ⟨r18, er18⟩ : ∃ y : Nat, y = (sh_ref μ 0 7) := ⟨_, rfl⟩
        rw [sh_let_eq er18] at h
        have k17r : sh_r μ 0 7 = some r18 ∧ (r18 = 8 ∨ r18 = 29) := by rw [er18]; exact k17
        obtain ⟨k19, h⟩ := sh_chk h
        obtain ⟨k20, h⟩ := sh_chk h
        by_cases c21 : (f_X5_cellAt μ r18 (sh_i μ 1 ((i2 + 1)).toNatClampNeg) (sh_i μ 1 ((i2 + 2)).toNatClampNeg)) = (-1)
        · rw [if_pos c21] at h
          obtain ⟨e1, e2⟩ := sh_some2 h
          exact e2 ▸ hG
        · rw [if_neg c21] at h
          obtain ⟨k22, h⟩ := sh_chk h
          by_cases c23 : (sh_i μ 1 ((i2 + 3)).toNatClampNeg) ≤ 99
          · rw [if_pos c23] at h
            exact ih_21 hG h
          · rw [if_neg c23] at h
            obtain ⟨e1, e2⟩ := sh_some2 h
            exact e2 ▸ hG
theorem tl_X11_isSeen (fuel : Nat) : (∀ ⦃i1 : Int32⦄ ⦃i2 : Int32⦄ ⦃μ μ' : sh_Mem⦄ ⦃v : Int32⦄, sh_G μ → F_X11_isSeen fuel 1 i1 i2 μ = some (v, μ') → sh_V0 l B D ca 2 M_X11_isSeen 21 [(0, .ref 0), (1, .int i1), (2, .int i2)] [] μ (fun v0 μ0 => v0 = some (.int v) ∧ μ0 = μ')) := by
  induction fuel with
  | zero => intro i1 i2 μ μ' v hG h; cases h
  | succ fuel ih =>
    have ih_21 := ih
    intro i1 i2 μ μ' v hG h
    replace h : ((if i1 < (i2 + 4) then some (1, μ) else (if sh_in i2 1600 then (if 30 < (sh_i μ 1 i2.toNatClampNeg) then some (0, μ) else (if (sh_r μ 0 7 = some (sh_ref μ 0 7) ∧ ((sh_ref μ 0 7) = 8 ∨ (sh_ref μ 0 7) = 29)) then sh_let (sh_ref μ 0 7) (fun r18 => (if sh_in (i2 + 1) 1600 then (if sh_in (i2 + 2) 1600 then (if (f_X5_cellAt μ r18 (sh_i μ 1 ((i2 + 1)).toNatClampNeg) (sh_i μ 1 ((i2 + 2)).toNatClampNeg)) = (-1) then some (0, μ) else (if sh_in (i2 + 3) 1600 then (if (sh_i μ 1 ((i2 + 3)).toNatClampNeg) ≤ 99 then F_X11_isSeen fuel 1 i1 (i2 + 4) μ else some (0, μ)) else none)) else none) else none)) else none)) else none)) : Option (Int32 × sh_Mem)) = some (v, μ') := h
    refine vv_iload_n 21 2 dX11_isSeen_21 rfl rfl ?_
    refine vv_iconst 22 dX11_isSeen_22 ik_4 ?_
    refine vv_iadd 23 dX11_isSeen_23 ?_
    refine vv_iload_n 24 1 dX11_isSeen_24 rfl rfl ?_
    refine vv_icmp_gt 25 87 dX11_isSeen_25 (by decide) (fun c14 => ?_) (fun c14 => ?_)
    · rw [if_pos c14] at h
      refine vv_iconst 87 dX11_isSeen_87 ik_1 ?_
      obtain ⟨e1, e2⟩ := sh_some2 h
      refine vv_zret 88 dX11_isSeen_88 rfl rfl (Nat.le_refl _) (Nat.le_refl _) ⟨by rw [e1], e2⟩
    · rw [if_neg c14] at h
      refine vv_aload_n 28 0 dX11_isSeen_28 rfl rfl ?_
      refine vv_getR 29 dX11_isSeen_29 fl_11_9 rfl (g_l_0 hG) (g_r_0_0 hG) ?_
      refine vv_iload_n 32 2 dX11_isSeen_32 rfl rfl ?_
      obtain ⟨k15, h⟩ := sh_chk h
      refine vv_iald 33 dX11_isSeen_33 (g_l_1 hG) k15 ?_
      refine vv_bipush 34 dX11_isSeen_34 bk_30 ?_
      refine vv_icmp_gt 36 79 dX11_isSeen_36 (by decide) (fun c16 => ?_) (fun c16 => ?_)
      · rw [if_pos c16] at h
        refine vv_iconst 79 dX11_isSeen_79 ik_0 ?_
        obtain ⟨e1, e2⟩ := sh_some2 h
        refine vv_zret 80 dX11_isSeen_80 rfl rfl (Nat.le_refl _) (Nat.le_refl _) ⟨by rw [e1], e2⟩
      · rw [if_neg c16] at h
        refine vv_aload_n 39 0 dX11_isSeen_39 rfl rfl ?_
        obtain ⟨k17, h⟩ := sh_chk h
        refine vv_getR 40 dX11_isSeen_40 fl_11_53 rfl (g_l_0 hG) k17.1 ?_
        refine vv_topr (fun r18 er18 => ?_)
        rw [sh_let_eq er18] at h
        have k17r : sh_r μ 0 7 = some r18 ∧ (r18 = 8 ∨ r18 = 29) := by rw [er18]; exact k17
        refine vv_aload_n 43 0 dX11_isSeen_43 rfl rfl ?_
        refine vv_getR 44 dX11_isSeen_44 fl_11_9 rfl (g_l_0 hG) (g_r_0_0 hG) ?_
        refine vv_iload_n 47 2 dX11_isSeen_47 rfl rfl ?_
        refine vv_iconst 48 dX11_isSeen_48 ik_1 ?_
        refine vv_iadd 49 dX11_isSeen_49 ?_
        obtain ⟨k19, h⟩ := sh_chk h
        refine vv_iald 50 dX11_isSeen_50 (g_l_1 hG) k19 ?_
        refine vv_aload_n 51 0 dX11_isSeen_51 rfl rfl ?_
        refine vv_getR 52 dX11_isSeen_52 fl_11_9 rfl (g_l_0 hG) (g_r_0_0 hG) ?_
        refine vv_iload_n 55 2 dX11_isSeen_55 rfl rfl ?_
        refine vv_iconst 56 dX11_isSeen_56 ik_2 ?_
        refine vv_iadd 57 dX11_isSeen_57 ?_
        obtain ⟨k20, h⟩ := sh_chk h
        refine vv_iald 58 dX11_isSeen_58 (g_l_1 hG) k20 ?_
        refine v1_callV [_, _] 59 dX11_isSeen_59 ck_X11_217 (gP_l hG k17r.2) ⟨by decide, rfl⟩ (c_X5_cellAt (μ := μ) hG k17r.2) (Nat.le_of_ble_eq_true rfl) ⟨Nat.le_of_ble_eq_true rfl, Nat.le_of_ble_eq_true rfl⟩ rfl (Nat.le_of_ble_eq_true rfl) ?_
        refine vv_iconst 62 dX11_isSeen_62 ik_m1 ?_
        refine vv_icmp_eq 63 79 dX11_isSeen_63 (by decide) (fun c21 => ?_) (fun c21 => ?_)
        · rw [if_pos c21] at h
          refine vv_iconst 79 dX11_isSeen_79 ik_0 ?_
          obtain ⟨e1, e2⟩ := sh_some2 h
          refine vv_zret 80 dX11_isSeen_80 rfl rfl (Nat.le_refl _) (Nat.le_refl _) ⟨by rw [e1], e2⟩
        · rw [if_neg c21] at h
          refine vv_aload_n 66 0 dX11_isSeen_66 rfl rfl ?_
          refine vv_getR 67 dX11_isSeen_67 fl_11_9 rfl (g_l_0 hG) (g_r_0_0 hG) ?_
          refine vv_iload_n 70 2 dX11_isSeen_70 rfl rfl ?_
          refine vv_iconst 71 dX11_isSeen_71 ik_3 ?_
          refine vv_iadd 72 dX11_isSeen_72 ?_
          obtain ⟨k22, h⟩ := sh_chk h
          refine vv_iald 73 dX11_isSeen_73 (g_l_1 hG) k22 ?_
          refine vv_bipush 74 dX11_isSeen_74 bk_99 ?_
          refine vv_icmp_le 76 81 dX11_isSeen_76 (by decide) (fun c23 => ?_) (fun c23 => ?_)
          · rw [if_pos c23] at h
            refine vv_iincc (lv' := [(2, _), (0, _), (1, _)]) 81 2 dX11_isSeen_81 rfl ik_4 (by decide) rfl ?_
            refine vv_goto 84 21 dX11_isSeen_84 (by decide) ?_
            refine vv_sub [(0, _), (1, _), (2, _)] (sh_subm [1, 2, 0] rfl) ?_
            exact ih_21 hG h
          · rw [if_neg c23] at h
            refine vv_iconst 79 dX11_isSeen_79 ik_0 ?_
            obtain ⟨e1, e2⟩ := sh_some2 h
            refine vv_zret 80 dX11_isSeen_80 rfl rfl (Nat.le_refl _) (Nat.le_refl _) ⟨by rw [e1], e2⟩
theorem gp_X11_isSeen {a1 : Int32} {μ μ' : sh_Mem} {v : Int32} (hG : sh_G μ) (h : f_X11_isSeen a1 μ = some (v, μ')) : sh_G μ' := by
  have ih_21 := (gpl_X11_isSeen sh_fuel)
  unfold f_X11_isSeen at h
  by_cases c24 : a1 < 4
  · rw [if_pos c24] at h
    obtain ⟨e1, e2⟩ := sh_some2 h
    exact e2 ▸ hG
  · rw [if_neg c24] at h
    by_cases c25 : 64 < a1
    · rw [if_pos c25] at h
      obtain ⟨e1, e2⟩ := sh_some2 h
      exact e2 ▸ hG
    · rw [if_neg c25] at h
      by_cases c26 : (a1 - a1 / 4 * 4) = 0
      · rw [if_pos c26] at h
        exact ih_21 hG h
      · rw [if_neg c26] at h
        obtain ⟨e1, e2⟩ := sh_some2 h
        exact e2 ▸ hG
theorem t_X11_isSeen {a1 : Int32} {μ μ' : sh_Mem} {v : Int32} (hG : sh_G μ) (h : f_X11_isSeen a1 μ = some (v, μ')) : sh_C0 l B D ca 2 M_X11_isSeen [.ref 0, .int a1] μ (fun v0 μ0 => v0 = some (.int v) ∧ μ0 = μ') := by
  have ih_21 := (tl_X11_isSeen (l := l) (B := B) (D := D) (ca := ca) sh_fuel)
  unfold f_X11_isSeen at h
  refine vv_iload_n 0 1 dX11_isSeen_0 rfl rfl ?_
  refine vv_iconst 1 dX11_isSeen_1 ik_4 ?_
  refine vv_icmp_lt 2 17 dX11_isSeen_2 (by decide) (fun c24 => ?_) (fun c24 => ?_)
  · rw [if_pos c24] at h
    refine vv_iconst 17 dX11_isSeen_17 ik_0 ?_
    obtain ⟨e1, e2⟩ := sh_some2 h
    refine vv_zret 18 dX11_isSeen_18 rfl rfl (Nat.le_refl _) (Nat.le_refl _) ⟨by rw [e1], e2⟩
  · rw [if_neg c24] at h
    refine vv_iload_n 5 1 dX11_isSeen_5 rfl rfl ?_
    refine vv_bipush 6 dX11_isSeen_6 bk_64 ?_
    refine vv_icmp_gt 8 17 dX11_isSeen_8 (by decide) (fun c25 => ?_) (fun c25 => ?_)
    · rw [if_pos c25] at h
      refine vv_iconst 17 dX11_isSeen_17 ik_0 ?_
      obtain ⟨e1, e2⟩ := sh_some2 h
      refine vv_zret 18 dX11_isSeen_18 rfl rfl (Nat.le_refl _) (Nat.le_refl _) ⟨by rw [e1], e2⟩
    · rw [if_neg c25] at h
      refine vv_iload_n 11 1 dX11_isSeen_11 rfl rfl ?_
      refine vv_iconst 12 dX11_isSeen_12 ik_4 ?_
      refine vv_irem 13 dX11_isSeen_13 (by decide) ?_
      refine vv_if_eq 14 19 dX11_isSeen_14 (by decide) (fun c26 => ?_) (fun c26 => ?_)
      · rw [if_pos c26] at h
        refine vv_iconst 19 dX11_isSeen_19 ik_0 ?_
        refine vv_istore_n (lv' := [(2, _), (0, _), (1, _)]) 20 2 dX11_isSeen_20 rfl (by decide) rfl ?_
        refine vv_sub [(0, _), (1, _), (2, _)] (sh_subm [1, 2, 0] rfl) ?_
        exact ih_21 hG h
      · rw [if_neg c26] at h
        refine vv_iconst 17 dX11_isSeen_17 ik_0 ?_
        obtain ⟨e1, e2⟩ := sh_some2 h
        refine vv_zret 18 dX11_isSeen_18 rfl rfl (Nat.le_refl _) (Nat.le_refl _) ⟨by rw [e1], e2⟩
noncomputable def f_X11_teach (a1 : Int32) (a2 : Int32) (a3 : Int32) (μ : sh_Mem) : Option (Int32 × sh_Mem) := sh_bind (f_X11_isPerson a1 μ) (fun y3 μ1 => (if y3 = 0 then sh_bind (f_X11_refuse 2 μ1) (fun y7 μ5 => (if y7 = 0 ∨ y7 = 1 then some (y7, μ5) else none)) else sh_bind (f_X11_isTopic a2 μ1) (fun y11 μ9 => (if y11 = 0 then sh_bind (f_X11_refuse 2 μ9) (fun y15 μ13 => (if y15 = 0 ∨ y15 = 1 then some (y15, μ13) else none)) else (if a3 < 0 then sh_bind (f_X11_refuse 2 μ9) (fun y20 μ18 => (if y20 = 0 ∨ y20 = 1 then some (y20, μ18) else none)) else (if 1 < a3 then sh_bind (f_X11_refuse 2 μ9) (fun y25 μ23 => (if y25 = 0 ∨ y25 = 1 then some (y25, μ23) else none)) else (if sh_in a1 7 then (if (((sh_i μ9 54 a1.toNatClampNeg) >>> (a2 &&& 31)) &&& 1) = a3 then sh_bind (f_X11_refuse 2 μ9) (fun y37 μ35 => (if y37 = 0 ∨ y37 = 1 then some (y37, μ35) else none)) else sh_bindv (f_X4_remember 49 μ9) (fun μ29 => (if sh_in a1 7 then (if sh_in a1 7 then sh_let (sh_setI μ29 54 a1.toNatClampNeg ((sh_i μ29 54 a1.toNatClampNeg) ^^^ ((1 : Int32) <<< (a2 &&& 31)))) (fun μ34 => some (1, μ34)) else none) else none))) else none)))))))
theorem gp_X11_teach {a1 : Int32} {a2 : Int32} {a3 : Int32} {μ μ' : sh_Mem} {v : Int32} (hG : sh_G μ) (h : f_X11_teach a1 a2 a3 μ = some (v, μ')) : sh_G μ' := by
  unfold f_X11_teach at h
  obtain ⟨y3, μ1, hr2, h⟩ := sh_bind_e h
  have hG1 := gp_X11_isPerson hG hr2
  by_cases c4 : y3 = 0
  · rw [if_pos c4] at h
    obtain ⟨y7, μ5, hr6, h⟩ := sh_bind_e h
    have hG5 := gp_X11_refuse hG1 hr6
    obtain ⟨k8, h⟩ := sh_chk h
    obtain ⟨e1, e2⟩ := sh_some2 h
    exact e2 ▸ hG5
  · rw [if_neg c4] at h
    obtain ⟨y11, μ9, hr10, h⟩ := sh_bind_e h
    have hG9 := gp_X11_isTopic hG1 hr10
    by_cases c12 : y11 = 0
    · rw [if_pos c12] at h
      obtain ⟨y15, μ13, hr14, h⟩ := sh_bind_e h
      have hG13 := gp_X11_refuse hG9 hr14
      obtain ⟨k16, h⟩ := sh_chk h
      obtain ⟨e1, e2⟩ := sh_some2 h
      exact e2 ▸ hG13
    · rw [if_neg c12] at h
      by_cases c17 : a3 < 0
      · rw [if_pos c17] at h
        obtain ⟨y20, μ18, hr19, h⟩ := sh_bind_e h
        have hG18 := gp_X11_refuse hG9 hr19
        obtain ⟨k21, h⟩ := sh_chk h
        obtain ⟨e1, e2⟩ := sh_some2 h
        exact e2 ▸ hG18
      · rw [if_neg c17] at h
        by_cases c22 : 1 < a3
        · rw [if_pos c22] at h
          obtain ⟨y25, μ23, hr24, h⟩ := sh_bind_e h
          have hG23 := gp_X11_refuse hG9 hr24
          obtain ⟨k26, h⟩ := sh_chk h
          obtain ⟨e1, e2⟩ := sh_some2 h
          exact e2 ▸ hG23
        · rw [if_neg c22] at h
          obtain ⟨k27, h⟩ := sh_chk h
          by_cases c28 : (((sh_i μ9 54 a1.toNatClampNeg) >>> (a2 &&& 31)) &&& 1) = a3
          · rw [if_pos c28] at h
            obtain ⟨y37, μ35, hr36, h⟩ := sh_bind_e h
            have hG35 := gp_X11_refuse hG9 hr36
            obtain ⟨k38, h⟩ := sh_chk h
            obtain ⟨e1, e2⟩ := sh_some2 h
            exact e2 ▸ hG35
          · rw [if_neg c28] at h
            obtain ⟨μ29, hr30, h⟩ := sh_bindv_e h
            have hG29 := gp_X4_remember hG9 sh_isL_49 hr30
            obtain ⟨k32, h⟩ := sh_chk h
            obtain ⟨k33, h⟩ := sh_chk h
            obtain ⟨μ34, eμ34⟩ : ∃ y : sh_Mem, y = (sh_setI μ29 54 a1.toNatClampNeg ((sh_i μ29 54 a1.toNatClampNeg) ^^^ ((1 : Int32) <<< (a2 &&& 31)))) := ⟨_, rfl⟩
            rw [sh_let_eq eμ34] at h
            have hG34 : sh_G μ34 := by rw [eμ34]; exact hG29
            obtain ⟨e1, e2⟩ := sh_some2 h
            exact e2 ▸ hG34
theorem t_X11_teach {a1 : Int32} {a2 : Int32} {a3 : Int32} {μ μ' : sh_Mem} {v : Int32} (hG : sh_G μ) (h : f_X11_teach a1 a2 a3 μ = some (v, μ')) : sh_C0 l B D ca 3 M_X11_teach [.ref 0, .int a1, .int a2, .int a3] μ (fun v0 μ0 => v0 = some (.int v) ∧ μ0 = μ') := by
  unfold f_X11_teach at h
  refine vv_aload_n 0 0 dX11_teach_0 rfl rfl ?_
  refine vv_iload_n 1 1 dX11_teach_1 rfl rfl ?_
  obtain ⟨y3, μ1, hr2, h⟩ := sh_bind_e h
  refine v1_callV [_] 2 dX11_teach_2 ck_X11_211 (g_l_0 hG) ⟨by decide, rfl⟩ (t_X11_isPerson hG hr2) (Nat.le_of_ble_eq_true rfl) ⟨Nat.le_of_ble_eq_true rfl, Nat.le_of_ble_eq_true rfl⟩ rfl (Nat.le_of_ble_eq_true rfl) ?_
  have hG1 := gp_X11_isPerson hG hr2
  refine vv_if_eq 5 42 dX11_teach_5 (by decide) (fun c4 => ?_) (fun c4 => ?_)
  · rw [if_pos c4] at h
    refine vv_aload_n 42 0 dX11_teach_42 rfl rfl ?_
    refine vv_iconst 43 dX11_teach_43 ik_2 ?_
    obtain ⟨y7, μ5, hr6, h⟩ := sh_bind_e h
    refine v1_callV [_] 44 dX11_teach_44 ck_X11_128 (g_l_0 hG1) ⟨by decide, rfl⟩ (t_X11_refuse hG1 hr6) (Nat.le_of_ble_eq_true rfl) ⟨Nat.le_of_ble_eq_true rfl, Nat.le_of_ble_eq_true rfl⟩ rfl (Nat.le_of_ble_eq_true rfl) ?_
    have hG5 := gp_X11_refuse hG1 hr6
    obtain ⟨k8, h⟩ := sh_chk h
    obtain ⟨e1, e2⟩ := sh_some2 h
    refine vv_zret 47 dX11_teach_47 rfl (sh_nb k8) (Nat.le_refl _) (Nat.le_refl _) ⟨by rw [e1], e2⟩
  · rw [if_neg c4] at h
    refine vv_aload_n 8 0 dX11_teach_8 rfl rfl ?_
    refine vv_iload_n 9 2 dX11_teach_9 rfl rfl ?_
    obtain ⟨y11, μ9, hr10, h⟩ := sh_bind_e h
    refine v1_callV [_] 10 dX11_teach_10 ck_X11_201 (g_l_0 hG1) ⟨by decide, rfl⟩ (t_X11_isTopic hG1 hr10) (Nat.le_of_ble_eq_true rfl) ⟨Nat.le_of_ble_eq_true rfl, Nat.le_of_ble_eq_true rfl⟩ rfl (Nat.le_of_ble_eq_true rfl) ?_
    have hG9 := gp_X11_isTopic hG1 hr10
    refine vv_if_eq 13 42 dX11_teach_13 (by decide) (fun c12 => ?_) (fun c12 => ?_)
    · rw [if_pos c12] at h
      refine vv_aload_n 42 0 dX11_teach_42 rfl rfl ?_
      refine vv_iconst 43 dX11_teach_43 ik_2 ?_
      obtain ⟨y15, μ13, hr14, h⟩ := sh_bind_e h
      refine v1_callV [_] 44 dX11_teach_44 ck_X11_128 (g_l_0 hG9) ⟨by decide, rfl⟩ (t_X11_refuse hG9 hr14) (Nat.le_of_ble_eq_true rfl) ⟨Nat.le_of_ble_eq_true rfl, Nat.le_of_ble_eq_true rfl⟩ rfl (Nat.le_of_ble_eq_true rfl) ?_
      have hG13 := gp_X11_refuse hG9 hr14
      obtain ⟨k16, h⟩ := sh_chk h
      obtain ⟨e1, e2⟩ := sh_some2 h
      refine vv_zret 47 dX11_teach_47 rfl (sh_nb k16) (Nat.le_refl _) (Nat.le_refl _) ⟨by rw [e1], e2⟩
    · rw [if_neg c12] at h
      refine vv_iload_n 16 3 dX11_teach_16 rfl rfl ?_
      refine vv_if_lt 17 42 dX11_teach_17 (by decide) (fun c17 => ?_) (fun c17 => ?_)
      · rw [if_pos c17] at h
        refine vv_aload_n 42 0 dX11_teach_42 rfl rfl ?_
        refine vv_iconst 43 dX11_teach_43 ik_2 ?_
        obtain ⟨y20, μ18, hr19, h⟩ := sh_bind_e h
        refine v1_callV [_] 44 dX11_teach_44 ck_X11_128 (g_l_0 hG9) ⟨by decide, rfl⟩ (t_X11_refuse hG9 hr19) (Nat.le_of_ble_eq_true rfl) ⟨Nat.le_of_ble_eq_true rfl, Nat.le_of_ble_eq_true rfl⟩ rfl (Nat.le_of_ble_eq_true rfl) ?_
        have hG18 := gp_X11_refuse hG9 hr19
        obtain ⟨k21, h⟩ := sh_chk h
        obtain ⟨e1, e2⟩ := sh_some2 h
        refine vv_zret 47 dX11_teach_47 rfl (sh_nb k21) (Nat.le_refl _) (Nat.le_refl _) ⟨by rw [e1], e2⟩
      · rw [if_neg c17] at h
        refine vv_iload_n 20 3 dX11_teach_20 rfl rfl ?_
        refine vv_iconst 21 dX11_teach_21 ik_1 ?_
        refine vv_icmp_gt 22 42 dX11_teach_22 (by decide) (fun c22 => ?_) (fun c22 => ?_)
        · rw [if_pos c22] at h
          refine vv_aload_n 42 0 dX11_teach_42 rfl rfl ?_
          refine vv_iconst 43 dX11_teach_43 ik_2 ?_
          obtain ⟨y25, μ23, hr24, h⟩ := sh_bind_e h
          refine v1_callV [_] 44 dX11_teach_44 ck_X11_128 (g_l_0 hG9) ⟨by decide, rfl⟩ (t_X11_refuse hG9 hr24) (Nat.le_of_ble_eq_true rfl) ⟨Nat.le_of_ble_eq_true rfl, Nat.le_of_ble_eq_true rfl⟩ rfl (Nat.le_of_ble_eq_true rfl) ?_
          have hG23 := gp_X11_refuse hG9 hr24
          obtain ⟨k26, h⟩ := sh_chk h
          obtain ⟨e1, e2⟩ := sh_some2 h
          refine vv_zret 47 dX11_teach_47 rfl (sh_nb k26) (Nat.le_refl _) (Nat.le_refl _) ⟨by rw [e1], e2⟩
        · rw [if_neg c22] at h
          refine vv_aload_n 25 0 dX11_teach_25 rfl rfl ?_
          refine vv_getR 26 dX11_teach_26 fl_11_60 rfl (g_l_0 hG9) (g_r_0_8 hG9) ?_
          refine vv_getR 29 dX11_teach_29 fl_11_232 rfl (g_l_49 hG9) (g_r_49_5 hG9) ?_
          refine vv_iload_n 32 1 dX11_teach_32 rfl rfl ?_
          obtain ⟨k27, h⟩ := sh_chk h
          refine vv_iald 33 dX11_teach_33 (g_l_54 hG9) k27 ?_
          refine vv_iload_n 34 2 dX11_teach_34 rfl rfl ?_
          refine vv_ishr 35 dX11_teach_35 ?_
          refine vv_iconst 36 dX11_teach_36 ik_1 ?_
          refine vv_iand 37 dX11_teach_37 ?_
          refine vv_iload_n 38 3 dX11_teach_38 rfl rfl ?_
          refine vv_icmp_ne 39 48 dX11_teach_39 (by decide) (fun c28 => ?_) (fun c28 => ?_)
          · rw [if_neg c28] at h
            refine vv_aload_n 48 0 dX11_teach_48 rfl rfl ?_
            refine vv_getR 49 dX11_teach_49 fl_11_76 rfl (g_l_0 hG9) (g_r_0_10 hG9) ?_
            refine vv_aload_n 52 0 dX11_teach_52 rfl rfl ?_
            refine vv_getR 53 dX11_teach_53 fl_11_60 rfl (g_l_0 hG9) (g_r_0_8 hG9) ?_
            obtain ⟨μ29, hr30, h⟩ := sh_bindv_e h
            refine v1_callV [_] 56 dX11_teach_56 ck_X11_325 (g_l_63 hG9) ⟨by decide, rfl⟩ (t_X4_remember hG9 sh_isL_49 hr30) (Nat.le_of_ble_eq_true rfl) ⟨Nat.le_of_ble_eq_true rfl, Nat.le_of_ble_eq_true rfl⟩ rfl (Nat.le_of_ble_eq_true rfl) ?_
            have hG29 := gp_X4_remember hG9 sh_isL_49 hr30
            refine vv_aload_n 59 0 dX11_teach_59 rfl rfl ?_
            refine vv_getR 60 dX11_teach_60 fl_11_60 rfl (g_l_0 hG29) (g_r_0_8 hG29) ?_
            refine vv_getR 63 dX11_teach_63 fl_11_232 rfl (g_l_49 hG29) (g_r_49_5 hG29) ?_
            refine vv_iload_n 66 1 dX11_teach_66 rfl rfl ?_
            refine vv_dup2_ri 67 dX11_teach_67 ?_
            obtain ⟨k32, h⟩ := sh_chk h
            refine vv_iald 68 dX11_teach_68 (g_l_54 hG29) k32 ?_
            refine vv_iconst 69 dX11_teach_69 ik_1 ?_
            refine vv_iload_n 70 2 dX11_teach_70 rfl rfl ?_
            refine vv_ishl 71 dX11_teach_71 ?_
            refine vv_ixor 72 dX11_teach_72 ?_
            obtain ⟨k33, h⟩ := sh_chk h
            refine vn_iast 73 dX11_teach_73 (g_l_54 hG29) k33 (fun μ34 eμ34 => ?_)
            rw [sh_let_eq eμ34] at h
            have hG34 : sh_G μ34 := by rw [eμ34]; exact hG29
            refine vv_iconst 74 dX11_teach_74 ik_1 ?_
            obtain ⟨e1, e2⟩ := sh_some2 h
            refine vv_zret 75 dX11_teach_75 rfl rfl (Nat.le_refl _) (Nat.le_refl _) ⟨by rw [e1], e2⟩
          · rw [if_pos c28] at h
            refine vv_aload_n 42 0 dX11_teach_42 rfl rfl ?_
            refine vv_iconst 43 dX11_teach_43 ik_2 ?_
            obtain ⟨y37, μ35, hr36, h⟩ := sh_bind_e h
            refine v1_callV [_] 44 dX11_teach_44 ck_X11_128 (g_l_0 hG9) ⟨by decide, rfl⟩ (t_X11_refuse hG9 hr36) (Nat.le_of_ble_eq_true rfl) ⟨Nat.le_of_ble_eq_true rfl, Nat.le_of_ble_eq_true rfl⟩ rfl (Nat.le_of_ble_eq_true rfl) ?_
            have hG35 := gp_X11_refuse hG9 hr36
            obtain ⟨k38, h⟩ := sh_chk h
            obtain ⟨e1, e2⟩ := sh_some2 h
            refine vv_zret 47 dX11_teach_47 rfl (sh_nb k38) (Nat.le_refl _) (Nat.le_refl _) ⟨by rw [e1], e2⟩
noncomputable def f_X11_go (a1 : Int32) (a2 : Int32) (a3 : Int32) (μ : sh_Mem) : Option (Int32 × sh_Mem) := sh_bind (f_X11_isPerson a1 μ) (fun y3 μ1 => (if y3 = 0 then sh_bind (f_X11_refuse 2 μ1) (fun y7 μ5 => (if y7 = 0 ∨ y7 = 1 then some (y7, μ5) else none)) else (if (sh_r μ1 0 7 = some (sh_ref μ1 0 7) ∧ ((sh_ref μ1 0 7) = 8 ∨ (sh_ref μ1 0 7) = 29)) then sh_let (sh_ref μ1 0 7) (fun r10 => (if (f_X5_cellAt μ1 r10 a2 a3) = (-1) then sh_bind (f_X11_refuse 2 μ1) (fun y14 μ12 => (if y14 = 0 ∨ y14 = 1 then some (y14, μ12) else none)) else (if (sh_r μ1 0 7 = some (sh_ref μ1 0 7) ∧ ((sh_ref μ1 0 7) = 8 ∨ (sh_ref μ1 0 7) = 29)) then sh_let (sh_ref μ1 0 7) (fun r17 => sh_bind (f_X3_isSomeoneAt 49 a2 a3 (sh_i μ1 r17 3) μ1) (fun y20 μ18 => (if y20 = 0 then sh_bindv (f_X4_remember 49 μ18) (fun μ22 => (if sh_in a1 7 then sh_let (sh_setI μ22 51 a1.toNatClampNeg a2) (fun μ26 => (if sh_in a1 7 then sh_let (sh_setI μ26 52 a1.toNatClampNeg a3) (fun μ28 => some (1, μ28)) else none)) else none)) else sh_bind (f_X11_refuse 2 μ18) (fun y31 μ29 => (if y31 = 0 ∨ y31 = 1 then some (y31, μ29) else none))))) else none))) else none)))
theorem gp_X11_go {a1 : Int32} {a2 : Int32} {a3 : Int32} {μ μ' : sh_Mem} {v : Int32} (hG : sh_G μ) (h : f_X11_go a1 a2 a3 μ = some (v, μ')) : sh_G μ' := by
  unfold f_X11_go at h
  obtain ⟨y3, μ1, hr2, h⟩ := sh_bind_e h
  have hG1 := gp_X11_isPerson hG hr2
  by_cases c4 : y3 = 0
  · rw [if_pos c4] at h
    obtain ⟨y7, μ5, hr6, h⟩ := sh_bind_e h
    have hG5 := gp_X11_refuse hG1 hr6
    obtain ⟨k8, h⟩ := sh_chk h
    obtain ⟨e1, e2⟩ := sh_some2 h
    exact e2 ▸ hG5
  · rw [if_neg c4] at h
    obtain ⟨k9, h⟩ := sh_chk h
    obtain ⟨r10, er10⟩ : ∃ y : Nat, y = (sh_ref μ1 0 7) := ⟨_, rfl⟩
    rw [sh_let_eq er10] at h
    have k9r : sh_r μ1 0 7 = some r10 ∧ (r10 = 8 ∨ r10 = 29) := by rw [er10]; exact k9
    by_cases c11 : (f_X5_cellAt μ1 r10 a2 a3) = (-1)
    · rw [if_pos c11] at h
      obtain ⟨y14, μ12, hr13, h⟩ := sh_bind_e h
      have hG12 := gp_X11_refuse hG1 hr13
      obtain ⟨k15, h⟩ := sh_chk h
      obtain ⟨e1, e2⟩ := sh_some2 h
      exact e2 ▸ hG12
    · rw [if_neg c11] at h
      obtain ⟨k16, h⟩ := sh_chk h
      obtain ⟨r17, er17⟩ : ∃ y : Nat, y = (sh_ref μ1 0 7) := ⟨_, rfl⟩
      rw [sh_let_eq er17] at h
      have k16r : sh_r μ1 0 7 = some r17 ∧ (r17 = 8 ∨ r17 = 29) := by rw [er17]; exact k16
      obtain ⟨y20, μ18, hr19, h⟩ := sh_bind_e h
      have hG18 := gp_X3_isSomeoneAt hG1 sh_isL_49 hr19
      by_cases c21 : y20 = 0
      · rw [if_pos c21] at h
        obtain ⟨μ22, hr23, h⟩ := sh_bindv_e h
        have hG22 := gp_X4_remember hG18 sh_isL_49 hr23
        obtain ⟨k25, h⟩ := sh_chk h
        obtain ⟨μ26, eμ26⟩ : ∃ y : sh_Mem, y = (sh_setI μ22 51 a1.toNatClampNeg a2) := ⟨_, rfl⟩
        rw [sh_let_eq eμ26] at h
        have hG26 : sh_G μ26 := by rw [eμ26]; exact hG22
        obtain ⟨k27, h⟩ := sh_chk h
        obtain ⟨μ28, eμ28⟩ : ∃ y : sh_Mem, y = (sh_setI μ26 52 a1.toNatClampNeg a3) := ⟨_, rfl⟩
        rw [sh_let_eq eμ28] at h
        have hG28 : sh_G μ28 := by rw [eμ28]; exact hG26
        obtain ⟨e1, e2⟩ := sh_some2 h
        exact e2 ▸ hG28
      · rw [if_neg c21] at h
        obtain ⟨y31, μ29, hr30, h⟩ := sh_bind_e h
        have hG29 := gp_X11_refuse hG18 hr30
        obtain ⟨k32, h⟩ := sh_chk h
        obtain ⟨e1, e2⟩ := sh_some2 h
        exact e2 ▸ hG29
theorem t_X11_go {a1 : Int32} {a2 : Int32} {a3 : Int32} {μ μ' : sh_Mem} {v : Int32} (hG : sh_G μ) (h : f_X11_go a1 a2 a3 μ = some (v, μ')) : sh_C0 l B D ca 3 M_X11_go [.ref 0, .int a1, .int a2, .int a3] μ (fun v0 μ0 => v0 = some (.int v) ∧ μ0 = μ') := by
  unfold f_X11_go at h
  refine vv_aload_n 0 0 dX11_go_0 rfl rfl ?_
  refine vv_iload_n 1 1 dX11_go_1 rfl rfl ?_
  obtain ⟨y3, μ1, hr2, h⟩ := sh_bind_e h
  refine v1_callV [_] 2 dX11_go_2 ck_X11_211 (g_l_0 hG) ⟨by decide, rfl⟩ (t_X11_isPerson hG hr2) (Nat.le_of_ble_eq_true rfl) ⟨Nat.le_of_ble_eq_true rfl, Nat.le_of_ble_eq_true rfl⟩ rfl (Nat.le_of_ble_eq_true rfl) ?_
  have hG1 := gp_X11_isPerson hG hr2
  refine vv_if_eq 5 40 dX11_go_5 (by decide) (fun c4 => ?_) (fun c4 => ?_)
  · rw [if_pos c4] at h
    refine vv_aload_n 40 0 dX11_go_40 rfl rfl ?_
    refine vv_iconst 41 dX11_go_41 ik_2 ?_
    obtain ⟨y7, μ5, hr6, h⟩ := sh_bind_e h
    refine v1_callV [_] 42 dX11_go_42 ck_X11_128 (g_l_0 hG1) ⟨by decide, rfl⟩ (t_X11_refuse hG1 hr6) (Nat.le_of_ble_eq_true rfl) ⟨Nat.le_of_ble_eq_true rfl, Nat.le_of_ble_eq_true rfl⟩ rfl (Nat.le_of_ble_eq_true rfl) ?_
    have hG5 := gp_X11_refuse hG1 hr6
    obtain ⟨k8, h⟩ := sh_chk h
    obtain ⟨e1, e2⟩ := sh_some2 h
    refine vv_zret 45 dX11_go_45 rfl (sh_nb k8) (Nat.le_refl _) (Nat.le_refl _) ⟨by rw [e1], e2⟩
  · rw [if_neg c4] at h
    refine vv_aload_n 8 0 dX11_go_8 rfl rfl ?_
    obtain ⟨k9, h⟩ := sh_chk h
    refine vv_getR 9 dX11_go_9 fl_11_53 rfl (g_l_0 hG1) k9.1 ?_
    refine vv_topr (fun r10 er10 => ?_)
    rw [sh_let_eq er10] at h
    have k9r : sh_r μ1 0 7 = some r10 ∧ (r10 = 8 ∨ r10 = 29) := by rw [er10]; exact k9
    refine vv_iload_n 12 2 dX11_go_12 rfl rfl ?_
    refine vv_iload_n 13 3 dX11_go_13 rfl rfl ?_
    refine v1_callV [_, _] 14 dX11_go_14 ck_X11_217 (gP_l hG1 k9r.2) ⟨by decide, rfl⟩ (c_X5_cellAt (μ := μ1) hG1 k9r.2) (Nat.le_of_ble_eq_true rfl) ⟨Nat.le_of_ble_eq_true rfl, Nat.le_of_ble_eq_true rfl⟩ rfl (Nat.le_of_ble_eq_true rfl) ?_
    refine vv_iconst 17 dX11_go_17 ik_m1 ?_
    refine vv_icmp_eq 18 40 dX11_go_18 (by decide) (fun c11 => ?_) (fun c11 => ?_)
    · rw [if_pos c11] at h
      refine vv_aload_n 40 0 dX11_go_40 rfl rfl ?_
      refine vv_iconst 41 dX11_go_41 ik_2 ?_
      obtain ⟨y14, μ12, hr13, h⟩ := sh_bind_e h
      refine v1_callV [_] 42 dX11_go_42 ck_X11_128 (g_l_0 hG1) ⟨by decide, rfl⟩ (t_X11_refuse hG1 hr13) (Nat.le_of_ble_eq_true rfl) ⟨Nat.le_of_ble_eq_true rfl, Nat.le_of_ble_eq_true rfl⟩ rfl (Nat.le_of_ble_eq_true rfl) ?_
      have hG12 := gp_X11_refuse hG1 hr13
      obtain ⟨k15, h⟩ := sh_chk h
      obtain ⟨e1, e2⟩ := sh_some2 h
      refine vv_zret 45 dX11_go_45 rfl (sh_nb k15) (Nat.le_refl _) (Nat.le_refl _) ⟨by rw [e1], e2⟩
    · rw [if_neg c11] at h
      refine vv_aload_n 21 0 dX11_go_21 rfl rfl ?_
      refine vv_getR 22 dX11_go_22 fl_11_60 rfl (g_l_0 hG1) (g_r_0_8 hG1) ?_
      refine vv_iload_n 25 2 dX11_go_25 rfl rfl ?_
      refine vv_iload_n 26 3 dX11_go_26 rfl rfl ?_
      refine vv_aload_n 27 0 dX11_go_27 rfl rfl ?_
      obtain ⟨k16, h⟩ := sh_chk h
      refine vv_getR 28 dX11_go_28 fl_11_53 rfl (g_l_0 hG1) k16.1 ?_
      refine vv_topr (fun r17 er17 => ?_)
      rw [sh_let_eq er17] at h
      have k16r : sh_r μ1 0 7 = some r17 ∧ (r17 = 8 ∨ r17 = 29) := by rw [er17]; exact k16
      refine vv_getI 31 dX11_go_31 fl_11_180 rfl (gP_l hG1 k16r.2) ?_
      obtain ⟨y20, μ18, hr19, h⟩ := sh_bind_e h
      refine v1_callV [_, _, _] 34 dX11_go_34 ck_X11_341 (g_l_49 hG1) ⟨by decide, rfl⟩ (t_X3_isSomeoneAt hG1 sh_isL_49 hr19) (Nat.le_of_ble_eq_true rfl) ⟨Nat.le_of_ble_eq_true rfl, Nat.le_of_ble_eq_true rfl⟩ rfl (Nat.le_of_ble_eq_true rfl) ?_
      have hG18 := gp_X3_isSomeoneAt hG1 sh_isL_49 hr19
      refine vv_if_eq 37 46 dX11_go_37 (by decide) (fun c21 => ?_) (fun c21 => ?_)
      · rw [if_pos c21] at h
        refine vv_aload_n 46 0 dX11_go_46 rfl rfl ?_
        refine vv_getR 47 dX11_go_47 fl_11_76 rfl (g_l_0 hG18) (g_r_0_10 hG18) ?_
        refine vv_aload_n 50 0 dX11_go_50 rfl rfl ?_
        refine vv_getR 51 dX11_go_51 fl_11_60 rfl (g_l_0 hG18) (g_r_0_8 hG18) ?_
        obtain ⟨μ22, hr23, h⟩ := sh_bindv_e h
        refine v1_callV [_] 54 dX11_go_54 ck_X11_325 (g_l_63 hG18) ⟨by decide, rfl⟩ (t_X4_remember hG18 sh_isL_49 hr23) (Nat.le_of_ble_eq_true rfl) ⟨Nat.le_of_ble_eq_true rfl, Nat.le_of_ble_eq_true rfl⟩ rfl (Nat.le_of_ble_eq_true rfl) ?_
        have hG22 := gp_X4_remember hG18 sh_isL_49 hr23
        refine vv_aload_n 57 0 dX11_go_57 rfl rfl ?_
        refine vv_getR 58 dX11_go_58 fl_11_60 rfl (g_l_0 hG22) (g_r_0_8 hG22) ?_
        refine vv_getR 61 dX11_go_61 fl_11_223 rfl (g_l_49 hG22) (g_r_49_2 hG22) ?_
        refine vv_iload_n 64 1 dX11_go_64 rfl rfl ?_
        refine vv_iload_n 65 2 dX11_go_65 rfl rfl ?_
        obtain ⟨k25, h⟩ := sh_chk h
        refine vn_iast 66 dX11_go_66 (g_l_51 hG22) k25 (fun μ26 eμ26 => ?_)
        rw [sh_let_eq eμ26] at h
        have hG26 : sh_G μ26 := by rw [eμ26]; exact hG22
        refine vv_aload_n 67 0 dX11_go_67 rfl rfl ?_
        refine vv_getR 68 dX11_go_68 fl_11_60 rfl (g_l_0 hG26) (g_r_0_8 hG26) ?_
        refine vv_getR 71 dX11_go_71 fl_11_226 rfl (g_l_49 hG26) (g_r_49_3 hG26) ?_
        refine vv_iload_n 74 1 dX11_go_74 rfl rfl ?_
        refine vv_iload_n 75 3 dX11_go_75 rfl rfl ?_
        obtain ⟨k27, h⟩ := sh_chk h
        refine vn_iast 76 dX11_go_76 (g_l_52 hG26) k27 (fun μ28 eμ28 => ?_)
        rw [sh_let_eq eμ28] at h
        have hG28 : sh_G μ28 := by rw [eμ28]; exact hG26
        refine vv_iconst 77 dX11_go_77 ik_1 ?_
        obtain ⟨e1, e2⟩ := sh_some2 h
        refine vv_zret 78 dX11_go_78 rfl rfl (Nat.le_refl _) (Nat.le_refl _) ⟨by rw [e1], e2⟩
      · rw [if_neg c21] at h
        refine vv_aload_n 40 0 dX11_go_40 rfl rfl ?_
        refine vv_iconst 41 dX11_go_41 ik_2 ?_
        obtain ⟨y31, μ29, hr30, h⟩ := sh_bind_e h
        refine v1_callV [_] 42 dX11_go_42 ck_X11_128 (g_l_0 hG18) ⟨by decide, rfl⟩ (t_X11_refuse hG18 hr30) (Nat.le_of_ble_eq_true rfl) ⟨Nat.le_of_ble_eq_true rfl, Nat.le_of_ble_eq_true rfl⟩ rfl (Nat.le_of_ble_eq_true rfl) ?_
        have hG29 := gp_X11_refuse hG18 hr30
        obtain ⟨k32, h⟩ := sh_chk h
        obtain ⟨e1, e2⟩ := sh_some2 h
        refine vv_zret 45 dX11_go_45 rfl (sh_nb k32) (Nat.le_refl _) (Nat.le_refl _) ⟨by rw [e1], e2⟩
noncomputable def f_X11_ease (a1 : Int32) (μ : sh_Mem) : Option (Int32 × sh_Mem) := sh_bind (f_X11_isPerson a1 μ) (fun y3 μ1 => (if y3 = 0 then sh_bind (f_X11_refuse 2 μ1) (fun y7 μ5 => (if y7 = 0 ∨ y7 = 1 then some (y7, μ5) else none)) else (if sh_in a1 7 then (if (sh_i μ1 53 a1.toNatClampNeg) = 0 then sh_bind (f_X11_refuse 2 μ1) (fun y18 μ16 => (if y18 = 0 ∨ y18 = 1 then some (y18, μ16) else none)) else sh_bindv (f_X4_remember 49 μ1) (fun μ11 => (if sh_in a1 7 then sh_let (sh_setI μ11 53 a1.toNatClampNeg 0) (fun μ15 => some (1, μ15)) else none))) else none)))
theorem gp_X11_ease {a1 : Int32} {μ μ' : sh_Mem} {v : Int32} (hG : sh_G μ) (h : f_X11_ease a1 μ = some (v, μ')) : sh_G μ' := by
  unfold f_X11_ease at h
  obtain ⟨y3, μ1, hr2, h⟩ := sh_bind_e h
  have hG1 := gp_X11_isPerson hG hr2
  by_cases c4 : y3 = 0
  · rw [if_pos c4] at h
    obtain ⟨y7, μ5, hr6, h⟩ := sh_bind_e h
    have hG5 := gp_X11_refuse hG1 hr6
    obtain ⟨k8, h⟩ := sh_chk h
    obtain ⟨e1, e2⟩ := sh_some2 h
    exact e2 ▸ hG5
  · rw [if_neg c4] at h
    obtain ⟨k9, h⟩ := sh_chk h
    by_cases c10 : (sh_i μ1 53 a1.toNatClampNeg) = 0
    · rw [if_pos c10] at h
      obtain ⟨y18, μ16, hr17, h⟩ := sh_bind_e h
      have hG16 := gp_X11_refuse hG1 hr17
      obtain ⟨k19, h⟩ := sh_chk h
      obtain ⟨e1, e2⟩ := sh_some2 h
      exact e2 ▸ hG16
    · rw [if_neg c10] at h
      obtain ⟨μ11, hr12, h⟩ := sh_bindv_e h
      have hG11 := gp_X4_remember hG1 sh_isL_49 hr12
      obtain ⟨k14, h⟩ := sh_chk h
      obtain ⟨μ15, eμ15⟩ : ∃ y : sh_Mem, y = (sh_setI μ11 53 a1.toNatClampNeg 0) := ⟨_, rfl⟩
      rw [sh_let_eq eμ15] at h
      have hG15 : sh_G μ15 := by rw [eμ15]; exact hG11
      obtain ⟨e1, e2⟩ := sh_some2 h
      exact e2 ▸ hG15
theorem t_X11_ease {a1 : Int32} {μ μ' : sh_Mem} {v : Int32} (hG : sh_G μ) (h : f_X11_ease a1 μ = some (v, μ')) : sh_C0 l B D ca 3 M_X11_ease [.ref 0, .int a1] μ (fun v0 μ0 => v0 = some (.int v) ∧ μ0 = μ') := by
  unfold f_X11_ease at h
  refine vv_aload_n 0 0 dX11_ease_0 rfl rfl ?_
  refine vv_iload_n 1 1 dX11_ease_1 rfl rfl ?_
  obtain ⟨y3, μ1, hr2, h⟩ := sh_bind_e h
  refine v1_callV [_] 2 dX11_ease_2 ck_X11_211 (g_l_0 hG) ⟨by decide, rfl⟩ (t_X11_isPerson hG hr2) (Nat.le_of_ble_eq_true rfl) ⟨Nat.le_of_ble_eq_true rfl, Nat.le_of_ble_eq_true rfl⟩ rfl (Nat.le_of_ble_eq_true rfl) ?_
  have hG1 := gp_X11_isPerson hG hr2
  refine vv_if_eq 5 20 dX11_ease_5 (by decide) (fun c4 => ?_) (fun c4 => ?_)
  · rw [if_pos c4] at h
    refine vv_aload_n 20 0 dX11_ease_20 rfl rfl ?_
    refine vv_iconst 21 dX11_ease_21 ik_2 ?_
    obtain ⟨y7, μ5, hr6, h⟩ := sh_bind_e h
    refine v1_callV [_] 22 dX11_ease_22 ck_X11_128 (g_l_0 hG1) ⟨by decide, rfl⟩ (t_X11_refuse hG1 hr6) (Nat.le_of_ble_eq_true rfl) ⟨Nat.le_of_ble_eq_true rfl, Nat.le_of_ble_eq_true rfl⟩ rfl (Nat.le_of_ble_eq_true rfl) ?_
    have hG5 := gp_X11_refuse hG1 hr6
    obtain ⟨k8, h⟩ := sh_chk h
    obtain ⟨e1, e2⟩ := sh_some2 h
    refine vv_zret 25 dX11_ease_25 rfl (sh_nb k8) (Nat.le_refl _) (Nat.le_refl _) ⟨by rw [e1], e2⟩
  · rw [if_neg c4] at h
    refine vv_aload_n 8 0 dX11_ease_8 rfl rfl ?_
    refine vv_getR 9 dX11_ease_9 fl_11_60 rfl (g_l_0 hG1) (g_r_0_8 hG1) ?_
    refine vv_getR 12 dX11_ease_12 fl_11_229 rfl (g_l_49 hG1) (g_r_49_4 hG1) ?_
    refine vv_iload_n 15 1 dX11_ease_15 rfl rfl ?_
    obtain ⟨k9, h⟩ := sh_chk h
    refine vv_iald 16 dX11_ease_16 (g_l_53 hG1) k9 ?_
    refine vv_if_ne 17 26 dX11_ease_17 (by decide) (fun c10 => ?_) (fun c10 => ?_)
    · rw [if_neg c10] at h
      refine vv_aload_n 26 0 dX11_ease_26 rfl rfl ?_
      refine vv_getR 27 dX11_ease_27 fl_11_76 rfl (g_l_0 hG1) (g_r_0_10 hG1) ?_
      refine vv_aload_n 30 0 dX11_ease_30 rfl rfl ?_
      refine vv_getR 31 dX11_ease_31 fl_11_60 rfl (g_l_0 hG1) (g_r_0_8 hG1) ?_
      obtain ⟨μ11, hr12, h⟩ := sh_bindv_e h
      refine v1_callV [_] 34 dX11_ease_34 ck_X11_325 (g_l_63 hG1) ⟨by decide, rfl⟩ (t_X4_remember hG1 sh_isL_49 hr12) (Nat.le_of_ble_eq_true rfl) ⟨Nat.le_of_ble_eq_true rfl, Nat.le_of_ble_eq_true rfl⟩ rfl (Nat.le_of_ble_eq_true rfl) ?_
      have hG11 := gp_X4_remember hG1 sh_isL_49 hr12
      refine vv_aload_n 37 0 dX11_ease_37 rfl rfl ?_
      refine vv_getR 38 dX11_ease_38 fl_11_60 rfl (g_l_0 hG11) (g_r_0_8 hG11) ?_
      refine vv_getR 41 dX11_ease_41 fl_11_229 rfl (g_l_49 hG11) (g_r_49_4 hG11) ?_
      refine vv_iload_n 44 1 dX11_ease_44 rfl rfl ?_
      refine vv_iconst 45 dX11_ease_45 ik_0 ?_
      obtain ⟨k14, h⟩ := sh_chk h
      refine vn_iast 46 dX11_ease_46 (g_l_53 hG11) k14 (fun μ15 eμ15 => ?_)
      rw [sh_let_eq eμ15] at h
      have hG15 : sh_G μ15 := by rw [eμ15]; exact hG11
      refine vv_iconst 47 dX11_ease_47 ik_1 ?_
      obtain ⟨e1, e2⟩ := sh_some2 h
      refine vv_zret 48 dX11_ease_48 rfl rfl (Nat.le_refl _) (Nat.le_refl _) ⟨by rw [e1], e2⟩
    · rw [if_pos c10] at h
      refine vv_aload_n 20 0 dX11_ease_20 rfl rfl ?_
      refine vv_iconst 21 dX11_ease_21 ik_2 ?_
      obtain ⟨y18, μ16, hr17, h⟩ := sh_bind_e h
      refine v1_callV [_] 22 dX11_ease_22 ck_X11_128 (g_l_0 hG1) ⟨by decide, rfl⟩ (t_X11_refuse hG1 hr17) (Nat.le_of_ble_eq_true rfl) ⟨Nat.le_of_ble_eq_true rfl, Nat.le_of_ble_eq_true rfl⟩ rfl (Nat.le_of_ble_eq_true rfl) ?_
      have hG16 := gp_X11_refuse hG1 hr17
      obtain ⟨k19, h⟩ := sh_chk h
      obtain ⟨e1, e2⟩ := sh_some2 h
      refine vv_zret 25 dX11_ease_25 rfl (sh_nb k19) (Nat.le_refl _) (Nat.le_refl _) ⟨by rw [e1], e2⟩
noncomputable def f_X11_draw (a1 : Int32) (μ : sh_Mem) : Option (Int32 × sh_Mem) := sh_let (sh_setL μ 0 16 (((1103515245 * (sh_l μ 0 16)) + 12345) &&& 2147483647)) (fun μ1 => (if a1 ≤ 0 then some (0, μ1) else (if ¬ (a1).toInt64 = 0 then some (((((sh_l μ1 0 16) / 64) - ((sh_l μ1 0 16) / 64) / (a1).toInt64 * (a1).toInt64)).toInt32, μ1) else none)))
theorem gp_X11_draw {a1 : Int32} {μ μ' : sh_Mem} {v : Int32} (hG : sh_G μ) (h : f_X11_draw a1 μ = some (v, μ')) : sh_G μ' := by
  unfold f_X11_draw at h
  obtain ⟨μ1, eμ1⟩ : ∃ y : sh_Mem, y = (sh_setL μ 0 16 (((1103515245 * (sh_l μ 0 16)) + 12345) &&& 2147483647)) := ⟨_, rfl⟩
  rw [sh_let_eq eμ1] at h
  have hG1 : sh_G μ1 := by rw [eμ1]; exact hG
  by_cases c2 : a1 ≤ 0
  · rw [if_pos c2] at h
    obtain ⟨e1, e2⟩ := sh_some2 h
    exact e2 ▸ hG1
  · rw [if_neg c2] at h
    obtain ⟨k3, h⟩ := sh_chk h
    obtain ⟨e1, e2⟩ := sh_some2 h
    exact e2 ▸ hG1
theorem t_X11_draw {a1 : Int32} {μ μ' : sh_Mem} {v : Int32} (hG : sh_G μ) (h : f_X11_draw a1 μ = some (v, μ')) : sh_C0 l B D ca 1 M_X11_draw [.ref 0, .int a1] μ (fun v0 μ0 => v0 = some (.int v) ∧ μ0 = μ') := by
  unfold f_X11_draw at h
  refine vv_aload_n 0 0 dX11_draw_0 rfl rfl ?_
  refine vv_ldc2 1 dX11_draw_1 kl_11_359 ?_
  refine vv_aload_n 4 0 dX11_draw_4 rfl rfl ?_
  refine vv_getL 5 dX11_draw_5 fl_11_107 rfl (g_l_0 hG) ?_
  refine vv_lmul 8 dX11_draw_8 ?_
  refine vv_ldc2 9 dX11_draw_9 kl_11_361 ?_
  refine vv_ladd 12 dX11_draw_12 ?_
  refine vv_ldc2 13 dX11_draw_13 kl_11_363 ?_
  refine vv_land 16 dX11_draw_16 ?_
  refine vn_putL 17 dX11_draw_17 fl_11_107 (Or.inl rfl) rfl (g_l_0 hG) (fun μ1 eμ1 => ?_)
  rw [sh_let_eq eμ1] at h
  have hG1 : sh_G μ1 := by rw [eμ1]; exact hG
  refine vv_iload_n 20 1 dX11_draw_20 rfl rfl ?_
  refine vv_if_le 21 39 dX11_draw_21 (by decide) (fun c2 => ?_) (fun c2 => ?_)
  · rw [if_pos c2] at h
    refine vv_iconst 39 dX11_draw_39 ik_0 ?_
    obtain ⟨e1, e2⟩ := sh_some2 h
    refine vv_iret 40 dX11_draw_40 rfl (Nat.le_refl _) (Nat.le_refl _) ⟨by rw [e1], e2⟩
  · rw [if_neg c2] at h
    refine vv_aload_n 24 0 dX11_draw_24 rfl rfl ?_
    refine vv_getL 25 dX11_draw_25 fl_11_107 rfl (g_l_0 hG1) ?_
    refine vv_ldc2 28 dX11_draw_28 kl_11_365 ?_
    refine vv_ldiv 31 dX11_draw_31 (by decide) ?_
    refine vv_iload_n 32 1 dX11_draw_32 rfl rfl ?_
    refine vv_i2l 33 dX11_draw_33 ?_
    obtain ⟨k3, h⟩ := sh_chk h
    refine vv_lrem 34 dX11_draw_34 k3 ?_
    refine vv_l2i 35 dX11_draw_35 ?_
    refine vv_goto 36 40 dX11_draw_36 (by decide) ?_
    obtain ⟨e1, e2⟩ := sh_some2 h
    refine vv_iret 40 dX11_draw_40 rfl (Nat.le_refl _) (Nat.le_refl _) ⟨by rw [e1], e2⟩
noncomputable def f_X11_undo (μ : sh_Mem) : Option (Int32 × sh_Mem) := sh_bind (f_X4_goBack 49 μ) (fun y3 μ1 => (if y3 = 0 then sh_bind (f_X11_refuse 4 μ1) (fun y7 μ5 => (if y7 = 0 then some (0, μ5) else some (1, μ5))) else some (1, μ1)))
theorem gp_X11_undo {μ μ' : sh_Mem} {v : Int32} (hG : sh_G μ) (h : f_X11_undo μ = some (v, μ')) : sh_G μ' := by
  unfold f_X11_undo at h
  obtain ⟨y3, μ1, hr2, h⟩ := sh_bind_e h
  have hG1 := gp_X4_goBack hG sh_isL_49 hr2
  by_cases c4 : y3 = 0
  · rw [if_pos c4] at h
    obtain ⟨y7, μ5, hr6, h⟩ := sh_bind_e h
    have hG5 := gp_X11_refuse hG1 hr6
    by_cases c8 : y7 = 0
    · rw [if_pos c8] at h
      obtain ⟨e1, e2⟩ := sh_some2 h
      exact e2 ▸ hG5
    · rw [if_neg c8] at h
      obtain ⟨e1, e2⟩ := sh_some2 h
      exact e2 ▸ hG5
  · rw [if_neg c4] at h
    obtain ⟨e1, e2⟩ := sh_some2 h
    exact e2 ▸ hG1
theorem t_X11_undo {μ μ' : sh_Mem} {v : Int32} (hG : sh_G μ) (h : f_X11_undo μ = some (v, μ')) : sh_C0 l B D ca 3 M_X11_undo [.ref 0] μ (fun v0 μ0 => v0 = some (.int v) ∧ μ0 = μ') := by
  unfold f_X11_undo at h
  refine vv_aload_n 0 0 dX11_undo_0 rfl rfl ?_
  refine vv_getR 1 dX11_undo_1 fl_11_76 rfl (g_l_0 hG) (g_r_0_10 hG) ?_
  refine vv_aload_n 4 0 dX11_undo_4 rfl rfl ?_
  refine vv_getR 5 dX11_undo_5 fl_11_60 rfl (g_l_0 hG) (g_r_0_8 hG) ?_
  obtain ⟨y3, μ1, hr2, h⟩ := sh_bind_e h
  refine v1_callV [_] 8 dX11_undo_8 ck_X11_367 (g_l_63 hG) ⟨by decide, rfl⟩ (t_X4_goBack hG sh_isL_49 hr2) (Nat.le_of_ble_eq_true rfl) ⟨Nat.le_of_ble_eq_true rfl, Nat.le_of_ble_eq_true rfl⟩ rfl (Nat.le_of_ble_eq_true rfl) ?_
  have hG1 := gp_X4_goBack hG sh_isL_49 hr2
  refine vv_if_ne 11 22 dX11_undo_11 (by decide) (fun c4 => ?_) (fun c4 => ?_)
  · rw [if_neg c4] at h
    refine vv_iconst 22 dX11_undo_22 ik_1 ?_
    refine vv_goto 23 27 dX11_undo_23 (by decide) ?_
    obtain ⟨e1, e2⟩ := sh_some2 h
    refine vv_zret 27 dX11_undo_27 rfl rfl (Nat.le_refl _) (Nat.le_refl _) ⟨by rw [e1], e2⟩
  · rw [if_pos c4] at h
    refine vv_aload_n 14 0 dX11_undo_14 rfl rfl ?_
    refine vv_iconst 15 dX11_undo_15 ik_4 ?_
    obtain ⟨y7, μ5, hr6, h⟩ := sh_bind_e h
    refine v1_callV [_] 16 dX11_undo_16 ck_X11_128 (g_l_0 hG1) ⟨by decide, rfl⟩ (t_X11_refuse hG1 hr6) (Nat.le_of_ble_eq_true rfl) ⟨Nat.le_of_ble_eq_true rfl, Nat.le_of_ble_eq_true rfl⟩ rfl (Nat.le_of_ble_eq_true rfl) ?_
    have hG5 := gp_X11_refuse hG1 hr6
    refine vv_if_eq 19 26 dX11_undo_19 (by decide) (fun c8 => ?_) (fun c8 => ?_)
    · rw [if_pos c8] at h
      refine vv_iconst 26 dX11_undo_26 ik_0 ?_
      obtain ⟨e1, e2⟩ := sh_some2 h
      refine vv_zret 27 dX11_undo_27 rfl rfl (Nat.le_refl _) (Nat.le_refl _) ⟨by rw [e1], e2⟩
    · rw [if_neg c8] at h
      refine vv_iconst 22 dX11_undo_22 ik_1 ?_
      refine vv_goto 23 27 dX11_undo_23 (by decide) ?_
      obtain ⟨e1, e2⟩ := sh_some2 h
      refine vv_zret 27 dX11_undo_27 rfl rfl (Nat.le_refl _) (Nat.le_refl _) ⟨by rw [e1], e2⟩
noncomputable def f_X11_seed (a1 : Int32) (μ : sh_Mem) : Option (Int32 × sh_Mem) := (if 0 ≤ a1 then sh_let (sh_setL μ 0 16 (a1).toInt64) (fun μ2 => some (1, μ2)) else sh_bind (f_X11_refuse 5 μ) (fun y5 μ3 => (if y5 = 0 ∨ y5 = 1 then some (y5, μ3) else none)))
theorem gp_X11_seed {a1 : Int32} {μ μ' : sh_Mem} {v : Int32} (hG : sh_G μ) (h : f_X11_seed a1 μ = some (v, μ')) : sh_G μ' := by
  unfold f_X11_seed at h
  by_cases c1 : 0 ≤ a1
  · rw [if_pos c1] at h
    obtain ⟨μ2, eμ2⟩ : ∃ y : sh_Mem, y = (sh_setL μ 0 16 (a1).toInt64) := ⟨_, rfl⟩
    rw [sh_let_eq eμ2] at h
    have hG2 : sh_G μ2 := by rw [eμ2]; exact hG
    obtain ⟨e1, e2⟩ := sh_some2 h
    exact e2 ▸ hG2
  · rw [if_neg c1] at h
    obtain ⟨y5, μ3, hr4, h⟩ := sh_bind_e h
    have hG3 := gp_X11_refuse hG hr4
    obtain ⟨k6, h⟩ := sh_chk h
    obtain ⟨e1, e2⟩ := sh_some2 h
    exact e2 ▸ hG3
theorem t_X11_seed {a1 : Int32} {μ μ' : sh_Mem} {v : Int32} (hG : sh_G μ) (h : f_X11_seed a1 μ = some (v, μ')) : sh_C0 l B D ca 2 M_X11_seed [.ref 0, .int a1] μ (fun v0 μ0 => v0 = some (.int v) ∧ μ0 = μ') := by
  unfold f_X11_seed at h
  refine vv_iload_n 0 1 dX11_seed_0 rfl rfl ?_
  refine vv_if_ge 1 10 dX11_seed_1 (by decide) (fun c1 => ?_) (fun c1 => ?_)
  · rw [if_pos c1] at h
    refine vv_aload_n 10 0 dX11_seed_10 rfl rfl ?_
    refine vv_iload_n 11 1 dX11_seed_11 rfl rfl ?_
    refine vv_i2l 12 dX11_seed_12 ?_
    refine vn_putL 13 dX11_seed_13 fl_11_107 (Or.inl rfl) rfl (g_l_0 hG) (fun μ2 eμ2 => ?_)
    rw [sh_let_eq eμ2] at h
    have hG2 : sh_G μ2 := by rw [eμ2]; exact hG
    refine vv_iconst 16 dX11_seed_16 ik_1 ?_
    obtain ⟨e1, e2⟩ := sh_some2 h
    refine vv_zret 17 dX11_seed_17 rfl rfl (Nat.le_refl _) (Nat.le_refl _) ⟨by rw [e1], e2⟩
  · rw [if_neg c1] at h
    refine vv_aload_n 4 0 dX11_seed_4 rfl rfl ?_
    refine vv_iconst 5 dX11_seed_5 ik_5 ?_
    obtain ⟨y5, μ3, hr4, h⟩ := sh_bind_e h
    refine v1_callV [_] 6 dX11_seed_6 ck_X11_128 (g_l_0 hG) ⟨by decide, rfl⟩ (t_X11_refuse hG hr4) (Nat.le_of_ble_eq_true rfl) ⟨Nat.le_of_ble_eq_true rfl, Nat.le_of_ble_eq_true rfl⟩ rfl (Nat.le_of_ble_eq_true rfl) ?_
    have hG3 := gp_X11_refuse hG hr4
    obtain ⟨k6, h⟩ := sh_chk h
    obtain ⟨e1, e2⟩ := sh_some2 h
    refine vv_zret 9 dX11_seed_9 rfl (sh_nb k6) (Nat.le_refl _) (Nat.le_refl _) ⟨by rw [e1], e2⟩
noncomputable def f_X11_joined (a1 : Int32) (a2 : Int64) (a3 : Int32) (a4 : Int64) (μ : sh_Mem) : Option (Int64 × sh_Mem) := (if a1 = 27 then (if (lg_cmp a2 (-1)) = 0 then (if (lg_cmp a4 0) = 0 then some (a2, μ) else some ((a3).toInt64, μ)) else some (a2, μ)) else (if a1 = 28 then (if (lg_cmp a4 0) = 0 then some (a2, μ) else some ((a3).toInt64, μ)) else (if a1 = 29 then (if (lg_cmp a4 0) = 0 then some (a2, μ) else some ((a2 + 1), μ)) else (if a1 = 30 then some ((a2 + a4), μ) else (if a1 = 31 then (if a3 = 0 then some (a4, μ) else (if (lg_cmp a4 a2) ≤ 0 then some (a2, μ) else some (a4, μ))) else (if a3 = 0 then some (a4, μ) else (if 0 ≤ (lg_cmp a4 a2) then some (a2, μ) else some (a4, μ))))))))
theorem gp_X11_joined {a1 : Int32} {a2 : Int64} {a3 : Int32} {a4 : Int64} {μ μ' : sh_Mem} {v : Int64} (hG : sh_G μ) (h : f_X11_joined a1 a2 a3 a4 μ = some (v, μ')) : sh_G μ' := by
  unfold f_X11_joined at h
  by_cases c1 : a1 = 27
  · rw [if_pos c1] at h
    by_cases c2 : (lg_cmp a2 (-1)) = 0
    · rw [if_pos c2] at h
      by_cases c3 : (lg_cmp a4 0) = 0
      · rw [if_pos c3] at h
        obtain ⟨e1, e2⟩ := sh_some2 h
        exact e2 ▸ hG
      · rw [if_neg c3] at h
        obtain ⟨e1, e2⟩ := sh_some2 h
        exact e2 ▸ hG
    · rw [if_neg c2] at h
      obtain ⟨e1, e2⟩ := sh_some2 h
      exact e2 ▸ hG
  rw [if_neg c1] at h
  by_cases c4 : a1 = 28
  · rw [if_pos c4] at h
    by_cases c5 : (lg_cmp a4 0) = 0
    · rw [if_pos c5] at h
      obtain ⟨e1, e2⟩ := sh_some2 h
      exact e2 ▸ hG
    · rw [if_neg c5] at h
      obtain ⟨e1, e2⟩ := sh_some2 h
      exact e2 ▸ hG
  rw [if_neg c4] at h
  by_cases c6 : a1 = 29
  · rw [if_pos c6] at h
    by_cases c7 : (lg_cmp a4 0) = 0
    · rw [if_pos c7] at h
      obtain ⟨e1, e2⟩ := sh_some2 h
      exact e2 ▸ hG
    · rw [if_neg c7] at h
      obtain ⟨e1, e2⟩ := sh_some2 h
      exact e2 ▸ hG
  rw [if_neg c6] at h
  by_cases c8 : a1 = 30
  · rw [if_pos c8] at h
    obtain ⟨e1, e2⟩ := sh_some2 h
    exact e2 ▸ hG
  rw [if_neg c8] at h
  by_cases c9 : a1 = 31
  · rw [if_pos c9] at h
    by_cases c10 : a3 = 0
    · rw [if_pos c10] at h
      obtain ⟨e1, e2⟩ := sh_some2 h
      exact e2 ▸ hG
    · rw [if_neg c10] at h
      by_cases c11 : (lg_cmp a4 a2) ≤ 0
      · rw [if_pos c11] at h
        obtain ⟨e1, e2⟩ := sh_some2 h
        exact e2 ▸ hG
      · rw [if_neg c11] at h
        obtain ⟨e1, e2⟩ := sh_some2 h
        exact e2 ▸ hG
  rw [if_neg c9] at h
  by_cases c12 : a3 = 0
  · rw [if_pos c12] at h
    obtain ⟨e1, e2⟩ := sh_some2 h
    exact e2 ▸ hG
  · rw [if_neg c12] at h
    by_cases c13 : 0 ≤ (lg_cmp a4 a2)
    · rw [if_pos c13] at h
      obtain ⟨e1, e2⟩ := sh_some2 h
      exact e2 ▸ hG
    · rw [if_neg c13] at h
      obtain ⟨e1, e2⟩ := sh_some2 h
      exact e2 ▸ hG
theorem t_X11_joined {a1 : Int32} {a2 : Int64} {a3 : Int32} {a4 : Int64} {μ μ' : sh_Mem} {v : Int64} (hG : sh_G μ) (h : f_X11_joined a1 a2 a3 a4 μ = some (v, μ')) : sh_C0 l B D ca 1 M_X11_joined [.int a1, .long a2, .int a3, .long a4] μ (fun v0 μ0 => v0 = some (.long v) ∧ μ0 = μ') := by
  unfold f_X11_joined at h
  refine vv_iload_n 0 0 dX11_joined_0 rfl rfl ?_
  by_cases c1 : a1 = 27
  · rw [if_pos c1] at h
    refine vv_tabIn 1 36 dX11_joined_1 (by rw [c1]; decide) (by rw [c1]; decide) (off := 35) (by rw [c1]; decide) (by decide) ?_
    refine vv_lload_n 36 1 dX11_joined_36 rfl rfl ?_
    refine vv_ldc2 37 dX11_joined_37 kl_11_384 ?_
    refine vv_lcmp 40 dX11_joined_40 ?_
    refine vv_if_ne 41 56 dX11_joined_41 (by decide) (fun c2 => ?_) (fun c2 => ?_)
    · rw [if_neg c2] at h
      refine vv_lload_n 56 1 dX11_joined_56 rfl rfl ?_
      obtain ⟨e1, e2⟩ := sh_some2 h
      refine vv_lret 57 dX11_joined_57 rfl (Nat.le_refl _) (Nat.le_refl _) ⟨by rw [e1], e2⟩
    · rw [if_pos c2] at h
      refine vv_lload 44 4 dX11_joined_44 rfl ?_
      refine vv_lconst 46 dX11_joined_46 lk_0 ?_
      refine vv_lcmp 47 dX11_joined_47 ?_
      refine vv_if_eq 48 56 dX11_joined_48 (by decide) (fun c3 => ?_) (fun c3 => ?_)
      · rw [if_pos c3] at h
        refine vv_lload_n 56 1 dX11_joined_56 rfl rfl ?_
        obtain ⟨e1, e2⟩ := sh_some2 h
        refine vv_lret 57 dX11_joined_57 rfl (Nat.le_refl _) (Nat.le_refl _) ⟨by rw [e1], e2⟩
      · rw [if_neg c3] at h
        refine vv_iload_n 51 3 dX11_joined_51 rfl rfl ?_
        refine vv_i2l 52 dX11_joined_52 ?_
        refine vv_goto 53 57 dX11_joined_53 (by decide) ?_
        obtain ⟨e1, e2⟩ := sh_some2 h
        refine vv_lret 57 dX11_joined_57 rfl (Nat.le_refl _) (Nat.le_refl _) ⟨by rw [e1], e2⟩
  rw [if_neg c1] at h
  by_cases c4 : a1 = 28
  · rw [if_pos c4] at h
    refine vv_tabIn 1 58 dX11_joined_1 (by rw [c4]; decide) (by rw [c4]; decide) (off := 57) (by rw [c4]; decide) (by decide) ?_
    refine vv_lload 58 4 dX11_joined_58 rfl ?_
    refine vv_lconst 60 dX11_joined_60 lk_0 ?_
    refine vv_lcmp 61 dX11_joined_61 ?_
    refine vv_if_eq 62 70 dX11_joined_62 (by decide) (fun c5 => ?_) (fun c5 => ?_)
    · rw [if_pos c5] at h
      refine vv_lload_n 70 1 dX11_joined_70 rfl rfl ?_
      obtain ⟨e1, e2⟩ := sh_some2 h
      refine vv_lret 71 dX11_joined_71 rfl (Nat.le_refl _) (Nat.le_refl _) ⟨by rw [e1], e2⟩
    · rw [if_neg c5] at h
      refine vv_iload_n 65 3 dX11_joined_65 rfl rfl ?_
      refine vv_i2l 66 dX11_joined_66 ?_
      refine vv_goto 67 71 dX11_joined_67 (by decide) ?_
      obtain ⟨e1, e2⟩ := sh_some2 h
      refine vv_lret 71 dX11_joined_71 rfl (Nat.le_refl _) (Nat.le_refl _) ⟨by rw [e1], e2⟩
  rw [if_neg c4] at h
  by_cases c6 : a1 = 29
  · rw [if_pos c6] at h
    refine vv_tabIn 1 72 dX11_joined_1 (by rw [c6]; decide) (by rw [c6]; decide) (off := 71) (by rw [c6]; decide) (by decide) ?_
    refine vv_lload 72 4 dX11_joined_72 rfl ?_
    refine vv_lconst 74 dX11_joined_74 lk_0 ?_
    refine vv_lcmp 75 dX11_joined_75 ?_
    refine vv_if_eq 76 85 dX11_joined_76 (by decide) (fun c7 => ?_) (fun c7 => ?_)
    · rw [if_pos c7] at h
      refine vv_lload_n 85 1 dX11_joined_85 rfl rfl ?_
      obtain ⟨e1, e2⟩ := sh_some2 h
      refine vv_lret 86 dX11_joined_86 rfl (Nat.le_refl _) (Nat.le_refl _) ⟨by rw [e1], e2⟩
    · rw [if_neg c7] at h
      refine vv_lload_n 79 1 dX11_joined_79 rfl rfl ?_
      refine vv_lconst 80 dX11_joined_80 lk_1 ?_
      refine vv_ladd 81 dX11_joined_81 ?_
      refine vv_goto 82 86 dX11_joined_82 (by decide) ?_
      obtain ⟨e1, e2⟩ := sh_some2 h
      refine vv_lret 86 dX11_joined_86 rfl (Nat.le_refl _) (Nat.le_refl _) ⟨by rw [e1], e2⟩
  rw [if_neg c6] at h
  by_cases c8 : a1 = 30
  · rw [if_pos c8] at h
    refine vv_tabIn 1 87 dX11_joined_1 (by rw [c8]; decide) (by rw [c8]; decide) (off := 86) (by rw [c8]; decide) (by decide) ?_
    refine vv_lload_n 87 1 dX11_joined_87 rfl rfl ?_
    refine vv_lload 88 4 dX11_joined_88 rfl ?_
    refine vv_ladd 90 dX11_joined_90 ?_
    obtain ⟨e1, e2⟩ := sh_some2 h
    refine vv_lret 91 dX11_joined_91 rfl (Nat.le_refl _) (Nat.le_refl _) ⟨by rw [e1], e2⟩
  rw [if_neg c8] at h
  by_cases c9 : a1 = 31
  · rw [if_pos c9] at h
    refine vv_tabIn 1 92 dX11_joined_1 (by rw [c9]; decide) (by rw [c9]; decide) (off := 91) (by rw [c9]; decide) (by decide) ?_
    refine vv_iload_n 92 3 dX11_joined_92 rfl rfl ?_
    refine vv_if_eq 93 103 dX11_joined_93 (by decide) (fun c10 => ?_) (fun c10 => ?_)
    · rw [if_pos c10] at h
      refine vv_lload 103 4 dX11_joined_103 rfl ?_
      refine vv_goto 105 109 dX11_joined_105 (by decide) ?_
      obtain ⟨e1, e2⟩ := sh_some2 h
      refine vv_lret 109 dX11_joined_109 rfl (Nat.le_refl _) (Nat.le_refl _) ⟨by rw [e1], e2⟩
    · rw [if_neg c10] at h
      refine vv_lload 96 4 dX11_joined_96 rfl ?_
      refine vv_lload_n 98 1 dX11_joined_98 rfl rfl ?_
      refine vv_lcmp 99 dX11_joined_99 ?_
      refine vv_if_le 100 108 dX11_joined_100 (by decide) (fun c11 => ?_) (fun c11 => ?_)
      · rw [if_pos c11] at h
        refine vv_lload_n 108 1 dX11_joined_108 rfl rfl ?_
        obtain ⟨e1, e2⟩ := sh_some2 h
        refine vv_lret 109 dX11_joined_109 rfl (Nat.le_refl _) (Nat.le_refl _) ⟨by rw [e1], e2⟩
      · rw [if_neg c11] at h
        refine vv_lload 103 4 dX11_joined_103 rfl ?_
        refine vv_goto 105 109 dX11_joined_105 (by decide) ?_
        obtain ⟨e1, e2⟩ := sh_some2 h
        refine vv_lret 109 dX11_joined_109 rfl (Nat.le_refl _) (Nat.le_refl _) ⟨by rw [e1], e2⟩
  rw [if_neg c9] at h
  refine vv_tabOut 1 110 dX11_joined_1 (sh_tout 27 31 (by intro j h1 h2; rcases (show j = 27 ∨ j = 28 ∨ j = 29 ∨ j = 30 ∨ j = 31 by omega) with rfl | rfl | rfl | rfl | rfl <;> first | exact sh_lne c1 (by decide) | exact sh_lne c4 (by decide) | exact sh_lne c6 (by decide) | exact sh_lne c8 (by decide) | exact sh_lne c9 (by decide))) (by decide) ?_
  refine vv_iload_n 110 3 dX11_joined_110 rfl rfl ?_
  refine vv_if_eq 111 121 dX11_joined_111 (by decide) (fun c12 => ?_) (fun c12 => ?_)
  · rw [if_pos c12] at h
    refine vv_lload 121 4 dX11_joined_121 rfl ?_
    refine vv_goto 123 127 dX11_joined_123 (by decide) ?_
    obtain ⟨e1, e2⟩ := sh_some2 h
    refine vv_lret 127 dX11_joined_127 rfl (Nat.le_refl _) (Nat.le_refl _) ⟨by rw [e1], e2⟩
  · rw [if_neg c12] at h
    refine vv_lload 114 4 dX11_joined_114 rfl ?_
    refine vv_lload_n 116 1 dX11_joined_116 rfl rfl ?_
    refine vv_lcmp 117 dX11_joined_117 ?_
    refine vv_if_ge 118 126 dX11_joined_118 (by decide) (fun c13 => ?_) (fun c13 => ?_)
    · rw [if_pos c13] at h
      refine vv_lload_n 126 1 dX11_joined_126 rfl rfl ?_
      obtain ⟨e1, e2⟩ := sh_some2 h
      refine vv_lret 127 dX11_joined_127 rfl (Nat.le_refl _) (Nat.le_refl _) ⟨by rw [e1], e2⟩
    · rw [if_neg c13] at h
      refine vv_lload 121 4 dX11_joined_121 rfl ?_
      refine vv_goto 123 127 dX11_joined_123 (by decide) ?_
      obtain ⟨e1, e2⟩ := sh_some2 h
      refine vv_lret 127 dX11_joined_127 rfl (Nat.le_refl _) (Nat.le_refl _) ⟨by rw [e1], e2⟩
noncomputable def F_X11_checkOf : Nat → Nat → Nat → Nat → Int32 → Int32 → Int32 → sh_Mem → Option (Int32 × sh_Mem)
  | 0, _, _, _, _, _, _, _ => none
  | fuel + 1, lbl, n, r0, i1, i2, i3, μ => match lbl with
    | 1 => (if i1 ≤ i3 then some (i2, μ) else (if (Int32.ofNat n) ≤ i3 then some (i2, μ) else (if sh_in i3 n then sh_let ((((3 * i2) + (sh_i μ r0 i3.toNatClampNeg)) - ((3 * i2) + (sh_i μ r0 i3.toNatClampNeg)) / 251 * 251) : Int32) (fun x8 => F_X11_checkOf fuel 1 n r0 i1 x8 (i3 + 1) μ) else none)))
    | _ => none
noncomputable def f_X11_checkOf (g : Nat) (n : Nat) (a2 : Int32) (μ : sh_Mem) : Option (Int32 × sh_Mem) := F_X11_checkOf sh_fuel 1 n g a2 227 0 μ
theorem gpl_X11_checkOf (fuel : Nat) : (∀ ⦃n : Nat⦄ ⦃r0 : Nat⦄ ⦃i1 : Int32⦄ ⦃i2 : Int32⦄ ⦃i3 : Int32⦄ ⦃μ μ' : sh_Mem⦄ ⦃v : Int32⦄, sh_G μ → sh_LAY[r0]? = some (13, n) → F_X11_checkOf fuel 1 n r0 i1 i2 i3 μ = some (v, μ') → sh_G μ') := by
  induction fuel with
  | zero => intro n r0 i1 i2 i3 μ μ' v hG hr0 h; cases h
  | succ fuel ih =>
    have ih_6 := ih
    intro n r0 i1 i2 i3 μ μ' v hG hr0 h
    replace h : ((if i1 ≤ i3 then some (i2, μ) else (if (Int32.ofNat n) ≤ i3 then some (i2, μ) else (if sh_in i3 n then sh_let ((((3 * i2) + (sh_i μ r0 i3.toNatClampNeg)) - ((3 * i2) + (sh_i μ r0 i3.toNatClampNeg)) / 251 * 251) : Int32) (fun x8 => F_X11_checkOf fuel 1 n r0 i1 x8 (i3 + 1) μ) else none))) : Option (Int32 × sh_Mem)) = some (v, μ') := h
    by_cases c5 : i1 ≤ i3
    · rw [if_pos c5] at h
      obtain ⟨e1, e2⟩ := sh_some2 h
      exact e2 ▸ hG
    · rw [if_neg c5] at h
      by_cases c6 : (Int32.ofNat n) ≤ i3
      · rw [if_pos c6] at h
        obtain ⟨e1, e2⟩ := sh_some2 h
        exact e2 ▸ hG
      · rw [if_neg c6] at h
        obtain ⟨k7, h⟩ := sh_chk h
        obtain ⟨x8, ex8⟩ : ∃ y : Int32, y = (((3 * i2) + (sh_i μ r0 i3.toNatClampNeg)) - ((3 * i2) + (sh_i μ r0 i3.toNatClampNeg)) / 251 * 251) := ⟨_, rfl⟩
        rw [sh_let_eq ex8] at h
        exact ih_6 hG hr0 h
theorem tl_X11_checkOf (fuel : Nat) : (∀ ⦃n : Nat⦄ ⦃r0 : Nat⦄ ⦃i1 : Int32⦄ ⦃i2 : Int32⦄ ⦃i3 : Int32⦄ ⦃μ μ' : sh_Mem⦄ ⦃v : Int32⦄, sh_G μ → sh_LAY[r0]? = some (13, n) → F_X11_checkOf fuel 1 n r0 i1 i2 i3 μ = some (v, μ') → sh_V0 l B D ca 1 M_X11_checkOf 6 [(0, .ref r0), (1, .int i1), (2, .int i2), (3, .int i3)] [] μ (fun v0 μ0 => v0 = some (.int v) ∧ μ0 = μ')) := by
  induction fuel with
  | zero => intro n r0 i1 i2 i3 μ μ' v hG hr0 h; cases h
  | succ fuel ih =>
    have ih_6 := ih
    intro n r0 i1 i2 i3 μ μ' v hG hr0 h
    replace h : ((if i1 ≤ i3 then some (i2, μ) else (if (Int32.ofNat n) ≤ i3 then some (i2, μ) else (if sh_in i3 n then sh_let ((((3 * i2) + (sh_i μ r0 i3.toNatClampNeg)) - ((3 * i2) + (sh_i μ r0 i3.toNatClampNeg)) / 251 * 251) : Int32) (fun x8 => F_X11_checkOf fuel 1 n r0 i1 x8 (i3 + 1) μ) else none))) : Option (Int32 × sh_Mem)) = some (v, μ') := h
    refine vv_iload_n 6 3 dX11_checkOf_6 rfl rfl ?_
    refine vv_iload_n 7 1 dX11_checkOf_7 rfl rfl ?_
    refine vv_icmp_ge 8 35 dX11_checkOf_8 (by decide) (fun c5 => ?_) (fun c5 => ?_)
    · rw [if_pos c5] at h
      refine vv_iload_n 35 2 dX11_checkOf_35 rfl rfl ?_
      obtain ⟨e1, e2⟩ := sh_some2 h
      refine vv_iret 36 dX11_checkOf_36 rfl (Nat.le_refl _) (Nat.le_refl _) ⟨by rw [e1], e2⟩
    · rw [if_neg c5] at h
      refine vv_iload_n 11 3 dX11_checkOf_11 rfl rfl ?_
      refine vv_aload_n 12 0 dX11_checkOf_12 rfl rfl ?_
      refine vv_alen 13 dX11_checkOf_13 (gA_l hG hr0) (by decide) ?_
      refine vv_icmp_ge 14 35 dX11_checkOf_14 (by decide) (fun c6 => ?_) (fun c6 => ?_)
      · rw [if_pos c6] at h
        refine vv_iload_n 35 2 dX11_checkOf_35 rfl rfl ?_
        obtain ⟨e1, e2⟩ := sh_some2 h
        refine vv_iret 36 dX11_checkOf_36 rfl (Nat.le_refl _) (Nat.le_refl _) ⟨by rw [e1], e2⟩
      · rw [if_neg c6] at h
        refine vv_iconst 17 dX11_checkOf_17 ik_3 ?_
        refine vv_iload_n 18 2 dX11_checkOf_18 rfl rfl ?_
        refine vv_imul 19 dX11_checkOf_19 ?_
        refine vv_aload_n 20 0 dX11_checkOf_20 rfl rfl ?_
        refine vv_iload_n 21 3 dX11_checkOf_21 rfl rfl ?_
        obtain ⟨k7, h⟩ := sh_chk h
        refine vv_iald 22 dX11_checkOf_22 (gA_l hG hr0) k7 ?_
        refine vv_iadd 23 dX11_checkOf_23 ?_
        refine vv_sipush 24 dX11_checkOf_24 sk_251 ?_
        refine vv_irem 27 dX11_checkOf_27 (by decide) ?_
        refine vv_topi (fun x8 ex8 => ?_)
        rw [sh_let_eq ex8] at h
        refine vv_istore_n (lv' := [(2, _), (0, _), (1, _), (3, _)]) 28 2 dX11_checkOf_28 rfl (by decide) rfl ?_
        refine vv_iincc (lv' := [(3, _), (2, _), (0, _), (1, _)]) 29 3 dX11_checkOf_29 rfl ik_1 (by decide) rfl ?_
        refine vv_goto 32 6 dX11_checkOf_32 (by decide) ?_
        refine vv_sub [(0, _), (1, _), (2, _), (3, _)] (sh_subm [2, 3, 1, 0] rfl) ?_
        exact ih_6 hG hr0 h
theorem gp_X11_checkOf {g : Nat} {n : Nat} {a2 : Int32} {μ μ' : sh_Mem} {v : Int32} (hG : sh_G μ) (hg : sh_LAY[g]? = some (13, n)) (h : f_X11_checkOf g n a2 μ = some (v, μ')) : sh_G μ' := by
  have ih_6 := (gpl_X11_checkOf sh_fuel)
  unfold f_X11_checkOf at h
  exact ih_6 hG hg h
theorem t_X11_checkOf {g : Nat} {n : Nat} {a2 : Int32} {μ μ' : sh_Mem} {v : Int32} (hG : sh_G μ) (hg : sh_LAY[g]? = some (13, n)) (h : f_X11_checkOf g n a2 μ = some (v, μ')) : sh_C0 l B D ca 1 M_X11_checkOf [.ref g, .int a2] μ (fun v0 μ0 => v0 = some (.int v) ∧ μ0 = μ') := by
  have ih_6 := (tl_X11_checkOf (l := l) (B := B) (D := D) (ca := ca) sh_fuel)
  unfold f_X11_checkOf at h
  refine vv_sipush 0 dX11_checkOf_0 sk_227 ?_
  refine vv_istore_n (lv' := [(2, _), (0, _), (1, _)]) 3 2 dX11_checkOf_3 rfl (by decide) rfl ?_
  refine vv_iconst 4 dX11_checkOf_4 ik_0 ?_
  refine vv_istore_n (lv' := [(3, _), (2, _), (0, _), (1, _)]) 5 3 dX11_checkOf_5 rfl (by decide) rfl ?_
  refine vv_sub [(0, _), (1, _), (2, _), (3, _)] (sh_subm [2, 3, 1, 0] rfl) ?_
  exact ih_6 hG hg h
noncomputable def f_X11_octet (a1 : Int32) (μ : sh_Mem) : Option (Int32 × sh_Mem) := (if a1 < 0 then some ((-1), μ) else (if a1 < (sh_i μ 0 18) then (if sh_in a1 80 then some ((sh_i μ 289 a1.toNatClampNeg), μ) else none) else some ((-1), μ)))
theorem gp_X11_octet {a1 : Int32} {μ μ' : sh_Mem} {v : Int32} (hG : sh_G μ) (h : f_X11_octet a1 μ = some (v, μ')) : sh_G μ' := by
  unfold f_X11_octet at h
  by_cases c1 : a1 < 0
  · rw [if_pos c1] at h
    obtain ⟨e1, e2⟩ := sh_some2 h
    exact e2 ▸ hG
  · rw [if_neg c1] at h
    by_cases c2 : a1 < (sh_i μ 0 18)
    · rw [if_pos c2] at h
      obtain ⟨k3, h⟩ := sh_chk h
      obtain ⟨e1, e2⟩ := sh_some2 h
      exact e2 ▸ hG
    · rw [if_neg c2] at h
      obtain ⟨e1, e2⟩ := sh_some2 h
      exact e2 ▸ hG
theorem t_X11_octet {a1 : Int32} {μ μ' : sh_Mem} {v : Int32} (hG : sh_G μ) (h : f_X11_octet a1 μ = some (v, μ')) : sh_C0 l B D ca 1 M_X11_octet [.ref 0, .int a1] μ (fun v0 μ0 => v0 = some (.int v) ∧ μ0 = μ') := by
  unfold f_X11_octet at h
  refine vv_iload_n 0 1 dX11_octet_0 rfl rfl ?_
  refine vv_if_lt 1 12 dX11_octet_1 (by decide) (fun c1 => ?_) (fun c1 => ?_)
  · rw [if_pos c1] at h
    refine vv_iconst 12 dX11_octet_12 ik_m1 ?_
    refine vv_goto 13 22 dX11_octet_13 (by decide) ?_
    obtain ⟨e1, e2⟩ := sh_some2 h
    refine vv_iret 22 dX11_octet_22 rfl (Nat.le_refl _) (Nat.le_refl _) ⟨by rw [e1], e2⟩
  · rw [if_neg c1] at h
    refine vv_iload_n 4 1 dX11_octet_4 rfl rfl ?_
    refine vv_aload_n 5 0 dX11_octet_5 rfl rfl ?_
    refine vv_getI 6 dX11_octet_6 fl_11_402 rfl (g_l_0 hG) ?_
    refine vv_icmp_lt 9 16 dX11_octet_9 (by decide) (fun c2 => ?_) (fun c2 => ?_)
    · rw [if_pos c2] at h
      refine vv_aload_n 16 0 dX11_octet_16 rfl rfl ?_
      refine vv_getR 17 dX11_octet_17 fl_11_111 rfl (g_l_0 hG) (g_r_0_17 hG) ?_
      refine vv_iload_n 20 1 dX11_octet_20 rfl rfl ?_
      obtain ⟨k3, h⟩ := sh_chk h
      refine vv_iald 21 dX11_octet_21 (g_l_289 hG) k3 ?_
      obtain ⟨e1, e2⟩ := sh_some2 h
      refine vv_iret 22 dX11_octet_22 rfl (Nat.le_refl _) (Nat.le_refl _) ⟨by rw [e1], e2⟩
    · rw [if_neg c2] at h
      refine vv_iconst 12 dX11_octet_12 ik_m1 ?_
      refine vv_goto 13 22 dX11_octet_13 (by decide) ?_
      obtain ⟨e1, e2⟩ := sh_some2 h
      refine vv_iret 22 dX11_octet_22 rfl (Nat.le_refl _) (Nat.le_refl _) ⟨by rw [e1], e2⟩
noncomputable def F_X11_isPersonTold : Nat → Nat → Int32 → Int32 → Int32 → sh_Mem → Option (Int32 × sh_Mem)
  | 0, _, _, _, _, _ => none
  | fuel + 1, lbl, i1, i2, i3, μ => match lbl with
    | 1 => (if i2 ≤ i3 then some (1, μ) else (if sh_in i3 1600 then (if sh_in i2 1600 then (if (sh_i μ 1 i3.toNatClampNeg) = (sh_i μ 1 i2.toNatClampNeg) then (if sh_in (i3 + 1) 1600 then (if sh_in (i2 + 1) 1600 then (if (sh_i μ 1 ((i3 + 1)).toNatClampNeg) = (sh_i μ 1 ((i2 + 1)).toNatClampNeg) then some (0, μ) else F_X11_isPersonTold fuel 1 i1 i2 (i3 + 4) μ) else none) else none) else F_X11_isPersonTold fuel 1 i1 i2 (i3 + 4) μ) else none) else none))
    | _ => none
noncomputable def f_X11_isPersonTold (a1 : Int32) (a2 : Int32) (μ : sh_Mem) : Option (Int32 × sh_Mem) := (if (sh_r μ 0 7 = some (sh_ref μ 0 7) ∧ ((sh_ref μ 0 7) = 8 ∨ (sh_ref μ 0 7) = 29)) then sh_let (sh_ref μ 0 7) (fun r27 => (if sh_in a2 1600 then (if sh_in (a2 + 1) 1600 then (if (f_X5_cellAt μ r27 (sh_i μ 1 a2.toNatClampNeg) (sh_i μ 1 ((a2 + 1)).toNatClampNeg)) = (-1) then some (0, μ) else (if sh_in (a2 + 2) 1600 then (if 9 < (sh_i μ 1 ((a2 + 2)).toNatClampNeg) then some (0, μ) else (if sh_in (a2 + 3) 1600 then (if (sh_r μ 0 7 = some (sh_ref μ 0 7) ∧ ((sh_ref μ 0 7) = 8 ∨ (sh_ref μ 0 7) = 29)) then sh_let (sh_ref μ 0 7) (fun r35 => (if (sh_i μ 1 ((a2 + 3)).toNatClampNeg) < ((1 : Int32) <<< ((sh_i μ r35 2) &&& 31)) then F_X11_isPersonTold sh_fuel 1 a1 a2 a1 μ else some (0, μ))) else none) else none)) else none)) else none) else none)) else none)
theorem gpl_X11_isPersonTold (fuel : Nat) : (∀ ⦃i1 : Int32⦄ ⦃i2 : Int32⦄ ⦃i3 : Int32⦄ ⦃μ μ' : sh_Mem⦄ ⦃v : Int32⦄, sh_G μ → F_X11_isPersonTold fuel 1 i1 i2 i3 μ = some (v, μ') → sh_G μ') := by
  induction fuel with
  | zero => intro i1 i2 i3 μ μ' v hG h; cases h
  | succ fuel ih =>
    have ih_62 := ih
    intro i1 i2 i3 μ μ' v hG h
    replace h : ((if i2 ≤ i3 then some (1, μ) else (if sh_in i3 1600 then (if sh_in i2 1600 then (if (sh_i μ 1 i3.toNatClampNeg) = (sh_i μ 1 i2.toNatClampNeg) then (if sh_in (i3 + 1) 1600 then (if sh_in (i2 + 1) 1600 then (if (sh_i μ 1 ((i3 + 1)).toNatClampNeg) = (sh_i μ 1 ((i2 + 1)).toNatClampNeg) then some (0, μ) else F_X11_isPersonTold fuel 1 i1 i2 (i3 + 4) μ) else none) else none) else F_X11_isPersonTold fuel 1 i1 i2 (i3 + 4) μ) else none) else none)) : Option (Int32 × sh_Mem)) = some (v, μ') := h
    by_cases c19 : i2 ≤ i3
    · rw [if_pos c19] at h
      obtain ⟨e1, e2⟩ := sh_some2 h
      exact e2 ▸ hG
    · rw [if_neg c19] at h
      obtain ⟨k20, h⟩ := sh_chk h
      obtain ⟨k21, h⟩ := sh_chk h
      by_cases c22 : (sh_i μ 1 i3.toNatClampNeg) = (sh_i μ 1 i2.toNatClampNeg)
      · rw [if_pos c22] at h
        obtain ⟨k23, h⟩ := sh_chk h
        obtain ⟨k24, h⟩ := sh_chk h
        by_cases c25 : (sh_i μ 1 ((i3 + 1)).toNatClampNeg) = (sh_i μ 1 ((i2 + 1)).toNatClampNeg)
        · rw [if_pos c25] at h
          obtain ⟨e1, e2⟩ := sh_some2 h
          exact e2 ▸ hG
        · rw [if_neg c25] at h
          exact ih_62 hG h
      · rw [if_neg c22] at h
        exact ih_62 hG h
theorem tl_X11_isPersonTold (fuel : Nat) : (∀ ⦃i1 : Int32⦄ ⦃i2 : Int32⦄ ⦃i3 : Int32⦄ ⦃μ μ' : sh_Mem⦄ ⦃v : Int32⦄, sh_G μ → F_X11_isPersonTold fuel 1 i1 i2 i3 μ = some (v, μ') → sh_V0 l B D ca 2 M_X11_isPersonTold 62 [(0, .ref 0), (1, .int i1), (2, .int i2), (3, .int i3)] [] μ (fun v0 μ0 => v0 = some (.int v) ∧ μ0 = μ')) := by
  induction fuel with
  | zero => intro i1 i2 i3 μ μ' v hG h; cases h
  | succ fuel ih =>
    have ih_62 := ih
    intro i1 i2 i3 μ μ' v hG h
    replace h : ((if i2 ≤ i3 then some (1, μ) else (if sh_in i3 1600 then (if sh_in i2 1600 then (if (sh_i μ 1 i3.toNatClampNeg) = (sh_i μ 1 i2.toNatClampNeg) then (if sh_in (i3 + 1) 1600 then (if sh_in (i2 + 1) 1600 then (if (sh_i μ 1 ((i3 + 1)).toNatClampNeg) = (sh_i μ 1 ((i2 + 1)).toNatClampNeg) then some (0, μ) else F_X11_isPersonTold fuel 1 i1 i2 (i3 + 4) μ) else none) else none) else F_X11_isPersonTold fuel 1 i1 i2 (i3 + 4) μ) else none) else none)) : Option (Int32 × sh_Mem)) = some (v, μ') := h
    refine vv_iload_n 62 3 dX11_isPersonTold_62 rfl rfl ?_
    refine vv_iload_n 63 2 dX11_isPersonTold_63 rfl rfl ?_
    refine vv_icmp_ge 64 109 dX11_isPersonTold_64 (by decide) (fun c19 => ?_) (fun c19 => ?_)
    · rw [if_pos c19] at h
      refine vv_iconst 109 dX11_isPersonTold_109 ik_1 ?_
      obtain ⟨e1, e2⟩ := sh_some2 h
      refine vv_zret 110 dX11_isPersonTold_110 rfl rfl (Nat.le_refl _) (Nat.le_refl _) ⟨by rw [e1], e2⟩
    · rw [if_neg c19] at h
      refine vv_aload_n 67 0 dX11_isPersonTold_67 rfl rfl ?_
      refine vv_getR 68 dX11_isPersonTold_68 fl_11_9 rfl (g_l_0 hG) (g_r_0_0 hG) ?_
      refine vv_iload_n 71 3 dX11_isPersonTold_71 rfl rfl ?_
      obtain ⟨k20, h⟩ := sh_chk h
      refine vv_iald 72 dX11_isPersonTold_72 (g_l_1 hG) k20 ?_
      refine vv_aload_n 73 0 dX11_isPersonTold_73 rfl rfl ?_
      refine vv_getR 74 dX11_isPersonTold_74 fl_11_9 rfl (g_l_0 hG) (g_r_0_0 hG) ?_
      refine vv_iload_n 77 2 dX11_isPersonTold_77 rfl rfl ?_
      obtain ⟨k21, h⟩ := sh_chk h
      refine vv_iald 78 dX11_isPersonTold_78 (g_l_1 hG) k21 ?_
      refine vv_icmp_ne 79 103 dX11_isPersonTold_79 (by decide) (fun c22 => ?_) (fun c22 => ?_)
      · rw [if_neg c22] at h
        refine vv_iincc (lv' := [(3, _), (0, _), (1, _), (2, _)]) 103 3 dX11_isPersonTold_103 rfl ik_4 (by decide) rfl ?_
        refine vv_goto 106 62 dX11_isPersonTold_106 (by decide) ?_
        refine vv_sub [(0, _), (1, _), (2, _), (3, _)] (sh_subm [1, 2, 3, 0] rfl) ?_
        exact ih_62 hG h
      · rw [if_pos c22] at h
        refine vv_aload_n 82 0 dX11_isPersonTold_82 rfl rfl ?_
        refine vv_getR 83 dX11_isPersonTold_83 fl_11_9 rfl (g_l_0 hG) (g_r_0_0 hG) ?_
        refine vv_iload_n 86 3 dX11_isPersonTold_86 rfl rfl ?_
        refine vv_iconst 87 dX11_isPersonTold_87 ik_1 ?_
        refine vv_iadd 88 dX11_isPersonTold_88 ?_
        obtain ⟨k23, h⟩ := sh_chk h
        refine vv_iald 89 dX11_isPersonTold_89 (g_l_1 hG) k23 ?_
        refine vv_aload_n 90 0 dX11_isPersonTold_90 rfl rfl ?_
        refine vv_getR 91 dX11_isPersonTold_91 fl_11_9 rfl (g_l_0 hG) (g_r_0_0 hG) ?_
        refine vv_iload_n 94 2 dX11_isPersonTold_94 rfl rfl ?_
        refine vv_iconst 95 dX11_isPersonTold_95 ik_1 ?_
        refine vv_iadd 96 dX11_isPersonTold_96 ?_
        obtain ⟨k24, h⟩ := sh_chk h
        refine vv_iald 97 dX11_isPersonTold_97 (g_l_1 hG) k24 ?_
        refine vv_icmp_ne 98 103 dX11_isPersonTold_98 (by decide) (fun c25 => ?_) (fun c25 => ?_)
        · rw [if_neg c25] at h
          refine vv_iincc (lv' := [(3, _), (0, _), (1, _), (2, _)]) 103 3 dX11_isPersonTold_103 rfl ik_4 (by decide) rfl ?_
          refine vv_goto 106 62 dX11_isPersonTold_106 (by decide) ?_
          refine vv_sub [(0, _), (1, _), (2, _), (3, _)] (sh_subm [1, 2, 3, 0] rfl) ?_
          exact ih_62 hG h
        · rw [if_pos c25] at h
          refine vv_iconst 101 dX11_isPersonTold_101 ik_0 ?_
          obtain ⟨e1, e2⟩ := sh_some2 h
          refine vv_zret 102 dX11_isPersonTold_102 rfl rfl (Nat.le_refl _) (Nat.le_refl _) ⟨by rw [e1], e2⟩
theorem gp_X11_isPersonTold {a1 : Int32} {a2 : Int32} {μ μ' : sh_Mem} {v : Int32} (hG : sh_G μ) (h : f_X11_isPersonTold a1 a2 μ = some (v, μ')) : sh_G μ' := by
  have ih_62 := (gpl_X11_isPersonTold sh_fuel)
  unfold f_X11_isPersonTold at h
  obtain ⟨k26, h⟩ := sh_chk h
  obtain ⟨r27, er27⟩ : ∃ y : Nat, y = (sh_ref μ 0 7) := ⟨_, rfl⟩
  rw [sh_let_eq er27] at h
  have k26r : sh_r μ 0 7 = some r27 ∧ (r27 = 8 ∨ r27 = 29) := by rw [er27]; exact k26
  obtain ⟨k28, h⟩ := sh_chk h
  obtain ⟨k29, h⟩ := sh_chk h
  by_cases c30 : (f_X5_cellAt μ r27 (sh_i μ 1 a2.toNatClampNeg) (sh_i μ 1 ((a2 + 1)).toNatClampNeg)) = (-1)
  · rw [if_pos c30] at h
    obtain ⟨e1, e2⟩ := sh_some2 h
    exact e2 ▸ hG
  · rw [if_neg c30] at h
    obtain ⟨k31, h⟩ := sh_chk h
    by_cases c32 : 9 < (sh_i μ 1 ((a2 + 2)).toNatClampNeg)
    · rw [if_pos c32] at h
      obtain ⟨e1, e2⟩ := sh_some2 h
      exact e2 ▸ hG
    · rw [if_neg c32] at h
      obtain ⟨k33, h⟩ := sh_chk h
      obtain ⟨k34, h⟩ := sh_chk h
      obtain ⟨r35, er35⟩ : ∃ y : Nat, y = (sh_ref μ 0 7) := ⟨_, rfl⟩
      rw [sh_let_eq er35] at h
      have k34r : sh_r μ 0 7 = some r35 ∧ (r35 = 8 ∨ r35 = 29) := by rw [er35]; exact k34
      by_cases c36 : (sh_i μ 1 ((a2 + 3)).toNatClampNeg) < ((1 : Int32) <<< ((sh_i μ r35 2) &&& 31))
      · rw [if_pos c36] at h
        exact ih_62 hG h
      · rw [if_neg c36] at h
        obtain ⟨e1, e2⟩ := sh_some2 h
        exact e2 ▸ hG
theorem t_X11_isPersonTold {a1 : Int32} {a2 : Int32} {μ μ' : sh_Mem} {v : Int32} (hG : sh_G μ) (h : f_X11_isPersonTold a1 a2 μ = some (v, μ')) : sh_C0 l B D ca 2 M_X11_isPersonTold [.ref 0, .int a1, .int a2] μ (fun v0 μ0 => v0 = some (.int v) ∧ μ0 = μ') := by
  have ih_62 := (tl_X11_isPersonTold (l := l) (B := B) (D := D) (ca := ca) sh_fuel)
  unfold f_X11_isPersonTold at h
  refine vv_aload_n 0 0 dX11_isPersonTold_0 rfl rfl ?_
  obtain ⟨k26, h⟩ := sh_chk h
  refine vv_getR 1 dX11_isPersonTold_1 fl_11_53 rfl (g_l_0 hG) k26.1 ?_
  refine vv_topr (fun r27 er27 => ?_)
  rw [sh_let_eq er27] at h
  have k26r : sh_r μ 0 7 = some r27 ∧ (r27 = 8 ∨ r27 = 29) := by rw [er27]; exact k26
  refine vv_aload_n 4 0 dX11_isPersonTold_4 rfl rfl ?_
  refine vv_getR 5 dX11_isPersonTold_5 fl_11_9 rfl (g_l_0 hG) (g_r_0_0 hG) ?_
  refine vv_iload_n 8 2 dX11_isPersonTold_8 rfl rfl ?_
  obtain ⟨k28, h⟩ := sh_chk h
  refine vv_iald 9 dX11_isPersonTold_9 (g_l_1 hG) k28 ?_
  refine vv_aload_n 10 0 dX11_isPersonTold_10 rfl rfl ?_
  refine vv_getR 11 dX11_isPersonTold_11 fl_11_9 rfl (g_l_0 hG) (g_r_0_0 hG) ?_
  refine vv_iload_n 14 2 dX11_isPersonTold_14 rfl rfl ?_
  refine vv_iconst 15 dX11_isPersonTold_15 ik_1 ?_
  refine vv_iadd 16 dX11_isPersonTold_16 ?_
  obtain ⟨k29, h⟩ := sh_chk h
  refine vv_iald 17 dX11_isPersonTold_17 (g_l_1 hG) k29 ?_
  refine v1_callV [_, _] 18 dX11_isPersonTold_18 ck_X11_217 (gP_l hG k26r.2) ⟨by decide, rfl⟩ (c_X5_cellAt (μ := μ) hG k26r.2) (Nat.le_of_ble_eq_true rfl) ⟨Nat.le_of_ble_eq_true rfl, Nat.le_of_ble_eq_true rfl⟩ rfl (Nat.le_of_ble_eq_true rfl) ?_
  refine vv_iconst 21 dX11_isPersonTold_21 ik_m1 ?_
  refine vv_icmp_eq 22 58 dX11_isPersonTold_22 (by decide) (fun c30 => ?_) (fun c30 => ?_)
  · rw [if_pos c30] at h
    refine vv_iconst 58 dX11_isPersonTold_58 ik_0 ?_
    obtain ⟨e1, e2⟩ := sh_some2 h
    refine vv_zret 59 dX11_isPersonTold_59 rfl rfl (Nat.le_refl _) (Nat.le_refl _) ⟨by rw [e1], e2⟩
  · rw [if_neg c30] at h
    refine vv_aload_n 25 0 dX11_isPersonTold_25 rfl rfl ?_
    refine vv_getR 26 dX11_isPersonTold_26 fl_11_9 rfl (g_l_0 hG) (g_r_0_0 hG) ?_
    refine vv_iload_n 29 2 dX11_isPersonTold_29 rfl rfl ?_
    refine vv_iconst 30 dX11_isPersonTold_30 ik_2 ?_
    refine vv_iadd 31 dX11_isPersonTold_31 ?_
    obtain ⟨k31, h⟩ := sh_chk h
    refine vv_iald 32 dX11_isPersonTold_32 (g_l_1 hG) k31 ?_
    refine vv_bipush 33 dX11_isPersonTold_33 bk_9 ?_
    refine vv_icmp_gt 35 58 dX11_isPersonTold_35 (by decide) (fun c32 => ?_) (fun c32 => ?_)
    · rw [if_pos c32] at h
      refine vv_iconst 58 dX11_isPersonTold_58 ik_0 ?_
      obtain ⟨e1, e2⟩ := sh_some2 h
      refine vv_zret 59 dX11_isPersonTold_59 rfl rfl (Nat.le_refl _) (Nat.le_refl _) ⟨by rw [e1], e2⟩
    · rw [if_neg c32] at h
      refine vv_aload_n 38 0 dX11_isPersonTold_38 rfl rfl ?_
      refine vv_getR 39 dX11_isPersonTold_39 fl_11_9 rfl (g_l_0 hG) (g_r_0_0 hG) ?_
      refine vv_iload_n 42 2 dX11_isPersonTold_42 rfl rfl ?_
      refine vv_iconst 43 dX11_isPersonTold_43 ik_3 ?_
      refine vv_iadd 44 dX11_isPersonTold_44 ?_
      obtain ⟨k33, h⟩ := sh_chk h
      refine vv_iald 45 dX11_isPersonTold_45 (g_l_1 hG) k33 ?_
      refine vv_iconst 46 dX11_isPersonTold_46 ik_1 ?_
      refine vv_aload_n 47 0 dX11_isPersonTold_47 rfl rfl ?_
      obtain ⟨k34, h⟩ := sh_chk h
      refine vv_getR 48 dX11_isPersonTold_48 fl_11_53 rfl (g_l_0 hG) k34.1 ?_
      refine vv_topr (fun r35 er35 => ?_)
      rw [sh_let_eq er35] at h
      have k34r : sh_r μ 0 7 = some r35 ∧ (r35 = 8 ∨ r35 = 29) := by rw [er35]; exact k34
      refine vv_getI 51 dX11_isPersonTold_51 fl_11_177 rfl (gP_l hG k34r.2) ?_
      refine vv_ishl 54 dX11_isPersonTold_54 ?_
      refine vv_icmp_lt 55 60 dX11_isPersonTold_55 (by decide) (fun c36 => ?_) (fun c36 => ?_)
      · rw [if_pos c36] at h
        refine vv_iload_n 60 1 dX11_isPersonTold_60 rfl rfl ?_
        refine vv_istore_n (lv' := [(3, _), (0, _), (1, _), (2, _)]) 61 3 dX11_isPersonTold_61 rfl (by decide) rfl ?_
        refine vv_sub [(0, _), (1, _), (2, _), (3, _)] (sh_subm [1, 2, 3, 0] rfl) ?_
        exact ih_62 hG h
      · rw [if_neg c36] at h
        refine vv_iconst 58 dX11_isPersonTold_58 ik_0 ?_
        obtain ⟨e1, e2⟩ := sh_some2 h
        refine vv_zret 59 dX11_isPersonTold_59 rfl rfl (Nat.le_refl _) (Nat.le_refl _) ⟨by rw [e1], e2⟩
noncomputable def f_X11_status (a1 : Int32) (μ : sh_Mem) : Option (Int32 × sh_Mem) := (if a1 < 0 then some ((-1), μ) else (if a1 < 6 then (if sh_in a1 6 then some ((sh_i μ 290 a1.toNatClampNeg), μ) else none) else some ((-1), μ)))
theorem gp_X11_status {a1 : Int32} {μ μ' : sh_Mem} {v : Int32} (hG : sh_G μ) (h : f_X11_status a1 μ = some (v, μ')) : sh_G μ' := by
  unfold f_X11_status at h
  by_cases c1 : a1 < 0
  · rw [if_pos c1] at h
    obtain ⟨e1, e2⟩ := sh_some2 h
    exact e2 ▸ hG
  · rw [if_neg c1] at h
    by_cases c2 : a1 < 6
    · rw [if_pos c2] at h
      obtain ⟨k3, h⟩ := sh_chk h
      obtain ⟨e1, e2⟩ := sh_some2 h
      exact e2 ▸ hG
    · rw [if_neg c2] at h
      obtain ⟨e1, e2⟩ := sh_some2 h
      exact e2 ▸ hG
theorem t_X11_status {a1 : Int32} {μ μ' : sh_Mem} {v : Int32} (hG : sh_G μ) (h : f_X11_status a1 μ = some (v, μ')) : sh_C0 l B D ca 1 M_X11_status [.ref 0, .int a1] μ (fun v0 μ0 => v0 = some (.int v) ∧ μ0 = μ') := by
  unfold f_X11_status at h
  refine vv_iload_n 0 1 dX11_status_0 rfl rfl ?_
  refine vv_if_lt 1 10 dX11_status_1 (by decide) (fun c1 => ?_) (fun c1 => ?_)
  · rw [if_pos c1] at h
    refine vv_iconst 10 dX11_status_10 ik_m1 ?_
    refine vv_goto 11 20 dX11_status_11 (by decide) ?_
    obtain ⟨e1, e2⟩ := sh_some2 h
    refine vv_iret 20 dX11_status_20 rfl (Nat.le_refl _) (Nat.le_refl _) ⟨by rw [e1], e2⟩
  · rw [if_neg c1] at h
    refine vv_iload_n 4 1 dX11_status_4 rfl rfl ?_
    refine vv_bipush 5 dX11_status_5 bk_6 ?_
    refine vv_icmp_lt 7 14 dX11_status_7 (by decide) (fun c2 => ?_) (fun c2 => ?_)
    · rw [if_pos c2] at h
      refine vv_aload_n 14 0 dX11_status_14 rfl rfl ?_
      refine vv_getR 15 dX11_status_15 fl_11_114 rfl (g_l_0 hG) (g_r_0_19 hG) ?_
      refine vv_iload_n 18 1 dX11_status_18 rfl rfl ?_
      obtain ⟨k3, h⟩ := sh_chk h
      refine vv_iald 19 dX11_status_19 (g_l_290 hG) k3 ?_
      obtain ⟨e1, e2⟩ := sh_some2 h
      refine vv_iret 20 dX11_status_20 rfl (Nat.le_refl _) (Nat.le_refl _) ⟨by rw [e1], e2⟩
    · rw [if_neg c2] at h
      refine vv_iconst 10 dX11_status_10 ik_m1 ?_
      refine vv_goto 11 20 dX11_status_11 (by decide) ?_
      obtain ⟨e1, e2⟩ := sh_some2 h
      refine vv_iret 20 dX11_status_20 rfl (Nat.le_refl _) (Nat.le_refl _) ⟨by rw [e1], e2⟩
noncomputable def f_J6_bitCount_0f7a4 (a1 : Int32) (μ : sh_Mem) : Option (Int32 × sh_Mem) := sh_let ((a1 - ((a1.toUInt32 >>> (Int32.toUInt32 1 &&& Int32.toUInt32 31)).toInt32 &&& 1431655765)) : Int32) (fun x1 => sh_let (((x1 &&& 858993459) + ((x1.toUInt32 >>> (Int32.toUInt32 2 &&& Int32.toUInt32 31)).toInt32 &&& 858993459)) : Int32) (fun x2 => sh_let (((x2 + (x2.toUInt32 >>> (Int32.toUInt32 4 &&& Int32.toUInt32 31)).toInt32) &&& 252645135) : Int32) (fun x3 => sh_let ((x3 + (x3.toUInt32 >>> (Int32.toUInt32 8 &&& Int32.toUInt32 31)).toInt32) : Int32) (fun x4 => sh_let ((x4 + (x4.toUInt32 >>> (Int32.toUInt32 16 &&& Int32.toUInt32 31)).toInt32) : Int32) (fun x5 => some ((x5 &&& 63), μ))))))
theorem gp_J6_bitCount_0f7a4 {a1 : Int32} {μ μ' : sh_Mem} {v : Int32} (hG : sh_G μ) (h : f_J6_bitCount_0f7a4 a1 μ = some (v, μ')) : sh_G μ' := by
  unfold f_J6_bitCount_0f7a4 at h
  obtain ⟨x1, ex1⟩ : ∃ y : Int32, y = (a1 - ((a1.toUInt32 >>> (Int32.toUInt32 1 &&& Int32.toUInt32 31)).toInt32 &&& 1431655765)) := ⟨_, rfl⟩
  rw [sh_let_eq ex1] at h
  obtain ⟨x2, ex2⟩ : ∃ y : Int32, y = ((x1 &&& 858993459) + ((x1.toUInt32 >>> (Int32.toUInt32 2 &&& Int32.toUInt32 31)).toInt32 &&& 858993459)) := ⟨_, rfl⟩
  rw [sh_let_eq ex2] at h
  obtain ⟨x3, ex3⟩ : ∃ y : Int32, y = ((x2 + (x2.toUInt32 >>> (Int32.toUInt32 4 &&& Int32.toUInt32 31)).toInt32) &&& 252645135) := ⟨_, rfl⟩
  rw [sh_let_eq ex3] at h
  obtain ⟨x4, ex4⟩ : ∃ y : Int32, y = (x3 + (x3.toUInt32 >>> (Int32.toUInt32 8 &&& Int32.toUInt32 31)).toInt32) := ⟨_, rfl⟩
  rw [sh_let_eq ex4] at h
  obtain ⟨x5, ex5⟩ : ∃ y : Int32, y = (x4 + (x4.toUInt32 >>> (Int32.toUInt32 16 &&& Int32.toUInt32 31)).toInt32) := ⟨_, rfl⟩
  rw [sh_let_eq ex5] at h
  obtain ⟨e1, e2⟩ := sh_some2 h
  exact e2 ▸ hG
theorem t_J6_bitCount_0f7a4 {a1 : Int32} {μ μ' : sh_Mem} {v : Int32} (hG : sh_G μ) (h : f_J6_bitCount_0f7a4 a1 μ = some (v, μ')) : sh_C0 l B D ca 1 M_J6_bitCount_0f7a4 [.int a1] μ (fun v0 μ0 => v0 = some (.int v) ∧ μ0 = μ') := by
  unfold f_J6_bitCount_0f7a4 at h
  refine vv_iload_n 0 0 dJ6_bitCount_0f7a4_0 rfl rfl ?_
  refine vv_iload_n 1 0 dJ6_bitCount_0f7a4_1 rfl rfl ?_
  refine vv_iconst 2 dJ6_bitCount_0f7a4_2 ik_1 ?_
  refine vv_iushr 3 dJ6_bitCount_0f7a4_3 ?_
  refine vv_ldcw 4 dJ6_bitCount_0f7a4_4 ki_J6_265 ?_
  refine vv_iand 7 dJ6_bitCount_0f7a4_7 ?_
  refine vv_isub 8 dJ6_bitCount_0f7a4_8 ?_
  refine vv_topi (fun x1 ex1 => ?_)
  rw [sh_let_eq ex1] at h
  refine vv_istore_n (lv' := [(0, _)]) 9 0 dJ6_bitCount_0f7a4_9 rfl (by decide) rfl ?_
  refine vv_iload_n 10 0 dJ6_bitCount_0f7a4_10 rfl rfl ?_
  refine vv_ldcw 11 dJ6_bitCount_0f7a4_11 ki_J6_266 ?_
  refine vv_iand 14 dJ6_bitCount_0f7a4_14 ?_
  refine vv_iload_n 15 0 dJ6_bitCount_0f7a4_15 rfl rfl ?_
  refine vv_iconst 16 dJ6_bitCount_0f7a4_16 ik_2 ?_
  refine vv_iushr 17 dJ6_bitCount_0f7a4_17 ?_
  refine vv_ldcw 18 dJ6_bitCount_0f7a4_18 ki_J6_266 ?_
  refine vv_iand 21 dJ6_bitCount_0f7a4_21 ?_
  refine vv_iadd 22 dJ6_bitCount_0f7a4_22 ?_
  refine vv_topi (fun x2 ex2 => ?_)
  rw [sh_let_eq ex2] at h
  refine vv_istore_n (lv' := [(0, _)]) 23 0 dJ6_bitCount_0f7a4_23 rfl (by decide) rfl ?_
  refine vv_iload_n 24 0 dJ6_bitCount_0f7a4_24 rfl rfl ?_
  refine vv_iload_n 25 0 dJ6_bitCount_0f7a4_25 rfl rfl ?_
  refine vv_iconst 26 dJ6_bitCount_0f7a4_26 ik_4 ?_
  refine vv_iushr 27 dJ6_bitCount_0f7a4_27 ?_
  refine vv_iadd 28 dJ6_bitCount_0f7a4_28 ?_
  refine vv_ldcw 29 dJ6_bitCount_0f7a4_29 ki_J6_267 ?_
  refine vv_iand 32 dJ6_bitCount_0f7a4_32 ?_
  refine vv_topi (fun x3 ex3 => ?_)
  rw [sh_let_eq ex3] at h
  refine vv_istore_n (lv' := [(0, _)]) 33 0 dJ6_bitCount_0f7a4_33 rfl (by decide) rfl ?_
  refine vv_iload_n 34 0 dJ6_bitCount_0f7a4_34 rfl rfl ?_
  refine vv_iload_n 35 0 dJ6_bitCount_0f7a4_35 rfl rfl ?_
  refine vv_bipush 36 dJ6_bitCount_0f7a4_36 bk_8 ?_
  refine vv_iushr 38 dJ6_bitCount_0f7a4_38 ?_
  refine vv_iadd 39 dJ6_bitCount_0f7a4_39 ?_
  refine vv_topi (fun x4 ex4 => ?_)
  rw [sh_let_eq ex4] at h
  refine vv_istore_n (lv' := [(0, _)]) 40 0 dJ6_bitCount_0f7a4_40 rfl (by decide) rfl ?_
  refine vv_iload_n 41 0 dJ6_bitCount_0f7a4_41 rfl rfl ?_
  refine vv_iload_n 42 0 dJ6_bitCount_0f7a4_42 rfl rfl ?_
  refine vv_bipush 43 dJ6_bitCount_0f7a4_43 bk_16 ?_
  refine vv_iushr 45 dJ6_bitCount_0f7a4_45 ?_
  refine vv_iadd 46 dJ6_bitCount_0f7a4_46 ?_
  refine vv_topi (fun x5 ex5 => ?_)
  rw [sh_let_eq ex5] at h
  refine vv_istore_n (lv' := [(0, _)]) 47 0 dJ6_bitCount_0f7a4_47 rfl (by decide) rfl ?_
  refine vv_iload_n 48 0 dJ6_bitCount_0f7a4_48 rfl rfl ?_
  refine vv_bipush 49 dJ6_bitCount_0f7a4_49 bk_63 ?_
  refine vv_iand 51 dJ6_bitCount_0f7a4_51 ?_
  obtain ⟨e1, e2⟩ := sh_some2 h
  refine vv_iret 52 dJ6_bitCount_0f7a4_52 rfl (Nat.le_refl _) (Nat.le_refl _) ⟨by rw [e1], e2⟩
noncomputable def f_J9_floorDiv_f86c9 (a1 : Int64) (a2 : Int64) (μ : sh_Mem) : Option (Int64 × sh_Mem) := (if ¬ a2 = 0 then sh_let ((a1 / a2) : Int64) (fun x2 => (if 0 ≤ (lg_cmp (a1 ^^^ a2) 0) then some (x2, μ) else (if (lg_cmp (x2 * a2) a1) = 0 then some (x2, μ) else some ((x2 - 1), μ)))) else none)
theorem gp_J9_floorDiv_f86c9 {a1 : Int64} {a2 : Int64} {μ μ' : sh_Mem} {v : Int64} (hG : sh_G μ) (h : f_J9_floorDiv_f86c9 a1 a2 μ = some (v, μ')) : sh_G μ' := by
  unfold f_J9_floorDiv_f86c9 at h
  obtain ⟨k1, h⟩ := sh_chk h
  obtain ⟨x2, ex2⟩ : ∃ y : Int64, y = (a1 / a2) := ⟨_, rfl⟩
  rw [sh_let_eq ex2] at h
  by_cases c3 : 0 ≤ (lg_cmp (a1 ^^^ a2) 0)
  · rw [if_pos c3] at h
    obtain ⟨e1, e2⟩ := sh_some2 h
    exact e2 ▸ hG
  · rw [if_neg c3] at h
    by_cases c4 : (lg_cmp (x2 * a2) a1) = 0
    · rw [if_pos c4] at h
      obtain ⟨e1, e2⟩ := sh_some2 h
      exact e2 ▸ hG
    · rw [if_neg c4] at h
      obtain ⟨e1, e2⟩ := sh_some2 h
      exact e2 ▸ hG
theorem t_J9_floorDiv_f86c9 {a1 : Int64} {a2 : Int64} {μ μ' : sh_Mem} {v : Int64} (hG : sh_G μ) (h : f_J9_floorDiv_f86c9 a1 a2 μ = some (v, μ')) : sh_C0 l B D ca 1 M_J9_floorDiv_f86c9 [.long a1, .long a2] μ (fun v0 μ0 => v0 = some (.long v) ∧ μ0 = μ') := by
  unfold f_J9_floorDiv_f86c9 at h
  refine vv_lload_n 0 0 dJ9_floorDiv_f86c9_0 rfl rfl ?_
  refine vv_lload_n 1 2 dJ9_floorDiv_f86c9_1 rfl rfl ?_
  obtain ⟨k1, h⟩ := sh_chk h
  refine vv_ldiv 2 dJ9_floorDiv_f86c9_2 k1 ?_
  refine vv_topl (fun x2 ex2 => ?_)
  rw [sh_let_eq ex2] at h
  refine vv_lstore (lv' := [(4, _), (0, _), (2, _)]) 3 4 dJ9_floorDiv_f86c9_3 (by decide) rfl ?_
  refine vv_lload_n 5 0 dJ9_floorDiv_f86c9_5 rfl rfl ?_
  refine vv_lload_n 6 2 dJ9_floorDiv_f86c9_6 rfl rfl ?_
  refine vv_lxor 7 dJ9_floorDiv_f86c9_7 ?_
  refine vv_lconst 8 dJ9_floorDiv_f86c9_8 lk_0 ?_
  refine vv_lcmp 9 dJ9_floorDiv_f86c9_9 ?_
  refine vv_if_ge 10 27 dJ9_floorDiv_f86c9_10 (by decide) (fun c3 => ?_) (fun c3 => ?_)
  · rw [if_pos c3] at h
    refine vv_lload 27 4 dJ9_floorDiv_f86c9_27 rfl ?_
    obtain ⟨e1, e2⟩ := sh_some2 h
    refine vv_lret 29 dJ9_floorDiv_f86c9_29 rfl (Nat.le_refl _) (Nat.le_refl _) ⟨by rw [e1], e2⟩
  · rw [if_neg c3] at h
    refine vv_lload 13 4 dJ9_floorDiv_f86c9_13 rfl ?_
    refine vv_lload_n 15 2 dJ9_floorDiv_f86c9_15 rfl rfl ?_
    refine vv_lmul 16 dJ9_floorDiv_f86c9_16 ?_
    refine vv_lload_n 17 0 dJ9_floorDiv_f86c9_17 rfl rfl ?_
    refine vv_lcmp 18 dJ9_floorDiv_f86c9_18 ?_
    refine vv_if_eq 19 27 dJ9_floorDiv_f86c9_19 (by decide) (fun c4 => ?_) (fun c4 => ?_)
    · rw [if_pos c4] at h
      refine vv_lload 27 4 dJ9_floorDiv_f86c9_27 rfl ?_
      obtain ⟨e1, e2⟩ := sh_some2 h
      refine vv_lret 29 dJ9_floorDiv_f86c9_29 rfl (Nat.le_refl _) (Nat.le_refl _) ⟨by rw [e1], e2⟩
    · rw [if_neg c4] at h
      refine vv_lload 22 4 dJ9_floorDiv_f86c9_22 rfl ?_
      refine vv_lconst 24 dJ9_floorDiv_f86c9_24 lk_1 ?_
      refine vv_lsub 25 dJ9_floorDiv_f86c9_25 ?_
      obtain ⟨e1, e2⟩ := sh_some2 h
      refine vv_lret 26 dJ9_floorDiv_f86c9_26 rfl (Nat.le_refl _) (Nat.le_refl _) ⟨by rw [e1], e2⟩
def f_J9_abs_0f7a4 (μ : sh_Mem) (a1 : Int32) : Int32 := (if 0 ≤ a1 then a1 else (-a1))
theorem c_J9_abs_0f7a4 (hG : sh_G μ)  {a1 : Int32} : sh_C0 l B D ca 1 M_J9_abs_0f7a4 [.int a1] μ (fun v μ' => v = some (.int (f_J9_abs_0f7a4 μ a1)) ∧ μ' = μ) := by
  refine vv_iload_n 0 0 dJ9_abs_0f7a4_0 rfl rfl ?_
  refine vv_if_ge 1 9 dJ9_abs_0f7a4_1 (by decide) (fun h1 => ?_) (fun h1 => ?_)
  · refine vv_iload_n 9 0 dJ9_abs_0f7a4_9 rfl rfl ?_
    refine vv_iret 10 dJ9_abs_0f7a4_10 rfl (Nat.le_refl _) (Nat.le_refl _) ?_
    exact ⟨by show some _ = some (Value.int (f_J9_abs_0f7a4 μ a1)); unfold f_J9_abs_0f7a4; rw [if_pos h1], rfl⟩
  · refine vv_iload_n 4 0 dJ9_abs_0f7a4_4 rfl rfl ?_
    refine vv_ineg 5 dJ9_abs_0f7a4_5 ?_
    refine vv_goto 6 10 dJ9_abs_0f7a4_6 (by decide) ?_
    refine vv_iret 10 dJ9_abs_0f7a4_10 rfl (Nat.le_refl _) (Nat.le_refl _) ?_
    exact ⟨by show some _ = some (Value.int (f_J9_abs_0f7a4 μ a1)); unfold f_J9_abs_0f7a4; rw [if_neg h1], rfl⟩
def f_J9_max_f86c9 (μ : sh_Mem) (a1 : Int64) (a2 : Int64) : Int64 := (if (lg_cmp a1 a2) < 0 then a2 else a1)
theorem c_J9_max_f86c9 (hG : sh_G μ)  {a1 : Int64} {a2 : Int64} : sh_C0 l B D ca 1 M_J9_max_f86c9 [.long a1, .long a2] μ (fun v μ' => v = some (.long (f_J9_max_f86c9 μ a1 a2)) ∧ μ' = μ) := by
  refine vv_lload_n 0 0 dJ9_max_f86c9_0 rfl rfl ?_
  refine vv_lload_n 1 2 dJ9_max_f86c9_1 rfl rfl ?_
  refine vv_lcmp 2 dJ9_max_f86c9_2 ?_
  refine vv_if_lt 3 10 dJ9_max_f86c9_3 (by decide) (fun h1 => ?_) (fun h1 => ?_)
  · refine vv_lload_n 10 2 dJ9_max_f86c9_10 rfl rfl ?_
    refine vv_lret 11 dJ9_max_f86c9_11 rfl (Nat.le_refl _) (Nat.le_refl _) ?_
    exact ⟨by show some _ = some (Value.long (f_J9_max_f86c9 μ a1 a2)); unfold f_J9_max_f86c9; rw [if_pos h1], rfl⟩
  · refine vv_lload_n 6 0 dJ9_max_f86c9_6 rfl rfl ?_
    refine vv_goto 7 11 dJ9_max_f86c9_7 (by decide) ?_
    refine vv_lret 11 dJ9_max_f86c9_11 rfl (Nat.le_refl _) (Nat.le_refl _) ?_
    exact ⟨by show some _ = some (Value.long (f_J9_max_f86c9 μ a1 a2)); unfold f_J9_max_f86c9; rw [if_neg h1], rfl⟩
def f_J9_min_7cf53 (μ : sh_Mem) (a1 : Int32) (a2 : Int32) : Int32 := (if a2 < a1 then a2 else a1)
theorem c_J9_min_7cf53 (hG : sh_G μ)  {a1 : Int32} {a2 : Int32} : sh_C0 l B D ca 1 M_J9_min_7cf53 [.int a1, .int a2] μ (fun v μ' => v = some (.int (f_J9_min_7cf53 μ a1 a2)) ∧ μ' = μ) := by
  refine vv_iload_n 0 0 dJ9_min_7cf53_0 rfl rfl ?_
  refine vv_iload_n 1 1 dJ9_min_7cf53_1 rfl rfl ?_
  refine vv_icmp_gt 2 9 dJ9_min_7cf53_2 (by decide) (fun h1 => ?_) (fun h1 => ?_)
  · refine vv_iload_n 9 1 dJ9_min_7cf53_9 rfl rfl ?_
    refine vv_iret 10 dJ9_min_7cf53_10 rfl (Nat.le_refl _) (Nat.le_refl _) ?_
    exact ⟨by show some _ = some (Value.int (f_J9_min_7cf53 μ a1 a2)); unfold f_J9_min_7cf53; rw [if_pos h1], rfl⟩
  · refine vv_iload_n 5 0 dJ9_min_7cf53_5 rfl rfl ?_
    refine vv_goto 6 10 dJ9_min_7cf53_6 (by decide) ?_
    refine vv_iret 10 dJ9_min_7cf53_10 rfl (Nat.le_refl _) (Nat.le_refl _) ?_
    exact ⟨by show some _ = some (Value.int (f_J9_min_7cf53 μ a1 a2)); unfold f_J9_min_7cf53; rw [if_neg h1], rfl⟩
def f_J9_min_f86c9 (μ : sh_Mem) (a1 : Int64) (a2 : Int64) : Int64 := (if 0 < (lg_cmp a1 a2) then a2 else a1)
theorem c_J9_min_f86c9 (hG : sh_G μ)  {a1 : Int64} {a2 : Int64} : sh_C0 l B D ca 1 M_J9_min_f86c9 [.long a1, .long a2] μ (fun v μ' => v = some (.long (f_J9_min_f86c9 μ a1 a2)) ∧ μ' = μ) := by
  refine vv_lload_n 0 0 dJ9_min_f86c9_0 rfl rfl ?_
  refine vv_lload_n 1 2 dJ9_min_f86c9_1 rfl rfl ?_
  refine vv_lcmp 2 dJ9_min_f86c9_2 ?_
  refine vv_if_gt 3 10 dJ9_min_f86c9_3 (by decide) (fun h1 => ?_) (fun h1 => ?_)
  · refine vv_lload_n 10 2 dJ9_min_f86c9_10 rfl rfl ?_
    refine vv_lret 11 dJ9_min_f86c9_11 rfl (Nat.le_refl _) (Nat.le_refl _) ?_
    exact ⟨by show some _ = some (Value.long (f_J9_min_f86c9 μ a1 a2)); unfold f_J9_min_f86c9; rw [if_pos h1], rfl⟩
  · refine vv_lload_n 6 0 dJ9_min_f86c9_6 rfl rfl ?_
    refine vv_goto 7 11 dJ9_min_f86c9_7 (by decide) ?_
    refine vv_lret 11 dJ9_min_f86c9_11 rfl (Nat.le_refl _) (Nat.le_refl _) ?_
    exact ⟨by show some _ = some (Value.long (f_J9_min_f86c9 μ a1 a2)); unfold f_J9_min_f86c9; rw [if_neg h1], rfl⟩
noncomputable def F_J7_fill_53178 : Nat → Nat → Nat → Nat → Int32 → Int32 → Int32 → sh_Mem → Option sh_Mem
  | 0, _, _, _, _, _, _, _ => none
  | fuel + 1, lbl, n, r0, i1, i2, i3, μ => match lbl with
    | 1 => (if i3 ≤ i2 then some μ else (if sh_in i2 n then sh_let (sh_setI μ r0 i2.toNatClampNeg i1) (fun μ7 => F_J7_fill_53178 fuel 1 n r0 i1 (i2 + 1) i3 μ7) else none))
    | _ => none
noncomputable def f_J7_fill_53178 (g : Nat) (n : Nat) (a2 : Int32) (μ : sh_Mem) : Option sh_Mem := sh_let ((Int32.ofNat n) : Int32) (fun x8 => F_J7_fill_53178 sh_fuel 1 n g a2 0 x8 μ)
theorem gpl_J7_fill_53178 (fuel : Nat) : (∀ ⦃n : Nat⦄ ⦃r0 : Nat⦄ ⦃i1 : Int32⦄ ⦃i2 : Int32⦄ ⦃i3 : Int32⦄ ⦃μ μ' : sh_Mem⦄, sh_G μ → sh_LAY[r0]? = some (13, n) → F_J7_fill_53178 fuel 1 n r0 i1 i2 i3 μ = some μ' → sh_G μ') := by
  induction fuel with
  | zero => intro n r0 i1 i2 i3 μ μ' hG hr0 h; cases h
  | succ fuel ih =>
    have ih_5 := ih
    intro n r0 i1 i2 i3 μ μ' hG hr0 h
    replace h : ((if i3 ≤ i2 then some μ else (if sh_in i2 n then sh_let (sh_setI μ r0 i2.toNatClampNeg i1) (fun μ7 => F_J7_fill_53178 fuel 1 n r0 i1 (i2 + 1) i3 μ7) else none)) : Option sh_Mem) = some μ' := h
    by_cases c5 : i3 ≤ i2
    · rw [if_pos c5] at h
      have e2 := Option.some.inj h
      exact e2 ▸ hG
    · rw [if_neg c5] at h
      obtain ⟨k6, h⟩ := sh_chk h
      obtain ⟨μ7, eμ7⟩ : ∃ y : sh_Mem, y = (sh_setI μ r0 i2.toNatClampNeg i1) := ⟨_, rfl⟩
      rw [sh_let_eq eμ7] at h
      have hG7 : sh_G μ7 := by rw [eμ7]; exact hG
      exact ih_5 hG7 hr0 h
theorem tl_J7_fill_53178 (fuel : Nat) : (∀ ⦃n : Nat⦄ ⦃r0 : Nat⦄ ⦃i1 : Int32⦄ ⦃i2 : Int32⦄ ⦃i3 : Int32⦄ ⦃μ μ' : sh_Mem⦄, sh_G μ → sh_LAY[r0]? = some (13, n) → F_J7_fill_53178 fuel 1 n r0 i1 i2 i3 μ = some μ' → sh_V0 l B D ca 1 M_J7_fill_53178 5 [(0, .ref r0), (1, .int i1), (2, .int i2), (3, .int i3)] [] μ (fun v0 μ0 => v0 = none ∧ μ0 = μ')) := by
  induction fuel with
  | zero => intro n r0 i1 i2 i3 μ μ' hG hr0 h; cases h
  | succ fuel ih =>
    have ih_5 := ih
    intro n r0 i1 i2 i3 μ μ' hG hr0 h
    replace h : ((if i3 ≤ i2 then some μ else (if sh_in i2 n then sh_let (sh_setI μ r0 i2.toNatClampNeg i1) (fun μ7 => F_J7_fill_53178 fuel 1 n r0 i1 (i2 + 1) i3 μ7) else none)) : Option sh_Mem) = some μ' := h
    refine vv_iload_n 5 2 dJ7_fill_53178_5 rfl rfl ?_
    refine vv_iload_n 6 3 dJ7_fill_53178_6 rfl rfl ?_
    refine vv_icmp_ge 7 20 dJ7_fill_53178_7 (by decide) (fun c5 => ?_) (fun c5 => ?_)
    · rw [if_pos c5] at h
      have e2 := Option.some.inj h
      refine vv_vret 20 dJ7_fill_53178_20 rfl (Nat.le_refl _) (Nat.le_refl _) ⟨rfl, e2⟩
    · rw [if_neg c5] at h
      refine vv_aload_n 10 0 dJ7_fill_53178_10 rfl rfl ?_
      refine vv_iload_n 11 2 dJ7_fill_53178_11 rfl rfl ?_
      refine vv_iload_n 12 1 dJ7_fill_53178_12 rfl rfl ?_
      obtain ⟨k6, h⟩ := sh_chk h
      refine vn_iast 13 dJ7_fill_53178_13 (gA_l hG hr0) k6 (fun μ7 eμ7 => ?_)
      rw [sh_let_eq eμ7] at h
      have hG7 : sh_G μ7 := by rw [eμ7]; exact hG
      refine vv_iincc (lv' := [(2, _), (0, _), (1, _), (3, _)]) 14 2 dJ7_fill_53178_14 rfl ik_1 (by decide) rfl ?_
      refine vv_goto 17 5 dJ7_fill_53178_17 (by decide) ?_
      refine vv_sub [(0, _), (1, _), (2, _), (3, _)] (sh_subm [1, 2, 0, 3] rfl) ?_
      exact ih_5 hG7 hr0 h
theorem gp_J7_fill_53178 {g : Nat} {n : Nat} {a2 : Int32} {μ μ' : sh_Mem} (hG : sh_G μ) (hg : sh_LAY[g]? = some (13, n)) (h : f_J7_fill_53178 g n a2 μ = some μ') : sh_G μ' := by
  have ih_5 := (gpl_J7_fill_53178 sh_fuel)
  unfold f_J7_fill_53178 at h
  obtain ⟨x8, ex8⟩ : ∃ y : Int32, y = (Int32.ofNat n) := ⟨_, rfl⟩
  rw [sh_let_eq ex8] at h
  exact ih_5 hG hg h
theorem t_J7_fill_53178 {g : Nat} {n : Nat} {a2 : Int32} {μ μ' : sh_Mem} (hG : sh_G μ) (hg : sh_LAY[g]? = some (13, n)) (h : f_J7_fill_53178 g n a2 μ = some μ') : sh_C0 l B D ca 1 M_J7_fill_53178 [.ref g, .int a2] μ (fun v0 μ0 => v0 = none ∧ μ0 = μ') := by
  have ih_5 := (tl_J7_fill_53178 (l := l) (B := B) (D := D) (ca := ca) sh_fuel)
  unfold f_J7_fill_53178 at h
  refine vv_iconst 0 dJ7_fill_53178_0 ik_0 ?_
  refine vv_istore_n (lv' := [(2, _), (0, _), (1, _)]) 1 2 dJ7_fill_53178_1 rfl (by decide) rfl ?_
  refine vv_aload_n 2 0 dJ7_fill_53178_2 rfl rfl ?_
  refine vv_alen 3 dJ7_fill_53178_3 (gA_l hG hg) (by decide) ?_
  refine vv_topi (fun x8 ex8 => ?_)
  rw [sh_let_eq ex8] at h
  refine vv_istore_n (lv' := [(3, _), (2, _), (0, _), (1, _)]) 4 3 dJ7_fill_53178_4 rfl (by decide) rfl ?_
  refine vv_sub [(0, _), (1, _), (2, _), (3, _)] (sh_subm [2, 3, 1, 0] rfl) ?_
  exact ih_5 hG hg h
noncomputable def F_X0_learnOwnHeights : Nat → Nat → Nat → Int32 → Int32 → sh_Mem → Option sh_Mem
  | 0, _, _, _, _, _ => none
  | fuel + 1, lbl, r1, i2, i3, μ => match lbl with
    | 1 => (if (sh_r μ 55 0 = some (sh_ref μ 55 0) ∧ ((sh_ref μ 55 0) = 8 ∨ (sh_ref μ 55 0) = 29)) then sh_let (sh_ref μ 55 0) (fun r16 => (if (sh_i μ r16 3) ≤ i3 then some μ else (if (sh_r μ 55 0 = some (sh_ref μ 55 0) ∧ ((sh_ref μ 55 0) = 8 ∨ (sh_ref μ 55 0) = 29)) then sh_let (sh_ref μ 55 0) (fun r19 => (if sh_in i3 7 then (if sh_in i3 7 then sh_let ((f_X5_cellAt μ r19 (sh_i μ (r1 + 2) i3.toNatClampNeg) (sh_i μ (r1 + 3) i3.toNatClampNeg)) : Int32) (fun x22 => (if x22 = (-1) then (if sh_in ((i2 * 7) + i3) 896 then sh_let (sh_setI μ 217 (((i2 * 7) + i3)).toNatClampNeg 0) (fun μ28 => F_X0_learnOwnHeights fuel 1 r1 i2 (i3 + 1) μ28) else none) else (if sh_in x22 49 then (if sh_in ((i2 * 7) + i3) 896 then sh_let (sh_setI μ 217 (((i2 * 7) + i3)).toNatClampNeg (sh_i μ (r1 + 1) x22.toNatClampNeg)) (fun μ26 => F_X0_learnOwnHeights fuel 1 r1 i2 (i3 + 1) μ26) else none) else none))) else none) else none)) else none))) else none)
    | _ => none
noncomputable def f_X0_learnOwnHeights (q1 : Nat) (a2 : Int32) (μ : sh_Mem) : Option sh_Mem := F_X0_learnOwnHeights sh_fuel 1 q1 a2 0 μ
theorem gpl_X0_learnOwnHeights (fuel : Nat) : (∀ ⦃r1 : Nat⦄ ⦃i2 : Int32⦄ ⦃i3 : Int32⦄ ⦃μ μ' : sh_Mem⦄, sh_G μ → sh_isL r1 → F_X0_learnOwnHeights fuel 1 r1 i2 i3 μ = some μ' → sh_G μ') := by
  induction fuel with
  | zero => intro r1 i2 i3 μ μ' hG hr1 h; cases h
  | succ fuel ih =>
    have ih_2 := ih
    intro r1 i2 i3 μ μ' hG hr1 h
    replace h : ((if (sh_r μ 55 0 = some (sh_ref μ 55 0) ∧ ((sh_ref μ 55 0) = 8 ∨ (sh_ref μ 55 0) = 29)) then sh_let (sh_ref μ 55 0) (fun r16 => (if (sh_i μ r16 3) ≤ i3 then some μ else (if (sh_r μ 55 0 = some (sh_ref μ 55 0) ∧ ((sh_ref μ 55 0) = 8 ∨ (sh_ref μ 55 0) = 29)) then sh_let (sh_ref μ 55 0) (fun r19 => (if sh_in i3 7 then (if sh_in i3 7 then sh_let ((f_X5_cellAt μ r19 (sh_i μ (r1 + 2) i3.toNatClampNeg) (sh_i μ (r1 + 3) i3.toNatClampNeg)) : Int32) (fun x22 => (if x22 = (-1) then (if sh_in ((i2 * 7) + i3) 896 then sh_let (sh_setI μ 217 (((i2 * 7) + i3)).toNatClampNeg 0) (fun μ28 => F_X0_learnOwnHeights fuel 1 r1 i2 (i3 + 1) μ28) else none) else (if sh_in x22 49 then (if sh_in ((i2 * 7) + i3) 896 then sh_let (sh_setI μ 217 (((i2 * 7) + i3)).toNatClampNeg (sh_i μ (r1 + 1) x22.toNatClampNeg)) (fun μ26 => F_X0_learnOwnHeights fuel 1 r1 i2 (i3 + 1) μ26) else none) else none))) else none) else none)) else none))) else none) : Option sh_Mem) = some μ' := h
    obtain ⟨k15, h⟩ := sh_chk h
    obtain ⟨r16, er16⟩ : ∃ y : Nat, y = (sh_ref μ 55 0) := ⟨_, rfl⟩
    rw [sh_let_eq er16] at h
    have k15r : sh_r μ 55 0 = some r16 ∧ (r16 = 8 ∨ r16 = 29) := by rw [er16]; exact k15
    by_cases c17 : (sh_i μ r16 3) ≤ i3
    · rw [if_pos c17] at h
      have e2 := Option.some.inj h
      exact e2 ▸ hG
    · rw [if_neg c17] at h
      obtain ⟨k18, h⟩ := sh_chk h
      obtain ⟨r19, er19⟩ : ∃ y : Nat, y = (sh_ref μ 55 0) := ⟨_, rfl⟩
      rw [sh_let_eq er19] at h
      have k18r : sh_r μ 55 0 = some r19 ∧ (r19 = 8 ∨ r19 = 29) := by rw [er19]; exact k18
      obtain ⟨k20, h⟩ := sh_chk h
      obtain ⟨k21, h⟩ := sh_chk h
      obtain ⟨x22, ex22⟩ : ∃ y : Int32, y = (f_X5_cellAt μ r19 (sh_i μ (r1 + 2) i3.toNatClampNeg) (sh_i μ (r1 + 3) i3.toNatClampNeg)) := ⟨_, rfl⟩
      rw [sh_let_eq ex22] at h
      by_cases c23 : x22 = (-1)
      · rw [if_pos c23] at h
        obtain ⟨k27, h⟩ := sh_chk h
        obtain ⟨μ28, eμ28⟩ : ∃ y : sh_Mem, y = (sh_setI μ 217 (((i2 * 7) + i3)).toNatClampNeg 0) := ⟨_, rfl⟩
        rw [sh_let_eq eμ28] at h
        have hG28 : sh_G μ28 := by rw [eμ28]; exact hG
        exact ih_2 hG28 hr1 h
      · rw [if_neg c23] at h
        obtain ⟨k24, h⟩ := sh_chk h
        obtain ⟨k25, h⟩ := sh_chk h
        obtain ⟨μ26, eμ26⟩ : ∃ y : sh_Mem, y = (sh_setI μ 217 (((i2 * 7) + i3)).toNatClampNeg (sh_i μ (r1 + 1) x22.toNatClampNeg)) := ⟨_, rfl⟩
        rw [sh_let_eq eμ26] at h
        have hG26 : sh_G μ26 := by rw [eμ26]; exact hG
        exact ih_2 hG26 hr1 h
theorem tl_X0_learnOwnHeights (fuel : Nat) : (∀ ⦃r1 : Nat⦄ ⦃i2 : Int32⦄ ⦃i3 : Int32⦄ ⦃μ μ' : sh_Mem⦄, sh_G μ → sh_isL r1 → F_X0_learnOwnHeights fuel 1 r1 i2 i3 μ = some μ' → sh_V0 l B D ca 2 M_X0_learnOwnHeights 2 [(0, .ref 208), (1, .ref r1), (2, .int i2), (3, .int i3)] [] μ (fun v0 μ0 => v0 = none ∧ μ0 = μ')) := by
  induction fuel with
  | zero => intro r1 i2 i3 μ μ' hG hr1 h; cases h
  | succ fuel ih =>
    have ih_2 := ih
    intro r1 i2 i3 μ μ' hG hr1 h
    replace h : ((if (sh_r μ 55 0 = some (sh_ref μ 55 0) ∧ ((sh_ref μ 55 0) = 8 ∨ (sh_ref μ 55 0) = 29)) then sh_let (sh_ref μ 55 0) (fun r16 => (if (sh_i μ r16 3) ≤ i3 then some μ else (if (sh_r μ 55 0 = some (sh_ref μ 55 0) ∧ ((sh_ref μ 55 0) = 8 ∨ (sh_ref μ 55 0) = 29)) then sh_let (sh_ref μ 55 0) (fun r19 => (if sh_in i3 7 then (if sh_in i3 7 then sh_let ((f_X5_cellAt μ r19 (sh_i μ (r1 + 2) i3.toNatClampNeg) (sh_i μ (r1 + 3) i3.toNatClampNeg)) : Int32) (fun x22 => (if x22 = (-1) then (if sh_in ((i2 * 7) + i3) 896 then sh_let (sh_setI μ 217 (((i2 * 7) + i3)).toNatClampNeg 0) (fun μ28 => F_X0_learnOwnHeights fuel 1 r1 i2 (i3 + 1) μ28) else none) else (if sh_in x22 49 then (if sh_in ((i2 * 7) + i3) 896 then sh_let (sh_setI μ 217 (((i2 * 7) + i3)).toNatClampNeg (sh_i μ (r1 + 1) x22.toNatClampNeg)) (fun μ26 => F_X0_learnOwnHeights fuel 1 r1 i2 (i3 + 1) μ26) else none) else none))) else none) else none)) else none))) else none) : Option sh_Mem) = some μ' := h
    refine vv_iload_n 2 3 dX0_learnOwnHeights_2 rfl rfl ?_
    refine vv_aload_n 3 0 dX0_learnOwnHeights_3 rfl rfl ?_
    refine vv_getR 4 dX0_learnOwnHeights_4 fl_0_29 rfl (g_l_208 hG) (g_r_208_0 hG) ?_
    obtain ⟨k15, h⟩ := sh_chk h
    refine vv_getR 7 dX0_learnOwnHeights_7 fl_0_50 rfl (g_l_55 hG) k15.1 ?_
    refine vv_topr (fun r16 er16 => ?_)
    rw [sh_let_eq er16] at h
    have k15r : sh_r μ 55 0 = some r16 ∧ (r16 = 8 ∨ r16 = 29) := by rw [er16]; exact k15
    refine vv_getI 10 dX0_learnOwnHeights_10 fl_0_54 rfl (gP_l hG k15r.2) ?_
    refine vv_icmp_ge 13 74 dX0_learnOwnHeights_13 (by decide) (fun c17 => ?_) (fun c17 => ?_)
    · rw [if_pos c17] at h
      have e2 := Option.some.inj h
      refine vv_vret 74 dX0_learnOwnHeights_74 rfl (Nat.le_refl _) (Nat.le_refl _) ⟨rfl, e2⟩
    · rw [if_neg c17] at h
      refine vv_aload_n 16 0 dX0_learnOwnHeights_16 rfl rfl ?_
      refine vv_getR 17 dX0_learnOwnHeights_17 fl_0_29 rfl (g_l_208 hG) (g_r_208_0 hG) ?_
      obtain ⟨k18, h⟩ := sh_chk h
      refine vv_getR 20 dX0_learnOwnHeights_20 fl_0_50 rfl (g_l_55 hG) k18.1 ?_
      refine vv_topr (fun r19 er19 => ?_)
      rw [sh_let_eq er19] at h
      have k18r : sh_r μ 55 0 = some r19 ∧ (r19 = 8 ∨ r19 = 29) := by rw [er19]; exact k18
      refine vv_aload_n 23 1 dX0_learnOwnHeights_23 rfl rfl ?_
      refine vv_getR 24 dX0_learnOwnHeights_24 fl_0_59 rfl (gL_l hG hr1) (gL_r2 hG hr1) ?_
      refine vv_iload_n 27 3 dX0_learnOwnHeights_27 rfl rfl ?_
      obtain ⟨k20, h⟩ := sh_chk h
      refine vv_iald 28 dX0_learnOwnHeights_28 (gA_l hG (gLA2 hr1)) k20 ?_
      refine vv_aload_n 29 1 dX0_learnOwnHeights_29 rfl rfl ?_
      refine vv_getR 30 dX0_learnOwnHeights_30 fl_0_62 rfl (gL_l hG hr1) (gL_r3 hG hr1) ?_
      refine vv_iload_n 33 3 dX0_learnOwnHeights_33 rfl rfl ?_
      obtain ⟨k21, h⟩ := sh_chk h
      refine vv_iald 34 dX0_learnOwnHeights_34 (gA_l hG (gLA3 hr1)) k21 ?_
      refine v1_callV [_, _] 35 dX0_learnOwnHeights_35 ck_X0_65 (gP_l hG k18r.2) ⟨by decide, rfl⟩ (c_X5_cellAt (μ := μ) hG k18r.2) (Nat.le_of_ble_eq_true rfl) ⟨Nat.le_of_ble_eq_true rfl, Nat.le_of_ble_eq_true rfl⟩ rfl (Nat.le_of_ble_eq_true rfl) ?_
      refine vv_topi (fun x22 ex22 => ?_)
      rw [sh_let_eq ex22] at h
      refine vv_istore (lv' := [(4, _), (0, _), (1, _), (2, _), (3, _)]) 38 4 dX0_learnOwnHeights_38 (by decide) rfl ?_
      refine vv_aload_n 40 0 dX0_learnOwnHeights_40 rfl rfl ?_
      refine vv_getR 41 dX0_learnOwnHeights_41 fl_0_26 rfl (g_l_208 hG) (g_r_208_5 hG) ?_
      refine vv_iload_n 44 2 dX0_learnOwnHeights_44 rfl rfl ?_
      refine vv_bipush 45 dX0_learnOwnHeights_45 bk_7 ?_
      refine vv_imul 47 dX0_learnOwnHeights_47 ?_
      refine vv_iload_n 48 3 dX0_learnOwnHeights_48 rfl rfl ?_
      refine vv_iadd 49 dX0_learnOwnHeights_49 ?_
      refine vv_iload 50 4 dX0_learnOwnHeights_50 rfl ?_
      refine vv_iconst 52 dX0_learnOwnHeights_52 ik_m1 ?_
      refine vv_icmp_ne 53 60 dX0_learnOwnHeights_53 (by decide) (fun c23 => ?_) (fun c23 => ?_)
      · rw [if_neg c23] at h
        refine vv_aload_n 60 1 dX0_learnOwnHeights_60 rfl rfl ?_
        refine vv_getR 61 dX0_learnOwnHeights_61 fl_0_47 rfl (gL_l hG hr1) (gL_r1 hG hr1) ?_
        refine vv_iload 64 4 dX0_learnOwnHeights_64 rfl ?_
        obtain ⟨k24, h⟩ := sh_chk h
        refine vv_iald 66 dX0_learnOwnHeights_66 (gA_l hG (gLA1 hr1)) k24 ?_
        obtain ⟨k25, h⟩ := sh_chk h
        refine vn_iast 67 dX0_learnOwnHeights_67 (g_l_217 hG) k25 (fun μ26 eμ26 => ?_)
        rw [sh_let_eq eμ26] at h
        have hG26 : sh_G μ26 := by rw [eμ26]; exact hG
        refine vv_iincc (lv' := [(3, _), (4, _), (0, _), (1, _), (2, _)]) 68 3 dX0_learnOwnHeights_68 rfl ik_1 (by decide) rfl ?_
        refine vv_goto 71 2 dX0_learnOwnHeights_71 (by decide) ?_
        refine vv_sub [(0, _), (1, _), (2, _), (3, _)] (sh_subm [2, 3, 4, 0] rfl) ?_
        exact ih_2 hG26 hr1 h
      · rw [if_pos c23] at h
        refine vv_iconst 56 dX0_learnOwnHeights_56 ik_0 ?_
        refine vv_goto 57 67 dX0_learnOwnHeights_57 (by decide) ?_
        obtain ⟨k27, h⟩ := sh_chk h
        refine vn_iast 67 dX0_learnOwnHeights_67 (g_l_217 hG) k27 (fun μ28 eμ28 => ?_)
        rw [sh_let_eq eμ28] at h
        have hG28 : sh_G μ28 := by rw [eμ28]; exact hG
        refine vv_iincc (lv' := [(3, _), (4, _), (0, _), (1, _), (2, _)]) 68 3 dX0_learnOwnHeights_68 rfl ik_1 (by decide) rfl ?_
        refine vv_goto 71 2 dX0_learnOwnHeights_71 (by decide) ?_
        refine vv_sub [(0, _), (1, _), (2, _), (3, _)] (sh_subm [2, 3, 4, 0] rfl) ?_
        exact ih_2 hG28 hr1 h
theorem gp_X0_learnOwnHeights {q1 : Nat} {a2 : Int32} {μ μ' : sh_Mem} (hG : sh_G μ) (hq1 : sh_isL q1) (h : f_X0_learnOwnHeights q1 a2 μ = some μ') : sh_G μ' := by
  have ih_2 := (gpl_X0_learnOwnHeights sh_fuel)
  unfold f_X0_learnOwnHeights at h
  exact ih_2 hG hq1 h
theorem t_X0_learnOwnHeights {q1 : Nat} {a2 : Int32} {μ μ' : sh_Mem} (hG : sh_G μ) (hq1 : sh_isL q1) (h : f_X0_learnOwnHeights q1 a2 μ = some μ') : sh_C0 l B D ca 2 M_X0_learnOwnHeights [.ref 208, .ref q1, .int a2] μ (fun v0 μ0 => v0 = none ∧ μ0 = μ') := by
  have ih_2 := (tl_X0_learnOwnHeights (l := l) (B := B) (D := D) (ca := ca) sh_fuel)
  unfold f_X0_learnOwnHeights at h
  refine vv_iconst 0 dX0_learnOwnHeights_0 ik_0 ?_
  refine vv_istore_n (lv' := [(3, _), (0, _), (1, _), (2, _)]) 1 3 dX0_learnOwnHeights_1 rfl (by decide) rfl ?_
  refine vv_sub [(0, _), (1, _), (2, _), (3, _)] (sh_subm [1, 2, 3, 0] rfl) ?_
  exact ih_2 hG hq1 h
noncomputable def F_X0_isAsSeen : Nat → Nat → Nat → Int32 → Int32 → sh_Mem → Option (Int32 × sh_Mem)
  | 0, _, _, _, _, _ => none
  | fuel + 1, lbl, r1, i2, i3, μ => match lbl with
    | 1 => (if ((sh_i μ 208 4) * 4) ≤ i3 then some (1, μ) else (if (Int32.ofNat 64) < (i3 + 4) then some (1, μ) else (if sh_in i3 64 then (if (sh_i μ 216 i3.toNatClampNeg) = i2 then (if (sh_r μ 55 0 = some (sh_ref μ 55 0) ∧ ((sh_ref μ 55 0) = 8 ∨ (sh_ref μ 55 0) = 29)) then sh_let (sh_ref μ 55 0) (fun r20 => (if sh_in (i3 + 1) 64 then (if sh_in (i3 + 2) 64 then sh_let ((f_X5_cellAt μ r20 (sh_i μ 216 ((i3 + 1)).toNatClampNeg) (sh_i μ 216 ((i3 + 2)).toNatClampNeg)) : Int32) (fun x23 => (if 999 < (sh_i μ r1 0) then some (0, μ) else (if x23 = (-1) then some (0, μ) else (if sh_in x23 49 then (if sh_in (i3 + 3) 64 then (if (sh_i μ (r1 + 1) x23.toNatClampNeg) = (sh_i μ 216 ((i3 + 3)).toNatClampNeg) then F_X0_isAsSeen fuel 1 r1 i2 (i3 + 4) μ else some (0, μ)) else none) else none)))) else none) else none)) else none) else F_X0_isAsSeen fuel 1 r1 i2 (i3 + 4) μ) else none)))
    | _ => none
noncomputable def f_X0_isAsSeen (q1 : Nat) (a2 : Int32) (μ : sh_Mem) : Option (Int32 × sh_Mem) := F_X0_isAsSeen sh_fuel 1 q1 a2 0 μ
theorem gpl_X0_isAsSeen (fuel : Nat) : (∀ ⦃r1 : Nat⦄ ⦃i2 : Int32⦄ ⦃i3 : Int32⦄ ⦃μ μ' : sh_Mem⦄ ⦃v : Int32⦄, sh_G μ → sh_isL r1 → F_X0_isAsSeen fuel 1 r1 i2 i3 μ = some (v, μ') → sh_G μ') := by
  induction fuel with
  | zero => intro r1 i2 i3 μ μ' v hG hr1 h; cases h
  | succ fuel ih =>
    have ih_2 := ih
    intro r1 i2 i3 μ μ' v hG hr1 h
    replace h : ((if ((sh_i μ 208 4) * 4) ≤ i3 then some (1, μ) else (if (Int32.ofNat 64) < (i3 + 4) then some (1, μ) else (if sh_in i3 64 then (if (sh_i μ 216 i3.toNatClampNeg) = i2 then (if (sh_r μ 55 0 = some (sh_ref μ 55 0) ∧ ((sh_ref μ 55 0) = 8 ∨ (sh_ref μ 55 0) = 29)) then sh_let (sh_ref μ 55 0) (fun r20 => (if sh_in (i3 + 1) 64 then (if sh_in (i3 + 2) 64 then sh_let ((f_X5_cellAt μ r20 (sh_i μ 216 ((i3 + 1)).toNatClampNeg) (sh_i μ 216 ((i3 + 2)).toNatClampNeg)) : Int32) (fun x23 => (if 999 < (sh_i μ r1 0) then some (0, μ) else (if x23 = (-1) then some (0, μ) else (if sh_in x23 49 then (if sh_in (i3 + 3) 64 then (if (sh_i μ (r1 + 1) x23.toNatClampNeg) = (sh_i μ 216 ((i3 + 3)).toNatClampNeg) then F_X0_isAsSeen fuel 1 r1 i2 (i3 + 4) μ else some (0, μ)) else none) else none)))) else none) else none)) else none) else F_X0_isAsSeen fuel 1 r1 i2 (i3 + 4) μ) else none))) : Option (Int32 × sh_Mem)) = some (v, μ') := h
    by_cases c15 : ((sh_i μ 208 4) * 4) ≤ i3
    · rw [if_pos c15] at h
      obtain ⟨e1, e2⟩ := sh_some2 h
      exact e2 ▸ hG
    · rw [if_neg c15] at h
      by_cases c16 : (Int32.ofNat 64) < (i3 + 4)
      · rw [if_pos c16] at h
        obtain ⟨e1, e2⟩ := sh_some2 h
        exact e2 ▸ hG
      · rw [if_neg c16] at h
        obtain ⟨k17, h⟩ := sh_chk h
        by_cases c18 : (sh_i μ 216 i3.toNatClampNeg) = i2
        · rw [if_pos c18] at h
          obtain ⟨k19, h⟩ := sh_chk h
          obtain ⟨r20, er20⟩ : ∃ y : Nat, y = (sh_ref μ 55 0) := ⟨_, rfl⟩
          rw [sh_let_eq er20] at h
          have k19r : sh_r μ 55 0 = some r20 ∧ (r20 = 8 ∨ r20 = 29) := by rw [er20]; exact k19
          obtain ⟨k21, h⟩ := sh_chk h
          obtain ⟨k22, h⟩ := sh_chk h
          obtain ⟨x23, ex23⟩ : ∃ y : Int32, y = (f_X5_cellAt μ r20 (sh_i μ 216 ((i3 + 1)).toNatClampNeg) (sh_i μ 216 ((i3 + 2)).toNatClampNeg)) := ⟨_, rfl⟩
          rw [sh_let_eq ex23] at h
          by_cases c24 : 999 < (sh_i μ r1 0)
          · rw [if_pos c24] at h
            obtain ⟨e1, e2⟩ := sh_some2 h
            exact e2 ▸ hG
          · rw [if_neg c24] at h
            by_cases c25 : x23 = (-1)
            · rw [if_pos c25] at h
              obtain ⟨e1, e2⟩ := sh_some2 h
              exact e2 ▸ hG
            · rw [if_neg c25] at h
              obtain ⟨k26, h⟩ := sh_chk h
              obtain ⟨k27, h⟩ := sh_chk h
              by_cases c28 : (sh_i μ (r1 + 1) x23.toNatClampNeg) = (sh_i μ 216 ((i3 + 3)).toNatClampNeg)
              · rw [if_pos c28] at h
                exact ih_2 hG hr1 h
              · rw [if_neg c28] at h
                obtain ⟨e1, e2⟩ := sh_some2 h
                exact e2 ▸ hG
        · rw [if_neg c18] at h
          exact ih_2 hG hr1 h
theorem tl_X0_isAsSeen (fuel : Nat) : (∀ ⦃r1 : Nat⦄ ⦃i2 : Int32⦄ ⦃i3 : Int32⦄ ⦃μ μ' : sh_Mem⦄ ⦃v : Int32⦄, sh_G μ → sh_isL r1 → F_X0_isAsSeen fuel 1 r1 i2 i3 μ = some (v, μ') → sh_V0 l B D ca 2 M_X0_isAsSeen 2 [(0, .ref 208), (1, .ref r1), (2, .int i2), (3, .int i3)] [] μ (fun v0 μ0 => v0 = some (.int v) ∧ μ0 = μ')) := by
  induction fuel with
  | zero => intro r1 i2 i3 μ μ' v hG hr1 h; cases h
  | succ fuel ih =>
    have ih_2 := ih
    intro r1 i2 i3 μ μ' v hG hr1 h
    replace h : ((if ((sh_i μ 208 4) * 4) ≤ i3 then some (1, μ) else (if (Int32.ofNat 64) < (i3 + 4) then some (1, μ) else (if sh_in i3 64 then (if (sh_i μ 216 i3.toNatClampNeg) = i2 then (if (sh_r μ 55 0 = some (sh_ref μ 55 0) ∧ ((sh_ref μ 55 0) = 8 ∨ (sh_ref μ 55 0) = 29)) then sh_let (sh_ref μ 55 0) (fun r20 => (if sh_in (i3 + 1) 64 then (if sh_in (i3 + 2) 64 then sh_let ((f_X5_cellAt μ r20 (sh_i μ 216 ((i3 + 1)).toNatClampNeg) (sh_i μ 216 ((i3 + 2)).toNatClampNeg)) : Int32) (fun x23 => (if 999 < (sh_i μ r1 0) then some (0, μ) else (if x23 = (-1) then some (0, μ) else (if sh_in x23 49 then (if sh_in (i3 + 3) 64 then (if (sh_i μ (r1 + 1) x23.toNatClampNeg) = (sh_i μ 216 ((i3 + 3)).toNatClampNeg) then F_X0_isAsSeen fuel 1 r1 i2 (i3 + 4) μ else some (0, μ)) else none) else none)))) else none) else none)) else none) else F_X0_isAsSeen fuel 1 r1 i2 (i3 + 4) μ) else none))) : Option (Int32 × sh_Mem)) = some (v, μ') := h
    refine vv_iload_n 2 3 dX0_isAsSeen_2 rfl rfl ?_
    refine vv_aload_n 3 0 dX0_isAsSeen_3 rfl rfl ?_
    refine vv_getI 4 dX0_isAsSeen_4 fl_0_73 rfl (g_l_208 hG) ?_
    refine vv_iconst 7 dX0_isAsSeen_7 ik_4 ?_
    refine vv_imul 8 dX0_isAsSeen_8 ?_
    refine vv_icmp_ge 9 103 dX0_isAsSeen_9 (by decide) (fun c15 => ?_) (fun c15 => ?_)
    · rw [if_pos c15] at h
      refine vv_iconst 103 dX0_isAsSeen_103 ik_1 ?_
      obtain ⟨e1, e2⟩ := sh_some2 h
      refine vv_zret 104 dX0_isAsSeen_104 rfl rfl (Nat.le_refl _) (Nat.le_refl _) ⟨by rw [e1], e2⟩
    · rw [if_neg c15] at h
      refine vv_iload_n 12 3 dX0_isAsSeen_12 rfl rfl ?_
      refine vv_iconst 13 dX0_isAsSeen_13 ik_4 ?_
      refine vv_iadd 14 dX0_isAsSeen_14 ?_
      refine vv_aload_n 15 0 dX0_isAsSeen_15 rfl rfl ?_
      refine vv_getR 16 dX0_isAsSeen_16 fl_0_22 rfl (g_l_208 hG) (g_r_208_3 hG) ?_
      refine vv_alen 19 dX0_isAsSeen_19 (g_l_216 hG) (by decide) ?_
      refine vv_icmp_gt 20 103 dX0_isAsSeen_20 (by decide) (fun c16 => ?_) (fun c16 => ?_)
      · rw [if_pos c16] at h
        refine vv_iconst 103 dX0_isAsSeen_103 ik_1 ?_
        obtain ⟨e1, e2⟩ := sh_some2 h
        refine vv_zret 104 dX0_isAsSeen_104 rfl rfl (Nat.le_refl _) (Nat.le_refl _) ⟨by rw [e1], e2⟩
      · rw [if_neg c16] at h
        refine vv_aload_n 23 0 dX0_isAsSeen_23 rfl rfl ?_
        refine vv_getR 24 dX0_isAsSeen_24 fl_0_22 rfl (g_l_208 hG) (g_r_208_3 hG) ?_
        refine vv_iload_n 27 3 dX0_isAsSeen_27 rfl rfl ?_
        obtain ⟨k17, h⟩ := sh_chk h
        refine vv_iald 28 dX0_isAsSeen_28 (g_l_216 hG) k17 ?_
        refine vv_iload_n 29 2 dX0_isAsSeen_29 rfl rfl ?_
        refine vv_icmp_ne 30 97 dX0_isAsSeen_30 (by decide) (fun c18 => ?_) (fun c18 => ?_)
        · rw [if_neg c18] at h
          refine vv_iincc (lv' := [(3, _), (0, _), (1, _), (2, _)]) 97 3 dX0_isAsSeen_97 rfl ik_4 (by decide) rfl ?_
          refine vv_goto 100 2 dX0_isAsSeen_100 (by decide) ?_
          refine vv_sub [(0, _), (1, _), (2, _), (3, _)] (sh_subm [1, 2, 3, 0] rfl) ?_
          exact ih_2 hG hr1 h
        · rw [if_pos c18] at h
          refine vv_aload_n 33 0 dX0_isAsSeen_33 rfl rfl ?_
          refine vv_getR 34 dX0_isAsSeen_34 fl_0_29 rfl (g_l_208 hG) (g_r_208_0 hG) ?_
          obtain ⟨k19, h⟩ := sh_chk h
          refine vv_getR 37 dX0_isAsSeen_37 fl_0_50 rfl (g_l_55 hG) k19.1 ?_
          refine vv_topr (fun r20 er20 => ?_)
          rw [sh_let_eq er20] at h
          have k19r : sh_r μ 55 0 = some r20 ∧ (r20 = 8 ∨ r20 = 29) := by rw [er20]; exact k19
          refine vv_aload_n 40 0 dX0_isAsSeen_40 rfl rfl ?_
          refine vv_getR 41 dX0_isAsSeen_41 fl_0_22 rfl (g_l_208 hG) (g_r_208_3 hG) ?_
          refine vv_iload_n 44 3 dX0_isAsSeen_44 rfl rfl ?_
          refine vv_iconst 45 dX0_isAsSeen_45 ik_1 ?_
          refine vv_iadd 46 dX0_isAsSeen_46 ?_
          obtain ⟨k21, h⟩ := sh_chk h
          refine vv_iald 47 dX0_isAsSeen_47 (g_l_216 hG) k21 ?_
          refine vv_aload_n 48 0 dX0_isAsSeen_48 rfl rfl ?_
          refine vv_getR 49 dX0_isAsSeen_49 fl_0_22 rfl (g_l_208 hG) (g_r_208_3 hG) ?_
          refine vv_iload_n 52 3 dX0_isAsSeen_52 rfl rfl ?_
          refine vv_iconst 53 dX0_isAsSeen_53 ik_2 ?_
          refine vv_iadd 54 dX0_isAsSeen_54 ?_
          obtain ⟨k22, h⟩ := sh_chk h
          refine vv_iald 55 dX0_isAsSeen_55 (g_l_216 hG) k22 ?_
          refine v1_callV [_, _] 56 dX0_isAsSeen_56 ck_X0_65 (gP_l hG k19r.2) ⟨by decide, rfl⟩ (c_X5_cellAt (μ := μ) hG k19r.2) (Nat.le_of_ble_eq_true rfl) ⟨Nat.le_of_ble_eq_true rfl, Nat.le_of_ble_eq_true rfl⟩ rfl (Nat.le_of_ble_eq_true rfl) ?_
          refine vv_topi (fun x23 ex23 => ?_)
          rw [sh_let_eq ex23] at h
          refine vv_istore (lv' := [(4, _), (0, _), (1, _), (2, _), (3, _)]) 59 4 dX0_isAsSeen_59 (by decide) rfl ?_
          refine vv_aload_n 61 1 dX0_isAsSeen_61 rfl rfl ?_
          refine vv_getI 62 dX0_isAsSeen_62 fl_0_43 rfl (gL_l hG hr1) ?_
          refine vv_sipush 65 dX0_isAsSeen_65 sk_999 ?_
          refine vv_icmp_gt 68 95 dX0_isAsSeen_68 (by decide) (fun c24 => ?_) (fun c24 => ?_)
          · rw [if_pos c24] at h
            refine vv_iconst 95 dX0_isAsSeen_95 ik_0 ?_
            obtain ⟨e1, e2⟩ := sh_some2 h
            refine vv_zret 96 dX0_isAsSeen_96 rfl rfl (Nat.le_refl _) (Nat.le_refl _) ⟨by rw [e1], e2⟩
          · rw [if_neg c24] at h
            refine vv_iload 71 4 dX0_isAsSeen_71 rfl ?_
            refine vv_iconst 73 dX0_isAsSeen_73 ik_m1 ?_
            refine vv_icmp_eq 74 95 dX0_isAsSeen_74 (by decide) (fun c25 => ?_) (fun c25 => ?_)
            · rw [if_pos c25] at h
              refine vv_iconst 95 dX0_isAsSeen_95 ik_0 ?_
              obtain ⟨e1, e2⟩ := sh_some2 h
              refine vv_zret 96 dX0_isAsSeen_96 rfl rfl (Nat.le_refl _) (Nat.le_refl _) ⟨by rw [e1], e2⟩
            · rw [if_neg c25] at h
              refine vv_aload_n 77 1 dX0_isAsSeen_77 rfl rfl ?_
              refine vv_getR 78 dX0_isAsSeen_78 fl_0_47 rfl (gL_l hG hr1) (gL_r1 hG hr1) ?_
              refine vv_iload 81 4 dX0_isAsSeen_81 rfl ?_
              obtain ⟨k26, h⟩ := sh_chk h
              refine vv_iald 83 dX0_isAsSeen_83 (gA_l hG (gLA1 hr1)) k26 ?_
              refine vv_aload_n 84 0 dX0_isAsSeen_84 rfl rfl ?_
              refine vv_getR 85 dX0_isAsSeen_85 fl_0_22 rfl (g_l_208 hG) (g_r_208_3 hG) ?_
              refine vv_iload_n 88 3 dX0_isAsSeen_88 rfl rfl ?_
              refine vv_iconst 89 dX0_isAsSeen_89 ik_3 ?_
              refine vv_iadd 90 dX0_isAsSeen_90 ?_
              obtain ⟨k27, h⟩ := sh_chk h
              refine vv_iald 91 dX0_isAsSeen_91 (g_l_216 hG) k27 ?_
              refine vv_icmp_eq 92 97 dX0_isAsSeen_92 (by decide) (fun c28 => ?_) (fun c28 => ?_)
              · rw [if_pos c28] at h
                refine vv_iincc (lv' := [(3, _), (4, _), (0, _), (1, _), (2, _)]) 97 3 dX0_isAsSeen_97 rfl ik_4 (by decide) rfl ?_
                refine vv_goto 100 2 dX0_isAsSeen_100 (by decide) ?_
                refine vv_sub [(0, _), (1, _), (2, _), (3, _)] (sh_subm [2, 3, 4, 0] rfl) ?_
                exact ih_2 hG hr1 h
              · rw [if_neg c28] at h
                refine vv_iconst 95 dX0_isAsSeen_95 ik_0 ?_
                obtain ⟨e1, e2⟩ := sh_some2 h
                refine vv_zret 96 dX0_isAsSeen_96 rfl rfl (Nat.le_refl _) (Nat.le_refl _) ⟨by rw [e1], e2⟩
theorem gp_X0_isAsSeen {q1 : Nat} {a2 : Int32} {μ μ' : sh_Mem} {v : Int32} (hG : sh_G μ) (hq1 : sh_isL q1) (h : f_X0_isAsSeen q1 a2 μ = some (v, μ')) : sh_G μ' := by
  have ih_2 := (gpl_X0_isAsSeen sh_fuel)
  unfold f_X0_isAsSeen at h
  exact ih_2 hG hq1 h
theorem t_X0_isAsSeen {q1 : Nat} {a2 : Int32} {μ μ' : sh_Mem} {v : Int32} (hG : sh_G μ) (hq1 : sh_isL q1) (h : f_X0_isAsSeen q1 a2 μ = some (v, μ')) : sh_C0 l B D ca 2 M_X0_isAsSeen [.ref 208, .ref q1, .int a2] μ (fun v0 μ0 => v0 = some (.int v) ∧ μ0 = μ') := by
  have ih_2 := (tl_X0_isAsSeen (l := l) (B := B) (D := D) (ca := ca) sh_fuel)
  unfold f_X0_isAsSeen at h
  refine vv_iconst 0 dX0_isAsSeen_0 ik_0 ?_
  refine vv_istore_n (lv' := [(3, _), (0, _), (1, _), (2, _)]) 1 3 dX0_isAsSeen_1 rfl (by decide) rfl ?_
  refine vv_sub [(0, _), (1, _), (2, _), (3, _)] (sh_subm [1, 2, 3, 0] rfl) ?_
  exact ih_2 hG hq1 h
noncomputable def f_X1_ofTwo (a1 : Int32) (a2 : Int64) (a3 : Int64) (μ : sh_Mem) : Option (Int64 × sh_Mem) := (if a1 = (-162) then (if (lg_cmp a2 a3) ≤ 0 then some (0, μ) else some (1, μ)) else (if a1 = (-161) then (if (lg_cmp a2 a3) = 0 then some (1, μ) else some (0, μ)) else (if a1 = (-160) then (if 0 ≤ (lg_cmp a2 a3) then some (0, μ) else some (1, μ)) else (if a1 = (-147) then (if (lg_cmp a3 0) = 0 then some (0, μ) else sh_bind (f_J9_floorDiv_f86c9 a2 a3 μ) (fun y11 μ9 => some (y11, μ9))) else (if a1 = (-145) then some ((f_J9_max_f86c9 μ (-1000000) (f_J9_min_f86c9 μ 1000000 (a2 - a3))), μ) else (if a1 = (-143) then some ((f_J9_max_f86c9 μ (-1000000) (f_J9_min_f86c9 μ 1000000 (a2 + a3))), μ) else (if a1 = (-142) then some ((f_J9_max_f86c9 μ (-1000000) (f_J9_min_f86c9 μ 1000000 (a2 * a3))), μ) else (if a1 = (-26) then some ((f_J9_min_f86c9 μ a2 a3), μ) else (if a1 = (-23) then some ((f_J9_min_f86c9 μ a2 a3), μ) else some ((f_J9_max_f86c9 μ a2 a3), μ))))))))))
theorem gp_X1_ofTwo {a1 : Int32} {a2 : Int64} {a3 : Int64} {μ μ' : sh_Mem} {v : Int64} (hG : sh_G μ) (h : f_X1_ofTwo a1 a2 a3 μ = some (v, μ')) : sh_G μ' := by
  unfold f_X1_ofTwo at h
  by_cases c1 : a1 = (-162)
  · rw [if_pos c1] at h
    by_cases c2 : (lg_cmp a2 a3) ≤ 0
    · rw [if_pos c2] at h
      obtain ⟨e1, e2⟩ := sh_some2 h
      exact e2 ▸ hG
    · rw [if_neg c2] at h
      obtain ⟨e1, e2⟩ := sh_some2 h
      exact e2 ▸ hG
  rw [if_neg c1] at h
  by_cases c3 : a1 = (-161)
  · rw [if_pos c3] at h
    by_cases c4 : (lg_cmp a2 a3) = 0
    · rw [if_pos c4] at h
      obtain ⟨e1, e2⟩ := sh_some2 h
      exact e2 ▸ hG
    · rw [if_neg c4] at h
      obtain ⟨e1, e2⟩ := sh_some2 h
      exact e2 ▸ hG
  rw [if_neg c3] at h
  by_cases c5 : a1 = (-160)
  · rw [if_pos c5] at h
    by_cases c6 : 0 ≤ (lg_cmp a2 a3)
    · rw [if_pos c6] at h
      obtain ⟨e1, e2⟩ := sh_some2 h
      exact e2 ▸ hG
    · rw [if_neg c6] at h
      obtain ⟨e1, e2⟩ := sh_some2 h
      exact e2 ▸ hG
  rw [if_neg c5] at h
  by_cases c7 : a1 = (-147)
  · rw [if_pos c7] at h
    by_cases c8 : (lg_cmp a3 0) = 0
    · rw [if_pos c8] at h
      obtain ⟨e1, e2⟩ := sh_some2 h
      exact e2 ▸ hG
    · rw [if_neg c8] at h
      obtain ⟨y11, μ9, hr10, h⟩ := sh_bind_e h
      have hG9 := gp_J9_floorDiv_f86c9 hG hr10
      obtain ⟨e1, e2⟩ := sh_some2 h
      exact e2 ▸ hG9
  rw [if_neg c7] at h
  by_cases c12 : a1 = (-145)
  · rw [if_pos c12] at h
    obtain ⟨e1, e2⟩ := sh_some2 h
    exact e2 ▸ hG
  rw [if_neg c12] at h
  by_cases c13 : a1 = (-143)
  · rw [if_pos c13] at h
    obtain ⟨e1, e2⟩ := sh_some2 h
    exact e2 ▸ hG
  rw [if_neg c13] at h
  by_cases c14 : a1 = (-142)
  · rw [if_pos c14] at h
    obtain ⟨e1, e2⟩ := sh_some2 h
    exact e2 ▸ hG
  rw [if_neg c14] at h
  by_cases c15 : a1 = (-26)
  · rw [if_pos c15] at h
    obtain ⟨e1, e2⟩ := sh_some2 h
    exact e2 ▸ hG
  rw [if_neg c15] at h
  by_cases c16 : a1 = (-23)
  · rw [if_pos c16] at h
    obtain ⟨e1, e2⟩ := sh_some2 h
    exact e2 ▸ hG
  rw [if_neg c16] at h
  obtain ⟨e1, e2⟩ := sh_some2 h
  exact e2 ▸ hG
theorem t_X1_ofTwo {a1 : Int32} {a2 : Int64} {a3 : Int64} {μ μ' : sh_Mem} {v : Int64} (hG : sh_G μ) (h : f_X1_ofTwo a1 a2 a3 μ = some (v, μ')) : sh_C0 l B D ca 2 M_X1_ofTwo [.int a1, .long a2, .long a3] μ (fun v0 μ0 => v0 = some (.long v) ∧ μ0 = μ') := by
  unfold f_X1_ofTwo at h
  refine vv_iload_n 0 0 dX1_ofTwo_0 rfl rfl ?_
  by_cases c1 : a1 = (-162)
  · rw [if_pos c1] at h
    refine vv_lookup 1 160 dX1_ofTwo_1 (by decide) (off := 159) (by rw [c1]; decide) (by decide) ?_
    refine vv_lload_n 160 1 dX1_ofTwo_160 rfl rfl ?_
    refine vv_lload_n 161 3 dX1_ofTwo_161 rfl rfl ?_
    refine vv_lcmp 162 dX1_ofTwo_162 ?_
    refine vv_if_le 163 170 dX1_ofTwo_163 (by decide) (fun c2 => ?_) (fun c2 => ?_)
    · rw [if_pos c2] at h
      refine vv_lconst 170 dX1_ofTwo_170 lk_0 ?_
      obtain ⟨e1, e2⟩ := sh_some2 h
      refine vv_lret 171 dX1_ofTwo_171 rfl (Nat.le_refl _) (Nat.le_refl _) ⟨by rw [e1], e2⟩
    · rw [if_neg c2] at h
      refine vv_lconst 166 dX1_ofTwo_166 lk_1 ?_
      refine vv_goto 167 171 dX1_ofTwo_167 (by decide) ?_
      obtain ⟨e1, e2⟩ := sh_some2 h
      refine vv_lret 171 dX1_ofTwo_171 rfl (Nat.le_refl _) (Nat.le_refl _) ⟨by rw [e1], e2⟩
  rw [if_neg c1] at h
  by_cases c3 : a1 = (-161)
  · rw [if_pos c3] at h
    refine vv_lookup 1 172 dX1_ofTwo_1 (by decide) (off := 171) (by rw [c3]; decide) (by decide) ?_
    refine vv_lload_n 172 1 dX1_ofTwo_172 rfl rfl ?_
    refine vv_lload_n 173 3 dX1_ofTwo_173 rfl rfl ?_
    refine vv_lcmp 174 dX1_ofTwo_174 ?_
    refine vv_if_ne 175 182 dX1_ofTwo_175 (by decide) (fun c4 => ?_) (fun c4 => ?_)
    · rw [if_neg c4] at h
      refine vv_lconst 182 dX1_ofTwo_182 lk_0 ?_
      obtain ⟨e1, e2⟩ := sh_some2 h
      refine vv_lret 183 dX1_ofTwo_183 rfl (Nat.le_refl _) (Nat.le_refl _) ⟨by rw [e1], e2⟩
    · rw [if_pos c4] at h
      refine vv_lconst 178 dX1_ofTwo_178 lk_1 ?_
      refine vv_goto 179 183 dX1_ofTwo_179 (by decide) ?_
      obtain ⟨e1, e2⟩ := sh_some2 h
      refine vv_lret 183 dX1_ofTwo_183 rfl (Nat.le_refl _) (Nat.le_refl _) ⟨by rw [e1], e2⟩
  rw [if_neg c3] at h
  by_cases c5 : a1 = (-160)
  · rw [if_pos c5] at h
    refine vv_lookup 1 148 dX1_ofTwo_1 (by decide) (off := 147) (by rw [c5]; decide) (by decide) ?_
    refine vv_lload_n 148 1 dX1_ofTwo_148 rfl rfl ?_
    refine vv_lload_n 149 3 dX1_ofTwo_149 rfl rfl ?_
    refine vv_lcmp 150 dX1_ofTwo_150 ?_
    refine vv_if_ge 151 158 dX1_ofTwo_151 (by decide) (fun c6 => ?_) (fun c6 => ?_)
    · rw [if_pos c6] at h
      refine vv_lconst 158 dX1_ofTwo_158 lk_0 ?_
      obtain ⟨e1, e2⟩ := sh_some2 h
      refine vv_lret 159 dX1_ofTwo_159 rfl (Nat.le_refl _) (Nat.le_refl _) ⟨by rw [e1], e2⟩
    · rw [if_neg c6] at h
      refine vv_lconst 154 dX1_ofTwo_154 lk_1 ?_
      refine vv_goto 155 159 dX1_ofTwo_155 (by decide) ?_
      obtain ⟨e1, e2⟩ := sh_some2 h
      refine vv_lret 159 dX1_ofTwo_159 rfl (Nat.le_refl _) (Nat.le_refl _) ⟨by rw [e1], e2⟩
  rw [if_neg c5] at h
  by_cases c7 : a1 = (-147)
  · rw [if_pos c7] at h
    refine vv_lookup 1 132 dX1_ofTwo_1 (by decide) (off := 131) (by rw [c7]; decide) (by decide) ?_
    refine vv_lload_n 132 3 dX1_ofTwo_132 rfl rfl ?_
    refine vv_lconst 133 dX1_ofTwo_133 lk_0 ?_
    refine vv_lcmp 134 dX1_ofTwo_134 ?_
    refine vv_if_ne 135 142 dX1_ofTwo_135 (by decide) (fun c8 => ?_) (fun c8 => ?_)
    · rw [if_neg c8] at h
      refine vv_lload_n 142 1 dX1_ofTwo_142 rfl rfl ?_
      refine vv_lload_n 143 3 dX1_ofTwo_143 rfl rfl ?_
      obtain ⟨y11, μ9, hr10, h⟩ := sh_bind_e h
      refine v1_callS [_, _] 144 dX1_ofTwo_144 ck_X1_54 (t_J9_floorDiv_f86c9 hG hr10) (Nat.le_of_ble_eq_true rfl) ⟨Nat.le_of_ble_eq_true rfl, Nat.le_of_ble_eq_true rfl⟩ rfl (Nat.le_of_ble_eq_true rfl) ?_
      have hG9 := gp_J9_floorDiv_f86c9 hG hr10
      obtain ⟨e1, e2⟩ := sh_some2 h
      refine vv_lret 147 dX1_ofTwo_147 rfl (Nat.le_refl _) (Nat.le_refl _) ⟨by rw [e1], e2⟩
    · rw [if_pos c8] at h
      refine vv_lconst 138 dX1_ofTwo_138 lk_0 ?_
      refine vv_goto 139 147 dX1_ofTwo_139 (by decide) ?_
      obtain ⟨e1, e2⟩ := sh_some2 h
      refine vv_lret 147 dX1_ofTwo_147 rfl (Nat.le_refl _) (Nat.le_refl _) ⟨by rw [e1], e2⟩
  rw [if_neg c7] at h
  by_cases c12 : a1 = (-145)
  · rw [if_pos c12] at h
    refine vv_lookup 1 100 dX1_ofTwo_1 (by decide) (off := 99) (by rw [c12]; decide) (by decide) ?_
    refine vv_ldc2 100 dX1_ofTwo_100 kl_1_41 ?_
    refine vv_ldc2 103 dX1_ofTwo_103 kl_1_43 ?_
    refine vv_lload_n 106 1 dX1_ofTwo_106 rfl rfl ?_
    refine vv_lload_n 107 3 dX1_ofTwo_107 rfl rfl ?_
    refine vv_lsub 108 dX1_ofTwo_108 ?_
    refine v1_callS [_, _] 109 dX1_ofTwo_109 ck_X1_45 (c_J9_min_f86c9 (μ := μ) hG) (Nat.le_of_ble_eq_true rfl) ⟨Nat.le_of_ble_eq_true rfl, Nat.le_of_ble_eq_true rfl⟩ rfl (Nat.le_of_ble_eq_true rfl) ?_
    refine v1_callS [_, _] 112 dX1_ofTwo_112 ck_X1_51 (c_J9_max_f86c9 (μ := μ) hG) (Nat.le_of_ble_eq_true rfl) ⟨Nat.le_of_ble_eq_true rfl, Nat.le_of_ble_eq_true rfl⟩ rfl (Nat.le_of_ble_eq_true rfl) ?_
    obtain ⟨e1, e2⟩ := sh_some2 h
    refine vv_lret 115 dX1_ofTwo_115 rfl (Nat.le_refl _) (Nat.le_refl _) ⟨by rw [e1], e2⟩
  rw [if_neg c12] at h
  by_cases c13 : a1 = (-143)
  · rw [if_pos c13] at h
    refine vv_lookup 1 84 dX1_ofTwo_1 (by decide) (off := 83) (by rw [c13]; decide) (by decide) ?_
    refine vv_ldc2 84 dX1_ofTwo_84 kl_1_41 ?_
    refine vv_ldc2 87 dX1_ofTwo_87 kl_1_43 ?_
    refine vv_lload_n 90 1 dX1_ofTwo_90 rfl rfl ?_
    refine vv_lload_n 91 3 dX1_ofTwo_91 rfl rfl ?_
    refine vv_ladd 92 dX1_ofTwo_92 ?_
    refine v1_callS [_, _] 93 dX1_ofTwo_93 ck_X1_45 (c_J9_min_f86c9 (μ := μ) hG) (Nat.le_of_ble_eq_true rfl) ⟨Nat.le_of_ble_eq_true rfl, Nat.le_of_ble_eq_true rfl⟩ rfl (Nat.le_of_ble_eq_true rfl) ?_
    refine v1_callS [_, _] 96 dX1_ofTwo_96 ck_X1_51 (c_J9_max_f86c9 (μ := μ) hG) (Nat.le_of_ble_eq_true rfl) ⟨Nat.le_of_ble_eq_true rfl, Nat.le_of_ble_eq_true rfl⟩ rfl (Nat.le_of_ble_eq_true rfl) ?_
    obtain ⟨e1, e2⟩ := sh_some2 h
    refine vv_lret 99 dX1_ofTwo_99 rfl (Nat.le_refl _) (Nat.le_refl _) ⟨by rw [e1], e2⟩
  rw [if_neg c13] at h
  by_cases c14 : a1 = (-142)
  · rw [if_pos c14] at h
    refine vv_lookup 1 116 dX1_ofTwo_1 (by decide) (off := 115) (by rw [c14]; decide) (by decide) ?_
    refine vv_ldc2 116 dX1_ofTwo_116 kl_1_41 ?_
    refine vv_ldc2 119 dX1_ofTwo_119 kl_1_43 ?_
    refine vv_lload_n 122 1 dX1_ofTwo_122 rfl rfl ?_
    refine vv_lload_n 123 3 dX1_ofTwo_123 rfl rfl ?_
    refine vv_lmul 124 dX1_ofTwo_124 ?_
    refine v1_callS [_, _] 125 dX1_ofTwo_125 ck_X1_45 (c_J9_min_f86c9 (μ := μ) hG) (Nat.le_of_ble_eq_true rfl) ⟨Nat.le_of_ble_eq_true rfl, Nat.le_of_ble_eq_true rfl⟩ rfl (Nat.le_of_ble_eq_true rfl) ?_
    refine v1_callS [_, _] 128 dX1_ofTwo_128 ck_X1_51 (c_J9_max_f86c9 (μ := μ) hG) (Nat.le_of_ble_eq_true rfl) ⟨Nat.le_of_ble_eq_true rfl, Nat.le_of_ble_eq_true rfl⟩ rfl (Nat.le_of_ble_eq_true rfl) ?_
    obtain ⟨e1, e2⟩ := sh_some2 h
    refine vv_lret 131 dX1_ofTwo_131 rfl (Nat.le_refl _) (Nat.le_refl _) ⟨by rw [e1], e2⟩
  rw [if_neg c14] at h
  by_cases c15 : a1 = (-26)
  · rw [if_pos c15] at h
    refine vv_lookup 1 184 dX1_ofTwo_1 (by decide) (off := 183) (by rw [c15]; decide) (by decide) ?_
    refine vv_lload_n 184 1 dX1_ofTwo_184 rfl rfl ?_
    refine vv_lload_n 185 3 dX1_ofTwo_185 rfl rfl ?_
    refine v1_callS [_, _] 186 dX1_ofTwo_186 ck_X1_45 (c_J9_min_f86c9 (μ := μ) hG) (Nat.le_of_ble_eq_true rfl) ⟨Nat.le_of_ble_eq_true rfl, Nat.le_of_ble_eq_true rfl⟩ rfl (Nat.le_of_ble_eq_true rfl) ?_
    obtain ⟨e1, e2⟩ := sh_some2 h
    refine vv_lret 189 dX1_ofTwo_189 rfl (Nat.le_refl _) (Nat.le_refl _) ⟨by rw [e1], e2⟩
  rw [if_neg c15] at h
  by_cases c16 : a1 = (-23)
  · rw [if_pos c16] at h
    refine vv_lookup 1 184 dX1_ofTwo_1 (by decide) (off := 183) (by rw [c16]; decide) (by decide) ?_
    refine vv_lload_n 184 1 dX1_ofTwo_184 rfl rfl ?_
    refine vv_lload_n 185 3 dX1_ofTwo_185 rfl rfl ?_
    refine v1_callS [_, _] 186 dX1_ofTwo_186 ck_X1_45 (c_J9_min_f86c9 (μ := μ) hG) (Nat.le_of_ble_eq_true rfl) ⟨Nat.le_of_ble_eq_true rfl, Nat.le_of_ble_eq_true rfl⟩ rfl (Nat.le_of_ble_eq_true rfl) ?_
    obtain ⟨e1, e2⟩ := sh_some2 h
    refine vv_lret 189 dX1_ofTwo_189 rfl (Nat.le_refl _) (Nat.le_refl _) ⟨by rw [e1], e2⟩
  rw [if_neg c16] at h
  refine vv_lookup 1 190 dX1_ofTwo_1 (by decide) (off := 189) (by simp [Op.lookupswitch.offset, sh_lnf (z := -162) c1 (by decide), sh_lnf (z := -161) c3 (by decide), sh_lnf (z := -160) c5 (by decide), sh_lnf (z := -147) c7 (by decide), sh_lnf (z := -145) c12 (by decide), sh_lnf (z := -143) c13 (by decide), sh_lnf (z := -142) c14 (by decide), sh_lnf (z := -26) c15 (by decide), sh_lnf (z := -23) c16 (by decide)]) (by decide) ?_
  refine vv_lload_n 190 1 dX1_ofTwo_190 rfl rfl ?_
  refine vv_lload_n 191 3 dX1_ofTwo_191 rfl rfl ?_
  refine v1_callS [_, _] 192 dX1_ofTwo_192 ck_X1_51 (c_J9_max_f86c9 (μ := μ) hG) (Nat.le_of_ble_eq_true rfl) ⟨Nat.le_of_ble_eq_true rfl, Nat.le_of_ble_eq_true rfl⟩ rfl (Nat.le_of_ble_eq_true rfl) ?_
  obtain ⟨e1, e2⟩ := sh_some2 h
  refine vv_lret 195 dX1_ofTwo_195 rfl (Nat.le_refl _) (Nat.le_refl _) ⟨by rw [e1], e2⟩
noncomputable def f_X5_clear (p : Nat) (μ : sh_Mem) : Option sh_Mem := sh_let (sh_setI μ p 0 0) (fun μ1 => sh_let (sh_setI μ1 p 1 0) (fun μ2 => sh_let (sh_setI μ2 p 2 0) (fun μ3 => sh_let (sh_setI μ3 p 3 0) (fun μ4 => sh_let (sh_setI μ4 p 4 0) (fun μ5 => sh_let (sh_setI μ5 p 5 0) (fun μ6 => sh_bindv (f_J7_fill_53178 ((p + 14) + 1) 49 50 μ6) (fun μ7 => sh_let (sh_setI μ7 p 13 0) (fun μ10 => sh_let (sh_setI μ10 p 14 0) (fun μ11 => sh_let (sh_setI μ11 p 15 0) (fun μ12 => sh_let (sh_setI μ12 (p + 5) 1 0) (fun μ13 => sh_bindv (f_X1_add (p + 5) 3 μ13) (fun μ14 => sh_let (sh_setI μ14 (p + 8) 1 0) (fun μ17 => sh_bindv (f_X1_addWord (p + 8) 6 μ17) (fun μ18 => sh_bindv (f_X1_add (p + 8) 1 μ18) (fun μ21 => sh_bindv (f_X1_addMark (p + 8) 43 μ21) (fun μ24 => sh_let (sh_setI μ24 (p + 11) 1 0) (fun μ27 => sh_bindv (f_X1_add (p + 11) 0 μ27) (fun μ28 => some μ28))))))))))))))))))
theorem gp_X5_clear {p : Nat} {μ μ' : sh_Mem} (hG : sh_G μ) (hp : sh_isP p) (h : f_X5_clear p μ = some μ') : sh_G μ' := by
  unfold f_X5_clear at h
  obtain ⟨μ1, eμ1⟩ : ∃ y : sh_Mem, y = (sh_setI μ p 0 0) := ⟨_, rfl⟩
  rw [sh_let_eq eμ1] at h
  have hG1 : sh_G μ1 := by rw [eμ1]; exact hG
  obtain ⟨μ2, eμ2⟩ : ∃ y : sh_Mem, y = (sh_setI μ1 p 1 0) := ⟨_, rfl⟩
  rw [sh_let_eq eμ2] at h
  have hG2 : sh_G μ2 := by rw [eμ2]; exact hG1
  obtain ⟨μ3, eμ3⟩ : ∃ y : sh_Mem, y = (sh_setI μ2 p 2 0) := ⟨_, rfl⟩
  rw [sh_let_eq eμ3] at h
  have hG3 : sh_G μ3 := by rw [eμ3]; exact hG2
  obtain ⟨μ4, eμ4⟩ : ∃ y : sh_Mem, y = (sh_setI μ3 p 3 0) := ⟨_, rfl⟩
  rw [sh_let_eq eμ4] at h
  have hG4 : sh_G μ4 := by rw [eμ4]; exact hG3
  obtain ⟨μ5, eμ5⟩ : ∃ y : sh_Mem, y = (sh_setI μ4 p 4 0) := ⟨_, rfl⟩
  rw [sh_let_eq eμ5] at h
  have hG5 : sh_G μ5 := by rw [eμ5]; exact hG4
  obtain ⟨μ6, eμ6⟩ : ∃ y : sh_Mem, y = (sh_setI μ5 p 5 0) := ⟨_, rfl⟩
  rw [sh_let_eq eμ6] at h
  have hG6 : sh_G μ6 := by rw [eμ6]; exact hG5
  obtain ⟨μ7, hr8, h⟩ := sh_bindv_e h
  have hG7 := gp_J7_fill_53178 hG6 (gLA1 (gP_land hp)) hr8
  obtain ⟨μ10, eμ10⟩ : ∃ y : sh_Mem, y = (sh_setI μ7 p 13 0) := ⟨_, rfl⟩
  rw [sh_let_eq eμ10] at h
  have hG10 : sh_G μ10 := by rw [eμ10]; exact hG7
  obtain ⟨μ11, eμ11⟩ : ∃ y : sh_Mem, y = (sh_setI μ10 p 14 0) := ⟨_, rfl⟩
  rw [sh_let_eq eμ11] at h
  have hG11 : sh_G μ11 := by rw [eμ11]; exact hG10
  obtain ⟨μ12, eμ12⟩ : ∃ y : sh_Mem, y = (sh_setI μ11 p 15 0) := ⟨_, rfl⟩
  rw [sh_let_eq eμ12] at h
  have hG12 : sh_G μ12 := by rw [eμ12]; exact hG11
  obtain ⟨μ13, eμ13⟩ : ∃ y : sh_Mem, y = (sh_setI μ12 (p + 5) 1 0) := ⟨_, rfl⟩
  rw [sh_let_eq eμ13] at h
  have hG13 : sh_G μ13 := by rw [eμ13]; exact hG12
  obtain ⟨μ14, hr15, h⟩ := sh_bindv_e h
  have hG14 := gp_X1_add hG13 (gP_f10 hp) hr15
  obtain ⟨μ17, eμ17⟩ : ∃ y : sh_Mem, y = (sh_setI μ14 (p + 8) 1 0) := ⟨_, rfl⟩
  rw [sh_let_eq eμ17] at h
  have hG17 : sh_G μ17 := by rw [eμ17]; exact hG14
  obtain ⟨μ18, hr19, h⟩ := sh_bindv_e h
  have hG18 := gp_X1_addWord hG17 (gP_f11 hp) hr19
  obtain ⟨μ21, hr22, h⟩ := sh_bindv_e h
  have hG21 := gp_X1_add hG18 (gP_f11 hp) hr22
  obtain ⟨μ24, hr25, h⟩ := sh_bindv_e h
  have hG24 := gp_X1_addMark hG21 (gP_f11 hp) hr25
  obtain ⟨μ27, eμ27⟩ : ∃ y : sh_Mem, y = (sh_setI μ24 (p + 11) 1 0) := ⟨_, rfl⟩
  rw [sh_let_eq eμ27] at h
  have hG27 : sh_G μ27 := by rw [eμ27]; exact hG24
  obtain ⟨μ28, hr29, h⟩ := sh_bindv_e h
  have hG28 := gp_X1_add hG27 (gP_f12 hp) hr29
  have e2 := Option.some.inj h
  exact e2 ▸ hG28
theorem t_X5_clear {p : Nat} {μ μ' : sh_Mem} (hG : sh_G μ) (hp : sh_isP p) (h : f_X5_clear p μ = some μ') : sh_C0 l B D ca 3 M_X5_clear [.ref p] μ (fun v0 μ0 => v0 = none ∧ μ0 = μ') := by
  unfold f_X5_clear at h
  refine vv_aload_n 0 0 dX5_clear_0 rfl rfl ?_
  refine vv_iconst 1 dX5_clear_1 ik_0 ?_
  refine vn_putI 2 dX5_clear_2 fl_5_44 (Or.inl rfl) rfl (gP_l hG hp) (fun μ1 eμ1 => ?_)
  rw [sh_let_eq eμ1] at h
  have hG1 : sh_G μ1 := by rw [eμ1]; exact hG
  refine vv_aload_n 5 0 dX5_clear_5 rfl rfl ?_
  refine vv_iconst 6 dX5_clear_6 ik_0 ?_
  refine vn_putI 7 dX5_clear_7 fl_5_48 (Or.inl rfl) rfl (gP_l hG1 hp) (fun μ2 eμ2 => ?_)
  rw [sh_let_eq eμ2] at h
  have hG2 : sh_G μ2 := by rw [eμ2]; exact hG1
  refine vv_aload_n 10 0 dX5_clear_10 rfl rfl ?_
  refine vv_iconst 11 dX5_clear_11 ik_0 ?_
  refine vn_putI 12 dX5_clear_12 fl_5_51 (Or.inl rfl) rfl (gP_l hG2 hp) (fun μ3 eμ3 => ?_)
  rw [sh_let_eq eμ3] at h
  have hG3 : sh_G μ3 := by rw [eμ3]; exact hG2
  refine vv_aload_n 15 0 dX5_clear_15 rfl rfl ?_
  refine vv_iconst 16 dX5_clear_16 ik_0 ?_
  refine vn_putI 17 dX5_clear_17 fl_5_54 (Or.inl rfl) rfl (gP_l hG3 hp) (fun μ4 eμ4 => ?_)
  rw [sh_let_eq eμ4] at h
  have hG4 : sh_G μ4 := by rw [eμ4]; exact hG3
  refine vv_aload_n 20 0 dX5_clear_20 rfl rfl ?_
  refine vv_iconst 21 dX5_clear_21 ik_0 ?_
  refine vn_putI 22 dX5_clear_22 fl_5_57 (Or.inl rfl) rfl (gP_l hG4 hp) (fun μ5 eμ5 => ?_)
  rw [sh_let_eq eμ5] at h
  have hG5 : sh_G μ5 := by rw [eμ5]; exact hG4
  refine vv_aload_n 25 0 dX5_clear_25 rfl rfl ?_
  refine vv_iconst 26 dX5_clear_26 ik_0 ?_
  refine vn_putI 27 dX5_clear_27 fl_5_60 (Or.inl rfl) rfl (gP_l hG5 hp) (fun μ6 eμ6 => ?_)
  rw [sh_let_eq eμ6] at h
  have hG6 : sh_G μ6 := by rw [eμ6]; exact hG5
  refine vv_aload_n 30 0 dX5_clear_30 rfl rfl ?_
  refine vv_getR 31 dX5_clear_31 fl_5_40 rfl (gP_l hG6 hp) (gP_r16 hG6 hp) ?_
  refine vv_getR 34 dX5_clear_34 fl_5_63 rfl (gL_l hG6 (gP_land hp)) (gL_r1 hG6 (gP_land hp)) ?_
  refine vv_bipush 37 dX5_clear_37 bk_50 ?_
  obtain ⟨μ7, hr8, h⟩ := sh_bindv_e h
  refine v1_callS [_, _] 39 dX5_clear_39 ck_X5_66 (t_J7_fill_53178 hG6 (gLA1 (gP_land hp)) hr8) (Nat.le_of_ble_eq_true rfl) ⟨Nat.le_of_ble_eq_true rfl, Nat.le_of_ble_eq_true rfl⟩ rfl (Nat.le_of_ble_eq_true rfl) ?_
  have hG7 := gp_J7_fill_53178 hG6 (gLA1 (gP_land hp)) hr8
  refine vv_aload_n 42 0 dX5_clear_42 rfl rfl ?_
  refine vv_iconst 43 dX5_clear_43 ik_0 ?_
  refine vn_putZ 44 dX5_clear_44 fl_5_72 (Or.inl rfl) rfl (by decide) (gP_l hG7 hp) (fun μ10 eμ10 => ?_)
  rw [sh_let_eq eμ10] at h
  have hG10 : sh_G μ10 := by rw [eμ10]; exact hG7
  refine vv_aload_n 47 0 dX5_clear_47 rfl rfl ?_
  refine vv_iconst 48 dX5_clear_48 ik_0 ?_
  refine vn_putZ 49 dX5_clear_49 fl_5_76 (Or.inl rfl) rfl (by decide) (gP_l hG10 hp) (fun μ11 eμ11 => ?_)
  rw [sh_let_eq eμ11] at h
  have hG11 : sh_G μ11 := by rw [eμ11]; exact hG10
  refine vv_aload_n 52 0 dX5_clear_52 rfl rfl ?_
  refine vv_iconst 53 dX5_clear_53 ik_0 ?_
  refine vn_putZ 54 dX5_clear_54 fl_5_79 (Or.inl rfl) rfl (by decide) (gP_l hG11 hp) (fun μ12 eμ12 => ?_)
  rw [sh_let_eq eμ12] at h
  have hG12 : sh_G μ12 := by rw [eμ12]; exact hG11
  refine vv_aload_n 57 0 dX5_clear_57 rfl rfl ?_
  refine vv_getR 58 dX5_clear_58 fl_5_27 rfl (gP_l hG12 hp) (gP_r10 hG12 hp) ?_
  refine vv_iconst 61 dX5_clear_61 ik_0 ?_
  refine vn_putI 62 dX5_clear_62 fl_5_82 (Or.inl rfl) rfl (gF_l hG12 (gP_f10 hp)) (fun μ13 eμ13 => ?_)
  rw [sh_let_eq eμ13] at h
  have hG13 : sh_G μ13 := by rw [eμ13]; exact hG12
  refine vv_aload_n 65 0 dX5_clear_65 rfl rfl ?_
  refine vv_getR 66 dX5_clear_66 fl_5_27 rfl (gP_l hG13 hp) (gP_r10 hG13 hp) ?_
  refine vv_iconst 69 dX5_clear_69 ik_3 ?_
  obtain ⟨μ14, hr15, h⟩ := sh_bindv_e h
  refine v1_callV [_] 70 dX5_clear_70 ck_X5_85 (gF_l hG13 (gP_f10 hp)) ⟨by decide, rfl⟩ (t_X1_add hG13 (gP_f10 hp) hr15) (Nat.le_of_ble_eq_true rfl) ⟨Nat.le_of_ble_eq_true rfl, Nat.le_of_ble_eq_true rfl⟩ rfl (Nat.le_of_ble_eq_true rfl) ?_
  have hG14 := gp_X1_add hG13 (gP_f10 hp) hr15
  refine vv_aload_n 73 0 dX5_clear_73 rfl rfl ?_
  refine vv_getR 74 dX5_clear_74 fl_5_31 rfl (gP_l hG14 hp) (gP_r11 hG14 hp) ?_
  refine vv_iconst 77 dX5_clear_77 ik_0 ?_
  refine vn_putI 78 dX5_clear_78 fl_5_82 (Or.inl rfl) rfl (gF_l hG14 (gP_f11 hp)) (fun μ17 eμ17 => ?_)
  rw [sh_let_eq eμ17] at h
  have hG17 : sh_G μ17 := by rw [eμ17]; exact hG14
  refine vv_aload_n 81 0 dX5_clear_81 rfl rfl ?_
  refine vv_getR 82 dX5_clear_82 fl_5_31 rfl (gP_l hG17 hp) (gP_r11 hG17 hp) ?_
  refine vv_bipush 85 dX5_clear_85 bk_6 ?_
  obtain ⟨μ18, hr19, h⟩ := sh_bindv_e h
  refine v1_callV [_] 87 dX5_clear_87 ck_X5_89 (gF_l hG17 (gP_f11 hp)) ⟨by decide, rfl⟩ (t_X1_addWord hG17 (gP_f11 hp) hr19) (Nat.le_of_ble_eq_true rfl) ⟨Nat.le_of_ble_eq_true rfl, Nat.le_of_ble_eq_true rfl⟩ rfl (Nat.le_of_ble_eq_true rfl) ?_
  have hG18 := gp_X1_addWord hG17 (gP_f11 hp) hr19
  refine vv_aload_n 90 0 dX5_clear_90 rfl rfl ?_
  refine vv_getR 91 dX5_clear_91 fl_5_31 rfl (gP_l hG18 hp) (gP_r11 hG18 hp) ?_
  refine vv_iconst 94 dX5_clear_94 ik_1 ?_
  obtain ⟨μ21, hr22, h⟩ := sh_bindv_e h
  refine v1_callV [_] 95 dX5_clear_95 ck_X5_85 (gF_l hG18 (gP_f11 hp)) ⟨by decide, rfl⟩ (t_X1_add hG18 (gP_f11 hp) hr22) (Nat.le_of_ble_eq_true rfl) ⟨Nat.le_of_ble_eq_true rfl, Nat.le_of_ble_eq_true rfl⟩ rfl (Nat.le_of_ble_eq_true rfl) ?_
  have hG21 := gp_X1_add hG18 (gP_f11 hp) hr22
  refine vv_aload_n 98 0 dX5_clear_98 rfl rfl ?_
  refine vv_getR 99 dX5_clear_99 fl_5_31 rfl (gP_l hG21 hp) (gP_r11 hG21 hp) ?_
  refine vv_bipush 102 dX5_clear_102 bk_43 ?_
  obtain ⟨μ24, hr25, h⟩ := sh_bindv_e h
  refine v1_callV [_] 104 dX5_clear_104 ck_X5_92 (gF_l hG21 (gP_f11 hp)) ⟨by decide, rfl⟩ (t_X1_addMark hG21 (gP_f11 hp) hr25) (Nat.le_of_ble_eq_true rfl) ⟨Nat.le_of_ble_eq_true rfl, Nat.le_of_ble_eq_true rfl⟩ rfl (Nat.le_of_ble_eq_true rfl) ?_
  have hG24 := gp_X1_addMark hG21 (gP_f11 hp) hr25
  refine vv_aload_n 107 0 dX5_clear_107 rfl rfl ?_
  refine vv_getR 108 dX5_clear_108 fl_5_34 rfl (gP_l hG24 hp) (gP_r12 hG24 hp) ?_
  refine vv_iconst 111 dX5_clear_111 ik_0 ?_
  refine vn_putI 112 dX5_clear_112 fl_5_82 (Or.inl rfl) rfl (gF_l hG24 (gP_f12 hp)) (fun μ27 eμ27 => ?_)
  rw [sh_let_eq eμ27] at h
  have hG27 : sh_G μ27 := by rw [eμ27]; exact hG24
  refine vv_aload_n 115 0 dX5_clear_115 rfl rfl ?_
  refine vv_getR 116 dX5_clear_116 fl_5_34 rfl (gP_l hG27 hp) (gP_r12 hG27 hp) ?_
  refine vv_iconst 119 dX5_clear_119 ik_0 ?_
  obtain ⟨μ28, hr29, h⟩ := sh_bindv_e h
  refine v1_callV [_] 120 dX5_clear_120 ck_X5_85 (gF_l hG27 (gP_f12 hp)) ⟨by decide, rfl⟩ (t_X1_add hG27 (gP_f12 hp) hr29) (Nat.le_of_ble_eq_true rfl) ⟨Nat.le_of_ble_eq_true rfl, Nat.le_of_ble_eq_true rfl⟩ rfl (Nat.le_of_ble_eq_true rfl) ?_
  have hG28 := gp_X1_add hG27 (gP_f12 hp) hr29
  have e2 := Option.some.inj h
  refine vv_vret 123 dX5_clear_123 rfl (Nat.le_refl _) (Nat.le_refl _) ⟨rfl, e2⟩
noncomputable def f_X5_topicOf (p : Nat) (a1 : Int32) (μ : sh_Mem) : Option (Int32 × sh_Mem) := sh_bind (f_X5_placeOf a1 (p + 1) 5 (sh_i μ p 2) μ) (fun y3 μ1 => some (y3, μ1))
theorem gp_X5_topicOf {p : Nat} {a1 : Int32} {μ μ' : sh_Mem} {v : Int32} (hG : sh_G μ) (hp : sh_isP p) (h : f_X5_topicOf p a1 μ = some (v, μ')) : sh_G μ' := by
  unfold f_X5_topicOf at h
  obtain ⟨y3, μ1, hr2, h⟩ := sh_bind_e h
  have hG1 := gp_X5_placeOf hG (gPA6 hp) hr2
  obtain ⟨e1, e2⟩ := sh_some2 h
  exact e2 ▸ hG1
theorem t_X5_topicOf {p : Nat} {a1 : Int32} {μ μ' : sh_Mem} {v : Int32} (hG : sh_G μ) (hp : sh_isP p) (h : f_X5_topicOf p a1 μ = some (v, μ')) : sh_C0 l B D ca 2 M_X5_topicOf [.ref p, .int a1] μ (fun v0 μ0 => v0 = some (.int v) ∧ μ0 = μ') := by
  unfold f_X5_topicOf at h
  refine vv_iload_n 0 1 dX5_topicOf_0 rfl rfl ?_
  refine vv_aload_n 1 0 dX5_topicOf_1 rfl rfl ?_
  refine vv_getR 2 dX5_topicOf_2 fl_5_9 rfl (gP_l hG hp) (gP_r6 hG hp) ?_
  refine vv_aload_n 5 0 dX5_topicOf_5 rfl rfl ?_
  refine vv_getI 6 dX5_topicOf_6 fl_5_51 rfl (gP_l hG hp) ?_
  obtain ⟨y3, μ1, hr2, h⟩ := sh_bind_e h
  refine v1_callS [_, _, _] 9 dX5_topicOf_9 ck_X5_103 (t_X5_placeOf hG (gPA6 hp) hr2) (Nat.le_of_ble_eq_true rfl) ⟨Nat.le_of_ble_eq_true rfl, Nat.le_of_ble_eq_true rfl⟩ rfl (Nat.le_of_ble_eq_true rfl) ?_
  have hG1 := gp_X5_placeOf hG (gPA6 hp) hr2
  obtain ⟨e1, e2⟩ := sh_some2 h
  refine vv_iret 12 dX5_topicOf_12 rfl (Nat.le_refl _) (Nat.le_refl _) ⟨by rw [e1], e2⟩
noncomputable def f_X5_personOf (p : Nat) (a1 : Int32) (μ : sh_Mem) : Option (Int32 × sh_Mem) := sh_bind (f_X5_placeOf a1 (p + 2) 7 (sh_i μ p 3) μ) (fun y3 μ1 => some (y3, μ1))
theorem gp_X5_personOf {p : Nat} {a1 : Int32} {μ μ' : sh_Mem} {v : Int32} (hG : sh_G μ) (hp : sh_isP p) (h : f_X5_personOf p a1 μ = some (v, μ')) : sh_G μ' := by
  unfold f_X5_personOf at h
  obtain ⟨y3, μ1, hr2, h⟩ := sh_bind_e h
  have hG1 := gp_X5_placeOf hG (gPA7 hp) hr2
  obtain ⟨e1, e2⟩ := sh_some2 h
  exact e2 ▸ hG1
theorem t_X5_personOf {p : Nat} {a1 : Int32} {μ μ' : sh_Mem} {v : Int32} (hG : sh_G μ) (hp : sh_isP p) (h : f_X5_personOf p a1 μ = some (v, μ')) : sh_C0 l B D ca 2 M_X5_personOf [.ref p, .int a1] μ (fun v0 μ0 => v0 = some (.int v) ∧ μ0 = μ') := by
  unfold f_X5_personOf at h
  refine vv_iload_n 0 1 dX5_personOf_0 rfl rfl ?_
  refine vv_aload_n 1 0 dX5_personOf_1 rfl rfl ?_
  refine vv_getR 2 dX5_personOf_2 fl_5_15 rfl (gP_l hG hp) (gP_r7 hG hp) ?_
  refine vv_aload_n 5 0 dX5_personOf_5 rfl rfl ?_
  refine vv_getI 6 dX5_personOf_6 fl_5_54 rfl (gP_l hG hp) ?_
  obtain ⟨y3, μ1, hr2, h⟩ := sh_bind_e h
  refine v1_callS [_, _, _] 9 dX5_personOf_9 ck_X5_103 (t_X5_placeOf hG (gPA7 hp) hr2) (Nat.le_of_ble_eq_true rfl) ⟨Nat.le_of_ble_eq_true rfl, Nat.le_of_ble_eq_true rfl⟩ rfl (Nat.le_of_ble_eq_true rfl) ?_
  have hG1 := gp_X5_placeOf hG (gPA7 hp) hr2
  obtain ⟨e1, e2⟩ := sh_some2 h
  refine vv_iret 12 dX5_personOf_12 rfl (Nat.le_refl _) (Nat.le_refl _) ⟨by rw [e1], e2⟩
noncomputable def f_X6_isNew (a1 : Int32) (μ : sh_Mem) : Option (Int32 × sh_Mem) := (if a1 = (-1) then some (0, μ) else (if (sh_r μ 7 2 = some (sh_ref μ 7 2) ∧ ((sh_ref μ 7 2) = 8 ∨ (sh_ref μ 7 2) = 29)) then sh_let (sh_ref μ 7 2) (fun r3 => sh_bind (f_X5_topicOf r3 a1 μ) (fun y6 μ4 => (if y6 = (-1) then (if (sh_r μ4 7 2 = some (sh_ref μ4 7 2) ∧ ((sh_ref μ4 7 2) = 8 ∨ (sh_ref μ4 7 2) = 29)) then sh_let (sh_ref μ4 7 2) (fun r13 => sh_bind (f_X5_personOf r13 a1 μ4) (fun y16 μ14 => (if y16 = (-1) then some (1, μ14) else sh_bind (f_X8_fails 3 (sh_i μ14 2 9) μ14) (fun y20 μ18 => (if y20 = 0 ∨ y20 = 1 then some (y20, μ18) else none))))) else none) else sh_bind (f_X8_fails 3 (sh_i μ4 2 9) μ4) (fun y10 μ8 => (if y10 = 0 ∨ y10 = 1 then some (y10, μ8) else none))))) else none))
theorem gp_X6_isNew {a1 : Int32} {μ μ' : sh_Mem} {v : Int32} (hG : sh_G μ) (h : f_X6_isNew a1 μ = some (v, μ')) : sh_G μ' := by
  unfold f_X6_isNew at h
  by_cases c1 : a1 = (-1)
  · rw [if_pos c1] at h
    obtain ⟨e1, e2⟩ := sh_some2 h
    exact e2 ▸ hG
  · rw [if_neg c1] at h
    obtain ⟨k2, h⟩ := sh_chk h
    obtain ⟨r3, er3⟩ : ∃ y : Nat, y = (sh_ref μ 7 2) := ⟨_, rfl⟩
    rw [sh_let_eq er3] at h
    have k2r : sh_r μ 7 2 = some r3 ∧ (r3 = 8 ∨ r3 = 29) := by rw [er3]; exact k2
    obtain ⟨y6, μ4, hr5, h⟩ := sh_bind_e h
    have hG4 := gp_X5_topicOf hG k2r.2 hr5
    by_cases c7 : y6 = (-1)
    · rw [if_pos c7] at h
      obtain ⟨k12, h⟩ := sh_chk h
      obtain ⟨r13, er13⟩ : ∃ y : Nat, y = (sh_ref μ4 7 2) := ⟨_, rfl⟩
      rw [sh_let_eq er13] at h
      have k12r : sh_r μ4 7 2 = some r13 ∧ (r13 = 8 ∨ r13 = 29) := by rw [er13]; exact k12
      obtain ⟨y16, μ14, hr15, h⟩ := sh_bind_e h
      have hG14 := gp_X5_personOf hG4 k12r.2 hr15
      by_cases c17 : y16 = (-1)
      · rw [if_pos c17] at h
        obtain ⟨e1, e2⟩ := sh_some2 h
        exact e2 ▸ hG14
      · rw [if_neg c17] at h
        obtain ⟨y20, μ18, hr19, h⟩ := sh_bind_e h
        have hG18 := gp_X8_fails hG14 hr19
        obtain ⟨k21, h⟩ := sh_chk h
        obtain ⟨e1, e2⟩ := sh_some2 h
        exact e2 ▸ hG18
    · rw [if_neg c7] at h
      obtain ⟨y10, μ8, hr9, h⟩ := sh_bind_e h
      have hG8 := gp_X8_fails hG4 hr9
      obtain ⟨k11, h⟩ := sh_chk h
      obtain ⟨e1, e2⟩ := sh_some2 h
      exact e2 ▸ hG8
theorem t_X6_isNew {a1 : Int32} {μ μ' : sh_Mem} {v : Int32} (hG : sh_G μ) (h : f_X6_isNew a1 μ = some (v, μ')) : sh_C0 l B D ca 3 M_X6_isNew [.ref 7, .int a1] μ (fun v0 μ0 => v0 = some (.int v) ∧ μ0 = μ') := by
  unfold f_X6_isNew at h
  refine vv_iload_n 0 1 dX6_isNew_0 rfl rfl ?_
  refine vv_iconst 1 dX6_isNew_1 ik_m1 ?_
  refine vv_icmp_ne 2 7 dX6_isNew_2 (by decide) (fun c1 => ?_) (fun c1 => ?_)
  · rw [if_neg c1] at h
    refine vv_aload_n 7 0 dX6_isNew_7 rfl rfl ?_
    obtain ⟨k2, h⟩ := sh_chk h
    refine vv_getR 8 dX6_isNew_8 fl_6_12 rfl (g_l_7 hG) k2.1 ?_
    refine vv_topr (fun r3 er3 => ?_)
    rw [sh_let_eq er3] at h
    have k2r : sh_r μ 7 2 = some r3 ∧ (r3 = 8 ∨ r3 = 29) := by rw [er3]; exact k2
    refine vv_iload_n 11 1 dX6_isNew_11 rfl rfl ?_
    obtain ⟨y6, μ4, hr5, h⟩ := sh_bind_e h
    refine v1_callV [_] 12 dX6_isNew_12 ck_X6_146 (gP_l hG k2r.2) ⟨by decide, rfl⟩ (t_X5_topicOf hG k2r.2 hr5) (Nat.le_of_ble_eq_true rfl) ⟨Nat.le_of_ble_eq_true rfl, Nat.le_of_ble_eq_true rfl⟩ rfl (Nat.le_of_ble_eq_true rfl) ?_
    have hG4 := gp_X5_topicOf hG k2r.2 hr5
    refine vv_iconst 15 dX6_isNew_15 ik_m1 ?_
    refine vv_icmp_ne 16 31 dX6_isNew_16 (by decide) (fun c7 => ?_) (fun c7 => ?_)
    · rw [if_neg c7] at h
      refine vv_aload_n 31 0 dX6_isNew_31 rfl rfl ?_
      refine vv_getR 32 dX6_isNew_32 fl_6_18 rfl (g_l_7 hG4) (g_r_7_0 hG4) ?_
      refine vv_iconst 35 dX6_isNew_35 ik_3 ?_
      refine vv_aload_n 36 0 dX6_isNew_36 rfl rfl ?_
      refine vv_getR 37 dX6_isNew_37 fl_6_18 rfl (g_l_7 hG4) (g_r_7_0 hG4) ?_
      refine vv_getI 40 dX6_isNew_40 fl_6_153 rfl (g_l_2 hG4) ?_
      obtain ⟨y10, μ8, hr9, h⟩ := sh_bind_e h
      refine v1_callV [_, _] 43 dX6_isNew_43 ck_X6_49 (g_l_2 hG4) ⟨by decide, rfl⟩ (t_X8_fails hG4 hr9) (Nat.le_of_ble_eq_true rfl) ⟨Nat.le_of_ble_eq_true rfl, Nat.le_of_ble_eq_true rfl⟩ rfl (Nat.le_of_ble_eq_true rfl) ?_
      have hG8 := gp_X8_fails hG4 hr9
      obtain ⟨k11, h⟩ := sh_chk h
      obtain ⟨e1, e2⟩ := sh_some2 h
      refine vv_zret 46 dX6_isNew_46 rfl (sh_nb k11) (Nat.le_refl _) (Nat.le_refl _) ⟨by rw [e1], e2⟩
    · rw [if_pos c7] at h
      refine vv_aload_n 19 0 dX6_isNew_19 rfl rfl ?_
      obtain ⟨k12, h⟩ := sh_chk h
      refine vv_getR 20 dX6_isNew_20 fl_6_12 rfl (g_l_7 hG4) k12.1 ?_
      refine vv_topr (fun r13 er13 => ?_)
      rw [sh_let_eq er13] at h
      have k12r : sh_r μ4 7 2 = some r13 ∧ (r13 = 8 ∨ r13 = 29) := by rw [er13]; exact k12
      refine vv_iload_n 23 1 dX6_isNew_23 rfl rfl ?_
      obtain ⟨y16, μ14, hr15, h⟩ := sh_bind_e h
      refine v1_callV [_] 24 dX6_isNew_24 ck_X6_150 (gP_l hG4 k12r.2) ⟨by decide, rfl⟩ (t_X5_personOf hG4 k12r.2 hr15) (Nat.le_of_ble_eq_true rfl) ⟨Nat.le_of_ble_eq_true rfl, Nat.le_of_ble_eq_true rfl⟩ rfl (Nat.le_of_ble_eq_true rfl) ?_
      have hG14 := gp_X5_personOf hG4 k12r.2 hr15
      refine vv_iconst 27 dX6_isNew_27 ik_m1 ?_
      refine vv_icmp_eq 28 47 dX6_isNew_28 (by decide) (fun c17 => ?_) (fun c17 => ?_)
      · rw [if_pos c17] at h
        refine vv_iconst 47 dX6_isNew_47 ik_1 ?_
        obtain ⟨e1, e2⟩ := sh_some2 h
        refine vv_zret 48 dX6_isNew_48 rfl rfl (Nat.le_refl _) (Nat.le_refl _) ⟨by rw [e1], e2⟩
      · rw [if_neg c17] at h
        refine vv_aload_n 31 0 dX6_isNew_31 rfl rfl ?_
        refine vv_getR 32 dX6_isNew_32 fl_6_18 rfl (g_l_7 hG14) (g_r_7_0 hG14) ?_
        refine vv_iconst 35 dX6_isNew_35 ik_3 ?_
        refine vv_aload_n 36 0 dX6_isNew_36 rfl rfl ?_
        refine vv_getR 37 dX6_isNew_37 fl_6_18 rfl (g_l_7 hG14) (g_r_7_0 hG14) ?_
        refine vv_getI 40 dX6_isNew_40 fl_6_153 rfl (g_l_2 hG14) ?_
        obtain ⟨y20, μ18, hr19, h⟩ := sh_bind_e h
        refine v1_callV [_, _] 43 dX6_isNew_43 ck_X6_49 (g_l_2 hG14) ⟨by decide, rfl⟩ (t_X8_fails hG14 hr19) (Nat.le_of_ble_eq_true rfl) ⟨Nat.le_of_ble_eq_true rfl, Nat.le_of_ble_eq_true rfl⟩ rfl (Nat.le_of_ble_eq_true rfl) ?_
        have hG18 := gp_X8_fails hG14 hr19
        obtain ⟨k21, h⟩ := sh_chk h
        obtain ⟨e1, e2⟩ := sh_some2 h
        refine vv_zret 46 dX6_isNew_46 rfl (sh_nb k21) (Nat.le_refl _) (Nat.le_refl _) ⟨by rw [e1], e2⟩
  · rw [if_pos c1] at h
    refine vv_iconst 5 dX6_isNew_5 ik_0 ?_
    obtain ⟨e1, e2⟩ := sh_some2 h
    refine vv_zret 6 dX6_isNew_6 rfl rfl (Nat.le_refl _) (Nat.le_refl _) ⟨by rw [e1], e2⟩
noncomputable def f_X6_asPerson (a1 : Int32) (μ : sh_Mem) : Option (Int32 × sh_Mem) := (if (sh_r μ 7 2 = some (sh_ref μ 7 2) ∧ ((sh_ref μ 7 2) = 8 ∨ (sh_ref μ 7 2) = 29)) then sh_let (sh_ref μ 7 2) (fun r2 => sh_bind (f_X5_personOf r2 a1 μ) (fun y5 μ3 => (if y5 = (-1) then sh_bind (f_X8_fails 3 (sh_i μ3 2 9) μ3) (fun y9 μ7 => some (y5, μ7)) else some (y5, μ3)))) else none)
theorem gp_X6_asPerson {a1 : Int32} {μ μ' : sh_Mem} {v : Int32} (hG : sh_G μ) (h : f_X6_asPerson a1 μ = some (v, μ')) : sh_G μ' := by
  unfold f_X6_asPerson at h
  obtain ⟨k1, h⟩ := sh_chk h
  obtain ⟨r2, er2⟩ : ∃ y : Nat, y = (sh_ref μ 7 2) := ⟨_, rfl⟩
  rw [sh_let_eq er2] at h
  have k1r : sh_r μ 7 2 = some r2 ∧ (r2 = 8 ∨ r2 = 29) := by rw [er2]; exact k1
  obtain ⟨y5, μ3, hr4, h⟩ := sh_bind_e h
  have hG3 := gp_X5_personOf hG k1r.2 hr4
  by_cases c6 : y5 = (-1)
  · rw [if_pos c6] at h
    obtain ⟨y9, μ7, hr8, h⟩ := sh_bind_e h
    have hG7 := gp_X8_fails hG3 hr8
    obtain ⟨e1, e2⟩ := sh_some2 h
    exact e2 ▸ hG7
  · rw [if_neg c6] at h
    obtain ⟨e1, e2⟩ := sh_some2 h
    exact e2 ▸ hG3
theorem t_X6_asPerson {a1 : Int32} {μ μ' : sh_Mem} {v : Int32} (hG : sh_G μ) (h : f_X6_asPerson a1 μ = some (v, μ')) : sh_C0 l B D ca 3 M_X6_asPerson [.ref 7, .int a1] μ (fun v0 μ0 => v0 = some (.int v) ∧ μ0 = μ') := by
  unfold f_X6_asPerson at h
  refine vv_aload_n 0 0 dX6_asPerson_0 rfl rfl ?_
  obtain ⟨k1, h⟩ := sh_chk h
  refine vv_getR 1 dX6_asPerson_1 fl_6_12 rfl (g_l_7 hG) k1.1 ?_
  refine vv_topr (fun r2 er2 => ?_)
  rw [sh_let_eq er2] at h
  have k1r : sh_r μ 7 2 = some r2 ∧ (r2 = 8 ∨ r2 = 29) := by rw [er2]; exact k1
  refine vv_iload_n 4 1 dX6_asPerson_4 rfl rfl ?_
  obtain ⟨y5, μ3, hr4, h⟩ := sh_bind_e h
  refine v1_callV [_] 5 dX6_asPerson_5 ck_X6_150 (gP_l hG k1r.2) ⟨by decide, rfl⟩ (t_X5_personOf hG k1r.2 hr4) (Nat.le_of_ble_eq_true rfl) ⟨Nat.le_of_ble_eq_true rfl, Nat.le_of_ble_eq_true rfl⟩ rfl (Nat.le_of_ble_eq_true rfl) ?_
  have hG3 := gp_X5_personOf hG k1r.2 hr4
  refine vv_istore_n (lv' := [(2, _), (0, _), (1, _)]) 8 2 dX6_asPerson_8 rfl (by decide) rfl ?_
  refine vv_iload_n 9 2 dX6_asPerson_9 rfl rfl ?_
  refine vv_iconst 10 dX6_asPerson_10 ik_m1 ?_
  refine vv_icmp_ne 11 30 dX6_asPerson_11 (by decide) (fun c6 => ?_) (fun c6 => ?_)
  · rw [if_neg c6] at h
    refine vv_iload_n 30 2 dX6_asPerson_30 rfl rfl ?_
    obtain ⟨e1, e2⟩ := sh_some2 h
    refine vv_iret 31 dX6_asPerson_31 rfl (Nat.le_refl _) (Nat.le_refl _) ⟨by rw [e1], e2⟩
  · rw [if_pos c6] at h
    refine vv_aload_n 14 0 dX6_asPerson_14 rfl rfl ?_
    refine vv_getR 15 dX6_asPerson_15 fl_6_18 rfl (g_l_7 hG3) (g_r_7_0 hG3) ?_
    refine vv_iconst 18 dX6_asPerson_18 ik_3 ?_
    refine vv_aload_n 19 0 dX6_asPerson_19 rfl rfl ?_
    refine vv_getR 20 dX6_asPerson_20 fl_6_18 rfl (g_l_7 hG3) (g_r_7_0 hG3) ?_
    refine vv_getI 23 dX6_asPerson_23 fl_6_153 rfl (g_l_2 hG3) ?_
    obtain ⟨y9, μ7, hr8, h⟩ := sh_bind_e h
    refine v1_callV [_, _] 26 dX6_asPerson_26 ck_X6_49 (g_l_2 hG3) ⟨by decide, rfl⟩ (t_X8_fails hG3 hr8) (Nat.le_of_ble_eq_true rfl) ⟨Nat.le_of_ble_eq_true rfl, Nat.le_of_ble_eq_true rfl⟩ rfl (Nat.le_of_ble_eq_true rfl) ?_
    have hG7 := gp_X8_fails hG3 hr8
    refine vv_pop 29 dX6_asPerson_29 ?_
    refine vv_iload_n 30 2 dX6_asPerson_30 rfl rfl ?_
    obtain ⟨e1, e2⟩ := sh_some2 h
    refine vv_iret 31 dX6_asPerson_31 rfl (Nat.le_refl _) (Nat.le_refl _) ⟨by rw [e1], e2⟩
noncomputable def f_X6_asTopic (a1 : Int32) (μ : sh_Mem) : Option (Int32 × sh_Mem) := (if (sh_r μ 7 2 = some (sh_ref μ 7 2) ∧ ((sh_ref μ 7 2) = 8 ∨ (sh_ref μ 7 2) = 29)) then sh_let (sh_ref μ 7 2) (fun r2 => sh_bind (f_X5_topicOf r2 a1 μ) (fun y5 μ3 => (if y5 = (-1) then sh_bind (f_X8_fails 3 (sh_i μ3 2 9) μ3) (fun y9 μ7 => some (y5, μ7)) else some (y5, μ3)))) else none)
theorem gp_X6_asTopic {a1 : Int32} {μ μ' : sh_Mem} {v : Int32} (hG : sh_G μ) (h : f_X6_asTopic a1 μ = some (v, μ')) : sh_G μ' := by
  unfold f_X6_asTopic at h
  obtain ⟨k1, h⟩ := sh_chk h
  obtain ⟨r2, er2⟩ : ∃ y : Nat, y = (sh_ref μ 7 2) := ⟨_, rfl⟩
  rw [sh_let_eq er2] at h
  have k1r : sh_r μ 7 2 = some r2 ∧ (r2 = 8 ∨ r2 = 29) := by rw [er2]; exact k1
  obtain ⟨y5, μ3, hr4, h⟩ := sh_bind_e h
  have hG3 := gp_X5_topicOf hG k1r.2 hr4
  by_cases c6 : y5 = (-1)
  · rw [if_pos c6] at h
    obtain ⟨y9, μ7, hr8, h⟩ := sh_bind_e h
    have hG7 := gp_X8_fails hG3 hr8
    obtain ⟨e1, e2⟩ := sh_some2 h
    exact e2 ▸ hG7
  · rw [if_neg c6] at h
    obtain ⟨e1, e2⟩ := sh_some2 h
    exact e2 ▸ hG3
theorem t_X6_asTopic {a1 : Int32} {μ μ' : sh_Mem} {v : Int32} (hG : sh_G μ) (h : f_X6_asTopic a1 μ = some (v, μ')) : sh_C0 l B D ca 3 M_X6_asTopic [.ref 7, .int a1] μ (fun v0 μ0 => v0 = some (.int v) ∧ μ0 = μ') := by
  unfold f_X6_asTopic at h
  refine vv_aload_n 0 0 dX6_asTopic_0 rfl rfl ?_
  obtain ⟨k1, h⟩ := sh_chk h
  refine vv_getR 1 dX6_asTopic_1 fl_6_12 rfl (g_l_7 hG) k1.1 ?_
  refine vv_topr (fun r2 er2 => ?_)
  rw [sh_let_eq er2] at h
  have k1r : sh_r μ 7 2 = some r2 ∧ (r2 = 8 ∨ r2 = 29) := by rw [er2]; exact k1
  refine vv_iload_n 4 1 dX6_asTopic_4 rfl rfl ?_
  obtain ⟨y5, μ3, hr4, h⟩ := sh_bind_e h
  refine v1_callV [_] 5 dX6_asTopic_5 ck_X6_146 (gP_l hG k1r.2) ⟨by decide, rfl⟩ (t_X5_topicOf hG k1r.2 hr4) (Nat.le_of_ble_eq_true rfl) ⟨Nat.le_of_ble_eq_true rfl, Nat.le_of_ble_eq_true rfl⟩ rfl (Nat.le_of_ble_eq_true rfl) ?_
  have hG3 := gp_X5_topicOf hG k1r.2 hr4
  refine vv_istore_n (lv' := [(2, _), (0, _), (1, _)]) 8 2 dX6_asTopic_8 rfl (by decide) rfl ?_
  refine vv_iload_n 9 2 dX6_asTopic_9 rfl rfl ?_
  refine vv_iconst 10 dX6_asTopic_10 ik_m1 ?_
  refine vv_icmp_ne 11 30 dX6_asTopic_11 (by decide) (fun c6 => ?_) (fun c6 => ?_)
  · rw [if_neg c6] at h
    refine vv_iload_n 30 2 dX6_asTopic_30 rfl rfl ?_
    obtain ⟨e1, e2⟩ := sh_some2 h
    refine vv_iret 31 dX6_asTopic_31 rfl (Nat.le_refl _) (Nat.le_refl _) ⟨by rw [e1], e2⟩
  · rw [if_pos c6] at h
    refine vv_aload_n 14 0 dX6_asTopic_14 rfl rfl ?_
    refine vv_getR 15 dX6_asTopic_15 fl_6_18 rfl (g_l_7 hG3) (g_r_7_0 hG3) ?_
    refine vv_iconst 18 dX6_asTopic_18 ik_3 ?_
    refine vv_aload_n 19 0 dX6_asTopic_19 rfl rfl ?_
    refine vv_getR 20 dX6_asTopic_20 fl_6_18 rfl (g_l_7 hG3) (g_r_7_0 hG3) ?_
    refine vv_getI 23 dX6_asTopic_23 fl_6_153 rfl (g_l_2 hG3) ?_
    obtain ⟨y9, μ7, hr8, h⟩ := sh_bind_e h
    refine v1_callV [_, _] 26 dX6_asTopic_26 ck_X6_49 (g_l_2 hG3) ⟨by decide, rfl⟩ (t_X8_fails hG3 hr8) (Nat.le_of_ble_eq_true rfl) ⟨Nat.le_of_ble_eq_true rfl, Nat.le_of_ble_eq_true rfl⟩ rfl (Nat.le_of_ble_eq_true rfl) ?_
    have hG7 := gp_X8_fails hG3 hr8
    refine vv_pop 29 dX6_asTopic_29 ?_
    refine vv_iload_n 30 2 dX6_asTopic_30 rfl rfl ?_
    obtain ⟨e1, e2⟩ := sh_some2 h
    refine vv_iret 31 dX6_asTopic_31 rfl (Nat.le_refl _) (Nat.le_refl _) ⟨by rw [e1], e2⟩
noncomputable def F_X8_advance : Nat → Nat → Int32 → Int32 → sh_Mem → Option sh_Mem
  | 0, _, _, _, _ => none
  | fuel + 1, lbl, i1, i2, μ => match lbl with
    | 1 => sh_let ((sh_i μ 2 2) : Int32) (fun x83 => sh_let (sh_setI μ 2 9 (sh_i μ 2 4)) (fun μ84 => F_X8_advance fuel 2 1 x83 μ84))
    | 2 => (if (sh_i μ 2 1) ≤ (sh_i μ 2 2) then F_X8_advance fuel 4 i1 i2 μ else (if sh_in (sh_i μ 2 2) 1600 then (if (sh_i μ 1 ((sh_i μ 2 2)).toNatClampNeg) = 10 then F_X8_advance fuel 3 i1 i2 μ else (if sh_in (sh_i μ 2 2) 1600 then (if (sh_i μ 1 ((sh_i μ 2 2)).toNatClampNeg) = 32 then F_X8_advance fuel 3 i1 i2 μ else F_X8_advance fuel 4 i1 i2 μ) else none)) else none))
    | 3 => sh_let (sh_setI μ 2 2 ((sh_i μ 2 2) + 1)) (fun μ90 => F_X8_advance fuel 2 i1 i2 μ90)
    | 4 => sh_let (sh_setI μ 2 4 (sh_i μ 2 2)) (fun μ91 => (if (sh_i μ91 2 2) < (sh_i μ91 2 1) then (if sh_in (sh_i μ91 2 2) 1600 then (if (sh_i μ91 1 ((sh_i μ91 2 2)).toNatClampNeg) < 97 then F_X8_advance fuel 5 i1 i2 μ91 else (if sh_in (sh_i μ91 2 2) 1600 then (if 122 < (sh_i μ91 1 ((sh_i μ91 2 2)).toNatClampNeg) then F_X8_advance fuel 5 i1 i2 μ91 else sh_bindv (f_X8_takeLetters μ91) (fun μ97 => (if (sh_i μ97 2 5) ≤ 6 then sh_bind (f_X8_wordOf (sh_i μ97 2 7) μ97) (fun y103 μ101 => sh_let (sh_setI μ101 2 6 y103) (fun μ104 => F_X8_advance fuel 7 i1 i2 μ104)) else sh_let (sh_setI μ97 2 6 (-1)) (fun μ105 => F_X8_advance fuel 7 i1 i2 μ105)))) else none)) else none) else sh_let (sh_setI μ91 2 3 (-1)) (fun μ106 => F_X8_advance fuel 7 i1 i2 μ106)))
    | 5 => (if sh_in (sh_i μ 2 2) 1600 then (if (sh_i μ 1 ((sh_i μ 2 2)).toNatClampNeg) < 48 then F_X8_advance fuel 6 i1 i2 μ else (if sh_in (sh_i μ 2 2) 1600 then (if 57 < (sh_i μ 1 ((sh_i μ 2 2)).toNatClampNeg) then F_X8_advance fuel 6 i1 i2 μ else sh_bindv (f_X8_takeDigits μ) (fun μ111 => F_X8_advance fuel 7 i1 i2 μ111)) else none)) else none)
    | 6 => (if sh_in (sh_i μ 2 2) 1600 then sh_let (sh_setI μ 2 3 (sh_i μ 1 ((sh_i μ 2 2)).toNatClampNeg)) (fun μ115 => sh_let (sh_setI μ115 2 2 ((sh_i μ115 2 2) + 1)) (fun μ116 => F_X8_advance fuel 7 i1 i2 μ116)) else none)
    | 7 => (if i1 = 0 then F_X8_advance fuel 9 i1 i2 μ else (if (sh_i μ 2 4) = i2 then (if (sh_i μ 2 3) = (-2) then F_X8_advance fuel 8 i1 i2 μ else (if (sh_i μ 2 3) = (-3) then F_X8_advance fuel 8 i1 i2 μ else F_X8_advance fuel 9 i1 i2 μ)) else F_X8_advance fuel 9 i1 i2 μ))
    | 8 => sh_let (sh_setI μ 2 3 (-4)) (fun μ121 => F_X8_advance fuel 9 i1 i2 μ121)
    | 9 => some μ
    | _ => none
noncomputable def f_X8_advance (μ : sh_Mem) : Option sh_Mem := (if (sh_i μ 2 3) = (-2) then F_X8_advance sh_fuel 1 0 0 μ else (if (sh_i μ 2 3) = (-3) then F_X8_advance sh_fuel 1 0 0 μ else sh_let ((sh_i μ 2 2) : Int32) (fun x124 => sh_let (sh_setI μ 2 9 (sh_i μ 2 4)) (fun μ125 => F_X8_advance sh_fuel 2 0 x124 μ125))))
theorem gpl_X8_advance (fuel : Nat) : (∀ ⦃i1 : Int32⦄ ⦃i2 : Int32⦄ ⦃μ μ' : sh_Mem⦄, sh_G μ → F_X8_advance fuel 1 i1 i2 μ = some μ' → sh_G μ') ∧ (∀ ⦃i1 : Int32⦄ ⦃i2 : Int32⦄ ⦃μ μ' : sh_Mem⦄, sh_G μ → F_X8_advance fuel 2 i1 i2 μ = some μ' → sh_G μ') ∧ (∀ ⦃i1 : Int32⦄ ⦃i2 : Int32⦄ ⦃μ μ' : sh_Mem⦄, sh_G μ → F_X8_advance fuel 3 i1 i2 μ = some μ' → sh_G μ') ∧ (∀ ⦃i1 : Int32⦄ ⦃i2 : Int32⦄ ⦃μ μ' : sh_Mem⦄, sh_G μ → F_X8_advance fuel 4 i1 i2 μ = some μ' → sh_G μ') ∧ (∀ ⦃i1 : Int32⦄ ⦃i2 : Int32⦄ ⦃μ μ' : sh_Mem⦄, sh_G μ → F_X8_advance fuel 5 i1 i2 μ = some μ' → sh_G μ') ∧ (∀ ⦃i1 : Int32⦄ ⦃i2 : Int32⦄ ⦃μ μ' : sh_Mem⦄, sh_G μ → F_X8_advance fuel 6 i1 i2 μ = some μ' → sh_G μ') ∧ (∀ ⦃i1 : Int32⦄ ⦃i2 : Int32⦄ ⦃μ μ' : sh_Mem⦄, sh_G μ → F_X8_advance fuel 7 i1 i2 μ = some μ' → sh_G μ') ∧ (∀ ⦃i1 : Int32⦄ ⦃i2 : Int32⦄ ⦃μ μ' : sh_Mem⦄, sh_G μ → F_X8_advance fuel 8 i1 i2 μ = some μ' → sh_G μ') ∧ (∀ ⦃i1 : Int32⦄ ⦃i2 : Int32⦄ ⦃μ μ' : sh_Mem⦄, sh_G μ → F_X8_advance fuel 9 i1 i2 μ = some μ' → sh_G μ') := by
  induction fuel with
  | zero => exact ⟨(by intro i1 i2 μ μ' hG h; cases h), (by intro i1 i2 μ μ' hG h; cases h), (by intro i1 i2 μ μ' hG h; cases h), (by intro i1 i2 μ μ' hG h; cases h), (by intro i1 i2 μ μ' hG h; cases h), (by intro i1 i2 μ μ' hG h; cases h), (by intro i1 i2 μ μ' hG h; cases h), (by intro i1 i2 μ μ' hG h; cases h), (by intro i1 i2 μ μ' hG h; cases h)⟩
  | succ fuel ih =>
    obtain ⟨ih_18, ih_37, ih_76, ih_89, ih_175, ih_210, ih_233, ih_263, ih_269⟩ := ih
    refine ⟨?_, ?_, ?_, ?_, ?_, ?_, ?_, ?_, ?_⟩
    · intro i1 i2 μ μ' hG h
      replace h : (sh_let ((sh_i μ 2 2) : Int32) (fun x83 => sh_let (sh_setI μ 2 9 (sh_i μ 2 4)) (fun μ84 => F_X8_advance fuel 2 1 x83 μ84)) : Option sh_Mem) = some μ' := h
      obtain ⟨x83, ex83⟩ : ∃ y : Int32, y = (sh_i μ 2 2) := ⟨_, rfl⟩
      rw [sh_let_eq ex83] at h
      obtain ⟨μ84, eμ84⟩ : ∃ y : sh_Mem, y = (sh_setI μ 2 9 (sh_i μ 2 4)) := ⟨_, rfl⟩
      rw [sh_let_eq eμ84] at h
      have hG84 : sh_G μ84 := by rw [eμ84]; exact hG
      exact ih_37 hG84 h
    · intro i1 i2 μ μ' hG h
      replace h : ((if (sh_i μ 2 1) ≤ (sh_i μ 2 2) then F_X8_advance fuel 4 i1 i2 μ else (if sh_in (sh_i μ 2 2) 1600 then (if (sh_i μ 1 ((sh_i μ 2 2)).toNatClampNeg) = 10 then F_X8_advance fuel 3 i1 i2 μ else (if sh_in (sh_i μ 2 2) 1600 then (if (sh_i μ 1 ((sh_i μ 2 2)).toNatClampNeg) = 32 then F_X8_advance fuel 3 i1 i2 μ else F_X8_advance fuel 4 i1 i2 μ) else none)) else none)) : Option sh_Mem) = some μ' := h
      by_cases c85 : (sh_i μ 2 1) ≤ (sh_i μ 2 2)
      · rw [if_pos c85] at h
        exact ih_89 hG h
      · rw [if_neg c85] at h
        obtain ⟨k86, h⟩ := sh_chk h
        by_cases c87 : (sh_i μ 1 ((sh_i μ 2 2)).toNatClampNeg) = 10
        · rw [if_pos c87] at h
          exact ih_76 hG h
        · rw [if_neg c87] at h
          obtain ⟨k88, h⟩ := sh_chk h
          by_cases c89 : (sh_i μ 1 ((sh_i μ 2 2)).toNatClampNeg) = 32
          · rw [if_pos c89] at h
            exact ih_76 hG h
          · rw [if_neg c89] at h
            exact ih_89 hG h
    · intro i1 i2 μ μ' hG h
      replace h : (sh_let (sh_setI μ 2 2 ((sh_i μ 2 2) + 1)) (fun μ90 => F_X8_advance fuel 2 i1 i2 μ90) : Option sh_Mem) = some μ' := h
      obtain ⟨μ90, eμ90⟩ : ∃ y : sh_Mem, y = (sh_setI μ 2 2 ((sh_i μ 2 2) + 1)) := ⟨_, rfl⟩
      rw [sh_let_eq eμ90] at h
      have hG90 : sh_G μ90 := by rw [eμ90]; exact hG
      exact ih_37 hG90 h
    · intro i1 i2 μ μ' hG h
      replace h : (sh_let (sh_setI μ 2 4 (sh_i μ 2 2)) (fun μ91 => (if (sh_i μ91 2 2) < (sh_i μ91 2 1) then (if sh_in (sh_i μ91 2 2) 1600 then (if (sh_i μ91 1 ((sh_i μ91 2 2)).toNatClampNeg) < 97 then F_X8_advance fuel 5 i1 i2 μ91 else (if sh_in (sh_i μ91 2 2) 1600 then (if 122 < (sh_i μ91 1 ((sh_i μ91 2 2)).toNatClampNeg) then F_X8_advance fuel 5 i1 i2 μ91 else sh_bindv (f_X8_takeLetters μ91) (fun μ97 => (if (sh_i μ97 2 5) ≤ 6 then sh_bind (f_X8_wordOf (sh_i μ97 2 7) μ97) (fun y103 μ101 => sh_let (sh_setI μ101 2 6 y103) (fun μ104 => F_X8_advance fuel 7 i1 i2 μ104)) else sh_let (sh_setI μ97 2 6 (-1)) (fun μ105 => F_X8_advance fuel 7 i1 i2 μ105)))) else none)) else none) else sh_let (sh_setI μ91 2 3 (-1)) (fun μ106 => F_X8_advance fuel 7 i1 i2 μ106))) : Option sh_Mem) = some μ' := h
      obtain ⟨μ91, eμ91⟩ : ∃ y : sh_Mem, y = (sh_setI μ 2 4 (sh_i μ 2 2)) := ⟨_, rfl⟩
      rw [sh_let_eq eμ91] at h
      have hG91 : sh_G μ91 := by rw [eμ91]; exact hG
      by_cases c92 : (sh_i μ91 2 2) < (sh_i μ91 2 1)
      · rw [if_pos c92] at h
        obtain ⟨k93, h⟩ := sh_chk h
        by_cases c94 : (sh_i μ91 1 ((sh_i μ91 2 2)).toNatClampNeg) < 97
        · rw [if_pos c94] at h
          exact ih_175 hG91 h
        · rw [if_neg c94] at h
          obtain ⟨k95, h⟩ := sh_chk h
          by_cases c96 : 122 < (sh_i μ91 1 ((sh_i μ91 2 2)).toNatClampNeg)
          · rw [if_pos c96] at h
            exact ih_175 hG91 h
          · rw [if_neg c96] at h
            obtain ⟨μ97, hr98, h⟩ := sh_bindv_e h
            have hG97 := gp_X8_takeLetters hG91 hr98
            by_cases c100 : (sh_i μ97 2 5) ≤ 6
            · rw [if_pos c100] at h
              obtain ⟨y103, μ101, hr102, h⟩ := sh_bind_e h
              have hG101 := gp_X8_wordOf hG97 hr102
              obtain ⟨μ104, eμ104⟩ : ∃ y : sh_Mem, y = (sh_setI μ101 2 6 y103) := ⟨_, rfl⟩
              rw [sh_let_eq eμ104] at h
              have hG104 : sh_G μ104 := by rw [eμ104]; exact hG101
              exact ih_233 hG104 h
            · rw [if_neg c100] at h
              obtain ⟨μ105, eμ105⟩ : ∃ y : sh_Mem, y = (sh_setI μ97 2 6 (-1)) := ⟨_, rfl⟩
              rw [sh_let_eq eμ105] at h
              have hG105 : sh_G μ105 := by rw [eμ105]; exact hG97
              exact ih_233 hG105 h
      · rw [if_neg c92] at h
        obtain ⟨μ106, eμ106⟩ : ∃ y : sh_Mem, y = (sh_setI μ91 2 3 (-1)) := ⟨_, rfl⟩
        rw [sh_let_eq eμ106] at h
        have hG106 : sh_G μ106 := by rw [eμ106]; exact hG91
        exact ih_233 hG106 h
    · intro i1 i2 μ μ' hG h
      replace h : ((if sh_in (sh_i μ 2 2) 1600 then (if (sh_i μ 1 ((sh_i μ 2 2)).toNatClampNeg) < 48 then F_X8_advance fuel 6 i1 i2 μ else (if sh_in (sh_i μ 2 2) 1600 then (if 57 < (sh_i μ 1 ((sh_i μ 2 2)).toNatClampNeg) then F_X8_advance fuel 6 i1 i2 μ else sh_bindv (f_X8_takeDigits μ) (fun μ111 => F_X8_advance fuel 7 i1 i2 μ111)) else none)) else none) : Option sh_Mem) = some μ' := h
      obtain ⟨k107, h⟩ := sh_chk h
      by_cases c108 : (sh_i μ 1 ((sh_i μ 2 2)).toNatClampNeg) < 48
      · rw [if_pos c108] at h
        exact ih_210 hG h
      · rw [if_neg c108] at h
        obtain ⟨k109, h⟩ := sh_chk h
        by_cases c110 : 57 < (sh_i μ 1 ((sh_i μ 2 2)).toNatClampNeg)
        · rw [if_pos c110] at h
          exact ih_210 hG h
        · rw [if_neg c110] at h
          obtain ⟨μ111, hr112, h⟩ := sh_bindv_e h
          have hG111 := gp_X8_takeDigits hG hr112
          exact ih_233 hG111 h
    · intro i1 i2 μ μ' hG h
      replace h : ((if sh_in (sh_i μ 2 2) 1600 then sh_let (sh_setI μ 2 3 (sh_i μ 1 ((sh_i μ 2 2)).toNatClampNeg)) (fun μ115 => sh_let (sh_setI μ115 2 2 ((sh_i μ115 2 2) + 1)) (fun μ116 => F_X8_advance fuel 7 i1 i2 μ116)) else none) : Option sh_Mem) = some μ' := h
      obtain ⟨k114, h⟩ := sh_chk h
      obtain ⟨μ115, eμ115⟩ : ∃ y : sh_Mem, y = (sh_setI μ 2 3 (sh_i μ 1 ((sh_i μ 2 2)).toNatClampNeg)) := ⟨_, rfl⟩
      rw [sh_let_eq eμ115] at h
      have hG115 : sh_G μ115 := by rw [eμ115]; exact hG
      obtain ⟨μ116, eμ116⟩ : ∃ y : sh_Mem, y = (sh_setI μ115 2 2 ((sh_i μ115 2 2) + 1)) := ⟨_, rfl⟩
      rw [sh_let_eq eμ116] at h
      have hG116 : sh_G μ116 := by rw [eμ116]; exact hG115
      exact ih_233 hG116 h
    · intro i1 i2 μ μ' hG h
      replace h : ((if i1 = 0 then F_X8_advance fuel 9 i1 i2 μ else (if (sh_i μ 2 4) = i2 then (if (sh_i μ 2 3) = (-2) then F_X8_advance fuel 8 i1 i2 μ else (if (sh_i μ 2 3) = (-3) then F_X8_advance fuel 8 i1 i2 μ else F_X8_advance fuel 9 i1 i2 μ)) else F_X8_advance fuel 9 i1 i2 μ)) : Option sh_Mem) = some μ' := h
      by_cases c117 : i1 = 0
      · rw [if_pos c117] at h
        exact ih_269 hG h
      · rw [if_neg c117] at h
        by_cases c118 : (sh_i μ 2 4) = i2
        · rw [if_pos c118] at h
          by_cases c119 : (sh_i μ 2 3) = (-2)
          · rw [if_pos c119] at h
            exact ih_263 hG h
          · rw [if_neg c119] at h
            by_cases c120 : (sh_i μ 2 3) = (-3)
            · rw [if_pos c120] at h
              exact ih_263 hG h
            · rw [if_neg c120] at h
              exact ih_269 hG h
        · rw [if_neg c118] at h
          exact ih_269 hG h
    · intro i1 i2 μ μ' hG h
      replace h : (sh_let (sh_setI μ 2 3 (-4)) (fun μ121 => F_X8_advance fuel 9 i1 i2 μ121) : Option sh_Mem) = some μ' := h
      obtain ⟨μ121, eμ121⟩ : ∃ y : sh_Mem, y = (sh_setI μ 2 3 (-4)) := ⟨_, rfl⟩
      rw [sh_let_eq eμ121] at h
      have hG121 : sh_G μ121 := by rw [eμ121]; exact hG
      exact ih_269 hG121 h
    · intro i1 i2 μ μ' hG h
      replace h : (some μ : Option sh_Mem) = some μ' := h
      have e2 := Option.some.inj h
      exact e2 ▸ hG
theorem tl_X8_advance (fuel : Nat) : (∀ ⦃i1 : Int32⦄ ⦃i2 : Int32⦄ ⦃μ μ' : sh_Mem⦄, sh_G μ → F_X8_advance fuel 1 i1 i2 μ = some μ' → sh_V0 l B D ca 7 M_X8_advance 18 [(0, .ref 2)] [] μ (fun v0 μ0 => v0 = none ∧ μ0 = μ')) ∧ (∀ ⦃i1 : Int32⦄ ⦃i2 : Int32⦄ ⦃μ μ' : sh_Mem⦄, sh_G μ → F_X8_advance fuel 2 i1 i2 μ = some μ' → sh_V0 l B D ca 7 M_X8_advance 37 [(0, .ref 2), (1, .int i1), (2, .int i2)] [] μ (fun v0 μ0 => v0 = none ∧ μ0 = μ')) ∧ (∀ ⦃i1 : Int32⦄ ⦃i2 : Int32⦄ ⦃μ μ' : sh_Mem⦄, sh_G μ → F_X8_advance fuel 3 i1 i2 μ = some μ' → sh_V0 l B D ca 7 M_X8_advance 76 [(0, .ref 2), (1, .int i1), (2, .int i2)] [] μ (fun v0 μ0 => v0 = none ∧ μ0 = μ')) ∧ (∀ ⦃i1 : Int32⦄ ⦃i2 : Int32⦄ ⦃μ μ' : sh_Mem⦄, sh_G μ → F_X8_advance fuel 4 i1 i2 μ = some μ' → sh_V0 l B D ca 7 M_X8_advance 89 [(0, .ref 2), (1, .int i1), (2, .int i2)] [] μ (fun v0 μ0 => v0 = none ∧ μ0 = μ')) ∧ (∀ ⦃i1 : Int32⦄ ⦃i2 : Int32⦄ ⦃μ μ' : sh_Mem⦄, sh_G μ → F_X8_advance fuel 5 i1 i2 μ = some μ' → sh_V0 l B D ca 7 M_X8_advance 175 [(0, .ref 2), (1, .int i1), (2, .int i2)] [] μ (fun v0 μ0 => v0 = none ∧ μ0 = μ')) ∧ (∀ ⦃i1 : Int32⦄ ⦃i2 : Int32⦄ ⦃μ μ' : sh_Mem⦄, sh_G μ → F_X8_advance fuel 6 i1 i2 μ = some μ' → sh_V0 l B D ca 7 M_X8_advance 210 [(0, .ref 2), (1, .int i1), (2, .int i2)] [] μ (fun v0 μ0 => v0 = none ∧ μ0 = μ')) ∧ (∀ ⦃i1 : Int32⦄ ⦃i2 : Int32⦄ ⦃μ μ' : sh_Mem⦄, sh_G μ → F_X8_advance fuel 7 i1 i2 μ = some μ' → sh_V0 l B D ca 7 M_X8_advance 233 [(0, .ref 2), (1, .int i1), (2, .int i2)] [] μ (fun v0 μ0 => v0 = none ∧ μ0 = μ')) ∧ (∀ ⦃i1 : Int32⦄ ⦃i2 : Int32⦄ ⦃μ μ' : sh_Mem⦄, sh_G μ → F_X8_advance fuel 8 i1 i2 μ = some μ' → sh_V0 l B D ca 7 M_X8_advance 263 [(0, .ref 2), (1, .int i1), (2, .int i2)] [] μ (fun v0 μ0 => v0 = none ∧ μ0 = μ')) ∧ (∀ ⦃i1 : Int32⦄ ⦃i2 : Int32⦄ ⦃μ μ' : sh_Mem⦄, sh_G μ → F_X8_advance fuel 9 i1 i2 μ = some μ' → sh_V0 l B D ca 7 M_X8_advance 269 [(0, .ref 2), (1, .int i1), (2, .int i2)] [] μ (fun v0 μ0 => v0 = none ∧ μ0 = μ')) := by
  induction fuel with
  | zero => exact ⟨(by intro i1 i2 μ μ' hG h; cases h), (by intro i1 i2 μ μ' hG h; cases h), (by intro i1 i2 μ μ' hG h; cases h), (by intro i1 i2 μ μ' hG h; cases h), (by intro i1 i2 μ μ' hG h; cases h), (by intro i1 i2 μ μ' hG h; cases h), (by intro i1 i2 μ μ' hG h; cases h), (by intro i1 i2 μ μ' hG h; cases h), (by intro i1 i2 μ μ' hG h; cases h)⟩
  | succ fuel ih =>
    obtain ⟨ih_18, ih_37, ih_76, ih_89, ih_175, ih_210, ih_233, ih_263, ih_269⟩ := ih
    refine ⟨?_, ?_, ?_, ?_, ?_, ?_, ?_, ?_, ?_⟩
    · intro i1 i2 μ μ' hG h
      replace h : (sh_let ((sh_i μ 2 2) : Int32) (fun x83 => sh_let (sh_setI μ 2 9 (sh_i μ 2 4)) (fun μ84 => F_X8_advance fuel 2 1 x83 μ84)) : Option sh_Mem) = some μ' := h
      refine vv_iconst 18 dX8_advance_18 ik_1 ?_
      refine vv_goto 19 23 dX8_advance_19 (by decide) ?_
      refine vv_istore_n (lv' := [(1, _), (0, _)]) 23 1 dX8_advance_23 rfl (by decide) rfl ?_
      refine vv_aload_n 24 0 dX8_advance_24 rfl rfl ?_
      refine vv_getI 25 dX8_advance_25 fl_8_25 rfl (g_l_2 hG) ?_
      refine vv_topi (fun x83 ex83 => ?_)
      rw [sh_let_eq ex83] at h
      refine vv_istore_n (lv' := [(2, _), (1, _), (0, _)]) 28 2 dX8_advance_28 rfl (by decide) rfl ?_
      refine vv_aload_n 29 0 dX8_advance_29 rfl rfl ?_
      refine vv_aload_n 30 0 dX8_advance_30 rfl rfl ?_
      refine vv_getI 31 dX8_advance_31 fl_8_31 rfl (g_l_2 hG) ?_
      refine vn_putI 34 dX8_advance_34 fl_8_43 (Or.inl rfl) rfl (g_l_2 hG) (fun μ84 eμ84 => ?_)
      rw [sh_let_eq eμ84] at h
      have hG84 : sh_G μ84 := by rw [eμ84]; exact hG
      refine vv_sub [(0, _), (1, _), (2, _)] (sh_subm [2, 1, 0] rfl) ?_
      exact ih_37 hG84 h
    · intro i1 i2 μ μ' hG h
      replace h : ((if (sh_i μ 2 1) ≤ (sh_i μ 2 2) then F_X8_advance fuel 4 i1 i2 μ else (if sh_in (sh_i μ 2 2) 1600 then (if (sh_i μ 1 ((sh_i μ 2 2)).toNatClampNeg) = 10 then F_X8_advance fuel 3 i1 i2 μ else (if sh_in (sh_i μ 2 2) 1600 then (if (sh_i μ 1 ((sh_i μ 2 2)).toNatClampNeg) = 32 then F_X8_advance fuel 3 i1 i2 μ else F_X8_advance fuel 4 i1 i2 μ) else none)) else none)) : Option sh_Mem) = some μ' := h
      refine vv_aload_n 37 0 dX8_advance_37 rfl rfl ?_
      refine vv_getI 38 dX8_advance_38 fl_8_25 rfl (g_l_2 hG) ?_
      refine vv_aload_n 41 0 dX8_advance_41 rfl rfl ?_
      refine vv_getI 42 dX8_advance_42 fl_8_21 rfl (g_l_2 hG) ?_
      refine vv_icmp_ge 45 89 dX8_advance_45 (by decide) (fun c85 => ?_) (fun c85 => ?_)
      · rw [if_pos c85] at h
        refine vv_sub [(0, _), (1, _), (2, _)] (sh_subm [0, 1, 2] rfl) ?_
        exact ih_89 hG h
      · rw [if_neg c85] at h
        refine vv_aload_n 48 0 dX8_advance_48 rfl rfl ?_
        refine vv_getR 49 dX8_advance_49 fl_8_9 rfl (g_l_2 hG) (g_r_2_0 hG) ?_
        refine vv_aload_n 52 0 dX8_advance_52 rfl rfl ?_
        refine vv_getI 53 dX8_advance_53 fl_8_25 rfl (g_l_2 hG) ?_
        obtain ⟨k86, h⟩ := sh_chk h
        refine vv_iald 56 dX8_advance_56 (g_l_1 hG) k86 ?_
        refine vv_bipush 57 dX8_advance_57 bk_10 ?_
        refine vv_icmp_eq 59 76 dX8_advance_59 (by decide) (fun c87 => ?_) (fun c87 => ?_)
        · rw [if_pos c87] at h
          refine vv_sub [(0, _), (1, _), (2, _)] (sh_subm [0, 1, 2] rfl) ?_
          exact ih_76 hG h
        · rw [if_neg c87] at h
          refine vv_aload_n 62 0 dX8_advance_62 rfl rfl ?_
          refine vv_getR 63 dX8_advance_63 fl_8_9 rfl (g_l_2 hG) (g_r_2_0 hG) ?_
          refine vv_aload_n 66 0 dX8_advance_66 rfl rfl ?_
          refine vv_getI 67 dX8_advance_67 fl_8_25 rfl (g_l_2 hG) ?_
          obtain ⟨k88, h⟩ := sh_chk h
          refine vv_iald 70 dX8_advance_70 (g_l_1 hG) k88 ?_
          refine vv_bipush 71 dX8_advance_71 bk_32 ?_
          refine vv_icmp_ne 73 89 dX8_advance_73 (by decide) (fun c89 => ?_) (fun c89 => ?_)
          · rw [if_neg c89] at h
            refine vv_sub [(0, _), (1, _), (2, _)] (sh_subm [0, 1, 2] rfl) ?_
            exact ih_89 hG h
          · rw [if_pos c89] at h
            refine vv_sub [(0, _), (1, _), (2, _)] (sh_subm [0, 1, 2] rfl) ?_
            exact ih_76 hG h
    · intro i1 i2 μ μ' hG h
      replace h : (sh_let (sh_setI μ 2 2 ((sh_i μ 2 2) + 1)) (fun μ90 => F_X8_advance fuel 2 i1 i2 μ90) : Option sh_Mem) = some μ' := h
      refine vv_aload_n 76 0 dX8_advance_76 rfl rfl ?_
      refine vv_dup_ref 77 dX8_advance_77 ?_
      refine vv_getI 78 dX8_advance_78 fl_8_25 rfl (g_l_2 hG) ?_
      refine vv_iconst 81 dX8_advance_81 ik_1 ?_
      refine vv_iadd 82 dX8_advance_82 ?_
      refine vn_putI 83 dX8_advance_83 fl_8_25 (Or.inl rfl) rfl (g_l_2 hG) (fun μ90 eμ90 => ?_)
      rw [sh_let_eq eμ90] at h
      have hG90 : sh_G μ90 := by rw [eμ90]; exact hG
      refine vv_goto 86 37 dX8_advance_86 (by decide) ?_
      refine vv_sub [(0, _), (1, _), (2, _)] (sh_subm [0, 1, 2] rfl) ?_
      exact ih_37 hG90 h
    · intro i1 i2 μ μ' hG h
      replace h : (sh_let (sh_setI μ 2 4 (sh_i μ 2 2)) (fun μ91 => (if (sh_i μ91 2 2) < (sh_i μ91 2 1) then (if sh_in (sh_i μ91 2 2) 1600 then (if (sh_i μ91 1 ((sh_i μ91 2 2)).toNatClampNeg) < 97 then F_X8_advance fuel 5 i1 i2 μ91 else (if sh_in (sh_i μ91 2 2) 1600 then (if 122 < (sh_i μ91 1 ((sh_i μ91 2 2)).toNatClampNeg) then F_X8_advance fuel 5 i1 i2 μ91 else sh_bindv (f_X8_takeLetters μ91) (fun μ97 => (if (sh_i μ97 2 5) ≤ 6 then sh_bind (f_X8_wordOf (sh_i μ97 2 7) μ97) (fun y103 μ101 => sh_let (sh_setI μ101 2 6 y103) (fun μ104 => F_X8_advance fuel 7 i1 i2 μ104)) else sh_let (sh_setI μ97 2 6 (-1)) (fun μ105 => F_X8_advance fuel 7 i1 i2 μ105)))) else none)) else none) else sh_let (sh_setI μ91 2 3 (-1)) (fun μ106 => F_X8_advance fuel 7 i1 i2 μ106))) : Option sh_Mem) = some μ' := h
      refine vv_aload_n 89 0 dX8_advance_89 rfl rfl ?_
      refine vv_aload_n 90 0 dX8_advance_90 rfl rfl ?_
      refine vv_getI 91 dX8_advance_91 fl_8_25 rfl (g_l_2 hG) ?_
      refine vn_putI 94 dX8_advance_94 fl_8_31 (Or.inl rfl) rfl (g_l_2 hG) (fun μ91 eμ91 => ?_)
      rw [sh_let_eq eμ91] at h
      have hG91 : sh_G μ91 := by rw [eμ91]; exact hG
      refine vv_aload_n 97 0 dX8_advance_97 rfl rfl ?_
      refine vv_getI 98 dX8_advance_98 fl_8_25 rfl (g_l_2 hG91) ?_
      refine vv_aload_n 101 0 dX8_advance_101 rfl rfl ?_
      refine vv_getI 102 dX8_advance_102 fl_8_21 rfl (g_l_2 hG91) ?_
      refine vv_icmp_lt 105 116 dX8_advance_105 (by decide) (fun c92 => ?_) (fun c92 => ?_)
      · rw [if_pos c92] at h
        refine vv_aload_n 116 0 dX8_advance_116 rfl rfl ?_
        refine vv_getR 117 dX8_advance_117 fl_8_9 rfl (g_l_2 hG91) (g_r_2_0 hG91) ?_
        refine vv_aload_n 120 0 dX8_advance_120 rfl rfl ?_
        refine vv_getI 121 dX8_advance_121 fl_8_25 rfl (g_l_2 hG91) ?_
        obtain ⟨k93, h⟩ := sh_chk h
        refine vv_iald 124 dX8_advance_124 (g_l_1 hG91) k93 ?_
        refine vv_bipush 125 dX8_advance_125 bk_97 ?_
        refine vv_icmp_lt 127 175 dX8_advance_127 (by decide) (fun c94 => ?_) (fun c94 => ?_)
        · rw [if_pos c94] at h
          refine vv_sub [(0, _), (1, _), (2, _)] (sh_subm [0, 1, 2] rfl) ?_
          exact ih_175 hG91 h
        · rw [if_neg c94] at h
          refine vv_aload_n 130 0 dX8_advance_130 rfl rfl ?_
          refine vv_getR 131 dX8_advance_131 fl_8_9 rfl (g_l_2 hG91) (g_r_2_0 hG91) ?_
          refine vv_aload_n 134 0 dX8_advance_134 rfl rfl ?_
          refine vv_getI 135 dX8_advance_135 fl_8_25 rfl (g_l_2 hG91) ?_
          obtain ⟨k95, h⟩ := sh_chk h
          refine vv_iald 138 dX8_advance_138 (g_l_1 hG91) k95 ?_
          refine vv_bipush 139 dX8_advance_139 bk_122 ?_
          refine vv_icmp_gt 141 175 dX8_advance_141 (by decide) (fun c96 => ?_) (fun c96 => ?_)
          · rw [if_pos c96] at h
            refine vv_sub [(0, _), (1, _), (2, _)] (sh_subm [0, 1, 2] rfl) ?_
            exact ih_175 hG91 h
          · rw [if_neg c96] at h
            refine vv_aload_n 144 0 dX8_advance_144 rfl rfl ?_
            obtain ⟨μ97, hr98, h⟩ := sh_bindv_e h
            refine v1_callV [] 145 dX8_advance_145 ck_X8_46 (g_l_2 hG91) ⟨by decide, rfl⟩ (t_X8_takeLetters hG91 hr98) (Nat.le_of_ble_eq_true rfl) ⟨Nat.le_of_ble_eq_true rfl, Nat.le_of_ble_eq_true rfl⟩ rfl (Nat.le_of_ble_eq_true rfl) ?_
            have hG97 := gp_X8_takeLetters hG91 hr98
            refine vv_aload_n 148 0 dX8_advance_148 rfl rfl ?_
            refine vv_aload_n 149 0 dX8_advance_149 rfl rfl ?_
            refine vv_getI 150 dX8_advance_150 fl_8_49 rfl (g_l_2 hG97) ?_
            refine vv_bipush 153 dX8_advance_153 bk_6 ?_
            refine vv_icmp_le 155 162 dX8_advance_155 (by decide) (fun c100 => ?_) (fun c100 => ?_)
            · rw [if_pos c100] at h
              refine vv_aload_n 162 0 dX8_advance_162 rfl rfl ?_
              refine vv_getI 163 dX8_advance_163 fl_8_52 rfl (g_l_2 hG97) ?_
              obtain ⟨y103, μ101, hr102, h⟩ := sh_bind_e h
              refine v1_callS [_] 166 dX8_advance_166 ck_X8_55 (t_X8_wordOf hG97 hr102) (Nat.le_of_ble_eq_true rfl) ⟨Nat.le_of_ble_eq_true rfl, Nat.le_of_ble_eq_true rfl⟩ rfl (Nat.le_of_ble_eq_true rfl) ?_
              have hG101 := gp_X8_wordOf hG97 hr102
              refine vn_putI 169 dX8_advance_169 fl_8_59 (Or.inl rfl) rfl (g_l_2 hG101) (fun μ104 eμ104 => ?_)
              rw [sh_let_eq eμ104] at h
              have hG104 : sh_G μ104 := by rw [eμ104]; exact hG101
              refine vv_goto 172 233 dX8_advance_172 (by decide) ?_
              refine vv_sub [(0, _), (1, _), (2, _)] (sh_subm [0, 1, 2] rfl) ?_
              exact ih_233 hG104 h
            · rw [if_neg c100] at h
              refine vv_iconst 158 dX8_advance_158 ik_m1 ?_
              refine vv_goto 159 169 dX8_advance_159 (by decide) ?_
              refine vn_putI 169 dX8_advance_169 fl_8_59 (Or.inl rfl) rfl (g_l_2 hG97) (fun μ105 eμ105 => ?_)
              rw [sh_let_eq eμ105] at h
              have hG105 : sh_G μ105 := by rw [eμ105]; exact hG97
              refine vv_goto 172 233 dX8_advance_172 (by decide) ?_
              refine vv_sub [(0, _), (1, _), (2, _)] (sh_subm [0, 1, 2] rfl) ?_
              exact ih_233 hG105 h
      · rw [if_neg c92] at h
        refine vv_aload_n 108 0 dX8_advance_108 rfl rfl ?_
        refine vv_iconst 109 dX8_advance_109 ik_m1 ?_
        refine vn_putI 110 dX8_advance_110 fl_8_28 (Or.inl rfl) rfl (g_l_2 hG91) (fun μ106 eμ106 => ?_)
        rw [sh_let_eq eμ106] at h
        have hG106 : sh_G μ106 := by rw [eμ106]; exact hG91
        refine vv_goto 113 233 dX8_advance_113 (by decide) ?_
        refine vv_sub [(0, _), (1, _), (2, _)] (sh_subm [0, 1, 2] rfl) ?_
        exact ih_233 hG106 h
    · intro i1 i2 μ μ' hG h
      replace h : ((if sh_in (sh_i μ 2 2) 1600 then (if (sh_i μ 1 ((sh_i μ 2 2)).toNatClampNeg) < 48 then F_X8_advance fuel 6 i1 i2 μ else (if sh_in (sh_i μ 2 2) 1600 then (if 57 < (sh_i μ 1 ((sh_i μ 2 2)).toNatClampNeg) then F_X8_advance fuel 6 i1 i2 μ else sh_bindv (f_X8_takeDigits μ) (fun μ111 => F_X8_advance fuel 7 i1 i2 μ111)) else none)) else none) : Option sh_Mem) = some μ' := h
      refine vv_aload_n 175 0 dX8_advance_175 rfl rfl ?_
      refine vv_getR 176 dX8_advance_176 fl_8_9 rfl (g_l_2 hG) (g_r_2_0 hG) ?_
      refine vv_aload_n 179 0 dX8_advance_179 rfl rfl ?_
      refine vv_getI 180 dX8_advance_180 fl_8_25 rfl (g_l_2 hG) ?_
      obtain ⟨k107, h⟩ := sh_chk h
      refine vv_iald 183 dX8_advance_183 (g_l_1 hG) k107 ?_
      refine vv_bipush 184 dX8_advance_184 bk_48 ?_
      refine vv_icmp_lt 186 210 dX8_advance_186 (by decide) (fun c108 => ?_) (fun c108 => ?_)
      · rw [if_pos c108] at h
        refine vv_sub [(0, _), (1, _), (2, _)] (sh_subm [0, 1, 2] rfl) ?_
        exact ih_210 hG h
      · rw [if_neg c108] at h
        refine vv_aload_n 189 0 dX8_advance_189 rfl rfl ?_
        refine vv_getR 190 dX8_advance_190 fl_8_9 rfl (g_l_2 hG) (g_r_2_0 hG) ?_
        refine vv_aload_n 193 0 dX8_advance_193 rfl rfl ?_
        refine vv_getI 194 dX8_advance_194 fl_8_25 rfl (g_l_2 hG) ?_
        obtain ⟨k109, h⟩ := sh_chk h
        refine vv_iald 197 dX8_advance_197 (g_l_1 hG) k109 ?_
        refine vv_bipush 198 dX8_advance_198 bk_57 ?_
        refine vv_icmp_gt 200 210 dX8_advance_200 (by decide) (fun c110 => ?_) (fun c110 => ?_)
        · rw [if_pos c110] at h
          refine vv_sub [(0, _), (1, _), (2, _)] (sh_subm [0, 1, 2] rfl) ?_
          exact ih_210 hG h
        · rw [if_neg c110] at h
          refine vv_aload_n 203 0 dX8_advance_203 rfl rfl ?_
          obtain ⟨μ111, hr112, h⟩ := sh_bindv_e h
          refine v1_callV [] 204 dX8_advance_204 ck_X8_62 (g_l_2 hG) ⟨by decide, rfl⟩ (t_X8_takeDigits hG hr112) (Nat.le_of_ble_eq_true rfl) ⟨Nat.le_of_ble_eq_true rfl, Nat.le_of_ble_eq_true rfl⟩ rfl (Nat.le_of_ble_eq_true rfl) ?_
          have hG111 := gp_X8_takeDigits hG hr112
          refine vv_goto 207 233 dX8_advance_207 (by decide) ?_
          refine vv_sub [(0, _), (1, _), (2, _)] (sh_subm [0, 1, 2] rfl) ?_
          exact ih_233 hG111 h
    · intro i1 i2 μ μ' hG h
      replace h : ((if sh_in (sh_i μ 2 2) 1600 then sh_let (sh_setI μ 2 3 (sh_i μ 1 ((sh_i μ 2 2)).toNatClampNeg)) (fun μ115 => sh_let (sh_setI μ115 2 2 ((sh_i μ115 2 2) + 1)) (fun μ116 => F_X8_advance fuel 7 i1 i2 μ116)) else none) : Option sh_Mem) = some μ' := h
      refine vv_aload_n 210 0 dX8_advance_210 rfl rfl ?_
      refine vv_aload_n 211 0 dX8_advance_211 rfl rfl ?_
      refine vv_getR 212 dX8_advance_212 fl_8_9 rfl (g_l_2 hG) (g_r_2_0 hG) ?_
      refine vv_aload_n 215 0 dX8_advance_215 rfl rfl ?_
      refine vv_getI 216 dX8_advance_216 fl_8_25 rfl (g_l_2 hG) ?_
      obtain ⟨k114, h⟩ := sh_chk h
      refine vv_iald 219 dX8_advance_219 (g_l_1 hG) k114 ?_
      refine vn_putI 220 dX8_advance_220 fl_8_28 (Or.inl rfl) rfl (g_l_2 hG) (fun μ115 eμ115 => ?_)
      rw [sh_let_eq eμ115] at h
      have hG115 : sh_G μ115 := by rw [eμ115]; exact hG
      refine vv_aload_n 223 0 dX8_advance_223 rfl rfl ?_
      refine vv_dup_ref 224 dX8_advance_224 ?_
      refine vv_getI 225 dX8_advance_225 fl_8_25 rfl (g_l_2 hG115) ?_
      refine vv_iconst 228 dX8_advance_228 ik_1 ?_
      refine vv_iadd 229 dX8_advance_229 ?_
      refine vn_putI 230 dX8_advance_230 fl_8_25 (Or.inl rfl) rfl (g_l_2 hG115) (fun μ116 eμ116 => ?_)
      rw [sh_let_eq eμ116] at h
      have hG116 : sh_G μ116 := by rw [eμ116]; exact hG115
      refine vv_sub [(0, _), (1, _), (2, _)] (sh_subm [0, 1, 2] rfl) ?_
      exact ih_233 hG116 h
    · intro i1 i2 μ μ' hG h
      replace h : ((if i1 = 0 then F_X8_advance fuel 9 i1 i2 μ else (if (sh_i μ 2 4) = i2 then (if (sh_i μ 2 3) = (-2) then F_X8_advance fuel 8 i1 i2 μ else (if (sh_i μ 2 3) = (-3) then F_X8_advance fuel 8 i1 i2 μ else F_X8_advance fuel 9 i1 i2 μ)) else F_X8_advance fuel 9 i1 i2 μ)) : Option sh_Mem) = some μ' := h
      refine vv_iload_n 233 1 dX8_advance_233 rfl rfl ?_
      refine vv_if_eq 234 269 dX8_advance_234 (by decide) (fun c117 => ?_) (fun c117 => ?_)
      · rw [if_pos c117] at h
        refine vv_sub [(0, _), (1, _), (2, _)] (sh_subm [0, 1, 2] rfl) ?_
        exact ih_269 hG h
      · rw [if_neg c117] at h
        refine vv_aload_n 237 0 dX8_advance_237 rfl rfl ?_
        refine vv_getI 238 dX8_advance_238 fl_8_31 rfl (g_l_2 hG) ?_
        refine vv_iload_n 241 2 dX8_advance_241 rfl rfl ?_
        refine vv_icmp_ne 242 269 dX8_advance_242 (by decide) (fun c118 => ?_) (fun c118 => ?_)
        · rw [if_neg c118] at h
          refine vv_sub [(0, _), (1, _), (2, _)] (sh_subm [0, 1, 2] rfl) ?_
          exact ih_269 hG h
        · rw [if_pos c118] at h
          refine vv_aload_n 245 0 dX8_advance_245 rfl rfl ?_
          refine vv_getI 246 dX8_advance_246 fl_8_28 rfl (g_l_2 hG) ?_
          refine vv_bipush 249 dX8_advance_249 bk_m2 ?_
          refine vv_icmp_eq 251 263 dX8_advance_251 (by decide) (fun c119 => ?_) (fun c119 => ?_)
          · rw [if_pos c119] at h
            refine vv_sub [(0, _), (1, _), (2, _)] (sh_subm [0, 1, 2] rfl) ?_
            exact ih_263 hG h
          · rw [if_neg c119] at h
            refine vv_aload_n 254 0 dX8_advance_254 rfl rfl ?_
            refine vv_getI 255 dX8_advance_255 fl_8_28 rfl (g_l_2 hG) ?_
            refine vv_bipush 258 dX8_advance_258 bk_m3 ?_
            refine vv_icmp_ne 260 269 dX8_advance_260 (by decide) (fun c120 => ?_) (fun c120 => ?_)
            · rw [if_neg c120] at h
              refine vv_sub [(0, _), (1, _), (2, _)] (sh_subm [0, 1, 2] rfl) ?_
              exact ih_269 hG h
            · rw [if_pos c120] at h
              refine vv_sub [(0, _), (1, _), (2, _)] (sh_subm [0, 1, 2] rfl) ?_
              exact ih_263 hG h
    · intro i1 i2 μ μ' hG h
      replace h : (sh_let (sh_setI μ 2 3 (-4)) (fun μ121 => F_X8_advance fuel 9 i1 i2 μ121) : Option sh_Mem) = some μ' := h
      refine vv_aload_n 263 0 dX8_advance_263 rfl rfl ?_
      refine vv_bipush 264 dX8_advance_264 bk_m4 ?_
      refine vn_putI 266 dX8_advance_266 fl_8_28 (Or.inl rfl) rfl (g_l_2 hG) (fun μ121 eμ121 => ?_)
      rw [sh_let_eq eμ121] at h
      have hG121 : sh_G μ121 := by rw [eμ121]; exact hG
      refine vv_sub [(0, _), (1, _), (2, _)] (sh_subm [0, 1, 2] rfl) ?_
      exact ih_269 hG121 h
    · intro i1 i2 μ μ' hG h
      replace h : (some μ : Option sh_Mem) = some μ' := h
      have e2 := Option.some.inj h
      refine vv_vret 269 dX8_advance_269 rfl (Nat.le_refl _) (Nat.le_refl _) ⟨rfl, e2⟩
theorem gp_X8_advance {μ μ' : sh_Mem} (hG : sh_G μ) (h : f_X8_advance μ = some μ') : sh_G μ' := by
  have ih_18 := (gpl_X8_advance sh_fuel).1
  have ih_37 := (gpl_X8_advance sh_fuel).2.1
  have ih_76 := (gpl_X8_advance sh_fuel).2.2.1
  have ih_89 := (gpl_X8_advance sh_fuel).2.2.2.1
  have ih_175 := (gpl_X8_advance sh_fuel).2.2.2.2.1
  have ih_210 := (gpl_X8_advance sh_fuel).2.2.2.2.2.1
  have ih_233 := (gpl_X8_advance sh_fuel).2.2.2.2.2.2.1
  have ih_263 := (gpl_X8_advance sh_fuel).2.2.2.2.2.2.2.1
  have ih_269 := (gpl_X8_advance sh_fuel).2.2.2.2.2.2.2.2
  unfold f_X8_advance at h
  by_cases c122 : (sh_i μ 2 3) = (-2)
  · rw [if_pos c122] at h
    exact ih_18 hG h
  · rw [if_neg c122] at h
    by_cases c123 : (sh_i μ 2 3) = (-3)
    · rw [if_pos c123] at h
      exact ih_18 hG h
    · rw [if_neg c123] at h
      obtain ⟨x124, ex124⟩ : ∃ y : Int32, y = (sh_i μ 2 2) := ⟨_, rfl⟩
      rw [sh_let_eq ex124] at h
      obtain ⟨μ125, eμ125⟩ : ∃ y : sh_Mem, y = (sh_setI μ 2 9 (sh_i μ 2 4)) := ⟨_, rfl⟩
      rw [sh_let_eq eμ125] at h
      have hG125 : sh_G μ125 := by rw [eμ125]; exact hG
      exact ih_37 hG125 h
theorem t_X8_advance {μ μ' : sh_Mem} (hG : sh_G μ) (h : f_X8_advance μ = some μ') : sh_C0 l B D ca 7 M_X8_advance [.ref 2] μ (fun v0 μ0 => v0 = none ∧ μ0 = μ') := by
  have ih_18 := (tl_X8_advance (l := l) (B := B) (D := D) (ca := ca) sh_fuel).1
  have ih_37 := (tl_X8_advance (l := l) (B := B) (D := D) (ca := ca) sh_fuel).2.1
  have ih_76 := (tl_X8_advance (l := l) (B := B) (D := D) (ca := ca) sh_fuel).2.2.1
  have ih_89 := (tl_X8_advance (l := l) (B := B) (D := D) (ca := ca) sh_fuel).2.2.2.1
  have ih_175 := (tl_X8_advance (l := l) (B := B) (D := D) (ca := ca) sh_fuel).2.2.2.2.1
  have ih_210 := (tl_X8_advance (l := l) (B := B) (D := D) (ca := ca) sh_fuel).2.2.2.2.2.1
  have ih_233 := (tl_X8_advance (l := l) (B := B) (D := D) (ca := ca) sh_fuel).2.2.2.2.2.2.1
  have ih_263 := (tl_X8_advance (l := l) (B := B) (D := D) (ca := ca) sh_fuel).2.2.2.2.2.2.2.1
  have ih_269 := (tl_X8_advance (l := l) (B := B) (D := D) (ca := ca) sh_fuel).2.2.2.2.2.2.2.2
  unfold f_X8_advance at h
  refine vv_aload_n 0 0 dX8_advance_0 rfl rfl ?_
  refine vv_getI 1 dX8_advance_1 fl_8_28 rfl (g_l_2 hG) ?_
  refine vv_bipush 4 dX8_advance_4 bk_m2 ?_
  refine vv_icmp_eq 6 18 dX8_advance_6 (by decide) (fun c122 => ?_) (fun c122 => ?_)
  · rw [if_pos c122] at h
    refine vv_sub [(0, _)] (sh_subm [0] rfl) ?_
    exact ih_18 hG h
  · rw [if_neg c122] at h
    refine vv_aload_n 9 0 dX8_advance_9 rfl rfl ?_
    refine vv_getI 10 dX8_advance_10 fl_8_28 rfl (g_l_2 hG) ?_
    refine vv_bipush 13 dX8_advance_13 bk_m3 ?_
    refine vv_icmp_ne 15 22 dX8_advance_15 (by decide) (fun c123 => ?_) (fun c123 => ?_)
    · rw [if_neg c123] at h
      refine vv_iconst 22 dX8_advance_22 ik_0 ?_
      refine vv_istore_n (lv' := [(1, _), (0, _)]) 23 1 dX8_advance_23 rfl (by decide) rfl ?_
      refine vv_aload_n 24 0 dX8_advance_24 rfl rfl ?_
      refine vv_getI 25 dX8_advance_25 fl_8_25 rfl (g_l_2 hG) ?_
      refine vv_topi (fun x124 ex124 => ?_)
      rw [sh_let_eq ex124] at h
      refine vv_istore_n (lv' := [(2, _), (1, _), (0, _)]) 28 2 dX8_advance_28 rfl (by decide) rfl ?_
      refine vv_aload_n 29 0 dX8_advance_29 rfl rfl ?_
      refine vv_aload_n 30 0 dX8_advance_30 rfl rfl ?_
      refine vv_getI 31 dX8_advance_31 fl_8_31 rfl (g_l_2 hG) ?_
      refine vn_putI 34 dX8_advance_34 fl_8_43 (Or.inl rfl) rfl (g_l_2 hG) (fun μ125 eμ125 => ?_)
      rw [sh_let_eq eμ125] at h
      have hG125 : sh_G μ125 := by rw [eμ125]; exact hG
      refine vv_sub [(0, _), (1, _), (2, _)] (sh_subm [2, 1, 0] rfl) ?_
      exact ih_37 hG125 h
    · rw [if_pos c123] at h
      refine vv_sub [(0, _)] (sh_subm [0] rfl) ?_
      exact ih_18 hG h
end
