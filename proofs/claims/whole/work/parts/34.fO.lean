section
variable {l : Launch} {B : Nat} {D : va_G} {ca : Nat → ClassId} {μ : sh_Mem}
noncomputable def f_X12_liftedBy (a1 : Int32) (μ : sh_Mem) : Option (Int32 × sh_Mem) := (if (sh_i μ 327 (Int32.toNatClampNeg 3)) = (-1) then some (3, μ) else sh_bind (f_X12_heightOf a1 μ) (fun y4 μ2 => sh_let (sh_setI μ2 291 56 y4) (fun μ5 => sh_bind (f_X12_codesTell 0 μ5) (fun y8 μ6 => some ((f_X12_cut μ6 y8), μ6)))))
theorem gp_X12_liftedBy {a1 : Int32} {μ μ' : sh_Mem} {v : Int32} (hG : sh_G μ) (h : f_X12_liftedBy a1 μ = some (v, μ')) : sh_G μ' := by
  unfold f_X12_liftedBy at h
  by_cases c1 : (sh_i μ 327 (Int32.toNatClampNeg 3)) = (-1)
  · rw [if_pos c1] at h
    obtain ⟨e1, e2⟩ := sh_some2 h
    exact e2 ▸ hG
  · rw [if_neg c1] at h
    obtain ⟨y4, μ2, hr3, h⟩ := sh_bind_e h
    have hG2 := gp_X12_heightOf hG hr3
    obtain ⟨μ5, eμ5⟩ : ∃ y : sh_Mem, y = (sh_setI μ2 291 56 y4) := ⟨_, rfl⟩
    rw [sh_let_eq eμ5] at h
    have hG5 : sh_G μ5 := by rw [eμ5]; exact hG2
    obtain ⟨y8, μ6, hr7, h⟩ := sh_bind_e h
    have hG6 := gp_X12_codesTell hG5 hr7
    obtain ⟨e1, e2⟩ := sh_some2 h
    exact e2 ▸ hG6
theorem t_X12_liftedBy {a1 : Int32} {μ μ' : sh_Mem} {v : Int32} (hG : sh_G μ) (h : f_X12_liftedBy a1 μ = some (v, μ')) : sh_C0 l B D ca 4 M_X12_liftedBy [.ref 291, .int a1] μ (fun v0 μ0 => v0 = some (.int v) ∧ μ0 = μ') := by
  unfold f_X12_liftedBy at h
  refine vv_aload_n 0 0 dX12_liftedBy_0 rfl rfl ?_
  refine vv_getR 1 dX12_liftedBy_1 fl_12_121 rfl (g_l_291 hG) (g_r_291_45 hG) ?_
  refine vv_iconst 4 dX12_liftedBy_4 ik_3 ?_
  refine vv_iald 5 dX12_liftedBy_5 (g_l_327 hG) (by unfold vp_in; decide) ?_
  refine vv_iconst 6 dX12_liftedBy_6 ik_m1 ?_
  refine vv_icmp_ne 7 12 dX12_liftedBy_7 (by decide) (fun c1 => ?_) (fun c1 => ?_)
  · rw [if_neg c1] at h
    refine vv_aload_n 12 0 dX12_liftedBy_12 rfl rfl ?_
    refine vv_aload_n 13 0 dX12_liftedBy_13 rfl rfl ?_
    refine vv_iload_n 14 1 dX12_liftedBy_14 rfl rfl ?_
    obtain ⟨y4, μ2, hr3, h⟩ := sh_bind_e h
    refine v1_callV [_] 15 dX12_liftedBy_15 ck_X12_453 (g_l_291 hG) ⟨by decide, rfl⟩ (t_X12_heightOf hG hr3) (Nat.le_of_ble_eq_true rfl) ⟨Nat.le_of_ble_eq_true rfl, Nat.le_of_ble_eq_true rfl⟩ rfl (Nat.le_of_ble_eq_true rfl) ?_
    have hG2 := gp_X12_heightOf hG hr3
    refine vn_putI 18 dX12_liftedBy_18 fl_12_456 (Or.inl rfl) rfl (g_l_291 hG2) (fun μ5 eμ5 => ?_)
    rw [sh_let_eq eμ5] at h
    have hG5 : sh_G μ5 := by rw [eμ5]; exact hG2
    refine vv_aload_n 21 0 dX12_liftedBy_21 rfl rfl ?_
    refine vv_iconst 22 dX12_liftedBy_22 ik_0 ?_
    obtain ⟨y8, μ6, hr7, h⟩ := sh_bind_e h
    refine v1_callV [_] 23 dX12_liftedBy_23 ck_X12_443 (g_l_291 hG5) ⟨by decide, rfl⟩ (t_X12_codesTell hG5 hr7) (Nat.le_of_ble_eq_true rfl) ⟨Nat.le_of_ble_eq_true rfl, Nat.le_of_ble_eq_true rfl⟩ rfl (Nat.le_of_ble_eq_true rfl) ?_
    have hG6 := gp_X12_codesTell hG5 hr7
    refine v1_callS [_] 26 dX12_liftedBy_26 ck_X12_459 (c_X12_cut (μ := μ6) hG6) (Nat.le_of_ble_eq_true rfl) ⟨Nat.le_of_ble_eq_true rfl, Nat.le_of_ble_eq_true rfl⟩ rfl (Nat.le_of_ble_eq_true rfl) ?_
    obtain ⟨e1, e2⟩ := sh_some2 h
    refine vv_iret 29 dX12_liftedBy_29 rfl (Nat.le_refl _) (Nat.le_refl _) ⟨by rw [e1], e2⟩
  · rw [if_pos c1] at h
    refine vv_iconst 10 dX12_liftedBy_10 ik_3 ?_
    obtain ⟨e1, e2⟩ := sh_some2 h
    refine vv_iret 11 dX12_liftedBy_11 rfl (Nat.le_refl _) (Nat.le_refl _) ⟨by rw [e1], e2⟩
noncomputable def F_X12_lifts : Nat → Nat → Int32 → Int32 → Int32 → Int32 → Int32 → sh_Mem → Option sh_Mem
  | 0, _, _, _, _, _, _, _ => none
  | fuel + 1, lbl, i1, i2, i3, i4, i5, μ => match lbl with
    | 1 => (if i4 ≤ i5 then some μ else sh_bind (f_X12_highestBut i1 i2 i3 μ) (fun y26 μ24 => sh_bind (f_X12_heightOf y26 μ24) (fun y29 μ27 => (if y29 = 0 then some μ27 else sh_bind (f_X12_heightOf i1 μ27) (fun y33 μ31 => (if y33 = 99 then some μ31 else (if sh_in (1 + y26) 232 then (if sh_in (1 + y26) 232 then sh_let (sh_setI μ31 330 ((1 + y26)).toNatClampNeg ((sh_i μ31 330 ((1 + y26)).toNatClampNeg) - 1)) (fun μ37 => (if sh_in (1 + i1) 232 then (if sh_in (1 + i1) 232 then sh_let (sh_setI μ37 330 ((1 + i1)).toNatClampNeg ((sh_i μ37 330 ((1 + i1)).toNatClampNeg) + 1)) (fun μ40 => sh_let (sh_setI μ40 291 59 ((sh_i μ40 291 59) + 1)) (fun μ41 => F_X12_lifts fuel 1 i1 i2 i3 i4 (i5 + 1) μ41)) else none) else none)) else none) else none)))))))
    | _ => none
noncomputable def f_X12_lifts (a1 : Int32) (a2 : Int32) (a3 : Int32) (μ : sh_Mem) : Option sh_Mem := sh_bind (f_X12_liftedBy a1 μ) (fun y44 μ42 => F_X12_lifts sh_fuel 1 a1 a2 a3 y44 0 μ42)
theorem gpl_X12_lifts (fuel : Nat) : (∀ ⦃i1 : Int32⦄ ⦃i2 : Int32⦄ ⦃i3 : Int32⦄ ⦃i4 : Int32⦄ ⦃i5 : Int32⦄ ⦃μ μ' : sh_Mem⦄, sh_G μ → F_X12_lifts fuel 1 i1 i2 i3 i4 i5 μ = some μ' → sh_G μ') := by
  induction fuel with
  | zero => intro i1 i2 i3 i4 i5 μ μ' hG h; cases h
  | succ fuel ih =>
    have ih_10 := ih
    intro i1 i2 i3 i4 i5 μ μ' hG h
    replace h : ((if i4 ≤ i5 then some μ else sh_bind (f_X12_highestBut i1 i2 i3 μ) (fun y26 μ24 => sh_bind (f_X12_heightOf y26 μ24) (fun y29 μ27 => (if y29 = 0 then some μ27 else sh_bind (f_X12_heightOf i1 μ27) (fun y33 μ31 => (if y33 = 99 then some μ31 else (if sh_in (1 + y26) 232 then (if sh_in (1 + y26) 232 then sh_let (sh_setI μ31 330 ((1 + y26)).toNatClampNeg ((sh_i μ31 330 ((1 + y26)).toNatClampNeg) - 1)) (fun μ37 => (if sh_in (1 + i1) 232 then (if sh_in (1 + i1) 232 then sh_let (sh_setI μ37 330 ((1 + i1)).toNatClampNeg ((sh_i μ37 330 ((1 + i1)).toNatClampNeg) + 1)) (fun μ40 => sh_let (sh_setI μ40 291 59 ((sh_i μ40 291 59) + 1)) (fun μ41 => F_X12_lifts fuel 1 i1 i2 i3 i4 (i5 + 1) μ41)) else none) else none)) else none) else none))))))) : Option sh_Mem) = some μ' := h
    by_cases c23 : i4 ≤ i5
    · rw [if_pos c23] at h
      have e2 := Option.some.inj h
      exact e2 ▸ hG
    · rw [if_neg c23] at h
      obtain ⟨y26, μ24, hr25, h⟩ := sh_bind_e h
      have hG24 := gp_X12_highestBut hG hr25
      obtain ⟨y29, μ27, hr28, h⟩ := sh_bind_e h
      have hG27 := gp_X12_heightOf hG24 hr28
      by_cases c30 : y29 = 0
      · rw [if_pos c30] at h
        have e2 := Option.some.inj h
        exact e2 ▸ hG27
      · rw [if_neg c30] at h
        obtain ⟨y33, μ31, hr32, h⟩ := sh_bind_e h
        have hG31 := gp_X12_heightOf hG27 hr32
        by_cases c34 : y33 = 99
        · rw [if_pos c34] at h
          have e2 := Option.some.inj h
          exact e2 ▸ hG31
        · rw [if_neg c34] at h
          obtain ⟨k35, h⟩ := sh_chk h
          obtain ⟨k36, h⟩ := sh_chk h
          obtain ⟨μ37, eμ37⟩ : ∃ y : sh_Mem, y = (sh_setI μ31 330 ((1 + y26)).toNatClampNeg ((sh_i μ31 330 ((1 + y26)).toNatClampNeg) - 1)) := ⟨_, rfl⟩
          rw [sh_let_eq eμ37] at h
          have hG37 : sh_G μ37 := by rw [eμ37]; exact hG31
          obtain ⟨k38, h⟩ := sh_chk h
          obtain ⟨k39, h⟩ := sh_chk h
          obtain ⟨μ40, eμ40⟩ : ∃ y : sh_Mem, y = (sh_setI μ37 330 ((1 + i1)).toNatClampNeg ((sh_i μ37 330 ((1 + i1)).toNatClampNeg) + 1)) := ⟨_, rfl⟩
          rw [sh_let_eq eμ40] at h
          have hG40 : sh_G μ40 := by rw [eμ40]; exact hG37
          obtain ⟨μ41, eμ41⟩ : ∃ y : sh_Mem, y = (sh_setI μ40 291 59 ((sh_i μ40 291 59) + 1)) := ⟨_, rfl⟩
          rw [sh_let_eq eμ41] at h
          have hG41 : sh_G μ41 := by rw [eμ41]; exact hG40
          exact ih_10 hG41 h
theorem tl_X12_lifts (fuel : Nat) : (∀ ⦃i1 : Int32⦄ ⦃i2 : Int32⦄ ⦃i3 : Int32⦄ ⦃i4 : Int32⦄ ⦃i5 : Int32⦄ ⦃μ μ' : sh_Mem⦄, sh_G μ → F_X12_lifts fuel 1 i1 i2 i3 i4 i5 μ = some μ' → sh_V0 l B D ca 5 M_X12_lifts 10 [(0, .ref 291), (1, .int i1), (2, .int i2), (3, .int i3), (4, .int i4), (5, .int i5)] [] μ (fun v0 μ0 => v0 = none ∧ μ0 = μ')) := by
  induction fuel with
  | zero => intro i1 i2 i3 i4 i5 μ μ' hG h; cases h
  | succ fuel ih =>
    have ih_10 := ih
    intro i1 i2 i3 i4 i5 μ μ' hG h
    replace h : ((if i4 ≤ i5 then some μ else sh_bind (f_X12_highestBut i1 i2 i3 μ) (fun y26 μ24 => sh_bind (f_X12_heightOf y26 μ24) (fun y29 μ27 => (if y29 = 0 then some μ27 else sh_bind (f_X12_heightOf i1 μ27) (fun y33 μ31 => (if y33 = 99 then some μ31 else (if sh_in (1 + y26) 232 then (if sh_in (1 + y26) 232 then sh_let (sh_setI μ31 330 ((1 + y26)).toNatClampNeg ((sh_i μ31 330 ((1 + y26)).toNatClampNeg) - 1)) (fun μ37 => (if sh_in (1 + i1) 232 then (if sh_in (1 + i1) 232 then sh_let (sh_setI μ37 330 ((1 + i1)).toNatClampNeg ((sh_i μ37 330 ((1 + i1)).toNatClampNeg) + 1)) (fun μ40 => sh_let (sh_setI μ40 291 59 ((sh_i μ40 291 59) + 1)) (fun μ41 => F_X12_lifts fuel 1 i1 i2 i3 i4 (i5 + 1) μ41)) else none) else none)) else none) else none))))))) : Option sh_Mem) = some μ' := h
    refine vv_iload 10 5 dX12_lifts_10 rfl ?_
    refine vv_iload 12 4 dX12_lifts_12 rfl ?_
    refine vv_icmp_ge 14 87 dX12_lifts_14 (by decide) (fun c23 => ?_) (fun c23 => ?_)
    · rw [if_pos c23] at h
      have e2 := Option.some.inj h
      refine vv_vret 87 dX12_lifts_87 rfl (Nat.le_refl _) (Nat.le_refl _) ⟨rfl, e2⟩
    · rw [if_neg c23] at h
      refine vv_aload_n 17 0 dX12_lifts_17 rfl rfl ?_
      refine vv_iload_n 18 1 dX12_lifts_18 rfl rfl ?_
      refine vv_iload_n 19 2 dX12_lifts_19 rfl rfl ?_
      refine vv_iload_n 20 3 dX12_lifts_20 rfl rfl ?_
      obtain ⟨y26, μ24, hr25, h⟩ := sh_bind_e h
      refine v1_callV [_, _, _] 21 dX12_lifts_21 ck_X12_466 (g_l_291 hG) ⟨by decide, rfl⟩ (t_X12_highestBut hG hr25) (Nat.le_of_ble_eq_true rfl) ⟨Nat.le_of_ble_eq_true rfl, Nat.le_of_ble_eq_true rfl⟩ rfl (Nat.le_of_ble_eq_true rfl) ?_
      have hG24 := gp_X12_highestBut hG hr25
      refine vv_istore (lv' := [(6, _), (0, _), (1, _), (2, _), (3, _), (4, _), (5, _)]) 24 6 dX12_lifts_24 (by decide) rfl ?_
      refine vv_aload_n 26 0 dX12_lifts_26 rfl rfl ?_
      refine vv_iload 27 6 dX12_lifts_27 rfl ?_
      obtain ⟨y29, μ27, hr28, h⟩ := sh_bind_e h
      refine v1_callV [_] 29 dX12_lifts_29 ck_X12_453 (g_l_291 hG24) ⟨by decide, rfl⟩ (t_X12_heightOf hG24 hr28) (Nat.le_of_ble_eq_true rfl) ⟨Nat.le_of_ble_eq_true rfl, Nat.le_of_ble_eq_true rfl⟩ rfl (Nat.le_of_ble_eq_true rfl) ?_
      have hG27 := gp_X12_heightOf hG24 hr28
      refine vv_if_eq 32 45 dX12_lifts_32 (by decide) (fun c30 => ?_) (fun c30 => ?_)
      · rw [if_pos c30] at h
        have e2 := Option.some.inj h
        refine vv_vret 45 dX12_lifts_45 rfl (Nat.le_refl _) (Nat.le_refl _) ⟨rfl, e2⟩
      · rw [if_neg c30] at h
        refine vv_aload_n 35 0 dX12_lifts_35 rfl rfl ?_
        refine vv_iload_n 36 1 dX12_lifts_36 rfl rfl ?_
        obtain ⟨y33, μ31, hr32, h⟩ := sh_bind_e h
        refine v1_callV [_] 37 dX12_lifts_37 ck_X12_453 (g_l_291 hG27) ⟨by decide, rfl⟩ (t_X12_heightOf hG27 hr32) (Nat.le_of_ble_eq_true rfl) ⟨Nat.le_of_ble_eq_true rfl, Nat.le_of_ble_eq_true rfl⟩ rfl (Nat.le_of_ble_eq_true rfl) ?_
        have hG31 := gp_X12_heightOf hG27 hr32
        refine vv_bipush 40 dX12_lifts_40 bk_99 ?_
        refine vv_icmp_ne 42 46 dX12_lifts_42 (by decide) (fun c34 => ?_) (fun c34 => ?_)
        · rw [if_neg c34] at h
          refine vv_aload_n 46 0 dX12_lifts_46 rfl rfl ?_
          refine vv_getR 47 dX12_lifts_47 fl_12_130 rfl (g_l_291 hG31) (g_r_291_52 hG31) ?_
          refine vv_iconst 50 dX12_lifts_50 ik_1 ?_
          refine vv_iload 51 6 dX12_lifts_51 rfl ?_
          refine vv_iadd 53 dX12_lifts_53 ?_
          refine vv_dup2_ri 54 dX12_lifts_54 ?_
          obtain ⟨k35, h⟩ := sh_chk h
          refine vv_iald 55 dX12_lifts_55 (g_l_330 hG31) k35 ?_
          refine vv_iconst 56 dX12_lifts_56 ik_1 ?_
          refine vv_isub 57 dX12_lifts_57 ?_
          obtain ⟨k36, h⟩ := sh_chk h
          refine vn_iast 58 dX12_lifts_58 (g_l_330 hG31) k36 (fun μ37 eμ37 => ?_)
          rw [sh_let_eq eμ37] at h
          have hG37 : sh_G μ37 := by rw [eμ37]; exact hG31
          refine vv_aload_n 59 0 dX12_lifts_59 rfl rfl ?_
          refine vv_getR 60 dX12_lifts_60 fl_12_130 rfl (g_l_291 hG37) (g_r_291_52 hG37) ?_
          refine vv_iconst 63 dX12_lifts_63 ik_1 ?_
          refine vv_iload_n 64 1 dX12_lifts_64 rfl rfl ?_
          refine vv_iadd 65 dX12_lifts_65 ?_
          refine vv_dup2_ri 66 dX12_lifts_66 ?_
          obtain ⟨k38, h⟩ := sh_chk h
          refine vv_iald 67 dX12_lifts_67 (g_l_330 hG37) k38 ?_
          refine vv_iconst 68 dX12_lifts_68 ik_1 ?_
          refine vv_iadd 69 dX12_lifts_69 ?_
          obtain ⟨k39, h⟩ := sh_chk h
          refine vn_iast 70 dX12_lifts_70 (g_l_330 hG37) k39 (fun μ40 eμ40 => ?_)
          rw [sh_let_eq eμ40] at h
          have hG40 : sh_G μ40 := by rw [eμ40]; exact hG37
          refine vv_aload_n 71 0 dX12_lifts_71 rfl rfl ?_
          refine vv_dup_ref 72 dX12_lifts_72 ?_
          refine vv_getI 73 dX12_lifts_73 fl_12_470 rfl (g_l_291 hG40) ?_
          refine vv_iconst 76 dX12_lifts_76 ik_1 ?_
          refine vv_iadd 77 dX12_lifts_77 ?_
          refine vn_putI 78 dX12_lifts_78 fl_12_470 (Or.inl rfl) rfl (g_l_291 hG40) (fun μ41 eμ41 => ?_)
          rw [sh_let_eq eμ41] at h
          have hG41 : sh_G μ41 := by rw [eμ41]; exact hG40
          refine vv_iincc (lv' := [(5, _), (6, _), (0, _), (1, _), (2, _), (3, _), (4, _)]) 81 5 dX12_lifts_81 rfl ik_1 (by decide) rfl ?_
          refine vv_goto 84 10 dX12_lifts_84 (by decide) ?_
          refine vv_sub [(0, _), (1, _), (2, _), (3, _), (4, _), (5, _)] (sh_subm [2, 3, 4, 5, 6, 0] rfl) ?_
          exact ih_10 hG41 h
        · rw [if_pos c34] at h
          have e2 := Option.some.inj h
          refine vv_vret 45 dX12_lifts_45 rfl (Nat.le_refl _) (Nat.le_refl _) ⟨rfl, e2⟩
theorem gp_X12_lifts {a1 : Int32} {a2 : Int32} {a3 : Int32} {μ μ' : sh_Mem} (hG : sh_G μ) (h : f_X12_lifts a1 a2 a3 μ = some μ') : sh_G μ' := by
  have ih_10 := (gpl_X12_lifts sh_fuel)
  unfold f_X12_lifts at h
  obtain ⟨y44, μ42, hr43, h⟩ := sh_bind_e h
  have hG42 := gp_X12_liftedBy hG hr43
  exact ih_10 hG42 h
theorem t_X12_lifts {a1 : Int32} {a2 : Int32} {a3 : Int32} {μ μ' : sh_Mem} (hG : sh_G μ) (h : f_X12_lifts a1 a2 a3 μ = some μ') : sh_C0 l B D ca 5 M_X12_lifts [.ref 291, .int a1, .int a2, .int a3] μ (fun v0 μ0 => v0 = none ∧ μ0 = μ') := by
  have ih_10 := (tl_X12_lifts (l := l) (B := B) (D := D) (ca := ca) sh_fuel)
  unfold f_X12_lifts at h
  refine vv_aload_n 0 0 dX12_lifts_0 rfl rfl ?_
  refine vv_iload_n 1 1 dX12_lifts_1 rfl rfl ?_
  obtain ⟨y44, μ42, hr43, h⟩ := sh_bind_e h
  refine v1_callV [_] 2 dX12_lifts_2 ck_X12_463 (g_l_291 hG) ⟨by decide, rfl⟩ (t_X12_liftedBy hG hr43) (Nat.le_of_ble_eq_true rfl) ⟨Nat.le_of_ble_eq_true rfl, Nat.le_of_ble_eq_true rfl⟩ rfl (Nat.le_of_ble_eq_true rfl) ?_
  have hG42 := gp_X12_liftedBy hG hr43
  refine vv_istore (lv' := [(4, _), (0, _), (1, _), (2, _), (3, _)]) 5 4 dX12_lifts_5 (by decide) rfl ?_
  refine vv_iconst 7 dX12_lifts_7 ik_0 ?_
  refine vv_istore (lv' := [(5, _), (4, _), (0, _), (1, _), (2, _), (3, _)]) 8 5 dX12_lifts_8 (by decide) rfl ?_
  refine vv_sub [(0, _), (1, _), (2, _), (3, _), (4, _), (5, _)] (sh_subm [2, 3, 4, 5, 1, 0] rfl) ?_
  exact ih_10 hG42 h
noncomputable def f_X12_isAsked (a1 : Int32) (a2 : Int32) (μ : sh_Mem) : Option (Int32 × sh_Mem) := sh_let (sh_setI μ 291 59 0) (fun μ1 => (if (((sh_i μ1 291 60) >>> (a1 &&& 31)) &&& 1) = 1 then some (0, μ1) else sh_bind (f_X12_wouldDo a1 a2 μ1) (fun y5 μ3 => (if 2 ≤ y5 then sh_bind (f_X12_cellOf a1 μ3) (fun y9 μ7 => (if (y9 - y9 / 7 * 7) ≤ 0 then (if ((sh_i μ7 321 (Int32.toNatClampNeg 3)) - 1) ≤ (y9 - y9 / 7 * 7) then (if (sh_i μ7 327 (Int32.toNatClampNeg 4)) = (-1) then sh_bind (f_X12_tiredOf a1 μ7) (fun y24 μ22 => (if sh_in (51 + (3 * a1)) 232 then sh_let (sh_setI μ22 330 ((51 + (3 * a1))).toNatClampNeg (f_X12_cut μ22 ((y24 + 1)).toInt64)) (fun μ26 => sh_let (sh_setI μ26 291 58 ((sh_i μ26 291 58) + 1)) (fun μ27 => sh_bindv (f_X12_isKept a1 a2 μ27) (fun μ28 => some (y5, μ28)))) else none)) else sh_bind (f_X12_codesTell 1 μ7) (fun y15 μ13 => (if sh_in (51 + (3 * a1)) 232 then sh_let (sh_setI μ13 330 ((51 + (3 * a1))).toNatClampNeg (f_X12_cut μ13 y15)) (fun μ17 => sh_let (sh_setI μ17 291 58 ((sh_i μ17 291 58) + 1)) (fun μ18 => sh_bindv (f_X12_isKept a1 a2 μ18) (fun μ19 => some (y5, μ19)))) else none))) else sh_let ((y9 + 1) : Int32) (fun x31 => (if x31 = (-1) then (if (sh_i μ7 327 (Int32.toNatClampNeg 4)) = (-1) then sh_bind (f_X12_tiredOf a1 μ7) (fun y45 μ43 => (if sh_in (51 + (3 * a1)) 232 then sh_let (sh_setI μ43 330 ((51 + (3 * a1))).toNatClampNeg (f_X12_cut μ43 ((y45 + 1)).toInt64)) (fun μ47 => sh_let (sh_setI μ47 291 58 ((sh_i μ47 291 58) + 1)) (fun μ48 => sh_bindv (f_X12_isKept a1 a2 μ48) (fun μ49 => some (y5, μ49)))) else none)) else sh_bind (f_X12_codesTell 1 μ7) (fun y36 μ34 => (if sh_in (51 + (3 * a1)) 232 then sh_let (sh_setI μ34 330 ((51 + (3 * a1))).toNatClampNeg (f_X12_cut μ34 y36)) (fun μ38 => sh_let (sh_setI μ38 291 58 ((sh_i μ38 291 58) + 1)) (fun μ39 => sh_bindv (f_X12_isKept a1 a2 μ39) (fun μ40 => some (y5, μ40)))) else none))) else sh_bindv (f_X12_lifts x31 y9 (-1) μ7) (fun μ52 => (if (sh_i μ52 327 (Int32.toNatClampNeg 4)) = (-1) then sh_bind (f_X12_tiredOf a1 μ52) (fun y67 μ65 => (if sh_in (51 + (3 * a1)) 232 then sh_let (sh_setI μ65 330 ((51 + (3 * a1))).toNatClampNeg (f_X12_cut μ65 ((y67 + 1)).toInt64)) (fun μ69 => sh_let (sh_setI μ69 291 58 ((sh_i μ69 291 58) + 1)) (fun μ70 => sh_bindv (f_X12_isKept a1 a2 μ70) (fun μ71 => some (y5, μ71)))) else none)) else sh_bind (f_X12_codesTell 1 μ52) (fun y58 μ56 => (if sh_in (51 + (3 * a1)) 232 then sh_let (sh_setI μ56 330 ((51 + (3 * a1))).toNatClampNeg (f_X12_cut μ56 y58)) (fun μ60 => sh_let (sh_setI μ60 291 58 ((sh_i μ60 291 58) + 1)) (fun μ61 => sh_bindv (f_X12_isKept a1 a2 μ61) (fun μ62 => some (y5, μ62)))) else none))))))) else sh_let ((y9 - 1) : Int32) (fun x74 => (if ((sh_i μ7 321 (Int32.toNatClampNeg 3)) - 1) ≤ (y9 - y9 / 7 * 7) then (if x74 = (-1) then (if (sh_i μ7 327 (Int32.toNatClampNeg 4)) = (-1) then sh_bind (f_X12_tiredOf a1 μ7) (fun y89 μ87 => (if sh_in (51 + (3 * a1)) 232 then sh_let (sh_setI μ87 330 ((51 + (3 * a1))).toNatClampNeg (f_X12_cut μ87 ((y89 + 1)).toInt64)) (fun μ91 => sh_let (sh_setI μ91 291 58 ((sh_i μ91 291 58) + 1)) (fun μ92 => sh_bindv (f_X12_isKept a1 a2 μ92) (fun μ93 => some (y5, μ93)))) else none)) else sh_bind (f_X12_codesTell 1 μ7) (fun y80 μ78 => (if sh_in (51 + (3 * a1)) 232 then sh_let (sh_setI μ78 330 ((51 + (3 * a1))).toNatClampNeg (f_X12_cut μ78 y80)) (fun μ82 => sh_let (sh_setI μ82 291 58 ((sh_i μ82 291 58) + 1)) (fun μ83 => sh_bindv (f_X12_isKept a1 a2 μ83) (fun μ84 => some (y5, μ84)))) else none))) else sh_bindv (f_X12_lifts x74 y9 (-1) μ7) (fun μ96 => (if (sh_i μ96 327 (Int32.toNatClampNeg 4)) = (-1) then sh_bind (f_X12_tiredOf a1 μ96) (fun y111 μ109 => (if sh_in (51 + (3 * a1)) 232 then sh_let (sh_setI μ109 330 ((51 + (3 * a1))).toNatClampNeg (f_X12_cut μ109 ((y111 + 1)).toInt64)) (fun μ113 => sh_let (sh_setI μ113 291 58 ((sh_i μ113 291 58) + 1)) (fun μ114 => sh_bindv (f_X12_isKept a1 a2 μ114) (fun μ115 => some (y5, μ115)))) else none)) else sh_bind (f_X12_codesTell 1 μ96) (fun y102 μ100 => (if sh_in (51 + (3 * a1)) 232 then sh_let (sh_setI μ100 330 ((51 + (3 * a1))).toNatClampNeg (f_X12_cut μ100 y102)) (fun μ104 => sh_let (sh_setI μ104 291 58 ((sh_i μ104 291 58) + 1)) (fun μ105 => sh_bindv (f_X12_isKept a1 a2 μ105) (fun μ106 => some (y5, μ106)))) else none))))) else sh_let ((y9 + 1) : Int32) (fun x118 => (if x74 = (-1) then (if x118 = (-1) then (if (sh_i μ7 327 (Int32.toNatClampNeg 4)) = (-1) then sh_bind (f_X12_tiredOf a1 μ7) (fun y133 μ131 => (if sh_in (51 + (3 * a1)) 232 then sh_let (sh_setI μ131 330 ((51 + (3 * a1))).toNatClampNeg (f_X12_cut μ131 ((y133 + 1)).toInt64)) (fun μ135 => sh_let (sh_setI μ135 291 58 ((sh_i μ135 291 58) + 1)) (fun μ136 => sh_bindv (f_X12_isKept a1 a2 μ136) (fun μ137 => some (y5, μ137)))) else none)) else sh_bind (f_X12_codesTell 1 μ7) (fun y124 μ122 => (if sh_in (51 + (3 * a1)) 232 then sh_let (sh_setI μ122 330 ((51 + (3 * a1))).toNatClampNeg (f_X12_cut μ122 y124)) (fun μ126 => sh_let (sh_setI μ126 291 58 ((sh_i μ126 291 58) + 1)) (fun μ127 => sh_bindv (f_X12_isKept a1 a2 μ127) (fun μ128 => some (y5, μ128)))) else none))) else sh_bindv (f_X12_lifts x118 y9 x74 μ7) (fun μ140 => (if (sh_i μ140 327 (Int32.toNatClampNeg 4)) = (-1) then sh_bind (f_X12_tiredOf a1 μ140) (fun y155 μ153 => (if sh_in (51 + (3 * a1)) 232 then sh_let (sh_setI μ153 330 ((51 + (3 * a1))).toNatClampNeg (f_X12_cut μ153 ((y155 + 1)).toInt64)) (fun μ157 => sh_let (sh_setI μ157 291 58 ((sh_i μ157 291 58) + 1)) (fun μ158 => sh_bindv (f_X12_isKept a1 a2 μ158) (fun μ159 => some (y5, μ159)))) else none)) else sh_bind (f_X12_codesTell 1 μ140) (fun y146 μ144 => (if sh_in (51 + (3 * a1)) 232 then sh_let (sh_setI μ144 330 ((51 + (3 * a1))).toNatClampNeg (f_X12_cut μ144 y146)) (fun μ148 => sh_let (sh_setI μ148 291 58 ((sh_i μ148 291 58) + 1)) (fun μ149 => sh_bindv (f_X12_isKept a1 a2 μ149) (fun μ150 => some (y5, μ150)))) else none))))) else sh_bindv (f_X12_lifts x74 y9 x118 μ7) (fun μ162 => (if x118 = (-1) then (if (sh_i μ162 327 (Int32.toNatClampNeg 4)) = (-1) then sh_bind (f_X12_tiredOf a1 μ162) (fun y178 μ176 => (if sh_in (51 + (3 * a1)) 232 then sh_let (sh_setI μ176 330 ((51 + (3 * a1))).toNatClampNeg (f_X12_cut μ176 ((y178 + 1)).toInt64)) (fun μ180 => sh_let (sh_setI μ180 291 58 ((sh_i μ180 291 58) + 1)) (fun μ181 => sh_bindv (f_X12_isKept a1 a2 μ181) (fun μ182 => some (y5, μ182)))) else none)) else sh_bind (f_X12_codesTell 1 μ162) (fun y169 μ167 => (if sh_in (51 + (3 * a1)) 232 then sh_let (sh_setI μ167 330 ((51 + (3 * a1))).toNatClampNeg (f_X12_cut μ167 y169)) (fun μ171 => sh_let (sh_setI μ171 291 58 ((sh_i μ171 291 58) + 1)) (fun μ172 => sh_bindv (f_X12_isKept a1 a2 μ172) (fun μ173 => some (y5, μ173)))) else none))) else sh_bindv (f_X12_lifts x118 y9 x74 μ162) (fun μ185 => (if (sh_i μ185 327 (Int32.toNatClampNeg 4)) = (-1) then sh_bind (f_X12_tiredOf a1 μ185) (fun y200 μ198 => (if sh_in (51 + (3 * a1)) 232 then sh_let (sh_setI μ198 330 ((51 + (3 * a1))).toNatClampNeg (f_X12_cut μ198 ((y200 + 1)).toInt64)) (fun μ202 => sh_let (sh_setI μ202 291 58 ((sh_i μ202 291 58) + 1)) (fun μ203 => sh_bindv (f_X12_isKept a1 a2 μ203) (fun μ204 => some (y5, μ204)))) else none)) else sh_bind (f_X12_codesTell 1 μ185) (fun y191 μ189 => (if sh_in (51 + (3 * a1)) 232 then sh_let (sh_setI μ189 330 ((51 + (3 * a1))).toNatClampNeg (f_X12_cut μ189 y191)) (fun μ193 => sh_let (sh_setI μ193 291 58 ((sh_i μ193 291 58) + 1)) (fun μ194 => sh_bindv (f_X12_isKept a1 a2 μ194) (fun μ195 => some (y5, μ195)))) else none)))))))))))) else some (y5, μ3)))))
theorem gp_X12_isAsked {a1 : Int32} {a2 : Int32} {μ μ' : sh_Mem} {v : Int32} (hG : sh_G μ) (h : f_X12_isAsked a1 a2 μ = some (v, μ')) : sh_G μ' := by
  unfold f_X12_isAsked at h
  obtain ⟨μ1, eμ1⟩ : ∃ y : sh_Mem, y = (sh_setI μ 291 59 0) := ⟨_, rfl⟩
  rw [sh_let_eq eμ1] at h
  have hG1 : sh_G μ1 := by rw [eμ1]; exact hG
  by_cases c2 : (((sh_i μ1 291 60) >>> (a1 &&& 31)) &&& 1) = 1
  · rw [if_pos c2] at h
    obtain ⟨e1, e2⟩ := sh_some2 h
    exact e2 ▸ hG1
  · rw [if_neg c2] at h
    obtain ⟨y5, μ3, hr4, h⟩ := sh_bind_e h
    have hG3 := gp_X12_wouldDo hG1 hr4
    by_cases c6 : 2 ≤ y5
    · rw [if_pos c6] at h
      obtain ⟨y9, μ7, hr8, h⟩ := sh_bind_e h
      have hG7 := gp_X12_cellOf hG3 hr8
      by_cases c10 : (y9 - y9 / 7 * 7) ≤ 0
      · rw [if_pos c10] at h
        by_cases c11 : ((sh_i μ7 321 (Int32.toNatClampNeg 3)) - 1) ≤ (y9 - y9 / 7 * 7)
        · rw [if_pos c11] at h
          by_cases c12 : (sh_i μ7 327 (Int32.toNatClampNeg 4)) = (-1)
          · rw [if_pos c12] at h
            obtain ⟨y24, μ22, hr23, h⟩ := sh_bind_e h
            have hG22 := gp_X12_tiredOf hG7 hr23
            obtain ⟨k25, h⟩ := sh_chk h
            obtain ⟨μ26, eμ26⟩ : ∃ y : sh_Mem, y = (sh_setI μ22 330 ((51 + (3 * a1))).toNatClampNeg (f_X12_cut μ22 ((y24 + 1)).toInt64)) := ⟨_, rfl⟩
            rw [sh_let_eq eμ26] at h
            have hG26 : sh_G μ26 := by rw [eμ26]; exact hG22
            obtain ⟨μ27, eμ27⟩ : ∃ y : sh_Mem, y = (sh_setI μ26 291 58 ((sh_i μ26 291 58) + 1)) := ⟨_, rfl⟩
            rw [sh_let_eq eμ27] at h
            have hG27 : sh_G μ27 := by rw [eμ27]; exact hG26
            obtain ⟨μ28, hr29, h⟩ := sh_bindv_e h
            have hG28 := gp_X12_isKept hG27 hr29
            obtain ⟨e1, e2⟩ := sh_some2 h
            exact e2 ▸ hG28
          · rw [if_neg c12] at h
            obtain ⟨y15, μ13, hr14, h⟩ := sh_bind_e h
            have hG13 := gp_X12_codesTell hG7 hr14
            obtain ⟨k16, h⟩ := sh_chk h
            obtain ⟨μ17, eμ17⟩ : ∃ y : sh_Mem, y = (sh_setI μ13 330 ((51 + (3 * a1))).toNatClampNeg (f_X12_cut μ13 y15)) := ⟨_, rfl⟩
            rw [sh_let_eq eμ17] at h
            have hG17 : sh_G μ17 := by rw [eμ17]; exact hG13
            obtain ⟨μ18, eμ18⟩ : ∃ y : sh_Mem, y = (sh_setI μ17 291 58 ((sh_i μ17 291 58) + 1)) := ⟨_, rfl⟩
            rw [sh_let_eq eμ18] at h
            have hG18 : sh_G μ18 := by rw [eμ18]; exact hG17
            obtain ⟨μ19, hr20, h⟩ := sh_bindv_e h
            have hG19 := gp_X12_isKept hG18 hr20
            obtain ⟨e1, e2⟩ := sh_some2 h
            exact e2 ▸ hG19
        · rw [if_neg c11] at h
          obtain ⟨x31, ex31⟩ : ∃ y : Int32, y = (y9 + 1) := ⟨_, rfl⟩
          rw [sh_let_eq ex31] at h
          by_cases c32 : x31 = (-1)
          · rw [if_pos c32] at h
            by_cases c33 : (sh_i μ7 327 (Int32.toNatClampNeg 4)) = (-1)
            · rw [if_pos c33] at h
              obtain ⟨y45, μ43, hr44, h⟩ := sh_bind_e h
              have hG43 := gp_X12_tiredOf hG7 hr44
              obtain ⟨k46, h⟩ := sh_chk h
              obtain ⟨μ47, eμ47⟩ : ∃ y : sh_Mem, y = (sh_setI μ43 330 ((51 + (3 * a1))).toNatClampNeg (f_X12_cut μ43 ((y45 + 1)).toInt64)) := ⟨_, rfl⟩
              rw [sh_let_eq eμ47] at h
              have hG47 : sh_G μ47 := by rw [eμ47]; exact hG43
              obtain ⟨μ48, eμ48⟩ : ∃ y : sh_Mem, y = (sh_setI μ47 291 58 ((sh_i μ47 291 58) + 1)) := ⟨_, rfl⟩
              rw [sh_let_eq eμ48] at h
              have hG48 : sh_G μ48 := by rw [eμ48]; exact hG47
              obtain ⟨μ49, hr50, h⟩ := sh_bindv_e h
              have hG49 := gp_X12_isKept hG48 hr50
              obtain ⟨e1, e2⟩ := sh_some2 h
              exact e2 ▸ hG49
            · rw [if_neg c33] at h
              obtain ⟨y36, μ34, hr35, h⟩ := sh_bind_e h
              have hG34 := gp_X12_codesTell hG7 hr35
              obtain ⟨k37, h⟩ := sh_chk h
              obtain ⟨μ38, eμ38⟩ : ∃ y : sh_Mem, y = (sh_setI μ34 330 ((51 + (3 * a1))).toNatClampNeg (f_X12_cut μ34 y36)) := ⟨_, rfl⟩
              rw [sh_let_eq eμ38] at h
              have hG38 : sh_G μ38 := by rw [eμ38]; exact hG34
              obtain ⟨μ39, eμ39⟩ : ∃ y : sh_Mem, y = (sh_setI μ38 291 58 ((sh_i μ38 291 58) + 1)) := ⟨_, rfl⟩
              rw [sh_let_eq eμ39] at h
              have hG39 : sh_G μ39 := by rw [eμ39]; exact hG38
              obtain ⟨μ40, hr41, h⟩ := sh_bindv_e h
              have hG40 := gp_X12_isKept hG39 hr41
              obtain ⟨e1, e2⟩ := sh_some2 h
              exact e2 ▸ hG40
          · rw [if_neg c32] at h
            obtain ⟨μ52, hr53, h⟩ := sh_bindv_e h
            have hG52 := gp_X12_lifts hG7 hr53
            by_cases c55 : (sh_i μ52 327 (Int32.toNatClampNeg 4)) = (-1)
            · rw [if_pos c55] at h
              obtain ⟨y67, μ65, hr66, h⟩ := sh_bind_e h
              have hG65 := gp_X12_tiredOf hG52 hr66
              obtain ⟨k68, h⟩ := sh_chk h
              obtain ⟨μ69, eμ69⟩ : ∃ y : sh_Mem, y = (sh_setI μ65 330 ((51 + (3 * a1))).toNatClampNeg (f_X12_cut μ65 ((y67 + 1)).toInt64)) := ⟨_, rfl⟩
              rw [sh_let_eq eμ69] at h
              have hG69 : sh_G μ69 := by rw [eμ69]; exact hG65
              obtain ⟨μ70, eμ70⟩ : ∃ y : sh_Mem, y = (sh_setI μ69 291 58 ((sh_i μ69 291 58) + 1)) := ⟨_, rfl⟩
              rw [sh_let_eq eμ70] at h
              have hG70 : sh_G μ70 := by rw [eμ70]; exact hG69
              obtain ⟨μ71, hr72, h⟩ := sh_bindv_e h
              have hG71 := gp_X12_isKept hG70 hr72
              obtain ⟨e1, e2⟩ := sh_some2 h
              exact e2 ▸ hG71
            · rw [if_neg c55] at h
              obtain ⟨y58, μ56, hr57, h⟩ := sh_bind_e h
              have hG56 := gp_X12_codesTell hG52 hr57
              obtain ⟨k59, h⟩ := sh_chk h
              obtain ⟨μ60, eμ60⟩ : ∃ y : sh_Mem, y = (sh_setI μ56 330 ((51 + (3 * a1))).toNatClampNeg (f_X12_cut μ56 y58)) := ⟨_, rfl⟩
              rw [sh_let_eq eμ60] at h
              have hG60 : sh_G μ60 := by rw [eμ60]; exact hG56
              obtain ⟨μ61, eμ61⟩ : ∃ y : sh_Mem, y = (sh_setI μ60 291 58 ((sh_i μ60 291 58) + 1)) := ⟨_, rfl⟩
              rw [sh_let_eq eμ61] at h
              have hG61 : sh_G μ61 := by rw [eμ61]; exact hG60
              obtain ⟨μ62, hr63, h⟩ := sh_bindv_e h
              have hG62 := gp_X12_isKept hG61 hr63
              obtain ⟨e1, e2⟩ := sh_some2 h
              exact e2 ▸ hG62
      · rw [if_neg c10] at h
        obtain ⟨x74, ex74⟩ : ∃ y : Int32, y = (y9 - 1) := ⟨_, rfl⟩
        rw [sh_let_eq ex74] at h
        by_cases c75 : ((sh_i μ7 321 (Int32.toNatClampNeg 3)) - 1) ≤ (y9 - y9 / 7 * 7)
        · rw [if_pos c75] at h
          by_cases c76 : x74 = (-1)
          · rw [if_pos c76] at h
            by_cases c77 : (sh_i μ7 327 (Int32.toNatClampNeg 4)) = (-1)
            · rw [if_pos c77] at h
              obtain ⟨y89, μ87, hr88, h⟩ := sh_bind_e h
              have hG87 := gp_X12_tiredOf hG7 hr88
              obtain ⟨k90, h⟩ := sh_chk h
              obtain ⟨μ91, eμ91⟩ : ∃ y : sh_Mem, y = (sh_setI μ87 330 ((51 + (3 * a1))).toNatClampNeg (f_X12_cut μ87 ((y89 + 1)).toInt64)) := ⟨_, rfl⟩
              rw [sh_let_eq eμ91] at h
              have hG91 : sh_G μ91 := by rw [eμ91]; exact hG87
              obtain ⟨μ92, eμ92⟩ : ∃ y : sh_Mem, y = (sh_setI μ91 291 58 ((sh_i μ91 291 58) + 1)) := ⟨_, rfl⟩
              rw [sh_let_eq eμ92] at h
              have hG92 : sh_G μ92 := by rw [eμ92]; exact hG91
              obtain ⟨μ93, hr94, h⟩ := sh_bindv_e h
              have hG93 := gp_X12_isKept hG92 hr94
              obtain ⟨e1, e2⟩ := sh_some2 h
              exact e2 ▸ hG93
            · rw [if_neg c77] at h
              obtain ⟨y80, μ78, hr79, h⟩ := sh_bind_e h
              have hG78 := gp_X12_codesTell hG7 hr79
              obtain ⟨k81, h⟩ := sh_chk h
              obtain ⟨μ82, eμ82⟩ : ∃ y : sh_Mem, y = (sh_setI μ78 330 ((51 + (3 * a1))).toNatClampNeg (f_X12_cut μ78 y80)) := ⟨_, rfl⟩
              rw [sh_let_eq eμ82] at h
              have hG82 : sh_G μ82 := by rw [eμ82]; exact hG78
              obtain ⟨μ83, eμ83⟩ : ∃ y : sh_Mem, y = (sh_setI μ82 291 58 ((sh_i μ82 291 58) + 1)) := ⟨_, rfl⟩
              rw [sh_let_eq eμ83] at h
              have hG83 : sh_G μ83 := by rw [eμ83]; exact hG82
              obtain ⟨μ84, hr85, h⟩ := sh_bindv_e h
              have hG84 := gp_X12_isKept hG83 hr85
              obtain ⟨e1, e2⟩ := sh_some2 h
              exact e2 ▸ hG84
          · rw [if_neg c76] at h
            obtain ⟨μ96, hr97, h⟩ := sh_bindv_e h
            have hG96 := gp_X12_lifts hG7 hr97
            by_cases c99 : (sh_i μ96 327 (Int32.toNatClampNeg 4)) = (-1)
            · rw [if_pos c99] at h
              obtain ⟨y111, μ109, hr110, h⟩ := sh_bind_e h
              have hG109 := gp_X12_tiredOf hG96 hr110
              obtain ⟨k112, h⟩ := sh_chk h
              obtain ⟨μ113, eμ113⟩ : ∃ y : sh_Mem, y = (sh_setI μ109 330 ((51 + (3 * a1))).toNatClampNeg (f_X12_cut μ109 ((y111 + 1)).toInt64)) := ⟨_, rfl⟩
              rw [sh_let_eq eμ113] at h
              have hG113 : sh_G μ113 := by rw [eμ113]; exact hG109
              obtain ⟨μ114, eμ114⟩ : ∃ y : sh_Mem, y = (sh_setI μ113 291 58 ((sh_i μ113 291 58) + 1)) := ⟨_, rfl⟩
              rw [sh_let_eq eμ114] at h
              have hG114 : sh_G μ114 := by rw [eμ114]; exact hG113
              obtain ⟨μ115, hr116, h⟩ := sh_bindv_e h
              have hG115 := gp_X12_isKept hG114 hr116
              obtain ⟨e1, e2⟩ := sh_some2 h
              exact e2 ▸ hG115
            · rw [if_neg c99] at h
              obtain ⟨y102, μ100, hr101, h⟩ := sh_bind_e h
              have hG100 := gp_X12_codesTell hG96 hr101
              obtain ⟨k103, h⟩ := sh_chk h
              obtain ⟨μ104, eμ104⟩ : ∃ y : sh_Mem, y = (sh_setI μ100 330 ((51 + (3 * a1))).toNatClampNeg (f_X12_cut μ100 y102)) := ⟨_, rfl⟩
              rw [sh_let_eq eμ104] at h
              have hG104 : sh_G μ104 := by rw [eμ104]; exact hG100
              obtain ⟨μ105, eμ105⟩ : ∃ y : sh_Mem, y = (sh_setI μ104 291 58 ((sh_i μ104 291 58) + 1)) := ⟨_, rfl⟩
              rw [sh_let_eq eμ105] at h
              have hG105 : sh_G μ105 := by rw [eμ105]; exact hG104
              obtain ⟨μ106, hr107, h⟩ := sh_bindv_e h
              have hG106 := gp_X12_isKept hG105 hr107
              obtain ⟨e1, e2⟩ := sh_some2 h
              exact e2 ▸ hG106
        · rw [if_neg c75] at h
          obtain ⟨x118, ex118⟩ : ∃ y : Int32, y = (y9 + 1) := ⟨_, rfl⟩
          rw [sh_let_eq ex118] at h
          by_cases c119 : x74 = (-1)
          · rw [if_pos c119] at h
            by_cases c120 : x118 = (-1)
            · rw [if_pos c120] at h
              by_cases c121 : (sh_i μ7 327 (Int32.toNatClampNeg 4)) = (-1)
              · rw [if_pos c121] at h
                obtain ⟨y133, μ131, hr132, h⟩ := sh_bind_e h
                have hG131 := gp_X12_tiredOf hG7 hr132
                obtain ⟨k134, h⟩ := sh_chk h
                obtain ⟨μ135, eμ135⟩ : ∃ y : sh_Mem, y = (sh_setI μ131 330 ((51 + (3 * a1))).toNatClampNeg (f_X12_cut μ131 ((y133 + 1)).toInt64)) := ⟨_, rfl⟩
                rw [sh_let_eq eμ135] at h
                have hG135 : sh_G μ135 := by rw [eμ135]; exact hG131
                obtain ⟨μ136, eμ136⟩ : ∃ y : sh_Mem, y = (sh_setI μ135 291 58 ((sh_i μ135 291 58) + 1)) := ⟨_, rfl⟩
                rw [sh_let_eq eμ136] at h
                have hG136 : sh_G μ136 := by rw [eμ136]; exact hG135
                obtain ⟨μ137, hr138, h⟩ := sh_bindv_e h
                have hG137 := gp_X12_isKept hG136 hr138
                obtain ⟨e1, e2⟩ := sh_some2 h
                exact e2 ▸ hG137
              · rw [if_neg c121] at h
                obtain ⟨y124, μ122, hr123, h⟩ := sh_bind_e h
                have hG122 := gp_X12_codesTell hG7 hr123
                obtain ⟨k125, h⟩ := sh_chk h
                obtain ⟨μ126, eμ126⟩ : ∃ y : sh_Mem, y = (sh_setI μ122 330 ((51 + (3 * a1))).toNatClampNeg (f_X12_cut μ122 y124)) := ⟨_, rfl⟩
                rw [sh_let_eq eμ126] at h
                have hG126 : sh_G μ126 := by rw [eμ126]; exact hG122
                obtain ⟨μ127, eμ127⟩ : ∃ y : sh_Mem, y = (sh_setI μ126 291 58 ((sh_i μ126 291 58) + 1)) := ⟨_, rfl⟩
                rw [sh_let_eq eμ127] at h
                have hG127 : sh_G μ127 := by rw [eμ127]; exact hG126
                obtain ⟨μ128, hr129, h⟩ := sh_bindv_e h
                have hG128 := gp_X12_isKept hG127 hr129
                obtain ⟨e1, e2⟩ := sh_some2 h
                exact e2 ▸ hG128
            · rw [if_neg c120] at h
              obtain ⟨μ140, hr141, h⟩ := sh_bindv_e h
              have hG140 := gp_X12_lifts hG7 hr141
              by_cases c143 : (sh_i μ140 327 (Int32.toNatClampNeg 4)) = (-1)
              · rw [if_pos c143] at h
                obtain ⟨y155, μ153, hr154, h⟩ := sh_bind_e h
                have hG153 := gp_X12_tiredOf hG140 hr154
                obtain ⟨k156, h⟩ := sh_chk h
                obtain ⟨μ157, eμ157⟩ : ∃ y : sh_Mem, y = (sh_setI μ153 330 ((51 + (3 * a1))).toNatClampNeg (f_X12_cut μ153 ((y155 + 1)).toInt64)) := ⟨_, rfl⟩
                rw [sh_let_eq eμ157] at h
                have hG157 : sh_G μ157 := by rw [eμ157]; exact hG153
                obtain ⟨μ158, eμ158⟩ : ∃ y : sh_Mem, y = (sh_setI μ157 291 58 ((sh_i μ157 291 58) + 1)) := ⟨_, rfl⟩
                rw [sh_let_eq eμ158] at h
                have hG158 : sh_G μ158 := by rw [eμ158]; exact hG157
                obtain ⟨μ159, hr160, h⟩ := sh_bindv_e h
                have hG159 := gp_X12_isKept hG158 hr160
                obtain ⟨e1, e2⟩ := sh_some2 h
                exact e2 ▸ hG159
              · rw [if_neg c143] at h
                obtain ⟨y146, μ144, hr145, h⟩ := sh_bind_e h
                have hG144 := gp_X12_codesTell hG140 hr145
                obtain ⟨k147, h⟩ := sh_chk h
                obtain ⟨μ148, eμ148⟩ : ∃ y : sh_Mem, y = (sh_setI μ144 330 ((51 + (3 * a1))).toNatClampNeg (f_X12_cut μ144 y146)) := ⟨_, rfl⟩
                rw [sh_let_eq eμ148] at h
                have hG148 : sh_G μ148 := by rw [eμ148]; exact hG144
                obtain ⟨μ149, eμ149⟩ : ∃ y : sh_Mem, y = (sh_setI μ148 291 58 ((sh_i μ148 291 58) + 1)) := ⟨_, rfl⟩
                rw [sh_let_eq eμ149] at h
                have hG149 : sh_G μ149 := by rw [eμ149]; exact hG148
                obtain ⟨μ150, hr151, h⟩ := sh_bindv_e h
                have hG150 := gp_X12_isKept hG149 hr151
                obtain ⟨e1, e2⟩ := sh_some2 h
                exact e2 ▸ hG150
          · rw [if_neg c119] at h
            obtain ⟨μ162, hr163, h⟩ := sh_bindv_e h
            have hG162 := gp_X12_lifts hG7 hr163
            by_cases c165 : x118 = (-1)
            · rw [if_pos c165] at h
              by_cases c166 : (sh_i μ162 327 (Int32.toNatClampNeg 4)) = (-1)
              · rw [if_pos c166] at h
                obtain ⟨y178, μ176, hr177, h⟩ := sh_bind_e h
                have hG176 := gp_X12_tiredOf hG162 hr177
                obtain ⟨k179, h⟩ := sh_chk h
                obtain ⟨μ180, eμ180⟩ : ∃ y : sh_Mem, y = (sh_setI μ176 330 ((51 + (3 * a1))).toNatClampNeg (f_X12_cut μ176 ((y178 + 1)).toInt64)) := ⟨_, rfl⟩
                rw [sh_let_eq eμ180] at h
                have hG180 : sh_G μ180 := by rw [eμ180]; exact hG176
                obtain ⟨μ181, eμ181⟩ : ∃ y : sh_Mem, y = (sh_setI μ180 291 58 ((sh_i μ180 291 58) + 1)) := ⟨_, rfl⟩
                rw [sh_let_eq eμ181] at h
                have hG181 : sh_G μ181 := by rw [eμ181]; exact hG180
                obtain ⟨μ182, hr183, h⟩ := sh_bindv_e h
                have hG182 := gp_X12_isKept hG181 hr183
                obtain ⟨e1, e2⟩ := sh_some2 h
                exact e2 ▸ hG182
              · rw [if_neg c166] at h
                obtain ⟨y169, μ167, hr168, h⟩ := sh_bind_e h
                have hG167 := gp_X12_codesTell hG162 hr168
                obtain ⟨k170, h⟩ := sh_chk h
                obtain ⟨μ171, eμ171⟩ : ∃ y : sh_Mem, y = (sh_setI μ167 330 ((51 + (3 * a1))).toNatClampNeg (f_X12_cut μ167 y169)) := ⟨_, rfl⟩
                rw [sh_let_eq eμ171] at h
                have hG171 : sh_G μ171 := by rw [eμ171]; exact hG167
                obtain ⟨μ172, eμ172⟩ : ∃ y : sh_Mem, y = (sh_setI μ171 291 58 ((sh_i μ171 291 58) + 1)) := ⟨_, rfl⟩
                rw [sh_let_eq eμ172] at h
                have hG172 : sh_G μ172 := by rw [eμ172]; exact hG171
                obtain ⟨μ173, hr174, h⟩ := sh_bindv_e h
                have hG173 := gp_X12_isKept hG172 hr174
                obtain ⟨e1, e2⟩ := sh_some2 h
                exact e2 ▸ hG173
            · rw [if_neg c165] at h
              obtain ⟨μ185, hr186, h⟩ := sh_bindv_e h
              have hG185 := gp_X12_lifts hG162 hr186
              by_cases c188 : (sh_i μ185 327 (Int32.toNatClampNeg 4)) = (-1)
              · rw [if_pos c188] at h
                obtain ⟨y200, μ198, hr199, h⟩ := sh_bind_e h
                have hG198 := gp_X12_tiredOf hG185 hr199
                obtain ⟨k201, h⟩ := sh_chk h
                obtain ⟨μ202, eμ202⟩ : ∃ y : sh_Mem, y = (sh_setI μ198 330 ((51 + (3 * a1))).toNatClampNeg (f_X12_cut μ198 ((y200 + 1)).toInt64)) := ⟨_, rfl⟩
                rw [sh_let_eq eμ202] at h
                have hG202 : sh_G μ202 := by rw [eμ202]; exact hG198
                obtain ⟨μ203, eμ203⟩ : ∃ y : sh_Mem, y = (sh_setI μ202 291 58 ((sh_i μ202 291 58) + 1)) := ⟨_, rfl⟩
                rw [sh_let_eq eμ203] at h
                have hG203 : sh_G μ203 := by rw [eμ203]; exact hG202
                obtain ⟨μ204, hr205, h⟩ := sh_bindv_e h
                have hG204 := gp_X12_isKept hG203 hr205
                obtain ⟨e1, e2⟩ := sh_some2 h
                exact e2 ▸ hG204
              · rw [if_neg c188] at h
                obtain ⟨y191, μ189, hr190, h⟩ := sh_bind_e h
                have hG189 := gp_X12_codesTell hG185 hr190
                obtain ⟨k192, h⟩ := sh_chk h
                obtain ⟨μ193, eμ193⟩ : ∃ y : sh_Mem, y = (sh_setI μ189 330 ((51 + (3 * a1))).toNatClampNeg (f_X12_cut μ189 y191)) := ⟨_, rfl⟩
                rw [sh_let_eq eμ193] at h
                have hG193 : sh_G μ193 := by rw [eμ193]; exact hG189
                obtain ⟨μ194, eμ194⟩ : ∃ y : sh_Mem, y = (sh_setI μ193 291 58 ((sh_i μ193 291 58) + 1)) := ⟨_, rfl⟩
                rw [sh_let_eq eμ194] at h
                have hG194 : sh_G μ194 := by rw [eμ194]; exact hG193
                obtain ⟨μ195, hr196, h⟩ := sh_bindv_e h
                have hG195 := gp_X12_isKept hG194 hr196
                obtain ⟨e1, e2⟩ := sh_some2 h
                exact e2 ▸ hG195
    · rw [if_neg c6] at h
      obtain ⟨e1, e2⟩ := sh_some2 h
      exact e2 ▸ hG3
theorem t_X12_isAsked {a1 : Int32} {a2 : Int32} {μ μ' : sh_Mem} {v : Int32} (hG : sh_G μ) (h : f_X12_isAsked a1 a2 μ = some (v, μ')) : sh_C0 l B D ca 6 M_X12_isAsked [.ref 291, .int a1, .int a2] μ (fun v0 μ0 => v0 = some (.int v) ∧ μ0 = μ') := by
  unfold f_X12_isAsked at h
  refine vv_aload_n 0 0 dX12_isAsked_0 rfl rfl ?_
  refine vv_iconst 1 dX12_isAsked_1 ik_0 ?_
  refine vn_putI 2 dX12_isAsked_2 fl_12_470 (Or.inl rfl) rfl (g_l_291 hG) (fun μ1 eμ1 => ?_)
  rw [sh_let_eq eμ1] at h
  have hG1 : sh_G μ1 := by rw [eμ1]; exact hG
  refine vv_aload_n 5 0 dX12_isAsked_5 rfl rfl ?_
  refine vv_getI 6 dX12_isAsked_6 fl_12_476 rfl (g_l_291 hG1) ?_
  refine vv_iload_n 9 1 dX12_isAsked_9 rfl rfl ?_
  refine vv_ishr 10 dX12_isAsked_10 ?_
  refine vv_iconst 11 dX12_isAsked_11 ik_1 ?_
  refine vv_iand 12 dX12_isAsked_12 ?_
  refine vv_iconst 13 dX12_isAsked_13 ik_1 ?_
  refine vv_icmp_ne 14 19 dX12_isAsked_14 (by decide) (fun c2 => ?_) (fun c2 => ?_)
  · rw [if_neg c2] at h
    refine vv_aload_n 19 0 dX12_isAsked_19 rfl rfl ?_
    refine vv_iload_n 20 1 dX12_isAsked_20 rfl rfl ?_
    refine vv_iload_n 21 2 dX12_isAsked_21 rfl rfl ?_
    obtain ⟨y5, μ3, hr4, h⟩ := sh_bind_e h
    refine v1_callV [_, _] 22 dX12_isAsked_22 ck_X12_479 (g_l_291 hG1) ⟨by decide, rfl⟩ (t_X12_wouldDo hG1 hr4) (Nat.le_of_ble_eq_true rfl) ⟨Nat.le_of_ble_eq_true rfl, Nat.le_of_ble_eq_true rfl⟩ rfl (Nat.le_of_ble_eq_true rfl) ?_
    have hG3 := gp_X12_wouldDo hG1 hr4
    refine vv_istore_n (lv' := [(3, _), (0, _), (1, _), (2, _)]) 25 3 dX12_isAsked_25 rfl (by decide) rfl ?_
    refine vv_iload_n 26 3 dX12_isAsked_26 rfl rfl ?_
    refine vv_iconst 27 dX12_isAsked_27 ik_2 ?_
    refine vv_icmp_ge 28 33 dX12_isAsked_28 (by decide) (fun c6 => ?_) (fun c6 => ?_)
    · rw [if_pos c6] at h
      refine vv_aload_n 33 0 dX12_isAsked_33 rfl rfl ?_
      refine vv_iload_n 34 1 dX12_isAsked_34 rfl rfl ?_
      obtain ⟨y9, μ7, hr8, h⟩ := sh_bind_e h
      refine v1_callV [_] 35 dX12_isAsked_35 ck_X12_417 (g_l_291 hG3) ⟨by decide, rfl⟩ (t_X12_cellOf hG3 hr8) (Nat.le_of_ble_eq_true rfl) ⟨Nat.le_of_ble_eq_true rfl, Nat.le_of_ble_eq_true rfl⟩ rfl (Nat.le_of_ble_eq_true rfl) ?_
      have hG7 := gp_X12_cellOf hG3 hr8
      refine vv_istore (lv' := [(4, _), (3, _), (0, _), (1, _), (2, _)]) 38 4 dX12_isAsked_38 (by decide) rfl ?_
      refine vv_iload 40 4 dX12_isAsked_40 rfl ?_
      refine vv_bipush 42 dX12_isAsked_42 bk_7 ?_
      refine vv_irem 44 dX12_isAsked_44 (by decide) ?_
      refine vv_if_le 45 55 dX12_isAsked_45 (by decide) (fun c10 => ?_) (fun c10 => ?_)
      · rw [if_pos c10] at h
        refine vv_iconst 55 dX12_isAsked_55 ik_m1 ?_
        refine vv_istore (lv' := [(5, _), (4, _), (3, _), (0, _), (1, _), (2, _)]) 56 5 dX12_isAsked_56 (by decide) rfl ?_
        refine vv_iload 58 4 dX12_isAsked_58 rfl ?_
        refine vv_bipush 60 dX12_isAsked_60 bk_7 ?_
        refine vv_irem 62 dX12_isAsked_62 (by decide) ?_
        refine vv_aload_n 63 0 dX12_isAsked_63 rfl rfl ?_
        refine vv_getR 64 dX12_isAsked_64 fl_12_102 rfl (g_l_291 hG7) (g_r_291_39 hG7) ?_
        refine vv_iconst 67 dX12_isAsked_67 ik_3 ?_
        refine vv_iald 68 dX12_isAsked_68 (g_l_321 hG7) (by unfold vp_in; decide) ?_
        refine vv_iconst 69 dX12_isAsked_69 ik_1 ?_
        refine vv_isub 70 dX12_isAsked_70 ?_
        refine vv_icmp_ge 71 81 dX12_isAsked_71 (by decide) (fun c11 => ?_) (fun c11 => ?_)
        · rw [if_pos c11] at h
          refine vv_iconst 81 dX12_isAsked_81 ik_m1 ?_
          refine vv_istore (lv' := [(6, _), (5, _), (4, _), (3, _), (0, _), (1, _), (2, _)]) 82 6 dX12_isAsked_82 (by decide) rfl ?_
          refine vv_iload 84 5 dX12_isAsked_84 rfl ?_
          refine vv_iconst 86 dX12_isAsked_86 ik_m1 ?_
          refine vv_icmp_eq 87 100 dX12_isAsked_87 (by decide) (fun _ => ?_) (fun hc => absurd (by decide) hc)
          refine vv_iload 100 6 dX12_isAsked_100 rfl ?_
          refine vv_iconst 102 dX12_isAsked_102 ik_m1 ?_
          refine vv_icmp_eq 103 116 dX12_isAsked_103 (by decide) (fun _ => ?_) (fun hc => absurd (by decide) hc)
          refine vv_aload_n 116 0 dX12_isAsked_116 rfl rfl ?_
          refine vv_getR 117 dX12_isAsked_117 fl_12_130 rfl (g_l_291 hG7) (g_r_291_52 hG7) ?_
          refine vv_bipush 120 dX12_isAsked_120 bk_51 ?_
          refine vv_iconst 122 dX12_isAsked_122 ik_3 ?_
          refine vv_iload_n 123 1 dX12_isAsked_123 rfl rfl ?_
          refine vv_imul 124 dX12_isAsked_124 ?_
          refine vv_iadd 125 dX12_isAsked_125 ?_
          refine vv_aload_n 126 0 dX12_isAsked_126 rfl rfl ?_
          refine vv_getR 127 dX12_isAsked_127 fl_12_121 rfl (g_l_291 hG7) (g_r_291_45 hG7) ?_
          refine vv_iconst 130 dX12_isAsked_130 ik_4 ?_
          refine vv_iald 131 dX12_isAsked_131 (g_l_327 hG7) (by unfold vp_in; decide) ?_
          refine vv_iconst 132 dX12_isAsked_132 ik_m1 ?_
          refine vv_icmp_ne 133 150 dX12_isAsked_133 (by decide) (fun c12 => ?_) (fun c12 => ?_)
          · rw [if_neg c12] at h
            refine vv_aload_n 150 0 dX12_isAsked_150 rfl rfl ?_
            refine vv_iconst 151 dX12_isAsked_151 ik_1 ?_
            obtain ⟨y15, μ13, hr14, h⟩ := sh_bind_e h
            refine v1_callV [_] 152 dX12_isAsked_152 ck_X12_443 (g_l_291 hG7) ⟨by decide, rfl⟩ (t_X12_codesTell hG7 hr14) (Nat.le_of_ble_eq_true rfl) ⟨Nat.le_of_ble_eq_true rfl, Nat.le_of_ble_eq_true rfl⟩ rfl (Nat.le_of_ble_eq_true rfl) ?_
            have hG13 := gp_X12_codesTell hG7 hr14
            refine v1_callS [_] 155 dX12_isAsked_155 ck_X12_459 (c_X12_cut (μ := μ13) hG13) (Nat.le_of_ble_eq_true rfl) ⟨Nat.le_of_ble_eq_true rfl, Nat.le_of_ble_eq_true rfl⟩ rfl (Nat.le_of_ble_eq_true rfl) ?_
            obtain ⟨k16, h⟩ := sh_chk h
            refine vn_iast 158 dX12_isAsked_158 (g_l_330 hG13) k16 (fun μ17 eμ17 => ?_)
            rw [sh_let_eq eμ17] at h
            have hG17 : sh_G μ17 := by rw [eμ17]; exact hG13
            refine vv_aload_n 159 0 dX12_isAsked_159 rfl rfl ?_
            refine vv_dup_ref 160 dX12_isAsked_160 ?_
            refine vv_getI 161 dX12_isAsked_161 fl_12_489 rfl (g_l_291 hG17) ?_
            refine vv_iconst 164 dX12_isAsked_164 ik_1 ?_
            refine vv_iadd 165 dX12_isAsked_165 ?_
            refine vn_putI 166 dX12_isAsked_166 fl_12_489 (Or.inl rfl) rfl (g_l_291 hG17) (fun μ18 eμ18 => ?_)
            rw [sh_let_eq eμ18] at h
            have hG18 : sh_G μ18 := by rw [eμ18]; exact hG17
            refine vv_aload_n 169 0 dX12_isAsked_169 rfl rfl ?_
            refine vv_iload_n 170 1 dX12_isAsked_170 rfl rfl ?_
            refine vv_iload_n 171 2 dX12_isAsked_171 rfl rfl ?_
            obtain ⟨μ19, hr20, h⟩ := sh_bindv_e h
            refine v1_callV [_, _] 172 dX12_isAsked_172 ck_X12_492 (g_l_291 hG18) ⟨by decide, rfl⟩ (t_X12_isKept hG18 hr20) (Nat.le_of_ble_eq_true rfl) ⟨Nat.le_of_ble_eq_true rfl, Nat.le_of_ble_eq_true rfl⟩ rfl (Nat.le_of_ble_eq_true rfl) ?_
            have hG19 := gp_X12_isKept hG18 hr20
            refine vv_iload_n 175 3 dX12_isAsked_175 rfl rfl ?_
            obtain ⟨e1, e2⟩ := sh_some2 h
            refine vv_iret 176 dX12_isAsked_176 rfl (Nat.le_refl _) (Nat.le_refl _) ⟨by rw [e1], e2⟩
          · rw [if_pos c12] at h
            refine vv_aload_n 136 0 dX12_isAsked_136 rfl rfl ?_
            refine vv_iload_n 137 1 dX12_isAsked_137 rfl rfl ?_
            obtain ⟨y24, μ22, hr23, h⟩ := sh_bind_e h
            refine v1_callV [_] 138 dX12_isAsked_138 ck_X12_486 (g_l_291 hG7) ⟨by decide, rfl⟩ (t_X12_tiredOf hG7 hr23) (Nat.le_of_ble_eq_true rfl) ⟨Nat.le_of_ble_eq_true rfl, Nat.le_of_ble_eq_true rfl⟩ rfl (Nat.le_of_ble_eq_true rfl) ?_
            have hG22 := gp_X12_tiredOf hG7 hr23
            refine vv_iconst 141 dX12_isAsked_141 ik_1 ?_
            refine vv_iadd 142 dX12_isAsked_142 ?_
            refine vv_i2l 143 dX12_isAsked_143 ?_
            refine v1_callS [_] 144 dX12_isAsked_144 ck_X12_459 (c_X12_cut (μ := μ22) hG22) (Nat.le_of_ble_eq_true rfl) ⟨Nat.le_of_ble_eq_true rfl, Nat.le_of_ble_eq_true rfl⟩ rfl (Nat.le_of_ble_eq_true rfl) ?_
            refine vv_goto 147 158 dX12_isAsked_147 (by decide) ?_
            obtain ⟨k25, h⟩ := sh_chk h
            refine vn_iast 158 dX12_isAsked_158 (g_l_330 hG22) k25 (fun μ26 eμ26 => ?_)
            rw [sh_let_eq eμ26] at h
            have hG26 : sh_G μ26 := by rw [eμ26]; exact hG22
            refine vv_aload_n 159 0 dX12_isAsked_159 rfl rfl ?_
            refine vv_dup_ref 160 dX12_isAsked_160 ?_
            refine vv_getI 161 dX12_isAsked_161 fl_12_489 rfl (g_l_291 hG26) ?_
            refine vv_iconst 164 dX12_isAsked_164 ik_1 ?_
            refine vv_iadd 165 dX12_isAsked_165 ?_
            refine vn_putI 166 dX12_isAsked_166 fl_12_489 (Or.inl rfl) rfl (g_l_291 hG26) (fun μ27 eμ27 => ?_)
            rw [sh_let_eq eμ27] at h
            have hG27 : sh_G μ27 := by rw [eμ27]; exact hG26
            refine vv_aload_n 169 0 dX12_isAsked_169 rfl rfl ?_
            refine vv_iload_n 170 1 dX12_isAsked_170 rfl rfl ?_
            refine vv_iload_n 171 2 dX12_isAsked_171 rfl rfl ?_
            obtain ⟨μ28, hr29, h⟩ := sh_bindv_e h
            refine v1_callV [_, _] 172 dX12_isAsked_172 ck_X12_492 (g_l_291 hG27) ⟨by decide, rfl⟩ (t_X12_isKept hG27 hr29) (Nat.le_of_ble_eq_true rfl) ⟨Nat.le_of_ble_eq_true rfl, Nat.le_of_ble_eq_true rfl⟩ rfl (Nat.le_of_ble_eq_true rfl) ?_
            have hG28 := gp_X12_isKept hG27 hr29
            refine vv_iload_n 175 3 dX12_isAsked_175 rfl rfl ?_
            obtain ⟨e1, e2⟩ := sh_some2 h
            refine vv_iret 176 dX12_isAsked_176 rfl (Nat.le_refl _) (Nat.le_refl _) ⟨by rw [e1], e2⟩
        · rw [if_neg c11] at h
          refine vv_iload 74 4 dX12_isAsked_74 rfl ?_
          refine vv_iconst 76 dX12_isAsked_76 ik_1 ?_
          refine vv_iadd 77 dX12_isAsked_77 ?_
          refine vv_goto 78 82 dX12_isAsked_78 (by decide) ?_
          refine vv_topi (fun x31 ex31 => ?_)
          rw [sh_let_eq ex31] at h
          refine vv_istore (lv' := [(6, _), (5, _), (4, _), (3, _), (0, _), (1, _), (2, _)]) 82 6 dX12_isAsked_82 (by decide) rfl ?_
          refine vv_iload 84 5 dX12_isAsked_84 rfl ?_
          refine vv_iconst 86 dX12_isAsked_86 ik_m1 ?_
          refine vv_icmp_eq 87 100 dX12_isAsked_87 (by decide) (fun _ => ?_) (fun hc => absurd (by decide) hc)
          refine vv_iload 100 6 dX12_isAsked_100 rfl ?_
          refine vv_iconst 102 dX12_isAsked_102 ik_m1 ?_
          refine vv_icmp_eq 103 116 dX12_isAsked_103 (by decide) (fun c32 => ?_) (fun c32 => ?_)
          · rw [if_pos c32] at h
            refine vv_aload_n 116 0 dX12_isAsked_116 rfl rfl ?_
            refine vv_getR 117 dX12_isAsked_117 fl_12_130 rfl (g_l_291 hG7) (g_r_291_52 hG7) ?_
            refine vv_bipush 120 dX12_isAsked_120 bk_51 ?_
            refine vv_iconst 122 dX12_isAsked_122 ik_3 ?_
            refine vv_iload_n 123 1 dX12_isAsked_123 rfl rfl ?_
            refine vv_imul 124 dX12_isAsked_124 ?_
            refine vv_iadd 125 dX12_isAsked_125 ?_
            refine vv_aload_n 126 0 dX12_isAsked_126 rfl rfl ?_
            refine vv_getR 127 dX12_isAsked_127 fl_12_121 rfl (g_l_291 hG7) (g_r_291_45 hG7) ?_
            refine vv_iconst 130 dX12_isAsked_130 ik_4 ?_
            refine vv_iald 131 dX12_isAsked_131 (g_l_327 hG7) (by unfold vp_in; decide) ?_
            refine vv_iconst 132 dX12_isAsked_132 ik_m1 ?_
            refine vv_icmp_ne 133 150 dX12_isAsked_133 (by decide) (fun c33 => ?_) (fun c33 => ?_)
            · rw [if_neg c33] at h
              refine vv_aload_n 150 0 dX12_isAsked_150 rfl rfl ?_
              refine vv_iconst 151 dX12_isAsked_151 ik_1 ?_
              obtain ⟨y36, μ34, hr35, h⟩ := sh_bind_e h
              refine v1_callV [_] 152 dX12_isAsked_152 ck_X12_443 (g_l_291 hG7) ⟨by decide, rfl⟩ (t_X12_codesTell hG7 hr35) (Nat.le_of_ble_eq_true rfl) ⟨Nat.le_of_ble_eq_true rfl, Nat.le_of_ble_eq_true rfl⟩ rfl (Nat.le_of_ble_eq_true rfl) ?_
              have hG34 := gp_X12_codesTell hG7 hr35
              refine v1_callS [_] 155 dX12_isAsked_155 ck_X12_459 (c_X12_cut (μ := μ34) hG34) (Nat.le_of_ble_eq_true rfl) ⟨Nat.le_of_ble_eq_true rfl, Nat.le_of_ble_eq_true rfl⟩ rfl (Nat.le_of_ble_eq_true rfl) ?_
              obtain ⟨k37, h⟩ := sh_chk h
              refine vn_iast 158 dX12_isAsked_158 (g_l_330 hG34) k37 (fun μ38 eμ38 => ?_)
              rw [sh_let_eq eμ38] at h
              have hG38 : sh_G μ38 := by rw [eμ38]; exact hG34
              refine vv_aload_n 159 0 dX12_isAsked_159 rfl rfl ?_
              refine vv_dup_ref 160 dX12_isAsked_160 ?_
              refine vv_getI 161 dX12_isAsked_161 fl_12_489 rfl (g_l_291 hG38) ?_
              refine vv_iconst 164 dX12_isAsked_164 ik_1 ?_
              refine vv_iadd 165 dX12_isAsked_165 ?_
              refine vn_putI 166 dX12_isAsked_166 fl_12_489 (Or.inl rfl) rfl (g_l_291 hG38) (fun μ39 eμ39 => ?_)
              rw [sh_let_eq eμ39] at h
              have hG39 : sh_G μ39 := by rw [eμ39]; exact hG38
              refine vv_aload_n 169 0 dX12_isAsked_169 rfl rfl ?_
              refine vv_iload_n 170 1 dX12_isAsked_170 rfl rfl ?_
              refine vv_iload_n 171 2 dX12_isAsked_171 rfl rfl ?_
              obtain ⟨μ40, hr41, h⟩ := sh_bindv_e h
              refine v1_callV [_, _] 172 dX12_isAsked_172 ck_X12_492 (g_l_291 hG39) ⟨by decide, rfl⟩ (t_X12_isKept hG39 hr41) (Nat.le_of_ble_eq_true rfl) ⟨Nat.le_of_ble_eq_true rfl, Nat.le_of_ble_eq_true rfl⟩ rfl (Nat.le_of_ble_eq_true rfl) ?_
              have hG40 := gp_X12_isKept hG39 hr41
              refine vv_iload_n 175 3 dX12_isAsked_175 rfl rfl ?_
              obtain ⟨e1, e2⟩ := sh_some2 h
              refine vv_iret 176 dX12_isAsked_176 rfl (Nat.le_refl _) (Nat.le_refl _) ⟨by rw [e1], e2⟩
            · rw [if_pos c33] at h
              refine vv_aload_n 136 0 dX12_isAsked_136 rfl rfl ?_
              refine vv_iload_n 137 1 dX12_isAsked_137 rfl rfl ?_
              obtain ⟨y45, μ43, hr44, h⟩ := sh_bind_e h
              refine v1_callV [_] 138 dX12_isAsked_138 ck_X12_486 (g_l_291 hG7) ⟨by decide, rfl⟩ (t_X12_tiredOf hG7 hr44) (Nat.le_of_ble_eq_true rfl) ⟨Nat.le_of_ble_eq_true rfl, Nat.le_of_ble_eq_true rfl⟩ rfl (Nat.le_of_ble_eq_true rfl) ?_
              have hG43 := gp_X12_tiredOf hG7 hr44
              refine vv_iconst 141 dX12_isAsked_141 ik_1 ?_
              refine vv_iadd 142 dX12_isAsked_142 ?_
              refine vv_i2l 143 dX12_isAsked_143 ?_
              refine v1_callS [_] 144 dX12_isAsked_144 ck_X12_459 (c_X12_cut (μ := μ43) hG43) (Nat.le_of_ble_eq_true rfl) ⟨Nat.le_of_ble_eq_true rfl, Nat.le_of_ble_eq_true rfl⟩ rfl (Nat.le_of_ble_eq_true rfl) ?_
              refine vv_goto 147 158 dX12_isAsked_147 (by decide) ?_
              obtain ⟨k46, h⟩ := sh_chk h
              refine vn_iast 158 dX12_isAsked_158 (g_l_330 hG43) k46 (fun μ47 eμ47 => ?_)
              rw [sh_let_eq eμ47] at h
              have hG47 : sh_G μ47 := by rw [eμ47]; exact hG43
              refine vv_aload_n 159 0 dX12_isAsked_159 rfl rfl ?_
              refine vv_dup_ref 160 dX12_isAsked_160 ?_
              refine vv_getI 161 dX12_isAsked_161 fl_12_489 rfl (g_l_291 hG47) ?_
              refine vv_iconst 164 dX12_isAsked_164 ik_1 ?_
              refine vv_iadd 165 dX12_isAsked_165 ?_
              refine vn_putI 166 dX12_isAsked_166 fl_12_489 (Or.inl rfl) rfl (g_l_291 hG47) (fun μ48 eμ48 => ?_)
              rw [sh_let_eq eμ48] at h
              have hG48 : sh_G μ48 := by rw [eμ48]; exact hG47
              refine vv_aload_n 169 0 dX12_isAsked_169 rfl rfl ?_
              refine vv_iload_n 170 1 dX12_isAsked_170 rfl rfl ?_
              refine vv_iload_n 171 2 dX12_isAsked_171 rfl rfl ?_
              obtain ⟨μ49, hr50, h⟩ := sh_bindv_e h
              refine v1_callV [_, _] 172 dX12_isAsked_172 ck_X12_492 (g_l_291 hG48) ⟨by decide, rfl⟩ (t_X12_isKept hG48 hr50) (Nat.le_of_ble_eq_true rfl) ⟨Nat.le_of_ble_eq_true rfl, Nat.le_of_ble_eq_true rfl⟩ rfl (Nat.le_of_ble_eq_true rfl) ?_
              have hG49 := gp_X12_isKept hG48 hr50
              refine vv_iload_n 175 3 dX12_isAsked_175 rfl rfl ?_
              obtain ⟨e1, e2⟩ := sh_some2 h
              refine vv_iret 176 dX12_isAsked_176 rfl (Nat.le_refl _) (Nat.le_refl _) ⟨by rw [e1], e2⟩
          · rw [if_neg c32] at h
            refine vv_aload_n 106 0 dX12_isAsked_106 rfl rfl ?_
            refine vv_iload 107 6 dX12_isAsked_107 rfl ?_
            refine vv_iload 109 4 dX12_isAsked_109 rfl ?_
            refine vv_iload 111 5 dX12_isAsked_111 rfl ?_
            obtain ⟨μ52, hr53, h⟩ := sh_bindv_e h
            refine v1_callV [_, _, _] 113 dX12_isAsked_113 ck_X12_482 (g_l_291 hG7) ⟨by decide, rfl⟩ (t_X12_lifts hG7 hr53) (Nat.le_of_ble_eq_true rfl) ⟨Nat.le_of_ble_eq_true rfl, Nat.le_of_ble_eq_true rfl⟩ rfl (Nat.le_of_ble_eq_true rfl) ?_
            have hG52 := gp_X12_lifts hG7 hr53
            refine vv_aload_n 116 0 dX12_isAsked_116 rfl rfl ?_
            refine vv_getR 117 dX12_isAsked_117 fl_12_130 rfl (g_l_291 hG52) (g_r_291_52 hG52) ?_
            refine vv_bipush 120 dX12_isAsked_120 bk_51 ?_
            refine vv_iconst 122 dX12_isAsked_122 ik_3 ?_
            refine vv_iload_n 123 1 dX12_isAsked_123 rfl rfl ?_
            refine vv_imul 124 dX12_isAsked_124 ?_
            refine vv_iadd 125 dX12_isAsked_125 ?_
            refine vv_aload_n 126 0 dX12_isAsked_126 rfl rfl ?_
            refine vv_getR 127 dX12_isAsked_127 fl_12_121 rfl (g_l_291 hG52) (g_r_291_45 hG52) ?_
            refine vv_iconst 130 dX12_isAsked_130 ik_4 ?_
            refine vv_iald 131 dX12_isAsked_131 (g_l_327 hG52) (by unfold vp_in; decide) ?_
            refine vv_iconst 132 dX12_isAsked_132 ik_m1 ?_
            refine vv_icmp_ne 133 150 dX12_isAsked_133 (by decide) (fun c55 => ?_) (fun c55 => ?_)
            · rw [if_neg c55] at h
              refine vv_aload_n 150 0 dX12_isAsked_150 rfl rfl ?_
              refine vv_iconst 151 dX12_isAsked_151 ik_1 ?_
              obtain ⟨y58, μ56, hr57, h⟩ := sh_bind_e h
              refine v1_callV [_] 152 dX12_isAsked_152 ck_X12_443 (g_l_291 hG52) ⟨by decide, rfl⟩ (t_X12_codesTell hG52 hr57) (Nat.le_of_ble_eq_true rfl) ⟨Nat.le_of_ble_eq_true rfl, Nat.le_of_ble_eq_true rfl⟩ rfl (Nat.le_of_ble_eq_true rfl) ?_
              have hG56 := gp_X12_codesTell hG52 hr57
              refine v1_callS [_] 155 dX12_isAsked_155 ck_X12_459 (c_X12_cut (μ := μ56) hG56) (Nat.le_of_ble_eq_true rfl) ⟨Nat.le_of_ble_eq_true rfl, Nat.le_of_ble_eq_true rfl⟩ rfl (Nat.le_of_ble_eq_true rfl) ?_
              obtain ⟨k59, h⟩ := sh_chk h
              refine vn_iast 158 dX12_isAsked_158 (g_l_330 hG56) k59 (fun μ60 eμ60 => ?_)
              rw [sh_let_eq eμ60] at h
              have hG60 : sh_G μ60 := by rw [eμ60]; exact hG56
              refine vv_aload_n 159 0 dX12_isAsked_159 rfl rfl ?_
              refine vv_dup_ref 160 dX12_isAsked_160 ?_
              refine vv_getI 161 dX12_isAsked_161 fl_12_489 rfl (g_l_291 hG60) ?_
              refine vv_iconst 164 dX12_isAsked_164 ik_1 ?_
              refine vv_iadd 165 dX12_isAsked_165 ?_
              refine vn_putI 166 dX12_isAsked_166 fl_12_489 (Or.inl rfl) rfl (g_l_291 hG60) (fun μ61 eμ61 => ?_)
              rw [sh_let_eq eμ61] at h
              have hG61 : sh_G μ61 := by rw [eμ61]; exact hG60
              refine vv_aload_n 169 0 dX12_isAsked_169 rfl rfl ?_
              refine vv_iload_n 170 1 dX12_isAsked_170 rfl rfl ?_
              refine vv_iload_n 171 2 dX12_isAsked_171 rfl rfl ?_
              obtain ⟨μ62, hr63, h⟩ := sh_bindv_e h
              refine v1_callV [_, _] 172 dX12_isAsked_172 ck_X12_492 (g_l_291 hG61) ⟨by decide, rfl⟩ (t_X12_isKept hG61 hr63) (Nat.le_of_ble_eq_true rfl) ⟨Nat.le_of_ble_eq_true rfl, Nat.le_of_ble_eq_true rfl⟩ rfl (Nat.le_of_ble_eq_true rfl) ?_
              have hG62 := gp_X12_isKept hG61 hr63
              refine vv_iload_n 175 3 dX12_isAsked_175 rfl rfl ?_
              obtain ⟨e1, e2⟩ := sh_some2 h
              refine vv_iret 176 dX12_isAsked_176 rfl (Nat.le_refl _) (Nat.le_refl _) ⟨by rw [e1], e2⟩
            · rw [if_pos c55] at h
              refine vv_aload_n 136 0 dX12_isAsked_136 rfl rfl ?_
              refine vv_iload_n 137 1 dX12_isAsked_137 rfl rfl ?_
              obtain ⟨y67, μ65, hr66, h⟩ := sh_bind_e h
              refine v1_callV [_] 138 dX12_isAsked_138 ck_X12_486 (g_l_291 hG52) ⟨by decide, rfl⟩ (t_X12_tiredOf hG52 hr66) (Nat.le_of_ble_eq_true rfl) ⟨Nat.le_of_ble_eq_true rfl, Nat.le_of_ble_eq_true rfl⟩ rfl (Nat.le_of_ble_eq_true rfl) ?_
              have hG65 := gp_X12_tiredOf hG52 hr66
              refine vv_iconst 141 dX12_isAsked_141 ik_1 ?_
              refine vv_iadd 142 dX12_isAsked_142 ?_
              refine vv_i2l 143 dX12_isAsked_143 ?_
              refine v1_callS [_] 144 dX12_isAsked_144 ck_X12_459 (c_X12_cut (μ := μ65) hG65) (Nat.le_of_ble_eq_true rfl) ⟨Nat.le_of_ble_eq_true rfl, Nat.le_of_ble_eq_true rfl⟩ rfl (Nat.le_of_ble_eq_true rfl) ?_
              refine vv_goto 147 158 dX12_isAsked_147 (by decide) ?_
              obtain ⟨k68, h⟩ := sh_chk h
              refine vn_iast 158 dX12_isAsked_158 (g_l_330 hG65) k68 (fun μ69 eμ69 => ?_)
              rw [sh_let_eq eμ69] at h
              have hG69 : sh_G μ69 := by rw [eμ69]; exact hG65
              refine vv_aload_n 159 0 dX12_isAsked_159 rfl rfl ?_
              refine vv_dup_ref 160 dX12_isAsked_160 ?_
              refine vv_getI 161 dX12_isAsked_161 fl_12_489 rfl (g_l_291 hG69) ?_
              refine vv_iconst 164 dX12_isAsked_164 ik_1 ?_
              refine vv_iadd 165 dX12_isAsked_165 ?_
              refine vn_putI 166 dX12_isAsked_166 fl_12_489 (Or.inl rfl) rfl (g_l_291 hG69) (fun μ70 eμ70 => ?_)
              rw [sh_let_eq eμ70] at h
              have hG70 : sh_G μ70 := by rw [eμ70]; exact hG69
              refine vv_aload_n 169 0 dX12_isAsked_169 rfl rfl ?_
              refine vv_iload_n 170 1 dX12_isAsked_170 rfl rfl ?_
              refine vv_iload_n 171 2 dX12_isAsked_171 rfl rfl ?_
              obtain ⟨μ71, hr72, h⟩ := sh_bindv_e h
              refine v1_callV [_, _] 172 dX12_isAsked_172 ck_X12_492 (g_l_291 hG70) ⟨by decide, rfl⟩ (t_X12_isKept hG70 hr72) (Nat.le_of_ble_eq_true rfl) ⟨Nat.le_of_ble_eq_true rfl, Nat.le_of_ble_eq_true rfl⟩ rfl (Nat.le_of_ble_eq_true rfl) ?_
              have hG71 := gp_X12_isKept hG70 hr72
              refine vv_iload_n 175 3 dX12_isAsked_175 rfl rfl ?_
              obtain ⟨e1, e2⟩ := sh_some2 h
              refine vv_iret 176 dX12_isAsked_176 rfl (Nat.le_refl _) (Nat.le_refl _) ⟨by rw [e1], e2⟩
      · rw [if_neg c10] at h
        refine vv_iload 48 4 dX12_isAsked_48 rfl ?_
        refine vv_iconst 50 dX12_isAsked_50 ik_1 ?_
        refine vv_isub 51 dX12_isAsked_51 ?_
        refine vv_goto 52 56 dX12_isAsked_52 (by decide) ?_
        refine vv_topi (fun x74 ex74 => ?_)
        rw [sh_let_eq ex74] at h
        refine vv_istore (lv' := [(5, _), (4, _), (3, _), (0, _), (1, _), (2, _)]) 56 5 dX12_isAsked_56 (by decide) rfl ?_
        refine vv_iload 58 4 dX12_isAsked_58 rfl ?_
        refine vv_bipush 60 dX12_isAsked_60 bk_7 ?_
        refine vv_irem 62 dX12_isAsked_62 (by decide) ?_
        refine vv_aload_n 63 0 dX12_isAsked_63 rfl rfl ?_
        refine vv_getR 64 dX12_isAsked_64 fl_12_102 rfl (g_l_291 hG7) (g_r_291_39 hG7) ?_
        refine vv_iconst 67 dX12_isAsked_67 ik_3 ?_
        refine vv_iald 68 dX12_isAsked_68 (g_l_321 hG7) (by unfold vp_in; decide) ?_
        refine vv_iconst 69 dX12_isAsked_69 ik_1 ?_
        refine vv_isub 70 dX12_isAsked_70 ?_
        refine vv_icmp_ge 71 81 dX12_isAsked_71 (by decide) (fun c75 => ?_) (fun c75 => ?_)
        · rw [if_pos c75] at h
          refine vv_iconst 81 dX12_isAsked_81 ik_m1 ?_
          refine vv_istore (lv' := [(6, _), (5, _), (4, _), (3, _), (0, _), (1, _), (2, _)]) 82 6 dX12_isAsked_82 (by decide) rfl ?_
          refine vv_iload 84 5 dX12_isAsked_84 rfl ?_
          refine vv_iconst 86 dX12_isAsked_86 ik_m1 ?_
          refine vv_icmp_eq 87 100 dX12_isAsked_87 (by decide) (fun c76 => ?_) (fun c76 => ?_)
          · rw [if_pos c76] at h
            refine vv_iload 100 6 dX12_isAsked_100 rfl ?_
            refine vv_iconst 102 dX12_isAsked_102 ik_m1 ?_
            refine vv_icmp_eq 103 116 dX12_isAsked_103 (by decide) (fun _ => ?_) (fun hc => absurd (by decide) hc)
            refine vv_aload_n 116 0 dX12_isAsked_116 rfl rfl ?_
            refine vv_getR 117 dX12_isAsked_117 fl_12_130 rfl (g_l_291 hG7) (g_r_291_52 hG7) ?_
            refine vv_bipush 120 dX12_isAsked_120 bk_51 ?_
            refine vv_iconst 122 dX12_isAsked_122 ik_3 ?_
            refine vv_iload_n 123 1 dX12_isAsked_123 rfl rfl ?_
            refine vv_imul 124 dX12_isAsked_124 ?_
            refine vv_iadd 125 dX12_isAsked_125 ?_
            refine vv_aload_n 126 0 dX12_isAsked_126 rfl rfl ?_
            refine vv_getR 127 dX12_isAsked_127 fl_12_121 rfl (g_l_291 hG7) (g_r_291_45 hG7) ?_
            refine vv_iconst 130 dX12_isAsked_130 ik_4 ?_
            refine vv_iald 131 dX12_isAsked_131 (g_l_327 hG7) (by unfold vp_in; decide) ?_
            refine vv_iconst 132 dX12_isAsked_132 ik_m1 ?_
            refine vv_icmp_ne 133 150 dX12_isAsked_133 (by decide) (fun c77 => ?_) (fun c77 => ?_)
            · rw [if_neg c77] at h
              refine vv_aload_n 150 0 dX12_isAsked_150 rfl rfl ?_
              refine vv_iconst 151 dX12_isAsked_151 ik_1 ?_
              obtain ⟨y80, μ78, hr79, h⟩ := sh_bind_e h
              refine v1_callV [_] 152 dX12_isAsked_152 ck_X12_443 (g_l_291 hG7) ⟨by decide, rfl⟩ (t_X12_codesTell hG7 hr79) (Nat.le_of_ble_eq_true rfl) ⟨Nat.le_of_ble_eq_true rfl, Nat.le_of_ble_eq_true rfl⟩ rfl (Nat.le_of_ble_eq_true rfl) ?_
              have hG78 := gp_X12_codesTell hG7 hr79
              refine v1_callS [_] 155 dX12_isAsked_155 ck_X12_459 (c_X12_cut (μ := μ78) hG78) (Nat.le_of_ble_eq_true rfl) ⟨Nat.le_of_ble_eq_true rfl, Nat.le_of_ble_eq_true rfl⟩ rfl (Nat.le_of_ble_eq_true rfl) ?_
              obtain ⟨k81, h⟩ := sh_chk h
              refine vn_iast 158 dX12_isAsked_158 (g_l_330 hG78) k81 (fun μ82 eμ82 => ?_)
              rw [sh_let_eq eμ82] at h
              have hG82 : sh_G μ82 := by rw [eμ82]; exact hG78
              refine vv_aload_n 159 0 dX12_isAsked_159 rfl rfl ?_
              refine vv_dup_ref 160 dX12_isAsked_160 ?_
              refine vv_getI 161 dX12_isAsked_161 fl_12_489 rfl (g_l_291 hG82) ?_
              refine vv_iconst 164 dX12_isAsked_164 ik_1 ?_
              refine vv_iadd 165 dX12_isAsked_165 ?_
              refine vn_putI 166 dX12_isAsked_166 fl_12_489 (Or.inl rfl) rfl (g_l_291 hG82) (fun μ83 eμ83 => ?_)
              rw [sh_let_eq eμ83] at h
              have hG83 : sh_G μ83 := by rw [eμ83]; exact hG82
              refine vv_aload_n 169 0 dX12_isAsked_169 rfl rfl ?_
              refine vv_iload_n 170 1 dX12_isAsked_170 rfl rfl ?_
              refine vv_iload_n 171 2 dX12_isAsked_171 rfl rfl ?_
              obtain ⟨μ84, hr85, h⟩ := sh_bindv_e h
              refine v1_callV [_, _] 172 dX12_isAsked_172 ck_X12_492 (g_l_291 hG83) ⟨by decide, rfl⟩ (t_X12_isKept hG83 hr85) (Nat.le_of_ble_eq_true rfl) ⟨Nat.le_of_ble_eq_true rfl, Nat.le_of_ble_eq_true rfl⟩ rfl (Nat.le_of_ble_eq_true rfl) ?_
              have hG84 := gp_X12_isKept hG83 hr85
              refine vv_iload_n 175 3 dX12_isAsked_175 rfl rfl ?_
              obtain ⟨e1, e2⟩ := sh_some2 h
              refine vv_iret 176 dX12_isAsked_176 rfl (Nat.le_refl _) (Nat.le_refl _) ⟨by rw [e1], e2⟩
            · rw [if_pos c77] at h
              refine vv_aload_n 136 0 dX12_isAsked_136 rfl rfl ?_
              refine vv_iload_n 137 1 dX12_isAsked_137 rfl rfl ?_
              obtain ⟨y89, μ87, hr88, h⟩ := sh_bind_e h
              refine v1_callV [_] 138 dX12_isAsked_138 ck_X12_486 (g_l_291 hG7) ⟨by decide, rfl⟩ (t_X12_tiredOf hG7 hr88) (Nat.le_of_ble_eq_true rfl) ⟨Nat.le_of_ble_eq_true rfl, Nat.le_of_ble_eq_true rfl⟩ rfl (Nat.le_of_ble_eq_true rfl) ?_
              have hG87 := gp_X12_tiredOf hG7 hr88
              refine vv_iconst 141 dX12_isAsked_141 ik_1 ?_
              refine vv_iadd 142 dX12_isAsked_142 ?_
              refine vv_i2l 143 dX12_isAsked_143 ?_
              refine v1_callS [_] 144 dX12_isAsked_144 ck_X12_459 (c_X12_cut (μ := μ87) hG87) (Nat.le_of_ble_eq_true rfl) ⟨Nat.le_of_ble_eq_true rfl, Nat.le_of_ble_eq_true rfl⟩ rfl (Nat.le_of_ble_eq_true rfl) ?_
              refine vv_goto 147 158 dX12_isAsked_147 (by decide) ?_
              obtain ⟨k90, h⟩ := sh_chk h
              refine vn_iast 158 dX12_isAsked_158 (g_l_330 hG87) k90 (fun μ91 eμ91 => ?_)
              rw [sh_let_eq eμ91] at h
              have hG91 : sh_G μ91 := by rw [eμ91]; exact hG87
              refine vv_aload_n 159 0 dX12_isAsked_159 rfl rfl ?_
              refine vv_dup_ref 160 dX12_isAsked_160 ?_
              refine vv_getI 161 dX12_isAsked_161 fl_12_489 rfl (g_l_291 hG91) ?_
              refine vv_iconst 164 dX12_isAsked_164 ik_1 ?_
              refine vv_iadd 165 dX12_isAsked_165 ?_
              refine vn_putI 166 dX12_isAsked_166 fl_12_489 (Or.inl rfl) rfl (g_l_291 hG91) (fun μ92 eμ92 => ?_)
              rw [sh_let_eq eμ92] at h
              have hG92 : sh_G μ92 := by rw [eμ92]; exact hG91
              refine vv_aload_n 169 0 dX12_isAsked_169 rfl rfl ?_
              refine vv_iload_n 170 1 dX12_isAsked_170 rfl rfl ?_
              refine vv_iload_n 171 2 dX12_isAsked_171 rfl rfl ?_
              obtain ⟨μ93, hr94, h⟩ := sh_bindv_e h
              refine v1_callV [_, _] 172 dX12_isAsked_172 ck_X12_492 (g_l_291 hG92) ⟨by decide, rfl⟩ (t_X12_isKept hG92 hr94) (Nat.le_of_ble_eq_true rfl) ⟨Nat.le_of_ble_eq_true rfl, Nat.le_of_ble_eq_true rfl⟩ rfl (Nat.le_of_ble_eq_true rfl) ?_
              have hG93 := gp_X12_isKept hG92 hr94
              refine vv_iload_n 175 3 dX12_isAsked_175 rfl rfl ?_
              obtain ⟨e1, e2⟩ := sh_some2 h
              refine vv_iret 176 dX12_isAsked_176 rfl (Nat.le_refl _) (Nat.le_refl _) ⟨by rw [e1], e2⟩
          · rw [if_neg c76] at h
            refine vv_aload_n 90 0 dX12_isAsked_90 rfl rfl ?_
            refine vv_iload 91 5 dX12_isAsked_91 rfl ?_
            refine vv_iload 93 4 dX12_isAsked_93 rfl ?_
            refine vv_iload 95 6 dX12_isAsked_95 rfl ?_
            obtain ⟨μ96, hr97, h⟩ := sh_bindv_e h
            refine v1_callV [_, _, _] 97 dX12_isAsked_97 ck_X12_482 (g_l_291 hG7) ⟨by decide, rfl⟩ (t_X12_lifts hG7 hr97) (Nat.le_of_ble_eq_true rfl) ⟨Nat.le_of_ble_eq_true rfl, Nat.le_of_ble_eq_true rfl⟩ rfl (Nat.le_of_ble_eq_true rfl) ?_
            have hG96 := gp_X12_lifts hG7 hr97
            refine vv_iload 100 6 dX12_isAsked_100 rfl ?_
            refine vv_iconst 102 dX12_isAsked_102 ik_m1 ?_
            refine vv_icmp_eq 103 116 dX12_isAsked_103 (by decide) (fun _ => ?_) (fun hc => absurd (by decide) hc)
            refine vv_aload_n 116 0 dX12_isAsked_116 rfl rfl ?_
            refine vv_getR 117 dX12_isAsked_117 fl_12_130 rfl (g_l_291 hG96) (g_r_291_52 hG96) ?_
            refine vv_bipush 120 dX12_isAsked_120 bk_51 ?_
            refine vv_iconst 122 dX12_isAsked_122 ik_3 ?_
            refine vv_iload_n 123 1 dX12_isAsked_123 rfl rfl ?_
            refine vv_imul 124 dX12_isAsked_124 ?_
            refine vv_iadd 125 dX12_isAsked_125 ?_
            refine vv_aload_n 126 0 dX12_isAsked_126 rfl rfl ?_
            refine vv_getR 127 dX12_isAsked_127 fl_12_121 rfl (g_l_291 hG96) (g_r_291_45 hG96) ?_
            refine vv_iconst 130 dX12_isAsked_130 ik_4 ?_
            refine vv_iald 131 dX12_isAsked_131 (g_l_327 hG96) (by unfold vp_in; decide) ?_
            refine vv_iconst 132 dX12_isAsked_132 ik_m1 ?_
            refine vv_icmp_ne 133 150 dX12_isAsked_133 (by decide) (fun c99 => ?_) (fun c99 => ?_)
            · rw [if_neg c99] at h
              refine vv_aload_n 150 0 dX12_isAsked_150 rfl rfl ?_
              refine vv_iconst 151 dX12_isAsked_151 ik_1 ?_
              obtain ⟨y102, μ100, hr101, h⟩ := sh_bind_e h
              refine v1_callV [_] 152 dX12_isAsked_152 ck_X12_443 (g_l_291 hG96) ⟨by decide, rfl⟩ (t_X12_codesTell hG96 hr101) (Nat.le_of_ble_eq_true rfl) ⟨Nat.le_of_ble_eq_true rfl, Nat.le_of_ble_eq_true rfl⟩ rfl (Nat.le_of_ble_eq_true rfl) ?_
              have hG100 := gp_X12_codesTell hG96 hr101
              refine v1_callS [_] 155 dX12_isAsked_155 ck_X12_459 (c_X12_cut (μ := μ100) hG100) (Nat.le_of_ble_eq_true rfl) ⟨Nat.le_of_ble_eq_true rfl, Nat.le_of_ble_eq_true rfl⟩ rfl (Nat.le_of_ble_eq_true rfl) ?_
              obtain ⟨k103, h⟩ := sh_chk h
              refine vn_iast 158 dX12_isAsked_158 (g_l_330 hG100) k103 (fun μ104 eμ104 => ?_)
              rw [sh_let_eq eμ104] at h
              have hG104 : sh_G μ104 := by rw [eμ104]; exact hG100
              refine vv_aload_n 159 0 dX12_isAsked_159 rfl rfl ?_
              refine vv_dup_ref 160 dX12_isAsked_160 ?_
              refine vv_getI 161 dX12_isAsked_161 fl_12_489 rfl (g_l_291 hG104) ?_
              refine vv_iconst 164 dX12_isAsked_164 ik_1 ?_
              refine vv_iadd 165 dX12_isAsked_165 ?_
              refine vn_putI 166 dX12_isAsked_166 fl_12_489 (Or.inl rfl) rfl (g_l_291 hG104) (fun μ105 eμ105 => ?_)
              rw [sh_let_eq eμ105] at h
              have hG105 : sh_G μ105 := by rw [eμ105]; exact hG104
              refine vv_aload_n 169 0 dX12_isAsked_169 rfl rfl ?_
              refine vv_iload_n 170 1 dX12_isAsked_170 rfl rfl ?_
              refine vv_iload_n 171 2 dX12_isAsked_171 rfl rfl ?_
              obtain ⟨μ106, hr107, h⟩ := sh_bindv_e h
              refine v1_callV [_, _] 172 dX12_isAsked_172 ck_X12_492 (g_l_291 hG105) ⟨by decide, rfl⟩ (t_X12_isKept hG105 hr107) (Nat.le_of_ble_eq_true rfl) ⟨Nat.le_of_ble_eq_true rfl, Nat.le_of_ble_eq_true rfl⟩ rfl (Nat.le_of_ble_eq_true rfl) ?_
              have hG106 := gp_X12_isKept hG105 hr107
              refine vv_iload_n 175 3 dX12_isAsked_175 rfl rfl ?_
              obtain ⟨e1, e2⟩ := sh_some2 h
              refine vv_iret 176 dX12_isAsked_176 rfl (Nat.le_refl _) (Nat.le_refl _) ⟨by rw [e1], e2⟩
            · rw [if_pos c99] at h
              refine vv_aload_n 136 0 dX12_isAsked_136 rfl rfl ?_
              refine vv_iload_n 137 1 dX12_isAsked_137 rfl rfl ?_
              obtain ⟨y111, μ109, hr110, h⟩ := sh_bind_e h
              refine v1_callV [_] 138 dX12_isAsked_138 ck_X12_486 (g_l_291 hG96) ⟨by decide, rfl⟩ (t_X12_tiredOf hG96 hr110) (Nat.le_of_ble_eq_true rfl) ⟨Nat.le_of_ble_eq_true rfl, Nat.le_of_ble_eq_true rfl⟩ rfl (Nat.le_of_ble_eq_true rfl) ?_
              have hG109 := gp_X12_tiredOf hG96 hr110
              refine vv_iconst 141 dX12_isAsked_141 ik_1 ?_
              refine vv_iadd 142 dX12_isAsked_142 ?_
              refine vv_i2l 143 dX12_isAsked_143 ?_
              refine v1_callS [_] 144 dX12_isAsked_144 ck_X12_459 (c_X12_cut (μ := μ109) hG109) (Nat.le_of_ble_eq_true rfl) ⟨Nat.le_of_ble_eq_true rfl, Nat.le_of_ble_eq_true rfl⟩ rfl (Nat.le_of_ble_eq_true rfl) ?_
              refine vv_goto 147 158 dX12_isAsked_147 (by decide) ?_
              obtain ⟨k112, h⟩ := sh_chk h
              refine vn_iast 158 dX12_isAsked_158 (g_l_330 hG109) k112 (fun μ113 eμ113 => ?_)
              rw [sh_let_eq eμ113] at h
              have hG113 : sh_G μ113 := by rw [eμ113]; exact hG109
              refine vv_aload_n 159 0 dX12_isAsked_159 rfl rfl ?_
              refine vv_dup_ref 160 dX12_isAsked_160 ?_
              refine vv_getI 161 dX12_isAsked_161 fl_12_489 rfl (g_l_291 hG113) ?_
              refine vv_iconst 164 dX12_isAsked_164 ik_1 ?_
              refine vv_iadd 165 dX12_isAsked_165 ?_
              refine vn_putI 166 dX12_isAsked_166 fl_12_489 (Or.inl rfl) rfl (g_l_291 hG113) (fun μ114 eμ114 => ?_)
              rw [sh_let_eq eμ114] at h
              have hG114 : sh_G μ114 := by rw [eμ114]; exact hG113
              refine vv_aload_n 169 0 dX12_isAsked_169 rfl rfl ?_
              refine vv_iload_n 170 1 dX12_isAsked_170 rfl rfl ?_
              refine vv_iload_n 171 2 dX12_isAsked_171 rfl rfl ?_
              obtain ⟨μ115, hr116, h⟩ := sh_bindv_e h
              refine v1_callV [_, _] 172 dX12_isAsked_172 ck_X12_492 (g_l_291 hG114) ⟨by decide, rfl⟩ (t_X12_isKept hG114 hr116) (Nat.le_of_ble_eq_true rfl) ⟨Nat.le_of_ble_eq_true rfl, Nat.le_of_ble_eq_true rfl⟩ rfl (Nat.le_of_ble_eq_true rfl) ?_
              have hG115 := gp_X12_isKept hG114 hr116
              refine vv_iload_n 175 3 dX12_isAsked_175 rfl rfl ?_
              obtain ⟨e1, e2⟩ := sh_some2 h
              refine vv_iret 176 dX12_isAsked_176 rfl (Nat.le_refl _) (Nat.le_refl _) ⟨by rw [e1], e2⟩
        · rw [if_neg c75] at h
          refine vv_iload 74 4 dX12_isAsked_74 rfl ?_
          refine vv_iconst 76 dX12_isAsked_76 ik_1 ?_
          refine vv_iadd 77 dX12_isAsked_77 ?_
          refine vv_goto 78 82 dX12_isAsked_78 (by decide) ?_
          refine vv_topi (fun x118 ex118 => ?_)
          rw [sh_let_eq ex118] at h
          refine vv_istore (lv' := [(6, _), (5, _), (4, _), (3, _), (0, _), (1, _), (2, _)]) 82 6 dX12_isAsked_82 (by decide) rfl ?_
          refine vv_iload 84 5 dX12_isAsked_84 rfl ?_
          refine vv_iconst 86 dX12_isAsked_86 ik_m1 ?_
          refine vv_icmp_eq 87 100 dX12_isAsked_87 (by decide) (fun c119 => ?_) (fun c119 => ?_)
          · rw [if_pos c119] at h
            refine vv_iload 100 6 dX12_isAsked_100 rfl ?_
            refine vv_iconst 102 dX12_isAsked_102 ik_m1 ?_
            refine vv_icmp_eq 103 116 dX12_isAsked_103 (by decide) (fun c120 => ?_) (fun c120 => ?_)
            · rw [if_pos c120] at h
              refine vv_aload_n 116 0 dX12_isAsked_116 rfl rfl ?_
              refine vv_getR 117 dX12_isAsked_117 fl_12_130 rfl (g_l_291 hG7) (g_r_291_52 hG7) ?_
              refine vv_bipush 120 dX12_isAsked_120 bk_51 ?_
              refine vv_iconst 122 dX12_isAsked_122 ik_3 ?_
              refine vv_iload_n 123 1 dX12_isAsked_123 rfl rfl ?_
              refine vv_imul 124 dX12_isAsked_124 ?_
              refine vv_iadd 125 dX12_isAsked_125 ?_
              refine vv_aload_n 126 0 dX12_isAsked_126 rfl rfl ?_
              refine vv_getR 127 dX12_isAsked_127 fl_12_121 rfl (g_l_291 hG7) (g_r_291_45 hG7) ?_
              refine vv_iconst 130 dX12_isAsked_130 ik_4 ?_
              refine vv_iald 131 dX12_isAsked_131 (g_l_327 hG7) (by unfold vp_in; decide) ?_
              refine vv_iconst 132 dX12_isAsked_132 ik_m1 ?_
              refine vv_icmp_ne 133 150 dX12_isAsked_133 (by decide) (fun c121 => ?_) (fun c121 => ?_)
              · rw [if_neg c121] at h
                refine vv_aload_n 150 0 dX12_isAsked_150 rfl rfl ?_
                refine vv_iconst 151 dX12_isAsked_151 ik_1 ?_
                obtain ⟨y124, μ122, hr123, h⟩ := sh_bind_e h
                refine v1_callV [_] 152 dX12_isAsked_152 ck_X12_443 (g_l_291 hG7) ⟨by decide, rfl⟩ (t_X12_codesTell hG7 hr123) (Nat.le_of_ble_eq_true rfl) ⟨Nat.le_of_ble_eq_true rfl, Nat.le_of_ble_eq_true rfl⟩ rfl (Nat.le_of_ble_eq_true rfl) ?_
                have hG122 := gp_X12_codesTell hG7 hr123
                refine v1_callS [_] 155 dX12_isAsked_155 ck_X12_459 (c_X12_cut (μ := μ122) hG122) (Nat.le_of_ble_eq_true rfl) ⟨Nat.le_of_ble_eq_true rfl, Nat.le_of_ble_eq_true rfl⟩ rfl (Nat.le_of_ble_eq_true rfl) ?_
                obtain ⟨k125, h⟩ := sh_chk h
                refine vn_iast 158 dX12_isAsked_158 (g_l_330 hG122) k125 (fun μ126 eμ126 => ?_)
                rw [sh_let_eq eμ126] at h
                have hG126 : sh_G μ126 := by rw [eμ126]; exact hG122
                refine vv_aload_n 159 0 dX12_isAsked_159 rfl rfl ?_
                refine vv_dup_ref 160 dX12_isAsked_160 ?_
                refine vv_getI 161 dX12_isAsked_161 fl_12_489 rfl (g_l_291 hG126) ?_
                refine vv_iconst 164 dX12_isAsked_164 ik_1 ?_
                refine vv_iadd 165 dX12_isAsked_165 ?_
                refine vn_putI 166 dX12_isAsked_166 fl_12_489 (Or.inl rfl) rfl (g_l_291 hG126) (fun μ127 eμ127 => ?_)
                rw [sh_let_eq eμ127] at h
                have hG127 : sh_G μ127 := by rw [eμ127]; exact hG126
                refine vv_aload_n 169 0 dX12_isAsked_169 rfl rfl ?_
                refine vv_iload_n 170 1 dX12_isAsked_170 rfl rfl ?_
                refine vv_iload_n 171 2 dX12_isAsked_171 rfl rfl ?_
                obtain ⟨μ128, hr129, h⟩ := sh_bindv_e h
                refine v1_callV [_, _] 172 dX12_isAsked_172 ck_X12_492 (g_l_291 hG127) ⟨by decide, rfl⟩ (t_X12_isKept hG127 hr129) (Nat.le_of_ble_eq_true rfl) ⟨Nat.le_of_ble_eq_true rfl, Nat.le_of_ble_eq_true rfl⟩ rfl (Nat.le_of_ble_eq_true rfl) ?_
                have hG128 := gp_X12_isKept hG127 hr129
                refine vv_iload_n 175 3 dX12_isAsked_175 rfl rfl ?_
                obtain ⟨e1, e2⟩ := sh_some2 h
                refine vv_iret 176 dX12_isAsked_176 rfl (Nat.le_refl _) (Nat.le_refl _) ⟨by rw [e1], e2⟩
              · rw [if_pos c121] at h
                refine vv_aload_n 136 0 dX12_isAsked_136 rfl rfl ?_
                refine vv_iload_n 137 1 dX12_isAsked_137 rfl rfl ?_
                obtain ⟨y133, μ131, hr132, h⟩ := sh_bind_e h
                refine v1_callV [_] 138 dX12_isAsked_138 ck_X12_486 (g_l_291 hG7) ⟨by decide, rfl⟩ (t_X12_tiredOf hG7 hr132) (Nat.le_of_ble_eq_true rfl) ⟨Nat.le_of_ble_eq_true rfl, Nat.le_of_ble_eq_true rfl⟩ rfl (Nat.le_of_ble_eq_true rfl) ?_
                have hG131 := gp_X12_tiredOf hG7 hr132
                refine vv_iconst 141 dX12_isAsked_141 ik_1 ?_
                refine vv_iadd 142 dX12_isAsked_142 ?_
                refine vv_i2l 143 dX12_isAsked_143 ?_
                refine v1_callS [_] 144 dX12_isAsked_144 ck_X12_459 (c_X12_cut (μ := μ131) hG131) (Nat.le_of_ble_eq_true rfl) ⟨Nat.le_of_ble_eq_true rfl, Nat.le_of_ble_eq_true rfl⟩ rfl (Nat.le_of_ble_eq_true rfl) ?_
                refine vv_goto 147 158 dX12_isAsked_147 (by decide) ?_
                obtain ⟨k134, h⟩ := sh_chk h
                refine vn_iast 158 dX12_isAsked_158 (g_l_330 hG131) k134 (fun μ135 eμ135 => ?_)
                rw [sh_let_eq eμ135] at h
                have hG135 : sh_G μ135 := by rw [eμ135]; exact hG131
                refine vv_aload_n 159 0 dX12_isAsked_159 rfl rfl ?_
                refine vv_dup_ref 160 dX12_isAsked_160 ?_
                refine vv_getI 161 dX12_isAsked_161 fl_12_489 rfl (g_l_291 hG135) ?_
                refine vv_iconst 164 dX12_isAsked_164 ik_1 ?_
                refine vv_iadd 165 dX12_isAsked_165 ?_
                refine vn_putI 166 dX12_isAsked_166 fl_12_489 (Or.inl rfl) rfl (g_l_291 hG135) (fun μ136 eμ136 => ?_)
                rw [sh_let_eq eμ136] at h
                have hG136 : sh_G μ136 := by rw [eμ136]; exact hG135
                refine vv_aload_n 169 0 dX12_isAsked_169 rfl rfl ?_
                refine vv_iload_n 170 1 dX12_isAsked_170 rfl rfl ?_
                refine vv_iload_n 171 2 dX12_isAsked_171 rfl rfl ?_
                obtain ⟨μ137, hr138, h⟩ := sh_bindv_e h
                refine v1_callV [_, _] 172 dX12_isAsked_172 ck_X12_492 (g_l_291 hG136) ⟨by decide, rfl⟩ (t_X12_isKept hG136 hr138) (Nat.le_of_ble_eq_true rfl) ⟨Nat.le_of_ble_eq_true rfl, Nat.le_of_ble_eq_true rfl⟩ rfl (Nat.le_of_ble_eq_true rfl) ?_
                have hG137 := gp_X12_isKept hG136 hr138
                refine vv_iload_n 175 3 dX12_isAsked_175 rfl rfl ?_
                obtain ⟨e1, e2⟩ := sh_some2 h
                refine vv_iret 176 dX12_isAsked_176 rfl (Nat.le_refl _) (Nat.le_refl _) ⟨by rw [e1], e2⟩
            · rw [if_neg c120] at h
              refine vv_aload_n 106 0 dX12_isAsked_106 rfl rfl ?_
              refine vv_iload 107 6 dX12_isAsked_107 rfl ?_
              refine vv_iload 109 4 dX12_isAsked_109 rfl ?_
              refine vv_iload 111 5 dX12_isAsked_111 rfl ?_
              obtain ⟨μ140, hr141, h⟩ := sh_bindv_e h
              refine v1_callV [_, _, _] 113 dX12_isAsked_113 ck_X12_482 (g_l_291 hG7) ⟨by decide, rfl⟩ (t_X12_lifts hG7 hr141) (Nat.le_of_ble_eq_true rfl) ⟨Nat.le_of_ble_eq_true rfl, Nat.le_of_ble_eq_true rfl⟩ rfl (Nat.le_of_ble_eq_true rfl) ?_
              have hG140 := gp_X12_lifts hG7 hr141
              refine vv_aload_n 116 0 dX12_isAsked_116 rfl rfl ?_
              refine vv_getR 117 dX12_isAsked_117 fl_12_130 rfl (g_l_291 hG140) (g_r_291_52 hG140) ?_
              refine vv_bipush 120 dX12_isAsked_120 bk_51 ?_
              refine vv_iconst 122 dX12_isAsked_122 ik_3 ?_
              refine vv_iload_n 123 1 dX12_isAsked_123 rfl rfl ?_
              refine vv_imul 124 dX12_isAsked_124 ?_
              refine vv_iadd 125 dX12_isAsked_125 ?_
              refine vv_aload_n 126 0 dX12_isAsked_126 rfl rfl ?_
              refine vv_getR 127 dX12_isAsked_127 fl_12_121 rfl (g_l_291 hG140) (g_r_291_45 hG140) ?_
              refine vv_iconst 130 dX12_isAsked_130 ik_4 ?_
              refine vv_iald 131 dX12_isAsked_131 (g_l_327 hG140) (by unfold vp_in; decide) ?_
              refine vv_iconst 132 dX12_isAsked_132 ik_m1 ?_
              refine vv_icmp_ne 133 150 dX12_isAsked_133 (by decide) (fun c143 => ?_) (fun c143 => ?_)
              · rw [if_neg c143] at h
                refine vv_aload_n 150 0 dX12_isAsked_150 rfl rfl ?_
                refine vv_iconst 151 dX12_isAsked_151 ik_1 ?_
                obtain ⟨y146, μ144, hr145, h⟩ := sh_bind_e h
                refine v1_callV [_] 152 dX12_isAsked_152 ck_X12_443 (g_l_291 hG140) ⟨by decide, rfl⟩ (t_X12_codesTell hG140 hr145) (Nat.le_of_ble_eq_true rfl) ⟨Nat.le_of_ble_eq_true rfl, Nat.le_of_ble_eq_true rfl⟩ rfl (Nat.le_of_ble_eq_true rfl) ?_
                have hG144 := gp_X12_codesTell hG140 hr145
                refine v1_callS [_] 155 dX12_isAsked_155 ck_X12_459 (c_X12_cut (μ := μ144) hG144) (Nat.le_of_ble_eq_true rfl) ⟨Nat.le_of_ble_eq_true rfl, Nat.le_of_ble_eq_true rfl⟩ rfl (Nat.le_of_ble_eq_true rfl) ?_
                obtain ⟨k147, h⟩ := sh_chk h
                refine vn_iast 158 dX12_isAsked_158 (g_l_330 hG144) k147 (fun μ148 eμ148 => ?_)
                rw [sh_let_eq eμ148] at h
                have hG148 : sh_G μ148 := by rw [eμ148]; exact hG144
                refine vv_aload_n 159 0 dX12_isAsked_159 rfl rfl ?_
                refine vv_dup_ref 160 dX12_isAsked_160 ?_
                refine vv_getI 161 dX12_isAsked_161 fl_12_489 rfl (g_l_291 hG148) ?_
                refine vv_iconst 164 dX12_isAsked_164 ik_1 ?_
                refine vv_iadd 165 dX12_isAsked_165 ?_
                refine vn_putI 166 dX12_isAsked_166 fl_12_489 (Or.inl rfl) rfl (g_l_291 hG148) (fun μ149 eμ149 => ?_)
                rw [sh_let_eq eμ149] at h
                have hG149 : sh_G μ149 := by rw [eμ149]; exact hG148
                refine vv_aload_n 169 0 dX12_isAsked_169 rfl rfl ?_
                refine vv_iload_n 170 1 dX12_isAsked_170 rfl rfl ?_
                refine vv_iload_n 171 2 dX12_isAsked_171 rfl rfl ?_
                obtain ⟨μ150, hr151, h⟩ := sh_bindv_e h
                refine v1_callV [_, _] 172 dX12_isAsked_172 ck_X12_492 (g_l_291 hG149) ⟨by decide, rfl⟩ (t_X12_isKept hG149 hr151) (Nat.le_of_ble_eq_true rfl) ⟨Nat.le_of_ble_eq_true rfl, Nat.le_of_ble_eq_true rfl⟩ rfl (Nat.le_of_ble_eq_true rfl) ?_
                have hG150 := gp_X12_isKept hG149 hr151
                refine vv_iload_n 175 3 dX12_isAsked_175 rfl rfl ?_
                obtain ⟨e1, e2⟩ := sh_some2 h
                refine vv_iret 176 dX12_isAsked_176 rfl (Nat.le_refl _) (Nat.le_refl _) ⟨by rw [e1], e2⟩
              · rw [if_pos c143] at h
                refine vv_aload_n 136 0 dX12_isAsked_136 rfl rfl ?_
                refine vv_iload_n 137 1 dX12_isAsked_137 rfl rfl ?_
                obtain ⟨y155, μ153, hr154, h⟩ := sh_bind_e h
                refine v1_callV [_] 138 dX12_isAsked_138 ck_X12_486 (g_l_291 hG140) ⟨by decide, rfl⟩ (t_X12_tiredOf hG140 hr154) (Nat.le_of_ble_eq_true rfl) ⟨Nat.le_of_ble_eq_true rfl, Nat.le_of_ble_eq_true rfl⟩ rfl (Nat.le_of_ble_eq_true rfl) ?_
                have hG153 := gp_X12_tiredOf hG140 hr154
                refine vv_iconst 141 dX12_isAsked_141 ik_1 ?_
                refine vv_iadd 142 dX12_isAsked_142 ?_
                refine vv_i2l 143 dX12_isAsked_143 ?_
                refine v1_callS [_] 144 dX12_isAsked_144 ck_X12_459 (c_X12_cut (μ := μ153) hG153) (Nat.le_of_ble_eq_true rfl) ⟨Nat.le_of_ble_eq_true rfl, Nat.le_of_ble_eq_true rfl⟩ rfl (Nat.le_of_ble_eq_true rfl) ?_
                refine vv_goto 147 158 dX12_isAsked_147 (by decide) ?_
                obtain ⟨k156, h⟩ := sh_chk h
                refine vn_iast 158 dX12_isAsked_158 (g_l_330 hG153) k156 (fun μ157 eμ157 => ?_)
                rw [sh_let_eq eμ157] at h
                have hG157 : sh_G μ157 := by rw [eμ157]; exact hG153
                refine vv_aload_n 159 0 dX12_isAsked_159 rfl rfl ?_
                refine vv_dup_ref 160 dX12_isAsked_160 ?_
                refine vv_getI 161 dX12_isAsked_161 fl_12_489 rfl (g_l_291 hG157) ?_
                refine vv_iconst 164 dX12_isAsked_164 ik_1 ?_
                refine vv_iadd 165 dX12_isAsked_165 ?_
                refine vn_putI 166 dX12_isAsked_166 fl_12_489 (Or.inl rfl) rfl (g_l_291 hG157) (fun μ158 eμ158 => ?_)
                rw [sh_let_eq eμ158] at h
                have hG158 : sh_G μ158 := by rw [eμ158]; exact hG157
                refine vv_aload_n 169 0 dX12_isAsked_169 rfl rfl ?_
                refine vv_iload_n 170 1 dX12_isAsked_170 rfl rfl ?_
                refine vv_iload_n 171 2 dX12_isAsked_171 rfl rfl ?_
                obtain ⟨μ159, hr160, h⟩ := sh_bindv_e h
                refine v1_callV [_, _] 172 dX12_isAsked_172 ck_X12_492 (g_l_291 hG158) ⟨by decide, rfl⟩ (t_X12_isKept hG158 hr160) (Nat.le_of_ble_eq_true rfl) ⟨Nat.le_of_ble_eq_true rfl, Nat.le_of_ble_eq_true rfl⟩ rfl (Nat.le_of_ble_eq_true rfl) ?_
                have hG159 := gp_X12_isKept hG158 hr160
                refine vv_iload_n 175 3 dX12_isAsked_175 rfl rfl ?_
                obtain ⟨e1, e2⟩ := sh_some2 h
                refine vv_iret 176 dX12_isAsked_176 rfl (Nat.le_refl _) (Nat.le_refl _) ⟨by rw [e1], e2⟩
          · rw [if_neg c119] at h
            refine vv_aload_n 90 0 dX12_isAsked_90 rfl rfl ?_
            refine vv_iload 91 5 dX12_isAsked_91 rfl ?_
            refine vv_iload 93 4 dX12_isAsked_93 rfl ?_
            refine vv_iload 95 6 dX12_isAsked_95 rfl ?_
            obtain ⟨μ162, hr163, h⟩ := sh_bindv_e h
            refine v1_callV [_, _, _] 97 dX12_isAsked_97 ck_X12_482 (g_l_291 hG7) ⟨by decide, rfl⟩ (t_X12_lifts hG7 hr163) (Nat.le_of_ble_eq_true rfl) ⟨Nat.le_of_ble_eq_true rfl, Nat.le_of_ble_eq_true rfl⟩ rfl (Nat.le_of_ble_eq_true rfl) ?_
            have hG162 := gp_X12_lifts hG7 hr163
            refine vv_iload 100 6 dX12_isAsked_100 rfl ?_
            refine vv_iconst 102 dX12_isAsked_102 ik_m1 ?_
            refine vv_icmp_eq 103 116 dX12_isAsked_103 (by decide) (fun c165 => ?_) (fun c165 => ?_)
            · rw [if_pos c165] at h
              refine vv_aload_n 116 0 dX12_isAsked_116 rfl rfl ?_
              refine vv_getR 117 dX12_isAsked_117 fl_12_130 rfl (g_l_291 hG162) (g_r_291_52 hG162) ?_
              refine vv_bipush 120 dX12_isAsked_120 bk_51 ?_
              refine vv_iconst 122 dX12_isAsked_122 ik_3 ?_
              refine vv_iload_n 123 1 dX12_isAsked_123 rfl rfl ?_
              refine vv_imul 124 dX12_isAsked_124 ?_
              refine vv_iadd 125 dX12_isAsked_125 ?_
              refine vv_aload_n 126 0 dX12_isAsked_126 rfl rfl ?_
              refine vv_getR 127 dX12_isAsked_127 fl_12_121 rfl (g_l_291 hG162) (g_r_291_45 hG162) ?_
              refine vv_iconst 130 dX12_isAsked_130 ik_4 ?_
              refine vv_iald 131 dX12_isAsked_131 (g_l_327 hG162) (by unfold vp_in; decide) ?_
              refine vv_iconst 132 dX12_isAsked_132 ik_m1 ?_
              refine vv_icmp_ne 133 150 dX12_isAsked_133 (by decide) (fun c166 => ?_) (fun c166 => ?_)
              · rw [if_neg c166] at h
                refine vv_aload_n 150 0 dX12_isAsked_150 rfl rfl ?_
                refine vv_iconst 151 dX12_isAsked_151 ik_1 ?_
                obtain ⟨y169, μ167, hr168, h⟩ := sh_bind_e h
                refine v1_callV [_] 152 dX12_isAsked_152 ck_X12_443 (g_l_291 hG162) ⟨by decide, rfl⟩ (t_X12_codesTell hG162 hr168) (Nat.le_of_ble_eq_true rfl) ⟨Nat.le_of_ble_eq_true rfl, Nat.le_of_ble_eq_true rfl⟩ rfl (Nat.le_of_ble_eq_true rfl) ?_
                have hG167 := gp_X12_codesTell hG162 hr168
                refine v1_callS [_] 155 dX12_isAsked_155 ck_X12_459 (c_X12_cut (μ := μ167) hG167) (Nat.le_of_ble_eq_true rfl) ⟨Nat.le_of_ble_eq_true rfl, Nat.le_of_ble_eq_true rfl⟩ rfl (Nat.le_of_ble_eq_true rfl) ?_
                obtain ⟨k170, h⟩ := sh_chk h
                refine vn_iast 158 dX12_isAsked_158 (g_l_330 hG167) k170 (fun μ171 eμ171 => ?_)
                rw [sh_let_eq eμ171] at h
                have hG171 : sh_G μ171 := by rw [eμ171]; exact hG167
                refine vv_aload_n 159 0 dX12_isAsked_159 rfl rfl ?_
                refine vv_dup_ref 160 dX12_isAsked_160 ?_
                refine vv_getI 161 dX12_isAsked_161 fl_12_489 rfl (g_l_291 hG171) ?_
                refine vv_iconst 164 dX12_isAsked_164 ik_1 ?_
                refine vv_iadd 165 dX12_isAsked_165 ?_
                refine vn_putI 166 dX12_isAsked_166 fl_12_489 (Or.inl rfl) rfl (g_l_291 hG171) (fun μ172 eμ172 => ?_)
                rw [sh_let_eq eμ172] at h
                have hG172 : sh_G μ172 := by rw [eμ172]; exact hG171
                refine vv_aload_n 169 0 dX12_isAsked_169 rfl rfl ?_
                refine vv_iload_n 170 1 dX12_isAsked_170 rfl rfl ?_
                refine vv_iload_n 171 2 dX12_isAsked_171 rfl rfl ?_
                obtain ⟨μ173, hr174, h⟩ := sh_bindv_e h
                refine v1_callV [_, _] 172 dX12_isAsked_172 ck_X12_492 (g_l_291 hG172) ⟨by decide, rfl⟩ (t_X12_isKept hG172 hr174) (Nat.le_of_ble_eq_true rfl) ⟨Nat.le_of_ble_eq_true rfl, Nat.le_of_ble_eq_true rfl⟩ rfl (Nat.le_of_ble_eq_true rfl) ?_
                have hG173 := gp_X12_isKept hG172 hr174
                refine vv_iload_n 175 3 dX12_isAsked_175 rfl rfl ?_
                obtain ⟨e1, e2⟩ := sh_some2 h
                refine vv_iret 176 dX12_isAsked_176 rfl (Nat.le_refl _) (Nat.le_refl _) ⟨by rw [e1], e2⟩
              · rw [if_pos c166] at h
                refine vv_aload_n 136 0 dX12_isAsked_136 rfl rfl ?_
                refine vv_iload_n 137 1 dX12_isAsked_137 rfl rfl ?_
                obtain ⟨y178, μ176, hr177, h⟩ := sh_bind_e h
                refine v1_callV [_] 138 dX12_isAsked_138 ck_X12_486 (g_l_291 hG162) ⟨by decide, rfl⟩ (t_X12_tiredOf hG162 hr177) (Nat.le_of_ble_eq_true rfl) ⟨Nat.le_of_ble_eq_true rfl, Nat.le_of_ble_eq_true rfl⟩ rfl (Nat.le_of_ble_eq_true rfl) ?_
                have hG176 := gp_X12_tiredOf hG162 hr177
                refine vv_iconst 141 dX12_isAsked_141 ik_1 ?_
                refine vv_iadd 142 dX12_isAsked_142 ?_
                refine vv_i2l 143 dX12_isAsked_143 ?_
                refine v1_callS [_] 144 dX12_isAsked_144 ck_X12_459 (c_X12_cut (μ := μ176) hG176) (Nat.le_of_ble_eq_true rfl) ⟨Nat.le_of_ble_eq_true rfl, Nat.le_of_ble_eq_true rfl⟩ rfl (Nat.le_of_ble_eq_true rfl) ?_
                refine vv_goto 147 158 dX12_isAsked_147 (by decide) ?_
                obtain ⟨k179, h⟩ := sh_chk h
                refine vn_iast 158 dX12_isAsked_158 (g_l_330 hG176) k179 (fun μ180 eμ180 => ?_)
                rw [sh_let_eq eμ180] at h
                have hG180 : sh_G μ180 := by rw [eμ180]; exact hG176
                refine vv_aload_n 159 0 dX12_isAsked_159 rfl rfl ?_
                refine vv_dup_ref 160 dX12_isAsked_160 ?_
                refine vv_getI 161 dX12_isAsked_161 fl_12_489 rfl (g_l_291 hG180) ?_
                refine vv_iconst 164 dX12_isAsked_164 ik_1 ?_
                refine vv_iadd 165 dX12_isAsked_165 ?_
                refine vn_putI 166 dX12_isAsked_166 fl_12_489 (Or.inl rfl) rfl (g_l_291 hG180) (fun μ181 eμ181 => ?_)
                rw [sh_let_eq eμ181] at h
                have hG181 : sh_G μ181 := by rw [eμ181]; exact hG180
                refine vv_aload_n 169 0 dX12_isAsked_169 rfl rfl ?_
                refine vv_iload_n 170 1 dX12_isAsked_170 rfl rfl ?_
                refine vv_iload_n 171 2 dX12_isAsked_171 rfl rfl ?_
                obtain ⟨μ182, hr183, h⟩ := sh_bindv_e h
                refine v1_callV [_, _] 172 dX12_isAsked_172 ck_X12_492 (g_l_291 hG181) ⟨by decide, rfl⟩ (t_X12_isKept hG181 hr183) (Nat.le_of_ble_eq_true rfl) ⟨Nat.le_of_ble_eq_true rfl, Nat.le_of_ble_eq_true rfl⟩ rfl (Nat.le_of_ble_eq_true rfl) ?_
                have hG182 := gp_X12_isKept hG181 hr183
                refine vv_iload_n 175 3 dX12_isAsked_175 rfl rfl ?_
                obtain ⟨e1, e2⟩ := sh_some2 h
                refine vv_iret 176 dX12_isAsked_176 rfl (Nat.le_refl _) (Nat.le_refl _) ⟨by rw [e1], e2⟩
            · rw [if_neg c165] at h
              refine vv_aload_n 106 0 dX12_isAsked_106 rfl rfl ?_
              refine vv_iload 107 6 dX12_isAsked_107 rfl ?_
              refine vv_iload 109 4 dX12_isAsked_109 rfl ?_
              refine vv_iload 111 5 dX12_isAsked_111 rfl ?_
              obtain ⟨μ185, hr186, h⟩ := sh_bindv_e h
              refine v1_callV [_, _, _] 113 dX12_isAsked_113 ck_X12_482 (g_l_291 hG162) ⟨by decide, rfl⟩ (t_X12_lifts hG162 hr186) (Nat.le_of_ble_eq_true rfl) ⟨Nat.le_of_ble_eq_true rfl, Nat.le_of_ble_eq_true rfl⟩ rfl (Nat.le_of_ble_eq_true rfl) ?_
              have hG185 := gp_X12_lifts hG162 hr186
              refine vv_aload_n 116 0 dX12_isAsked_116 rfl rfl ?_
              refine vv_getR 117 dX12_isAsked_117 fl_12_130 rfl (g_l_291 hG185) (g_r_291_52 hG185) ?_
              refine vv_bipush 120 dX12_isAsked_120 bk_51 ?_
              refine vv_iconst 122 dX12_isAsked_122 ik_3 ?_
              refine vv_iload_n 123 1 dX12_isAsked_123 rfl rfl ?_
              refine vv_imul 124 dX12_isAsked_124 ?_
              refine vv_iadd 125 dX12_isAsked_125 ?_
              refine vv_aload_n 126 0 dX12_isAsked_126 rfl rfl ?_
              refine vv_getR 127 dX12_isAsked_127 fl_12_121 rfl (g_l_291 hG185) (g_r_291_45 hG185) ?_
              refine vv_iconst 130 dX12_isAsked_130 ik_4 ?_
              refine vv_iald 131 dX12_isAsked_131 (g_l_327 hG185) (by unfold vp_in; decide) ?_
              refine vv_iconst 132 dX12_isAsked_132 ik_m1 ?_
              refine vv_icmp_ne 133 150 dX12_isAsked_133 (by decide) (fun c188 => ?_) (fun c188 => ?_)
              · rw [if_neg c188] at h
                refine vv_aload_n 150 0 dX12_isAsked_150 rfl rfl ?_
                refine vv_iconst 151 dX12_isAsked_151 ik_1 ?_
                obtain ⟨y191, μ189, hr190, h⟩ := sh_bind_e h
                refine v1_callV [_] 152 dX12_isAsked_152 ck_X12_443 (g_l_291 hG185) ⟨by decide, rfl⟩ (t_X12_codesTell hG185 hr190) (Nat.le_of_ble_eq_true rfl) ⟨Nat.le_of_ble_eq_true rfl, Nat.le_of_ble_eq_true rfl⟩ rfl (Nat.le_of_ble_eq_true rfl) ?_
                have hG189 := gp_X12_codesTell hG185 hr190
                refine v1_callS [_] 155 dX12_isAsked_155 ck_X12_459 (c_X12_cut (μ := μ189) hG189) (Nat.le_of_ble_eq_true rfl) ⟨Nat.le_of_ble_eq_true rfl, Nat.le_of_ble_eq_true rfl⟩ rfl (Nat.le_of_ble_eq_true rfl) ?_
                obtain ⟨k192, h⟩ := sh_chk h
                refine vn_iast 158 dX12_isAsked_158 (g_l_330 hG189) k192 (fun μ193 eμ193 => ?_)
                rw [sh_let_eq eμ193] at h
                have hG193 : sh_G μ193 := by rw [eμ193]; exact hG189
                refine vv_aload_n 159 0 dX12_isAsked_159 rfl rfl ?_
                refine vv_dup_ref 160 dX12_isAsked_160 ?_
                refine vv_getI 161 dX12_isAsked_161 fl_12_489 rfl (g_l_291 hG193) ?_
                refine vv_iconst 164 dX12_isAsked_164 ik_1 ?_
                refine vv_iadd 165 dX12_isAsked_165 ?_
                refine vn_putI 166 dX12_isAsked_166 fl_12_489 (Or.inl rfl) rfl (g_l_291 hG193) (fun μ194 eμ194 => ?_)
                rw [sh_let_eq eμ194] at h
                have hG194 : sh_G μ194 := by rw [eμ194]; exact hG193
                refine vv_aload_n 169 0 dX12_isAsked_169 rfl rfl ?_
                refine vv_iload_n 170 1 dX12_isAsked_170 rfl rfl ?_
                refine vv_iload_n 171 2 dX12_isAsked_171 rfl rfl ?_
                obtain ⟨μ195, hr196, h⟩ := sh_bindv_e h
                refine v1_callV [_, _] 172 dX12_isAsked_172 ck_X12_492 (g_l_291 hG194) ⟨by decide, rfl⟩ (t_X12_isKept hG194 hr196) (Nat.le_of_ble_eq_true rfl) ⟨Nat.le_of_ble_eq_true rfl, Nat.le_of_ble_eq_true rfl⟩ rfl (Nat.le_of_ble_eq_true rfl) ?_
                have hG195 := gp_X12_isKept hG194 hr196
                refine vv_iload_n 175 3 dX12_isAsked_175 rfl rfl ?_
                obtain ⟨e1, e2⟩ := sh_some2 h
                refine vv_iret 176 dX12_isAsked_176 rfl (Nat.le_refl _) (Nat.le_refl _) ⟨by rw [e1], e2⟩
              · rw [if_pos c188] at h
                refine vv_aload_n 136 0 dX12_isAsked_136 rfl rfl ?_
                refine vv_iload_n 137 1 dX12_isAsked_137 rfl rfl ?_
                obtain ⟨y200, μ198, hr199, h⟩ := sh_bind_e h
                refine v1_callV [_] 138 dX12_isAsked_138 ck_X12_486 (g_l_291 hG185) ⟨by decide, rfl⟩ (t_X12_tiredOf hG185 hr199) (Nat.le_of_ble_eq_true rfl) ⟨Nat.le_of_ble_eq_true rfl, Nat.le_of_ble_eq_true rfl⟩ rfl (Nat.le_of_ble_eq_true rfl) ?_
                have hG198 := gp_X12_tiredOf hG185 hr199
                refine vv_iconst 141 dX12_isAsked_141 ik_1 ?_
                refine vv_iadd 142 dX12_isAsked_142 ?_
                refine vv_i2l 143 dX12_isAsked_143 ?_
                refine v1_callS [_] 144 dX12_isAsked_144 ck_X12_459 (c_X12_cut (μ := μ198) hG198) (Nat.le_of_ble_eq_true rfl) ⟨Nat.le_of_ble_eq_true rfl, Nat.le_of_ble_eq_true rfl⟩ rfl (Nat.le_of_ble_eq_true rfl) ?_
                refine vv_goto 147 158 dX12_isAsked_147 (by decide) ?_
                obtain ⟨k201, h⟩ := sh_chk h
                refine vn_iast 158 dX12_isAsked_158 (g_l_330 hG198) k201 (fun μ202 eμ202 => ?_)
                rw [sh_let_eq eμ202] at h
                have hG202 : sh_G μ202 := by rw [eμ202]; exact hG198
                refine vv_aload_n 159 0 dX12_isAsked_159 rfl rfl ?_
                refine vv_dup_ref 160 dX12_isAsked_160 ?_
                refine vv_getI 161 dX12_isAsked_161 fl_12_489 rfl (g_l_291 hG202) ?_
                refine vv_iconst 164 dX12_isAsked_164 ik_1 ?_
                refine vv_iadd 165 dX12_isAsked_165 ?_
                refine vn_putI 166 dX12_isAsked_166 fl_12_489 (Or.inl rfl) rfl (g_l_291 hG202) (fun μ203 eμ203 => ?_)
                rw [sh_let_eq eμ203] at h
                have hG203 : sh_G μ203 := by rw [eμ203]; exact hG202
                refine vv_aload_n 169 0 dX12_isAsked_169 rfl rfl ?_
                refine vv_iload_n 170 1 dX12_isAsked_170 rfl rfl ?_
                refine vv_iload_n 171 2 dX12_isAsked_171 rfl rfl ?_
                obtain ⟨μ204, hr205, h⟩ := sh_bindv_e h
                refine v1_callV [_, _] 172 dX12_isAsked_172 ck_X12_492 (g_l_291 hG203) ⟨by decide, rfl⟩ (t_X12_isKept hG203 hr205) (Nat.le_of_ble_eq_true rfl) ⟨Nat.le_of_ble_eq_true rfl, Nat.le_of_ble_eq_true rfl⟩ rfl (Nat.le_of_ble_eq_true rfl) ?_
                have hG204 := gp_X12_isKept hG203 hr205
                refine vv_iload_n 175 3 dX12_isAsked_175 rfl rfl ?_
                obtain ⟨e1, e2⟩ := sh_some2 h
                refine vv_iret 176 dX12_isAsked_176 rfl (Nat.le_refl _) (Nat.le_refl _) ⟨by rw [e1], e2⟩
    · rw [if_neg c6] at h
      refine vv_iload_n 31 3 dX12_isAsked_31 rfl rfl ?_
      obtain ⟨e1, e2⟩ := sh_some2 h
      refine vv_iret 32 dX12_isAsked_32 rfl (Nat.le_refl _) (Nat.le_refl _) ⟨by rw [e1], e2⟩
  · rw [if_pos c2] at h
    refine vv_iconst 17 dX12_isAsked_17 ik_0 ?_
    obtain ⟨e1, e2⟩ := sh_some2 h
    refine vv_iret 18 dX12_isAsked_18 rfl (Nat.le_refl _) (Nat.le_refl _) ⟨by rw [e1], e2⟩
noncomputable def f_X12_dayGoes (μ : sh_Mem) : Option sh_Mem := sh_bind (f_X12_listMany μ) (fun y3 μ1 => (if y3 ≤ 0 then sh_let (sh_setI μ1 330 (Int32.toNatClampNeg 0) ((sh_i μ1 330 (Int32.toNatClampNeg 0)) + 1)) (fun μ5 => some μ5) else (if ¬ y3 = 0 then sh_let ((24 + (2 * ((sh_i μ1 330 (Int32.toNatClampNeg 0)) - (sh_i μ1 330 (Int32.toNatClampNeg 0)) / y3 * y3))) : Int32) (fun x7 => (if sh_in x7 48 then (if sh_in (x7 + 1) 48 then sh_bind (f_X12_isAsked (sh_i μ1 326 x7.toNatClampNeg) (sh_i μ1 326 ((x7 + 1)).toNatClampNeg) μ1) (fun y12 μ10 => sh_let (sh_setI μ10 330 (Int32.toNatClampNeg 0) ((sh_i μ10 330 (Int32.toNatClampNeg 0)) + 1)) (fun μ13 => some μ13)) else none) else none)) else none)))
theorem gp_X12_dayGoes {μ μ' : sh_Mem} (hG : sh_G μ) (h : f_X12_dayGoes μ = some μ') : sh_G μ' := by
  unfold f_X12_dayGoes at h
  obtain ⟨y3, μ1, hr2, h⟩ := sh_bind_e h
  have hG1 := gp_X12_listMany hG hr2
  by_cases c4 : y3 ≤ 0
  · rw [if_pos c4] at h
    obtain ⟨μ5, eμ5⟩ : ∃ y : sh_Mem, y = (sh_setI μ1 330 (Int32.toNatClampNeg 0) ((sh_i μ1 330 (Int32.toNatClampNeg 0)) + 1)) := ⟨_, rfl⟩
    rw [sh_let_eq eμ5] at h
    have hG5 : sh_G μ5 := by rw [eμ5]; exact hG1
    have e2 := Option.some.inj h
    exact e2 ▸ hG5
  · rw [if_neg c4] at h
    obtain ⟨k6, h⟩ := sh_chk h
    obtain ⟨x7, ex7⟩ : ∃ y : Int32, y = (24 + (2 * ((sh_i μ1 330 (Int32.toNatClampNeg 0)) - (sh_i μ1 330 (Int32.toNatClampNeg 0)) / y3 * y3))) := ⟨_, rfl⟩
    rw [sh_let_eq ex7] at h
    obtain ⟨k8, h⟩ := sh_chk h
    obtain ⟨k9, h⟩ := sh_chk h
    obtain ⟨y12, μ10, hr11, h⟩ := sh_bind_e h
    have hG10 := gp_X12_isAsked hG1 hr11
    obtain ⟨μ13, eμ13⟩ : ∃ y : sh_Mem, y = (sh_setI μ10 330 (Int32.toNatClampNeg 0) ((sh_i μ10 330 (Int32.toNatClampNeg 0)) + 1)) := ⟨_, rfl⟩
    rw [sh_let_eq eμ13] at h
    have hG13 : sh_G μ13 := by rw [eμ13]; exact hG10
    have e2 := Option.some.inj h
    exact e2 ▸ hG13
theorem t_X12_dayGoes {μ μ' : sh_Mem} (hG : sh_G μ) (h : f_X12_dayGoes μ = some μ') : sh_C0 l B D ca 7 M_X12_dayGoes [.ref 291] μ (fun v0 μ0 => v0 = none ∧ μ0 = μ') := by
  unfold f_X12_dayGoes at h
  refine vv_aload_n 0 0 dX12_dayGoes_0 rfl rfl ?_
  obtain ⟨y3, μ1, hr2, h⟩ := sh_bind_e h
  refine v1_callV [] 1 dX12_dayGoes_1 ck_X12_495 (g_l_291 hG) ⟨by decide, rfl⟩ (t_X12_listMany hG hr2) (Nat.le_of_ble_eq_true rfl) ⟨Nat.le_of_ble_eq_true rfl, Nat.le_of_ble_eq_true rfl⟩ rfl (Nat.le_of_ble_eq_true rfl) ?_
  have hG1 := gp_X12_listMany hG hr2
  refine vv_istore_n (lv' := [(1, _), (0, _)]) 4 1 dX12_dayGoes_4 rfl (by decide) rfl ?_
  refine vv_iload_n 5 1 dX12_dayGoes_5 rfl rfl ?_
  refine vv_if_le 6 42 dX12_dayGoes_6 (by decide) (fun c4 => ?_) (fun c4 => ?_)
  · rw [if_pos c4] at h
    refine vv_aload_n 42 0 dX12_dayGoes_42 rfl rfl ?_
    refine vv_getR 43 dX12_dayGoes_43 fl_12_130 rfl (g_l_291 hG1) (g_r_291_52 hG1) ?_
    refine vv_iconst 46 dX12_dayGoes_46 ik_0 ?_
    refine vv_dup2_ri 47 dX12_dayGoes_47 ?_
    refine vv_iald 48 dX12_dayGoes_48 (g_l_330 hG1) (by unfold vp_in; decide) ?_
    refine vv_iconst 49 dX12_dayGoes_49 ik_1 ?_
    refine vv_iadd 50 dX12_dayGoes_50 ?_
    refine vn_iast 51 dX12_dayGoes_51 (g_l_330 hG1) (by unfold vp_in; decide) (fun μ5 eμ5 => ?_)
    rw [sh_let_eq eμ5] at h
    have hG5 : sh_G μ5 := by rw [eμ5]; exact hG1
    have e2 := Option.some.inj h
    refine vv_vret 52 dX12_dayGoes_52 rfl (Nat.le_refl _) (Nat.le_refl _) ⟨rfl, e2⟩
  · rw [if_neg c4] at h
    refine vv_bipush 9 dX12_dayGoes_9 bk_24 ?_
    refine vv_iconst 11 dX12_dayGoes_11 ik_2 ?_
    refine vv_aload_n 12 0 dX12_dayGoes_12 rfl rfl ?_
    refine vv_getR 13 dX12_dayGoes_13 fl_12_130 rfl (g_l_291 hG1) (g_r_291_52 hG1) ?_
    refine vv_iconst 16 dX12_dayGoes_16 ik_0 ?_
    refine vv_iald 17 dX12_dayGoes_17 (g_l_330 hG1) (by unfold vp_in; decide) ?_
    refine vv_iload_n 18 1 dX12_dayGoes_18 rfl rfl ?_
    obtain ⟨k6, h⟩ := sh_chk h
    refine vv_irem 19 dX12_dayGoes_19 k6 ?_
    refine vv_imul 20 dX12_dayGoes_20 ?_
    refine vv_iadd 21 dX12_dayGoes_21 ?_
    refine vv_topi (fun x7 ex7 => ?_)
    rw [sh_let_eq ex7] at h
    refine vv_istore_n (lv' := [(2, _), (1, _), (0, _)]) 22 2 dX12_dayGoes_22 rfl (by decide) rfl ?_
    refine vv_aload_n 23 0 dX12_dayGoes_23 rfl rfl ?_
    refine vv_aload_n 24 0 dX12_dayGoes_24 rfl rfl ?_
    refine vv_getR 25 dX12_dayGoes_25 fl_12_118 rfl (g_l_291 hG1) (g_r_291_44 hG1) ?_
    refine vv_iload_n 28 2 dX12_dayGoes_28 rfl rfl ?_
    obtain ⟨k8, h⟩ := sh_chk h
    refine vv_iald 29 dX12_dayGoes_29 (g_l_326 hG1) k8 ?_
    refine vv_aload_n 30 0 dX12_dayGoes_30 rfl rfl ?_
    refine vv_getR 31 dX12_dayGoes_31 fl_12_118 rfl (g_l_291 hG1) (g_r_291_44 hG1) ?_
    refine vv_iload_n 34 2 dX12_dayGoes_34 rfl rfl ?_
    refine vv_iconst 35 dX12_dayGoes_35 ik_1 ?_
    refine vv_iadd 36 dX12_dayGoes_36 ?_
    obtain ⟨k9, h⟩ := sh_chk h
    refine vv_iald 37 dX12_dayGoes_37 (g_l_326 hG1) k9 ?_
    obtain ⟨y12, μ10, hr11, h⟩ := sh_bind_e h
    refine v1_callV [_, _] 38 dX12_dayGoes_38 ck_X12_498 (g_l_291 hG1) ⟨by decide, rfl⟩ (t_X12_isAsked hG1 hr11) (Nat.le_of_ble_eq_true rfl) ⟨Nat.le_of_ble_eq_true rfl, Nat.le_of_ble_eq_true rfl⟩ rfl (Nat.le_of_ble_eq_true rfl) ?_
    have hG10 := gp_X12_isAsked hG1 hr11
    refine vv_pop 41 dX12_dayGoes_41 ?_
    refine vv_aload_n 42 0 dX12_dayGoes_42 rfl rfl ?_
    refine vv_getR 43 dX12_dayGoes_43 fl_12_130 rfl (g_l_291 hG10) (g_r_291_52 hG10) ?_
    refine vv_iconst 46 dX12_dayGoes_46 ik_0 ?_
    refine vv_dup2_ri 47 dX12_dayGoes_47 ?_
    refine vv_iald 48 dX12_dayGoes_48 (g_l_330 hG10) (by unfold vp_in; decide) ?_
    refine vv_iconst 49 dX12_dayGoes_49 ik_1 ?_
    refine vv_iadd 50 dX12_dayGoes_50 ?_
    refine vn_iast 51 dX12_dayGoes_51 (g_l_330 hG10) (by unfold vp_in; decide) (fun μ13 eμ13 => ?_)
    rw [sh_let_eq eμ13] at h
    have hG13 : sh_G μ13 := by rw [eμ13]; exact hG10
    have e2 := Option.some.inj h
    refine vv_vret 52 dX12_dayGoes_52 rfl (Nat.le_refl _) (Nat.le_refl _) ⟨rfl, e2⟩
noncomputable def F_X12_daysGo : Nat → Nat → Int32 → Int32 → sh_Mem → Option sh_Mem
  | 0, _, _, _, _ => none
  | fuel + 1, lbl, i1, i2, μ => match lbl with
    | 1 => (if i1 ≤ i2 then some μ else sh_bindv (f_X12_dayGoes μ) (fun μ6 => F_X12_daysGo fuel 1 i1 (i2 + 1) μ6))
    | _ => none
noncomputable def f_X12_daysGo (a1 : Int32) (μ : sh_Mem) : Option sh_Mem := F_X12_daysGo sh_fuel 1 a1 0 μ
theorem gpl_X12_daysGo (fuel : Nat) : (∀ ⦃i1 : Int32⦄ ⦃i2 : Int32⦄ ⦃μ μ' : sh_Mem⦄, sh_G μ → F_X12_daysGo fuel 1 i1 i2 μ = some μ' → sh_G μ') := by
  induction fuel with
  | zero => intro i1 i2 μ μ' hG h; cases h
  | succ fuel ih =>
    have ih_2 := ih
    intro i1 i2 μ μ' hG h
    replace h : ((if i1 ≤ i2 then some μ else sh_bindv (f_X12_dayGoes μ) (fun μ6 => F_X12_daysGo fuel 1 i1 (i2 + 1) μ6)) : Option sh_Mem) = some μ' := h
    by_cases c5 : i1 ≤ i2
    · rw [if_pos c5] at h
      have e2 := Option.some.inj h
      exact e2 ▸ hG
    · rw [if_neg c5] at h
      obtain ⟨μ6, hr7, h⟩ := sh_bindv_e h
      have hG6 := gp_X12_dayGoes hG hr7
      exact ih_2 hG6 h
theorem tl_X12_daysGo (fuel : Nat) : (∀ ⦃i1 : Int32⦄ ⦃i2 : Int32⦄ ⦃μ μ' : sh_Mem⦄, sh_G μ → F_X12_daysGo fuel 1 i1 i2 μ = some μ' → sh_V0 l B D ca 8 M_X12_daysGo 2 [(0, .ref 291), (1, .int i1), (2, .int i2)] [] μ (fun v0 μ0 => v0 = none ∧ μ0 = μ')) := by
  induction fuel with
  | zero => intro i1 i2 μ μ' hG h; cases h
  | succ fuel ih =>
    have ih_2 := ih
    intro i1 i2 μ μ' hG h
    replace h : ((if i1 ≤ i2 then some μ else sh_bindv (f_X12_dayGoes μ) (fun μ6 => F_X12_daysGo fuel 1 i1 (i2 + 1) μ6)) : Option sh_Mem) = some μ' := h
    refine vv_iload_n 2 2 dX12_daysGo_2 rfl rfl ?_
    refine vv_iload_n 3 1 dX12_daysGo_3 rfl rfl ?_
    refine vv_icmp_ge 4 17 dX12_daysGo_4 (by decide) (fun c5 => ?_) (fun c5 => ?_)
    · rw [if_pos c5] at h
      have e2 := Option.some.inj h
      refine vv_vret 17 dX12_daysGo_17 rfl (Nat.le_refl _) (Nat.le_refl _) ⟨rfl, e2⟩
    · rw [if_neg c5] at h
      refine vv_aload_n 7 0 dX12_daysGo_7 rfl rfl ?_
      obtain ⟨μ6, hr7, h⟩ := sh_bindv_e h
      refine v1_callV [] 8 dX12_daysGo_8 ck_X12_501 (g_l_291 hG) ⟨by decide, rfl⟩ (t_X12_dayGoes hG hr7) (Nat.le_of_ble_eq_true rfl) ⟨Nat.le_of_ble_eq_true rfl, Nat.le_of_ble_eq_true rfl⟩ rfl (Nat.le_of_ble_eq_true rfl) ?_
      have hG6 := gp_X12_dayGoes hG hr7
      refine vv_iincc (lv' := [(2, _), (0, _), (1, _)]) 11 2 dX12_daysGo_11 rfl ik_1 (by decide) rfl ?_
      refine vv_goto 14 2 dX12_daysGo_14 (by decide) ?_
      refine vv_sub [(0, _), (1, _), (2, _)] (sh_subm [1, 2, 0] rfl) ?_
      exact ih_2 hG6 h
theorem gp_X12_daysGo {a1 : Int32} {μ μ' : sh_Mem} (hG : sh_G μ) (h : f_X12_daysGo a1 μ = some μ') : sh_G μ' := by
  have ih_2 := (gpl_X12_daysGo sh_fuel)
  unfold f_X12_daysGo at h
  exact ih_2 hG h
theorem t_X12_daysGo {a1 : Int32} {μ μ' : sh_Mem} (hG : sh_G μ) (h : f_X12_daysGo a1 μ = some μ') : sh_C0 l B D ca 8 M_X12_daysGo [.ref 291, .int a1] μ (fun v0 μ0 => v0 = none ∧ μ0 = μ') := by
  have ih_2 := (tl_X12_daysGo (l := l) (B := B) (D := D) (ca := ca) sh_fuel)
  unfold f_X12_daysGo at h
  refine vv_iconst 0 dX12_daysGo_0 ik_0 ?_
  refine vv_istore_n (lv' := [(2, _), (0, _), (1, _)]) 1 2 dX12_daysGo_1 rfl (by decide) rfl ?_
  refine vv_sub [(0, _), (1, _), (2, _)] (sh_subm [1, 2, 0] rfl) ?_
  exact ih_2 hG h
noncomputable def F_X12_laysLifted : Nat → Nat → Int32 → Int32 → sh_Mem → Option sh_Mem
  | 0, _, _, _, _ => none
  | fuel + 1, lbl, i1, i2, μ => match lbl with
    | 1 => sh_bind (f_X12_personMany μ) (fun y44 μ42 => (if y44 ≤ i1 then sh_bindv (f_X12_takesBack μ42) (fun μ46 => some μ46) else F_X12_laysLifted fuel 2 i1 0 μ42))
    | 2 => sh_bind (f_X12_topicMany μ) (fun y51 μ49 => (if y51 ≤ i2 then F_X12_laysLifted fuel 1 (i1 + 1) 0 μ49 else sh_bind (f_X12_isAsked i1 i2 μ49) (fun y55 μ53 => (if sh_in ((5 * i1) + i2) 35 then sh_let (sh_setI μ53 332 (((5 * i1) + i2)).toNatClampNeg (sh_i μ53 291 59)) (fun μ57 => sh_bindv (f_X12_triesAnew μ57) (fun μ58 => F_X12_laysLifted fuel 2 i1 (i2 + 1) μ58)) else none))))
    | _ => none
noncomputable def f_X12_laysLifted (μ : sh_Mem) : Option sh_Mem := sh_bindv (f_X12_putsAside μ) (fun μ61 => F_X12_laysLifted sh_fuel 1 0 0 μ61)
theorem gpl_X12_laysLifted (fuel : Nat) : (∀ ⦃i1 : Int32⦄ ⦃i2 : Int32⦄ ⦃μ μ' : sh_Mem⦄, sh_G μ → F_X12_laysLifted fuel 1 i1 i2 μ = some μ' → sh_G μ') ∧ (∀ ⦃i1 : Int32⦄ ⦃i2 : Int32⦄ ⦃μ μ' : sh_Mem⦄, sh_G μ → F_X12_laysLifted fuel 2 i1 i2 μ = some μ' → sh_G μ') := by
  induction fuel with
  | zero => exact ⟨(by intro i1 i2 μ μ' hG h; cases h), (by intro i1 i2 μ μ' hG h; cases h)⟩
  | succ fuel ih =>
    obtain ⟨ih_6, ih_16⟩ := ih
    refine ⟨?_, ?_⟩
    · intro i1 i2 μ μ' hG h
      replace h : (sh_bind (f_X12_personMany μ) (fun y44 μ42 => (if y44 ≤ i1 then sh_bindv (f_X12_takesBack μ42) (fun μ46 => some μ46) else F_X12_laysLifted fuel 2 i1 0 μ42)) : Option sh_Mem) = some μ' := h
      obtain ⟨y44, μ42, hr43, h⟩ := sh_bind_e h
      have hG42 := gp_X12_personMany hG hr43
      by_cases c45 : y44 ≤ i1
      · rw [if_pos c45] at h
        obtain ⟨μ46, hr47, h⟩ := sh_bindv_e h
        have hG46 := gp_X12_takesBack hG42 hr47
        have e2 := Option.some.inj h
        exact e2 ▸ hG46
      · rw [if_neg c45] at h
        exact ih_16 hG42 h
    · intro i1 i2 μ μ' hG h
      replace h : (sh_bind (f_X12_topicMany μ) (fun y51 μ49 => (if y51 ≤ i2 then F_X12_laysLifted fuel 1 (i1 + 1) 0 μ49 else sh_bind (f_X12_isAsked i1 i2 μ49) (fun y55 μ53 => (if sh_in ((5 * i1) + i2) 35 then sh_let (sh_setI μ53 332 (((5 * i1) + i2)).toNatClampNeg (sh_i μ53 291 59)) (fun μ57 => sh_bindv (f_X12_triesAnew μ57) (fun μ58 => F_X12_laysLifted fuel 2 i1 (i2 + 1) μ58)) else none)))) : Option sh_Mem) = some μ' := h
      obtain ⟨y51, μ49, hr50, h⟩ := sh_bind_e h
      have hG49 := gp_X12_topicMany hG hr50
      by_cases c52 : y51 ≤ i2
      · rw [if_pos c52] at h
        exact ih_6 hG49 h
      · rw [if_neg c52] at h
        obtain ⟨y55, μ53, hr54, h⟩ := sh_bind_e h
        have hG53 := gp_X12_isAsked hG49 hr54
        obtain ⟨k56, h⟩ := sh_chk h
        obtain ⟨μ57, eμ57⟩ : ∃ y : sh_Mem, y = (sh_setI μ53 332 (((5 * i1) + i2)).toNatClampNeg (sh_i μ53 291 59)) := ⟨_, rfl⟩
        rw [sh_let_eq eμ57] at h
        have hG57 : sh_G μ57 := by rw [eμ57]; exact hG53
        obtain ⟨μ58, hr59, h⟩ := sh_bindv_e h
        have hG58 := gp_X12_triesAnew hG57 hr59
        exact ih_16 hG58 h
theorem tl_X12_laysLifted (fuel : Nat) : (∀ ⦃i1 : Int32⦄ ⦃i2 : Int32⦄ ⦃μ μ' : sh_Mem⦄, sh_G μ → F_X12_laysLifted fuel 1 i1 i2 μ = some μ' → sh_V0 l B D ca 7 M_X12_laysLifted 6 [(0, .ref 291), (1, .int i1)] [] μ (fun v0 μ0 => v0 = none ∧ μ0 = μ')) ∧ (∀ ⦃i1 : Int32⦄ ⦃i2 : Int32⦄ ⦃μ μ' : sh_Mem⦄, sh_G μ → F_X12_laysLifted fuel 2 i1 i2 μ = some μ' → sh_V0 l B D ca 7 M_X12_laysLifted 16 [(0, .ref 291), (1, .int i1), (2, .int i2)] [] μ (fun v0 μ0 => v0 = none ∧ μ0 = μ')) := by
  induction fuel with
  | zero => exact ⟨(by intro i1 i2 μ μ' hG h; cases h), (by intro i1 i2 μ μ' hG h; cases h)⟩
  | succ fuel ih =>
    obtain ⟨ih_6, ih_16⟩ := ih
    refine ⟨?_, ?_⟩
    · intro i1 i2 μ μ' hG h
      replace h : (sh_bind (f_X12_personMany μ) (fun y44 μ42 => (if y44 ≤ i1 then sh_bindv (f_X12_takesBack μ42) (fun μ46 => some μ46) else F_X12_laysLifted fuel 2 i1 0 μ42)) : Option sh_Mem) = some μ' := h
      refine vv_iload_n 6 1 dX12_laysLifted_6 rfl rfl ?_
      refine vv_aload_n 7 0 dX12_laysLifted_7 rfl rfl ?_
      obtain ⟨y44, μ42, hr43, h⟩ := sh_bind_e h
      refine v1_callV [] 8 dX12_laysLifted_8 ck_X12_411 (g_l_291 hG) ⟨by decide, rfl⟩ (t_X12_personMany hG hr43) (Nat.le_of_ble_eq_true rfl) ⟨Nat.le_of_ble_eq_true rfl, Nat.le_of_ble_eq_true rfl⟩ rfl (Nat.le_of_ble_eq_true rfl) ?_
      have hG42 := gp_X12_personMany hG hr43
      refine vv_icmp_ge 11 61 dX12_laysLifted_11 (by decide) (fun c45 => ?_) (fun c45 => ?_)
      · rw [if_pos c45] at h
        refine vv_aload_n 61 0 dX12_laysLifted_61 rfl rfl ?_
        obtain ⟨μ46, hr47, h⟩ := sh_bindv_e h
        refine v1_callV [] 62 dX12_laysLifted_62 ck_X12_510 (g_l_291 hG42) ⟨by decide, rfl⟩ (t_X12_takesBack hG42 hr47) (Nat.le_of_ble_eq_true rfl) ⟨Nat.le_of_ble_eq_true rfl, Nat.le_of_ble_eq_true rfl⟩ rfl (Nat.le_of_ble_eq_true rfl) ?_
        have hG46 := gp_X12_takesBack hG42 hr47
        have e2 := Option.some.inj h
        refine vv_vret 65 dX12_laysLifted_65 rfl (Nat.le_refl _) (Nat.le_refl _) ⟨rfl, e2⟩
      · rw [if_neg c45] at h
        refine vv_iconst 14 dX12_laysLifted_14 ik_0 ?_
        refine vv_istore_n (lv' := [(2, _), (0, _), (1, _)]) 15 2 dX12_laysLifted_15 rfl (by decide) rfl ?_
        refine vv_sub [(0, _), (1, _), (2, _)] (sh_subm [1, 2, 0] rfl) ?_
        exact ih_16 hG42 h
    · intro i1 i2 μ μ' hG h
      replace h : (sh_bind (f_X12_topicMany μ) (fun y51 μ49 => (if y51 ≤ i2 then F_X12_laysLifted fuel 1 (i1 + 1) 0 μ49 else sh_bind (f_X12_isAsked i1 i2 μ49) (fun y55 μ53 => (if sh_in ((5 * i1) + i2) 35 then sh_let (sh_setI μ53 332 (((5 * i1) + i2)).toNatClampNeg (sh_i μ53 291 59)) (fun μ57 => sh_bindv (f_X12_triesAnew μ57) (fun μ58 => F_X12_laysLifted fuel 2 i1 (i2 + 1) μ58)) else none)))) : Option sh_Mem) = some μ' := h
      refine vv_iload_n 16 2 dX12_laysLifted_16 rfl rfl ?_
      refine vv_aload_n 17 0 dX12_laysLifted_17 rfl rfl ?_
      obtain ⟨y51, μ49, hr50, h⟩ := sh_bind_e h
      refine v1_callV [] 18 dX12_laysLifted_18 ck_X12_408 (g_l_291 hG) ⟨by decide, rfl⟩ (t_X12_topicMany hG hr50) (Nat.le_of_ble_eq_true rfl) ⟨Nat.le_of_ble_eq_true rfl, Nat.le_of_ble_eq_true rfl⟩ rfl (Nat.le_of_ble_eq_true rfl) ?_
      have hG49 := gp_X12_topicMany hG hr50
      refine vv_icmp_ge 21 55 dX12_laysLifted_21 (by decide) (fun c52 => ?_) (fun c52 => ?_)
      · rw [if_pos c52] at h
        refine vv_iincc (lv' := [(1, _), (0, _), (2, _)]) 55 1 dX12_laysLifted_55 rfl ik_1 (by decide) rfl ?_
        refine vv_goto 58 6 dX12_laysLifted_58 (by decide) ?_
        refine vv_sub [(0, _), (1, _)] (sh_subm [1, 0] rfl) ?_
        exact ih_6 hG49 h
      · rw [if_neg c52] at h
        refine vv_aload_n 24 0 dX12_laysLifted_24 rfl rfl ?_
        refine vv_iload_n 25 1 dX12_laysLifted_25 rfl rfl ?_
        refine vv_iload_n 26 2 dX12_laysLifted_26 rfl rfl ?_
        obtain ⟨y55, μ53, hr54, h⟩ := sh_bind_e h
        refine v1_callV [_, _] 27 dX12_laysLifted_27 ck_X12_498 (g_l_291 hG49) ⟨by decide, rfl⟩ (t_X12_isAsked hG49 hr54) (Nat.le_of_ble_eq_true rfl) ⟨Nat.le_of_ble_eq_true rfl, Nat.le_of_ble_eq_true rfl⟩ rfl (Nat.le_of_ble_eq_true rfl) ?_
        have hG53 := gp_X12_isAsked hG49 hr54
        refine vv_pop 30 dX12_laysLifted_30 ?_
        refine vv_aload_n 31 0 dX12_laysLifted_31 rfl rfl ?_
        refine vv_getR 32 dX12_laysLifted_32 fl_12_136 rfl (g_l_291 hG53) (g_r_291_61 hG53) ?_
        refine vv_iconst 35 dX12_laysLifted_35 ik_5 ?_
        refine vv_iload_n 36 1 dX12_laysLifted_36 rfl rfl ?_
        refine vv_imul 37 dX12_laysLifted_37 ?_
        refine vv_iload_n 38 2 dX12_laysLifted_38 rfl rfl ?_
        refine vv_iadd 39 dX12_laysLifted_39 ?_
        refine vv_aload_n 40 0 dX12_laysLifted_40 rfl rfl ?_
        refine vv_getI 41 dX12_laysLifted_41 fl_12_470 rfl (g_l_291 hG53) ?_
        obtain ⟨k56, h⟩ := sh_chk h
        refine vn_iast 44 dX12_laysLifted_44 (g_l_332 hG53) k56 (fun μ57 eμ57 => ?_)
        rw [sh_let_eq eμ57] at h
        have hG57 : sh_G μ57 := by rw [eμ57]; exact hG53
        refine vv_aload_n 45 0 dX12_laysLifted_45 rfl rfl ?_
        obtain ⟨μ58, hr59, h⟩ := sh_bindv_e h
        refine v1_callV [] 46 dX12_laysLifted_46 ck_X12_504 (g_l_291 hG57) ⟨by decide, rfl⟩ (t_X12_triesAnew hG57 hr59) (Nat.le_of_ble_eq_true rfl) ⟨Nat.le_of_ble_eq_true rfl, Nat.le_of_ble_eq_true rfl⟩ rfl (Nat.le_of_ble_eq_true rfl) ?_
        have hG58 := gp_X12_triesAnew hG57 hr59
        refine vv_iincc (lv' := [(2, _), (0, _), (1, _)]) 49 2 dX12_laysLifted_49 rfl ik_1 (by decide) rfl ?_
        refine vv_goto 52 16 dX12_laysLifted_52 (by decide) ?_
        refine vv_sub [(0, _), (1, _), (2, _)] (sh_subm [1, 2, 0] rfl) ?_
        exact ih_16 hG58 h
theorem gp_X12_laysLifted {μ μ' : sh_Mem} (hG : sh_G μ) (h : f_X12_laysLifted μ = some μ') : sh_G μ' := by
  have ih_6 := (gpl_X12_laysLifted sh_fuel).1
  have ih_16 := (gpl_X12_laysLifted sh_fuel).2
  unfold f_X12_laysLifted at h
  obtain ⟨μ61, hr62, h⟩ := sh_bindv_e h
  have hG61 := gp_X12_putsAside hG hr62
  exact ih_6 hG61 h
theorem t_X12_laysLifted {μ μ' : sh_Mem} (hG : sh_G μ) (h : f_X12_laysLifted μ = some μ') : sh_C0 l B D ca 7 M_X12_laysLifted [.ref 291] μ (fun v0 μ0 => v0 = none ∧ μ0 = μ') := by
  have ih_6 := (tl_X12_laysLifted (l := l) (B := B) (D := D) (ca := ca) sh_fuel).1
  have ih_16 := (tl_X12_laysLifted (l := l) (B := B) (D := D) (ca := ca) sh_fuel).2
  unfold f_X12_laysLifted at h
  refine vv_aload_n 0 0 dX12_laysLifted_0 rfl rfl ?_
  obtain ⟨μ61, hr62, h⟩ := sh_bindv_e h
  refine v1_callV [] 1 dX12_laysLifted_1 ck_X12_507 (g_l_291 hG) ⟨by decide, rfl⟩ (t_X12_putsAside hG hr62) (Nat.le_of_ble_eq_true rfl) ⟨Nat.le_of_ble_eq_true rfl, Nat.le_of_ble_eq_true rfl⟩ rfl (Nat.le_of_ble_eq_true rfl) ?_
  have hG61 := gp_X12_putsAside hG hr62
  refine vv_iconst 4 dX12_laysLifted_4 ik_0 ?_
  refine vv_istore_n (lv' := [(1, _), (0, _)]) 5 1 dX12_laysLifted_5 rfl (by decide) rfl ?_
  refine vv_sub [(0, _), (1, _)] (sh_subm [1, 0] rfl) ?_
  exact ih_6 hG61 h
noncomputable def f_X12_would (a1 : Int32) (a2 : Int32) (μ : sh_Mem) : Option (Int32 × sh_Mem) := sh_bind (f_X12_isPerson a1 μ) (fun y3 μ1 => (if y3 = 0 then some ((-1), μ1) else sh_bind (f_X12_isTopic (a2).toInt64 μ1) (fun y7 μ5 => (if y7 = 0 then some ((-1), μ5) else sh_bind (f_X12_wouldDo a1 a2 μ5) (fun y11 μ9 => some (y11, μ9))))))
theorem gp_X12_would {a1 : Int32} {a2 : Int32} {μ μ' : sh_Mem} {v : Int32} (hG : sh_G μ) (h : f_X12_would a1 a2 μ = some (v, μ')) : sh_G μ' := by
  unfold f_X12_would at h
  obtain ⟨y3, μ1, hr2, h⟩ := sh_bind_e h
  have hG1 := gp_X12_isPerson hG hr2
  by_cases c4 : y3 = 0
  · rw [if_pos c4] at h
    obtain ⟨e1, e2⟩ := sh_some2 h
    exact e2 ▸ hG1
  · rw [if_neg c4] at h
    obtain ⟨y7, μ5, hr6, h⟩ := sh_bind_e h
    have hG5 := gp_X12_isTopic hG1 hr6
    by_cases c8 : y7 = 0
    · rw [if_pos c8] at h
      obtain ⟨e1, e2⟩ := sh_some2 h
      exact e2 ▸ hG5
    · rw [if_neg c8] at h
      obtain ⟨y11, μ9, hr10, h⟩ := sh_bind_e h
      have hG9 := gp_X12_wouldDo hG5 hr10
      obtain ⟨e1, e2⟩ := sh_some2 h
      exact e2 ▸ hG9
theorem t_X12_would {a1 : Int32} {a2 : Int32} {μ μ' : sh_Mem} {v : Int32} (hG : sh_G μ) (h : f_X12_would a1 a2 μ = some (v, μ')) : sh_C0 l B D ca 5 M_X12_would [.ref 291, .int a1, .int a2] μ (fun v0 μ0 => v0 = some (.int v) ∧ μ0 = μ') := by
  unfold f_X12_would at h
  refine vv_aload_n 0 0 dX12_would_0 rfl rfl ?_
  refine vv_iload_n 1 1 dX12_would_1 rfl rfl ?_
  obtain ⟨y3, μ1, hr2, h⟩ := sh_bind_e h
  refine v1_callV [_] 2 dX12_would_2 ck_X12_518 (g_l_291 hG) ⟨by decide, rfl⟩ (t_X12_isPerson hG hr2) (Nat.le_of_ble_eq_true rfl) ⟨Nat.le_of_ble_eq_true rfl, Nat.le_of_ble_eq_true rfl⟩ rfl (Nat.le_of_ble_eq_true rfl) ?_
  have hG1 := gp_X12_isPerson hG hr2
  refine vv_if_eq 5 26 dX12_would_5 (by decide) (fun c4 => ?_) (fun c4 => ?_)
  · rw [if_pos c4] at h
    refine vv_iconst 26 dX12_would_26 ik_m1 ?_
    obtain ⟨e1, e2⟩ := sh_some2 h
    refine vv_iret 27 dX12_would_27 rfl (Nat.le_refl _) (Nat.le_refl _) ⟨by rw [e1], e2⟩
  · rw [if_neg c4] at h
    refine vv_aload_n 8 0 dX12_would_8 rfl rfl ?_
    refine vv_iload_n 9 2 dX12_would_9 rfl rfl ?_
    refine vv_i2l 10 dX12_would_10 ?_
    obtain ⟨y7, μ5, hr6, h⟩ := sh_bind_e h
    refine v1_callV [_] 11 dX12_would_11 ck_X12_521 (g_l_291 hG1) ⟨by decide, rfl⟩ (t_X12_isTopic hG1 hr6) (Nat.le_of_ble_eq_true rfl) ⟨Nat.le_of_ble_eq_true rfl, Nat.le_of_ble_eq_true rfl⟩ rfl (Nat.le_of_ble_eq_true rfl) ?_
    have hG5 := gp_X12_isTopic hG1 hr6
    refine vv_if_eq 14 26 dX12_would_14 (by decide) (fun c8 => ?_) (fun c8 => ?_)
    · rw [if_pos c8] at h
      refine vv_iconst 26 dX12_would_26 ik_m1 ?_
      obtain ⟨e1, e2⟩ := sh_some2 h
      refine vv_iret 27 dX12_would_27 rfl (Nat.le_refl _) (Nat.le_refl _) ⟨by rw [e1], e2⟩
    · rw [if_neg c8] at h
      refine vv_aload_n 17 0 dX12_would_17 rfl rfl ?_
      refine vv_iload_n 18 1 dX12_would_18 rfl rfl ?_
      refine vv_iload_n 19 2 dX12_would_19 rfl rfl ?_
      obtain ⟨y11, μ9, hr10, h⟩ := sh_bind_e h
      refine v1_callV [_, _] 20 dX12_would_20 ck_X12_479 (g_l_291 hG5) ⟨by decide, rfl⟩ (t_X12_wouldDo hG5 hr10) (Nat.le_of_ble_eq_true rfl) ⟨Nat.le_of_ble_eq_true rfl, Nat.le_of_ble_eq_true rfl⟩ rfl (Nat.le_of_ble_eq_true rfl) ?_
      have hG9 := gp_X12_wouldDo hG5 hr10
      refine vv_goto 23 27 dX12_would_23 (by decide) ?_
      obtain ⟨e1, e2⟩ := sh_some2 h
      refine vv_iret 27 dX12_would_27 rfl (Nat.le_refl _) (Nat.le_refl _) ⟨by rw [e1], e2⟩
noncomputable def f_X12_later (a1 : Int32) (a2 : Int32) (a3 : Int32) (μ : sh_Mem) : Option (Int32 × sh_Mem) := sh_bind (f_X12_cellAt a1 a2 μ) (fun y3 μ1 => (if y3 = (-1) then some ((-1), μ1) else sh_bind (f_X12_isAhead a3 0 60 μ1) (fun y7 μ5 => (if y7 = 0 then some ((-1), μ5) else sh_bindv (f_X12_putsAside μ5) (fun μ9 => sh_bindv (f_X12_daysGo a3 μ9) (fun μ12 => sh_bind (f_X12_heightOf y3 μ12) (fun y17 μ15 => sh_bindv (f_X12_takesBack μ15) (fun μ18 => some (y17, μ18)))))))))
theorem gp_X12_later {a1 : Int32} {a2 : Int32} {a3 : Int32} {μ μ' : sh_Mem} {v : Int32} (hG : sh_G μ) (h : f_X12_later a1 a2 a3 μ = some (v, μ')) : sh_G μ' := by
  unfold f_X12_later at h
  obtain ⟨y3, μ1, hr2, h⟩ := sh_bind_e h
  have hG1 := gp_X12_cellAt hG hr2
  by_cases c4 : y3 = (-1)
  · rw [if_pos c4] at h
    obtain ⟨e1, e2⟩ := sh_some2 h
    exact e2 ▸ hG1
  · rw [if_neg c4] at h
    obtain ⟨y7, μ5, hr6, h⟩ := sh_bind_e h
    have hG5 := gp_X12_isAhead hG1 hr6
    by_cases c8 : y7 = 0
    · rw [if_pos c8] at h
      obtain ⟨e1, e2⟩ := sh_some2 h
      exact e2 ▸ hG5
    · rw [if_neg c8] at h
      obtain ⟨μ9, hr10, h⟩ := sh_bindv_e h
      have hG9 := gp_X12_putsAside hG5 hr10
      obtain ⟨μ12, hr13, h⟩ := sh_bindv_e h
      have hG12 := gp_X12_daysGo hG9 hr13
      obtain ⟨y17, μ15, hr16, h⟩ := sh_bind_e h
      have hG15 := gp_X12_heightOf hG12 hr16
      obtain ⟨μ18, hr19, h⟩ := sh_bindv_e h
      have hG18 := gp_X12_takesBack hG15 hr19
      obtain ⟨e1, e2⟩ := sh_some2 h
      exact e2 ▸ hG18
theorem t_X12_later {a1 : Int32} {a2 : Int32} {a3 : Int32} {μ μ' : sh_Mem} {v : Int32} (hG : sh_G μ) (h : f_X12_later a1 a2 a3 μ = some (v, μ')) : sh_C0 l B D ca 9 M_X12_later [.ref 291, .int a1, .int a2, .int a3] μ (fun v0 μ0 => v0 = some (.int v) ∧ μ0 = μ') := by
  unfold f_X12_later at h
  refine vv_aload_n 0 0 dX12_later_0 rfl rfl ?_
  refine vv_iload_n 1 1 dX12_later_1 rfl rfl ?_
  refine vv_iload_n 2 2 dX12_later_2 rfl rfl ?_
  obtain ⟨y3, μ1, hr2, h⟩ := sh_bind_e h
  refine v1_callV [_, _] 3 dX12_later_3 ck_X12_414 (g_l_291 hG) ⟨by decide, rfl⟩ (t_X12_cellAt hG hr2) (Nat.le_of_ble_eq_true rfl) ⟨Nat.le_of_ble_eq_true rfl, Nat.le_of_ble_eq_true rfl⟩ rfl (Nat.le_of_ble_eq_true rfl) ?_
  have hG1 := gp_X12_cellAt hG hr2
  refine vv_istore (lv' := [(4, _), (0, _), (1, _), (2, _), (3, _)]) 6 4 dX12_later_6 (by decide) rfl ?_
  refine vv_iload 8 4 dX12_later_8 rfl ?_
  refine vv_iconst 10 dX12_later_10 ik_m1 ?_
  refine vv_icmp_eq 11 25 dX12_later_11 (by decide) (fun c4 => ?_) (fun c4 => ?_)
  · rw [if_pos c4] at h
    refine vv_iconst 25 dX12_later_25 ik_m1 ?_
    obtain ⟨e1, e2⟩ := sh_some2 h
    refine vv_iret 26 dX12_later_26 rfl (Nat.le_refl _) (Nat.le_refl _) ⟨by rw [e1], e2⟩
  · rw [if_neg c4] at h
    refine vv_aload_n 14 0 dX12_later_14 rfl rfl ?_
    refine vv_iload_n 15 3 dX12_later_15 rfl rfl ?_
    refine vv_iconst 16 dX12_later_16 ik_0 ?_
    refine vv_bipush 17 dX12_later_17 bk_60 ?_
    obtain ⟨y7, μ5, hr6, h⟩ := sh_bind_e h
    refine v1_callV [_, _, _] 19 dX12_later_19 ck_X12_527 (g_l_291 hG1) ⟨by decide, rfl⟩ (t_X12_isAhead hG1 hr6) (Nat.le_of_ble_eq_true rfl) ⟨Nat.le_of_ble_eq_true rfl, Nat.le_of_ble_eq_true rfl⟩ rfl (Nat.le_of_ble_eq_true rfl) ?_
    have hG5 := gp_X12_isAhead hG1 hr6
    refine vv_if_ne 22 27 dX12_later_22 (by decide) (fun c8 => ?_) (fun c8 => ?_)
    · rw [if_neg c8] at h
      refine vv_aload_n 27 0 dX12_later_27 rfl rfl ?_
      obtain ⟨μ9, hr10, h⟩ := sh_bindv_e h
      refine v1_callV [] 28 dX12_later_28 ck_X12_507 (g_l_291 hG5) ⟨by decide, rfl⟩ (t_X12_putsAside hG5 hr10) (Nat.le_of_ble_eq_true rfl) ⟨Nat.le_of_ble_eq_true rfl, Nat.le_of_ble_eq_true rfl⟩ rfl (Nat.le_of_ble_eq_true rfl) ?_
      have hG9 := gp_X12_putsAside hG5 hr10
      refine vv_aload_n 31 0 dX12_later_31 rfl rfl ?_
      refine vv_iload_n 32 3 dX12_later_32 rfl rfl ?_
      obtain ⟨μ12, hr13, h⟩ := sh_bindv_e h
      refine v1_callV [_] 33 dX12_later_33 ck_X12_530 (g_l_291 hG9) ⟨by decide, rfl⟩ (t_X12_daysGo hG9 hr13) (Nat.le_of_ble_eq_true rfl) ⟨Nat.le_of_ble_eq_true rfl, Nat.le_of_ble_eq_true rfl⟩ rfl (Nat.le_of_ble_eq_true rfl) ?_
      have hG12 := gp_X12_daysGo hG9 hr13
      refine vv_aload_n 36 0 dX12_later_36 rfl rfl ?_
      refine vv_iload 37 4 dX12_later_37 rfl ?_
      obtain ⟨y17, μ15, hr16, h⟩ := sh_bind_e h
      refine v1_callV [_] 39 dX12_later_39 ck_X12_453 (g_l_291 hG12) ⟨by decide, rfl⟩ (t_X12_heightOf hG12 hr16) (Nat.le_of_ble_eq_true rfl) ⟨Nat.le_of_ble_eq_true rfl, Nat.le_of_ble_eq_true rfl⟩ rfl (Nat.le_of_ble_eq_true rfl) ?_
      have hG15 := gp_X12_heightOf hG12 hr16
      refine vv_istore (lv' := [(5, _), (4, _), (0, _), (1, _), (2, _), (3, _)]) 42 5 dX12_later_42 (by decide) rfl ?_
      refine vv_aload_n 44 0 dX12_later_44 rfl rfl ?_
      obtain ⟨μ18, hr19, h⟩ := sh_bindv_e h
      refine v1_callV [] 45 dX12_later_45 ck_X12_510 (g_l_291 hG15) ⟨by decide, rfl⟩ (t_X12_takesBack hG15 hr19) (Nat.le_of_ble_eq_true rfl) ⟨Nat.le_of_ble_eq_true rfl, Nat.le_of_ble_eq_true rfl⟩ rfl (Nat.le_of_ble_eq_true rfl) ?_
      have hG18 := gp_X12_takesBack hG15 hr19
      refine vv_iload 48 5 dX12_later_48 rfl ?_
      obtain ⟨e1, e2⟩ := sh_some2 h
      refine vv_iret 50 dX12_later_50 rfl (Nat.le_refl _) (Nat.le_refl _) ⟨by rw [e1], e2⟩
    · rw [if_pos c8] at h
      refine vv_iconst 25 dX12_later_25 ik_m1 ?_
      obtain ⟨e1, e2⟩ := sh_some2 h
      refine vv_iret 26 dX12_later_26 rfl (Nat.le_refl _) (Nat.le_refl _) ⟨by rw [e1], e2⟩
noncomputable def f_X12_tired (a1 : Int32) (a2 : Int32) (μ : sh_Mem) : Option (Int32 × sh_Mem) := sh_bind (f_X12_isPerson a1 μ) (fun y3 μ1 => (if y3 = 0 then some ((-1), μ1) else sh_bind (f_X12_isAhead a2 0 60 μ1) (fun y7 μ5 => (if y7 = 0 then some ((-1), μ5) else sh_bindv (f_X12_putsAside μ5) (fun μ9 => sh_bindv (f_X12_daysGo a2 μ9) (fun μ12 => sh_bind (f_X12_tiredOf a1 μ12) (fun y17 μ15 => sh_bindv (f_X12_takesBack μ15) (fun μ18 => some (y17, μ18)))))))))
theorem gp_X12_tired {a1 : Int32} {a2 : Int32} {μ μ' : sh_Mem} {v : Int32} (hG : sh_G μ) (h : f_X12_tired a1 a2 μ = some (v, μ')) : sh_G μ' := by
  unfold f_X12_tired at h
  obtain ⟨y3, μ1, hr2, h⟩ := sh_bind_e h
  have hG1 := gp_X12_isPerson hG hr2
  by_cases c4 : y3 = 0
  · rw [if_pos c4] at h
    obtain ⟨e1, e2⟩ := sh_some2 h
    exact e2 ▸ hG1
  · rw [if_neg c4] at h
    obtain ⟨y7, μ5, hr6, h⟩ := sh_bind_e h
    have hG5 := gp_X12_isAhead hG1 hr6
    by_cases c8 : y7 = 0
    · rw [if_pos c8] at h
      obtain ⟨e1, e2⟩ := sh_some2 h
      exact e2 ▸ hG5
    · rw [if_neg c8] at h
      obtain ⟨μ9, hr10, h⟩ := sh_bindv_e h
      have hG9 := gp_X12_putsAside hG5 hr10
      obtain ⟨μ12, hr13, h⟩ := sh_bindv_e h
      have hG12 := gp_X12_daysGo hG9 hr13
      obtain ⟨y17, μ15, hr16, h⟩ := sh_bind_e h
      have hG15 := gp_X12_tiredOf hG12 hr16
      obtain ⟨μ18, hr19, h⟩ := sh_bindv_e h
      have hG18 := gp_X12_takesBack hG15 hr19
      obtain ⟨e1, e2⟩ := sh_some2 h
      exact e2 ▸ hG18
theorem t_X12_tired {a1 : Int32} {a2 : Int32} {μ μ' : sh_Mem} {v : Int32} (hG : sh_G μ) (h : f_X12_tired a1 a2 μ = some (v, μ')) : sh_C0 l B D ca 9 M_X12_tired [.ref 291, .int a1, .int a2] μ (fun v0 μ0 => v0 = some (.int v) ∧ μ0 = μ') := by
  unfold f_X12_tired at h
  refine vv_aload_n 0 0 dX12_tired_0 rfl rfl ?_
  refine vv_iload_n 1 1 dX12_tired_1 rfl rfl ?_
  obtain ⟨y3, μ1, hr2, h⟩ := sh_bind_e h
  refine v1_callV [_] 2 dX12_tired_2 ck_X12_518 (g_l_291 hG) ⟨by decide, rfl⟩ (t_X12_isPerson hG hr2) (Nat.le_of_ble_eq_true rfl) ⟨Nat.le_of_ble_eq_true rfl, Nat.le_of_ble_eq_true rfl⟩ rfl (Nat.le_of_ble_eq_true rfl) ?_
  have hG1 := gp_X12_isPerson hG hr2
  refine vv_if_eq 5 19 dX12_tired_5 (by decide) (fun c4 => ?_) (fun c4 => ?_)
  · rw [if_pos c4] at h
    refine vv_iconst 19 dX12_tired_19 ik_m1 ?_
    obtain ⟨e1, e2⟩ := sh_some2 h
    refine vv_iret 20 dX12_tired_20 rfl (Nat.le_refl _) (Nat.le_refl _) ⟨by rw [e1], e2⟩
  · rw [if_neg c4] at h
    refine vv_aload_n 8 0 dX12_tired_8 rfl rfl ?_
    refine vv_iload_n 9 2 dX12_tired_9 rfl rfl ?_
    refine vv_iconst 10 dX12_tired_10 ik_0 ?_
    refine vv_bipush 11 dX12_tired_11 bk_60 ?_
    obtain ⟨y7, μ5, hr6, h⟩ := sh_bind_e h
    refine v1_callV [_, _, _] 13 dX12_tired_13 ck_X12_527 (g_l_291 hG1) ⟨by decide, rfl⟩ (t_X12_isAhead hG1 hr6) (Nat.le_of_ble_eq_true rfl) ⟨Nat.le_of_ble_eq_true rfl, Nat.le_of_ble_eq_true rfl⟩ rfl (Nat.le_of_ble_eq_true rfl) ?_
    have hG5 := gp_X12_isAhead hG1 hr6
    refine vv_if_ne 16 21 dX12_tired_16 (by decide) (fun c8 => ?_) (fun c8 => ?_)
    · rw [if_neg c8] at h
      refine vv_aload_n 21 0 dX12_tired_21 rfl rfl ?_
      obtain ⟨μ9, hr10, h⟩ := sh_bindv_e h
      refine v1_callV [] 22 dX12_tired_22 ck_X12_507 (g_l_291 hG5) ⟨by decide, rfl⟩ (t_X12_putsAside hG5 hr10) (Nat.le_of_ble_eq_true rfl) ⟨Nat.le_of_ble_eq_true rfl, Nat.le_of_ble_eq_true rfl⟩ rfl (Nat.le_of_ble_eq_true rfl) ?_
      have hG9 := gp_X12_putsAside hG5 hr10
      refine vv_aload_n 25 0 dX12_tired_25 rfl rfl ?_
      refine vv_iload_n 26 2 dX12_tired_26 rfl rfl ?_
      obtain ⟨μ12, hr13, h⟩ := sh_bindv_e h
      refine v1_callV [_] 27 dX12_tired_27 ck_X12_530 (g_l_291 hG9) ⟨by decide, rfl⟩ (t_X12_daysGo hG9 hr13) (Nat.le_of_ble_eq_true rfl) ⟨Nat.le_of_ble_eq_true rfl, Nat.le_of_ble_eq_true rfl⟩ rfl (Nat.le_of_ble_eq_true rfl) ?_
      have hG12 := gp_X12_daysGo hG9 hr13
      refine vv_aload_n 30 0 dX12_tired_30 rfl rfl ?_
      refine vv_iload_n 31 1 dX12_tired_31 rfl rfl ?_
      obtain ⟨y17, μ15, hr16, h⟩ := sh_bind_e h
      refine v1_callV [_] 32 dX12_tired_32 ck_X12_486 (g_l_291 hG12) ⟨by decide, rfl⟩ (t_X12_tiredOf hG12 hr16) (Nat.le_of_ble_eq_true rfl) ⟨Nat.le_of_ble_eq_true rfl, Nat.le_of_ble_eq_true rfl⟩ rfl (Nat.le_of_ble_eq_true rfl) ?_
      have hG15 := gp_X12_tiredOf hG12 hr16
      refine vv_istore_n (lv' := [(3, _), (0, _), (1, _), (2, _)]) 35 3 dX12_tired_35 rfl (by decide) rfl ?_
      refine vv_aload_n 36 0 dX12_tired_36 rfl rfl ?_
      obtain ⟨μ18, hr19, h⟩ := sh_bindv_e h
      refine v1_callV [] 37 dX12_tired_37 ck_X12_510 (g_l_291 hG15) ⟨by decide, rfl⟩ (t_X12_takesBack hG15 hr19) (Nat.le_of_ble_eq_true rfl) ⟨Nat.le_of_ble_eq_true rfl, Nat.le_of_ble_eq_true rfl⟩ rfl (Nat.le_of_ble_eq_true rfl) ?_
      have hG18 := gp_X12_takesBack hG15 hr19
      refine vv_iload_n 40 3 dX12_tired_40 rfl rfl ?_
      obtain ⟨e1, e2⟩ := sh_some2 h
      refine vv_iret 41 dX12_tired_41 rfl (Nat.le_refl _) (Nat.le_refl _) ⟨by rw [e1], e2⟩
    · rw [if_pos c8] at h
      refine vv_iconst 19 dX12_tired_19 ik_m1 ?_
      obtain ⟨e1, e2⟩ := sh_some2 h
      refine vv_iret 20 dX12_tired_20 rfl (Nat.le_refl _) (Nat.le_refl _) ⟨by rw [e1], e2⟩
noncomputable def F_X12_rises : Nat → Nat → Int32 → Int32 → Int32 → Int32 → Int32 → sh_Mem → Option (Int32 × sh_Mem)
  | 0, _, _, _, _, _, _, _ => none
  | fuel + 1, lbl, i1, i2, i3, i4, i5, μ => match lbl with
    | 1 => sh_bind (f_X12_heightOf i4 μ) (fun y49 μ47 => (if i3 ≤ y49 then sh_bind (f_X12_heightOf i4 μ47) (fun y53 μ51 => (if y53 < i3 then sh_bindv (f_X12_takesBack μ51) (fun μ55 => some ((-1), μ55)) else sh_bindv (f_X12_takesBack μ51) (fun μ58 => some (i5, μ58)))) else (if 60 ≤ i5 then sh_bind (f_X12_heightOf i4 μ47) (fun y64 μ62 => (if y64 < i3 then sh_bindv (f_X12_takesBack μ62) (fun μ66 => some ((-1), μ66)) else sh_bindv (f_X12_takesBack μ62) (fun μ69 => some (i5, μ69)))) else (if 999 ≤ (sh_i μ47 330 (Int32.toNatClampNeg 0)) then sh_bind (f_X12_heightOf i4 μ47) (fun y75 μ73 => (if y75 < i3 then sh_bindv (f_X12_takesBack μ73) (fun μ77 => some ((-1), μ77)) else sh_bindv (f_X12_takesBack μ73) (fun μ80 => some (i5, μ80)))) else sh_bindv (f_X12_dayGoes μ47) (fun μ83 => F_X12_rises fuel 1 i1 i2 i3 i4 (i5 + 1) μ83)))))
    | _ => none
noncomputable def f_X12_rises (a1 : Int32) (a2 : Int32) (a3 : Int32) (μ : sh_Mem) : Option (Int32 × sh_Mem) := sh_bind (f_X12_cellAt a1 a2 μ) (fun y88 μ86 => (if y88 = (-1) then some ((-1), μ86) else sh_bindv (f_X12_putsAside μ86) (fun μ90 => F_X12_rises sh_fuel 1 a1 a2 a3 y88 0 μ90)))
theorem gpl_X12_rises (fuel : Nat) : (∀ ⦃i1 : Int32⦄ ⦃i2 : Int32⦄ ⦃i3 : Int32⦄ ⦃i4 : Int32⦄ ⦃i5 : Int32⦄ ⦃μ μ' : sh_Mem⦄ ⦃v : Int32⦄, sh_G μ → F_X12_rises fuel 1 i1 i2 i3 i4 i5 μ = some (v, μ') → sh_G μ') := by
  induction fuel with
  | zero => intro i1 i2 i3 i4 i5 μ μ' v hG h; cases h
  | succ fuel ih =>
    have ih_23 := ih
    intro i1 i2 i3 i4 i5 μ μ' v hG h
    replace h : (sh_bind (f_X12_heightOf i4 μ) (fun y49 μ47 => (if i3 ≤ y49 then sh_bind (f_X12_heightOf i4 μ47) (fun y53 μ51 => (if y53 < i3 then sh_bindv (f_X12_takesBack μ51) (fun μ55 => some ((-1), μ55)) else sh_bindv (f_X12_takesBack μ51) (fun μ58 => some (i5, μ58)))) else (if 60 ≤ i5 then sh_bind (f_X12_heightOf i4 μ47) (fun y64 μ62 => (if y64 < i3 then sh_bindv (f_X12_takesBack μ62) (fun μ66 => some ((-1), μ66)) else sh_bindv (f_X12_takesBack μ62) (fun μ69 => some (i5, μ69)))) else (if 999 ≤ (sh_i μ47 330 (Int32.toNatClampNeg 0)) then sh_bind (f_X12_heightOf i4 μ47) (fun y75 μ73 => (if y75 < i3 then sh_bindv (f_X12_takesBack μ73) (fun μ77 => some ((-1), μ77)) else sh_bindv (f_X12_takesBack μ73) (fun μ80 => some (i5, μ80)))) else sh_bindv (f_X12_dayGoes μ47) (fun μ83 => F_X12_rises fuel 1 i1 i2 i3 i4 (i5 + 1) μ83))))) : Option (Int32 × sh_Mem)) = some (v, μ') := h
    obtain ⟨y49, μ47, hr48, h⟩ := sh_bind_e h
    have hG47 := gp_X12_heightOf hG hr48
    by_cases c50 : i3 ≤ y49
    · rw [if_pos c50] at h
      obtain ⟨y53, μ51, hr52, h⟩ := sh_bind_e h
      have hG51 := gp_X12_heightOf hG47 hr52
      by_cases c54 : y53 < i3
      · rw [if_pos c54] at h
        obtain ⟨μ55, hr56, h⟩ := sh_bindv_e h
        have hG55 := gp_X12_takesBack hG51 hr56
        obtain ⟨e1, e2⟩ := sh_some2 h
        exact e2 ▸ hG55
      · rw [if_neg c54] at h
        obtain ⟨μ58, hr59, h⟩ := sh_bindv_e h
        have hG58 := gp_X12_takesBack hG51 hr59
        obtain ⟨e1, e2⟩ := sh_some2 h
        exact e2 ▸ hG58
    · rw [if_neg c50] at h
      by_cases c61 : 60 ≤ i5
      · rw [if_pos c61] at h
        obtain ⟨y64, μ62, hr63, h⟩ := sh_bind_e h
        have hG62 := gp_X12_heightOf hG47 hr63
        by_cases c65 : y64 < i3
        · rw [if_pos c65] at h
          obtain ⟨μ66, hr67, h⟩ := sh_bindv_e h
          have hG66 := gp_X12_takesBack hG62 hr67
          obtain ⟨e1, e2⟩ := sh_some2 h
          exact e2 ▸ hG66
        · rw [if_neg c65] at h
          obtain ⟨μ69, hr70, h⟩ := sh_bindv_e h
          have hG69 := gp_X12_takesBack hG62 hr70
          obtain ⟨e1, e2⟩ := sh_some2 h
          exact e2 ▸ hG69
      · rw [if_neg c61] at h
        by_cases c72 : 999 ≤ (sh_i μ47 330 (Int32.toNatClampNeg 0))
        · rw [if_pos c72] at h
          obtain ⟨y75, μ73, hr74, h⟩ := sh_bind_e h
          have hG73 := gp_X12_heightOf hG47 hr74
          by_cases c76 : y75 < i3
          · rw [if_pos c76] at h
            obtain ⟨μ77, hr78, h⟩ := sh_bindv_e h
            have hG77 := gp_X12_takesBack hG73 hr78
            obtain ⟨e1, e2⟩ := sh_some2 h
            exact e2 ▸ hG77
          · rw [if_neg c76] at h
            obtain ⟨μ80, hr81, h⟩ := sh_bindv_e h
            have hG80 := gp_X12_takesBack hG73 hr81
            obtain ⟨e1, e2⟩ := sh_some2 h
            exact e2 ▸ hG80
        · rw [if_neg c72] at h
          obtain ⟨μ83, hr84, h⟩ := sh_bindv_e h
          have hG83 := gp_X12_dayGoes hG47 hr84
          exact ih_23 hG83 h
theorem tl_X12_rises (fuel : Nat) : (∀ ⦃i1 : Int32⦄ ⦃i2 : Int32⦄ ⦃i3 : Int32⦄ ⦃i4 : Int32⦄ ⦃i5 : Int32⦄ ⦃μ μ' : sh_Mem⦄ ⦃v : Int32⦄, sh_G μ → F_X12_rises fuel 1 i1 i2 i3 i4 i5 μ = some (v, μ') → sh_V0 l B D ca 8 M_X12_rises 23 [(0, .ref 291), (1, .int i1), (2, .int i2), (3, .int i3), (4, .int i4), (5, .int i5)] [] μ (fun v0 μ0 => v0 = some (.int v) ∧ μ0 = μ')) := by
  induction fuel with
  | zero => intro i1 i2 i3 i4 i5 μ μ' v hG h; cases h
  | succ fuel ih =>
    have ih_23 := ih
    intro i1 i2 i3 i4 i5 μ μ' v hG h
    replace h : (sh_bind (f_X12_heightOf i4 μ) (fun y49 μ47 => (if i3 ≤ y49 then sh_bind (f_X12_heightOf i4 μ47) (fun y53 μ51 => (if y53 < i3 then sh_bindv (f_X12_takesBack μ51) (fun μ55 => some ((-1), μ55)) else sh_bindv (f_X12_takesBack μ51) (fun μ58 => some (i5, μ58)))) else (if 60 ≤ i5 then sh_bind (f_X12_heightOf i4 μ47) (fun y64 μ62 => (if y64 < i3 then sh_bindv (f_X12_takesBack μ62) (fun μ66 => some ((-1), μ66)) else sh_bindv (f_X12_takesBack μ62) (fun μ69 => some (i5, μ69)))) else (if 999 ≤ (sh_i μ47 330 (Int32.toNatClampNeg 0)) then sh_bind (f_X12_heightOf i4 μ47) (fun y75 μ73 => (if y75 < i3 then sh_bindv (f_X12_takesBack μ73) (fun μ77 => some ((-1), μ77)) else sh_bindv (f_X12_takesBack μ73) (fun μ80 => some (i5, μ80)))) else sh_bindv (f_X12_dayGoes μ47) (fun μ83 => F_X12_rises fuel 1 i1 i2 i3 i4 (i5 + 1) μ83))))) : Option (Int32 × sh_Mem)) = some (v, μ') := h
    refine vv_aload_n 23 0 dX12_rises_23 rfl rfl ?_
    refine vv_iload 24 4 dX12_rises_24 rfl ?_
    obtain ⟨y49, μ47, hr48, h⟩ := sh_bind_e h
    refine v1_callV [_] 26 dX12_rises_26 ck_X12_453 (g_l_291 hG) ⟨by decide, rfl⟩ (t_X12_heightOf hG hr48) (Nat.le_of_ble_eq_true rfl) ⟨Nat.le_of_ble_eq_true rfl, Nat.le_of_ble_eq_true rfl⟩ rfl (Nat.le_of_ble_eq_true rfl) ?_
    have hG47 := gp_X12_heightOf hG hr48
    refine vv_iload_n 29 3 dX12_rises_29 rfl rfl ?_
    refine vv_icmp_ge 30 62 dX12_rises_30 (by decide) (fun c50 => ?_) (fun c50 => ?_)
    · rw [if_pos c50] at h
      refine vv_aload_n 62 0 dX12_rises_62 rfl rfl ?_
      refine vv_iload 63 4 dX12_rises_63 rfl ?_
      obtain ⟨y53, μ51, hr52, h⟩ := sh_bind_e h
      refine v1_callV [_] 65 dX12_rises_65 ck_X12_453 (g_l_291 hG47) ⟨by decide, rfl⟩ (t_X12_heightOf hG47 hr52) (Nat.le_of_ble_eq_true rfl) ⟨Nat.le_of_ble_eq_true rfl, Nat.le_of_ble_eq_true rfl⟩ rfl (Nat.le_of_ble_eq_true rfl) ?_
      have hG51 := gp_X12_heightOf hG47 hr52
      refine vv_iload_n 68 3 dX12_rises_68 rfl rfl ?_
      refine vv_icmp_lt 69 76 dX12_rises_69 (by decide) (fun c54 => ?_) (fun c54 => ?_)
      · rw [if_pos c54] at h
        refine vv_iconst 76 dX12_rises_76 ik_0 ?_
        refine vv_istore (lv' := [(6, _), (0, _), (1, _), (2, _), (3, _), (4, _), (5, _)]) 77 6 dX12_rises_77 (by decide) rfl ?_
        refine vv_aload_n 79 0 dX12_rises_79 rfl rfl ?_
        obtain ⟨μ55, hr56, h⟩ := sh_bindv_e h
        refine v1_callV [] 80 dX12_rises_80 ck_X12_510 (g_l_291 hG51) ⟨by decide, rfl⟩ (t_X12_takesBack hG51 hr56) (Nat.le_of_ble_eq_true rfl) ⟨Nat.le_of_ble_eq_true rfl, Nat.le_of_ble_eq_true rfl⟩ rfl (Nat.le_of_ble_eq_true rfl) ?_
        have hG55 := gp_X12_takesBack hG51 hr56
        refine vv_iload 83 6 dX12_rises_83 rfl ?_
        refine vv_if_eq 85 93 dX12_rises_85 (by decide) (fun _ => ?_) (fun hc => absurd (by decide) hc)
        refine vv_iconst 93 dX12_rises_93 ik_m1 ?_
        obtain ⟨e1, e2⟩ := sh_some2 h
        refine vv_iret 94 dX12_rises_94 rfl (Nat.le_refl _) (Nat.le_refl _) ⟨by rw [e1], e2⟩
      · rw [if_neg c54] at h
        refine vv_iconst 72 dX12_rises_72 ik_1 ?_
        refine vv_goto 73 77 dX12_rises_73 (by decide) ?_
        refine vv_istore (lv' := [(6, _), (0, _), (1, _), (2, _), (3, _), (4, _), (5, _)]) 77 6 dX12_rises_77 (by decide) rfl ?_
        refine vv_aload_n 79 0 dX12_rises_79 rfl rfl ?_
        obtain ⟨μ58, hr59, h⟩ := sh_bindv_e h
        refine v1_callV [] 80 dX12_rises_80 ck_X12_510 (g_l_291 hG51) ⟨by decide, rfl⟩ (t_X12_takesBack hG51 hr59) (Nat.le_of_ble_eq_true rfl) ⟨Nat.le_of_ble_eq_true rfl, Nat.le_of_ble_eq_true rfl⟩ rfl (Nat.le_of_ble_eq_true rfl) ?_
        have hG58 := gp_X12_takesBack hG51 hr59
        refine vv_iload 83 6 dX12_rises_83 rfl ?_
        refine vv_if_eq 85 93 dX12_rises_85 (by decide) (fun hc => absurd hc (by decide)) (fun _ => ?_)
        refine vv_iload 88 5 dX12_rises_88 rfl ?_
        refine vv_goto 90 94 dX12_rises_90 (by decide) ?_
        obtain ⟨e1, e2⟩ := sh_some2 h
        refine vv_iret 94 dX12_rises_94 rfl (Nat.le_refl _) (Nat.le_refl _) ⟨by rw [e1], e2⟩
    · rw [if_neg c50] at h
      refine vv_iload 33 5 dX12_rises_33 rfl ?_
      refine vv_bipush 35 dX12_rises_35 bk_60 ?_
      refine vv_icmp_ge 37 62 dX12_rises_37 (by decide) (fun c61 => ?_) (fun c61 => ?_)
      · rw [if_pos c61] at h
        refine vv_aload_n 62 0 dX12_rises_62 rfl rfl ?_
        refine vv_iload 63 4 dX12_rises_63 rfl ?_
        obtain ⟨y64, μ62, hr63, h⟩ := sh_bind_e h
        refine v1_callV [_] 65 dX12_rises_65 ck_X12_453 (g_l_291 hG47) ⟨by decide, rfl⟩ (t_X12_heightOf hG47 hr63) (Nat.le_of_ble_eq_true rfl) ⟨Nat.le_of_ble_eq_true rfl, Nat.le_of_ble_eq_true rfl⟩ rfl (Nat.le_of_ble_eq_true rfl) ?_
        have hG62 := gp_X12_heightOf hG47 hr63
        refine vv_iload_n 68 3 dX12_rises_68 rfl rfl ?_
        refine vv_icmp_lt 69 76 dX12_rises_69 (by decide) (fun c65 => ?_) (fun c65 => ?_)
        · rw [if_pos c65] at h
          refine vv_iconst 76 dX12_rises_76 ik_0 ?_
          refine vv_istore (lv' := [(6, _), (0, _), (1, _), (2, _), (3, _), (4, _), (5, _)]) 77 6 dX12_rises_77 (by decide) rfl ?_
          refine vv_aload_n 79 0 dX12_rises_79 rfl rfl ?_
          obtain ⟨μ66, hr67, h⟩ := sh_bindv_e h
          refine v1_callV [] 80 dX12_rises_80 ck_X12_510 (g_l_291 hG62) ⟨by decide, rfl⟩ (t_X12_takesBack hG62 hr67) (Nat.le_of_ble_eq_true rfl) ⟨Nat.le_of_ble_eq_true rfl, Nat.le_of_ble_eq_true rfl⟩ rfl (Nat.le_of_ble_eq_true rfl) ?_
          have hG66 := gp_X12_takesBack hG62 hr67
          refine vv_iload 83 6 dX12_rises_83 rfl ?_
          refine vv_if_eq 85 93 dX12_rises_85 (by decide) (fun _ => ?_) (fun hc => absurd (by decide) hc)
          refine vv_iconst 93 dX12_rises_93 ik_m1 ?_
          obtain ⟨e1, e2⟩ := sh_some2 h
          refine vv_iret 94 dX12_rises_94 rfl (Nat.le_refl _) (Nat.le_refl _) ⟨by rw [e1], e2⟩
        · rw [if_neg c65] at h
          refine vv_iconst 72 dX12_rises_72 ik_1 ?_
          refine vv_goto 73 77 dX12_rises_73 (by decide) ?_
          refine vv_istore (lv' := [(6, _), (0, _), (1, _), (2, _), (3, _), (4, _), (5, _)]) 77 6 dX12_rises_77 (by decide) rfl ?_
          refine vv_aload_n 79 0 dX12_rises_79 rfl rfl ?_
          obtain ⟨μ69, hr70, h⟩ := sh_bindv_e h
          refine v1_callV [] 80 dX12_rises_80 ck_X12_510 (g_l_291 hG62) ⟨by decide, rfl⟩ (t_X12_takesBack hG62 hr70) (Nat.le_of_ble_eq_true rfl) ⟨Nat.le_of_ble_eq_true rfl, Nat.le_of_ble_eq_true rfl⟩ rfl (Nat.le_of_ble_eq_true rfl) ?_
          have hG69 := gp_X12_takesBack hG62 hr70
          refine vv_iload 83 6 dX12_rises_83 rfl ?_
          refine vv_if_eq 85 93 dX12_rises_85 (by decide) (fun hc => absurd hc (by decide)) (fun _ => ?_)
          refine vv_iload 88 5 dX12_rises_88 rfl ?_
          refine vv_goto 90 94 dX12_rises_90 (by decide) ?_
          obtain ⟨e1, e2⟩ := sh_some2 h
          refine vv_iret 94 dX12_rises_94 rfl (Nat.le_refl _) (Nat.le_refl _) ⟨by rw [e1], e2⟩
      · rw [if_neg c61] at h
        refine vv_aload_n 40 0 dX12_rises_40 rfl rfl ?_
        refine vv_getR 41 dX12_rises_41 fl_12_130 rfl (g_l_291 hG47) (g_r_291_52 hG47) ?_
        refine vv_iconst 44 dX12_rises_44 ik_0 ?_
        refine vv_iald 45 dX12_rises_45 (g_l_330 hG47) (by unfold vp_in; decide) ?_
        refine vv_sipush 46 dX12_rises_46 sk_999 ?_
        refine vv_icmp_ge 49 62 dX12_rises_49 (by decide) (fun c72 => ?_) (fun c72 => ?_)
        · rw [if_pos c72] at h
          refine vv_aload_n 62 0 dX12_rises_62 rfl rfl ?_
          refine vv_iload 63 4 dX12_rises_63 rfl ?_
          obtain ⟨y75, μ73, hr74, h⟩ := sh_bind_e h
          refine v1_callV [_] 65 dX12_rises_65 ck_X12_453 (g_l_291 hG47) ⟨by decide, rfl⟩ (t_X12_heightOf hG47 hr74) (Nat.le_of_ble_eq_true rfl) ⟨Nat.le_of_ble_eq_true rfl, Nat.le_of_ble_eq_true rfl⟩ rfl (Nat.le_of_ble_eq_true rfl) ?_
          have hG73 := gp_X12_heightOf hG47 hr74
          refine vv_iload_n 68 3 dX12_rises_68 rfl rfl ?_
          refine vv_icmp_lt 69 76 dX12_rises_69 (by decide) (fun c76 => ?_) (fun c76 => ?_)
          · rw [if_pos c76] at h
            refine vv_iconst 76 dX12_rises_76 ik_0 ?_
            refine vv_istore (lv' := [(6, _), (0, _), (1, _), (2, _), (3, _), (4, _), (5, _)]) 77 6 dX12_rises_77 (by decide) rfl ?_
            refine vv_aload_n 79 0 dX12_rises_79 rfl rfl ?_
            obtain ⟨μ77, hr78, h⟩ := sh_bindv_e h
            refine v1_callV [] 80 dX12_rises_80 ck_X12_510 (g_l_291 hG73) ⟨by decide, rfl⟩ (t_X12_takesBack hG73 hr78) (Nat.le_of_ble_eq_true rfl) ⟨Nat.le_of_ble_eq_true rfl, Nat.le_of_ble_eq_true rfl⟩ rfl (Nat.le_of_ble_eq_true rfl) ?_
            have hG77 := gp_X12_takesBack hG73 hr78
            refine vv_iload 83 6 dX12_rises_83 rfl ?_
            refine vv_if_eq 85 93 dX12_rises_85 (by decide) (fun _ => ?_) (fun hc => absurd (by decide) hc)
            refine vv_iconst 93 dX12_rises_93 ik_m1 ?_
            obtain ⟨e1, e2⟩ := sh_some2 h
            refine vv_iret 94 dX12_rises_94 rfl (Nat.le_refl _) (Nat.le_refl _) ⟨by rw [e1], e2⟩
          · rw [if_neg c76] at h
            refine vv_iconst 72 dX12_rises_72 ik_1 ?_
            refine vv_goto 73 77 dX12_rises_73 (by decide) ?_
            refine vv_istore (lv' := [(6, _), (0, _), (1, _), (2, _), (3, _), (4, _), (5, _)]) 77 6 dX12_rises_77 (by decide) rfl ?_
            refine vv_aload_n 79 0 dX12_rises_79 rfl rfl ?_
            obtain ⟨μ80, hr81, h⟩ := sh_bindv_e h
            refine v1_callV [] 80 dX12_rises_80 ck_X12_510 (g_l_291 hG73) ⟨by decide, rfl⟩ (t_X12_takesBack hG73 hr81) (Nat.le_of_ble_eq_true rfl) ⟨Nat.le_of_ble_eq_true rfl, Nat.le_of_ble_eq_true rfl⟩ rfl (Nat.le_of_ble_eq_true rfl) ?_
            have hG80 := gp_X12_takesBack hG73 hr81
            refine vv_iload 83 6 dX12_rises_83 rfl ?_
            refine vv_if_eq 85 93 dX12_rises_85 (by decide) (fun hc => absurd hc (by decide)) (fun _ => ?_)
            refine vv_iload 88 5 dX12_rises_88 rfl ?_
            refine vv_goto 90 94 dX12_rises_90 (by decide) ?_
            obtain ⟨e1, e2⟩ := sh_some2 h
            refine vv_iret 94 dX12_rises_94 rfl (Nat.le_refl _) (Nat.le_refl _) ⟨by rw [e1], e2⟩
        · rw [if_neg c72] at h
          refine vv_aload_n 52 0 dX12_rises_52 rfl rfl ?_
          obtain ⟨μ83, hr84, h⟩ := sh_bindv_e h
          refine v1_callV [] 53 dX12_rises_53 ck_X12_501 (g_l_291 hG47) ⟨by decide, rfl⟩ (t_X12_dayGoes hG47 hr84) (Nat.le_of_ble_eq_true rfl) ⟨Nat.le_of_ble_eq_true rfl, Nat.le_of_ble_eq_true rfl⟩ rfl (Nat.le_of_ble_eq_true rfl) ?_
          have hG83 := gp_X12_dayGoes hG47 hr84
          refine vv_iincc (lv' := [(5, _), (0, _), (1, _), (2, _), (3, _), (4, _)]) 56 5 dX12_rises_56 rfl ik_1 (by decide) rfl ?_
          refine vv_goto 59 23 dX12_rises_59 (by decide) ?_
          refine vv_sub [(0, _), (1, _), (2, _), (3, _), (4, _), (5, _)] (sh_subm [1, 2, 3, 4, 5, 0] rfl) ?_
          exact ih_23 hG83 h
theorem gp_X12_rises {a1 : Int32} {a2 : Int32} {a3 : Int32} {μ μ' : sh_Mem} {v : Int32} (hG : sh_G μ) (h : f_X12_rises a1 a2 a3 μ = some (v, μ')) : sh_G μ' := by
  have ih_23 := (gpl_X12_rises sh_fuel)
  unfold f_X12_rises at h
  obtain ⟨y88, μ86, hr87, h⟩ := sh_bind_e h
  have hG86 := gp_X12_cellAt hG hr87
  by_cases c89 : y88 = (-1)
  · rw [if_pos c89] at h
    obtain ⟨e1, e2⟩ := sh_some2 h
    exact e2 ▸ hG86
  · rw [if_neg c89] at h
    obtain ⟨μ90, hr91, h⟩ := sh_bindv_e h
    have hG90 := gp_X12_putsAside hG86 hr91
    exact ih_23 hG90 h
theorem t_X12_rises {a1 : Int32} {a2 : Int32} {a3 : Int32} {μ μ' : sh_Mem} {v : Int32} (hG : sh_G μ) (h : f_X12_rises a1 a2 a3 μ = some (v, μ')) : sh_C0 l B D ca 8 M_X12_rises [.ref 291, .int a1, .int a2, .int a3] μ (fun v0 μ0 => v0 = some (.int v) ∧ μ0 = μ') := by
  have ih_23 := (tl_X12_rises (l := l) (B := B) (D := D) (ca := ca) sh_fuel)
  unfold f_X12_rises at h
  refine vv_aload_n 0 0 dX12_rises_0 rfl rfl ?_
  refine vv_iload_n 1 1 dX12_rises_1 rfl rfl ?_
  refine vv_iload_n 2 2 dX12_rises_2 rfl rfl ?_
  obtain ⟨y88, μ86, hr87, h⟩ := sh_bind_e h
  refine v1_callV [_, _] 3 dX12_rises_3 ck_X12_414 (g_l_291 hG) ⟨by decide, rfl⟩ (t_X12_cellAt hG hr87) (Nat.le_of_ble_eq_true rfl) ⟨Nat.le_of_ble_eq_true rfl, Nat.le_of_ble_eq_true rfl⟩ rfl (Nat.le_of_ble_eq_true rfl) ?_
  have hG86 := gp_X12_cellAt hG hr87
  refine vv_istore (lv' := [(4, _), (0, _), (1, _), (2, _), (3, _)]) 6 4 dX12_rises_6 (by decide) rfl ?_
  refine vv_iload 8 4 dX12_rises_8 rfl ?_
  refine vv_iconst 10 dX12_rises_10 ik_m1 ?_
  refine vv_icmp_ne 11 16 dX12_rises_11 (by decide) (fun c89 => ?_) (fun c89 => ?_)
  · rw [if_neg c89] at h
    refine vv_iconst 16 dX12_rises_16 ik_0 ?_
    refine vv_istore (lv' := [(5, _), (4, _), (0, _), (1, _), (2, _), (3, _)]) 17 5 dX12_rises_17 (by decide) rfl ?_
    refine vv_aload_n 19 0 dX12_rises_19 rfl rfl ?_
    obtain ⟨μ90, hr91, h⟩ := sh_bindv_e h
    refine v1_callV [] 20 dX12_rises_20 ck_X12_507 (g_l_291 hG86) ⟨by decide, rfl⟩ (t_X12_putsAside hG86 hr91) (Nat.le_of_ble_eq_true rfl) ⟨Nat.le_of_ble_eq_true rfl, Nat.le_of_ble_eq_true rfl⟩ rfl (Nat.le_of_ble_eq_true rfl) ?_
    have hG90 := gp_X12_putsAside hG86 hr91
    refine vv_sub [(0, _), (1, _), (2, _), (3, _), (4, _), (5, _)] (sh_subm [2, 3, 4, 5, 1, 0] rfl) ?_
    exact ih_23 hG90 h
  · rw [if_pos c89] at h
    refine vv_iconst 14 dX12_rises_14 ik_m1 ?_
    obtain ⟨e1, e2⟩ := sh_some2 h
    refine vv_iret 15 dX12_rises_15 rfl (Nat.le_refl _) (Nat.le_refl _) ⟨by rw [e1], e2⟩
noncomputable def f_X12_doesShrug (a1 : Int32) (μ : sh_Mem) : Option (Int32 × sh_Mem) := sh_bind (f_X12_topicMany μ) (fun y3 μ1 => (if ¬ y3 = 0 then sh_bind (f_X12_topicMany μ1) (fun y7 μ5 => (if ¬ y7 = 0 then sh_bind (f_X12_isAsked (a1 / y3) (a1 - a1 / y7 * y7) μ5) (fun y11 μ9 => (if y11 = 2 then some (1, μ9) else some (0, μ9))) else none)) else none))
theorem gp_X12_doesShrug {a1 : Int32} {μ μ' : sh_Mem} {v : Int32} (hG : sh_G μ) (h : f_X12_doesShrug a1 μ = some (v, μ')) : sh_G μ' := by
  unfold f_X12_doesShrug at h
  obtain ⟨y3, μ1, hr2, h⟩ := sh_bind_e h
  have hG1 := gp_X12_topicMany hG hr2
  obtain ⟨k4, h⟩ := sh_chk h
  obtain ⟨y7, μ5, hr6, h⟩ := sh_bind_e h
  have hG5 := gp_X12_topicMany hG1 hr6
  obtain ⟨k8, h⟩ := sh_chk h
  obtain ⟨y11, μ9, hr10, h⟩ := sh_bind_e h
  have hG9 := gp_X12_isAsked hG5 hr10
  by_cases c12 : y11 = 2
  · rw [if_pos c12] at h
    obtain ⟨e1, e2⟩ := sh_some2 h
    exact e2 ▸ hG9
  · rw [if_neg c12] at h
    obtain ⟨e1, e2⟩ := sh_some2 h
    exact e2 ▸ hG9
theorem t_X12_doesShrug {a1 : Int32} {μ μ' : sh_Mem} {v : Int32} (hG : sh_G μ) (h : f_X12_doesShrug a1 μ = some (v, μ')) : sh_C0 l B D ca 7 M_X12_doesShrug [.ref 291, .int a1] μ (fun v0 μ0 => v0 = some (.int v) ∧ μ0 = μ') := by
  unfold f_X12_doesShrug at h
  refine vv_aload_n 0 0 dX12_doesShrug_0 rfl rfl ?_
  refine vv_iload_n 1 1 dX12_doesShrug_1 rfl rfl ?_
  refine vv_aload_n 2 0 dX12_doesShrug_2 rfl rfl ?_
  obtain ⟨y3, μ1, hr2, h⟩ := sh_bind_e h
  refine v1_callV [] 3 dX12_doesShrug_3 ck_X12_408 (g_l_291 hG) ⟨by decide, rfl⟩ (t_X12_topicMany hG hr2) (Nat.le_of_ble_eq_true rfl) ⟨Nat.le_of_ble_eq_true rfl, Nat.le_of_ble_eq_true rfl⟩ rfl (Nat.le_of_ble_eq_true rfl) ?_
  have hG1 := gp_X12_topicMany hG hr2
  obtain ⟨k4, h⟩ := sh_chk h
  refine vv_idiv 6 dX12_doesShrug_6 k4 ?_
  refine vv_iload_n 7 1 dX12_doesShrug_7 rfl rfl ?_
  refine vv_aload_n 8 0 dX12_doesShrug_8 rfl rfl ?_
  obtain ⟨y7, μ5, hr6, h⟩ := sh_bind_e h
  refine v1_callV [] 9 dX12_doesShrug_9 ck_X12_408 (g_l_291 hG1) ⟨by decide, rfl⟩ (t_X12_topicMany hG1 hr6) (Nat.le_of_ble_eq_true rfl) ⟨Nat.le_of_ble_eq_true rfl, Nat.le_of_ble_eq_true rfl⟩ rfl (Nat.le_of_ble_eq_true rfl) ?_
  have hG5 := gp_X12_topicMany hG1 hr6
  obtain ⟨k8, h⟩ := sh_chk h
  refine vv_irem 12 dX12_doesShrug_12 k8 ?_
  obtain ⟨y11, μ9, hr10, h⟩ := sh_bind_e h
  refine v1_callV [_, _] 13 dX12_doesShrug_13 ck_X12_498 (g_l_291 hG5) ⟨by decide, rfl⟩ (t_X12_isAsked hG5 hr10) (Nat.le_of_ble_eq_true rfl) ⟨Nat.le_of_ble_eq_true rfl, Nat.le_of_ble_eq_true rfl⟩ rfl (Nat.le_of_ble_eq_true rfl) ?_
  have hG9 := gp_X12_isAsked hG5 hr10
  refine vv_iconst 16 dX12_doesShrug_16 ik_2 ?_
  refine vv_icmp_ne 17 24 dX12_doesShrug_17 (by decide) (fun c12 => ?_) (fun c12 => ?_)
  · rw [if_neg c12] at h
    refine vv_iconst 24 dX12_doesShrug_24 ik_0 ?_
    obtain ⟨e1, e2⟩ := sh_some2 h
    refine vv_zret 25 dX12_doesShrug_25 rfl rfl (Nat.le_refl _) (Nat.le_refl _) ⟨by rw [e1], e2⟩
  · rw [if_pos c12] at h
    refine vv_iconst 20 dX12_doesShrug_20 ik_1 ?_
    refine vv_goto 21 25 dX12_doesShrug_21 (by decide) ?_
    obtain ⟨e1, e2⟩ := sh_some2 h
    refine vv_zret 25 dX12_doesShrug_25 rfl rfl (Nat.le_refl _) (Nat.le_refl _) ⟨by rw [e1], e2⟩
noncomputable def F_X12_isOne : Nat → Nat → Int32 → sh_Mem → Option (Int32 × sh_Mem)
  | 0, _, _, _ => none
  | fuel + 1, lbl, i1, μ => match lbl with
    | 1 => sh_bind (f_X12_askingMany μ) (fun y25 μ23 => (if y25 ≤ i1 then some (0, μ23) else sh_let (sh_setI μ23 333 (Int32.toNatClampNeg 0) i1) (fun μ27 => sh_bind (f_X12_doesShrug i1 μ27) (fun y30 μ28 => (if y30 = 0 then sh_bindv (f_X12_triesAnew μ28) (fun μ32 => F_X12_isOne fuel 1 (i1 + 1) μ32) else sh_bind (f_X12_isSo μ28) (fun y37 μ35 => (if y37 = 0 then sh_bindv (f_X12_triesAnew μ35) (fun μ39 => F_X12_isOne fuel 1 (i1 + 1) μ39) else sh_bindv (f_X12_triesAnew μ35) (fun μ42 => some (1, μ42)))))))))
    | _ => none
noncomputable def f_X12_isOne (μ : sh_Mem) : Option (Int32 × sh_Mem) := F_X12_isOne sh_fuel 1 0 μ
theorem gpl_X12_isOne (fuel : Nat) : (∀ ⦃i1 : Int32⦄ ⦃μ μ' : sh_Mem⦄ ⦃v : Int32⦄, sh_G μ → F_X12_isOne fuel 1 i1 μ = some (v, μ') → sh_G μ') := by
  induction fuel with
  | zero => intro i1 μ μ' v hG h; cases h
  | succ fuel ih =>
    have ih_2 := ih
    intro i1 μ μ' v hG h
    replace h : (sh_bind (f_X12_askingMany μ) (fun y25 μ23 => (if y25 ≤ i1 then some (0, μ23) else sh_let (sh_setI μ23 333 (Int32.toNatClampNeg 0) i1) (fun μ27 => sh_bind (f_X12_doesShrug i1 μ27) (fun y30 μ28 => (if y30 = 0 then sh_bindv (f_X12_triesAnew μ28) (fun μ32 => F_X12_isOne fuel 1 (i1 + 1) μ32) else sh_bind (f_X12_isSo μ28) (fun y37 μ35 => (if y37 = 0 then sh_bindv (f_X12_triesAnew μ35) (fun μ39 => F_X12_isOne fuel 1 (i1 + 1) μ39) else sh_bindv (f_X12_triesAnew μ35) (fun μ42 => some (1, μ42))))))))) : Option (Int32 × sh_Mem)) = some (v, μ') := h
    obtain ⟨y25, μ23, hr24, h⟩ := sh_bind_e h
    have hG23 := gp_X12_askingMany hG hr24
    by_cases c26 : y25 ≤ i1
    · rw [if_pos c26] at h
      obtain ⟨e1, e2⟩ := sh_some2 h
      exact e2 ▸ hG23
    · rw [if_neg c26] at h
      obtain ⟨μ27, eμ27⟩ : ∃ y : sh_Mem, y = (sh_setI μ23 333 (Int32.toNatClampNeg 0) i1) := ⟨_, rfl⟩
      rw [sh_let_eq eμ27] at h
      have hG27 : sh_G μ27 := by rw [eμ27]; exact hG23
      obtain ⟨y30, μ28, hr29, h⟩ := sh_bind_e h
      have hG28 := gp_X12_doesShrug hG27 hr29
      by_cases c31 : y30 = 0
      · rw [if_pos c31] at h
        obtain ⟨μ32, hr33, h⟩ := sh_bindv_e h
        have hG32 := gp_X12_triesAnew hG28 hr33
        exact ih_2 hG32 h
      · rw [if_neg c31] at h
        obtain ⟨y37, μ35, hr36, h⟩ := sh_bind_e h
        have hG35 := gp_X12_isSo hG28 hr36
        by_cases c38 : y37 = 0
        · rw [if_pos c38] at h
          obtain ⟨μ39, hr40, h⟩ := sh_bindv_e h
          have hG39 := gp_X12_triesAnew hG35 hr40
          exact ih_2 hG39 h
        · rw [if_neg c38] at h
          obtain ⟨μ42, hr43, h⟩ := sh_bindv_e h
          have hG42 := gp_X12_triesAnew hG35 hr43
          obtain ⟨e1, e2⟩ := sh_some2 h
          exact e2 ▸ hG42
theorem tl_X12_isOne (fuel : Nat) : (∀ ⦃i1 : Int32⦄ ⦃μ μ' : sh_Mem⦄ ⦃v : Int32⦄, sh_G μ → F_X12_isOne fuel 1 i1 μ = some (v, μ') → sh_V0 l B D ca 8 M_X12_isOne 2 [(0, .ref 291), (1, .int i1)] [] μ (fun v0 μ0 => v0 = some (.int v) ∧ μ0 = μ')) := by
  induction fuel with
  | zero => intro i1 μ μ' v hG h; cases h
  | succ fuel ih =>
    have ih_2 := ih
    intro i1 μ μ' v hG h
    replace h : (sh_bind (f_X12_askingMany μ) (fun y25 μ23 => (if y25 ≤ i1 then some (0, μ23) else sh_let (sh_setI μ23 333 (Int32.toNatClampNeg 0) i1) (fun μ27 => sh_bind (f_X12_doesShrug i1 μ27) (fun y30 μ28 => (if y30 = 0 then sh_bindv (f_X12_triesAnew μ28) (fun μ32 => F_X12_isOne fuel 1 (i1 + 1) μ32) else sh_bind (f_X12_isSo μ28) (fun y37 μ35 => (if y37 = 0 then sh_bindv (f_X12_triesAnew μ35) (fun μ39 => F_X12_isOne fuel 1 (i1 + 1) μ39) else sh_bindv (f_X12_triesAnew μ35) (fun μ42 => some (1, μ42))))))))) : Option (Int32 × sh_Mem)) = some (v, μ') := h
    refine vv_iload_n 2 1 dX12_isOne_2 rfl rfl ?_
    refine vv_aload_n 3 0 dX12_isOne_3 rfl rfl ?_
    obtain ⟨y25, μ23, hr24, h⟩ := sh_bind_e h
    refine v1_callV [] 4 dX12_isOne_4 ck_X12_545 (g_l_291 hG) ⟨by decide, rfl⟩ (t_X12_askingMany hG hr24) (Nat.le_of_ble_eq_true rfl) ⟨Nat.le_of_ble_eq_true rfl, Nat.le_of_ble_eq_true rfl⟩ rfl (Nat.le_of_ble_eq_true rfl) ?_
    have hG23 := gp_X12_askingMany hG hr24
    refine vv_icmp_ge 7 54 dX12_isOne_7 (by decide) (fun c26 => ?_) (fun c26 => ?_)
    · rw [if_pos c26] at h
      refine vv_iconst 54 dX12_isOne_54 ik_0 ?_
      obtain ⟨e1, e2⟩ := sh_some2 h
      refine vv_zret 55 dX12_isOne_55 rfl rfl (Nat.le_refl _) (Nat.le_refl _) ⟨by rw [e1], e2⟩
    · rw [if_neg c26] at h
      refine vv_aload_n 10 0 dX12_isOne_10 rfl rfl ?_
      refine vv_getR 11 dX12_isOne_11 fl_12_139 rfl (g_l_291 hG23) (g_r_291_62 hG23) ?_
      refine vv_iconst 14 dX12_isOne_14 ik_0 ?_
      refine vv_iload_n 15 1 dX12_isOne_15 rfl rfl ?_
      refine vn_iast 16 dX12_isOne_16 (g_l_333 hG23) (by unfold vp_in; decide) (fun μ27 eμ27 => ?_)
      rw [sh_let_eq eμ27] at h
      have hG27 : sh_G μ27 := by rw [eμ27]; exact hG23
      refine vv_aload_n 17 0 dX12_isOne_17 rfl rfl ?_
      refine vv_iload_n 18 1 dX12_isOne_18 rfl rfl ?_
      obtain ⟨y30, μ28, hr29, h⟩ := sh_bind_e h
      refine v1_callV [_] 19 dX12_isOne_19 ck_X12_548 (g_l_291 hG27) ⟨by decide, rfl⟩ (t_X12_doesShrug hG27 hr29) (Nat.le_of_ble_eq_true rfl) ⟨Nat.le_of_ble_eq_true rfl, Nat.le_of_ble_eq_true rfl⟩ rfl (Nat.le_of_ble_eq_true rfl) ?_
      have hG28 := gp_X12_doesShrug hG27 hr29
      refine vv_if_eq 22 36 dX12_isOne_22 (by decide) (fun c31 => ?_) (fun c31 => ?_)
      · rw [if_pos c31] at h
        refine vv_iconst 36 dX12_isOne_36 ik_0 ?_
        refine vv_istore_n (lv' := [(2, _), (0, _), (1, _)]) 37 2 dX12_isOne_37 rfl (by decide) rfl ?_
        refine vv_aload_n 38 0 dX12_isOne_38 rfl rfl ?_
        obtain ⟨μ32, hr33, h⟩ := sh_bindv_e h
        refine v1_callV [] 39 dX12_isOne_39 ck_X12_504 (g_l_291 hG28) ⟨by decide, rfl⟩ (t_X12_triesAnew hG28 hr33) (Nat.le_of_ble_eq_true rfl) ⟨Nat.le_of_ble_eq_true rfl, Nat.le_of_ble_eq_true rfl⟩ rfl (Nat.le_of_ble_eq_true rfl) ?_
        have hG32 := gp_X12_triesAnew hG28 hr33
        refine vv_iload_n 42 2 dX12_isOne_42 rfl rfl ?_
        refine vv_if_eq 43 48 dX12_isOne_43 (by decide) (fun _ => ?_) (fun hc => absurd (by decide) hc)
        refine vv_iincc (lv' := [(1, _), (2, _), (0, _)]) 48 1 dX12_isOne_48 rfl ik_1 (by decide) rfl ?_
        refine vv_goto 51 2 dX12_isOne_51 (by decide) ?_
        refine vv_sub [(0, _), (1, _)] (sh_subm [2, 0] rfl) ?_
        exact ih_2 hG32 h
      · rw [if_neg c31] at h
        refine vv_aload_n 25 0 dX12_isOne_25 rfl rfl ?_
        obtain ⟨y37, μ35, hr36, h⟩ := sh_bind_e h
        refine v1_callV [] 26 dX12_isOne_26 ck_X12_551 (g_l_291 hG28) ⟨by decide, rfl⟩ (t_X12_isSo hG28 hr36) (Nat.le_of_ble_eq_true rfl) ⟨Nat.le_of_ble_eq_true rfl, Nat.le_of_ble_eq_true rfl⟩ rfl (Nat.le_of_ble_eq_true rfl) ?_
        have hG35 := gp_X12_isSo hG28 hr36
        refine vv_if_eq 29 36 dX12_isOne_29 (by decide) (fun c38 => ?_) (fun c38 => ?_)
        · rw [if_pos c38] at h
          refine vv_iconst 36 dX12_isOne_36 ik_0 ?_
          refine vv_istore_n (lv' := [(2, _), (0, _), (1, _)]) 37 2 dX12_isOne_37 rfl (by decide) rfl ?_
          refine vv_aload_n 38 0 dX12_isOne_38 rfl rfl ?_
          obtain ⟨μ39, hr40, h⟩ := sh_bindv_e h
          refine v1_callV [] 39 dX12_isOne_39 ck_X12_504 (g_l_291 hG35) ⟨by decide, rfl⟩ (t_X12_triesAnew hG35 hr40) (Nat.le_of_ble_eq_true rfl) ⟨Nat.le_of_ble_eq_true rfl, Nat.le_of_ble_eq_true rfl⟩ rfl (Nat.le_of_ble_eq_true rfl) ?_
          have hG39 := gp_X12_triesAnew hG35 hr40
          refine vv_iload_n 42 2 dX12_isOne_42 rfl rfl ?_
          refine vv_if_eq 43 48 dX12_isOne_43 (by decide) (fun _ => ?_) (fun hc => absurd (by decide) hc)
          refine vv_iincc (lv' := [(1, _), (2, _), (0, _)]) 48 1 dX12_isOne_48 rfl ik_1 (by decide) rfl ?_
          refine vv_goto 51 2 dX12_isOne_51 (by decide) ?_
          refine vv_sub [(0, _), (1, _)] (sh_subm [2, 0] rfl) ?_
          exact ih_2 hG39 h
        · rw [if_neg c38] at h
          refine vv_iconst 32 dX12_isOne_32 ik_1 ?_
          refine vv_goto 33 37 dX12_isOne_33 (by decide) ?_
          refine vv_istore_n (lv' := [(2, _), (0, _), (1, _)]) 37 2 dX12_isOne_37 rfl (by decide) rfl ?_
          refine vv_aload_n 38 0 dX12_isOne_38 rfl rfl ?_
          obtain ⟨μ42, hr43, h⟩ := sh_bindv_e h
          refine v1_callV [] 39 dX12_isOne_39 ck_X12_504 (g_l_291 hG35) ⟨by decide, rfl⟩ (t_X12_triesAnew hG35 hr43) (Nat.le_of_ble_eq_true rfl) ⟨Nat.le_of_ble_eq_true rfl, Nat.le_of_ble_eq_true rfl⟩ rfl (Nat.le_of_ble_eq_true rfl) ?_
          have hG42 := gp_X12_triesAnew hG35 hr43
          refine vv_iload_n 42 2 dX12_isOne_42 rfl rfl ?_
          refine vv_if_eq 43 48 dX12_isOne_43 (by decide) (fun hc => absurd hc (by decide)) (fun _ => ?_)
          refine vv_iconst 46 dX12_isOne_46 ik_1 ?_
          obtain ⟨e1, e2⟩ := sh_some2 h
          refine vv_zret 47 dX12_isOne_47 rfl rfl (Nat.le_refl _) (Nat.le_refl _) ⟨by rw [e1], e2⟩
theorem gp_X12_isOne {μ μ' : sh_Mem} {v : Int32} (hG : sh_G μ) (h : f_X12_isOne μ = some (v, μ')) : sh_G μ' := by
  have ih_2 := (gpl_X12_isOne sh_fuel)
  unfold f_X12_isOne at h
  exact ih_2 hG h
theorem t_X12_isOne {μ μ' : sh_Mem} {v : Int32} (hG : sh_G μ) (h : f_X12_isOne μ = some (v, μ')) : sh_C0 l B D ca 8 M_X12_isOne [.ref 291] μ (fun v0 μ0 => v0 = some (.int v) ∧ μ0 = μ') := by
  have ih_2 := (tl_X12_isOne (l := l) (B := B) (D := D) (ca := ca) sh_fuel)
  unfold f_X12_isOne at h
  refine vv_iconst 0 dX12_isOne_0 ik_0 ?_
  refine vv_istore_n (lv' := [(1, _), (0, _)]) 1 1 dX12_isOne_1 rfl (by decide) rfl ?_
  refine vv_sub [(0, _), (1, _)] (sh_subm [1, 0] rfl) ?_
  exact ih_2 hG h
noncomputable def F_X12_isTwo : Nat → Nat → Int32 → Int32 → Int32 → Int32 → sh_Mem → Option (Int32 × sh_Mem)
  | 0, _, _, _, _, _, _ => none
  | fuel + 1, lbl, i1, i2, i3, i4, μ => match lbl with
    | 1 => sh_bind (f_X12_askingMany μ) (fun y75 μ73 => (if y75 ≤ i1 then some (0, μ73) else sh_let (sh_setI μ73 333 (Int32.toNatClampNeg 0) i1) (fun μ77 => sh_bind (f_X12_doesShrug i1 μ77) (fun y80 μ78 => F_X12_isTwo fuel 2 i1 y80 0 0 μ78))))
    | 2 => (if 71 ≤ i3 then F_X12_isTwo fuel 3 i1 i2 0 0 μ else (if sh_in i3 232 then (if sh_in i3 71 then sh_let (sh_setI μ 334 i3.toNatClampNeg (sh_i μ 330 i3.toNatClampNeg)) (fun μ84 => F_X12_isTwo fuel 2 i1 i2 (i3 + 1) 0 μ84) else none) else none))
    | 3 => sh_bind (f_X12_askingMany μ) (fun y87 μ85 => (if y87 ≤ i3 then sh_bindv (f_X12_triesAnew μ85) (fun μ89 => F_X12_isTwo fuel 1 (i1 + 1) 0 0 0 μ89) else (if i2 = 0 then sh_bindv (f_X12_triesAnew μ85) (fun μ93 => F_X12_isTwo fuel 1 (i1 + 1) 0 0 0 μ93) else sh_let (sh_setI μ85 333 (Int32.toNatClampNeg 1) i3) (fun μ96 => sh_bind (f_X12_doesShrug i3 μ96) (fun y99 μ97 => (if y99 = 0 then F_X12_isTwo fuel 4 i1 i2 i3 0 μ97 else sh_bind (f_X12_isSo μ97) (fun y103 μ101 => (if y103 = 0 then F_X12_isTwo fuel 4 i1 i2 i3 0 μ101 else some (1, μ101)))))))))
    | 4 => (if 71 ≤ i4 then F_X12_isTwo fuel 3 i1 i2 (i3 + 1) 0 μ else (if sh_in i4 71 then (if sh_in i4 232 then sh_let (sh_setI μ 330 i4.toNatClampNeg (sh_i μ 334 i4.toNatClampNeg)) (fun μ108 => F_X12_isTwo fuel 4 i1 i2 i3 (i4 + 1) μ108) else none) else none))
    | _ => none
noncomputable def f_X12_isTwo (μ : sh_Mem) : Option (Int32 × sh_Mem) := F_X12_isTwo sh_fuel 1 0 0 0 0 μ
theorem gpl_X12_isTwo (fuel : Nat) : (∀ ⦃i1 : Int32⦄ ⦃i2 : Int32⦄ ⦃i3 : Int32⦄ ⦃i4 : Int32⦄ ⦃μ μ' : sh_Mem⦄ ⦃v : Int32⦄, sh_G μ → F_X12_isTwo fuel 1 i1 i2 i3 i4 μ = some (v, μ') → sh_G μ') ∧ (∀ ⦃i1 : Int32⦄ ⦃i2 : Int32⦄ ⦃i3 : Int32⦄ ⦃i4 : Int32⦄ ⦃μ μ' : sh_Mem⦄ ⦃v : Int32⦄, sh_G μ → F_X12_isTwo fuel 2 i1 i2 i3 i4 μ = some (v, μ') → sh_G μ') ∧ (∀ ⦃i1 : Int32⦄ ⦃i2 : Int32⦄ ⦃i3 : Int32⦄ ⦃i4 : Int32⦄ ⦃μ μ' : sh_Mem⦄ ⦃v : Int32⦄, sh_G μ → F_X12_isTwo fuel 3 i1 i2 i3 i4 μ = some (v, μ') → sh_G μ') ∧ (∀ ⦃i1 : Int32⦄ ⦃i2 : Int32⦄ ⦃i3 : Int32⦄ ⦃i4 : Int32⦄ ⦃μ μ' : sh_Mem⦄ ⦃v : Int32⦄, sh_G μ → F_X12_isTwo fuel 4 i1 i2 i3 i4 μ = some (v, μ') → sh_G μ') := by
  induction fuel with
  | zero => exact ⟨(by intro i1 i2 i3 i4 μ μ' v hG h; cases h), (by intro i1 i2 i3 i4 μ μ' v hG h; cases h), (by intro i1 i2 i3 i4 μ μ' v hG h; cases h), (by intro i1 i2 i3 i4 μ μ' v hG h; cases h)⟩
  | succ fuel ih =>
    obtain ⟨ih_2, ih_25, ih_51, ih_90⟩ := ih
    refine ⟨?_, ?_, ?_, ?_⟩
    · intro i1 i2 i3 i4 μ μ' v hG h
      replace h : (sh_bind (f_X12_askingMany μ) (fun y75 μ73 => (if y75 ≤ i1 then some (0, μ73) else sh_let (sh_setI μ73 333 (Int32.toNatClampNeg 0) i1) (fun μ77 => sh_bind (f_X12_doesShrug i1 μ77) (fun y80 μ78 => F_X12_isTwo fuel 2 i1 y80 0 0 μ78)))) : Option (Int32 × sh_Mem)) = some (v, μ') := h
      obtain ⟨y75, μ73, hr74, h⟩ := sh_bind_e h
      have hG73 := gp_X12_askingMany hG hr74
      by_cases c76 : y75 ≤ i1
      · rw [if_pos c76] at h
        obtain ⟨e1, e2⟩ := sh_some2 h
        exact e2 ▸ hG73
      · rw [if_neg c76] at h
        obtain ⟨μ77, eμ77⟩ : ∃ y : sh_Mem, y = (sh_setI μ73 333 (Int32.toNatClampNeg 0) i1) := ⟨_, rfl⟩
        rw [sh_let_eq eμ77] at h
        have hG77 : sh_G μ77 := by rw [eμ77]; exact hG73
        obtain ⟨y80, μ78, hr79, h⟩ := sh_bind_e h
        have hG78 := gp_X12_doesShrug hG77 hr79
        exact ih_25 hG78 h
    · intro i1 i2 i3 i4 μ μ' v hG h
      replace h : ((if 71 ≤ i3 then F_X12_isTwo fuel 3 i1 i2 0 0 μ else (if sh_in i3 232 then (if sh_in i3 71 then sh_let (sh_setI μ 334 i3.toNatClampNeg (sh_i μ 330 i3.toNatClampNeg)) (fun μ84 => F_X12_isTwo fuel 2 i1 i2 (i3 + 1) 0 μ84) else none) else none)) : Option (Int32 × sh_Mem)) = some (v, μ') := h
      by_cases c81 : 71 ≤ i3
      · rw [if_pos c81] at h
        exact ih_51 hG h
      · rw [if_neg c81] at h
        obtain ⟨k82, h⟩ := sh_chk h
        obtain ⟨k83, h⟩ := sh_chk h
        obtain ⟨μ84, eμ84⟩ : ∃ y : sh_Mem, y = (sh_setI μ 334 i3.toNatClampNeg (sh_i μ 330 i3.toNatClampNeg)) := ⟨_, rfl⟩
        rw [sh_let_eq eμ84] at h
        have hG84 : sh_G μ84 := by rw [eμ84]; exact hG
        exact ih_25 hG84 h
    · intro i1 i2 i3 i4 μ μ' v hG h
      replace h : (sh_bind (f_X12_askingMany μ) (fun y87 μ85 => (if y87 ≤ i3 then sh_bindv (f_X12_triesAnew μ85) (fun μ89 => F_X12_isTwo fuel 1 (i1 + 1) 0 0 0 μ89) else (if i2 = 0 then sh_bindv (f_X12_triesAnew μ85) (fun μ93 => F_X12_isTwo fuel 1 (i1 + 1) 0 0 0 μ93) else sh_let (sh_setI μ85 333 (Int32.toNatClampNeg 1) i3) (fun μ96 => sh_bind (f_X12_doesShrug i3 μ96) (fun y99 μ97 => (if y99 = 0 then F_X12_isTwo fuel 4 i1 i2 i3 0 μ97 else sh_bind (f_X12_isSo μ97) (fun y103 μ101 => (if y103 = 0 then F_X12_isTwo fuel 4 i1 i2 i3 0 μ101 else some (1, μ101))))))))) : Option (Int32 × sh_Mem)) = some (v, μ') := h
      obtain ⟨y87, μ85, hr86, h⟩ := sh_bind_e h
      have hG85 := gp_X12_askingMany hG hr86
      by_cases c88 : y87 ≤ i3
      · rw [if_pos c88] at h
        obtain ⟨μ89, hr90, h⟩ := sh_bindv_e h
        have hG89 := gp_X12_triesAnew hG85 hr90
        exact ih_2 hG89 h
      · rw [if_neg c88] at h
        by_cases c92 : i2 = 0
        · rw [if_pos c92] at h
          obtain ⟨μ93, hr94, h⟩ := sh_bindv_e h
          have hG93 := gp_X12_triesAnew hG85 hr94
          exact ih_2 hG93 h
        · rw [if_neg c92] at h
          obtain ⟨μ96, eμ96⟩ : ∃ y : sh_Mem, y = (sh_setI μ85 333 (Int32.toNatClampNeg 1) i3) := ⟨_, rfl⟩
          rw [sh_let_eq eμ96] at h
          have hG96 : sh_G μ96 := by rw [eμ96]; exact hG85
          obtain ⟨y99, μ97, hr98, h⟩ := sh_bind_e h
          have hG97 := gp_X12_doesShrug hG96 hr98
          by_cases c100 : y99 = 0
          · rw [if_pos c100] at h
            exact ih_90 hG97 h
          · rw [if_neg c100] at h
            obtain ⟨y103, μ101, hr102, h⟩ := sh_bind_e h
            have hG101 := gp_X12_isSo hG97 hr102
            by_cases c104 : y103 = 0
            · rw [if_pos c104] at h
              exact ih_90 hG101 h
            · rw [if_neg c104] at h
              obtain ⟨e1, e2⟩ := sh_some2 h
              exact e2 ▸ hG101
    · intro i1 i2 i3 i4 μ μ' v hG h
      replace h : ((if 71 ≤ i4 then F_X12_isTwo fuel 3 i1 i2 (i3 + 1) 0 μ else (if sh_in i4 71 then (if sh_in i4 232 then sh_let (sh_setI μ 330 i4.toNatClampNeg (sh_i μ 334 i4.toNatClampNeg)) (fun μ108 => F_X12_isTwo fuel 4 i1 i2 i3 (i4 + 1) μ108) else none) else none)) : Option (Int32 × sh_Mem)) = some (v, μ') := h
      by_cases c105 : 71 ≤ i4
      · rw [if_pos c105] at h
        exact ih_51 hG h
      · rw [if_neg c105] at h
        obtain ⟨k106, h⟩ := sh_chk h
        obtain ⟨k107, h⟩ := sh_chk h
        obtain ⟨μ108, eμ108⟩ : ∃ y : sh_Mem, y = (sh_setI μ 330 i4.toNatClampNeg (sh_i μ 334 i4.toNatClampNeg)) := ⟨_, rfl⟩
        rw [sh_let_eq eμ108] at h
        have hG108 : sh_G μ108 := by rw [eμ108]; exact hG
        exact ih_90 hG108 h
theorem tl_X12_isTwo (fuel : Nat) : (∀ ⦃i1 : Int32⦄ ⦃i2 : Int32⦄ ⦃i3 : Int32⦄ ⦃i4 : Int32⦄ ⦃μ μ' : sh_Mem⦄ ⦃v : Int32⦄, sh_G μ → F_X12_isTwo fuel 1 i1 i2 i3 i4 μ = some (v, μ') → sh_V0 l B D ca 8 M_X12_isTwo 2 [(0, .ref 291), (1, .int i1)] [] μ (fun v0 μ0 => v0 = some (.int v) ∧ μ0 = μ')) ∧ (∀ ⦃i1 : Int32⦄ ⦃i2 : Int32⦄ ⦃i3 : Int32⦄ ⦃i4 : Int32⦄ ⦃μ μ' : sh_Mem⦄ ⦃v : Int32⦄, sh_G μ → F_X12_isTwo fuel 2 i1 i2 i3 i4 μ = some (v, μ') → sh_V0 l B D ca 8 M_X12_isTwo 25 [(0, .ref 291), (1, .int i1), (2, .int i2), (3, .int i3)] [] μ (fun v0 μ0 => v0 = some (.int v) ∧ μ0 = μ')) ∧ (∀ ⦃i1 : Int32⦄ ⦃i2 : Int32⦄ ⦃i3 : Int32⦄ ⦃i4 : Int32⦄ ⦃μ μ' : sh_Mem⦄ ⦃v : Int32⦄, sh_G μ → F_X12_isTwo fuel 3 i1 i2 i3 i4 μ = some (v, μ') → sh_V0 l B D ca 8 M_X12_isTwo 51 [(0, .ref 291), (1, .int i1), (2, .int i2), (3, .int i3)] [] μ (fun v0 μ0 => v0 = some (.int v) ∧ μ0 = μ')) ∧ (∀ ⦃i1 : Int32⦄ ⦃i2 : Int32⦄ ⦃i3 : Int32⦄ ⦃i4 : Int32⦄ ⦃μ μ' : sh_Mem⦄ ⦃v : Int32⦄, sh_G μ → F_X12_isTwo fuel 4 i1 i2 i3 i4 μ = some (v, μ') → sh_V0 l B D ca 8 M_X12_isTwo 90 [(0, .ref 291), (1, .int i1), (2, .int i2), (3, .int i3), (4, .int i4)] [] μ (fun v0 μ0 => v0 = some (.int v) ∧ μ0 = μ')) := by
  induction fuel with
  | zero => exact ⟨(by intro i1 i2 i3 i4 μ μ' v hG h; cases h), (by intro i1 i2 i3 i4 μ μ' v hG h; cases h), (by intro i1 i2 i3 i4 μ μ' v hG h; cases h), (by intro i1 i2 i3 i4 μ μ' v hG h; cases h)⟩
  | succ fuel ih =>
    obtain ⟨ih_2, ih_25, ih_51, ih_90⟩ := ih
    refine ⟨?_, ?_, ?_, ?_⟩
    · intro i1 i2 i3 i4 μ μ' v hG h
      replace h : (sh_bind (f_X12_askingMany μ) (fun y75 μ73 => (if y75 ≤ i1 then some (0, μ73) else sh_let (sh_setI μ73 333 (Int32.toNatClampNeg 0) i1) (fun μ77 => sh_bind (f_X12_doesShrug i1 μ77) (fun y80 μ78 => F_X12_isTwo fuel 2 i1 y80 0 0 μ78)))) : Option (Int32 × sh_Mem)) = some (v, μ') := h
      refine vv_iload_n 2 1 dX12_isTwo_2 rfl rfl ?_
      refine vv_aload_n 3 0 dX12_isTwo_3 rfl rfl ?_
      obtain ⟨y75, μ73, hr74, h⟩ := sh_bind_e h
      refine v1_callV [] 4 dX12_isTwo_4 ck_X12_545 (g_l_291 hG) ⟨by decide, rfl⟩ (t_X12_askingMany hG hr74) (Nat.le_of_ble_eq_true rfl) ⟨Nat.le_of_ble_eq_true rfl, Nat.le_of_ble_eq_true rfl⟩ rfl (Nat.le_of_ble_eq_true rfl) ?_
      have hG73 := gp_X12_askingMany hG hr74
      refine vv_icmp_ge 7 133 dX12_isTwo_7 (by decide) (fun c76 => ?_) (fun c76 => ?_)
      · rw [if_pos c76] at h
        refine vv_iconst 133 dX12_isTwo_133 ik_0 ?_
        obtain ⟨e1, e2⟩ := sh_some2 h
        refine vv_zret 134 dX12_isTwo_134 rfl rfl (Nat.le_refl _) (Nat.le_refl _) ⟨by rw [e1], e2⟩
      · rw [if_neg c76] at h
        refine vv_aload_n 10 0 dX12_isTwo_10 rfl rfl ?_
        refine vv_getR 11 dX12_isTwo_11 fl_12_139 rfl (g_l_291 hG73) (g_r_291_62 hG73) ?_
        refine vv_iconst 14 dX12_isTwo_14 ik_0 ?_
        refine vv_iload_n 15 1 dX12_isTwo_15 rfl rfl ?_
        refine vn_iast 16 dX12_isTwo_16 (g_l_333 hG73) (by unfold vp_in; decide) (fun μ77 eμ77 => ?_)
        rw [sh_let_eq eμ77] at h
        have hG77 : sh_G μ77 := by rw [eμ77]; exact hG73
        refine vv_aload_n 17 0 dX12_isTwo_17 rfl rfl ?_
        refine vv_iload_n 18 1 dX12_isTwo_18 rfl rfl ?_
        obtain ⟨y80, μ78, hr79, h⟩ := sh_bind_e h
        refine v1_callV [_] 19 dX12_isTwo_19 ck_X12_548 (g_l_291 hG77) ⟨by decide, rfl⟩ (t_X12_doesShrug hG77 hr79) (Nat.le_of_ble_eq_true rfl) ⟨Nat.le_of_ble_eq_true rfl, Nat.le_of_ble_eq_true rfl⟩ rfl (Nat.le_of_ble_eq_true rfl) ?_
        have hG78 := gp_X12_doesShrug hG77 hr79
        refine vv_istore_n (lv' := [(2, _), (0, _), (1, _)]) 22 2 dX12_isTwo_22 rfl (by decide) rfl ?_
        refine vv_iconst 23 dX12_isTwo_23 ik_0 ?_
        refine vv_istore_n (lv' := [(3, _), (2, _), (0, _), (1, _)]) 24 3 dX12_isTwo_24 rfl (by decide) rfl ?_
        refine vv_sub [(0, _), (1, _), (2, _), (3, _)] (sh_subm [2, 3, 1, 0] rfl) ?_
        exact ih_25 hG78 h
    · intro i1 i2 i3 i4 μ μ' v hG h
      replace h : ((if 71 ≤ i3 then F_X12_isTwo fuel 3 i1 i2 0 0 μ else (if sh_in i3 232 then (if sh_in i3 71 then sh_let (sh_setI μ 334 i3.toNatClampNeg (sh_i μ 330 i3.toNatClampNeg)) (fun μ84 => F_X12_isTwo fuel 2 i1 i2 (i3 + 1) 0 μ84) else none) else none)) : Option (Int32 × sh_Mem)) = some (v, μ') := h
      refine vv_iload_n 25 3 dX12_isTwo_25 rfl rfl ?_
      refine vv_bipush 26 dX12_isTwo_26 bk_71 ?_
      refine vv_icmp_ge 28 49 dX12_isTwo_28 (by decide) (fun c81 => ?_) (fun c81 => ?_)
      · rw [if_pos c81] at h
        refine vv_iconst 49 dX12_isTwo_49 ik_0 ?_
        refine vv_istore_n (lv' := [(3, _), (0, _), (1, _), (2, _)]) 50 3 dX12_isTwo_50 rfl (by decide) rfl ?_
        refine vv_sub [(0, _), (1, _), (2, _), (3, _)] (sh_subm [1, 2, 3, 0] rfl) ?_
        exact ih_51 hG h
      · rw [if_neg c81] at h
        refine vv_aload_n 31 0 dX12_isTwo_31 rfl rfl ?_
        refine vv_getR 32 dX12_isTwo_32 fl_12_142 rfl (g_l_291 hG) (g_r_291_63 hG) ?_
        refine vv_iload_n 35 3 dX12_isTwo_35 rfl rfl ?_
        refine vv_aload_n 36 0 dX12_isTwo_36 rfl rfl ?_
        refine vv_getR 37 dX12_isTwo_37 fl_12_130 rfl (g_l_291 hG) (g_r_291_52 hG) ?_
        refine vv_iload_n 40 3 dX12_isTwo_40 rfl rfl ?_
        obtain ⟨k82, h⟩ := sh_chk h
        refine vv_iald 41 dX12_isTwo_41 (g_l_330 hG) k82 ?_
        obtain ⟨k83, h⟩ := sh_chk h
        refine vn_iast 42 dX12_isTwo_42 (g_l_334 hG) k83 (fun μ84 eμ84 => ?_)
        rw [sh_let_eq eμ84] at h
        have hG84 : sh_G μ84 := by rw [eμ84]; exact hG
        refine vv_iincc (lv' := [(3, _), (0, _), (1, _), (2, _)]) 43 3 dX12_isTwo_43 rfl ik_1 (by decide) rfl ?_
        refine vv_goto 46 25 dX12_isTwo_46 (by decide) ?_
        refine vv_sub [(0, _), (1, _), (2, _), (3, _)] (sh_subm [1, 2, 3, 0] rfl) ?_
        exact ih_25 hG84 h
    · intro i1 i2 i3 i4 μ μ' v hG h
      replace h : (sh_bind (f_X12_askingMany μ) (fun y87 μ85 => (if y87 ≤ i3 then sh_bindv (f_X12_triesAnew μ85) (fun μ89 => F_X12_isTwo fuel 1 (i1 + 1) 0 0 0 μ89) else (if i2 = 0 then sh_bindv (f_X12_triesAnew μ85) (fun μ93 => F_X12_isTwo fuel 1 (i1 + 1) 0 0 0 μ93) else sh_let (sh_setI μ85 333 (Int32.toNatClampNeg 1) i3) (fun μ96 => sh_bind (f_X12_doesShrug i3 μ96) (fun y99 μ97 => (if y99 = 0 then F_X12_isTwo fuel 4 i1 i2 i3 0 μ97 else sh_bind (f_X12_isSo μ97) (fun y103 μ101 => (if y103 = 0 then F_X12_isTwo fuel 4 i1 i2 i3 0 μ101 else some (1, μ101))))))))) : Option (Int32 × sh_Mem)) = some (v, μ') := h
      refine vv_iload_n 51 3 dX12_isTwo_51 rfl rfl ?_
      refine vv_aload_n 52 0 dX12_isTwo_52 rfl rfl ?_
      obtain ⟨y87, μ85, hr86, h⟩ := sh_bind_e h
      refine v1_callV [] 53 dX12_isTwo_53 ck_X12_545 (g_l_291 hG) ⟨by decide, rfl⟩ (t_X12_askingMany hG hr86) (Nat.le_of_ble_eq_true rfl) ⟨Nat.le_of_ble_eq_true rfl, Nat.le_of_ble_eq_true rfl⟩ rfl (Nat.le_of_ble_eq_true rfl) ?_
      have hG85 := gp_X12_askingMany hG hr86
      refine vv_icmp_ge 56 123 dX12_isTwo_56 (by decide) (fun c88 => ?_) (fun c88 => ?_)
      · rw [if_pos c88] at h
        refine vv_aload_n 123 0 dX12_isTwo_123 rfl rfl ?_
        obtain ⟨μ89, hr90, h⟩ := sh_bindv_e h
        refine v1_callV [] 124 dX12_isTwo_124 ck_X12_504 (g_l_291 hG85) ⟨by decide, rfl⟩ (t_X12_triesAnew hG85 hr90) (Nat.le_of_ble_eq_true rfl) ⟨Nat.le_of_ble_eq_true rfl, Nat.le_of_ble_eq_true rfl⟩ rfl (Nat.le_of_ble_eq_true rfl) ?_
        have hG89 := gp_X12_triesAnew hG85 hr90
        refine vv_iincc (lv' := [(1, _), (0, _), (2, _), (3, _)]) 127 1 dX12_isTwo_127 rfl ik_1 (by decide) rfl ?_
        refine vv_goto 130 2 dX12_isTwo_130 (by decide) ?_
        refine vv_sub [(0, _), (1, _)] (sh_subm [1, 0] rfl) ?_
        exact ih_2 hG89 h
      · rw [if_neg c88] at h
        refine vv_iload_n 59 2 dX12_isTwo_59 rfl rfl ?_
        refine vv_if_eq 60 123 dX12_isTwo_60 (by decide) (fun c92 => ?_) (fun c92 => ?_)
        · rw [if_pos c92] at h
          refine vv_aload_n 123 0 dX12_isTwo_123 rfl rfl ?_
          obtain ⟨μ93, hr94, h⟩ := sh_bindv_e h
          refine v1_callV [] 124 dX12_isTwo_124 ck_X12_504 (g_l_291 hG85) ⟨by decide, rfl⟩ (t_X12_triesAnew hG85 hr94) (Nat.le_of_ble_eq_true rfl) ⟨Nat.le_of_ble_eq_true rfl, Nat.le_of_ble_eq_true rfl⟩ rfl (Nat.le_of_ble_eq_true rfl) ?_
          have hG93 := gp_X12_triesAnew hG85 hr94
          refine vv_iincc (lv' := [(1, _), (0, _), (2, _), (3, _)]) 127 1 dX12_isTwo_127 rfl ik_1 (by decide) rfl ?_
          refine vv_goto 130 2 dX12_isTwo_130 (by decide) ?_
          refine vv_sub [(0, _), (1, _)] (sh_subm [1, 0] rfl) ?_
          exact ih_2 hG93 h
        · rw [if_neg c92] at h
          refine vv_aload_n 63 0 dX12_isTwo_63 rfl rfl ?_
          refine vv_getR 64 dX12_isTwo_64 fl_12_139 rfl (g_l_291 hG85) (g_r_291_62 hG85) ?_
          refine vv_iconst 67 dX12_isTwo_67 ik_1 ?_
          refine vv_iload_n 68 3 dX12_isTwo_68 rfl rfl ?_
          refine vn_iast 69 dX12_isTwo_69 (g_l_333 hG85) (by unfold vp_in; decide) (fun μ96 eμ96 => ?_)
          rw [sh_let_eq eμ96] at h
          have hG96 : sh_G μ96 := by rw [eμ96]; exact hG85
          refine vv_aload_n 70 0 dX12_isTwo_70 rfl rfl ?_
          refine vv_iload_n 71 3 dX12_isTwo_71 rfl rfl ?_
          obtain ⟨y99, μ97, hr98, h⟩ := sh_bind_e h
          refine v1_callV [_] 72 dX12_isTwo_72 ck_X12_548 (g_l_291 hG96) ⟨by decide, rfl⟩ (t_X12_doesShrug hG96 hr98) (Nat.le_of_ble_eq_true rfl) ⟨Nat.le_of_ble_eq_true rfl, Nat.le_of_ble_eq_true rfl⟩ rfl (Nat.le_of_ble_eq_true rfl) ?_
          have hG97 := gp_X12_doesShrug hG96 hr98
          refine vv_if_eq 75 87 dX12_isTwo_75 (by decide) (fun c100 => ?_) (fun c100 => ?_)
          · rw [if_pos c100] at h
            refine vv_iconst 87 dX12_isTwo_87 ik_0 ?_
            refine vv_istore (lv' := [(4, _), (0, _), (1, _), (2, _), (3, _)]) 88 4 dX12_isTwo_88 (by decide) rfl ?_
            refine vv_sub [(0, _), (1, _), (2, _), (3, _), (4, _)] (sh_subm [1, 2, 3, 4, 0] rfl) ?_
            exact ih_90 hG97 h
          · rw [if_neg c100] at h
            refine vv_aload_n 78 0 dX12_isTwo_78 rfl rfl ?_
            obtain ⟨y103, μ101, hr102, h⟩ := sh_bind_e h
            refine v1_callV [] 79 dX12_isTwo_79 ck_X12_551 (g_l_291 hG97) ⟨by decide, rfl⟩ (t_X12_isSo hG97 hr102) (Nat.le_of_ble_eq_true rfl) ⟨Nat.le_of_ble_eq_true rfl, Nat.le_of_ble_eq_true rfl⟩ rfl (Nat.le_of_ble_eq_true rfl) ?_
            have hG101 := gp_X12_isSo hG97 hr102
            refine vv_if_eq 82 87 dX12_isTwo_82 (by decide) (fun c104 => ?_) (fun c104 => ?_)
            · rw [if_pos c104] at h
              refine vv_iconst 87 dX12_isTwo_87 ik_0 ?_
              refine vv_istore (lv' := [(4, _), (0, _), (1, _), (2, _), (3, _)]) 88 4 dX12_isTwo_88 (by decide) rfl ?_
              refine vv_sub [(0, _), (1, _), (2, _), (3, _), (4, _)] (sh_subm [1, 2, 3, 4, 0] rfl) ?_
              exact ih_90 hG101 h
            · rw [if_neg c104] at h
              refine vv_iconst 85 dX12_isTwo_85 ik_1 ?_
              obtain ⟨e1, e2⟩ := sh_some2 h
              refine vv_zret 86 dX12_isTwo_86 rfl rfl (Nat.le_refl _) (Nat.le_refl _) ⟨by rw [e1], e2⟩
    · intro i1 i2 i3 i4 μ μ' v hG h
      replace h : ((if 71 ≤ i4 then F_X12_isTwo fuel 3 i1 i2 (i3 + 1) 0 μ else (if sh_in i4 71 then (if sh_in i4 232 then sh_let (sh_setI μ 330 i4.toNatClampNeg (sh_i μ 334 i4.toNatClampNeg)) (fun μ108 => F_X12_isTwo fuel 4 i1 i2 i3 (i4 + 1) μ108) else none) else none)) : Option (Int32 × sh_Mem)) = some (v, μ') := h
      refine vv_iload 90 4 dX12_isTwo_90 rfl ?_
      refine vv_bipush 92 dX12_isTwo_92 bk_71 ?_
      refine vv_icmp_ge 94 117 dX12_isTwo_94 (by decide) (fun c105 => ?_) (fun c105 => ?_)
      · rw [if_pos c105] at h
        refine vv_iincc (lv' := [(3, _), (0, _), (1, _), (2, _), (4, _)]) 117 3 dX12_isTwo_117 rfl ik_1 (by decide) rfl ?_
        refine vv_goto 120 51 dX12_isTwo_120 (by decide) ?_
        refine vv_sub [(0, _), (1, _), (2, _), (3, _)] (sh_subm [1, 2, 3, 0] rfl) ?_
        exact ih_51 hG h
      · rw [if_neg c105] at h
        refine vv_aload_n 97 0 dX12_isTwo_97 rfl rfl ?_
        refine vv_getR 98 dX12_isTwo_98 fl_12_130 rfl (g_l_291 hG) (g_r_291_52 hG) ?_
        refine vv_iload 101 4 dX12_isTwo_101 rfl ?_
        refine vv_aload_n 103 0 dX12_isTwo_103 rfl rfl ?_
        refine vv_getR 104 dX12_isTwo_104 fl_12_142 rfl (g_l_291 hG) (g_r_291_63 hG) ?_
        refine vv_iload 107 4 dX12_isTwo_107 rfl ?_
        obtain ⟨k106, h⟩ := sh_chk h
        refine vv_iald 109 dX12_isTwo_109 (g_l_334 hG) k106 ?_
        obtain ⟨k107, h⟩ := sh_chk h
        refine vn_iast 110 dX12_isTwo_110 (g_l_330 hG) k107 (fun μ108 eμ108 => ?_)
        rw [sh_let_eq eμ108] at h
        have hG108 : sh_G μ108 := by rw [eμ108]; exact hG
        refine vv_iincc (lv' := [(4, _), (0, _), (1, _), (2, _), (3, _)]) 111 4 dX12_isTwo_111 rfl ik_1 (by decide) rfl ?_
        refine vv_goto 114 90 dX12_isTwo_114 (by decide) ?_
        refine vv_sub [(0, _), (1, _), (2, _), (3, _), (4, _)] (sh_subm [1, 2, 3, 4, 0] rfl) ?_
        exact ih_90 hG108 h
theorem gp_X12_isTwo {μ μ' : sh_Mem} {v : Int32} (hG : sh_G μ) (h : f_X12_isTwo μ = some (v, μ')) : sh_G μ' := by
  have ih_2 := (gpl_X12_isTwo sh_fuel).1
  have ih_25 := (gpl_X12_isTwo sh_fuel).2.1
  have ih_51 := (gpl_X12_isTwo sh_fuel).2.2.1
  have ih_90 := (gpl_X12_isTwo sh_fuel).2.2.2
  unfold f_X12_isTwo at h
  exact ih_2 hG h
theorem t_X12_isTwo {μ μ' : sh_Mem} {v : Int32} (hG : sh_G μ) (h : f_X12_isTwo μ = some (v, μ')) : sh_C0 l B D ca 8 M_X12_isTwo [.ref 291] μ (fun v0 μ0 => v0 = some (.int v) ∧ μ0 = μ') := by
  have ih_2 := (tl_X12_isTwo (l := l) (B := B) (D := D) (ca := ca) sh_fuel).1
  have ih_25 := (tl_X12_isTwo (l := l) (B := B) (D := D) (ca := ca) sh_fuel).2.1
  have ih_51 := (tl_X12_isTwo (l := l) (B := B) (D := D) (ca := ca) sh_fuel).2.2.1
  have ih_90 := (tl_X12_isTwo (l := l) (B := B) (D := D) (ca := ca) sh_fuel).2.2.2
  unfold f_X12_isTwo at h
  refine vv_iconst 0 dX12_isTwo_0 ik_0 ?_
  refine vv_istore_n (lv' := [(1, _), (0, _)]) 1 1 dX12_isTwo_1 rfl (by decide) rfl ?_
  refine vv_sub [(0, _), (1, _)] (sh_subm [1, 0] rfl) ?_
  exact ih_2 hG h
noncomputable def F_X12_isThird : Nat → Nat → Int32 → Int32 → sh_Mem → Option (Int32 × sh_Mem)
  | 0, _, _, _, _ => none
  | fuel + 1, lbl, i1, i2, μ => match lbl with
    | 1 => (if 71 ≤ i1 then F_X12_isThird fuel 2 0 0 μ else (if sh_in i1 232 then (if sh_in i1 71 then sh_let (sh_setI μ 335 i1.toNatClampNeg (sh_i μ 330 i1.toNatClampNeg)) (fun μ46 => F_X12_isThird fuel 1 (i1 + 1) 0 μ46) else none) else none))
    | 2 => sh_bind (f_X12_askingMany μ) (fun y49 μ47 => (if y49 ≤ i1 then some (0, μ47) else sh_let (sh_setI μ47 333 (Int32.toNatClampNeg 2) i1) (fun μ51 => sh_bind (f_X12_doesShrug i1 μ51) (fun y54 μ52 => (if y54 = 0 then F_X12_isThird fuel 3 i1 0 μ52 else sh_bind (f_X12_isSo μ52) (fun y58 μ56 => (if y58 = 0 then F_X12_isThird fuel 3 i1 0 μ56 else some (1, μ56))))))))
    | 3 => (if 71 ≤ i2 then F_X12_isThird fuel 2 (i1 + 1) 0 μ else (if sh_in i2 71 then (if sh_in i2 232 then sh_let (sh_setI μ 330 i2.toNatClampNeg (sh_i μ 335 i2.toNatClampNeg)) (fun μ63 => F_X12_isThird fuel 3 i1 (i2 + 1) μ63) else none) else none))
    | _ => none
noncomputable def f_X12_isThird (μ : sh_Mem) : Option (Int32 × sh_Mem) := F_X12_isThird sh_fuel 1 0 0 μ
theorem gpl_X12_isThird (fuel : Nat) : (∀ ⦃i1 : Int32⦄ ⦃i2 : Int32⦄ ⦃μ μ' : sh_Mem⦄ ⦃v : Int32⦄, sh_G μ → F_X12_isThird fuel 1 i1 i2 μ = some (v, μ') → sh_G μ') ∧ (∀ ⦃i1 : Int32⦄ ⦃i2 : Int32⦄ ⦃μ μ' : sh_Mem⦄ ⦃v : Int32⦄, sh_G μ → F_X12_isThird fuel 2 i1 i2 μ = some (v, μ') → sh_G μ') ∧ (∀ ⦃i1 : Int32⦄ ⦃i2 : Int32⦄ ⦃μ μ' : sh_Mem⦄ ⦃v : Int32⦄, sh_G μ → F_X12_isThird fuel 3 i1 i2 μ = some (v, μ') → sh_G μ') := by
  induction fuel with
  | zero => exact ⟨(by intro i1 i2 μ μ' v hG h; cases h), (by intro i1 i2 μ μ' v hG h; cases h), (by intro i1 i2 μ μ' v hG h; cases h)⟩
  | succ fuel ih =>
    obtain ⟨ih_2, ih_28, ih_62⟩ := ih
    refine ⟨?_, ?_, ?_⟩
    · intro i1 i2 μ μ' v hG h
      replace h : ((if 71 ≤ i1 then F_X12_isThird fuel 2 0 0 μ else (if sh_in i1 232 then (if sh_in i1 71 then sh_let (sh_setI μ 335 i1.toNatClampNeg (sh_i μ 330 i1.toNatClampNeg)) (fun μ46 => F_X12_isThird fuel 1 (i1 + 1) 0 μ46) else none) else none)) : Option (Int32 × sh_Mem)) = some (v, μ') := h
      by_cases c43 : 71 ≤ i1
      · rw [if_pos c43] at h
        exact ih_28 hG h
      · rw [if_neg c43] at h
        obtain ⟨k44, h⟩ := sh_chk h
        obtain ⟨k45, h⟩ := sh_chk h
        obtain ⟨μ46, eμ46⟩ : ∃ y : sh_Mem, y = (sh_setI μ 335 i1.toNatClampNeg (sh_i μ 330 i1.toNatClampNeg)) := ⟨_, rfl⟩
        rw [sh_let_eq eμ46] at h
        have hG46 : sh_G μ46 := by rw [eμ46]; exact hG
        exact ih_2 hG46 h
    · intro i1 i2 μ μ' v hG h
      replace h : (sh_bind (f_X12_askingMany μ) (fun y49 μ47 => (if y49 ≤ i1 then some (0, μ47) else sh_let (sh_setI μ47 333 (Int32.toNatClampNeg 2) i1) (fun μ51 => sh_bind (f_X12_doesShrug i1 μ51) (fun y54 μ52 => (if y54 = 0 then F_X12_isThird fuel 3 i1 0 μ52 else sh_bind (f_X12_isSo μ52) (fun y58 μ56 => (if y58 = 0 then F_X12_isThird fuel 3 i1 0 μ56 else some (1, μ56)))))))) : Option (Int32 × sh_Mem)) = some (v, μ') := h
      obtain ⟨y49, μ47, hr48, h⟩ := sh_bind_e h
      have hG47 := gp_X12_askingMany hG hr48
      by_cases c50 : y49 ≤ i1
      · rw [if_pos c50] at h
        obtain ⟨e1, e2⟩ := sh_some2 h
        exact e2 ▸ hG47
      · rw [if_neg c50] at h
        obtain ⟨μ51, eμ51⟩ : ∃ y : sh_Mem, y = (sh_setI μ47 333 (Int32.toNatClampNeg 2) i1) := ⟨_, rfl⟩
        rw [sh_let_eq eμ51] at h
        have hG51 : sh_G μ51 := by rw [eμ51]; exact hG47
        obtain ⟨y54, μ52, hr53, h⟩ := sh_bind_e h
        have hG52 := gp_X12_doesShrug hG51 hr53
        by_cases c55 : y54 = 0
        · rw [if_pos c55] at h
          exact ih_62 hG52 h
        · rw [if_neg c55] at h
          obtain ⟨y58, μ56, hr57, h⟩ := sh_bind_e h
          have hG56 := gp_X12_isSo hG52 hr57
          by_cases c59 : y58 = 0
          · rw [if_pos c59] at h
            exact ih_62 hG56 h
          · rw [if_neg c59] at h
            obtain ⟨e1, e2⟩ := sh_some2 h
            exact e2 ▸ hG56
    · intro i1 i2 μ μ' v hG h
      replace h : ((if 71 ≤ i2 then F_X12_isThird fuel 2 (i1 + 1) 0 μ else (if sh_in i2 71 then (if sh_in i2 232 then sh_let (sh_setI μ 330 i2.toNatClampNeg (sh_i μ 335 i2.toNatClampNeg)) (fun μ63 => F_X12_isThird fuel 3 i1 (i2 + 1) μ63) else none) else none)) : Option (Int32 × sh_Mem)) = some (v, μ') := h
      by_cases c60 : 71 ≤ i2
      · rw [if_pos c60] at h
        exact ih_28 hG h
      · rw [if_neg c60] at h
        obtain ⟨k61, h⟩ := sh_chk h
        obtain ⟨k62, h⟩ := sh_chk h
        obtain ⟨μ63, eμ63⟩ : ∃ y : sh_Mem, y = (sh_setI μ 330 i2.toNatClampNeg (sh_i μ 335 i2.toNatClampNeg)) := ⟨_, rfl⟩
        rw [sh_let_eq eμ63] at h
        have hG63 : sh_G μ63 := by rw [eμ63]; exact hG
        exact ih_62 hG63 h
theorem tl_X12_isThird (fuel : Nat) : (∀ ⦃i1 : Int32⦄ ⦃i2 : Int32⦄ ⦃μ μ' : sh_Mem⦄ ⦃v : Int32⦄, sh_G μ → F_X12_isThird fuel 1 i1 i2 μ = some (v, μ') → sh_V0 l B D ca 8 M_X12_isThird 2 [(0, .ref 291), (1, .int i1)] [] μ (fun v0 μ0 => v0 = some (.int v) ∧ μ0 = μ')) ∧ (∀ ⦃i1 : Int32⦄ ⦃i2 : Int32⦄ ⦃μ μ' : sh_Mem⦄ ⦃v : Int32⦄, sh_G μ → F_X12_isThird fuel 2 i1 i2 μ = some (v, μ') → sh_V0 l B D ca 8 M_X12_isThird 28 [(0, .ref 291), (1, .int i1)] [] μ (fun v0 μ0 => v0 = some (.int v) ∧ μ0 = μ')) ∧ (∀ ⦃i1 : Int32⦄ ⦃i2 : Int32⦄ ⦃μ μ' : sh_Mem⦄ ⦃v : Int32⦄, sh_G μ → F_X12_isThird fuel 3 i1 i2 μ = some (v, μ') → sh_V0 l B D ca 8 M_X12_isThird 62 [(0, .ref 291), (1, .int i1), (2, .int i2)] [] μ (fun v0 μ0 => v0 = some (.int v) ∧ μ0 = μ')) := by
  induction fuel with
  | zero => exact ⟨(by intro i1 i2 μ μ' v hG h; cases h), (by intro i1 i2 μ μ' v hG h; cases h), (by intro i1 i2 μ μ' v hG h; cases h)⟩
  | succ fuel ih =>
    obtain ⟨ih_2, ih_28, ih_62⟩ := ih
    refine ⟨?_, ?_, ?_⟩
    · intro i1 i2 μ μ' v hG h
      replace h : ((if 71 ≤ i1 then F_X12_isThird fuel 2 0 0 μ else (if sh_in i1 232 then (if sh_in i1 71 then sh_let (sh_setI μ 335 i1.toNatClampNeg (sh_i μ 330 i1.toNatClampNeg)) (fun μ46 => F_X12_isThird fuel 1 (i1 + 1) 0 μ46) else none) else none)) : Option (Int32 × sh_Mem)) = some (v, μ') := h
      refine vv_iload_n 2 1 dX12_isThird_2 rfl rfl ?_
      refine vv_bipush 3 dX12_isThird_3 bk_71 ?_
      refine vv_icmp_ge 5 26 dX12_isThird_5 (by decide) (fun c43 => ?_) (fun c43 => ?_)
      · rw [if_pos c43] at h
        refine vv_iconst 26 dX12_isThird_26 ik_0 ?_
        refine vv_istore_n (lv' := [(1, _), (0, _)]) 27 1 dX12_isThird_27 rfl (by decide) rfl ?_
        refine vv_sub [(0, _), (1, _)] (sh_subm [1, 0] rfl) ?_
        exact ih_28 hG h
      · rw [if_neg c43] at h
        refine vv_aload_n 8 0 dX12_isThird_8 rfl rfl ?_
        refine vv_getR 9 dX12_isThird_9 fl_12_145 rfl (g_l_291 hG) (g_r_291_64 hG) ?_
        refine vv_iload_n 12 1 dX12_isThird_12 rfl rfl ?_
        refine vv_aload_n 13 0 dX12_isThird_13 rfl rfl ?_
        refine vv_getR 14 dX12_isThird_14 fl_12_130 rfl (g_l_291 hG) (g_r_291_52 hG) ?_
        refine vv_iload_n 17 1 dX12_isThird_17 rfl rfl ?_
        obtain ⟨k44, h⟩ := sh_chk h
        refine vv_iald 18 dX12_isThird_18 (g_l_330 hG) k44 ?_
        obtain ⟨k45, h⟩ := sh_chk h
        refine vn_iast 19 dX12_isThird_19 (g_l_335 hG) k45 (fun μ46 eμ46 => ?_)
        rw [sh_let_eq eμ46] at h
        have hG46 : sh_G μ46 := by rw [eμ46]; exact hG
        refine vv_iincc (lv' := [(1, _), (0, _)]) 20 1 dX12_isThird_20 rfl ik_1 (by decide) rfl ?_
        refine vv_goto 23 2 dX12_isThird_23 (by decide) ?_
        refine vv_sub [(0, _), (1, _)] (sh_subm [1, 0] rfl) ?_
        exact ih_2 hG46 h
    · intro i1 i2 μ μ' v hG h
      replace h : (sh_bind (f_X12_askingMany μ) (fun y49 μ47 => (if y49 ≤ i1 then some (0, μ47) else sh_let (sh_setI μ47 333 (Int32.toNatClampNeg 2) i1) (fun μ51 => sh_bind (f_X12_doesShrug i1 μ51) (fun y54 μ52 => (if y54 = 0 then F_X12_isThird fuel 3 i1 0 μ52 else sh_bind (f_X12_isSo μ52) (fun y58 μ56 => (if y58 = 0 then F_X12_isThird fuel 3 i1 0 μ56 else some (1, μ56)))))))) : Option (Int32 × sh_Mem)) = some (v, μ') := h
      refine vv_iload_n 28 1 dX12_isThird_28 rfl rfl ?_
      refine vv_aload_n 29 0 dX12_isThird_29 rfl rfl ?_
      obtain ⟨y49, μ47, hr48, h⟩ := sh_bind_e h
      refine v1_callV [] 30 dX12_isThird_30 ck_X12_545 (g_l_291 hG) ⟨by decide, rfl⟩ (t_X12_askingMany hG hr48) (Nat.le_of_ble_eq_true rfl) ⟨Nat.le_of_ble_eq_true rfl, Nat.le_of_ble_eq_true rfl⟩ rfl (Nat.le_of_ble_eq_true rfl) ?_
      have hG47 := gp_X12_askingMany hG hr48
      refine vv_icmp_ge 33 92 dX12_isThird_33 (by decide) (fun c50 => ?_) (fun c50 => ?_)
      · rw [if_pos c50] at h
        refine vv_iconst 92 dX12_isThird_92 ik_0 ?_
        obtain ⟨e1, e2⟩ := sh_some2 h
        refine vv_zret 93 dX12_isThird_93 rfl rfl (Nat.le_refl _) (Nat.le_refl _) ⟨by rw [e1], e2⟩
      · rw [if_neg c50] at h
        refine vv_aload_n 36 0 dX12_isThird_36 rfl rfl ?_
        refine vv_getR 37 dX12_isThird_37 fl_12_139 rfl (g_l_291 hG47) (g_r_291_62 hG47) ?_
        refine vv_iconst 40 dX12_isThird_40 ik_2 ?_
        refine vv_iload_n 41 1 dX12_isThird_41 rfl rfl ?_
        refine vn_iast 42 dX12_isThird_42 (g_l_333 hG47) (by unfold vp_in; decide) (fun μ51 eμ51 => ?_)
        rw [sh_let_eq eμ51] at h
        have hG51 : sh_G μ51 := by rw [eμ51]; exact hG47
        refine vv_aload_n 43 0 dX12_isThird_43 rfl rfl ?_
        refine vv_iload_n 44 1 dX12_isThird_44 rfl rfl ?_
        obtain ⟨y54, μ52, hr53, h⟩ := sh_bind_e h
        refine v1_callV [_] 45 dX12_isThird_45 ck_X12_548 (g_l_291 hG51) ⟨by decide, rfl⟩ (t_X12_doesShrug hG51 hr53) (Nat.le_of_ble_eq_true rfl) ⟨Nat.le_of_ble_eq_true rfl, Nat.le_of_ble_eq_true rfl⟩ rfl (Nat.le_of_ble_eq_true rfl) ?_
        have hG52 := gp_X12_doesShrug hG51 hr53
        refine vv_if_eq 48 60 dX12_isThird_48 (by decide) (fun c55 => ?_) (fun c55 => ?_)
        · rw [if_pos c55] at h
          refine vv_iconst 60 dX12_isThird_60 ik_0 ?_
          refine vv_istore_n (lv' := [(2, _), (0, _), (1, _)]) 61 2 dX12_isThird_61 rfl (by decide) rfl ?_
          refine vv_sub [(0, _), (1, _), (2, _)] (sh_subm [1, 2, 0] rfl) ?_
          exact ih_62 hG52 h
        · rw [if_neg c55] at h
          refine vv_aload_n 51 0 dX12_isThird_51 rfl rfl ?_
          obtain ⟨y58, μ56, hr57, h⟩ := sh_bind_e h
          refine v1_callV [] 52 dX12_isThird_52 ck_X12_551 (g_l_291 hG52) ⟨by decide, rfl⟩ (t_X12_isSo hG52 hr57) (Nat.le_of_ble_eq_true rfl) ⟨Nat.le_of_ble_eq_true rfl, Nat.le_of_ble_eq_true rfl⟩ rfl (Nat.le_of_ble_eq_true rfl) ?_
          have hG56 := gp_X12_isSo hG52 hr57
          refine vv_if_eq 55 60 dX12_isThird_55 (by decide) (fun c59 => ?_) (fun c59 => ?_)
          · rw [if_pos c59] at h
            refine vv_iconst 60 dX12_isThird_60 ik_0 ?_
            refine vv_istore_n (lv' := [(2, _), (0, _), (1, _)]) 61 2 dX12_isThird_61 rfl (by decide) rfl ?_
            refine vv_sub [(0, _), (1, _), (2, _)] (sh_subm [1, 2, 0] rfl) ?_
            exact ih_62 hG56 h
          · rw [if_neg c59] at h
            refine vv_iconst 58 dX12_isThird_58 ik_1 ?_
            obtain ⟨e1, e2⟩ := sh_some2 h
            refine vv_zret 59 dX12_isThird_59 rfl rfl (Nat.le_refl _) (Nat.le_refl _) ⟨by rw [e1], e2⟩
    · intro i1 i2 μ μ' v hG h
      replace h : ((if 71 ≤ i2 then F_X12_isThird fuel 2 (i1 + 1) 0 μ else (if sh_in i2 71 then (if sh_in i2 232 then sh_let (sh_setI μ 330 i2.toNatClampNeg (sh_i μ 335 i2.toNatClampNeg)) (fun μ63 => F_X12_isThird fuel 3 i1 (i2 + 1) μ63) else none) else none)) : Option (Int32 × sh_Mem)) = some (v, μ') := h
      refine vv_iload_n 62 2 dX12_isThird_62 rfl rfl ?_
      refine vv_bipush 63 dX12_isThird_63 bk_71 ?_
      refine vv_icmp_ge 65 86 dX12_isThird_65 (by decide) (fun c60 => ?_) (fun c60 => ?_)
      · rw [if_pos c60] at h
        refine vv_iincc (lv' := [(1, _), (0, _), (2, _)]) 86 1 dX12_isThird_86 rfl ik_1 (by decide) rfl ?_
        refine vv_goto 89 28 dX12_isThird_89 (by decide) ?_
        refine vv_sub [(0, _), (1, _)] (sh_subm [1, 0] rfl) ?_
        exact ih_28 hG h
      · rw [if_neg c60] at h
        refine vv_aload_n 68 0 dX12_isThird_68 rfl rfl ?_
        refine vv_getR 69 dX12_isThird_69 fl_12_130 rfl (g_l_291 hG) (g_r_291_52 hG) ?_
        refine vv_iload_n 72 2 dX12_isThird_72 rfl rfl ?_
        refine vv_aload_n 73 0 dX12_isThird_73 rfl rfl ?_
        refine vv_getR 74 dX12_isThird_74 fl_12_145 rfl (g_l_291 hG) (g_r_291_64 hG) ?_
        refine vv_iload_n 77 2 dX12_isThird_77 rfl rfl ?_
        obtain ⟨k61, h⟩ := sh_chk h
        refine vv_iald 78 dX12_isThird_78 (g_l_335 hG) k61 ?_
        obtain ⟨k62, h⟩ := sh_chk h
        refine vn_iast 79 dX12_isThird_79 (g_l_330 hG) k62 (fun μ63 eμ63 => ?_)
        rw [sh_let_eq eμ63] at h
        have hG63 : sh_G μ63 := by rw [eμ63]; exact hG
        refine vv_iincc (lv' := [(2, _), (0, _), (1, _)]) 80 2 dX12_isThird_80 rfl ik_1 (by decide) rfl ?_
        refine vv_goto 83 62 dX12_isThird_83 (by decide) ?_
        refine vv_sub [(0, _), (1, _), (2, _)] (sh_subm [1, 2, 0] rfl) ?_
        exact ih_62 hG63 h
theorem gp_X12_isThird {μ μ' : sh_Mem} {v : Int32} (hG : sh_G μ) (h : f_X12_isThird μ = some (v, μ')) : sh_G μ' := by
  have ih_2 := (gpl_X12_isThird sh_fuel).1
  have ih_28 := (gpl_X12_isThird sh_fuel).2.1
  have ih_62 := (gpl_X12_isThird sh_fuel).2.2
  unfold f_X12_isThird at h
  exact ih_2 hG h
theorem t_X12_isThird {μ μ' : sh_Mem} {v : Int32} (hG : sh_G μ) (h : f_X12_isThird μ = some (v, μ')) : sh_C0 l B D ca 8 M_X12_isThird [.ref 291] μ (fun v0 μ0 => v0 = some (.int v) ∧ μ0 = μ') := by
  have ih_2 := (tl_X12_isThird (l := l) (B := B) (D := D) (ca := ca) sh_fuel).1
  have ih_28 := (tl_X12_isThird (l := l) (B := B) (D := D) (ca := ca) sh_fuel).2.1
  have ih_62 := (tl_X12_isThird (l := l) (B := B) (D := D) (ca := ca) sh_fuel).2.2
  unfold f_X12_isThird at h
  refine vv_iconst 0 dX12_isThird_0 ik_0 ?_
  refine vv_istore_n (lv' := [(1, _), (0, _)]) 1 1 dX12_isThird_1 rfl (by decide) rfl ?_
  refine vv_sub [(0, _), (1, _)] (sh_subm [1, 0] rfl) ?_
  exact ih_2 hG h
noncomputable def F_X12_isThree : Nat → Nat → Int32 → Int32 → Int32 → Int32 → sh_Mem → Option (Int32 × sh_Mem)
  | 0, _, _, _, _, _, _ => none
  | fuel + 1, lbl, i1, i2, i3, i4, μ => match lbl with
    | 1 => sh_bind (f_X12_askingMany μ) (fun y75 μ73 => (if y75 ≤ i1 then some (0, μ73) else sh_let (sh_setI μ73 333 (Int32.toNatClampNeg 0) i1) (fun μ77 => sh_bind (f_X12_doesShrug i1 μ77) (fun y80 μ78 => F_X12_isThree fuel 2 i1 y80 0 0 μ78))))
    | 2 => (if 71 ≤ i3 then F_X12_isThree fuel 3 i1 i2 0 0 μ else (if sh_in i3 232 then (if sh_in i3 71 then sh_let (sh_setI μ 334 i3.toNatClampNeg (sh_i μ 330 i3.toNatClampNeg)) (fun μ84 => F_X12_isThree fuel 2 i1 i2 (i3 + 1) 0 μ84) else none) else none))
    | 3 => sh_bind (f_X12_askingMany μ) (fun y87 μ85 => (if y87 ≤ i3 then sh_bindv (f_X12_triesAnew μ85) (fun μ89 => F_X12_isThree fuel 1 (i1 + 1) 0 0 0 μ89) else (if i2 = 0 then sh_bindv (f_X12_triesAnew μ85) (fun μ93 => F_X12_isThree fuel 1 (i1 + 1) 0 0 0 μ93) else sh_let (sh_setI μ85 333 (Int32.toNatClampNeg 1) i3) (fun μ96 => sh_bind (f_X12_doesShrug i3 μ96) (fun y99 μ97 => (if y99 = 0 then F_X12_isThree fuel 4 i1 i2 i3 0 μ97 else sh_bind (f_X12_isThird μ97) (fun y103 μ101 => (if y103 = 0 then F_X12_isThree fuel 4 i1 i2 i3 0 μ101 else some (1, μ101)))))))))
    | 4 => (if 71 ≤ i4 then F_X12_isThree fuel 3 i1 i2 (i3 + 1) 0 μ else (if sh_in i4 71 then (if sh_in i4 232 then sh_let (sh_setI μ 330 i4.toNatClampNeg (sh_i μ 334 i4.toNatClampNeg)) (fun μ108 => F_X12_isThree fuel 4 i1 i2 i3 (i4 + 1) μ108) else none) else none))
    | _ => none
noncomputable def f_X12_isThree (μ : sh_Mem) : Option (Int32 × sh_Mem) := F_X12_isThree sh_fuel 1 0 0 0 0 μ
theorem gpl_X12_isThree (fuel : Nat) : (∀ ⦃i1 : Int32⦄ ⦃i2 : Int32⦄ ⦃i3 : Int32⦄ ⦃i4 : Int32⦄ ⦃μ μ' : sh_Mem⦄ ⦃v : Int32⦄, sh_G μ → F_X12_isThree fuel 1 i1 i2 i3 i4 μ = some (v, μ') → sh_G μ') ∧ (∀ ⦃i1 : Int32⦄ ⦃i2 : Int32⦄ ⦃i3 : Int32⦄ ⦃i4 : Int32⦄ ⦃μ μ' : sh_Mem⦄ ⦃v : Int32⦄, sh_G μ → F_X12_isThree fuel 2 i1 i2 i3 i4 μ = some (v, μ') → sh_G μ') ∧ (∀ ⦃i1 : Int32⦄ ⦃i2 : Int32⦄ ⦃i3 : Int32⦄ ⦃i4 : Int32⦄ ⦃μ μ' : sh_Mem⦄ ⦃v : Int32⦄, sh_G μ → F_X12_isThree fuel 3 i1 i2 i3 i4 μ = some (v, μ') → sh_G μ') ∧ (∀ ⦃i1 : Int32⦄ ⦃i2 : Int32⦄ ⦃i3 : Int32⦄ ⦃i4 : Int32⦄ ⦃μ μ' : sh_Mem⦄ ⦃v : Int32⦄, sh_G μ → F_X12_isThree fuel 4 i1 i2 i3 i4 μ = some (v, μ') → sh_G μ') := by
  induction fuel with
  | zero => exact ⟨(by intro i1 i2 i3 i4 μ μ' v hG h; cases h), (by intro i1 i2 i3 i4 μ μ' v hG h; cases h), (by intro i1 i2 i3 i4 μ μ' v hG h; cases h), (by intro i1 i2 i3 i4 μ μ' v hG h; cases h)⟩
  | succ fuel ih =>
    obtain ⟨ih_2, ih_25, ih_51, ih_90⟩ := ih
    refine ⟨?_, ?_, ?_, ?_⟩
    · intro i1 i2 i3 i4 μ μ' v hG h
      replace h : (sh_bind (f_X12_askingMany μ) (fun y75 μ73 => (if y75 ≤ i1 then some (0, μ73) else sh_let (sh_setI μ73 333 (Int32.toNatClampNeg 0) i1) (fun μ77 => sh_bind (f_X12_doesShrug i1 μ77) (fun y80 μ78 => F_X12_isThree fuel 2 i1 y80 0 0 μ78)))) : Option (Int32 × sh_Mem)) = some (v, μ') := h
      obtain ⟨y75, μ73, hr74, h⟩ := sh_bind_e h
      have hG73 := gp_X12_askingMany hG hr74
      by_cases c76 : y75 ≤ i1
      · rw [if_pos c76] at h
        obtain ⟨e1, e2⟩ := sh_some2 h
        exact e2 ▸ hG73
      · rw [if_neg c76] at h
        obtain ⟨μ77, eμ77⟩ : ∃ y : sh_Mem, y = (sh_setI μ73 333 (Int32.toNatClampNeg 0) i1) := ⟨_, rfl⟩
        rw [sh_let_eq eμ77] at h
        have hG77 : sh_G μ77 := by rw [eμ77]; exact hG73
        obtain ⟨y80, μ78, hr79, h⟩ := sh_bind_e h
        have hG78 := gp_X12_doesShrug hG77 hr79
        exact ih_25 hG78 h
    · intro i1 i2 i3 i4 μ μ' v hG h
      replace h : ((if 71 ≤ i3 then F_X12_isThree fuel 3 i1 i2 0 0 μ else (if sh_in i3 232 then (if sh_in i3 71 then sh_let (sh_setI μ 334 i3.toNatClampNeg (sh_i μ 330 i3.toNatClampNeg)) (fun μ84 => F_X12_isThree fuel 2 i1 i2 (i3 + 1) 0 μ84) else none) else none)) : Option (Int32 × sh_Mem)) = some (v, μ') := h
      by_cases c81 : 71 ≤ i3
      · rw [if_pos c81] at h
        exact ih_51 hG h
      · rw [if_neg c81] at h
        obtain ⟨k82, h⟩ := sh_chk h
        obtain ⟨k83, h⟩ := sh_chk h
        obtain ⟨μ84, eμ84⟩ : ∃ y : sh_Mem, y = (sh_setI μ 334 i3.toNatClampNeg (sh_i μ 330 i3.toNatClampNeg)) := ⟨_, rfl⟩
        rw [sh_let_eq eμ84] at h
        have hG84 : sh_G μ84 := by rw [eμ84]; exact hG
        exact ih_25 hG84 h
    · intro i1 i2 i3 i4 μ μ' v hG h
      replace h : (sh_bind (f_X12_askingMany μ) (fun y87 μ85 => (if y87 ≤ i3 then sh_bindv (f_X12_triesAnew μ85) (fun μ89 => F_X12_isThree fuel 1 (i1 + 1) 0 0 0 μ89) else (if i2 = 0 then sh_bindv (f_X12_triesAnew μ85) (fun μ93 => F_X12_isThree fuel 1 (i1 + 1) 0 0 0 μ93) else sh_let (sh_setI μ85 333 (Int32.toNatClampNeg 1) i3) (fun μ96 => sh_bind (f_X12_doesShrug i3 μ96) (fun y99 μ97 => (if y99 = 0 then F_X12_isThree fuel 4 i1 i2 i3 0 μ97 else sh_bind (f_X12_isThird μ97) (fun y103 μ101 => (if y103 = 0 then F_X12_isThree fuel 4 i1 i2 i3 0 μ101 else some (1, μ101))))))))) : Option (Int32 × sh_Mem)) = some (v, μ') := h
      obtain ⟨y87, μ85, hr86, h⟩ := sh_bind_e h
      have hG85 := gp_X12_askingMany hG hr86
      by_cases c88 : y87 ≤ i3
      · rw [if_pos c88] at h
        obtain ⟨μ89, hr90, h⟩ := sh_bindv_e h
        have hG89 := gp_X12_triesAnew hG85 hr90
        exact ih_2 hG89 h
      · rw [if_neg c88] at h
        by_cases c92 : i2 = 0
        · rw [if_pos c92] at h
          obtain ⟨μ93, hr94, h⟩ := sh_bindv_e h
          have hG93 := gp_X12_triesAnew hG85 hr94
          exact ih_2 hG93 h
        · rw [if_neg c92] at h
          obtain ⟨μ96, eμ96⟩ : ∃ y : sh_Mem, y = (sh_setI μ85 333 (Int32.toNatClampNeg 1) i3) := ⟨_, rfl⟩
          rw [sh_let_eq eμ96] at h
          have hG96 : sh_G μ96 := by rw [eμ96]; exact hG85
          obtain ⟨y99, μ97, hr98, h⟩ := sh_bind_e h
          have hG97 := gp_X12_doesShrug hG96 hr98
          by_cases c100 : y99 = 0
          · rw [if_pos c100] at h
            exact ih_90 hG97 h
          · rw [if_neg c100] at h
            obtain ⟨y103, μ101, hr102, h⟩ := sh_bind_e h
            have hG101 := gp_X12_isThird hG97 hr102
            by_cases c104 : y103 = 0
            · rw [if_pos c104] at h
              exact ih_90 hG101 h
            · rw [if_neg c104] at h
              obtain ⟨e1, e2⟩ := sh_some2 h
              exact e2 ▸ hG101
    · intro i1 i2 i3 i4 μ μ' v hG h
      replace h : ((if 71 ≤ i4 then F_X12_isThree fuel 3 i1 i2 (i3 + 1) 0 μ else (if sh_in i4 71 then (if sh_in i4 232 then sh_let (sh_setI μ 330 i4.toNatClampNeg (sh_i μ 334 i4.toNatClampNeg)) (fun μ108 => F_X12_isThree fuel 4 i1 i2 i3 (i4 + 1) μ108) else none) else none)) : Option (Int32 × sh_Mem)) = some (v, μ') := h
      by_cases c105 : 71 ≤ i4
      · rw [if_pos c105] at h
        exact ih_51 hG h
      · rw [if_neg c105] at h
        obtain ⟨k106, h⟩ := sh_chk h
        obtain ⟨k107, h⟩ := sh_chk h
        obtain ⟨μ108, eμ108⟩ : ∃ y : sh_Mem, y = (sh_setI μ 330 i4.toNatClampNeg (sh_i μ 334 i4.toNatClampNeg)) := ⟨_, rfl⟩
        rw [sh_let_eq eμ108] at h
        have hG108 : sh_G μ108 := by rw [eμ108]; exact hG
        exact ih_90 hG108 h
theorem tl_X12_isThree (fuel : Nat) : (∀ ⦃i1 : Int32⦄ ⦃i2 : Int32⦄ ⦃i3 : Int32⦄ ⦃i4 : Int32⦄ ⦃μ μ' : sh_Mem⦄ ⦃v : Int32⦄, sh_G μ → F_X12_isThree fuel 1 i1 i2 i3 i4 μ = some (v, μ') → sh_V0 l B D ca 9 M_X12_isThree 2 [(0, .ref 291), (1, .int i1)] [] μ (fun v0 μ0 => v0 = some (.int v) ∧ μ0 = μ')) ∧ (∀ ⦃i1 : Int32⦄ ⦃i2 : Int32⦄ ⦃i3 : Int32⦄ ⦃i4 : Int32⦄ ⦃μ μ' : sh_Mem⦄ ⦃v : Int32⦄, sh_G μ → F_X12_isThree fuel 2 i1 i2 i3 i4 μ = some (v, μ') → sh_V0 l B D ca 9 M_X12_isThree 25 [(0, .ref 291), (1, .int i1), (2, .int i2), (3, .int i3)] [] μ (fun v0 μ0 => v0 = some (.int v) ∧ μ0 = μ')) ∧ (∀ ⦃i1 : Int32⦄ ⦃i2 : Int32⦄ ⦃i3 : Int32⦄ ⦃i4 : Int32⦄ ⦃μ μ' : sh_Mem⦄ ⦃v : Int32⦄, sh_G μ → F_X12_isThree fuel 3 i1 i2 i3 i4 μ = some (v, μ') → sh_V0 l B D ca 9 M_X12_isThree 51 [(0, .ref 291), (1, .int i1), (2, .int i2), (3, .int i3)] [] μ (fun v0 μ0 => v0 = some (.int v) ∧ μ0 = μ')) ∧ (∀ ⦃i1 : Int32⦄ ⦃i2 : Int32⦄ ⦃i3 : Int32⦄ ⦃i4 : Int32⦄ ⦃μ μ' : sh_Mem⦄ ⦃v : Int32⦄, sh_G μ → F_X12_isThree fuel 4 i1 i2 i3 i4 μ = some (v, μ') → sh_V0 l B D ca 9 M_X12_isThree 90 [(0, .ref 291), (1, .int i1), (2, .int i2), (3, .int i3), (4, .int i4)] [] μ (fun v0 μ0 => v0 = some (.int v) ∧ μ0 = μ')) := by
  induction fuel with
  | zero => exact ⟨(by intro i1 i2 i3 i4 μ μ' v hG h; cases h), (by intro i1 i2 i3 i4 μ μ' v hG h; cases h), (by intro i1 i2 i3 i4 μ μ' v hG h; cases h), (by intro i1 i2 i3 i4 μ μ' v hG h; cases h)⟩
  | succ fuel ih =>
    obtain ⟨ih_2, ih_25, ih_51, ih_90⟩ := ih
    refine ⟨?_, ?_, ?_, ?_⟩
    · intro i1 i2 i3 i4 μ μ' v hG h
      replace h : (sh_bind (f_X12_askingMany μ) (fun y75 μ73 => (if y75 ≤ i1 then some (0, μ73) else sh_let (sh_setI μ73 333 (Int32.toNatClampNeg 0) i1) (fun μ77 => sh_bind (f_X12_doesShrug i1 μ77) (fun y80 μ78 => F_X12_isThree fuel 2 i1 y80 0 0 μ78)))) : Option (Int32 × sh_Mem)) = some (v, μ') := h
      refine vv_iload_n 2 1 dX12_isThree_2 rfl rfl ?_
      refine vv_aload_n 3 0 dX12_isThree_3 rfl rfl ?_
      obtain ⟨y75, μ73, hr74, h⟩ := sh_bind_e h
      refine v1_callV [] 4 dX12_isThree_4 ck_X12_545 (g_l_291 hG) ⟨by decide, rfl⟩ (t_X12_askingMany hG hr74) (Nat.le_of_ble_eq_true rfl) ⟨Nat.le_of_ble_eq_true rfl, Nat.le_of_ble_eq_true rfl⟩ rfl (Nat.le_of_ble_eq_true rfl) ?_
      have hG73 := gp_X12_askingMany hG hr74
      refine vv_icmp_ge 7 133 dX12_isThree_7 (by decide) (fun c76 => ?_) (fun c76 => ?_)
      · rw [if_pos c76] at h
        refine vv_iconst 133 dX12_isThree_133 ik_0 ?_
        obtain ⟨e1, e2⟩ := sh_some2 h
        refine vv_zret 134 dX12_isThree_134 rfl rfl (Nat.le_refl _) (Nat.le_refl _) ⟨by rw [e1], e2⟩
      · rw [if_neg c76] at h
        refine vv_aload_n 10 0 dX12_isThree_10 rfl rfl ?_
        refine vv_getR 11 dX12_isThree_11 fl_12_139 rfl (g_l_291 hG73) (g_r_291_62 hG73) ?_
        refine vv_iconst 14 dX12_isThree_14 ik_0 ?_
        refine vv_iload_n 15 1 dX12_isThree_15 rfl rfl ?_
        refine vn_iast 16 dX12_isThree_16 (g_l_333 hG73) (by unfold vp_in; decide) (fun μ77 eμ77 => ?_)
        rw [sh_let_eq eμ77] at h
        have hG77 : sh_G μ77 := by rw [eμ77]; exact hG73
        refine vv_aload_n 17 0 dX12_isThree_17 rfl rfl ?_
        refine vv_iload_n 18 1 dX12_isThree_18 rfl rfl ?_
        obtain ⟨y80, μ78, hr79, h⟩ := sh_bind_e h
        refine v1_callV [_] 19 dX12_isThree_19 ck_X12_548 (g_l_291 hG77) ⟨by decide, rfl⟩ (t_X12_doesShrug hG77 hr79) (Nat.le_of_ble_eq_true rfl) ⟨Nat.le_of_ble_eq_true rfl, Nat.le_of_ble_eq_true rfl⟩ rfl (Nat.le_of_ble_eq_true rfl) ?_
        have hG78 := gp_X12_doesShrug hG77 hr79
        refine vv_istore_n (lv' := [(2, _), (0, _), (1, _)]) 22 2 dX12_isThree_22 rfl (by decide) rfl ?_
        refine vv_iconst 23 dX12_isThree_23 ik_0 ?_
        refine vv_istore_n (lv' := [(3, _), (2, _), (0, _), (1, _)]) 24 3 dX12_isThree_24 rfl (by decide) rfl ?_
        refine vv_sub [(0, _), (1, _), (2, _), (3, _)] (sh_subm [2, 3, 1, 0] rfl) ?_
        exact ih_25 hG78 h
    · intro i1 i2 i3 i4 μ μ' v hG h
      replace h : ((if 71 ≤ i3 then F_X12_isThree fuel 3 i1 i2 0 0 μ else (if sh_in i3 232 then (if sh_in i3 71 then sh_let (sh_setI μ 334 i3.toNatClampNeg (sh_i μ 330 i3.toNatClampNeg)) (fun μ84 => F_X12_isThree fuel 2 i1 i2 (i3 + 1) 0 μ84) else none) else none)) : Option (Int32 × sh_Mem)) = some (v, μ') := h
      refine vv_iload_n 25 3 dX12_isThree_25 rfl rfl ?_
      refine vv_bipush 26 dX12_isThree_26 bk_71 ?_
      refine vv_icmp_ge 28 49 dX12_isThree_28 (by decide) (fun c81 => ?_) (fun c81 => ?_)
      · rw [if_pos c81] at h
        refine vv_iconst 49 dX12_isThree_49 ik_0 ?_
        refine vv_istore_n (lv' := [(3, _), (0, _), (1, _), (2, _)]) 50 3 dX12_isThree_50 rfl (by decide) rfl ?_
        refine vv_sub [(0, _), (1, _), (2, _), (3, _)] (sh_subm [1, 2, 3, 0] rfl) ?_
        exact ih_51 hG h
      · rw [if_neg c81] at h
        refine vv_aload_n 31 0 dX12_isThree_31 rfl rfl ?_
        refine vv_getR 32 dX12_isThree_32 fl_12_142 rfl (g_l_291 hG) (g_r_291_63 hG) ?_
        refine vv_iload_n 35 3 dX12_isThree_35 rfl rfl ?_
        refine vv_aload_n 36 0 dX12_isThree_36 rfl rfl ?_
        refine vv_getR 37 dX12_isThree_37 fl_12_130 rfl (g_l_291 hG) (g_r_291_52 hG) ?_
        refine vv_iload_n 40 3 dX12_isThree_40 rfl rfl ?_
        obtain ⟨k82, h⟩ := sh_chk h
        refine vv_iald 41 dX12_isThree_41 (g_l_330 hG) k82 ?_
        obtain ⟨k83, h⟩ := sh_chk h
        refine vn_iast 42 dX12_isThree_42 (g_l_334 hG) k83 (fun μ84 eμ84 => ?_)
        rw [sh_let_eq eμ84] at h
        have hG84 : sh_G μ84 := by rw [eμ84]; exact hG
        refine vv_iincc (lv' := [(3, _), (0, _), (1, _), (2, _)]) 43 3 dX12_isThree_43 rfl ik_1 (by decide) rfl ?_
        refine vv_goto 46 25 dX12_isThree_46 (by decide) ?_
        refine vv_sub [(0, _), (1, _), (2, _), (3, _)] (sh_subm [1, 2, 3, 0] rfl) ?_
        exact ih_25 hG84 h
    · intro i1 i2 i3 i4 μ μ' v hG h
      replace h : (sh_bind (f_X12_askingMany μ) (fun y87 μ85 => (if y87 ≤ i3 then sh_bindv (f_X12_triesAnew μ85) (fun μ89 => F_X12_isThree fuel 1 (i1 + 1) 0 0 0 μ89) else (if i2 = 0 then sh_bindv (f_X12_triesAnew μ85) (fun μ93 => F_X12_isThree fuel 1 (i1 + 1) 0 0 0 μ93) else sh_let (sh_setI μ85 333 (Int32.toNatClampNeg 1) i3) (fun μ96 => sh_bind (f_X12_doesShrug i3 μ96) (fun y99 μ97 => (if y99 = 0 then F_X12_isThree fuel 4 i1 i2 i3 0 μ97 else sh_bind (f_X12_isThird μ97) (fun y103 μ101 => (if y103 = 0 then F_X12_isThree fuel 4 i1 i2 i3 0 μ101 else some (1, μ101))))))))) : Option (Int32 × sh_Mem)) = some (v, μ') := h
      refine vv_iload_n 51 3 dX12_isThree_51 rfl rfl ?_
      refine vv_aload_n 52 0 dX12_isThree_52 rfl rfl ?_
      obtain ⟨y87, μ85, hr86, h⟩ := sh_bind_e h
      refine v1_callV [] 53 dX12_isThree_53 ck_X12_545 (g_l_291 hG) ⟨by decide, rfl⟩ (t_X12_askingMany hG hr86) (Nat.le_of_ble_eq_true rfl) ⟨Nat.le_of_ble_eq_true rfl, Nat.le_of_ble_eq_true rfl⟩ rfl (Nat.le_of_ble_eq_true rfl) ?_
      have hG85 := gp_X12_askingMany hG hr86
      refine vv_icmp_ge 56 123 dX12_isThree_56 (by decide) (fun c88 => ?_) (fun c88 => ?_)
      · rw [if_pos c88] at h
        refine vv_aload_n 123 0 dX12_isThree_123 rfl rfl ?_
        obtain ⟨μ89, hr90, h⟩ := sh_bindv_e h
        refine v1_callV [] 124 dX12_isThree_124 ck_X12_504 (g_l_291 hG85) ⟨by decide, rfl⟩ (t_X12_triesAnew hG85 hr90) (Nat.le_of_ble_eq_true rfl) ⟨Nat.le_of_ble_eq_true rfl, Nat.le_of_ble_eq_true rfl⟩ rfl (Nat.le_of_ble_eq_true rfl) ?_
        have hG89 := gp_X12_triesAnew hG85 hr90
        refine vv_iincc (lv' := [(1, _), (0, _), (2, _), (3, _)]) 127 1 dX12_isThree_127 rfl ik_1 (by decide) rfl ?_
        refine vv_goto 130 2 dX12_isThree_130 (by decide) ?_
        refine vv_sub [(0, _), (1, _)] (sh_subm [1, 0] rfl) ?_
        exact ih_2 hG89 h
      · rw [if_neg c88] at h
        refine vv_iload_n 59 2 dX12_isThree_59 rfl rfl ?_
        refine vv_if_eq 60 123 dX12_isThree_60 (by decide) (fun c92 => ?_) (fun c92 => ?_)
        · rw [if_pos c92] at h
          refine vv_aload_n 123 0 dX12_isThree_123 rfl rfl ?_
          obtain ⟨μ93, hr94, h⟩ := sh_bindv_e h
          refine v1_callV [] 124 dX12_isThree_124 ck_X12_504 (g_l_291 hG85) ⟨by decide, rfl⟩ (t_X12_triesAnew hG85 hr94) (Nat.le_of_ble_eq_true rfl) ⟨Nat.le_of_ble_eq_true rfl, Nat.le_of_ble_eq_true rfl⟩ rfl (Nat.le_of_ble_eq_true rfl) ?_
          have hG93 := gp_X12_triesAnew hG85 hr94
          refine vv_iincc (lv' := [(1, _), (0, _), (2, _), (3, _)]) 127 1 dX12_isThree_127 rfl ik_1 (by decide) rfl ?_
          refine vv_goto 130 2 dX12_isThree_130 (by decide) ?_
          refine vv_sub [(0, _), (1, _)] (sh_subm [1, 0] rfl) ?_
          exact ih_2 hG93 h
        · rw [if_neg c92] at h
          refine vv_aload_n 63 0 dX12_isThree_63 rfl rfl ?_
          refine vv_getR 64 dX12_isThree_64 fl_12_139 rfl (g_l_291 hG85) (g_r_291_62 hG85) ?_
          refine vv_iconst 67 dX12_isThree_67 ik_1 ?_
          refine vv_iload_n 68 3 dX12_isThree_68 rfl rfl ?_
          refine vn_iast 69 dX12_isThree_69 (g_l_333 hG85) (by unfold vp_in; decide) (fun μ96 eμ96 => ?_)
          rw [sh_let_eq eμ96] at h
          have hG96 : sh_G μ96 := by rw [eμ96]; exact hG85
          refine vv_aload_n 70 0 dX12_isThree_70 rfl rfl ?_
          refine vv_iload_n 71 3 dX12_isThree_71 rfl rfl ?_
          obtain ⟨y99, μ97, hr98, h⟩ := sh_bind_e h
          refine v1_callV [_] 72 dX12_isThree_72 ck_X12_548 (g_l_291 hG96) ⟨by decide, rfl⟩ (t_X12_doesShrug hG96 hr98) (Nat.le_of_ble_eq_true rfl) ⟨Nat.le_of_ble_eq_true rfl, Nat.le_of_ble_eq_true rfl⟩ rfl (Nat.le_of_ble_eq_true rfl) ?_
          have hG97 := gp_X12_doesShrug hG96 hr98
          refine vv_if_eq 75 87 dX12_isThree_75 (by decide) (fun c100 => ?_) (fun c100 => ?_)
          · rw [if_pos c100] at h
            refine vv_iconst 87 dX12_isThree_87 ik_0 ?_
            refine vv_istore (lv' := [(4, _), (0, _), (1, _), (2, _), (3, _)]) 88 4 dX12_isThree_88 (by decide) rfl ?_
            refine vv_sub [(0, _), (1, _), (2, _), (3, _), (4, _)] (sh_subm [1, 2, 3, 4, 0] rfl) ?_
            exact ih_90 hG97 h
          · rw [if_neg c100] at h
            refine vv_aload_n 78 0 dX12_isThree_78 rfl rfl ?_
            obtain ⟨y103, μ101, hr102, h⟩ := sh_bind_e h
            refine v1_callV [] 79 dX12_isThree_79 ck_X12_554 (g_l_291 hG97) ⟨by decide, rfl⟩ (t_X12_isThird hG97 hr102) (Nat.le_of_ble_eq_true rfl) ⟨Nat.le_of_ble_eq_true rfl, Nat.le_of_ble_eq_true rfl⟩ rfl (Nat.le_of_ble_eq_true rfl) ?_
            have hG101 := gp_X12_isThird hG97 hr102
            refine vv_if_eq 82 87 dX12_isThree_82 (by decide) (fun c104 => ?_) (fun c104 => ?_)
            · rw [if_pos c104] at h
              refine vv_iconst 87 dX12_isThree_87 ik_0 ?_
              refine vv_istore (lv' := [(4, _), (0, _), (1, _), (2, _), (3, _)]) 88 4 dX12_isThree_88 (by decide) rfl ?_
              refine vv_sub [(0, _), (1, _), (2, _), (3, _), (4, _)] (sh_subm [1, 2, 3, 4, 0] rfl) ?_
              exact ih_90 hG101 h
            · rw [if_neg c104] at h
              refine vv_iconst 85 dX12_isThree_85 ik_1 ?_
              obtain ⟨e1, e2⟩ := sh_some2 h
              refine vv_zret 86 dX12_isThree_86 rfl rfl (Nat.le_refl _) (Nat.le_refl _) ⟨by rw [e1], e2⟩
    · intro i1 i2 i3 i4 μ μ' v hG h
      replace h : ((if 71 ≤ i4 then F_X12_isThree fuel 3 i1 i2 (i3 + 1) 0 μ else (if sh_in i4 71 then (if sh_in i4 232 then sh_let (sh_setI μ 330 i4.toNatClampNeg (sh_i μ 334 i4.toNatClampNeg)) (fun μ108 => F_X12_isThree fuel 4 i1 i2 i3 (i4 + 1) μ108) else none) else none)) : Option (Int32 × sh_Mem)) = some (v, μ') := h
      refine vv_iload 90 4 dX12_isThree_90 rfl ?_
      refine vv_bipush 92 dX12_isThree_92 bk_71 ?_
      refine vv_icmp_ge 94 117 dX12_isThree_94 (by decide) (fun c105 => ?_) (fun c105 => ?_)
      · rw [if_pos c105] at h
        refine vv_iincc (lv' := [(3, _), (0, _), (1, _), (2, _), (4, _)]) 117 3 dX12_isThree_117 rfl ik_1 (by decide) rfl ?_
        refine vv_goto 120 51 dX12_isThree_120 (by decide) ?_
        refine vv_sub [(0, _), (1, _), (2, _), (3, _)] (sh_subm [1, 2, 3, 0] rfl) ?_
        exact ih_51 hG h
      · rw [if_neg c105] at h
        refine vv_aload_n 97 0 dX12_isThree_97 rfl rfl ?_
        refine vv_getR 98 dX12_isThree_98 fl_12_130 rfl (g_l_291 hG) (g_r_291_52 hG) ?_
        refine vv_iload 101 4 dX12_isThree_101 rfl ?_
        refine vv_aload_n 103 0 dX12_isThree_103 rfl rfl ?_
        refine vv_getR 104 dX12_isThree_104 fl_12_142 rfl (g_l_291 hG) (g_r_291_63 hG) ?_
        refine vv_iload 107 4 dX12_isThree_107 rfl ?_
        obtain ⟨k106, h⟩ := sh_chk h
        refine vv_iald 109 dX12_isThree_109 (g_l_334 hG) k106 ?_
        obtain ⟨k107, h⟩ := sh_chk h
        refine vn_iast 110 dX12_isThree_110 (g_l_330 hG) k107 (fun μ108 eμ108 => ?_)
        rw [sh_let_eq eμ108] at h
        have hG108 : sh_G μ108 := by rw [eμ108]; exact hG
        refine vv_iincc (lv' := [(4, _), (0, _), (1, _), (2, _), (3, _)]) 111 4 dX12_isThree_111 rfl ik_1 (by decide) rfl ?_
        refine vv_goto 114 90 dX12_isThree_114 (by decide) ?_
        refine vv_sub [(0, _), (1, _), (2, _), (3, _), (4, _)] (sh_subm [1, 2, 3, 4, 0] rfl) ?_
        exact ih_90 hG108 h
theorem gp_X12_isThree {μ μ' : sh_Mem} {v : Int32} (hG : sh_G μ) (h : f_X12_isThree μ = some (v, μ')) : sh_G μ' := by
  have ih_2 := (gpl_X12_isThree sh_fuel).1
  have ih_25 := (gpl_X12_isThree sh_fuel).2.1
  have ih_51 := (gpl_X12_isThree sh_fuel).2.2.1
  have ih_90 := (gpl_X12_isThree sh_fuel).2.2.2
  unfold f_X12_isThree at h
  exact ih_2 hG h
theorem t_X12_isThree {μ μ' : sh_Mem} {v : Int32} (hG : sh_G μ) (h : f_X12_isThree μ = some (v, μ')) : sh_C0 l B D ca 9 M_X12_isThree [.ref 291] μ (fun v0 μ0 => v0 = some (.int v) ∧ μ0 = μ') := by
  have ih_2 := (tl_X12_isThree (l := l) (B := B) (D := D) (ca := ca) sh_fuel).1
  have ih_25 := (tl_X12_isThree (l := l) (B := B) (D := D) (ca := ca) sh_fuel).2.1
  have ih_51 := (tl_X12_isThree (l := l) (B := B) (D := D) (ca := ca) sh_fuel).2.2.1
  have ih_90 := (tl_X12_isThree (l := l) (B := B) (D := D) (ca := ca) sh_fuel).2.2.2
  unfold f_X12_isThree at h
  refine vv_iconst 0 dX12_isThree_0 ik_0 ?_
  refine vv_istore_n (lv' := [(1, _), (0, _)]) 1 1 dX12_isThree_1 rfl (by decide) rfl ?_
  refine vv_sub [(0, _), (1, _)] (sh_subm [1, 0] rfl) ?_
  exact ih_2 hG h
noncomputable def f_X12_planMany (μ : sh_Mem) : Option (Int32 × sh_Mem) := sh_bind (f_X12_isSo μ) (fun y3 μ1 => (if y3 = 0 then sh_bind (f_X12_isOne μ1) (fun y7 μ5 => (if y7 = 0 then sh_bind (f_X12_isTwo μ5) (fun y11 μ9 => (if y11 = 0 then sh_bindv (f_X12_triesAnew μ9) (fun μ13 => sh_bind (f_X12_isThree μ13) (fun y18 μ16 => (if y18 = 0 then some ((-1), μ16) else some (3, μ16)))) else some (2, μ9))) else some (1, μ5))) else some (0, μ1)))
theorem gp_X12_planMany {μ μ' : sh_Mem} {v : Int32} (hG : sh_G μ) (h : f_X12_planMany μ = some (v, μ')) : sh_G μ' := by
  unfold f_X12_planMany at h
  obtain ⟨y3, μ1, hr2, h⟩ := sh_bind_e h
  have hG1 := gp_X12_isSo hG hr2
  by_cases c4 : y3 = 0
  · rw [if_pos c4] at h
    obtain ⟨y7, μ5, hr6, h⟩ := sh_bind_e h
    have hG5 := gp_X12_isOne hG1 hr6
    by_cases c8 : y7 = 0
    · rw [if_pos c8] at h
      obtain ⟨y11, μ9, hr10, h⟩ := sh_bind_e h
      have hG9 := gp_X12_isTwo hG5 hr10
      by_cases c12 : y11 = 0
      · rw [if_pos c12] at h
        obtain ⟨μ13, hr14, h⟩ := sh_bindv_e h
        have hG13 := gp_X12_triesAnew hG9 hr14
        obtain ⟨y18, μ16, hr17, h⟩ := sh_bind_e h
        have hG16 := gp_X12_isThree hG13 hr17
        by_cases c19 : y18 = 0
        · rw [if_pos c19] at h
          obtain ⟨e1, e2⟩ := sh_some2 h
          exact e2 ▸ hG16
        · rw [if_neg c19] at h
          obtain ⟨e1, e2⟩ := sh_some2 h
          exact e2 ▸ hG16
      · rw [if_neg c12] at h
        obtain ⟨e1, e2⟩ := sh_some2 h
        exact e2 ▸ hG9
    · rw [if_neg c8] at h
      obtain ⟨e1, e2⟩ := sh_some2 h
      exact e2 ▸ hG5
  · rw [if_neg c4] at h
    obtain ⟨e1, e2⟩ := sh_some2 h
    exact e2 ▸ hG1
theorem t_X12_planMany {μ μ' : sh_Mem} {v : Int32} (hG : sh_G μ) (h : f_X12_planMany μ = some (v, μ')) : sh_C0 l B D ca 10 M_X12_planMany [.ref 291] μ (fun v0 μ0 => v0 = some (.int v) ∧ μ0 = μ') := by
  unfold f_X12_planMany at h
  refine vv_aload_n 0 0 dX12_planMany_0 rfl rfl ?_
  obtain ⟨y3, μ1, hr2, h⟩ := sh_bind_e h
  refine v1_callV [] 1 dX12_planMany_1 ck_X12_551 (g_l_291 hG) ⟨by decide, rfl⟩ (t_X12_isSo hG hr2) (Nat.le_of_ble_eq_true rfl) ⟨Nat.le_of_ble_eq_true rfl, Nat.le_of_ble_eq_true rfl⟩ rfl (Nat.le_of_ble_eq_true rfl) ?_
  have hG1 := gp_X12_isSo hG hr2
  refine vv_if_eq 4 9 dX12_planMany_4 (by decide) (fun c4 => ?_) (fun c4 => ?_)
  · rw [if_pos c4] at h
    refine vv_aload_n 9 0 dX12_planMany_9 rfl rfl ?_
    obtain ⟨y7, μ5, hr6, h⟩ := sh_bind_e h
    refine v1_callV [] 10 dX12_planMany_10 ck_X12_557 (g_l_291 hG1) ⟨by decide, rfl⟩ (t_X12_isOne hG1 hr6) (Nat.le_of_ble_eq_true rfl) ⟨Nat.le_of_ble_eq_true rfl, Nat.le_of_ble_eq_true rfl⟩ rfl (Nat.le_of_ble_eq_true rfl) ?_
    have hG5 := gp_X12_isOne hG1 hr6
    refine vv_if_eq 13 18 dX12_planMany_13 (by decide) (fun c8 => ?_) (fun c8 => ?_)
    · rw [if_pos c8] at h
      refine vv_aload_n 18 0 dX12_planMany_18 rfl rfl ?_
      obtain ⟨y11, μ9, hr10, h⟩ := sh_bind_e h
      refine v1_callV [] 19 dX12_planMany_19 ck_X12_560 (g_l_291 hG5) ⟨by decide, rfl⟩ (t_X12_isTwo hG5 hr10) (Nat.le_of_ble_eq_true rfl) ⟨Nat.le_of_ble_eq_true rfl, Nat.le_of_ble_eq_true rfl⟩ rfl (Nat.le_of_ble_eq_true rfl) ?_
      have hG9 := gp_X12_isTwo hG5 hr10
      refine vv_if_eq 22 27 dX12_planMany_22 (by decide) (fun c12 => ?_) (fun c12 => ?_)
      · rw [if_pos c12] at h
        refine vv_aload_n 27 0 dX12_planMany_27 rfl rfl ?_
        obtain ⟨μ13, hr14, h⟩ := sh_bindv_e h
        refine v1_callV [] 28 dX12_planMany_28 ck_X12_504 (g_l_291 hG9) ⟨by decide, rfl⟩ (t_X12_triesAnew hG9 hr14) (Nat.le_of_ble_eq_true rfl) ⟨Nat.le_of_ble_eq_true rfl, Nat.le_of_ble_eq_true rfl⟩ rfl (Nat.le_of_ble_eq_true rfl) ?_
        have hG13 := gp_X12_triesAnew hG9 hr14
        refine vv_aload_n 31 0 dX12_planMany_31 rfl rfl ?_
        obtain ⟨y18, μ16, hr17, h⟩ := sh_bind_e h
        refine v1_callV [] 32 dX12_planMany_32 ck_X12_563 (g_l_291 hG13) ⟨by decide, rfl⟩ (t_X12_isThree hG13 hr17) (Nat.le_of_ble_eq_true rfl) ⟨Nat.le_of_ble_eq_true rfl, Nat.le_of_ble_eq_true rfl⟩ rfl (Nat.le_of_ble_eq_true rfl) ?_
        have hG16 := gp_X12_isThree hG13 hr17
        refine vv_if_eq 35 42 dX12_planMany_35 (by decide) (fun c19 => ?_) (fun c19 => ?_)
        · rw [if_pos c19] at h
          refine vv_iconst 42 dX12_planMany_42 ik_m1 ?_
          obtain ⟨e1, e2⟩ := sh_some2 h
          refine vv_iret 43 dX12_planMany_43 rfl (Nat.le_refl _) (Nat.le_refl _) ⟨by rw [e1], e2⟩
        · rw [if_neg c19] at h
          refine vv_iconst 38 dX12_planMany_38 ik_3 ?_
          refine vv_goto 39 43 dX12_planMany_39 (by decide) ?_
          obtain ⟨e1, e2⟩ := sh_some2 h
          refine vv_iret 43 dX12_planMany_43 rfl (Nat.le_refl _) (Nat.le_refl _) ⟨by rw [e1], e2⟩
      · rw [if_neg c12] at h
        refine vv_iconst 25 dX12_planMany_25 ik_2 ?_
        obtain ⟨e1, e2⟩ := sh_some2 h
        refine vv_iret 26 dX12_planMany_26 rfl (Nat.le_refl _) (Nat.le_refl _) ⟨by rw [e1], e2⟩
    · rw [if_neg c8] at h
      refine vv_iconst 16 dX12_planMany_16 ik_1 ?_
      obtain ⟨e1, e2⟩ := sh_some2 h
      refine vv_iret 17 dX12_planMany_17 rfl (Nat.le_refl _) (Nat.le_refl _) ⟨by rw [e1], e2⟩
  · rw [if_neg c4] at h
    refine vv_iconst 7 dX12_planMany_7 ik_0 ?_
    obtain ⟨e1, e2⟩ := sh_some2 h
    refine vv_iret 8 dX12_planMany_8 rfl (Nat.le_refl _) (Nat.le_refl _) ⟨by rw [e1], e2⟩
noncomputable def f_X12_plan (a1 : Int32) (a2 : Int32) (a3 : Int32) (a4 : Int32) (μ : sh_Mem) : Option (Int32 × sh_Mem) := sh_bind (f_X12_cellNumbered a1 μ) (fun y3 μ1 => sh_let (sh_setI μ1 291 65 y3) (fun μ4 => sh_bind (f_X12_cellNumbered a3 μ4) (fun y7 μ5 => sh_let (sh_setI μ5 291 67 y7) (fun μ8 => (if (sh_i μ8 291 65) = (-1) then some ((-1), μ8) else (if (sh_i μ8 291 67) = (-1) then some ((-1), μ8) else (if (f_X12_isIn μ8 (a2).toInt64 0 99) = 0 then some ((-1), μ8) else (if (-1) ≤ a4 then sh_let (sh_setI μ8 291 66 a2) (fun μ13 => sh_bind (f_X12_heightOf (sh_i μ13 291 67) μ13) (fun y16 μ14 => sh_let (sh_setI μ14 291 68 y16) (fun μ17 => sh_bindv (f_X12_putsAside μ17) (fun μ18 => sh_bind (f_X12_planMany μ18) (fun y23 μ21 => sh_bindv (f_X12_takesBack μ21) (fun μ24 => (if a4 = (-1) then some (y23, μ24) else (if y23 = (-1) then some (y23, μ24) else (if y23 ≤ a4 then some ((-1), μ24) else (if sh_in a4 3 then sh_bind (f_X12_topicMany μ24) (fun y33 μ31 => (if ¬ y33 = 0 then (if sh_in a4 3 then sh_bind (f_X12_topicMany μ31) (fun y38 μ36 => (if ¬ y38 = 0 then some (((8 * ((sh_i μ24 333 a4.toNatClampNeg) / y33)) + ((sh_i μ31 333 a4.toNatClampNeg) - (sh_i μ31 333 a4.toNatClampNeg) / y38 * y38)), μ36) else none)) else none) else none)) else none)))))))))) else some ((-1), μ8)))))))))
theorem gp_X12_plan {a1 : Int32} {a2 : Int32} {a3 : Int32} {a4 : Int32} {μ μ' : sh_Mem} {v : Int32} (hG : sh_G μ) (h : f_X12_plan a1 a2 a3 a4 μ = some (v, μ')) : sh_G μ' := by
  unfold f_X12_plan at h
  obtain ⟨y3, μ1, hr2, h⟩ := sh_bind_e h
  have hG1 := gp_X12_cellNumbered hG hr2
  obtain ⟨μ4, eμ4⟩ : ∃ y : sh_Mem, y = (sh_setI μ1 291 65 y3) := ⟨_, rfl⟩
  rw [sh_let_eq eμ4] at h
  have hG4 : sh_G μ4 := by rw [eμ4]; exact hG1
  obtain ⟨y7, μ5, hr6, h⟩ := sh_bind_e h
  have hG5 := gp_X12_cellNumbered hG4 hr6
  obtain ⟨μ8, eμ8⟩ : ∃ y : sh_Mem, y = (sh_setI μ5 291 67 y7) := ⟨_, rfl⟩
  rw [sh_let_eq eμ8] at h
  have hG8 : sh_G μ8 := by rw [eμ8]; exact hG5
  by_cases c9 : (sh_i μ8 291 65) = (-1)
  · rw [if_pos c9] at h
    obtain ⟨e1, e2⟩ := sh_some2 h
    exact e2 ▸ hG8
  · rw [if_neg c9] at h
    by_cases c10 : (sh_i μ8 291 67) = (-1)
    · rw [if_pos c10] at h
      obtain ⟨e1, e2⟩ := sh_some2 h
      exact e2 ▸ hG8
    · rw [if_neg c10] at h
      by_cases c11 : (f_X12_isIn μ8 (a2).toInt64 0 99) = 0
      · rw [if_pos c11] at h
        obtain ⟨e1, e2⟩ := sh_some2 h
        exact e2 ▸ hG8
      · rw [if_neg c11] at h
        by_cases c12 : (-1) ≤ a4
        · rw [if_pos c12] at h
          obtain ⟨μ13, eμ13⟩ : ∃ y : sh_Mem, y = (sh_setI μ8 291 66 a2) := ⟨_, rfl⟩
          rw [sh_let_eq eμ13] at h
          have hG13 : sh_G μ13 := by rw [eμ13]; exact hG8
          obtain ⟨y16, μ14, hr15, h⟩ := sh_bind_e h
          have hG14 := gp_X12_heightOf hG13 hr15
          obtain ⟨μ17, eμ17⟩ : ∃ y : sh_Mem, y = (sh_setI μ14 291 68 y16) := ⟨_, rfl⟩
          rw [sh_let_eq eμ17] at h
          have hG17 : sh_G μ17 := by rw [eμ17]; exact hG14
          obtain ⟨μ18, hr19, h⟩ := sh_bindv_e h
          have hG18 := gp_X12_putsAside hG17 hr19
          obtain ⟨y23, μ21, hr22, h⟩ := sh_bind_e h
          have hG21 := gp_X12_planMany hG18 hr22
          obtain ⟨μ24, hr25, h⟩ := sh_bindv_e h
          have hG24 := gp_X12_takesBack hG21 hr25
          by_cases c27 : a4 = (-1)
          · rw [if_pos c27] at h
            obtain ⟨e1, e2⟩ := sh_some2 h
            exact e2 ▸ hG24
          · rw [if_neg c27] at h
            by_cases c28 : y23 = (-1)
            · rw [if_pos c28] at h
              obtain ⟨e1, e2⟩ := sh_some2 h
              exact e2 ▸ hG24
            · rw [if_neg c28] at h
              by_cases c29 : y23 ≤ a4
              · rw [if_pos c29] at h
                obtain ⟨e1, e2⟩ := sh_some2 h
                exact e2 ▸ hG24
              · rw [if_neg c29] at h
                obtain ⟨k30, h⟩ := sh_chk h
                obtain ⟨y33, μ31, hr32, h⟩ := sh_bind_e h
                have hG31 := gp_X12_topicMany hG24 hr32
                obtain ⟨k34, h⟩ := sh_chk h
                obtain ⟨k35, h⟩ := sh_chk h
                obtain ⟨y38, μ36, hr37, h⟩ := sh_bind_e h
                have hG36 := gp_X12_topicMany hG31 hr37
                obtain ⟨k39, h⟩ := sh_chk h
                obtain ⟨e1, e2⟩ := sh_some2 h
                exact e2 ▸ hG36
        · rw [if_neg c12] at h
          obtain ⟨e1, e2⟩ := sh_some2 h
          exact e2 ▸ hG8
theorem t_X12_plan {a1 : Int32} {a2 : Int32} {a3 : Int32} {a4 : Int32} {μ μ' : sh_Mem} {v : Int32} (hG : sh_G μ) (h : f_X12_plan a1 a2 a3 a4 μ = some (v, μ')) : sh_C0 l B D ca 11 M_X12_plan [.ref 291, .int a1, .int a2, .int a3, .int a4] μ (fun v0 μ0 => v0 = some (.int v) ∧ μ0 = μ') := by
  unfold f_X12_plan at h
  refine vv_aload_n 0 0 dX12_plan_0 rfl rfl ?_
  refine vv_aload_n 1 0 dX12_plan_1 rfl rfl ?_
  refine vv_iload_n 2 1 dX12_plan_2 rfl rfl ?_
  obtain ⟨y3, μ1, hr2, h⟩ := sh_bind_e h
  refine v1_callV [_] 3 dX12_plan_3 ck_X12_566 (g_l_291 hG) ⟨by decide, rfl⟩ (t_X12_cellNumbered hG hr2) (Nat.le_of_ble_eq_true rfl) ⟨Nat.le_of_ble_eq_true rfl, Nat.le_of_ble_eq_true rfl⟩ rfl (Nat.le_of_ble_eq_true rfl) ?_
  have hG1 := gp_X12_cellNumbered hG hr2
  refine vn_putI 6 dX12_plan_6 fl_12_533 (Or.inl rfl) rfl (g_l_291 hG1) (fun μ4 eμ4 => ?_)
  rw [sh_let_eq eμ4] at h
  have hG4 : sh_G μ4 := by rw [eμ4]; exact hG1
  refine vv_aload_n 9 0 dX12_plan_9 rfl rfl ?_
  refine vv_aload_n 10 0 dX12_plan_10 rfl rfl ?_
  refine vv_iload_n 11 3 dX12_plan_11 rfl rfl ?_
  obtain ⟨y7, μ5, hr6, h⟩ := sh_bind_e h
  refine v1_callV [_] 12 dX12_plan_12 ck_X12_566 (g_l_291 hG4) ⟨by decide, rfl⟩ (t_X12_cellNumbered hG4 hr6) (Nat.le_of_ble_eq_true rfl) ⟨Nat.le_of_ble_eq_true rfl, Nat.le_of_ble_eq_true rfl⟩ rfl (Nat.le_of_ble_eq_true rfl) ?_
  have hG5 := gp_X12_cellNumbered hG4 hr6
  refine vn_putI 15 dX12_plan_15 fl_12_539 (Or.inl rfl) rfl (g_l_291 hG5) (fun μ8 eμ8 => ?_)
  rw [sh_let_eq eμ8] at h
  have hG8 : sh_G μ8 := by rw [eμ8]; exact hG5
  refine vv_aload_n 18 0 dX12_plan_18 rfl rfl ?_
  refine vv_getI 19 dX12_plan_19 fl_12_533 rfl (g_l_291 hG8) ?_
  refine vv_iconst 22 dX12_plan_22 ik_m1 ?_
  refine vv_icmp_eq 23 52 dX12_plan_23 (by decide) (fun c9 => ?_) (fun c9 => ?_)
  · rw [if_pos c9] at h
    refine vv_iconst 52 dX12_plan_52 ik_m1 ?_
    obtain ⟨e1, e2⟩ := sh_some2 h
    refine vv_iret 53 dX12_plan_53 rfl (Nat.le_refl _) (Nat.le_refl _) ⟨by rw [e1], e2⟩
  · rw [if_neg c9] at h
    refine vv_aload_n 26 0 dX12_plan_26 rfl rfl ?_
    refine vv_getI 27 dX12_plan_27 fl_12_539 rfl (g_l_291 hG8) ?_
    refine vv_iconst 30 dX12_plan_30 ik_m1 ?_
    refine vv_icmp_eq 31 52 dX12_plan_31 (by decide) (fun c10 => ?_) (fun c10 => ?_)
    · rw [if_pos c10] at h
      refine vv_iconst 52 dX12_plan_52 ik_m1 ?_
      obtain ⟨e1, e2⟩ := sh_some2 h
      refine vv_iret 53 dX12_plan_53 rfl (Nat.le_refl _) (Nat.le_refl _) ⟨by rw [e1], e2⟩
    · rw [if_neg c10] at h
      refine vv_iload_n 34 2 dX12_plan_34 rfl rfl ?_
      refine vv_i2l 35 dX12_plan_35 ?_
      refine vv_lconst 36 dX12_plan_36 lk_0 ?_
      refine vv_ldc2 37 dX12_plan_37 kl_12_569 ?_
      refine v1_callS [_, _, _] 40 dX12_plan_40 ck_X12_296 (c_X12_isIn (μ := μ8) hG8) (Nat.le_of_ble_eq_true rfl) ⟨Nat.le_of_ble_eq_true rfl, Nat.le_of_ble_eq_true rfl⟩ rfl (Nat.le_of_ble_eq_true rfl) ?_
      refine vv_if_eq 43 52 dX12_plan_43 (by decide) (fun c11 => ?_) (fun c11 => ?_)
      · rw [if_pos c11] at h
        refine vv_iconst 52 dX12_plan_52 ik_m1 ?_
        obtain ⟨e1, e2⟩ := sh_some2 h
        refine vv_iret 53 dX12_plan_53 rfl (Nat.le_refl _) (Nat.le_refl _) ⟨by rw [e1], e2⟩
      · rw [if_neg c11] at h
        refine vv_iload 46 4 dX12_plan_46 rfl ?_
        refine vv_iconst 48 dX12_plan_48 ik_m1 ?_
        refine vv_icmp_ge 49 54 dX12_plan_49 (by decide) (fun c12 => ?_) (fun c12 => ?_)
        · rw [if_pos c12] at h
          refine vv_aload_n 54 0 dX12_plan_54 rfl rfl ?_
          refine vv_iload_n 55 2 dX12_plan_55 rfl rfl ?_
          refine vn_putI 56 dX12_plan_56 fl_12_536 (Or.inl rfl) rfl (g_l_291 hG8) (fun μ13 eμ13 => ?_)
          rw [sh_let_eq eμ13] at h
          have hG13 : sh_G μ13 := by rw [eμ13]; exact hG8
          refine vv_aload_n 59 0 dX12_plan_59 rfl rfl ?_
          refine vv_aload_n 60 0 dX12_plan_60 rfl rfl ?_
          refine vv_aload_n 61 0 dX12_plan_61 rfl rfl ?_
          refine vv_getI 62 dX12_plan_62 fl_12_539 rfl (g_l_291 hG13) ?_
          obtain ⟨y16, μ14, hr15, h⟩ := sh_bind_e h
          refine v1_callV [_] 65 dX12_plan_65 ck_X12_453 (g_l_291 hG13) ⟨by decide, rfl⟩ (t_X12_heightOf hG13 hr15) (Nat.le_of_ble_eq_true rfl) ⟨Nat.le_of_ble_eq_true rfl, Nat.le_of_ble_eq_true rfl⟩ rfl (Nat.le_of_ble_eq_true rfl) ?_
          have hG14 := gp_X12_heightOf hG13 hr15
          refine vn_putI 68 dX12_plan_68 fl_12_542 (Or.inl rfl) rfl (g_l_291 hG14) (fun μ17 eμ17 => ?_)
          rw [sh_let_eq eμ17] at h
          have hG17 : sh_G μ17 := by rw [eμ17]; exact hG14
          refine vv_aload_n 71 0 dX12_plan_71 rfl rfl ?_
          obtain ⟨μ18, hr19, h⟩ := sh_bindv_e h
          refine v1_callV [] 72 dX12_plan_72 ck_X12_507 (g_l_291 hG17) ⟨by decide, rfl⟩ (t_X12_putsAside hG17 hr19) (Nat.le_of_ble_eq_true rfl) ⟨Nat.le_of_ble_eq_true rfl, Nat.le_of_ble_eq_true rfl⟩ rfl (Nat.le_of_ble_eq_true rfl) ?_
          have hG18 := gp_X12_putsAside hG17 hr19
          refine vv_aload_n 75 0 dX12_plan_75 rfl rfl ?_
          obtain ⟨y23, μ21, hr22, h⟩ := sh_bind_e h
          refine v1_callV [] 76 dX12_plan_76 ck_X12_571 (g_l_291 hG18) ⟨by decide, rfl⟩ (t_X12_planMany hG18 hr22) (Nat.le_of_ble_eq_true rfl) ⟨Nat.le_of_ble_eq_true rfl, Nat.le_of_ble_eq_true rfl⟩ rfl (Nat.le_of_ble_eq_true rfl) ?_
          have hG21 := gp_X12_planMany hG18 hr22
          refine vv_istore (lv' := [(5, _), (0, _), (1, _), (2, _), (3, _), (4, _)]) 79 5 dX12_plan_79 (by decide) rfl ?_
          refine vv_aload_n 81 0 dX12_plan_81 rfl rfl ?_
          obtain ⟨μ24, hr25, h⟩ := sh_bindv_e h
          refine v1_callV [] 82 dX12_plan_82 ck_X12_510 (g_l_291 hG21) ⟨by decide, rfl⟩ (t_X12_takesBack hG21 hr25) (Nat.le_of_ble_eq_true rfl) ⟨Nat.le_of_ble_eq_true rfl, Nat.le_of_ble_eq_true rfl⟩ rfl (Nat.le_of_ble_eq_true rfl) ?_
          have hG24 := gp_X12_takesBack hG21 hr25
          refine vv_iload 85 4 dX12_plan_85 rfl ?_
          refine vv_iconst 87 dX12_plan_87 ik_m1 ?_
          refine vv_icmp_eq 88 97 dX12_plan_88 (by decide) (fun c27 => ?_) (fun c27 => ?_)
          · rw [if_pos c27] at h
            refine vv_iload 97 5 dX12_plan_97 rfl ?_
            obtain ⟨e1, e2⟩ := sh_some2 h
            refine vv_iret 99 dX12_plan_99 rfl (Nat.le_refl _) (Nat.le_refl _) ⟨by rw [e1], e2⟩
          · rw [if_neg c27] at h
            refine vv_iload 91 5 dX12_plan_91 rfl ?_
            refine vv_iconst 93 dX12_plan_93 ik_m1 ?_
            refine vv_icmp_ne 94 100 dX12_plan_94 (by decide) (fun c28 => ?_) (fun c28 => ?_)
            · rw [if_neg c28] at h
              refine vv_iload 100 4 dX12_plan_100 rfl ?_
              refine vv_iload 102 5 dX12_plan_102 rfl ?_
              refine vv_icmp_ge 104 138 dX12_plan_104 (by decide) (fun c29 => ?_) (fun c29 => ?_)
              · rw [if_pos c29] at h
                refine vv_iconst 138 dX12_plan_138 ik_m1 ?_
                obtain ⟨e1, e2⟩ := sh_some2 h
                refine vv_iret 139 dX12_plan_139 rfl (Nat.le_refl _) (Nat.le_refl _) ⟨by rw [e1], e2⟩
              · rw [if_neg c29] at h
                refine vv_bipush 107 dX12_plan_107 bk_8 ?_
                refine vv_aload_n 109 0 dX12_plan_109 rfl rfl ?_
                refine vv_getR 110 dX12_plan_110 fl_12_139 rfl (g_l_291 hG24) (g_r_291_62 hG24) ?_
                refine vv_iload 113 4 dX12_plan_113 rfl ?_
                obtain ⟨k30, h⟩ := sh_chk h
                refine vv_iald 115 dX12_plan_115 (g_l_333 hG24) k30 ?_
                refine vv_aload_n 116 0 dX12_plan_116 rfl rfl ?_
                obtain ⟨y33, μ31, hr32, h⟩ := sh_bind_e h
                refine v1_callV [] 117 dX12_plan_117 ck_X12_408 (g_l_291 hG24) ⟨by decide, rfl⟩ (t_X12_topicMany hG24 hr32) (Nat.le_of_ble_eq_true rfl) ⟨Nat.le_of_ble_eq_true rfl, Nat.le_of_ble_eq_true rfl⟩ rfl (Nat.le_of_ble_eq_true rfl) ?_
                have hG31 := gp_X12_topicMany hG24 hr32
                obtain ⟨k34, h⟩ := sh_chk h
                refine vv_idiv 120 dX12_plan_120 k34 ?_
                refine vv_imul 121 dX12_plan_121 ?_
                refine vv_aload_n 122 0 dX12_plan_122 rfl rfl ?_
                refine vv_getR 123 dX12_plan_123 fl_12_139 rfl (g_l_291 hG31) (g_r_291_62 hG31) ?_
                refine vv_iload 126 4 dX12_plan_126 rfl ?_
                obtain ⟨k35, h⟩ := sh_chk h
                refine vv_iald 128 dX12_plan_128 (g_l_333 hG31) k35 ?_
                refine vv_aload_n 129 0 dX12_plan_129 rfl rfl ?_
                obtain ⟨y38, μ36, hr37, h⟩ := sh_bind_e h
                refine v1_callV [] 130 dX12_plan_130 ck_X12_408 (g_l_291 hG31) ⟨by decide, rfl⟩ (t_X12_topicMany hG31 hr37) (Nat.le_of_ble_eq_true rfl) ⟨Nat.le_of_ble_eq_true rfl, Nat.le_of_ble_eq_true rfl⟩ rfl (Nat.le_of_ble_eq_true rfl) ?_
                have hG36 := gp_X12_topicMany hG31 hr37
                obtain ⟨k39, h⟩ := sh_chk h
                refine vv_irem 133 dX12_plan_133 k39 ?_
                refine vv_iadd 134 dX12_plan_134 ?_
                refine vv_goto 135 139 dX12_plan_135 (by decide) ?_
                obtain ⟨e1, e2⟩ := sh_some2 h
                refine vv_iret 139 dX12_plan_139 rfl (Nat.le_refl _) (Nat.le_refl _) ⟨by rw [e1], e2⟩
            · rw [if_pos c28] at h
              refine vv_iload 97 5 dX12_plan_97 rfl ?_
              obtain ⟨e1, e2⟩ := sh_some2 h
              refine vv_iret 99 dX12_plan_99 rfl (Nat.le_refl _) (Nat.le_refl _) ⟨by rw [e1], e2⟩
        · rw [if_neg c12] at h
          refine vv_iconst 52 dX12_plan_52 ik_m1 ?_
          obtain ⟨e1, e2⟩ := sh_some2 h
          refine vv_iret 53 dX12_plan_53 rfl (Nat.le_refl _) (Nat.le_refl _) ⟨by rw [e1], e2⟩
noncomputable def f_X12_isWayKept (a1 : Int32) (a2 : Int32) (a3 : Int32) (a4 : Int32) (a5 : Int32) (μ : sh_Mem) : Option (Int32 × sh_Mem) := sh_let (sh_setI μ 291 60 a1) (fun μ1 => sh_bindv (f_X12_daysGo a4 μ1) (fun μ2 => sh_bind (f_X12_wayCost a2 a3 μ2) (fun y7 μ5 => (if a5 < y7 then sh_bindv (f_X12_triesAnew μ5) (fun μ9 => some (0, μ9)) else sh_bindv (f_X12_triesAnew μ5) (fun μ12 => some (1, μ12))))))
theorem gp_X12_isWayKept {a1 : Int32} {a2 : Int32} {a3 : Int32} {a4 : Int32} {a5 : Int32} {μ μ' : sh_Mem} {v : Int32} (hG : sh_G μ) (h : f_X12_isWayKept a1 a2 a3 a4 a5 μ = some (v, μ')) : sh_G μ' := by
  unfold f_X12_isWayKept at h
  obtain ⟨μ1, eμ1⟩ : ∃ y : sh_Mem, y = (sh_setI μ 291 60 a1) := ⟨_, rfl⟩
  rw [sh_let_eq eμ1] at h
  have hG1 : sh_G μ1 := by rw [eμ1]; exact hG
  obtain ⟨μ2, hr3, h⟩ := sh_bindv_e h
  have hG2 := gp_X12_daysGo hG1 hr3
  obtain ⟨y7, μ5, hr6, h⟩ := sh_bind_e h
  have hG5 := gp_X12_wayCost hG2 hr6
  by_cases c8 : a5 < y7
  · rw [if_pos c8] at h
    obtain ⟨μ9, hr10, h⟩ := sh_bindv_e h
    have hG9 := gp_X12_triesAnew hG5 hr10
    obtain ⟨e1, e2⟩ := sh_some2 h
    exact e2 ▸ hG9
  · rw [if_neg c8] at h
    obtain ⟨μ12, hr13, h⟩ := sh_bindv_e h
    have hG12 := gp_X12_triesAnew hG5 hr13
    obtain ⟨e1, e2⟩ := sh_some2 h
    exact e2 ▸ hG12
theorem t_X12_isWayKept {a1 : Int32} {a2 : Int32} {a3 : Int32} {a4 : Int32} {a5 : Int32} {μ μ' : sh_Mem} {v : Int32} (hG : sh_G μ) (h : f_X12_isWayKept a1 a2 a3 a4 a5 μ = some (v, μ')) : sh_C0 l B D ca 9 M_X12_isWayKept [.ref 291, .int a1, .int a2, .int a3, .int a4, .int a5] μ (fun v0 μ0 => v0 = some (.int v) ∧ μ0 = μ') := by
  unfold f_X12_isWayKept at h
  refine vv_aload_n 0 0 dX12_isWayKept_0 rfl rfl ?_
  refine vv_iload_n 1 1 dX12_isWayKept_1 rfl rfl ?_
  refine vn_putI 2 dX12_isWayKept_2 fl_12_476 (Or.inl rfl) rfl (g_l_291 hG) (fun μ1 eμ1 => ?_)
  rw [sh_let_eq eμ1] at h
  have hG1 : sh_G μ1 := by rw [eμ1]; exact hG
  refine vv_aload_n 5 0 dX12_isWayKept_5 rfl rfl ?_
  refine vv_iload 6 4 dX12_isWayKept_6 rfl ?_
  obtain ⟨μ2, hr3, h⟩ := sh_bindv_e h
  refine v1_callV [_] 8 dX12_isWayKept_8 ck_X12_530 (g_l_291 hG1) ⟨by decide, rfl⟩ (t_X12_daysGo hG1 hr3) (Nat.le_of_ble_eq_true rfl) ⟨Nat.le_of_ble_eq_true rfl, Nat.le_of_ble_eq_true rfl⟩ rfl (Nat.le_of_ble_eq_true rfl) ?_
  have hG2 := gp_X12_daysGo hG1 hr3
  refine vv_aload_n 11 0 dX12_isWayKept_11 rfl rfl ?_
  refine vv_iload_n 12 2 dX12_isWayKept_12 rfl rfl ?_
  refine vv_iload_n 13 3 dX12_isWayKept_13 rfl rfl ?_
  obtain ⟨y7, μ5, hr6, h⟩ := sh_bind_e h
  refine v1_callV [_, _] 14 dX12_isWayKept_14 ck_X12_580 (g_l_291 hG2) ⟨by decide, rfl⟩ (t_X12_wayCost hG2 hr6) (Nat.le_of_ble_eq_true rfl) ⟨Nat.le_of_ble_eq_true rfl, Nat.le_of_ble_eq_true rfl⟩ rfl (Nat.le_of_ble_eq_true rfl) ?_
  have hG5 := gp_X12_wayCost hG2 hr6
  refine vv_iload 17 5 dX12_isWayKept_17 rfl ?_
  refine vv_icmp_gt 19 26 dX12_isWayKept_19 (by decide) (fun c8 => ?_) (fun c8 => ?_)
  · rw [if_pos c8] at h
    refine vv_iconst 26 dX12_isWayKept_26 ik_0 ?_
    refine vv_istore (lv' := [(6, _), (0, _), (1, _), (2, _), (3, _), (4, _), (5, _)]) 27 6 dX12_isWayKept_27 (by decide) rfl ?_
    refine vv_aload_n 29 0 dX12_isWayKept_29 rfl rfl ?_
    obtain ⟨μ9, hr10, h⟩ := sh_bindv_e h
    refine v1_callV [] 30 dX12_isWayKept_30 ck_X12_504 (g_l_291 hG5) ⟨by decide, rfl⟩ (t_X12_triesAnew hG5 hr10) (Nat.le_of_ble_eq_true rfl) ⟨Nat.le_of_ble_eq_true rfl, Nat.le_of_ble_eq_true rfl⟩ rfl (Nat.le_of_ble_eq_true rfl) ?_
    have hG9 := gp_X12_triesAnew hG5 hr10
    refine vv_iload 33 6 dX12_isWayKept_33 rfl ?_
    obtain ⟨e1, e2⟩ := sh_some2 h
    refine vv_zret 35 dX12_isWayKept_35 rfl rfl (Nat.le_refl _) (Nat.le_refl _) ⟨by rw [e1], e2⟩
  · rw [if_neg c8] at h
    refine vv_iconst 22 dX12_isWayKept_22 ik_1 ?_
    refine vv_goto 23 27 dX12_isWayKept_23 (by decide) ?_
    refine vv_istore (lv' := [(6, _), (0, _), (1, _), (2, _), (3, _), (4, _), (5, _)]) 27 6 dX12_isWayKept_27 (by decide) rfl ?_
    refine vv_aload_n 29 0 dX12_isWayKept_29 rfl rfl ?_
    obtain ⟨μ12, hr13, h⟩ := sh_bindv_e h
    refine v1_callV [] 30 dX12_isWayKept_30 ck_X12_504 (g_l_291 hG5) ⟨by decide, rfl⟩ (t_X12_triesAnew hG5 hr13) (Nat.le_of_ble_eq_true rfl) ⟨Nat.le_of_ble_eq_true rfl, Nat.le_of_ble_eq_true rfl⟩ rfl (Nat.le_of_ble_eq_true rfl) ?_
    have hG12 := gp_X12_triesAnew hG5 hr13
    refine vv_iload 33 6 dX12_isWayKept_33 rfl ?_
    obtain ⟨e1, e2⟩ := sh_some2 h
    refine vv_zret 35 dX12_isWayKept_35 rfl rfl (Nat.le_refl _) (Nat.le_refl _) ⟨by rw [e1], e2⟩
noncomputable def F_X12_keeps : Nat → Nat → Int32 → Int32 → Int32 → Int32 → Int32 → Int32 → Int32 → Int32 → sh_Mem → Option (Int32 × sh_Mem)
  | 0, _, _, _, _, _, _, _, _, _, _ => none
  | fuel + 1, lbl, i1, i2, i3, i4, i5, i6, i7, i8, μ => match lbl with
    | 1 => sh_bind (f_X12_personMany μ) (fun y44 μ42 => (if ((1 : Int32) <<< (y44 &&& 31)) ≤ i8 then sh_bindv (f_X12_takesBack μ42) (fun μ46 => some (i7, μ46)) else (if i7 = (-1) then sh_bind (f_X12_isWayKept i8 i4 i5 i3 i6 μ42) (fun y52 μ50 => (if y52 = 0 then F_X12_keeps fuel 1 i1 i2 i3 i4 i5 i6 i7 (i8 + 1) μ50 else F_X12_keeps fuel 1 i1 i2 i3 i4 i5 i6 i8 (i8 + 1) μ50)) else sh_bind (f_X12_bits i8 μ42) (fun y56 μ54 => sh_bind (f_X12_bits i7 μ54) (fun y59 μ57 => (if y56 < y59 then sh_bind (f_X12_isWayKept i8 i4 i5 i3 i6 μ57) (fun y63 μ61 => (if y63 = 0 then F_X12_keeps fuel 1 i1 i2 i3 i4 i5 i6 i7 (i8 + 1) μ61 else F_X12_keeps fuel 1 i1 i2 i3 i4 i5 i6 i8 (i8 + 1) μ61)) else F_X12_keeps fuel 1 i1 i2 i3 i4 i5 i6 i7 (i8 + 1) μ57))))))
    | _ => none
noncomputable def f_X12_keeps (a1 : Int32) (a2 : Int32) (a3 : Int32) (μ : sh_Mem) : Option (Int32 × sh_Mem) := sh_bind (f_X12_cellNumbered a1 μ) (fun y67 μ65 => sh_bind (f_X12_cellNumbered a2 μ65) (fun y70 μ68 => (if y67 = (-1) then some ((-1), μ68) else (if y70 = (-1) then some ((-1), μ68) else sh_bind (f_X12_isAhead a3 1 20 μ68) (fun y75 μ73 => (if y75 = 0 then some ((-1), μ73) else sh_bind (f_X12_wayCost y67 y70 μ73) (fun y79 μ77 => sh_bindv (f_X12_putsAside μ77) (fun μ80 => F_X12_keeps sh_fuel 1 a1 a2 a3 y67 y70 y79 (-1) 0 μ80))))))))
theorem gpl_X12_keeps (fuel : Nat) : (∀ ⦃i1 : Int32⦄ ⦃i2 : Int32⦄ ⦃i3 : Int32⦄ ⦃i4 : Int32⦄ ⦃i5 : Int32⦄ ⦃i6 : Int32⦄ ⦃i7 : Int32⦄ ⦃i8 : Int32⦄ ⦃μ μ' : sh_Mem⦄ ⦃v : Int32⦄, sh_G μ → F_X12_keeps fuel 1 i1 i2 i3 i4 i5 i6 i7 i8 μ = some (v, μ') → sh_G μ') := by
  induction fuel with
  | zero => intro i1 i2 i3 i4 i5 i6 i7 i8 μ μ' v hG h; cases h
  | succ fuel ih =>
    have ih_59 := ih
    intro i1 i2 i3 i4 i5 i6 i7 i8 μ μ' v hG h
    replace h : (sh_bind (f_X12_personMany μ) (fun y44 μ42 => (if ((1 : Int32) <<< (y44 &&& 31)) ≤ i8 then sh_bindv (f_X12_takesBack μ42) (fun μ46 => some (i7, μ46)) else (if i7 = (-1) then sh_bind (f_X12_isWayKept i8 i4 i5 i3 i6 μ42) (fun y52 μ50 => (if y52 = 0 then F_X12_keeps fuel 1 i1 i2 i3 i4 i5 i6 i7 (i8 + 1) μ50 else F_X12_keeps fuel 1 i1 i2 i3 i4 i5 i6 i8 (i8 + 1) μ50)) else sh_bind (f_X12_bits i8 μ42) (fun y56 μ54 => sh_bind (f_X12_bits i7 μ54) (fun y59 μ57 => (if y56 < y59 then sh_bind (f_X12_isWayKept i8 i4 i5 i3 i6 μ57) (fun y63 μ61 => (if y63 = 0 then F_X12_keeps fuel 1 i1 i2 i3 i4 i5 i6 i7 (i8 + 1) μ61 else F_X12_keeps fuel 1 i1 i2 i3 i4 i5 i6 i8 (i8 + 1) μ61)) else F_X12_keeps fuel 1 i1 i2 i3 i4 i5 i6 i7 (i8 + 1) μ57)))))) : Option (Int32 × sh_Mem)) = some (v, μ') := h
    obtain ⟨y44, μ42, hr43, h⟩ := sh_bind_e h
    have hG42 := gp_X12_personMany hG hr43
    by_cases c45 : ((1 : Int32) <<< (y44 &&& 31)) ≤ i8
    · rw [if_pos c45] at h
      obtain ⟨μ46, hr47, h⟩ := sh_bindv_e h
      have hG46 := gp_X12_takesBack hG42 hr47
      obtain ⟨e1, e2⟩ := sh_some2 h
      exact e2 ▸ hG46
    · rw [if_neg c45] at h
      by_cases c49 : i7 = (-1)
      · rw [if_pos c49] at h
        obtain ⟨y52, μ50, hr51, h⟩ := sh_bind_e h
        have hG50 := gp_X12_isWayKept hG42 hr51
        by_cases c53 : y52 = 0
        · rw [if_pos c53] at h
          exact ih_59 hG50 h
        · rw [if_neg c53] at h
          exact ih_59 hG50 h
      · rw [if_neg c49] at h
        obtain ⟨y56, μ54, hr55, h⟩ := sh_bind_e h
        have hG54 := gp_X12_bits hG42 hr55
        obtain ⟨y59, μ57, hr58, h⟩ := sh_bind_e h
        have hG57 := gp_X12_bits hG54 hr58
        by_cases c60 : y56 < y59
        · rw [if_pos c60] at h
          obtain ⟨y63, μ61, hr62, h⟩ := sh_bind_e h
          have hG61 := gp_X12_isWayKept hG57 hr62
          by_cases c64 : y63 = 0
          · rw [if_pos c64] at h
            exact ih_59 hG61 h
          · rw [if_neg c64] at h
            exact ih_59 hG61 h
        · rw [if_neg c60] at h
          exact ih_59 hG57 h
theorem tl_X12_keeps (fuel : Nat) : (∀ ⦃i1 : Int32⦄ ⦃i2 : Int32⦄ ⦃i3 : Int32⦄ ⦃i4 : Int32⦄ ⦃i5 : Int32⦄ ⦃i6 : Int32⦄ ⦃i7 : Int32⦄ ⦃i8 : Int32⦄ ⦃μ μ' : sh_Mem⦄ ⦃v : Int32⦄, sh_G μ → F_X12_keeps fuel 1 i1 i2 i3 i4 i5 i6 i7 i8 μ = some (v, μ') → sh_V0 l B D ca 10 M_X12_keeps 59 [(0, .ref 291), (1, .int i1), (2, .int i2), (3, .int i3), (4, .int i4), (5, .int i5), (6, .int i6), (7, .int i7), (8, .int i8)] [] μ (fun v0 μ0 => v0 = some (.int v) ∧ μ0 = μ')) := by
  induction fuel with
  | zero => intro i1 i2 i3 i4 i5 i6 i7 i8 μ μ' v hG h; cases h
  | succ fuel ih =>
    have ih_59 := ih
    intro i1 i2 i3 i4 i5 i6 i7 i8 μ μ' v hG h
    replace h : (sh_bind (f_X12_personMany μ) (fun y44 μ42 => (if ((1 : Int32) <<< (y44 &&& 31)) ≤ i8 then sh_bindv (f_X12_takesBack μ42) (fun μ46 => some (i7, μ46)) else (if i7 = (-1) then sh_bind (f_X12_isWayKept i8 i4 i5 i3 i6 μ42) (fun y52 μ50 => (if y52 = 0 then F_X12_keeps fuel 1 i1 i2 i3 i4 i5 i6 i7 (i8 + 1) μ50 else F_X12_keeps fuel 1 i1 i2 i3 i4 i5 i6 i8 (i8 + 1) μ50)) else sh_bind (f_X12_bits i8 μ42) (fun y56 μ54 => sh_bind (f_X12_bits i7 μ54) (fun y59 μ57 => (if y56 < y59 then sh_bind (f_X12_isWayKept i8 i4 i5 i3 i6 μ57) (fun y63 μ61 => (if y63 = 0 then F_X12_keeps fuel 1 i1 i2 i3 i4 i5 i6 i7 (i8 + 1) μ61 else F_X12_keeps fuel 1 i1 i2 i3 i4 i5 i6 i8 (i8 + 1) μ61)) else F_X12_keeps fuel 1 i1 i2 i3 i4 i5 i6 i7 (i8 + 1) μ57)))))) : Option (Int32 × sh_Mem)) = some (v, μ') := h
    refine vv_iload 59 8 dX12_keeps_59 rfl ?_
    refine vv_iconst 61 dX12_keeps_61 ik_1 ?_
    refine vv_aload_n 62 0 dX12_keeps_62 rfl rfl ?_
    obtain ⟨y44, μ42, hr43, h⟩ := sh_bind_e h
    refine v1_callV [] 63 dX12_keeps_63 ck_X12_411 (g_l_291 hG) ⟨by decide, rfl⟩ (t_X12_personMany hG hr43) (Nat.le_of_ble_eq_true rfl) ⟨Nat.le_of_ble_eq_true rfl, Nat.le_of_ble_eq_true rfl⟩ rfl (Nat.le_of_ble_eq_true rfl) ?_
    have hG42 := gp_X12_personMany hG hr43
    refine vv_ishl 66 dX12_keeps_66 ?_
    refine vv_icmp_ge 67 118 dX12_keeps_67 (by decide) (fun c45 => ?_) (fun c45 => ?_)
    · rw [if_pos c45] at h
      refine vv_aload_n 118 0 dX12_keeps_118 rfl rfl ?_
      obtain ⟨μ46, hr47, h⟩ := sh_bindv_e h
      refine v1_callV [] 119 dX12_keeps_119 ck_X12_510 (g_l_291 hG42) ⟨by decide, rfl⟩ (t_X12_takesBack hG42 hr47) (Nat.le_of_ble_eq_true rfl) ⟨Nat.le_of_ble_eq_true rfl, Nat.le_of_ble_eq_true rfl⟩ rfl (Nat.le_of_ble_eq_true rfl) ?_
      have hG46 := gp_X12_takesBack hG42 hr47
      refine vv_iload 122 7 dX12_keeps_122 rfl ?_
      obtain ⟨e1, e2⟩ := sh_some2 h
      refine vv_iret 124 dX12_keeps_124 rfl (Nat.le_refl _) (Nat.le_refl _) ⟨by rw [e1], e2⟩
    · rw [if_neg c45] at h
      refine vv_iload 70 7 dX12_keeps_70 rfl ?_
      refine vv_iconst 72 dX12_keeps_72 ik_m1 ?_
      refine vv_icmp_eq 73 92 dX12_keeps_73 (by decide) (fun c49 => ?_) (fun c49 => ?_)
      · rw [if_pos c49] at h
        refine vv_aload_n 92 0 dX12_keeps_92 rfl rfl ?_
        refine vv_iload 93 8 dX12_keeps_93 rfl ?_
        refine vv_iload 95 4 dX12_keeps_95 rfl ?_
        refine vv_iload 97 5 dX12_keeps_97 rfl ?_
        refine vv_iload_n 99 3 dX12_keeps_99 rfl rfl ?_
        refine vv_iload 100 6 dX12_keeps_100 rfl ?_
        obtain ⟨y52, μ50, hr51, h⟩ := sh_bind_e h
        refine v1_callV [_, _, _, _, _] 102 dX12_keeps_102 ck_X12_592 (g_l_291 hG42) ⟨by decide, rfl⟩ (t_X12_isWayKept hG42 hr51) (Nat.le_of_ble_eq_true rfl) ⟨Nat.le_of_ble_eq_true rfl, Nat.le_of_ble_eq_true rfl⟩ rfl (Nat.le_of_ble_eq_true rfl) ?_
        have hG50 := gp_X12_isWayKept hG42 hr51
        refine vv_if_eq 105 112 dX12_keeps_105 (by decide) (fun c53 => ?_) (fun c53 => ?_)
        · rw [if_pos c53] at h
          refine vv_iincc (lv' := [(8, _), (0, _), (1, _), (2, _), (3, _), (4, _), (5, _), (6, _), (7, _)]) 112 8 dX12_keeps_112 rfl ik_1 (by decide) rfl ?_
          refine vv_goto 115 59 dX12_keeps_115 (by decide) ?_
          refine vv_sub [(0, _), (1, _), (2, _), (3, _), (4, _), (5, _), (6, _), (7, _), (8, _)] (sh_subm [1, 2, 3, 4, 5, 6, 7, 8, 0] rfl) ?_
          exact ih_59 hG50 h
        · rw [if_neg c53] at h
          refine vv_iload 108 8 dX12_keeps_108 rfl ?_
          refine vv_istore (lv' := [(7, _), (0, _), (1, _), (2, _), (3, _), (4, _), (5, _), (6, _), (8, _)]) 110 7 dX12_keeps_110 (by decide) rfl ?_
          refine vv_iincc (lv' := [(8, _), (7, _), (0, _), (1, _), (2, _), (3, _), (4, _), (5, _), (6, _)]) 112 8 dX12_keeps_112 rfl ik_1 (by decide) rfl ?_
          refine vv_goto 115 59 dX12_keeps_115 (by decide) ?_
          refine vv_sub [(0, _), (1, _), (2, _), (3, _), (4, _), (5, _), (6, _), (7, _), (8, _)] (sh_subm [2, 3, 4, 5, 6, 7, 8, 1, 0] rfl) ?_
          exact ih_59 hG50 h
      · rw [if_neg c49] at h
        refine vv_iload 76 8 dX12_keeps_76 rfl ?_
        obtain ⟨y56, μ54, hr55, h⟩ := sh_bind_e h
        refine v1_callS [_] 78 dX12_keeps_78 ck_X12_589 (t_X12_bits hG42 hr55) (Nat.le_of_ble_eq_true rfl) ⟨Nat.le_of_ble_eq_true rfl, Nat.le_of_ble_eq_true rfl⟩ rfl (Nat.le_of_ble_eq_true rfl) ?_
        have hG54 := gp_X12_bits hG42 hr55
        refine vv_iload 81 7 dX12_keeps_81 rfl ?_
        obtain ⟨y59, μ57, hr58, h⟩ := sh_bind_e h
        refine v1_callS [_] 83 dX12_keeps_83 ck_X12_589 (t_X12_bits hG54 hr58) (Nat.le_of_ble_eq_true rfl) ⟨Nat.le_of_ble_eq_true rfl, Nat.le_of_ble_eq_true rfl⟩ rfl (Nat.le_of_ble_eq_true rfl) ?_
        have hG57 := gp_X12_bits hG54 hr58
        refine vv_icmp_lt 86 92 dX12_keeps_86 (by decide) (fun c60 => ?_) (fun c60 => ?_)
        · rw [if_pos c60] at h
          refine vv_aload_n 92 0 dX12_keeps_92 rfl rfl ?_
          refine vv_iload 93 8 dX12_keeps_93 rfl ?_
          refine vv_iload 95 4 dX12_keeps_95 rfl ?_
          refine vv_iload 97 5 dX12_keeps_97 rfl ?_
          refine vv_iload_n 99 3 dX12_keeps_99 rfl rfl ?_
          refine vv_iload 100 6 dX12_keeps_100 rfl ?_
          obtain ⟨y63, μ61, hr62, h⟩ := sh_bind_e h
          refine v1_callV [_, _, _, _, _] 102 dX12_keeps_102 ck_X12_592 (g_l_291 hG57) ⟨by decide, rfl⟩ (t_X12_isWayKept hG57 hr62) (Nat.le_of_ble_eq_true rfl) ⟨Nat.le_of_ble_eq_true rfl, Nat.le_of_ble_eq_true rfl⟩ rfl (Nat.le_of_ble_eq_true rfl) ?_
          have hG61 := gp_X12_isWayKept hG57 hr62
          refine vv_if_eq 105 112 dX12_keeps_105 (by decide) (fun c64 => ?_) (fun c64 => ?_)
          · rw [if_pos c64] at h
            refine vv_iincc (lv' := [(8, _), (0, _), (1, _), (2, _), (3, _), (4, _), (5, _), (6, _), (7, _)]) 112 8 dX12_keeps_112 rfl ik_1 (by decide) rfl ?_
            refine vv_goto 115 59 dX12_keeps_115 (by decide) ?_
            refine vv_sub [(0, _), (1, _), (2, _), (3, _), (4, _), (5, _), (6, _), (7, _), (8, _)] (sh_subm [1, 2, 3, 4, 5, 6, 7, 8, 0] rfl) ?_
            exact ih_59 hG61 h
          · rw [if_neg c64] at h
            refine vv_iload 108 8 dX12_keeps_108 rfl ?_
            refine vv_istore (lv' := [(7, _), (0, _), (1, _), (2, _), (3, _), (4, _), (5, _), (6, _), (8, _)]) 110 7 dX12_keeps_110 (by decide) rfl ?_
            refine vv_iincc (lv' := [(8, _), (7, _), (0, _), (1, _), (2, _), (3, _), (4, _), (5, _), (6, _)]) 112 8 dX12_keeps_112 rfl ik_1 (by decide) rfl ?_
            refine vv_goto 115 59 dX12_keeps_115 (by decide) ?_
            refine vv_sub [(0, _), (1, _), (2, _), (3, _), (4, _), (5, _), (6, _), (7, _), (8, _)] (sh_subm [2, 3, 4, 5, 6, 7, 8, 1, 0] rfl) ?_
            exact ih_59 hG61 h
        · rw [if_neg c60] at h
          refine vv_goto 89 112 dX12_keeps_89 (by decide) ?_
          refine vv_iincc (lv' := [(8, _), (0, _), (1, _), (2, _), (3, _), (4, _), (5, _), (6, _), (7, _)]) 112 8 dX12_keeps_112 rfl ik_1 (by decide) rfl ?_
          refine vv_goto 115 59 dX12_keeps_115 (by decide) ?_
          refine vv_sub [(0, _), (1, _), (2, _), (3, _), (4, _), (5, _), (6, _), (7, _), (8, _)] (sh_subm [1, 2, 3, 4, 5, 6, 7, 8, 0] rfl) ?_
          exact ih_59 hG57 h
theorem gp_X12_keeps {a1 : Int32} {a2 : Int32} {a3 : Int32} {μ μ' : sh_Mem} {v : Int32} (hG : sh_G μ) (h : f_X12_keeps a1 a2 a3 μ = some (v, μ')) : sh_G μ' := by
  have ih_59 := (gpl_X12_keeps sh_fuel)
  unfold f_X12_keeps at h
  obtain ⟨y67, μ65, hr66, h⟩ := sh_bind_e h
  have hG65 := gp_X12_cellNumbered hG hr66
  obtain ⟨y70, μ68, hr69, h⟩ := sh_bind_e h
  have hG68 := gp_X12_cellNumbered hG65 hr69
  by_cases c71 : y67 = (-1)
  · rw [if_pos c71] at h
    obtain ⟨e1, e2⟩ := sh_some2 h
    exact e2 ▸ hG68
  · rw [if_neg c71] at h
    by_cases c72 : y70 = (-1)
    · rw [if_pos c72] at h
      obtain ⟨e1, e2⟩ := sh_some2 h
      exact e2 ▸ hG68
    · rw [if_neg c72] at h
      obtain ⟨y75, μ73, hr74, h⟩ := sh_bind_e h
      have hG73 := gp_X12_isAhead hG68 hr74
      by_cases c76 : y75 = 0
      · rw [if_pos c76] at h
        obtain ⟨e1, e2⟩ := sh_some2 h
        exact e2 ▸ hG73
      · rw [if_neg c76] at h
        obtain ⟨y79, μ77, hr78, h⟩ := sh_bind_e h
        have hG77 := gp_X12_wayCost hG73 hr78
        obtain ⟨μ80, hr81, h⟩ := sh_bindv_e h
        have hG80 := gp_X12_putsAside hG77 hr81
        exact ih_59 hG80 h
theorem t_X12_keeps {a1 : Int32} {a2 : Int32} {a3 : Int32} {μ μ' : sh_Mem} {v : Int32} (hG : sh_G μ) (h : f_X12_keeps a1 a2 a3 μ = some (v, μ')) : sh_C0 l B D ca 10 M_X12_keeps [.ref 291, .int a1, .int a2, .int a3] μ (fun v0 μ0 => v0 = some (.int v) ∧ μ0 = μ') := by
  have ih_59 := (tl_X12_keeps (l := l) (B := B) (D := D) (ca := ca) sh_fuel)
  unfold f_X12_keeps at h
  refine vv_aload_n 0 0 dX12_keeps_0 rfl rfl ?_
  refine vv_iload_n 1 1 dX12_keeps_1 rfl rfl ?_
  obtain ⟨y67, μ65, hr66, h⟩ := sh_bind_e h
  refine v1_callV [_] 2 dX12_keeps_2 ck_X12_566 (g_l_291 hG) ⟨by decide, rfl⟩ (t_X12_cellNumbered hG hr66) (Nat.le_of_ble_eq_true rfl) ⟨Nat.le_of_ble_eq_true rfl, Nat.le_of_ble_eq_true rfl⟩ rfl (Nat.le_of_ble_eq_true rfl) ?_
  have hG65 := gp_X12_cellNumbered hG hr66
  refine vv_istore (lv' := [(4, _), (0, _), (1, _), (2, _), (3, _)]) 5 4 dX12_keeps_5 (by decide) rfl ?_
  refine vv_aload_n 7 0 dX12_keeps_7 rfl rfl ?_
  refine vv_iload_n 8 2 dX12_keeps_8 rfl rfl ?_
  obtain ⟨y70, μ68, hr69, h⟩ := sh_bind_e h
  refine v1_callV [_] 9 dX12_keeps_9 ck_X12_566 (g_l_291 hG65) ⟨by decide, rfl⟩ (t_X12_cellNumbered hG65 hr69) (Nat.le_of_ble_eq_true rfl) ⟨Nat.le_of_ble_eq_true rfl, Nat.le_of_ble_eq_true rfl⟩ rfl (Nat.le_of_ble_eq_true rfl) ?_
  have hG68 := gp_X12_cellNumbered hG65 hr69
  refine vv_istore (lv' := [(5, _), (4, _), (0, _), (1, _), (2, _), (3, _)]) 12 5 dX12_keeps_12 (by decide) rfl ?_
  refine vv_iload 14 4 dX12_keeps_14 rfl ?_
  refine vv_iconst 16 dX12_keeps_16 ik_m1 ?_
  refine vv_icmp_eq 17 37 dX12_keeps_17 (by decide) (fun c71 => ?_) (fun c71 => ?_)
  · rw [if_pos c71] at h
    refine vv_iconst 37 dX12_keeps_37 ik_m1 ?_
    obtain ⟨e1, e2⟩ := sh_some2 h
    refine vv_iret 38 dX12_keeps_38 rfl (Nat.le_refl _) (Nat.le_refl _) ⟨by rw [e1], e2⟩
  · rw [if_neg c71] at h
    refine vv_iload 20 5 dX12_keeps_20 rfl ?_
    refine vv_iconst 22 dX12_keeps_22 ik_m1 ?_
    refine vv_icmp_eq 23 37 dX12_keeps_23 (by decide) (fun c72 => ?_) (fun c72 => ?_)
    · rw [if_pos c72] at h
      refine vv_iconst 37 dX12_keeps_37 ik_m1 ?_
      obtain ⟨e1, e2⟩ := sh_some2 h
      refine vv_iret 38 dX12_keeps_38 rfl (Nat.le_refl _) (Nat.le_refl _) ⟨by rw [e1], e2⟩
    · rw [if_neg c72] at h
      refine vv_aload_n 26 0 dX12_keeps_26 rfl rfl ?_
      refine vv_iload_n 27 3 dX12_keeps_27 rfl rfl ?_
      refine vv_iconst 28 dX12_keeps_28 ik_1 ?_
      refine vv_bipush 29 dX12_keeps_29 bk_20 ?_
      obtain ⟨y75, μ73, hr74, h⟩ := sh_bind_e h
      refine v1_callV [_, _, _] 31 dX12_keeps_31 ck_X12_527 (g_l_291 hG68) ⟨by decide, rfl⟩ (t_X12_isAhead hG68 hr74) (Nat.le_of_ble_eq_true rfl) ⟨Nat.le_of_ble_eq_true rfl, Nat.le_of_ble_eq_true rfl⟩ rfl (Nat.le_of_ble_eq_true rfl) ?_
      have hG73 := gp_X12_isAhead hG68 hr74
      refine vv_if_ne 34 39 dX12_keeps_34 (by decide) (fun c76 => ?_) (fun c76 => ?_)
      · rw [if_neg c76] at h
        refine vv_aload_n 39 0 dX12_keeps_39 rfl rfl ?_
        refine vv_iload 40 4 dX12_keeps_40 rfl ?_
        refine vv_iload 42 5 dX12_keeps_42 rfl ?_
        obtain ⟨y79, μ77, hr78, h⟩ := sh_bind_e h
        refine v1_callV [_, _] 44 dX12_keeps_44 ck_X12_580 (g_l_291 hG73) ⟨by decide, rfl⟩ (t_X12_wayCost hG73 hr78) (Nat.le_of_ble_eq_true rfl) ⟨Nat.le_of_ble_eq_true rfl, Nat.le_of_ble_eq_true rfl⟩ rfl (Nat.le_of_ble_eq_true rfl) ?_
        have hG77 := gp_X12_wayCost hG73 hr78
        refine vv_istore (lv' := [(6, _), (5, _), (4, _), (0, _), (1, _), (2, _), (3, _)]) 47 6 dX12_keeps_47 (by decide) rfl ?_
        refine vv_iconst 49 dX12_keeps_49 ik_m1 ?_
        refine vv_istore (lv' := [(7, _), (6, _), (5, _), (4, _), (0, _), (1, _), (2, _), (3, _)]) 50 7 dX12_keeps_50 (by decide) rfl ?_
        refine vv_aload_n 52 0 dX12_keeps_52 rfl rfl ?_
        obtain ⟨μ80, hr81, h⟩ := sh_bindv_e h
        refine v1_callV [] 53 dX12_keeps_53 ck_X12_507 (g_l_291 hG77) ⟨by decide, rfl⟩ (t_X12_putsAside hG77 hr81) (Nat.le_of_ble_eq_true rfl) ⟨Nat.le_of_ble_eq_true rfl, Nat.le_of_ble_eq_true rfl⟩ rfl (Nat.le_of_ble_eq_true rfl) ?_
        have hG80 := gp_X12_putsAside hG77 hr81
        refine vv_iconst 56 dX12_keeps_56 ik_0 ?_
        refine vv_istore (lv' := [(8, _), (7, _), (6, _), (5, _), (4, _), (0, _), (1, _), (2, _), (3, _)]) 57 8 dX12_keeps_57 (by decide) rfl ?_
        refine vv_sub [(0, _), (1, _), (2, _), (3, _), (4, _), (5, _), (6, _), (7, _), (8, _)] (sh_subm [5, 6, 7, 8, 4, 3, 2, 1, 0] rfl) ?_
        exact ih_59 hG80 h
      · rw [if_pos c76] at h
        refine vv_iconst 37 dX12_keeps_37 ik_m1 ?_
        obtain ⟨e1, e2⟩ := sh_some2 h
        refine vv_iret 38 dX12_keeps_38 rfl (Nat.le_refl _) (Nat.le_refl _) ⟨by rw [e1], e2⟩
noncomputable def F_X12_laysOwn : Nat → Nat → Int32 → Int32 → Int32 → sh_Mem → Option sh_Mem
  | 0, _, _, _, _, _ => none
  | fuel + 1, lbl, i1, i2, i3, μ => match lbl with
    | 1 => sh_bind (f_X12_personMany μ) (fun y58 μ56 => (if ((1 : Int32) <<< (y58 &&& 31)) ≤ i2 then sh_bindv (f_X12_takesBack μ56) (fun μ60 => some μ60) else sh_let (sh_setI μ56 291 60 i2) (fun μ63 => sh_bindv (f_X12_daysGo i1 μ63) (fun μ64 => F_X12_laysOwn fuel 2 i1 i2 0 μ64))))
    | 2 => sh_bind (f_X12_personMany μ) (fun y69 μ67 => (if y69 ≤ i3 then sh_bindv (f_X12_triesAnew μ67) (fun μ71 => F_X12_laysOwn fuel 1 i1 (i2 + 1) 0 μ71) else sh_bind (f_X12_cellOf i3 μ67) (fun y76 μ74 => sh_bind (f_X12_heightOf y76 μ74) (fun y79 μ77 => (if sh_in ((7 * i2) + i3) 896 then sh_let (sh_setI μ77 337 (((7 * i2) + i3)).toNatClampNeg y79) (fun μ81 => F_X12_laysOwn fuel 2 i1 i2 (i3 + 1) μ81) else none)))))
    | _ => none
noncomputable def f_X12_laysOwn (a1 : Int32) (μ : sh_Mem) : Option sh_Mem := sh_bindv (f_X12_putsAside μ) (fun μ82 => F_X12_laysOwn sh_fuel 1 a1 0 0 μ82)
theorem gpl_X12_laysOwn (fuel : Nat) : (∀ ⦃i1 : Int32⦄ ⦃i2 : Int32⦄ ⦃i3 : Int32⦄ ⦃μ μ' : sh_Mem⦄, sh_G μ → F_X12_laysOwn fuel 1 i1 i2 i3 μ = some μ' → sh_G μ') ∧ (∀ ⦃i1 : Int32⦄ ⦃i2 : Int32⦄ ⦃i3 : Int32⦄ ⦃μ μ' : sh_Mem⦄, sh_G μ → F_X12_laysOwn fuel 2 i1 i2 i3 μ = some μ' → sh_G μ') := by
  induction fuel with
  | zero => exact ⟨(by intro i1 i2 i3 μ μ' hG h; cases h), (by intro i1 i2 i3 μ μ' hG h; cases h)⟩
  | succ fuel ih =>
    obtain ⟨ih_6, ih_28⟩ := ih
    refine ⟨?_, ?_⟩
    · intro i1 i2 i3 μ μ' hG h
      replace h : (sh_bind (f_X12_personMany μ) (fun y58 μ56 => (if ((1 : Int32) <<< (y58 &&& 31)) ≤ i2 then sh_bindv (f_X12_takesBack μ56) (fun μ60 => some μ60) else sh_let (sh_setI μ56 291 60 i2) (fun μ63 => sh_bindv (f_X12_daysGo i1 μ63) (fun μ64 => F_X12_laysOwn fuel 2 i1 i2 0 μ64)))) : Option sh_Mem) = some μ' := h
      obtain ⟨y58, μ56, hr57, h⟩ := sh_bind_e h
      have hG56 := gp_X12_personMany hG hr57
      by_cases c59 : ((1 : Int32) <<< (y58 &&& 31)) ≤ i2
      · rw [if_pos c59] at h
        obtain ⟨μ60, hr61, h⟩ := sh_bindv_e h
        have hG60 := gp_X12_takesBack hG56 hr61
        have e2 := Option.some.inj h
        exact e2 ▸ hG60
      · rw [if_neg c59] at h
        obtain ⟨μ63, eμ63⟩ : ∃ y : sh_Mem, y = (sh_setI μ56 291 60 i2) := ⟨_, rfl⟩
        rw [sh_let_eq eμ63] at h
        have hG63 : sh_G μ63 := by rw [eμ63]; exact hG56
        obtain ⟨μ64, hr65, h⟩ := sh_bindv_e h
        have hG64 := gp_X12_daysGo hG63 hr65
        exact ih_28 hG64 h
    · intro i1 i2 i3 μ μ' hG h
      replace h : (sh_bind (f_X12_personMany μ) (fun y69 μ67 => (if y69 ≤ i3 then sh_bindv (f_X12_triesAnew μ67) (fun μ71 => F_X12_laysOwn fuel 1 i1 (i2 + 1) 0 μ71) else sh_bind (f_X12_cellOf i3 μ67) (fun y76 μ74 => sh_bind (f_X12_heightOf y76 μ74) (fun y79 μ77 => (if sh_in ((7 * i2) + i3) 896 then sh_let (sh_setI μ77 337 (((7 * i2) + i3)).toNatClampNeg y79) (fun μ81 => F_X12_laysOwn fuel 2 i1 i2 (i3 + 1) μ81) else none))))) : Option sh_Mem) = some μ' := h
      obtain ⟨y69, μ67, hr68, h⟩ := sh_bind_e h
      have hG67 := gp_X12_personMany hG hr68
      by_cases c70 : y69 ≤ i3
      · rw [if_pos c70] at h
        obtain ⟨μ71, hr72, h⟩ := sh_bindv_e h
        have hG71 := gp_X12_triesAnew hG67 hr72
        exact ih_6 hG71 h
      · rw [if_neg c70] at h
        obtain ⟨y76, μ74, hr75, h⟩ := sh_bind_e h
        have hG74 := gp_X12_cellOf hG67 hr75
        obtain ⟨y79, μ77, hr78, h⟩ := sh_bind_e h
        have hG77 := gp_X12_heightOf hG74 hr78
        obtain ⟨k80, h⟩ := sh_chk h
        obtain ⟨μ81, eμ81⟩ : ∃ y : sh_Mem, y = (sh_setI μ77 337 (((7 * i2) + i3)).toNatClampNeg y79) := ⟨_, rfl⟩
        rw [sh_let_eq eμ81] at h
        have hG81 : sh_G μ81 := by rw [eμ81]; exact hG77
        exact ih_28 hG81 h
theorem tl_X12_laysOwn (fuel : Nat) : (∀ ⦃i1 : Int32⦄ ⦃i2 : Int32⦄ ⦃i3 : Int32⦄ ⦃μ μ' : sh_Mem⦄, sh_G μ → F_X12_laysOwn fuel 1 i1 i2 i3 μ = some μ' → sh_V0 l B D ca 9 M_X12_laysOwn 6 [(0, .ref 291), (1, .int i1), (2, .int i2)] [] μ (fun v0 μ0 => v0 = none ∧ μ0 = μ')) ∧ (∀ ⦃i1 : Int32⦄ ⦃i2 : Int32⦄ ⦃i3 : Int32⦄ ⦃μ μ' : sh_Mem⦄, sh_G μ → F_X12_laysOwn fuel 2 i1 i2 i3 μ = some μ' → sh_V0 l B D ca 9 M_X12_laysOwn 28 [(0, .ref 291), (1, .int i1), (2, .int i2), (3, .int i3)] [] μ (fun v0 μ0 => v0 = none ∧ μ0 = μ')) := by
  induction fuel with
  | zero => exact ⟨(by intro i1 i2 i3 μ μ' hG h; cases h), (by intro i1 i2 i3 μ μ' hG h; cases h)⟩
  | succ fuel ih =>
    obtain ⟨ih_6, ih_28⟩ := ih
    refine ⟨?_, ?_⟩
    · intro i1 i2 i3 μ μ' hG h
      replace h : (sh_bind (f_X12_personMany μ) (fun y58 μ56 => (if ((1 : Int32) <<< (y58 &&& 31)) ≤ i2 then sh_bindv (f_X12_takesBack μ56) (fun μ60 => some μ60) else sh_let (sh_setI μ56 291 60 i2) (fun μ63 => sh_bindv (f_X12_daysGo i1 μ63) (fun μ64 => F_X12_laysOwn fuel 2 i1 i2 0 μ64)))) : Option sh_Mem) = some μ' := h
      refine vv_iload_n 6 2 dX12_laysOwn_6 rfl rfl ?_
      refine vv_iconst 7 dX12_laysOwn_7 ik_1 ?_
      refine vv_aload_n 8 0 dX12_laysOwn_8 rfl rfl ?_
      obtain ⟨y58, μ56, hr57, h⟩ := sh_bind_e h
      refine v1_callV [] 9 dX12_laysOwn_9 ck_X12_411 (g_l_291 hG) ⟨by decide, rfl⟩ (t_X12_personMany hG hr57) (Nat.le_of_ble_eq_true rfl) ⟨Nat.le_of_ble_eq_true rfl, Nat.le_of_ble_eq_true rfl⟩ rfl (Nat.le_of_ble_eq_true rfl) ?_
      have hG56 := gp_X12_personMany hG hr57
      refine vv_ishl 12 dX12_laysOwn_12 ?_
      refine vv_icmp_ge 13 72 dX12_laysOwn_13 (by decide) (fun c59 => ?_) (fun c59 => ?_)
      · rw [if_pos c59] at h
        refine vv_aload_n 72 0 dX12_laysOwn_72 rfl rfl ?_
        obtain ⟨μ60, hr61, h⟩ := sh_bindv_e h
        refine v1_callV [] 73 dX12_laysOwn_73 ck_X12_510 (g_l_291 hG56) ⟨by decide, rfl⟩ (t_X12_takesBack hG56 hr61) (Nat.le_of_ble_eq_true rfl) ⟨Nat.le_of_ble_eq_true rfl, Nat.le_of_ble_eq_true rfl⟩ rfl (Nat.le_of_ble_eq_true rfl) ?_
        have hG60 := gp_X12_takesBack hG56 hr61
        have e2 := Option.some.inj h
        refine vv_vret 76 dX12_laysOwn_76 rfl (Nat.le_refl _) (Nat.le_refl _) ⟨rfl, e2⟩
      · rw [if_neg c59] at h
        refine vv_aload_n 16 0 dX12_laysOwn_16 rfl rfl ?_
        refine vv_iload_n 17 2 dX12_laysOwn_17 rfl rfl ?_
        refine vn_putI 18 dX12_laysOwn_18 fl_12_476 (Or.inl rfl) rfl (g_l_291 hG56) (fun μ63 eμ63 => ?_)
        rw [sh_let_eq eμ63] at h
        have hG63 : sh_G μ63 := by rw [eμ63]; exact hG56
        refine vv_aload_n 21 0 dX12_laysOwn_21 rfl rfl ?_
        refine vv_iload_n 22 1 dX12_laysOwn_22 rfl rfl ?_
        obtain ⟨μ64, hr65, h⟩ := sh_bindv_e h
        refine v1_callV [_] 23 dX12_laysOwn_23 ck_X12_530 (g_l_291 hG63) ⟨by decide, rfl⟩ (t_X12_daysGo hG63 hr65) (Nat.le_of_ble_eq_true rfl) ⟨Nat.le_of_ble_eq_true rfl, Nat.le_of_ble_eq_true rfl⟩ rfl (Nat.le_of_ble_eq_true rfl) ?_
        have hG64 := gp_X12_daysGo hG63 hr65
        refine vv_iconst 26 dX12_laysOwn_26 ik_0 ?_
        refine vv_istore_n (lv' := [(3, _), (0, _), (1, _), (2, _)]) 27 3 dX12_laysOwn_27 rfl (by decide) rfl ?_
        refine vv_sub [(0, _), (1, _), (2, _), (3, _)] (sh_subm [1, 2, 3, 0] rfl) ?_
        exact ih_28 hG64 h
    · intro i1 i2 i3 μ μ' hG h
      replace h : (sh_bind (f_X12_personMany μ) (fun y69 μ67 => (if y69 ≤ i3 then sh_bindv (f_X12_triesAnew μ67) (fun μ71 => F_X12_laysOwn fuel 1 i1 (i2 + 1) 0 μ71) else sh_bind (f_X12_cellOf i3 μ67) (fun y76 μ74 => sh_bind (f_X12_heightOf y76 μ74) (fun y79 μ77 => (if sh_in ((7 * i2) + i3) 896 then sh_let (sh_setI μ77 337 (((7 * i2) + i3)).toNatClampNeg y79) (fun μ81 => F_X12_laysOwn fuel 2 i1 i2 (i3 + 1) μ81) else none))))) : Option sh_Mem) = some μ' := h
      refine vv_iload_n 28 3 dX12_laysOwn_28 rfl rfl ?_
      refine vv_aload_n 29 0 dX12_laysOwn_29 rfl rfl ?_
      obtain ⟨y69, μ67, hr68, h⟩ := sh_bind_e h
      refine v1_callV [] 30 dX12_laysOwn_30 ck_X12_411 (g_l_291 hG) ⟨by decide, rfl⟩ (t_X12_personMany hG hr68) (Nat.le_of_ble_eq_true rfl) ⟨Nat.le_of_ble_eq_true rfl, Nat.le_of_ble_eq_true rfl⟩ rfl (Nat.le_of_ble_eq_true rfl) ?_
      have hG67 := gp_X12_personMany hG hr68
      refine vv_icmp_ge 33 62 dX12_laysOwn_33 (by decide) (fun c70 => ?_) (fun c70 => ?_)
      · rw [if_pos c70] at h
        refine vv_aload_n 62 0 dX12_laysOwn_62 rfl rfl ?_
        obtain ⟨μ71, hr72, h⟩ := sh_bindv_e h
        refine v1_callV [] 63 dX12_laysOwn_63 ck_X12_504 (g_l_291 hG67) ⟨by decide, rfl⟩ (t_X12_triesAnew hG67 hr72) (Nat.le_of_ble_eq_true rfl) ⟨Nat.le_of_ble_eq_true rfl, Nat.le_of_ble_eq_true rfl⟩ rfl (Nat.le_of_ble_eq_true rfl) ?_
        have hG71 := gp_X12_triesAnew hG67 hr72
        refine vv_iincc (lv' := [(2, _), (0, _), (1, _), (3, _)]) 66 2 dX12_laysOwn_66 rfl ik_1 (by decide) rfl ?_
        refine vv_goto 69 6 dX12_laysOwn_69 (by decide) ?_
        refine vv_sub [(0, _), (1, _), (2, _)] (sh_subm [1, 2, 0] rfl) ?_
        exact ih_6 hG71 h
      · rw [if_neg c70] at h
        refine vv_aload_n 36 0 dX12_laysOwn_36 rfl rfl ?_
        refine vv_getR 37 dX12_laysOwn_37 fl_12_151 rfl (g_l_291 hG67) (g_r_291_70 hG67) ?_
        refine vv_bipush 40 dX12_laysOwn_40 bk_7 ?_
        refine vv_iload_n 42 2 dX12_laysOwn_42 rfl rfl ?_
        refine vv_imul 43 dX12_laysOwn_43 ?_
        refine vv_iload_n 44 3 dX12_laysOwn_44 rfl rfl ?_
        refine vv_iadd 45 dX12_laysOwn_45 ?_
        refine vv_aload_n 46 0 dX12_laysOwn_46 rfl rfl ?_
        refine vv_aload_n 47 0 dX12_laysOwn_47 rfl rfl ?_
        refine vv_iload_n 48 3 dX12_laysOwn_48 rfl rfl ?_
        obtain ⟨y76, μ74, hr75, h⟩ := sh_bind_e h
        refine v1_callV [_] 49 dX12_laysOwn_49 ck_X12_417 (g_l_291 hG67) ⟨by decide, rfl⟩ (t_X12_cellOf hG67 hr75) (Nat.le_of_ble_eq_true rfl) ⟨Nat.le_of_ble_eq_true rfl, Nat.le_of_ble_eq_true rfl⟩ rfl (Nat.le_of_ble_eq_true rfl) ?_
        have hG74 := gp_X12_cellOf hG67 hr75
        obtain ⟨y79, μ77, hr78, h⟩ := sh_bind_e h
        refine v1_callV [_] 52 dX12_laysOwn_52 ck_X12_453 (g_l_291 hG74) ⟨by decide, rfl⟩ (t_X12_heightOf hG74 hr78) (Nat.le_of_ble_eq_true rfl) ⟨Nat.le_of_ble_eq_true rfl, Nat.le_of_ble_eq_true rfl⟩ rfl (Nat.le_of_ble_eq_true rfl) ?_
        have hG77 := gp_X12_heightOf hG74 hr78
        obtain ⟨k80, h⟩ := sh_chk h
        refine vn_iast 55 dX12_laysOwn_55 (g_l_337 hG77) k80 (fun μ81 eμ81 => ?_)
        rw [sh_let_eq eμ81] at h
        have hG81 : sh_G μ81 := by rw [eμ81]; exact hG77
        refine vv_iincc (lv' := [(3, _), (0, _), (1, _), (2, _)]) 56 3 dX12_laysOwn_56 rfl ik_1 (by decide) rfl ?_
        refine vv_goto 59 28 dX12_laysOwn_59 (by decide) ?_
        refine vv_sub [(0, _), (1, _), (2, _), (3, _)] (sh_subm [1, 2, 3, 0] rfl) ?_
        exact ih_28 hG81 h
theorem gp_X12_laysOwn {a1 : Int32} {μ μ' : sh_Mem} (hG : sh_G μ) (h : f_X12_laysOwn a1 μ = some μ') : sh_G μ' := by
  have ih_6 := (gpl_X12_laysOwn sh_fuel).1
  have ih_28 := (gpl_X12_laysOwn sh_fuel).2
  unfold f_X12_laysOwn at h
  obtain ⟨μ82, hr83, h⟩ := sh_bindv_e h
  have hG82 := gp_X12_putsAside hG hr83
  exact ih_6 hG82 h
theorem t_X12_laysOwn {a1 : Int32} {μ μ' : sh_Mem} (hG : sh_G μ) (h : f_X12_laysOwn a1 μ = some μ') : sh_C0 l B D ca 9 M_X12_laysOwn [.ref 291, .int a1] μ (fun v0 μ0 => v0 = none ∧ μ0 = μ') := by
  have ih_6 := (tl_X12_laysOwn (l := l) (B := B) (D := D) (ca := ca) sh_fuel).1
  have ih_28 := (tl_X12_laysOwn (l := l) (B := B) (D := D) (ca := ca) sh_fuel).2
  unfold f_X12_laysOwn at h
  refine vv_aload_n 0 0 dX12_laysOwn_0 rfl rfl ?_
  obtain ⟨μ82, hr83, h⟩ := sh_bindv_e h
  refine v1_callV [] 1 dX12_laysOwn_1 ck_X12_507 (g_l_291 hG) ⟨by decide, rfl⟩ (t_X12_putsAside hG hr83) (Nat.le_of_ble_eq_true rfl) ⟨Nat.le_of_ble_eq_true rfl, Nat.le_of_ble_eq_true rfl⟩ rfl (Nat.le_of_ble_eq_true rfl) ?_
  have hG82 := gp_X12_putsAside hG hr83
  refine vv_iconst 4 dX12_laysOwn_4 ik_0 ?_
  refine vv_istore_n (lv' := [(2, _), (0, _), (1, _)]) 5 2 dX12_laysOwn_5 rfl (by decide) rfl ?_
  refine vv_sub [(0, _), (1, _), (2, _)] (sh_subm [1, 2, 0] rfl) ?_
  exact ih_6 hG82 h
end
